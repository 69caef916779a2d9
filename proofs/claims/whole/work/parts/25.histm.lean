theorem sA_stN {σ : SS} {k n : Nat} {x : Int32} (h : n < 2 ^ 31) : sA (stA σ k (nI n) x) k = upd (sA σ k) n x := by rw [sA_stA, if_pos rfl, ix_nI h]
theorem sA_stne {σ : SS} {k j : Nat} {i x : Int32} (h : j ≠ k) : sA (stA σ k i x) j = sA σ j := by rw [sA_stA, if_neg h]
theorem ldA_nI {σ : SS} {k n : Nat} (h : n < 2 ^ 31) : ldA σ k (nI n) = sA σ k n := by rw [ldA, ix_nI h]
theorem ldL_nI {σ : SS} {k n : Nat} (h : n < 2 ^ 31) : ldL σ k (nI n) = sL σ k n := by rw [ldL, ix_nI h]
theorem sL_stN {σ : SS} {k n : Nat} {x : Int64} (h : n < 2 ^ 31) : sL (stL σ k (nI n) x) k = vp_updL (sL σ k) n x := by rw [sL_stL, if_pos rfl, ix_nI h]
theorem sL_stne {σ : SS} {k j : Nat} {i : Int32} {x : Int64} (h : j ≠ k) : sL (stL σ k i x) j = sL σ j := by rw [sL_stL, if_neg h]
theorem sA_szN {σ : SS} {k n : Nat} {x : Int32} (h : n < 2 ^ 31) (hx : x = 0 ∨ x = 1) : sA (stZ σ k (nI n) x) k = upd (sA σ k) n x := by
  rw [sA_stZ, if_pos rfl, ix_nI h]
  rcases hx with rfl | rfl
  · rw [bn_0]
  · rw [bn_1]
theorem sA_szne {σ : SS} {k j : Nat} {i x : Int32} (h : j ≠ k) : sA (stZ σ k i x) j = sA σ j := by rw [sA_stZ, if_neg h]
theorem m_shift (σ0 : SS) : ∀ (m i : Nat) (σ : SS) (fu : Nat), i + m = 343 → m < fu → Fr [] [3] [] σ0 σ → (∀ j, sA σ 3 j = if j < i then sA σ0 3 (j + 49) else sA σ0 3 j) →
    ∃ σ', P_X11_keep_j11 fu (nI i) σ = P_X11_keep_j49 (uI σ' 2 (sI σ' 2 - 1)) ∧ Fr [] [3] [] σ0 σ' ∧ ∀ j, j < 343 → sA σ' 3 j = sA σ0 3 (j + 49) := by
  intro m
  induction m with
  | zero =>
    intro i σ fu h1 h2 hF hI
    obtain ⟨fu, rfl⟩ : ∃ k, fu = k + 1 := ⟨fu - 1, by omega⟩
    have e : i = 343 := by omega
    subst e
    refine ⟨σ, ?_, hF, fun j hj => by rw [hI j, if_pos hj]⟩
    unfold P_X11_keep_j11
    rw [if_pos (by decide)]
  | succ m ih =>
    intro i σ fu h1 h2 hF hI
    obtain ⟨fu, rfl⟩ : ∃ k, fu = k + 1 := ⟨fu - 1, by omega⟩
    have e8 : (343 : Int32) = nI 343 := rfl
    have e1 : nI i + 49 = nI (i + 49) := nI_add i 49
    unfold P_X11_keep_j11
    rw [e8, if_neg (nI_ge (by omega) (by decide))]
    simp only [e1, gI_nI (show i < 392 by omega) (by decide), gI_nI (show i + 49 < 392 by omega) (by decide), nI_1]
    refine ih (i + 1) _ fu (by omega) (by omega) (hF.tr (Fr.stA (by decide))) ?_
    intro j
    have hx : ix (nI i) = i := ix_nI (by omega)
    have hy : ix (nI (i + 49)) = i + 49 := ix_nI (by omega)
    simp only [sA_stA, ldA, hx, hy, upd_at, reduceIte]
    by_cases hj : j = i
    · subst hj
      rw [if_pos rfl, hI, if_neg (by omega), if_pos (by omega)]
    · rw [if_neg hj, hI]
      by_cases hz : j < i
      · rw [if_pos hz, if_pos (by omega)]
      · rw [if_neg hz, if_neg (by omega)]
theorem upd3_at (f : Nat → Int32) (q1 q2 q3 : Nat) (x y z : Int32) (h12 : q1 ≠ q2) (h13 : q1 ≠ q3) (h23 : q2 ≠ q3) : upd (upd (upd f q1 x) q2 y) q3 z q1 = x ∧ upd (upd (upd f q1 x) q2 y) q3 z q2 = y ∧ upd (upd (upd f q1 x) q2 y) q3 z q3 = z ∧ ∀ p, p ≠ q1 → p ≠ q2 → p ≠ q3 → upd (upd (upd f q1 x) q2 y) q3 z p = f p := by
  refine ⟨?_, ?_, ?_, fun p h1 h2 h3 => ?_⟩
  · rw [upd_at, if_neg h13, upd_at, if_neg h12, upd_at, if_pos rfl]
  · rw [upd_at, if_neg h23, upd_at, if_pos rfl]
  · rw [upd_at, if_pos rfl]
  · rw [upd_at, if_neg h3, upd_at, if_neg h2, upd_at, if_neg h1]
theorem m_block (σ0 : SS) (c : Nat) (hc : c < 8) : ∀ (m i : Nat) (σ : SS) (fu : Nat), i + m = 16 → m < fu → Fr [] [3] [] σ0 σ → (∀ k, k < i → sA σ 3 (49 * c + 1 + 3 * k) = sA σ0 0 k ∧ sA σ 3 (49 * c + 2 + 3 * k) = sA σ0 1 k ∧ sA σ 3 (49 * c + 3 + 3 * k) = sA σ0 2 k) → (∀ p, p ≤ 49 * c ∨ 49 * c + 49 ≤ p → sA σ 3 p = sA σ0 3 p) →
    ∃ σ', P_X11_keep_j69 fu (nI (49 * c)) (nI i) σ = some σ' ∧ Fr [1, 2] [3] [] σ0 σ' ∧ sI σ' 2 = sI σ0 2 + 1 ∧ sI σ' 1 = 0 ∧ (∀ k, k < 16 → sA σ' 3 (49 * c + 1 + 3 * k) = sA σ0 0 k ∧ sA σ' 3 (49 * c + 2 + 3 * k) = sA σ0 1 k ∧ sA σ' 3 (49 * c + 3 + 3 * k) = sA σ0 2 k) ∧ ∀ p, p ≤ 49 * c ∨ 49 * c + 49 ≤ p → sA σ' 3 p = sA σ0 3 p := by
  intro m
  induction m with
  | zero =>
    intro i σ fu h1 h2 hF hI hO
    obtain ⟨fu, rfl⟩ : ∃ k, fu = k + 1 := ⟨fu - 1, by omega⟩
    have e : i = 16 := by omega
    subst e
    refine ⟨uI (uI σ 2 ((sI σ 2) + 1)) 1 0, ?_, ?_, ?_, rfl, fun k hk => hI k hk, fun p hp => hO p hp⟩
    · unfold P_X11_keep_j69
      rw [if_pos (by decide)]
    · exact ((hF.mono (by simp) (by simp) (by simp)).tr (Fr.uI (by decide))).tr (Fr.uI (by decide))
    · rw [sI_uI, if_neg (by decide), sI_uI, if_pos rfl, hF.1 2 (by simp)]
  | succ m ih =>
    intro i σ fu h1 h2 hF hI hO
    obtain ⟨fu, rfl⟩ : ∃ k, fu = k + 1 := ⟨fu - 1, by omega⟩
    have e8 : (16 : Int32) = nI 16 := rfl
    have e3 : (3 : Int32) * nI i = nI (3 * i) := nI_mul 3 i
    have e1 : nI (49 * c + 1) + nI (3 * i) = nI (49 * c + 1 + 3 * i) := nI_add _ _
    have e2 : nI (49 * c) + 2 + nI (3 * i) = nI (49 * c + 2 + 3 * i) := by rw [show nI (49 * c) + 2 = nI (49 * c + 2) from nI_add _ 2, nI_add]
    have e4 : nI (49 * c) + 3 + nI (3 * i) = nI (49 * c + 3 + 3 * i) := by rw [show nI (49 * c) + 3 = nI (49 * c + 3) from nI_add _ 3, nI_add]
    unfold P_X11_keep_j69
    rw [e8, if_neg (nI_ge (by omega) (by decide))]
    simp only [e3, e1, e2, e4, gI_nI (show i < 16 by omega) (by decide), gI_nI (show 49 * c + 1 + 3 * i < 392 by omega) (by decide), gI_nI (show 49 * c + 2 + 3 * i < 392 by omega) (by decide), gI_nI (show 49 * c + 3 + 3 * i < 392 by omega) (by decide), nI_1]
    have hx : ix (nI i) = i := ix_nI (by omega)
    have hy1 : ix (nI (49 * c + 1 + 3 * i)) = 49 * c + 1 + 3 * i := ix_nI (by omega)
    have hy2 : ix (nI (49 * c + 2 + 3 * i)) = 49 * c + 2 + 3 * i := ix_nI (by omega)
    have hy3 : ix (nI (49 * c + 3 + 3 * i)) = 49 * c + 3 + 3 * i := ix_nI (by omega)
    have f0 : sA σ 0 = sA σ0 0 := hF.2.1 0 (by simp)
    have f1 : sA σ 1 = sA σ0 1 := hF.2.1 1 (by simp)
    have f2 : sA σ 2 = sA σ0 2 := hF.2.1 2 (by simp)
    obtain ⟨u1, u2, u3, u4⟩ := upd3_at (sA σ 3) (49 * c + 1 + 3 * i) (49 * c + 2 + 3 * i) (49 * c + 3 + 3 * i) (sA σ0 0 i) (sA σ0 1 i) (sA σ0 2 i) (by omega) (by omega) (by omega)
    have hA : sA (stA (stA (stA σ 3 (nI (49 * c + 1 + 3 * i)) (ldA σ 0 (nI i))) 3 (nI (49 * c + 2 + 3 * i)) (ldA (stA σ 3 (nI (49 * c + 1 + 3 * i)) (ldA σ 0 (nI i))) 1 (nI i))) 3 (nI (49 * c + 3 + 3 * i)) (ldA (stA (stA σ 3 (nI (49 * c + 1 + 3 * i)) (ldA σ 0 (nI i))) 3 (nI (49 * c + 2 + 3 * i)) (ldA (stA σ 3 (nI (49 * c + 1 + 3 * i)) (ldA σ 0 (nI i))) 1 (nI i))) 2 (nI i))) 3 = upd (upd (upd (sA σ 3) (49 * c + 1 + 3 * i) (sA σ0 0 i)) (49 * c + 2 + 3 * i) (sA σ0 1 i)) (49 * c + 3 + 3 * i) (sA σ0 2 i) := by
      rw [sA_stN (show 49 * c + 3 + 3 * i < 2 ^ 31 by omega), sA_stN (show 49 * c + 2 + 3 * i < 2 ^ 31 by omega), sA_stN (show 49 * c + 1 + 3 * i < 2 ^ 31 by omega), ldA_nI (show i < 2 ^ 31 by omega), ldA_nI (show i < 2 ^ 31 by omega), ldA_nI (show i < 2 ^ 31 by omega), sA_stne (show (1 : Nat) ≠ 3 by decide), sA_stne (show (2 : Nat) ≠ 3 by decide), sA_stne (show (2 : Nat) ≠ 3 by decide), f0, f1, f2]
    refine ih (i + 1) _ fu (by omega) (by omega) ?_ ?_ ?_
    · exact ((hF.tr (Fr.stA (by decide))).tr (Fr.stA (by decide))).tr (Fr.stA (by decide))
    · intro k hk
      rw [hA]
      by_cases hk2 : k = i
      · subst hk2
        exact ⟨u1, u2, u3⟩
      · obtain ⟨g1, g2, g3⟩ := hI k (by omega)
        rw [u4 _ (by omega) (by omega) (by omega), u4 _ (by omega) (by omega) (by omega), u4 _ (by omega) (by omega) (by omega)]
        exact ⟨g1, g2, g3⟩
    · intro p hp
      rw [hA, u4 _ (by omega) (by omega) (by omega), hO p hp]
theorem m_keep {σ : SS} {g : List N3} {hs : List (List N3)} (h : hM hs σ) (hg : gM' g σ) (hgl : g.length ≤ 16) : ∃ σ', P_X11_keep σ = some σ' ∧ hM (g :: hs.take 7) σ' ∧ sI σ' 1 = 0 ∧ Fr [1, 2] [3] [] σ σ' := by
  have step : ∀ (es : List (List N3)) (σ : SS), hM es σ → gM' g σ → es.length < 8 → ∃ σ', P_X11_keep_j49 σ = some σ' ∧ hM (g :: es) σ' ∧ sI σ' 1 = 0 ∧ Fr [1, 2] [3] [] σ σ' := by
    intro es σ h hg hl
    obtain ⟨e2, -, hE⟩ := h
    obtain ⟨e0, hGA⟩ := hg
    have e49 : (49 : Int32) * nI es.length = nI (49 * es.length) := nI_mul 49 _
    have hx : ix (nI (49 * es.length)) = 49 * es.length := ix_nI (by omega)
    unfold P_X11_keep_j49
    rw [e2, e49, gI_nI (by omega) (by decide), e0]
    obtain ⟨σ', a1, a2, a3, a4, a5, a6⟩ := m_block (stA σ 3 (nI (49 * es.length)) (nI g.length)) es.length hl 16 0 _ FU (by decide) (by decide) Fr.rf (fun k hk => absurd hk (by omega)) (fun _ _ => rfl)
    refine ⟨σ', a1, ?_, a4, (Fr.stA (by decide)).tr a2⟩
    refine ⟨by rw [a3, sI_stA, e2, nI_1]; rfl, by simp; omega, fun j s hj => ?_⟩
    simp only [List.length_cons]
    cases j with
    | zero =>
      simp only [List.getElem?_cons_zero, Option.some.injEq] at hj
      subst hj
      have q : es.length + 1 - 1 - 0 = es.length := by omega
      rw [q]
      refine ⟨hgl, ?_, fun k t hk => ?_⟩
      · rw [a6 _ (Or.inl (Nat.le_refl _)), sA_stA, if_pos rfl, hx, upd_at, if_pos rfl]
      · have hlt := (List.getElem?_eq_some_iff.mp hk).1
        obtain ⟨b1, b2, b3⟩ := a5 k (by omega)
        rw [b1, b2, b3]
        exact hGA k t hk
    | succ j =>
      rw [List.getElem?_cons_succ] at hj
      have hlt := (List.getElem?_eq_some_iff.mp hj).1
      have q : es.length + 1 - 1 - (j + 1) = es.length - 1 - j := by omega
      rw [q]
      obtain ⟨c0, c1, c2⟩ := hE j s hj
      have key : ∀ p, p < 49 * es.length → sA σ' 3 p = sA σ 3 p := by
        intro p hp
        rw [a6 p (Or.inl (by omega)), sA_stA, if_pos rfl, hx, upd_at, if_neg (by omega)]
      refine ⟨c0, by rw [key _ (by omega)]; exact c1, fun k t hk => ?_⟩
      have hk16 : k < 16 := Nat.lt_of_lt_of_le (List.getElem?_eq_some_iff.mp hk).1 c0
      rw [key _ (by omega), key _ (by omega), key _ (by omega)]
      exact c2 k t hk
  unfold P_X11_keep
  obtain ⟨e2, hl, hE⟩ := h
  have e8 : (8 : Int32) = nI 8 := rfl
  by_cases h8 : hs.length < 8
  · rw [e2, e8, if_pos (by rw [nI_eq (by omega) (by decide)]; omega), List.take_of_length_le (by omega)]
    exact step hs σ ⟨e2, hl, hE⟩ hg h8
  · have hl8 : hs.length = 8 := by omega
    rw [e2, e8, hl8, if_neg (by simp)]
    obtain ⟨σ1, e1, f1, k1⟩ := m_shift σ 343 0 σ FU (by decide) (by decide) Fr.rf (fun j => by rw [if_neg (by omega)])
    rw [show (0 : Int32) = nI 0 from rfl, e1]
    have hl7 : (hs.take 7).length = 7 := by simp; omega
    have e7 : sI σ1 2 - 1 = nI 7 := by
      rw [f1.1 2 (by simp), e2, hl8]
      rfl
    have hd : hM (hs.take 7) (uI σ1 2 (sI σ1 2 - 1)) := by
      refine ⟨by rw [hl7, sI_uI, if_pos rfl, e7], by omega, fun j s hj => ?_⟩
      have hlt := (List.getElem?_eq_some_iff.mp hj).1
      rw [hl7] at hlt ⊢
      rw [List.getElem?_take_of_lt hlt] at hj
      obtain ⟨c0, c1, c2⟩ := hE j s hj
      rw [hl8] at c1 c2
      have q : 49 * (8 - 1 - j) = 49 * (7 - 1 - j) + 49 := by omega
      simp only [sA_uI]
      refine ⟨c0, ?_, fun k t hk => ?_⟩
      · rw [k1 _ (by omega), ← q]
        exact c1
      · have hk16 : k < 16 := Nat.lt_of_lt_of_le (List.getElem?_eq_some_iff.mp hk).1 c0
        have := c2 k t hk
        rw [k1 _ (by omega), k1 _ (by omega), k1 _ (by omega)]
        have q1 : 49 * (7 - 1 - j) + 1 + 3 * k + 49 = 49 * (8 - 1 - j) + 1 + 3 * k := by omega
        have q2 : 49 * (7 - 1 - j) + 2 + 3 * k + 49 = 49 * (8 - 1 - j) + 2 + 3 * k := by omega
        have q3 : 49 * (7 - 1 - j) + 3 + 3 * k + 49 = 49 * (8 - 1 - j) + 3 + 3 * k := by omega
        rw [q1, q2, q3]
        exact this
    have hg1 : gM' g (uI σ1 2 (sI σ1 2 - 1)) := by
      refine ⟨?_, ?_⟩
      · rw [sI_uI, if_neg (by decide), f1.1 0 (by simp)]
        exact hg.1
      · simp only [sA_uI]
        rw [f1.2.1 0 (by simp), f1.2.1 1 (by simp), f1.2.1 2 (by simp)]
        exact hg.2
    obtain ⟨σ2, a1, a2, a3, a4⟩ := step (hs.take 7) _ hd hg1 (by omega)
    exact ⟨σ2, a1, a2, a3, ((f1.mono (by simp) (by simp) (by simp)).tr (Fr.uI (by decide))).tr a4⟩
theorem m_lay {σ : SS} {i : Nat} {a b c : Int32} (hi : i < 16) : P_X11_lay (nI i) a b c σ = some (stA (stA (stA σ 0 (nI i) a) 1 (nI i) b) 2 (nI i) c) := by
  unfold P_X11_lay
  simp only [gI_nI hi (show (16 : Nat) < 2 ^ 31 by decide)]
theorem m_undo_loop (σ0 : SS) (c : Nat) (hc : c < 8) : ∀ (m i : Nat) (σ : SS) (fu : Nat), i + m = 16 → m < fu → Fr [] [0, 1, 2] [] σ0 σ → (∀ k, k < i → sA σ 0 k = sA σ0 3 (49 * c + 1 + 3 * k) ∧ sA σ 1 k = sA σ0 3 (49 * c + 2 + 3 * k) ∧ sA σ 2 k = sA σ0 3 (49 * c + 3 + 3 * k)) →
    ∃ σ', P_X11_undo_j41 fu (nI (49 * c)) (nI i) σ = some ((sI σ0 2).toInt64, σ') ∧ Fr [1] [0, 1, 2] [] σ0 σ' ∧ sI σ' 1 = 0 ∧ ∀ k, k < 16 → sA σ' 0 k = sA σ0 3 (49 * c + 1 + 3 * k) ∧ sA σ' 1 k = sA σ0 3 (49 * c + 2 + 3 * k) ∧ sA σ' 2 k = sA σ0 3 (49 * c + 3 + 3 * k) := by
  intro m
  induction m with
  | zero =>
    intro i σ fu h1 h2 hF hI
    obtain ⟨fu, rfl⟩ : ∃ k, fu = k + 1 := ⟨fu - 1, by omega⟩
    have e : i = 16 := by omega
    subst e
    refine ⟨uI σ 1 0, ?_, ?_, rfl, fun k hk => hI k hk⟩
    · unfold P_X11_undo_j41
      rw [if_pos (by decide), sI_uI, if_neg (by decide), hF.1 2 (by simp)]
    · exact (hF.mono (by simp) (by simp) (by simp)).tr (Fr.uI (by decide))
  | succ m ih =>
    intro i σ fu h1 h2 hF hI
    obtain ⟨fu, rfl⟩ : ∃ k, fu = k + 1 := ⟨fu - 1, by omega⟩
    have e8 : (16 : Int32) = nI 16 := rfl
    have e3 : (3 : Int32) * nI i = nI (3 * i) := nI_mul 3 i
    have e1 : nI (49 * c + 1) + nI (3 * i) = nI (49 * c + 1 + 3 * i) := nI_add _ _
    have e2 : nI (49 * c) + 2 + nI (3 * i) = nI (49 * c + 2 + 3 * i) := by rw [show nI (49 * c) + 2 = nI (49 * c + 2) from nI_add _ 2, nI_add]
    have e4 : nI (49 * c) + 3 + nI (3 * i) = nI (49 * c + 3 + 3 * i) := by rw [show nI (49 * c) + 3 = nI (49 * c + 3) from nI_add _ 3, nI_add]
    have hx : ix (nI i) = i := ix_nI (by omega)
    have hy1 : ix (nI (49 * c + 1 + 3 * i)) = 49 * c + 1 + 3 * i := ix_nI (by omega)
    have hy2 : ix (nI (49 * c + 2 + 3 * i)) = 49 * c + 2 + 3 * i := ix_nI (by omega)
    have hy3 : ix (nI (49 * c + 3 + 3 * i)) = 49 * c + 3 + 3 * i := ix_nI (by omega)
    unfold P_X11_undo_j41
    rw [e8, if_neg (nI_ge (by omega) (by decide))]
    simp only [e3, e1, e2, e4, gI_nI (show 49 * c + 1 + 3 * i < 392 by omega) (by decide), gI_nI (show 49 * c + 2 + 3 * i < 392 by omega) (by decide), gI_nI (show 49 * c + 3 + 3 * i < 392 by omega) (by decide), nI_1, m_lay (show i < 16 by omega), Option.bind_some]
    have f3 : sA σ 3 = sA σ0 3 := hF.2.1 3 (by simp)
    refine ih (i + 1) _ fu (by omega) (by omega) ?_ ?_
    · exact ((hF.tr (Fr.stA (by decide))).tr (Fr.stA (by decide))).tr (Fr.stA (by decide))
    · intro k hk
      simp only [sA_stA, ldA, hx, hy1, hy2, hy3, upd_at, reduceIte, Nat.reduceEqDiff, f3]
      by_cases hk2 : k = i
      · subst hk2
        simp only [reduceIte]
        exact ⟨trivial, trivial, trivial⟩
      · simp only [hk2, reduceIte]
        exact hI k (by omega)
