theorem x_at9 {σ : SS} {n i : Nat} (h : sI σ 20 = nI n) (hn : n ≤ 300) (hi : i < n) : P_X0_at_9 (nI i) σ = some (sA σ 20 i) := by
  unfold P_X0_at_9
  rw [h, if_neg (nI_ge hi (by omega)), vX6_at_36 (by omega), Option.bind_some]
theorem x_copy89 (σ0 : SS) (n : Nat) (hn : n ≤ 300) (h20 : sI σ0 20 = nI n) (hB : ∀ i, i < n → isB (sA σ0 20 i)) : ∀ (m i : Nat) (σ : SS) (fu : Nat), i + m = n → m < fu → Fr [19] [19] [] σ0 σ → sI σ 19 = nI i → (∀ j, j < i → sA σ 19 j = sA σ0 20 j) →
    ∃ σ', P_X0_copy_8_9_j7 fu (nI i) σ = some σ' ∧ Fr [19] [19] [] σ0 σ' ∧ sI σ' 19 = nI n ∧ ∀ j, j < n → sA σ' 19 j = sA σ0 20 j := by
  intro m
  induction m with
  | zero =>
    intro i σ fu h1 h2 hF h3 hI
    obtain ⟨fu, rfl⟩ : ∃ k, fu = k + 1 := ⟨fu - 1, by omega⟩
    have e : i = n := by omega
    subst e
    refine ⟨σ, ?_, hF, h3, hI⟩
    unfold P_X0_copy_8_9_j7
    rw [hF.1 20 (by decide), h20, if_pos (nI_le (Nat.le_refl _) (by omega))]
  | succ m ih =>
    intro i σ fu h1 h2 hF h3 hI
    obtain ⟨fu, rfl⟩ : ∃ k, fu = k + 1 := ⟨fu - 1, by omega⟩
    have e20 : sI σ 20 = nI n := (hF.1 20 (by decide)).trans h20
    have eA : sA σ 20 = sA σ0 20 := hF.2.1 20 (by decide)
    unfold P_X0_copy_8_9_j7
    rw [e20, if_neg (nI_ge (by omega) (by omega)), x_at9 e20 hn (by omega), Option.bind_some, x_add8 h3 (by omega), eA, (hB i (by omega)).and]
    simp only [b2, nI_1]
    refine ih (i + 1) _ fu (by omega) (by omega) ?_ rfl ?_
    · exact (hF.tr (Fr.stA (by decide))).tr (Fr.uI (by decide))
    · intro j hj
      rw [push8 (by omega), upd_at]
      by_cases e : j = i
      · rw [if_pos e, e]
      · rw [if_neg e]
        exact hI j (by omega)
theorem m_again (σ0 : SS) (n : Nat) (hn : n ≤ 300) (h4 : sI σ0 4 = nI n) : ∀ (m i : Nat) (σ : SS) (fu : Nat), i + m = n → m < fu → Fr [3] [4] [] σ0 σ → sI σ 3 = nI n → (∀ j, j < i → sA σ 4 j = sA σ0 5 j) →
    ∃ σ', P_X11_again_j10 fu (nI i) σ = some ((nI n).toInt64, σ') ∧ Fr [3] [4] [] σ0 σ' ∧ sI σ' 3 = nI n ∧ ∀ j, j < n → sA σ' 4 j = sA σ0 5 j := by
  intro m
  induction m with
  | zero =>
    intro i σ fu h1 h2 hF h3 hI
    obtain ⟨fu, rfl⟩ : ∃ k, fu = k + 1 := ⟨fu - 1, by omega⟩
    have e : i = n := by omega
    subst e
    refine ⟨σ, ?_, hF, h3, hI⟩
    unfold P_X11_again_j10
    rw [hF.1 4 (by decide), h4, if_pos (nI_le (Nat.le_refl _) (by omega)), h3]
  | succ m ih =>
    intro i σ fu h1 h2 hF h3 hI
    obtain ⟨fu, rfl⟩ : ∃ k, fu = k + 1 := ⟨fu - 1, by omega⟩
    unfold P_X11_again_j10
    rw [hF.1 4 (by decide), h4, if_neg (nI_ge (by omega) (by omega)), gI_nI (by omega) (by decide), gI_nI (by omega) (by decide), ldA_nI (by omega), hF.2.1 5 (by decide), nI_1]
    refine ih (i + 1) _ fu (by omega) (by omega) (hF.tr (Fr.stA (by decide))) h3 ?_
    intro j hj
    rw [sA_stN (by omega), upd_at]
    by_cases e : j = i
    · rw [if_pos e, e]
    · rw [if_neg e]
      exact hI j (by omega)
theorem tp_again {n : Nat} {σx σm : SS} (h : Sb 20 20 4 5 n σx σm) : ∃ (r : Int64) (σx' σm' : SS), P_X10_again σx = some (r, σx') ∧ P_X11_again σm = some (r, σm') ∧ (∃ n', Sb 19 19 3 4 n' σx' σm') ∧ Fr [19] [19] [] σx σx' ∧ Fr [3] [4] [] σm σm' := by
  obtain ⟨hn, e1, e2, hB⟩ := h
  obtain ⟨σ1, a1, a2, a3, a4⟩ := x_copy89 σx n hn e1 (fun i hi => (hB i hi).2) n 0 (uI σx 19 0) FU (by omega) (by unfold FU; omega) (Fr.uI (by decide)) rfl (fun j hj => absurd hj (by omega))
  obtain ⟨σ2, b1, b2, b3, b4⟩ := m_again σm n hn e2 n 0 (uI σm 3 (nI n)) FU (by omega) (by unfold FU; omega) (Fr.uI (by decide)) rfl (fun j hj => absurd hj (by omega))
  refine ⟨(nI n).toInt64, σ1, σ2, ?_, ?_, ⟨n, hn, a3, b3, fun i hi => ?_⟩, a2, b2⟩
  · unfold P_X10_again P_X0_copy_8_9 P_X0_length_8
    rw [show P_X0_copy_8_9_j7 FU 0 (uI σx 19 0) = some σ1 from a1, Option.bind_some, Option.bind_some, a3]
  · unfold P_X11_again
    rw [e2, show (0 : Int32) = nI 0 from rfl, b1]
  · rw [a4 i hi, b4 i hi]
    exact hB i hi
theorem ou_out {n : Nat} {σx σm : SS} (h : Sb 20 20 4 5 n σx σm) (a : Int32) : ∃ r : Int64, P_X10_out a σx = some r ∧ P_X11_out a σm = some r := by
  obtain ⟨hn, e1, e2, hB⟩ := h
  have e3 : (nI n - 1).toInt = (n : Int) - 1 := by
    cases n with
    | zero => decide
    | succ n =>
      rw [nI_pred, nI_toInt (by omega)]
      omega
  have hi := isIn_t a 0 (nI n - 1).toInt64
  rw [Int32.toInt_toInt64, e3, w0] at hi
  unfold P_X10_out P_X11_out P_X0_length_9
  rw [Option.bind_some, e1, e2]
  rcases hi.cases with ⟨e, q1, q2⟩ | ⟨e, q⟩
  · obtain ⟨j, hj, f1, rfl⟩ := of_nI q1
    rw [e, Option.bind_some, if_neg (nI_pos hj), if_neg (show ¬ (1 : Int32) = 0 by decide), if_neg (nI_ge (by omega) (by omega)), x_at9 e1 hn (by omega), Option.bind_some, gI_nI (by omega) (by decide), ldA_nI (by omega), (hB j (by omega)).1]
    exact ⟨_, rfl, rfl⟩
  · rw [e, Option.bind_some, if_pos (show (0 : Int32) = 0 from rfl)]
    by_cases h0 : a < 0
    · rw [if_pos h0]
      exact ⟨_, rfl, rfl⟩
    · rw [if_neg h0, if_pos (by
        rw [I32le, nI_toInt (by omega)]
        rw [I32lt, t0] at h0
        omega)]
      exact ⟨_, rfl, rfl⟩
/-- what read() found -/
def Fnd (σx σm : SS) : Prop := (sI σx 1 = 0 ∨ sI σx 1 = 1) ∧ sI σm 11 = sI σx 1 ∧ (sI σx 1 = 1 → sI σm 12 = sI σx 2 ∧ sI σm 14 = sI σx 4 ∧ (((sI σx 2 = 0 ∨ sI σx 2 = 3) ∧ sI σm 13 = sI σx 3 ∧ 0 ≤ sI σx 3) ∨ (¬ sI σx 2 = 0 ∧ ¬ sI σx 2 = 3 ∧ sI σm 13 = -1)))
theorem Fnd.frame {σx σm σx' σm' : SS} (h : Fnd σx σm) (h1 : ∀ k, 1 ≤ k → k ≤ 4 → sI σx' k = sI σx k) (h2 : ∀ k, 11 ≤ k → k ≤ 14 → sI σm' k = sI σm k) : Fnd σx' σm' := by
  unfold Fnd
  rw [h1 1 (by decide) (by decide), h1 2 (by decide) (by decide), h1 3 (by decide) (by decide), h1 4 (by decide) (by decide), h2 11 (by decide) (by decide), h2 12 (by decide) (by decide), h2 13 (by decide) (by decide), h2 14 (by decide) (by decide)]
  exact h
theorem fd_found {σx σm : SS} (h : Fnd σx σm) (a : Int32) : ∃ r : Int64, P_X10_found a σx = some r ∧ P_X11_found a σm = some r := by
  obtain ⟨h1, h2, h3⟩ := h
  have hi := isIn_t a 0 2
  rw [w0, w2] at hi
  unfold P_X10_found P_X11_found
  rw [h2]
  rcases hi.cases with ⟨e, q1, q2⟩ | ⟨e, q⟩
  · rw [e, Option.bind_some, if_neg (show ¬ a < 0 by rw [I32lt, t0]; omega), if_pos (show a ≤ 2 by rw [I32le, t2]; omega), if_pos (show ¬ (1 : Int32) = 0 by decide)]
    rcases h1 with z | z
    · rw [z, if_neg (show ¬ ¬ (0 : Int32) = 0 by decide), if_neg (show ¬ ¬ (0 : Int32) = 0 by decide)]
      exact ⟨_, rfl, rfl⟩
    · obtain ⟨k1, k2, k3⟩ := h3 z
      rw [z, if_pos (show ¬ (1 : Int32) = 0 by decide), if_pos (show ¬ (1 : Int32) = 0 by decide), k1, k2]
      by_cases a0 : a = 0
      · rw [if_neg (fun y => y a0), if_neg (fun y => y a0)]
        exact ⟨_, rfl, rfl⟩
      · rw [if_pos a0, if_pos a0]
        by_cases a2 : a = 2
        · rw [if_neg (fun y => y a2), if_neg (fun y => y a2)]
          exact ⟨_, rfl, rfl⟩
        · rw [if_pos a2, if_pos a2]
          rcases k3 with ⟨g1, g2, g3⟩ | ⟨g1, g2, g3⟩
          · rw [g2, if_pos g3]
            rcases g1 with y | y
            · rw [if_pos y]
              exact ⟨_, rfl, rfl⟩
            · rw [y, if_neg (by decide), if_neg (by decide)]
              exact ⟨_, rfl, rfl⟩
          · rw [g3, if_neg g1, if_pos g2, if_neg (by decide)]
            exact ⟨_, rfl, rfl⟩
  · rw [e, Option.bind_some, if_neg (show ¬ ¬ (0 : Int32) = 0 by decide)]
    by_cases h0 : a < 0
    · rw [if_pos h0]
      exact ⟨_, rfl, rfl⟩
    · rw [if_neg h0, if_neg (by
        rw [I32le, t2]
        rw [I32lt, t0] at h0
        omega)]
      exact ⟨_, rfl, rfl⟩
theorem gh_about {g : List N3} {hs : List (List N3)} {σx σm : SS} (h : GH g hs σx σm) (a b : Int32) : ∃ r : Int64, P_X10_about a b σx = some r ∧ P_X11_about a b σm = some r := by
  obtain ⟨hgd, hgx, hgm, -, -⟩ := h
  have hl := hgd.1
  unfold P_X10_about P_X11_about
  rcases (x_has hgx hl a).cases with ⟨e1, hn⟩ | ⟨e1, hn⟩
  · rw [e1, (m_isShape hgm hl a).1 hn, Option.bind_some, Option.bind_some, if_pos (show ¬ (1 : Int32) = 0 by decide), if_neg (show ¬ (1 : Int32) = 0 by decide)]
    obtain ⟨i, hi, f1, rfl⟩ := of_nI hn.1
    have hi16 : i < 16 := by omega
    obtain ⟨u, hu⟩ : ∃ u, g[i]? = some u := ⟨g[i], List.getElem?_eq_getElem (by omega)⟩
    obtain ⟨u0, u1, u2⟩ := hgx.2 i u hu
    obtain ⟨v0, v1, v2⟩ := hgm.2 i u hu
    have hi2 := isIn_t b 0 2
    rw [w0, w2] at hi2
    rw [x_kind hi16, x_a hi16, x_b hi16, Option.bind_some, Option.bind_some, Option.bind_some, gI_nI hi16 (by decide), gI_nI hi16 (by decide), gI_nI hi16 (by decide), ldA_nI hi, ldA_nI hi, ldA_nI hi, u0, u1, u2, v0, v1, v2]
    by_cases b0 : b = 0
    · subst b0
      exact ⟨_, rfl, rfl⟩
    · by_cases b1 : b = 1
      · subst b1
        exact ⟨_, rfl, rfl⟩
      · by_cases b2 : b = 2
        · subst b2
          exact ⟨_, rfl, rfl⟩
        · rw [if_neg b0, if_neg b1, if_neg b2]
          rw [hi2.2 (by
            rw [I32eq, t0] at b0
            rw [I32eq, t1] at b1
            rw [I32eq, t2] at b2
            omega), Option.bind_some]
          exact ⟨_, rfl, rfl⟩
  · rw [e1, (m_isShape hgm hl a).2 hn, Option.bind_some, Option.bind_some]
    exact ⟨_, rfl, rfl⟩
