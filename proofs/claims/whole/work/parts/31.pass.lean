def setB (E : Nat → Bool) (i : Nat) : Nat → Bool := fun j => decide (j = i) || E j
theorem setB_id {E : Nat → Bool} {i : Nat} (h : E i = true) : setB E i = E := by
  funext j
  unfold setB
  by_cases e : j = i
  · subst e; simp [h]
  · simp [e]
def stE (g : List N3) (E : Nat → Bool) (i : Nat) : Nat → Bool := if cbE g E i = true then setB E i else E
def psF (g : List N3) : Nat → Nat → (Nat → Bool) → (Nat → Bool)
  | 0, _, E => E
  | m + 1, i, E => psF g m (i + 1) (stE g E i)
def pass (g : List N3) (E : Nat → Bool) : Nat → Bool := psF g g.length 0 E
theorem stE_le {g : List N3} {E : Nat → Bool} {i j : Nat} (h : E j = true) : stE g E i j = true := by
  unfold stE
  split
  · unfold setB; rw [h, Bool.or_true]
  · exact h
theorem psF_le (g : List N3) : ∀ (m i : Nat) (E : Nat → Bool) (j : Nat), E j = true → psF g m i E j = true
  | 0, _, _, _, h => h
  | m + 1, i, E, j, h => psF_le g m (i + 1) _ j (stE_le h)
theorem psF_out (g : List N3) : ∀ (m i : Nat) (E : Nat → Bool) (j : Nat), i + m ≤ j → psF g m i E j = E j
  | 0, _, _, _, _ => rfl
  | m + 1, i, E, j, h => by
    rw [psF, psF_out g m (i + 1) _ j (by omega)]
    unfold stE
    split
    · unfold setB; simp [show ¬ j = i by omega]
    · rfl
theorem EX.set {E : Nat → Bool} {σ : SS} {i : Nat} (h : EX E σ) (hi : i < 16) : EX (setB E i) (uI σ 7 ((sI σ 7) ||| ((1 : Int32) <<< (nI i &&& 31)))) := by
  refine ⟨fun k hk => ?_, fun k hk => ?_⟩
  · rw [sI_uI, if_pos rfl, bt_set _ (by omega) (by omega), h.1 k hk]
    rfl
  · unfold setB
    rw [h.2 k hk]
    simp [show ¬ k = i by omega]
theorem EM.set {E : Nat → Bool} {σ : SS} {i : Nat} (h : EM E σ) (hi : i < 16) : EM (setB E i) (stZ σ 6 (nI i) 1) := by
  refine ⟨fun k hk => ?_, fun k hk => ?_⟩
  · rw [sA_szN (by omega) (Or.inr rfl), upd_at]
    unfold setB
    by_cases e : k = i
    · rw [if_pos e]; simp [e, b2i]
    · rw [if_neg e, h.1 k hk]; simp [e]
  · unfold setB
    rw [h.2 k hk]
    simp [show ¬ k = i by omega]
theorem EX.out {E : Nat → Bool} {σ σ' : SS} (h : EX E σ) (e : sI σ' 7 = sI σ 7) : EX E σ' := ⟨by rw [e]; exact h.1, h.2⟩
theorem gX_frame {g : List N3} {σ σ' : SS} (h : gX' g σ) (h5 : sI σ' 5 = sI σ 5) (hA : ∀ k, k < 3 → sA σ' k = sA σ k) : gX' g σ' := ⟨h5.trans h.1, by rw [hA 0 (by decide), hA 1 (by decide), hA 2 (by decide)]; exact h.2⟩
theorem gM_frame {g : List N3} {σ σ' : SS} (h : gM' g σ) (h5 : sI σ' 0 = sI σ 0) (hA : ∀ k, k < 3 → sA σ' k = sA σ k) : gM' g σ' := ⟨h5.trans h.1, by rw [hA 0 (by decide), hA 1 (by decide), hA 2 (by decide)]; exact h.2⟩
theorem Fr.gX {g : List N3} {I A L : List Nat} {σ σ' : SS} (h : Fr I A L σ σ') (hg : gX' g σ) (h5 : 5 ∉ I) (h0 : 0 ∉ A) (h1 : 1 ∉ A) (h2 : 2 ∉ A) : gX' g σ' := gX_frame hg (h.1 5 h5) (fun k hk => by
  rcases (show k = 0 ∨ k = 1 ∨ k = 2 by omega) with rfl | rfl | rfl
  · exact h.2.1 0 h0
  · exact h.2.1 1 h1
  · exact h.2.1 2 h2)
theorem Fr.gM {g : List N3} {I A L : List Nat} {σ σ' : SS} (h : Fr I A L σ σ') (hg : gM' g σ) (h5 : 0 ∉ I) (h0 : 0 ∉ A) (h1 : 1 ∉ A) (h2 : 2 ∉ A) : gM' g σ' := gM_frame hg (h.1 0 h5) (fun k hk => by
  rcases (show k = 0 ∨ k = 1 ∨ k = 2 by omega) with rfl | rfl | rfl
  · exact h.2.1 0 h0
  · exact h.2.1 1 h1
  · exact h.2.1 2 h2)
/-- one pass of the class -/
theorem x_pass {g : List N3} (hd : GdL g) (K : Int32 → SS → Option SS) (x1 : Int32) (σ0 : SS) : ∀ (m i : Nat) (E : Nat → Bool) (σ : SS) (fu : Nat), i + m = g.length → m < fu → gX' g σ → EX E σ → Fr [7] [] [] σ0 σ →
    ∃ σ', P_X3_findEmpties_j15 K fu x1 (nI i) σ = K (x1 + 1) σ' ∧ gX' g σ' ∧ EX (psF g m i E) σ' ∧ Fr [7] [] [] σ0 σ' := by
  intro m
  induction m with
  | zero =>
    intro i E σ fu h1 h2 hg hE hF
    obtain ⟨fu, rfl⟩ : ∃ k, fu = k + 1 := ⟨fu - 1, by omega⟩
    refine ⟨σ, ?_, hg, hE, hF⟩
    unfold P_X3_findEmpties_j15 P_X1_size
    have := hd.1
    rw [Option.bind_some, hg.1, if_pos (nI_le (by omega) (by omega))]
  | succ m ih =>
    intro i E σ fu h1 h2 hg hE hF
    obtain ⟨fu, rfl⟩ : ∃ k, fu = k + 1 := ⟨fu - 1, by omega⟩
    have hl := hd.1
    unfold P_X3_findEmpties_j15 P_X1_size
    rw [Option.bind_some, hg.1, if_neg (nI_ge (by omega) (by omega)), x_canBe hg hd hE (by omega), Option.bind_some]
    unfold P_X3_findEmpties_j46
    rw [nI_1]
    have es : psF g (m + 1) i E = psF g m (i + 1) (stE g E i) := rfl
    rw [es]
    unfold stE
    cases hc : cbE g E i with
    | false =>
      rw [b2i_f, if_pos rfl]
      simp only [Bool.false_eq_true, if_false]
      exact ih (i + 1) E σ fu (by omega) (by omega) hg hE hF
    | true =>
      rw [b2i_t, if_neg (by decide)]
      simp only [if_true]
      refine ih (i + 1) _ _ fu (by omega) (by omega) ?_ (hE.set (by omega)) (hF.tr (Fr.uI (by decide)))
      exact (Fr.uI (I := [7]) (A := []) (L := []) (by decide)).gX hg (by decide) (by decide) (by decide) (by decide)
def pw (g : List N3) : Nat → (Nat → Bool)
  | 0 => fun _ => false
  | n + 1 => pass g (pw g n)
theorem x_empties {g : List N3} (hd : GdL g) {σ : SS} (hg : gX' g σ) : ∃ σ', P_X3_findEmpties σ = some σ' ∧ gX' g σ' ∧ EX (pw g 16) σ' ∧ Fr [7] [] [] σ σ' := by
  have loop : ∀ (m i : Nat) (σ1 : SS) (fu : Nat), i + m = 16 → m < fu → gX' g σ1 → EX (pw g i) σ1 → Fr [7] [] [] σ σ1 → ∃ σ', P_X3_findEmpties_j7 fu (nI i) σ1 = some σ' ∧ gX' g σ' ∧ EX (pw g 16) σ' ∧ Fr [7] [] [] σ σ' := by
    intro m
    induction m with
    | zero =>
      intro i σ1 fu h1 h2 h3 h4 h5
      obtain ⟨fu, rfl⟩ : ∃ k, fu = k + 1 := ⟨fu - 1, by omega⟩
      have e : i = 16 := by omega
      subst e
      refine ⟨σ1, ?_, h3, h4, h5⟩
      unfold P_X3_findEmpties_j7
      rw [if_pos (by decide)]
    | succ m ih =>
      intro i σ1 fu h1 h2 h3 h4 h5
      obtain ⟨fu, rfl⟩ : ∃ k, fu = k + 1 := ⟨fu - 1, by omega⟩
      have hl := hd.1
      unfold P_X3_findEmpties_j7
      rw [show (16 : Int32) = nI 16 from rfl, if_neg (nI_ge (by omega) (by decide)), show (0 : Int32) = nI 0 from rfl]
      obtain ⟨σ2, a1, a2, a3, a4⟩ := x_pass hd (P_X3_findEmpties_j7 fu) (nI i) σ g.length 0 (pw g i) σ1 FU (by omega) (by unfold FU; omega) h3 h4 h5
      rw [a1, nI_1]
      exact ih (i + 1) σ2 fu (by omega) (by omega) a2 a3 a4
  exact loop 16 0 (uI σ 7 0) FU (by decide) (by decide) ((Fr.uI (I := [7]) (A := []) (L := []) (by decide)).gX hg (by decide) (by decide) (by decide) (by decide)) ⟨fun k _ => by rw [sI_uI, if_pos rfl, b_0]; rfl, fun _ _ => rfl⟩ (Fr.uI (by decide))
/-- one pass of the reference: 'more' tells whether something came -/
theorem m_pass {g : List N3} (hd : GdL g) (K : Int32 → SS → Option SS) (σ0 : SS) : ∀ (m i : Nat) (E : Nat → Bool) (mo : Bool) (σ : SS) (fu : Nat), i + m = g.length → m < fu → gM' g σ → EM E σ → Fr [] [6] [] σ0 σ →
    ∃ σ' mo', P_X11_findNought_j31 K fu (b2i mo) (nI i) σ = K (b2i mo') σ' ∧ gM' g σ' ∧ EM (psF g m i E) σ' ∧ Fr [] [6] [] σ0 σ' ∧ (mo' = false → mo = false ∧ psF g m i E = E) ∧ (mo' = true → mo = true ∨ ∃ j, j < g.length ∧ E j = false ∧ psF g m i E j = true) := by
  intro m
  induction m with
  | zero =>
    intro i E mo σ fu h1 h2 hg hE hF
    obtain ⟨fu, rfl⟩ : ∃ k, fu = k + 1 := ⟨fu - 1, by omega⟩
    have := hd.1
    refine ⟨σ, mo, ?_, hg, hE, hF, fun z => ⟨z, rfl⟩, fun z => Or.inl z⟩
    unfold P_X11_findNought_j31
    rw [hg.1, if_pos (nI_le (by omega) (by omega))]
  | succ m ih =>
    intro i E mo σ fu h1 h2 hg hE hF
    obtain ⟨fu, rfl⟩ : ∃ k, fu = k + 1 := ⟨fu - 1, by omega⟩
    have hl := hd.1
    unfold P_X11_findNought_j31
    rw [hg.1, if_neg (nI_ge (by omega) (by omega)), gI_nI (show i < 16 by omega) (by decide), ldA_nI (by omega), hE.1 i (by omega)]
    unfold P_X11_findNought_j65
    rw [nI_1]
    have es : psF g (m + 1) i E = psF g m (i + 1) (stE g E i) := rfl
    cases hEi : E i with
    | true =>
      have e1 : stE g E i = E := by
        unfold stE
        split
        · exact setB_id hEi
        · rfl
      rw [es, e1, b2i_t, if_pos (by decide)]
      exact ih (i + 1) E mo σ fu (by omega) (by omega) hg hE hF
    | false =>
      rw [b2i_f, if_neg (by decide), m_canBe hg hd hE (by omega), Option.bind_some, es]
      unfold stE
      cases hc : cbE g E i with
      | false =>
        rw [b2i_f, if_pos rfl]
        simp only [Bool.false_eq_true, if_false]
        exact ih (i + 1) E mo σ fu (by omega) (by omega) hg hE hF
      | true =>
        rw [b2i_t, if_neg (by decide), gI_nI (show i < 16 by omega) (by decide)]
        simp only [if_true]
        have hg2 : gM' g (stZ σ 6 (nI i) 1) := (Fr.stZ (I := []) (A := [6]) (L := []) (by decide)).gM hg (by decide) (by decide) (by decide) (by decide)
        obtain ⟨σ', mo', a1, a2, a3, a4, a5, a6⟩ := ih (i + 1) (setB E i) true _ fu (by omega) (by omega) hg2 (hE.set (by omega)) (hF.tr (Fr.stZ (by decide)))
        refine ⟨σ', mo', a1, a2, a3, a4, fun z => absurd (a5 z).1 (by decide), fun _ => Or.inr ⟨i, by omega, hEi, ?_⟩⟩
        exact psF_le g m (i + 1) _ i (by unfold setB; simp)
