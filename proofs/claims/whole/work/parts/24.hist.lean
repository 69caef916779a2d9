/-! the history of both sides -/
theorem x_forget_loop (σ0 : SS) : ∀ (m i : Nat) (σ : SS) (fu : Nat), i + m = 8 → 1 ≤ i → m < fu → Fr [6] [3, 4, 5, 6] [] σ0 σ → (∀ a, a = 3 ∨ a = 4 ∨ a = 5 ∨ a = 6 → ∀ j, sA σ a j = if j + 1 < i then sA σ0 a (j + 1) else sA σ0 a j) →
    ∃ σ', P_X2_forgetOldest_j2 fu (nI i) σ = some σ' ∧ Fr [6] [3, 4, 5, 6] [] σ0 σ' ∧ sI σ' 6 = nI 7 ∧ ∀ a, a = 3 ∨ a = 4 ∨ a = 5 ∨ a = 6 → ∀ j, j < 7 → sA σ' a j = sA σ0 a (j + 1) := by
  intro m
  induction m with
  | zero =>
    intro i σ fu h1 h2 h3 hF hI
    obtain ⟨fu, rfl⟩ : ∃ k, fu = k + 1 := ⟨fu - 1, by omega⟩
    have e : i = 8 := by omega
    subst e
    refine ⟨uI σ 6 7, ?_, hF.tr (Fr.uI (by decide)), rfl, fun a ha j hj => ?_⟩
    · unfold P_X2_forgetOldest_j2
      rw [if_pos (by decide)]
    · rw [sA_uI, hI a ha j, if_pos (by omega)]
  | succ m ih =>
    intro i σ fu h1 h2 h3 hF hI
    obtain ⟨fu, rfl⟩ : ∃ k, fu = k + 1 := ⟨fu - 1, by omega⟩
    have e8 : (8 : Int32) = nI 8 := rfl
    have e1 : nI i - 1 = nI (i - 1) := nI_sub (b := 1) h2
    unfold P_X2_forgetOldest_j2
    rw [e8, if_neg (nI_ge (by omega) (by decide))]
    simp only [e1, gI_nI (show i < 8 by omega) (by decide), gI_nI (show i - 1 < 8 by omega) (by decide), nI_1]
    refine ih (i + 1) _ fu (by omega) (by omega) (by omega) ?_ ?_
    · exact (((hF.tr (Fr.stA (by decide))).tr (Fr.stA (by decide))).tr (Fr.stA (by decide))).tr (Fr.stA (by decide))
    · intro a ha j
      have hx : ix (nI (i - 1)) = i - 1 := ix_nI (by omega)
      have hy : ix (nI i) = i := ix_nI (by omega)
      have h9 := hI a ha j
      have h10 := hI a ha i
      rcases ha with rfl | rfl | rfl | rfl <;> simp only [sA_stA, ldA, hx, hy, upd_at, if_true, if_false, eq_self, reduceIte, Nat.reduceEqDiff] <;> by_cases hj : j = i - 1 <;> simp only [hj, if_true, if_false, eq_self, reduceIte] <;> rw [if_neg (by omega)] at h10 <;> (first | (rw [h10, if_pos (by omega), show i - 1 + 1 = i by omega]) | (rw [h9]; by_cases hz : j + 1 < i <;> simp only [hz, if_true, if_false] <;> first | (rw [if_pos (by omega)]) | (rw [if_neg (by omega)])))
theorem x_keep {σ : SS} {ds : List DD} {d : DD} {kv av bv : Int32} (h : dX ds σ) (h1 : d.2 = none → kv = -1) (h2 : ∀ t, d.2 = some t → kv = nI t.1 ∧ av = nI t.2.1 ∧ bv = nI t.2.2) : ∃ σ', P_X2_keep (nI d.1) kv av bv σ = some σ' ∧ dX (d :: ds.take 7) σ' ∧ Fr [6] [3, 4, 5, 6] [] σ σ' := by
  have step : ∀ (es : List DD) (σ : SS), dX es σ → es.length < 8 → ∃ σ', P_X2_keep_j13 (nI d.1) kv av bv σ = some σ' ∧ dX (d :: es) σ' ∧ Fr [6] [3, 4, 5, 6] [] σ σ' := by
    intro es σ h hl
    obtain ⟨e6, -, hE⟩ := h
    refine ⟨uI (stA (stA (stA (stA σ 3 (nI es.length) (nI d.1)) 4 (nI es.length) kv) 5 (nI es.length) av) 6 (nI es.length) bv) 6 (nI (es.length + 1)), ?_, ?_, ?_⟩
    · unfold P_X2_keep_j13
      rw [e6, vX6_set_14 hl, Option.bind_some, sI_stA, e6, vX6_set_15 hl, Option.bind_some, sI_stA, sI_stA, e6, vX6_set_16 hl, Option.bind_some, sI_stA, sI_stA, sI_stA, e6, vX6_set_17 hl, Option.bind_some, sI_stA, sI_stA, sI_stA, sI_stA, e6, nI_1]
    · have hx : ix (nI es.length) = es.length := ix_nI (by omega)
      refine ⟨by rw [sI_uI]; simp, by simp; omega, fun j e hj => ?_⟩
      simp only [sA_uI, sA_stA, hx, upd_at, reduceIte, Nat.reduceEqDiff, List.length_cons]
      cases j with
      | zero =>
        simp only [List.getElem?_cons_zero, Option.some.injEq] at hj
        subst hj
        have e1 : es.length + 1 - 1 - 0 = es.length := by omega
        simp only [e1, reduceIte]
        exact ⟨trivial, h1, h2⟩
      | succ j =>
        rw [List.getElem?_cons_succ] at hj
        have hlt := (List.getElem?_eq_some_iff.mp hj).1
        have e1 : es.length + 1 - 1 - (j + 1) = es.length - 1 - j := by omega
        have e2 : ¬ es.length - 1 - j = es.length := by omega
        simp only [e1, e2, reduceIte]
        exact hE j e hj
    · exact ((((Fr.stA (by decide)).tr (Fr.stA (by decide))).tr (Fr.stA (by decide))).tr (Fr.stA (by decide))).tr (Fr.uI (by decide))
  unfold P_X2_keep
  obtain ⟨e6, hl, hE⟩ := h
  have e8 : (8 : Int32) = nI 8 := rfl
  by_cases h8 : ds.length < 8
  · rw [e6, e8, if_pos (nI_lt h8 (by decide)), List.take_of_length_le (by omega)]
    exact step ds σ ⟨e6, hl, hE⟩ h8
  · have hl8 : ds.length = 8 := by omega
    rw [e6, e8, if_neg (nI_nlt (by omega) (by omega))]
    obtain ⟨σ1, e1, f1, g1, k1⟩ := x_forget_loop σ 7 1 σ FU (by decide) (by decide) (by decide) Fr.rf (fun a _ j => by rw [if_neg (by omega)])
    have e2 : P_X2_forgetOldest σ = some σ1 := e1
    rw [e2, Option.bind_some]
    have hl7 : (ds.take 7).length = 7 := by simp; omega
    have hd : dX (ds.take 7) σ1 := by
      refine ⟨by rw [hl7]; exact g1, by omega, fun j e hj => ?_⟩
      have hlt := (List.getElem?_eq_some_iff.mp hj).1
      rw [hl7] at hlt ⊢
      rw [List.getElem?_take_of_lt hlt] at hj
      have := hE j e hj
      rw [hl8] at this
      rw [k1 3 (by simp) _ (by omega), k1 4 (by simp) _ (by omega), k1 5 (by simp) _ (by omega), k1 6 (by simp) _ (by omega)]
      have e3 : 7 - 1 - j + 1 = 8 - 1 - j := by omega
      rw [e3]
      exact this
    obtain ⟨σ2, a1, a2, a3⟩ := step (ds.take 7) σ1 hd (by omega)
    exact ⟨σ2, a1, a2, f1.tr a3⟩
