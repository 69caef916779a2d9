/-! the class's stack of works; its draft beside the reference's -/
abbrev It : Type := Nat × Nat × Nat × Nat
def Stk (l : List It) (σ : SS) : Prop := sI σ 8 = nI l.length ∧ l.length ≤ 608 ∧ ∀ (j : Nat) (u : It), l[j]? = some u → sA σ 8 (l.length - 1 - j) = nI u.1 ∧ sA σ 9 (l.length - 1 - j) = nI u.2.1 ∧ sA σ 10 (l.length - 1 - j) = nI u.2.2.1 ∧ sL σ 2 (l.length - 1 - j) = lN u.2.2.2
theorem Stk.frame {l : List It} {σ σ' : SS} (h : Stk l σ) (h1 : sI σ' 8 = sI σ 8) (h2 : ∀ k, 8 ≤ k → k ≤ 10 → sA σ' k = sA σ k) (h3 : sL σ' 2 = sL σ 2) : Stk l σ' := by
  refine ⟨h1.trans h.1, h.2.1, fun j u hj => ?_⟩
  rw [h2 8 (by decide) (by decide), h2 9 (by decide) (by decide), h2 10 (by decide) (by decide), h3]
  exact h.2.2 j u hj
def psh (σ : SS) (h : Nat) (w a s v : Nat) : SS := uI (stL (stA (stA (stA σ 8 (nI h) (nI w)) 9 (nI h) (nI a)) 10 (nI h) (nI s)) 2 (nI h) (lN v)) 8 (nI (h + 1))
theorem Stk.push {l : List It} {σ : SS} (h : Stk l σ) (hl : l.length < 608) (w a s v : Nat) : P_X9_push (nI w) (nI a) (nI s) (lN v) σ = some (psh σ l.length w a s v) ∧ Stk ((w, a, s, v) :: l) (psh σ l.length w a s v) ∧ Fr [8] [8, 9, 10] [2] σ (psh σ l.length w a s v) ∧ sJ (psh σ l.length w a s v) = sJ σ := by
  refine ⟨?_, ⟨rfl, by simp; omega, ?_⟩, ?_, rfl⟩
  · unfold P_X9_push
    simp only [sI_stA, sI_stL]
    rw [h.1, if_neg (nI_pos (by omega)), show (608 : Int32) = nI 608 from rfl, if_neg (nI_ge hl (by decide)), gI_nI hl (by decide), gI_nI hl (by decide), gI_nI hl (by decide), gI_nI hl (by decide), nI_1]
    rfl
  · intro j u hj
    have e8 : sA (psh σ l.length w a s v) 8 = upd (sA σ 8) l.length (nI w) := sA_stN (σ := σ) (k := 8) (x := nI w) (show l.length < 2 ^ 31 by omega)
    have e9 : sA (psh σ l.length w a s v) 9 = upd (sA σ 9) l.length (nI a) := sA_stN (σ := stA σ 8 (nI l.length) (nI w)) (k := 9) (x := nI a) (show l.length < 2 ^ 31 by omega)
    have e10 : sA (psh σ l.length w a s v) 10 = upd (sA σ 10) l.length (nI s) := sA_stN (σ := stA (stA σ 8 (nI l.length) (nI w)) 9 (nI l.length) (nI a)) (k := 10) (x := nI s) (show l.length < 2 ^ 31 by omega)
    have e2 : sL (psh σ l.length w a s v) 2 = vp_updL (sL σ 2) l.length (lN v) := sL_stN (σ := stA (stA (stA σ 8 (nI l.length) (nI w)) 9 (nI l.length) (nI a)) 10 (nI l.length) (nI s)) (k := 2) (x := lN v) (show l.length < 2 ^ 31 by omega)
    rw [e8, e9, e10, e2]
    simp only [upd_at, updL_at, List.length_cons]
    cases j with
    | zero =>
      simp at hj
      subst hj
      simp
    | succ j =>
      have hj' : l[j]? = some u := by simpa using hj
      have hjl := (List.getElem?_eq_some_iff.mp hj').1
      have hne : ¬ l.length + 1 - 1 - (j + 1) = l.length := by omega
      rw [if_neg hne, if_neg hne, if_neg hne, if_neg hne, show l.length + 1 - 1 - (j + 1) = l.length - 1 - j by omega]
      exact h.2.2 j u hj'
  · exact (((((Fr.stA (by decide)).tr (Fr.stA (by decide))).tr (Fr.stA (by decide))).tr (Fr.stL (by decide))).tr (Fr.uI (by decide)))
theorem Stk.pop {u : It} {l : List It} {σ : SS} (h : Stk (u :: l) σ) : uI σ 8 (sI σ 8 - 1) = uI σ 8 (nI l.length) ∧ Stk l (uI σ 8 (nI l.length)) ∧ P_X6_at_22 (nI l.length) (uI σ 8 (nI l.length)) = some (nI u.2.1) ∧ P_X6_at_23 (nI l.length) (uI σ 8 (nI l.length)) = some (nI u.2.2.1) ∧ P_X6_at__24 (nI l.length) (uI σ 8 (nI l.length)) = some (lN u.2.2.2) ∧ P_X6_at_21 (nI l.length) (uI σ 8 (nI l.length)) = some (nI u.1) := by
  obtain ⟨h1, h2, h3⟩ := h
  have hl : l.length < 608 := by simp at h2; omega
  obtain ⟨p1, p2, p3, p4⟩ := h3 0 u rfl
  simp only [List.length_cons, show l.length + 1 - 1 - 0 = l.length by omega] at p1 p2 p3 p4
  refine ⟨by rw [h1]; congr 1; exact i_add1, ⟨rfl, by omega, fun j w hj => ?_⟩, ?_, ?_, ?_, ?_⟩
  · have := h3 (j + 1) w (by simpa using hj)
    simp only [List.length_cons, show l.length + 1 - 1 - (j + 1) = l.length - 1 - j by omega] at this
    exact this
  · rw [vX6_at_22 hl]; exact congrArg some p2
  · rw [vX6_at_23 hl]; exact congrArg some p3
  · rw [vX6_at__24 hl]; exact congrArg some p4
  · rw [vX6_at_21 hl]; exact congrArg some p1
def Tl (t : Nat) (σ : SS) : Option (Int32 × SS) := P_X9_tell_j24 (FU - t) (nI t) σ
theorem tl_step {u : It} {l : List It} {t : Nat} {σ : SS} (h : Stk (u :: l) σ) (ht : t < 3000) : Tl t σ = b2 (P_X9_work σ) fun v6 σ7 => if ¬ v6 = 0 then Tl (t + 1) σ7 else some (0, σ7) := by
  have hl := h.2.1
  have e : FU - t = (FU - (t + 1)) + 1 := by unfold FU; omega
  unfold Tl
  rw [e, P_X9_tell_j24, h.1, show (0 : Int32) = nI 0 from rfl, if_neg (nI_ge (show 0 < (u :: l).length by simp) (by omega)), show (3000 : Int32) = nI 3000 from rfl, if_neg (nI_ge ht (by decide)), nI_1]
theorem tl_end {t : Nat} {σ : SS} (h : Stk [] σ) (ht : t < 3000) : Tl t σ = some (1, σ) := by
  have e : FU - t = (FU - (t + 1)) + 1 := by unfold FU; omega
  unfold Tl
  rw [e, P_X9_tell_j24, h.1, if_pos (by decide), if_neg (fun z => z rfl)]
def wk (w : Nat) (a s : Int32) (v : Int64) (σ : SS) : Option (Int32 × SS) := if w = 1 then b2 (P_X9_workWhole a s v σ) fun v11 σ12 => gZ v11 (some (v11, σ12)) else if w = 2 then b2 (P_X9_workRest a s v σ) fun v11 σ12 => gZ v11 (some (v11, σ12)) else b2 (P_X0_add_10 a σ) fun v11 σ12 => gZ v11 (some (v11, σ12))
theorem x_work {u : It} {l : List It} {σ : SS} (h : Stk (u :: l) σ) (hu : u.1 ≤ 2) : P_X9_work σ = wk u.1 (nI u.2.1) (nI u.2.2.1) (lN u.2.2.2) (uI σ 8 (nI l.length)) := by
  obtain ⟨p0, p1, p2, p3, p4, p5⟩ := h.pop
  unfold P_X9_work
  rw [p0, show sI (uI σ 8 (nI l.length)) 8 = nI l.length from rfl, p2, p3, p4, p5, Option.bind_some, Option.bind_some, Option.bind_some, Option.bind_some]
  unfold wk
  rcases (show u.1 = 0 ∨ u.1 = 1 ∨ u.1 = 2 by omega) with z | z | z <;> rw [z] <;> rfl
/-- one byte, on both sides -/
theorem wr {k : Nat} {v : Int32} {σx σm : SS} (h : Sb 21 21 5 9 k σx σm) (hv : isB v) : ∃ σm', P_X11_write v σm = some σm' ∧ Fr [5] [9] [] σm σm' ∧ sI σm' 5 = nI (k + 1) ∧ ((k < 300 ∧ ∃ σ', P_X0_add_10 v σx = some (1, σ') ∧ Fr [21] [21] [] σx σ' ∧ Sb 21 21 5 9 (k + 1) σ' σm') ∨ (k = 300 ∧ P_X0_add_10 v σx = some (0, σx))) := by
  obtain ⟨h1, h2, h3, h4⟩ := h
  unfold P_X11_write P_X0_add_10
  rw [h2, h3, if_neg (nI_pos (by omega)), show (300 : Int32) = nI 300 from rfl]
  by_cases z : k < 300
  · rw [if_neg (nI_ge z (by decide)), if_pos (nI_lt z (by decide)), gI_nI z (by decide), gI_nI z (by decide), sI_stA, sI_stA, h2, h3, nI_1, hv.and]
    refine ⟨_, rfl, (Fr.stA (by decide)).tr (Fr.uI (by decide)), rfl, Or.inl ⟨z, _, rfl, (Fr.stA (by decide)).tr (Fr.uI (by decide)), by omega, rfl, rfl, fun i hi => ?_⟩⟩
    rw [sA_uI, sA_uI, sA_stN (by omega), sA_stN (by omega), upd_at, upd_at]
    by_cases e : i = k
    · rw [if_pos e, if_pos e]; exact ⟨rfl, hv⟩
    · rw [if_neg e, if_neg e]; exact h4 i (by omega)
  · have e : k = 300 := by omega
    subst e
    rw [if_pos (nI_le (by omega) (by decide)), if_neg (nI_nlt (by omega) (by decide)), nI_1]
    exact ⟨_, rfl, Fr.uI (by decide), rfl, Or.inr ⟨rfl, rfl⟩⟩
theorem wr_over {k : Nat} {v : Int32} {σm : SS} (h : sI σm 5 = nI k) (hk : 300 < k) (hb : k < 2 ^ 30) : ∃ σm', P_X11_write v σm = some σm' ∧ Fr [5] [9] [] σm σm' ∧ sI σm' 5 = nI (k + 1) := by
  unfold P_X11_write
  rw [h, show (300 : Int32) = nI 300 from rfl, if_pos (nI_le (by omega) (by omega)), nI_1]
  exact ⟨_, rfl, Fr.uI (by decide), rfl⟩
