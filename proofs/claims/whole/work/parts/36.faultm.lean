theorem m_faulty1 {g : List N3} (hd : GdL g) {σ : SS} (hg : gM' g σ) : ∀ (m i : Nat) (fu : Nat), i + m = g.length → m < fu → P_X11_faulty_j2 σ fu 1 (nI i) = some (if fst (lk g) m i < g.length then nI (fst (lk g) m i) else -1) := by
  have hl := hd.1
  intro m
  induction m with
  | zero =>
    intro i fu h1 h2
    obtain ⟨fu, rfl⟩ : ∃ k, fu = k + 1 := ⟨fu - 1, by omega⟩
    unfold P_X11_faulty_j2
    rw [fst_0, hg.1, if_pos (nI_le (by omega) (by omega)), if_neg (by omega)]
  | succ m ih =>
    intro i fu h1 h2
    obtain ⟨fu, rfl⟩ : ∃ k, fu = k + 1 := ⟨fu - 1, by omega⟩
    have hi : i < g.length := by omega
    obtain ⟨e0, e1, e2⟩ := gM_at hg hi
    obtain ⟨l0, l1, l2⟩ := gd_lt hd hi
    have ih' := ih (i + 1) fu (by omega) (by omega)
    unfold P_X11_faulty_j2
    rw [fst_s, hg.1, if_neg (nI_ge (by omega) (by omega)), if_neg (show ¬ ¬ (1 : Int32) = 1 by decide), m_hasA hg hd hi, Option.bind_some]
    unfold P_X11_faulty_j36 P_X11_faulty_j57 P_X11_faulty_j61 P_X11_faulty_j122
    rw [m_hasB hg hd hi, Option.bind_some, gI_nI (show i < 16 by omega) (by decide), gI_nI (show i < 16 by omega) (by decide), ldA_nI (by omega), ldA_nI (by omega), e1, e2, hg.1, nI_1, ih']
    have hA : (nI g.length ≤ nI (fa g i)) = (g.length ≤ fa g i) := propext (nI_leI (by omega) (by omega))
    have hB : (nI (fb g i) < nI g.length) = (fb g i < g.length) := propext (nI_ltI (by omega) (by omega))
    simp only [hA, hB]
    unfold lk
    cases c1 : (decide (2 ≤ kd g i) && decide (kd g i ≤ 7)) <;> cases c2 : (decide (kd g i = 2) || decide (kd g i = 3)) <;> by_cases c3 : g.length ≤ fa g i <;> by_cases c4 : fb g i < g.length <;> simp [c3, c4, b2i, hi, show (g.length ≤ fb g i) ↔ ¬ fb g i < g.length by omega]
theorem m_faulty2 {g : List N3} (hd : GdL g) {σ : SS} (hg : gM' g σ) {E : Nat → Bool} (hE : EM E σ) : ∀ (m i : Nat) (fu : Nat), i + m = g.length → m < fu → P_X11_faulty_j2 σ fu 2 (nI i) = some (if fst (rp g E) m i < g.length then nI (fst (rp g E) m i) else -1) := by
  have hl := hd.1
  intro m
  induction m with
  | zero =>
    intro i fu h1 h2
    obtain ⟨fu, rfl⟩ : ∃ k, fu = k + 1 := ⟨fu - 1, by omega⟩
    unfold P_X11_faulty_j2
    rw [fst_0, hg.1, if_pos (nI_le (by omega) (by omega)), if_neg (by omega)]
  | succ m ih =>
    intro i fu h1 h2
    obtain ⟨fu, rfl⟩ : ∃ k, fu = k + 1 := ⟨fu - 1, by omega⟩
    have hi : i < g.length := by omega
    obtain ⟨e0, e1, e2⟩ := gM_at hg hi
    obtain ⟨l0, l1, l2⟩ := gd_lt hd hi
    have ih' := ih (i + 1) fu (by omega) (by omega)
    have h46 := isIn_t (nI (kd g i)) 4 6
    rw [w4, w6, nI_toInt (by omega)] at h46
    unfold P_X11_faulty_j2
    rw [fst_s, hg.1, if_neg (nI_ge (by omega) (by omega)), if_pos (show ¬ (2 : Int32) = 1 by decide), if_neg (show ¬ ¬ (2 : Int32) = 2 by decide), gI_nI (show i < 16 by omega) (by decide), ldA_nI (by omega), ldA_nI (by omega), e0, e1, gI_nI (show i < 16 by omega) (by decide), gI_nI (show fa g i < 16 by omega) (by decide), ldA_nI (by omega), hE.1 _ (show fa g i < 16 by omega)]
    unfold P_X11_faulty_j107 P_X11_faulty_j122
    rw [nI_1, ih']
    unfold rp
    rcases h46.cases with ⟨e, q⟩ | ⟨e, q⟩
    · rw [e, Option.bind_some, if_neg (by decide)]
      have a : 4 ≤ kd g i := by omega
      have b : kd g i ≤ 6 := by omega
      cases hb : E (fa g i) <;> simp [a, b, b2i, hi]
    · rw [e, Option.bind_some, if_pos rfl]
      have : (decide (4 ≤ kd g i) && decide (kd g i ≤ 6)) = false := by
        rw [Bool.and_eq_false_iff, decide_eq_false_iff_not, decide_eq_false_iff_not]
        omega
      rw [this]
      simp
theorem m_faulty3 {g : List N3} (hd : GdL g) {σ : SS} (hg : gM' g σ) {N : Nat → Nat → Bool} (hN : NM g.length N σ) : ∀ (m i : Nat) (fu : Nat), i + m = g.length → m < fu → P_X11_faulty_j2 σ fu 3 (nI i) = some (if fst (fun k => N k k) m i < g.length then nI (fst (fun k => N k k) m i) else -1) := by
  have hl := hd.1
  intro m
  induction m with
  | zero =>
    intro i fu h1 h2
    obtain ⟨fu, rfl⟩ : ∃ k, fu = k + 1 := ⟨fu - 1, by omega⟩
    unfold P_X11_faulty_j2
    rw [fst_0, hg.1, if_pos (nI_le (by omega) (by omega)), if_neg (by omega)]
  | succ m ih =>
    intro i fu h1 h2
    obtain ⟨fu, rfl⟩ : ∃ k, fu = k + 1 := ⟨fu - 1, by omega⟩
    have hi : i < g.length := by omega
    have ih' := ih (i + 1) fu (by omega) (by omega)
    unfold P_X11_faulty_j2
    rw [fst_s, hg.1, if_neg (nI_ge (by omega) (by omega)), if_pos (show ¬ (3 : Int32) = 1 by decide), if_pos (show ¬ (3 : Int32) = 2 by decide), pos16, gI_nI (by omega) (by decide), ldA_nI (by omega), hN i hi i hi]
    unfold P_X11_faulty_j122
    rw [nI_1, ih']
    cases hb : N i i <;> simp [b2i, hi]
theorem nn_ge {n : Nat} (h : n < 2 ^ 31) : (0 : Int32) ≤ nI n := nI_pos' h
/-- the reference's ready(), as far as its FAULTS -/
theorem m_ready {g : List N3} (hd : GdL g) {σ : SS} (hg : gM' g σ) : ∃ σ', Fr [1] [6, 7] [] σ σ' ∧ ((¬ flt g = 0 ∧ sI σ' 1 = 0 ∧ P_X11_ready σ = some ((nI (flt g)).toInt64, σ')) ∨ (flt g = 0 ∧ NoLack g ∧ EM (EE g) σ' ∧ NM g.length (NN g) σ' ∧ sI σ' 1 = 0 ∧ P_X11_ready σ = (P_X11_countAll (uI σ' 1 1)).bind fun s => some (0, s))) := by
  have hl := hd.1
  have hg0 : gM' g (uI σ 1 0) := (Fr.uI (I := [1]) (A := []) (L := []) (by decide)).gM hg (by decide) (by decide) (by decide) (by decide)
  have q1 := m_faulty1 hd hg0 g.length 0 FU (by omega) (by unfold FU; omega)
  have q1' : P_X11_faulty 1 (uI σ 1 0) = _ := q1
  unfold P_X11_ready
  rw [q1', Option.bind_some]
  have b1 := fst_le (lk g) g.length 0
  by_cases c1 : fst (lk g) g.length 0 < g.length
  · have ef : flt g = 16 + fst (lk g) g.length 0 := by unfold flt; rw [if_pos c1]
    refine ⟨uI σ 1 0, Fr.uI (by decide), Or.inl ⟨by omega, rfl, ?_⟩⟩
    rw [if_pos c1, if_neg (nI_pos (by omega)), Option.bind_some, ef, show (16 : Int32) + nI (fst (lk g) g.length 0) = nI (16 + fst (lk g) g.length 0) from nI_add 16 _]
  · rw [if_neg c1, if_pos (by decide)]
    obtain ⟨σ1, a1, a2, a3, a4⟩ := m_empties hd hg0
    rw [a1, Option.bind_some]
    have q2 := m_faulty2 hd a2 (E := EE g) a3 g.length 0 FU (by omega) (by unfold FU; omega)
    have q2' : P_X11_faulty 2 σ1 = _ := q2
    rw [q2', Option.bind_some]
    have b2 := fst_le (rp g (EE g)) g.length 0
    by_cases c2 : fst (rp g (EE g)) g.length 0 < g.length
    · have ef : flt g = 32 + fst (rp g (EE g)) g.length 0 := by unfold flt; rw [if_neg c1, if_pos c2]
      refine ⟨σ1, (Fr.uI (by decide)).tr (a4.mono (by simp) (by simp) (by simp)), Or.inl ⟨by omega, by rw [a4.1 1 (by simp)]; rfl, ?_⟩⟩
      rw [if_pos c2, if_neg (nI_pos (by omega)), Option.bind_some, ef, show (32 : Int32) + nI (fst (rp g (EE g)) g.length 0) = nI (32 + fst (rp g (EE g)) g.length 0) from nI_add 32 _]
    · rw [if_neg c2, if_pos (by decide)]
      have hnl := noLack_of c1
      obtain ⟨σ2, d1, d2, d3⟩ := m_needs hd hnl a2 a3
      rw [d1, Option.bind_some]
      have hg2 : gM' g σ2 := d3.gM a2 (by decide) (by decide) (by decide) (by decide)
      have q3 := m_faulty3 hd hg2 (N := NN g) d2 g.length 0 FU (by omega) (by unfold FU; omega)
      have q3' : P_X11_faulty 3 σ2 = _ := q3
      rw [q3', Option.bind_some]
      have b3 := fst_le (fun k => NN g k k) g.length 0
      have hfr : Fr [1] [6, 7] [] σ σ2 := ((Fr.uI (by decide)).tr (a4.mono (by simp) (by simp) (by simp))).tr (d3.mono (by simp) (by simp) (by simp))
      have h0 : sI σ2 1 = 0 := by rw [d3.1 1 (by simp), a4.1 1 (by simp)]; rfl
      by_cases c3 : fst (fun k => NN g k k) g.length 0 < g.length
      · have ef : flt g = 48 + fst (fun k => NN g k k) g.length 0 := by unfold flt; rw [if_neg c1, if_neg c2, if_pos c3]
        refine ⟨σ2, hfr, Or.inl ⟨by omega, h0, ?_⟩⟩
        rw [if_pos c3, if_neg (nI_pos (by omega)), Option.bind_some, ef, show (48 : Int32) + nI (fst (fun k => NN g k k) g.length 0) = nI (48 + fst (fun k => NN g k k) g.length 0) from nI_add 48 _]
      · have ef : flt g = 0 := by unfold flt; rw [if_neg c1, if_neg c2, if_neg c3]
        refine ⟨σ2, hfr, Or.inr ⟨ef, hnl, ?_, d2, h0, ?_⟩⟩
        · exact ⟨by rw [d3.2.1 6 (by simp)]; exact a3.1, a3.2⟩
        · rw [if_neg c3, if_pos (by decide)]
