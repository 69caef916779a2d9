/-! ready, count, upTo, parts, state -/
theorem ii1 {α : Type} {a b : α} : (if (1 : Int32) = 0 then a else b) = b := if_neg (by decide)
theorem ii0 {α : Type} {a b : α} : (if (0 : Int32) = 0 then a else b) = a := if_pos rfl
theorem in1 {α : Type} {a b : α} : (if ¬ (1 : Int32) = 0 then a else b) = a := if_pos (by decide)
theorem in0 {α : Type} {a b : α} : (if ¬ (0 : Int32) = 0 then a else b) = b := if_neg (fun z => z rfl)
def TT (g : List N3) (σx σm : SS) : Prop := ∃ c b, XT g c b σx (fun _ _ => True) ∧ MT g c b σm (fun _ _ => True)
def Rf (g : List N3) (σx σm : SS) : Prop := (sI σx 0 = 0 ∧ sI σm 1 = 0) ∨ (sI σx 0 = 1 ∧ sI σm 1 = 1 ∧ Rdy g ∧ flt g = 0 ∧ TT g σx σm)
theorem XT.frame {g : List N3} {c : Nat → Nat → Nat} {b : Nat → Nat → Nat → Nat} {σ σ' : SS} {D : Nat → Nat → Prop} (h : XT g c b σ D) (e0 : sL σ' 0 = sL σ 0) (e1 : sL σ' 1 = sL σ 1) : XT g c b σ' D := ⟨h.1.frame e0, h.2.1, fun x hx hB t ht z u hu => by unfold BE; rw [e1]; exact h.2.2 x hx hB t ht z u hu⟩
theorem tt_of {g : List N3} (hr : Rdy g) {cx cm : Nat → Nat → Nat} {bx bm : Nat → Nat → Nat → Nat} {σx σm : SS} (hx : XT g cx bx σx (fun _ _ => True)) (hm : MT g cm bm σm (fun _ _ => True)) : TT g σx σm := by
  have u : ∀ s, s ≤ 24 → ∀ x, x < g.length → cx x s = cm x s ∧ (isB56 g x → ∀ t, t ≤ s → bx x s t = bm x s t) := fun s hs => sol_unique hr hx.2.1.1.1 hm.2.1.1.1 s hs (fun x hx' t ht => hx.2.1.2 x hx' t (by omega) trivial) (fun x hx' t ht => hm.2.1.2 x hx' t (by omega) trivial)
  refine ⟨cx, bx, hx, fun x hx' s hs => ?_, hx.2.1, fun x hx' hB t ht _ v hv => ?_⟩
  · have e : cx x s = cm x s := by
      by_cases h : x < g.length
      · exact (u s hs x h).1
      · rw [hx.2.1.1.2 x (by omega) s, hm.2.1.1.2 x (by omega) s]
    rw [e]
    exact hm.1 x hx' s hs
  · have e : BB bx x t v = BB bm x t v := (u t ht x hx').2 hB _ (by omega)
    unfold BM
    rw [e]
    exact hm.2.2 x hx' hB t ht trivial v hv
theorem flt_lt (g : List N3) (hl : g.length ≤ 16) : flt g < 2 ^ 31 := by
  have h1 := fst_le (lk g) g.length 0
  have h2 := fst_le (rp g (EE g)) g.length 0
  have h3 := fst_le (fun k => NN g k k) g.length 0
  unfold flt
  split
  · omega
  · split
    · omega
    · split <;> omega
theorem rd_ready {g : List N3} {hs : List (List N3)} {σx σm : SS} (h : GH g hs σx σm) (hf : Rf g σx σm) : ∃ (r : Int64) (σx1 σm1 : SS), P_X10_ready σx = some (r, σx1) ∧ P_X11_ready σm = some (r, σm1) ∧ Rf g σx1 σm1 ∧ Fr [0, 7] [7] [0, 1] σx σx1 ∧ Fr [1] [6, 7, 8] [0, 1] σm σm1 := by
  obtain ⟨hd, hgx, hgm, -, -⟩ := h
  obtain ⟨σ3, x1, x2, x3⟩ := x_inspect hd hgx
  obtain ⟨σ4, m1, m2⟩ := m_ready hd hgm
  unfold P_X10_ready
  rw [x1]
  show ∃ r σx1 σm1, (if nI (flt g) = 0 then _ else _) = _ ∧ _
  rcases m2 with ⟨f1, f2, f3⟩ | ⟨f1, f2, f3, f4, f5, f6⟩
  · rw [if_neg (show ¬ nI (flt g) = 0 from fun z => f1 ((nI_eq (b := 0) (flt_lt g hd.1) (by decide)).mp z))]
    refine ⟨_, σ3, σ4, rfl, f3, Or.inl ⟨?_, f2⟩, x2.mono (by decide) (by decide) (by decide), m1.mono (by decide) (by decide) (by decide)⟩
    rw [x2.1 0 (by decide)]
    rcases hf with hf | hf
    · exact hf.1
    · exact absurd hf.2.2.2.1 f1
  · have hr := rdy_of hd f1
    obtain ⟨-, hEX, hNX⟩ := x3 f1
    have hgm1 : gM' g (uI σ4 1 1) := (Fr.uI (I := [1]) (A := []) (L := []) (by decide)).gM (m1.gM hgm (by decide) (by decide) (by decide) (by decide)) (by decide) (by decide) (by decide) (by decide)
    obtain ⟨σm1, p1, p2, cm, bm, p3⟩ := m_countAll hr hgm1 ⟨f3.1, f3.2⟩ f4
    rw [p1, Option.bind_some] at f6
    have e1 : sI σm1 1 = 1 := by rw [p2.1 1 (by decide)]; rfl
    have frm : Fr [1] [6, 7, 8] [0, 1] σm σm1 := ((m1.mono (by decide) (by decide) (by decide)).tr (Fr.uI (by decide))).tr (p2.mono (by decide) (by decide) (by decide))
    rw [if_pos (by rw [f1]; rfl), f6]
    have hgx3 := x2.gX hgx (by decide) (by decide) (by decide) (by decide)
    rcases hf with hf | hf
    · rw [if_neg (fun z => z (by rw [x2.1 0 (by decide)]; exact hf.1))]
      obtain ⟨σ7, q1, q2, cx, bx, q3⟩ := x_fill hr hgx3 hNX
      rw [q1, Option.bind_some]
      refine ⟨0, uI σ7 0 1, σm1, rfl, rfl, Or.inr ⟨rfl, e1, hr, f1, tt_of hr (q3.frame rfl rfl) p3⟩, ((x2.mono (by decide) (by decide) (by decide)).tr (q2.mono (by decide) (by decide) (by decide))).tr (Fr.uI (by decide)), frm⟩
    · have hs1 : sI σ3 0 = 1 := by rw [x2.1 0 (by decide)]; exact hf.1
      rw [hs1, if_pos (by decide)]
      obtain ⟨c, b, qx, qm⟩ := hf.2.2.2.2
      exact ⟨0, σ3, σm1, rfl, rfl, Or.inr ⟨hs1, e1, hr, f1, tt_of hr (qx.frame (x2.2.2 0 (by decide)) (x2.2.2 1 (by decide))) p3⟩, x2.mono (by decide) (by decide) (by decide), frm⟩
theorem x_size_t (a : Int32) : TF (P_X10_isSize a) (0 ≤ a.toInt ∧ a.toInt ≤ 24) := by
  apply TF.of
  have t24 : (24 : Int32).toInt = 24 := by decide
  unfold P_X10_isSize
  simp only [I32lt, t0, t24]
  repeat' split
  all_goals first | (left; refine ⟨rfl, ?_⟩; omega) | (right; refine ⟨rfl, ?_⟩; omega)
theorem m_size_t (a : Int32) : TF (P_X11_isSize a) (0 ≤ a.toInt ∧ a.toInt ≤ 24) := by
  have hi := isIn_t a 0 24
  rw [w0, show (24 : Int64).toInt = 24 by decide] at hi
  unfold P_X11_isSize
  apply TF.of
  rcases hi.cases with ⟨h1, h2⟩ | ⟨h1, h2⟩
  · rw [h1]; exact Or.inl ⟨rfl, h2⟩
  · rw [h1]; exact Or.inr ⟨rfl, h2⟩
theorem x_many_told (v : Int64) : P_X10_orMany v = P_X11_told v := rfl
theorem rd_count {g : List N3} {hs : List (List N3)} {σx σm : SS} (h : GH g hs σx σm) (hf : Rf g σx σm) (a1 a2 : Int32) : ∃ r : Int64, P_X10_count a1 a2 σx = some r ∧ P_X11_count a1 a2 σm = some r := by
  obtain ⟨hd, hgx, hgm, -, -⟩ := h
  have hl := hd.1
  unfold P_X10_count P_X11_count
  rcases (x_has hgx hl a1).cases with ⟨h1, h2⟩ | ⟨h1, h2⟩
  · rw [h1, (m_isShape hgm hl a1).1 h2, Option.bind_some, Option.bind_some, ii1, ii1]
    rcases (x_size_t a2).cases with ⟨h3, h4⟩ | ⟨h3, h4⟩
    · rw [h3, (m_size_t a2).1 h4, Option.bind_some, Option.bind_some, in1, in1]
      rcases hf with hf | ⟨f1, f2, hr, -, c, b, qx, qm⟩
      · rw [hf.1, hf.2, ii0, ii0]
        exact ⟨_, rfl, rfl⟩
      · obtain ⟨x, hx, ex, rfl⟩ := of_nI h2.1
        obtain ⟨s, hs, es, rfl⟩ := of_nI h4.1
        rw [f1, f2, ii1, ii1, x_of qx.1 (by omega) (by omega), m_of qm.1 (by omega) (by omega), Option.bind_some, Option.bind_some, x_many_told]
        unfold P_X11_told
        split <;> exact ⟨_, rfl, rfl⟩
    · rw [h3, (m_size_t a2).2 h4, Option.bind_some, Option.bind_some, in0, in0]
      exact ⟨_, rfl, rfl⟩
  · rw [h1, (m_isShape hgm hl a1).2 h2, Option.bind_some, Option.bind_some, ii0, ii0]
    exact ⟨_, rfl, rfl⟩
theorem rd_upTo {g : List N3} {hs : List (List N3)} {σx σm : SS} (h : GH g hs σx σm) (hf : Rf g σx σm) (a1 a2 : Int32) : ∃ r : Int64, P_X10_upTo a1 a2 σx = some r ∧ P_X11_upTo a1 a2 σm = some r := by
  obtain ⟨hd, hgx, hgm, -, -⟩ := h
  have hl := hd.1
  unfold P_X10_upTo P_X11_upTo
  rcases (x_has hgx hl a1).cases with ⟨h1, h2⟩ | ⟨h1, h2⟩
  · rw [h1, (m_isShape hgm hl a1).1 h2, Option.bind_some, Option.bind_some, ii1, ii1]
    rcases (x_size_t a2).cases with ⟨h3, h4⟩ | ⟨h3, h4⟩
    · rw [h3, (m_size_t a2).1 h4, Option.bind_some, Option.bind_some, in1, in1]
      rcases hf with hf | ⟨f1, f2, hr, -, c, b, qx, qm⟩
      · rw [hf.1, hf.2, in0, in0]
        exact ⟨_, rfl, rfl⟩
      · obtain ⟨x, hx, ex, rfl⟩ := of_nI h2.1
        obtain ⟨s, hs, es, rfl⟩ := of_nI h4.1
        rw [f1, f2, in1, in1]
        have loop : ∀ (d i v : Nat) (fu : Nat), i + d = s + 1 → d < fu → v ≤ LIM → ∃ r, P_X10_upTo_j38 σx fu (nI x) (nI s) (lN v) (nI i) = some r ∧ P_X11_upTo_j35 σm fu (nI x) (nI s) (lN v) (nI i) = some r := by
          intro d
          induction d with
          | zero =>
            intro i v fu h1 h2 hv
            obtain ⟨fu, rfl⟩ : ∃ k, fu = k + 1 := ⟨fu - 1, by omega⟩
            rw [P_X10_upTo_j38, P_X11_upTo_j35, if_pos (nI_lt (by omega) (by omega)), if_pos (nI_lt (by omega) (by omega)), x_many_told]
            unfold P_X11_told
            split <;> exact ⟨_, rfl, rfl⟩
          | succ d ih =>
            intro i v fu h1 h2 hv
            obtain ⟨fu, rfl⟩ : ∃ k, fu = k + 1 := ⟨fu - 1, by omega⟩
            rw [P_X10_upTo_j38, P_X11_upTo_j35, if_neg (nI_nlt (by omega) (by omega)), if_neg (nI_nlt (by omega) (by omega)), x_of qx.1 (by omega) (by omega), m_of qm.1 (by omega) (by omega), Option.bind_some, Option.bind_some, x_plus hv (qx.1 x (by omega) i (by omega)).2, m_plus hv (qx.1 x (by omega) i (by omega)).2, Option.bind_some, Option.bind_some, nI_1]
            exact ih (i + 1) _ fu (by omega) (by omega) (sat_le _)
        exact loop (s + 1) 0 0 FU (by omega) (by unfold FU; omega) (Nat.zero_le _)
    · rw [h3, (m_size_t a2).2 h4, Option.bind_some, Option.bind_some, in0, in0]
      exact ⟨_, rfl, rfl⟩
  · rw [h1, (m_isShape hgm hl a1).2 h2, Option.bind_some, Option.bind_some, ii0, ii0]
    exact ⟨_, rfl, rfl⟩
theorem rd_parts {g : List N3} {hs : List (List N3)} {σx σm : SS} (h : GH g hs σx σm) (hf : Rf g σx σm) (a1 a2 a3 : Int32) : ∃ r : Int64, P_X10_parts a1 a2 a3 σx = some r ∧ P_X11_parts a1 a2 a3 σm = some r := by
  obtain ⟨hd, hgx, hgm, -, -⟩ := h
  have hl := hd.1
  unfold P_X10_parts P_X11_parts
  rcases (x_has hgx hl a1).cases with ⟨h1, h2⟩ | ⟨h1, h2⟩
  · rw [h1, (m_isShape hgm hl a1).1 h2, Option.bind_some, Option.bind_some, ii1, ii1]
    rcases (x_has hgx hl a2).cases with ⟨h5, h6⟩ | ⟨h5, h6⟩
    · rw [h5, (m_isShape hgm hl a2).1 h6, Option.bind_some, Option.bind_some, ii1, ii1]
      rcases (x_size_t a3).cases with ⟨h3, h4⟩ | ⟨h3, h4⟩
      · rw [h3, (m_size_t a3).1 h4, Option.bind_some, Option.bind_some, in1, in1]
        rcases hf with hf | ⟨f1, f2, hr, -, c, b, qx, qm⟩
        · rw [hf.1, hf.2, in0, in0]
          exact ⟨_, rfl, rfl⟩
        · obtain ⟨x, hx, ex, rfl⟩ := of_nI h2.1
          obtain ⟨y, hy, ey, rfl⟩ := of_nI h6.1
          obtain ⟨s, hs, es, rfl⟩ := of_nI h4.1
          rw [f1, f2, in1, in1]
          have loop : ∀ (d i : Nat) (fu : Nat), i + d = s + 1 → d < fu → ∃ r, P_X10_parts_j47 σx fu (nI x) (nI y) (nI s) (nI i) = some r ∧ P_X11_parts_j41 σm fu (nI x) (nI y) (nI s) (nI i) = some r := by
            intro d
            induction d with
            | zero =>
              intro i fu h1 h2
              obtain ⟨fu, rfl⟩ : ∃ k, fu = k + 1 := ⟨fu - 1, by omega⟩
              rw [P_X10_parts_j47, P_X11_parts_j41, if_pos (nI_lt (by omega) (by omega)), if_pos (nI_lt (by omega) (by omega))]
              exact ⟨_, rfl, rfl⟩
            | succ d ih =>
              intro i fu h1 h2
              obtain ⟨fu, rfl⟩ : ∃ k, fu = k + 1 := ⟨fu - 1, by omega⟩
              rw [P_X10_parts_j47, P_X11_parts_j41, if_neg (nI_nlt (by omega) (by omega)), if_neg (nI_nlt (by omega) (by omega)), x_of qx.1 (by omega) (by omega), m_of qm.1 (by omega) (by omega), Option.bind_some, Option.bind_some, x_of qx.1 (by omega) (by omega), m_of qm.1 (by omega) (by omega), Option.bind_some, Option.bind_some, nI_1]
              split
              · exact ih (i + 1) fu (by omega) (by omega)
              · exact ⟨_, rfl, rfl⟩
          exact loop (s + 1) 0 FU (by omega) (by unfold FU; omega)
      · rw [h3, (m_size_t a3).2 h4, Option.bind_some, Option.bind_some, in0, in0]
        exact ⟨_, rfl, rfl⟩
    · rw [h5, (m_isShape hgm hl a2).2 h6, Option.bind_some, Option.bind_some, ii0, ii0]
      exact ⟨_, rfl, rfl⟩
  · rw [h1, (m_isShape hgm hl a1).2 h2, Option.bind_some, Option.bind_some, ii0, ii0]
    exact ⟨_, rfl, rfl⟩
theorem rd_state {g : List N3} {hs : List (List N3)} {σx σm : SS} (h : GH g hs σx σm) (hf : Rf g σx σm) {n n' : Nat} (ht : Sb 19 19 3 4 n σx σm) (ho : Sb 20 20 4 5 n' σx σm) (a : Int32) : ∃ r : Int64, P_X10_state a σx = some r ∧ P_X11_state a σm = some r := by
  obtain ⟨hd, hgx, hgm, hh, ds, hc, hdx⟩ := h
  unfold P_X10_state P_X11_state P_X1_size P_X0_length_8 P_X0_length_9 P_X2_size
  simp only [Option.bind_some]
  have e5 : sI σx 0 = sI σm 1 := by
    rcases hf with hf | hf
    · rw [hf.1, hf.2]
    · rw [hf.1, hf.2.1]
  rw [hgx.1, hgm.1, ht.2.1, ht.2.2.1, ho.2.1, ho.2.2.1, hdx.1, hh.1, hc.len, e5]
  repeat' split
  all_goals exact ⟨_, rfl, rfl⟩
