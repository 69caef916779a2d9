/-! thing -/
theorem x_at10 {σ : SS} {n i : Nat} (h : sI σ 21 = nI n) (hn : n ≤ 300) (hi : i < n) : P_X0_at_10 (nI i) σ = some (sA σ 21 i) := by
  unfold P_X0_at_10
  rw [h, if_neg (nI_ge hi (by omega)), vX6_at_37 (by omega), Option.bind_some]
theorem x_add9 {σ : SS} {n : Nat} {v : Int32} (h : sI σ 20 = nI n) (hn : n < 300) : P_X0_add_9 v σ = some (1, uI (stA σ 20 (nI n) (v &&& 255)) 20 (nI n + 1)) := by
  unfold P_X0_add_9
  rw [h, if_neg (nI_pos (by omega)), show (300 : Int32) = nI 300 from rfl, if_pos (nI_lt hn (by decide)), gI_nI hn (by decide), sI_stA, h]
theorem x_copy910 (σ0 : SS) (n : Nat) (hn : n ≤ 300) (h20 : sI σ0 21 = nI n) (hB : ∀ i, i < n → isB (sA σ0 21 i)) : ∀ (m i : Nat) (σ : SS) (fu : Nat), i + m = n → m < fu → Fr [20] [20] [] σ0 σ → sI σ 20 = nI i → (∀ j, j < i → sA σ 20 j = sA σ0 21 j) →
    ∃ σ', P_X0_copy_9_10_j7 fu (nI i) σ = some σ' ∧ Fr [20] [20] [] σ0 σ' ∧ sI σ' 20 = nI n ∧ ∀ j, j < n → sA σ' 20 j = sA σ0 21 j := by
  intro m
  induction m with
  | zero =>
    intro i σ fu h1 h2 hF h3 hI
    obtain ⟨fu, rfl⟩ : ∃ k, fu = k + 1 := ⟨fu - 1, by omega⟩
    have e : i = n := by omega
    subst e
    refine ⟨σ, ?_, hF, h3, hI⟩
    unfold P_X0_copy_9_10_j7
    rw [hF.1 21 (by decide), h20, if_pos (nI_le (Nat.le_refl _) (by omega))]
  | succ m ih =>
    intro i σ fu h1 h2 hF h3 hI
    obtain ⟨fu, rfl⟩ : ∃ k, fu = k + 1 := ⟨fu - 1, by omega⟩
    have e20 : sI σ 21 = nI n := (hF.1 21 (by decide)).trans h20
    have eA : sA σ 21 = sA σ0 21 := hF.2.1 21 (by decide)
    unfold P_X0_copy_9_10_j7
    rw [e20, if_neg (nI_ge (by omega) (by omega)), x_at10 e20 hn (by omega), Option.bind_some, x_add9 h3 (by omega), eA, (hB i (by omega)).and]
    simp only [b2, nI_1]
    refine ih (i + 1) _ fu (by omega) (by omega) ?_ rfl ?_
    · exact (hF.tr (Fr.stA (by decide))).tr (Fr.uI (by decide))
    · intro j hj
      rw [sA_uI, sA_stN (by omega), upd_at]
      by_cases e : j = i
      · rw [if_pos e, e]
      · rw [if_neg e]
        exact hI j (by omega)
theorem m_j93 (σ0 : SS) (n : Nat) (hn : n ≤ 300) (h4 : sI σ0 4 = nI n) : ∀ (m i : Nat) (σ : SS) (fu : Nat), i + m = n → m < fu → Fr [] [5] [] σ0 σ → (∀ j, j < i → sA σ 5 j = sA σ0 9 j) →
    ∃ σ', P_X11_thing_j93 fu (nI i) σ = some ((nI n).toInt64, σ') ∧ Fr [] [5] [] σ0 σ' ∧ ∀ j, j < n → sA σ' 5 j = sA σ0 9 j := by
  intro m
  induction m with
  | zero =>
    intro i σ fu h1 h2 hF hI
    obtain ⟨fu, rfl⟩ : ∃ k, fu = k + 1 := ⟨fu - 1, by omega⟩
    have e : i = n := by omega
    subst e
    refine ⟨σ, ?_, hF, hI⟩
    unfold P_X11_thing_j93
    rw [hF.1 4 (by decide), h4, if_pos (nI_le (Nat.le_refl _) (by omega))]
  | succ m ih =>
    intro i σ fu h1 h2 hF hI
    obtain ⟨fu, rfl⟩ : ∃ k, fu = k + 1 := ⟨fu - 1, by omega⟩
    unfold P_X11_thing_j93
    rw [hF.1 4 (by decide), h4, if_neg (nI_ge (by omega) (by omega)), gI_nI (by omega) (by decide), gI_nI (by omega) (by decide), ldA_nI (by omega), hF.2.1 9 (by decide), nI_1]
    refine ih (i + 1) _ fu (by omega) (by omega) (hF.tr (Fr.stA (by decide))) ?_
    intro j hj
    rw [sA_stN (by omega), upd_at]
    by_cases e : j = i
    · rw [if_pos e, e]
    · rw [if_neg e]
      exact hI j (by omega)
theorem x_shorten {σ : SS} (h : DR σ) : ∃ σ', P_X0_shorten_10 0 σ = some σ' ∧ Fr [21] [] [] σ σ' ∧ sI σ' 21 = nI 0 := by
  obtain ⟨n, hn, e⟩ := h
  unfold P_X0_shorten_10
  rw [e, if_neg (by decide)]
  by_cases z : n = 0
  · subst z
    rw [if_pos (by decide)]
    exact ⟨σ, rfl, Fr.rf, e⟩
  · rw [if_neg (fun w => by have := (nI_leI (b := 0) (by omega) (by omega)).mp w; omega)]
    exact ⟨_, rfl, Fr.uI (by decide), rfl⟩
theorem th_tell {g : List N3} {c : Nat → Nat → Nat} {b : Nat → Nat → Nat → Nat} {σx σm : SS} (C : CTX g c b σx σm) (hD : DR σx) {x s v : Nat} (hx : x < g.length) (hs : s ≤ 24) (hv : v < c x s) : ∃ σm' σx' k, P_X11_thingOf LV (nI x) (nI s) (lN v) (uI σm 5 0) = some σm' ∧ FM σm σm' ∧ sI σm' 5 = nI k ∧ k < 1000 ∧ FX σx σx' ∧ DR σx' ∧ ((k ≤ 300 ∧ P_X9_tell (nI x) (nI s) (lN v) σx = some (1, σx') ∧ Sb 21 21 5 9 k σx' σm') ∨ (300 < k ∧ P_X9_tell (nI x) (nI s) (lN v) σx = some (0, σx'))) := by
  obtain ⟨σ2, p1, p2, p3⟩ := x_shorten hD
  have st0 : Stk [] (uI σ2 8 0) := ⟨rfl, by simp, fun j u hj => by simp at hj⟩
  obtain ⟨q1, q2, q3, q4⟩ := st0.push (by simp) 1 x s v
  have F4 : FX σx (psh (uI σ2 8 0) ([] : List It).length 1 x s v) := ((p2.mono (by decide) (by decide) (by decide)).tr (Fr.uI (by decide))).tr (q3.mono (by decide) (by decide) (by decide))
  have eT : P_X9_tell (nI x) (nI s) (lN v) σx = Tl 0 (psh (uI σ2 8 0) ([] : List It).length 1 x s v) := by
    unfold P_X9_tell Tl
    rw [p1, Option.bind_some, show (1 : Int32) = nI 1 from rfl, q1, Option.bind_some]
    rfl
  have B : BTH σx σm (P_X9_tell (nI x) (nI s) (lN v) σx) 0 0 [(1, x, s, v)] (uI σm 5 0) := ⟨Fr.uI (by decide), rfl, Or.inl ⟨by decide, by decide, _, F4, ⟨by decide, p3, rfl, fun i hi => absurd hi (by omega)⟩, q2, eT.symm⟩⟩
  obtain ⟨σm', k', t', u1, u2, u3, u4, u5⟩ := whole C _ x s v rfl hx hs hv LV 0 0 [] (uI σm 5 0) _ (by decide) (by decide) (by decide) (fun _ => ⟨by decide, by decide⟩) B
  obtain ⟨v1, v2, v3⟩ := u5
  have hk : k' < 1000 := by
    have : LV = 310 := rfl
    omega
  rcases v3 with ⟨z1, z2, σx', z3, z4, z5, z6⟩ | ⟨z1, σx', z3, zd, z4⟩
  · refine ⟨σm', σx', k', u1, v1, v2, hk, z3, ⟨k', z1, z4.2.1⟩, Or.inl ⟨z1, ?_, z4⟩⟩
    rw [← z6, tl_end z5 (by omega)]
  · exact ⟨σm', σx', k', u1, v1, v2, hk, z3, zd, Or.inr ⟨z1, z4⟩⟩
theorem th_thing {g : List N3} {hs : List (List N3)} {σx σm : SS} (h : GH g hs σx σm) (hf : Rf g σx σm) {n : Nat} (ho : Sb 20 20 4 5 n σx σm) (hD : DR σx) (a1 a2 : Int32) (a3 : Int64) : ∃ (r : Int64) (σx1 σm1 : SS), P_X10_thing a1 a2 a3 σx = some (r, σx1) ∧ P_X11_thing a1 a2 a3 σm = some (r, σm1) ∧ (∃ n', Sb 20 20 4 5 n' σx1 σm1) ∧ DR σx1 ∧ Fr [8, 9, 20, 21] [8, 9, 10, 20, 21] [2] σx σx1 ∧ Fr [4, 5] [5, 9] [] σm σm1 := by
  have hLM := LIM_lt
  obtain ⟨hd, hgx, hgm, -, -⟩ := h
  have hl := hd.1
  have same : ∀ r : Int64, ∃ (r' : Int64) (σx1 σm1 : SS), some (r, σx) = some (r', σx1) ∧ some (r, σm) = some (r', σm1) ∧ (∃ n', Sb 20 20 4 5 n' σx1 σm1) ∧ DR σx1 ∧ Fr [8, 9, 20, 21] [8, 9, 10, 20, 21] [2] σx σx1 ∧ Fr [4, 5] [5, 9] [] σm σm1 := fun r => ⟨r, σx, σm, rfl, rfl, ⟨n, ho⟩, hD, Fr.rf, Fr.rf⟩
  unfold P_X10_thing P_X11_thing
  rcases (x_has hgx hl a1).cases with ⟨h1, h2⟩ | ⟨h1, h2⟩
  · rw [h1, (m_isShape hgm hl a1).1 h2, Option.bind_some, Option.bind_some, ii1, ii1]
    rcases (x_size_t a2).cases with ⟨h3, h4⟩ | ⟨h3, h4⟩
    · rw [h3, (m_size_t a2).1 h4, Option.bind_some, Option.bind_some, ii1, ii1]
      have hi := isIn_c a3 0 9999999999999999
      rw [w0, show (9999999999999999 : Int64).toInt = 9999999999999999 by decide] at hi
      have n1 : a3 < 0 ↔ a3.toInt < 0 := by rw [I64lt, w0]
      have n2 : a3 < 10000000000000000 ↔ a3.toInt < 10000000000000000 := by rw [I64lt, show (10000000000000000 : Int64).toInt = 10000000000000000 by decide]
      rcases hi with ⟨h5, h6⟩ | ⟨h5, h6⟩
      · rw [h5, Option.bind_some, in1, if_neg (fun w => by have := n1.mp w; omega), if_pos (n2.mpr (by omega))]
        rcases hf with hf | ⟨f1, f2, hr, -, c, b, qx, qm⟩
        · rw [hf.1, hf.2, in0, in0]
          exact same _
        · obtain ⟨x, hx, ex, rfl⟩ := of_nI h2.1
          obtain ⟨s, hs, es, rfl⟩ := of_nI h4.1
          obtain ⟨v, hv, rfl⟩ : ∃ v : Nat, v < LIM ∧ a3 = lN v := by
            refine ⟨a3.toInt.toNat, by unfold LIM; omega, ?_⟩
            rw [← Int64.toInt_inj, lN_toInt' (by omega)]
            omega
          have hcl := (qx.1 x (by omega) s (by omega)).2
          rw [f1, f2, in1, in1, x_of qx.1 (by omega) (by omega), m_of qm.1 (by omega) (by omega), Option.bind_some, Option.bind_some]
          by_cases z : v < c x s
          · have z' := (lN_ltB (a := v) (b := c x s) (by omega) (by omega)).mpr z
            rw [if_pos z', if_pos z']
            have C : CTX g c b σx σm := ⟨hr, hgx, hgm, qx, qm⟩
            obtain ⟨σm', σx', k, t1, t2, t3, t4, t5, t6, t7⟩ := th_tell C hD (show x < g.length by omega) (show s ≤ 24 by omega) z
            have t5' : Fr [8, 9, 20, 21] [8, 9, 10, 20, 21] [2] σx σx' := t5.mono (by decide) (by decide) (by decide)
            have t2' : Fr [4, 5] [5, 9] [] σm σm' := t2.mono (by decide) (by decide) (by decide)
            rw [t1, Option.bind_some, t3, show (300 : Int32) = nI 300 from rfl]
            rcases t7 with ⟨k3, y1, y2⟩ | ⟨k3, y1⟩
            · rw [y1, b2_some, in1, if_pos (nI_le k3 (by decide))]
              obtain ⟨σ1, e1, e2, e3, e4⟩ := x_copy910 σx' k k3 y2.2.1 (fun i hi => (y2.2.2.2 i hi).2) k 0 (uI σx' 20 0) FU (by omega) (by unfold FU; omega) (Fr.uI (by decide)) rfl (fun j hj => absurd hj (by omega))
              obtain ⟨σ2, d1, d2, d3⟩ := m_j93 (uI σm' 4 (nI k)) k k3 rfl k 0 (uI σm' 4 (nI k)) FU (by omega) (by unfold FU; omega) Fr.rf (fun j hj => absurd hj (by omega))
              have eC : P_X0_copy_9_10 σx' = some σ1 := e1
              rw [eC, Option.bind_some, show (0 : Int32) = nI 0 from rfl, d1]
              unfold P_X0_length_9
              rw [Option.bind_some, e3]
              refine ⟨_, σ1, σ2, rfl, rfl, ⟨k, k3, e3, d2.1 4 (by decide), fun i hi => ?_⟩, ⟨k, k3, (e2.1 21 (by decide)).trans y2.2.1⟩, t5'.tr (e2.mono (by decide) (by decide) (by decide)), (t2'.tr (Fr.uI (by decide))).tr (d2.mono (by decide) (by decide) (by decide))⟩
              rw [e4 i hi, d3 i hi]
              exact y2.2.2.2 i hi
            · rw [y1, b2_some, in0, if_neg (fun w => by have := (nI_leI (by omega) (by decide)).mp w; omega)]
              refine ⟨_, σx', σm', rfl, rfl, ⟨n, ho.frame (t5.1 20 (by decide)) (t5.2.1 20 (by decide)) (t2.1 4 (by decide)) (t2.2.1 5 (by decide))⟩, t6, t5', t2'⟩
          · have z' : ¬ lN v < lN (c x s) := fun w => z ((lN_ltB (by omega) (by omega)).mp w)
            rw [if_neg z', if_neg z']
            exact same _
      · rw [h5, Option.bind_some, in0]
        by_cases z : a3 < 0
        · rw [if_pos z]
          exact same _
        · rw [if_neg z, if_neg (fun w => by have w1 := n2.mp w; have w2 : ¬ a3.toInt < 0 := fun u => z (n1.mpr u); omega)]
          exact same _
    · rw [h3, (m_size_t a2).2 h4, Option.bind_some, Option.bind_some, ii0, ii0]
      exact same _
  · rw [h1, (m_isShape hgm hl a1).2 h2, Option.bind_some, Option.bind_some, ii0, ii0]
    exact same _
