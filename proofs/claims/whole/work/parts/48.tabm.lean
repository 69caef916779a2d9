/-! the reference's tables -/
theorem pos25 {x s : Nat} : (25 : Int32) * nI x + nI s = nI (25 * x + s) := by rw [show (25 : Int32) * nI x = nI (25 * x) from nI_mul 25 x, nI_add]
theorem m_of {c : Nat → Nat → Nat} {σ : SS} (h : CT c σ) {x s : Nat} (hx : x < 16) (hs : s ≤ 24) : P_X11_countOf (nI x) (nI s) σ = some (lN (c x s)) := by
  unfold P_X11_countOf
  rw [pos25, gI_nI (by omega) (by decide), ldL_nI (by omega), (h x hx s hs).1]
def im (x s t : Nat) : Nat := 25 * (25 * x + s) + t
theorem im_pos {x s t : Nat} : (25 : Int32) * (25 * nI x + nI s) + nI t = nI (im x s t) := by rw [pos25, pos25]; rfl
theorem im_inj {x s t x' s' t' : Nat} (hs : s ≤ 24) (ht : t ≤ 24) (hs' : s' ≤ 24) (ht' : t' ≤ 24) (h : im x s t = im x' s' t') : x = x' ∧ s = s' ∧ t = t' := by
  unfold im at h
  omega
theorem im_lt {x s t : Nat} (hx : x < 16) (hs : s ≤ 24) (ht : t ≤ 24) : im x s t < 10000 := by unfold im; omega
def BM (b : Nat → Nat → Nat → Nat) (σ : SS) (x s t : Nat) : Prop := sL σ 1 (im x s t) = lN (BB b x s t) ∧ BB b x s t ≤ LIM
theorem m_upTo {b : Nat → Nat → Nat → Nat} {σ : SS} {x s t : Nat} (hx : x < 16) (hs : s ≤ 24) (ht : t ≤ 24) (h : BM b σ x s t) : P_X11_upToOf (nI x) (nI s) (nI t) σ = some (lN (BB b x s t)) := by
  have := im_lt hx hs ht
  unfold P_X11_upToOf
  rw [im_pos, gI_nI this (by decide), ldL_nI (by omega), h.1]
theorem m_below {g : List N3} {σ : SS} {b : Nat → Nat → Nat → Nat} (hg : gM' g σ) (hd : GdL g) {x s h num : Nat} (hx : x < g.length) (hk : isB56 g x) (hs : s ≤ 24) (hh : 1 ≤ h) (hh2 : h ≤ 24) (hn : num ≤ LIM) (hB : ∀ k, k * h ≤ s → BM b σ x (s - k * h) (h - 1)) : P_X11_waysBelow (nI x) (nI s) (nI h) (lN num) σ = some (lN (sat (WB (apt g x) (BB b x) s h num))) := by
  have hL := LIM_lt
  have h16 : x < 16 := Nat.lt_of_lt_of_le hx hd.1
  obtain ⟨e0, e1, e2⟩ := gM_at hg hx
  obtain ⟨l0, l1, l2⟩ := gd_lt hd hx
  have loop : ∀ (d i : Nat) (fu : Nat), i + d = s / h + 1 → d < fu → P_X11_waysBelow_j6 σ fu (nI x) (nI s) (nI h) (lN num) (lN (sat (sumN (fun k => wy (apt g x) num k * BB b x (s - k * h) (h - 1)) i))) (nI i) = some (lN (sat (WB (apt g x) (BB b x) s h num))) := by
    intro d
    induction d with
    | zero =>
      intro i fu h1 h2
      obtain ⟨fu, rfl⟩ : ∃ k, fu = k + 1 := ⟨fu - 1, by omega⟩
      have e : i = s / h + 1 := by omega
      have hlt : s < i * h := by rw [e]; exact Nat.lt_mul_of_div_lt (by omega) (by omega)
      have hi25 : i ≤ 25 := by rw [e]; have := Nat.div_le_self s h; omega
      have hih : i * h < 2 ^ 31 := by
        have : i * h ≤ 25 * 24 := Nat.mul_le_mul hi25 hh2
        omega
      subst e
      unfold P_X11_waysBelow_j6
      rw [nI_mul, if_pos (nI_lt hlt hih)]
      rfl
    | succ d ih =>
      intro i fu h1 h2
      obtain ⟨fu, rfl⟩ : ∃ k, fu = k + 1 := ⟨fu - 1, by omega⟩
      have hle : i * h ≤ s := (Nat.le_div_iff_mul_le (by omega)).mp (by omega)
      have hi24 : i ≤ 24 := by have := Nat.div_le_self s h; omega
      have hbe := hB i hle
      have key : P_X11_waysBelow_j36 σ (P_X11_waysBelow_j6 σ fu) (nI x) (nI s) (nI h) (lN num) (nI i) (b2i (apt g x)) (nI i) (lN num) (lN (sat (sumN (fun k => wy (apt g x) num k * BB b x (s - k * h) (h - 1)) i))) = some (lN (sat (WB (apt g x) (BB b x) s h num))) := by
        unfold P_X11_waysBelow_j36
        rw [m_ways hi24 hn, Option.bind_some, nI_mul, nI_sub hle, show nI h - 1 = nI (h - 1) from nI_sub (b := 1) hh, m_upTo h16 (by omega) (by omega) hbe, Option.bind_some, m_times (sat_le _) (Nat.lt_of_le_of_lt hbe.2 hL), Option.bind_some, m_plus (sat_le _) (sat_le _), Option.bind_some, sat_mulL, sat_addL, sat_addR, nI_1]
        exact ih (i + 1) fu (by omega) (by omega)
      unfold P_X11_waysBelow_j6
      rw [nI_mul, if_neg (nI_nlt hle (by omega)), gI_nI h16 (by decide), ldA_nI (by omega), e0]
      rcases hk with k5 | k6
      · have ea : apt g x = false := by unfold apt; simp [k5]
        rw [ea] at key ⊢
        rw [k5, if_pos (by decide)]
        exact key
      · have ea : apt g x = true := by unfold apt; simp [k6]
        rw [ea] at key ⊢
        rw [k6, if_neg (fun z => z rfl)]
        exact key
  have hfu : s / h + 1 < FU := by have := Nat.div_le_self s h; unfold FU; omega
  exact loop (s / h + 1) 0 FU (by omega) hfu
theorem m_countSets {g : List N3} {c : Nat → Nat → Nat} {b : Nat → Nat → Nat → Nat} {σ : SS} (hg : gM' g σ) (hd : GdL g) (hc : CT c σ) {x s : Nat} (hx : x < g.length) (hB : isB56 g x) (hs : s ≤ 24) (hb : ∀ t, t < s → ∀ u, u ≤ 24 → BM b σ x t u) : ∃ σ', P_X11_countSets (nI x) (nI s) σ = some σ' ∧ Fr [] [] [1] σ σ' ∧ (∀ u, u ≤ 24 → BM (upR g c b x s) σ' x s u) ∧ ∀ i, (∀ u, u ≤ 24 → i ≠ im x s u) → sL σ' 1 i = sL σ 1 i := by
  have h16 : x < 16 := Nat.lt_of_lt_of_le hx hd.1
  obtain ⟨l0, l1, l2⟩ := gd_lt hd hx
  have loop : ∀ (d i : Nat) (σ1 : SS) (fu : Nat), i + d = 25 → 1 ≤ i → d < fu → Fr [] [] [1] σ σ1 → (∀ u, u < i → sL σ1 1 (im x s u) = lN (rowB g c b x s (min u s))) → (∀ j, (∀ u, u ≤ 24 → j ≠ im x s u) → sL σ1 1 j = sL σ 1 j) → ∃ σ', P_X11_countSets_j28 fu (nI x) (nI s) (nI (im x s 0)) (nI i) σ1 = some σ' ∧ Fr [] [] [1] σ σ' ∧ (∀ u, u ≤ 24 → BM (upR g c b x s) σ' x s u) ∧ ∀ i, (∀ u, u ≤ 24 → i ≠ im x s u) → sL σ' 1 i = sL σ 1 i := by
    intro d
    induction d with
    | zero =>
      intro i σ1 fu h1 h0 h2 hf hr ho
      obtain ⟨fu, rfl⟩ : ∃ k, fu = k + 1 := ⟨fu - 1, by omega⟩
      unfold P_X11_countSets_j28
      rw [show (25 : Int32) = nI 25 from rfl, if_pos (nI_le (by omega) (by omega))]
      refine ⟨σ1, rfl, hf, fun u hu => ?_, ho⟩
      unfold BM BB
      rw [upR_eq]
      exact ⟨hr u (by omega), rowB_le g c b x s _⟩
    | succ d ih =>
      intro i σ1 fu h1 h0 h2 hf hr ho
      obtain ⟨fu, rfl⟩ : ∃ k, fu = k + 1 := ⟨fu - 1, by omega⟩
      have him := im_lt h16 hs (show i ≤ 24 by omega)
      have him0 : im x s 0 + i = im x s i := rfl
      have fin : ∃ σ', P_X11_countSets_j83 (P_X11_countSets_j28 fu) (nI x) (nI s) (nI (im x s 0)) (nI i) (lN (rowB g c b x s (min i s))) (nI (im x s i)) σ1 = some σ' ∧ Fr [] [] [1] σ σ' ∧ (∀ u, u ≤ 24 → BM (upR g c b x s) σ' x s u) ∧ ∀ i, (∀ u, u ≤ 24 → i ≠ im x s u) → sL σ' 1 i = sL σ 1 i := by
        unfold P_X11_countSets_j83
        rw [gI_nI him (by decide), nI_1]
        refine ih (i + 1) _ fu (by omega) (by omega) (by omega) (hf.tr (Fr.stL (by decide))) (fun u hu => ?_) (fun j hj => ?_)
        · rw [sL_stN (by omega), updL_at]
          by_cases e : u = i
          · subst e; rw [if_pos rfl]
          · rw [if_neg (fun z => e (im_inj hs (by omega) hs (by omega) z).2.2)]
            exact hr u (by omega)
        · rw [sL_stN (by omega), updL_at, if_neg (hj i (by omega))]
          exact ho j hj
      unfold P_X11_countSets_j28
      rw [show (25 : Int32) = nI 25 from rfl, if_neg (nI_ge (by omega) (by omega)), nI_add, him0]
      by_cases his : i ≤ s
      · have hg1 := hf.gM hg (by decide) (by decide) (by decide) (by decide)
        have hc1 := hc.frame (hf.2.2 0 (by decide))
        have e1 := (gM_at hg1 hx).2.1
        have hbel := m_below (b := upR g c b x s) hg1 hd hx hB hs h0 (show i ≤ 24 by omega) (hc1 (fa g x) (by omega) i (by omega)).2 (by
          intro k hk
          unfold BM BB
          by_cases e : s - k * i = s
          · rw [e, upR_eq]
            exact ⟨hr (i - 1) (by omega), rowB_le g c b x s _⟩
          · rw [upR_ne (by omega), ho _ (fun u hu z => e (im_inj (by omega) (by omega) hs hu z).2.1)]
            exact hb _ (by omega) _ (by omega))
        have hrow : sat (WB (apt g x) (BB (upR g c b x s) x) s i (c (fa g x) i)) = rowB g c b x s (min i s) := by
          rw [show min i s = i by omega, upR_RB i (by omega)]
          unfold RB
          rw [if_neg (by omega)]
        rw [if_pos (nI_le his (by omega)), gI_nI h16 (by decide), ldA_nI (by omega), e1, m_of hc1 (by omega) (by omega), Option.bind_some, hbel, Option.bind_some, hrow]
        exact fin
      · have hpr : nI (im x s i) - 1 = nI (im x s (i - 1)) := by
          rw [show nI (im x s i) - 1 = nI (im x s i - 1) from nI_sub (b := 1) (by unfold im; omega)]
          congr 1
          unfold im
          omega
        have him1 := im_lt h16 hs (show i - 1 ≤ 24 by omega)
        rw [if_neg (fun z => his ((nI_leI (by omega) (by omega)).mp z)), hpr, gI_nI him1 (by decide), ldL_nI (by omega), hr (i - 1) (by omega), show min (i - 1) s = min i s by omega]
        exact fin
  have hib := im_lt h16 hs (Nat.zero_le 24)
  have start : ∀ v : Int64, v = lN (rowB g c b x s 0) → ∃ σ', P_X11_countSets_j24 (nI x) (nI s) (nI (im x s 0)) v (nI (im x s 0)) σ = some σ' ∧ Fr [] [] [1] σ σ' ∧ (∀ u, u ≤ 24 → BM (upR g c b x s) σ' x s u) ∧ ∀ i, (∀ u, u ≤ 24 → i ≠ im x s u) → sL σ' 1 i = sL σ 1 i := by
    intro v hv
    unfold P_X11_countSets_j24
    rw [gI_nI hib (by decide)]
    refine loop 24 1 _ FU (by omega) (by omega) (by unfold FU; omega) (Fr.stL (by decide)) (fun u hu => ?_) (fun j hj => ?_)
    · have : u = 0 := by omega
      subst this
      rw [sL_stN (by omega), updL_at, if_pos rfl, hv, Nat.zero_min]
    · rw [sL_stN (by omega), updL_at, if_neg (hj 0 (by omega))]
  have epos : (25 : Int32) * (25 * nI x + nI s) = nI (im x s 0) := by rw [pos25]; exact nI_mul 25 _
  unfold P_X11_countSets
  rw [epos]
  by_cases s0 : s = 0
  · rw [if_neg (fun z => z (by rw [s0]; rfl))]
    exact start 1 (by unfold rowB; rw [if_pos s0]; rfl)
  · rw [if_pos (show ¬ nI s = 0 from fun z => s0 ((nI_eq (b := 0) (by omega) (by decide)).mp z))]
    exact start 0 (by unfold rowB; rw [if_neg s0]; rfl)
theorem m_countRow {g : List N3} (hr : Rdy g) {c : Nat → Nat → Nat} {σ : SS} (hg : gM' g σ) (hc : CT c σ) (hz : Zc g c) {x s : Nat} (hx : x < g.length) (hk : kd g x = 4) (hs : s ≤ 24) : P_X11_countRow (nI x) (nI s) σ = some (lN (if s = 0 then 1 else sat (sumN (fun h => c (fa g x) h * c x (s - h)) (s + 1)))) := by
  have hL := LIM_lt
  have hd := hr.1
  have h16 : x < 16 := Nat.lt_of_lt_of_le hx hd.1
  obtain ⟨e0, e1, e2⟩ := gM_at hg hx
  obtain ⟨l0, l1, l2⟩ := gd_lt hd hx
  have la := (hr.2.1 x hx).1 (by omega) (by omega)
  have c0 : c (fa g x) 0 = 0 := hz _ la (noE_a hr hx (by omega) (by omega))
  have loop : ∀ (d i : Nat) (fu : Nat), i + d = s + 1 → d < fu → P_X11_countRow_j13 σ fu (nI x) (nI s) (lN (sat (sumN (fun h => c (fa g x) h * c x (s - h)) i))) (nI i) = some (lN (sat (sumN (fun h => c (fa g x) h * c x (s - h)) (s + 1)))) := by
    intro d
    induction d with
    | zero =>
      intro i fu h1 h2
      obtain ⟨fu, rfl⟩ : ∃ k, fu = k + 1 := ⟨fu - 1, by omega⟩
      have e : i = s + 1 := by omega
      subst e
      unfold P_X11_countRow_j13
      rw [if_pos (nI_lt (by omega) (by omega))]
    | succ d ih =>
      intro i fu h1 h2
      obtain ⟨fu, rfl⟩ : ∃ k, fu = k + 1 := ⟨fu - 1, by omega⟩
      unfold P_X11_countRow_j13
      rw [if_neg (nI_nlt (by omega) (by omega)), gI_nI h16 (by decide), ldA_nI (by omega), e1, m_of hc (by omega) (by omega), Option.bind_some, nI_sub (by omega), m_of hc h16 (by omega), Option.bind_some, m_times (hc _ (by omega) _ (by omega)).2 (Nat.lt_of_le_of_lt (hc _ h16 _ (by omega)).2 hL), Option.bind_some, m_plus (sat_le _) (sat_le _), Option.bind_some, sat_addL, sat_addR, nI_1]
      exact ih (i + 1) fu (by omega) (by omega)
  unfold P_X11_countRow P_X11_countRow_j9
  by_cases s0 : s = 0
  · rw [if_neg (fun z => z (by rw [s0]; rfl)), if_pos s0]
    show P_X11_countRow_j13 σ FU (nI x) (nI s) 1 1 = _
    obtain ⟨fu, hfu⟩ : ∃ k, FU = k + 1 := ⟨99999, rfl⟩
    rw [hfu]
    unfold P_X11_countRow_j13
    rw [if_pos (by rw [s0]; decide)]
    rfl
  · rw [if_pos (show ¬ nI s = 0 from fun z => s0 ((nI_eq (b := 0) (by omega) (by decide)).mp z)), if_neg s0]
    have := loop s 1 FU (by omega) (by unfold FU; omega)
    rw [show sumN (fun h => c (fa g x) h * c x (s - h)) 1 = 0 + c (fa g x) 0 * c x (s - 0) from rfl, c0, Nat.zero_mul] at this
    exact this
theorem m_countBoth {g : List N3} (hr : Rdy g) {c : Nat → Nat → Nat} {σ : SS} (hg : gM' g σ) (hE : EM (EE g) σ) (hc : CT c σ) (hz : Zc g c) {x s : Nat} (hx : x < g.length) (hk : kd g x = 2) (hs : s ≤ 24) : P_X11_countBoth (nI x) (nI s) σ = some (lN (sat (sumN (fun h => c (fa g x) h * c (fb g x) (s - h)) (s + 1)))) := by
  have hL := LIM_lt
  have hd := hr.1
  have hl := hd.1
  have h16 : x < 16 := Nat.lt_of_lt_of_le hx hd.1
  obtain ⟨e0, e1, e2⟩ := gM_at hg hx
  obtain ⟨l0, l1, l2⟩ := gd_lt hd hx
  have la := (hr.2.1 x hx).1 (by omega) (by omega)
  have lb := (hr.2.1 x hx).2 (Or.inl hk)
  have loop : ∀ (d i : Nat) (fu : Nat), i + d = s + 1 → d < fu → P_X11_countBoth_j5 σ fu (nI x) (nI s) (lN (sat (sumN (fun h => c (fa g x) h * c (fb g x) (s - h)) i))) (nI i) = some (lN (sat (sumN (fun h => c (fa g x) h * c (fb g x) (s - h)) (s + 1)))) := by
    intro d
    induction d with
    | zero =>
      intro i fu h1 h2
      obtain ⟨fu, rfl⟩ : ∃ k, fu = k + 1 := ⟨fu - 1, by omega⟩
      have e : i = s + 1 := by omega
      subst e
      unfold P_X11_countBoth_j5
      rw [if_pos (nI_lt (by omega) (by omega))]
    | succ d ih =>
      intro i fu h1 h2
      obtain ⟨fu, rfl⟩ : ∃ k, fu = k + 1 := ⟨fu - 1, by omega⟩
      have take : P_X11_countBoth_j50 σ (P_X11_countBoth_j5 σ fu) (nI x) (nI s) (lN (sat (sumN (fun h => c (fa g x) h * c (fb g x) (s - h)) i))) (nI i) = some (lN (sat (sumN (fun h => c (fa g x) h * c (fb g x) (s - h)) (s + 1)))) := by
        unfold P_X11_countBoth_j50 P_X11_countBoth_j55 P_X11_countBoth_j99
        rw [if_neg (by decide), gI_nI h16 (by decide), ldA_nI (by omega), e1, m_of hc (by omega) (by omega), Option.bind_some, gI_nI h16 (by decide), ldA_nI (by omega), e2, nI_sub (by omega), m_of hc (by omega) (by omega), Option.bind_some, m_times (hc _ (by omega) _ (by omega)).2 (Nat.lt_of_le_of_lt (hc _ (by omega) _ (by omega)).2 hL), Option.bind_some, m_plus (sat_le _) (sat_le _), Option.bind_some, sat_addL, sat_addR, nI_1]
        exact ih (i + 1) fu (by omega) (by omega)
      have skip : c (fa g x) i * c (fb g x) (s - i) = 0 → P_X11_countBoth_j54 σ (P_X11_countBoth_j5 σ fu) (nI x) (nI s) (lN (sat (sumN (fun h => c (fa g x) h * c (fb g x) (s - h)) i))) (nI i) = some (lN (sat (sumN (fun h => c (fa g x) h * c (fb g x) (s - h)) (s + 1)))) := by
        intro z
        unfold P_X11_countBoth_j54 P_X11_countBoth_j55 P_X11_countBoth_j99
        rw [if_pos rfl, nI_1]
        have := ih (i + 1) fu (by omega) (by omega)
        rw [show sumN (fun h => c (fa g x) h * c (fb g x) (s - h)) (i + 1) = sumN (fun h => c (fa g x) h * c (fb g x) (s - h)) i + c (fa g x) i * c (fb g x) (s - i) from rfl, z, Nat.add_zero] at this
        exact this
      have j31 : P_X11_countBoth_j31 σ (P_X11_countBoth_j5 σ fu) (nI x) (nI s) (lN (sat (sumN (fun h => c (fa g x) h * c (fb g x) (s - h)) i))) (nI i) = some (lN (sat (sumN (fun h => c (fa g x) h * c (fb g x) (s - h)) (s + 1)))) := by
        unfold P_X11_countBoth_j31
        by_cases i0 : i = 0
        · subst i0
          rw [if_neg (by decide), gI_nI h16 (by decide), ldA_nI (by omega), e1, gI_nI (by omega) (by decide), ldA_nI (by omega), hE.1 _ (by omega)]
          cases hEa : EE g (fa g x) with
          | false =>
            rw [b2i_f, if_pos rfl]
            exact skip (by rw [hz _ la hEa, Nat.zero_mul])
          | true =>
            rw [b2i_t, if_neg (by decide)]
            exact take
        · rw [if_pos (show (0 : Int32) < nI i from nI_lt (a := 0) (by omega) (by omega))]
          exact take
      unfold P_X11_countBoth_j5
      rw [if_neg (nI_nlt (by omega) (by omega))]
      by_cases his : i < s
      · rw [if_pos (nI_lt his (by omega))]
        exact j31
      · have e : i = s := by omega
        rw [if_neg (nI_nlt (by omega) (by omega)), gI_nI h16 (by decide), ldA_nI (by omega), e2, gI_nI (by omega) (by decide), ldA_nI (by omega), hE.1 _ (by omega)]
        cases hEb : EE g (fb g x) with
        | false =>
          rw [b2i_f, if_pos rfl]
          exact skip (by rw [e, Nat.sub_self, hz _ lb hEb, Nat.mul_zero])
        | true =>
          rw [b2i_t, if_neg (by decide)]
          exact j31
  exact loop (s + 1) 0 FU (by omega) (by unfold FU; omega)
