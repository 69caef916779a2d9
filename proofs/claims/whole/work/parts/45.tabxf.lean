/-! the class fills its tables -/
theorem CT.frame {c : Nat → Nat → Nat} {σ σ' : SS} (h : CT c σ) (e : sL σ' 0 = sL σ 0) : CT c σ' := by
  intro x hx s hs
  rw [e]
  exact h x hx s hs
theorem x_fillBags {g : List N3} {c : Nat → Nat → Nat} {b : Nat → Nat → Nat → Nat} {σ : SS} (hg : gX' g σ) (hd : GdL g) (hc : CT c σ) {x s : Nat} (hx : x < g.length) (hB : isB56 g x) (hs : s ≤ 24) (hb : ∀ t, t < s → ∀ u, u ≤ t → BE b σ x t u) : ∃ σ', P_X8_fillBags (nI x) (nI s) σ = some σ' ∧ Fr [] [] [1] σ σ' ∧ (∀ u, u ≤ s → BE (upR g c b x s) σ' x s u) ∧ ∀ i, (∀ u, u ≤ s → i ≠ ib x s u) → sL σ' 1 i = sL σ 1 i := by
  have h16 : x < 16 := Nat.lt_of_lt_of_le hx hd.1
  obtain ⟨l0, l1, l2⟩ := gd_lt hd hx
  have loop : ∀ (d i : Nat) (σ1 : SS) (fu : Nat), i + d = s + 1 → 1 ≤ i → d < fu → Fr [] [] [1] σ σ1 → (∀ u, u < i → sL σ1 1 (ib x s u) = lN (rowB g c b x s u)) → (∀ j, (∀ u, u ≤ s → j ≠ ib x s u) → sL σ1 1 j = sL σ 1 j) → ∃ σ', P_X8_fillBags_j26 fu (nI x) (nI s) (nI (ib x s 0)) (nI i) σ1 = some σ' ∧ Fr [] [] [1] σ σ' ∧ (∀ u, u ≤ s → BE (upR g c b x s) σ' x s u) ∧ ∀ i, (∀ u, u ≤ s → i ≠ ib x s u) → sL σ' 1 i = sL σ 1 i := by
    intro d
    induction d with
    | zero =>
      intro i σ1 fu h1 h0 h2 hf hr ho
      obtain ⟨fu, rfl⟩ : ∃ k, fu = k + 1 := ⟨fu - 1, by omega⟩
      unfold P_X8_fillBags_j26
      rw [if_pos (nI_lt (by omega) (by omega))]
      refine ⟨σ1, rfl, hf, fun u hu => ?_, ho⟩
      unfold BE
      rw [upR_eq]
      exact ⟨hr u (by omega), rowB_le g c b x s u⟩
    | succ d ih =>
      intro i σ1 fu h1 h0 h2 hf hr ho
      obtain ⟨fu, rfl⟩ : ∃ k, fu = k + 1 := ⟨fu - 1, by omega⟩
      have hg1 := hf.gX hg (by decide) (by decide) (by decide) (by decide)
      have hc1 := hc.frame (hf.2.2 0 (by decide))
      have e1 := (gX_at hg1 hx).2.1
      have hbel := x_below (b := upR g c b x s) hg1 hd hx hB hs h0 (show i ≤ 24 by omega) (hc1 (fa g x) (by omega) i (by omega)).2 (by
        intro k hk
        unfold BE
        by_cases e : s - k * i = s
        · rw [e, upR_eq, show min (i - 1) s = i - 1 by omega]
          exact ⟨hr (i - 1) (by omega), rowB_le g c b x s _⟩
        · rw [upR_ne (by omega), ho _ (fun u hu z => e (ib_inj (by omega) (by omega) hs hu z).2.1)]
          exact hb _ (by omega) _ (by omega))
      have hrow : sat (WB (apt g x) (BB (upR g c b x s) x) s i (c (fa g x) i)) = rowB g c b x s i := by
        rw [upR_RB i (by omega)]
        unfold RB
        rw [if_neg (by omega)]
      unfold P_X8_fillBags_j26
      rw [if_neg (nI_nlt (by omega) (by omega)), x_a h16, Option.bind_some, e1, x_of hc1 (by omega) (by omega), Option.bind_some, hbel, Option.bind_some, hrow, show nI (ib x s 0) + nI i = nI (ib x s i) from nI_add _ _, vX6_set__20 (ib_lt h16 hs (by omega)), Option.bind_some, nI_1]
      have hib := ib_lt h16 hs (show i ≤ s by omega)
      refine ih (i + 1) _ fu (by omega) (by omega) (by omega) (hf.tr (Fr.stL (by decide))) (fun u hu => ?_) (fun j hj => ?_)
      · rw [sL_stN (by omega), updL_at]
        by_cases e : u = i
        · subst e; rw [if_pos rfl]
        · rw [if_neg (fun z => e (ib_inj hs (by omega) hs (by omega) z).2.2)]
          exact hr u (by omega)
      · rw [sL_stN (by omega), updL_at, if_neg (hj i (by omega))]
        exact ho j hj
  have hib := ib_lt h16 hs (Nat.zero_le s)
  have start : ∀ v : Int64, v = lN (rowB g c b x s 0) → ∃ σ', P_X8_fillBags_j20 (nI x) (nI s) (nI (ib x s 0)) v (nI (ib x s 0)) σ = some σ' ∧ Fr [] [] [1] σ σ' ∧ (∀ u, u ≤ s → BE (upR g c b x s) σ' x s u) ∧ ∀ i, (∀ u, u ≤ s → i ≠ ib x s u) → sL σ' 1 i = sL σ 1 i := by
    intro v hv
    unfold P_X8_fillBags_j20
    rw [vX6_set__20 hib, Option.bind_some]
    refine loop s 1 _ FU (by omega) (by omega) (by unfold FU; omega) (Fr.stL (by decide)) (fun u hu => ?_) (fun j hj => ?_)
    · have : u = 0 := by omega
      subst this
      rw [sL_stN (by omega), updL_at, if_pos rfl, hv]
    · rw [sL_stN (by omega), updL_at, if_neg (hj 0 (by omega))]
  unfold P_X8_fillBags
  rw [x_row h16 hs, Option.bind_some]
  by_cases s0 : s = 0
  · rw [if_neg (fun z => z (by rw [s0]; rfl))]
    exact start 1 (by unfold rowB; rw [if_pos s0]; rfl)
  · rw [if_pos (show ¬ nI s = 0 from fun z => s0 ((nI_eq (b := 0) (by omega) (by decide)).mp z))]
    exact start 0 (by unfold rowB; rw [if_neg s0]; rfl)
theorem x_low {g : List N3} {σ : SS} (hg : gX' g σ) (hd : GdL g) {x : Nat} (hx : x < g.length) : P_X1_low (nI x) σ = some (nI (fb g x / 32)) := by
  obtain ⟨l0, l1, l2⟩ := gd_lt hd hx
  unfold P_X1_low
  rw [x_b (Nat.lt_of_lt_of_le hx hd.1), Option.bind_some, (gX_at hg hx).2.2, nI_shr5 (by omega)]
theorem x_high {g : List N3} {σ : SS} (hg : gX' g σ) (hd : GdL g) {x : Nat} (hx : x < g.length) : P_X1_high (nI x) σ = some (nI (fb g x % 32)) := by
  unfold P_X1_high
  rw [x_b (Nat.lt_of_lt_of_le hx hd.1), Option.bind_some, (gX_at hg hx).2.2, nI_and31]
theorem fct_le : ∀ n, n ≤ 8 → fct n ≤ LIM := by decide
theorem x_reckon {g : List N3} (hr : Rdy g) {c : Nat → Nat → Nat} {b : Nat → Nat → Nat → Nat} {σ : SS} (hg : gX' g σ) (hc : CT c σ) {x s : Nat} (hx : x < g.length) (hs : s ≤ 24) (hb : isB56 g x → ∀ t, t < s → ∀ u, u ≤ t → BE b σ x t u) : ∃ b' σ', P_X8_reckon (nI x) (nI s) σ = some (lN (Rv g c b' x s), σ') ∧ Rv g c b' x s ≤ LIM ∧ Fr [] [] [1] σ σ' ∧ (∀ y t u, ¬ (y = x ∧ t = s) → b' y t u = b y t u) ∧ (isB56 g x → ∀ t, t ≤ s → b' x s t = RB g c b' x s t ∧ BE b' σ' x s t) ∧ ∀ i, (∀ u, u ≤ s → i ≠ ib x s u) → sL σ' 1 i = sL σ 1 i := by
  have hd := hr.1
  have h16 : x < 16 := Nat.lt_of_lt_of_le hx hd.1
  obtain ⟨e0, e1, e2⟩ := gX_at hg hx
  obtain ⟨l0, l1, l2⟩ := gd_lt hd hx
  have ok := gd_at hd hx
  have L1 : 1 ≤ LIM := by decide
  have plain : ∀ v : Nat, v ≤ LIM → ¬ isB56 g x → v = Rv g c b x s → P_X8_reckon (nI x) (nI s) σ = some (lN v, σ) → ∃ b' σ', P_X8_reckon (nI x) (nI s) σ = some (lN (Rv g c b' x s), σ') ∧ Rv g c b' x s ≤ LIM ∧ Fr [] [] [1] σ σ' ∧ (∀ y t u, ¬ (y = x ∧ t = s) → b' y t u = b y t u) ∧ (isB56 g x → ∀ t, t ≤ s → b' x s t = RB g c b' x s t ∧ BE b' σ' x s t) ∧ ∀ i, (∀ u, u ≤ s → i ≠ ib x s u) → sL σ' 1 i = sL σ 1 i := by
    intro v hv hn hRv hP
    subst hRv
    exact ⟨b, σ, hP, hv, Fr.rf, fun _ _ _ _ => rfl, fun z => absurd z hn, fun _ _ => rfl⟩
  have bags : isB56 g x → (P_X8_reckon (nI x) (nI s) σ = P_X8_reckon_j142 (nI x) (nI s) σ) → ∃ b' σ', P_X8_reckon (nI x) (nI s) σ = some (lN (Rv g c b' x s), σ') ∧ Rv g c b' x s ≤ LIM ∧ Fr [] [] [1] σ σ' ∧ (∀ y t u, ¬ (y = x ∧ t = s) → b' y t u = b y t u) ∧ (isB56 g x → ∀ t, t ≤ s → b' x s t = RB g c b' x s t ∧ BE b' σ' x s t) ∧ ∀ i, (∀ u, u ≤ s → i ≠ ib x s u) → sL σ' 1 i = sL σ 1 i := by
    intro hB hP
    obtain ⟨σ', q1, q2, q3, q4⟩ := x_fillBags hg hd hc hx hB hs (hb hB)
    have eRv : Rv g c (upR g c b x s) x s = rowB g c b x s s := by
      unfold Rv
      rcases hB with k | k <;> simp [k, upR_eq]
    refine ⟨upR g c b x s, σ', ?_, by rw [eRv]; exact rowB_le g c b x s s, q2, fun y t u z => upR_ne z, fun _ t ht => ⟨by rw [upR_eq]; exact upR_RB t ht, q3 t ht⟩, q4⟩
    rw [hP]
    unfold P_X8_reckon_j142
    rw [q1, Option.bind_some, show (24 : Int32) = nI 24 from rfl, x_upTo (b := upR g c b x s) h16 hs (by omega) (by rw [show min 24 s = s by omega]; exact q3 s (Nat.le_refl _)), Option.bind_some]
    unfold BB
    rw [show min 24 s = s by omega, upR_eq, eRv]
  have nl := hr.2.1 x hx
  unfold P_X8_reckon at plain bags ⊢
  rw [x_a h16, Option.bind_some, e1, x_kind h16, Option.bind_some, e0] at plain bags ⊢
  have cn : ∀ {α : Type} {p q : α} {n : Nat} {N : Int32}, N = nI n → n < 2 ^ 31 → (if nI (kd g x) = N then p else q) = (if kd g x = n then p else q) := by
    intro α p q n N hN hn
    subst hN
    by_cases z : kd g x = n
    · rw [if_pos z, if_pos (by rw [z])]
    · rw [if_neg z, if_neg (fun y => z ((nI_eq (by omega) hn).mp y))]
  rw [cn (n := 0) (N := 0) rfl (by decide), cn (n := 1) (N := 1) rfl (by decide), cn (n := 2) (N := 2) rfl (by decide), cn (n := 3) (N := 3) rfl (by decide), cn (n := 4) (N := 4) rfl (by decide), cn (n := 5) (N := 5) rfl (by decide), cn (n := 6) (N := 6) rfl (by decide), cn (n := 7) (N := 7) rfl (by decide), cn (n := 8) (N := 8) rfl (by decide)] at plain bags ⊢
  have eqs : ∀ {n : Nat}, n ≤ 15 → (nI s = nI n ↔ s = n) := fun hn => nI_eq (by omega) (by omega)
  rcases (show kd g x = 0 ∨ kd g x = 1 ∨ kd g x = 2 ∨ kd g x = 3 ∨ kd g x = 4 ∨ kd g x = 5 ∨ kd g x = 6 ∨ kd g x = 7 ∨ kd g x = 8 by omega) with k | k | k | k | k | k | k | k | k
  · have hn : ¬ isB56 g x := by unfold isB56; omega
    rw [if_pos k] at plain ⊢
    by_cases z : s = fa g x
    · refine plain 1 L1 hn (by unfold Rv; rw [if_pos k, if_pos z]) ?_
      rw [if_neg (fun y => y (by rw [z]))]
      rfl
    · refine plain 0 (by omega) hn (by unfold Rv; rw [if_pos k, if_neg z]) ?_
      rw [if_pos (show ¬ nI s = nI (fa g x) from fun y => z ((eqs l1).mp y))]
      rfl
  · have hn : ¬ isB56 g x := by unfold isB56; omega
    have k0 : ¬ kd g x = 0 := by omega
    rw [if_neg k0, if_pos k] at plain ⊢
    by_cases z : s = 0
    · refine plain 1 L1 hn (by unfold Rv; rw [if_neg k0, if_pos k, if_pos z]) ?_
      rw [if_neg (fun y => y (by rw [z]; rfl))]
      rfl
    · refine plain 0 (by omega) hn (by unfold Rv; rw [if_neg k0, if_pos k, if_neg z]) ?_
      rw [if_pos (show ¬ nI s = 0 from fun y => z ((eqs (n := 0) (by omega)).mp y))]
      rfl
  · have hn : ¬ isB56 g x := by unfold isB56; omega
    have k0 : ¬ kd g x = 0 := by omega
    have k1 : ¬ kd g x = 1 := by omega
    rw [if_neg k0, if_neg k1, if_pos k] at plain ⊢
    refine plain _ (sat_le _) hn ?_ (by rw [x_ledAll hg hd hc hx (Or.inl k) hs, Option.bind_some])
    unfold Rv tlS
    rw [if_neg k0, if_neg k1, if_pos k, if_pos k]
  · have hn : ¬ isB56 g x := by unfold isB56; omega
    have k0 : ¬ kd g x = 0 := by omega
    have k1 : ¬ kd g x = 1 := by omega
    have k2 : ¬ kd g x = 2 := by omega
    have la := nl.1 (by omega) (by omega)
    have lb := nl.2 (Or.inr k)
    have hl := hd.1
    rw [if_neg k0, if_neg k1, if_neg k2, if_pos k] at plain ⊢
    refine plain _ (sat_le (c (fa g x) s + c (fb g x) s)) hn ?_ ?_
    · unfold Rv
      rw [if_neg k0, if_neg k1, if_neg k2, if_pos k]
    · rw [x_of hc (by omega) hs, Option.bind_some, x_b h16, Option.bind_some, e2, x_of hc (by omega) hs, Option.bind_some, x_plus (hc _ (by omega) s hs).2 (hc _ (by omega) s hs).2, Option.bind_some]
  · have hn : ¬ isB56 g x := by unfold isB56; omega
    have k0 : ¬ kd g x = 0 := by omega
    have k1 : ¬ kd g x = 1 := by omega
    have k2 : ¬ kd g x = 2 := by omega
    have k3 : ¬ kd g x = 3 := by omega
    rw [if_neg k0, if_neg k1, if_neg k2, if_neg k3, if_pos k] at plain ⊢
    by_cases z : s = 0
    · refine plain 1 L1 hn (by unfold Rv; rw [if_neg k0, if_neg k1, if_neg k2, if_neg k3, if_pos k, if_pos z]) ?_
      rw [if_neg (fun y => y (by rw [z]; rfl))]
      rfl
    · refine plain _ (sat_le _) hn ?_ (by rw [if_pos (show ¬ nI s = 0 from fun y => z ((eqs (n := 0) (by omega)).mp y)), x_ledAll hg hd hc hx (Or.inr k) hs, Option.bind_some])
      unfold Rv tlS
      rw [if_neg k0, if_neg k1, if_neg k2, if_neg k3, if_pos k, if_neg z, if_neg k2]
  · refine bags (Or.inl k) ?_
    rw [if_neg (by omega), if_neg (by omega), if_neg (by omega), if_neg (by omega), if_neg (by omega), if_pos k]
  · refine bags (Or.inr k) ?_
    rw [if_neg (by omega), if_neg (by omega), if_neg (by omega), if_neg (by omega), if_neg (by omega), if_neg (by omega), if_pos k]
  · have hn : ¬ isB56 g x := by unfold isB56; omega
    have la := nl.1 (by omega) (by omega)
    have hl := hd.1
    have eR : Rv g c b x s = if fb g x / 32 ≤ s ∧ s ≤ fb g x % 32 then c (fa g x) s else 0 := by
      unfold Rv
      rw [if_neg (by omega), if_neg (by omega), if_neg (by omega), if_neg (by omega), if_neg (by omega), if_neg (by omega), if_neg (by omega), if_pos k]
    rw [if_neg (by omega), if_neg (by omega), if_neg (by omega), if_neg (by omega), if_neg (by omega), if_neg (by omega), if_neg (by omega), if_pos k, x_low hg hd hx, Option.bind_some, x_high hg hd hx, Option.bind_some, x_of hc (by omega) hs, Option.bind_some] at plain ⊢
    by_cases z1 : s < fb g x / 32
    · refine plain 0 (by omega) hn (by rw [eR, if_neg (by omega)]) ?_
      rw [if_pos (nI_lt z1 (by omega))]
      rfl
    · rw [if_neg (nI_nlt (by omega) (by omega))] at plain ⊢
      by_cases z2 : fb g x % 32 < s
      · refine plain 0 (by omega) hn (by rw [eR, if_neg (by omega)]) ?_
        rw [if_pos (nI_lt z2 (by omega))]
        rfl
      · refine plain (c (fa g x) s) (hc _ (by omega) s hs).2 hn (by rw [eR, if_pos (by omega)]) ?_
        rw [if_neg (nI_nlt (by omega) (by omega))]
  · have hn : ¬ isB56 g x := by unfold isB56; omega
    have eR : Rv g c b x s = if s = fa g x then fct s else 0 := by
      unfold Rv
      rw [if_neg (by omega), if_neg (by omega), if_neg (by omega), if_neg (by omega), if_neg (by omega), if_neg (by omega), if_neg (by omega), if_neg (by omega), if_pos k]
    have ha8 : fa g x ≤ 8 := by unfold okI at ok; omega
    rw [if_neg (by omega), if_neg (by omega), if_neg (by omega), if_neg (by omega), if_neg (by omega), if_neg (by omega), if_neg (by omega), if_neg (by omega), if_pos k] at plain ⊢
    by_cases z : s = fa g x
    · refine plain (fct s) (fct_le s (by omega)) hn (by rw [eR, if_pos z]) ?_
      rw [if_neg (fun y => y (by rw [z])), x_orders ha8, Option.bind_some, z]
    · refine plain 0 (by omega) hn (by rw [eR, if_neg z]) ?_
      rw [if_pos (show ¬ nI s = nI (fa g x) from fun y => z ((eqs l1).mp y))]
      rfl
