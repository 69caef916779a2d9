/-! the class's ranker: letters, and the number of a node -/
theorem one_shl {l : Nat} (hl : l < 32) : (1 : Int32) <<< (nI l &&& 31) = nI (2 ^ l) := by
  apply b_ext
  intro i hi
  rw [bt_one hl hi, bt_nI (2 ^ l) hi, Nat.testBit_two_pow]
  exact decide_eq_decide.mpr ⟨fun h => h.symm, fun h => h.symm⟩
theorem tb255 : ∀ i, i < 8 → Nat.testBit 255 i = true := by decide
theorem below_bits {u l : Nat} (hl : l < 8) : ∃ M, M < 256 ∧ (((1 : Int32) <<< (nI l &&& 31)) - 1) &&& (nI u ^^^ (-1)) = nI M ∧ ∀ j, M.testBit j = (decide (j < l) && !u.testBit j) := by
  have hp : 1 ≤ 2 ^ l := Nat.one_le_two_pow
  have h2 : 2 ^ l < 2 ^ 8 := Nat.pow_lt_pow_right (by decide) hl
  have bits : ∀ j, ((2 ^ l - 1) &&& (u ^^^ 255)).testBit j = (decide (j < l) && !u.testBit j) := by
    intro j
    rw [Nat.testBit_and, Nat.testBit_two_pow_sub_one, Nat.testBit_xor]
    by_cases z : j < l
    · rw [decide_eq_true z, tb255 j (by omega), Bool.true_and, Bool.true_and, Bool.xor_true]
    · rw [decide_eq_false z, Bool.false_and, Bool.false_and]
  refine ⟨(2 ^ l - 1) &&& (u ^^^ 255), ?_, ?_, bits⟩
  · have : (2 ^ l - 1) &&& (u ^^^ 255) ≤ 2 ^ l - 1 := Nat.and_le_left
    omega
  · rw [one_shl (by omega), show nI (2 ^ l) - 1 = nI (2 ^ l - 1) from nI_sub (b := 1) hp]
    apply b_ext
    intro i hi
    rw [b_and, b_xor, bt_nI _ hi, bt_nI _ hi, b_m1 i hi, bt_nI _ hi, bits i, Nat.testBit_two_pow_sub_one, Bool.xor_true]
theorem uc_cE (E : Nat → Bool) : ∀ d p, uc E d p = cE (fun j => !E (p + j)) d
  | 0, p => rfl
  | d + 1, p => by
    rw [uc, uc_cE E d (p + 1), Nat.add_comm d 1, cE_add (fun j => !E (p + j)) 1 d]
    have e1 : cE (fun j => !E (p + j)) 1 = if E p = true then 0 else 1 := by
      show 0 + (if (!E (p + 0)) = true then 1 else 0) = _
      rw [Nat.add_zero]
      cases E p <;> rfl
    rw [e1]
    congr 1
    apply cE_congr
    intro j hj
    rw [Nat.add_assoc]
theorem cE_zero {E : Nat → Bool} : ∀ m, (∀ j, j < m → E j = false) → cE E m = 0
  | 0, _ => rfl
  | m + 1, h => by
    show cE E m + (if E m = true then 1 else 0) = 0
    rw [cE_zero m (fun j hj => h j (by omega)), h m (by omega)]
    rfl
theorem below_cnt {u l M : Nat} (hl : l < 8) (hM : M < 256) (h : ∀ j, M.testBit j = (decide (j < l) && !u.testBit j)) : bc M = uc (fun j => u.testBit j) l 0 := by
  rw [bc_pop (by omega), uc_cE, show 16 = l + (16 - l) by omega, cE_add]
  rw [cE_zero (E := fun j => M.testBit (l + j)) (16 - l) (fun j hj => by rw [h, decide_eq_false (by omega), Bool.false_and]), Nat.add_zero]
  apply cE_congr
  intro j hj
  rw [h, decide_eq_true hj, Bool.true_and, Nat.zero_add]
theorem LU_lt {tp : Nat → Nat} {p0 many : Nat} (hm : many ≤ 8) (lo : LOK tp p0 many many) : ∀ t, t ≤ many → LU tp p0 t < 256
  | 0, _ => Nat.lt_of_lt_of_le Nat.zero_lt_one (by decide)
  | t + 1, h => by
    have := lo t (by omega)
    exact or_256 (LU_lt hm lo t (by omega)) (by omega)
theorem fct8 : ∀ k, k ≤ 8 → fct k ≤ 40320 := by decide
theorem uc_le (E : Nat → Bool) : ∀ d p, uc E d p ≤ d
  | 0, _ => Nat.le_refl _
  | d + 1, p => by
    have := uc_le E d (p + 1)
    rw [uc]
    split <;> omega
theorem LNm_le {tp : Nat → Nat} {p0 many : Nat} (hm : many ≤ 8) (lo : LOK tp p0 many many) : ∀ t, t ≤ many → LNm tp p0 many t ≤ t * 322560
  | 0, _ => Nat.zero_le _
  | t + 1, h => by
    have l := (lo t (by omega)).2
    have ih := LNm_le hm lo t (by omega)
    have u := uc_le (fun j => (LU tp p0 t).testBit j) (tp (p0 + t) - 97) 0
    have f := fct8 (many - 1 - t) (by omega)
    have : uc (fun j => (LU tp p0 t).testBit j) (tp (p0 + t) - 97) 0 * fct (many - 1 - t) ≤ 8 * 40320 := Nat.mul_le_mul (by omega) f
    rw [LNm]
    omega
section
variable {g : List N3} {c : Nat → Nat → Nat} {b : Nat → Nat → Nat → Nat} {tp : Nat → Nat} {n : Nat} {F : TB} {N : Nat} {U : Nat → Option Nat} {i m : Nat} {σ : SS}
theorem x_letN {many : Nat} (hX : XR g F N σ) (hi : i < N) (h19 : sI σ 19 = nI n) (hn : n ≤ 300) (htp : ∀ j, j < n → sA σ 19 j = nI (tp j) ∧ tp j < 256) (hm8 : many ≤ 8) (hp : F 1 i + 1 + many ≤ n) (lo : LOK tp (F 1 i + 1) many many) : P_X4_numberOfLetters (nI i) (nI many) σ = some (lN (LNm tp (F 1 i + 1) many many)) := by
  have hN := hX.2.1
  have loop : ∀ d t fu, t + d = many → d < fu → P_X4_numberOfLetters_j20 σ fu (nI many) (nI (F 1 i + 1)) (nI (LU tp (F 1 i + 1) t)) (lN (LNm tp (F 1 i + 1) many t)) (nI t) = some (lN (LNm tp (F 1 i + 1) many many)) := by
    intro d
    induction d with
    | zero =>
      intro t fu a1 a2
      obtain ⟨fu, rfl⟩ : ∃ k, fu = k + 1 := ⟨fu - 1, by omega⟩
      have e : t = many := by omega
      subst e
      rw [P_X4_numberOfLetters_j20, if_pos (nI_le (Nat.le_refl _) (by omega))]
    | succ d ih =>
      intro t fu a1 a2
      obtain ⟨fu, rfl⟩ : ∃ k, fu = k + 1 := ⟨fu - 1, by omega⟩
      obtain ⟨l1, l2⟩ := lo t (by omega)
      have lu := LU_lt hm8 lo t (by omega)
      obtain ⟨M, m1, m2, m3⟩ := below_bits (u := LU tp (F 1 i + 1) t) (l := tp (F 1 i + 1 + t) - 97) (by omega)
      have cn := below_cnt (by omega) m1 m3
      have ul := uc_le (fun j => (LU tp (F 1 i + 1) t).testBit j) (tp (F 1 i + 1 + t) - 97) 0
      rw [P_X4_numberOfLetters_j20, if_neg (nI_ge (by omega) (by omega)), nI_add, x_at8 h19 hn (by omega), Option.bind_some, (htp _ (by omega)).1, show nI (tp (F 1 i + 1 + t)) - 97 = nI (tp (F 1 i + 1 + t) - 97) from nI_sub (b := 97) l1, m2, bc_nI (by omega), Option.bind_some, show nI many - 1 = nI (many - 1) from nI_sub (b := 1) (by omega), nI_sub (by omega), x_orders (by omega), Option.bind_some, orb (by omega), cn, nI_l (by omega), lN_mul, lN_add, nI_1]
      exact ih (t + 1) fu (by omega) (by omega)
  unfold P_X4_numberOfLetters P_X5_placeAt
  rw [vX6_at_26 (by omega), Option.bind_some, Option.bind_some, (hX.2.2 i hi).2.2.1, nI_1]
  exact loop many 0 FU (by omega) (by unfold FU; omega)
abbrev FRK : SS → SS → Prop := Fr [15, 16, 18] [17, 18] [4]
/-- what the class knows before it reckons the number of a node -/
def XI (g : List N3) (c : Nat → Nat → Nat) (b : Nat → Nat → Nat → Nat) (tp : Nat → Nat) (n : Nat) (F : TB) (U : Nat → Option Nat) (N k : Nat) (σ : SS) : Prop := gX' g σ ∧ XT g c b σ (fun _ _ => True) ∧ XR g F N σ ∧ UX U k N σ ∧ sI σ 19 = nI n ∧ ∀ j, j < n → sA σ 19 j = nI (tp j) ∧ tp j < 256
theorem XI.fr {k : Nat} {σ' : SS} (h : XI g c b tp n F U N k σ) (f : Fr [15, 16, 17, 18] [17, 18] [4] σ σ') : XI g c b tp n F U N k σ' := by
  obtain ⟨h1, h2, h3, h4, h5, h6⟩ := h
  refine ⟨f.gX h1 (by decide) (by decide) (by decide) (by decide), h2.frame (f.2.2 0 (by decide)) (f.2.2 1 (by decide)), h3.frame (f.1 10 (by decide)) (fun k k1 k2 => f.2.1 k (by simp; omega)), h4.frame (f.2.2 3 (by decide)), (f.1 19 (by decide)).trans h5, fun j hj => ?_⟩
  rw [f.2.1 19 (by decide)]
  exact h6 j hj
/-- a test of a kind that was told -/
theorem kq {k : Nat} (j : Nat) {α : Type} {x y : α} (hk : k ≤ 8) (hj : j ≤ 8) : (if nI k = nI j then x else y) = if k = j then x else y := by
  by_cases z : k = j
  · rw [if_pos z, if_pos (by rw [z])]
  · rw [if_neg z, if_neg (fun w => z ((nI_eq (by omega) (by omega)).mp w))]
theorem x_value (hr : Rdy g) (hs : SB g tp n F 0 N) (ks : ∀ i, i < N → KS g tp n F i) (nb : ∀ i, i < N → ¬ brk g F i) (hz : ∀ j, j < N → F 4 j ≤ 24) (hn : n ≤ 300) (hi : i < N) (hk : Kd F i m) (h : XI g c b tp n F U N (i + 1) σ) (hP : PT F i m σ) (hu : ∀ t, t < m → ¬ U (kid F i t) = none) : ∃ σ', P_X4_numberOf_j41 (nI i) (nI (F 0 i)) (nI (kd g (F 0 i))) 0 σ = some (lN (nv g c b (F 0 i) (F 5 i) (F 4 i) m (fun t => F 4 (kid F i t)) (fun t => (U (kid F i t)).getD 0)), σ') ∧ Fr [16] [18] [4] σ σ' := by
  have hd := hr.1
  obtain ⟨h1, h2, h3, h4, h5, h6⟩ := h
  have hN := h3.2.1
  have hm := kd_m hs hN hi hk
  have hx := (hs.2.1 i (by omega) hi).1
  have h16 : F 0 i < 16 := Nat.lt_of_lt_of_le hx hd.1
  obtain ⟨g0, g1, g2⟩ := gX_at h1 hx
  obtain ⟨l0, l1, l2⟩ := gd_lt hd hx
  have ok := gd_at hd hx
  have hzi := hz i hi
  have w := fun t (ht : t < m) => (show U (kid F i t) = some ((U (kid F i t)).getD 0) ∧ (U (kid F i t)).getD 0 ≤ LIM by
    have k1 := (hk.2 t ht).1
    have bd := (h4 (kid F i t) (by omega) (kid_lt hs hi hk ht)).2
    cases e : U (kid F i t) with
    | none => exact absurd e (hu t ht)
    | some v => exact ⟨rfl, bd v e⟩)
  have Q : XQ g c b F U N i m (fun t => (U (kid F i t)).getD 0) σ := ⟨h1, h2, h3, hP, h4, w⟩
  have un : P_X4_hasUnknownPart σ = some 0 := (x_unknown hs h3 hi hk hP h4).2 (fun ⟨t, t1, t2⟩ => hu t t1 t2)
  have n1 : 0 < m → P_X4_numberAt (nI (i + 1)) σ = some (lN ((U (kid F i 0)).getD 0)) := fun hm0 => (Q.num hs hi hk hm0).2.2
  obtain ⟨q0, q2, q3, q7, q8, q4⟩ := ks i hi
  have e : P_X4_numberOf_j41 (nI i) (nI (F 0 i)) (nI (kd g (F 0 i))) 0 σ = if kd g (F 0 i) = 2 then (P_X4_numberOfBoth (nI i) (nI (F 0 i)) σ).bind fun v7 => some (v7, σ) else if kd g (F 0 i) = 3 then (P_X5_placeAt (nI i) σ).bind fun v10 => (P_X0_at_8 v10 σ).bind fun v12 => if ¬ v12 = 49 then P_X4_numberOf_j136 (nI i) (nI (F 0 i)) 0 σ else P_X4_numberOf_j136 (nI i) (nI (F 0 i)) 1 σ else if kd g (F 0 i) = 4 then (P_X4_numberOfRow (nI i) (nI (F 0 i)) σ).bind fun v16 => some (v16, σ) else if kd g (F 0 i) = 5 then b2 (P_X4_numberOfBag (nI i) (nI (F 0 i)) σ) fun v19 σ20 => some (v19, σ20) else if kd g (F 0 i) = 6 then b2 (P_X4_numberOfBag (nI i) (nI (F 0 i)) σ) fun v23 σ24 => some (v23, σ24) else if kd g (F 0 i) = 7 then (P_X4_numberAt (nI i + 1) σ).bind fun v27 => some (v27, σ) else if kd g (F 0 i) = 8 then (P_X1_a (nI (F 0 i)) σ).bind fun v30 => (P_X4_numberOfLetters (nI i) v30 σ).bind fun v32 => some (v32, σ) else some (0, σ) := by
    unfold P_X4_numberOf_j41
    rw [in0, un, Option.bind_some, if_pos rfl, ← kq 2 l0 (by decide), ← kq 3 l0 (by decide), ← kq 4 l0 (by decide), ← kq 5 l0 (by decide), ← kq 6 l0 (by decide), ← kq 7 l0 (by decide), ← kq 8 l0 (by decide)]
    rfl
  rw [e]
  unfold nv
  rcases (show kd g (F 0 i) ≤ 1 ∨ kd g (F 0 i) = 2 ∨ kd g (F 0 i) = 3 ∨ kd g (F 0 i) = 4 ∨ kd g (F 0 i) = 5 ∨ kd g (F 0 i) = 6 ∨ kd g (F 0 i) = 7 ∨ kd g (F 0 i) = 8 by omega) with k | k | k | k | k | k | k | k
  · rw [if_neg (by omega), if_neg (by omega), if_neg (by omega), if_neg (by omega), if_neg (by omega), if_neg (by omega), if_neg (by omega), if_neg (by omega), if_neg (by omega), if_neg (by omega), if_neg (by omega), if_neg (by omega), if_neg (by omega)]
    exact ⟨σ, rfl, Fr.rf⟩
  · obtain ⟨a1, a2, a3, a4, a5⟩ := q2 k
    have em := Kd_u hk (Kd_2 hs hi a1 a2 a3)
    rw [if_pos k, if_pos k, x_both hd Q hs hi hk em k hzi, Option.bind_some]
    exact ⟨σ, rfl, Fr.rf⟩
  · obtain ⟨a1, a2, a3, a4⟩ := q3 k
    have em := Kd_u hk (Kd_1 hs hi a1 a2)
    have pl : P_X5_placeAt (nI i) σ = some (nI (F 1 i)) := by
      unfold P_X5_placeAt
      rw [vX6_at_26 (by omega), Option.bind_some, (h3.2.2 i hi).2.2.1]
    have wl := (w 0 (by omega)).2
    rw [if_neg (by omega), if_pos k, if_neg (by omega), if_pos k, pl, Option.bind_some, x_at8 h5 hn a3, Option.bind_some, (h6 _ a3).1]
    unfold P_X4_numberOf_j136
    rw [nI_1, n1 (by omega), Option.bind_some]
    rcases a4 with ⟨t1, t5, -⟩ | ⟨t1, t5, -⟩
    · rw [t1, t5, if_neg (fun z => z (show nI 49 = 49 from rfl)), if_neg (by decide), if_pos rfl, lN_0, x_plus (Nat.zero_le _) wl, Option.bind_some, Nat.zero_add, sat_id wl]
      exact ⟨σ, rfl, Fr.rf⟩
    · have ha : fa g (F 0 i) < 16 := by omega
      rw [t1, t5, if_pos (show ¬ nI 50 = 49 by decide), if_pos rfl, if_neg (by omega), x_a h16, Option.bind_some, g1, x_szAt h3 hi, Option.bind_some, x_of h2.1 ha hzi, Option.bind_some, Option.bind_some, x_plus (h2.1 _ ha _ hzi).2 wl, Option.bind_some]
      exact ⟨σ, rfl, Fr.rf⟩
  · rw [if_neg (by omega), if_neg (by omega), if_pos k, if_neg (by omega), if_neg (by omega), if_pos k, x_rowN hd Q hs hi hk k hzi, Option.bind_some]
    exact ⟨σ, rfl, Fr.rf⟩
  · obtain ⟨σ', e1, e2⟩ := x_bag hd Q hs hi hk (Or.inl k) hzi (fun t ht => part_sz hr hs ks nb hi (by omega) (by omega) hk ht)
    rw [if_neg (by omega), if_neg (by omega), if_neg (by omega), if_pos k, if_neg (by omega), if_neg (by omega), if_neg (by omega), if_pos (Or.inl k), e1, b2_some]
    exact ⟨σ', rfl, e2⟩
  · obtain ⟨σ', e1, e2⟩ := x_bag hd Q hs hi hk (Or.inr k) hzi (fun t ht => part_sz hr hs ks nb hi (by omega) (by omega) hk ht)
    rw [if_neg (by omega), if_neg (by omega), if_neg (by omega), if_neg (by omega), if_pos k, if_neg (by omega), if_neg (by omega), if_neg (by omega), if_pos (Or.inr k), e1, b2_some]
    exact ⟨σ', rfl, e2⟩
  · obtain ⟨a1, a2, a3⟩ := q7 k
    have em := Kd_u hk (Kd_1 hs hi a1 a2)
    rw [if_neg (by omega), if_neg (by omega), if_neg (by omega), if_neg (by omega), if_neg (by omega), if_pos k, if_neg (by omega), if_neg (by omega), if_neg (by omega), if_neg (by omega), if_pos k, nI_1, n1 (by omega), Option.bind_some]
    exact ⟨σ, rfl, Fr.rf⟩
  · obtain ⟨a1, a2, a3, a4⟩ := q8 k
    have f8 : fa g (F 0 i) ≤ 8 := by unfold okI at ok; omega
    rw [if_neg (by omega), if_neg (by omega), if_neg (by omega), if_neg (by omega), if_neg (by omega), if_neg (by omega), if_pos k, if_neg (by omega), if_neg (by omega), if_neg (by omega), if_neg (by omega), if_neg (by omega), if_pos k, x_a h16, Option.bind_some, g1, x_letN h3 hi h5 hn h6 f8 a2 a3, Option.bind_some, a4]
    exact ⟨σ, rfl, Fr.rf⟩
/-- the number of a node on the class's side -/
theorem x_num (hr : Rdy g) (hs : SB g tp n F 0 N) (ks : ∀ i, i < N → KS g tp n F i) (nb : ∀ i, i < N → ¬ brk g F i) (hz : ∀ j, j < N → F 4 j ≤ 24) (hn : n ≤ 300) (hi : i < N) (hk : Kd F i m) (h : XI g c b tp n F U N (i + 1) σ) : (∀ t0, kd g (F 0 i) = 6 → t0 < m → twin F U i t0 → (∀ s, s < t0 → ¬ twin F U i s) → ∃ σ', P_X4_numberOf (nI i) σ = some (-1, σ') ∧ FRK σ σ' ∧ sI σ' 18 = tmin (sI σ 18) (F 1 (kid F i t0))) ∧ ((kd g (F 0 i) = 6 → ∀ t, t < m → ¬ twin F U i t) → ((∃ t, t < m ∧ U (kid F i t) = none) → ∃ σ', P_X4_numberOf (nI i) σ = some (-1, σ') ∧ FRK σ σ' ∧ sI σ' 18 = sI σ 18) ∧ ((∀ t, t < m → ¬ U (kid F i t) = none) → ∃ σ', P_X4_numberOf (nI i) σ = some (lN (nv g c b (F 0 i) (F 5 i) (F 4 i) m (fun t => F 4 (kid F i t)) (fun t => (U (kid F i t)).getD 0)), σ') ∧ FRK σ σ' ∧ sI σ' 18 = sI σ 18)) := by
  have hd := hr.1
  have h' := h
  obtain ⟨h1, h2, h3, h4, h5, h6⟩ := h
  have hN := h3.2.1
  have hx := (hs.2.1 i (by omega) hi).1
  have h16 : F 0 i < 16 := Nat.lt_of_lt_of_le hx hd.1
  obtain ⟨l0, l1, l2⟩ := gd_lt hd hx
  obtain ⟨σ6, e6, f6, p6⟩ := x_gather hs h3 hi hk
  have I6 := h'.fr (f6.mono (by decide) (by decide) (by decide))
  have f6' : FRK σ σ6 := f6.mono (by decide) (by decide) (by decide)
  obtain ⟨fA, fB⟩ := x_finds hs I6.2.2.1 hi hk p6 I6.2.2.2.1 hz
  have e : P_X4_numberOf (nI i) σ = if ¬ kd g (F 0 i) = 6 then P_X4_numberOf_j41 (nI i) (nI (F 0 i)) (nI (kd g (F 0 i))) 0 σ6 else b2 (P_X4_findsTwin σ6) fun v9 σ10 => if v9 = 0 then P_X4_numberOf_j41 (nI i) (nI (F 0 i)) (nI (kd g (F 0 i))) 0 σ10 else P_X4_numberOf_j41 (nI i) (nI (F 0 i)) (nI (kd g (F 0 i))) 1 σ10 := by
    unfold P_X4_numberOf P_X4_numberOf_j40 P_X5_shapeAt
    rw [vX6_at_25 (by omega), Option.bind_some, Option.bind_some, (h3.2.2 i hi).1, x_kind h16, Option.bind_some, (gX_at h1 hx).1, e6, Option.bind_some]
    by_cases z : kd g (F 0 i) = 6
    · rw [if_neg (show ¬ ¬ kd g (F 0 i) = 6 from fun w => w z), if_neg (show ¬ ¬ nI (kd g (F 0 i)) = 6 from fun w => w (by rw [z]; rfl))]
    · rw [if_pos (show ¬ kd g (F 0 i) = 6 from z), if_pos (show ¬ nI (kd g (F 0 i)) = 6 from fun w => z ((nI_eq (b := 6) (by omega) (by decide)).mp w))]
  constructor
  · intro t0 k6 ht tw no
    rw [e, if_neg (fun w => w k6), fB t0 ht tw no, b2_some, if_neg (by decide)]
    unfold P_X4_numberOf_j41
    rw [in1]
    refine ⟨_, rfl, f6'.tr (Fr.uI (by decide)), ?_⟩
    rw [sI_uI, if_pos rfl, f6.1 18 (by decide)]
  · intro no
    have e2 : P_X4_numberOf (nI i) σ = P_X4_numberOf_j41 (nI i) (nI (F 0 i)) (nI (kd g (F 0 i))) 0 σ6 := by
      rw [e]
      by_cases z : kd g (F 0 i) = 6
      · rw [if_neg (fun w => w z), fA (no z), b2_some, if_pos rfl]
      · rw [if_pos z]
    constructor
    · intro un
      rw [e2]
      unfold P_X4_numberOf_j41
      rw [in0, (x_unknown hs I6.2.2.1 hi hk p6 I6.2.2.2.1).1 un, Option.bind_some, if_neg (by decide)]
      exact ⟨σ6, rfl, f6', f6.1 18 (by decide)⟩
    · intro kn
      obtain ⟨σ', q1, q2⟩ := x_value hr hs ks nb hz hn hi hk I6 p6 kn
      rw [e2]
      exact ⟨σ', q1, f6'.tr (q2.mono (by decide) (by decide) (by decide)), (q2.1 18 (by decide)).trans (f6.1 18 (by decide))⟩
end
