/-! the class's tables -/
def CT (c : Nat → Nat → Nat) (σ : SS) : Prop := ∀ x, x < 16 → ∀ s, s ≤ 24 → sL σ 0 (25 * x + s) = lN (c x s) ∧ c x s ≤ LIM
theorem x_of {c : Nat → Nat → Nat} {σ : SS} (h : CT c σ) {x s : Nat} (hx : x < 16) (hs : s ≤ 24) : P_X8_of (nI x) (nI s) σ = some (lN (c x s)) := by
  unfold P_X8_of
  have e : nI x * 25 + nI s = nI (25 * x + s) := by rw [show nI x * 25 = nI (x * 25) from nI_mul x 25, nI_add, Nat.mul_comm]
  rw [if_neg (nI_pos (by omega)), show (16 : Int32) = nI 16 from rfl, if_neg (nI_ge hx (by decide)), if_neg (nI_pos (by omega)), show (24 : Int32) = nI 24 from rfl, if_pos (nI_le hs (by decide)), e, gI_nI (by omega) (by decide), ldL_nI (by omega), (h x hx s hs).1]
theorem x_of_neg {σ : SS} {a1 a2 : Int32} (h : a2 < 0) : P_X8_of a1 a2 σ = some 0 := by
  unfold P_X8_of
  rw [if_pos h]
  split
  · rfl
  · split <;> rfl
theorem sub_m1 (s : Nat) : nI s - nI (s + 1) = -1 := by
  rw [nI_succ]
  have : nI s - (nI s + 1) = -1 := by
    rw [Int32.sub_eq_add_neg, Int32.neg_add, Int32.sub_eq_add_neg, ← Int32.add_assoc, ← Int32.sub_eq_add_neg (nI s), Int32.sub_self]
    decide
  exact this
def ib (x s t : Nat) : Nat := 325 * x + s * (s + 1) / 2 + t
theorem tri {s : Nat} (hs : s ≤ 24) : s * (s + 1) / 2 + s + 1 ≤ (s + 1) * (s + 1 + 1) / 2 ∧ s * (s + 1) / 2 + s < 325 := by
  rcases (show s = 0 ∨ s = 1 ∨ s = 2 ∨ s = 3 ∨ s = 4 ∨ s = 5 ∨ s = 6 ∨ s = 7 ∨ s = 8 ∨ s = 9 ∨ s = 10 ∨ s = 11 ∨ s = 12 ∨ s = 13 ∨ s = 14 ∨ s = 15 ∨ s = 16 ∨ s = 17 ∨ s = 18 ∨ s = 19 ∨ s = 20 ∨ s = 21 ∨ s = 22 ∨ s = 23 ∨ s = 24 by omega) with rfl | rfl | rfl | rfl | rfl | rfl | rfl | rfl | rfl | rfl | rfl | rfl | rfl | rfl | rfl | rfl | rfl | rfl | rfl | rfl | rfl | rfl | rfl | rfl | rfl <;> decide
theorem tri_le {s u : Nat} (h : s < u) (hu : u ≤ 24) : s * (s + 1) / 2 + s + 1 ≤ u * (u + 1) / 2 := by
  induction u with
  | zero => omega
  | succ u ih =>
    have h1 := (tri (show u ≤ 24 by omega)).1
    by_cases e : s = u
    · subst e; exact h1
    · have := ih (by omega) (by omega)
      omega
theorem ib_inj {x s t x' s' t' : Nat} (hs : s ≤ 24) (ht : t ≤ s) (hs' : s' ≤ 24) (ht' : t' ≤ s') (h : ib x s t = ib x' s' t') : x = x' ∧ s = s' ∧ t = t' := by
  unfold ib at h
  have h1 := (tri hs).2
  have h2 := (tri hs').2
  have hx : x = x' := by omega
  subst hx
  rcases Nat.lt_trichotomy s s' with z | z | z
  · have := tri_le z hs'; omega
  · subst z; omega
  · have := tri_le z hs; omega
def BE (b : Nat → Nat → Nat → Nat) (σ : SS) (x s t : Nat) : Prop := sL σ 1 (ib x s t) = lN (b x s t) ∧ b x s t ≤ LIM
theorem x_row {x s : Nat} (hx : x < 16) (hs : s ≤ 24) : P_X8_bagRow (nI x) (nI s) = some (nI (ib x s 0)) := by
  unfold P_X8_bagRow ib
  have h1 : s * (s + 1) < 2 ^ 31 := by
    have : s * (s + 1) ≤ 24 * 25 := Nat.mul_le_mul hs (by omega)
    omega
  rw [show nI x * 325 = nI (x * 325) from nI_mul x 325, nI_1, nI_mul, show (2 : Int32) = nI 2 from rfl, nI_div h1 (by decide), nI_add, Nat.mul_comm x]
  rfl
theorem ib_lt {x s t : Nat} (hx : x < 16) (hs : s ≤ 24) (ht : t ≤ s) : ib x s t < 5200 := by
  unfold ib
  have := (tri hs).2
  omega
theorem mmini_n {a b : Nat} (ha : a < 2 ^ 31) (hb : b < 2 ^ 31) : mmini (nI a) (nI b) = nI (min a b) := by
  unfold mmini
  by_cases h : b < a
  · rw [if_pos (nI_lt h ha), Nat.min_eq_right (by omega)]
  · rw [if_neg (nI_nlt (by omega) hb), Nat.min_eq_left (by omega)]
theorem x_isSize {s : Nat} (hs : s ≤ 24) : P_X10_isSize (nI s) = some 1 := by
  unfold P_X10_isSize
  rw [if_neg (nI_pos (by omega)), show (24 : Int32) = nI 24 from rfl, if_neg (nI_nlt hs (by decide))]
theorem x_upTo {b : Nat → Nat → Nat → Nat} {σ : SS} {x s t : Nat} (hx : x < 16) (hs : s ≤ 24) (ht : t ≤ 24) (h : BE b σ x s (min t s)) : P_X8_bagsUpTo (nI x) (nI s) (nI t) σ = some (lN (BB b x s t)) := by
  unfold P_X8_bagsUpTo
  have e : nI (ib x s 0) + nI (min t s) = nI (ib x s (min t s)) := by rw [nI_add]; rfl
  rw [x_isSize hs, Option.bind_some, if_neg (by decide), x_isSize ht, Option.bind_some, if_pos (by decide), x_row hx hs, Option.bind_some, mmini_n (by omega) (by omega), e, vX6_at__20 (ib_lt hx hs (by omega)), Option.bind_some, h.1]
  rfl
theorem x_led {c : Nat → Nat → Nat} {σ : SS} (h : CT c σ) {f tl s i : Nat} (hf : f < 16) (ht : tl < 16) (hi : i ≤ s) (hs : s ≤ 24) : P_X8_led (nI f) (nI tl) (nI s) (nI i) σ = some (lN (sat (c f i * c tl (s - i)))) := by
  unfold P_X8_led
  rw [x_of h hf (by omega), Option.bind_some, nI_sub hi, x_of h ht (by omega), Option.bind_some, x_times (h f hf i (by omega)).2 (h tl ht (s - i) (by omega)).2, Option.bind_some]
theorem x_led_loop {c : Nat → Nat → Nat} {σ : SS} (h : CT c σ) {f tl s hd A : Nat} (hf : f < 16) (ht : tl < 16) (hs : s ≤ 24) (hh : hd ≤ s + 1) : ∀ (d i : Nat) (fu : Nat), i + d = hd → d < fu → P_X8_ledBelow_j36 σ fu (nI s) (nI hd) (nI f) (nI tl) (lN (sat (A + sumN (fun j => c f j * c tl (s - j)) i))) (nI i) = some (lN (sat (A + sumN (fun j => c f j * c tl (s - j)) hd))) := by
  intro d
  induction d with
  | zero =>
    intro i fu h1 h2
    obtain ⟨fu, rfl⟩ : ∃ k, fu = k + 1 := ⟨fu - 1, by omega⟩
    have e : i = hd := by omega
    subst e
    unfold P_X8_ledBelow_j36
    rw [if_pos (nI_le (Nat.le_refl _) (by omega))]
  | succ d ih =>
    intro i fu h1 h2
    obtain ⟨fu, rfl⟩ : ∃ k, fu = k + 1 := ⟨fu - 1, by omega⟩
    unfold P_X8_ledBelow_j36
    rw [if_neg (nI_ge (by omega) (by omega)), show (24 : Int32) = nI 24 from rfl, if_neg (nI_nlt (by omega) (by decide)), x_led h hf ht (by omega) hs, Option.bind_some, x_plus (sat_le _) (sat_le _), Option.bind_some, sat_addL, sat_addR, nI_1, Nat.add_assoc]
    exact ih (i + 1) fu (by omega) (by omega)
def tlS (g : List N3) (x : Nat) : Nat := if kd g x = 2 then fb g x else x
theorem x_tail {g : List N3} {σ : SS} (hg : gX' g σ) (hd : GdL g) {x : Nat} (hx : x < g.length) : P_X8_tail (nI x) σ = some (nI (tlS g x)) := by
  have h16 : x < 16 := Nat.lt_of_lt_of_le hx hd.1
  obtain ⟨e0, e1, e2⟩ := gX_at hg hx
  obtain ⟨l0, l1, l2⟩ := gd_lt hd hx
  unfold P_X8_tail tlS
  rw [x_kind h16, Option.bind_some, e0, x_b h16, Option.bind_some, e2]
  by_cases k2 : kd g x = 2
  · rw [if_neg (fun z => z (by rw [k2]; rfl)), if_pos k2]
  · rw [if_pos (show ¬ nI (kd g x) = 2 from fun z => k2 ((nI_eq (b := 2) (by omega) (by decide)).mp z)), if_neg k2]
theorem x_ledBelow {g : List N3} {c : Nat → Nat → Nat} {σ : SS} (hg : gX' g σ) (hd : GdL g) (h : CT c σ) {x s hh num : Nat} (hx : x < g.length) (hk : kd g x = 2 ∨ kd g x = 4) (hs : s ≤ 24) (hh1 : hh ≤ s) (hn : num ≤ LIM) : P_X8_ledBelow (nI x) (nI s) (nI hh) (lN num) σ = some (lN (sat (num * c (tlS g x) (s - hh) + sumN (fun j => c (fa g x) j * c (tlS g x) (s - j)) hh))) := by
  have h16 : x < 16 := Nat.lt_of_lt_of_le hx hd.1
  obtain ⟨e0, e1, e2⟩ := gX_at hg hx
  obtain ⟨l0, l1, l2⟩ := gd_lt hd hx
  have ok := gd_at hd hx
  have ht : tlS g x < 16 := by
    unfold tlS
    split
    · unfold okI at ok; omega
    · exact h16
  unfold P_X8_ledBelow
  rw [x_a h16, Option.bind_some, e1, x_tail hg hd hx, Option.bind_some, nI_sub hh1, x_of h ht (by omega), Option.bind_some, x_times hn (h _ ht _ (by omega)).2, Option.bind_some]
  have := x_led_loop h (A := num * c (tlS g x) (s - hh)) (show fa g x < 16 by omega) ht hs (show hh ≤ s + 1 by omega) hh 0 FU (by omega) (by unfold FU; omega)
  rw [show sumN (fun j => c (fa g x) j * c (tlS g x) (s - j)) 0 = 0 from rfl, Nat.add_zero] at this
  exact this
theorem x_ledAll {g : List N3} {c : Nat → Nat → Nat} {σ : SS} (hg : gX' g σ) (hd : GdL g) (h : CT c σ) {x s : Nat} (hx : x < g.length) (hk : kd g x = 2 ∨ kd g x = 4) (hs : s ≤ 24) : P_X8_ledBelow (nI x) (nI s) (nI s + 1) 0 σ = some (lN (sat (sumN (fun j => c (fa g x) j * c (tlS g x) (s - j)) (s + 1)))) := by
  have h16 : x < 16 := Nat.lt_of_lt_of_le hx hd.1
  obtain ⟨e0, e1, e2⟩ := gX_at hg hx
  obtain ⟨l0, l1, l2⟩ := gd_lt hd hx
  have ok := gd_at hd hx
  have ht : tlS g x < 16 := by
    unfold tlS
    split
    · unfold okI at ok; omega
    · exact h16
  unfold P_X8_ledBelow
  rw [x_a h16, Option.bind_some, e1, x_tail hg hd hx, Option.bind_some, nI_1, sub_m1, x_of_neg (by decide), Option.bind_some, show P_X7_times 0 0 = some (lN 0) from rfl, Option.bind_some]
  have := x_led_loop h (A := 0) (show fa g x < 16 by omega) ht hs (Nat.le_refl (s + 1)) (s + 1) 0 FU (by omega) (by unfold FU; omega)
  rw [Nat.zero_add, Nat.zero_add] at this
  exact this
theorem mulsub {s k h : Nat} : nI s - nI k * nI h = nI s - nI (k * h) := by rw [nI_mul]
theorem x_below {g : List N3} {σ : SS} {b : Nat → Nat → Nat → Nat} (hg : gX' g σ) (hd : GdL g) {x s h num : Nat} (hx : x < g.length) (hk : isB56 g x) (hs : s ≤ 24) (hh : 1 ≤ h) (hh2 : h ≤ 24) (hn : num ≤ LIM) (hB : ∀ k, k * h ≤ s → BE b σ x (s - k * h) (min (h - 1) (s - k * h))) : P_X8_bagsBelow (nI x) (nI s) (nI h) (lN num) σ = some (lN (sat (WB (apt g x) (BB b x) s h num))) := by
  have hL := LIM_lt
  have h16 : x < 16 := Nat.lt_of_lt_of_le hx hd.1
  obtain ⟨e0, e1, e2⟩ := gX_at hg hx
  obtain ⟨l0, l1, l2⟩ := gd_lt hd hx
  have loop : ∀ (d i : Nat) (fu : Nat), i + d = s / h + 1 → d < fu → P_X8_bagsBelow_j32 σ fu (nI x) (nI s) (nI h) (lN num) (b2i (!apt g x)) (lN (sat (sumN (fun k => wy (apt g x) num k * BB b x (s - k * h) (h - 1)) i))) (nI i) = some (lN (sat (WB (apt g x) (BB b x) s h num))) := by
    intro d
    induction d with
    | zero =>
      intro i fu h1 h2
      obtain ⟨fu, rfl⟩ : ∃ k, fu = k + 1 := ⟨fu - 1, by omega⟩
      have e : i = s / h + 1 := by omega
      have hlt : s < i * h := by rw [e]; exact Nat.lt_mul_of_div_lt (by omega) (by omega)
      have hi25 : i ≤ 25 := by rw [e]; have := Nat.div_le_self s h; omega
      have hih : i * h < 2 ^ 31 := by
        have : i * h ≤ 25 * 24 := Nat.mul_le_mul hi25 hh2
        omega
      subst e
      unfold P_X8_bagsBelow_j32
      rw [nI_mul, if_pos (nI_lt hlt hih)]
      rfl
    | succ d ih =>
      intro i fu h1 h2
      obtain ⟨fu, rfl⟩ : ∃ k, fu = k + 1 := ⟨fu - 1, by omega⟩
      have hle : i * h ≤ s := (Nat.le_div_iff_mul_le (by omega)).mp (by omega)
      have hi24 : i ≤ 24 := by have := Nat.div_le_self s h; omega
      have hbe := hB i hle
      have hch : P_X7_choose (lN num + (b2i (!apt g x) * (nI i - 1)).toInt64) (nI i) = some (lN (sat (wy (apt g x) num i))) := by
        by_cases i0 : i = 0
        · subst i0
          rw [wy_0]
          rfl
        · rw [show nI i - 1 = nI (i - 1) from nI_sub (b := 1) (by omega)]
          unfold wy
          cases apt g x with
          | true =>
            rw [if_pos rfl, show b2i (!true) * nI (i - 1) = 0 from Int32.zero_mul, show (0 : Int32).toInt64 = lN 0 from rfl, lN_add, Nat.add_zero]
            exact x_choose hi24 (by omega)
          | false =>
            rw [if_neg (by decide), show b2i (!false) * nI (i - 1) = nI (i - 1) from Int32.one_mul _, nI_l (by omega), lN_add, show num + (i - 1) = num + i - 1 by omega]
            exact x_choose hi24 (by omega)
      unfold P_X8_bagsBelow_j32
      rw [nI_mul, if_neg (nI_nlt hle (by omega)), show (24 : Int32) = nI 24 from rfl, if_neg (nI_nlt hi24 (by decide)), nI_sub hle, show nI h - 1 = nI (h - 1) from nI_sub (b := 1) hh, x_upTo h16 (by omega) (by omega) hbe, Option.bind_some, hch, Option.bind_some, x_times (sat_le _) (show BB b x (s - i * h) (h - 1) ≤ LIM from hbe.2), Option.bind_some, x_plus (sat_le _) (sat_le _), Option.bind_some, sat_mulL, sat_addL, sat_addR, nI_1]
      exact ih (i + 1) fu (by omega) (by omega)
  have hfu : s / h + 1 < FU := by have := Nat.div_le_self s h; unfold FU; omega
  have := loop (s / h + 1) 0 FU (by omega) hfu
  unfold P_X8_bagsBelow P_X8_bagsBelow_j24
  rw [show (1 : Int32) = nI 1 from rfl, if_pos (nI_le hh (by omega)), x_kind h16, Option.bind_some, e0]
  rcases hk with k5 | k6
  · have ea : apt g x = false := by unfold apt; simp [k5]
    rw [k5, if_neg (fun z => z rfl)]
    rw [ea] at this ⊢
    exact this
  · have ea : apt g x = true := by unfold apt; simp [k6]
    rw [k6, if_pos (by decide)]
    rw [ea] at this ⊢
    exact this
