theorem x_choose_loop (m k : Nat) (hk : k ≤ 24) (hm : m ≤ LIM + 24) : ∀ (d i : Nat) (fu : Nat), i + d = k → d < fu → bin (m + i) i ≤ LIM → P_X7_choose_j34 fu (lN (m + k)) (nI k) (lN (bin (m + i) i)) (nI (i + 1)) = some (lN (sat (bin (m + k) k))) := by
  have hL := LIM_lt
  intro d
  induction d with
  | zero =>
    intro i fu h1 h2 h3
    obtain ⟨fu, rfl⟩ : ∃ k, fu = k + 1 := ⟨fu - 1, by omega⟩
    have e : i = k := by omega
    subst e
    unfold P_X7_choose_j34 mminl
    rw [if_pos (nI_lt (by omega) (by omega)), L_lit, sat_id h3]
    by_cases z : bin (m + i) i < LIM
    · rw [if_pos ((lN_ltB (by omega) (by omega)).mpr z)]
    · rw [if_neg (fun y => z ((lN_ltB (by omega) (by omega)).mp y)), show bin (m + i) i = LIM by omega]
  | succ d ih =>
    intro i fu h1 h2 h3
    obtain ⟨fu, rfl⟩ : ∃ k, fu = k + 1 := ⟨fu - 1, by omega⟩
    have e1 : lN (m + k) - (nI k).toInt64 + (nI (i + 1)).toInt64 = lN (m + (i + 1)) := by
      rw [nI_l (show k < 2 ^ 31 by omega), nI_l (show i + 1 < 2 ^ 31 by omega), lN_sub (by omega), lN_add]
      congr 1
      omega
    have hf : m + (i + 1) < 2 ^ 63 := by omega
    have abs := bin_abs (m + i) i
    rw [show m + i + 1 = m + (i + 1) by omega] at abs
    unfold P_X7_choose_j34
    rw [if_neg (nI_nlt (by omega) (by omega)), e1, lN_0, if_neg (fun z => by have := (lN_leB hf (by omega)).mp z; omega), gN_of (by rw [lN_0, lN_inj hf (by omega)]; omega), L_lit, nI_l (show i + 1 < 2 ^ 31 by omega), lN_mul]
    have hLi : LIM * (i + 1) < 2 ^ 63 := by
      have : LIM * (i + 1) ≤ LIM * 24 := Nat.mul_le_mul_left _ (by omega)
      have h4 : LIM * 24 < 2 ^ 63 := by decide
      omega
    rw [lN_div hLi hf]
    have hd : LIM * (i + 1) / (m + (i + 1)) < 2 ^ 63 := Nat.lt_of_le_of_lt (Nat.div_le_self _ _) hLi
    have key : (lN (bin (m + i) i) ≤ lN (LIM * (i + 1) / (m + (i + 1)))) ↔ bin (m + (i + 1)) (i + 1) ≤ LIM := by
      rw [lN_leB (by omega) hd, Nat.le_div_iff_mul_le (by omega), Nat.mul_comm (bin (m + i) i), ← abs, Nat.mul_comm LIM]
      exact ⟨fun z => Nat.le_of_mul_le_mul_left z (by omega), fun z => Nat.mul_le_mul_left _ z⟩
    by_cases c : bin (m + (i + 1)) (i + 1) ≤ LIM
    · rw [if_pos (key.mpr c), gN_of (by rw [lN_0, lN_inj (by omega) (by omega)]; omega), lN_mul]
      have hp : bin (m + i) i * (m + (i + 1)) < 2 ^ 63 := by
        rw [Nat.mul_comm, ← abs]
        have : (i + 1) * bin (m + (i + 1)) (i + 1) ≤ (i + 1) * LIM := Nat.mul_le_mul_left _ c
        rw [Nat.mul_comm (i + 1) LIM] at this
        omega
      rw [lN_div hp (by omega), Nat.mul_comm, ← abs, Nat.mul_div_cancel_left _ (by omega), nI_1]
      exact ih (i + 1) fu (by omega) (by omega) c
    · rw [if_neg (fun z => c (key.mp z))]
      have := bin_diag m (i + 1) k (by omega)
      rw [sat_ge (by omega)]
theorem x_choose {t k : Nat} (hk : k ≤ 24) (ht : t ≤ LIM + 24) : P_X7_choose (lN t) (nI k) = some (lN (sat (bin t k))) := by
  have hL := LIM_lt
  unfold P_X7_choose
  by_cases k0 : k = 0
  · subst k0
    rw [if_neg (by decide), if_neg (by decide), bin_0]
    rfl
  · rw [show (0 : Int32) = nI 0 from rfl, if_pos (nI_lt (by omega) (by omega)), nI_l (by omega)]
    by_cases h : t < k
    · rw [if_pos ((lN_ltB (by omega) (by omega)).mpr h), bin_gt t k h]
      rfl
    · rw [if_neg (fun z => h ((lN_ltB (by omega) (by omega)).mp z)), show (24 : Int32) = nI 24 from rfl, if_pos (nI_le hk (by decide))]
      obtain ⟨m, rfl⟩ : ∃ m, t = m + k := ⟨t - k, by omega⟩
      have := x_choose_loop m k hk (by omega) k 0 FU (by omega) (by unfold FU; omega) (by rw [bin_0]; decide)
      rw [bin_0] at this
      exact this
theorem m_common : ∀ (b a fu : Nat), a < 2 ^ 63 → b < 2 ^ 63 → b < fu → P_X11_common_j6 fu (lN a) (lN b) = some (lN (Nat.gcd a b)) := by
  intro b
  induction b using Nat.strongRecOn with
  | _ b ih =>
    intro a fu ha hb h
    obtain ⟨fu, rfl⟩ : ∃ k, fu = k + 1 := ⟨fu - 1, by omega⟩
    unfold P_X11_common_j6
    by_cases b0 : b = 0
    · subst b0
      rw [if_pos (show lN 0 = 0 from rfl), Nat.gcd_zero_right]
    · have hb0 : ¬ lN b = 0 := by rw [lN_0, lN_inj hb (by omega)]; exact b0
      rw [if_neg hb0, gN_of hb0, lN_mod ha hb]
      have hlt := Nat.mod_lt a (show b > 0 by omega)
      rw [ih (a % b) hlt b fu hb (by omega) (by omega), Nat.gcd_comm b, ← Nat.gcd_rec b a, Nat.gcd_comm]
/-- how many ways there are to take j of c things, alike ones too (ap = false), or no two alike -/
def wy (ap : Bool) (c j : Nat) : Nat := if ap = true then bin c j else bin (c + j - 1) j
theorem wy_0 (ap : Bool) (c : Nat) : wy ap c 0 = 1 := by unfold wy; split <;> rw [bin_0]
/-- the gcd's division -/
theorem gdiv {c d f q : Nat} (hd : 0 < d) (h : d * q = c * f) : c / Nat.gcd c d * (f / (d / Nat.gcd c d)) = q := by
  have hg : 0 < Nat.gcd c d := Nat.gcd_pos_of_pos_right c hd
  obtain ⟨c', hc⟩ := Nat.gcd_dvd_left c d
  obtain ⟨d', hd'⟩ := Nat.gcd_dvd_right c d
  generalize hge : Nat.gcd c d = G at *
  have ec : c / G = c' := by rw [hc, Nat.mul_div_cancel_left _ hg]
  have ed : d / G = d' := by rw [hd', Nat.mul_div_cancel_left _ hg]
  rw [ec, ed]
  have hd0 : 0 < d' := by
    apply Nat.pos_of_ne_zero
    intro z
    rw [z, Nat.mul_zero] at hd'
    omega
  have hcop : Nat.Coprime d' c' := by
    have := Nat.gcd_div_gcd_div_gcd_of_pos_right (n := c) (m := d) hd
    rw [hge, ec, ed, Nat.gcd_comm] at this
    exact this
  have h2 : d' * q = c' * f := by
    have h3 : G * (d' * q) = G * (c' * f) := by
      rw [← Nat.mul_assoc, ← Nat.mul_assoc, ← hd', ← hc]
      exact h
    exact Nat.eq_of_mul_eq_mul_left hg h3
  obtain ⟨f', hf⟩ := hcop.dvd_of_dvd_mul_left (n := f) ⟨q, h2.symm⟩
  rw [hf, Nat.mul_div_cancel_left _ hd0]
  rw [hf] at h2
  have h4 : d' * q = d' * (c' * f') := by
    rw [h2, ← Nat.mul_assoc, Nat.mul_comm c' d', Nat.mul_assoc]
  exact (Nat.eq_of_mul_eq_mul_left hd0 h4).symm
theorem m_ways {ap : Bool} {c j : Nat} (hj : j ≤ 24) (hc : c ≤ LIM) : P_X11_ways (lN c) (nI j) (b2i ap) = some (lN (sat (wy ap c j))) := by
  have hL : LIM < 2 ^ 60 := by decide
  have loop : ∀ (d i : Nat) (fu : Nat), i + d = j → d < fu → wy ap c i < LIM → P_X11_ways_j6 fu (lN c) (nI j) (b2i ap) (lN (wy ap c i)) (nI i) = some (lN (sat (wy ap c j))) := by
    intro d
    induction d with
    | zero =>
      intro i fu h1 h2 h3
      obtain ⟨fu, rfl⟩ : ∃ k, fu = k + 1 := ⟨fu - 1, by omega⟩
      have e : i = j := by omega
      subst e
      unfold P_X11_ways_j6
      rw [if_pos (nI_le (Nat.le_refl _) (by omega)), sat_lt h3]
    | succ d ih =>
      intro i fu h1 h2 h3
      obtain ⟨fu, rfl⟩ : ∃ k, fu = k + 1 := ⟨fu - 1, by omega⟩
      have fin : ∀ f : Nat, f ≤ LIM + 24 → 0 < f → (i + 1) * wy ap c (i + 1) = wy ap c i * f → (LIM ≤ wy ap c (i + 1) → LIM ≤ wy ap c j) → P_X11_ways_j29 (P_X11_ways_j6 fu) (lN c) (nI j) (b2i ap) (lN (wy ap c i)) (nI i) (lN f) = some (lN (sat (wy ap c j))) := by
        intro f hf hf0 hs hup
        have hg1 : 0 < Nat.gcd (wy ap c i) (i + 1) := Nat.gcd_pos_of_pos_right _ (by omega)
        have hg2 : Nat.gcd (wy ap c i) (i + 1) ≤ i + 1 := Nat.gcd_le_right _ (by omega)
        have hq0 : 0 < (i + 1) / Nat.gcd (wy ap c i) (i + 1) := Nat.div_pos hg2 hg1
        have hq1 : (i + 1) / Nat.gcd (wy ap c i) (i + 1) ≤ i + 1 := Nat.div_le_self _ _
        have hcm : P_X11_common (lN (wy ap c i)) (lN (i + 1)) = _ := m_common (i + 1) (wy ap c i) FU (by omega) (by omega) (by unfold FU; omega)
        unfold P_X11_ways_j29
        rw [lN_0, if_pos ((lN_ltB (by omega) (by omega)).mpr hf0), nI_1, nI_l (show i + 1 < 2 ^ 31 by omega), hcm, Option.bind_some]
        have ne1 : ¬ lN (Nat.gcd (wy ap c i) (i + 1)) = 0 := by rw [lN_0, lN_inj (by omega) (by omega)]; omega
        rw [gN_of ne1, gN_of ne1, lN_div (by omega) (by omega)]
        have ne2 : ¬ lN ((i + 1) / Nat.gcd (wy ap c i) (i + 1)) = 0 := by rw [lN_0, lN_inj (by omega) (by omega)]; omega
        have hfd : f / ((i + 1) / Nat.gcd (wy ap c i) (i + 1)) ≤ f := Nat.div_le_self _ _
        have hcd : wy ap c i / Nat.gcd (wy ap c i) (i + 1) ≤ wy ap c i := Nat.div_le_self _ _
        rw [gN_of ne2, lN_div (by omega) (by omega), lN_div (by omega) (by omega), m_times (show wy ap c i / Nat.gcd (wy ap c i) (i + 1) ≤ LIM by omega) (show f / ((i + 1) / Nat.gcd (wy ap c i) (i + 1)) < 2 ^ 62 by omega), Option.bind_some, gdiv (by omega) hs, L_lit]
        by_cases z : wy ap c (i + 1) < LIM
        · rw [sat_lt z, if_pos (fun y => by have := (lN_inj (by omega) (by omega)).mp y; omega)]
          exact ih (i + 1) fu (by omega) (by omega) z
        · rw [sat_ge (by omega), if_neg (fun y => y rfl), sat_ge (hup (by omega))]
      unfold P_X11_ways_j6
      rw [if_neg (nI_ge (by omega) (by omega)), nI_l (show i < 2 ^ 31 by omega)]
      cases ap with
      | true =>
        rw [b2i_t, if_neg (by decide)]
        have ew : ∀ x, wy true c x = bin c x := fun _ => rfl
        by_cases hci : i < c
        · rw [lN_sub (by omega)]
          refine fin (c - i) (by omega) (by omega) ?_ (fun z => ?_)
          · rw [ew, ew]
            have := bin_step c i
            rw [Nat.mul_sub, Nat.mul_comm (bin c i) c, Nat.mul_comm (bin c i) i]
            omega
          · rw [ew] at z ⊢
            have := bin_up c (j - (i + 1)) (i + 1) (by omega) z
            rw [show i + 1 + (j - (i + 1)) = j by omega] at this
            exact this
        · unfold P_X11_ways_j29
          rw [if_neg (fun z => by
            rw [I64lt, w0, Int64.toInt_sub, lN_toInt' (by omega), lN_toInt' (by omega)] at z
            have e : ((c : Int) - (i : Int)).bmod (2 ^ 64) = (c : Int) - i := by apply Int.bmod_eq_of_le <;> omega
            rw [e] at z
            omega), ew, bin_gt c j (by omega)]
          rfl
      | false =>
        rw [b2i_f, if_pos rfl, lN_add]
        have ew : ∀ x, wy false c x = bin (c + x - 1) x := fun _ => rfl
        by_cases hc0 : c + i = 0
        · unfold P_X11_ways_j29
          rw [hc0, lN_0, if_neg (fun z => by have := (lN_ltB (by omega) (by omega)).mp z; omega), ew, bin_gt _ _ (by omega)]
          rfl
        · refine fin (c + i) (by omega) (by omega) ?_ (fun z => ?_)
          · rw [ew, ew]
            have := bin_abs (c + i - 1) i
            rw [show c + i - 1 + 1 = c + i by omega] at this
            rw [show c + (i + 1) - 1 = c + i by omega, this, Nat.mul_comm]
          · rw [ew] at z ⊢
            by_cases c0 : c = 0
            · subst c0
              rw [bin_gt _ _ (by omega)] at z
              have : 0 < LIM := by decide
              omega
            · have := bin_diag (c - 1) (i + 1) j (by omega)
              rw [show c - 1 + (i + 1) = c + (i + 1) - 1 by omega, show c - 1 + j = c + j - 1 by omega] at this
              omega
  have := loop j 0 FU (by omega) (by unfold FU; omega) (by rw [wy_0]; decide)
  rw [wy_0] at this
  exact this
def fct : Nat → Nat
  | 0 => 1
  | n + 1 => (n + 1) * fct n
theorem m_fact {n : Nat} (hn : n ≤ 24) : P_X11_factorial (nI n) = some (lN (fct n)) := by
  have loop : ∀ (d i : Nat) (fu : Nat), i + d = n → d < fu → P_X11_factorial_j4 fu (nI n) (lN (fct i)) (nI (i + 1)) = some (lN (fct n)) := by
    intro d
    induction d with
    | zero =>
      intro i fu h1 h2
      obtain ⟨fu, rfl⟩ : ∃ k, fu = k + 1 := ⟨fu - 1, by omega⟩
      have e : i = n := by omega
      subst e
      unfold P_X11_factorial_j4
      rw [if_pos (nI_lt (by omega) (by omega))]
    | succ d ih =>
      intro i fu h1 h2
      obtain ⟨fu, rfl⟩ : ∃ k, fu = k + 1 := ⟨fu - 1, by omega⟩
      unfold P_X11_factorial_j4
      rw [if_neg (nI_nlt (by omega) (by omega)), nI_l (by omega), lN_mul, nI_1, Nat.mul_comm]
      exact ih (i + 1) fu (by omega) (by omega)
  unfold P_X11_factorial
  cases n with
  | zero => rfl
  | succ n =>
    exact loop n 1 FU (by omega) (by unfold FU; omega)
theorem x_orders {n : Nat} (hn : n ≤ 8) : P_X7_orders (nI n) = some (lN (fct n)) := by
  have loop : ∀ (d i : Nat) (fu : Nat), i + d = n → d < fu → P_X7_orders_j4 fu (nI n) (lN (fct i)) (nI (i + 1)) = some (lN (fct n)) := by
    intro d
    induction d with
    | zero =>
      intro i fu h1 h2
      obtain ⟨fu, rfl⟩ : ∃ k, fu = k + 1 := ⟨fu - 1, by omega⟩
      have e : i = n := by omega
      subst e
      unfold P_X7_orders_j4
      rw [if_pos (nI_lt (by omega) (by omega))]
    | succ d ih =>
      intro i fu h1 h2
      obtain ⟨fu, rfl⟩ : ∃ k, fu = k + 1 := ⟨fu - 1, by omega⟩
      unfold P_X7_orders_j4
      rw [if_neg (nI_nlt (by omega) (by omega)), show (8 : Int32) = nI 8 from rfl, if_neg (nI_nlt (by omega) (by omega)), nI_l (by omega), lN_mul, nI_1, Nat.mul_comm]
      exact ih (i + 1) fu (by omega) (by omega)
  unfold P_X7_orders
  cases n with
  | zero => rfl
  | succ n =>
    exact loop n 1 FU (by omega) (by unfold FU; omega)
