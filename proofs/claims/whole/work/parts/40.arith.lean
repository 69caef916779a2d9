/-! arithmetic that stops at LIMIT; how many ways there are to choose -/
def LIM : Nat := 10000000000000000
def sat (x : Nat) : Nat := if x < LIM then x else LIM
theorem sat_le (x : Nat) : sat x ≤ LIM := by unfold sat; split <;> omega
theorem sat_id {x : Nat} (h : x ≤ LIM) : sat x = x := by unfold sat; split <;> omega
theorem sat_ge {x : Nat} (h : LIM ≤ x) : sat x = LIM := by unfold sat; split <;> omega
theorem sat_lt {x : Nat} (h : x < LIM) : sat x = x := by unfold sat; rw [if_pos h]
theorem sat_self (x : Nat) : sat (sat x) = sat x := sat_id (sat_le x)
theorem sat_mono {x y : Nat} (h : x ≤ y) : sat x ≤ sat y := by unfold sat; split <;> split <;> omega
theorem sat_addL (x y : Nat) : sat (sat x + y) = sat (x + y) := by unfold sat; split <;> (try split) <;> (try split) <;> omega
theorem sat_addR (x y : Nat) : sat (x + sat y) = sat (x + y) := by rw [Nat.add_comm, sat_addL, Nat.add_comm]
theorem sat_mulL (x y : Nat) : sat (sat x * y) = sat (x * y) := by
  by_cases h : x < LIM
  · rw [sat_lt h]
  · rw [show sat x = LIM from sat_ge (by omega)]
    cases y with
    | zero => rfl
    | succ y =>
      rw [show sat (LIM * (y + 1)) = LIM from sat_ge (by rw [Nat.mul_succ]; omega), show sat (x * (y + 1)) = LIM from sat_ge (by rw [Nat.mul_succ]; omega)]
theorem sat_mulR (x y : Nat) : sat (x * sat y) = sat (x * y) := by rw [Nat.mul_comm, sat_mulL, Nat.mul_comm]
theorem LIM_lt : LIM < 2 ^ 62 := by decide
theorem L_lit : (10000000000000000 : Int64) = lN LIM := rfl
theorem x_plus {a b : Nat} (ha : a ≤ LIM) (hb : b ≤ LIM) : P_X7_plus (lN a) (lN b) = some (lN (sat (a + b))) := by
  have := LIM_lt
  unfold P_X7_plus mminl sat
  rw [lN_add, L_lit]
  by_cases h : a + b < LIM
  · rw [if_pos ((lN_ltB (by omega) (by omega)).mpr h), if_pos h]
  · rw [if_neg (fun z => h ((lN_ltB (by omega) (by omega)).mp z)), if_neg h]
theorem m_plus {a b : Nat} (ha : a ≤ LIM) (hb : b ≤ LIM) : P_X11_plus (lN a) (lN b) = some (lN (sat (a + b))) := by
  have := LIM_lt
  unfold P_X11_plus sat
  rw [lN_add, L_lit]
  by_cases h : a + b < LIM
  · rw [if_neg (fun z => by have := (lN_leB (by omega) (by omega)).mp z; omega), if_pos h]
  · rw [if_pos ((lN_leB (by omega) (by omega)).mpr (by omega)), if_neg h]
theorem lN_0 : (0 : Int64) = lN 0 := rfl
theorem x_times {a b : Nat} (ha : a ≤ LIM) (hb : b ≤ LIM) : P_X7_times (lN a) (lN b) = some (lN (sat (a * b))) := by
  have := LIM_lt
  unfold P_X7_times
  rw [lN_0]
  by_cases a0 : a = 0
  · subst a0
    rw [if_pos ((lN_leB (by omega) (by omega)).mpr (by omega)), Nat.zero_mul]
    rfl
  · rw [if_neg (fun z => by have := (lN_leB (by omega) (by omega)).mp z; omega)]
    by_cases b0 : b = 0
    · subst b0
      rw [if_neg (fun z => by have := (lN_ltB (by omega) (by omega)).mp z; omega), Nat.mul_zero]
      rfl
    · rw [if_pos ((lN_ltB (by omega) (by omega)).mpr (by omega)), gN_of (by rw [lN_0, lN_inj (by omega) (by omega)]; exact b0), L_lit, lN_div (by omega) (by omega)]
      have hd : LIM / b < 2 ^ 63 := Nat.lt_of_le_of_lt (Nat.div_le_self _ _) (by omega)
      by_cases h : a * b ≤ LIM
      · rw [if_pos ((lN_leB (by omega) hd).mpr ((Nat.le_div_iff_mul_le (by omega)).mpr h)), lN_mul, sat_id h]
      · rw [if_neg (fun z => h ((Nat.le_div_iff_mul_le (by omega)).mp ((lN_leB (by omega) hd).mp z))), sat_ge (by omega)]
theorem m_times {a b : Nat} (ha : a ≤ LIM) (hb : b < 2 ^ 62) : P_X11_times (lN a) (lN b) = some (lN (sat (a * b))) := by
  have := LIM_lt
  unfold P_X11_times
  rw [lN_0]
  by_cases a0 : a = 0
  · subst a0
    rw [if_pos rfl, Nat.zero_mul]
    rfl
  · rw [if_neg (fun z => a0 ((lN_inj (by omega) (by omega)).mp z))]
    by_cases b0 : b = 0
    · subst b0
      rw [if_neg (fun z => z rfl), Nat.mul_zero]
      rfl
    · have hb0 : ¬ lN b = lN 0 := by rw [lN_inj (by omega) (by omega)]; exact b0
      rw [if_pos hb0, gN_of hb0, show (9999999999999999 : Int64) = lN (LIM - 1) from rfl, lN_div (by omega) (by omega)]
      have hd : (LIM - 1) / b < 2 ^ 63 := Nat.lt_of_le_of_lt (Nat.div_le_self _ _) (by omega)
      by_cases h : a * b ≤ LIM - 1
      · rw [if_pos ((lN_leB (by omega) hd).mpr ((Nat.le_div_iff_mul_le (by omega)).mpr h)), lN_mul, sat_id (by omega)]
      · rw [if_neg (fun z => h ((Nat.le_div_iff_mul_le (by omega)).mp ((lN_leB (by omega) hd).mp z))), sat_ge (by omega)]
        rfl
/-- k of n -/
def bin : Nat → Nat → Nat
  | _, 0 => 1
  | 0, _ + 1 => 0
  | n + 1, k + 1 => bin n k + bin n (k + 1)
theorem bin_0 (n : Nat) : bin n 0 = 1 := by cases n <;> rfl
theorem bin_s (n k : Nat) : bin (n + 1) (k + 1) = bin n k + bin n (k + 1) := rfl
theorem bin_gt : ∀ (n k : Nat), n < k → bin n k = 0
  | _, 0, h => absurd h (by omega)
  | 0, k + 1, _ => rfl
  | n + 1, k + 1, h => by rw [bin_s, bin_gt n k (by omega), bin_gt n (k + 1) (by omega)]
theorem bin_abs : ∀ (n i : Nat), (i + 1) * bin (n + 1) (i + 1) = (n + 1) * bin n i
  | 0, 0 => rfl
  | 0, i + 1 => by
    rw [bin_s, bin_gt 0 (i + 1) (by omega), bin_gt 0 (i + 1 + 1) (by omega)]
    simp
  | n + 1, 0 => by
    have h := bin_abs n 0
    rw [bin_s, bin_0]
    rw [bin_0] at h
    omega
  | n + 1, i + 1 => by
    have h1 := bin_abs n i
    have h2 := bin_abs n (i + 1)
    have e1 : bin (n + 1) (i + 1) = bin n i + bin n (i + 1) := rfl
    have e2 : bin (n + 1 + 1) (i + 1 + 1) = bin (n + 1) (i + 1) + bin (n + 1) (i + 1 + 1) := rfl
    rw [e2, Nat.mul_add, h2]
    have e3 : (i + 1 + 1) * bin (n + 1) (i + 1) = (i + 1) * bin (n + 1) (i + 1) + bin (n + 1) (i + 1) := by rw [Nat.succ_mul]
    rw [e3, h1, e1, Nat.succ_mul (n + 1), Nat.mul_add]
    omega
theorem bin_step (k i : Nat) : (i + 1) * bin k (i + 1) + i * bin k i = k * bin k i := by
  have h := bin_abs k i
  rw [bin_s, Nat.mul_add, Nat.succ_mul, Nat.succ_mul k] at h
  omega
theorem bin_le_pow : ∀ (n k : Nat), bin n k ≤ 2 ^ n
  | n, 0 => by rw [bin_0]; exact Nat.one_le_two_pow
  | 0, k + 1 => Nat.zero_le _
  | n + 1, k + 1 => by
    have h1 := bin_le_pow n k
    have h2 := bin_le_pow n (k + 1)
    rw [bin_s, Nat.pow_succ]
    omega
theorem bin_mono_n : ∀ (n m k : Nat), n ≤ m → bin n k ≤ bin m k
  | n, m, 0, _ => by rw [bin_0, bin_0]; exact Nat.le_refl _
  | 0, m, k + 1, _ => Nat.zero_le _
  | n + 1, 0, k + 1, h => absurd h (by omega)
  | n + 1, m + 1, k + 1, h => by
    rw [bin_s, bin_s]
    exact Nat.add_le_add (bin_mono_n n m k (by omega)) (bin_mono_n n m (k + 1) (by omega))
/-- along the diagonal they grow -/
theorem bin_diag (m : Nat) : ∀ (i j : Nat), i ≤ j → bin (m + i) i ≤ bin (m + j) j
  | i, 0, h => by
    have : i = 0 := by omega
    subst this
    exact Nat.le_refl _
  | i, j + 1, h => by
    by_cases e : i = j + 1
    · subst e; exact Nat.le_refl _
    · have := bin_diag m i j (by omega)
      rw [show m + (j + 1) = m + j + 1 by omega, bin_s]
      omega
/-- too many, of i: too many of more, up to 24 -/
theorem bin_up (k : Nat) : ∀ (d i : Nat), i + d ≤ 24 → LIM ≤ bin k i → LIM ≤ bin k (i + d)
  | 0, i, _, h => h
  | d + 1, i, hi, h => by
    have h1 := bin_up k d i (by omega) h
    have hk : 47 ≤ k := by
      apply Classical.byContradiction
      intro z
      have h2 := bin_le_pow k i
      have h3 : 2 ^ k ≤ 2 ^ 46 := Nat.pow_le_pow_right (by decide) (by omega)
      have h4 : 2 ^ 46 < LIM := by decide
      omega
    have h2 := bin_step k (i + d)
    have h3 : (i + d + 1) * bin k (i + d) + (i + d) * bin k (i + d) ≤ k * bin k (i + d) := by
      rw [← Nat.add_mul]
      exact Nat.mul_le_mul_right _ (by omega)
    have h4 : (i + d + 1) * bin k (i + d) ≤ (i + d + 1) * bin k (i + d + 1) := by omega
    have h5 := Nat.le_of_mul_le_mul_left h4 (by omega)
    have : i + (d + 1) = i + d + 1 := by omega
    rw [this]
    omega
