/-! LAYER 2: pure statements. First: reading states, small numbers -/
theorem sI_uI (σ : SS) (k j : Nat) (v : Int32) : sI (uI σ k v) j = if j = k then v else sI σ j := rfl
theorem sI_uJ (σ : SS) (k j : Nat) (v : Int64) : sI (uJ σ k v) j = sI σ j := rfl
theorem sI_uA (σ : SS) (k j : Nat) (f : Nat → Int32) : sI (uA σ k f) j = sI σ j := rfl
theorem sI_uL (σ : SS) (k j : Nat) (f : Nat → Int64) : sI (uL σ k f) j = sI σ j := rfl
theorem sJ_uI (σ : SS) (k j : Nat) (v : Int32) : sJ (uI σ k v) j = sJ σ j := rfl
theorem sJ_uJ (σ : SS) (k j : Nat) (v : Int64) : sJ (uJ σ k v) j = if j = k then v else sJ σ j := rfl
theorem sJ_uA (σ : SS) (k j : Nat) (f : Nat → Int32) : sJ (uA σ k f) j = sJ σ j := rfl
theorem sJ_uL (σ : SS) (k j : Nat) (f : Nat → Int64) : sJ (uL σ k f) j = sJ σ j := rfl
theorem sA_uI (σ : SS) (k j : Nat) (v : Int32) : sA (uI σ k v) j = sA σ j := rfl
theorem sA_uJ (σ : SS) (k j : Nat) (v : Int64) : sA (uJ σ k v) j = sA σ j := rfl
theorem sA_uA (σ : SS) (k j : Nat) (f : Nat → Int32) : sA (uA σ k f) j = if j = k then f else sA σ j := rfl
theorem sA_uL (σ : SS) (k j : Nat) (f : Nat → Int64) : sA (uL σ k f) j = sA σ j := rfl
theorem sL_uI (σ : SS) (k j : Nat) (v : Int32) : sL (uI σ k v) j = sL σ j := rfl
theorem sL_uJ (σ : SS) (k j : Nat) (v : Int64) : sL (uJ σ k v) j = sL σ j := rfl
theorem sL_uA (σ : SS) (k j : Nat) (f : Nat → Int32) : sL (uA σ k f) j = sL σ j := rfl
theorem sL_uL (σ : SS) (k j : Nat) (f : Nat → Int64) : sL (uL σ k f) j = if j = k then f else sL σ j := rfl
theorem sI_stA (σ : SS) (k j : Nat) (i x : Int32) : sI (stA σ k i x) j = sI σ j := rfl
theorem sI_stZ (σ : SS) (k j : Nat) (i x : Int32) : sI (stZ σ k i x) j = sI σ j := rfl
theorem sI_stL (σ : SS) (k j : Nat) (i : Int32) (x : Int64) : sI (stL σ k i x) j = sI σ j := rfl
theorem sJ_stA (σ : SS) (k j : Nat) (i x : Int32) : sJ (stA σ k i x) j = sJ σ j := rfl
theorem sJ_stZ (σ : SS) (k j : Nat) (i x : Int32) : sJ (stZ σ k i x) j = sJ σ j := rfl
theorem sJ_stL (σ : SS) (k j : Nat) (i : Int32) (x : Int64) : sJ (stL σ k i x) j = sJ σ j := rfl
theorem sA_stA (σ : SS) (k j : Nat) (i x : Int32) : sA (stA σ k i x) j = if j = k then upd (sA σ k) (ix i) x else sA σ j := rfl
theorem sA_stZ (σ : SS) (k j : Nat) (i x : Int32) : sA (stZ σ k i x) j = if j = k then upd (sA σ k) (ix i) (vp_nar .boolean x) else sA σ j := rfl
theorem sA_stL (σ : SS) (k j : Nat) (i : Int32) (x : Int64) : sA (stL σ k i x) j = sA σ j := rfl
theorem sL_stA (σ : SS) (k j : Nat) (i x : Int32) : sL (stA σ k i x) j = sL σ j := rfl
theorem sL_stZ (σ : SS) (k j : Nat) (i x : Int32) : sL (stZ σ k i x) j = sL σ j := rfl
theorem sL_stL (σ : SS) (k j : Nat) (i : Int32) (x : Int64) : sL (stL σ k i x) j = if j = k then vp_updL (sL σ k) (ix i) x else sL σ j := rfl
theorem upd_at (f : Nat → Int32) (k j : Nat) (x : Int32) : upd f k x j = if j = k then x else f j := rfl
theorem updL_at (f : Nat → Int64) (k j : Nat) (x : Int64) : vp_updL f k x j = if j = k then x else f j := rfl
theorem ix_nI {n : Nat} (h : n < 2 ^ 31) : ix (nI n) = n := nI_clamp h
theorem inb_nI {n N : Nat} (h : n < N) (hN : N < 2 ^ 31) : inb (nI n) N = true := by
  simp only [inb, nI_toInt (show n < 2 ^ 31 by omega), Bool.and_eq_true, decide_eq_true_eq]
  omega
theorem gI_nI {α : Type} {n N : Nat} {a : Option α} (h : n < N) (hN : N < 2 ^ 31) : gI (nI n) N a = a := by
  unfold gI
  rw [if_pos (inb_nI h hN)]
theorem gI_of {α : Type} {i : Int32} {N : Nat} {a : Option α} (h0 : 0 ≤ i.toInt) (h : i.toInt < N) : gI i N a = a := by
  unfold gI
  rw [if_pos (by simp only [inb, Bool.and_eq_true, decide_eq_true_eq]; exact ⟨h0, h⟩)]
theorem gZ_0 {α : Type} {a : Option α} : gZ 0 a = a := rfl
theorem gZ_1 {α : Type} {a : Option α} : gZ 1 a = a := rfl
theorem gZ_of {α : Type} {v : Int32} {a : Option α} (h : v = 0 ∨ v = 1) : gZ v a = a := by rcases h with rfl | rfl <;> rfl
theorem bn_0 : vp_nar .boolean 0 = 0 := by decide
theorem bn_1 : vp_nar .boolean 1 = 1 := by decide
theorem gN_of {α β : Type} [DecidableEq β] [OfNat β 0] {v : β} {a : Option α} (h : ¬ v = 0) : gN v a = a := by
  unfold gN
  rw [if_neg h]
/-- of an int: a number not below 0, below a bound -/
theorem of_nI {x : Int32} (h0 : 0 ≤ x.toInt) : ∃ j : Nat, j < 2 ^ 31 ∧ (j : Int) = x.toInt ∧ x = nI j := by
  have hx : ¬ x < 0 := by
    rw [Int32.lt_iff_toInt_lt]
    have : (0 : Int32).toInt = 0 := by decide
    omega
  obtain ⟨j, hj, rfl⟩ := nI_of hx
  exact ⟨j, hj, (nI_toInt hj).symm, rfl⟩
theorem nI_mul (a b : Nat) : nI a * nI b = nI (a * b) := (Int32.ofNat_mul a b).symm
theorem nI_sub {a b : Nat} (h : b ≤ a) : nI a - nI b = nI (a - b) := by
  have : nI a = nI (a - b) + nI b := by rw [nI_add, Nat.sub_add_cancel h]
  rw [this, Int32.add_sub_cancel]
theorem lN_toInt' {n : Nat} (h : n < 2 ^ 63) : (lN n).toInt = (n : Int) := by
  show (Int64.ofNat n).toInt = _
  rw [Int64.toInt_ofNat_of_lt h]
theorem lN_ltB {a b : Nat} (ha : a < 2 ^ 63) (hb : b < 2 ^ 63) : lN a < lN b ↔ a < b := by
  rw [Int64.lt_iff_toInt_lt, lN_toInt' ha, lN_toInt' hb]
  omega
theorem lN_leB {a b : Nat} (ha : a < 2 ^ 63) (hb : b < 2 ^ 63) : lN a ≤ lN b ↔ a ≤ b := by
  rw [Int64.le_iff_toInt_le, lN_toInt' ha, lN_toInt' hb]
  omega
theorem lN_inj {a b : Nat} (ha : a < 2 ^ 63) (hb : b < 2 ^ 63) : lN a = lN b ↔ a = b := by
  rw [← Int64.toInt_inj, lN_toInt' ha, lN_toInt' hb]
  omega
theorem lN_div {a b : Nat} (ha : a < 2 ^ 63) (hb : b < 2 ^ 63) : lN a / lN b = lN (a / b) := by
  have h2 : a / b < 2 ^ 63 := Nat.lt_of_le_of_lt (Nat.div_le_self a b) ha
  rw [← Int64.toInt_inj, Int64.toInt_div_of_ne_left _ _ (by
    intro z
    have := congrArg Int64.toInt z
    rw [lN_toInt' ha] at this
    have h3 : Int64.minValue.toInt < 0 := by decide
    omega), lN_toInt' ha, lN_toInt' hb, lN_toInt' h2]
  rw [Int.tdiv_eq_ediv_of_nonneg (by omega)]
  omega
theorem nI_div {a b : Nat} (ha : a < 2 ^ 31) (hb : b < 2 ^ 31) : nI a / nI b = nI (a / b) := by
  have h2 : a / b < 2 ^ 31 := Nat.lt_of_le_of_lt (Nat.div_le_self a b) ha
  rw [← Int32.toInt_inj, Int32.toInt_div_of_ne_left _ _ (by
    intro z
    have := congrArg Int32.toInt z
    rw [nI_toInt ha] at this
    have h3 : Int32.minValue.toInt < 0 := by decide
    omega), nI_toInt ha, nI_toInt hb, nI_toInt h2]
  rw [Int.tdiv_eq_ediv_of_nonneg (by omega)]
  omega
theorem nI_mod {a b : Nat} (ha : a < 2 ^ 31) (hb : b < 2 ^ 31) : nI a - nI a / nI b * nI b = nI (a % b) := by
  rw [nI_div ha hb, nI_mul, nI_sub (Nat.div_mul_le_self a b)]
  congr 1
  have := Nat.div_add_mod a b
  rw [Nat.mul_comm] at this
  omega
theorem lN_mod {a b : Nat} (ha : a < 2 ^ 63) (hb : b < 2 ^ 63) : lN a - lN a / lN b * lN b = lN (a % b) := by
  rw [lN_div ha hb, lN_mul, lN_sub (Nat.div_mul_le_self a b)]
  congr 1
  have := Nat.div_add_mod a b
  rw [Nat.mul_comm] at this
  omega
theorem nI_and31 {a : Nat} : nI a &&& 31 = nI (a % 32) := by
  show nI a &&& nI 31 = _
  rw [nx_and, show (31 : Nat) = 2 ^ 5 - 1 from rfl, Nat.and_two_pow_sub_one_eq_mod]
theorem nI_and255 {a : Nat} : nI a &&& 255 = nI (a % 256) := by
  show nI a &&& nI 255 = _
  rw [nx_and, show (255 : Nat) = 2 ^ 8 - 1 from rfl, Nat.and_two_pow_sub_one_eq_mod]
theorem nI_shr5 {a : Nat} (ha : a < 2 ^ 31) : nI a >>> ((5 : Int32) &&& 31) = nI (a / 32) := pk_shrN ha _ 5 (by decide)
theorem fu_lt {n : Nat} (h : n < 100000) : n < FU := h
