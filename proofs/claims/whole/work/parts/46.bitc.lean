/-! how many bits are 1, of 16 -/
theorem bt_nI (n : Nat) {i : Nat} (hi : i < 32) : bt (nI n) i = n.testBit i := by
  show (BitVec.ofNat 32 n).getLsbD i = _
  rw [BitVec.getLsbD_ofNat]
  simp [hi]
theorem ush_nI {k m : Nat} (hm : m < 32) (hk : k < 2 ^ 31) : iushr (nI k) (nI m) = nI (Nat.shiftRight k m) := by
  apply b_ext
  intro i hi
  rw [show bt (iushr (nI k) (nI m)) i = bt (nI k) (m + i) from b_ushr m hm (nI k) i, bt_nI _ hi, show Nat.shiftRight k m = k >>> m from rfl, Nat.testBit_shiftRight]
  by_cases h : m + i < 32
  · rw [bt_nI _ h]
  · have e : k.testBit (m + i) = false := Nat.testBit_lt_two_pow (Nat.lt_of_lt_of_le hk (Nat.pow_le_pow_right (by decide) (by omega)))
    rw [e]
    unfold bt
    exact BitVec.getLsbD_of_ge _ _ (by omega)
def bcA (n : Nat) : Nat := Nat.sub n (Nat.land (Nat.shiftRight n 1) 1431655765)
def bcB (n : Nat) : Nat := Nat.add (Nat.land n 858993459) (Nat.land (Nat.shiftRight n 2) 858993459)
def bcC (n : Nat) : Nat := Nat.land (Nat.add n (Nat.shiftRight n 4)) 252645135
def bcD (n : Nat) : Nat := Nat.add n (Nat.shiftRight n 8)
def bcE (n : Nat) : Nat := Nat.land (Nat.add n (Nat.shiftRight n 16)) 63
def bc (n : Nat) : Nat := bcE (bcD (bcC (bcB (bcA n))))
theorem shr_le (n k : Nat) : Nat.shiftRight n k ≤ n := by
  show n >>> k ≤ n
  rw [Nat.shiftRight_eq_div_pow]
  exact Nat.div_le_self _ _
theorem lan_le (n k : Nat) : Nat.land n k ≤ n := Nat.and_le_left
theorem bc_nI {n : Nat} (hn : n < 65536) : P_J6_bitCount_0f7a4 (nI n) = some (nI (bc n)) := by
  have a1 : bcA n ≤ n := Nat.sub_le _ _
  have b1 : bcB (bcA n) ≤ bcA n + bcA n := Nat.add_le_add (lan_le _ _) (Nat.le_trans (lan_le _ _) (shr_le _ _))
  have c1 : bcC (bcB (bcA n)) ≤ bcB (bcA n) + bcB (bcA n) := Nat.le_trans (lan_le _ _) (Nat.add_le_add_left (shr_le _ _) _)
  have d1 : bcD (bcC (bcB (bcA n))) ≤ bcC (bcB (bcA n)) + bcC (bcB (bcA n)) := Nat.add_le_add_left (shr_le _ _) _
  have e1 : nI n - (iushr (nI n) 1 &&& 1431655765) = nI (bcA n) := by
    rw [show (1 : Int32) = nI 1 from rfl, ush_nI (by decide) (by omega), show (1431655765 : Int32) = nI 1431655765 from rfl, nx_and]
    exact nI_sub (Nat.le_trans (lan_le _ _) (shr_le _ _))
  have e2 : ((nI (bcA n) &&& 858993459) + (iushr (nI (bcA n)) 2 &&& 858993459)) = nI (bcB (bcA n)) := by
    rw [show (2 : Int32) = nI 2 from rfl, ush_nI (by decide) (by omega), show (858993459 : Int32) = nI 858993459 from rfl, nx_and, nx_and, nI_add]
    rfl
  have e3 : ((nI (bcB (bcA n)) + iushr (nI (bcB (bcA n))) 4) &&& 252645135) = nI (bcC (bcB (bcA n))) := by
    rw [show (4 : Int32) = nI 4 from rfl, ush_nI (by decide) (by omega), show (252645135 : Int32) = nI 252645135 from rfl, nI_add, nx_and]
    rfl
  have e4 : (nI (bcC (bcB (bcA n))) + iushr (nI (bcC (bcB (bcA n)))) 8) = nI (bcD (bcC (bcB (bcA n)))) := by
    rw [show (8 : Int32) = nI 8 from rfl, ush_nI (by decide) (by omega), nI_add]
    rfl
  have e5 : ((nI (bcD (bcC (bcB (bcA n)))) + iushr (nI (bcD (bcC (bcB (bcA n))))) 16) &&& 63) = nI (bc n) := by
    rw [show (16 : Int32) = nI 16 from rfl, ush_nI (by decide) (by omega), show (63 : Int32) = nI 63 from rfl, nI_add, nx_and]
    rfl
  unfold P_J6_bitCount_0f7a4
  rw [e1, e2, e3, e4, e5]
def bcL (h : Nat) : Nat → Bool
  | 0 => true
  | l + 1 => Nat.beq (bc (Nat.add (Nat.mul 256 h) l)) (Nat.add (bc h) (bc l)) && bcL h l
def bcH : Nat → Bool
  | 0 => true
  | h + 1 => bcL h 256 && bcH h
theorem bcH_t : bcH 256 = true := by decide +kernel
theorem bcL_of {h : Nat} : ∀ n, bcL h n = true → ∀ l, l < n → bc (256 * h + l) = bc h + bc l
  | 0, _, _, hl => absurd hl (by omega)
  | n + 1, e, l, hl => by
    unfold bcL at e
    rw [Bool.and_eq_true] at e
    by_cases z : l = n
    · subst z; exact Nat.eq_of_beq_eq_true e.1
    · exact bcL_of n e.2 l (by omega)
theorem bcH_of : ∀ n, bcH n = true → ∀ h, h < n → bcL h 256 = true
  | 0, _, _, hl => absurd hl (by omega)
  | n + 1, e, l, hl => by
    unfold bcH at e
    rw [Bool.and_eq_true] at e
    by_cases z : l = n
    · subst z; exact e.1
    · exact bcH_of n e.2 l (by omega)
def pc8 (n : Nat) : Nat := cE (fun j => n.testBit j) 8
theorem bc8 : ∀ n, n < 256 → bc n = pc8 n := by decide +kernel
theorem cE_add (E : Nat → Bool) (n : Nat) : ∀ m, cE E (n + m) = cE E n + cE (fun j => E (n + j)) m
  | 0 => rfl
  | m + 1 => by
    rw [← Nat.add_assoc, cE, cE, cE_add E n m]
    split <;> omega
theorem cE_congr {E E' : Nat → Bool} : ∀ n, (∀ j, j < n → E j = E' j) → cE E n = cE E' n
  | 0, _ => rfl
  | n + 1, h => by rw [cE, cE, cE_congr n (fun j hj => h j (by omega)), h n (by omega)]
theorem bc_pop {n : Nat} (hn : n < 65536) : bc n = cE (fun j => n.testBit j) 16 := by
  have hh : n / 256 < 256 := by omega
  have hl : n % 256 < 256 := by omega
  have e : n = 256 * (n / 256) + n % 256 := by omega
  have h1 := bcL_of 256 (bcH_of 256 bcH_t _ hh) _ hl
  rw [← e, bc8 _ hh, bc8 _ hl] at h1
  rw [h1, show (16 : Nat) = 8 + 8 from rfl, cE_add, Nat.add_comm]
  unfold pc8
  congr 1
  · apply cE_congr
    intro j hj
    rw [show (256 : Nat) = 2 ^ 8 from rfl, Nat.testBit_mod_two_pow]
    simp [hj]
  · apply cE_congr
    intro j hj
    rw [show (256 : Nat) = 2 ^ 8 from rfl, Nat.testBit_div_two_pow, Nat.add_comm]
theorem x_needCount {N : Nat → Nat → Bool} {σ : SS} (h : NX N σ) {k : Nat} (hk : k < 16) (hN : ∀ j, 16 ≤ j → N k j = false) : P_X3_needCount (nI k) σ = some (nI (cE (N k) 16)) := by
  have hb := h k hk
  obtain ⟨n, hn, e⟩ : ∃ n, n < 65536 ∧ sA σ 7 k = nI n := by
    refine ⟨(sA σ 7 k).toBitVec.toNat, ?_, ?_⟩
    · apply Classical.byContradiction
      intro z
      obtain ⟨i, hi, hi2⟩ := Nat.exists_ge_and_testBit_of_ge_two_pow (n := 16) (x := (sA σ 7 k).toBitVec.toNat) (by omega)
      by_cases h32 : i < 32
      · have := hb i h32
        unfold bt BitVec.getLsbD at this
        rw [hi2, hN i hi] at this
        cases this
      · have : (sA σ 7 k).toBitVec.toNat.testBit i = false := Nat.testBit_lt_two_pow (Nat.lt_of_lt_of_le (sA σ 7 k).toBitVec.isLt (Nat.pow_le_pow_right (by decide) (by omega)))
        rw [this] at hi2
        cases hi2
    · apply b_ext
      intro i hi
      rw [bt_nI _ hi]
      rfl
  unfold P_X3_needCount
  rw [vX6_at_18 hk, Option.bind_some, e, bc_nI hn, Option.bind_some, bc_pop hn]
  congr 2
  apply cE_congr
  intro j hj
  have := hb j (by omega)
  rw [e, bt_nI _ (by omega)] at this
  exact this
