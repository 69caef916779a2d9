/-! which SHAPES can be of SIZE 0 -/
def b2i (b : Bool) : Int32 := if b then 1 else 0
theorem b2i_t : b2i true = 1 := rfl
theorem b2i_f : b2i false = 0 := rfl
theorem b2i_01 (b : Bool) : b2i b = 0 ∨ b2i b = 1 := by cases b; exact Or.inl rfl; exact Or.inr rfl
theorem b2i_z (b : Bool) : (b2i b = 0) = (b = false) := by cases b <;> simp [b2i]
theorem and1_z (x : Int32) : (x &&& 1 = 0) ↔ bt x 0 = false := by
  constructor
  · intro h
    have := congrArg (fun y => bt y 0) h
    simp only [b_and, b_0] at this
    have h1 : bt 1 0 = true := by decide
    rw [h1, Bool.and_true] at this
    exact this
  · intro h
    apply b_ext
    intro i hi
    rw [b_and, b_0]
    by_cases e : i = 0
    · rw [e, h]; rfl
    · have h1 : bt 1 i = false := by
        revert i
        decide
      rw [h1, Bool.and_false]
theorem bt1 : ∀ i, i < 32 → bt 1 i = decide (i = 0) := by decide
theorem bt_set (x : Int32) {k i : Nat} (hk : k < 32) (hi : i < 32) : bt (x ||| ((1 : Int32) <<< (nI k &&& 31))) i = (decide (i = k) || bt x i) := by
  rw [b_or, b_shl k hk 1 hi]
  by_cases e : i = k
  · subst e
    rw [Nat.sub_self, bt1 0 (by decide)]
    simp
  · by_cases h : k ≤ i
    · rw [bt1 (i - k) (by omega)]
      simp [e, show ¬ i - k = 0 by omega]
    · simp [e, h]
theorem bt_one {k i : Nat} (hk : k < 32) (hi : i < 32) : bt ((1 : Int32) <<< (nI k &&& 31)) i = decide (i = k) := by
  have := bt_set 0 hk hi
  rw [b_or, b_0, Bool.false_or, Bool.or_false] at this
  exact this
theorem x_isIn (v : Int32) {k : Nat} (hk : k < 2 ^ 31) : P_X3_isIn v (nI k) = some (b2i (decide (k < 16) && bt v k)) := by
  unfold P_X3_isIn
  rw [if_neg (nI_pos hk), show (16 : Int32) = nI 16 from rfl]
  by_cases h : k < 16
  · rw [if_neg (nI_ge h (by decide))]
    have e : bt (v >>> (nI k &&& 31)) 0 = bt v k := by
      rw [b_sshr k (by omega) v (by decide), if_pos (by omega), Nat.add_zero]
    have e2 := and1_z (v >>> (nI k &&& 31))
    rw [e] at e2
    cases hb : bt v k with
    | false => rw [if_pos (e2.mpr hb)]; simp [b2i]
    | true => rw [if_neg (fun z => by rw [e2.mp z] at hb; cases hb)]; simp [h, b2i]
  · rw [if_pos (nI_le (by omega) hk)]
    simp [h, b2i]
def kd (g : List N3) (k : Nat) : Nat := (g.getD k (0, 0, 0)).1
def fa (g : List N3) (k : Nat) : Nat := (g.getD k (0, 0, 0)).2.1
def fb (g : List N3) (k : Nat) : Nat := (g.getD k (0, 0, 0)).2.2
theorem at_g {g : List N3} {k : Nat} (hk : k < g.length) : g[k]? = some (kd g k, fa g k, fb g k) := by
  rw [List.getElem?_eq_getElem hk]
  unfold kd fa fb
  rw [List.getD_eq_getElem?_getD, List.getElem?_eq_getElem hk]
  rfl
theorem gX_at {g : List N3} {σ : SS} (h : gX' g σ) {k : Nat} (hk : k < g.length) : sA σ 0 k = nI (kd g k) ∧ sA σ 1 k = nI (fa g k) ∧ sA σ 2 k = nI (fb g k) := h.2 k _ (at_g hk)
theorem gM_at {g : List N3} {σ : SS} (h : gM' g σ) {k : Nat} (hk : k < g.length) : sA σ 0 k = nI (kd g k) ∧ sA σ 1 k = nI (fa g k) ∧ sA σ 2 k = nI (fb g k) := h.2 k _ (at_g hk)
theorem gd_at {g : List N3} (h : GdL g) {k : Nat} (hk : k < g.length) : okI (kd g k) (fa g k) (fb g k) := h.2 _ (List.mem_of_getElem? (at_g hk))
theorem gd_lt {g : List N3} (h : GdL g) {k : Nat} (hk : k < g.length) : kd g k ≤ 8 ∧ fa g k ≤ 15 ∧ fb g k ≤ 800 := by
  have := gd_at h hk
  unfold okI at this
  omega
def cbE (g : List N3) (E : Nat → Bool) (k : Nat) : Bool :=
  if kd g k = 1 then true else if kd g k = 2 then E (fa g k) && E (fb g k) else if kd g k = 3 then E (fa g k) || E (fb g k) else if kd g k = 4 then true else if kd g k = 5 then true else if kd g k = 6 then true else if kd g k = 7 then decide (fb g k / 32 = 0) && E (fa g k) else false
/-- E as the class, and as the reference, hold it -/
def EX (E : Nat → Bool) (σ : SS) : Prop := (∀ k, k < 16 → bt (sI σ 7) k = E k) ∧ ∀ k, 16 ≤ k → E k = false
def EM (E : Nat → Bool) (σ : SS) : Prop := (∀ k, k < 16 → sA σ 6 k = b2i (E k)) ∧ ∀ k, 16 ≤ k → E k = false
theorem EX.is {E : Nat → Bool} {σ : SS} (h : EX E σ) {k : Nat} (hk : k < 2 ^ 31) : P_X3_isIn (sI σ 7) (nI k) = some (b2i (E k)) := by
  rw [x_isIn _ hk]
  by_cases h16 : k < 16
  · rw [h.1 k h16]; simp [h16]
  · rw [h.2 k (by omega)]; simp [h16]
theorem nI_lit {a b : Nat} {B : Int32} (hB : B = nI b) (ha : a < 2 ^ 31) (hb : b < 2 ^ 31) : (nI a = B) = (a = b) := by
  rw [hB]
  exact propext (nI_eq ha hb)
theorem x_canBe {g : List N3} {σ : SS} {E : Nat → Bool} (hg : gX' g σ) (hd : GdL g) (hE : EX E σ) {k : Nat} (hk : k < g.length) : P_X3_canBeEmpty (nI k) σ = some (b2i (cbE g E k)) := by
  have h16 : k < 16 := Nat.lt_of_lt_of_le hk hd.1
  obtain ⟨e0, e1, e2⟩ := gX_at hg hk
  obtain ⟨l0, l1, l2⟩ := gd_lt hd hk
  unfold P_X3_canBeEmpty P_X1_low cbE
  rw [x_a h16, x_b h16, x_kind h16, e0, e1, e2]
  simp only [Option.bind_some, hE.is (show fa g k < 2 ^ 31 by omega), hE.is (show fb g k < 2 ^ 31 by omega), nI_shr5 (show fb g k < 2 ^ 31 by omega), nI_lit (B := 1) (b := 1) rfl (show kd g k < 2 ^ 31 by omega) (by decide), nI_lit (B := 2) (b := 2) rfl (show kd g k < 2 ^ 31 by omega) (by decide), nI_lit (B := 3) (b := 3) rfl (show kd g k < 2 ^ 31 by omega) (by decide), nI_lit (B := 4) (b := 4) rfl (show kd g k < 2 ^ 31 by omega) (by decide), nI_lit (B := 5) (b := 5) rfl (show kd g k < 2 ^ 31 by omega) (by decide), nI_lit (B := 6) (b := 6) rfl (show kd g k < 2 ^ 31 by omega) (by decide), nI_lit (B := 7) (b := 7) rfl (show kd g k < 2 ^ 31 by omega) (by decide), nI_lit (B := 0) (b := 0) rfl (show fb g k / 32 < 2 ^ 31 by omega) (by decide), b2i_z]
  repeat' split
  all_goals first | rfl | (simp_all [b2i]; done) | (simp_all [b2i]; intro z; omega)
theorem m_canBe {g : List N3} {σ : SS} {E : Nat → Bool} (hg : gM' g σ) (hd : GdL g) (hE : EM E σ) {k : Nat} (hk : k < g.length) : P_X11_canBeNought (nI k) σ = some (b2i (cbE g E k)) := by
  have h16 : k < 16 := Nat.lt_of_lt_of_le hk hd.1
  obtain ⟨e0, e1, e2⟩ := gM_at hg hk
  obtain ⟨l0, l1, l2⟩ := gd_lt hd hk
  have ok := gd_at hd hk
  unfold P_X11_canBeNought cbE
  have ga : fa g k < 16 := by omega
  simp only [gI_nI h16 (show (16 : Nat) < 2 ^ 31 by decide), ldA_nI (show k < 2 ^ 31 by omega), e0, e1, e2, gI_nI ga (show (16 : Nat) < 2 ^ 31 by decide), ldA_nI (show fa g k < 2 ^ 31 by omega), ldA_nI (show fb g k < 2 ^ 31 by omega), hE.1 _ ga, show (32 : Int32) = nI 32 from rfl, nI_div (show fb g k < 2 ^ 31 by omega) (show 32 < 2 ^ 31 by decide), nI_lit (B := 1) (b := 1) rfl (show kd g k < 2 ^ 31 by omega) (by decide), nI_lit (B := 2) (b := 2) rfl (show kd g k < 2 ^ 31 by omega) (by decide), nI_lit (B := 3) (b := 3) rfl (show kd g k < 2 ^ 31 by omega) (by decide), nI_lit (B := 4) (b := 4) rfl (show kd g k < 2 ^ 31 by omega) (by decide), nI_lit (B := 5) (b := 5) rfl (show kd g k < 2 ^ 31 by omega) (by decide), nI_lit (B := 6) (b := 6) rfl (show kd g k < 2 ^ 31 by omega) (by decide), nI_lit (B := 7) (b := 7) rfl (show kd g k < 2 ^ 31 by omega) (by decide), nI_lit (B := 0) (b := 0) rfl (show fb g k / 32 < 2 ^ 31 by omega) (by decide), b2i_z]
  by_cases h23 : kd g k = 2 ∨ kd g k = 3
  · have gb : fb g k < 16 := by
      unfold okI at ok
      omega
    simp only [gI_nI gb (show (16 : Nat) < 2 ^ 31 by decide), hE.1 _ gb, b2i_z]
    repeat' split
    all_goals first | rfl | (simp_all [b2i]; done) | (simp_all [b2i]; intro z; omega)
  · have h2 : ¬ kd g k = 2 := fun z => h23 (Or.inl z)
    have h3 : ¬ kd g k = 3 := fun z => h23 (Or.inr z)
    simp only [h2, h3, if_false]
    repeat' split
    all_goals first | rfl | (simp_all [b2i]; done) | (simp_all [b2i]; intro z; omega)
