/-! which SHAPES are as told -/
theorem I32lt (a b : Int32) : a < b ↔ a.toInt < b.toInt := Int32.lt_iff_toInt_lt
theorem I32le (a b : Int32) : a ≤ b ↔ a.toInt ≤ b.toInt := Int32.le_iff_toInt_le
theorem I32eq (a b : Int32) : a = b ↔ a.toInt = b.toInt := Int32.toInt_inj.symm
theorem I64lt (a b : Int64) : a < b ↔ a.toInt < b.toInt := Int64.lt_iff_toInt_lt
theorem I64le (a b : Int64) : a ≤ b ↔ a.toInt ≤ b.toInt := Int64.le_iff_toInt_le
theorem I64eq (a b : Int64) : a = b ↔ a.toInt = b.toInt := Int64.toInt_inj.symm
theorem t0 : (0 : Int32).toInt = 0 := by decide
theorem t1 : (1 : Int32).toInt = 1 := by decide
theorem t2 : (2 : Int32).toInt = 2 := by decide
theorem t3 : (3 : Int32).toInt = 3 := by decide
theorem t4 : (4 : Int32).toInt = 4 := by decide
theorem t5 : (5 : Int32).toInt = 5 := by decide
theorem t6 : (6 : Int32).toInt = 6 := by decide
theorem t7 : (7 : Int32).toInt = 7 := by decide
theorem t8 : (8 : Int32).toInt = 8 := by decide
theorem t9 : (9 : Int32).toInt = 9 := by decide
theorem t15 : (15 : Int32).toInt = 15 := by decide
theorem t16 : (16 : Int32).toInt = 16 := by decide
theorem t20 : (20 : Int32).toInt = 20 := by decide
theorem t24 : (24 : Int32).toInt = 24 := by decide
theorem t25 : (25 : Int32).toInt = 25 := by decide
theorem t31 : (31 : Int32).toInt = 31 := by decide
theorem t32 : (32 : Int32).toInt = 32 := by decide
theorem t300 : (300 : Int32).toInt = 300 := by decide
theorem tm1 : (-1 : Int32).toInt = -1 := by decide
theorem w0 : (0 : Int64).toInt = 0 := by decide
theorem w1 : (1 : Int64).toInt = 1 := by decide
theorem w2 : (2 : Int64).toInt = 2 := by decide
theorem w4 : (4 : Int64).toInt = 4 := by decide
theorem w6 : (6 : Int64).toInt = 6 := by decide
theorem w7 : (7 : Int64).toInt = 7 := by decide
theorem w8 : (8 : Int64).toInt = 8 := by decide
theorem w9 : (9 : Int64).toInt = 9 := by decide
theorem w15 : (15 : Int64).toInt = 15 := by decide
theorem w24 : (24 : Int64).toInt = 24 := by decide
theorem w25 : (25 : Int64).toInt = 25 := by decide
def okI (k a b : Int) : Prop := (k = 0 ∧ 1 ≤ a ∧ a ≤ 9 ∧ 0 ≤ b ∧ b ≤ 25) ∨ (k = 1 ∧ a = 0 ∧ b = 0) ∨ ((k = 2 ∨ k = 3) ∧ 0 ≤ a ∧ a ≤ 15 ∧ 0 ≤ b ∧ b ≤ 15) ∨ (4 ≤ k ∧ k ≤ 6 ∧ 0 ≤ a ∧ a ≤ 15 ∧ b = 0) ∨ (k = 7 ∧ 0 ≤ a ∧ a ≤ 15 ∧ 0 ≤ b ∧ b % 32 ≤ 24 ∧ b / 32 ≤ b % 32) ∨ (k = 8 ∧ 1 ≤ a ∧ a ≤ 8 ∧ b = 0)
theorem isPart_c (a : Int32) : (P_X10_isPart a = some 1 ∧ 0 ≤ a.toInt ∧ a.toInt ≤ 15) ∨ (P_X10_isPart a = some 0 ∧ ¬ (0 ≤ a.toInt ∧ a.toInt ≤ 15)) := by
  simp only [P_X10_isPart, I32lt, I32le, t0, t16]
  split
  · right; exact ⟨rfl, by omega⟩
  · split
    · right; exact ⟨rfl, by omega⟩
    · left; exact ⟨rfl, by omega, by omega⟩
theorem isIn_c (v lo hi : Int64) : (P_X11_isIn v lo hi = some 1 ∧ lo.toInt ≤ v.toInt ∧ v.toInt ≤ hi.toInt) ∨ (P_X11_isIn v lo hi = some 0 ∧ ¬ (lo.toInt ≤ v.toInt ∧ v.toInt ≤ hi.toInt)) := by
  simp only [P_X11_isIn, I64lt]
  split
  · right; exact ⟨rfl, by omega⟩
  · split
    · right; exact ⟨rfl, by omega⟩
    · left; exact ⟨rfl, by omega, by omega⟩
theorem b31 {b : Int32} (h : 0 ≤ b.toInt) : (b &&& 31).toInt = b.toInt % 32 ∧ (b >>> ((5 : Int32) &&& 31)).toInt = b.toInt / 32 ∧ (b / 32).toInt = b.toInt / 32 ∧ (b - b / 32 * 32).toInt = b.toInt % 32 := by
  obtain ⟨j, hj, e1, rfl⟩ := of_nI h
  have e2 : (32 : Int32) = nI 32 := rfl
  rw [nI_and31, nI_shr5 hj, e2, nI_mod hj (by decide), nI_div hj (by decide), nI_toInt (show j % 32 < 2 ^ 31 by omega), nI_toInt (show j / 32 < 2 ^ 31 by omega), ← e1]
  omega
theorem kinds_c (k : Int32) : k = 0 ∨ k = 1 ∨ k = 2 ∨ k = 3 ∨ k = 4 ∨ k = 5 ∨ k = 6 ∨ k = 7 ∨ k = 8 ∨ (¬ k = 0 ∧ ¬ k = 1 ∧ ¬ k = 2 ∧ ¬ k = 3 ∧ ¬ k = 4 ∧ ¬ k = 5 ∧ ¬ k = 6 ∧ ¬ k = 7 ∧ ¬ k = 8) := by
  simp only [I32eq, t0, t1, t2, t3, t4, t5, t6, t7, t8]
  omega
/-- a test that is answered by 0 or 1 -/
def TF (o : Option Int32) (c : Prop) : Prop := (c → o = some 1) ∧ (¬ c → o = some 0)
theorem TF.iff {o : Option Int32} {c c' : Prop} (h : TF o c) (e : c ↔ c') : TF o c' := ⟨fun z => h.1 (e.mpr z), fun z => h.2 (fun y => z (e.mp y))⟩
theorem TF.cases {o : Option Int32} {c : Prop} (h : TF o c) : (o = some 1 ∧ c) ∨ (o = some 0 ∧ ¬ c) := by
  by_cases hc : c
  · exact Or.inl ⟨h.1 hc, hc⟩
  · exact Or.inr ⟨h.2 hc, hc⟩
theorem TF.of {o : Option Int32} {c : Prop} (h : (o = some 1 ∧ c) ∨ (o = some 0 ∧ ¬ c)) : TF o c := by
  rcases h with ⟨h1, h2⟩ | ⟨h1, h2⟩
  · exact ⟨fun _ => h1, fun z => absurd h2 z⟩
  · exact ⟨fun z => absurd z h2, fun _ => h1⟩
theorem tf_0 (a b : Int32) : TF (if a < 1 then some 0 else if 9 < a then some 0 else if b < 0 then some 0 else if 25 < b then some 0 else some 1) (1 ≤ a.toInt ∧ a.toInt ≤ 9 ∧ 0 ≤ b.toInt ∧ b.toInt ≤ 25) := by
  apply TF.of
  simp only [I32lt, t0, t1, t9, t25]
  repeat' split
  all_goals first | (left; refine ⟨rfl, ?_⟩; omega) | (right; refine ⟨rfl, ?_⟩; omega)
theorem tf_1 (a b : Int32) : TF (if ¬ a = 0 then some 0 else if ¬ b = 0 then some 0 else some 1) (a.toInt = 0 ∧ b.toInt = 0) := by
  apply TF.of
  simp only [I32eq, t0]
  repeat' split
  all_goals first | (left; refine ⟨rfl, ?_⟩; omega) | (right; refine ⟨rfl, ?_⟩; omega)
theorem tf_8 (a b : Int32) : TF (if a < 1 then some 0 else if 8 < a then some 0 else if ¬ b = 0 then some 0 else some 1) (1 ≤ a.toInt ∧ a.toInt ≤ 8 ∧ b.toInt = 0) := by
  apply TF.of
  simp only [I32lt, I32eq, t0, t1, t8]
  repeat' split
  all_goals first | (left; refine ⟨rfl, ?_⟩; omega) | (right; refine ⟨rfl, ?_⟩; omega)
theorem tf_and {o : Option Int32} {o2 : Option Int32} {c c2 : Prop} (h : TF o c) (h2 : TF o2 c2) : TF (o.bind fun v => if v = 0 then some 0 else o2) (c ∧ c2) := by
  rcases h.cases with ⟨e, q⟩ | ⟨e, q⟩
  · rw [e]
    refine ⟨fun z => ?_, fun z => ?_⟩
    · exact h2.1 z.2
    · exact h2.2 (fun y => z ⟨q, y⟩)
  · rw [e]
    exact ⟨fun z => absurd z.1 q, fun _ => rfl⟩
theorem tf_b {o : Option Int32} {c : Prop} (h : TF o c) : TF (o.bind fun v => if v = 0 then some 0 else some 1) c := by
  rcases h.cases with ⟨e, q⟩ | ⟨e, q⟩ <;> rw [e]
  · exact ⟨fun _ => rfl, fun z => absurd q z⟩
  · exact ⟨fun z => absurd z q, fun _ => rfl⟩
theorem tf_z (b : Int32) : TF (if ¬ b = 0 then some 0 else some 1) (b.toInt = 0) := by
  apply TF.of
  simp only [I32eq, t0]
  split
  all_goals first | (left; refine ⟨rfl, ?_⟩; omega) | (right; refine ⟨rfl, ?_⟩; omega)
theorem tf_7x (b : Int32) : TF (if b < 0 then some 0 else if 24 < (b &&& 31) then some 0 else if (b &&& 31) < (b >>> ((5 : Int32) &&& 31)) then some 0 else some 1) (0 ≤ b.toInt ∧ b.toInt % 32 ≤ 24 ∧ b.toInt / 32 ≤ b.toInt % 32) := by
  apply TF.of
  by_cases h : 0 ≤ b.toInt
  · obtain ⟨e1, e2, e3, e4⟩ := b31 h
    simp only [I32lt, e1, e2, t0, t24]
    repeat' split
    all_goals first | (left; refine ⟨rfl, ?_⟩; omega) | (right; refine ⟨rfl, ?_⟩; omega)
  · right
    refine ⟨if_pos ?_, by omega⟩
    rw [I32lt, t0]
    omega
theorem tf_7m (b : Int32) : TF (if b < 0 then some 0 else if (b - b / 32 * 32) < (b / 32) then some 0 else if 24 < (b - b / 32 * 32) then some 0 else some 1) (0 ≤ b.toInt ∧ b.toInt % 32 ≤ 24 ∧ b.toInt / 32 ≤ b.toInt % 32) := by
  apply TF.of
  by_cases h : 0 ≤ b.toInt
  · obtain ⟨e1, e2, e3, e4⟩ := b31 h
    simp only [I32lt, e3, e4, t0, t24]
    repeat' split
    all_goals first | (left; refine ⟨rfl, ?_⟩; omega) | (right; refine ⟨rfl, ?_⟩; omega)
  · right
    refine ⟨if_pos ?_, by omega⟩
    rw [I32lt, t0]
    omega
theorem fits_x (k a b : Int32) : TF (P_X10_fits k a b) (okI k.toInt a.toInt b.toInt) := by
  have pa := TF.of (isPart_c a)
  have pb := TF.of (isPart_c b)
  rcases kinds_c k with rfl | rfl | rfl | rfl | rfl | rfl | rfl | rfl | rfl | ⟨h0, h1, h2, h3, h4, h5, h6, h7, h8⟩
  · exact (show TF (P_X10_fits 0 a b) _ from tf_0 a b).iff (by rw [t0]; unfold okI; omega)
  · exact (show TF (P_X10_fits 1 a b) _ from tf_1 a b).iff (by rw [t1]; unfold okI; omega)
  · exact (show TF (P_X10_fits 2 a b) _ from tf_and pa (tf_b pb)).iff (by rw [t2]; unfold okI; omega)
  · exact (show TF (P_X10_fits 3 a b) _ from tf_and pa (tf_b pb)).iff (by rw [t3]; unfold okI; omega)
  · exact (show TF (P_X10_fits 4 a b) _ from tf_and pa (tf_z b)).iff (by rw [t4]; unfold okI; omega)
  · exact (show TF (P_X10_fits 5 a b) _ from tf_and pa (tf_z b)).iff (by rw [t5]; unfold okI; omega)
  · exact (show TF (P_X10_fits 6 a b) _ from tf_and pa (tf_z b)).iff (by rw [t6]; unfold okI; omega)
  · exact (show TF (P_X10_fits 7 a b) _ from tf_and pa (tf_7x b)).iff (by rw [t7]; unfold okI; omega)
  · exact (show TF (P_X10_fits 8 a b) _ from tf_8 a b).iff (by rw [t8]; unfold okI; omega)
  · refine ⟨fun z => ?_, fun _ => by simp only [P_X10_fits, h0, h1, h2, h3, h4, h5, h6, h7, h8, if_false]⟩
    exfalso
    simp only [I32eq, t0, t1, t2, t3, t4, t5, t6, t7, t8] at h0 h1 h2 h3 h4 h5 h6 h7 h8
    unfold okI at z
    omega
theorem isIn_t (v : Int32) (lo hi : Int64) : TF (P_X11_isIn v.toInt64 lo hi) (lo.toInt ≤ v.toInt ∧ v.toInt ≤ hi.toInt) := (TF.of (isIn_c v.toInt64 lo hi)).iff (by rw [Int32.toInt_toInt64])
theorem good_m (k a b : Int32) : TF (P_X11_isGood k a b) (okI k.toInt a.toInt b.toInt) := by
  have a19 := isIn_t a 1 9
  have b25 := isIn_t b 0 25
  have a15 := isIn_t a 0 15
  have b15 := isIn_t b 0 15
  have a18 := isIn_t a 1 8
  simp only [w0, w1, w8, w9, w15, w25] at a19 b25 a15 b15 a18
  rcases kinds_c k with rfl | rfl | rfl | rfl | rfl | rfl | rfl | rfl | rfl | ⟨h0, h1, h2, h3, h4, h5, h6, h7, h8⟩
  · exact (show TF (P_X11_isGood 0 a b) _ from tf_and a19 (tf_b b25)).iff (by rw [t0]; unfold okI; omega)
  · exact (show TF (P_X11_isGood 1 a b) _ from tf_1 a b).iff (by rw [t1]; unfold okI; omega)
  · exact (show TF (P_X11_isGood 2 a b) _ from tf_and a15 (tf_b b15)).iff (by rw [t2]; unfold okI; omega)
  · exact (show TF (P_X11_isGood 3 a b) _ from tf_and a15 (tf_b b15)).iff (by rw [t3]; unfold okI; omega)
  · exact (show TF (P_X11_isGood 4 a b) _ from tf_and a15 (tf_z b)).iff (by rw [t4]; unfold okI; omega)
  · exact (show TF (P_X11_isGood 5 a b) _ from tf_and a15 (tf_z b)).iff (by rw [t5]; unfold okI; omega)
  · exact (show TF (P_X11_isGood 6 a b) _ from tf_and a15 (tf_z b)).iff (by rw [t6]; unfold okI; omega)
  · exact (show TF (P_X11_isGood 7 a b) _ from tf_and a15 (tf_7m b)).iff (by rw [t7]; unfold okI; omega)
  · exact (show TF (P_X11_isGood 8 a b) _ from tf_and a18 (tf_z b)).iff (by rw [t8]; unfold okI; omega)
  · refine ⟨fun z => ?_, fun _ => by simp only [P_X11_isGood, h0, h1, h2, h3, h4, h5, h6, h7, h8, if_false]⟩
    exfalso
    simp only [I32eq, t0, t1, t2, t3, t4, t5, t6, t7, t8] at h0 h1 h2 h3 h4 h5 h6 h7 h8
    unfold okI at z
    omega
