/-! a byte of the tape, on both sides -/
def Sc (p : Nat) (σ : SS) : Option SS := P_X5_scan_j26 (FU - p) (nI p) σ
theorem x_at8 {σ : SS} {n i : Nat} (h : sI σ 19 = nI n) (hn : n ≤ 300) (hi : i < n) : P_X0_at_8 (nI i) σ = some (sA σ 19 i) := by
  unfold P_X0_at_8
  rw [h, if_neg (nI_ge hi (by omega)), vX6_at_35 (by omega), Option.bind_some]
theorem sc_step {σ : SS} {n p : Nat} (h : sI σ 19 = nI n) (hn : n ≤ 300) (hp : p < n) : Sc p σ = b2 (P_X5_takes (sA σ 19 p) (nI p) σ) fun v7 σ8 => if v7 = 0 then P_X5_scan_j59 (nI p) σ8 else Sc (p + 1) σ8 := by
  have e : FU - p = (FU - (p + 1)) + 1 := by unfold FU; omega
  unfold Sc
  rw [e, P_X5_scan_j26]
  unfold P_X0_length_8
  rw [Option.bind_some, h, if_neg (nI_ge hp (by omega)), x_at8 h hn hp, Option.bind_some, nI_1]
theorem sc_end {σ : SS} {n p : Nat} (h : sI σ 19 = nI n) (hn : n ≤ p) (hp : p ≤ 300) : Sc p σ = P_X5_scan_j59 (nI p) σ := by
  have e : FU - p = (FU - (p + 1)) + 1 := by unfold FU; omega
  unfold Sc
  rw [e, P_X5_scan_j26]
  unfold P_X0_length_8
  rw [Option.bind_some, h, if_pos (nI_le hn (by omega))]
/-- the class stops at place p: fault 1 -/
theorem sc_bad {σ : SS} {n p : Nat} (h : sI σ 19 = nI n) (hn : n ≤ 300) (hp : p ≤ 300) (hb : p < n ∨ sI σ 10 = 0 ∨ ¬ sI σ 11 = -1) : P_X5_scan_j59 (nI p) σ = some (uI (uI σ 13 1) 14 (nI p)) := by
  unfold P_X5_scan_j59 P_X0_length_8 P_X5_blame
  simp only [Option.bind_some]
  rw [h]
  by_cases z : p < n
  · rw [if_pos (nI_lt z (by omega))]
  · rw [if_neg (nI_nlt (by omega) (by omega))]
    by_cases z0 : sI σ 10 = 0
    · rw [if_pos z0]
    · rw [if_neg z0, if_neg (by
        rcases hb with w | w | w
        · omega
        · exact absurd w z0
        · exact w)]
theorem m_here {σ : SS} {n p : Nat} (h3 : sI σ 3 = nI n) (h7 : sI σ 7 = nI p) (hn : n ≤ 300) (hp : p < 2 ^ 31) : P_X11_here σ = some (if p < n then sA σ 4 p else -1) := by
  unfold P_X11_here
  rw [h3, h7]
  by_cases z : p < n
  · rw [if_neg (nI_ge z (by omega)), if_pos z, gI_nI (by omega) (by decide), ldA_nI (by omega)]
  · rw [if_pos (nI_le (by omega) hp), if_neg z]
/-- need, while nothing is bad -/
theorem m_need_ok {σ : SS} {n p : Nat} {v : Int32} (h3 : sI σ 3 = nI n) (h7 : sI σ 7 = nI p) (h8 : sI σ 8 = -1) (hn : n ≤ 300) (hp : p < 2 ^ 31) (hv : ¬ v = -1) : P_X11_need v σ = some (if p < n ∧ sA σ 4 p = v then uI σ 7 (nI (p + 1)) else uI (uI σ 8 (nI p)) 7 (nI (p + 1))) := by
  unfold P_X11_need
  rw [h8, if_neg (by decide), m_here h3 h7 hn hp, Option.bind_some, h7, nI_1]
  by_cases z : p < n
  · rw [if_pos z]
    by_cases e : sA σ 4 p = v
    · rw [if_pos e, if_pos ⟨z, e⟩]
    · rw [if_neg e, if_neg (fun w => e w.2), sI_uI, if_neg (by decide), h7, nI_1]
  · rw [if_neg z, if_neg (fun w => hv w.symm), if_neg (fun w => z w.1), sI_uI, if_neg (by decide), h7, nI_1]
theorem m_need_bad {σ : SS} {v : Int32} (h8 : 0 ≤ sI σ 8) : P_X11_need v σ = some (uI σ 7 (sI σ 7 + 1)) := by
  unfold P_X11_need
  rw [if_pos h8]
theorem m_within_bad {σ : SS} {a b c : Int32} (h8 : ¬ sI σ 8 < 0) : P_X11_within a b c σ = some σ := by
  unfold P_X11_within
  rw [if_neg h8]
