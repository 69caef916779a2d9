/-! the class begins a node -/
def opn (g : List N3) (x : Nat) (v : Int32) : Bool := if kd g x = 0 then decide (v = nI (97 + fb g x)) else if kd g x = 3 then (decide (v = 49) || decide (v = 50)) else decide (v = chO (kd g x))
theorem x_opens {g : List N3} {σ : SS} (hg : gX' g σ) (hd : GdL g) {x : Nat} (hx : x < g.length) (v : Int32) : P_X5_opens (nI x) (nI (kd g x)) v σ = some (b2i (opn g x v)) := by
  have h16 : x < 16 := Nat.lt_of_lt_of_le hx hd.1
  obtain ⟨l0, l1, l2⟩ := gd_lt hd hx
  unfold P_X5_opens opn
  by_cases k0 : kd g x = 0
  · rw [if_pos k0, k0, if_neg (fun z => z rfl), x_b h16, Option.bind_some, (gX_at hg hx).2.2, show (97 : Int32) + nI (fb g x) = nI (97 + fb g x) from nI_add 97 _]
    by_cases e : v = nI (97 + fb g x)
    · rw [if_neg (fun z => z e), decide_eq_true e]; rfl
    · rw [if_pos e, decide_eq_false e]; rfl
  · rw [if_neg k0, if_pos (show ¬ nI (kd g x) = 0 from fun w => k0 ((nI_eq (b := 0) (by omega) (by decide)).mp w))]
    by_cases k3 : kd g x = 3
    · rw [if_pos k3, k3, if_neg (fun z => z rfl)]
      by_cases e : v = 49
      · rw [if_pos e, decide_eq_true e]; rfl
      · rw [if_neg e, decide_eq_false e]
        by_cases e2 : v = 50
        · rw [if_neg (fun z => z e2), decide_eq_true e2]; rfl
        · rw [if_pos e2, decide_eq_false e2]; rfl
    · rw [if_neg k3, if_pos (show ¬ nI (kd g x) = 3 from fun w => k3 ((nI_eq (b := 3) (by omega) (by decide)).mp w)), vX6_at___O (by omega), Option.bind_some]
      by_cases e : v = chO (kd g x)
      · rw [if_neg (fun z => z e), decide_eq_true e]; rfl
      · rw [if_pos e, decide_eq_false e]; rfl
def own (g : List N3) (x : Nat) : Nat := if kd g x = 0 ∨ kd g x = 8 then fa g x else 0
/-- a new node, before it is finished or left open -/
def nw (σ : SS) (N x s : Nat) (p : Int32) : SS := stA (stA (stA (stA (stA (stA (uI σ 10 (nI (N + 1))) 11 (nI N) (nI x)) 12 (nI N) p) 13 (nI N) (sI σ 11)) 14 (nI N) (nI s)) 15 (nI N) (nI (N + 1))) 16 (nI N) 0
theorem x_begins {g : List N3} {σ : SS} (hg : gX' g σ) (hd : GdL g) {x N : Nat} (hx : x < g.length) (hN : N < 300) (e10 : sI σ 10 = nI N) (v p : Int32) : P_X5_begins (nI x) v p σ = if opn g x v = true then (if kd g x ≤ 1 then (P_X5_finish (nI N) (nw σ N x (own g x) p)).bind fun σ9 => some (1, σ9) else some (1, uI (nw σ N x (own g x) p) 11 (nI N))) else some (0, σ) := by
  have h16 : x < 16 := Nat.lt_of_lt_of_le hx hd.1
  obtain ⟨l0, l1, l2⟩ := gd_lt hd hx
  have eA : ∀ σ', sA σ' 1 = sA σ 1 → P_X1_a (nI x) σ' = some (nI (fa g x)) := by
    intro σ' h
    rw [x_a h16, h, (gX_at hg hx).2.1]
  have j124 : ∀ s : Nat, P_X5_begins_j124 (nI (kd g x)) (nI N) (nI s) (nI N) (stA (stA (stA (uI σ 10 (nI (N + 1))) 11 (nI N) (nI x)) 12 (nI N) p) 13 (nI N) (sI σ 11)) = if kd g x ≤ 1 then (P_X5_finish (nI N) (nw σ N x s p)).bind fun σ9 => some (1, σ9) else some (1, uI (nw σ N x s p) 11 (nI N)) := by
    intro s
    unfold P_X5_begins_j124
    rw [vX6_set_28 hN, Option.bind_some, nI_1, vX6_set_29 hN, Option.bind_some, vX6_set_30 hN, Option.bind_some]
    by_cases k0 : kd g x = 0
    · rw [if_pos (show nI (kd g x) = 0 by rw [k0]; rfl), if_pos (by omega)]
      rfl
    · rw [if_neg (show ¬ nI (kd g x) = 0 from fun w => k0 ((nI_eq (b := 0) (by omega) (by decide)).mp w))]
      by_cases k1 : kd g x = 1
      · rw [if_neg (fun z => z (show nI (kd g x) = 1 by rw [k1]; rfl)), if_pos (by omega)]
        rfl
      · rw [if_pos (show ¬ nI (kd g x) = 1 from fun w => k1 ((nI_eq (b := 1) (by omega) (by decide)).mp w)), if_neg (by omega)]
        rfl
  have e66 : ∀ y0 : Int32, P_X5_begins_j66 (nI x) p (nI (kd g x)) (nI N) y0 (uI σ 10 (nI (N + 1))) = if y0 = 0 then P_X5_begins_j124 (nI (kd g x)) (nI N) (nI 0) (nI N) (stA (stA (stA (uI σ 10 (nI (N + 1))) 11 (nI N) (nI x)) 12 (nI N) p) 13 (nI N) (sI σ 11)) else P_X5_begins_j124 (nI (kd g x)) (nI N) (nI (fa g x)) (nI N) (stA (stA (stA (uI σ 10 (nI (N + 1))) 11 (nI N) (nI x)) 12 (nI N) p) 13 (nI N) (sI σ 11)) := by
    intro y0
    unfold P_X5_begins_j66
    rw [vX6_set_25 hN, Option.bind_some, vX6_set_26 hN, Option.bind_some, vX6_set_27 hN, Option.bind_some, eA (stA (stA (stA (uI σ 10 (nI (N + 1))) 11 (nI N) (nI x)) 12 (nI N) p) 13 (nI N) (sI (stA (stA (uI σ 10 (nI (N + 1))) 11 (nI N) (nI x)) 12 (nI N) p) 11)) rfl, Option.bind_some]
    rfl
  unfold P_X5_begins P_X5_begins_j61
  rw [x_kind h16, Option.bind_some, (gX_at hg hx).1, e10, show (300 : Int32) = nI 300 from rfl, if_neg (nI_ge hN (by decide)), x_opens hg hd hx, Option.bind_some, nI_1]
  cases opn g x v with
  | false => rw [b2i_f, in0, if_neg (by decide)]
  | true =>
    rw [b2i_t, in1, if_pos rfl, e66, e66, ii0, if_neg (show ¬ (1 : Int32) = 0 by decide)]
    unfold own
    by_cases k0 : kd g x = 0
    · rw [if_pos (show nI (kd g x) = 0 by rw [k0]; rfl), if_pos (Or.inl k0), j124]
    · rw [if_neg (show ¬ nI (kd g x) = 0 from fun w => k0 ((nI_eq (b := 0) (by omega) (by decide)).mp w))]
      by_cases k8 : kd g x = 8
      · rw [if_neg (fun z => z (show nI (kd g x) = 8 by rw [k8]; rfl)), if_pos (Or.inr k8), j124]
      · rw [if_pos (show ¬ nI (kd g x) = 8 from fun w => k8 ((nI_eq (b := 8) (by omega) (by decide)).mp w)), if_neg (show ¬ (kd g x = 0 ∨ kd g x = 8) by omega), j124]
