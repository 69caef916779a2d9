/-! the reference begins a node -/
def mnw (σ : SS) (n x : Nat) : SS := stL (stA (stA (stA (stA (stA (uI σ 6 (nI n)) 10 (nI n) (nI x)) 11 (nI n) (sI σ 7)) 12 (nI n) 0) 13 (nI n) 0) 14 (nI n) 0) 2 (nI n) 0
/-- what a part does once its node stands: n its node, M the state -/
def mpk (rec : Int32 → SS → Option (Int32 × SS)) (g : List N3) (x n : Nat) (M : SS) : Option (Int32 × SS) :=
  if kd g x = 0 then (P_X11_need (nI (97 + fb g x)) M).bind fun σ12 => some (nI n, stA σ12 12 (nI n) (ldA σ12 1 (nI x)))
  else if kd g x = 1 then (P_X11_need 46 M).bind fun σ17 => some (nI n, σ17)
  else if kd g x = 2 then (P_X11_need 40 M).bind fun σ20 => b2 (rec (ldA σ20 1 (nI x)) σ20) fun v23 σ24 => (P_X11_within (nI n) v23 0 σ24).bind fun σ26 => b2 (rec (ldA σ26 2 (nI x)) σ26) fun v29 σ30 => (P_X11_within (nI n) v29 (ldA σ30 13 (nI n)) σ30).bind fun σ33 => (P_X11_need 41 σ33).bind fun σ35 => some (nI n, σ35)
  else if kd g x = 3 then (P_X11_eitherPart rec (nI n) (nI x) M).bind fun σ38 => some (nI n, σ38)
  else if kd g x = 7 then (P_X11_need 33 M).bind fun σ50 => b2 (rec (ldA σ50 1 (nI x)) σ50) fun v53 σ54 => (P_X11_within (nI n) v53 0 σ54).bind fun σ56 => some (nI n, σ56)
  else if kd g x = 8 then (P_X11_letters (nI n) (nI (fa g x)) M).bind fun σ60 => some (nI n, σ60)
  else (P_X11_several rec (nI n) (nI x) M).bind fun σ62 => some (nI n, σ62)
theorem m_part {g : List N3} {σ : SS} (hg : gM' g σ) (hd : GdL g) (rec : Int32 → SS → Option (Int32 × SS)) {x N : Nat} (hx : x < g.length) (h8 : sI σ 8 < 0) (h6 : sI σ 6 = nI N) (hN : N + 1 < 310) : B_X11_part rec (nI x) σ = mpk rec g x (N + 1) (mnw σ (N + 1) x) := by
  have h16 : x < 16 := Nat.lt_of_lt_of_le hx hd.1
  obtain ⟨e0, e1, e2⟩ := gM_at hg hx
  obtain ⟨l0, l1, l2⟩ := gd_lt hd hx
  have g16 : ∀ {α : Type} {o : Option α}, gI (nI x) 16 o = o := gI_nI h16 (by decide)
  have g310 : ∀ {α : Type} {o : Option α}, gI (nI (N + 1)) 310 o = o := gI_nI hN (by decide)
  have s6 : sI (uI σ 6 (nI (N + 1))) 6 = nI (N + 1) := rfl
  have s7 : ∀ a b, sI (stA (uI σ 6 (nI (N + 1))) 10 a b) 7 = sI σ 7 := fun _ _ => rfl
  have fold : stL (stA (stA (stA (stA (stA (uI σ 6 (nI (N + 1))) 10 (nI (N + 1)) (nI x)) 11 (nI (N + 1)) (sI σ 7)) 12 (nI (N + 1)) 0) 13 (nI (N + 1)) 0) 14 (nI (N + 1)) 0) 2 (nI (N + 1)) 0 = mnw σ (N + 1) x := rfl
  have M0 : ldA (mnw σ (N + 1) x) 0 (nI x) = nI (kd g x) := by
    rw [ldA_nI (by omega)]
    exact e0
  have M1 : ldA (mnw σ (N + 1) x) 1 (nI x) = nI (fa g x) := by
    rw [ldA_nI (by omega)]
    exact e1
  have M2 : ldA (mnw σ (N + 1) x) 2 (nI x) = nI (fb g x) := by
    rw [ldA_nI (by omega)]
    exact e2
  unfold B_X11_part
  rw [if_pos h8]
  simp only [h6, nI_1, s6, s7, g16, g310, fold, M0, M1, M2]
  rw [show (97 : Int32) + nI (fb g x) = nI (97 + fb g x) from nI_add 97 _]
  unfold mpk
  rcases (show kd g x = 0 ∨ kd g x = 1 ∨ kd g x = 2 ∨ kd g x = 3 ∨ kd g x = 4 ∨ kd g x = 5 ∨ kd g x = 6 ∨ kd g x = 7 ∨ kd g x = 8 by omega) with q | q | q | q | q | q | q | q | q <;> rw [q] <;> rfl
theorem m_part_bad {σ : SS} (rec : Int32 → SS → Option (Int32 × SS)) (x : Int32) (h8 : ¬ sI σ 8 < 0) : B_X11_part rec x σ = some (0, σ) := by
  unfold B_X11_part
  rw [if_neg h8]
