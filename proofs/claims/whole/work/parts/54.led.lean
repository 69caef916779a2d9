/-! how a pair's or a row's number is split -/
def ledF (g : List N3) (c : Nat → Nat → Nat) (x s : Nat) : Nat → Nat := fun j => c (fa g x) j * c (tlS g x) (s - j)
def Lq (g : List N3) (c : Nat → Nat → Nat) (x s h num : Nat) : Nat := (num - sumN (ledF g c x s) h) / c (tlS g x) (s - h)
def Lr (g : List N3) (c : Nat → Nat → Nat) (x s h num : Nat) : Nat := (num - sumN (ledF g c x s) h) % c (tlS g x) (s - h)
theorem sumN_le (f : Nat → Nat) : ∀ (d n : Nat), sumN f n ≤ sumN f (n + d)
  | 0, _ => Nat.le_refl _
  | d + 1, n => Nat.le_trans (sumN_le f d n) (Nat.le_add_right _ _)
theorem sat_lt_of {a b : Nat} (h : a < sat b) : a < b := by
  unfold sat at h
  split at h <;> omega
theorem lt_sat {a b : Nat} (h : a < b) (hL : a < LIM) : a < sat b := by
  unfold sat
  split <;> omega
theorem led_split {g : List N3} {c : Nat → Nat → Nat} {x s num : Nat} (hlt : num < sat (sumN (ledF g c x s) (s + 1))) : ∃ h, h ≤ s ∧ sumN (ledF g c x s) h ≤ num ∧ num < sumN (ledF g c x s) (h + 1) ∧ Lq g c x s h num < c (fa g x) h ∧ Lr g c x s h num < c (tlS g x) (s - h) := by
  obtain ⟨h, h1, h2, h3⟩ := cross (sumN (ledF g c x s)) num (s + 1) (Nat.zero_le _) (sat_lt_of hlt)
  refine ⟨h, by omega, h2, h3, ?_⟩
  have e : num - sumN (ledF g c x s) h < c (fa g x) h * c (tlS g x) (s - h) := by
    rw [sumN] at h3
    have : ledF g c x s h = c (fa g x) h * c (tlS g x) (s - h) := rfl
    omega
  have hp : 0 < c (tlS g x) (s - h) := by
    apply Classical.byContradiction
    intro z
    rw [show c (tlS g x) (s - h) = 0 by omega, Nat.mul_zero] at e
    omega
  exact ⟨(Nat.div_lt_iff_lt_mul hp).mpr e, Nat.mod_lt _ hp⟩
theorem x_splitLed {g : List N3} {c : Nat → Nat → Nat} {σ : SS} (hg : gX' g σ) (hd : GdL g) (hc : CT c σ) {x s h num : Nat} (hx : x < g.length) (hk : kd g x = 2 ∨ kd g x = 4) (hs : s ≤ 24) (hh : h ≤ s) (hn : num < LIM) (h2 : sumN (ledF g c x s) h ≤ num) (h3 : num < sumN (ledF g c x s) (h + 1)) (hr : Lr g c x s h num < c (tlS g x) (s - h)) : P_X9_splitLed (nI x) (nI s) (lN num) σ = some (uJ (uJ (uI σ 9 (nI h)) 0 (lN (Lq g c x s h num))) 1 (lN (Lr g c x s h num))) := by
  have hL := LIM_lt
  have h16 : x < 16 := Nat.lt_of_lt_of_le hx hd.1
  obtain ⟨e0, e1, e2⟩ := gX_at hg hx
  obtain ⟨l0, l1, l2⟩ := gd_lt hd hx
  have ok := gd_at hd hx
  have ht : tlS g x < 16 := by
    unfold tlS
    split
    · unfold okI at ok; omega
    · exact h16
  have hcb := (hc (tlS g x) ht (s - h) (by omega)).2
  have fin : P_X9_splitLed_j77 (nI s) (nI (tlS g x)) (lN (num - sumN (ledF g c x s) h)) (nI h) σ = some (uJ (uJ (uI σ 9 (nI h)) 0 (lN (Lq g c x s h num))) 1 (lN (Lr g c x s h num))) := by
    have np : ¬ lN (c (tlS g x) (s - h)) ≤ 0 := fun w => by
      have := (lN_leB (b := 0) (by omega) (by omega)).mp w
      omega
    have nz : ¬ lN (c (tlS g x) (s - h)) = 0 := fun w => by
      have := (lN_inj (b := 0) (by omega) (by omega)).mp w
      omega
    unfold P_X9_splitLed_j77 P_X9_splitLed_j115
    rw [nI_sub hh, x_of hc ht (by omega), Option.bind_some, if_neg np, gN_of nz, if_neg np, gN_of nz, lN_div (by omega) (by omega), show lN (num - sumN (ledF g c x s) h) - lN ((num - sumN (ledF g c x s) h) / c (tlS g x) (s - h)) * lN (c (tlS g x) (s - h)) = lN ((num - sumN (ledF g c x s) h) % c (tlS g x) (s - h)) by rw [← lN_div (by omega) (by omega)]; exact lN_mod (by omega) (by omega)]
    rfl
  have loop : ∀ (d i fu : Nat), i + d = h → d < fu → P_X9_splitLed_j26 fu (nI s) (nI (fa g x)) (nI (tlS g x)) (lN (num - sumN (ledF g c x s) i)) (nI i) σ = some (uJ (uJ (uI σ 9 (nI h)) 0 (lN (Lq g c x s h num))) 1 (lN (Lr g c x s h num))) := by
    intro d
    induction d with
    | zero =>
      intro i fu q1 q2
      obtain ⟨fu, rfl⟩ : ∃ k, fu = k + 1 := ⟨fu - 1, by omega⟩
      have : i = h := by omega
      subst this
      rw [P_X9_splitLed_j26]
      by_cases z : s ≤ i
      · rw [if_pos (nI_le z (by omega)), fin]
      · rw [if_neg (nI_ge (by omega) (by omega)), x_led hc (by omega) ht hh hs, Option.bind_some]
        have e : num - sumN (ledF g c x s) i < c (fa g x) i * c (tlS g x) (s - i) := by
          rw [sumN] at h3
          have : ledF g c x s i = c (fa g x) i * c (tlS g x) (s - i) := rfl
          omega
        have hsl := sat_le (c (fa g x) i * c (tlS g x) (s - i))
        rw [if_pos ((lN_ltB (by omega) (by omega)).mpr (lt_sat e (by omega))), fin]
    | succ d ih =>
      intro i fu q1 q2
      obtain ⟨fu, rfl⟩ : ∃ k, fu = k + 1 := ⟨fu - 1, by omega⟩
      have hm := sumN_le (ledF g c x s) d (i + 1)
      rw [show i + 1 + d = h by omega] at hm
      have e : sumN (ledF g c x s) (i + 1) = sumN (ledF g c x s) i + c (fa g x) i * c (tlS g x) (s - i) := rfl
      have hsat : sat (c (fa g x) i * c (tlS g x) (s - i)) = c (fa g x) i * c (tlS g x) (s - i) := sat_lt (by omega)
      rw [P_X9_splitLed_j26, if_neg (nI_ge (by omega) (by omega)), x_led hc (by omega) ht (by omega) hs, Option.bind_some, hsat, if_neg (fun w => by have := (lN_ltB (by omega) (by omega)).mp w; omega), Option.bind_some, lN_sub (by omega), nI_1]
      have := ih (i + 1) fu (by omega) (by omega)
      rw [e, ← Nat.sub_sub] at this
      exact this
  unfold P_X9_splitLed
  rw [x_a h16, Option.bind_some, e1, x_tail hg hd hx, Option.bind_some]
  exact loop h 0 FU (by omega) (by unfold FU; omega)
