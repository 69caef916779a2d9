/-! how many THINGS there are: equations, and that they have one solution -/
def sumN (f : Nat → Nat) : Nat → Nat
  | 0 => 0
  | n + 1 => sumN f n + f n
theorem sumN_congr {f h : Nat → Nat} : ∀ n, (∀ i, i < n → f i = h i) → sumN f n = sumN h n
  | 0, _ => rfl
  | n + 1, e => by
    unfold sumN
    rw [sumN_congr n (fun i hi => e i (by omega)), e n (by omega)]
/-- sets of size s with things below size h, and of size h the first num alone; B: sets by size and greatest size -/
def WB (ap : Bool) (B : Nat → Nat → Nat) (s h num : Nat) : Nat := sumN (fun k => wy ap num k * B (s - k * h) (h - 1)) (s / h + 1)
def isB56 (g : List N3) (x : Nat) : Prop := kd g x = 5 ∨ kd g x = 6
def apt (g : List N3) (x : Nat) : Bool := decide (kd g x = 6)
def BB (b : Nat → Nat → Nat → Nat) (x : Nat) : Nat → Nat → Nat := fun s t => b x s (min t s)
def RB (g : List N3) (c : Nat → Nat → Nat) (b : Nat → Nat → Nat → Nat) (x s t : Nat) : Nat := if t = 0 then (if s = 0 then 1 else 0) else sat (WB (apt g x) (BB b x) s t (c (fa g x) t))
def Rv (g : List N3) (c : Nat → Nat → Nat) (b : Nat → Nat → Nat → Nat) (x s : Nat) : Nat :=
  if kd g x = 0 then (if s = fa g x then 1 else 0) else if kd g x = 1 then (if s = 0 then 1 else 0) else if kd g x = 2 then sat (sumN (fun h => c (fa g x) h * c (fb g x) (s - h)) (s + 1)) else if kd g x = 3 then sat (c (fa g x) s + c (fb g x) s) else if kd g x = 4 then (if s = 0 then 1 else sat (sumN (fun h => c (fa g x) h * c x (s - h)) (s + 1))) else if kd g x = 5 then b x s s else if kd g x = 6 then b x s s else if kd g x = 7 then (if fb g x / 32 ≤ s ∧ s ≤ fb g x % 32 then c (fa g x) s else 0) else if kd g x = 8 then (if s = fa g x then fct s else 0) else 0
def EqX (g : List N3) (c : Nat → Nat → Nat) (b : Nat → Nat → Nat → Nat) (x s : Nat) : Prop := c x s = Rv g c b x s ∧ (isB56 g x → ∀ t, t ≤ s → b x s t = RB g c b x s t)
def Zc (g : List N3) (c : Nat → Nat → Nat) : Prop := ∀ y, y < g.length → EE g y = false → c y 0 = 0
/-- a grammar without FAULTS -/
def Rdy (g : List N3) : Prop := GdL g ∧ NoLack g ∧ (∀ k, k < g.length → rp g (EE g) k = false) ∧ ∀ k, k < g.length → NN g k k = false
theorem rdy_of {g : List N3} (hd : GdL g) (h : flt g = 0) : Rdy g := by
  unfold flt at h
  by_cases c1 : fst (lk g) g.length 0 < g.length
  · rw [if_pos c1] at h; omega
  · rw [if_neg c1] at h
    by_cases c2 : fst (rp g (EE g)) g.length 0 < g.length
    · rw [if_pos c2] at h; omega
    · rw [if_neg c2] at h
      by_cases c3 : fst (fun k => NN g k k) g.length 0 < g.length
      · rw [if_pos c3] at h; omega
      · have b2 := fst_le (rp g (EE g)) g.length 0
        have b3 := fst_le (fun k => NN g k k) g.length 0
        exact ⟨hd, noLack_of c1, fun k hk => fst_no (rp g (EE g)) g.length 0 (by omega) k (by omega) (by omega), fun k hk => fst_no (fun k => NN g k k) g.length 0 (by omega) k (by omega) (by omega)⟩
theorem dn_a {g : List N3} {x : Nat} (hx : x < g.length) (h : 3 ≤ kd g x) (h7 : kd g x ≤ 7) : dn g (EE g) x (fa g x) = true := by
  unfold dn ndA
  have h2 : ¬ kd g x = 2 := by omega
  have h3 : 2 ≤ kd g x := by omega
  simp [hx, h2, h3, h7]
theorem dn_b3 {g : List N3} {x : Nat} (hx : x < g.length) (h : kd g x = 3) : dn g (EE g) x (fb g x) = true := by
  unfold dn ndB
  simp [hx, h]
theorem dn_2a {g : List N3} {x : Nat} (hx : x < g.length) (h : kd g x = 2) (hE : EE g (fb g x) = true) : dn g (EE g) x (fa g x) = true := by
  unfold dn ndA
  simp [hx, h, hE]
theorem dn_2b {g : List N3} {x : Nat} (hx : x < g.length) (h : kd g x = 2) (hE : EE g (fa g x) = true) : dn g (EE g) x (fb g x) = true := by
  unfold dn ndB
  simp [hx, h, hE]
theorem noE_a {g : List N3} (hr : Rdy g) {x : Nat} (hx : x < g.length) (h : 4 ≤ kd g x) (h6 : kd g x ≤ 6) : EE g (fa g x) = false := by
  have := hr.2.2.1 x hx
  unfold rp at this
  simp only [Bool.and_eq_false_iff, decide_eq_false_iff_not] at this
  rcases this with (z | z) | z
  · omega
  · omega
  · exact z
/-- the equations look only at what is smaller, or needed -/
theorem Rv_cong {g : List N3} (hr : Rdy g) {c c' : Nat → Nat → Nat} {b b' : Nat → Nat → Nat → Nat} {x s : Nat} (hx : x < g.length) (h1 : ∀ y, y < g.length → ∀ t, t < s → c y t = c' y t) (h2 : ∀ y, y < g.length → dn g (EE g) x y = true → c y s = c' y s) (hz : Zc g c) (hz' : Zc g c') (hb : isB56 g x → b x s s = b' x s s) : Rv g c b x s = Rv g c' b' x s := by
  have hnl := hr.2.1 x hx
  unfold Rv
  by_cases k0 : kd g x = 0
  · rw [if_pos k0, if_pos k0]
  rw [if_neg k0, if_neg k0]
  by_cases k1 : kd g x = 1
  · rw [if_pos k1, if_pos k1]
  rw [if_neg k1, if_neg k1]
  by_cases k2 : kd g x = 2
  · have la := hnl.1 (by omega) (by omega)
    have lb := hnl.2 (Or.inl k2)
    rw [if_pos k2, if_pos k2]
    congr 1
    apply sumN_congr
    intro h hh
    by_cases e0 : h = 0
    · subst e0
      cases hE : EE g (fa g x) with
      | false => rw [hz _ la hE, hz' _ la hE, Nat.zero_mul, Nat.zero_mul]
      | true =>
        rw [Nat.sub_zero, h2 _ lb (dn_2b hx k2 hE)]
        by_cases es : s = 0
        · subst es
          cases hE2 : EE g (fb g x) with
          | false => rw [hz' _ lb hE2, Nat.mul_zero, Nat.mul_zero]
          | true => rw [h2 _ la (dn_2a hx k2 hE2)]
        · rw [h1 _ la 0 (by omega)]
    · by_cases es : h = s
      · subst es
        rw [Nat.sub_self]
        cases hE : EE g (fb g x) with
        | false => rw [hz _ lb hE, hz' _ lb hE, Nat.mul_zero, Nat.mul_zero]
        | true => rw [h2 _ la (dn_2a hx k2 hE), h1 _ lb 0 (by omega)]
      · rw [h1 _ la h (by omega), h1 _ lb (s - h) (by omega)]
  rw [if_neg k2, if_neg k2]
  by_cases k3 : kd g x = 3
  · rw [if_pos k3, if_pos k3, h2 _ (hnl.1 (by omega) (by omega)) (dn_a hx (by omega) (by omega)), h2 _ (hnl.2 (Or.inr k3)) (dn_b3 hx k3)]
  rw [if_neg k3, if_neg k3]
  by_cases k4 : kd g x = 4
  · have la := hnl.1 (by omega) (by omega)
    rw [if_pos k4, if_pos k4]
    by_cases es : s = 0
    · rw [if_pos es, if_pos es]
    · rw [if_neg es, if_neg es]
      congr 1
      apply sumN_congr
      intro h hh
      by_cases e0 : h = 0
      · subst e0
        have hE := noE_a hr hx (by omega) (by omega)
        rw [hz _ la hE, hz' _ la hE, Nat.zero_mul, Nat.zero_mul]
      · by_cases e : h = s
        · subst e
          rw [Nat.sub_self, h2 _ la (dn_a hx (by omega) (by omega)), h1 x hx 0 (by omega)]
        · rw [h1 _ la h (by omega), h1 x hx (s - h) (by omega)]
  rw [if_neg k4, if_neg k4]
  by_cases k5 : kd g x = 5
  · rw [if_pos k5, if_pos k5, hb (Or.inl k5)]
  rw [if_neg k5, if_neg k5]
  by_cases k6 : kd g x = 6
  · rw [if_pos k6, if_pos k6, hb (Or.inr k6)]
  rw [if_neg k6, if_neg k6]
  by_cases k7 : kd g x = 7
  · rw [if_pos k7, if_pos k7, h2 _ (hnl.1 (by omega) (by omega)) (dn_a hx (by omega) (by omega))]
  rw [if_neg k7, if_neg k7]
theorem WB_cong {ap : Bool} {B B' : Nat → Nat → Nat} {s h num : Nat} (hh : 0 < h) (e : ∀ k, k * h ≤ s → B (s - k * h) (h - 1) = B' (s - k * h) (h - 1)) : WB ap B s h num = WB ap B' s h num := by
  unfold WB
  apply sumN_congr
  intro k hk
  rw [e k ((Nat.le_div_iff_mul_le hh).mp (by omega))]
theorem RB_cong {g : List N3} {c c' : Nat → Nat → Nat} {b b' : Nat → Nat → Nat → Nat} {x s : Nat} (hc : ∀ t, 1 ≤ t → t ≤ s → c (fa g x) t = c' (fa g x) t) (hb : ∀ s', s' < s → ∀ t, t ≤ s' → b x s' t = b' x s' t) (e : ∀ t, t ≤ s → b x s t = RB g c b x s t) (e' : ∀ t, t ≤ s → b' x s t = RB g c' b' x s t) : ∀ t, t ≤ s → b x s t = b' x s t := by
  intro t
  induction t with
  | zero =>
    intro _
    rw [e 0 (by omega), e' 0 (by omega)]
    unfold RB
    rw [if_pos rfl, if_pos rfl]
  | succ t ih =>
    intro ht
    rw [e (t + 1) ht, e' (t + 1) ht]
    unfold RB
    rw [if_neg (by omega), if_neg (by omega), hc (t + 1) (by omega) ht]
    congr 1
    apply WB_cong (by omega)
    intro k hk
    unfold BB
    by_cases k0 : k = 0
    · subst k0
      rw [Nat.zero_mul, Nat.sub_zero, show min (t + 1 - 1) s = t by omega]
      exact ih (by omega)
    · have h1 : t + 1 ≤ k * (t + 1) := Nat.le_mul_of_pos_left _ (by omega)
      exact hb _ (by omega) _ (by omega)
theorem NN_lt {g : List N3} (hr : Rdy g) {x y : Nat} (hx : x < g.length) (h : dn g (EE g) x y = true) : y < g.length ∧ cE (NN g y) 16 < cE (NN g x) 16 := by
  have hl := hr.1.1
  have hy := (dn_out hr.2.1 h).2
  have hN : NN g x y = true := WN_le g (EE g) g.length x y h
  refine ⟨hy, cE_lt (fun j hj => ?_) 16 y (by omega) (hr.2.2.2 y hy) hN⟩
  exact WN_tr g (EE g) g.length y x j hy hN hj
theorem sol_unique {g : List N3} (hr : Rdy g) {c c' : Nat → Nat → Nat} {b b' : Nat → Nat → Nat → Nat} (hz : Zc g c) (hz' : Zc g c') : ∀ s, s ≤ 24 → (∀ x, x < g.length → ∀ t, t ≤ s → EqX g c b x t) → (∀ x, x < g.length → ∀ t, t ≤ s → EqX g c' b' x t) → ∀ x, x < g.length → c x s = c' x s ∧ (isB56 g x → ∀ t, t ≤ s → b x s t = b' x s t) := by
  intro s
  induction s using Nat.strongRecOn with
  | _ s ihs =>
    intro hs he he'
    have hsm : ∀ t, t < s → ∀ y, y < g.length → c y t = c' y t ∧ (isB56 g y → ∀ u, u ≤ t → b y t u = b' y t u) := fun t ht y hy => ihs t ht (by omega) (fun x hx u hu => he x hx u (by omega)) (fun x hx u hu => he' x hx u (by omega)) y hy
    have inner : ∀ k x, x < g.length → cE (NN g x) 16 = k → c x s = c' x s ∧ (isB56 g x → ∀ t, t ≤ s → b x s t = b' x s t) := by
      intro k
      induction k using Nat.strongRecOn with
      | _ k ihk =>
        intro x hx hk
        have need : ∀ y, dn g (EE g) x y = true → c y s = c' y s := by
          intro y hy
          obtain ⟨hyl, hlt⟩ := NN_lt hr hx hy
          exact (ihk _ (by omega) y hyl rfl).1
        obtain ⟨a1, a2⟩ := he x hx s (Nat.le_refl _)
        obtain ⟨b1, b2⟩ := he' x hx s (Nat.le_refl _)
        have hbag : isB56 g x → ∀ t, t ≤ s → b x s t = b' x s t := by
          intro hb
          have h46 : 4 ≤ kd g x ∧ kd g x ≤ 6 := by rcases hb with z | z <;> omega
          have la := (hr.2.1 x hx).1 (by omega) (by omega)
          refine RB_cong (fun t h1 h2 => ?_) (fun s' hs' t ht => (hsm s' hs' x hx).2 hb t ht) (a2 hb) (b2 hb)
          by_cases e : t = s
          · subst e
            exact need _ (dn_a hx (by omega) (by omega))
          · exact (hsm t (by omega) _ la).1
        refine ⟨?_, hbag⟩
        rw [a1, b1]
        exact Rv_cong hr hx (fun y hy t ht => (hsm t ht y hy).1) (fun y _ hy => need y hy) hz hz' (fun hb => hbag hb s (Nat.le_refl _))
    intro x hx
    exact inner _ x hx rfl
