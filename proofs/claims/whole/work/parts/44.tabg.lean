/-! filling the tables: what a new number leaves true -/
theorem psF_fix (g : List N3) : ∀ (m i : Nat) (E : Nat → Bool), psF g m i E = E → ∀ k, i ≤ k → k < i + m → stE g E k = E
  | 0, _, _, _, _, h1, h2 => by omega
  | m + 1, i, E, h, k, h1, h2 => by
    have e : stE g E i = E := by
      funext j
      apply Bool.eq_iff_iff.mpr
      refine ⟨fun z => ?_, fun z => stE_le z⟩
      have := psF_le g m (i + 1) _ j z
      rw [psF] at h
      rw [h] at this
      exact this
    by_cases ek : k = i
    · subst ek; exact e
    · rw [psF, e] at h
      exact psF_fix g m (i + 1) E h k (by omega) (by omega)
theorem EE_fix {g : List N3} (hl : g.length ≤ 16) {k : Nat} (hk : k < g.length) (h : cbE g (EE g) k = true) : EE g k = true := by
  have e := psF_fix g g.length 0 (EE g) (fix16 hl) k (by omega) (by omega)
  unfold stE at e
  rw [if_pos h] at e
  rw [← e]
  unfold setB
  simp
theorem Rv_zero {g : List N3} (hr : Rdy g) {c : Nat → Nat → Nat} {b : Nat → Nat → Nat → Nat} {x : Nat} (hx : x < g.length) (hE : EE g x = false) (hz : Zc g c) : Rv g c b x 0 = 0 := by
  have hc : ¬ cbE g (EE g) x = true := fun z => by rw [EE_fix hr.1.1 hx z] at hE; cases hE
  have hnl := hr.2.1 x hx
  have ok := gd_at hr.1 hx
  have hk := (gd_lt hr.1 hx).1
  unfold cbE at hc
  unfold Rv
  rcases (show kd g x = 0 ∨ kd g x = 1 ∨ kd g x = 2 ∨ kd g x = 3 ∨ kd g x = 4 ∨ kd g x = 5 ∨ kd g x = 6 ∨ kd g x = 7 ∨ kd g x = 8 by omega) with k | k | k | k | k | k | k | k | k
  · have : ¬ 0 = fa g x := by unfold okI at ok; omega
    simp [k, this]
  · simp [k] at hc
  · have la := hnl.1 (by omega) (by omega)
    have lb := hnl.2 (Or.inl k)
    simp [k] at hc
    simp only [k, if_neg (show ¬ (2 : Nat) = 0 by decide), if_neg (show ¬ (2 : Nat) = 1 by decide), if_true]
    show sat (0 + c (fa g x) 0 * c (fb g x) 0) = 0
    cases ha : EE g (fa g x) with
    | false => rw [hz _ la ha, Nat.zero_mul]; rfl
    | true => rw [hz _ lb (hc ha), Nat.mul_zero]; rfl
  · have la := hnl.1 (by omega) (by omega)
    have lb := hnl.2 (Or.inr k)
    simp [k] at hc
    simp only [k, if_neg (show ¬ (3 : Nat) = 0 by decide), if_neg (show ¬ (3 : Nat) = 1 by decide), if_neg (show ¬ (3 : Nat) = 2 by decide), if_true]
    rw [hz _ la hc.1, hz _ lb hc.2]
    rfl
  · simp [k] at hc
  · simp [k] at hc
  · simp [k] at hc
  · have la := hnl.1 (by omega) (by omega)
    simp [k] at hc
    simp only [k, if_neg (show ¬ (7 : Nat) = 0 by decide), if_neg (show ¬ (7 : Nat) = 1 by decide), if_neg (show ¬ (7 : Nat) = 2 by decide), if_neg (show ¬ (7 : Nat) = 3 by decide), if_neg (show ¬ (7 : Nat) = 4 by decide), if_neg (show ¬ (7 : Nat) = 5 by decide), if_neg (show ¬ (7 : Nat) = 6 by decide), if_true]
    split
    · rename_i z
      exact hz _ la (hc (by omega))
    · rfl
  · have : ¬ 0 = fa g x := by unfold okI at ok; omega
    simp [k, this]
def up2 (c : Nat → Nat → Nat) (x s v : Nat) : Nat → Nat → Nat := fun y t => if y = x ∧ t = s then v else c y t
theorem up2_ne {c : Nat → Nat → Nat} {x s v y t : Nat} (h : ¬ (y = x ∧ t = s)) : up2 c x s v y t = c y t := if_neg h
theorem up2_eq {c : Nat → Nat → Nat} {x s v : Nat} : up2 c x s v x s = v := if_pos ⟨rfl, rfl⟩
def Dn (g : List N3) (c : Nat → Nat → Nat) (b : Nat → Nat → Nat → Nat) (D : Nat → Nat → Prop) : Prop := (Zc g c ∧ ∀ y, g.length ≤ y → ∀ t, c y t = 0) ∧ ∀ y, y < g.length → ∀ t, t ≤ 24 → D y t → EqX g c b y t
theorem Dn.mono {g : List N3} {c : Nat → Nat → Nat} {b : Nat → Nat → Nat → Nat} {D D' : Nat → Nat → Prop} (h : Dn g c b D) (hD : ∀ y, y < g.length → ∀ t, t ≤ 24 → D' y t → D y t) : Dn g c b D' := ⟨h.1, fun y hy t ht z => h.2 y hy t ht (hD y hy t ht z)⟩
theorem dn_irr {g : List N3} (hr : Rdy g) {x : Nat} (hx : x < g.length) : dn g (EE g) x x = false := by
  cases h : dn g (EE g) x x with
  | false => rfl
  | true =>
    have hN : NN g x x = true := WN_le g (EE g) g.length x x h
    rw [hr.2.2.2 x hx] at hN
    cases hN
theorem RB_same {g : List N3} {c c' : Nat → Nat → Nat} {b b' : Nat → Nat → Nat → Nat} {x s t : Nat} (hc : 1 ≤ t → c (fa g x) t = c' (fa g x) t) (hb : ∀ k, k * t ≤ s → 1 ≤ t → BB b x (s - k * t) (t - 1) = BB b' x (s - k * t) (t - 1)) : RB g c b x s t = RB g c' b' x s t := by
  unfold RB
  by_cases t0 : t = 0
  · rw [if_pos t0, if_pos t0]
  · rw [if_neg t0, if_neg t0, hc (by omega), WB_cong (by omega) (fun k hk => hb k hk (by omega))]
theorem Dn.step {g : List N3} (hr : Rdy g) {c : Nat → Nat → Nat} {b b' : Nat → Nat → Nat → Nat} {D : Nat → Nat → Prop} {x s v : Nat} (hx : x < g.length) (h : Dn g c b D) (hD : ∀ y, y < g.length → ∀ t, D y t → t ≤ s ∧ ¬ (y = x ∧ t = s) ∧ (t = s → dn g (EE g) y x = false)) (hv : v = Rv g c b' x s) (hb : ∀ y t u, ¬ (y = x ∧ t = s) → b' y t u = b y t u) (hRB : isB56 g x → ∀ t, t ≤ s → b' x s t = RB g c b' x s t) : Dn g (up2 c x s v) b' (fun y t => D y t ∨ (y = x ∧ t = s)) := by
  have hz : Zc g (up2 c x s v) := by
    intro y hy hE
    by_cases e : y = x ∧ 0 = s
    · obtain ⟨rfl, rfl⟩ := e
      rw [up2_eq, hv]
      exact Rv_zero hr hx hE h.1.1
    · rw [up2_ne e]
      exact h.1.1 y hy hE
  refine ⟨⟨hz, fun y hy t => ?_⟩, fun y hy t ht z => ?_⟩
  · rw [up2_ne (by omega)]
    exact h.1.2 y hy t
  rcases z with z | ⟨rfl, rfl⟩
  · obtain ⟨d1, d2, d3⟩ := hD y hy t z
    obtain ⟨e1, e2⟩ := h.2 y hy t ht z
    have hdn : ∀ w, dn g (EE g) y w = true → ¬ (w = x ∧ t = s) := by
      rintro w hw ⟨rfl, rfl⟩
      rw [d3 rfl] at hw
      cases hw
    refine ⟨?_, fun hB u hu => ?_⟩
    · rw [up2_ne d2, e1]
      exact Rv_cong hr hy (fun w _ t' ht' => (up2_ne (by omega)).symm) (fun w _ hw => (up2_ne (hdn w hw)).symm) h.1.1 hz (fun _ => (hb y t t d2).symm)
    · have h46 : 4 ≤ kd g y ∧ kd g y ≤ 6 := by rcases hB with z | z <;> omega
      rw [hb y t u d2, e2 hB u hu]
      apply RB_same
      · intro _
        refine (up2_ne ?_).symm
        rintro ⟨f1, f2⟩
        have et : t = s := by omega
        exact hdn _ (dn_a hy (by omega) (by omega)) ⟨f1, et⟩
      · intro k hk hu1
        exact (hb y _ _ (by
          rintro ⟨f1, f2⟩
          exact d2 ⟨f1, by omega⟩)).symm
  · have hne : ∀ w, dn g (EE g) y w = true → ¬ (w = y ∧ t = t) := by
      rintro w hw ⟨rfl, _⟩
      rw [dn_irr hr hx] at hw
      cases hw
    refine ⟨?_, fun hB u hu => ?_⟩
    · refine (up2_eq.trans hv).trans ?_
      exact Rv_cong hr hx (fun w _ t' ht' => (up2_ne (by omega)).symm) (fun w _ hw => (up2_ne (hne w hw)).symm) h.1.1 hz (fun _ => rfl)
    · have h46 : 4 ≤ kd g y ∧ kd g y ≤ 6 := by rcases hB with z | z <;> omega
      rw [hRB hB u hu]
      apply RB_same
      · intro _
        refine (up2_ne ?_).symm
        rintro ⟨f1, f2⟩
        exact hne _ (dn_a hx (by omega) (by omega)) ⟨f1, rfl⟩
      · intro k hk hu1
        rfl
/-- a row of bags, from the rows before it -/
def rowB (g : List N3) (c : Nat → Nat → Nat) (b : Nat → Nat → Nat → Nat) (x s : Nat) : Nat → Nat
  | 0 => if s = 0 then 1 else 0
  | t + 1 => sat (WB (apt g x) (fun s' t' => if s' = s then rowB g c b x s t else BB b x s' t') s (t + 1) (c (fa g x) (t + 1)))
theorem rowB_le (g : List N3) (c : Nat → Nat → Nat) (b : Nat → Nat → Nat → Nat) (x s : Nat) : ∀ t, rowB g c b x s t ≤ LIM
  | 0 => by
    have : 1 ≤ LIM := by decide
    unfold rowB
    split <;> omega
  | t + 1 => by unfold rowB; exact sat_le _
def upR (g : List N3) (c : Nat → Nat → Nat) (b : Nat → Nat → Nat → Nat) (x s : Nat) : Nat → Nat → Nat → Nat := fun y t u => if y = x ∧ t = s then rowB g c b x s u else b y t u
theorem upR_ne {g : List N3} {c : Nat → Nat → Nat} {b : Nat → Nat → Nat → Nat} {x s y t u : Nat} (h : ¬ (y = x ∧ t = s)) : upR g c b x s y t u = b y t u := if_neg h
theorem upR_eq {g : List N3} {c : Nat → Nat → Nat} {b : Nat → Nat → Nat → Nat} {x s u : Nat} : upR g c b x s x s u = rowB g c b x s u := if_pos ⟨rfl, rfl⟩
theorem upR_RB {g : List N3} {c : Nat → Nat → Nat} {b : Nat → Nat → Nat → Nat} {x s : Nat} : ∀ t, t ≤ s → rowB g c b x s t = RB g c (upR g c b x s) x s t
  | 0, _ => rfl
  | t + 1, h => by
    unfold RB
    rw [if_neg (by omega), rowB]
    congr 1
    apply WB_cong (by omega)
    intro k hk
    rw [show t + 1 - 1 = t by omega]
    unfold BB
    by_cases e : s - k * (t + 1) = s
    · rw [if_pos e, e, upR_eq, show min t s = t by omega]
    · rw [if_neg e, upR_ne (by omega)]
