/-! the FAULTS of a grammar -/
/-- the least k below n with p; n if there is none -/
def fst (p : Nat → Bool) : Nat → Nat → Nat
  | 0, i => i
  | m + 1, i => if p i = true then i else fst p m (i + 1)
theorem fst_0 (p : Nat → Bool) (i : Nat) : fst p 0 i = i := rfl
theorem fst_s (p : Nat → Bool) (m i : Nat) : fst p (m + 1) i = if p i = true then i else fst p m (i + 1) := rfl
theorem fst_le (p : Nat → Bool) : ∀ m i, i ≤ fst p m i ∧ fst p m i ≤ i + m
  | 0, i => ⟨Nat.le_refl _, Nat.le_refl _⟩
  | m + 1, i => by
    unfold fst
    split
    · omega
    · have := fst_le p m (i + 1)
      omega
theorem fst_no (p : Nat → Bool) : ∀ m i, fst p m i = i + m → ∀ k, i ≤ k → k < i + m → p k = false
  | 0, i, _, k, h1, h2 => by omega
  | m + 1, i, h, k, h1, h2 => by
    unfold fst at h
    by_cases z : p i = true
    · rw [if_pos z] at h; omega
    · rw [if_neg z] at h
      by_cases e : k = i
      · subst e
        cases hp : p k with
        | false => rfl
        | true => exact absurd hp z
      · exact fst_no p m (i + 1) (by omega) k (by omega) (by omega)
def lk (g : List N3) (k : Nat) : Bool := (decide (2 ≤ kd g k) && decide (kd g k ≤ 7) && decide (g.length ≤ fa g k)) || ((decide (kd g k = 2) || decide (kd g k = 3)) && decide (g.length ≤ fb g k))
def rp (g : List N3) (E : Nat → Bool) (k : Nat) : Bool := decide (4 ≤ kd g k) && decide (kd g k ≤ 6) && E (fa g k)
def EE (g : List N3) : Nat → Bool := pw g 16
def NN (g : List N3) : Nat → Nat → Bool := WN g (EE g) g.length
/-- 0, or 16 times the FAULT and the least SHAPE -/
def flt (g : List N3) : Nat :=
  if fst (lk g) g.length 0 < g.length then 16 + fst (lk g) g.length 0 else if fst (rp g (EE g)) g.length 0 < g.length then 32 + fst (rp g (EE g)) g.length 0 else if fst (fun k => NN g k k) g.length 0 < g.length then 48 + fst (fun k => NN g k k) g.length 0 else 0
theorem noLack_of {g : List N3} (h : ¬ fst (lk g) g.length 0 < g.length) : NoLack g := by
  have h1 := fst_le (lk g) g.length 0
  intro k hk
  have h2 := fst_no (lk g) g.length 0 (by omega) k (by omega) (by omega)
  unfold lk at h2
  simp only [Bool.or_eq_false_iff, Bool.and_eq_false_iff, decide_eq_false_iff_not] at h2
  refine ⟨fun a b => ?_, fun a => ?_⟩ <;> omega
theorem x_lacks {g : List N3} {σ : SS} (hg : gX' g σ) (hd : GdL g) {k : Nat} (hk : k < g.length) : P_X3_lacksPart (nI k) σ = some (b2i (lk g k)) := by
  have h16 : k < 16 := Nat.lt_of_lt_of_le hk hd.1
  have hl := hd.1
  obtain ⟨e0, e1, e2⟩ := gX_at hg hk
  obtain ⟨l0, l1, l2⟩ := gd_lt hd hk
  have lk0 : kd g k < 2 ^ 31 := by omega
  have ha := x_has hg hl (nI (fa g k))
  have hb := x_has hg hl (nI (fb g k))
  rw [nI_toInt (by omega)] at ha hb
  have ha2 : P_X1_has (nI (fa g k)) σ = some (b2i (decide (fa g k < g.length))) := by
    by_cases z : fa g k < g.length
    · rw [ha.1 (by omega)]; simp [z, b2i]
    · rw [ha.2 (by omega)]; simp [z, b2i]
  have hb2 : P_X1_has (nI (fb g k)) σ = some (b2i (decide (fb g k < g.length))) := by
    by_cases z : fb g k < g.length
    · rw [hb.1 (by omega)]; simp [z, b2i]
    · rw [hb.2 (by omega)]; simp [z, b2i]
  unfold P_X3_lacksPart P_X3_lacksPart_j48 P_X3_lacksPart_j90 lk
  rw [x_kind h16, x_a h16, x_b h16, e0, e1, e2]
  simp only [Option.bind_some, ha2, hb2, nI_lit (B := 2) (b := 2) rfl lk0 (by decide), nI_lit (B := 3) (b := 3) rfl lk0 (by decide), nI_lit (B := 4) (b := 4) rfl lk0 (by decide), nI_lit (B := 5) (b := 5) rfl lk0 (by decide), nI_lit (B := 6) (b := 6) rfl lk0 (by decide), nI_lit (B := 7) (b := 7) rfl lk0 (by decide), b2i_z]
  have kk : kd g k = 0 ∨ kd g k = 1 ∨ kd g k = 2 ∨ kd g k = 3 ∨ kd g k = 4 ∨ kd g k = 5 ∨ kd g k = 6 ∨ kd g k = 7 ∨ kd g k = 8 := by omega
  by_cases za : fa g k < g.length <;> by_cases zb : fb g k < g.length <;> rcases kk with z | z | z | z | z | z | z | z | z <;> simp [z, za, zb, b2i] <;> omega
theorem x_repeats {g : List N3} {σ : SS} {E : Nat → Bool} (hg : gX' g σ) (hd : GdL g) (hE : EX E σ) {k : Nat} (hk : k < g.length) : P_X3_repeatsEmpty (nI k) σ = some (b2i (rp g E k)) := by
  have h16 : k < 16 := Nat.lt_of_lt_of_le hk hd.1
  obtain ⟨e0, e1, e2⟩ := gX_at hg hk
  obtain ⟨l0, l1, l2⟩ := gd_lt hd hk
  have lk0 : kd g k < 2 ^ 31 := by omega
  unfold P_X3_repeatsEmpty P_X3_repeatsEmpty_j23 P_X3_repeatsEmpty_j28 P_X1_isBag rp
  rw [x_kind h16, x_a h16, e0, e1]
  simp only [Option.bind_some, hE.is (show fa g k < 2 ^ 31 by omega), nI_lit (B := 4) (b := 4) rfl lk0 (by decide), nI_lit (B := 5) (b := 5) rfl lk0 (by decide), nI_lit (B := 6) (b := 6) rfl lk0 (by decide), b2i_z]
  have kk : kd g k = 0 ∨ kd g k = 1 ∨ kd g k = 2 ∨ kd g k = 3 ∨ kd g k = 4 ∨ kd g k = 5 ∨ kd g k = 6 ∨ kd g k = 7 ∨ kd g k = 8 := by omega
  cases hb : E (fa g k) <;> rcases kk with z | z | z | z | z | z | z | z | z <;> simp [z, b2i]
theorem x_inspect {g : List N3} (hd : GdL g) {σ : SS} (hg : gX' g σ) : ∃ σ', P_X3_inspect σ = some (nI (flt g), σ') ∧ Fr [7] [7] [] σ σ' ∧ (flt g = 0 → NoLack g ∧ EX (EE g) σ' ∧ NX (NN g) σ') := by
  have hl := hd.1
  have l3 : ∀ (m i : Nat) (σ1 : SS) (fu : Nat), i + m = g.length → m < fu → NX (NN g) σ1 → P_X3_inspect_j70 fu (nI g.length) (nI i) σ1 = some (nI (if fst (fun k => NN g k k) m i < g.length then 48 + fst (fun k => NN g k k) m i else 0), σ1) := by
    intro m
    induction m with
    | zero =>
      intro i σ1 fu h1 h2 h3
      obtain ⟨fu, rfl⟩ : ∃ k, fu = k + 1 := ⟨fu - 1, by omega⟩
      unfold P_X3_inspect_j70
      rw [fst_0, if_pos (nI_le (by omega) (by omega)), if_neg (by omega)]
      rfl
    | succ m ih =>
      intro i σ1 fu h1 h2 h3
      obtain ⟨fu, rfl⟩ : ∃ k, fu = k + 1 := ⟨fu - 1, by omega⟩
      unfold P_X3_inspect_j70
      rw [fst_s, if_neg (nI_ge (by omega) (by omega)), vX6_at_18 (by omega), Option.bind_some, x_isIn _ (by omega), Option.bind_some, h3 i (by omega) i (by omega), nI_1]
      have d16 : decide (i < 16) = true := by simp; omega
      rw [d16, Bool.true_and]
      cases hN : NN g i i with
      | false =>
        rw [b2i_f, if_pos rfl, ih (i + 1) σ1 fu (by omega) (by omega) h3]
        simp
      | true =>
        rw [b2i_t, if_neg (by decide)]
        simp only [if_true]
        rw [if_pos (by omega), show (48 : Int32) + nI i = nI (48 + i) from nI_add 48 i]
  have l2 : ∀ (m i : Nat) (σ1 : SS) (fu : Nat), i + m = g.length → m < fu → NoLack g → gX' g σ1 → EX (EE g) σ1 → ∃ σ', P_X3_inspect_j40 fu (nI g.length) (nI i) σ1 = some (nI (if fst (rp g (EE g)) m i < g.length then 32 + fst (rp g (EE g)) m i else if fst (fun k => NN g k k) g.length 0 < g.length then 48 + fst (fun k => NN g k k) g.length 0 else 0), σ') ∧ Fr [7] [7] [] σ1 σ' ∧ (¬ fst (rp g (EE g)) m i < g.length → EX (EE g) σ' ∧ NX (NN g) σ') := by
    intro m
    induction m with
    | zero =>
      intro i σ1 fu h1 h2 h3 h4 h5
      obtain ⟨fu, rfl⟩ : ∃ k, fu = k + 1 := ⟨fu - 1, by omega⟩
      unfold P_X3_inspect_j40
      rw [fst_0, if_pos (nI_le (by omega) (by omega)), if_neg (show ¬ i < g.length by omega)]
      obtain ⟨σ2, a1, a2, a3⟩ := x_needs hd h3 h4 h5
      rw [a1, Option.bind_some]
      refine ⟨σ2, l3 g.length 0 σ2 FU (by omega) (by unfold FU; omega) a2, a3.mono (by simp) (by simp) (by simp), fun _ => ⟨h5.out (a3.1 7 (by simp)), a2⟩⟩
    | succ m ih =>
      intro i σ1 fu h1 h2 h3 h4 h5
      obtain ⟨fu, rfl⟩ : ∃ k, fu = k + 1 := ⟨fu - 1, by omega⟩
      unfold P_X3_inspect_j40
      rw [fst_s, if_neg (nI_ge (by omega) (by omega)), x_repeats h4 hd h5 (by omega), Option.bind_some, nI_1]
      cases hR : rp g (EE g) i with
      | false =>
        rw [b2i_f, if_pos rfl]
        simp only [Bool.false_eq_true, if_false]
        exact ih (i + 1) σ1 fu (by omega) (by omega) h3 h4 h5
      | true =>
        rw [b2i_t, if_neg (by decide)]
        simp only [if_true]
        rw [if_pos (show i < g.length by omega), show (32 : Int32) + nI i = nI (32 + i) from nI_add 32 i]
        exact ⟨σ1, rfl, Fr.rf, fun z => absurd (show i < g.length by omega) z⟩
  have l1 : ∀ (m i : Nat) (fu : Nat), i + m = g.length → m < fu → (i = 0 ∨ True) → (¬ fst (lk g) m i < g.length → NoLack g) → ∃ σ', P_X3_inspect_j10 fu (nI g.length) (nI i) σ = some (nI (if fst (lk g) m i < g.length then 16 + fst (lk g) m i else if fst (rp g (EE g)) g.length 0 < g.length then 32 + fst (rp g (EE g)) g.length 0 else if fst (fun k => NN g k k) g.length 0 < g.length then 48 + fst (fun k => NN g k k) g.length 0 else 0), σ') ∧ Fr [7] [7] [] σ σ' ∧ (¬ fst (lk g) m i < g.length → ¬ fst (rp g (EE g)) g.length 0 < g.length → EX (EE g) σ' ∧ NX (NN g) σ') := by
    intro m
    induction m with
    | zero =>
      intro i fu h1 h2 _ hN
      obtain ⟨fu, rfl⟩ : ∃ k, fu = k + 1 := ⟨fu - 1, by omega⟩
      have hnl := hN (by rw [fst_0]; omega)
      unfold P_X3_inspect_j10
      rw [fst_0, if_pos (nI_le (by omega) (by omega)), if_neg (show ¬ i < g.length by omega)]
      obtain ⟨σ2, a1, a2, a3, a4⟩ := x_empties hd hg
      rw [a1, Option.bind_some]
      obtain ⟨σ3, b1, b2, b3⟩ := l2 g.length 0 σ2 FU (by omega) (by unfold FU; omega) hnl a2 a3
      exact ⟨σ3, b1, (a4.mono (by simp) (by simp) (by simp)).tr b2, fun _ z => b3 z⟩
    | succ m ih =>
      intro i fu h1 h2 _ hN
      obtain ⟨fu, rfl⟩ : ∃ k, fu = k + 1 := ⟨fu - 1, by omega⟩
      unfold P_X3_inspect_j10
      rw [fst_s] at hN ⊢
      rw [if_neg (nI_ge (by omega) (by omega)), x_lacks hg hd (by omega), Option.bind_some, nI_1]
      cases hR : lk g i with
      | false =>
        rw [hR] at hN
        rw [b2i_f, if_pos rfl]
        simp only [Bool.false_eq_true, if_false] at hN ⊢
        exact ih (i + 1) fu (by omega) (by omega) (Or.inr trivial) hN
      | true =>
        rw [b2i_t, if_neg (by decide)]
        simp only [if_true]
        rw [if_pos (show i < g.length by omega), show (16 : Int32) + nI i = nI (16 + i) from nI_add 16 i]
        exact ⟨σ, rfl, Fr.rf, fun z => absurd (show i < g.length by omega) z⟩
  obtain ⟨σ', a1, a2, a3⟩ := l1 g.length 0 FU (by omega) (by unfold FU; omega) (Or.inl rfl) noLack_of
  refine ⟨σ', ?_, a2, fun hz => ?_⟩
  · unfold P_X3_inspect P_X1_size
    rw [Option.bind_some, hg.1]
    exact a1
  · unfold flt at hz
    by_cases c1 : fst (lk g) g.length 0 < g.length
    · rw [if_pos c1] at hz; omega
    · rw [if_neg c1] at hz
      by_cases c2 : fst (rp g (EE g)) g.length 0 < g.length
      · rw [if_pos c2] at hz; omega
      · exact ⟨noLack_of c1, a3 c1 c2⟩
