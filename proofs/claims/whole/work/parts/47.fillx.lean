def cnt (g : List N3) (x : Nat) : Nat := cE (NN g x) 16
theorem cnt_lt {g : List N3} (hr : Rdy g) {x : Nat} (hx : x < g.length) : cnt g x < 16 := cE_lt (E' := fun _ => true) (fun _ _ => rfl) 16 x (Nat.lt_of_lt_of_le hx hr.1.1) (hr.2.2.2 x hx) rfl
theorem NN_out16 {g : List N3} (hr : Rdy g) (k : Nat) {j : Nat} (hj : 16 ≤ j) : NN g k j = false := by
  cases h : NN g k j with
  | false => rfl
  | true =>
    have := (WN_out hr.2.1 g.length k j h).2
    have := hr.1.1
    omega
/-- what the class holds of the tables, so far -/
def XT (g : List N3) (c : Nat → Nat → Nat) (b : Nat → Nat → Nat → Nat) (σ : SS) (D : Nat → Nat → Prop) : Prop := CT c σ ∧ Dn g c b D ∧ ∀ x, x < g.length → isB56 g x → ∀ t, t ≤ 24 → D x t → ∀ u, u ≤ t → BE b σ x t u
def D3 (g : List N3) (s n k : Nat) (y t : Nat) : Prop := t < s ∨ (t = s ∧ (cnt g y < n ∨ (cnt g y = n ∧ y < k)))
theorem XT.mono {g : List N3} {c : Nat → Nat → Nat} {b : Nat → Nat → Nat → Nat} {σ : SS} {D D' : Nat → Nat → Prop} (h : XT g c b σ D) (hD : ∀ y, y < g.length → ∀ t, t ≤ 24 → D' y t → D y t) : XT g c b σ D' := ⟨h.1, h.2.1.mono hD, fun x hx hB t ht z => h.2.2 x hx hB t ht (hD x hx t ht z)⟩
theorem CT.set {c : Nat → Nat → Nat} {σ : SS} {x s v : Nat} (h : CT c σ) (hx : x < 16) (hs : s ≤ 24) (hv : v ≤ LIM) : CT (up2 c x s v) (stL σ 0 (nI (25 * x + s)) (lN v)) := by
  intro y hy t ht
  rw [sL_stN (by omega), updL_at]
  by_cases e : y = x ∧ t = s
  · obtain ⟨rfl, rfl⟩ := e
    rw [if_pos rfl, up2_eq]
    exact ⟨rfl, hv⟩
  · rw [if_neg (by omega), up2_ne e]
    exact h y hy t ht
theorem x_fill_step {g : List N3} (hr : Rdy g) {c : Nat → Nat → Nat} {b : Nat → Nat → Nat → Nat} {σ : SS} {D : Nat → Nat → Prop} {x s : Nat} (hg : gX' g σ) (hx : x < g.length) (hs : s ≤ 24) (h : XT g c b σ D) (hD : ∀ y, y < g.length → ∀ t, D y t → t ≤ s ∧ ¬ (y = x ∧ t = s) ∧ (t = s → dn g (EE g) y x = false)) (hsm : ∀ t, t < s → D x t) : ∃ c' b' v σ1, P_X8_reckon (nI x) (nI s) σ = some (v, σ1) ∧ P_X6_set__19 (nI x * 25 + nI s) v σ1 = some (stL σ1 0 (nI (25 * x + s)) v) ∧ Fr [] [] [0, 1] σ (stL σ1 0 (nI (25 * x + s)) v) ∧ XT g c' b' (stL σ1 0 (nI (25 * x + s)) v) (fun y t => D y t ∨ (y = x ∧ t = s)) := by
  obtain ⟨h1, h2, h3⟩ := h
  have h16 : x < 16 := Nat.lt_of_lt_of_le hx hr.1.1
  obtain ⟨b', σ1, q1, q2, q3, q4, q5, q6⟩ := x_reckon (b := b) hr hg h1 hx hs (fun hB t ht u hu => h3 x hx hB t (by omega) (hsm t ht) u hu)
  have e : nI x * 25 + nI s = nI (25 * x + s) := by rw [show nI x * 25 = nI (x * 25) from nI_mul x 25, nI_add, Nat.mul_comm]
  refine ⟨up2 c x s (Rv g c b' x s), b', _, σ1, q1, by rw [e, vX6_set__19 (by omega)], (q3.mono (by decide) (by decide) (by decide)).tr (Fr.stL (by decide)), (h1.frame (q3.2.2 0 (by decide))).set h16 hs q2, h2.step hr hx hD rfl q4 (fun hB t ht => (q5 hB t ht).1), ?_⟩
  intro y hy hB t ht z u hu
  have eL : sL (stL σ1 0 (nI (25 * x + s)) (lN (Rv g c b' x s))) 1 = sL σ1 1 := sL_stne (by decide)
  unfold BE
  rw [eL]
  by_cases ex : y = x ∧ t = s
  · obtain ⟨rfl, rfl⟩ := ex
    exact (q5 hB u hu).2
  · have hDt : D y t := by
      rcases z with z | z
      · exact z
      · exact absurd z ex
    rw [q4 y t u ex, q6 _ (fun w hw e => ex ⟨(ib_inj ht hu hs hw e).1, (ib_inj ht hu hs hw e).2.1⟩)]
    exact h3 y hy hB t ht hDt u hu
def XS (g : List N3) (σ0 σ : SS) (D : Nat → Nat → Prop) : Prop := Fr [] [] [0, 1] σ0 σ ∧ ∃ c b, XT g c b σ D
theorem XS.mono {g : List N3} {σ0 σ : SS} {D D' : Nat → Nat → Prop} (h : XS g σ0 σ D) (hD : ∀ y, y < g.length → ∀ t, t ≤ 24 → D' y t → D y t) : XS g σ0 σ D' := by
  obtain ⟨f, c, b, q⟩ := h
  exact ⟨f, c, b, q.mono hD⟩
theorem x_fill42 {g : List N3} (hr : Rdy g) {σ0 : SS} (hg : gX' g σ0) (hN : NX (NN g) σ0) (K26 : Int32 → SS → Option SS) (K34 : Int32 → Int32 → SS → Option SS) {s n : Nat} (hs : s ≤ 24) (hn : n < 16) : ∀ (d k : Nat) (σ : SS) (fu : Nat), k + d = g.length → d < fu → XS g σ0 σ (D3 g s n k) → ∃ σ', P_X8_fill_j42 K26 K34 fu (nI s) (nI n) (nI k) σ = K34 (nI s) (nI (n + 1)) σ' ∧ XS g σ0 σ' (D3 g s n g.length) := by
  have hl := hr.1.1
  intro d
  induction d with
  | zero =>
    intro k σ fu h1 h2 h
    obtain ⟨fu, rfl⟩ : ∃ k, fu = k + 1 := ⟨fu - 1, by omega⟩
    have e : k = g.length := by omega
    subst e
    unfold P_X8_fill_j42 P_X1_size
    rw [Option.bind_some, (h.1.gX hg (by decide) (by decide) (by decide) (by decide)).1, if_pos (nI_le (Nat.le_refl _) (by omega)), nI_1]
    exact ⟨σ, rfl, h⟩
  | succ d ih =>
    intro k σ fu h1 h2 h
    obtain ⟨fu, rfl⟩ : ∃ k, fu = k + 1 := ⟨fu - 1, by omega⟩
    have hg1 := h.1.gX hg (by decide) (by decide) (by decide) (by decide)
    have hN1 : NX (NN g) σ := by
      intro y hy j hj
      rw [h.1.2.1 7 (by decide)]
      exact hN y hy j hj
    have hc := cnt_lt hr (show k < g.length by omega)
    unfold P_X8_fill_j42 P_X1_size P_X8_fill_j84
    rw [Option.bind_some, hg1.1, if_neg (nI_ge (by omega) (by omega)), x_needCount hN1 (by omega) (fun j hj => NN_out16 hr k hj), Option.bind_some, nI_1]
    by_cases e : cnt g k = n
    · rw [if_neg (fun z => z (by rw [← e]; rfl))]
      obtain ⟨f, c, b, q⟩ := h
      obtain ⟨c', b', v, σ1, p1, p2, p3, p4⟩ := x_fill_step (x := k) hr hg1 (by omega) hs q (by
        intro y hy t z
        unfold D3 at z
        refine ⟨by omega, fun w => ?_, fun w => ?_⟩
        · obtain ⟨rfl, rfl⟩ := w
          omega
        · cases hdn : dn g (EE g) y k with
          | false => rfl
          | true =>
            have h5 := (NN_lt hr hy hdn).2
            unfold cnt at z e
            omega) (fun t ht => Or.inl ht)
      rw [p1]
      show ∃ σ', (P_X6_set__19 (nI k * 25 + nI s) v σ1).bind _ = _ ∧ _
      rw [p2, Option.bind_some]
      refine ih (k + 1) _ fu (by omega) (by omega) ⟨f.tr p3, c', b', p4.mono (fun y hy t ht z => ?_)⟩
      unfold D3 at z ⊢
      by_cases ey : y = k ∧ t = s
      · exact Or.inr ey
      · refine Or.inl ?_
        omega
    · rw [if_pos (show ¬ nI (cE (NN g k) 16) = nI n from fun z => e ((nI_eq (show cE (NN g k) 16 < 2 ^ 31 from Nat.lt_trans hc (by decide)) (by omega)).mp z))]
      refine ih (k + 1) _ fu (by omega) (by omega) (h.mono (fun y hy t ht z => ?_))
      unfold D3 at z ⊢
      rcases z with z | ⟨z, z2 | ⟨z2, z3⟩⟩
      · exact Or.inl z
      · exact Or.inr ⟨z, Or.inl z2⟩
      · refine Or.inr ⟨z, Or.inr ⟨z2, ?_⟩⟩
        have : y ≠ k := fun w => e (by rw [← w]; exact z2)
        omega
theorem x_fill34 {g : List N3} (hr : Rdy g) {σ0 : SS} (hg : gX' g σ0) (hN : NX (NN g) σ0) (K26 : Int32 → SS → Option SS) {s : Nat} (hs : s ≤ 24) : ∀ (d n : Nat) (σ : SS) (fu : Nat), n + d = 16 → d < fu → XS g σ0 σ (D3 g s n 0) → ∃ σ', P_X8_fill_j34 K26 fu (nI s) (nI n) σ = K26 (nI (s + 1)) σ' ∧ XS g σ0 σ' (D3 g s 16 0) := by
  have hl := hr.1.1
  intro d
  induction d with
  | zero =>
    intro n σ fu h1 h2 h
    obtain ⟨fu, rfl⟩ : ∃ k, fu = k + 1 := ⟨fu - 1, by omega⟩
    have e : n = 16 := by omega
    subst e
    unfold P_X8_fill_j34
    rw [if_pos (by decide), nI_1]
    exact ⟨σ, rfl, h⟩
  | succ d ih =>
    intro n σ fu h1 h2 h
    obtain ⟨fu, rfl⟩ : ∃ k, fu = k + 1 := ⟨fu - 1, by omega⟩
    unfold P_X8_fill_j34
    rw [show (16 : Int32) = nI 16 from rfl, if_neg (nI_ge (by omega) (by decide))]
    obtain ⟨σ1, p1, p2⟩ := x_fill42 hr hg hN K26 (P_X8_fill_j34 K26 fu) hs (show n < 16 by omega) g.length 0 σ FU (by omega) (by unfold FU; omega) h
    rw [show (0 : Int32) = nI 0 from rfl, p1]
    refine ih (n + 1) σ1 fu (by omega) (by omega) (p2.mono (fun y hy t ht z => ?_))
    unfold D3 at z ⊢
    omega
theorem x_fill26 {g : List N3} (hr : Rdy g) {σ0 : SS} (hg : gX' g σ0) (hN : NX (NN g) σ0) : ∀ (d s : Nat) (σ : SS) (fu : Nat), s + d = 25 → d < fu → XS g σ0 σ (D3 g s 0 0) → ∃ σ', P_X8_fill_j26 fu (nI s) σ = some σ' ∧ XS g σ0 σ' (fun _ _ => True) := by
  intro d
  induction d with
  | zero =>
    intro s σ fu h1 h2 h
    obtain ⟨fu, rfl⟩ : ∃ k, fu = k + 1 := ⟨fu - 1, by omega⟩
    have e : s = 25 := by omega
    subst e
    unfold P_X8_fill_j26
    rw [if_pos (by decide)]
    refine ⟨σ, rfl, h.mono (fun y hy t ht _ => ?_)⟩
    unfold D3
    omega
  | succ d ih =>
    intro s σ fu h1 h2 h
    obtain ⟨fu, rfl⟩ : ∃ k, fu = k + 1 := ⟨fu - 1, by omega⟩
    unfold P_X8_fill_j26
    rw [show (24 : Int32) = nI 24 from rfl, if_neg (nI_nlt (by omega) (by decide))]
    obtain ⟨σ1, p1, p2⟩ := x_fill34 hr hg hN (P_X8_fill_j26 fu) (show s ≤ 24 by omega) 16 0 σ FU (by omega) (by unfold FU; omega) h
    rw [show (0 : Int32) = nI 0 from rfl, p1]
    refine ih (s + 1) σ1 fu (by omega) (by omega) (p2.mono (fun y hy t ht z => ?_))
    have := cnt_lt hr hy
    unfold D3 at z ⊢
    omega
theorem zero_loop (P : Nat → Int32 → SS → Option SS) (K : SS → Option SS) (N k : Nat) (hN : N < 2 ^ 31) (e0 : ∀ fu i σ, i < N → P (fu + 1) (nI i) σ = P fu (nI (i + 1)) (stL σ k (nI i) 0)) (e1 : ∀ fu σ, P (fu + 1) (nI N) σ = K σ) : ∀ (d i : Nat) (σ : SS) (fu : Nat), i + d = N → d < fu → (∀ j, j < i → sL σ k j = 0) → ∃ σ', P fu (nI i) σ = K σ' ∧ Fr [] [] [k] σ σ' ∧ ∀ j, j < N → sL σ' k j = 0 := by
  intro d
  induction d with
  | zero =>
    intro i σ fu h1 h2 h
    obtain ⟨fu, rfl⟩ : ∃ k, fu = k + 1 := ⟨fu - 1, by omega⟩
    have e : i = N := by omega
    subst e
    exact ⟨σ, e1 fu σ, Fr.rf, h⟩
  | succ d ih =>
    intro i σ fu h1 h2 h
    obtain ⟨fu, rfl⟩ : ∃ k, fu = k + 1 := ⟨fu - 1, by omega⟩
    rw [e0 fu i σ (by omega)]
    obtain ⟨σ', p1, p2, p3⟩ := ih (i + 1) (stL σ k (nI i) 0) fu (by omega) (by omega) (by
      intro j hj
      rw [sL_stN (by omega), updL_at]
      split
      · rfl
      · exact h j (by omega))
    exact ⟨σ', p1, (Fr.stL (by simp)).tr p2, p3⟩
theorem Zc_0 (g : List N3) : Zc g (fun _ _ => 0) := fun _ _ _ => rfl
theorem x_fill {g : List N3} (hr : Rdy g) {σ : SS} (hg : gX' g σ) (hN : NX (NN g) σ) : ∃ σ', P_X8_fill σ = some σ' ∧ XS g σ σ' (fun _ _ => True) := by
  obtain ⟨σ1, p1, p2, p3⟩ := zero_loop P_X8_fill_j2 (P_X8_fill_j26 FU 0) 400 0 (by decide) (by
    intro fu i σ hi
    rw [P_X8_fill_j2, show (400 : Int32) = nI 400 from rfl, if_neg (nI_ge hi (by decide)), gI_nI hi (by decide), nI_1]) (by
    intro fu σ
    rw [P_X8_fill_j2, if_pos (by decide)]) 400 0 σ FU (by omega) (by unfold FU; omega) (fun j hj => absurd hj (by omega))
  have hg1 := p2.gX hg (by decide) (by decide) (by decide) (by decide)
  obtain ⟨σ', q1, q2⟩ := x_fill26 hr hg hN 25 0 σ1 FU (by omega) (by unfold FU; omega) (by
    refine ⟨p2.mono (by decide) (by decide) (by decide), fun _ _ => 0, fun _ _ _ => 0, fun x hx s hs => ?_, ⟨⟨Zc_0 g, fun _ _ _ => rfl⟩, fun y hy t ht z => ?_⟩, fun x hx hB t ht z => ?_⟩
    · exact ⟨p3 _ (by omega), Nat.zero_le _⟩
    · unfold D3 at z; omega
    · unfold D3 at z; omega)
  refine ⟨σ', ?_, q2⟩
  unfold P_X8_fill
  rw [show (0 : Int32) = nI 0 from rfl, p1]
  exact q1
