theorem NNN_lt {g : List N3} (hr : Rdy g) {x y : Nat} (hN : NN g x y = true) : y < g.length ∧ cnt g y < cnt g x := by
  have hl := hr.1.1
  have hy := (WN_out hr.2.1 g.length x y hN).2
  exact ⟨hy, cE_lt (fun j hj => WN_tr g (EE g) g.length y x j hy hN hj) 16 y (by omega) (hr.2.2.2 y hy) hN⟩
theorem cE_ex {E : Nat → Bool} : ∀ n, cE E n < n → ∃ j, j < n ∧ E j = false
  | 0, h => absurd h (by omega)
  | n + 1, h => by
    cases e : E n with
    | false => exact ⟨n, by omega, e⟩
    | true =>
      rw [cE, e, if_pos rfl] at h
      obtain ⟨j, h1, h2⟩ := cE_ex (E := E) n (by omega)
      exact ⟨j, by omega, h2⟩
theorem cE_all {E : Nat → Bool} : ∀ n, cE E n = n → ∀ j, j < n → E j = true
  | 0, _, _, hj => absurd hj (by omega)
  | n + 1, h, j, hj => by
    have h1 := cE_le E n
    rw [cE] at h
    cases e : E n with
    | false =>
      rw [e, if_neg (by decide)] at h
      omega
    | true =>
      rw [e, if_pos rfl] at h
      by_cases z : j = n
      · subst z; exact e
      · exact cE_all n (by omega) j (by omega)
theorem cE_set {E : Nat → Bool} {x : Nat} (hE : E x = false) : ∀ n, x < n → cE (setB E x) n = cE E n + 1
  | 0, h => absurd h (by omega)
  | n + 1, h => by
    by_cases e : x = n
    · subst e
      have h1 : cE (setB E x) x = cE E x := cE_congr x (fun j hj => by unfold setB; simp [show ¬ j = x by omega])
      rw [cE, cE, h1, hE, show setB E x x = true by unfold setB; simp, if_pos rfl, if_neg (show ¬ false = true by decide)]
    · rw [cE, cE, cE_set hE n (by omega), show setB E x n = E n by unfold setB; simp [show ¬ n = x by omega]]
      split <;> omega
def DF (n : Nat) (E : Nat → Bool) (σ : SS) : Prop := ∀ y, y < n → sA σ 8 y = b2i (E y)
def al (p : Nat → Bool) : Nat → Nat → Bool
  | 0, _ => true
  | m + 1, i => p i && al p m (i + 1)
theorem al_iff (p : Nat → Bool) : ∀ m i, al p m i = true ↔ ∀ j, i ≤ j → j < i + m → p j = true
  | 0, i => ⟨fun _ j h1 h2 => absurd h2 (by omega), fun _ => rfl⟩
  | m + 1, i => by
    rw [al, Bool.and_eq_true, al_iff p m (i + 1)]
    constructor
    · rintro ⟨h1, h2⟩ j h3 h4
      by_cases e : j = i
      · subst e; exact h1
      · exact h2 j (by omega) (by omega)
    · intro h
      exact ⟨h i (by omega) (by omega), fun j h3 h4 => h j (by omega) (by omega)⟩
def mc (g : List N3) (E : Nat → Bool) (x : Nat) : Bool := !E x && al (fun j => !NN g x j || E j) g.length 0
theorem m_may {g : List N3} (hd : GdL g) {σ : SS} {E : Nat → Bool} (hg : gM' g σ) (hN : NM g.length (NN g) σ) (hE : DF g.length E σ) {x : Nat} (hx : x < g.length) : P_X11_mayCount (nI x) σ = some (b2i (mc g E x)) := by
  have hl := hd.1
  have h16 : x < 16 := Nat.lt_of_lt_of_le hx hd.1
  have loop : ∀ (d i : Nat) (q : Bool) (fu : Nat), i + d = g.length → d < fu → P_X11_mayCount_j17 σ fu (nI x) (b2i q) (nI i) = some (b2i (q && al (fun j => !NN g x j || E j) d i)) := by
    intro d
    induction d with
    | zero =>
      intro i q fu h1 h2
      obtain ⟨fu, rfl⟩ : ∃ k, fu = k + 1 := ⟨fu - 1, by omega⟩
      unfold P_X11_mayCount_j17
      rw [hg.1, if_pos (nI_le (by omega) (by omega)), gZ_of (b2i_01 q)]
      simp [al]
    | succ d ih =>
      intro i q fu h1 h2
      obtain ⟨fu, rfl⟩ : ∃ k, fu = k + 1 := ⟨fu - 1, by omega⟩
      unfold P_X11_mayCount_j17
      rw [hg.1, if_neg (nI_ge (by omega) (by omega)), pos16, gI_nI (by omega) (by decide), ldA_nI (by omega), hN x hx i (by omega), gI_nI (by omega) (by decide), ldA_nI (by omega), hE i (by omega)]
      unfold P_X11_mayCount_j52 P_X11_mayCount_j56 P_X11_mayCount_j57
      rw [nI_1, show (1 : Int32) = b2i true from rfl, show P_X11_mayCount_j17 σ fu (nI x) 0 (nI (i + 1)) = P_X11_mayCount_j17 σ fu (nI x) (b2i false) (nI (i + 1)) from rfl, ih (i + 1) true fu (by omega) (by omega), ih (i + 1) false fu (by omega) (by omega), al]
      cases q <;> cases NN g x i <;> cases E i <;> simp [b2i]
  unfold P_X11_mayCount P_X11_mayCount_j14
  rw [gI_nI h16 (by decide), ldA_nI (by omega), hE x hx]
  have t := loop g.length 0 true FU (by omega) (by unfold FU; omega)
  have f := loop g.length 0 false FU (by omega) (by unfold FU; omega)
  unfold mc
  cases E x with
  | false =>
    rw [b2i_f, if_neg (fun z => z rfl)]
    exact t
  | true =>
    rw [b2i_t, if_pos (by decide)]
    exact f
theorem mc_ex {g : List N3} (hr : Rdy g) {E : Nat → Bool} : ∀ (m x : Nat), x < g.length → E x = false → cnt g x = m → ∃ w, w < g.length ∧ mc g E w = true := by
  intro m
  induction m using Nat.strongRecOn with
  | _ m ih =>
    intro x hx hE hm
    cases e : al (fun j => !NN g x j || E j) g.length 0 with
    | true => exact ⟨x, hx, by unfold mc; rw [hE, e]; rfl⟩
    | false =>
      have : ∃ j, NN g x j = true ∧ E j = false := by
        apply Classical.byContradiction
        intro z
        have : al (fun j => !NN g x j || E j) g.length 0 = true := by
          rw [al_iff]
          intro j _ _
          cases h1 : NN g x j with
          | false => rfl
          | true =>
            cases h2 : E j with
            | false => exact absurd ⟨j, h1, h2⟩ z
            | true => rfl
        rw [this] at e
        cases e
      obtain ⟨j, h1, h2⟩ := this
      obtain ⟨h3, h4⟩ := NNN_lt hr h1
      exact ih _ (by omega) j h3 h2 rfl
def DM (s : Nat) (E : Nat → Bool) (y t : Nat) : Prop := t < s ∨ (t = s ∧ E y = true)
def MS (g : List N3) (σ0 σ : SS) (s : Nat) (E : Nat → Bool) : Prop := Fr [] [8] [0, 1] σ0 σ ∧ ∃ c b, MT g c b σ (DM s E)
theorem m_cnt65 {g : List N3} (hr : Rdy g) {σ : SS} {E : Nat → Bool} (hg : gM' g σ) (hN : NM g.length (NN g) σ) (hE : DF g.length E σ) (K24 : Int32 → SS → Option SS) (K55 : Int32 → Int32 → SS → Option SS) (x1 x2 : Int32) : ∀ (d k : Nat) (fu : Nat), (∃ w, k ≤ w ∧ w < k + d ∧ w < g.length ∧ mc g E w = true) → d < fu → ∃ x, x < g.length ∧ mc g E x = true ∧ P_X11_countAll_j65 K24 K55 fu x1 x2 (nI k) σ = b2 (P_X11_reckon (nI x) x1 σ) fun v5 σ6 => gI (25 * nI x + x1) 400 (gI (nI x) 16 (K55 x1 (x2 + 1) (stZ (stL σ6 0 (25 * nI x + x1) v5) 8 (nI x) 1))) := by
  intro d
  induction d with
  | zero =>
    rintro k fu ⟨w, h1, h2, _⟩ _
    omega
  | succ d ih =>
    rintro k fu ⟨w, h1, h2, h3, h4⟩ hf
    obtain ⟨fu, rfl⟩ : ∃ k, fu = k + 1 := ⟨fu - 1, by omega⟩
    rw [P_X11_countAll_j65, m_may hr.1 hg hN hE (show k < g.length by omega), Option.bind_some]
    cases e : mc g E k with
    | true =>
      rw [b2i_t, if_pos (by decide)]
      exact ⟨k, by omega, e, rfl⟩
    | false =>
      rw [b2i_f, if_neg (fun z => z rfl), nI_1]
      have hne : w ≠ k := fun z => by rw [z, e] at h4; cases h4
      exact ih (k + 1) fu ⟨w, by omega, by omega, h3, h4⟩ (by omega)
theorem m_cnt55 {g : List N3} (hr : Rdy g) {σ0 : SS} (hg : gM' g σ0) (hEE : EM (EE g) σ0) (hN : NM g.length (NN g) σ0) (K24 : Int32 → SS → Option SS) {s : Nat} (hs : s ≤ 24) : ∀ (d n : Nat) (E : Nat → Bool) (σ : SS) (fu : Nat), n + d = g.length → d < fu → DF g.length E σ → cE E g.length = n → (∀ y z, E y = true → NN g y z = true → E z = true) → MS g σ0 σ s E → ∃ σ', P_X11_countAll_j55 K24 fu (nI s) (nI n) σ = K24 (nI (s + 1)) σ' ∧ MS g σ0 σ' s (fun _ => true) := by
  have hl := hr.1.1
  intro d
  induction d with
  | zero =>
    intro n E σ fu h1 h2 h3 h4 h5 h6
    obtain ⟨fu, rfl⟩ : ∃ k, fu = k + 1 := ⟨fu - 1, by omega⟩
    have hg1 := h6.1.gM hg (by decide) (by decide) (by decide) (by decide)
    rw [P_X11_countAll_j55, hg1.1, if_pos (nI_le (by omega) (by omega)), nI_1]
    obtain ⟨f, c, b, q⟩ := h6
    refine ⟨σ, rfl, f, c, b, q.mono (fun y hy t ht z => ?_)⟩
    rcases z with z | z
    · exact Or.inl z
    · exact Or.inr ⟨z.1, cE_all g.length (by omega) y hy⟩
  | succ d ih =>
    intro n E σ fu h1 h2 h3 h4 h5 h6
    obtain ⟨fu, rfl⟩ : ∃ k, fu = k + 1 := ⟨fu - 1, by omega⟩
    obtain ⟨f, c, b, q⟩ := h6
    have hg1 := f.gM hg (by decide) (by decide) (by decide) (by decide)
    have hN1 : NM g.length (NN g) σ := by
      intro y hy j hj
      rw [f.2.1 7 (by decide)]
      exact hN y hy j hj
    have hE1 : EM (EE g) σ := ⟨by rw [f.2.1 6 (by decide)]; exact hEE.1, hEE.2⟩
    rw [P_X11_countAll_j55, hg1.1, if_neg (nI_ge (by omega) (by omega))]
    obtain ⟨w0, hw0, hw1⟩ := cE_ex g.length (show cE E g.length < g.length by omega)
    obtain ⟨w, hw, hw2⟩ := mc_ex hr _ w0 hw0 hw1 rfl
    obtain ⟨x, hx, hm, e65⟩ := m_cnt65 hr hg1 hN1 h3 K24 (P_X11_countAll_j55 K24 fu) (nI s) (nI n) g.length 0 FU ⟨w, by omega, by omega, hw, hw2⟩ (by unfold FU; omega)
    unfold mc at hm
    rw [Bool.and_eq_true, al_iff] at hm
    have hEx : E x = false := by
      have := hm.1
      cases hq : E x with
      | false => rfl
      | true => rw [hq] at this; cases this
    have hneed : ∀ j, NN g x j = true → E j = true := by
      intro j hj
      have hjl := (NNN_lt hr hj).1
      have := hm.2 j (by omega) (by omega)
      rw [hj] at this
      simpa using this
    rw [show (0 : Int32) = nI 0 from rfl, e65, pos25]
    obtain ⟨c', b', v, σ1, p1, p2, p3⟩ := m_fill_step (x := x) hr hg1 hE1 hx hs q (by
      intro y hy t z
      rcases z with z | ⟨z, z2⟩
      · exact ⟨by omega, by omega, by omega⟩
      · refine ⟨by omega, fun y => ?_, fun _ => ?_⟩
        · rw [y.1, hEx] at z2
          cases z2
        · cases hdn : dn g (EE g) y x with
          | false => rfl
          | true =>
            have := h5 y x z2 (WN_le g (EE g) g.length y x hdn)
            rw [hEx] at this
            cases this) (fun t ht => Or.inl ht)
    rw [p1]
    show ∃ σ', gI (nI (25 * x + s)) 400 (gI (nI x) 16 (P_X11_countAll_j55 K24 fu (nI s) (nI n + 1) (stZ (stL σ1 0 (nI (25 * x + s)) v) 8 (nI x) 1))) = _ ∧ _
    rw [gI_nI (show 25 * x + s < 400 by omega) (by decide), gI_nI (show x < 16 by omega) (by decide), nI_1]
    refine ih (n + 1) (setB E x) _ fu (by omega) (by omega) ?_ ?_ ?_ ⟨?_, c', b', ?_⟩
    · intro y hy
      rw [sA_szN (by omega) (Or.inr rfl), upd_at]
      unfold setB
      by_cases e : y = x
      · rw [if_pos e]; simp [e, b2i]
      · rw [if_neg e, p2.2.1 8 (by decide), h3 y hy]; simp [e]
    · rw [cE_set hEx g.length hx, h4]
    · intro y z hy hz
      unfold setB at hy ⊢
      rw [Bool.or_eq_true, decide_eq_true_eq] at hy
      rcases hy with hy | hy
      · rw [hneed z (by rw [← hy]; exact hz), Bool.or_true]
      · rw [h5 y z hy hz, Bool.or_true]
    · exact (f.tr (p2.mono (by decide) (by decide) (by decide))).tr (Fr.stZ (by decide))
    · refine (p3.frame (σ' := stZ (stL σ1 0 (nI (25 * x + s)) v) 8 (nI x) 1) rfl rfl).mono (fun y hy t ht z => ?_)
      rcases z with z | ⟨z, z2⟩
      · exact Or.inl (Or.inl z)
      · unfold setB at z2
        rw [Bool.or_eq_true, decide_eq_true_eq] at z2
        rcases z2 with z2 | z2
        · exact Or.inr ⟨z2, z⟩
        · exact Or.inl (Or.inr ⟨z, z2⟩)
theorem m_cnt32 {g : List N3} (hr : Rdy g) {σ0 : SS} (hg : gM' g σ0) (K24 : Int32 → SS → Option SS) {s : Nat} : ∀ (d n : Nat) (σ : SS) (fu : Nat), n + d = g.length → d < fu → DF n (fun _ => false) σ → MS g σ0 σ s (fun _ => false) → ∃ σ', P_X11_countAll_j32 K24 fu (nI s) (nI n) σ = P_X11_countAll_j55 K24 FU (nI s) 0 σ' ∧ DF g.length (fun _ => false) σ' ∧ MS g σ0 σ' s (fun _ => false) := by
  have hl := hr.1.1
  intro d
  induction d with
  | zero =>
    intro n σ fu h1 h2 h3 h4
    obtain ⟨fu, rfl⟩ : ∃ k, fu = k + 1 := ⟨fu - 1, by omega⟩
    have e : n = g.length := by omega
    subst e
    have hg1 := h4.1.gM hg (by decide) (by decide) (by decide) (by decide)
    rw [P_X11_countAll_j32, hg1.1, if_pos (nI_le (by omega) (by omega))]
    exact ⟨σ, rfl, h3, h4⟩
  | succ d ih =>
    intro n σ fu h1 h2 h3 h4
    obtain ⟨fu, rfl⟩ : ∃ k, fu = k + 1 := ⟨fu - 1, by omega⟩
    obtain ⟨f, c, b, q⟩ := h4
    have hg1 := f.gM hg (by decide) (by decide) (by decide) (by decide)
    rw [P_X11_countAll_j32, hg1.1, if_neg (nI_ge (by omega) (by omega)), gI_nI (by omega) (by decide), nI_1]
    refine ih (n + 1) _ fu (by omega) (by omega) ?_ ⟨f.tr (Fr.stZ (by decide)), c, b, q.frame rfl rfl⟩
    intro y hy
    rw [sA_szN (by omega) (Or.inl rfl), upd_at]
    split
    · rfl
    · exact h3 y (by omega)
theorem m_cnt24 {g : List N3} (hr : Rdy g) {σ0 : SS} (hg : gM' g σ0) (hEE : EM (EE g) σ0) (hN : NM g.length (NN g) σ0) : ∀ (d s : Nat) (σ : SS) (fu : Nat), s + d = 25 → d < fu → MS g σ0 σ s (fun _ => false) → ∃ σ', P_X11_countAll_j24 fu (nI s) σ = some σ' ∧ Fr [] [8] [0, 1] σ0 σ' ∧ ∃ c b, MT g c b σ' (fun _ _ => True) := by
  have hl := hr.1.1
  intro d
  induction d with
  | zero =>
    intro s σ fu h1 h2 h4
    obtain ⟨fu, rfl⟩ : ∃ k, fu = k + 1 := ⟨fu - 1, by omega⟩
    have e : s = 25 := by omega
    subst e
    obtain ⟨f, c, b, q⟩ := h4
    rw [P_X11_countAll_j24, if_pos (by decide)]
    exact ⟨σ, rfl, f, c, b, q.mono (fun y hy t ht _ => Or.inl (by omega))⟩
  | succ d ih =>
    intro s σ fu h1 h2 h4
    obtain ⟨fu, rfl⟩ : ∃ k, fu = k + 1 := ⟨fu - 1, by omega⟩
    rw [P_X11_countAll_j24, show (25 : Int32) = nI 25 from rfl, if_neg (nI_ge (by omega) (by decide))]
    obtain ⟨σ1, p1, p2, p3⟩ := m_cnt32 hr hg (P_X11_countAll_j24 fu) (s := s) g.length 0 σ FU (by omega) (by unfold FU; omega) (fun y hy => absurd hy (by omega)) h4
    obtain ⟨σ2, r1, r2⟩ := m_cnt55 hr hg hEE hN (P_X11_countAll_j24 fu) (s := s) (by omega) g.length 0 (fun _ => false) σ1 FU (by omega) (by unfold FU; omega) p2 (by
      have : ∀ n, cE (fun _ => false) n = 0 := by
        intro n
        induction n with
        | zero => rfl
        | succ n ih => rw [cE, ih]; rfl
      exact this _) (fun _ _ z _ => by cases z) p3
    rw [show (0 : Int32) = nI 0 from rfl] at p1 ⊢
    rw [p1, r1]
    obtain ⟨f, c, b, q⟩ := r2
    refine ih (s + 1) σ2 fu (by omega) (by omega) ⟨f, c, b, q.mono (fun y hy t ht z => ?_)⟩
    rcases z with z | z
    · by_cases e : t = s
      · exact Or.inr ⟨e, rfl⟩
      · exact Or.inl (by omega)
    · exact absurd z.2 (fun w => by cases w)
theorem m_countAll {g : List N3} (hr : Rdy g) {σ : SS} (hg : gM' g σ) (hEE : EM (EE g) σ) (hN : NM g.length (NN g) σ) : ∃ σ', P_X11_countAll σ = some σ' ∧ Fr [] [8] [0, 1] σ σ' ∧ ∃ c b, MT g c b σ' (fun _ _ => True) := by
  obtain ⟨σ1, p1, p2, p3⟩ := zero_loop P_X11_countAll_j2 (P_X11_countAll_j24 FU 0) 400 0 (by decide) (by
    intro fu i σ hi
    rw [P_X11_countAll_j2, show (400 : Int32) = nI 400 from rfl, if_neg (nI_ge hi (by decide)), gI_nI hi (by decide), nI_1]) (by
    intro fu σ
    rw [P_X11_countAll_j2, if_pos (by decide)]) 400 0 σ FU (by omega) (by unfold FU; omega) (fun j hj => absurd hj (by omega))
  obtain ⟨σ', q1, q2⟩ := m_cnt24 hr hg hEE hN 25 0 σ1 FU (by omega) (by unfold FU; omega) (by
    refine ⟨p2.mono (by decide) (by decide) (by decide), fun _ _ => 0, fun _ _ _ => 0, fun x hx s hs => ?_, ⟨⟨Zc_0 g, fun _ _ _ => rfl⟩, fun y hy t ht z => ?_⟩, fun x hx hB t ht z => ?_⟩
    · exact ⟨p3 _ (by omega), Nat.zero_le _⟩
    · rcases z with z | z
      · omega
      · exact absurd z.2 (fun w => by cases w)
    · rcases z with z | z
      · omega
      · exact absurd z.2 (fun w => by cases w))
  refine ⟨σ', ?_, q2⟩
  unfold P_X11_countAll
  rw [show (0 : Int32) = nI 0 from rfl, p1]
  exact q1
