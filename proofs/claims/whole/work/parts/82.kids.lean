/-! a node's parts; sizes and ends on the class's side -/
def kid (F : TB) (i : Nat) : Nat → Nat
  | 0 => i + 1
  | t + 1 => F 3 (kid F i t)
def Kd (F : TB) (i m : Nat) : Prop := kid F i m = F 3 i ∧ ∀ t, t < m → i < kid F i t ∧ kid F i t < F 3 i ∧ F 2 (kid F i t) = i
section
variable {g : List N3} {tp : Nat → Nat} {n : Nat} {F : TB} {N : Nat}
theorem kids (h : SB g tp n F 0 N) {i : Nat} (hi : i < N) : ∃ m, Kd F i m := by
  obtain ⟨⟨h1, h2⟩, h3, h4, h5⟩ := h
  have b0 := h3 i (by omega) hi
  have go : ∀ d t, F 3 i ≤ kid F i t + d → i < kid F i t → kid F i t ≤ F 3 i → (kid F i t < F 3 i → F 2 (kid F i t) = i) → (∀ s, s < t → i < kid F i s ∧ kid F i s < F 3 i ∧ F 2 (kid F i s) = i) → ∃ m, Kd F i m := by
    intro d
    induction d with
    | zero => exact fun t a1 a2 a3 a4 a5 => ⟨t, by omega, a5⟩
    | succ d ih =>
      intro t a1 a2 a3 a4 a5
      by_cases e : kid F i t = F 3 i
      · exact ⟨t, e, a5⟩
      · have lt : kid F i t < F 3 i := by omega
        have q := a4 lt
        have b := h3 (kid F i t) (by omega) (by omega)
        have a := h4 (kid F i t) (by omega) (by omega)
        rw [q] at a
        apply ih (t + 1)
        · show F 3 i ≤ F 3 (kid F i t) + d
          omega
        · show i < F 3 (kid F i t)
          omega
        · show F 3 (kid F i t) ≤ F 3 i
          omega
        · exact a.2.2.2.2
        · intro s hs
          by_cases w : s = t
          · subst w; exact ⟨a2, lt, q⟩
          · exact a5 s (by omega)
  refine go (F 3 i) 0 (by show F 3 i ≤ i + 1 + F 3 i; omega) (Nat.lt_succ_self i) b0.2.1 (fun z => ?_) (fun s hs => by omega)
  have z' : i + 1 < F 3 i := z
  have a := h5 i (i + 1) (by omega) hi (by omega) z'
  have b := (h4 (i + 1) (by omega) (by omega)).2.2.1
  show F 2 (i + 1) = i
  omega
theorem KK_kid (h : SB g tp n F 0 N) {i m : Nat} (hi : i < N) (hk : Kd F i m) : ∀ t, t ≤ m → KK F i (kid F i t) = sumN (fun s => F 4 (kid F i s)) t
  | 0, _ => KK_0 _ (Nat.le_refl _)
  | t + 1, ht => by
    obtain ⟨⟨h1, h2⟩, h3, h4, h5⟩ := h
    obtain ⟨k1, k2, k3⟩ := hk.2 t (by omega)
    have b0 := h3 i (by omega) hi
    have b := h3 (kid F i t) (by omega) (by omega)
    have ih := KK_kid ⟨⟨h1, h2⟩, h3, h4, h5⟩ hi hk t (by omega)
    have e : KK F i (F 3 (kid F i t)) = KK F i (kid F i t) + F 4 (kid F i t) := by
      obtain ⟨d, hd⟩ : ∃ d, F 3 (kid F i t) = kid F i t + 1 + d := ⟨F 3 (kid F i t) - (kid F i t + 1), by omega⟩
      rw [hd, KK_ext d (fun j j1 j2 w => by
        have := h5 (kid F i t) j (by omega) (by omega) (by omega) (by omega)
        omega), KK_s, if_pos ⟨k1, k3⟩]
    show KK F i (F 3 (kid F i t)) = sumN (fun s => F 4 (kid F i s)) t + F 4 (kid F i t)
    rw [e, ih]
theorem kid_lt (h : SB g tp n F 0 N) {i m : Nat} (hi : i < N) (hk : Kd F i m) {t : Nat} (ht : t < m) : kid F i t < N := by
  have := (hk.2 t ht).2.1
  have := (h.2.1 i (by omega) hi).2.2.1
  omega
theorem F4_kid (h : SB g tp n F 0 N) {i m : Nat} (hi : i < N) (hk : Kd F i m) : F 4 i = own g (F 0 i) + sumN (fun s => F 4 (kid F i s)) m := by
  rw [(h.2.1 i (by omega) hi).2.2.2, ← hk.1, KK_kid h hi hk m (Nat.le_refl _)]
theorem kid_m (h : SB g tp n F 0 N) {i m : Nat} (hi : i < N) (hk : Kd F i m) : ∀ t, t ≤ m → i + 1 + t ≤ kid F i t
  | 0, _ => Nat.le_refl _
  | t + 1, ht => by
    have ih := kid_m h hi hk t (by omega)
    have b := (h.2.1 (kid F i t) (by omega) (kid_lt h hi hk (by omega))).2.1
    show i + 1 + (t + 1) ≤ F 3 (kid F i t)
    omega
theorem own_le (hd : GdL g) {x : Nat} (hx : x < g.length) : own g x ≤ 15 := by
  have := (gd_lt hd hx).2.1
  unfold own
  split <;> omega
theorem sz_le (hd : GdL g) (h : SB g tp n F 0 N) : ∀ d i, i < N → N ≤ i + d → F 4 i ≤ 15 * (F 3 i - i) := by
  intro d
  induction d with
  | zero => intro i h1 h2; omega
  | succ d ih =>
    intro i hi h2
    obtain ⟨m, hk⟩ := kids h hi
    have b := h.2.1 i (by omega) hi
    have ow := own_le hd b.1
    have bd : ∀ t, t ≤ m → sumN (fun s => F 4 (kid F i s)) t ≤ 15 * (kid F i t - (i + 1)) := by
      intro t
      induction t with
      | zero => intro _; exact Nat.zero_le _
      | succ t iht =>
        intro ht
        have e1 := iht (by omega)
        have kl := kid_lt h hi hk (show t < m by omega)
        have km := kid_m h hi hk t (by omega)
        have e2 := ih (kid F i t) kl (by omega)
        have b2 := (h.2.1 (kid F i t) (by omega) kl).2.1
        show sumN (fun s => F 4 (kid F i s)) t + F 4 (kid F i t) ≤ 15 * (F 3 (kid F i t) - (i + 1))
        omega
    have e := bd m (Nat.le_refl _)
    rw [hk.1] at e
    rw [F4_kid h hi hk]
    omega
theorem sz_lt (hd : GdL g) (h : SB g tp n F 0 N) (hN : N ≤ 300) {i : Nat} (hi : i < N) : F 4 i ≤ 4500 := by
  have := sz_le hd h N i hi (by omega)
  have := (h.2.1 i (by omega) hi).2.2.1
  omega
theorem sumN_one {f f' : Nat → Nat} {m v : Nat} : ∀ k, m < k → f' m = f m + v → (∀ j, ¬ j = m → f' j = f j) → sumN f' k = sumN f k + v
  | 0, h, _, _ => by omega
  | k + 1, h, e1, e2 => by
    show sumN f' k + f' k = sumN f k + f k + v
    by_cases z : m = k
    · subst z
      rw [sumN_congr m (fun j hj => e2 j (by omega)), e1]
      omega
    · rw [sumN_one k (by omega) e1 e2, e2 k (by omega)]
      omega
def KP (F : TB) (N i k : Nat) : Nat := sumN (fun j => if k < j ∧ i < j ∧ F 2 j = i then F 4 j else 0) N
theorem KP_fin (h : SB g tp n F 0 N) {i k : Nat} (hi : i < N) (hk : k ≤ i) : KP F N i k = KK F i (F 3 i) := by
  obtain ⟨⟨h1, h2⟩, h3, h4, h5⟩ := h
  have b := h3 i (by omega) hi
  have e : KP F N i k = KK F i N := by
    apply sumN_congr
    intro j hj
    by_cases z : i < j ∧ F 2 j = i
    · rw [if_pos ⟨by omega, z⟩, if_pos z]
    · rw [if_neg (fun w => z w.2), if_neg z]
  rw [e]
  obtain ⟨d, hd⟩ : ∃ d, N = F 3 i + d := ⟨N - F 3 i, by omega⟩
  rw [hd, KK_ext d (fun j j1 j2 w => by
    have a := h4 j (by omega) (by omega)
    have c := h3 j (by omega) (by omega)
    rw [w] at a
    omega)]
theorem mmaxi_n {a b : Nat} (ha : a < 2 ^ 31) (hb : b < 2 ^ 31) : mmaxi (nI a) (nI b) = nI (max a b) := by
  unfold mmaxi
  by_cases h : a < b
  · rw [if_pos (nI_lt h hb), Nat.max_eq_right (by omega)]
  · rw [if_neg (nI_nlt (by omega) ha), Nat.max_eq_left (by omega)]
def SU (g : List N3) (F : TB) (N k : Nat) (σ0 σ : SS) : Prop := Fr [] [14, 15] [] σ0 σ ∧ ∀ i, i < N → sA σ 14 i = nI (own g (F 0 i) + KP F N i k) ∧ ∃ E, sA σ 15 i = nI E ∧ i + 1 ≤ E ∧ E ≤ F 3 i ∧ ∀ j, k < j → j < N → i < j → F 2 j = i → F 3 j ≤ E
theorem SU.at (h : SB g tp n F 0 N) {i k : Nat} {σ0 σ : SS} (hi : i < N) (hk : k ≤ i) (s : SU g F N k σ0 σ) : sA σ 14 i = nI (F 4 i) ∧ sA σ 15 i = nI (F 3 i) := by
  obtain ⟨s1, E, s2, s3, s4, s5⟩ := s.2 i hi
  rw [s1, s2, KP_fin h hi hk, ← (h.2.1 i (by omega) hi).2.2.2]
  refine ⟨rfl, ?_⟩
  obtain ⟨m, hm⟩ := kids h hi
  cases m with
  | zero =>
    have e : i + 1 = F 3 i := hm.1
    rw [show E = F 3 i by omega]
  | succ m =>
    obtain ⟨k1, k2, k3⟩ := hm.2 m (by omega)
    have e : F 3 (kid F i m) = F 3 i := hm.1
    have := s5 (kid F i m) (by omega) (kid_lt h hi hm (by omega)) k1 k3
    rw [show E = F 3 i by omega]
theorem x_sumUp (hd : GdL g) (h : SB g tp n F 0 N) {σ0 : SS} (hX : XN g (F 0) (F 1) (F 2) N σ0) : ∃ σ', P_X5_sumUp σ0 = some σ' ∧ Fr [] [14, 15] [] σ0 σ' ∧ ∀ i, i < N → sA σ' 14 i = nI (F 4 i) ∧ sA σ' 15 i = nI (F 3 i) := by
  obtain ⟨x1, hN, x3, x4⟩ := hX
  have h0 := h.1.1
  have loop : ∀ k σ fu, k < N → k < fu → SU g F N k σ0 σ → ∃ σ', P_X5_sumUp_j7 fu (nI k) σ = some σ' ∧ SU g F N 0 σ0 σ' := by
    intro k
    induction k with
    | zero =>
      intro σ fu a1 a2 s
      obtain ⟨fu, rfl⟩ : ∃ k, fu = k + 1 := ⟨fu - 1, by omega⟩
      rw [P_X5_sumUp_j7, if_pos (by decide)]
      exact ⟨σ, rfl, s⟩
    | succ k ih =>
      intro σ fu a1 a2 s
      obtain ⟨fu, rfl⟩ : ∃ k, fu = k + 1 := ⟨fu - 1, by omega⟩
      have fr := s.1
      obtain ⟨m1, m2⟩ := s.at h a1 (Nat.le_refl _)
      have a := h.2.2.1 (k + 1) (by omega) a1
      have b := h.2.1 (k + 1) (by omega) a1
      obtain ⟨q1, E, q2, q3, q4, q5⟩ := s.2 (F 2 (k + 1)) (by omega)
      have bq := h.2.1 (F 2 (k + 1)) (by omega) (by omega)
      have e13 : sA σ 13 (k + 1) = nI (F 2 (k + 1)) := by
        rw [fr.2.1 13 (by decide)]
        exact ((x4 (k + 1) a1).2.2.2 (by omega)).1
      unfold P_X5_sumUp_j7 P_X5_parentAt P_X5_sizeAt P_X5_endAt
      rw [if_neg (nI_nle (by omega) (by omega)), if_pos (show (0 : Int32) < nI (k + 1) from nI_lt (a := 0) (by omega) (by omega)), vX6_at_27 (by omega), Option.bind_some, Option.bind_some, e13, vX6_at_28 (by omega), Option.bind_some, Option.bind_some, vX6_at_28 (by omega), Option.bind_some, Option.bind_some, q1, m1, nI_add, vX6_set_28 (by omega), Option.bind_some]
      have s15 : ∀ v, sA (stA σ 14 (nI (F 2 (k + 1))) v) 15 = sA σ 15 := fun v => sA_stne (by decide)
      rw [vX6_at_29 (by omega), Option.bind_some, Option.bind_some, vX6_at_29 (by omega), Option.bind_some, Option.bind_some, s15, q2, m2, mmaxi_n (by omega) (by omega), vX6_set_29 (by omega), Option.bind_some, down1]
      apply ih _ fu (by omega) (by omega)
      refine ⟨fr.tr ((Fr.stA (by decide)).tr (Fr.stA (by decide))), fun i hi => ?_⟩
      obtain ⟨p1, E', p2, p3, p4, p5⟩ := s.2 i hi
      rw [sA_stne (show (14 : Nat) ≠ 15 by decide), sA_stN (by omega), sA_stN (by omega), s15, upd_at, upd_at]
      by_cases e : i = F 2 (k + 1)
      · rw [if_pos e, if_pos e]
        have kp : KP F N i k = KP F N i (k + 1) + F 4 (k + 1) := by
          refine sumN_one (m := k + 1) N a1 ?_ (fun j hj => ?_)
          · rw [if_pos ⟨by omega, by omega, e.symm⟩, if_neg (by omega), Nat.zero_add]
          · by_cases z : k + 1 < j ∧ i < j ∧ F 2 j = i
            · rw [if_pos ⟨by omega, z.2⟩, if_pos z]
            · rw [if_neg (fun w => z ⟨by omega, w.2⟩), if_neg z]
        rw [kp, ← Nat.add_assoc, e]
        refine ⟨rfl, max E (F 3 (k + 1)), rfl, by omega, by omega, fun j j1 j2 j3 j4 => ?_⟩
        by_cases w : j = k + 1
        · subst w; omega
        · have := q5 j (by omega) j2 j3 j4
          omega
      · rw [if_neg e, if_neg e]
        have kp : KP F N i k = KP F N i (k + 1) := by
          apply sumN_congr
          intro j hj
          by_cases z : k + 1 < j ∧ i < j ∧ F 2 j = i
          · rw [if_pos ⟨by omega, z.2⟩, if_pos z]
          · rw [if_neg (fun w => z ⟨by
              have : ¬ j = k + 1 := fun y => by subst y; exact e w.2.2.symm
              omega, w.2⟩), if_neg z]
        rw [kp]
        refine ⟨p1, E', p2, p3, p4, fun j j1 j2 j3 j4 => ?_⟩
        exact p5 j (by
          have : ¬ j = k + 1 := fun y => by subst y; exact e j4.symm
          omega) j2 j3 j4
  have start : SU g F N (N - 1) σ0 σ0 := by
    refine ⟨Fr.rf, fun i hi => ⟨?_, i + 1, (x4 i hi).2.2.1, Nat.le_refl _, (h.2.1 i (by omega) hi).2.1, fun j j1 j2 => by omega⟩⟩
    have : KP F N i (N - 1) = 0 := by
      have : ∀ b, b ≤ N → sumN (fun j => if N - 1 < j ∧ i < j ∧ F 2 j = i then F 4 j else 0) b = 0 := by
        intro b
        induction b with
        | zero => intro _; rfl
        | succ b ih =>
          intro hb
          show sumN _ b + (if N - 1 < b ∧ i < b ∧ F 2 b = i then F 4 b else 0) = 0
          rw [ih (by omega), if_neg (by omega)]
      exact this N (Nat.le_refl _)
    rw [this, Nat.add_zero]
    exact (x4 i hi).2.1
  obtain ⟨σ', r1, r2⟩ := loop (N - 1) σ0 FU (by omega) (by unfold FU; omega) start
  refine ⟨σ', ?_, r2.1, fun i hi => r2.at h hi (by omega)⟩
  unfold P_X5_sumUp
  rw [x1, show nI N - 1 = nI (N - 1) from nI_sub (b := 1) (by omega)]
  exact r1
end
