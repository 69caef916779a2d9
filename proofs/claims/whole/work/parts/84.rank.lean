/-! numbers of things: what both sides reckon -/
theorem sumN_ge (f : Nat → Nat) {t : Nat} : ∀ m, t < m → f t ≤ sumN f m
  | 0, h => by omega
  | m + 1, h => by
    show f t ≤ sumN f m + f m
    by_cases e : t = m
    · subst e; omega
    · have := sumN_ge f (t := t) m (by omega)
      omega
theorem sumN_le2 (f : Nat → Nat) {t : Nat} : ∀ m, t < m → sumN f t + f t ≤ sumN f m
  | 0, h => by omega
  | m + 1, h => by
    show sumN f t + f t ≤ sumN f m + f m
    by_cases e : t = m
    · subst e; omega
    · have := sumN_le2 f (t := t) m (by omega)
      omega
section
variable {g : List N3} {tp : Nat → Nat} {n : Nat} {F : TB} {N : Nat}
theorem kid_all (h : SB g tp n F 0 N) {i m j : Nat} (hi : i < N) (hk : Kd F i m) (hj : i < j) (hjN : j < N) (hq : F 2 j = i) : ∃ t, t < m ∧ kid F i t = j := by
  have a := (h.2.2.1 j (by omega) hjN).2.2.2.1
  have b := (h.2.1 j (by omega) hjN).2.1
  rw [hq] at a
  have go : ∀ d t, t + d = m → kid F i t ≤ j → ∃ s, s < m ∧ kid F i s = j := by
    intro d
    induction d with
    | zero =>
      intro t h1 h2
      have e : t = m := by omega
      subst e
      rw [hk.1] at h2
      omega
    | succ d ih =>
      intro t h1 h2
      by_cases e : kid F i t = j
      · exact ⟨t, by omega, e⟩
      · obtain ⟨k1, k2, k3⟩ := hk.2 t (by omega)
        apply ih (t + 1) (by omega)
        show F 3 (kid F i t) ≤ j
        rcases Nat.lt_or_ge j (F 3 (kid F i t)) with z | z
        · have := h.2.2.2 (kid F i t) j (by omega) (kid_lt h hi hk (by omega)) (by omega) z
          omega
        · exact z
  exact go m 0 (by omega) hj
theorem q_first (h : SB g tp n F 0 N) {i : Nat} (hi : i < N) (a : i + 1 < F 3 i) : F 2 (i + 1) = i := by
  have b := (h.2.1 i (by omega) hi).2.2.1
  have c := h.2.2.2 i (i + 1) (by omega) hi (by omega) a
  have d := (h.2.2.1 (i + 1) (by omega) (by omega)).2.2.1
  omega
theorem Kd_0 {i : Nat} (h : F 3 i = i + 1) : Kd F i 0 := ⟨h.symm, fun t ht => by omega⟩
theorem Kd_1 (h : SB g tp n F 0 N) {i : Nat} (hi : i < N) (a1 : i + 1 < F 3 i) (a2 : F 3 (i + 1) = F 3 i) : Kd F i 1 := by
  refine ⟨a2, fun t ht => ?_⟩
  have e : t = 0 := by omega
  subst e
  exact ⟨Nat.lt_succ_self i, a1, q_first h hi a1⟩
theorem Kd_2 (h : SB g tp n F 0 N) {i : Nat} (hi : i < N) (a1 : i + 1 < F 3 (i + 1)) (a2 : F 3 (i + 1) < F 3 i) (a3 : F 3 (F 3 (i + 1)) = F 3 i) : Kd F i 2 := by
  refine ⟨a3, fun t ht => ?_⟩
  have b := (h.2.1 i (by omega) hi).2.2.1
  have q := q_first h hi (by omega)
  rcases (show t = 0 ∨ t = 1 by omega) with e | e
  · subst e
    exact ⟨Nat.lt_succ_self i, by show i + 1 < _; omega, q⟩
  · subst e
    have s := (h.2.2.1 (i + 1) (by omega) (by omega)).2.2.2.2
    rw [q] at s
    exact ⟨by show i < F 3 (i + 1); omega, a2, s a2⟩
theorem Kd_u {i m m' : Nat} (h : Kd F i m) (h' : Kd F i m') : m = m' := by
  rcases Nat.lt_trichotomy m m' with z | z | z
  · have := (h'.2 m z).2.1
    rw [h.1] at this
    omega
  · exact z
  · have := (h.2 m' z).2.1
    rw [h'.1] at this
    omega
theorem kid_sz (h : SB g tp n F 0 N) {i m t : Nat} (hi : i < N) (hk : Kd F i m) (ht : t < m) : F 4 (kid F i t) ≤ F 4 i := by
  have := sumN_ge (fun s => F 4 (kid F i s)) m ht
  have e := F4_kid h hi hk
  omega
theorem sz_top (h : SB g tp n F 0 N) : ∀ d j, j ≤ d → j < N → F 4 j ≤ F 4 0 := by
  intro d
  induction d with
  | zero =>
    intro j h1 _
    have e : j = 0 := by omega
    subst e
    omega
  | succ d ih =>
    intro j h1 h2
    by_cases e : j = 0
    · subst e; omega
    · have a := h.2.2.1 j (by omega) h2
      obtain ⟨m, hm⟩ := kids h (show F 2 j < N by omega)
      obtain ⟨t, ht, et⟩ := kid_all h (show F 2 j < N by omega) hm a.2.2.1 h2 rfl
      have := kid_sz h (show F 2 j < N by omega) hm ht
      rw [et] at this
      have := ih (F 2 j) (by omega) (by omega)
      omega
/-- a thing of SIZE 0 is of a SHAPE that can be of SIZE 0 -/
theorem pos_sz (hr : Rdy g) (h : SB g tp n F 0 N) (ks : ∀ i, i < N → KS g tp n F i) (nb : ∀ i, i < N → ¬ brk g F i) : ∀ d i, i < N → N ≤ i + d → F 4 i = 0 → EE g (F 0 i) = true := by
  intro d
  induction d with
  | zero => intro i h1 h2; omega
  | succ d ih =>
    intro i hi h2 hz
    have hx := (h.2.1 i (by omega) hi).1
    have hb := (h.2.1 i (by omega) hi).2.2.1
    obtain ⟨l0, l1, l2⟩ := gd_lt hr.1 hx
    have ok := gd_at hr.1 hx
    obtain ⟨k0, k2, k3, k7, k8, k4⟩ := ks i hi
    obtain ⟨m, hm⟩ := kids h hi
    have e4 := F4_kid h hi hm
    have kz : ∀ t, t < m → F 4 (kid F i t) = 0 := fun t ht => by
      have := kid_sz h hi hm ht
      omega
    have ow : own g (F 0 i) = 0 := by omega
    apply EE_fix hr.1.1 hx
    unfold cbE
    rcases (show kd g (F 0 i) = 0 ∨ kd g (F 0 i) = 1 ∨ kd g (F 0 i) = 2 ∨ kd g (F 0 i) = 3 ∨ kd g (F 0 i) = 4 ∨ kd g (F 0 i) = 5 ∨ kd g (F 0 i) = 6 ∨ kd g (F 0 i) = 7 ∨ kd g (F 0 i) = 8 by omega) with q | q | q | q | q | q | q | q | q
    · unfold own at ow
      rw [if_pos (Or.inl q)] at ow
      unfold okI at ok
      omega
    · rw [if_pos q]
    · obtain ⟨a1, a2, a3, a4, a5⟩ := k2 q
      have e := Kd_u hm (Kd_2 h hi a1 a2 a3)
      subst e
      have z0 := ih (i + 1) (by omega) (by omega) (kz 0 (by omega))
      have z1 := ih (F 3 (i + 1)) (by omega) (by omega) (kz 1 (by omega))
      rw [a4] at z0
      rw [a5] at z1
      rw [if_neg (by omega), if_pos q, z0, z1]
      rfl
    · obtain ⟨a1, a2, a3, a4⟩ := k3 q
      have e := Kd_u hm (Kd_1 h hi a1 a2)
      subst e
      have z0 := ih (i + 1) (by omega) (by omega) (kz 0 (by omega))
      rw [if_neg (by omega), if_neg (by omega), if_pos q]
      rcases a4 with ⟨-, -, a4⟩ | ⟨-, -, a4⟩
      · rw [a4] at z0
        rw [z0]
        rfl
      · rw [a4] at z0
        rw [z0, Bool.or_true]
    · rw [if_neg (by omega), if_neg (by omega), if_neg (by omega), if_pos q]
    · rw [if_neg (by omega), if_neg (by omega), if_neg (by omega), if_neg (by omega), if_pos q]
    · rw [if_neg (by omega), if_neg (by omega), if_neg (by omega), if_neg (by omega), if_neg (by omega), if_pos q]
    · obtain ⟨a1, a2, a3⟩ := k7 q
      have e := Kd_u hm (Kd_1 h hi a1 a2)
      subst e
      have z0 := ih (i + 1) (by omega) (by omega) (kz 0 (by omega))
      rw [a3] at z0
      have nbi := nb i hi
      have low : fb g (F 0 i) / 32 = 0 := by
        rcases Nat.eq_zero_or_pos (fb g (F 0 i) / 32) with w | w
        · exact w
        · exact absurd ⟨q, by omega⟩ nbi
      rw [if_neg (by omega), if_neg (by omega), if_neg (by omega), if_neg (by omega), if_neg (by omega), if_neg (by omega), if_pos q, z0, decide_eq_true low]
      rfl
    · unfold own at ow
      rw [if_pos (Or.inr q)] at ow
      unfold okI at ok
      omega
theorem part_sz (hr : Rdy g) (h : SB g tp n F 0 N) (ks : ∀ i, i < N → KS g tp n F i) (nb : ∀ i, i < N → ¬ brk g F i) {i m t : Nat} (hi : i < N) (h4 : 4 ≤ kd g (F 0 i)) (h6 : kd g (F 0 i) ≤ 6) (hk : Kd F i m) (ht : t < m) : 1 ≤ F 4 (kid F i t) := by
  obtain ⟨k1, k2, k3⟩ := hk.2 t ht
  have hx := (h.2.1 i (by omega) hi).1
  have hs := (ks i hi).2.2.2.2.2 ⟨h4, h6⟩ (kid F i t) k1 k2 k3
  rcases Nat.eq_zero_or_pos (F 4 (kid F i t)) with z | z
  · have := pos_sz hr h ks nb N (kid F i t) (kid_lt h hi hk ht) (by omega) z
    rw [hs, noE_a hr hx h4 h6] at this
    cases this
  · exact z
end
/-! putting in order -/
def lessP (a b : Nat × Nat) : Bool := decide (a.1 < b.1) || (decide (a.1 = b.1) && decide (a.2 < b.2))
def posP (f : Nat → Nat × Nat) (a : Nat × Nat) : Nat → Nat
  | 0 => 0
  | m + 1 => if lessP (f m) a = true then posP f a m else m + 1
def insF {α : Type} (f : Nat → α) (k : Nat) (a : α) : Nat → α := fun j => if j < k then f j else if j = k then a else f (j - 1)
theorem posP_le (f : Nat → Nat × Nat) (a : Nat × Nat) : ∀ m, posP f a m ≤ m
  | 0 => Nat.le_refl _
  | m + 1 => by
    show (if lessP (f m) a = true then posP f a m else m + 1) ≤ m + 1
    have := posP_le f a m
    split <;> omega
theorem posP_congr {f f' : Nat → Nat × Nat} {a : Nat × Nat} : ∀ m, (∀ j, j < m → f j = f' j) → posP f a m = posP f' a m
  | 0, _ => rfl
  | m + 1, h => by
    show (if lessP (f m) a = true then posP f a m else m + 1) = (if lessP (f' m) a = true then posP f' a m else m + 1)
    rw [h m (by omega), posP_congr m (fun j hj => h j (by omega))]
def fs (a : Nat → Nat × Nat) : Nat → Nat → Nat × Nat
  | 0 => fun _ => (0, 0)
  | t + 1 => insF (fs a t) (posP (fs a t) (a t) t) (a t)
theorem fs_mem (a : Nat → Nat × Nat) : ∀ t j, j < t → ∃ s, s < t ∧ fs a t j = a s
  | 0, j, h => by omega
  | t + 1, j, h => by
    show ∃ s, s < t + 1 ∧ insF (fs a t) (posP (fs a t) (a t) t) (a t) j = a s
    have hp := posP_le (fs a t) (a t) t
    unfold insF
    by_cases z : j < posP (fs a t) (a t) t
    · obtain ⟨s, s1, s2⟩ := fs_mem a t j (by omega)
      exact ⟨s, by omega, by rw [if_pos z]; exact s2⟩
    · by_cases y : j = posP (fs a t) (a t) t
      · exact ⟨t, by omega, by rw [if_neg z, if_pos y]⟩
      · obtain ⟨s, s1, s2⟩ := fs_mem a t (j - 1) (by omega)
        exact ⟨s, by omega, by rw [if_neg z, if_neg y]; exact s2⟩
theorem insF_sum (f : Nat → Nat × Nat) (a : Nat × Nat) (k : Nat) : ∀ d, sumN (fun j => (insF f k a j).1) (k + d + 1) = sumN (fun j => (f j).1) (k + d) + a.1
  | 0 => by
    show sumN (fun j => (insF f k a j).1) k + (insF f k a k).1 = _
    rw [sumN_congr (h := fun j => (f j).1) k (fun j hj => by unfold insF; rw [if_pos hj])]
    unfold insF
    rw [if_neg (by omega), if_pos rfl]
    rfl
  | d + 1 => by
    show sumN (fun j => (insF f k a j).1) (k + d + 1) + (insF f k a (k + d + 1)).1 = sumN (fun j => (f j).1) (k + d) + (f (k + d)).1 + a.1
    rw [insF_sum f a k d]
    have : insF f k a (k + d + 1) = f (k + d) := by
      unfold insF
      rw [if_neg (by omega), if_neg (by omega)]
      rfl
    rw [this]
    omega
theorem fs_sum (a : Nat → Nat × Nat) : ∀ t, sumN (fun j => (fs a t j).1) t = sumN (fun j => (a j).1) t
  | 0 => rfl
  | t + 1 => by
    show sumN (fun j => (insF (fs a t) (posP (fs a t) (a t) t) (a t) j).1) (t + 1) = sumN (fun j => (a j).1) t + (a t).1
    have hp := posP_le (fs a t) (a t) t
    obtain ⟨d, hd⟩ : ∃ d, t = posP (fs a t) (a t) t + d := ⟨t - posP (fs a t) (a t) t, by omega⟩
    have := insF_sum (fs a t) (a t) (posP (fs a t) (a t) t) d
    rw [← hd] at this
    rw [this, fs_sum a t]
/-! the number of a thing by its parts -/
def rowV (g : List N3) (c : Nat → Nat → Nat) (x s : Nat) (sz w : Nat → Nat) : Nat → Nat
  | 0 => 0
  | t + 1 => sat (rowV g c x s sz w t + sat (w t * c (tlS g x) (s - sumN sz t - sz t) + sumN (fun j => c (fa g x) j * c (tlS g x) (s - sumN sz t - j)) (sz t)))
def bagV (g : List N3) (b : Nat → Nat → Nat → Nat) (x s : Nat) (f : Nat → Nat × Nat) : Nat → Nat
  | 0 => 0
  | t + 1 => sat (bagV g b x s f t + Wf g b x (s - sumN (fun j => (f j).1) t) (f t).1 (f t).2)
def nv (g : List N3) (c : Nat → Nat → Nat) (b : Nat → Nat → Nat → Nat) (x T s m : Nat) (sz w : Nat → Nat) : Nat := if kd g x = 2 then sat (sat (w 0 * c (tlS g x) (s - sz 0) + sumN (fun j => c (fa g x) j * c (tlS g x) (s - j)) (sz 0)) + w 1) else if kd g x = 3 then (if T = 1 then w 0 else sat (c (fa g x) s + w 0)) else if kd g x = 4 then rowV g c x s sz w m else if kd g x = 5 ∨ kd g x = 6 then bagV g b x s (fs (fun t => (sz t, w t)) m) m else if kd g x = 7 then w 0 else if kd g x = 8 then T else 0
theorem rowV_le (g : List N3) (c : Nat → Nat → Nat) (x s : Nat) (sz w : Nat → Nat) : ∀ m, rowV g c x s sz w m ≤ LIM
  | 0 => Nat.zero_le _
  | m + 1 => sat_le _
theorem bagV_le (g : List N3) (b : Nat → Nat → Nat → Nat) (x s : Nat) (f : Nat → Nat × Nat) : ∀ m, bagV g b x s f m ≤ LIM
  | 0 => Nat.zero_le _
  | m + 1 => sat_le _
theorem rowV_congr {g : List N3} {c : Nat → Nat → Nat} {x s : Nat} {sz w w' : Nat → Nat} : ∀ m, (∀ t, t < m → w t = w' t) → rowV g c x s sz w m = rowV g c x s sz w' m
  | 0, _ => rfl
  | m + 1, h => by
    show sat (rowV g c x s sz w m + sat (w m * _ + _)) = sat (rowV g c x s sz w' m + sat (w' m * _ + _))
    rw [rowV_congr m (fun t ht => h t (by omega)), h m (by omega)]
theorem fs_congr {a a' : Nat → Nat × Nat} : ∀ m, (∀ t, t < m → a t = a' t) → fs a m = fs a' m
  | 0, _ => rfl
  | m + 1, h => by
    show insF (fs a m) (posP (fs a m) (a m) m) (a m) = insF (fs a' m) (posP (fs a' m) (a' m) m) (a' m)
    rw [fs_congr m (fun t ht => h t (by omega)), h m (by omega)]
