/-! how a set is split: its greatest thing, and the rest -/
theorem sumN_shift (f : Nat → Nat) : ∀ n, sumN f (n + 1) = f 0 + sumN (fun k => f (k + 1)) n
  | 0 => by simp [sumN]
  | n + 1 => by
    rw [sumN, sumN_shift f n, sumN]
    omega
theorem sumN_add (f h : Nat → Nat) : ∀ n, sumN (fun k => f k + h k) n = sumN f n + sumN h n
  | 0 => rfl
  | n + 1 => by
    rw [sumN, sumN, sumN, sumN_add f h n]
    omega
theorem sumN_mono {f h : Nat → Nat} : ∀ n, (∀ i, i < n → f i ≤ h i) → sumN f n ≤ sumN h n
  | 0, _ => Nat.le_refl _
  | n + 1, e => Nat.add_le_add (sumN_mono n (fun i hi => e i (by omega))) (e n (by omega))
def fp (ap : Bool) (f : Nat) : Nat := if ap = true then f else f + 1
theorem wy_pas (ap : Bool) (f k : Nat) : wy ap (f + 1) (k + 1) = wy ap f (k + 1) + wy ap (fp ap f) k := by
  unfold wy fp
  cases ap with
  | true =>
    rw [if_pos rfl, if_pos rfl, if_pos rfl, if_pos rfl, bin_s]
    omega
  | false =>
    rw [if_neg (by decide), if_neg (by decide), if_neg (by decide), if_neg (by decide), show f + 1 + (k + 1) - 1 = f + k + 1 by omega, show f + (k + 1) - 1 = f + k by omega, show f + 1 + k - 1 = f + k by omega, bin_s]
    omega
theorem wy_mono (ap : Bool) {c c' : Nat} (h : c ≤ c') (k : Nat) : wy ap c k ≤ wy ap c' k := by
  unfold wy
  split
  · exact bin_mono_n _ _ _ h
  · exact bin_mono_n _ _ _ (by omega)
theorem WB_mono {ap : Bool} {B : Nat → Nat → Nat} {s h c c' : Nat} (hc : c ≤ c') : WB ap B s h c ≤ WB ap B s h c' := sumN_mono _ (fun k _ => Nat.mul_le_mul_right _ (wy_mono ap hc k))
theorem WB_pas {ap : Bool} {B : Nat → Nat → Nat} {s h f : Nat} (hh : 1 ≤ h) (hs : h ≤ s) : WB ap B s h (f + 1) = WB ap B s h f + WB ap B (s - h) h (fp ap f) := by
  have e : s / h = (s - h) / h + 1 := by
    have h1 := Nat.add_div_right (s - h) (show 0 < h by omega)
    rw [Nat.sub_add_cancel hs] at h1
    exact h1
  unfold WB
  rw [sumN_shift, sumN_shift, wy_0, wy_0, e, Nat.add_assoc, ← sumN_add]
  congr 1
  apply sumN_congr
  intro k hk
  rw [wy_pas, Nat.add_mul, show s - h - k * h = s - (k + 1) * h by rw [Nat.succ_mul]; omega]
theorem WB_0 {ap : Bool} {B : Nat → Nat → Nat} {s h f : Nat} (hh : s < h) : WB ap B s h f = B s (h - 1) := by
  unfold WB
  rw [Nat.div_eq_of_lt hh]
  simp [sumN, wy_0]
theorem WB_z {ap : Bool} {B : Nat → Nat → Nat} {s h : Nat} : WB ap B s h 0 = B s (h - 1) := by
  unfold WB
  rw [sumN_shift, wy_0, Nat.one_mul, Nat.zero_mul, Nat.sub_zero]
  have : sumN (fun k => wy ap 0 (k + 1) * B (s - (k + 1) * h) (h - 1)) (s / h) = 0 := by
    have z : ∀ n, sumN (fun k => wy ap 0 (k + 1) * B (s - (k + 1) * h) (h - 1)) n = 0 := by
      intro n
      induction n with
      | zero => rfl
      | succ n ih =>
        have e : wy ap 0 (n + 1) = 0 := by
          unfold wy
          split
          · exact bin_gt _ _ (by omega)
          · exact bin_gt _ _ (by omega)
        rw [sumN, ih, e, Nat.zero_mul]
    exact z _
  omega
theorem WB_ge {ap : Bool} {B : Nat → Nat → Nat} {s h f : Nat} : B s (h - 1) ≤ WB ap B s h f := by
  rw [← WB_z (ap := ap) (B := B) (s := s) (h := h)]
  exact WB_mono (Nat.zero_le _)
def Full (g : List N3) (c : Nat → Nat → Nat) (b : Nat → Nat → Nat → Nat) : Prop := Dn g c b (fun _ _ => True) ∧ (∀ x, x < 16 → ∀ s, s ≤ 24 → c x s ≤ LIM) ∧ ∀ x, x < g.length → isB56 g x → ∀ s, s ≤ 24 → ∀ t, t ≤ s → b x s t ≤ LIM
theorem Full.b_up {g : List N3} {c : Nat → Nat → Nat} {b : Nat → Nat → Nat → Nat} (h : Full g c b) {x s t : Nat} (hx : x < g.length) (hB : isB56 g x) (hs : s ≤ 24) (h1 : 1 ≤ t) (ht : t ≤ s) : b x s t = sat (WB (apt g x) (BB b x) s t (c (fa g x) t)) := by
  have e := (h.1.2 x hx s hs trivial).2 hB t ht
  unfold RB at e
  rw [if_neg (by omega)] at e
  exact e
theorem Full.b_0 {g : List N3} {c : Nat → Nat → Nat} {b : Nat → Nat → Nat → Nat} (h : Full g c b) {x s : Nat} (hx : x < g.length) (hB : isB56 g x) (hs : s ≤ 24) (h1 : 1 ≤ s) : b x s 0 = 0 := by
  have e := (h.1.2 x hx s hs trivial).2 hB 0 (by omega)
  unfold RB at e
  rw [if_pos rfl, if_neg (by omega)] at e
  exact e
theorem Full.c_56 {g : List N3} {c : Nat → Nat → Nat} {b : Nat → Nat → Nat → Nat} (h : Full g c b) {x s : Nat} (hx : x < g.length) (hB : isB56 g x) (hs : s ≤ 24) : c x s = b x s s := by
  have e := (h.1.2 x hx s hs trivial).1
  rw [e]
  unfold Rv
  rcases hB with k | k <;> simp [k]
theorem Full.b_mono {g : List N3} {c : Nat → Nat → Nat} {b : Nat → Nat → Nat → Nat} (h : Full g c b) {x s : Nat} (hx : x < g.length) (hB : isB56 g x) (hs : s ≤ 24) : ∀ (d t : Nat), t + d ≤ s → b x s t ≤ b x s (t + d)
  | 0, _, _ => Nat.le_refl _
  | d + 1, t, hd => by
    have h1 := Full.b_mono h hx hB hs d t (by omega)
    have h2 : b x s (t + d) ≤ b x s (t + d + 1) := by
      rw [h.b_up hx hB hs (show 1 ≤ t + d + 1 by omega) (by omega)]
      have h3 := WB_ge (ap := apt g x) (B := BB b x) (s := s) (h := t + d + 1) (f := c (fa g x) (t + d + 1))
      have h4 : BB b x s (t + d + 1 - 1) = b x s (t + d) := by
        unfold BB
        rw [show min (t + d + 1 - 1) s = t + d by omega]
      rw [h4] at h3
      have h5 := sat_mono h3
      rw [sat_id (h.2.2 x hx hB s hs (t + d) (by omega))] at h5
      exact h5
    exact Nat.le_trans h1 h2
/-- W: sets of size s below the fth thing of size h -/
def Wf (g : List N3) (b : Nat → Nat → Nat → Nat) (x s h f : Nat) : Nat := sat (WB (apt g x) (BB b x) s h f)
theorem Wf_mono {g : List N3} {b : Nat → Nat → Nat → Nat} {x s h f f' : Nat} (hf : f ≤ f') : Wf g b x s h f ≤ Wf g b x s h f' := sat_mono (WB_mono hf)
/-- the step function crosses once -/
theorem cross (W : Nat → Nat) (num : Nat) : ∀ C, W 0 ≤ num → num < W C → ∃ f, f < C ∧ W f ≤ num ∧ num < W (f + 1)
  | 0, h0, hC => absurd hC (by omega)
  | C + 1, h0, hC => by
    by_cases e : num < W C
    · obtain ⟨f, h1, h2, h3⟩ := cross W num C h0 e
      exact ⟨f, by omega, h2, h3⟩
    · exact ⟨C, by omega, by omega, hC⟩
theorem cross_u {W : Nat → Nat} (hm : ∀ f f', f ≤ f' → W f ≤ W f') {num f f' : Nat} (h1 : W f ≤ num) (h2 : num < W (f + 1)) (h3 : W f' ≤ num) (h4 : num < W (f' + 1)) : f = f' := by
  rcases Nat.lt_trichotomy f f' with z | z | z
  · have := hm (f + 1) f' (by omega); omega
  · exact z
  · have := hm (f' + 1) f (by omega); omega
/-- where a set's number lies: the greatest thing's size and number; what is left is a set's number again -/
theorem bag_split {g : List N3} {c : Nat → Nat → Nat} {b : Nat → Nat → Nat → Nat} (F : Full g c b) {x s h num : Nat} (hx : x < g.length) (hB : isB56 g x) (hs : s ≤ 24) (h1 : 1 ≤ h) (hh : h ≤ s) (hlt : num < b x s h) (hge : h = 1 ∨ b x s (h - 1) ≤ num) : ∃ f, f < c (fa g x) h ∧ Wf g b x s h f ≤ num ∧ num < Wf g b x s h (f + 1) ∧ num - Wf g b x s h f < b x (s - h) (s - h) := by
  have e1 := F.b_up hx hB hs h1 hh
  have w0 : Wf g b x s h 0 ≤ num := by
    unfold Wf
    rw [WB_z]
    unfold BB
    rw [show min (h - 1) s = h - 1 by omega, sat_id (F.2.2 x hx hB s hs (h - 1) (by omega))]
    rcases hge with z | z
    · subst z
      rw [F.b_0 hx hB hs (by omega)]
      omega
    · exact z
  obtain ⟨f, f1, f2, f3⟩ := cross (Wf g b x s h) num (c (fa g x) h) w0 (by unfold Wf; rw [← e1]; exact hlt)
  refine ⟨f, f1, f2, f3, ?_⟩
  have hL : num < LIM := Nat.lt_of_lt_of_le f3 (sat_le _)
  have u1 : WB (apt g x) (BB b x) s h f < LIM := by
    apply Classical.byContradiction
    intro z
    unfold Wf at f2
    rw [sat_ge (by omega)] at f2
    omega
  have eW : Wf g b x s h f = WB (apt g x) (BB b x) s h f := sat_lt u1
  have u2 : num < WB (apt g x) (BB b x) s h (f + 1) := by
    unfold Wf sat at f3
    split at f3 <;> omega
  rw [WB_pas h1 hh] at u2
  have u3 : num - Wf g b x s h f < WB (apt g x) (BB b x) (s - h) h (fp (apt g x) f) := by omega
  by_cases z : s - h < h
  · rw [WB_0 z] at u3
    unfold BB at u3
    rw [show min (h - 1) (s - h) = s - h by omega] at u3
    exact u3
  · have u4 : fp (apt g x) f ≤ c (fa g x) h := by unfold fp; split <;> omega
    have u5 : num - Wf g b x s h f < b x (s - h) h := by
      rw [F.b_up hx hB (by omega) h1 (by omega)]
      have := WB_mono (ap := apt g x) (B := BB b x) (s := s - h) (h := h) u4
      unfold sat
      split <;> omega
    have u6 := F.b_mono hx hB (show s - h ≤ 24 by omega) (s - h - h) h (by omega)
    rw [show h + (s - h - h) = s - h by omega] at u6
    omega
