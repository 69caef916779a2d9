/-! ranking: both sides node by node -/
section
variable {g : List N3} {c : Nat → Nat → Nat} {b : Nat → Nat → Nat → Nat} {tp : Nat → Nat} {n : Nat} {F : TB} {N : Nat} {W : Nat → Nat} {B : Nat → Bool} {U : Nat → Option Nat} {i m t : Nat}
theorem or_iff1 {a b : Bool} : (a || b) = true ↔ a = true ∨ b = true := by cases a <;> cases b <;> decide
theorem mtB_iff : ∀ s, mtB F W B i t s = true ↔ ∃ r, r < s ∧ cnd F W B i t r = true
  | 0 => ⟨fun h => (by cases h), fun ⟨r, r1, _⟩ => by omega⟩
  | s + 1 => by
    show (mtB F W B i t s || cnd F W B i t s) = true ↔ _
    rw [or_iff1, mtB_iff s]
    constructor
    · rintro (⟨r, r1, r2⟩ | h)
      · exact ⟨r, by omega, r2⟩
      · exact ⟨s, by omega, h⟩
    · rintro ⟨r, r1, r2⟩
      by_cases e : r = s
      · subst e; exact Or.inr r2
      · exact Or.inl ⟨r, by omega, r2⟩
theorem cnd_iff {s : Nat} : cnd F W B i t s = true ↔ B (kid F i t) = false ∧ B (kid F i s) = false ∧ W (kid F i t) < LIM ∧ F 4 (kid F i t) = F 4 (kid F i s) ∧ W (kid F i t) = W (kid F i s) := by
  unfold cnd
  rw [Bool.and_eq_true, Bool.and_eq_true, Bool.and_eq_true, Bool.and_eq_true, decide_eq_true_iff, decide_eq_true_iff, decide_eq_true_iff, Bool.not_eq_true', Bool.not_eq_true']
theorem anyT_iff : ∀ m, anyT F W B i m = true ↔ ∃ t, t < m ∧ mtB F W B i t t = true
  | 0 => ⟨fun h => (by cases h), fun ⟨r, r1, _⟩ => by omega⟩
  | m + 1 => by
    show (anyT F W B i m || mtB F W B i m m) = true ↔ _
    rw [or_iff1, anyT_iff m]
    constructor
    · rintro (⟨r, r1, r2⟩ | h)
      · exact ⟨r, by omega, r2⟩
      · exact ⟨m, by omega, h⟩
    · rintro ⟨r, r1, r2⟩
      by_cases e : r = m
      · subst e; exact Or.inr r2
      · exact Or.inl ⟨r, by omega, r2⟩
theorem anyB_iff : ∀ m, anyB F B i m = true ↔ ∃ t, t < m ∧ B (kid F i t) = true
  | 0 => ⟨fun h => (by cases h), fun ⟨r, r1, _⟩ => by omega⟩
  | m + 1 => by
    show (anyB F B i m || B (kid F i m)) = true ↔ _
    rw [or_iff1, anyB_iff m]
    constructor
    · rintro (⟨r, r1, r2⟩ | h)
      · exact ⟨r, by omega, r2⟩
      · exact ⟨m, by omega, h⟩
    · rintro ⟨r, r1, r2⟩
      by_cases e : r = m
      · subst e; exact Or.inr r2
      · exact Or.inl ⟨r, by omega, r2⟩
theorem anyM_iff : ∀ m, anyM F W B i m = true ↔ ∃ t, t < m ∧ B (kid F i t) = false ∧ LIM ≤ W (kid F i t)
  | 0 => ⟨fun h => (by cases h), fun ⟨r, r1, _⟩ => by omega⟩
  | m + 1 => by
    show (anyM F W B i m || (!B (kid F i m) && decide (LIM ≤ W (kid F i m)))) = true ↔ _
    rw [or_iff1, anyM_iff m, Bool.and_eq_true, decide_eq_true_iff, Bool.not_eq_true']
    constructor
    · rintro (⟨r, r1, r2⟩ | h)
      · exact ⟨r, by omega, r2⟩
      · exact ⟨m, by omega, h⟩
    · rintro ⟨r, r1, r2⟩
      by_cases e : r = m
      · subst e; exact Or.inr r2
      · exact Or.inl ⟨r, by omega, r2⟩
theorem bool_f {a : Bool} (h : ¬ a = true) : a = false := by cases a <;> simp_all
def qOK (q : Int32) : Prop := q = -1 ∨ ∃ r, r < 300 ∧ q = nI r
theorem amin_val {q : Int32} {p : Nat} (hq : qOK q) (hp : p < 300) : ∃ r, r ≤ p ∧ amin q p = nI r := by
  unfold amin
  rcases hq with rfl | ⟨r, r1, rfl⟩
  · exact ⟨p, Nat.le_refl _, if_pos (by decide)⟩
  · rw [if_neg (nI_pos (by omega))]
    by_cases z : r ≤ p
    · exact ⟨r, z, if_pos (nI_le z (by omega))⟩
    · exact ⟨p, Nat.le_refl _, if_neg (nI_ge (by omega) (by omega))⟩
theorem tmin_amin {q : Int32} {p : Nat} (hq : qOK q) (hp : p < 300) : tmin q p = amin q p := by
  unfold tmin amin
  rcases hq with rfl | ⟨r, r1, rfl⟩
  · rw [if_pos rfl, if_pos (by decide)]
  · rw [if_neg (x_neg1 (by omega)), if_neg (nI_pos (by omega))]
    unfold mmini
    by_cases z : r ≤ p
    · rw [if_neg (nI_nlt z (by omega)), if_pos (nI_le z (by omega))]
    · rw [if_pos (nI_lt (by omega) (by omega)), if_neg (nI_ge (by omega) (by omega))]
theorem am_none {q : Int32} : ∀ m, (∀ t, t < m → mtB F W B i t t = false) → am F W B i q m = q
  | 0, _ => rfl
  | m + 1, h => by
    show (if mtB F W B i m m = true then _ else am F W B i q m) = q
    rw [h m (by omega), if_neg (by decide), am_none m (fun t ht => h t (by omega))]
theorem am_first {q : Int32} (hq : qOK q) {t0 : Nat} (ht0 : t0 < m) (tw : mtB F W B i t0 t0 = true) (no : ∀ s, s < t0 → mtB F W B i s s = false) (pl : ∀ t, t0 < t → t < m → F 1 (kid F i t0) < F 1 (kid F i t) ∧ F 1 (kid F i t) < 300) (p0 : F 1 (kid F i t0) < 300) : ∀ d, t0 + 1 + d ≤ m → am F W B i q (t0 + 1 + d) = amin q (F 1 (kid F i t0))
  | 0, _ => by
    show (if mtB F W B i t0 t0 = true then amin (am F W B i q t0) (F 1 (kid F i t0)) else _) = _
    rw [if_pos tw, am_none t0 no]
  | d + 1, h => by
    have ih := am_first hq ht0 tw no pl p0 d (by omega)
    show (if mtB F W B i (t0 + 1 + d) (t0 + 1 + d) = true then amin (am F W B i q (t0 + 1 + d)) (F 1 (kid F i (t0 + 1 + d))) else am F W B i q (t0 + 1 + d)) = _
    rw [ih]
    obtain ⟨r, r1, r2⟩ := amin_val hq p0
    have := pl (t0 + 1 + d) (by omega) (by omega)
    split
    · rw [r2]
      unfold amin
      rw [if_neg (nI_pos (by omega)), if_pos (nI_le (by omega) (by omega))]
    · rfl
/-! numbers do not pass the limit, and speak of the parts alone -/
theorem nv_le {x T s : Nat} {sz w : Nat → Nat} (hw : ∀ t, t < m → w t ≤ LIM) (hm : kd g x = 3 ∨ kd g x = 7 → 0 < m) (hT : kd g x = 8 → T ≤ LIM) : nv g c b x T s m sz w ≤ LIM := by
  unfold nv
  split
  · exact sat_le _
  · split
    · split
      · exact hw 0 (hm (Or.inl ‹_›))
      · exact sat_le _
    · split
      · exact rowV_le _ _ _ _ _ _ _
      · split
        · exact bagV_le _ _ _ _ _ _
        · split
          · exact hw 0 (hm (Or.inr ‹_›))
          · split
            · exact hT ‹_›
            · exact Nat.zero_le _
theorem nv_congr {x T s : Nat} {sz w w' : Nat → Nat} (hw : ∀ t, t < m → w t = w' t) (hm : kd g x = 3 ∨ kd g x = 7 → 0 < m) (hm2 : kd g x = 2 → 1 < m) : nv g c b x T s m sz w = nv g c b x T s m sz w' := by
  unfold nv
  by_cases k2 : kd g x = 2
  · rw [if_pos k2, if_pos k2, hw 0 (by have := hm2 k2; omega), hw 1 (hm2 k2)]
  · rw [if_neg k2, if_neg k2]
    by_cases k3 : kd g x = 3
    · rw [if_pos k3, if_pos k3, hw 0 (hm (Or.inl k3))]
    · rw [if_neg k3, if_neg k3, rowV_congr m hw, fs_congr (a := fun t => (sz t, w t)) (a' := fun t => (sz t, w' t)) m (fun t ht => by rw [hw t ht])]
      by_cases k7 : kd g x = 7
      · rw [if_pos k7, if_pos k7, hw 0 (hm (Or.inr k7))]
      · rw [if_neg k7, if_neg k7]
def big (g : List N3) (F : TB) (W : Nat → Nat) (B : Nat → Bool) (j : Nat) : Prop := 0 < j ∧ isB56 g (F 0 (F 2 j)) ∧ B j = false ∧ LIM ≤ W j
def NRM (g : List N3) (F : TB) (N : Nat) (W : Nat → Nat) (B : Nat → Bool) (U : Nat → Option Nat) (k : Nat) (σx σm : SS) : Prop := sI σx 17 = 0 ∧ sI σm 10 = 0 ∧ (∀ j, k ≤ j → j < N → ¬ big g F W B j) ∧ (∀ j, k ≤ j → j < N → U j = if B j = true then none else some (W j)) ∧ sI σx 18 = sI σm 9 ∧ qOK (sI σm 9) ∧ ∀ j, k ≤ j → j < N → B j = true → ¬ sI σm 9 = -1
def MNY (g : List N3) (F : TB) (N : Nat) (W : Nat → Nat) (B : Nat → Bool) (k : Nat) (σx σm : SS) : Prop := sI σx 17 = 1 ∧ ∃ mb, sI σm 10 = b2i mb ∧ (mb = true ∨ ∃ j, k ≤ j ∧ j < N ∧ big g F W B j ∧ F 2 j < k)
def upO {α : Type} (f : Nat → α) (k : Nat) (v : α) : Nat → α := fun j => if j = k then v else f j
theorem upO_eq {α : Type} (f : Nat → α) (k : Nat) (v : α) : upO f k v k = v := if_pos rfl
theorem upO_ne {α : Type} {f : Nat → α} {k j : Nat} {v : α} (h : ¬ j = k) : upO f k v j = f j := if_neg h
theorem XI.put {σ : SS} {r : Option Nat} (h : XI g c b tp n F U N (i + 1) σ) (hi : i < N) (hr : ∀ v, r = some v → v ≤ LIM) : XI g c b tp n F (upO U i r) N i (stL σ 3 (nI i) (uv r)) := by
  obtain ⟨h1, h2, h3, h4, h5, h6⟩ := h
  have hN := h3.2.1
  have f : Fr [] [] [3] σ (stL σ 3 (nI i) (uv r)) := Fr.stL (by decide)
  refine ⟨f.gX h1 (by decide) (by decide) (by decide) (by decide), h2.frame (f.2.2 0 (by decide)) (f.2.2 1 (by decide)), h3.frame rfl (fun _ _ _ => rfl), fun j j1 j2 => ?_, h5, h6⟩
  rw [sL_stN (by omega), updL_at]
  by_cases e : j = i
  · rw [if_pos e, e, upO_eq]; exact ⟨rfl, hr⟩
  · rw [if_neg e, upO_ne e]; exact h4 j (by omega) j2
theorem MI.put {σ σ' : SS} {v : Nat} {d : Bool} (h : MI g c b F W B N (i + 1) σ) (f : Fr [9, 10] [15, 16] [3] σ σ') (hv : v ≤ LIM) (e3 : ∀ j, sL σ' 3 j = if j = i + 1 then lN v else sL σ 3 j) (e15 : ∀ j, sA σ' 15 j = if j = i + 1 then b2i d else sA σ 15 j) : MI g c b F (upO W i v) (upO B i d) N i σ' := by
  obtain ⟨h1, h2, h3, h4⟩ := h
  refine ⟨f.gM h1 (by decide) (by decide) (by decide) (by decide), h2.frame (f.2.2 0 (by decide)) (f.2.2 1 (by decide)), ?_, fun j j1 j2 => ?_⟩
  · obtain ⟨a1, a2, a3⟩ := h3
    refine ⟨by rw [f.2.1 14 (by decide)]; exact a1, fun j j1 j2 => ?_, fun j j1 j2 => by rw [f.2.1 14 (by decide)]; exact a3 j j1 j2⟩
    unfold RW
    rw [f.2.1 10 (by decide), f.2.1 11 (by decide), f.2.1 12 (by decide), f.2.1 13 (by decide), f.2.2 2 (by decide)]
    exact a2 j j1 j2
  · rw [e3, e15]
    by_cases e : j = i
    · subst e
      rw [if_pos rfl, if_pos rfl, upO_eq, upO_eq]; exact ⟨rfl, hv, rfl⟩
    · rw [if_neg (by omega), if_neg (by omega), upO_ne e, upO_ne e]; exact h4 j (by omega) j2
/-- the class's step, once the number is known -/
theorem x_rankStep (hd : GdL g) (hs : SB g tp n F 0 N) {σ σ4 : SS} {r : Option Nat} (hi : i < N) (hn : P_X4_numberOf (nI i) σ = some (uv r, σ4)) (X : XI g c b tp n F (upO U i r) N i (stL σ4 3 (nI i) (uv r))) : ((0 < i ∧ isB56 g (F 0 (F 2 i)) ∧ ∃ v, r = some v ∧ LIM ≤ v) → ∀ fu, P_X4_rank_j20 (fu + 1) (nI i) σ = P_X4_rank_j20 fu (nI i + (-1)) (uI (stL σ4 3 (nI i) (uv r)) 17 1)) ∧ (¬ (0 < i ∧ isB56 g (F 0 (F 2 i)) ∧ ∃ v, r = some v ∧ LIM ≤ v) → ∀ fu, P_X4_rank_j20 (fu + 1) (nI i) σ = P_X4_rank_j20 fu (nI i + (-1)) (stL σ4 3 (nI i) (uv r))) := by
  have hL := LIM_lt
  obtain ⟨h1, h2, h3, h4, h5, h6⟩ := X
  have hN := h3.2.1
  have nA := x_numAt h4 hN (Nat.le_refl i) hi
  rw [upO_eq] at nA
  have bd := (h4 i (Nat.le_refl _) hi).2
  rw [upO_eq] at bd
  have bigI : uv r < 10000000000000000 ↔ ¬ ∃ v, r = some v ∧ LIM ≤ v := by
    rw [L_lit]
    cases r with
    | none => exact ⟨fun _ ⟨v, e, _⟩ => (by cases e), fun _ => by decide⟩
    | some v =>
      have hv := bd v rfl
      show lN v < lN LIM ↔ _
      rw [lN_ltB (by omega) (by omega)]
      exact ⟨fun w ⟨v', e, e2⟩ => (by cases e; omega), fun w => by
        rcases Nat.lt_or_ge v LIM with z | z
        · exact z
        · exact absurd ⟨v, rfl, z⟩ w⟩
  have e : ∀ fu, P_X4_rank_j20 (fu + 1) (nI i) σ = if nI i ≤ 0 then P_X4_rank_j20 fu (nI i + (-1)) (stL σ4 3 (nI i) (uv r)) else (P_X5_parentAt (nI i) (stL σ4 3 (nI i) (uv r))).bind fun v9 => (P_X5_shapeAt v9 (stL σ4 3 (nI i) (uv r))).bind fun v11 => (P_X1_isBag v11 (stL σ4 3 (nI i) (uv r))).bind fun v13 => if v13 = 0 then P_X4_rank_j20 fu (nI i + (-1)) (stL σ4 3 (nI i) (uv r)) else if uv r < 10000000000000000 then P_X4_rank_j20 fu (nI i + (-1)) (stL σ4 3 (nI i) (uv r)) else P_X4_rank_j20 fu (nI i + (-1)) (uI (stL σ4 3 (nI i) (uv r)) 17 1) := by
    intro fu
    rw [P_X4_rank_j20, if_neg (nI_pos (by omega)), hn, b2_some, vX6_set__31 (by omega), Option.bind_some]
    unfold P_X4_rank_j70 P_X4_rank_j71 P_X4_rank_j93
    rw [ii0, nA, Option.bind_some, ii1]
  by_cases z : 0 < i
  · have a := hs.2.2.1 i z hi
    have q16 := (h3.2.2 (F 2 i) (by omega)).2.1
    have pa : P_X5_parentAt (nI i) (stL σ4 3 (nI i) (uv r)) = some (nI (F 2 i)) := by
      unfold P_X5_parentAt
      rw [if_pos (show (0 : Int32) < nI i from nI_lt (a := 0) z (by omega)), vX6_at_27 (by omega), Option.bind_some, (h3.2.2 i hi).2.2.2.2.2 z]
    have sh : P_X5_shapeAt (nI (F 2 i)) (stL σ4 3 (nI i) (uv r)) = some (nI (F 0 (F 2 i))) := by
      unfold P_X5_shapeAt
      rw [vX6_at_25 (by omega), Option.bind_some, (h3.2.2 (F 2 i) (by omega)).1]
    have e' : ∀ fu, P_X4_rank_j20 (fu + 1) (nI i) σ = if b2i (decide (kd g (F 0 (F 2 i)) = 5 ∨ kd g (F 0 (F 2 i)) = 6)) = 0 then P_X4_rank_j20 fu (nI i + (-1)) (stL σ4 3 (nI i) (uv r)) else if uv r < 10000000000000000 then P_X4_rank_j20 fu (nI i + (-1)) (stL σ4 3 (nI i) (uv r)) else P_X4_rank_j20 fu (nI i + (-1)) (uI (stL σ4 3 (nI i) (uv r)) 17 1) := by
      intro fu
      rw [e, if_neg (nI_nle z (by omega)), pa, Option.bind_some, sh, Option.bind_some, x_isBag h1 hd q16, Option.bind_some]
    constructor
    · rintro ⟨-, y2, y3⟩ fu
      rw [e', decide_eq_true (show kd g (F 0 (F 2 i)) = 5 ∨ kd g (F 0 (F 2 i)) = 6 from y2), b2i_t, ii1, if_neg (fun w => bigI.mp w y3)]
    · intro no fu
      rw [e']
      by_cases y2 : kd g (F 0 (F 2 i)) = 5 ∨ kd g (F 0 (F 2 i)) = 6
      · rw [decide_eq_true y2, b2i_t, ii1, if_pos (bigI.mpr (fun w => no ⟨z, y2, w⟩))]
      · rw [decide_eq_false y2, b2i_f, ii0]
  · have e0 : i = 0 := by omega
    refine ⟨fun w => absurd w.1 z, fun _ fu => ?_⟩
    rw [e, if_pos (by rw [e0]; decide)]
end
