/-! cuts that are broken; how the class's scan ends -/
def brk (g : List N3) (F : TB) (i : Nat) : Prop := kd g (F 0 i) = 7 ∧ ¬ (fb g (F 0 i) / 32 ≤ F 4 i ∧ F 4 i ≤ fb g (F 0 i) % 32)
def XR (g : List N3) (F : TB) (N : Nat) (σ : SS) : Prop := sI σ 10 = nI N ∧ N ≤ 300 ∧ ∀ i, i < N → sA σ 11 i = nI (F 0 i) ∧ F 0 i < g.length ∧ sA σ 12 i = nI (F 1 i) ∧ sA σ 14 i = nI (F 4 i) ∧ sA σ 15 i = nI (F 3 i) ∧ (0 < i → sA σ 13 i = nI (F 2 i))
theorem XR.frame {g : List N3} {F : TB} {N : Nat} {σ σ' : SS} (h : XR g F N σ) (e1 : sI σ' 10 = sI σ 10) (e2 : ∀ k, 11 ≤ k → k ≤ 15 → sA σ' k = sA σ k) : XR g F N σ' := by
  obtain ⟨h1, h2, h3⟩ := h
  refine ⟨e1.trans h1, h2, fun i hi => ?_⟩
  rw [e2 11 (by decide) (by decide), e2 12 (by decide) (by decide), e2 13 (by decide) (by decide), e2 14 (by decide) (by decide), e2 15 (by decide) (by decide)]
  exact h3 i hi
theorem first_or (P : Nat → Prop) : ∀ N, (∀ i, i < N → ¬ P i) ∨ ∃ i, i < N ∧ P i ∧ ∀ j, j < i → ¬ P j
  | 0 => Or.inl (fun i hi => by omega)
  | N + 1 => by
    rcases first_or P N with h | ⟨i, h1, h2⟩
    · by_cases z : P N
      · exact Or.inr ⟨N, by omega, z, h⟩
      · refine Or.inl (fun i hi => ?_)
        by_cases e : i = N
        · subst e; exact z
        · exact h i (by omega)
    · exact Or.inr ⟨i, by omega, h2⟩
section
variable {g : List N3} {tp : Nat → Nat} {n rt : Nat} {F : TB} {N : Nat} {σx0 σm0 : SS} {run : Option SS}
theorem x_cut_step (hd : GdL g) {σ : SS} (hg : gX' g σ) (h : XR g F N σ) {k fu : Nat} (hk : k < N) (hz : F 4 k ≤ 4500) : (¬ brk g F k → P_X5_firstBrokenCut_j2 σ (fu + 1) (nI k) = P_X5_firstBrokenCut_j2 σ fu (nI (k + 1))) ∧ (brk g F k → P_X5_firstBrokenCut_j2 σ (fu + 1) (nI k) = some (nI k)) := by
  obtain ⟨h1, h2, h3⟩ := h
  obtain ⟨r1, r2, r3, r4, r5, r6⟩ := h3 k hk
  have h16 : F 0 k < 16 := Nat.lt_of_lt_of_le r2 hd.1
  obtain ⟨l0, l1, l2⟩ := gd_lt hd r2
  have e : P_X5_firstBrokenCut_j2 σ (fu + 1) (nI k) = if ¬ nI (kd g (F 0 k)) = 7 then P_X5_firstBrokenCut_j2 σ fu (nI (k + 1)) else if nI (F 4 k) < nI (fb g (F 0 k) / 32) then some (nI k) else if nI (F 4 k) ≤ nI (fb g (F 0 k) % 32) then P_X5_firstBrokenCut_j2 σ fu (nI (k + 1)) else some (nI k) := by
    rw [P_X5_firstBrokenCut_j2]
    unfold P_X5_firstBrokenCut_j61 P_X5_shapeAt P_X5_sizeAt
    rw [h1, if_neg (nI_ge hk (by omega)), vX6_at_25 (by omega), Option.bind_some, Option.bind_some, r1, vX6_at_28 (by omega), Option.bind_some, Option.bind_some, r4, x_kind h16, Option.bind_some, (gX_at hg r2).1, x_low hg hd r2, Option.bind_some, x_high hg hd r2, Option.bind_some, nI_1]
  rw [e]
  by_cases k7 : kd g (F 0 k) = 7
  · rw [if_neg (fun w => w (by rw [k7]; rfl))]
    by_cases a : F 4 k < fb g (F 0 k) / 32
    · rw [if_pos (nI_lt a (by omega))]
      exact ⟨fun w => absurd ⟨k7, by omega⟩ w, fun _ => rfl⟩
    · rw [if_neg (nI_nlt (by omega) (by omega))]
      by_cases b : F 4 k ≤ fb g (F 0 k) % 32
      · rw [if_pos (nI_le b (by omega))]
        exact ⟨fun _ => rfl, fun w => absurd ⟨by omega, b⟩ w.2⟩
      · rw [if_neg (nI_ge (by omega) (by omega))]
        exact ⟨fun w => absurd ⟨k7, by omega⟩ w, fun _ => rfl⟩
  · rw [if_pos (show ¬ nI (kd g (F 0 k)) = 7 from fun w => k7 ((nI_eq (b := 7) (by omega) (by decide)).mp w))]
    exact ⟨fun _ => rfl, fun w => absurd w.1 k7⟩
theorem x_cut (hd : GdL g) {σ : SS} (hg : gX' g σ) (h : XR g F N σ) (hz : ∀ i, i < N → F 4 i ≤ 4500) : ((∀ i, i < N → ¬ brk g F i) → P_X5_firstBrokenCut σ = some (-1)) ∧ ∀ i, i < N → brk g F i → (∀ j, j < i → ¬ brk g F j) → P_X5_firstBrokenCut σ = some (nI i) := by
  have h300 := h.2.1
  constructor
  · intro no
    have : ∀ d k fu, k + d = N → d < fu → P_X5_firstBrokenCut_j2 σ fu (nI k) = some (-1) := by
      intro d
      induction d with
      | zero =>
        intro k fu a1 a2
        obtain ⟨fu, rfl⟩ : ∃ k, fu = k + 1 := ⟨fu - 1, by omega⟩
        rw [P_X5_firstBrokenCut_j2, h.1, if_pos (nI_le (by omega) (by omega))]
      | succ d ih =>
        intro k fu a1 a2
        obtain ⟨fu, rfl⟩ : ∃ k, fu = k + 1 := ⟨fu - 1, by omega⟩
        rw [(x_cut_step hd hg h (by omega) (hz k (by omega))).1 (no k (by omega)), ih (k + 1) fu (by omega) (by omega)]
    exact this N 0 FU (by omega) (by unfold FU; omega)
  · intro i hi bi no
    have : ∀ d k fu, k + d = i → d < fu → P_X5_firstBrokenCut_j2 σ fu (nI k) = some (nI i) := by
      intro d
      induction d with
      | zero =>
        intro k fu a1 a2
        obtain ⟨fu, rfl⟩ : ∃ k, fu = k + 1 := ⟨fu - 1, by omega⟩
        have e : k = i := by omega
        subst e
        exact (x_cut_step hd hg h hi (hz k hi)).2 bi
      | succ d ih =>
        intro k fu a1 a2
        obtain ⟨fu, rfl⟩ : ∃ k, fu = k + 1 := ⟨fu - 1, by omega⟩
        rw [(x_cut_step hd hg h (by omega) (hz k (by omega))).1 (no k (by omega)), ih (k + 1) fu (by omega) (by omega)]
    exact this i 0 FU (by omega) (by unfold FU; omega)
theorem m_cut_step (hd : GdL g) {σ : SS} (hg : gM' g σ) (h6 : sI σ 6 = nI N) (hN : N ≤ 300) (m : SM F 0 N σ) (hl : ∀ i, i < N → F 0 i < g.length) {k fu : Nat} (hk : k < N) (hz : F 4 k ≤ 4500) (hp : F 1 k < 300) : (¬ brk g F k → ∀ x1, P_X11_wrongCut_j4 σ (fu + 1) x1 (nI (k + 1)) = P_X11_wrongCut_j4 σ fu x1 (nI (k + 2))) ∧ (brk g F k → P_X11_wrongCut_j4 σ (fu + 1) (-1) (nI (k + 1)) = P_X11_wrongCut_j4 σ fu (nI (F 1 k)) (nI (k + 2))) ∧ (brk g F k → ∀ q, q ≤ F 1 k → P_X11_wrongCut_j4 σ (fu + 1) (nI q) (nI (k + 1)) = P_X11_wrongCut_j4 σ fu (nI q) (nI (k + 2))) := by
  obtain ⟨r1, r2, r3, -⟩ := m.2.1 k (by omega) hk
  have hy := hl k hk
  have h16 : F 0 k < 16 := Nat.lt_of_lt_of_le hy hd.1
  obtain ⟨l0, l1, l2⟩ := gd_lt hd hy
  obtain ⟨e0, e1, e2⟩ := gM_at hg hy
  have hin : (P_X11_isIn (nI (F 4 k)).toInt64 (nI (fb g (F 0 k) / 32)).toInt64 (nI (fb g (F 0 k) % 32)).toInt64 = some 1 ∧ fb g (F 0 k) / 32 ≤ F 4 k ∧ F 4 k ≤ fb g (F 0 k) % 32) ∨ (P_X11_isIn (nI (F 4 k)).toInt64 (nI (fb g (F 0 k) / 32)).toInt64 (nI (fb g (F 0 k) % 32)).toInt64 = some 0 ∧ ¬ (fb g (F 0 k) / 32 ≤ F 4 k ∧ F 4 k ≤ fb g (F 0 k) % 32)) := by
    have := isIn_c (nI (F 4 k)).toInt64 (nI (fb g (F 0 k) / 32)).toInt64 (nI (fb g (F 0 k) % 32)).toInt64
    rw [Int32.toInt_toInt64, Int32.toInt_toInt64, Int32.toInt_toInt64, nI_toInt (by omega), nI_toInt (by omega), nI_toInt (by omega)] at this
    rcases this with ⟨a, b⟩ | ⟨a, b⟩
    · exact Or.inl ⟨a, by omega⟩
    · exact Or.inr ⟨a, by omega⟩
  have g310 : ∀ {α : Type} {o : Option α}, gI (nI (k + 1)) 310 o = o := gI_nI (by omega) (by decide)
  have g16 : ∀ {α : Type} {o : Option α}, gI (nI (F 0 k)) 16 o = o := gI_nI h16 (by decide)
  have e : ∀ x1, P_X11_wrongCut_j4 σ (fu + 1) x1 (nI (k + 1)) = if ¬ nI (kd g (F 0 k)) = 7 then P_X11_wrongCut_j4 σ fu x1 (nI (k + 2)) else (P_X11_isIn (nI (F 4 k)).toInt64 (nI (fb g (F 0 k) / 32)).toInt64 (nI (fb g (F 0 k) % 32)).toInt64).bind fun v11 => if ¬ v11 = 0 then P_X11_wrongCut_j4 σ fu x1 (nI (k + 2)) else if x1 < 0 then P_X11_wrongCut_j4 σ fu (nI (F 1 k)) (nI (k + 2)) else if x1 ≤ nI (F 1 k) then P_X11_wrongCut_j4 σ fu x1 (nI (k + 2)) else P_X11_wrongCut_j4 σ fu (nI (F 1 k)) (nI (k + 2)) := by
    intro x1
    rw [P_X11_wrongCut_j4]
    unfold P_X11_wrongCut_j77 P_X11_wrongCut_j84
    rw [h6, if_neg (nI_nlt (by omega) (by omega))]
    simp only [g310, ldA_nI (show k + 1 < 2 ^ 31 by omega), r1, r2, r3, g16, ldA_nI (show F 0 k < 2 ^ 31 by omega), e0, e2, nI_1]
    rw [show (32 : Int32) = nI 32 from rfl, nI_mod (by omega) (by decide), nI_div (by omega) (by decide)]
  by_cases k7 : kd g (F 0 k) = 7
  · have n7 : ¬ ¬ nI (kd g (F 0 k)) = 7 := fun w => w (by rw [k7]; rfl)
    rcases hin with ⟨a, b⟩ | ⟨a, b⟩
    · refine ⟨fun _ x1 => ?_, fun w => absurd b w.2, fun w => absurd b w.2⟩
      rw [e, if_neg n7, a, Option.bind_some, in1]
    · refine ⟨fun w => absurd ⟨k7, b⟩ w, fun _ => ?_, fun _ q hq => ?_⟩
      · rw [e, if_neg n7, a, Option.bind_some, in0, if_pos (by decide)]
      · rw [e, if_neg n7, a, Option.bind_some, in0, if_neg (nI_pos (by omega)), if_pos (nI_le hq (by omega))]
  · refine ⟨fun _ x1 => ?_, fun w => absurd w.1 k7, fun w => absurd w.1 k7⟩
    rw [e, if_pos (show ¬ nI (kd g (F 0 k)) = 7 from fun w => k7 ((nI_eq (b := 7) (by omega) (by decide)).mp w))]
theorem m_cut (hd : GdL g) {σ : SS} (hg : gM' g σ) (h6 : sI σ 6 = nI N) (hN : N ≤ 300) (m : SM F 0 N σ) (hl : ∀ i, i < N → F 0 i < g.length) (hz : ∀ i, i < N → F 4 i ≤ 4500) (hp : ∀ i, i < N → F 1 i < 300) (hpl : ∀ i j, i < j → j < N → F 1 i < F 1 j) : ((∀ i, i < N → ¬ brk g F i) → P_X11_wrongCut σ = some (-1)) ∧ ∀ i, i < N → brk g F i → (∀ j, j < i → ¬ brk g F j) → P_X11_wrongCut σ = some (nI (F 1 i)) := by
  have stop : ∀ fu k x1, N ≤ k → k ≤ 300 → P_X11_wrongCut_j4 σ (fu + 1) x1 (nI (k + 1)) = some x1 := by
    intro fu k x1 h1 h2
    rw [P_X11_wrongCut_j4, h6, if_pos (nI_lt (by omega) (by omega))]
  constructor
  · intro no
    have : ∀ d k fu, k + d = N → d < fu → P_X11_wrongCut_j4 σ fu (-1) (nI (k + 1)) = some (-1) := by
      intro d
      induction d with
      | zero =>
        intro k fu a1 a2
        obtain ⟨fu, rfl⟩ : ∃ k, fu = k + 1 := ⟨fu - 1, by omega⟩
        exact stop fu k _ (by omega) (by omega)
      | succ d ih =>
        intro k fu a1 a2
        obtain ⟨fu, rfl⟩ : ∃ k, fu = k + 1 := ⟨fu - 1, by omega⟩
        rw [(m_cut_step hd hg h6 hN m hl (by omega) (hz k (by omega)) (hp k (by omega))).1 (no k (by omega)), ih (k + 1) fu (by omega) (by omega)]
    exact this N 0 FU (by omega) (by unfold FU; omega)
  · intro i hi bi no
    have after : ∀ d k fu, k + d = N → d < fu → i < k → P_X11_wrongCut_j4 σ fu (nI (F 1 i)) (nI (k + 1)) = some (nI (F 1 i)) := by
      intro d
      induction d with
      | zero =>
        intro k fu a1 a2 a3
        obtain ⟨fu, rfl⟩ : ∃ k, fu = k + 1 := ⟨fu - 1, by omega⟩
        exact stop fu k _ (by omega) (by omega)
      | succ d ih =>
        intro k fu a1 a2 a3
        obtain ⟨fu, rfl⟩ : ∃ k, fu = k + 1 := ⟨fu - 1, by omega⟩
        have st := m_cut_step (fu := fu) hd hg h6 hN m hl (show k < N by omega) (hz k (by omega)) (hp k (by omega))
        have pl := hpl i k a3 (by omega)
        by_cases b : brk g F k
        · rw [st.2.2 b _ (by omega), ih (k + 1) fu (by omega) (by omega) (by omega)]
        · rw [st.1 b, ih (k + 1) fu (by omega) (by omega) (by omega)]
    have : ∀ d k fu, k + d = i → d + N < fu → P_X11_wrongCut_j4 σ fu (-1) (nI (k + 1)) = some (nI (F 1 i)) := by
      intro d
      induction d with
      | zero =>
        intro k fu a1 a2
        obtain ⟨fu, rfl⟩ : ∃ k, fu = k + 1 := ⟨fu - 1, by omega⟩
        have e : k = i := by omega
        subst e
        rw [(m_cut_step hd hg h6 hN m hl hi (hz k hi) (hp k hi)).2.1 bi, after (N - (k + 1)) (k + 1) fu (by omega) (by omega) (by omega)]
      | succ d ih =>
        intro k fu a1 a2
        obtain ⟨fu, rfl⟩ : ∃ k, fu = k + 1 := ⟨fu - 1, by omega⟩
        rw [(m_cut_step hd hg h6 hN m hl (by omega) (hz k (by omega)) (hp k (by omega))).1 (no k (by omega)), ih (k + 1) fu (by omega) (by omega)]
    exact this i 0 FU (by omega) (by unfold FU; omega)
/-- the class's scan, when the whole tape was taken -/
theorem c_end (C : PC g tp n rt σx0 σm0) (h : PSx g σx0 F N n [] run) (hs : SB g tp n F 0 N) : ((∀ i, i < N → ¬ brk g F i) → ∃ σf, run = some σf ∧ XR g F N σf ∧ Fr [10, 11, 13, 14] [11, 12, 13, 14, 15, 16] [] σx0 σf ∧ sI σf 13 = (if F 4 0 ≤ 24 then 0 else 4) ∧ sI σf 14 = 0) ∧ ∀ i, i < N → brk g F i → (∀ j, j < i → ¬ brk g F j) → ∃ σf, run = some σf ∧ Fr [10, 11, 13, 14] [11, 12, 13, 14, 15, 16] [] σx0 σf ∧ sI σf 13 = 2 ∧ sI σf 14 = nI (F 1 i) := by
  obtain ⟨hd, hl, hgx, -, hn, e19, -, htp, e12⟩ := C
  obtain ⟨σx, f, hX, ht, hc, hr⟩ := h
  have h300 := hX.2.1
  have hN0 := hs.1.1
  obtain ⟨σ11, s1, s2, s3⟩ := x_sumUp hd hs hX
  have xr : XR g F N σ11 := by
    obtain ⟨x1, x2, x3, x4⟩ := hX
    refine ⟨(s2.1 10 (by decide)).trans x1, x2, fun i hi => ?_⟩
    obtain ⟨a1, a2, a3, a4⟩ := x4 i hi
    rw [s2.2.1 11 (by decide), s2.2.1 12 (by decide), s2.2.1 13 (by decide)]
    exact ⟨(x3 i hi).1, (x3 i hi).2, a1, (s3 i hi).1, (s3 i hi).2, fun z => (a4 z).1⟩
  have f11 : Fr [10, 11, 13, 14] [11, 12, 13, 14, 15, 16] [] σx0 σ11 := (f.mono (by decide) (by decide) (by decide)).tr (s2.mono (by decide) (by decide) (by decide))
  have hg : gX' g σ11 := f11.gX hgx (by decide) (by decide) (by decide) (by decide)
  have hz : ∀ i, i < N → F 4 i ≤ 4500 := fun i hi => sz_lt hd hs h300 hi
  obtain ⟨cA, cB⟩ := x_cut hd hg xr hz
  have fb2 : ∀ a b, Fr [10, 11, 13, 14] [11, 12, 13, 14, 15, 16] [] σx0 (uI (uI σ11 13 a) 14 b) := fun a b => f11.tr ((Fr.uI (by decide)).tr (Fr.uI (by decide)))
  have j59 : run = (P_X5_firstBrokenCut σ11).bind fun v13 => if v13 = (-1) then (P_X5_wholeSize σ11).bind fun v16 => if v16 ≤ 24 then (P_X5_blame 0 0 σ11).bind fun σ19 => some σ19 else (P_X5_blame 4 0 σ11).bind fun σ21 => some σ21 else (P_X5_placeAt v13 σ11).bind fun v23 => (P_X5_blame 2 v23 σ11).bind fun σ25 => some σ25 := by
    rw [← hr, sc_end ((f.1 19 (by decide)).trans e19) (Nat.le_refl _) hn]
    unfold P_X5_scan_j59 P_X0_length_8
    rw [Option.bind_some, (f.1 19 (by decide)).trans e19, if_neg (nI_nlt (Nat.le_refl _) (by omega)), hX.1, if_neg (nI_ne0 hN0 (by omega)), ht, show top [] = -1 from rfl, if_pos rfl, s1, Option.bind_some]
  constructor
  · intro no
    have ws : P_X5_wholeSize σ11 = some (nI (F 4 0)) := by
      unfold P_X5_wholeSize P_X5_sizeAt
      rw [show (0 : Int32) = nI 0 from rfl, vX6_at_28 (by omega), Option.bind_some, Option.bind_some, (s3 0 hN0).1]
    have z0 := hz 0 hN0
    rw [cA no, Option.bind_some, if_pos rfl, ws, Option.bind_some, show (24 : Int32) = nI 24 from rfl] at j59
    unfold P_X5_blame at j59
    by_cases z : F 4 0 ≤ 24
    · rw [if_pos (nI_le z (by decide)), Option.bind_some] at j59
      rw [if_pos z]
      exact ⟨_, j59, xr.frame rfl (fun _ _ _ => rfl), fb2 _ _, rfl, rfl⟩
    · rw [if_neg (nI_ge (by omega) (by omega)), Option.bind_some] at j59
      rw [if_neg z]
      exact ⟨_, j59, xr.frame rfl (fun _ _ _ => rfl), fb2 _ _, rfl, rfl⟩
  · intro i hi bi no
    have pl : P_X5_placeAt (nI i) σ11 = some (nI (F 1 i)) := by
      unfold P_X5_placeAt
      rw [vX6_at_26 (by omega), Option.bind_some, (xr.2.2 i hi).2.2.1]
    rw [cB i hi bi no, Option.bind_some, if_neg (x_neg1 (by omega)), pl, Option.bind_some] at j59
    exact ⟨_, j59, fb2 _ _, rfl, rfl⟩
/-- bytes behind a whole thing -/
theorem c_more (C : PC g tp n rt σx0 σm0) {p : Nat} (h : PSx g σx0 F N p [] run) (hN : 0 < N) (hp : p < n) : BDx σx0 run p := by
  have C' := C
  obtain ⟨hd, hl, hgx, -, hn, e19, -, htp, e12⟩ := C
  obtain ⟨σx, f, hX, ht, hc, hr⟩ := h
  have h300 := hX.2.1
  have tk : P_X5_takes (sA σx 19 p) (nI p) σx = some (0, σx) := by
    unfold P_X5_takes
    rw [ht, show top [] = -1 from rfl, if_neg (fun z => z rfl), hX.1, if_pos (nI_ne0 hN (by omega))]
  rw [sc_step ((f.1 19 (by decide)).trans e19) hn hp, tk, b2_some, if_pos rfl] at hr
  exact c_bad C' f (by omega) (Or.inl hp) hr.symm
end
