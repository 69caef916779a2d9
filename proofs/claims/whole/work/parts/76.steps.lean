/-! the two parses side by side: the class's steps. TB: 0 shape, 1 place, 2 parent, 3 end, 4 size, 5 told -/
abbrev TB : Type := Nat → Nat → Nat
abbrev FXr : SS → SS → Prop := Fr [10, 11] [11, 12, 13, 14, 15, 16] []
abbrev FMr : SS → SS → Prop := Fr [6, 7, 8] [10, 11, 12, 13, 14] [2]
def PC (g : List N3) (tp : Nat → Nat) (n rt : Nat) (σx0 σm0 : SS) : Prop := GdL g ∧ NoLack g ∧ gX' g σx0 ∧ gM' g σm0 ∧ n ≤ 300 ∧ sI σx0 19 = nI n ∧ sI σm0 3 = nI n ∧ (∀ i, i < n → sA σx0 19 i = nI (tp i) ∧ sA σm0 4 i = nI (tp i) ∧ tp i < 256) ∧ sI σx0 12 = nI rt
def PSx (g : List N3) (σx0 : SS) (F : TB) (N p : Nat) (ch : Ch) (run : Option SS) : Prop := ∃ σx, FXr σx0 σx ∧ XN g (F 0) (F 1) (F 2) N σx ∧ sI σx 11 = top ch ∧ ChP ch N σx ∧ Sc p σx = run
theorem PSx.congr {g : List N3} {σx0 : SS} {F F' : TB} {N p : Nat} {ch : Ch} {run : Option SS} (h : PSx g σx0 F N p ch run) (e0 : F' 0 = F 0) (e1 : F' 1 = F 1) (e2 : F' 2 = F 2) : PSx g σx0 F' N p ch run := by
  unfold PSx
  rw [e0, e1, e2]
  exact h
def BDx (σx0 : SS) (run : Option SS) (q : Nat) : Prop := ∃ σf, run = some σf ∧ Fr [10, 11, 13, 14] [11, 12, 13, 14, 15, 16] [] σx0 σf ∧ sI σf 13 = 1 ∧ sI σf 14 = nI q
def nwF (F : TB) (N x p q s t : Nat) : TB := fun k => if k = 0 then upN (F 0) N x else if k = 1 then upN (F 1) N p else if k = 2 then upN (F 2) N q else if k = 3 then upN (F 3) N (N + 1) else if k = 4 then upN (F 4) N s else if k = 5 then upN (F 5) N t else F k
def Abt (g : List N3) (tp : Nat → Nat) (n rt : Nat) (F : TB) (N p : Nat) (ch : Ch) (x : Nat) : Prop := match ch with
  | [] => N = 0 ∧ x = rt
  | (i, k) :: _ => (kd g (F 0 i) = 2 ∧ ((k = 0 ∧ x = fa g (F 0 i)) ∨ (k = 1 ∧ x = fb g (F 0 i)))) ∨ (kd g (F 0 i) = 3 ∧ F 1 i < n ∧ x = if tp (F 1 i) = 49 then fa g (F 0 i) else fb g (F 0 i)) ∨ (kd g (F 0 i) = 7 ∧ x = fa g (F 0 i)) ∨ (4 ≤ kd g (F 0 i) ∧ kd g (F 0 i) ≤ 6 ∧ x = fa g (F 0 i) ∧ (p < n → ¬ nI (tp p) = chC (kd g (F 0 i))))
theorem x_neg1 {i : Nat} (h : i < 2 ^ 31) : ¬ nI i = -1 := fun z => by
  have := congrArg Int32.toInt z
  rw [nI_toInt h, show (-1 : Int32).toInt = -1 by decide] at this
  omega
theorem top_cons {i k : Nat} {ch : Ch} : top ((i, k) :: ch) = nI i := rfl
theorem x_takes {g : List N3} {tp : Nat → Nat} {n rt : Nat} {σx0 σm0 : SS} (C : PC g tp n rt σx0 σm0) {F : TB} {N p x : Nat} {ch : Ch} {σx σ' : SS} {r : Int32} (f : FXr σx0 σx) (hN : XN g (F 0) (F 1) (F 2) N σx) (ht : sI σx 11 = top ch) (hc : ChP ch N σx) (hp : p < n) (hA : Abt g tp n rt F N p ch x) (hb : P_X5_begins (nI x) (nI (tp p)) (nI p) σx = some (r, σ')) (hr : r = 0 ∨ r = 1) : P_X5_takes (nI (tp p)) (nI p) σx = some (r, σ') := by
  obtain ⟨hd, hl, hgx, -, hn, e19, -, htp, e12⟩ := C
  have hg : gX' g σx := f.gX hgx (by decide) (by decide) (by decide) (by decide)
  have zz : (b2 (some (r, σ')) fun v σ => gZ v (some (v, σ))) = some (r, σ') := by rw [b2_some, gZ_of hr]
  unfold P_X5_takes
  cases ch with
  | nil =>
    obtain ⟨hN0, rfl⟩ := hA
    rw [ht, show top [] = -1 from rfl, if_neg (fun z => z rfl), hN.1, hN0, if_neg (fun z => z rfl), (f.1 12 (by decide)).trans e12, hb, b2_some]
    rcases hr with rfl | rfl
    · rw [if_pos rfl]
    · rw [if_neg (by decide)]
  | cons a ch =>
    obtain ⟨i, k⟩ := a
    have hi := hc.1
    have h300 := hN.2.1
    obtain ⟨q1, q2⟩ := x_nodeKind hg hd hN.2.2.1 hi h300
    have hy := (hN.2.2.1 i hi).2
    have h16 : F 0 i < 16 := Nat.lt_of_lt_of_le hy hd.1
    obtain ⟨g0, g1, g2⟩ := gX_at hg hy
    obtain ⟨l0, l1, l2⟩ := gd_lt hd hy
    rw [ht, top_cons, if_pos (x_neg1 (by omega)), q1, Option.bind_some, q2, Option.bind_some]
    unfold kN
    rcases hA with ⟨k2, hA⟩ | ⟨k3, hA1, hA⟩ | ⟨k7, hA⟩ | ⟨k4, k6, hA, hA2⟩
    · rw [k2, if_pos (show nI 2 = 2 from rfl)]
      have : P_X5_takesOfBoth (nI (F 0 i)) (nI (tp p)) (nI p) σx = some (r, σ') := by
        unfold P_X5_takesOfBoth
        rw [ht, top_cons, vX6_at_30 (by omega), Option.bind_some, hc.2.1]
        rcases hA with ⟨rfl, rfl⟩ | ⟨rfl, rfl⟩
        · rw [if_neg (by decide), if_neg (fun z => z rfl), x_a h16, Option.bind_some, g1, hb, zz]
        · rw [if_neg (by decide), if_pos (by decide), x_b h16, Option.bind_some, g2, hb, zz]
      rw [this, zz]
    · have pl : P_X5_placeAt (nI i) σx = some (nI (F 1 i)) := by
        unfold P_X5_placeAt
        rw [vX6_at_26 (by omega), Option.bind_some, (hN.2.2.2 i hi).1]
      have at8 : P_X0_at_8 (nI (F 1 i)) σx = some (nI (tp (F 1 i))) := by
        rw [x_at8 ((f.1 19 (by decide)).trans e19) hn hA1, f.2.1 19 (by decide), (htp _ hA1).1]
      have t256 := (htp _ hA1).2.2
      unfold P_X5_takes_j129
      rw [k3, if_neg (show ¬ nI 3 = 2 by decide), if_pos (show nI 3 = 3 from rfl), pl, Option.bind_some, at8, Option.bind_some]
      by_cases e : tp (F 1 i) = 49
      · rw [if_pos e] at hA
        rw [if_neg (fun z => z (show nI (tp (F 1 i)) = 49 by rw [e]; rfl)), if_neg (by decide), x_a h16, Option.bind_some, g1, ← hA, hb, zz]
      · rw [if_neg e] at hA
        rw [if_pos (show ¬ nI (tp (F 1 i)) = 49 from fun z => e ((nI_eq (b := 49) (by omega) (by decide)).mp z)), if_pos rfl, x_b h16, Option.bind_some, g2, ← hA, hb, zz]
    · rw [k7, if_neg (show ¬ nI 7 = 2 by decide), if_neg (show ¬ nI 7 = 3 by decide), if_neg (show ¬ nI 7 = 4 by decide), if_neg (show ¬ nI 7 = 5 by decide), if_neg (show ¬ nI 7 = 6 by decide), if_pos (show nI 7 = 7 from rfl), x_a h16, Option.bind_some, g1, ← hA, hb, zz]
    · have j191 : P_X5_takes_j191 (nI (tp p)) (nI p) (nI (F 0 i)) (nI (kd g (F 0 i))) σx = some (r, σ') := by
        unfold P_X5_takes_j191
        rw [vX6_at___C (by omega), Option.bind_some, if_pos (hA2 hp), x_a h16, Option.bind_some, g1, ← hA, hb, zz]
      rcases (show kd g (F 0 i) = 4 ∨ kd g (F 0 i) = 5 ∨ kd g (F 0 i) = 6 by omega) with z | z | z
      · rw [z] at j191 ⊢
        rw [if_neg (show ¬ nI 4 = 2 by decide), if_neg (show ¬ nI 4 = 3 by decide), if_pos (show nI 4 = 4 from rfl), j191]
      · rw [z] at j191 ⊢
        rw [if_neg (show ¬ nI 5 = 2 by decide), if_neg (show ¬ nI 5 = 3 by decide), if_neg (show ¬ nI 5 = 4 by decide), if_pos (show nI 5 = 5 from rfl), j191]
      · rw [z] at j191 ⊢
        rw [if_neg (show ¬ nI 6 = 2 by decide), if_neg (show ¬ nI 6 = 3 by decide), if_neg (show ¬ nI 6 = 4 by decide), if_neg (show ¬ nI 6 = 5 by decide), if_pos (show nI 6 = 6 from rfl), j191]
theorem x_fin {g : List N3} {y : Nat → Nat} {σ : SS} (hg : gX' g σ) (hd : GdL g) {N i k : Nat} {ch : Ch} (hN : N ≤ 300) (hc : ChP ((i, k) :: ch) N σ) (hS : SH g y N σ) : P_X5_finish (nI i) σ = some (finS (cl (kN g y) ch) σ) := by
  have hi := hc.1
  have hl := hc.2.2.2.len
  unfold P_X5_finish
  rw [x_parent hc hN, Option.bind_some]
  exact x_finish8 hg hd ch i 0 FU (by omega) hc.2.2.2 (fun j hj => hS j (by omega)) (by omega) (by unfold FU; omega)
theorem cl_congr {kf kf' : Nat → Nat} : ∀ {ch : Ch} {N : Nat} {σ : SS}, ChP ch N σ → (∀ i, i < N → kf i = kf' i) → cl kf ch = cl kf' ch
  | [], _, _, _, _ => rfl
  | (i, k) :: r, N, σ, h, e => by
    have hi := h.1
    show (if kf i = 3 ∨ kf i = 7 then cl kf r else (i, k + 1) :: r) = (if kf' i = 3 ∨ kf' i = 7 then cl kf' r else (i, k + 1) :: r)
    rw [e i hi, cl_congr h.2.2.2 (fun j hj => e j (by omega))]
theorem nw_fr (σ : SS) (N x s : Nat) (p : Int32) : FXr σ (nw σ N x s p) := ((((((Fr.uI (by decide)).tr (Fr.stA (by decide))).tr (Fr.stA (by decide))).tr (Fr.stA (by decide))).tr (Fr.stA (by decide))).tr (Fr.stA (by decide))).tr (Fr.stA (by decide))
theorem c_bad {g : List N3} {tp : Nat → Nat} {n rt : Nat} {σx0 σm0 : SS} (C : PC g tp n rt σx0 σm0) {p : Nat} {σx : SS} {run : Option SS} (f : FXr σx0 σx) (hp : p ≤ n) (h1 : p < n ∨ sI σx 10 = 0 ∨ ¬ sI σx 11 = -1) (h2 : run = P_X5_scan_j59 (nI p) σx) : BDx σx0 run p := by
  obtain ⟨hd, hl, hgx, -, hn, e19, -, htp, e12⟩ := C
  rw [sc_bad ((f.1 19 (by decide)).trans e19) hn (by omega) h1] at h2
  exact ⟨_, h2, (f.mono (by decide) (by decide) (by decide)).tr ((Fr.uI (by decide)).tr (Fr.uI (by decide))), rfl, rfl⟩
/-- the class begins a node, or stops -/
theorem c_begin {g : List N3} {tp : Nat → Nat} {n rt : Nat} {σx0 σm0 : SS} (C : PC g tp n rt σx0 σm0) {F : TB} {N p x : Nat} {ch : Ch} {run : Option SS} (H : PSx g σx0 F N p ch run) (hNp : N ≤ p) (hp : p ≤ n) (hx : x < g.length) (hA : Abt g tp n rt F N p ch x) (s t : Nat) : (p < n ∧ opn g x (nI (tp p)) = true ∧ PSx g σx0 (nwF F N x p (tq ch) s t) (N + 1) (p + 1) (if kd g x ≤ 1 then cl (kN g (F 0)) ch else (N, 0) :: ch) run) ∨ (¬ (p < n ∧ opn g x (nI (tp p)) = true) ∧ BDx σx0 run p) := by
  have C' := C
  obtain ⟨hd, hl, hgx, -, hn, e19, -, htp, e12⟩ := C
  obtain ⟨σx, f, hX, ht, hc, hs⟩ := H
  have hg : gX' g σx := f.gX hgx (by decide) (by decide) (by decide) (by decide)
  have e19' : sI σx 19 = nI n := (f.1 19 (by decide)).trans e19
  by_cases z : p < n
  · have hN : N < 300 := by omega
    have hb := x_begins hg hd hx hN hX.1 (nI (tp p)) (nI p)
    have e19a : sA σx 19 p = nI (tp p) := by rw [f.2.1 19 (by decide)]; exact (htp p z).1
    rw [sc_step e19' hn z, e19a] at hs
    cases o : opn g x (nI (tp p)) with
    | false =>
      rw [o, if_neg (by decide)] at hb
      rw [x_takes C' f hX ht hc z hA hb (Or.inl rfl), b2_some, if_pos rfl] at hs
      exact Or.inr ⟨fun w => absurd w.2 (by decide), c_bad C' f hp (Or.inl z) hs.symm⟩
    | true =>
      rw [o, if_pos rfl] at hb
      obtain ⟨n1, n2⟩ := hX.new (p := p) hN hx ht hc (fun w => by subst w; exact hA.1)
      have f2 := f.tr (nw_fr σx N x (own g x) (nI p))
      have gn : gX' g (nw σx N x (own g x) (nI p)) := f2.gX hgx (by decide) (by decide) (by decide) (by decide)
      refine Or.inl ⟨z, rfl, ?_⟩
      by_cases k1 : kd g x ≤ 1
      · rw [if_pos k1] at hb ⊢
        rw [x_fin gn hd (by omega) n2 n1.2.2.1, Option.bind_some, cl_congr n2.2.2.2 (kf' := kN g (F 0)) (fun i hi => by unfold kN; rw [upN_ne (by omega)])] at hb
        rw [x_takes C' f hX ht hc z hA hb (Or.inr rfl), b2_some, if_neg (by decide)] at hs
        exact ⟨_, f2.tr ((finS_fr _ _).mono (by decide) (by decide) (by decide)), n1.frame (finS_fr _ _), finS_top _ _, (cl_ok (by omega) n2.2.2.2).up (by omega), hs⟩
      · rw [if_neg k1] at hb ⊢
        rw [x_takes C' f hX ht hc z hA hb (Or.inr rfl), b2_some, if_neg (by decide)] at hs
        exact ⟨_, f2.tr (Fr.uI (by decide)), n1.frame (Fr.uI (by decide)), rfl, n2.frame (fun _ _ => rfl) (fun _ _ => rfl), hs⟩
  · rw [sc_end e19' (by omega) (by omega)] at hs
    refine Or.inr ⟨fun w => z w.1, c_bad C' f hp (Or.inr ?_) hs.symm⟩
    cases ch with
    | nil => exact Or.inl (by rw [hX.1, hA.1]; rfl)
    | cons a ch =>
      obtain ⟨i, k⟩ := a
      have hi := hc.1
      exact Or.inr (by rw [ht, top_cons]; exact x_neg1 (by omega))
/-- the class closes a node -/
theorem c_close {g : List N3} {tp : Nat → Nat} {n rt : Nat} {σx0 σm0 : SS} (C : PC g tp n rt σx0 σm0) {F : TB} {N p i k : Nat} {ch : Ch} {run : Option SS} (H : PSx g σx0 F N p ((i, k) :: ch) run) (hp : p < n) (hA : (4 ≤ kd g (F 0 i) ∧ kd g (F 0 i) ≤ 6 ∧ nI (tp p) = chC (kd g (F 0 i))) ∨ (kd g (F 0 i) = 2 ∧ k = 2 ∧ tp p = 41)) : PSx g σx0 F N (p + 1) (cl (kN g (F 0)) ch) run := by
  obtain ⟨hd, hl, hgx, -, hn, e19, -, htp, e12⟩ := C
  obtain ⟨σx, f, hX, ht, hc, hs⟩ := H
  have hg : gX' g σx := f.gX hgx (by decide) (by decide) (by decide) (by decide)
  have e19' : sI σx 19 = nI n := (f.1 19 (by decide)).trans e19
  have e19a : sA σx 19 p = nI (tp p) := by rw [f.2.1 19 (by decide)]; exact (htp p hp).1
  have hi := hc.1
  have h300 := hX.2.1
  obtain ⟨q1, q2⟩ := x_nodeKind hg hd hX.2.2.1 hi h300
  have fi := x_fin hg hd h300 hc hX.2.2.1
  have tk : P_X5_takes (nI (tp p)) (nI p) σx = some (1, finS (cl (kN g (F 0)) ch) σx) := by
    unfold P_X5_takes
    rw [ht, top_cons, if_pos (x_neg1 (by omega)), q1, Option.bind_some, q2, Option.bind_some]
    unfold kN
    rcases hA with ⟨k4, k6, hA⟩ | ⟨k2, rfl, hA⟩
    · have j191 : P_X5_takes_j191 (nI (tp p)) (nI p) (nI (F 0 i)) (nI (kd g (F 0 i))) σx = some (1, finS (cl (kN g (F 0)) ch) σx) := by
        unfold P_X5_takes_j191
        rw [vX6_at___C (by omega), Option.bind_some, if_neg (fun z => z hA), ht, top_cons, fi, Option.bind_some]
      rcases (show kd g (F 0 i) = 4 ∨ kd g (F 0 i) = 5 ∨ kd g (F 0 i) = 6 by omega) with z | z | z
      · rw [z] at j191 ⊢
        rw [if_neg (show ¬ nI 4 = 2 by decide), if_neg (show ¬ nI 4 = 3 by decide), if_pos (show nI 4 = 4 from rfl), j191]
        rfl
      · rw [z] at j191 ⊢
        rw [if_neg (show ¬ nI 5 = 2 by decide), if_neg (show ¬ nI 5 = 3 by decide), if_neg (show ¬ nI 5 = 4 by decide), if_pos (show nI 5 = 5 from rfl), j191]
        rfl
      · rw [z] at j191 ⊢
        rw [if_neg (show ¬ nI 6 = 2 by decide), if_neg (show ¬ nI 6 = 3 by decide), if_neg (show ¬ nI 6 = 4 by decide), if_neg (show ¬ nI 6 = 5 by decide), if_pos (show nI 6 = 6 from rfl), j191]
        rfl
    · have : P_X5_takesOfBoth (nI (F 0 i)) (nI (tp p)) (nI p) σx = some (1, finS (cl (kN g (F 0)) ch) σx) := by
        unfold P_X5_takesOfBoth
        rw [ht, top_cons, vX6_at_30 (by omega), Option.bind_some, hc.2.1, if_pos (by decide), if_pos (show nI (tp p) = 41 by rw [hA]; rfl), fi, Option.bind_some]
      rw [k2, if_pos (show nI 2 = 2 from rfl), this, b2_some]
      rfl
  rw [sc_step e19' hn hp, e19a, tk, b2_some, if_neg (by decide)] at hs
  exact ⟨_, f.tr ((finS_fr _ _).mono (by decide) (by decide) (by decide)), hX.frame (finS_fr _ _), finS_top _ _, (cl_ok (by omega) hc.2.2.2).up (by omega), hs⟩
theorem c_close_bad {g : List N3} {tp : Nat → Nat} {n rt : Nat} {σx0 σm0 : SS} (C : PC g tp n rt σx0 σm0) {F : TB} {N p i : Nat} {ch : Ch} {run : Option SS} (H : PSx g σx0 F N p ((i, 2) :: ch) run) (hp : p ≤ n) (k2 : kd g (F 0 i) = 2) (hA : ¬ (p < n ∧ tp p = 41)) : BDx σx0 run p := by
  have C' := C
  obtain ⟨hd, hl, hgx, -, hn, e19, -, htp, e12⟩ := C
  obtain ⟨σx, f, hX, ht, hc, hs⟩ := H
  have hg : gX' g σx := f.gX hgx (by decide) (by decide) (by decide) (by decide)
  have e19' : sI σx 19 = nI n := (f.1 19 (by decide)).trans e19
  have hi := hc.1
  have h300 := hX.2.1
  obtain ⟨q1, q2⟩ := x_nodeKind hg hd hX.2.2.1 hi h300
  by_cases z : p < n
  · have e19a : sA σx 19 p = nI (tp p) := by rw [f.2.1 19 (by decide)]; exact (htp p z).1
    have t256 := (htp p z).2.2
    have tk : P_X5_takes (nI (tp p)) (nI p) σx = some (0, σx) := by
      have : P_X5_takesOfBoth (nI (F 0 i)) (nI (tp p)) (nI p) σx = some (0, σx) := by
        unfold P_X5_takesOfBoth
        rw [ht, top_cons, vX6_at_30 (by omega), Option.bind_some, hc.2.1, if_pos (by decide), if_neg (show ¬ nI (tp p) = 41 from fun w => hA ⟨z, (nI_eq (b := 41) (by omega) (by decide)).mp w⟩)]
      unfold P_X5_takes
      rw [ht, top_cons, if_pos (x_neg1 (by omega)), q1, Option.bind_some, q2, Option.bind_some]
      unfold kN
      rw [k2, if_pos (show nI 2 = 2 from rfl), this, b2_some]
      rfl
    rw [sc_step e19' hn z, e19a, tk, b2_some, if_pos rfl] at hs
    exact c_bad C' f hp (Or.inl z) hs.symm
  · rw [sc_end e19' (by omega) (by omega)] at hs
    exact c_bad C' f hp (Or.inr (Or.inr (by rw [ht, top_cons]; exact x_neg1 (by omega)))) hs.symm
