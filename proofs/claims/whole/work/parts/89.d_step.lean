/-! ranking: one node on both sides -/
section
variable {g : List N3} {c : Nat → Nat → Nat} {b : Nat → Nat → Nat → Nat} {tp : Nat → Nat} {n : Nat} {F : TB} {N : Nat} {W : Nat → Nat} {B : Nat → Bool} {U : Nat → Option Nat} {i : Nat} {σx σm : SS}
abbrev FXk : SS → SS → Prop := Fr [15, 16, 17, 18] [17, 18] [3, 4]
abbrev FMk : SS → SS → Prop := Fr [9, 10] [15, 16] [3]
theorem rk_step (hr : Rdy g) (hs : SB g tp n F 0 N) (ks : ∀ i, i < N → KS g tp n F i) (nb : ∀ i, i < N → ¬ brk g F i) (hz : ∀ j, j < N → F 4 j ≤ 24) (hn : n ≤ 300) (hN : N ≤ 300) (hpl : ∀ i j, i < j → j < N → F 1 i < F 1 j) (hp : ∀ i, i < N → F 1 i < 300) (hi : i < N) (X : XI g c b tp n F U N (i + 1) σx) (M : MI g c b F W B N (i + 1) σm) (D : NRM g F N W B U (i + 1) σx σm ∨ MNY g F N W B (i + 1) σx σm) : ∃ (σx1 σm1 : SS) (W' : Nat → Nat) (B' : Nat → Bool) (U' : Nat → Option Nat), (∀ fu, P_X4_rank_j20 (fu + 1) (nI i) σx = P_X4_rank_j20 fu (nI i + (-1)) σx1) ∧ P_X11_numberOf (nI (i + 1)) σm = some σm1 ∧ XI g c b tp n F U' N i σx1 ∧ MI g c b F W' B' N i σm1 ∧ (NRM g F N W' B' U' i σx1 σm1 ∨ MNY g F N W' B' i σx1 σm1) ∧ FXk σx σx1 ∧ FMk σm σm1 := by
  have hd := hr.1
  have hx := (hs.2.1 i (by omega) hi).1
  have ok := gd_at hd hx
  obtain ⟨m, hk⟩ := kids hs hi
  obtain ⟨xa, xb⟩ := x_num hr hs ks nb hz hn hi hk X
  obtain ⟨q0, q2, q3, q7, q8, q4⟩ := ks i hi
  have mk37 : kd g (F 0 i) = 3 ∨ kd g (F 0 i) = 7 → 0 < m := by
    rintro (k | k)
    · obtain ⟨a1, a2, -⟩ := q3 k
      have := Kd_u hk (Kd_1 hs hi a1 a2)
      omega
    · obtain ⟨a1, a2, -⟩ := q7 k
      have := Kd_u hk (Kd_1 hs hi a1 a2)
      omega
  have mk2 : kd g (F 0 i) = 2 → 1 < m := fun k => by
    obtain ⟨a1, a2, a3, -⟩ := q2 k
    have := Kd_u hk (Kd_2 hs hi a1 a2 a3)
    omega
  have T8 : kd g (F 0 i) = 8 → F 5 i ≤ LIM := fun k => by
    obtain ⟨a1, a2, a3, a4⟩ := q8 k
    have f8 : fa g (F 0 i) ≤ 8 := by unfold okI at ok; omega
    have := LNm_le f8 a3 (fa g (F 0 i)) (Nat.le_refl _)
    rw [a4]
    unfold LIM
    omega
  have kin : ∀ t, t < m → i + 1 ≤ kid F i t ∧ kid F i t < N ∧ F 2 (kid F i t) = i := fun t ht => ⟨(hk.2 t ht).1, kid_lt hs hi hk ht, (hk.2 t ht).2.2⟩
  have Wl : ∀ t, t < m → W (kid F i t) ≤ LIM := fun t ht => (M.2.2.2 _ (kin t ht).1 (kin t ht).2.1).2.1
  have wv : nv g c b (F 0 i) (F 5 i) (F 4 i) m (fun t => F 4 (kid F i t)) (fun t => W (kid F i t)) ≤ LIM := nv_le Wl mk37 T8
  have uvl : nv g c b (F 0 i) (F 5 i) (F 4 i) m (fun t => F 4 (kid F i t)) (fun t => (U (kid F i t)).getD 0) ≤ LIM := nv_le (fun t ht => by
    have bd := (X.2.2.2.1 _ (kin t ht).1 (kin t ht).2.1).2
    show (U (kid F i t)).getD 0 ≤ LIM
    cases e : U (kid F i t) with
    | none => exact Nat.zero_le _
    | some v => exact bd v e) mk37 T8
  -- the class's side, whatever the number is
  have cls : ∀ r σ4, P_X4_numberOf (nI i) σx = some (uv r, σ4) → FRK σx σ4 → (∀ v, r = some v → v ≤ LIM) → ∃ σx1, (∀ fu, P_X4_rank_j20 (fu + 1) (nI i) σx = P_X4_rank_j20 fu (nI i + (-1)) σx1) ∧ XI g c b tp n F (upO U i r) N i σx1 ∧ FXk σx σx1 ∧ sI σx1 18 = sI σ4 18 ∧ ((0 < i ∧ isB56 g (F 0 (F 2 i)) ∧ ∃ v, r = some v ∧ LIM ≤ v) → sI σx1 17 = 1) ∧ (¬ (0 < i ∧ isB56 g (F 0 (F 2 i)) ∧ ∃ v, r = some v ∧ LIM ≤ v) → sI σx1 17 = sI σx 17) := by
    intro r σ4 e4 f4 hrl
    have X4 := (X.fr (f4.mono (by decide) (by decide) (by decide))).put hi hrl
    obtain ⟨s1, s2⟩ := x_rankStep hd hs hi e4 X4
    have f5 : FXk σx (stL σ4 3 (nI i) (uv r)) := (f4.mono (by decide) (by decide) (by decide)).tr (Fr.stL (by decide))
    by_cases z : 0 < i ∧ isB56 g (F 0 (F 2 i)) ∧ ∃ v, r = some v ∧ LIM ≤ v
    · exact ⟨_, s1 z, X4.fr (Fr.uI (by decide)), f5.tr (Fr.uI (by decide)), rfl, fun _ => rfl, fun w => absurd z w⟩
    · exact ⟨_, s2 z, X4, f5, rfl, fun w => absurd w z, fun _ => f4.1 17 (by decide)⟩
  -- the class's number is always told
  have any : ∃ r σ4, P_X4_numberOf (nI i) σx = some (uv r, σ4) ∧ FRK σx σ4 ∧ ∀ v, r = some v → v ≤ LIM := by
    have go : (kd g (F 0 i) = 6 → ∀ t, t < m → ¬ twin F U i t) → ∃ r σ4, P_X4_numberOf (nI i) σx = some (uv r, σ4) ∧ FRK σx σ4 ∧ ∀ v, r = some v → v ≤ LIM := by
      intro no
      by_cases un : ∃ t, t < m ∧ U (kid F i t) = none
      · obtain ⟨σ4, e4, f4, -⟩ := (xb no).1 un
        exact ⟨none, σ4, e4, f4, fun v e => (by cases e)⟩
      · obtain ⟨σ4, e4, f4, -⟩ := (xb no).2 (fun t ht w => un ⟨t, ht, w⟩)
        exact ⟨some _, σ4, e4, f4, fun v e => (by cases e; exact uvl)⟩
    rcases first_or (fun t => twin F U i t) m with no | ⟨t0, ht0, tw, no⟩
    · exact go (fun _ => no)
    · by_cases k6 : kd g (F 0 i) = 6
      · obtain ⟨σ4, e4, f4, -⟩ := xa t0 k6 ht0 tw no
        exact ⟨none, σ4, e4, f4, fun v e => (by cases e)⟩
      · exact go (fun w => absurd w k6)
  rcases D with D | ⟨D1, mb, h10, D2⟩
  · obtain ⟨d1, d2, d3, d4, d5, d6, d7⟩ := D
    obtain ⟨σm1, m1, m2, m3, m4, m5, m6⟩ := m_num hr M hs ks nb hN hi hk hz false d2
    have noBig : isB56 g (F 0 i) → ∀ t, t < m → B (kid F i t) = false → W (kid F i t) < LIM := by
      intro h56 t ht hB
      obtain ⟨k1, k2, k3⟩ := kin t ht
      rcases Nat.lt_or_ge (W (kid F i t)) LIM with z | z
      · exact z
      · exact absurd ⟨by omega, by rw [k3]; exact h56, hB, z⟩ (d3 _ k1 k2)
    have Uk : ∀ t, t < m → U (kid F i t) = if B (kid F i t) = true then none else some (W (kid F i t)) := fun t ht => d4 _ (kin t ht).1 (kin t ht).2.1
    have Uf : ∀ t, t < m → B (kid F i t) = false → U (kid F i t) = some (W (kid F i t)) := fun t ht h => by rw [Uk t ht, h, if_neg (by decide)]
    have Ut : ∀ t v, t < m → U (kid F i t) = some v → B (kid F i t) = false ∧ v = W (kid F i t) := fun t v ht h => by
      rw [Uk t ht] at h
      cases e : B (kid F i t) with
      | true => rw [e, if_pos rfl] at h; cases h
      | false => rw [e, if_neg (by decide)] at h; cases h; exact ⟨rfl, rfl⟩
    have twI : kd g (F 0 i) = 6 → ∀ t, t < m → (twin F U i t ↔ mtB F W B i t t = true) := by
      intro k6 t ht
      rw [mtB_iff]
      constructor
      · rintro ⟨v, e1, s, s1, s2, s3⟩
        obtain ⟨b1, b2⟩ := Ut t v ht e1
        obtain ⟨b3, b4⟩ := Ut s v (by omega) s2
        exact ⟨s, s1, cnd_iff.mpr ⟨b1, b3, noBig (Or.inr k6) t ht b1, s3.symm, by rw [← b2, b4]⟩⟩
      · rintro ⟨s, s1, s2⟩
        obtain ⟨b1, b2, b3, b4, b5⟩ := cnd_iff.mp s2
        exact ⟨W (kid F i t), Uf t ht b1, s, s1, by rw [Uf s (by omega) b2, b5], b4.symm⟩
    have noM : (decide (kd g (F 0 i) = 5 ∨ kd g (F 0 i) = 6) && anyM F W B i m) = false := by
      by_cases k56 : kd g (F 0 i) = 5 ∨ kd g (F 0 i) = 6
      · have : ¬ anyM F W B i m = true := fun w => by
          obtain ⟨t, t1, t2, t3⟩ := (anyM_iff m).mp w
          have := noBig k56 t t1 t2
          omega
        rw [bool_f this, Bool.and_false]
      · rw [decide_eq_false k56, Bool.false_and]
    have h10' : sI σm1 10 = 0 := by rw [m5, noM]; rfl
    -- a node that is not big goes on as before
    have nrm : ∀ (r : Option Nat) (d : Bool) (v : Nat) (σx1 : SS), r = (if d = true then none else some v) → sI σx1 17 = 0 → ¬ (0 < i ∧ isB56 g (F 0 (F 2 i)) ∧ d = false ∧ LIM ≤ v) → sI σx1 18 = sI σm1 9 → qOK (sI σm1 9) → (d = true → ¬ sI σm1 9 = -1) → (¬ sI σm 9 = -1 → ¬ sI σm1 9 = -1) → NRM g F N (upO W i v) (upO B i d) (upO U i r) i σx1 σm1 := by
      intro r d v σx1 er e17 nbg e18 qo dq qq
      refine ⟨e17, h10', fun j j1 j2 => ?_, fun j j1 j2 => ?_, e18, qo, fun j j1 j2 => ?_⟩
      · unfold big
        by_cases e : j = i
        · subst e
          rw [upO_eq, upO_eq]
          exact nbg
        · rw [upO_ne e, upO_ne e]
          exact d3 j (by omega) j2
      · by_cases e : j = i
        · subst e
          rw [upO_eq, upO_eq, upO_eq]
          exact er
        · rw [upO_ne e, upO_ne e, upO_ne e]
          exact d4 j (by omega) j2
      · by_cases e : j = i
        · subst e
          rw [upO_eq]
          exact dq
        · rw [upO_ne e]
          exact fun w => qq (d7 j (by omega) j2 w)
    by_cases A : kd g (F 0 i) = 6 ∧ anyT F W B i m = true
    · obtain ⟨k6, aT⟩ := A
      have dB : (anyB F B i m || (decide (kd g (F 0 i) = 6) && anyT F W B i m)) = true := by rw [decide_eq_true k6, aT, Bool.true_and, Bool.or_true]
      rcases first_or (fun t => mtB F W B i t t = true) m with no | ⟨t0, ht0, tw, no⟩
      · obtain ⟨t, t1, t2⟩ := (anyT_iff m).mp aT
        exact absurd t2 (no t t1)
      · obtain ⟨σ4, e4, f4, e18⟩ := xa t0 k6 ht0 ((twI k6 t0 ht0).mpr tw) (fun s hs' w => no s hs' ((twI k6 s (by omega)).mp w))
        obtain ⟨σx1, x1, x2, x3, x4, x5, x6⟩ := cls none σ4 e4 f4 (fun v e => (by cases e))
        have p0 := hp _ (kin t0 ht0).2.1
        have e9 : sI σm1 9 = amin (sI σm 9) (F 1 (kid F i t0)) := by
          rw [m6, if_pos k6]
          obtain ⟨d, hd'⟩ : ∃ d, m = t0 + 1 + d := ⟨m - (t0 + 1), by omega⟩
          have := am_first d6 ht0 tw (fun s hs' => bool_f (no s hs')) (fun t t1 t2 => by
            have mono := kid_mono hs hi hk (t - t0 - 1) t0 (by omega)
            rw [show t0 + (t - t0 - 1) + 1 = t by omega] at mono
            exact ⟨hpl _ _ mono (kin t t2).2.1, hp _ (kin t t2).2.1⟩) p0 d (by omega)
          rw [← hd'] at this
          exact this
        obtain ⟨r, r1, r2⟩ := amin_val d6 p0
        have nq : ¬ sI σm1 9 = -1 := by rw [e9, r2]; exact x_neg1 (by omega)
        have nb' : ¬ (0 < i ∧ isB56 g (F 0 (F 2 i)) ∧ ∃ v, (none : Option Nat) = some v ∧ LIM ≤ v) := fun ⟨_, _, v, e, _⟩ => (by cases e)
        refine ⟨σx1, σm1, _, _, _, x1, m1, x2, M.put m2 wv m3 m4, Or.inl ?_, x3, m2⟩
        exact nrm none _ _ σx1 (by rw [dB, if_pos rfl]) ((x6 nb').trans d1) (fun w => by rw [dB] at w; cases w.2.2.1) (by rw [x4, e18, d5, e9, tmin_amin d6 p0]) (by rw [e9, r2]; exact Or.inr ⟨r, by omega, rfl⟩) (fun _ => nq) (fun _ => nq)
    · have noT : kd g (F 0 i) = 6 → ∀ t, t < m → ¬ mtB F W B i t t = true := fun k6 t ht w => A ⟨k6, (anyT_iff m).mpr ⟨t, ht, w⟩⟩
      have noTw : kd g (F 0 i) = 6 → ∀ t, t < m → ¬ twin F U i t := fun k6 t ht w => noT k6 t ht ((twI k6 t ht).mp w)
      have dB : (anyB F B i m || (decide (kd g (F 0 i) = 6) && anyT F W B i m)) = anyB F B i m := by
        by_cases k6 : kd g (F 0 i) = 6
        · have : ¬ anyT F W B i m = true := fun w => A ⟨k6, w⟩
          rw [bool_f this, Bool.and_false, Bool.or_false]
        · rw [decide_eq_false k6, Bool.false_and, Bool.or_false]
      have e9 : sI σm1 9 = sI σm 9 := by
        rw [m6]
        by_cases k6 : kd g (F 0 i) = 6
        · rw [if_pos k6, am_none m (fun t ht => bool_f (noT k6 t ht))]
        · rw [if_neg k6]
      rw [dB] at m4
      by_cases un : anyB F B i m = true
      · obtain ⟨t, t1, t2⟩ := (anyB_iff m).mp un
        obtain ⟨σ4, e4, f4, e18⟩ := (xb noTw).1 ⟨t, t1, by rw [Uk t t1, t2, if_pos rfl]⟩
        obtain ⟨σx1, x1, x2, x3, x4, x5, x6⟩ := cls none σ4 e4 f4 (fun v e => (by cases e))
        have nq : ¬ sI σm1 9 = -1 := by rw [e9]; exact d7 _ (kin t t1).1 (kin t t1).2.1 t2
        have nb' : ¬ (0 < i ∧ isB56 g (F 0 (F 2 i)) ∧ ∃ v, (none : Option Nat) = some v ∧ LIM ≤ v) := fun ⟨_, _, v, e, _⟩ => (by cases e)
        refine ⟨σx1, σm1, _, _, _, x1, m1, x2, M.put m2 wv m3 m4, Or.inl ?_, x3, m2⟩
        exact nrm none _ _ σx1 (by rw [un, if_pos rfl]) ((x6 nb').trans d1) (fun w => by rw [un] at w; cases w.2.2.1) (by rw [x4, e18, d5, e9]) (by rw [e9]; exact d6) (fun _ => nq) (fun _ => nq)
      · have uf := bool_f un
        have allf : ∀ t, t < m → B (kid F i t) = false := fun t ht => bool_f (fun w => un ((anyB_iff m).mpr ⟨t, ht, w⟩))
        obtain ⟨σ4, e4, f4, e18⟩ := (xb noTw).2 (fun t ht => by rw [Uf t ht (allf t ht)]; exact fun w => (by cases w))
        have env : nv g c b (F 0 i) (F 5 i) (F 4 i) m (fun t => F 4 (kid F i t)) (fun t => (U (kid F i t)).getD 0) = nv g c b (F 0 i) (F 5 i) (F 4 i) m (fun t => F 4 (kid F i t)) (fun t => W (kid F i t)) := nv_congr (fun t ht => by
          show (U (kid F i t)).getD 0 = W (kid F i t)
          rw [Uf t ht (allf t ht)]
          rfl) mk37 mk2
        rw [env] at e4
        obtain ⟨σx1, x1, x2, x3, x4, x5, x6⟩ := cls (some (nv g c b (F 0 i) (F 5 i) (F 4 i) m (fun t => F 4 (kid F i t)) (fun t => W (kid F i t)))) σ4 e4 f4 (fun v e => (by cases e; exact wv))
        by_cases bx : 0 < i ∧ isB56 g (F 0 (F 2 i)) ∧ ∃ v, some (nv g c b (F 0 i) (F 5 i) (F 4 i) m (fun t => F 4 (kid F i t)) (fun t => W (kid F i t))) = some v ∧ LIM ≤ v
        · refine ⟨σx1, σm1, _, _, _, x1, m1, x2, M.put m2 wv m3 m4, Or.inr ⟨x5 bx, false, h10', Or.inr ⟨i, Nat.le_refl _, hi, ?_, (hs.2.2.1 i bx.1 hi).2.2.1⟩⟩, x3, m2⟩
          obtain ⟨y1, y2, v, y3, y4⟩ := bx
          unfold big
          rw [upO_eq, upO_eq]
          refine ⟨y1, y2, uf, ?_⟩
          cases y3
          exact y4
        · refine ⟨σx1, σm1, _, _, _, x1, m1, x2, M.put m2 wv m3 m4, Or.inl ?_, x3, m2⟩
          exact nrm _ _ _ σx1 (by rw [uf, if_neg (by decide)]) ((x6 bx).trans d1) (fun w => bx ⟨w.1, w.2.1, _, rfl, w.2.2.2⟩) (by rw [x4, e18, d5, e9]) (by rw [e9]; exact d6) (fun w => by rw [uf] at w; cases w) (fun w => by rw [e9]; exact w)
  · obtain ⟨σm1, m1, m2, m3, m4, m5, m6⟩ := m_num hr M hs ks nb hN hi hk hz mb h10
    obtain ⟨r, σ4, e4, f4, rl⟩ := any
    obtain ⟨σx1, x1, x2, x3, x4, x5, x6⟩ := cls r σ4 e4 f4 rl
    refine ⟨σx1, σm1, _, _, _, x1, m1, x2, M.put m2 wv m3 m4, Or.inr ⟨?_, _, m5, ?_⟩, x3, m2⟩
    · by_cases z : 0 < i ∧ isB56 g (F 0 (F 2 i)) ∧ ∃ v, r = some v ∧ LIM ≤ v
      · exact x5 z
      · exact (x6 z).trans D1
    · rcases D2 with D2 | ⟨j, j1, j2, j3, j4⟩
      · exact Or.inl (by rw [D2, Bool.true_or])
      · by_cases e : F 2 j = i
        · obtain ⟨y1, y2, y3, y4⟩ := j3
          rw [e] at y2
          obtain ⟨t, t1, t2⟩ := kid_all hs hi hk (by omega) j2 e
          refine Or.inl ?_
          rw [decide_eq_true (show kd g (F 0 i) = 5 ∨ kd g (F 0 i) = 6 from y2), (anyM_iff m).mpr ⟨t, t1, by rw [t2]; exact y3, by rw [t2]; exact y4⟩, Bool.true_and, Bool.or_true]
        · refine Or.inr ⟨j, by omega, j2, ?_, by omega⟩
          unfold big
          rw [upO_ne (by omega), upO_ne (by omega)]
          exact j3
end
