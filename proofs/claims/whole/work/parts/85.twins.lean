/-! the class's ranker: parts, twins, unknown numbers -/
def uv : Option Nat → Int64
  | none => -1
  | some v => lN v
def UX (U : Nat → Option Nat) (k N : Nat) (σ : SS) : Prop := ∀ j, k ≤ j → j < N → sL σ 3 j = uv (U j) ∧ ∀ v, U j = some v → v ≤ LIM
theorem lN_m1 {v : Nat} (h : v ≤ LIM) : ¬ lN v = -1 := fun z => by
  have hL := LIM_lt
  have := congrArg Int64.toInt z
  rw [lN_toInt' (by omega), show (-1 : Int64).toInt = -1 by decide] at this
  omega
theorem uv_inj {o : Option Nat} {v : Nat} (ho : ∀ w, o = some w → w ≤ LIM) (hv : v ≤ LIM) : uv o = lN v ↔ o = some v := by
  have hL := LIM_lt
  cases o with
  | none => exact ⟨fun z => absurd z.symm (lN_m1 hv), fun z => by cases z⟩
  | some w =>
    have := ho w rfl
    show lN w = lN v ↔ _
    rw [lN_inj (by omega) (by omega)]
    exact ⟨fun z => by rw [z], fun z => by cases z; rfl⟩
theorem uv_none {o : Option Nat} (ho : ∀ w, o = some w → w ≤ LIM) : uv o = -1 ↔ o = none := by
  cases o with
  | none => exact ⟨fun _ => rfl, fun _ => rfl⟩
  | some w => exact ⟨fun z => absurd z (lN_m1 (ho w rfl)), fun z => by cases z⟩
def PT (F : TB) (i m : Nat) (σ : SS) : Prop := sI σ 15 = nI m ∧ ∀ t, t < m → sA σ 17 t = nI (kid F i t)
def twin (F : TB) (U : Nat → Option Nat) (i t : Nat) : Prop := ∃ v, U (kid F i t) = some v ∧ ∃ s, s < t ∧ U (kid F i s) = some v ∧ F 4 (kid F i s) = F 4 (kid F i t)
def tmin (q : Int32) (p : Nat) : Int32 := if q = -1 then nI p else mmini q (nI p)
section
variable {g : List N3} {tp : Nat → Nat} {n : Nat} {F : TB} {N : Nat} {U : Nat → Option Nat} {i m : Nat} {σ : SS}
theorem kd_m (h : SB g tp n F 0 N) (hN : N ≤ 300) (hi : i < N) (hk : Kd F i m) : m + i < 300 := by
  have := kid_m h hi hk m (Nat.le_refl _)
  have := (h.2.1 i (by omega) hi).2.2.1
  rw [hk.1] at *
  omega
theorem x_gather (h : SB g tp n F 0 N) (hX : XR g F N σ) (hi : i < N) (hk : Kd F i m) : ∃ σ', P_X4_gatherParts (nI i) σ = some σ' ∧ Fr [15] [17] [] σ σ' ∧ PT F i m σ' := by
  have hN := hX.2.1
  have hm := kd_m h hN hi hk
  have b := h.2.1 i (by omega) hi
  have loop : ∀ d t σ1 fu, t + d = m → d < fu → Fr [15] [17] [] σ σ1 → sI σ1 15 = nI t → (∀ s, s < t → sA σ1 17 s = nI (kid F i s)) → ∃ σ', P_X4_gatherParts_j18 fu (nI (F 3 i)) (nI (kid F i t)) σ1 = some σ' ∧ Fr [15] [17] [] σ σ' ∧ PT F i m σ' := by
    intro d
    induction d with
    | zero =>
      intro t σ1 fu a1 a2 a3 a4 a5
      obtain ⟨fu, rfl⟩ : ∃ k, fu = k + 1 := ⟨fu - 1, by omega⟩
      have e : t = m := by omega
      subst e
      rw [P_X4_gatherParts_j18, hk.1, if_pos (nI_le (Nat.le_refl _) (by omega))]
      exact ⟨σ1, rfl, a3, a4, a5⟩
    | succ d ih =>
      intro t σ1 fu a1 a2 a3 a4 a5
      obtain ⟨fu, rfl⟩ : ∃ k, fu = k + 1 := ⟨fu - 1, by omega⟩
      obtain ⟨k1, k2, k3⟩ := hk.2 t (by omega)
      have kl := kid_lt h hi hk (show t < m by omega)
      have kb := h.2.1 (kid F i t) (by omega) kl
      have e15 : sA (uI (stA σ1 17 (nI t) (nI (kid F i t))) 15 (nI (t + 1))) 15 (kid F i t) = nI (F 3 (kid F i t)) := by
        rw [sA_uI, sA_stne (by decide), a3.2.1 15 (by decide)]
        exact (hX.2.2 _ kl).2.2.2.2.1
      rw [P_X4_gatherParts_j18, if_neg (nI_ge k2 (by omega)), a4, show (300 : Int32) = nI 300 from rfl, if_neg (nI_ge (by omega) (by decide)), vX6_set_32 (by omega), Option.bind_some, show sI (stA σ1 17 (nI t) (nI (kid F i t))) 15 = nI t from a4, nI_1]
      unfold P_X5_endAt
      rw [vX6_at_29 (by omega), Option.bind_some, Option.bind_some, e15, nI_1, mmaxi_n (by omega) (by omega), Nat.max_eq_right (by omega)]
      refine ih (t + 1) _ fu (by omega) (by omega) (a3.tr ((Fr.stA (by decide)).tr (Fr.uI (by decide)))) rfl (fun s hs => ?_)
      rw [sA_uI, sA_stN (by omega), upd_at]
      by_cases e : s = t
      · rw [if_pos e, e]
      · rw [if_neg e]; exact a5 s (by omega)
  unfold P_X4_gatherParts P_X5_endAt
  rw [vX6_at_29 (by omega), Option.bind_some, Option.bind_some, (hX.2.2 i hi).2.2.2.2.1, nI_1]
  exact loop m 0 (uI σ 15 0) FU (by omega) (by unfold FU; omega) (Fr.uI (by decide)) rfl (fun s hs => by omega)
theorem x_part (h : PT F i m σ) (hm : m ≤ 300) {t : Nat} (ht : t < m) : P_X4_part (nI t) σ = some (nI (kid F i t)) := by
  unfold P_X4_part
  rw [vX6_at_32 (by omega), Option.bind_some, h.2 t ht]
theorem x_numAt {k : Nat} (hU : UX U k N σ) (hN : N ≤ 300) {j : Nat} (h1 : k ≤ j) (h2 : j < N) : P_X4_numberAt (nI j) σ = some (uv (U j)) := by
  unfold P_X4_numberAt
  rw [vX6_at__31 (by omega), Option.bind_some, (hU j h1 h2).1]
theorem x_szAt (hX : XR g F N σ) {j : Nat} (h2 : j < N) : P_X5_sizeAt (nI j) σ = some (nI (F 4 j)) := by
  have hN := hX.2.1
  unfold P_X5_sizeAt
  rw [vX6_at_28 (by omega), Option.bind_some, (hX.2.2 j h2).2.2.2.1]
theorem x_twin (h : SB g tp n F 0 N) (hX : XR g F N σ) (hi : i < N) (hk : Kd F i m) (hP : PT F i m σ) (hU : UX U (i + 1) N σ) (hz : ∀ j, j < N → F 4 j ≤ 24) {t : Nat} (ht : t < m) : TF (P_X4_hasTwinAhead (nI t) σ) (twin F U i t) := by
  have hN := hX.2.1
  have hm := kd_m h hN hi hk
  have kl := fun {s : Nat} (hs : s < m) => kid_lt h hi hk hs
  have nA : ∀ {s : Nat}, s < m → P_X4_numberAt (nI (kid F i s)) σ = some (uv (U (kid F i s))) := fun hs => x_numAt hU hN (by have := (hk.2 _ hs).1; omega) (kl hs)
  have bd : ∀ {s : Nat}, s < m → ∀ w, U (kid F i s) = some w → w ≤ LIM := fun hs => (hU _ (by have := (hk.2 _ hs).1; omega) (kl hs)).2
  unfold P_X4_hasTwinAhead
  rw [x_part hP (by omega) ht, Option.bind_some, nA ht, Option.bind_some, Option.bind_some, x_szAt hX (kl ht), Option.bind_some]
  cases hu : U (kid F i t) with
  | none =>
    have : P_X4_hasTwinAhead_j27 σ FU (nI t) (uv none) (nI (F 4 (kid F i t))) 0 = some 0 := by
      rw [show FU = 99999 + 1 from rfl, P_X4_hasTwinAhead_j27]
      by_cases z : nI t ≤ 0
      · rw [if_pos z]
      · rw [if_neg z, if_pos (show uv none = -1 from rfl)]
    refine ⟨fun ⟨v, e, _⟩ => ?_, fun _ => this⟩
    rw [hu] at e
    cases e
  | some v =>
    have hv := bd ht v hu
    have loop : ∀ d s fu, s + d = t → d < fu → TF (P_X4_hasTwinAhead_j27 σ fu (nI t) (lN v) (nI (F 4 (kid F i t))) (nI s)) (∃ r, s ≤ r ∧ r < t ∧ U (kid F i r) = some v ∧ F 4 (kid F i r) = F 4 (kid F i t)) := by
      intro d
      induction d with
      | zero =>
        intro s fu a1 a2
        obtain ⟨fu, rfl⟩ : ∃ k, fu = k + 1 := ⟨fu - 1, by omega⟩
        rw [P_X4_hasTwinAhead_j27, if_pos (nI_le (by omega) (by omega))]
        exact ⟨fun ⟨r, r1, r2, _⟩ => by omega, fun _ => rfl⟩
      | succ d ih =>
        intro s fu a1 a2
        obtain ⟨fu, rfl⟩ : ∃ k, fu = k + 1 := ⟨fu - 1, by omega⟩
        have hs : s < m := by omega
        have ih' := ih (s + 1) fu (by omega) (by omega)
        have z1 := hz _ (kl hs)
        have z2 := hz _ (kl ht)
        rw [P_X4_hasTwinAhead_j27, if_neg (nI_ge (by omega) (by omega)), if_neg (lN_m1 hv), x_part hP (by omega) hs, Option.bind_some, nA hs, Option.bind_some, Option.bind_some, x_szAt hX (kl hs), Option.bind_some]
        unfold P_X4_hasTwinAhead_j76
        rw [nI_1]
        by_cases e1 : U (kid F i s) = some v
        · rw [if_neg (fun w => w ((uv_inj (bd hs) hv).mpr e1))]
          by_cases e2 : F 4 (kid F i s) = F 4 (kid F i t)
          · rw [if_neg (fun w => w (by rw [e2]))]
            exact ⟨fun _ => rfl, fun w => absurd ⟨s, Nat.le_refl _, by omega, e1, e2⟩ w⟩
          · rw [if_pos (fun w => e2 ((nI_eq (by omega) (by omega)).mp w))]
            refine ih'.iff ⟨fun ⟨r, r1, r2⟩ => ⟨r, by omega, r2⟩, fun ⟨r, r1, r2, r3, r4⟩ => ⟨r, ?_, r2, r3, r4⟩⟩
            have : ¬ r = s := fun w => by subst w; exact e2 r4
            omega
        · rw [if_pos (fun w => e1 ((uv_inj (bd hs) hv).mp w))]
          refine ih'.iff ⟨fun ⟨r, r1, r2⟩ => ⟨r, by omega, r2⟩, fun ⟨r, r1, r2, r3, r4⟩ => ⟨r, ?_, r2, r3, r4⟩⟩
          have : ¬ r = s := fun w => by subst w; exact e1 r3
          omega
    refine (loop t 0 FU (by omega) (by unfold FU; omega)).iff ⟨fun ⟨r, r1, r2, r3, r4⟩ => ⟨v, hu, r, r2, r3, r4⟩, fun ⟨v', e, r, r2, r3, r4⟩ => ?_⟩
    rw [hu] at e
    cases e
    exact ⟨r, by omega, r2, r3, r4⟩
theorem x_finds (h : SB g tp n F 0 N) (hX : XR g F N σ) (hi : i < N) (hk : Kd F i m) (hP : PT F i m σ) (hU : UX U (i + 1) N σ) (hz : ∀ j, j < N → F 4 j ≤ 24) : ((∀ t, t < m → ¬ twin F U i t) → P_X4_findsTwin σ = some (0, σ)) ∧ ∀ t0, t0 < m → twin F U i t0 → (∀ s, s < t0 → ¬ twin F U i s) → P_X4_findsTwin σ = some (1, uI σ 18 (tmin (sI σ 18) (F 1 (kid F i t0)))) := by
  have hN := hX.2.1
  have hm := kd_m h hN hi hk
  have step : ∀ t fu, t < m → (¬ twin F U i t → P_X4_findsTwin_j2 (fu + 1) (nI t) σ = P_X4_findsTwin_j2 fu (nI (t + 1)) σ) ∧ (twin F U i t → P_X4_findsTwin_j2 (fu + 1) (nI t) σ = some (1, uI σ 18 (tmin (sI σ 18) (F 1 (kid F i t))))) := by
    intro t fu ht
    have tw := x_twin h hX hi hk hP hU hz ht
    have kl := kid_lt h hi hk ht
    rw [P_X4_findsTwin_j2, hP.1, if_neg (nI_ge ht (by omega))]
    constructor
    · intro z
      rw [tw.2 z, Option.bind_some, if_pos rfl, nI_1]
    · intro z
      have pl : P_X5_placeAt (nI (kid F i t)) σ = some (nI (F 1 (kid F i t))) := by
        unfold P_X5_placeAt
        rw [vX6_at_26 (by omega), Option.bind_some, (hX.2.2 _ kl).2.2.1]
      rw [tw.1 z, Option.bind_some, if_neg (by decide), x_part hP (by omega) ht, Option.bind_some, pl, Option.bind_some]
      unfold P_X4_hasTwin tmin
      by_cases q : sI σ 18 = -1
      · rw [if_pos q, if_pos q, Option.bind_some, if_pos rfl]
      · rw [if_neg q, if_neg q, Option.bind_some, if_neg (by decide)]
  constructor
  · intro no
    have : ∀ d t fu, t + d = m → d < fu → P_X4_findsTwin_j2 fu (nI t) σ = some (0, σ) := by
      intro d
      induction d with
      | zero =>
        intro t fu a1 a2
        obtain ⟨fu, rfl⟩ : ∃ k, fu = k + 1 := ⟨fu - 1, by omega⟩
        rw [P_X4_findsTwin_j2, hP.1, if_pos (nI_le (by omega) (by omega))]
      | succ d ih =>
        intro t fu a1 a2
        obtain ⟨fu, rfl⟩ : ∃ k, fu = k + 1 := ⟨fu - 1, by omega⟩
        rw [(step t fu (by omega)).1 (no t (by omega)), ih (t + 1) fu (by omega) (by omega)]
    exact this m 0 FU (by omega) (by unfold FU; omega)
  · intro t0 ht0 tw0 no
    have : ∀ d t fu, t + d = t0 → d < fu → P_X4_findsTwin_j2 fu (nI t) σ = some (1, uI σ 18 (tmin (sI σ 18) (F 1 (kid F i t0)))) := by
      intro d
      induction d with
      | zero =>
        intro t fu a1 a2
        obtain ⟨fu, rfl⟩ : ∃ k, fu = k + 1 := ⟨fu - 1, by omega⟩
        have e : t = t0 := by omega
        subst e
        exact (step t fu ht0).2 tw0
      | succ d ih =>
        intro t fu a1 a2
        obtain ⟨fu, rfl⟩ : ∃ k, fu = k + 1 := ⟨fu - 1, by omega⟩
        rw [(step t fu (by omega)).1 (no t (by omega)), ih (t + 1) fu (by omega) (by omega)]
    exact this t0 0 FU (by omega) (by unfold FU; omega)
theorem x_unknown (h : SB g tp n F 0 N) (hX : XR g F N σ) (hi : i < N) (hk : Kd F i m) (hP : PT F i m σ) (hU : UX U (i + 1) N σ) : TF (P_X4_hasUnknownPart σ) (∃ t, t < m ∧ U (kid F i t) = none) := by
  have hN := hX.2.1
  have hm := kd_m h hN hi hk
  have loop : ∀ d t fu, t + d = m → d < fu → TF (P_X4_hasUnknownPart_j2 σ fu (nI t)) (∃ r, t ≤ r ∧ r < m ∧ U (kid F i r) = none) := by
    intro d
    induction d with
    | zero =>
      intro t fu a1 a2
      obtain ⟨fu, rfl⟩ : ∃ k, fu = k + 1 := ⟨fu - 1, by omega⟩
      rw [P_X4_hasUnknownPart_j2, hP.1, if_pos (nI_le (by omega) (by omega))]
      exact ⟨fun ⟨r, r1, r2, _⟩ => by omega, fun _ => rfl⟩
    | succ d ih =>
      intro t fu a1 a2
      obtain ⟨fu, rfl⟩ : ∃ k, fu = k + 1 := ⟨fu - 1, by omega⟩
      have ht : t < m := by omega
      have kl := kid_lt h hi hk ht
      have k1 := (hk.2 t ht).1
      have ih' := ih (t + 1) fu (by omega) (by omega)
      rw [P_X4_hasUnknownPart_j2, hP.1, if_neg (nI_ge ht (by omega)), x_part hP (by omega) ht, Option.bind_some, x_numAt hU hN (by omega) kl, Option.bind_some, nI_1]
      by_cases e : U (kid F i t) = none
      · rw [if_neg (fun w => w ((uv_none (hU _ (by omega) kl).2).mpr e))]
        exact ⟨fun _ => rfl, fun w => absurd ⟨t, Nat.le_refl _, ht, e⟩ w⟩
      · rw [if_pos (fun w => e ((uv_none (hU _ (by omega) kl).2).mp w))]
        refine ih'.iff ⟨fun ⟨r, r1, r2⟩ => ⟨r, by omega, r2⟩, fun ⟨r, r1, r2, r3⟩ => ⟨r, ?_, r2, r3⟩⟩
        have : ¬ r = t := fun w => by subst w; exact e r3
        omega
  exact (loop m 0 FU (by omega) (by unfold FU; omega)).iff ⟨fun ⟨r, r1, r2, r3⟩ => ⟨r, r2, r3⟩, fun ⟨r, r2, r3⟩ => ⟨r, by omega, r2, r3⟩⟩
end
