/-! the reference's numbers: chains, pairs, rows -/
theorem sat3 (A B w : Nat) : sat (sat (sat A + sat B) + w) = sat (sat (B + A) + w) := by rw [sat_addL A, sat_addR, Nat.add_comm A B]
def kx (F : TB) (i m t : Nat) : Int32 := if t < m then nI (kid F i t + 1) else 0
def RN (W : Nat → Nat) (B : Nat → Bool) (k N : Nat) (σ : SS) : Prop := ∀ j, k ≤ j → j < N → sL σ 3 (j + 1) = lN (W j) ∧ W j ≤ LIM ∧ sA σ 15 (j + 1) = b2i (B j)
def MI (g : List N3) (c : Nat → Nat → Nat) (b : Nat → Nat → Nat → Nat) (F : TB) (W : Nat → Nat) (B : Nat → Bool) (N k : Nat) (σ : SS) : Prop := gM' g σ ∧ MT g c b σ (fun _ _ => True) ∧ SM F 0 N σ ∧ RN W B k N σ
section
variable {g : List N3} {c : Nat → Nat → Nat} {b : Nat → Nat → Nat → Nat} {tp : Nat → Nat} {n : Nat} {F : TB} {N : Nat} {W : Nat → Nat} {B : Nat → Bool} {i m : Nat} {σ : SS}
theorem kx_lt {t : Nat} (ht : t < m) : kx F i m t = nI (kid F i t + 1) := if_pos ht
theorem kx_ge {t : Nat} (ht : m ≤ t) : kx F i m t = 0 := if_neg (by omega)
theorem m_chain (hs : SB g tp n F 0 N) (hi : i < N) (hk : Kd F i m) (hM : SM F 0 N σ) : sA σ 13 (i + 1) = kx F i m 0 ∧ ∀ t, t < m → sA σ 14 (kid F i t + 1) = kx F i m (t + 1) := by
  constructor
  · rw [(hM.2.1 i (by omega) hi).2.2.2.1]
    by_cases z : 0 < m
    · have := (hk.2 0 z).2.1
      rw [kx_lt z, if_pos (show i + 1 < F 3 i from this)]
      rfl
    · have e : m = 0 := by omega
      subst e
      have := hk.1
      rw [kx_ge (Nat.le_refl _), if_neg (show ¬ i + 1 < F 3 i by rw [← this]; exact Nat.lt_irrefl _)]
      rfl
  · intro t ht
    obtain ⟨k1, k2, k3⟩ := hk.2 t ht
    rw [hM.2.2 (kid F i t) (by omega) (kid_lt hs hi hk ht), k3]
    by_cases z : t + 1 < m
    · have := (hk.2 (t + 1) z).2.1
      rw [kx_lt z, if_pos (show F 3 (kid F i t) < F 3 i from this)]
      rfl
    · have e : t + 1 = m := by omega
      have h1 := hk.1
      rw [← e] at h1
      rw [kx_ge (by omega), if_neg (show ¬ F 3 (kid F i t) < F 3 i by rw [← h1]; exact Nat.lt_irrefl _)]
      rfl
theorem MI.at (h : MI g c b F W B N (i + 1) σ) (hs : SB g tp n F 0 N) (hN : N ≤ 300) (hi : i < N) (hk : Kd F i m) {t : Nat} (ht : t < m) : kid F i t + 1 < 302 ∧ i < kid F i t ∧ sA σ 12 (kid F i t + 1) = nI (F 4 (kid F i t)) ∧ sL σ 3 (kid F i t + 1) = lN (W (kid F i t)) ∧ W (kid F i t) ≤ LIM ∧ sA σ 15 (kid F i t + 1) = b2i (B (kid F i t)) ∧ sA σ 11 (kid F i t + 1) = nI (F 1 (kid F i t)) ∧ sA σ 14 (kid F i t + 1) = kx F i m (t + 1) := by
  obtain ⟨h1, h2, h3, h4⟩ := h
  have k1 := (hk.2 t ht).1
  have kl := kid_lt hs hi hk ht
  obtain ⟨r1, r2, r3⟩ := h4 (kid F i t) (by omega) kl
  obtain ⟨s1, s2, s3, -⟩ := h3.2.1 (kid F i t) (by omega) kl
  exact ⟨by omega, k1, s3, r1, r2, r3, s2, (m_chain hs hi hk h3).2 t ht⟩
theorem m_both (hd : GdL g) (h : MI g c b F W B N (i + 1) σ) (hs : SB g tp n F 0 N) (hN : N ≤ 300) (hi : i < N) (hk : Kd F i m) (hm2 : m = 2) (k2 : kd g (F 0 i) = 2) (hz : F 4 i ≤ 24) (hfb : fb g (F 0 i) < 16) : P_X11_numberOfBoth (nI (F 0 i)) (nI (F 4 i)) (nI (kid F i 0 + 1)) (nI (kid F i 1 + 1)) σ = some (lN (sat (sat (W (kid F i 0) * c (tlS g (F 0 i)) (F 4 i - F 4 (kid F i 0)) + sumN (fun j => c (fa g (F 0 i)) j * c (tlS g (F 0 i)) (F 4 i - j)) (F 4 (kid F i 0))) + W (kid F i 1)))) := by
  have hL := LIM_lt
  have hx := (hs.2.1 i (by omega) hi).1
  have h16 : F 0 i < 16 := Nat.lt_of_lt_of_le hx hd.1
  obtain ⟨l0, l1, l2⟩ := gd_lt hd hx
  obtain ⟨p1, p2, p3, p4, p5, p6, p7, p8⟩ := h.at hs hN hi hk (show 0 < m by omega)
  obtain ⟨q1, q2, q3, q4, q5, q6, q7, q8⟩ := h.at hs hN hi hk (show 1 < m by omega)
  have et : tlS g (F 0 i) = fb g (F 0 i) := by unfold tlS; rw [if_pos k2]
  have e4 := F4_kid hs hi hk
  have ow : own g (F 0 i) = 0 := by unfold own; rw [if_neg (by omega)]
  have es : F 4 i = F 4 (kid F i 0) + F 4 (kid F i 1) := by
    rw [e4, ow, hm2]
    show 0 + (0 + F 4 (kid F i 0) + F 4 (kid F i 1)) = _
    omega
  obtain ⟨g0, g1, g2⟩ := gM_at h.1 hx
  have hc := h.2.1.1
  have ga : ∀ {α : Type} {o : Option α}, gI (nI (kid F i 0 + 1)) 310 o = o := gI_nI (by omega) (by decide)
  have gb : ∀ {α : Type} {o : Option α}, gI (nI (kid F i 1 + 1)) 310 o = o := gI_nI (by omega) (by decide)
  have gx : ∀ {α : Type} {o : Option α}, gI (nI (F 0 i)) 16 o = o := gI_nI h16 (by decide)
  have a16 : fa g (F 0 i) < 16 := by omega
  rw [et]
  have loop : ∀ d j fu, j + d = F 4 (kid F i 0) → d < fu → P_X11_numberOfBoth_j6 σ fu (nI (F 0 i)) (nI (F 4 i)) (nI (kid F i 0 + 1)) (nI (kid F i 1 + 1)) (lN (sat (sumN (fun j => c (fa g (F 0 i)) j * c (fb g (F 0 i)) (F 4 i - j)) j))) (nI j) = some (lN (sat (sat (W (kid F i 0) * c (fb g (F 0 i)) (F 4 i - F 4 (kid F i 0)) + sumN (fun j => c (fa g (F 0 i)) j * c (fb g (F 0 i)) (F 4 i - j)) (F 4 (kid F i 0))) + W (kid F i 1)))) := by
    intro d
    induction d with
    | zero =>
      intro j fu a1 a2
      obtain ⟨fu, rfl⟩ : ∃ k, fu = k + 1 := ⟨fu - 1, by omega⟩
      have e : j = F 4 (kid F i 0) := by omega
      subst e
      have cl := (hc (fb g (F 0 i)) hfb (F 4 (kid F i 1)) (by omega)).2
      rw [P_X11_numberOfBoth_j6, ga, ldA_nI (by omega), p3, if_pos (nI_le (Nat.le_refl _) (by omega)), ga, gx, gb, ldA_nI (by omega), g2, ldA_nI (by omega), q3, m_of hc hfb (by omega), Option.bind_some, ldL_nI (by omega), p4, m_times p5 (by omega), Option.bind_some, m_plus (sat_le _) (sat_le _), Option.bind_some, gb, ldL_nI (by omega), q4, m_plus (sat_le _) q5, Option.bind_some, sat3, show F 4 i - F 4 (kid F i 0) = F 4 (kid F i 1) by omega]
    | succ d ih =>
      intro j fu a1 a2
      obtain ⟨fu, rfl⟩ : ∃ k, fu = k + 1 := ⟨fu - 1, by omega⟩
      have c1 := (hc (fa g (F 0 i)) a16 j (by omega)).2
      have c2 := (hc (fb g (F 0 i)) hfb (F 4 i - j) (by omega)).2
      rw [P_X11_numberOfBoth_j6, ga, ldA_nI (by omega), p3, if_neg (nI_ge (by omega) (by omega)), gx, ldA_nI (by omega), g1, m_of hc a16 (by omega), Option.bind_some, gx, ldA_nI (by omega), g2, nI_sub (by omega), m_of hc hfb (by omega), Option.bind_some, m_times c1 (by omega), Option.bind_some, m_plus (sat_le _) (sat_le _), Option.bind_some, sat_addL, sat_addR, nI_1]
      exact ih (j + 1) fu (by omega) (by omega)
  unfold P_X11_numberOfBoth
  exact loop (F 4 (kid F i 0)) 0 FU (by omega) (by unfold FU; omega)
theorem m_rowN (hr : Rdy g) (h : MI g c b F W B N (i + 1) σ) (hs : SB g tp n F 0 N) (hN : N ≤ 300) (hi : i < N) (hk : Kd F i m) (k4 : kd g (F 0 i) = 4) (hz : F 4 i ≤ 24) (h1z : ∀ t, t < m → 1 ≤ F 4 (kid F i t)) : P_X11_numberOfRow (nI (F 0 i)) (nI (F 4 i)) (kx F i m 0) σ = some (lN (rowV g c (F 0 i) (F 4 i) (fun t => F 4 (kid F i t)) (fun t => W (kid F i t)) m)) := by
  have hd := hr.1
  have hL := LIM_lt
  have hx := (hs.2.1 i (by omega) hi).1
  have h16 : F 0 i < 16 := Nat.lt_of_lt_of_le hx hd.1
  obtain ⟨l0, l1, l2⟩ := gd_lt hd hx
  have et : tlS g (F 0 i) = F 0 i := by unfold tlS; rw [if_neg (by omega)]
  have e4 := F4_kid hs hi hk
  have hm := kd_m hs hN hi hk
  obtain ⟨g0, g1, g2⟩ := gM_at h.1 hx
  have hc := h.2.1.1
  have a16 : fa g (F 0 i) < 16 := by omega
  have gx : ∀ {α : Type} {o : Option α}, gI (nI (F 0 i)) 16 o = o := gI_nI h16 (by decide)
  have c0 : c (fa g (F 0 i)) 0 = 0 := h.2.1.2.1.1.1 _ ((hr.2.1 _ hx).1 (by omega) (by omega)) (noE_a hr hx (by omega) (by omega))
  have inner : ∀ (K9 : Int32 → Int64 → Int32 → Int32 → Option Int64) (t A rest : Nat), t < m → A ≤ LIM → F 4 (kid F i t) ≤ rest → rest ≤ 24 → ∀ d j fu, j + d = F 4 (kid F i t) → 1 ≤ j → d < fu → P_X11_numberOfRow_j17 σ K9 fu (nI (F 0 i)) (lN (sat (A + sumN (fun j => c (fa g (F 0 i)) j * c (F 0 i) (rest - j)) j))) (nI rest) (nI (kid F i t + 1)) (nI j) = K9 (nI (F 0 i)) (lN (sat (A + sat (W (kid F i t) * c (F 0 i) (rest - F 4 (kid F i t)) + sumN (fun j => c (fa g (F 0 i)) j * c (F 0 i) (rest - j)) (F 4 (kid F i t)))))) (nI (rest - F 4 (kid F i t))) (kx F i m (t + 1)) := by
    intro K9 t A rest ht hA hr1 hr2 d
    obtain ⟨p1, p2, p3, p4, p5, p6, p7, p8⟩ := h.at hs hN hi hk ht
    have ga : ∀ {α : Type} {o : Option α}, gI (nI (kid F i t + 1)) 310 o = o := gI_nI (by omega) (by decide)
    induction d with
    | zero =>
      intro j fu a1 a2 a3
      obtain ⟨fu, rfl⟩ : ∃ k, fu = k + 1 := ⟨fu - 1, by omega⟩
      have e : j = F 4 (kid F i t) := by omega
      subst e
      have cl := (hc (F 0 i) h16 (rest - F 4 (kid F i t)) (by omega)).2
      rw [P_X11_numberOfRow_j17, ga, ldA_nI (by omega), p3, if_pos (nI_le (Nat.le_refl _) (by omega)), ga, ga, nI_sub hr1, m_of hc h16 (by omega), Option.bind_some, ldL_nI (by omega), p4, m_times p5 (by omega), Option.bind_some, m_plus (sat_le _) (sat_le _), Option.bind_some, ga, ldA_nI (by omega), p8, sat_addL, sat_addR, sat_addR, Nat.add_assoc, Nat.add_comm (sumN _ _)]
    | succ d ih =>
      intro j fu a1 a2 a3
      obtain ⟨fu, rfl⟩ : ∃ k, fu = k + 1 := ⟨fu - 1, by omega⟩
      have c1 := (hc (fa g (F 0 i)) a16 j (by omega)).2
      have c2 := (hc (F 0 i) h16 (rest - j) (by omega)).2
      rw [P_X11_numberOfRow_j17, ga, ldA_nI (by omega), p3, if_neg (nI_ge (by omega) (by omega)), gx, ldA_nI (by omega), g1, m_of hc a16 (by omega), Option.bind_some, nI_sub (by omega), m_of hc h16 (by omega), Option.bind_some, m_times c1 (by omega), Option.bind_some, m_plus (sat_le _) (sat_le _), Option.bind_some, sat_addL, sat_addR, nI_1, Nat.add_assoc]
      exact ih (j + 1) fu (by omega) (by omega) (by omega)
  have loop : ∀ d t fu, t + d = m → d < fu → P_X11_numberOfRow_j9 σ fu (nI (F 0 i)) (lN (rowV g c (F 0 i) (F 4 i) (fun t => F 4 (kid F i t)) (fun t => W (kid F i t)) t)) (nI (F 4 i - sumN (fun t => F 4 (kid F i t)) t)) (kx F i m t) = some (lN (rowV g c (F 0 i) (F 4 i) (fun t => F 4 (kid F i t)) (fun t => W (kid F i t)) m)) := by
    intro d
    induction d with
    | zero =>
      intro t fu a1 a2
      obtain ⟨fu, rfl⟩ : ∃ k, fu = k + 1 := ⟨fu - 1, by omega⟩
      have e : t = m := by omega
      subst e
      rw [P_X11_numberOfRow_j9, kx_ge (Nat.le_refl _), if_pos rfl]
    | succ d ih =>
      intro t fu a1 a2
      obtain ⟨fu, rfl⟩ : ∃ k, fu = k + 1 := ⟨fu - 1, by omega⟩
      have ht : t < m := by omega
      have p1 := (h.at hs hN hi hk ht).1
      have le := sumN_le2 (fun t => F 4 (kid F i t)) m ht
      have le' : sumN (fun t => F 4 (kid F i t)) t + F 4 (kid F i t) ≤ F 4 i := by omega
      have z1 := h1z t ht
      have rl := rowV_le g c (F 0 i) (F 4 i) (fun t => F 4 (kid F i t)) (fun t => W (kid F i t)) t
      have st := inner (P_X11_numberOfRow_j9 σ fu) t (rowV g c (F 0 i) (F 4 i) (fun t => F 4 (kid F i t)) (fun t => W (kid F i t)) t) (F 4 i - sumN (fun t => F 4 (kid F i t)) t) ht rl (by omega) (by omega) (F 4 (kid F i t) - 1) 1 FU (by omega) (by omega) (by unfold FU; omega)
      have e1 : sumN (fun j => c (fa g (F 0 i)) j * c (F 0 i) (F 4 i - sumN (fun t => F 4 (kid F i t)) t - j)) 1 = 0 := by
        show 0 + c (fa g (F 0 i)) 0 * _ = 0
        rw [c0, Nat.zero_mul]
      rw [e1, Nat.add_zero, sat_id rl] at st
      rw [P_X11_numberOfRow_j9, kx_lt ht, if_neg (nI_ne0 (by omega) (by omega)), show (1 : Int32) = nI 1 from rfl, st]
      have e := ih (t + 1) fu (by omega) (by omega)
      rw [show F 4 i - sumN (fun t => F 4 (kid F i t)) (t + 1) = F 4 i - sumN (fun t => F 4 (kid F i t)) t - F 4 (kid F i t) from (Nat.sub_sub _ _ _).symm, show rowV g c (F 0 i) (F 4 i) (fun t => F 4 (kid F i t)) (fun t => W (kid F i t)) (t + 1) = sat (rowV g c (F 0 i) (F 4 i) (fun t => F 4 (kid F i t)) (fun t => W (kid F i t)) t + sat (W (kid F i t) * c (tlS g (F 0 i)) (F 4 i - sumN (fun t => F 4 (kid F i t)) t - F 4 (kid F i t)) + sumN (fun j => c (fa g (F 0 i)) j * c (tlS g (F 0 i)) (F 4 i - sumN (fun t => F 4 (kid F i t)) t - j)) (F 4 (kid F i t)))) from rfl, et] at e
      exact e
  unfold P_X11_numberOfRow
  exact loop m 0 FU (by omega) (by unfold FU; omega)
end
