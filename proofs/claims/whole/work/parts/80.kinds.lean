/-! the joint parse, kind by kind -/
theorem CF.st {N k0 j0 : Nat} {v : Int32} {σ : SS} (h : N < j0) (h2 : j0 < 2 ^ 31) : CF N σ (stA σ k0 (nI j0) v) := by
  refine ⟨fun k _ _ j hj => ?_, fun _ _ => rfl⟩
  by_cases e : k = k0
  · subst e
    rw [sA_stN h2, upd_at, if_neg (by omega)]
  · rw [sA_stne e]
theorem CF.stL {N k0 j0 : Nat} {v : Int64} {σ : SS} (h : N < j0) (h2 : j0 < 2 ^ 31) : CF N σ (stL σ k0 (nI j0) v) := by
  refine ⟨fun k _ _ j hj => rfl, fun j hj => ?_⟩
  by_cases e : 2 = k0
  · subst e
    rw [sL_stN h2, updL_at, if_neg (by omega)]
  · rw [sL_stne e]
section
variable {g : List N3} {tp : Nat → Nat} {n rt : Nat} {σx0 σm0 : SS} {run : Option SS}
theorem opn_k0 {x : Nat} (k0 : kd g x = 0) (hf : fb g x ≤ 800) : ∀ b, b < 256 → (opn g x (nI b) = true ↔ b = 97 + fb g x) := by
  intro b hb
  unfold opn
  rw [if_pos k0, decide_eq_true_iff]
  exact nI_eq (by omega) (by omega)
theorem opn_k {x oc : Nat} (k0 : ¬ kd g x = 0) (k3 : ¬ kd g x = 3) (ho : chO (kd g x) = nI oc) (h2 : oc < 256) : ∀ b, b < 256 → (opn g x (nI b) = true ↔ b = oc) := by
  intro b hb
  unfold opn
  rw [if_neg k0, if_neg k3, ho, decide_eq_true_iff]
  exact nI_eq (by omega) (by omega)
theorem m_fa (C : PC g tp n rt σx0 σm0) {σ : SS} (f : FMr σm0 σ) {x : Nat} (hx : x < g.length) : ldA σ 1 (nI x) = nI (fa g x) ∧ ldA σ 2 (nI x) = nI (fb g x) ∧ ldA σ 0 (nI x) = nI (kd g x) := by
  have h16 : x < 16 := Nat.lt_of_lt_of_le hx C.1.1
  have g1 : gM' g σ := f.gM C.2.2.2.1 (by decide) (by decide) (by decide) (by decide)
  obtain ⟨e0, e1, e2⟩ := gM_at g1 hx
  rw [ldA_nI (by omega), ldA_nI (by omega), ldA_nI (by omega)]
  exact ⟨e1, e2, e0⟩
theorem p_k0 (C : PC g tp n rt σx0 σm0) {F : TB} {N p x : Nat} {ch : Ch} {σm : SS} (H : PS g n σx0 σm0 run F N p ch σm) (hx : x < g.length) (hA : Abt g tp n rt F N p ch x) (k0 : kd g x = 0) (rec : Int32 → SS → Option (Int32 × SS)) : ∃ v σm', mpk rec g x (N + 1) (mnw σm (N + 1) x) = some (v, σm') ∧ (BD n σx0 σm0 run σm' ∨ OKP g tp n σx0 σm0 run F N p ch x σm v σm') := by
  obtain ⟨l0, l1, l2⟩ := gd_lt C.1 hx
  have hn := C.2.2.2.2.1
  have hNp : N ≤ p ∧ p ≤ n := ⟨H.2.2.2.2.1, H.2.2.2.2.2.1⟩
  obtain ⟨σ1, e1, b⟩ := p_open C H hx hA (ov := 97 + fb g x) (by omega) (opn_k0 k0 l2) (own g x) 0
  unfold mpk
  rw [if_pos k0, e1, Option.bind_some]
  refine ⟨_, _, rfl, ?_⟩
  rcases b with b | ⟨b1, b2, b3, b4⟩
  · exact Or.inl (b.fr (Fr.stA (by decide)) rfl)
  · right
    rw [if_pos (by omega)] at b2
    rw [(m_fa C b2.1 hx).1]
    have a12 : sA (stA σ1 12 (nI (N + 1)) (nI (fa g x))) 12 = upd (sA σ1 12) (N + 1) (nI (fa g x)) := sA_stN (by omega)
    have ow : own g x = fa g x := by unfold own; rw [if_pos (Or.inl k0)]
    obtain ⟨w0, w1, w2, w3, w4, w5⟩ := nwF_at (F := F) (N := N) (x := x) (p := p) (q := tq ch) (s := own g x) (t := 0)
    obtain ⟨r0, r1, r2, r3, r4, r5⟩ := b3
    refine ⟨rfl, nwF F N x p (tq ch) (own g x) 0, N + 1, p + 1, b2.fr (Fr.stA (by decide)), SB.new (by rw [w0]; exact hx) w3 (by rw [w4, w0]), SM.new w3 (by rw [w0]; exact r0) (by rw [w1]; exact r1) (by rw [w4, a12, upd_at, if_pos rfl, ow]) r3 r4 (by rw [w5]; exact r5), KS.leaf (by rw [w0, k0]; omega) w3, w0, w2, nwF_ag, b4.tr (CF.st (by omega) (by omega)), by omega⟩
theorem p_k1 (C : PC g tp n rt σx0 σm0) {F : TB} {N p x : Nat} {ch : Ch} {σm : SS} (H : PS g n σx0 σm0 run F N p ch σm) (hx : x < g.length) (hA : Abt g tp n rt F N p ch x) (k1 : kd g x = 1) (rec : Int32 → SS → Option (Int32 × SS)) : ∃ v σm', mpk rec g x (N + 1) (mnw σm (N + 1) x) = some (v, σm') ∧ (BD n σx0 σm0 run σm' ∨ OKP g tp n σx0 σm0 run F N p ch x σm v σm') := by
  obtain ⟨σ1, e1, b⟩ := p_open C H hx hA (ov := 46) (by omega) (opn_k (by omega) (by omega) (by rw [k1]; exact x_chO.1) (by decide)) (own g x) 0
  unfold mpk
  rw [if_neg (by omega), if_pos k1, show (46 : Int32) = nI 46 from rfl, e1, Option.bind_some]
  refine ⟨_, _, rfl, ?_⟩
  rcases b with b | ⟨b1, b2, b3, b4⟩
  · exact Or.inl b
  · right
    rw [if_pos (by omega)] at b2
    have ow : own g x = 0 := by unfold own; rw [if_neg (by omega)]
    obtain ⟨w0, w1, w2, w3, w4, w5⟩ := nwF_at (F := F) (N := N) (x := x) (p := p) (q := tq ch) (s := own g x) (t := 0)
    obtain ⟨r0, r1, r2, r3, r4, r5⟩ := b3
    refine ⟨rfl, nwF F N x p (tq ch) (own g x) 0, N + 1, p + 1, b2, SB.new (by rw [w0]; exact hx) w3 (by rw [w4, w0]), SM.new w3 (by rw [w0]; exact r0) (by rw [w1]; exact r1) (by rw [w4, ow]; exact r2) r3 r4 (by rw [w5]; exact r5), KS.leaf (by rw [w0, k1]; omega) w3, w0, w2, nwF_ag, b4, by omega⟩
theorem cl_up {kf : Nat → Nat} {i k : Nat} {ch : Ch} (h : kf i = 3 ∨ kf i = 7) : cl kf ((i, k) :: ch) = cl kf ch := by
  show (if kf i = 3 ∨ kf i = 7 then cl kf ch else (i, k + 1) :: ch) = _
  rw [if_pos h]
theorem cl_st {kf : Nat → Nat} {i k : Nat} {ch : Ch} (h : ¬ (kf i = 3 ∨ kf i = 7)) : cl kf ((i, k) :: ch) = (i, k + 1) :: ch := by
  show (if kf i = 3 ∨ kf i = 7 then cl kf ch else (i, k + 1) :: ch) = _
  rw [if_neg h]
theorem kN_nw {F : TB} {N x p q s t : Nat} : kN g (nwF F N x p q s t 0) N = kd g x := by unfold kN; rw [nwF_at.1]
/-- a kind with one part -/
theorem p_one (C : PC g tp n rt σx0 σm0) {L : Nat} (W : WP g tp n rt σx0 σm0 run L) {F : TB} {N p x y t : Nat} {ch : Ch} {σm σ1 : SS} (H : PS g n σx0 σm0 run F N p ch σm) (hx : x < g.length) (k37 : kd g x = 3 ∨ kd g x = 7) (hy : y < g.length) (hL : 302 ≤ p + (L + 1)) (H1 : PS g n σx0 σm0 run (nwF F N x p (tq ch) (own g x) t) (N + 1) (p + 1) ((N, 0) :: ch) σ1) (m1 : SM (nwF F N x p (tq ch) (own g x) t) N (N + 1) σ1) (hA : Abt g tp n rt (nwF F N x p (tq ch) (own g x) t) (N + 1) (p + 1) ((N, 0) :: ch) y) (cf : CF N σm σ1) (ks : ∀ F' : TB, F' 0 N = x → F' 1 N = p → F' 5 N = t → N + 1 < F' 3 N → F' 3 (N + 1) = F' 3 N → F' 0 (N + 1) = y → KS g tp n F' N) : ∃ v σ2 σ3, P_X11_part L (nI y) σ1 = some (v, σ2) ∧ P_X11_within (nI (N + 1)) v 0 σ2 = some σ3 ∧ (BD n σx0 σm0 run σ3 ∨ OKP g tp n σx0 σm0 run F N p ch x σm (nI (N + 1)) σ3) := by
  have hn := C.2.2.2.2.1
  obtain ⟨w0, w1, w2, w3, w4, w5⟩ := nwF_at (F := F) (N := N) (x := x) (p := p) (q := tq ch) (s := own g x) (t := t)
  obtain ⟨r, σ2, e2, c⟩ := p_child C W H1 (SB.new (by rw [w0]; exact hx) w3 (by rw [w4, w0])) m1 (Or.inl ⟨rfl, rfl⟩) hy hA (by omega)
  rcases c with c | ⟨rfl, c13, σ3, e3, F', N2, p2, c1, c2, c3, c4, c5, c6, c7, c8, c9, c10, c11, c12, -⟩
  · exact ⟨r, σ2, σ2, e2, m_within_bad (c.nlt hn), Or.inl c⟩
  · refine ⟨_, σ2, σ3, e2, e3, Or.inr ⟨rfl, F', N2, p2, ?_, c2, c3, ks F' ((c6 0 (by decide) (by decide)).trans w0) ((c6 1 (by decide) (by decide)).trans w1) ((c6 5 (by decide) (by decide)).trans w5) ?_ ?_ c7, (c6 0 (by decide) (by decide)).trans w0, (c6 2 (by decide) (by decide)).trans w2, fun k i hi => ?_, cf.tr c11, by omega⟩⟩
    · rw [cl_up (by rw [kN_nw]; exact k37), H.clc (kf' := kN g (F 0)) (fun i hi => by unfold kN; rw [nwF_ag 0 i hi])] at c1
      exact c1
    · rw [c2.1.2]; exact c10
    · rw [c2.1.2]; exact c9
    · rw [c5 k i (by omega) (by omega)]; exact nwF_ag k i hi
theorem p_k7 (C : PC g tp n rt σx0 σm0) {L : Nat} (W : WP g tp n rt σx0 σm0 run L) {F : TB} {N p x : Nat} {ch : Ch} {σm : SS} (H : PS g n σx0 σm0 run F N p ch σm) (hx : x < g.length) (hA : Abt g tp n rt F N p ch x) (k7 : kd g x = 7) (hL : 302 ≤ p + (L + 1)) : ∃ v σm', mpk (P_X11_part L) g x (N + 1) (mnw σm (N + 1) x) = some (v, σm') ∧ (BD n σx0 σm0 run σm' ∨ OKP g tp n σx0 σm0 run F N p ch x σm v σm') := by
  have hn := C.2.2.2.2.1
  have hNp : N ≤ p ∧ p ≤ n := ⟨H.2.2.2.2.1, H.2.2.2.2.2.1⟩
  obtain ⟨σ1, e1, b⟩ := p_open C H hx hA (ov := 33) (by omega) (opn_k (by omega) (by omega) (by rw [k7]; exact x_chO.2.2.2.2.2) (by decide)) (own g x) 0
  unfold mpk
  rw [if_neg (by omega), if_neg (by omega), if_neg (by omega), if_neg (by omega), if_pos k7, show (33 : Int32) = nI 33 from rfl, e1, Option.bind_some]
  rcases b with b | ⟨b1, b2, b3, b4⟩
  · rw [rec_bad _ hn (by omega) b, b2_some, m_within_bad (b.nlt hn), Option.bind_some]
    exact ⟨_, _, rfl, Or.inl b⟩
  · rw [if_neg (by omega)] at b2
    have ow : own g x = 0 := by unfold own; rw [if_neg (by omega)]
    obtain ⟨w0, w1, w2, w3, w4, w5⟩ := nwF_at (F := F) (N := N) (x := x) (p := p) (q := tq ch) (s := own g x) (t := 0)
    obtain ⟨r0, r1, r2, r3, r4, r5⟩ := b3
    rw [(m_fa C b2.1 hx).1]
    obtain ⟨v, σ2, σ3, q1, q2, q3⟩ := p_one C W H hx (Or.inr k7) ((C.2.1 x hx).1 (by omega) (by omega)) hL b2 (SM.new w3 (by rw [w0]; exact r0) (by rw [w1]; exact r1) (by rw [w4, ow]; exact r2) r3 r4 (by rw [w5]; exact r5)) (Or.inr (Or.inr (Or.inl ⟨by rw [w0]; exact k7, by rw [w0]⟩))) b4 (fun F' f0 f1 f5 f3 f31 f01 => ⟨fun z => by rw [f0] at z; omega, fun z => by rw [f0] at z; omega, fun z => by rw [f0] at z; omega, fun _ => ⟨f3, f31, by rw [f01, f0]⟩, fun z => by rw [f0] at z; omega, fun z => by rw [f0] at z; omega⟩)
    rw [q1, b2_some, q2, Option.bind_some]
    exact ⟨_, _, rfl, q3⟩
theorem p_k3 (C : PC g tp n rt σx0 σm0) {L : Nat} (W : WP g tp n rt σx0 σm0 run L) {F : TB} {N p x : Nat} {ch : Ch} {σm : SS} (H : PS g n σx0 σm0 run F N p ch σm) (hx : x < g.length) (hA : Abt g tp n rt F N p ch x) (k3 : kd g x = 3) (hL : 302 ≤ p + (L + 1)) : ∃ v σm', mpk (P_X11_part L) g x (N + 1) (mnw σm (N + 1) x) = some (v, σm') ∧ (BD n σx0 σm0 run σm' ∨ OKP g tp n σx0 σm0 run F N p ch x σm v σm') := by
  have H' := H
  have C' := C
  have h16 : x < 16 := Nat.lt_of_lt_of_le hx C.1.1
  obtain ⟨hd, hl, -, hgm, hn, -, e3, htp, -⟩ := C
  obtain ⟨a1, a2, a3, a4, a5, a6, a7, a8, a9⟩ := H
  obtain ⟨m1, m2, m3⟩ := mnw_ok (σ := σm) (x := x) (show N + 1 < 310 by omega) a3
  have hh := m_here (σ := mnw σm (N + 1) x) ((a1.1 3 (by decide)).trans e3) a3 hn (by omega)
  have e4 : p < n → sA (mnw σm (N + 1) x) 4 p = nI (tp p) := fun z => by
    show sA σm 4 p = _
    rw [a1.2.1 4 (by decide)]
    exact (htp p z).2.1
  have ow : own g x = 0 := by unfold own; rw [if_neg (by omega)]
  unfold mpk
  rw [if_neg (by omega), if_neg (by omega), if_neg (by omega), if_pos k3]
  rcases c_begin C' a9 a5 a6 hx hA (own g x) (tp p - 48) with ⟨z1, z2, z3⟩ | ⟨z1, z2⟩
  · have t256 := (htp p z1).2.2
    rw [if_pos z1, e4 z1] at hh
    rw [if_neg (by omega)] at z3
    have h50 : tp p = 49 ∨ tp p = 50 := by
      unfold opn at z2
      rw [if_neg (by omega), if_pos k3, Bool.or_eq_true, decide_eq_true_iff, decide_eq_true_iff] at z2
      rcases z2 with w | w
      · exact Or.inl ((nI_eq (b := 49) (by omega) (by decide)).mp w)
      · exact Or.inr ((nI_eq (b := 50) (by omega) (by decide)).mp w)
    obtain ⟨w0, w1, w2, w3, w4, w5⟩ := nwF_at (F := F) (N := N) (x := x) (p := p) (q := tq ch) (s := own g x) (t := tp p - 48)
    have eS : (nI (tp p) - 48).toInt64 = lN (tp p - 48) := by
      rw [show nI (tp p) - 48 = nI (tp p - 48) from nI_sub (b := 48) (by omega), nI_l (by omega)]
    have e7 : sI (stL (mnw σm (N + 1) x) 2 (nI (N + 1)) (lN (tp p - 48))) 7 = nI p := a3
    have eL : sL (stL (mnw σm (N + 1) x) 2 (nI (N + 1)) (lN (tp p - 48))) 2 (N + 1) = lN (tp p - 48) := by rw [sL_stN (by omega), updL_at, if_pos rfl]
    have f1 : FMr σm (uI (stL (mnw σm (N + 1) x) 2 (nI (N + 1)) (lN (tp p - 48))) 7 (nI (p + 1))) := (m3.tr (Fr.stL (by decide))).tr (Fr.uI (by decide))
    have H1 := H'.begun z1 z3 f1 rfl rfl a4
    have cf : CF N σm (uI (stL (mnw σm (N + 1) x) 2 (nI (N + 1)) (lN (tp p - 48))) 7 (nI (p + 1))) := (m2.tr (CF.stL (by omega) (by omega))).tr (CF.of (Fr.uI (by decide)))
    obtain ⟨r0, r1, r2, r3, r4, r5⟩ := m1
    have sm : SM (nwF F N x p (tq ch) (own g x) (tp p - 48)) N (N + 1) (uI (stL (mnw σm (N + 1) x) 2 (nI (N + 1)) (lN (tp p - 48))) 7 (nI (p + 1))) := SM.new w3 (by rw [w0]; exact r0) (by rw [w1]; exact r1) (by rw [w4, ow]; exact r2) r3 r4 (by rw [w5, sL_uI]; exact eL)
    have j27 : ∀ rec, P_X11_eitherPart rec (nI (N + 1)) (nI x) (mnw σm (N + 1) x) = b2 (rec (nI (if tp p = 49 then fa g x else fb g x)) (uI (stL (mnw σm (N + 1) x) 2 (nI (N + 1)) (lN (tp p - 48))) 7 (nI (p + 1)))) fun v8 σ9 => (P_X11_within (nI (N + 1)) v8 0 σ9).bind fun σ11 => some σ11 := by
      intro rec
      have : P_X11_eitherPart_j27 rec (nI (N + 1)) (nI x) (mnw σm (N + 1) x) = b2 (rec (nI (if tp p = 49 then fa g x else fb g x)) (uI (stL (mnw σm (N + 1) x) 2 (nI (N + 1)) (lN (tp p - 48))) 7 (nI (p + 1)))) fun v8 σ9 => (P_X11_within (nI (N + 1)) v8 0 σ9).bind fun σ11 => some σ11 := by
        unfold P_X11_eitherPart_j27
        rw [hh, Option.bind_some, gI_nI (show N + 1 < 310 by omega) (by decide), gI_nI (show N + 1 < 310 by omega) (by decide), eS, e7, nI_1, ldL_nI (show N + 1 < 2 ^ 31 by omega), sL_uI, eL, gI_nI h16 (by decide), gI_nI h16 (by decide), (m_fa C' (a1.tr f1) hx).1, (m_fa C' (a1.tr f1) hx).2.1]
        rcases h50 with w | w
        · rw [if_neg (fun q => q (by rw [w]; rfl)), if_pos w]
        · rw [if_pos (by rw [w]; decide), if_neg (by omega)]
      unfold P_X11_eitherPart
      rw [hh, Option.bind_some, Option.bind_some, this]
      rcases h50 with w | w
      · rw [if_pos (by rw [w]; rfl)]
      · rw [if_neg (by rw [w]; decide), if_pos (by rw [w]; rfl)]
    rw [j27]
    obtain ⟨v, σ2, σ3, q1, q2, q3⟩ := p_one C' W H' hx (Or.inl k3) (y := if tp p = 49 then fa g x else fb g x) (by
      split
      · exact (C'.2.1 x hx).1 (by omega) (by omega)
      · exact (C'.2.1 x hx).2 (Or.inr k3)) hL H1 sm (Or.inr (Or.inl ⟨by rw [w0]; exact k3, by rw [w1]; exact z1, by rw [w0, w1]⟩)) cf (fun F' f0 f1 f5 f3 f31 f01 => ⟨fun z => by rw [f0] at z; omega, fun z => by rw [f0] at z; omega, fun _ => ⟨f3, f31, by rw [f1]; exact z1, by
        rw [f1, f5, f0, f01]
        rcases h50 with w | w
        · exact Or.inl ⟨w, by omega, by rw [if_pos w]⟩
        · exact Or.inr ⟨w, by omega, by rw [if_neg (by omega)]⟩⟩, fun z => by rw [f0] at z; omega, fun z => by rw [f0] at z; omega, fun z => by rw [f0] at z; omega⟩)
    rw [q1, b2_some, q2, Option.bind_some, Option.bind_some]
    exact ⟨_, _, rfl, q3⟩
  · have hne : P_X11_eitherPart (P_X11_part L) (nI (N + 1)) (nI x) (mnw σm (N + 1) x) = some (uI (mnw σm (N + 1) x) 8 (nI p)) := by
      have h2 : ∀ b : Nat, b = 49 ∨ b = 50 → ¬ (if p < n then sA (mnw σm (N + 1) x) 4 p else -1) = nI b := by
        intro b hb w
        by_cases z : p < n
        · rw [if_pos z, e4 z] at w
          have t256 := (htp p z).2.2
          have e := (nI_eq (by omega) (by omega)).mp w
          apply z1
          refine ⟨z, ?_⟩
          unfold opn
          rw [if_neg (by omega), if_pos k3, Bool.or_eq_true, decide_eq_true_iff, decide_eq_true_iff, e]
          rcases hb with hb | hb <;> rw [hb]
          · exact Or.inl rfl
          · exact Or.inr rfl
        · rw [if_neg z] at w
          exact x_neg1 (show b < 2 ^ 31 by omega) w.symm
      unfold P_X11_eitherPart
      rw [hh, Option.bind_some, Option.bind_some, if_neg (show ¬ (if p < n then sA (mnw σm (N + 1) x) 4 p else -1) = 49 from h2 49 (Or.inl rfl)), if_neg (show ¬ (if p < n then sA (mnw σm (N + 1) x) 4 p else -1) = 50 from h2 50 (Or.inr rfl)), show sI (mnw σm (N + 1) x) 7 = nI p from a3]
    rw [hne, Option.bind_some]
    exact ⟨_, _, rfl, Or.inl ⟨(a1.tr m3).tr (Fr.uI (by decide)), p, a6, rfl, z2⟩⟩
end
