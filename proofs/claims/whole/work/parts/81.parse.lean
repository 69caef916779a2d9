/-! the joint parse: pairs, rows, letters, all -/
section
variable {g : List N3} {tp : Nat → Nat} {n rt : Nat} {σx0 σm0 : SS} {run : Option SS}
theorem p_k2 (C : PC g tp n rt σx0 σm0) {L : Nat} (W : WP g tp n rt σx0 σm0 run L) {F : TB} {N p x : Nat} {ch : Ch} {σm : SS} (H : PS g n σx0 σm0 run F N p ch σm) (hx : x < g.length) (hA : Abt g tp n rt F N p ch x) (k2 : kd g x = 2) (hL : 302 ≤ p + (L + 1)) : ∃ v σm', mpk (P_X11_part L) g x (N + 1) (mnw σm (N + 1) x) = some (v, σm') ∧ (BD n σx0 σm0 run σm' ∨ OKP g tp n σx0 σm0 run F N p ch x σm v σm') := by
  have hn := C.2.2.2.2.1
  have hNp : N ≤ p ∧ p ≤ n := ⟨H.2.2.2.2.1, H.2.2.2.2.2.1⟩
  have ya := (C.2.1 x hx).1 (by omega) (by omega)
  have yb := (C.2.1 x hx).2 (Or.inl k2)
  obtain ⟨σ1, e1, b⟩ := p_open C H hx hA (ov := 40) (by omega) (opn_k (by omega) (by omega) (by rw [k2]; exact x_chO.2.1) (by decide)) (own g x) 0
  -- what is left to do when the writing was found bad
  have q41 : ∀ σ, BD n σx0 σm0 run σ → ∃ v σm', ((P_X11_need 41 σ).bind fun σ35 => some (nI (N + 1), σ35)) = some (v, σm') ∧ (BD n σx0 σm0 run σm' ∨ OKP g tp n σx0 σm0 run F N p ch x σm v σm') := by
    intro σ h
    obtain ⟨σ', u1, u2⟩ := need_bad 41 hn h
    rw [u1, Option.bind_some]
    exact ⟨_, _, rfl, Or.inl u2⟩
  have qB : ∀ σ, BD n σx0 σm0 run σ → ∃ v σm', (b2 (P_X11_part L (ldA σ 2 (nI x)) σ) fun v29 σ30 => gI (nI (N + 1)) 310 <| (P_X11_within (nI (N + 1)) v29 (ldA σ30 13 (nI (N + 1))) σ30).bind fun σ33 => (P_X11_need 41 σ33).bind fun σ35 => some (nI (N + 1), σ35)) = some (v, σm') ∧ (BD n σx0 σm0 run σm' ∨ OKP g tp n σx0 σm0 run F N p ch x σm v σm') := by
    intro σ h
    rw [rec_bad _ hn (by omega) h, b2_some, gI_nI (by omega) (by decide), m_within_bad (h.nlt hn), Option.bind_some]
    exact q41 σ h
  have unf : mpk (P_X11_part L) g x (N + 1) (mnw σm (N + 1) x) = b2 (P_X11_part L (ldA σ1 1 (nI x)) σ1) fun v23 σ24 => (P_X11_within (nI (N + 1)) v23 0 σ24).bind fun σ26 => b2 (P_X11_part L (ldA σ26 2 (nI x)) σ26) fun v29 σ30 => gI (nI (N + 1)) 310 <| (P_X11_within (nI (N + 1)) v29 (ldA σ30 13 (nI (N + 1))) σ30).bind fun σ33 => (P_X11_need 41 σ33).bind fun σ35 => some (nI (N + 1), σ35) := by
    unfold mpk
    rw [if_neg (by omega), if_neg (by omega), if_pos k2, show (40 : Int32) = nI 40 from rfl, e1, Option.bind_some]
    congr 1
    funext v23 σ24
    congr 1
    funext σ26
    congr 1
    funext v29 σ30
    rw [gI_nI (by omega) (by decide)]
  rw [unf]
  rcases b with b | ⟨b1, b2, b3, b4⟩
  · rw [rec_bad _ hn (by omega) b, b2_some, m_within_bad (b.nlt hn), Option.bind_some]
    exact qB σ1 b
  · rw [if_neg (by omega)] at b2
    have ow : own g x = 0 := by unfold own; rw [if_neg (by omega)]
    obtain ⟨w0, w1, w2, w3, w4, w5⟩ := nwF_at (F := F) (N := N) (x := x) (p := p) (q := tq ch) (s := own g x) (t := 0)
    obtain ⟨r0, r1, r2, r3, r4, r5⟩ := b3
    rw [(m_fa C b2.1 hx).1]
    have kN0 : ∀ F' : TB, F' 0 N = x → ¬ (kN g (F' 0) N = 3 ∨ kN g (F' 0) N = 7) := by
      intro F' h
      unfold kN
      rw [h]
      omega
    obtain ⟨r, σ2, e2, c⟩ := p_child C W b2 (SB.new (by rw [w0]; exact hx) w3 (by rw [w4, w0])) (SM.new w3 (by rw [w0]; exact r0) (by rw [w1]; exact r1) (by rw [w4, ow]; exact r2) r3 r4 (by rw [w5]; exact r5)) (Or.inl ⟨rfl, rfl⟩) ya (Or.inl ⟨by rw [w0]; exact k2, Or.inl ⟨rfl, by rw [w0]⟩⟩) (by omega)
    rw [e2, b2_some]
    rcases c with c | ⟨rfl, c13, σ3, e3, F2, N2, p2, c1, c2, c3, c4, c5, c6, c7, c8, c9, c10, c11, c12, -⟩
    · rw [m_within_bad (c.nlt hn), Option.bind_some]
      exact qB σ2 c
    · rw [e3, Option.bind_some]
      have f0 : F2 0 N = x := (c6 0 (by decide) (by decide)).trans w0
      rw [cl_st (kN0 _ w0)] at c1
      rw [(m_fa C c1.1 hx).2.1]
      have s13 : sA σ3 13 (N + 1) = nI (N + 2) := by
        rw [(c3.2.1 N (Nat.le_refl _) c2.1.1).2.2.2.1, c2.1.2, if_pos (by omega)]
      obtain ⟨r', σ4, e4, d⟩ := p_child C W c1 c2 c3 c4 yb (Or.inl ⟨by rw [f0]; exact k2, Or.inr ⟨rfl, by rw [f0]⟩⟩) (by omega)
      rw [e4, b2_some, gI_nI (by omega) (by decide)]
      rcases d with d | ⟨rfl, d13, σ5, e5, F3, N3, p3, d1, d2, d3, d4, d5, d6, d7, d8, d9, d10, d11, d12, -⟩
      · rw [m_within_bad (d.nlt hn), Option.bind_some]
        exact q41 σ4 d
      · rw [ldA_nI (by omega), d13, s13, e5, Option.bind_some]
        have g0 : F3 0 N = x := (d6 0 (by decide) (by decide)).trans f0
        rw [cl_st (kN0 _ f0)] at d1
        have D := d1
        obtain ⟨a1, a2, a3, a4, a5, a6, a7, a8, a9⟩ := d1
        have htp := C.2.2.2.2.2.2.2.1
        have hne := m_need_ok (v := 41) ((a1.1 3 (by decide)).trans C.2.2.2.2.2.2.1) a3 a4 hn (by omega) (by decide)
        by_cases z : p3 < n ∧ tp p3 = 41
        · have e41 : sA σ5 4 p3 = 41 := by rw [a1.2.1 4 (by decide), (htp p3 z.1).2.1, z.2]; rfl
          rw [if_pos ⟨z.1, e41⟩] at hne
          rw [hne, Option.bind_some]
          have cc := c_close C a9 z.1 (Or.inr ⟨by rw [g0]; exact k2, rfl, z.2⟩)
          have ech : cl (kN g (F3 0)) ch = cl (kN g (F 0)) ch := H.clc (fun i hi => by unfold kN; rw [d5 0 i (by omega) (by omega), c5 0 i (by omega) (by omega), nwF_ag 0 i hi])
          rw [ech] at cc
          refine ⟨_, _, rfl, Or.inr ⟨rfl, F3, N3, p3 + 1, ⟨a1.tr (Fr.uI (by decide)), a2, rfl, a4, by omega, by omega, a7, fun i hi => by have := a8 i hi; omega, cc⟩, d2, d3, ?_, g0, ?_, fun k i hi => ?_, (b4.tr (c11.tr d11)).tr (CF.of (Fr.uI (by decide))), by omega⟩⟩
          · have u1 : F3 3 (N + 1) = N2 := by rw [d5 3 (N + 1) (by omega) (by omega)]; exact c9
            have u2 : F3 0 (N + 1) = fa g x := by rw [d5 0 (N + 1) (by omega) (by omega)]; exact c7
            refine ⟨fun y => by rw [g0] at y; omega, fun _ => ?_, fun y => by rw [g0] at y; omega, fun y => by rw [g0] at y; omega, fun y => by rw [g0] at y; omega, fun y => by rw [g0] at y; omega⟩
            rw [u1, u2, g0, d7, d9, d2.1.2]
            exact ⟨by omega, by omega, rfl, rfl, rfl⟩
          · rw [d6 2 (by decide) (by decide), c6 2 (by decide) (by decide)]; exact w2
          · rw [d5 k i (by omega) (by omega), c5 k i (by omega) (by omega)]; exact nwF_ag k i hi
        · have cb := c_close_bad C a9 a6 (by rw [g0]; exact k2) z
          rw [if_neg (fun w => z ⟨w.1, by
            have w2 := w.2
            have t256 := (htp p3 w.1).2.2
            rw [a1.2.1 4 (by decide), (htp p3 w.1).2.1] at w2
            exact (nI_eq (b := 41) (by omega) (by decide)).mp w2⟩)] at hne
          rw [hne, Option.bind_some]
          exact ⟨_, _, rfl, Or.inl ⟨a1.tr ((Fr.uI (by decide)).tr (Fr.uI (by decide))), p3, a6, rfl, cb⟩⟩
theorem m_several {N x oc cc : Nat} {σ : SS} (C : PC g tp n rt σx0 σm0) (f : FMr σm0 σ) (hx : x < g.length) (hk : (kd g x = 4 ∧ oc = 91 ∧ cc = 93) ∨ (kd g x = 5 ∧ oc = 123 ∧ cc = 125) ∨ (kd g x = 6 ∧ oc = 60 ∧ cc = 62)) (rec : Int32 → SS → Option (Int32 × SS)) : P_X11_several rec (nI N) (nI x) σ = (P_X11_need (nI oc) σ).bind fun σ2 => P_X11_several_j60 rec FU (nI N) (nI x) (nI cc) 0 σ2 := by
  have h16 : x < 16 := Nat.lt_of_lt_of_le hx C.1.1
  unfold P_X11_several P_X11_several_j29 P_X11_several_j54
  rw [gI_nI h16 (by decide), (m_fa C f hx).2.2]
  rcases hk with ⟨k, rfl, rfl⟩ | ⟨k, rfl, rfl⟩ | ⟨k, rfl, rfl⟩ <;> rw [k] <;> rfl
theorem x_chC' {x cc : Nat} (hk : (kd g x = 4 ∧ cc = 93) ∨ (kd g x = 5 ∧ cc = 125) ∨ (kd g x = 6 ∧ cc = 62)) : chC (kd g x) = nI cc := by
  obtain ⟨h4, h5, h6⟩ := x_chC
  rcases hk with ⟨k, rfl⟩ | ⟨k, rfl⟩ | ⟨k, rfl⟩ <;> rw [k] <;> assumption
/-- the parts of a row or set -/
theorem p_several (C : PC g tp n rt σx0 σm0) {L : Nat} (W : WP g tp n rt σx0 σm0 run L) {N x cc : Nat} {ch : Ch} (hx : x < g.length) (hk : (kd g x = 4 ∧ cc = 93) ∨ (kd g x = 5 ∧ cc = 125) ∨ (kd g x = 6 ∧ cc = 62)) : ∀ (d p1 fu : Nat) (F : TB) (N1 k : Nat) (v : Int32) (σ : SS), n + 1 ≤ p1 + d → d + 2 < fu → PS g n σx0 σm0 run F N1 p1 ((N, k) :: ch) σ → SB g tp n F N N1 → SM F N N1 σ → LSt F N N1 v → F 0 N = x → (∀ j, N < j → j < N1 → F 2 j = N → F 0 j = fa g x) → 302 ≤ p1 + L → ∃ σ', P_X11_several_j60 (P_X11_part L) fu (nI (N + 1)) (nI x) (nI cc) v σ = some σ' ∧ (BD n σx0 σm0 run σ' ∨ ∃ (F' : TB) (N' p' : Nat), PS g n σx0 σm0 run F' N' p' (cl (kN g (F 0)) ch) σ' ∧ SB g tp n F' N N' ∧ SM F' N N' σ' ∧ (∀ j, N < j → j < N' → F' 2 j = N → F' 0 j = fa g x) ∧ (∀ k i, i < N → F' k i = F k i) ∧ F' 0 N = x ∧ F' 2 N = F 2 N ∧ CF N σ σ' ∧ p1 < p') := by
  have hn := C.2.2.2.2.1
  have h16 : x < 16 := Nat.lt_of_lt_of_le hx C.1.1
  have ya := (C.2.1 x hx).1 (by omega) (by omega)
  have bad : ∀ fu v σ, BD n σx0 σm0 run σ → P_X11_several_j60 (P_X11_part L) (fu + 1) (nI (N + 1)) (nI x) (nI cc) v σ = some σ := by
    intro fu v σ h
    rw [P_X11_several_j60, if_pos (h.ge hn)]
    unfold P_X11_several_j104
    rw [if_pos (h.ge hn)]
  intro d
  induction d with
  | zero =>
    intro p1 fu F N1 k v σ h1 h2 H
    have := H.2.2.2.2.2.1
    omega
  | succ d ih =>
    intro p1 fu F N1 k v σ h1 h2 H hs hm hl f0 hsh hL
    have H' := H
    obtain ⟨a1, a2, a3, a4, a5, a6, a7, a8, a9⟩ := H
    have htp := C.2.2.2.2.2.2.2.1
    have hh := m_here ((a1.1 3 (by decide)).trans C.2.2.2.2.2.2.1) a3 hn (by omega)
    obtain ⟨fu, rfl⟩ : ∃ k, fu = k + 1 := ⟨fu - 1, by omega⟩
    rw [P_X11_several_j60, a4, if_neg (by decide), hh, Option.bind_some]
    have hcc : cc < 256 := by omega
    by_cases z : p1 < n ∧ tp p1 = cc
    · have e4 : (if p1 < n then sA σ 4 p1 else -1) = nI cc := by rw [if_pos z.1, a1.2.1 4 (by decide), (htp p1 z.1).2.1, z.2]
      rw [if_pos e4]
      unfold P_X11_several_j104
      rw [a4, if_neg (by decide), a3, nI_1]
      have cc' := c_close C a9 z.1 (Or.inl ⟨by rw [f0]; omega, by rw [f0]; omega, by rw [f0, x_chC' hk, z.2]⟩)
      exact ⟨_, rfl, Or.inr ⟨F, N1, p1 + 1, ⟨a1.tr (Fr.uI (by decide)), a2, rfl, a4, by omega, by omega, a7, fun i hi => by have := a8 i hi; omega, cc'⟩, hs, hm, hsh, fun _ _ _ => rfl, f0, rfl, CF.of (Fr.uI (by decide)), by omega⟩⟩
    · have hne : ¬ (if p1 < n then sA σ 4 p1 else -1) = nI cc := by
        intro w
        by_cases y : p1 < n
        · have t256 := (htp p1 y).2.2
          rw [if_pos y, a1.2.1 4 (by decide), (htp p1 y).2.1] at w
          exact z ⟨y, (nI_eq (by omega) (by omega)).mp w⟩
        · rw [if_neg y] at w
          exact x_neg1 (show cc < 2 ^ 31 by omega) w.symm
      rw [if_neg hne, gI_nI h16 (by decide), (m_fa C a1 hx).1]
      obtain ⟨r, σ2, e2, c⟩ := p_child C W H' hs hm hl ya (Or.inr (Or.inr (Or.inr ⟨by rw [f0]; omega, by rw [f0]; omega, by rw [f0], fun y w => by
        have t256 := (htp p1 y).2.2
        rw [f0, x_chC' hk] at w
        exact z ⟨y, (nI_eq (by omega) (by omega)).mp w⟩⟩))) hL
      rw [e2, b2_some]
      rcases c with c | ⟨rfl, c13, σ3, e3, F2, N2, p2, c1, c2, c3, c4, c5, c6, c7, c8, c9, c10, c11, c12, c14⟩
      · rw [m_within_bad (c.nlt hn), Option.bind_some]
        obtain ⟨fu, rfl⟩ : ∃ k, fu = k + 1 := ⟨fu - 1, by omega⟩
        exact ⟨σ2, bad fu _ σ2 c, Or.inl c⟩
      · rw [e3, Option.bind_some]
        have g0 : F2 0 N = x := (c6 0 (by decide) (by decide)).trans f0
        have kn : ¬ (kN g (F 0) N = 3 ∨ kN g (F 0) N = 7) := by
          unfold kN
          rw [f0]
          omega
        rw [cl_st kn] at c1
        obtain ⟨σ', q1, q2⟩ := ih p2 fu F2 N2 (k + 1) (nI (N1 + 1)) σ3 (by omega) (by omega) c1 c2 c3 c4 g0 (fun j j1 j2 j3 => by
          rcases Nat.lt_trichotomy j N1 with w | w | w
          · rw [c5 0 j w (by omega)]
            rw [c5 2 j w (by omega)] at j3
            exact hsh j j1 w j3
          · subst w; exact c7
          · exact absurd j3 (c14 j w j2)) (by omega)
        refine ⟨σ', q1, ?_⟩
        rcases q2 with q2 | ⟨F', N', p', d1, d2, d3, d4, d5, d6, d7, d8, d9⟩
        · exact Or.inl q2
        · have ech : cl (kN g (F2 0)) ch = cl (kN g (F 0)) ch := c1.clc2 (fun i hi => by
            have := hs.1.1
            unfold kN; rw [c5 0 i (by omega) (by omega)])
          rw [ech] at d1
          refine Or.inr ⟨F', N', p', d1, d2, d3, d4, fun k i hi => ?_, d6, ?_, c11.tr d8, by omega⟩
          · have := hs.1.1
            rw [d5 k i hi, c5 k i (by omega) (by omega)]
          · rw [d7, c6 2 (by decide) (by decide)]
theorem p_k46 (C : PC g tp n rt σx0 σm0) {L : Nat} (W : WP g tp n rt σx0 σm0 run L) {F : TB} {N p x : Nat} {ch : Ch} {σm : SS} (H : PS g n σx0 σm0 run F N p ch σm) (hx : x < g.length) (hA : Abt g tp n rt F N p ch x) (k46 : 4 ≤ kd g x ∧ kd g x ≤ 6) (hL : 302 ≤ p + (L + 1)) : ∃ v σm', mpk (P_X11_part L) g x (N + 1) (mnw σm (N + 1) x) = some (v, σm') ∧ (BD n σx0 σm0 run σm' ∨ OKP g tp n σx0 σm0 run F N p ch x σm v σm') := by
  have hn := C.2.2.2.2.1
  have hNp : N ≤ p ∧ p ≤ n := ⟨H.2.2.2.2.1, H.2.2.2.2.2.1⟩
  obtain ⟨oc, cc, hk, ho, hoc⟩ : ∃ oc cc, ((kd g x = 4 ∧ oc = 91 ∧ cc = 93) ∨ (kd g x = 5 ∧ oc = 123 ∧ cc = 125) ∨ (kd g x = 6 ∧ oc = 60 ∧ cc = 62)) ∧ chO (kd g x) = nI oc ∧ oc < 256 := by
    obtain ⟨-, -, o4, o5, o6, -⟩ := x_chO
    rcases (show kd g x = 4 ∨ kd g x = 5 ∨ kd g x = 6 by omega) with z | z | z
    · exact ⟨91, 93, Or.inl ⟨z, rfl, rfl⟩, by rw [z]; exact o4, by decide⟩
    · exact ⟨123, 125, Or.inr (Or.inl ⟨z, rfl, rfl⟩), by rw [z]; exact o5, by decide⟩
    · exact ⟨60, 62, Or.inr (Or.inr ⟨z, rfl, rfl⟩), by rw [z]; exact o6, by decide⟩
  have hk' : (kd g x = 4 ∧ cc = 93) ∨ (kd g x = 5 ∧ cc = 125) ∨ (kd g x = 6 ∧ cc = 62) := by omega
  obtain ⟨σ1, e1, b⟩ := p_open C H hx hA (ov := oc) (by omega) (opn_k (by omega) (by omega) ho hoc) (own g x) 0
  have mM := (mnw_ok (σ := σm) (x := x) (show N + 1 < 310 by omega) H.2.2.1).2.2
  unfold mpk
  rw [if_neg (by omega), if_neg (by omega), if_neg (by omega), if_neg (by omega), if_neg (by omega), if_neg (by omega), m_several C (H.1.tr mM) hx hk, e1, Option.bind_some]
  rcases b with b | ⟨b1, b2, b3, b4⟩
  · have : P_X11_several_j60 (P_X11_part L) FU (nI (N + 1)) (nI x) (nI cc) 0 σ1 = some σ1 := by
      rw [show FU = 99999 + 1 from rfl, P_X11_several_j60, if_pos (b.ge hn)]
      unfold P_X11_several_j104
      rw [if_pos (b.ge hn)]
    rw [this, Option.bind_some]
    exact ⟨_, _, rfl, Or.inl b⟩
  · rw [if_neg (by omega)] at b2
    have ow : own g x = 0 := by unfold own; rw [if_neg (by omega)]
    obtain ⟨w0, w1, w2, w3, w4, w5⟩ := nwF_at (F := F) (N := N) (x := x) (p := p) (q := tq ch) (s := own g x) (t := 0)
    obtain ⟨r0, r1, r2, r3, r4, r5⟩ := b3
    obtain ⟨σ', q1, q2⟩ := p_several C W hx hk' (n + 1) (p + 1) FU _ (N + 1) 0 0 σ1 (by omega) (by unfold FU; omega) b2 (SB.new (by rw [w0]; exact hx) w3 (by rw [w4, w0])) (SM.new w3 (by rw [w0]; exact r0) (by rw [w1]; exact r1) (by rw [w4, ow]; exact r2) r3 r4 (by rw [w5]; exact r5)) (Or.inl ⟨rfl, rfl⟩) w0 (fun j j1 j2 => by omega) (by omega)
    rw [q1, Option.bind_some]
    refine ⟨_, _, rfl, ?_⟩
    rcases q2 with q2 | ⟨F', N', p', d1, d2, d3, d4, d5, d6, d7, d8, d9⟩
    · exact Or.inl q2
    · rw [H.clc (kf' := kN g (F 0)) (fun i hi => by unfold kN; rw [nwF_ag 0 i hi])] at d1
      refine Or.inr ⟨rfl, F', N', p', d1, d2, d3, ⟨fun z => by rw [d6] at z; omega, fun z => by rw [d6] at z; omega, fun z => by rw [d6] at z; omega, fun z => by rw [d6] at z; omega, fun z => by rw [d6] at z; omega, fun _ j j1 j2 j3 => by rw [d6]; rw [d2.1.2] at j2; exact d4 j j1 j2 j3⟩, d6, d7.trans w2, fun k i hi => ?_, b4.tr d8, by omega⟩
      rw [d5 k i hi]
      exact nwF_ag k i hi
theorem p_k8 (C : PC g tp n rt σx0 σm0) {F : TB} {N p x : Nat} {ch : Ch} {σm : SS} (H : PS g n σx0 σm0 run F N p ch σm) (hx : x < g.length) (hA : Abt g tp n rt F N p ch x) (k8 : kd g x = 8) (rec : Int32 → SS → Option (Int32 × SS)) : ∃ v σm', mpk rec g x (N + 1) (mnw σm (N + 1) x) = some (v, σm') ∧ (BD n σx0 σm0 run σm' ∨ OKP g tp n σx0 σm0 run F N p ch x σm v σm') := by
  have hn := C.2.2.2.2.1
  have hNp : N ≤ p ∧ p ≤ n := ⟨H.2.2.2.2.1, H.2.2.2.2.2.1⟩
  have ok := gd_at C.1 hx
  have h8 : 1 ≤ fa g x ∧ fa g x ≤ 8 := by unfold okI at ok; omega
  obtain ⟨σ1, e1, b⟩ := p_open C H hx hA (ov := 61) (by omega) (opn_k (by omega) (by omega) (by rw [k8]; decide) (by decide)) (own g x) (LNm tp (p + 1) (fa g x) (fa g x))
  have ow : own g x = fa g x := by unfold own; rw [if_pos (Or.inr k8)]
  unfold mpk P_X11_letters
  rw [if_neg (by omega), if_neg (by omega), if_neg (by omega), if_neg (by omega), if_neg (by omega), if_pos k8, show (61 : Int32) = nI 61 from rfl, e1, Option.bind_some]
  rcases b with b | ⟨b1, b2, b3, b4⟩
  · have := m_let_end (fu := 99999) (x1 := N + 1) (x2 := nI (fa g x)) (x3 := 0) (x4 := 0) (x6 := 0) (show N + 1 < 310 by omega) (Or.inr (b.ge hn))
    rw [show FU = 99999 + 1 from rfl, this, Option.bind_some]
    exact ⟨_, _, rfl, Or.inl (b.fr ((Fr.stL (by decide)).tr (Fr.stA (by decide))) rfl)⟩
  · rw [if_neg (by omega)] at b2
    obtain ⟨w0, w1, w2, w3, w4, w5⟩ := nwF_at (F := F) (N := N) (x := x) (p := p) (q := tq ch) (s := own g x) (t := LNm tp (p + 1) (fa g x) (fa g x))
    obtain ⟨r0, r1, r2, r3, r4, r5⟩ := b3
    obtain ⟨σ', q1, q2⟩ := p_letters C (F := nwF F N x p (tq ch) (own g x) (LNm tp (p + 1) (fa g x) (fa g x))) (N := N) (N1 := N + 1) (p0 := p + 1) (many := fa g x) (ch := ch) (by rw [w0]; exact k8) (by rw [w0]) h8.2 (by omega) (fa g x) 0 0 0 (p + 1) σ1 FU (by omega) (by omega) (by unfold FU; omega) (by decide) bc_0 rfl rfl (fun i hi => by omega) rfl b2
    rw [show P_X11_letters_j14 FU (nI (N + 1)) (nI (fa g x)) 0 0 0 σ1 = some σ' from q1, Option.bind_some]
    refine ⟨_, _, rfl, ?_⟩
    rcases q2 with q2 | ⟨σ2, q2, rfl, q4, q5⟩
    · exact Or.inl q2
    · rw [H.clc (kf' := kN g (F 0)) (fun i hi => by unfold kN; rw [nwF_ag 0 i hi])] at q4
      have b31 : N + 1 < 2 ^ 31 := by omega
      have a12 : sA (stA (stL σ2 2 (nI (N + 1)) (lN (LNm tp (p + 1) (fa g x) (fa g x)))) 12 (nI (N + 1)) (nI (fa g x))) 12 = upd (sA σ2 12) (N + 1) (nI (fa g x)) := by rw [sA_stN b31, sA_stL]
      have a2 : sL (stA (stL σ2 2 (nI (N + 1)) (lN (LNm tp (p + 1) (fa g x) (fa g x)))) 12 (nI (N + 1)) (nI (fa g x))) 2 = vp_updL (sL σ2 2) (N + 1) (lN (LNm tp (p + 1) (fa g x) (fa g x))) := by rw [sL_stA, sL_stN b31]
      have s10 := fun k (h : ¬ k = 12) j => (show sA (stA (stL σ2 2 (nI (N + 1)) (lN (LNm tp (p + 1) (fa g x) (fa g x)))) 12 (nI (N + 1)) (nI (fa g x))) k j = sA σ1 k j by rw [sA_stne h, sA_stL, q2.2.1 k (by simp)])
      refine Or.inr ⟨rfl, _, N + 1, p + 1 + fa g x, q4.fr ((Fr.stL (by decide)).tr (Fr.stA (by decide))), SB.new (by rw [w0]; exact hx) w3 (by rw [w4, w0]), SM.new w3 (by rw [w0, s10 10 (by decide)]; exact r0) (by rw [w1, s10 11 (by decide)]; exact r1) (by rw [w4, a12, upd_at, if_pos rfl, ow]) (by rw [s10 13 (by decide)]; exact r3) (by rw [s10 14 (by decide)]; exact r4) (by rw [w5, a2, updL_at, if_pos rfl]), ?_, w0, w2, nwF_ag, ((b4.tr (CF.of (q2.mono (by decide) (by decide) (by decide)))).tr (CF.stL (by omega) b31)).tr (CF.st (by omega) b31), by omega⟩
      refine ⟨fun z => by rw [w0] at z; omega, fun z => by rw [w0] at z; omega, fun z => by rw [w0] at z; omega, fun z => by rw [w0] at z; omega, fun _ => ?_, fun z => by rw [w0] at z; omega⟩
      rw [w0, w1, w3, w5]
      exact ⟨rfl, q4.2.2.2.2.2.1, q5, rfl⟩
theorem parse_all (C : PC g tp n rt σx0 σm0) : ∀ L, WP g tp n rt σx0 σm0 run L
  | 0 => fun F N p ch σm x H hx hA hL => by
    have := H.2.2.2.2.2.1
    have := C.2.2.2.2.1
    omega
  | L + 1 => fun F N p ch σm x H hx hA hL => by
    have W := parse_all C L
    obtain ⟨l0, l1, l2⟩ := gd_lt C.1 hx
    have hn := C.2.2.2.2.1
    have hNp : N ≤ p ∧ p ≤ n := ⟨H.2.2.2.2.1, H.2.2.2.2.2.1⟩
    have hgm : gM' g σm := H.1.gM C.2.2.2.1 (by decide) (by decide) (by decide) (by decide)
    have e : P_X11_part (L + 1) (nI x) σm = mpk (P_X11_part L) g x (N + 1) (mnw σm (N + 1) x) := m_part hgm C.1 (P_X11_part L) hx (by rw [H.2.2.2.1]; decide) H.2.1 (by omega)
    rw [e]
    rcases (show kd g x = 0 ∨ kd g x = 1 ∨ kd g x = 2 ∨ kd g x = 3 ∨ (4 ≤ kd g x ∧ kd g x ≤ 6) ∨ kd g x = 7 ∨ kd g x = 8 by omega) with q | q | q | q | q | q | q
    · exact p_k0 C H hx hA q _
    · exact p_k1 C H hx hA q _
    · exact p_k2 C W H hx hA q hL
    · exact p_k3 C W H hx hA q hL
    · exact p_k46 C W H hx hA q hL
    · exact p_k7 C W H hx hA q hL
    · exact p_k8 C H hx hA q _
end
