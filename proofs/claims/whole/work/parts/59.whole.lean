/-! a whole thing -/
theorem m_both41 {g : List N3} {c : Nat → Nat → Nat} {σ : SS} (hd : GdL g) (hc : CT c σ) (rec : Int32 → Int32 → Int64 → SS → Option SS) {x s h num : Nat} (hx : x < g.length) (k2 : kd g x = 2) (hb16 : fb g x < 16) (hs : s ≤ 24) (hh : h ≤ s) (hn : num < LIM) (h2 : sumN (ledF g c x s) h ≤ num) (h3 : num < sumN (ledF g c x s) (h + 1)) : ∀ (d i fu : Nat), i + d = h → d < fu → ∃ fu', P_X11_bothOf_j41 rec fu (nI s) (nI (fa g x)) (nI (fb g x)) (lN (num - sumN (ledF g c x s) i)) (nI i) (lN (sat (ledF g c x s i))) σ = P_X11_bothOf_j41 rec (fu' + 1) (nI s) (nI (fa g x)) (nI (fb g x)) (lN (num - sumN (ledF g c x s) h)) (nI h) (lN (sat (ledF g c x s h))) σ := by
  have hL := LIM_lt
  obtain ⟨l0, l1, l2⟩ := gd_lt hd hx
  have et : tlS g x = fb g x := by unfold tlS; rw [if_pos k2]
  intro d
  induction d with
  | zero =>
    intro i fu q1 q2
    obtain ⟨fu, rfl⟩ : ∃ k, fu = k + 1 := ⟨fu - 1, by omega⟩
    have : i = h := by omega
    subst this
    exact ⟨fu, rfl⟩
  | succ d ih =>
    intro i fu q1 q2
    obtain ⟨fu, rfl⟩ : ∃ k, fu = k + 1 := ⟨fu - 1, by omega⟩
    have hm := sumN_le (ledF g c x s) d (i + 1)
    rw [show i + 1 + d = h by omega] at hm
    have e : sumN (ledF g c x s) (i + 1) = sumN (ledF g c x s) i + ledF g c x s i := rfl
    have hsat : sat (ledF g c x s i) = ledF g c x s i := sat_lt (by omega)
    obtain ⟨fu', p⟩ := ih (i + 1) fu (by omega) (by omega)
    refine ⟨fu', ?_⟩
    rw [← p]
    conv => lhs; rw [P_X11_bothOf_j41]
    rw [hsat, if_neg (fun w => by have := (lN_ltB (by omega) (by omega)).mp w; omega), nI_1, m_of hc (by omega) (by omega), Option.bind_some, nI_sub (by omega), m_of hc hb16 (by omega), Option.bind_some, m_times (hc _ (by omega) _ (by omega)).2 (Nat.lt_of_le_of_lt (hc _ hb16 _ (by omega)).2 hL), Option.bind_some, lN_sub (by omega), e, Nat.sub_sub, show ledF g c x s (i + 1) = c (fa g x) (i + 1) * c (fb g x) (s - (i + 1)) by unfold ledF; rw [et]]
def rk (g : List N3) (x s : Nat) : Nat := 17 * s + cnt g x
theorem rk_dn {g : List N3} (hr : Rdy g) {x y s s' : Nat} (hx : x < g.length) (h : dn g (EE g) x y = true) (hs : s' ≤ s) : rk g y s' < rk g x s := by
  have h1 := (NN_lt hr hx h).2
  unfold rk cnt
  omega
theorem rk_lt {g : List N3} (hr : Rdy g) {x y s s' : Nat} (hy : y < g.length) (hs : s' < s) : rk g y s' < rk g x s := by
  have h1 := cnt_lt hr hy
  unfold rk
  omega
/-- a whole thing that is done by one byte, with what is laid up before it -/
theorem whole_wr {σx0 σm0 : SS} {run : Option (Int32 × SS)} {k t x s v : Nat} {l l2 : List It} {σm σx σ2 : SS} {w : Int32} (hm : FM σm0 σm) (ht : t ≤ 2 * k) (hk : k ≤ 300) (a4 : Sb 21 21 5 9 k σx σm) (a5 : Stk ((1, x, s, v) :: l) σx) (a6 : Tl t σx = run) (hx : FX σx0 σ2) (e1 : sI σ2 21 = sI σx 21) (e2 : sA σ2 21 = sA σx 21) (hst : Stk l2 σ2) (hv : isB w) (hw : P_X9_workWhole (nI x) (nI s) (lN v) (uI σx 8 (nI l.length)) = b2 (P_X0_add_10 w σ2) gzk) : ∃ σm1, P_X11_write w σm = some σm1 ∧ BTH σx0 σm0 run (k + 1) (t + 1) l2 σm1 := by
  have hg := run1 a5 (by omega) a6
  rw [hw, b2_gz add_01', b2_gz add_01] at hg
  exact bth_wr hm ht hx (Sb_dr a4 e1 e2) hst hv hg
theorem whole {g : List N3} {c : Nat → Nat → Nat} {b : Nat → Nat → Nat → Nat} {σx0 σm0 : SS} (C : CTX g c b σx0 σm0) : ∀ (r x s v : Nat), rk g x s = r → x < g.length → s ≤ 24 → v < c x s → WW σx0 σm0 x s v := by
  have hLM := LIM_lt
  have hr := C.1
  have hd := hr.1
  have hl := hd.1
  have F := C.full
  intro r
  induction r using Nat.strongRecOn with
  | _ r ih =>
    intro x s v hrk hx hs hv L k t l σm run hL1 hL2 hk1 hc H
    have h16 : x < 16 := by omega
    obtain ⟨l0, l1, l2⟩ := gd_lt hd hx
    have ok := gd_at hd hx
    have nl := hr.2.1 x hx
    obtain ⟨L, rfl⟩ : ∃ q, L = q + 1 := ⟨L - 1, by omega⟩
    have sub : ∀ y s' v', y < g.length → s' ≤ s → (s' < s ∨ dn g (EE g) x y = true) → v' < c y s' → WW σx0 σm0 y s' v' := by
      intro y s' v' hy hs' hor hv'
      refine ih (rk g y s') ?_ y s' v' rfl hy (by omega) hv'
      rw [← hrk]
      rcases hor with z | z
      · exact rk_lt hr hy z
      · exact rk_dn hr hx z hs'
    by_cases z : 300 < k
    · refine ⟨σm, k, t, ?_, Nat.le_refl _, by omega, by omega, H.over z⟩
      show B_X11_thingOf (P_X11_thingOf L) (nI x) (nI s) (lN v) σm = some σm
      unfold B_X11_thingOf
      rw [H.2.1, show (300 : Int32) = nI 300 from rfl, if_neg (fun w => by have := (nI_leI (by omega) (by decide)).mp w; omega)]
    · have hc1 := hc (by omega)
      have hM := C.m H.1
      obtain ⟨m0, m1, m2⟩ := gM_at hM.1 hx
      obtain ⟨h1, h2, h3⟩ := H
      obtain ⟨a1, a2, σx, a3, a4, a5, a6⟩ : k ≤ 300 ∧ t ≤ 2 * k ∧ ∃ σx, FX σx0 σx ∧ Sb 21 21 5 9 k σx σm ∧ Stk ((1, x, s, v) :: l) σx ∧ Tl t σx = run := by
        rcases h3 with h3 | h3
        · exact h3
        · omega
      have F1 := FX_8 a3 (nI l.length)
      have hX := C.x F1
      obtain ⟨x0, x1, x2⟩ := gX_at hX.1 hx
      have hst := a5.pop.2.1
      have hcE := (F.1.2 x hx s hs trivial).1
      have hcL := F.2.1 x h16 s hs
      show ∃ σm' k' t', B_X11_thingOf (P_X11_thingOf L) (nI x) (nI s) (lN v) σm = some σm' ∧ _
      unfold B_X11_thingOf
      rw [h2, show (300 : Int32) = nI 300 from rfl, if_pos (nI_le a1 (by decide)), gI_nI h16 (by decide), ldA_nI (by omega), m0]
      have W0 : P_X9_workWhole (nI x) (nI s) (lN v) (uI σx 8 (nI l.length)) = P_X9_workWhole (nI x) (nI s) (lN v) (uI σx 8 (nI l.length)) := rfl
      conv at W0 => rhs; unfold P_X9_workWhole
      rw [x_kind h16, Option.bind_some, x_a h16, Option.bind_some, x0, x1] at W0
      rcases (show kd g x = 0 ∨ kd g x = 1 ∨ kd g x = 2 ∨ kd g x = 3 ∨ kd g x = 4 ∨ kd g x = 5 ∨ kd g x = 6 ∨ kd g x = 7 ∨ kd g x = 8 by omega) with q | q | q | q | q | q | q | q | q
      · have hb25 : fb g x ≤ 25 := by unfold okI at ok; omega
        rw [q, if_pos (show nI 0 = 0 from rfl), x_b h16, Option.bind_some, x2, show (97 : Int32) + nI (fb g x) = nI (97 + fb g x) from nI_add 97 _] at W0
        obtain ⟨σm1, w1, w2⟩ := whole_wr h1 a2 a1 a4 a5 a6 F1 rfl rfl hst ⟨97 + fb g x, by omega, rfl⟩ W0
        refine ⟨σm1, k + 1, t + 1, ?_, by omega, by omega, by omega, w2⟩
        rw [q, if_pos (show nI 0 = 0 from rfl), gI_nI h16 (by decide), ldA_nI (by omega), m2, show (97 : Int32) + nI (fb g x) = nI (97 + fb g x) from nI_add 97 _, w1, Option.bind_some]
      · rw [q, if_neg (show ¬ nI 1 = 0 by decide), if_pos (show nI 1 = 1 from rfl), vX6_at___O (by decide), Option.bind_some, x_chO.1] at W0
        obtain ⟨σm1, w1, w2⟩ := whole_wr h1 a2 a1 a4 a5 a6 F1 rfl rfl hst ⟨46, by omega, rfl⟩ W0
        refine ⟨σm1, k + 1, t + 1, ?_, by omega, by omega, by omega, w2⟩
        rw [q, if_neg (show ¬ nI 1 = 0 by decide), if_pos (show nI 1 = 1 from rfl), show (46 : Int32) = nI 46 from rfl, w1, Option.bind_some]
      · have la := nl.1 (by omega) (by omega)
        have lb := nl.2 (Or.inl q)
        have et : tlS g x = fb g x := by unfold tlS; rw [if_pos q]
        have eRv : c x s = sat (sumN (ledF g c x s) (s + 1)) := by
          rw [hcE]
          unfold Rv ledF
          rw [if_neg (by omega), if_neg (by omega), if_pos q, et]
        obtain ⟨h, g1, g2, g3, g4, g5⟩ := led_split (g := g) (c := c) (x := x) (s := s) (num := v) (by rw [← eRv]; exact hv)
        have F2 : FX σx0 (uJ (uJ (uI (uI σx 8 (nI l.length)) 9 (nI h)) 0 (lN (Lq g c x s h v))) 1 (lN (Lr g c x s h v))) := F1.tr (Fr.uI (k := 9) (by decide))
        have hst2 : Stk l (uJ (uJ (uI (uI σx 8 (nI l.length)) 9 (nI h)) 0 (lN (Lq g c x s h v))) 1 (lN (Lr g c x s h v))) := hst.frame rfl (fun _ _ _ => rfl) rfl
        obtain ⟨p1, p2, p3, p4⟩ := hst2.push (by omega) 0 41 0 0
        have F3 := FX_p F2 p3
        obtain ⟨q1, q2, q3, q4⟩ := p2.push (by simp; omega) 1 (fb g x) (s - h) (Lr g c x s h v)
        have F4 := FX_p F3 q3
        obtain ⟨r1, r2, r3, r4⟩ := q2.push (by simp; omega) 1 (fa g x) h (Lq g c x s h v)
        have F5 := FX_p F4 r3
        rw [q, if_neg (show ¬ nI 2 = 0 by decide), if_neg (show ¬ nI 2 = 1 by decide), if_pos (show nI 2 = 2 from rfl), x_splitLed hX.1 hd hX.2.1 hx (Or.inl q) hs g1 (by omega) g2 g3 g5, Option.bind_some] at W0
        rw [show ∀ σ, P_X9_push 0 41 0 0 σ = P_X9_push (nI 0) (nI 41) (nI 0) (lN 0) σ from fun _ => rfl, p1, Option.bind_some, x_b h16, Option.bind_some, (gX_at (C.x F3).1 hx).2.2, p4] at W0
        rw [show sI (psh (uJ (uJ (uI (uI σx 8 (nI l.length)) 9 (nI h)) 0 (lN (Lq g c x s h v))) 1 (lN (Lr g c x s h v))) l.length 0 41 0 0) 9 = nI h from rfl, show sJ (uJ (uJ (uI (uI σx 8 (nI l.length)) 9 (nI h)) 0 (lN (Lq g c x s h v))) 1 (lN (Lr g c x s h v))) 1 = lN (Lr g c x s h v) from rfl, nI_sub g1, show (1 : Int32) = nI 1 from rfl, q1, Option.bind_some, q4, p4] at W0
        rw [show sJ (uJ (uJ (uI (uI σx 8 (nI l.length)) 9 (nI h)) 0 (lN (Lq g c x s h v))) 1 (lN (Lr g c x s h v))) 0 = lN (Lq g c x s h v) from rfl] at W0
        have W1 := W0.trans (congrArg (fun o => Option.bind o _) r1)
        rw [Option.bind_some, vX6_at___O (by decide), Option.bind_some, x_chO.2.1] at W1
        obtain ⟨σm1, w1, w2⟩ := whole_wr h1 a2 a1 a4 a5 a6 F5 rfl rfl r2 ⟨40, by omega, rfl⟩ W1
        have hM1 := C.m w2.1
        obtain ⟨σm2, k2, t2, u1, u2, u3, u4, u5⟩ := sub (fa g x) h (Lq g c x s h v) la g1 (by
          by_cases e : h < s
          · exact Or.inl e
          · refine Or.inr (dn_2a hx q ?_)
            cases hE : EE g (fb g x) with
            | true => rfl
            | false =>
              have := F.1.1.1 _ lb hE
              rw [et, show s - h = 0 by omega, this] at g5
              omega) g4 L (k + 1) (t + 1) _ σm1 run (by omega) (by omega) (by omega) (fun w => ⟨by omega, by simp; omega⟩) w2
        have hM2 := C.m u5.1
        obtain ⟨σm3, k3, t3, y1, y2, y3, y4, y5⟩ := sub (fb g x) (s - h) (Lr g c x s h v) lb (by omega) (by
          by_cases e : 0 < h
          · exact Or.inl (by omega)
          · refine Or.inr (dn_2b hx q ?_)
            cases hE : EE g (fa g x) with
            | true => rfl
            | false =>
              have := F.1.1.1 _ la hE
              rw [show h = 0 by omega, this] at g4
              omega) (by rw [et] at g5; exact g5) L k2 t2 _ σm2 run (by omega) (by omega) (by omega) (fun w => ⟨by omega, by simp; omega⟩) u5
        obtain ⟨σm4, z1, z2⟩ := bth_byte y5 (by decide) (by omega)
        refine ⟨σm4, k3 + 1, t3 + 1, ?_, by omega, by omega, fun w => by have := y4 (by omega); omega, z2⟩
        obtain ⟨fu', e41⟩ := m_both41 hd hM.2.1 (P_X11_thingOf L) hx q (by omega) hs g1 (show v < LIM by omega) g2 g3 h 0 FU (by omega) (by unfold FU; omega)
        have hpos : 0 < c (fb g x) (s - h) := by rw [et] at g5; omega
        have hcb := (hM.2.1 (fb g x) (by omega) (s - h) (by omega)).2
        have nz : ¬ lN (c (fb g x) (s - h)) = 0 := fun w => by have := (lN_inj (b := 0) (by omega) (by omega)).mp w; omega
        have eled : v - sumN (ledF g c x s) h < ledF g c x s h := by rw [sumN] at g3; omega
        have hsl := sat_le (ledF g c x s h)
        rw [q, if_neg (show ¬ nI 2 = 0 by decide), if_neg (show ¬ nI 2 = 1 by decide), if_pos (show nI 2 = 2 from rfl)]
        unfold P_X11_bothOf
        rw [gI_nI h16 (by decide), gI_nI h16 (by decide), ldA_nI (by omega), ldA_nI (by omega), m1, m2, show (0 : Int32) = nI 0 from rfl, m_of hM.2.1 (by omega) (by omega), Option.bind_some, m_of hM.2.1 (by omega) hs, Option.bind_some, m_times (hM.2.1 _ (by omega) _ (by omega)).2 (Nat.lt_of_le_of_lt (hM.2.1 _ (by omega) _ hs).2 hLM), Option.bind_some]
        have e0 : ledF g c x s 0 = c (fa g x) 0 * c (fb g x) s := by unfold ledF; rw [et, Nat.sub_zero]
        rw [show sumN (ledF g c x s) 0 = 0 from rfl, Nat.sub_zero, e0] at e41
        rw [e41, P_X11_bothOf_j41, if_pos ((lN_ltB (by omega) (by omega)).mpr (lt_sat eled (by omega))), show (40 : Int32) = nI 40 from rfl, w1, Option.bind_some, nI_sub g1, m_of hM1.2.1 (by omega) (by omega), Option.bind_some, gN_of nz, lN_div (by omega) (by omega)]
        have eq1 : (v - sumN (ledF g c x s) h) / c (fb g x) (s - h) = Lq g c x s h v := by unfold Lq; rw [et]
        have er1 : (v - sumN (ledF g c x s) h) % c (fb g x) (s - h) = Lr g c x s h v := by unfold Lr; rw [et]
        rw [eq1, u1, Option.bind_some, m_of hM2.2.1 (by omega) (by omega), Option.bind_some, gN_of nz, lN_mod (by omega) (by omega), er1, y1, Option.bind_some, show (41 : Int32) = nI 41 from rfl, z1, Option.bind_some, Option.bind_some]
      · have la := nl.1 (by omega) (by omega)
        have lb := nl.2 (Or.inr q)
        have eRv : c x s = sat (c (fa g x) s + c (fb g x) s) := by
          rw [hcE]
          unfold Rv
          rw [if_neg (by omega), if_neg (by omega), if_neg (by omega), if_pos q]
        have hcf := F.2.1 (fa g x) (by omega) s hs
        have hv2 : v < c (fa g x) s + c (fb g x) s := sat_lt_of (by rw [← eRv]; exact hv)
        rw [q, if_neg (show ¬ nI 3 = 0 by decide), if_neg (show ¬ nI 3 = 1 by decide), if_neg (show ¬ nI 3 = 2 by decide), if_pos (show nI 3 = 3 from rfl)] at W0
        unfold P_X9_workEither at W0
        rw [x_a h16, Option.bind_some, x1, x_of hX.2.1 (by omega) hs, Option.bind_some] at W0
        rw [q, if_neg (show ¬ nI 3 = 0 by decide), if_neg (show ¬ nI 3 = 1 by decide), if_neg (show ¬ nI 3 = 2 by decide), if_pos (show nI 3 = 3 from rfl)]
        unfold P_X11_eitherOf P_X11_eitherOf_j28
        rw [gI_nI h16 (by decide), ldA_nI (by omega), m1, m_of hM.2.1 (by omega) hs, Option.bind_some]
        by_cases e : c (fa g x) s ≤ v
        · have e' : lN (c (fa g x) s) ≤ lN v := (lN_leB (by omega) (by omega)).mpr e
          obtain ⟨p1, p2, p3, p4⟩ := hst.push (by omega) 1 (fb g x) s (v - c (fa g x) s)
          rw [if_pos e', x_b h16, Option.bind_some, x2, lN_sub e, show (1 : Int32) = nI 1 from rfl, p1, Option.bind_some, b2_gz add_01] at W0
          obtain ⟨σm1, w1, w2⟩ := whole_wr h1 a2 a1 a4 a5 a6 (FX_p F1 p3) rfl rfl p2 ⟨50, by omega, rfl⟩ W0
          have hM1 := C.m w2.1
          obtain ⟨σm2, k2, t2, u1, u2, u3, u4, u5⟩ := sub (fb g x) s (v - c (fa g x) s) lb (by omega) (Or.inr (dn_b3 hx q)) (by omega) L (k + 1) (t + 1) _ σm1 run (by omega) (by omega) (by omega) (fun w => ⟨by omega, by omega⟩) w2
          refine ⟨σm2, k2, t2, ?_, by omega, by omega, u4, u5⟩
          rw [if_pos e', show (50 : Int32) = nI 50 from rfl, w1, Option.bind_some, if_pos e', gI_nI h16 (by decide), ldA_nI (by omega), (gM_at hM1.1 hx).2.2, lN_sub e, u1, Option.bind_some, Option.bind_some]
        · have e' : ¬ lN (c (fa g x) s) ≤ lN v := fun w => e ((lN_leB (by omega) (by omega)).mp w)
          obtain ⟨p1, p2, p3, p4⟩ := hst.push (by omega) 1 (fa g x) s v
          rw [if_neg e', Option.bind_some, show (1 : Int32) = nI 1 from rfl, p1, Option.bind_some, b2_gz add_01] at W0
          obtain ⟨σm1, w1, w2⟩ := whole_wr h1 a2 a1 a4 a5 a6 (FX_p F1 p3) rfl rfl p2 ⟨49, by omega, rfl⟩ W0
          have hM1 := C.m w2.1
          obtain ⟨σm2, k2, t2, u1, u2, u3, u4, u5⟩ := sub (fa g x) s v la (by omega) (Or.inr (dn_a hx (by omega) (by omega))) (by omega) L (k + 1) (t + 1) _ σm1 run (by omega) (by omega) (by omega) (fun w => ⟨by omega, by omega⟩) w2
          refine ⟨σm2, k2, t2, ?_, by omega, by omega, u4, u5⟩
          rw [if_neg e', show (49 : Int32) = nI 49 from rfl, w1, Option.bind_some, if_neg e', gI_nI h16 (by decide), ldA_nI (by omega), (gM_at hM1.1 hx).2.1, u1, Option.bind_some, Option.bind_some]
      · have la := nl.1 (by omega) (by omega)
        obtain ⟨p1, p2, p3, p4⟩ := hst.push (by omega) 2 x s v
        rw [q, if_neg (show ¬ nI 4 = 0 by decide), if_neg (show ¬ nI 4 = 1 by decide), if_neg (show ¬ nI 4 = 2 by decide), if_neg (show ¬ nI 4 = 3 by decide), if_pos (show nI 4 = 4 from rfl)] at W0
        unfold P_X9_workWhole_j156 at W0
        rw [show (2 : Int32) = nI 2 from rfl, p1, Option.bind_some, vX6_at___O (by decide), Option.bind_some, x_chO.2.2.1] at W0
        obtain ⟨σm1, w1, w2⟩ := whole_wr h1 a2 a1 a4 a5 a6 (FX_p F1 p3) rfl rfl p2 ⟨91, by omega, rfl⟩ W0
        obtain ⟨σm2, k2, t2, u1, u2, u3, u4, u5⟩ := row_rest C hx q hs (show 1 ≤ L by omega) (by omega) (fun h w e1 e2 e3 => sub (fa g x) h w la e2 (Or.inr (dn_a hx (by omega) (by omega))) e3) s (Nat.le_refl _) v (k + 1) (t + 1) l σm1 run FU hv (by unfold FU; omega) (by omega) (fun w => ⟨by omega, by omega, by omega⟩) w2
        refine ⟨σm2, k2, t2, ?_, by omega, by omega, u4, u5⟩
        rw [q, if_neg (show ¬ nI 4 = 0 by decide), if_neg (show ¬ nI 4 = 1 by decide), if_neg (show ¬ nI 4 = 2 by decide), if_neg (show ¬ nI 4 = 3 by decide), if_pos (show nI 4 = 4 from rfl)]
        unfold P_X11_rowOf
        rw [gI_nI h16 (by decide), ldA_nI (by omega), m1, show (91 : Int32) = nI 91 from rfl, w1, Option.bind_some, u1, Option.bind_some]
      · have la := nl.1 (by omega) (by omega)
        have hB : isB56 g x := Or.inl q
        obtain ⟨p1, p2, p3, p4⟩ := hst.push (by omega) 2 x s v
        rw [q, if_neg (show ¬ nI 5 = 0 by decide), if_neg (show ¬ nI 5 = 1 by decide), if_neg (show ¬ nI 5 = 2 by decide), if_neg (show ¬ nI 5 = 3 by decide), if_neg (show ¬ nI 5 = 4 by decide), if_pos (show nI 5 = 5 from rfl)] at W0
        unfold P_X9_workWhole_j156 at W0
        rw [show (2 : Int32) = nI 2 from rfl, p1, Option.bind_some, vX6_at___O (by decide), Option.bind_some, x_chO.2.2.2.1] at W0
        obtain ⟨σm1, w1, w2⟩ := whole_wr h1 a2 a1 a4 a5 a6 (FX_p F1 p3) rfl rfl p2 ⟨123, by omega, rfl⟩ W0
        obtain ⟨σm2, k2, t2, u1, u2, u3, u4, u5⟩ := set_rest C hx hB hs (show 1 ≤ L by omega) (by omega) (fun h w e1 e2 e3 => sub (fa g x) h w la e2 (Or.inr (dn_a hx (by omega) (by omega))) e3) s (Nat.le_refl _) v (k + 1) (t + 1) l σm1 run FU (by rw [← F.c_56 hx hB hs]; exact hv) (by unfold FU; omega) (by omega) (fun w => ⟨by omega, by omega, by omega⟩) w2
        refine ⟨σm2, k2, t2, ?_, by omega, by omega, u4, u5⟩
        rw [q, if_neg (show ¬ nI 5 = 0 by decide), if_neg (show ¬ nI 5 = 1 by decide), if_neg (show ¬ nI 5 = 2 by decide), if_neg (show ¬ nI 5 = 3 by decide), if_neg (show ¬ nI 5 = 4 by decide), if_pos (show nI 5 = 5 from rfl)]
        unfold P_X11_setOf P_X11_setOf_j24
        rw [gI_nI h16 (by decide), ldA_nI (by omega), m0, q, if_neg (show ¬ ¬ nI 5 = 5 from fun z => z rfl), show (123 : Int32) = nI 123 from rfl, w1, Option.bind_some, u1, Option.bind_some]
      · have la := nl.1 (by omega) (by omega)
        have hB : isB56 g x := Or.inr q
        obtain ⟨p1, p2, p3, p4⟩ := hst.push (by omega) 2 x s v
        rw [q, if_neg (show ¬ nI 6 = 0 by decide), if_neg (show ¬ nI 6 = 1 by decide), if_neg (show ¬ nI 6 = 2 by decide), if_neg (show ¬ nI 6 = 3 by decide), if_neg (show ¬ nI 6 = 4 by decide), if_neg (show ¬ nI 6 = 5 by decide), if_pos (show nI 6 = 6 from rfl)] at W0
        unfold P_X9_workWhole_j156 at W0
        rw [show (2 : Int32) = nI 2 from rfl, p1, Option.bind_some, vX6_at___O (by decide), Option.bind_some, x_chO.2.2.2.2.1] at W0
        obtain ⟨σm1, w1, w2⟩ := whole_wr h1 a2 a1 a4 a5 a6 (FX_p F1 p3) rfl rfl p2 ⟨60, by omega, rfl⟩ W0
        obtain ⟨σm2, k2, t2, u1, u2, u3, u4, u5⟩ := set_rest C hx hB hs (show 1 ≤ L by omega) (by omega) (fun h w e1 e2 e3 => sub (fa g x) h w la e2 (Or.inr (dn_a hx (by omega) (by omega))) e3) s (Nat.le_refl _) v (k + 1) (t + 1) l σm1 run FU (by rw [← F.c_56 hx hB hs]; exact hv) (by unfold FU; omega) (by omega) (fun w => ⟨by omega, by omega, by omega⟩) w2
        refine ⟨σm2, k2, t2, ?_, by omega, by omega, u4, u5⟩
        rw [q, if_neg (show ¬ nI 6 = 0 by decide), if_neg (show ¬ nI 6 = 1 by decide), if_neg (show ¬ nI 6 = 2 by decide), if_neg (show ¬ nI 6 = 3 by decide), if_neg (show ¬ nI 6 = 4 by decide), if_neg (show ¬ nI 6 = 5 by decide), if_pos (show nI 6 = 6 from rfl)]
        unfold P_X11_setOf P_X11_setOf_j24
        rw [gI_nI h16 (by decide), ldA_nI (by omega), m0, q, if_pos (show ¬ nI 6 = 5 by decide), show (60 : Int32) = nI 60 from rfl, w1, Option.bind_some, u1, Option.bind_some]
      · have la := nl.1 (by omega) (by omega)
        have hv7 : v < c (fa g x) s := by
          rw [hcE] at hv
          unfold Rv at hv
          rw [if_neg (by omega), if_neg (by omega), if_neg (by omega), if_neg (by omega), if_neg (by omega), if_neg (by omega), if_neg (by omega), if_pos q] at hv
          split at hv
          · exact hv
          · omega
        obtain ⟨p1, p2, p3, p4⟩ := hst.push (by omega) 1 (fa g x) s v
        rw [q, if_neg (show ¬ nI 7 = 0 by decide), if_neg (show ¬ nI 7 = 1 by decide), if_neg (show ¬ nI 7 = 2 by decide), if_neg (show ¬ nI 7 = 3 by decide), if_neg (show ¬ nI 7 = 4 by decide), if_neg (show ¬ nI 7 = 5 by decide), if_neg (show ¬ nI 7 = 6 by decide), if_pos (show nI 7 = 7 from rfl), show (1 : Int32) = nI 1 from rfl, p1, Option.bind_some, vX6_at___O (by decide), Option.bind_some, x_chO.2.2.2.2.2] at W0
        obtain ⟨σm1, w1, w2⟩ := whole_wr h1 a2 a1 a4 a5 a6 (FX_p F1 p3) rfl rfl p2 ⟨33, by omega, rfl⟩ W0
        have hM1 := C.m w2.1
        obtain ⟨σm2, k2, t2, u1, u2, u3, u4, u5⟩ := sub (fa g x) s v la (by omega) (Or.inr (dn_a hx (by omega) (by omega))) hv7 L (k + 1) (t + 1) _ σm1 run (by omega) (by omega) (by omega) (fun w => ⟨by omega, by omega⟩) w2
        refine ⟨σm2, k2, t2, ?_, by omega, by omega, u4, u5⟩
        rw [q, if_neg (show ¬ nI 7 = 0 by decide), if_neg (show ¬ nI 7 = 1 by decide), if_neg (show ¬ nI 7 = 2 by decide), if_neg (show ¬ nI 7 = 3 by decide), if_neg (show ¬ nI 7 = 4 by decide), if_neg (show ¬ nI 7 = 5 by decide), if_neg (show ¬ nI 7 = 6 by decide), if_pos (show nI 7 = 7 from rfl), show (33 : Int32) = nI 33 from rfl, w1, Option.bind_some, gI_nI h16 (by decide), ldA_nI (by omega), (gM_at hM1.1 hx).2.1, u1, Option.bind_some]
      · have ha8 : 1 ≤ fa g x ∧ fa g x ≤ 8 := by unfold okI at ok; omega
        have hv8 : v < fct (fa g x) := by
          rw [hcE] at hv
          unfold Rv at hv
          rw [if_neg (by omega), if_neg (by omega), if_neg (by omega), if_neg (by omega), if_neg (by omega), if_neg (by omega), if_neg (by omega), if_neg (by omega), if_pos q] at hv
          split at hv
          · rename_i e
            rw [← e]; exact hv
          · omega
        have hU : ∀ j, j < 32 → bt 0 j = (fun _ => false) j := fun j _ => b_0 j
        have huc : ∀ d p, uc (fun _ => false) d p = d := by
          intro d
          induction d with
          | zero => intro p; rfl
          | succ d ih => intro p; rw [uc, ih]; simp; omega
        rw [q, if_neg (show ¬ nI 8 = 0 by decide), if_neg (show ¬ nI 8 = 1 by decide), if_neg (show ¬ nI 8 = 2 by decide), if_neg (show ¬ nI 8 = 3 by decide), if_neg (show ¬ nI 8 = 4 by decide), if_neg (show ¬ nI 8 = 5 by decide), if_neg (show ¬ nI 8 = 6 by decide), if_neg (show ¬ nI 8 = 7 by decide), if_pos (show nI 8 = 8 from rfl)] at W0
        have hg := run1 a5 (by omega) a6
        rw [W0] at hg
        obtain ⟨σm1, w1, w2, w3, w4⟩ := wr (v := nI 61) (σx := uI σx 8 (nI l.length)) (Sb_dr a4 rfl rfl) ⟨61, by omega, rfl⟩
        have eL : P_X11_lettersOf (nI (fa g x)) (lN v) σm = P_X11_lettersOf_j17 FU (lN v) 0 (nI (fa g x) + (-1)) σm1 := by
          unfold P_X11_lettersOf
          rw [show (61 : Int32) = nI 61 from rfl, w1, Option.bind_some, Int32.sub_eq_add_neg]
        rw [q, if_neg (show ¬ nI 8 = 0 by decide), if_neg (show ¬ nI 8 = 1 by decide), if_neg (show ¬ nI 8 = 2 by decide), if_neg (show ¬ nI 8 = 3 by decide), if_neg (show ¬ nI 8 = 4 by decide), if_neg (show ¬ nI 8 = 5 by decide), if_neg (show ¬ nI 8 = 6 by decide), if_neg (show ¬ nI 8 = 7 by decide), if_pos (show nI 8 = 8 from rfl), gI_nI h16 (by decide), ldA_nI (by omega), m1, eL]
        rw [show (61 : Int32) = nI 61 from rfl] at hg
        rcases w4 with ⟨y0, σ1, b1, b3, b4⟩ | ⟨y0, b1⟩
        · obtain ⟨σm2, c1, c2, c3, σ2, c4, c5⟩ := lettersB ha8.2 (fa g x) v (k + 1) (fun _ => false) 0 σ1 σm1 FU (Nat.le_refl _) hU (huc _ _) hv8 (by unfold FU; omega) b4
          have FX2 : FX σx0 σ2 := F1.tr ((b3.tr c4).mono (by decide) (by decide) (by decide))
          rw [b1, b2_some, if_neg (show ¬ (1 : Int32) = 0 by decide)] at hg
          unfold P_X9_addLetters at hg
          rw [Int32.sub_eq_add_neg] at hg
          refine ⟨σm2, k + 1 + fa g x, t + 1, by rw [c1, Option.bind_some], by omega, by omega, by omega, (h1.tr w2).tr c2, c3, ?_⟩
          rcases c5 with ⟨d1, d2, d3⟩ | ⟨d1, dd, d2⟩
          · have b5 := b3.tr c4
            rw [d2] at hg
            exact Or.inl ⟨d1, by omega, σ2, FX2, d3, hst.frame (b5.1 8 (by decide)) (fun j z1 z2 => b5.2.1 j (by simp; omega)) (b5.2.2 2 (by decide)), hg.symm⟩
          · rw [d2] at hg
            exact Or.inr ⟨d1, σ2, FX2, dd, hg⟩
        · obtain ⟨σm2, c1, c2, c3⟩ := lettersM ha8.2 (fa g x) v (k + 1) (fun _ => false) 0 σm1 FU (Nat.le_refl _) hU (huc _ _) hv8 (by unfold FU; omega) w3 (by omega) (by omega)
          rw [b1, b2_some, if_pos rfl] at hg
          exact ⟨σm2, k + 1 + fa g x, t + 1, by rw [c1, Option.bind_some], by omega, by omega, by omega, (h1.tr w2).tr c2, c3, Or.inr ⟨by omega, _, F1, ⟨k, a1, a4.2.1⟩, hg⟩⟩
