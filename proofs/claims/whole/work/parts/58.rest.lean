/-! a row's, a set's rest -/
def WW (σx0 σm0 : SS) (x s v : Nat) : Prop := ∀ (L k t : Nat) (l : List It) (σm : SS) (run : Option (Int32 × SS)), 1 ≤ L → L ≤ 310 → k < 1000 → (k ≤ 300 → 302 ≤ k + L ∧ l.length ≤ 2 * k) → BTH σx0 σm0 run k t ((1, x, s, v) :: l) σm → ∃ σm' k' t', P_X11_thingOf L (nI x) (nI s) (lN v) σm = some σm' ∧ k ≤ k' ∧ k' ≤ max k (310 + L) ∧ (k' ≤ 300 → t' + 1 ≤ 2 * k') ∧ BTH σx0 σm0 run k' t' l σm'
theorem x_rest54 {g : List N3} {σx0 σ : SS} {l : List It} {x s h q r : Nat} (hg : gX' g σx0) (hd : GdL g) (hx : x < g.length) (hF : FX σx0 σ) (hst : Stk l σ) (hl : l.length < 606) (hh : h ≤ s) (e9 : sI σ 9 = nI h) (e0 : sJ σ 0 = lN q) (e1 : sJ σ 1 = lN r) : ∃ σ', P_X9_workRest_j54 (nI x) (nI s) σ = some (1, σ') ∧ FX σx0 σ' ∧ Stk ((1, fa g x, h, q) :: (2, x, s - h, r) :: l) σ' ∧ sI σ' 21 = sI σ 21 ∧ sA σ' 21 = sA σ 21 := by
  have h16 : x < 16 := Nat.lt_of_lt_of_le hx hd.1
  obtain ⟨p1, p2, p3, p4⟩ := hst.push (by omega) 2 x (s - h) r
  obtain ⟨q1, q2, q3, q4⟩ := p2.push (by simp; omega) 1 (fa g x) h q
  have hF2 := FX_p hF p3
  have hg2 : gX' g (psh σ l.length 2 x (s - h) r) := hF2.gX hg (by decide) (by decide) (by decide) (by decide)
  refine ⟨_, ?_, FX_p hF2 q3, q2, rfl, rfl⟩
  unfold P_X9_workRest_j54
  rw [e9, e1, nI_sub hh, show (2 : Int32) = nI 2 from rfl, p1, Option.bind_some, x_a h16, Option.bind_some, (gX_at hg2 hx).2.1, show sI (psh σ l.length 2 x (s - h) r) 9 = sI σ 9 from rfl, p4, e9, e0, show (1 : Int32) = nI 1 from rfl, q1, Option.bind_some]
/-- the class lays up a set's or a row's rest and its first thing -/
theorem rest_push {g : List N3} {c : Nat → Nat → Nat} {b : Nat → Nat → Nat → Nat} {σx0 σm0 : SS} (C : CTX g c b σx0 σm0) {run : Option (Int32 × SS)} {k t x s v h q r : Nat} {l : List It} {σm : SS} (hx : x < g.length) (hs : 0 < s) (hs24 : s ≤ 24) (hh : h ≤ s) (hl : k ≤ 300 → l.length + 1 ≤ 2 * k ∧ t + 1 ≤ 2 * k) (hsp : ∀ σ, gX' g σ → XT g c b σ (fun _ _ => True) → P_X9_workRest (nI x) (nI s) (lN v) σ = P_X9_workRest_j54 (nI x) (nI s) (uJ (uJ (uI σ 9 (nI h)) 0 (lN q)) 1 (lN r))) (H : BTH σx0 σm0 run k t ((2, x, s, v) :: l) σm) : BTH σx0 σm0 run k (t + 1) ((1, fa g x, h, q) :: (2, x, s - h, r) :: l) σm := by
  by_cases z : 300 < k
  · exact H.over z
  · obtain ⟨h1, h2, h3⟩ := H
    rcases h3 with ⟨a1, a2, σx, a3, a4, a5, a6⟩ | h3
    · have hb := hl a1
      have hg := run2 a5 (by omega) a6
      have F1 := FX_8 a3 (nI l.length)
      have hX := C.x F1
      have F2 : FX σx0 (uJ (uJ (uI (uI σx 8 (nI l.length)) 9 (nI h)) 0 (lN q)) 1 (lN r)) := F1.tr (Fr.uI (k := 9) (by decide))
      rw [hsp _ hX.1 hX.2] at hg
      obtain ⟨σ', p1, p2, p3, p4, p5⟩ := x_rest54 (s := s) C.2.1 C.1.1 hx F2 (a5.pop.2.1.frame rfl (fun _ _ _ => rfl) rfl) (by omega) hh rfl rfl rfl
      rw [p1] at hg
      have hg2 : run = Tl (t + 1) σ' := hg
      exact ⟨h1, h2, Or.inl ⟨a1, by omega, σ', p2, Sb_dr a4 p4 p5, p3, hg2.symm⟩⟩
    · omega
theorem x_isBag {g : List N3} {σ : SS} (hg : gX' g σ) (hd : GdL g) {x : Nat} (hx : x < g.length) : P_X1_isBag (nI x) σ = some (b2i (decide (kd g x = 5 ∨ kd g x = 6))) := by
  have h16 : x < 16 := Nat.lt_of_lt_of_le hx hd.1
  obtain ⟨l0, l1, l2⟩ := gd_lt hd hx
  unfold P_X1_isBag
  rw [x_kind h16, Option.bind_some, (gX_at hg hx).1]
  rcases (show kd g x = 0 ∨ kd g x = 1 ∨ kd g x = 2 ∨ kd g x = 3 ∨ kd g x = 4 ∨ kd g x = 5 ∨ kd g x = 6 ∨ kd g x = 7 ∨ kd g x = 8 by omega) with z | z | z | z | z | z | z | z | z <;> rw [z] <;> decide
theorem m_row49 {g : List N3} {c : Nat → Nat → Nat} {σ : SS} (hd : GdL g) (hc : CT c σ) (rec : Int32 → Int32 → Int64 → SS → Option SS) (K20 : Int32 → Int32 → Int64 → Int32 → SS → Option SS) {x s h num : Nat} (hx : x < g.length) (k4 : kd g x = 4) (hs : s ≤ 24) (hh : h ≤ s) (hn : num < LIM) (h2 : sumN (ledF g c x s) h ≤ num) (h3 : num < sumN (ledF g c x s) (h + 1)) (hr : Lr g c x s h num < c (tlS g x) (s - h)) : ∀ (d i fu : Nat), i + d = h → d < fu → P_X11_rowOf_j49 rec K20 fu (nI x) (nI (fa g x)) (lN (num - sumN (ledF g c x s) i)) (nI s) (nI i) (lN (sat (ledF g c x s i))) σ = (rec (nI (fa g x)) (nI h) (lN (Lq g c x s h num)) σ).bind fun σ6 => K20 (nI x) (nI (fa g x)) (lN (Lr g c x s h num)) (nI (s - h)) σ6 := by
  have hL := LIM_lt
  have h16 : x < 16 := Nat.lt_of_lt_of_le hx hd.1
  obtain ⟨l0, l1, l2⟩ := gd_lt hd hx
  have et : tlS g x = x := by unfold tlS; rw [if_neg (by omega)]
  have hcb := (hc x h16 (s - h) (by omega)).2
  intro d
  induction d with
  | zero =>
    intro i fu q1 q2
    obtain ⟨fu, rfl⟩ : ∃ k, fu = k + 1 := ⟨fu - 1, by omega⟩
    have : i = h := by omega
    subst this
    have e : num - sumN (ledF g c x s) i < ledF g c x s i := by rw [sumN] at h3; omega
    have hsl := sat_le (ledF g c x s i)
    rw [et] at hr
    have nz : ¬ lN (c x (s - i)) = 0 := fun w => by have := (lN_inj (b := 0) (by omega) (by omega)).mp w; omega
    rw [P_X11_rowOf_j49, if_pos ((lN_ltB (by omega) (by omega)).mpr (lt_sat e (by omega))), nI_sub hh, m_of hc h16 (by omega), Option.bind_some, gN_of nz, lN_mod (by omega) (by omega), lN_div (by omega) (by omega)]
    unfold Lq Lr
    rw [et]
    congr 1
    funext σ6
    rw [gN_of nz]
  | succ d ih =>
    intro i fu q1 q2
    obtain ⟨fu, rfl⟩ : ∃ k, fu = k + 1 := ⟨fu - 1, by omega⟩
    have hm := sumN_le (ledF g c x s) d (i + 1)
    rw [show i + 1 + d = h by omega] at hm
    have e : sumN (ledF g c x s) (i + 1) = sumN (ledF g c x s) i + ledF g c x s i := rfl
    have hsat : sat (ledF g c x s i) = ledF g c x s i := sat_lt (by omega)
    rw [P_X11_rowOf_j49, hsat, if_neg (fun w => by have := (lN_ltB (by omega) (by omega)).mp w; omega), nI_1, m_of hc (by omega) (by omega), Option.bind_some, nI_sub (by omega), m_of hc h16 (by omega), Option.bind_some, m_times (hc _ (by omega) _ (by omega)).2 (Nat.lt_of_le_of_lt (hc _ h16 _ (by omega)).2 hL), Option.bind_some, lN_sub (by omega)]
    have := ih (i + 1) fu (by omega) (by omega)
    rw [e, ← Nat.sub_sub, show ledF g c x s (i + 1) = c (fa g x) (i + 1) * c x (s - (i + 1)) by unfold ledF; rw [et]] at this
    exact this
theorem row_rest {g : List N3} {c : Nat → Nat → Nat} {b : Nat → Nat → Nat → Nat} {σx0 σm0 : SS} (C : CTX g c b σx0 σm0) {x S L : Nat} (hx : x < g.length) (k4 : kd g x = 4) (hS : S ≤ 24) (hL1 : 1 ≤ L) (hL2 : L ≤ 309) (hW : ∀ h v, 1 ≤ h → h ≤ S → v < c (fa g x) h → WW σx0 σm0 (fa g x) h v) : ∀ (s : Nat), s ≤ S → ∀ (v k t : Nat) (l : List It) (σm : SS) (run : Option (Int32 × SS)) (fu : Nat), v < c x s → s < fu → k < 1000 → (k ≤ 300 → 302 ≤ k + L ∧ l.length + 1 ≤ 2 * k ∧ t + 1 ≤ 2 * k) → BTH σx0 σm0 run k t ((2, x, s, v) :: l) σm → ∃ σm' k' t', P_X11_rowOf_j20 (P_X11_thingOf L) fu (nI x) (nI (fa g x)) (lN v) (nI s) σm = some σm' ∧ k ≤ k' ∧ k' ≤ max k (310 + L) + 1 ∧ (k' ≤ 300 → t' + 1 ≤ 2 * k') ∧ BTH σx0 σm0 run k' t' l σm' := by
  have hLM := LIM_lt
  have hr := C.1
  have hd := hr.1
  have hl := hd.1
  have F := C.full
  have h16 : x < 16 := Nat.lt_of_lt_of_le hx hd.1
  obtain ⟨l0, l1, l2⟩ := gd_lt hd hx
  have et : tlS g x = x := by unfold tlS; rw [if_neg (by omega)]
  have la := (hr.2.1 x hx).1 (by omega) (by omega)
  have c0 : c (fa g x) 0 = 0 := F.1.1.1 _ la (noE_a hr hx (by omega) (by omega))
  intro s
  induction s using Nat.strongRecOn with
  | _ s ih =>
    intro hsS v k t l σm run fu hv hfu hk hc H
    obtain ⟨fu, rfl⟩ : ∃ k, fu = k + 1 := ⟨fu - 1, by omega⟩
    have hM := C.m H.1
    by_cases s0 : s = 0
    · subst s0
      obtain ⟨σm1, w1, w2⟩ := bth_close C (e := 93) hx (by omega) (by rw [k4]; exact x_chC.1) (by decide) H (by omega)
      refine ⟨σm1, k + 1, t + 1, ?_, by omega, by omega, fun z => ?_, w2⟩
      · rw [P_X11_rowOf_j20, if_pos (by decide), show (93 : Int32) = nI 93 from rfl, w1, Option.bind_some]
      · have := hc (by omega)
        omega
    · have hcl := F.2.1 x h16 s (by omega)
      have eRv : c x s = sat (sumN (ledF g c x s) (s + 1)) := by
        have e := (F.1.2 x hx s (by omega) trivial).1
        rw [e]
        unfold Rv ledF
        rw [if_neg (by omega), if_neg (by omega), if_neg (by omega), if_neg (by omega), if_pos k4, if_neg s0, et]
      obtain ⟨h, g1, g2, g3, g4, g5⟩ := led_split (g := g) (c := c) (x := x) (s := s) (num := v) (by rw [← eRv]; exact hv)
      have F0 : ledF g c x s 0 = 0 := by unfold ledF; rw [c0, Nat.zero_mul]
      have S1 : sumN (ledF g c x s) 1 = 0 := by show 0 + ledF g c x s 0 = 0; rw [F0]
      have hh1 : 1 ≤ h := by
        apply Classical.byContradiction
        intro z
        rw [show h = 0 by omega, Nat.zero_add, S1] at g3
        omega
      have H1 : BTH σx0 σm0 run k (t + 1) ((1, fa g x, h, Lq g c x s h v) :: (2, x, s - h, Lr g c x s h v) :: l) σm := by
        refine rest_push C hx (by omega) (by omega) g1 (fun z => ⟨(hc z).2.1, (hc z).2.2⟩) (fun σ q1 q2 => ?_) H
        have hnB : ¬ isB56 g x := by unfold isB56; omega
        unfold P_X9_workRest
        rw [if_pos (show (0 : Int32) < nI s from nI_lt (a := 0) (by omega) (by omega)), x_isBag q1 hd hx, Option.bind_some, decide_eq_false (show ¬ (kd g x = 5 ∨ kd g x = 6) from hnB), b2i_f, if_pos rfl, x_splitLed q1 hd q2.1 hx (Or.inr k4) (by omega) g1 (by omega) g2 g3 g5, Option.bind_some]
      obtain ⟨σ1, k1, t1, w1, w2, w3, w4, w5⟩ := hW h _ hh1 (by omega) g4 L k (t + 1) _ σm run hL1 (by omega) hk (fun z => ⟨(hc z).1, by simp; exact (hc z).2.1⟩) H1
      obtain ⟨σ2, k2, t2, u1, u2, u3, u4, u5⟩ := ih (s - h) (by omega) (by omega) _ k1 t1 l σ1 run fu (by rw [et] at g5; exact g5) (by omega) (by omega) (fun z => ⟨by have := hc (by omega); omega, by have := hc (by omega); omega, w4 z⟩) w5
      refine ⟨σ2, k2, t2, ?_, by omega, by omega, u4, u5⟩
      have m49 := m_row49 hd hM.2.1 (P_X11_thingOf L) (P_X11_rowOf_j20 (P_X11_thingOf L) fu) hx k4 (show s ≤ 24 by omega) g1 (show v < LIM by omega) g2 g3 g5 (h - 1) 1 FU (by omega) (by unfold FU; omega)
      rw [S1, Nat.sub_zero, w1, Option.bind_some, u1, show ledF g c x s 1 = c (fa g x) 1 * c x (s - 1) by unfold ledF; rw [et]] at m49
      rw [P_X11_rowOf_j20, if_neg (fun w => by have := (nI_leI (b := 0) (by omega) (by omega)).mp w; omega), show (1 : Int32) = nI 1 from rfl, m_of hM.2.1 (by omega) (by omega), Option.bind_some, nI_sub (by omega), m_of hM.2.1 h16 (by omega), Option.bind_some, m_times (hM.2.1 _ (by omega) _ (by omega)).2 (Nat.lt_of_le_of_lt (hM.2.1 _ h16 _ (by omega)).2 hLM), Option.bind_some]
      exact m49
theorem m_set35 {g : List N3} {c : Nat → Nat → Nat} {b : Nat → Nat → Nat → Nat} {σ : SS} (hg : gM' g σ) (hd : GdL g) (hM : MT g c b σ (fun _ _ => True)) (rec : Int32 → Int32 → Int64 → SS → Option SS) (K27 : Int32 → Int64 → Int32 → SS → Option SS) {x s h num f : Nat} (hx : x < g.length) (hB : isB56 g x) (hs : s ≤ 24) (h1 : 1 ≤ h) (hh : h ≤ s) (hn : num < LIM) (hlt : num < b x s h) (hge : ∀ u, 1 ≤ u → u < h → b x s u ≤ num) (f1 : f < c (fa g x) h) (f2 : Wf g b x s h f ≤ num) (f3 : num < Wf g b x s h (f + 1)) : ∀ (d u fu : Nat), u + d = h → 1 ≤ u → d < fu → P_X11_setOf_j35 rec K27 fu (nI x) (lN num) (nI s) (nI u) σ = (rec (nI (fa g x)) (nI h) (lN f) σ).bind fun σ10 => K27 (nI x) (lN (num - Wf g b x s h f)) (nI (s - h)) σ10 := by
  have hL := LIM_lt
  have h16 : x < 16 := Nat.lt_of_lt_of_le hx hd.1
  obtain ⟨e0, e1, e2⟩ := gM_at hg hx
  obtain ⟨l0, l1, l2⟩ := gd_lt hd hx
  have hC := (hM.1 (fa g x) (by omega) h (by omega)).2
  intro d
  induction d with
  | zero =>
    intro u fu q1 q2 q3
    obtain ⟨fu, rfl⟩ : ∃ k, fu = k + 1 := ⟨fu - 1, by omega⟩
    have : u = h := by omega
    subst this
    have hbm := hM.2.2 x hx hB s hs trivial u (by omega)
    have hbb : BB b x s u = b x s u := by unfold BB; rw [show min u s = u by omega]
    have hbl := hbm.2
    rw [hbb] at hbl
    rw [P_X11_setOf_j35, m_upTo h16 hs (by omega) hbm, Option.bind_some, hbb, if_pos ((lN_ltB (by omega) (by omega)).mpr hlt), m_first hg hd hM hx hB hs h1 (by omega) hn f1 f2 f3, Option.bind_some, m_W hg hd hM hx hB hs h1 (by omega) (by omega), Option.bind_some, gI_nI h16 (by decide), ldA_nI (by omega), e1, lN_sub f2, nI_sub hh]
  | succ d ih =>
    intro u fu q1 q2 q3
    obtain ⟨fu, rfl⟩ : ∃ k, fu = k + 1 := ⟨fu - 1, by omega⟩
    have hbm := hM.2.2 x hx hB s hs trivial u (by omega)
    have hbb : BB b x s u = b x s u := by unfold BB; rw [show min u s = u by omega]
    have hu := hge u q2 (by omega)
    rw [P_X11_setOf_j35, m_upTo h16 hs (by omega) hbm, Option.bind_some, hbb, if_neg (fun w => by have := (lN_ltB (by omega) (by omega)).mp w; omega), nI_1]
    exact ih (u + 1) fu (by omega) (by omega) (by omega)
theorem set_rest {g : List N3} {c : Nat → Nat → Nat} {b : Nat → Nat → Nat → Nat} {σx0 σm0 : SS} (C : CTX g c b σx0 σm0) {x S L : Nat} (hx : x < g.length) (hB : isB56 g x) (hS : S ≤ 24) (hL1 : 1 ≤ L) (hL2 : L ≤ 309) (hW : ∀ h v, 1 ≤ h → h ≤ S → v < c (fa g x) h → WW σx0 σm0 (fa g x) h v) : ∀ (s : Nat), s ≤ S → ∀ (v k t : Nat) (l : List It) (σm : SS) (run : Option (Int32 × SS)) (fu : Nat), v < b x s s → s < fu → k < 1000 → (k ≤ 300 → 302 ≤ k + L ∧ l.length + 1 ≤ 2 * k ∧ t + 1 ≤ 2 * k) → BTH σx0 σm0 run k t ((2, x, s, v) :: l) σm → ∃ σm' k' t', P_X11_setOf_j27 (P_X11_thingOf L) fu (nI x) (lN v) (nI s) σm = some σm' ∧ k ≤ k' ∧ k' ≤ max k (310 + L) + 1 ∧ (k' ≤ 300 → t' + 1 ≤ 2 * k') ∧ BTH σx0 σm0 run k' t' l σm' := by
  have hLM := LIM_lt
  have hr := C.1
  have hd := hr.1
  have hl := hd.1
  have F := C.full
  have h16 : x < 16 := Nat.lt_of_lt_of_le hx hd.1
  obtain ⟨l0, l1, l2⟩ := gd_lt hd hx
  have h56 : kd g x = 5 ∨ kd g x = 6 := hB
  intro s
  induction s using Nat.strongRecOn with
  | _ s ih =>
    intro hsS v k t l σm run fu hv hfu hk hc H
    obtain ⟨fu, rfl⟩ : ∃ k, fu = k + 1 := ⟨fu - 1, by omega⟩
    have hM := C.m H.1
    have hfr := H.1
    obtain ⟨e0, e1, e2⟩ := gM_at hM.1 hx
    by_cases s0 : s = 0
    · subst s0
      rcases h56 with k5 | k6
      · obtain ⟨σm1, w1, w2⟩ := bth_close C (e := 125) hx (by omega) (by rw [k5]; exact x_chC.2.1) (by decide) H (by omega)
        refine ⟨σm1, k + 1, t + 1, ?_, by omega, by omega, fun z => ?_, w2⟩
        · rw [P_X11_setOf_j27, if_pos (by decide), gI_nI h16 (by decide), ldA_nI (by omega), e0, k5, if_neg (fun z => z rfl), show (125 : Int32) = nI 125 from rfl, w1, Option.bind_some]
        · have := hc (by omega)
          omega
      · obtain ⟨σm1, w1, w2⟩ := bth_close C (e := 62) hx (by omega) (by rw [k6]; exact x_chC.2.2) (by decide) H (by omega)
        refine ⟨σm1, k + 1, t + 1, ?_, by omega, by omega, fun z => ?_, w2⟩
        · rw [P_X11_setOf_j27, if_pos (by decide), gI_nI h16 (by decide), ldA_nI (by omega), e0, k6, if_pos (by decide), show (62 : Int32) = nI 62 from rfl, w1, Option.bind_some]
        · have := hc (by omega)
          omega
    · have hbl := F.2.2 x hx hB s (by omega) s (Nat.le_refl _)
      have b0 := F.b_0 hx hB (show s ≤ 24 by omega) (by omega)
      obtain ⟨h', y1, y2, y3⟩ := cross (b x s) v s (by omega) hv
      have hge : ∀ u, 1 ≤ u → u < h' + 1 → b x s u ≤ v := by
        intro u _ hu
        have := F.b_mono hx hB (show s ≤ 24 by omega) (h' - u) u (by omega)
        rw [show u + (h' - u) = h' by omega] at this
        omega
      obtain ⟨f, f1, f2, f3, f4⟩ := bag_split F hx hB (show s ≤ 24 by omega) (show 1 ≤ h' + 1 by omega) (by omega) y3 (Or.inr y2)
      have H1 : BTH σx0 σm0 run k (t + 1) ((1, fa g x, h' + 1, f) :: (2, x, s - (h' + 1), v - Wf g b x s (h' + 1) f) :: l) σm := by
        refine rest_push C hx (by omega) (by omega) (by omega) (fun z => ⟨(hc z).2.1, (hc z).2.2⟩) (fun σ q1 q2 => ?_) H
        unfold P_X9_workRest
        rw [if_pos (show (0 : Int32) < nI s from nI_lt (a := 0) (by omega) (by omega)), x_isBag q1 hd hx, Option.bind_some, decide_eq_true h56, b2i_t, if_neg (by decide), x_splitBag q1 hd q2 hx hB (by omega) (by omega) (by omega) (by omega) (Or.inr y3) hge f1 f2 f3, Option.bind_some]
      obtain ⟨σ1, k1, t1, w1, w2, w3, w4, w5⟩ := hW (h' + 1) f (by omega) (by omega) f1 L k (t + 1) _ σm run hL1 (by omega) hk (fun z => ⟨(hc z).1, by simp; exact (hc z).2.1⟩) H1
      obtain ⟨σ2, k2, t2, u1, u2, u3, u4, u5⟩ := ih (s - (h' + 1)) (by omega) (by omega) _ k1 t1 l σ1 run fu f4 (by omega) (by omega) (fun z => ⟨by have := hc (by omega); omega, by have := hc (by omega); omega, w4 z⟩) w5
      refine ⟨σ2, k2, t2, ?_, by omega, by omega, u4, u5⟩
      have m35 := m_set35 hM.1 hd hM.2 (P_X11_thingOf L) (P_X11_setOf_j27 (P_X11_thingOf L) fu) hx hB (show s ≤ 24 by omega) (show 1 ≤ h' + 1 by omega) (by omega) (show v < LIM by omega) y3 hge f1 f2 f3 h' 1 FU (by omega) (by omega) (by unfold FU; omega)
      rw [w1, Option.bind_some, u1] at m35
      rw [P_X11_setOf_j27, if_neg (fun w => by have := (nI_leI (b := 0) (by omega) (by omega)).mp w; omega), show (1 : Int32) = nI 1 from rfl]
      exact m35
