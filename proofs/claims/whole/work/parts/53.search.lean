/-! both find where a set's number lies -/
theorem x_W {g : List N3} {c : Nat → Nat → Nat} {b : Nat → Nat → Nat → Nat} {σ : SS} (hg : gX' g σ) (hd : GdL g) (h : XT g c b σ (fun _ _ => True)) {x s t f : Nat} (hx : x < g.length) (hB : isB56 g x) (hs : s ≤ 24) (h1 : 1 ≤ t) (ht : t ≤ 24) (hf : f ≤ LIM) : P_X8_bagsBelow (nI x) (nI s) (nI t) (lN f) σ = some (lN (Wf g b x s t f)) := x_below hg hd hx hB hs h1 ht hf (fun k _ => h.2.2 x hx hB _ (by omega) trivial _ (by omega))
theorem m_W {g : List N3} {c : Nat → Nat → Nat} {b : Nat → Nat → Nat → Nat} {σ : SS} (hg : gM' g σ) (hd : GdL g) (h : MT g c b σ (fun _ _ => True)) {x s t f : Nat} (hx : x < g.length) (hB : isB56 g x) (hs : s ≤ 24) (h1 : 1 ≤ t) (ht : t ≤ 24) (hf : f ≤ LIM) : P_X11_waysBelow (nI x) (nI s) (nI t) (lN f) σ = some (lN (Wf g b x s t f)) := m_below hg hd hx hB hs h1 ht hf (fun k _ => h.2.2 x hx hB _ (by omega) trivial _ (by omega))
theorem lN_add1 (a : Nat) : lN a + 1 = lN (a + 1) := lN_add a 1
theorem m_first {g : List N3} {c : Nat → Nat → Nat} {b : Nat → Nat → Nat → Nat} {σ : SS} (hg : gM' g σ) (hd : GdL g) (h : MT g c b σ (fun _ _ => True)) {x s t num F : Nat} (hx : x < g.length) (hB : isB56 g x) (hs : s ≤ 24) (h1 : 1 ≤ t) (ht : t ≤ 24) (hn : num < LIM) (f1 : F < c (fa g x) t) (f2 : Wf g b x s t F ≤ num) (f3 : num < Wf g b x s t (F + 1)) : P_X11_firstOf (nI x) (nI s) (nI t) (lN num) σ = some (lN F) := by
  have hL := LIM_lt
  have hl := hd.1
  obtain ⟨e0, e1, e2⟩ := gM_at hg hx
  obtain ⟨l0, l1, l2⟩ := gd_lt hd hx
  have hC := (h.1 (fa g x) (by omega) t ht).2
  have loop : ∀ (d lo hi fu : Nat), hi - lo < 2 ^ d → d < fu → lo ≤ F → F ≤ hi → hi < LIM → P_X11_firstOf_j18 σ fu (nI x) (nI s) (nI t) (lN num) (lN lo) (lN hi) = some (lN F) := by
    intro d
    induction d with
    | zero =>
      intro lo hi fu h1 h2 h3 h4 h5
      obtain ⟨fu, rfl⟩ : ∃ k, fu = k + 1 := ⟨fu - 1, by omega⟩
      have : lo = F := by omega
      subst this
      rw [P_X11_firstOf_j18, if_pos ((lN_leB (by omega) (by omega)).mpr (by omega))]
    | succ d ih =>
      intro lo hi fu q1 q2 q3 q4 q5
      obtain ⟨fu, rfl⟩ : ∃ k, fu = k + 1 := ⟨fu - 1, by omega⟩
      rw [P_X11_firstOf_j18]
      by_cases z : hi ≤ lo
      · have : lo = F := by omega
        subst this
        rw [if_pos ((lN_leB (by omega) (by omega)).mpr z)]
      · have hmid : (lo + hi) / 2 < hi := by omega
        rw [Nat.pow_succ] at q1
        rw [if_neg (fun y => z ((lN_leB (by omega) (by omega)).mp y)), lN_add, show (2 : Int64) = lN 2 from rfl, lN_div (by omega) (by omega), lN_add1, m_W hg hd h hx hB hs h1 ht (by omega), Option.bind_some]
        unfold P_X11_firstOf_j67
        have hw : Wf g b x s t ((lo + hi) / 2 + 1) ≤ LIM := sat_le _
        by_cases y : Wf g b x s t ((lo + hi) / 2 + 1) ≤ num
        · rw [if_pos ((lN_leB (by omega) (by omega)).mpr y)]
          refine ih _ _ fu (by omega) (by omega) ?_ q4 q5
          apply Classical.byContradiction
          intro w
          have := Wf_mono (g := g) (b := b) (x := x) (s := s) (h := t) (show F + 1 ≤ (lo + hi) / 2 + 1 by omega)
          omega
        · rw [if_neg (fun w => y ((lN_leB (by omega) (by omega)).mp w))]
          refine ih _ _ fu (by omega) (by omega) q3 ?_ (by omega)
          apply Classical.byContradiction
          intro w
          have := Wf_mono (g := g) (b := b) (x := x) (s := s) (h := t) (show (lo + hi) / 2 + 1 ≤ F by omega)
          omega
  unfold P_X11_firstOf
  rw [gI_nI (show x < 16 by omega) (by decide), ldA_nI (by omega), e1, m_of h.1 (by omega) ht, Option.bind_some, show lN (c (fa g x) t) - 1 = lN (c (fa g x) t - 1) from lN_sub (b := 1) (by omega)]
  exact loop 62 0 _ FU (by omega) (by decide) (by omega) (by omega) (by omega)
theorem x_splitBag {g : List N3} {c : Nat → Nat → Nat} {b : Nat → Nat → Nat → Nat} {σ : SS} (hg : gX' g σ) (hd : GdL g) (h : XT g c b σ (fun _ _ => True)) {x s t num F : Nat} (hx : x < g.length) (hB : isB56 g x) (hs : s ≤ 24) (h1 : 1 ≤ t) (ht : t ≤ s) (hn : num < LIM) (hlt : t = s ∨ num < b x s t) (hge : ∀ u, 1 ≤ u → u < t → b x s u ≤ num) (f1 : F < c (fa g x) t) (f2 : Wf g b x s t F ≤ num) (f3 : num < Wf g b x s t (F + 1)) : P_X9_splitBag (nI x) (nI s) (lN num) σ = some (uJ (uJ (uI σ 9 (nI t)) 0 (lN F)) 1 (lN (num - Wf g b x s t F))) := by
  have hL := LIM_lt
  have hl := hd.1
  have h16 : x < 16 := Nat.lt_of_lt_of_le hx hd.1
  obtain ⟨e0, e1, e2⟩ := gX_at hg hx
  obtain ⟨l0, l1, l2⟩ := gd_lt hd hx
  have hC := (h.1 (fa g x) (by omega) t (by omega)).2
  have fin : P_X9_splitBag_j130 (nI x) (nI s) (lN num) (nI t) (lN F) σ = some (uJ (uJ (uI σ 9 (nI t)) 0 (lN F)) 1 (lN (num - Wf g b x s t F))) := by
    have hg' : gX' g (uJ (uI σ 9 (nI t)) 0 (lN F)) := ⟨hg.1, hg.2⟩
    have h' : XT g c b (uJ (uI σ 9 (nI t)) 0 (lN F)) (fun _ _ => True) := h.frame rfl rfl
    unfold P_X9_splitBag_j130
    rw [x_W hg' hd h' hx hB hs h1 (by omega) (by omega), Option.bind_some, lN_sub f2]
  have loop : ∀ (d lo hi r fu : Nat), hi - lo < 2 ^ d → d + r ≤ 64 → d < fu → lo ≤ F → F ≤ hi → hi < LIM → P_X9_splitBag_j62 fu (nI x) (nI s) (lN num) (nI t) (lN lo) (lN hi) (nI r) σ = some (uJ (uJ (uI σ 9 (nI t)) 0 (lN F)) 1 (lN (num - Wf g b x s t F))) := by
    intro d
    induction d with
    | zero =>
      intro lo hi r fu h1 h2 h3 h4 h5 h6
      obtain ⟨fu, rfl⟩ : ∃ k, fu = k + 1 := ⟨fu - 1, by omega⟩
      have : lo = F := by omega
      subst this
      rw [P_X9_splitBag_j62, if_pos ((lN_leB (by omega) (by omega)).mpr (show hi ≤ lo by omega)), fin]
      split <;> rfl
    | succ d ih =>
      intro lo hi r fu q1 q2 q3 q4 q5 q6
      obtain ⟨fu, rfl⟩ : ∃ k, fu = k + 1 := ⟨fu - 1, by omega⟩
      rw [P_X9_splitBag_j62, show (64 : Int32) = nI 64 from rfl, if_neg (nI_ge (by omega) (by decide))]
      by_cases z : hi ≤ lo
      · have : lo = F := by omega
        subst this
        rw [if_pos ((lN_leB (by omega) (by omega)).mpr z), fin]
      · rw [Nat.pow_succ] at q1
        have em : lN lo + (lN hi - lN lo + 1) / 2 = lN (lo + (hi - lo + 1) / 2) := by
          rw [lN_sub (by omega), lN_add1, show (2 : Int64) = lN 2 from rfl, lN_div (by omega) (by omega), lN_add]
        rw [if_neg (fun y => z ((lN_leB (by omega) (by omega)).mp y)), em, x_W hg hd h hx hB hs h1 (by omega) (by omega), Option.bind_some]
        unfold P_X9_splitBag_j124
        have hw : Wf g b x s t (lo + (hi - lo + 1) / 2) ≤ LIM := sat_le _
        by_cases y : num < Wf g b x s t (lo + (hi - lo + 1) / 2)
        · rw [if_pos ((lN_ltB (by omega) (by omega)).mpr y), show lN (lo + (hi - lo + 1) / 2) - 1 = lN (lo + (hi - lo + 1) / 2 - 1) from lN_sub (b := 1) (by omega), nI_1]
          refine ih _ _ (r + 1) fu (by omega) (by omega) (by omega) q4 ?_ (by omega)
          apply Classical.byContradiction
          intro w
          have := Wf_mono (g := g) (b := b) (x := x) (s := s) (h := t) (show lo + (hi - lo + 1) / 2 ≤ F by omega)
          omega
        · rw [if_neg (fun w => y ((lN_ltB (by omega) (by omega)).mp w)), nI_1]
          refine ih _ _ (r + 1) fu (by omega) (by omega) (by omega) ?_ q5 q6
          apply Classical.byContradiction
          intro w
          have := Wf_mono (g := g) (b := b) (x := x) (s := s) (h := t) (show F + 1 ≤ lo + (hi - lo + 1) / 2 by omega)
          omega
  have mid : P_X9_splitBag_j31 (nI x) (nI s) (lN num) (nI t) σ = some (uJ (uJ (uI σ 9 (nI t)) 0 (lN F)) 1 (lN (num - Wf g b x s t F))) := by
    unfold P_X9_splitBag_j31 mmaxl
    rw [x_a h16, Option.bind_some, e1, x_of h.1 (by omega) (by omega), Option.bind_some, show lN (c (fa g x) t) - 1 = lN (c (fa g x) t - 1) from lN_sub (b := 1) (by omega)]
    have := loop 62 0 (c (fa g x) t - 1) 0 FU (by omega) (by omega) (by decide) (by omega) (by omega) (by omega)
    by_cases z : c (fa g x) t - 1 = 0
    · rw [z] at this ⊢
      exact this
    · first
        | (rw [if_pos (show (0 : Int64) < lN (c (fa g x) t - 1) from (lN_ltB (a := 0) (by omega) (by omega)).mpr (by omega))]; exact this)
        | (rw [if_neg (show ¬ (lN (c (fa g x) t - 1) < (0 : Int64)) from fun w => absurd ((lN_ltB (b := 0) (by omega) (by omega)).mp w) (by omega))]; exact this)
  have top : ∀ (d u : Nat) (fu : Nat), u + d = t → 1 ≤ u → d < fu → P_X9_splitBag_j3 fu (nI x) (nI s) (lN num) (nI u) σ = some (uJ (uJ (uI σ 9 (nI t)) 0 (lN F)) 1 (lN (num - Wf g b x s t F))) := by
    intro d
    induction d with
    | zero =>
      intro u fu q1 q2 q3
      obtain ⟨fu, rfl⟩ : ∃ k, fu = k + 1 := ⟨fu - 1, by omega⟩
      have : u = t := by omega
      subst this
      rw [P_X9_splitBag_j3]
      by_cases z : s ≤ u
      · rw [if_pos (nI_le z (by omega)), mid]
      · have hbe := h.2.2 x hx hB s hs trivial u (by omega)
        rw [if_neg (nI_ge (by omega) (by omega)), x_upTo (b := b) h16 hs (by omega) (by rw [show min u s = u by omega]; exact hbe), Option.bind_some]
        unfold BB
        rw [show min u s = u by omega, if_pos ((lN_ltB (by omega) (by have := hbe.2; omega)).mpr (by omega)), mid]
    | succ d ih =>
      intro u fu q1 q2 q3
      obtain ⟨fu, rfl⟩ : ∃ k, fu = k + 1 := ⟨fu - 1, by omega⟩
      have hbe := h.2.2 x hx hB s hs trivial u (by omega)
      have hu := hge u q2 (by omega)
      rw [P_X9_splitBag_j3, if_neg (nI_ge (by omega) (by omega)), x_upTo (b := b) h16 hs (by omega) (by rw [show min u s = u by omega]; exact hbe), Option.bind_some]
      unfold BB
      rw [show min u s = u by omega, if_neg (fun w => by have := (lN_ltB (by omega) (by omega)).mp w; omega), nI_1]
      exact ih (u + 1) fu (by omega) (by omega) (by omega)
  exact top (t - 1) 1 FU (by omega) (by omega) (by unfold FU; omega)
