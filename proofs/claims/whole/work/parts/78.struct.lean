/-! the nodes of a thing: what both parses build -/
def KK (F : TB) (i b : Nat) : Nat := sumN (fun j => if i < j ∧ F 2 j = i then F 4 j else 0) b
def KS (g : List N3) (tp : Nat → Nat) (n : Nat) (F : TB) (i : Nat) : Prop := (kd g (F 0 i) ≤ 1 → F 3 i = i + 1) ∧ (kd g (F 0 i) = 2 → i + 1 < F 3 (i + 1) ∧ F 3 (i + 1) < F 3 i ∧ F 3 (F 3 (i + 1)) = F 3 i ∧ F 0 (i + 1) = fa g (F 0 i) ∧ F 0 (F 3 (i + 1)) = fb g (F 0 i)) ∧ (kd g (F 0 i) = 3 → i + 1 < F 3 i ∧ F 3 (i + 1) = F 3 i ∧ F 1 i < n ∧ ((tp (F 1 i) = 49 ∧ F 5 i = 1 ∧ F 0 (i + 1) = fa g (F 0 i)) ∨ (tp (F 1 i) = 50 ∧ F 5 i = 2 ∧ F 0 (i + 1) = fb g (F 0 i)))) ∧ (kd g (F 0 i) = 7 → i + 1 < F 3 i ∧ F 3 (i + 1) = F 3 i ∧ F 0 (i + 1) = fa g (F 0 i)) ∧ (kd g (F 0 i) = 8 → F 3 i = i + 1 ∧ F 1 i + 1 + fa g (F 0 i) ≤ n ∧ LOK tp (F 1 i + 1) (fa g (F 0 i)) (fa g (F 0 i)) ∧ F 5 i = LNm tp (F 1 i + 1) (fa g (F 0 i)) (fa g (F 0 i))) ∧ (4 ≤ kd g (F 0 i) ∧ kd g (F 0 i) ≤ 6 → ∀ j, i < j → j < F 3 i → F 2 j = i → F 0 j = fa g (F 0 i))
theorem KS.cong {g : List N3} {tp : Nat → Nat} {n : Nat} {F F' : TB} {i : Nat} (h : KS g tp n F i) (hi : i < F 3 i) (e : ∀ k j, i ≤ j → j < F 3 i → F' k j = F k j) : KS g tp n F' i := by
  obtain ⟨h0, h2, h3, h7, h8, h4⟩ := h
  have e0 := e 0 i (Nat.le_refl _) hi
  have e1 := e 1 i (Nat.le_refl _) hi
  have e3 := e 3 i (Nat.le_refl _) hi
  have e5 := e 5 i (Nat.le_refl _) hi
  unfold KS
  rw [e0, e1, e3, e5]
  refine ⟨h0, fun z => ?_, fun z => ?_, fun z => ?_, h8, fun z j j1 j2 j3 => ?_⟩
  · obtain ⟨a1, a2, a3, a4, a5⟩ := h2 z
    have b0 : i + 1 < F 3 i := by omega
    rw [e 3 (i + 1) (by omega) b0, e 3 (F 3 (i + 1)) (by omega) a2, e 0 (i + 1) (by omega) b0, e 0 (F 3 (i + 1)) (by omega) a2]
    exact ⟨a1, a2, a3, a4, a5⟩
  · obtain ⟨a1, a2, a3⟩ := h3 z
    rw [e 3 (i + 1) (by omega) a1, e 0 (i + 1) (by omega) a1]
    exact ⟨a1, a2, a3⟩
  · obtain ⟨a1, a2, a3⟩ := h7 z
    rw [e 3 (i + 1) (by omega) a1, e 0 (i + 1) (by omega) a1]
    exact ⟨a1, a2, a3⟩
  · rw [e 0 j (by omega) j2]
    rw [e 2 j (by omega) j2] at j3
    exact h4 z j j1 j2 j3
theorem KK_cong {F F' : TB} {i : Nat} : ∀ b, (∀ k j, i < j → j < b → F' k j = F k j) → KK F' i b = KK F i b := by
  intro b e
  apply sumN_congr
  intro j hj
  by_cases z : i < j
  · rw [e 2 j z hj, e 4 j z hj]
  · rw [if_neg (fun w => z w.1), if_neg (fun w => z w.1)]
theorem KK_s (F : TB) (i b : Nat) : KK F i (b + 1) = KK F i b + (if i < b ∧ F 2 b = i then F 4 b else 0) := rfl
theorem KK_ext {F : TB} {i b : Nat} : ∀ d, (∀ j, b ≤ j → j < b + d → ¬ F 2 j = i) → KK F i (b + d) = KK F i b
  | 0, _ => rfl
  | d + 1, h => by
    rw [show b + (d + 1) = (b + d) + 1 from rfl, KK_s, if_neg (fun w => h (b + d) (by omega) (by omega) w.2), KK_ext d (fun j h1 h2 => h j h1 (by omega))]
    rfl
theorem KK_0 {F : TB} {i : Nat} : ∀ b, b ≤ i + 1 → KK F i b = 0
  | 0, _ => rfl
  | b + 1, h => by rw [KK_s, if_neg (fun w => by omega), KK_0 b (by omega)]
/-- the shape of a subtree: nodes N .. N' - 1 -/
def SB (g : List N3) (tp : Nat → Nat) (n : Nat) (F : TB) (N N' : Nat) : Prop := (N < N' ∧ F 3 N = N') ∧ (∀ i, N ≤ i → i < N' → F 0 i < g.length ∧ i + 1 ≤ F 3 i ∧ F 3 i ≤ N' ∧ F 4 i = own g (F 0 i) + KK F i (F 3 i)) ∧ (∀ i, N < i → i < N' → KS g tp n F i ∧ N ≤ F 2 i ∧ F 2 i < i ∧ F 3 i ≤ F 3 (F 2 i) ∧ (F 3 i < F 3 (F 2 i) → F 2 (F 3 i) = F 2 i)) ∧ (∀ i j, N ≤ i → i < N' → i < j → j < F 3 i → i ≤ F 2 j)
def RW (F : TB) (σ : SS) (i : Nat) : Prop := sA σ 10 (i + 1) = nI (F 0 i) ∧ sA σ 11 (i + 1) = nI (F 1 i) ∧ sA σ 12 (i + 1) = nI (F 4 i) ∧ sA σ 13 (i + 1) = nI (if i + 1 < F 3 i then i + 2 else 0) ∧ sL σ 2 (i + 1) = lN (F 5 i)
def SM (F : TB) (N N' : Nat) (σ : SS) : Prop := sA σ 14 (N + 1) = 0 ∧ (∀ i, N ≤ i → i < N' → RW F σ i) ∧ (∀ i, N < i → i < N' → sA σ 14 (i + 1) = nI (if F 3 i < F 3 (F 2 i) then F 3 i + 1 else 0))
def Ag (N : Nat) (F F' : TB) : Prop := ∀ k i, i < N → F' k i = F k i
def CF (N : Nat) (σ σ' : SS) : Prop := (∀ k, 10 ≤ k → k ≤ 14 → ∀ j, j ≤ N → sA σ' k j = sA σ k j) ∧ ∀ j, j ≤ N → sL σ' 2 j = sL σ 2 j
theorem CF.rf {N : Nat} {σ : SS} : CF N σ σ := ⟨fun _ _ _ _ _ => rfl, fun _ _ => rfl⟩
theorem CF.tr {N : Nat} {σ σ1 σ2 : SS} (h : CF N σ σ1) (h2 : CF N σ1 σ2) : CF N σ σ2 := ⟨fun k a b j hj => (h2.1 k a b j hj).trans (h.1 k a b j hj), fun j hj => (h2.2 j hj).trans (h.2 j hj)⟩
theorem CF.mono {N M : Nat} {σ σ1 : SS} (h : CF N σ σ1) (e : M ≤ N) : CF M σ σ1 := ⟨fun k a b j hj => h.1 k a b j (by omega), fun j hj => h.2 j (by omega)⟩
theorem CF.of {N : Nat} {σ σ1 : SS} (h : Fr [6, 7, 8] [] [] σ σ1) : CF N σ σ1 := ⟨fun k _ _ j _ => by rw [h.2.1 k (by simp)], fun j _ => by rw [h.2.2 2 (by simp)]⟩
theorem SB.cong {g : List N3} {tp : Nat → Nat} {n : Nat} {F F' : TB} {N N' : Nat} (h : SB g tp n F N N') (e : Ag N' F F') : SB g tp n F' N N' := by
  obtain ⟨⟨h1, h2⟩, h3, h4, h5⟩ := h
  refine ⟨⟨h1, by rw [e 3 N h1]; exact h2⟩, fun i i1 i2 => ?_, fun i i1 i2 => ?_, fun i j i1 i2 i3 i4 => ?_⟩
  · obtain ⟨a1, a2, a3, a4⟩ := h3 i i1 i2
    rw [e 0 i i2, e 3 i i2, e 4 i i2, KK_cong (F := F) (F 3 i) (fun k j _ j2 => e k j (by omega))]
    exact ⟨a1, a2, a3, a4⟩
  · obtain ⟨a1, a2, a3, a4, a5⟩ := h4 i i1 i2
    obtain ⟨b1, b2, b3, b4⟩ := h3 i (by omega) i2
    have c3 := (h3 (F 2 i) a2 (by omega)).2.2.1
    rw [e 2 i i2, e 3 i i2, e 3 (F 2 i) (by omega)]
    refine ⟨a1.cong (by omega) (fun k j j1 j2 => e k j (by omega)), a2, a3, a4, fun z => ?_⟩
    rw [e 2 (F 3 i) (by omega)]
    exact a5 z
  · rw [e 3 i i2] at i4
    have := (h3 i i1 i2).2.2.1
    rw [e 2 j (by omega)]
    exact h5 i j i1 i2 i3 i4
theorem SM.cong {g : List N3} {tp : Nat → Nat} {n : Nat} {F F' : TB} {N N' : Nat} {σ σ' : SS} (h : SM F N N' σ) (hs : SB g tp n F N N') (e : Ag N' F F') (c : CF N' σ σ') : SM F' N N' σ' := by
  obtain ⟨⟨h1, h2⟩, h3, h4, h5⟩ := hs
  obtain ⟨m1, m2, m3⟩ := h
  refine ⟨(c.1 14 (by decide) (by decide) _ (by omega)).trans m1, fun i i1 i2 => ?_, fun i i1 i2 => ?_⟩
  · obtain ⟨r1, r2, r3, r4, r5⟩ := m2 i i1 i2
    unfold RW
    rw [c.1 10 (by decide) (by decide) _ (by omega), c.1 11 (by decide) (by decide) _ (by omega), c.1 12 (by decide) (by decide) _ (by omega), c.1 13 (by decide) (by decide) _ (by omega), c.2 _ (by omega), e 0 i i2, e 1 i i2, e 3 i i2, e 4 i i2, e 5 i i2]
    exact ⟨r1, r2, r3, r4, r5⟩
  · have a3 := (h4 i i1 i2).2.2.1
    rw [c.1 14 (by decide) (by decide) _ (by omega), e 2 i i2, e 3 i i2, e 3 (F 2 i) (by omega)]
    exact m3 i i1 i2
theorem nwF_at {F : TB} {N x p q s t : Nat} : nwF F N x p q s t 0 N = x ∧ nwF F N x p q s t 1 N = p ∧ nwF F N x p q s t 2 N = q ∧ nwF F N x p q s t 3 N = N + 1 ∧ nwF F N x p q s t 4 N = s ∧ nwF F N x p q s t 5 N = t := ⟨upN_eq _ _ _, upN_eq _ _ _, upN_eq _ _ _, upN_eq _ _ _, upN_eq _ _ _, upN_eq _ _ _⟩
theorem nwF_ag {F : TB} {N x p q s t : Nat} : Ag N F (nwF F N x p q s t) := by
  intro k i hi
  have hne : ¬ i = N := by omega
  unfold nwF
  by_cases z0 : k = 0
  · rw [if_pos z0, upN_ne hne, z0]
  · rw [if_neg z0]
    by_cases z1 : k = 1
    · rw [if_pos z1, upN_ne hne, z1]
    · rw [if_neg z1]
      by_cases z2 : k = 2
      · rw [if_pos z2, upN_ne hne, z2]
      · rw [if_neg z2]
        by_cases z3 : k = 3
        · rw [if_pos z3, upN_ne hne, z3]
        · rw [if_neg z3]
          by_cases z4 : k = 4
          · rw [if_pos z4, upN_ne hne, z4]
          · rw [if_neg z4]
            by_cases z5 : k = 5
            · rw [if_pos z5, upN_ne hne, z5]
            · rw [if_neg z5]
/-- a node without parts -/
theorem SB.new {g : List N3} {tp : Nat → Nat} {n : Nat} {F : TB} {N : Nat} (h0 : F 0 N < g.length) (h3 : F 3 N = N + 1) (h4 : F 4 N = own g (F 0 N)) : SB g tp n F N (N + 1) := by
  refine ⟨⟨by omega, h3⟩, fun i i1 i2 => ?_, fun i i1 i2 => by omega, fun i j i1 i2 i3 i4 => ?_⟩
  · have e : i = N := by omega
    subst e
    rw [h3, KK_0 _ (Nat.le_refl _), Nat.add_zero]
    exact ⟨h0, Nat.le_refl _, Nat.le_refl _, h4⟩
  · have e : i = N := by omega
    subst e
    omega
theorem SM.new {F : TB} {N : Nat} {σ : SS} (h3 : F 3 N = N + 1) (e0 : sA σ 10 (N + 1) = nI (F 0 N)) (e1 : sA σ 11 (N + 1) = nI (F 1 N)) (e2 : sA σ 12 (N + 1) = nI (F 4 N)) (e3 : sA σ 13 (N + 1) = 0) (e4 : sA σ 14 (N + 1) = 0) (e5 : sL σ 2 (N + 1) = lN (F 5 N)) : SM F N (N + 1) σ := by
  refine ⟨e4, fun i i1 i2 => ?_, fun i i1 i2 => by omega⟩
  have e : i = N := by omega
  subst e
  unfold RW
  rw [h3, if_neg (by omega)]
  exact ⟨e0, e1, e2, e3, e5⟩
def upE (F : TB) (N a s : Nat) : TB := fun k => if k = 3 then upN (F 3) N a else if k = 4 then upN (F 4) N s else F k
theorem upE_ne {F : TB} {N a s k i : Nat} (h : ¬ i = N) : upE F N a s k i = F k i := by
  unfold upE
  by_cases z3 : k = 3
  · rw [if_pos z3, upN_ne h, z3]
  · rw [if_neg z3]
    by_cases z4 : k = 4
    · rw [if_pos z4, upN_ne h, z4]
    · rw [if_neg z4]
theorem upE_3 {F : TB} {N a s : Nat} : upE F N a s 3 N = a := upN_eq _ _ _
theorem upE_4 {F : TB} {N a s : Nat} : upE F N a s 4 N = s := upN_eq _ _ _
theorem upE_k {F : TB} {N a s k : Nat} (h3 : ¬ k = 3) (h4 : ¬ k = 4) : upE F N a s k = F k := by unfold upE; rw [if_neg h3, if_neg h4]
/-- the last part so far -/
def LSt (F : TB) (N0 N1 : Nat) (v : Int32) : Prop := (N1 = N0 + 1 ∧ v = 0) ∨ ∃ l, N0 < l ∧ l < N1 ∧ F 2 l = N0 ∧ F 3 l = N1 ∧ v = nI (l + 1)
theorem SB.join {g : List N3} {tp : Nat → Nat} {n : Nat} {F : TB} {N0 N1 N2 : Nat} (h : SB g tp n F N0 N1) (h' : SB g tp n F N1 N2) (hk : KS g tp n F N1) (hq : F 2 N1 = N0) : SB g tp n (upE F N0 N2 (F 4 N0 + F 4 N1)) N0 N2 := by
  obtain ⟨⟨h1, h2⟩, h3, h4, h5⟩ := h
  obtain ⟨⟨k1, k2⟩, k3, k4, k5⟩ := h'
  have u2 : upE F N0 N2 (F 4 N0 + F 4 N1) 2 = F 2 := upE_k (by decide) (by decide)
  have u0 : upE F N0 N2 (F 4 N0 + F 4 N1) 0 = F 0 := upE_k (by decide) (by decide)
  have une : ∀ {k i}, ¬ i = N0 → upE F N0 N2 (F 4 N0 + F 4 N1) k i = F k i := fun h => upE_ne h
  have kk : ∀ i b, N0 ≤ i → KK (upE F N0 N2 (F 4 N0 + F 4 N1)) i b = KK F i b := fun i b hi => KK_cong b (fun k j j1 _ => upE_ne (by omega))
  have ext : KK F N0 N2 = KK F N0 N1 + F 4 N1 := by
    obtain ⟨d, rfl⟩ : ∃ d, N2 = N1 + 1 + d := ⟨N2 - (N1 + 1), by omega⟩
    rw [KK_ext d (fun j j1 j2 w => by have := (k4 j (by omega) (by omega)).2.1; omega), KK_s, if_pos ⟨h1, hq⟩]
  have old : ∀ i, N0 < i → i < N1 → KS g tp n F i ∧ N0 ≤ F 2 i ∧ F 2 i < i ∧ F 3 i ≤ F 3 (F 2 i) ∧ (F 3 i < F 3 (F 2 i) → F 2 (F 3 i) = F 2 i) := h4
  refine ⟨⟨by omega, upE_3⟩, fun i i1 i2 => ?_, fun i i1 i2 => ?_, fun i j i1 i2 i3 i4 => ?_⟩
  · rw [u0]
    by_cases e : i = N0
    · subst e
      obtain ⟨a1, a2, a3, a4⟩ := h3 i (Nat.le_refl _) h1
      rw [upE_3, upE_4, kk i N2 (Nat.le_refl _), ext, a4, h2]
      exact ⟨a1, by omega, Nat.le_refl _, by omega⟩
    · rw [une e, une e, kk i _ (by omega)]
      rcases Nat.lt_or_ge i N1 with z | z
      · obtain ⟨a1, a2, a3, a4⟩ := h3 i i1 z
        exact ⟨a1, a2, by omega, a4⟩
      · exact k3 i z i2
  · have e : ¬ i = N0 := by omega
    rw [u2, une e]
    rcases Nat.lt_or_ge i N1 with z | z
    · obtain ⟨a1, a2, a3, a4, a5⟩ := h4 i i1 z
      obtain ⟨b1, b2, b3, b4⟩ := h3 i (by omega) z
      refine ⟨a1.cong (by omega) (fun k j j1 j2 => upE_ne (by omega)), a2, a3, ?_⟩
      by_cases q : F 2 i = N0
      · rw [q, upE_3]
        refine ⟨by omega, fun w => ?_⟩
        by_cases w1 : F 3 i = N1
        · rw [w1, hq]
        · rw [a5 (by rw [q, h2]; omega), q]
      · rw [une q]
        exact ⟨a4, a5⟩
    · obtain ⟨b1, b2, b3, b4⟩ := k3 i z i2
      by_cases q : i = N1
      · subst q
        refine ⟨hk.cong (by omega) (fun k j j1 j2 => upE_ne (by omega)), by omega, by omega, ?_⟩
        rw [hq, upE_3]
        exact ⟨by omega, fun w => by omega⟩
      · obtain ⟨a1, a2, a3, a4, a5⟩ := k4 i (by omega) i2
        refine ⟨a1.cong (by omega) (fun k j j1 j2 => upE_ne (by omega)), by omega, a3, ?_⟩
        rw [une (by omega)]
        exact ⟨a4, a5⟩
  · rw [u2]
    by_cases e : i = N0
    · subst e
      rcases Nat.lt_or_ge j N1 with z | z
      · exact h5 i j (Nat.le_refl _) h1 i3 (by omega)
      · by_cases q : j = N1
        · subst q; omega
        · rw [upE_3] at i4
          have := (k4 j (by omega) i4).2.1
          omega
    · rw [une e] at i4
      rcases Nat.lt_or_ge i N1 with z | z
      · exact h5 i j i1 z i3 i4
      · exact k5 i j z i2 i3 i4
/-- a part comes into another on the reference's side -/
theorem m_within {F : TB} {g : List N3} {tp : Nat → Nat} {n : Nat} {N0 N1 N2 : Nat} {v : Int32} {σ : SS} (h : SB g tp n F N0 N1) (h' : SB g tp n F N1 N2) (hq : F 2 N1 = N0) (m : SM F N0 N1 σ) (m' : SM F N1 N2 σ) (hl : LSt F N0 N1 v) (h8 : sI σ 8 = -1) (hN : N1 + 1 < 310) : ∃ σ', P_X11_within (nI (N0 + 1)) (nI (N1 + 1)) v σ = some σ' ∧ Fr [] [12, 13, 14] [] σ σ' ∧ CF N0 σ σ' ∧ SM (upE F N0 N2 (F 4 N0 + F 4 N1)) N0 N2 σ' := by
  obtain ⟨⟨h1, h2⟩, h3, h4, h5⟩ := h
  obtain ⟨⟨k1, k2⟩, k3, k4, k5⟩ := h'
  obtain ⟨m1, m2, m3⟩ := m
  obtain ⟨n1, n2, n3⟩ := m'
  have u2 : upE F N0 N2 (F 4 N0 + F 4 N1) 2 = F 2 := upE_k (by decide) (by decide)
  have u0 : upE F N0 N2 (F 4 N0 + F 4 N1) 0 = F 0 := upE_k (by decide) (by decide)
  have u1 : upE F N0 N2 (F 4 N0 + F 4 N1) 1 = F 1 := upE_k (by decide) (by decide)
  have u5 : upE F N0 N2 (F 4 N0 + F 4 N1) 5 = F 5 := upE_k (by decide) (by decide)
  have une : ∀ {k i}, ¬ i = N0 → upE F N0 N2 (F 4 N0 + F 4 N1) k i = F k i := fun h => upE_ne h
  obtain ⟨r1, r2, r3, r4, r5⟩ := m2 N0 (Nat.le_refl _) h1
  have s3 := (n2 N1 (Nat.le_refl _) k1).2.2.1
  -- what must be shown of the state
  have fin : ∀ σ', (∀ j, sA σ' 10 j = sA σ 10 j) → (∀ j, sA σ' 11 j = sA σ 11 j) → (∀ j, sA σ' 12 j = if j = N0 + 1 then nI (F 4 N0 + F 4 N1) else sA σ 12 j) → (∀ j, ¬ j = N0 + 1 → sA σ' 13 j = sA σ 13 j) → sA σ' 13 (N0 + 1) = nI (N0 + 2) → (∀ j, ¬ (N0 < j ∧ j < N1 ∧ F 2 j = N0 ∧ F 3 j = N1) → sA σ' 14 (j + 1) = sA σ 14 (j + 1)) → (∀ j, N0 < j → j < N1 → F 2 j = N0 → F 3 j = N1 → sA σ' 14 (j + 1) = nI (N1 + 1)) → (∀ j, sL σ' 2 j = sL σ 2 j) → SM (upE F N0 N2 (F 4 N0 + F 4 N1)) N0 N2 σ' := by
    intro σ' e10 e11 e12 e13 e13' e14 e14' e2
    refine ⟨(e14 N0 (by omega)).trans m1, fun i i1 i2 => ?_, fun i i1 i2 => ?_⟩
    · unfold RW
      rw [e10, e11, e12, e2, u0, u1, u5]
      by_cases e : i = N0
      · subst e
        rw [upE_3, upE_4, if_pos rfl, if_pos (by omega)]
        exact ⟨r1, r2, rfl, e13', r5⟩
      · rw [une e, une e, if_neg (by omega), e13 _ (by omega)]
        rcases Nat.lt_or_ge i N1 with z | z
        · exact m2 i i1 z
        · exact n2 i z i2
    · rw [u2, une (show ¬ i = N0 by omega)]
      rcases Nat.lt_or_ge i N1 with z | z
      · have b3 := (h3 i (by omega) z).2.2.1
        by_cases q : F 2 i = N0
        · rw [q, upE_3]
          by_cases w : F 3 i = N1
          · rw [e14' i i1 z q w, w, if_pos k1]
          · have := m3 i i1 z
            rw [q, h2, if_pos (by omega)] at this
            rw [e14 i (by omega), if_pos (by omega), this]
        · rw [une q, e14 i (by omega)]
          exact m3 i i1 z
      · rw [e14 i (by omega)]
        by_cases q : i = N1
        · subst q
          rw [hq, upE_3, k2, if_neg (by omega)]
          exact n1
        · have a2 := (k4 i (by omega) i2).2.1
          rw [une (by omega)]
          exact n3 i (by omega) i2
  unfold P_X11_within
  rw [h8, if_pos (by decide), gI_nI (show N0 + 1 < 310 by omega) (by decide), gI_nI hN (by decide), gI_nI (show N0 + 1 < 310 by omega) (by decide), ldA_nI (by omega), ldA_nI (by omega), r3, s3, nI_add]
  have a12 : sA (stA σ 12 (nI (N0 + 1)) (nI (F 4 N0 + F 4 N1))) 12 = upd (sA σ 12) (N0 + 1) (nI (F 4 N0 + F 4 N1)) := sA_stN (by omega)
  rcases hl with ⟨l1, rfl⟩ | ⟨l, l1, l2, l3, l4, rfl⟩
  · rw [if_neg (fun w => w rfl), gI_nI (show N0 + 1 < 310 by omega) (by decide)]
    have a13 : sA (stA (stA σ 12 (nI (N0 + 1)) (nI (F 4 N0 + F 4 N1))) 13 (nI (N0 + 1)) (nI (N1 + 1))) 13 = upd (sA σ 13) (N0 + 1) (nI (N1 + 1)) := by rw [sA_stN (by omega), sA_stA, if_neg (by decide)]
    refine ⟨_, rfl, (Fr.stA (by decide)).tr (Fr.stA (by decide)), ⟨fun k g1 g2 j hj => ?_, fun j hj => rfl⟩, fin _ (fun _ => rfl) (fun _ => rfl) (fun j => ?_) (fun j hj => ?_) ?_ (fun _ _ => rfl) (fun j j1 j2 => by omega) (fun _ => rfl)⟩
    · rcases (show k = 10 ∨ k = 11 ∨ k = 12 ∨ k = 13 ∨ k = 14 by omega) with z | z | z | z | z <;> subst z
      · rfl
      · rfl
      · rw [sA_stA, if_neg (show ¬ (12 : Nat) = 13 by decide), a12, upd_at, if_neg (by omega)]
      · rw [a13, upd_at, if_neg (by omega)]
      · rfl
    · rw [sA_stA, if_neg (show ¬ (12 : Nat) = 13 by decide), a12, upd_at]
    · rw [a13, upd_at, if_neg hj]
    · rw [a13, upd_at, if_pos rfl, show N1 + 1 = N0 + 2 by omega]
  · rw [if_pos (nI_ne0 (by omega) (by omega)), gI_nI (show l + 1 < 310 by omega) (by decide)]
    have a14 : sA (stA (stA σ 12 (nI (N0 + 1)) (nI (F 4 N0 + F 4 N1))) 14 (nI (l + 1)) (nI (N1 + 1))) 14 = upd (sA σ 14) (l + 1) (nI (N1 + 1)) := by rw [sA_stN (by omega), sA_stA, if_neg (by decide)]
    have uniq : ∀ j, N0 < j → j < N1 → F 2 j = N0 → F 3 j = N1 → j = l := by
      intro j j1 j2 j3 j4
      rcases Nat.lt_trichotomy j l with z | z | z
      · have := h5 j l (by omega) j2 z (by omega)
        omega
      · exact z
      · have := h5 l j (by omega) l2 z (by omega)
        omega
    refine ⟨_, rfl, (Fr.stA (by decide)).tr (Fr.stA (by decide)), ⟨fun k g1 g2 j hj => ?_, fun j hj => rfl⟩, fin _ (fun _ => rfl) (fun _ => rfl) (fun j => ?_) (fun j hj => rfl) ?_ (fun j hj => ?_) (fun j j1 j2 j3 j4 => ?_) (fun _ => rfl)⟩
    · rcases (show k = 10 ∨ k = 11 ∨ k = 12 ∨ k = 13 ∨ k = 14 by omega) with z | z | z | z | z <;> subst z
      · rfl
      · rfl
      · rw [sA_stA, if_neg (show ¬ (12 : Nat) = 14 by decide), a12, upd_at, if_neg (by omega)]
      · rfl
      · rw [a14, upd_at, if_neg (by omega)]
    · rw [sA_stA, if_neg (show ¬ (12 : Nat) = 14 by decide), a12, upd_at]
    · show sA σ 13 (N0 + 1) = _
      rw [r4, h2, if_pos (by omega)]
    · rw [a14, upd_at, if_neg (fun w => hj (by
        have : j = l := by omega
        subst this
        exact ⟨l1, l2, l3, l4⟩))]
    · rw [a14, upd_at, if_pos (by rw [uniq j j1 j2 j3 j4])]
theorem LSt.next {F : TB} {N0 N1 N2 s : Nat} (h1 : N0 < N1) (h2 : N1 < N2) (hq : F 2 N1 = N0) (h3 : F 3 N1 = N2) : LSt (upE F N0 N2 s) N0 N2 (nI (N1 + 1)) := Or.inr ⟨N1, h1, h2, by rw [upE_k (by decide) (by decide)]; exact hq, by rw [upE_ne (by omega)]; exact h3, rfl⟩
