/-! read: the easy half -/
theorem x_shorten8 {σ : SS} {n : Nat} (hn : n ≤ 300) (e : sI σ 19 = nI n) : ∃ σ', P_X0_shorten_8 0 σ = some σ' ∧ Fr [19] [] [] σ σ' ∧ sI σ' 19 = nI 0 := by
  unfold P_X0_shorten_8
  rw [e, if_neg (by decide)]
  by_cases z : n = 0
  · subst z
    rw [if_pos (by decide)]
    exact ⟨σ, rfl, Fr.rf, e⟩
  · rw [if_neg (fun w => by have := (nI_leI (b := 0) (by omega) (by omega)).mp w; omega)]
    exact ⟨_, rfl, Fr.uI (by decide), rfl⟩
/-- what reading does, on both sides, to everything but the tape -/
def RdMain (σx σm : SS) (x : Nat) : Prop := ∃ (v : Int64) (σ10 σ13 σ7 : SS), P_X5_scan (nI x) σx = some σ10 ∧ P_X10_judge σ10 = some (v, σ13) ∧ P_X11_readHere (nI x) (uI (uI σm 11 1) 14 (sI (uI σm 11 1) 3)) = some (v, σ7) ∧ Fr [1, 2, 3, 4, 10, 11, 12, 13, 14, 15, 16, 17, 18] [11, 12, 13, 14, 15, 16, 17, 18] [3, 4] σx σ13 ∧ Fr [6, 7, 8, 9, 10, 12, 13] [10, 11, 12, 13, 14, 15, 16] [2, 3] (uI (uI σm 11 1) 14 (sI (uI σm 11 1) 3)) σ7 ∧ Fnd σ13 σ7
theorem read_of (main : ∀ (g : List N3) (c : Nat → Nat → Nat) (b : Nat → Nat → Nat → Nat) (σx σm : SS) (n x : Nat), CTX g c b σx σm → Sb 19 19 3 4 n σx σm → x < g.length → RdMain σx σm x) : ReadOK := by
  rintro σx σm a1 ⟨g, hs, h1, ⟨n, h2⟩, ⟨n', h3⟩, h4, h5, h6⟩
  have hgh := h1
  obtain ⟨hd, hgx, hgm, -, -⟩ := h1
  have hl := hd.1
  have easy : ∀ r : Int64, ∃ (r' : Int64) (σx1 σm1 : SS), ((P_X0_shorten_8 0 σx).bind fun σ3 => some (r, σ3)) = some (r', σx1) ∧ some (r, uI σm 3 0) = some (r', σm1) ∧ Inv σx1 σm1 := by
    intro r
    obtain ⟨σ', p1, p2, p3⟩ := x_shorten8 h2.1 h2.2.1
    rw [p1, Option.bind_some]
    exact ⟨r, σ', uI σm 3 0, rfl, rfl, inv_tp ⟨hgh, ⟨n, h2⟩, ⟨n', h3⟩, h4, h5, h6⟩ ⟨0, by decide, p3, rfl, fun i hi => absurd hi (by omega)⟩ (p2.mono (by decide) (by decide) (by decide)) (Fr.uI (by decide))⟩
  unfold P_X10_read P_X11_read P_X10_read_j20
  rcases (x_has hgx hl a1).cases with ⟨e1, e2⟩ | ⟨e1, e2⟩
  · rw [e1, (m_isShape hgm hl a1).1 e2]
    simp only [Option.bind_some, ii1]
    rcases h6 with hf | ⟨f1, f2, hr, f4, c, b, qx, qm⟩
    · rw [hf.1, hf.2, ii0, ii0]
      exact easy _
    · obtain ⟨x, hx, ex, rfl⟩ := of_nI e2.1
      rw [f1, f2, ii1, ii1]
      obtain ⟨v, σ10, σ13, σ7, p1, p2, p3, fx, fm, p4⟩ := main g c b σx σm n x ⟨hr, hgx, hgm, qx, qm⟩ h2 (by omega)
      rw [p1, Option.bind_some, p2, b2_some, p3, b2_some]
      obtain ⟨σ', q1, q2, q3⟩ := x_shorten8 h2.1 ((fx.1 19 (by decide)).trans h2.2.1)
      rw [q1, Option.bind_some]
      have FXX : Fr [1, 2, 3, 4, 10, 11, 12, 13, 14, 15, 16, 17, 18, 19] [11, 12, 13, 14, 15, 16, 17, 18] [3, 4] σx σ' := (fx.mono (by decide) (by decide) (by decide)).tr (q2.mono (by decide) (by decide) (by decide))
      have FMM : Fr [3, 6, 7, 8, 9, 10, 11, 12, 13, 14] [10, 11, 12, 13, 14, 15, 16] [2, 3] σm (uI σ7 3 0) := (((Fr.uI (by decide)).tr (Fr.uI (by decide))).tr (fm.mono (by decide) (by decide) (by decide))).tr (Fr.uI (by decide))
      refine ⟨v, σ', uI σ7 3 0, rfl, rfl, g, hs, hgh.fr FXX FMM (by decide) (by decide) (fun k hk => by simp; omega) (by decide) (by decide) (fun k hk => by simp; omega), ⟨0, by decide, q3, rfl, fun i hi => absurd hi (by omega)⟩, ⟨n', h3.frame (FXX.1 20 (by decide)) (FXX.2.1 20 (by decide)) (FMM.1 4 (by decide)) (FMM.2.1 5 (by decide))⟩, p4.frame (fun k k1 k2 => q2.1 k (by simp; omega)) (fun k k1 k2 => by rw [sI_uI, if_neg (by omega)]), h5.fr (FXX.1 21 (by decide)), ?_⟩
      exact Rf.frame (Or.inr ⟨f1, f2, hr, f4, c, b, qx, qm⟩) (FXX.1 0 (by decide)) (FMM.1 1 (by decide)) (FXX.2.2 0 (by decide)) (FXX.2.2 1 (by decide)) (FMM.2.2 0 (by decide)) (FMM.2.2 1 (by decide))
  · rw [e1, (m_isShape hgm hl a1).2 e2, Option.bind_some, Option.bind_some, ii0, ii0, Option.bind_some, ii0]
    by_cases z : sI σx 0 = 0
    · rw [if_pos z]
      exact easy _
    · rw [if_neg z]
      exact easy _
