/-! shape, put, undo, about: what they do to grammars, on both sides -/
theorem x_has {σ : SS} {g : List N3} (h : gX' g σ) (hl : g.length ≤ 16) (a : Int32) : TF (P_X1_has a σ) (0 ≤ a.toInt ∧ a.toInt < g.length) := by
  apply TF.of
  unfold P_X1_has
  rw [h.1]
  simp only [I32lt, I32le, t0, nI_toInt (show g.length < 2 ^ 31 by omega)]
  repeat' split
  all_goals first | (left; refine ⟨rfl, ?_⟩; omega) | (right; refine ⟨rfl, ?_⟩; omega)
theorem m_isShape {σ : SS} {g : List N3} (h : gM' g σ) (hl : g.length ≤ 16) (a : Int32) : TF (P_X11_isShape a σ) (0 ≤ a.toInt ∧ a.toInt < g.length) := by
  have e1 : (nI g.length - 1).toInt = (g.length : Int) - 1 := by
    cases hg : g.length with
    | zero => decide
    | succ n =>
      rw [nI_pred, nI_toInt (by omega)]
      omega
  have h1 := isIn_t a 0 (nI g.length - 1).toInt64
  rw [Int32.toInt_toInt64, w0, e1] at h1
  unfold P_X11_isShape
  rw [h.1]
  rcases h1.cases with ⟨e, q⟩ | ⟨e, q⟩
  · refine ⟨fun _ => by rw [e]; rfl, fun z => absurd (show 0 ≤ a.toInt ∧ a.toInt < g.length by omega) z⟩
  · refine ⟨fun z => absurd (show 0 ≤ a.toInt ∧ a.toInt ≤ (g.length : Int) - 1 by omega) q, fun _ => by rw [e]; rfl⟩
theorem x_kind {σ : SS} {k : Nat} (hk : k < 16) : P_X1_kind (nI k) σ = some (sA σ 0 k) := by
  refine (rows_ok (N := 16) (M := 16) (x := some 0) (y := some (ldA σ 0 (nI k))) rfl hk (by decide)).trans ?_
  simp only [ldA, ix_nI (show k < 2 ^ 31 by omega)]
theorem x_a {σ : SS} {k : Nat} (hk : k < 16) : P_X1_a (nI k) σ = some (sA σ 1 k) := by
  refine (rows_ok (N := 16) (M := 16) (x := some 0) (y := some (ldA σ 1 (nI k))) rfl hk (by decide)).trans ?_
  simp only [ldA, ix_nI (show k < 2 ^ 31 by omega)]
theorem x_b {σ : SS} {k : Nat} (hk : k < 16) : P_X1_b (nI k) σ = some (sA σ 2 k) := by
  refine (rows_ok (N := 16) (M := 16) (x := some 0) (y := some (ldA σ 2 (nI k))) rfl hk (by decide)).trans ?_
  simp only [ldA, ix_nI (show k < 2 ^ 31 by omega)]
theorem x_change {σ : SS} {k : Nat} {a b c : Int32} (hk : k < 16) : P_X1_change (nI k) a b c σ = some (stA (stA (stA σ 0 (nI k) a) 1 (nI k) b) 2 (nI k) c) := by
  unfold P_X1_change
  rw [vX6_set_11 hk, Option.bind_some, vX6_set_12 hk, Option.bind_some, vX6_set_13 hk, Option.bind_some]
theorem lay_GA {σ : SS} {k : Nat} {a b c : Int32} (hk : k < 16) : sA (stA (stA (stA σ 0 (nI k) a) 1 (nI k) b) 2 (nI k) c) 0 = upd (sA σ 0) k a ∧ sA (stA (stA (stA σ 0 (nI k) a) 1 (nI k) b) 2 (nI k) c) 1 = upd (sA σ 1) k b ∧ sA (stA (stA (stA σ 0 (nI k) a) 1 (nI k) b) 2 (nI k) c) 2 = upd (sA σ 2) k c := by
  have hx : ix (nI k) = k := ix_nI (by omega)
  simp only [sA_stA, hx, reduceIte, Nat.reduceEqDiff]
  exact ⟨trivial, trivial, trivial⟩
/-- the grammar and the history of both sides: the part of the invariant that these calls touch -/
def GH (g : List N3) (hs : List (List N3)) (σx σm : SS) : Prop := GdL g ∧ gX' g σx ∧ gM' g σm ∧ hM hs σm ∧ ∃ ds, HC g hs ds ∧ dX ds σx
theorem GH.frame {g : List N3} {hs : List (List N3)} {σx σm σx' σm' : SS} (h : GH g hs σx σm) (h1 : sI σx' 5 = sI σx 5) (h2 : sI σx' 6 = sI σx 6) (h3 : ∀ k, k < 7 → sA σx' k = sA σx k) (h4 : sI σm' 0 = sI σm 0) (h5 : sI σm' 2 = sI σm 2) (h6 : ∀ k, k < 4 → sA σm' k = sA σm k) : GH g hs σx' σm' := by
  obtain ⟨a, ⟨b1, b2⟩, ⟨c1, c2⟩, ⟨d1, d2, d3⟩, ds, e, f1, f2, f3⟩ := h
  refine ⟨a, ⟨h1.trans b1, ?_⟩, ⟨h4.trans c1, ?_⟩, ⟨h5.trans d1, d2, ?_⟩, ds, e, h2.trans f1, f2, ?_⟩
  · rw [h3 0 (by decide), h3 1 (by decide), h3 2 (by decide)]; exact b2
  · rw [h6 0 (by decide), h6 1 (by decide), h6 2 (by decide)]; exact c2
  · rw [h6 3 (by decide)]; exact d3
  · rw [h3 3 (by decide), h3 4 (by decide), h3 5 (by decide), h3 6 (by decide)]; exact f3
theorem i_add1 {n : Nat} : nI (n + 1) - 1 = nI n := nI_pred n
theorem gh_shape {g : List N3} {hs : List (List N3)} {σx σm : SS} (h : GH g hs σx σm) (k a b : Int32) : ∃ (r : Int64) (σx' σm' : SS), P_X10_shape k a b σx = some (r, σx') ∧ P_X11_shape k a b σm = some (r, σm') ∧
    ((σx' = σx ∧ σm' = σm) ∨ ∃ g' hs', GH g' hs' σx' σm' ∧ sI σx' 0 = 0 ∧ sI σm' 1 = 0 ∧ Fr [0, 5, 6] [0, 1, 2, 3, 4, 5, 6] [] σx σx' ∧ Fr [0, 1, 2] [0, 1, 2, 3] [] σm σm') := by
  obtain ⟨hgd, hgx, hgm, hhm, ds, hHC, hdx⟩ := h
  have hl := hgd.1
  unfold P_X10_shape P_X11_shape
  rcases (fits_x k a b).cases with ⟨e1, ok⟩ | ⟨e1, ok⟩
  · have e2 := (good_m k a b).1 ok
    rw [e1, e2, Option.bind_some, Option.bind_some, if_pos (by decide), if_pos (by decide)]
    rw [show P_X1_size σx = some (sI σx 5) from rfl, Option.bind_some, Option.bind_some, hgx.1, hgm.1, show (16 : Int32) = nI 16 from rfl]
    by_cases h16 : g.length < 16
    · rw [if_pos (nI_lt h16 (by decide)), if_pos (by rw [nI_eq (by omega) (by decide)]; omega)]
      obtain ⟨t, ht, rfl, rfl, rfl⟩ := ok_N3 ok
      obtain ⟨σ1, f1, f2, f3⟩ := x_keep (d := (g.length, none)) (kv := -1) (av := 0) (bv := 0) hdx (fun _ => rfl) (fun t z => by cases z)
      rw [f1, Option.bind_some]
      obtain ⟨σ2, g1, g2, g3, g4⟩ := m_keep hhm hgm hl
      rw [g1, Option.bind_some]
      have e5 : sI σ1 5 = nI g.length := (f3.1 5 (by decide)).trans hgx.1
      have e0 : sI σ2 0 = nI g.length := (g4.1 0 (by decide)).trans hgm.1
      unfold P_X1_add
      rw [e5, show (16 : Int32) = nI 16 from rfl, if_neg (nI_ge h16 (by decide)), nI_1, sI_uI, if_pos rfl, i_add1, x_change h16, Option.bind_some, Option.bind_some, e0, m_lay h16, Option.bind_some]
      simp only [sI_stA, sI_uI, e0, reduceIte, nI_1, i_add1]
      refine ⟨_, _, _, rfl, rfl, Or.inr ⟨g ++ [t], g :: hs.take 7, ?_, rfl, ?_, ?_, ?_⟩⟩
      · obtain ⟨l0, l1, l2⟩ := lay_GA (σ := uI σ1 5 (nI (g.length + 1))) (a := nI t.1) (b := nI t.2.1) (c := nI t.2.2) h16
        obtain ⟨k0, k1, k2⟩ := lay_GA (σ := σ2) (a := nI t.1) (b := nI t.2.1) (c := nI t.2.2) h16
        refine ⟨hgd.push h16 ht, ⟨?_, ?_⟩, ⟨?_, ?_⟩, ?_, (g.length, none) :: ds.take 7, ⟨?_, ?_, hgd, HC.take 7 hHC⟩, ?_⟩
        · simp only [sI_uI, sI_stA, reduceIte, Nat.reduceEqDiff]; simp
        · simp only [sA_uI] at l0 l1 l2 ⊢
          rw [l0, l1, l2, f3.2.1 0 (by decide), f3.2.1 1 (by decide), f3.2.1 2 (by decide)]
          exact hgx.2.push
        · simp only [sI_uI, sI_stA, reduceIte, Nat.reduceEqDiff]; simp
        · simp only [sA_uI]
          rw [k0, k1, k2, g4.2.1 0 (by decide), g4.2.1 1 (by decide), g4.2.1 2 (by decide)]
          exact hgm.2.push
        · refine ⟨?_, g2.2.1, ?_⟩
          · simp only [sI_uI, sI_stA, reduceIte, Nat.reduceEqDiff]; exact g2.1
          · simp only [sA_uI, sA_stA, reduceIte, Nat.reduceEqDiff]; exact g2.2.2
        · show g = (g ++ [t]).dropLast
          simp
        · intro t z; cases z
        · refine ⟨?_, f2.2.1, ?_⟩
          · simp only [sI_uI, sI_stA, reduceIte, Nat.reduceEqDiff]; exact f2.1
          · simp only [sA_uI, sA_stA, reduceIte, Nat.reduceEqDiff]; exact f2.2.2
      · simp only [sI_uI, sI_stA, reduceIte, Nat.reduceEqDiff]; exact g3
      · exact (((((f3.mono (by decide) (by decide) (by decide)).tr (Fr.uI (by decide))).tr (Fr.stA (by decide))).tr (Fr.stA (by decide))).tr (Fr.stA (by decide))).tr (Fr.uI (by decide))
      · exact ((((g4.mono (by decide) (by decide) (by decide)).tr (Fr.stA (by decide))).tr (Fr.stA (by decide))).tr (Fr.stA (by decide))).tr (Fr.uI (by decide))
    · have e : g.length = 16 := by omega
      rw [e, if_neg (by decide), if_neg (by simp)]
      exact ⟨_, _, _, rfl, rfl, Or.inl ⟨rfl, rfl⟩⟩
  · have e2 := (good_m k a b).2 ok
    rw [e1, e2, Option.bind_some, Option.bind_some, if_neg (by decide), if_neg (by decide)]
    exact ⟨_, _, _, rfl, rfl, Or.inl ⟨rfl, rfl⟩⟩
