theorem gh_put {g : List N3} {hs : List (List N3)} {σx σm : SS} (h : GH g hs σx σm) (n k a b : Int32) : ∃ (r : Int64) (σx' σm' : SS), P_X10_put n k a b σx = some (r, σx') ∧ P_X11_put n k a b σm = some (r, σm') ∧
    ((σx' = σx ∧ σm' = σm) ∨ ∃ g' hs', GH g' hs' σx' σm' ∧ sI σx' 0 = 0 ∧ sI σm' 1 = 0 ∧ Fr [0, 5, 6] [0, 1, 2, 3, 4, 5, 6] [] σx σx' ∧ Fr [0, 1, 2] [0, 1, 2, 3] [] σm σm') := by
  obtain ⟨hgd, hgx, hgm, hhm, ds, hHC, hdx⟩ := h
  have hl := hgd.1
  unfold P_X10_put P_X11_put
  rcases (x_has hgx hl n).cases with ⟨e1, hn⟩ | ⟨e1, hn⟩
  · have e1m := (m_isShape hgm hl n).1 hn
    rw [e1, e1m, Option.bind_some, Option.bind_some, if_neg (by decide), if_neg (by decide)]
    rcases (fits_x k a b).cases with ⟨e2, ok⟩ | ⟨e2, ok⟩
    · have e3 := (good_m k a b).1 ok
      rw [e2, e3, Option.bind_some, Option.bind_some, if_pos (by decide), if_pos (by decide)]
      obtain ⟨t, ht, rfl, rfl, rfl⟩ := ok_N3 ok
      obtain ⟨i, hi, f1, rfl⟩ := of_nI hn.1
      have hil : i < g.length := by omega
      have hi16 : i < 16 := by omega
      obtain ⟨u, hu⟩ : ∃ u, g[i]? = some u := ⟨g[i], List.getElem?_eq_getElem hil⟩
      obtain ⟨u0, u1, u2⟩ := hgx.2 i u hu
      rw [x_kind hi16, x_a hi16, x_b hi16, Option.bind_some, Option.bind_some, Option.bind_some, u0, u1, u2]
      obtain ⟨σ1, p1, p2, p3⟩ := x_keep (d := (i, some u)) (kv := nI u.1) (av := nI u.2.1) (bv := nI u.2.2) hdx (fun z => by cases z) (fun t z => by cases z; exact ⟨rfl, rfl, rfl⟩)
      rw [p1, Option.bind_some, x_change hi16, Option.bind_some]
      obtain ⟨σ2, q1, q2, q3, q4⟩ := m_keep hhm hgm hl
      rw [q1, Option.bind_some, m_lay hi16, Option.bind_some]
      refine ⟨_, _, _, rfl, rfl, Or.inr ⟨g.set i t, g :: hs.take 7, ?_, rfl, ?_, ?_, ?_⟩⟩
      · obtain ⟨l0, l1, l2⟩ := lay_GA (σ := σ1) (a := nI t.1) (b := nI t.2.1) (c := nI t.2.2) hi16
        obtain ⟨k0, k1, k2⟩ := lay_GA (σ := σ2) (a := nI t.1) (b := nI t.2.1) (c := nI t.2.2) hi16
        refine ⟨hgd.set ht, ⟨?_, ?_⟩, ⟨?_, ?_⟩, ?_, (i, some u) :: ds.take 7, ⟨?_, ?_, hgd, HC.take 7 hHC⟩, ?_⟩
        · rw [List.length_set]
          simp only [sI_uI, sI_stA, reduceIte, Nat.reduceEqDiff]
          exact (p3.1 5 (by decide)).trans hgx.1
        · simp only [sA_uI]
          rw [l0, l1, l2, p3.2.1 0 (by decide), p3.2.1 1 (by decide), p3.2.1 2 (by decide)]
          exact hgx.2.set
        · rw [List.length_set]
          simp only [sI_stA]
          exact (q4.1 0 (by decide)).trans hgm.1
        · rw [k0, k1, k2, q4.2.1 0 (by decide), q4.2.1 1 (by decide), q4.2.1 2 (by decide)]
          exact hgm.2.set
        · refine ⟨?_, q2.2.1, ?_⟩
          · simp only [sI_stA]; exact q2.1
          · rw [sA_stne (by decide), sA_stne (by decide), sA_stne (by decide)]; exact q2.2.2
        · show g = (g.set i t).set i u
          rw [List.set_set]
          apply List.ext_getElem?
          intro j
          by_cases hj : j = i
          · subst hj
            rw [List.getElem?_set_self hil, hu]
          · rw [List.getElem?_set_ne (Ne.symm hj)]
        · intro t z
          cases z
          exact ⟨hi16, hgd.2 u (List.mem_of_getElem? hu)⟩
        · refine ⟨?_, p2.2.1, ?_⟩
          · simp only [sI_uI, sI_stA, reduceIte, Nat.reduceEqDiff]; exact p2.1
          · simp only [sA_uI]
            rw [sA_stne (by decide), sA_stne (by decide), sA_stne (by decide), sA_stne (by decide), sA_stne (by decide), sA_stne (by decide), sA_stne (by decide), sA_stne (by decide), sA_stne (by decide), sA_stne (by decide), sA_stne (by decide), sA_stne (by decide)]; exact p2.2.2
      · simp only [sI_stA]; exact q3
      · exact ((((p3.mono (by decide) (by decide) (by decide)).tr (Fr.stA (by decide))).tr (Fr.stA (by decide))).tr (Fr.stA (by decide))).tr (Fr.uI (by decide))
      · exact (((q4.mono (by decide) (by decide) (by decide)).tr (Fr.stA (by decide))).tr (Fr.stA (by decide))).tr (Fr.stA (by decide))
    · have e3 := (good_m k a b).2 ok
      rw [e2, e3, Option.bind_some, Option.bind_some, if_neg (by decide), if_neg (by decide)]
      exact ⟨_, _, _, rfl, rfl, Or.inl ⟨rfl, rfl⟩⟩
  · have e1m := (m_isShape hgm hl n).2 hn
    rw [e1, e1m, Option.bind_some, Option.bind_some, if_pos rfl, if_pos rfl]
    exact ⟨_, _, _, rfl, rfl, Or.inl ⟨rfl, rfl⟩⟩
theorem vX6_at_any15 {σ : SS} {i : Nat} (hi : i < 8) : P_X6_at_15 (nI i) σ = some (sA σ 4 i) := vX6_at_15 hi
theorem gh_undo {g : List N3} {hs : List (List N3)} {σx σm : SS} (h : GH g hs σx σm) : ∃ (r : Int64) (σx' σm' : SS), P_X10_undo σx = some (r, σx') ∧ P_X11_undo σm = some (r, σm') ∧
    ((σx' = σx ∧ σm' = σm) ∨ ∃ g' hs', GH g' hs' σx' σm' ∧ sI σx' 0 = 0 ∧ sI σm' 1 = 0 ∧ Fr [0, 5, 6] [0, 1, 2, 3, 4, 5, 6] [] σx σx' ∧ Fr [0, 1, 2] [0, 1, 2, 3] [] σm σm') := by
  obtain ⟨hgd, hgx, hgm, hhm, ds, hHC, hdx⟩ := h
  have hl := hgd.1
  have hlen := hHC.len
  unfold P_X10_undo P_X11_undo P_X2_size
  rw [Option.bind_some, hdx.1, hhm.1, hlen, show (0 : Int32) = nI 0 from rfl]
  cases hs with
  | nil =>
    cases ds with
    | nil =>
      rw [if_neg (by simp), if_neg (by simp)]
      exact ⟨_, _, _, rfl, rfl, Or.inl ⟨rfl, rfl⟩⟩
    | cons d ds => exact hHC.elim
  | cons s hs =>
    cases ds with
    | nil => exact hHC.elim
    | cons d ds =>
      obtain ⟨hb, hd3, hsd, hHC2⟩ := hHC
      obtain ⟨x1, x2, x3⟩ := hdx
      obtain ⟨m1, m2, m3⟩ := hhm
      simp only [List.length_cons] at *
      have hlen2 : hs.length = ds.length := by omega
      have hds8 : ds.length < 8 := by omega
      rw [if_pos (by rw [nI_eq (by omega) (by decide)]; omega), if_pos (by rw [nI_eq (by omega) (by decide)]; omega), nI_pred]
      obtain ⟨d1, d2, d3⟩ := x3 0 d rfl
      have q0 : ds.length + 1 - 1 - 0 = ds.length := by omega
      rw [q0] at d1 d2 d3
      -- the reference
      obtain ⟨s0, s1, s2⟩ := m3 0 s rfl
      have q1 : hs.length + 1 - 1 - 0 = ds.length := by omega
      rw [q1] at s1 s2
      have e49 : (49 : Int32) * nI ds.length = nI (49 * ds.length) := nI_mul 49 _
      rw [sI_uI, if_pos rfl, e49, gI_nI (by omega) (by decide), ldA_nI (by omega), sA_uI, s1]
      obtain ⟨σ2, b1, b2, b3, b4⟩ := m_undo_loop (uI (uI σm 2 (nI ds.length)) 0 (nI s.length)) ds.length hds8 16 0 _ FU (by decide) (by decide) Fr.rf (fun k hk => absurd hk (by omega))
      rw [show (nI 0 : Int32) = nI 0 from rfl, b1]
      have bk : sI (uI (uI σm 2 (nI ds.length)) 0 (nI s.length)) 2 = nI ds.length := rfl
      rw [bk]
      have hgm2 : gM' s σ2 := by
        refine ⟨by rw [b2.1 0 (by decide)]; rfl, fun k t hk => ?_⟩
        have hk16 : k < 16 := Nat.lt_of_lt_of_le (List.getElem?_eq_some_iff.mp hk).1 s0
        obtain ⟨c1, c2, c3⟩ := b4 k hk16
        rw [c1, c2, c3]
        exact s2 k t hk
      have hhm2 : hM hs σ2 := by
        refine ⟨by rw [b2.1 2 (by decide), hlen2]; rfl, by omega, fun j u hj => ?_⟩
        have := m3 (j + 1) u (by rw [List.getElem?_cons_succ]; exact hj)
        have q : hs.length + 1 - 1 - (j + 1) = hs.length - 1 - j := by omega
        rw [q] at this
        rw [b2.2.1 3 (by decide)]
        exact this
      have hfm : Fr [0, 1, 2] [0, 1, 2, 3] [] σm σ2 := ((Fr.uI (by decide)).tr (Fr.uI (by decide))).tr (b2.mono (by decide) (by decide) (by decide))
      -- the class
      have hdx2 : ∀ σ', sI σ' 6 = nI ds.length → (∀ k, k = 3 ∨ k = 4 ∨ k = 5 ∨ k = 6 → sA σ' k = sA σx k) → dX ds σ' := by
        intro σ' f6 fA
        refine ⟨f6, by omega, fun j e hj => ?_⟩
        have := x3 (j + 1) e (by rw [List.getElem?_cons_succ]; exact hj)
        have q : ds.length + 1 - 1 - (j + 1) = ds.length - 1 - j := by omega
        rw [q] at this
        rw [fA 3 (by simp), fA 4 (by simp), fA 5 (by simp), fA 6 (by simp)]
        exact this
      unfold P_X2_takeBack
      rw [x1, show (0 : Int32) = nI 0 from rfl, if_pos (nI_lt (by omega) (by omega)), nI_pred, sI_uI, if_pos rfl, vX6_at_15 hds8, Option.bind_some, sA_uI]
      cases hd : d.2 with
      | none =>
        rw [d2 hd, if_neg (by simp)]
        have hb2 : s = g.dropLast := by rw [hb, back, hd]
        have hsl : s.length = g.length - 1 := by rw [hb2, List.length_dropLast]
        unfold P_X1_dropLast
        have e5 : sI (uI σx 6 (nI ds.length)) 5 = nI g.length := hgx.1
        rw [e5]
        by_cases hg0 : g.length = 0
        · rw [hg0, show (0 : Int32) = nI 0 from rfl, if_pos (nI_le (Nat.le_refl 0) (by decide)), Option.bind_some, Option.bind_some]
          refine ⟨_, _, _, rfl, rfl, Or.inr ⟨s, hs, ⟨hsd, ⟨?_, ?_⟩, hgm2, hhm2, ds, hHC2, ?_⟩, rfl, b3, ?_, hfm⟩⟩
          · simp only [sI_uI, reduceIte, Nat.reduceEqDiff]
            rw [hgx.1, hsl, hg0]
          · rw [hb2]; exact hgx.2.drop
          · exact hdx2 _ rfl (fun k _ => rfl)
          · exact (Fr.uI (by decide)).tr (Fr.uI (by decide))
        · rw [show (0 : Int32) = nI 0 from rfl, if_neg (by rw [nI_leI (by omega) (by decide)]; omega), Option.bind_some, Option.bind_some]
          have eg : nI g.length - 1 = nI s.length := by rw [hsl]; exact nI_sub (b := 1) (by omega)
          rw [eg]
          refine ⟨_, _, _, rfl, rfl, Or.inr ⟨s, hs, ⟨hsd, ⟨?_, ?_⟩, hgm2, hhm2, ds, hHC2, ?_⟩, rfl, b3, ?_, hfm⟩⟩
          · simp only [sI_uI, reduceIte, Nat.reduceEqDiff]
          · rw [hb2]; exact hgx.2.drop
          · exact hdx2 _ rfl (fun k _ => rfl)
          · exact ((Fr.uI (by decide)).tr (Fr.uI (by decide))).tr (Fr.uI (by decide))
      | some t =>
        obtain ⟨t1, t2, t3⟩ := d3 t hd
        obtain ⟨h16, htg⟩ := hd3 t hd
        have hne : ¬ nI t.1 = -1 := by
          rw [I32eq, nI_toInt (by have := htg.lt; omega), tm1]
          omega
        rw [t1, if_pos hne, vX6_at_14 hds8, vX6_at_16 hds8, vX6_at_17 hds8, Option.bind_some, Option.bind_some, Option.bind_some, sA_uI, sA_uI, sA_uI, d1, t2, t3, x_change h16, Option.bind_some, Option.bind_some, Option.bind_some]
        have hb2 : s = g.set d.1 t := by rw [hb, back, hd]
        obtain ⟨l0, l1, l2⟩ := lay_GA (σ := uI σx 6 (nI ds.length)) (a := nI t.1) (b := nI t.2.1) (c := nI t.2.2) h16
        refine ⟨_, _, _, rfl, rfl, Or.inr ⟨s, hs, ⟨hsd, ⟨?_, ?_⟩, hgm2, hhm2, ds, hHC2, ?_⟩, rfl, b3, ?_, hfm⟩⟩
        · simp only [sI_uI, sI_stA, reduceIte, Nat.reduceEqDiff]
          rw [hgx.1, hb2, List.length_set]
        · rw [sA_uI, sA_uI, sA_uI, l0, l1, l2, hb2]
          exact hgx.2.set
        · refine hdx2 _ rfl (fun k hk => ?_)
          rw [sA_uI]
          rcases hk with rfl | rfl | rfl | rfl <;> rw [sA_stne (by decide), sA_stne (by decide), sA_stne (by decide)] <;> rfl
        · exact ((((Fr.uI (by decide)).tr (Fr.stA (by decide))).tr (Fr.stA (by decide))).tr (Fr.stA (by decide))).tr (Fr.uI (by decide))
