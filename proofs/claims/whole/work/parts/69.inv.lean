/-! what holds between the two sides after every call -/
def InvP (g : List N3) (hs : List (List N3)) (σx σm : SS) : Prop := GH g hs σx σm ∧ (∃ n, Sb 19 19 3 4 n σx σm) ∧ (∃ n, Sb 20 20 4 5 n σx σm) ∧ Fnd σx σm ∧ DR σx ∧ Rf g σx σm
def Inv (σx σm : SS) : Prop := ∃ g hs, InvP g hs σx σm
theorem Rf.frame {g : List N3} {σx σm σx' σm' : SS} (h : Rf g σx σm) (h1 : sI σx' 0 = sI σx 0) (h2 : sI σm' 1 = sI σm 1) (h3 : sL σx' 0 = sL σx 0) (h4 : sL σx' 1 = sL σx 1) (h5 : sL σm' 0 = sL σm 0) (h6 : sL σm' 1 = sL σm 1) : Rf g σx' σm' := by
  rcases h with h | ⟨f1, f2, f3, f4, c, b, qx, qm⟩
  · exact Or.inl ⟨h1.trans h.1, h2.trans h.2⟩
  · exact Or.inr ⟨h1.trans f1, h2.trans f2, f3, f4, c, b, qx.frame h3 h4, qm.frame h5 h6⟩
theorem GH.fr {g : List N3} {hs : List (List N3)} {σx σm σx' σm' : SS} {I A L I' A' L' : List Nat} (h : GH g hs σx σm) (fx : Fr I A L σx σx') (fm : Fr I' A' L' σm σm') (h5 : 5 ∉ I) (h6 : 6 ∉ I) (hA : ∀ k, k < 7 → k ∉ A) (h0 : 0 ∉ I') (h2 : 2 ∉ I') (hA' : ∀ k, k < 4 → k ∉ A') : GH g hs σx' σm' := h.frame (fx.1 5 h5) (fx.1 6 h6) (fun k hk => fx.2.1 k (hA k hk)) (fm.1 0 h0) (fm.1 2 h2) (fun k hk => fm.2.1 k (hA' k hk))
theorem DR.fr {σ σ' : SS} (h : DR σ) (e : sI σ' 21 = sI σ 21) : DR σ' := by
  obtain ⟨n, hn, h⟩ := h
  exact ⟨n, hn, e.trans h⟩
theorem Inv_z : Inv σz σz := by
  refine ⟨[], [], ⟨⟨by simp, fun t ht => by simp at ht⟩, ⟨rfl, fun k t hk => by simp at hk⟩, ⟨rfl, fun k t hk => by simp at hk⟩, ⟨rfl, by simp, fun j s hj => by simp at hj⟩, [], trivial, rfl, by simp, fun j d hj => by simp at hj⟩, ⟨0, by decide, rfl, rfl, fun i hi => absurd hi (by omega)⟩, ⟨0, by decide, rfl, rfl, fun i hi => absurd hi (by omega)⟩, ⟨Or.inl rfl, rfl, fun z => absurd z (by decide)⟩, ⟨0, by decide, rfl⟩, Or.inl ⟨rfl, rfl⟩⟩
/-- a change of the grammar, or none -/
theorem inv_gh {g : List N3} {hs : List (List N3)} {σx σm σx' σm' : SS} (h : InvP g hs σx σm) (q : (σx' = σx ∧ σm' = σm) ∨ ∃ g' hs', GH g' hs' σx' σm' ∧ sI σx' 0 = 0 ∧ sI σm' 1 = 0 ∧ Fr [0, 5, 6] [0, 1, 2, 3, 4, 5, 6] [] σx σx' ∧ Fr [0, 1, 2] [0, 1, 2, 3] [] σm σm') : Inv σx' σm' := by
  rcases q with ⟨rfl, rfl⟩ | ⟨g', hs', q1, q2, q3, fx, fm⟩
  · exact ⟨g, hs, h⟩
  · obtain ⟨h1, ⟨n, h2⟩, ⟨n', h3⟩, h4, h5, h6⟩ := h
    exact ⟨g', hs', q1, ⟨n, h2.frame (fx.1 19 (by decide)) (fx.2.1 19 (by decide)) (fm.1 3 (by decide)) (fm.2.1 4 (by decide))⟩, ⟨n', h3.frame (fx.1 20 (by decide)) (fx.2.1 20 (by decide)) (fm.1 4 (by decide)) (fm.2.1 5 (by decide))⟩, h4.frame (fun k k1 k2 => fx.1 k (by simp; omega)) (fun k k1 k2 => fm.1 k (by simp; omega)), h5.fr (fx.1 21 (by decide)), Or.inl ⟨q2, q3⟩⟩
/-- a change of the tape -/
theorem inv_tp {g : List N3} {hs : List (List N3)} {σx σm σx' σm' : SS} (h : InvP g hs σx σm) (q : ∃ n', Sb 19 19 3 4 n' σx' σm') (fx : Fr [19] [19] [] σx σx') (fm : Fr [3] [4] [] σm σm') : Inv σx' σm' := by
  obtain ⟨h1, -, ⟨n', h3⟩, h4, h5, h6⟩ := h
  exact ⟨g, hs, h1.fr fx fm (by decide) (by decide) (fun k hk => by simp; omega) (by decide) (by decide) (fun k hk => by simp; omega), q, ⟨n', h3.frame (fx.1 20 (by decide)) (fx.2.1 20 (by decide)) (fm.1 4 (by decide)) (fm.2.1 5 (by decide))⟩, h4.frame (fun k k1 k2 => fx.1 k (by simp; omega)) (fun k k1 k2 => fm.1 k (by simp; omega)), h5.fr (fx.1 21 (by decide)), h6.frame (fx.1 0 (by decide)) (fm.1 1 (by decide)) (fx.2.2 0 (by decide)) (fx.2.2 1 (by decide)) (fm.2.2 0 (by decide)) (fm.2.2 1 (by decide))⟩
def ReadOK : Prop := ∀ (σx σm : SS) (a1 : Int32), Inv σx σm → ∃ (r : Int64) (σx1 σm1 : SS), P_X10_read a1 σx = some (r, σx1) ∧ P_X11_read a1 σm = some (r, σm1) ∧ Inv σx1 σm1
theorem steps_of (hread : ReadOK) : StepsOK Inv := by
  refine ⟨?_, ?_, ?_, ?_, ?_, ?_, ?_, ?_, ?_, ?_, ?_, ?_, hread, ?_, ?_, ?_⟩
  · rintro σx σm a1 a2 a3 ⟨g, hs, h⟩
    obtain ⟨r, σx', σm', p1, p2, p3⟩ := gh_shape h.1 a1 a2 a3
    exact ⟨r, σx', σm', p1, p2, inv_gh h p3⟩
  · rintro σx σm a1 a2 a3 a4 ⟨g, hs, h⟩
    obtain ⟨r, σx', σm', p1, p2, p3⟩ := gh_put h.1 a1 a2 a3 a4
    exact ⟨r, σx', σm', p1, p2, inv_gh h p3⟩
  · rintro σx σm ⟨g, hs, h⟩
    obtain ⟨r, σx', σm', p1, p2, p3⟩ := gh_undo h.1
    exact ⟨r, σx', σm', p1, p2, inv_gh h p3⟩
  · rintro σx σm a1 a2 ⟨g, hs, h⟩
    exact gh_about h.1 a1 a2
  · rintro σx σm ⟨g, hs, h1, ⟨n, h2⟩, ⟨n', h3⟩, h4, h5, h6⟩
    obtain ⟨r, σx', σm', p1, p2, p3, fx, fm⟩ := rd_ready h1 h6
    exact ⟨r, σx', σm', p1, p2, g, hs, h1.fr fx fm (by decide) (by decide) (fun k hk => by simp; omega) (by decide) (by decide) (fun k hk => by simp; omega), ⟨n, h2.frame (fx.1 19 (by decide)) (fx.2.1 19 (by decide)) (fm.1 3 (by decide)) (fm.2.1 4 (by decide))⟩, ⟨n', h3.frame (fx.1 20 (by decide)) (fx.2.1 20 (by decide)) (fm.1 4 (by decide)) (fm.2.1 5 (by decide))⟩, h4.frame (fun k k1 k2 => fx.1 k (by simp; omega)) (fun k k1 k2 => fm.1 k (by simp; omega)), h5.fr (fx.1 21 (by decide)), p3⟩
  · rintro σx σm a1 a2 ⟨g, hs, h⟩
    exact rd_count h.1 h.2.2.2.2.2 a1 a2
  · rintro σx σm a1 a2 ⟨g, hs, h⟩
    exact rd_upTo h.1 h.2.2.2.2.2 a1 a2
  · rintro σx σm a1 a2 a3 ⟨g, hs, h⟩
    exact rd_parts h.1 h.2.2.2.2.2 a1 a2 a3
  · rintro σx σm a1 a2 a3 ⟨g, hs, h1, ⟨n, h2⟩, ⟨n', h3⟩, h4, h5, h6⟩
    obtain ⟨r, σx', σm', p1, p2, p3, p4, fx, fm⟩ := th_thing h1 h6 h3 h5 a1 a2 a3
    exact ⟨r, σx', σm', p1, p2, g, hs, h1.fr fx fm (by decide) (by decide) (fun k hk => by simp; omega) (by decide) (by decide) (fun k hk => by simp; omega), ⟨n, h2.frame (fx.1 19 (by decide)) (fx.2.1 19 (by decide)) (fm.1 3 (by decide)) (fm.2.1 4 (by decide))⟩, p3, h4.frame (fun k k1 k2 => fx.1 k (by simp; omega)) (fun k k1 k2 => fm.1 k (by simp; omega)), p4, h6.frame (fx.1 0 (by decide)) (fm.1 1 (by decide)) (fx.2.2 0 (by decide)) (fx.2.2 1 (by decide)) (fm.2.2 0 (by decide)) (fm.2.2 1 (by decide))⟩
  · rintro σx σm a1 a2 a3 a4 a5 ⟨g, hs, h⟩
    obtain ⟨n, h2⟩ := h.2.1
    obtain ⟨r, σx', σm', p1, p2, p3, fx, fm⟩ := tp_feed h2 a1 a2 a3 a4 a5
    exact ⟨r, σx', σm', p1, p2, inv_tp h p3 fx fm⟩
  · rintro σx σm a1 ⟨g, hs, h⟩
    obtain ⟨n, h2⟩ := h.2.1
    obtain ⟨r, σx', σm', p1, p2, p3, fx, fm⟩ := tp_trim h2 a1
    exact ⟨r, σx', σm', p1, p2, inv_tp h p3 fx fm⟩
  · rintro σx σm ⟨g, hs, h⟩
    obtain ⟨n, h3⟩ := h.2.2.1
    obtain ⟨r, σx', σm', p1, p2, p3, fx, fm⟩ := tp_again h3
    exact ⟨r, σx', σm', p1, p2, inv_tp h p3 fx fm⟩
  · rintro σx σm a1 ⟨g, hs, h⟩
    exact fd_found h.2.2.2.1 a1
  · rintro σx σm a1 ⟨g, hs, h⟩
    obtain ⟨n, h3⟩ := h.2.2.1
    exact ou_out h3 a1
  · rintro σx σm a1 ⟨g, hs, h⟩
    obtain ⟨n, h2⟩ := h.2.1
    obtain ⟨n', h3⟩ := h.2.2.1
    exact rd_state h.1 h.2.2.2.2.2 h2 h3 a1
