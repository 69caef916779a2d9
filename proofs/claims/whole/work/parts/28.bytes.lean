/-! the tape and OUT -/
def isB (v : Int32) : Prop := ∃ b : Nat, b < 256 ∧ v = nI b
theorem of32 (x : Int32) : ∃ n, n < 2 ^ 32 ∧ x = nI n := ⟨x.toBitVec.toNat, x.toBitVec.isLt, Int32.toBitVec_inj.mp (by show _ = BitVec.ofNat 32 _; simp)⟩
theorem isB_and (x : Int32) : isB (x &&& 255) := by
  obtain ⟨n, -, rfl⟩ := of32 x
  exact ⟨n % 256, Nat.mod_lt _ (by decide), nI_and255⟩
theorem isB.and {v : Int32} (h : isB v) : v &&& 255 = v := by
  obtain ⟨b, hb, rfl⟩ := h
  rw [nI_and255, Nat.mod_eq_of_lt hb]
theorem sh_eq (x : Int32) (n : Nat) (hn : n ≤ 24) : (x >>> (nI n &&& 31)) &&& 255 = iushr x (nI n) &&& 255 := by
  apply b_ext
  intro i hi
  rw [b_and, b_and, b_255, b_sshr n (by omega) x hi]
  have e : bt (iushr x (nI n)) i = bt x (n + i) := b_ushr n (by omega) x i
  rw [e]
  by_cases h8 : i < 8
  · rw [if_pos (by omega)]
  · simp [h8]
/-- the same n bytes on both sides: int fields a, b; rows c, d -/
def Sb (a c b d n : Nat) (σx σm : SS) : Prop := n ≤ 300 ∧ sI σx a = nI n ∧ sI σm b = nI n ∧ ∀ i, i < n → sA σx c i = sA σm d i ∧ isB (sA σx c i)
theorem Sb.frame {a c b d n : Nat} {σx σm σx' σm' : SS} (h : Sb a c b d n σx σm) (h1 : sI σx' a = sI σx a) (h2 : sA σx' c = sA σx c) (h3 : sI σm' b = sI σm b) (h4 : sA σm' d = sA σm d) : Sb a c b d n σx' σm' := by
  obtain ⟨p1, p2, p3, p4⟩ := h
  exact ⟨p1, h1.trans p2, h3.trans p3, by rw [h2, h4]; exact p4⟩
theorem Sb.push {a c b d n : Nat} {σx σm σx' σm' : SS} {v : Int32} (h : Sb a c b d n σx σm) (hn : n < 300) (hv : isB v) (h1 : sI σx' a = nI (n + 1)) (h2 : sA σx' c = upd (sA σx c) n v) (h3 : sI σm' b = nI (n + 1)) (h4 : sA σm' d = upd (sA σm d) n v) : Sb a c b d (n + 1) σx' σm' := by
  obtain ⟨p1, p2, p3, p4⟩ := h
  refine ⟨by omega, h1, h3, fun i hi => ?_⟩
  rw [h2, h4, upd_at, upd_at]
  by_cases e : i = n
  · rw [if_pos e, if_pos e]
    exact ⟨rfl, hv⟩
  · rw [if_neg e, if_neg e]
    exact p4 i (by omega)
theorem x_add8 {σ : SS} {n : Nat} {v : Int32} (h : sI σ 19 = nI n) (hn : n < 300) : P_X0_add_8 v σ = some (1, uI (stA σ 19 (nI n) (v &&& 255)) 19 (nI (n + 1))) := by
  unfold P_X0_add_8
  rw [h, if_neg (nI_pos (by omega)), show (300 : Int32) = nI 300 from rfl, if_pos (nI_lt hn (by decide)), gI_nI hn (by decide), sI_stA, h, nI_1]
theorem push8 {σ : SS} {n : Nat} {v : Int32} (hn : n < 300) : sA (uI (stA σ 19 (nI n) v) 19 (nI (n + 1))) 19 = upd (sA σ 19) n v := by rw [sA_uI, sA_stN (by omega)]
theorem four {n : Nat} {σx σm : SS} (h : Sb 19 19 3 4 n σx σm) (hn : n + 4 ≤ 300) (a : Int32) : ∃ σx' σm', P_X0_addFour a σx = some σx' ∧ P_X11_lay4 a σm = some σm' ∧ Sb 19 19 3 4 (n + 4) σx' σm' ∧ Fr [19] [19] [] σx σx' ∧ Fr [3] [4] [] σm σm' := by
  have step : ∀ (k : Nat) (σx σm : SS) (v : Int32), k < 300 → Sb 19 19 3 4 k σx σm → Sb 19 19 3 4 (k + 1) (uI (stA σx 19 (nI k) (v &&& 255)) 19 (nI (k + 1))) (uI (stA σm 4 (nI k) (v &&& 255)) 3 (nI (k + 1))) := by
    intro k σx σm v hk h
    exact h.push hk (isB_and v) rfl (push8 hk) rfl (by rw [sA_uI, sA_stN (by omega)])
  have m1 : ∀ (fu k j j' : Nat) (σ : SS), sI σ 3 = nI k → k < 300 → j' + 8 = j → j ≤ 24 → P_X11_lay4_j3 (fu + 1) a (nI j) σ = P_X11_lay4_j3 fu a (nI j') (uI (stA σ 4 (nI k) (iushr a (nI j) &&& 255)) 3 (nI (k + 1))) := by
    intro fu k j j' σ h3 hk hj hj2
    have e : nI j + (-8) = nI j' := by
      rw [← hj, ← nI_add]
      show nI j' + 8 + (-8) = _
      rw [Int32.add_assoc]
      have : (8 : Int32) + (-8) = 0 := by decide
      rw [this, Int32.add_zero]
    conv => lhs; unfold P_X11_lay4_j3
    rw [if_neg (nI_pos (by omega)), h3, gI_nI hk (by decide), sI_stA, h3, nI_1, e, sh_eq a j hj2]
  have m0 : ∀ (fu k : Nat) (σ : SS), sI σ 3 = nI k → k < 300 → P_X11_lay4_j3 (fu + 2) a (nI 0) σ = some (uI (stA σ 4 (nI k) (a &&& 255)) 3 (nI (k + 1))) := by
    intro fu k σ h3 hk
    have e0 : a >>> (nI 0 &&& 31) = a := sb_shr0 a
    conv => lhs; unfold P_X11_lay4_j3
    rw [if_neg (nI_pos (by omega)), h3, gI_nI hk (by decide), sI_stA, h3, nI_1, e0]
    unfold P_X11_lay4_j3
    rw [if_pos (by decide)]
  obtain ⟨p1, p2, p3, p4⟩ := id h
  have s1 := step n σx σm (iushr a (nI 24)) (by omega) h
  have s2 := step (n + 1) _ _ (iushr a (nI 16)) (by omega) s1
  have s3 := step (n + 2) _ _ (iushr a (nI 8)) (by omega) s2
  have s4 := step (n + 3) _ _ a (by omega) s3
  refine ⟨_, _, ?_, ?_, s4, ?_, ?_⟩
  · unfold P_X0_addFour
    rw [show (24 : Int32) = nI 24 from rfl, show (16 : Int32) = nI 16 from rfl, show (8 : Int32) = nI 8 from rfl, x_add8 p2 (by omega)]
    simp only [b2]
    rw [x_add8 s1.2.1 (by omega)]
    simp only []
    rw [x_add8 s2.2.1 (by omega)]
    simp only []
    rw [x_add8 s3.2.1 (by omega)]
  · unfold P_X11_lay4
    rw [show (24 : Int32) = nI 24 from rfl, show FU = 99999 + 1 from rfl, m1 99999 n 24 16 σm p3 (by omega) (by decide) (by decide), show (99999 : Nat) = 99998 + 1 from rfl, m1 99998 (n + 1) 16 8 _ rfl (by omega) (by decide) (by decide), show (99998 : Nat) = 99997 + 1 from rfl, m1 99997 (n + 2) 8 0 _ rfl (by omega) (by decide) (by decide), show (99997 : Nat) = 99995 + 2 from rfl, m0 99995 (n + 3) _ rfl (by omega)]
  · exact (((((((Fr.stA (by decide)).tr (Fr.uI (by decide))).tr (Fr.stA (by decide))).tr (Fr.uI (by decide))).tr (Fr.stA (by decide))).tr (Fr.uI (by decide))).tr (Fr.stA (by decide))).tr (Fr.uI (by decide))
  · exact (((((((Fr.stA (by decide)).tr (Fr.uI (by decide))).tr (Fr.stA (by decide))).tr (Fr.uI (by decide))).tr (Fr.stA (by decide))).tr (Fr.uI (by decide))).tr (Fr.stA (by decide))).tr (Fr.uI (by decide))
theorem tp_feed {n : Nat} {σx σm : SS} (h : Sb 19 19 3 4 n σx σm) (a b c d e : Int32) : ∃ (r : Int64) (σx' σm' : SS), P_X10_feed a b c d e σx = some (r, σx') ∧ P_X11_feed a b c d e σm = some (r, σm') ∧ (∃ n', Sb 19 19 3 4 n' σx' σm') ∧ Fr [19] [19] [] σx σx' ∧ Fr [3] [4] [] σm σm' := by
  unfold P_X10_feed P_X11_feed P_X0_length_8
  rw [Option.bind_some, h.2.1, h.2.2.1, show nI n + 20 = nI (n + 20) from nI_add n 20, show (300 : Int32) = nI 300 from rfl]
  have hn := h.1
  by_cases h20 : n + 20 ≤ 300
  · rw [if_pos (nI_le h20 (by decide)), if_pos (nI_le h20 (by decide))]
    obtain ⟨x1, m1, a1, b1, s1, f1, g1⟩ := four h (by omega) a
    rw [a1, b1, Option.bind_some, Option.bind_some]
    obtain ⟨x2, m2, a2, b2, s2, f2, g2⟩ := four s1 (by omega) b
    rw [a2, b2, Option.bind_some, Option.bind_some]
    obtain ⟨x3, m3, a3, b3, s3, f3, g3⟩ := four s2 (by omega) c
    rw [a3, b3, Option.bind_some, Option.bind_some]
    obtain ⟨x4, m4, a4, b4, s4, f4, g4⟩ := four s3 (by omega) d
    rw [a4, b4, Option.bind_some, Option.bind_some]
    obtain ⟨x5, m5, a5, b5, s5, f5, g5⟩ := four s4 (by omega) e
    rw [a5, b5, Option.bind_some, Option.bind_some, Option.bind_some, s5.2.1, s5.2.2.1]
    exact ⟨_, _, _, rfl, rfl, ⟨_, s5⟩, (((f1.tr f2).tr f3).tr f4).tr f5, (((g1.tr g2).tr g3).tr g4).tr g5⟩
  · rw [if_neg (nI_ge (by omega) (by omega)), if_neg (nI_ge (by omega) (by omega))]
    exact ⟨_, _, _, rfl, rfl, ⟨n, h⟩, Fr.rf, Fr.rf⟩
theorem tp_trim {n : Nat} {σx σm : SS} (h : Sb 19 19 3 4 n σx σm) (a : Int32) : ∃ (r : Int64) (σx' σm' : SS), P_X10_trim a σx = some (r, σx') ∧ P_X11_trim a σm = some (r, σm') ∧ (∃ n', Sb 19 19 3 4 n' σx' σm') ∧ Fr [19] [19] [] σx σx' ∧ Fr [3] [4] [] σm σm' := by
  have hn := h.1
  have hi := isIn_t a 0 (sI σm 3).toInt64
  rw [h.2.2.1, Int32.toInt_toInt64, nI_toInt (by omega), w0] at hi
  unfold P_X10_trim P_X11_trim P_X0_length_8 P_X0_shorten_8
  rw [Option.bind_some, h.2.1, h.2.2.1]
  rcases hi.cases with ⟨e, q1, q2⟩ | ⟨e, q⟩
  · obtain ⟨j, hj, e1, rfl⟩ := of_nI q1
    rw [e, Option.bind_some, if_pos (show ¬ (1 : Int32) = 0 by decide), if_neg (nI_pos hj), if_pos (nI_le (by omega) (by omega)), if_neg (nI_pos hj)]
    have hjn : j ≤ n := by omega
    have hcut : ∀ (σ' σ'' : SS), sI σ' 19 = nI j → sA σ' 19 = sA σx 19 → sI σ'' 3 = nI j → sA σ'' 4 = sA σm 4 → Sb 19 19 3 4 j σ' σ'' := fun σ' σ'' q1 q2 q3 q4 => ⟨by omega, q1, q3, fun i hi => by rw [q2, q4]; exact h.2.2.2 i (by omega)⟩
    by_cases hnj : n ≤ j
    · have : n = j := by omega
      subst this
      rw [if_pos (nI_le hnj (by omega)), Option.bind_some]
      exact ⟨_, _, _, rfl, rfl, ⟨n, hcut _ _ h.2.1 rfl rfl rfl⟩, Fr.rf, Fr.uI (by decide)⟩
    · rw [if_neg (nI_ge (by omega) (by omega)), Option.bind_some]
      exact ⟨_, _, _, rfl, rfl, ⟨j, hcut _ _ rfl rfl rfl rfl⟩, Fr.uI (by decide), Fr.uI (by decide)⟩
  · rw [e, Option.bind_some, if_neg (show ¬ ¬ (0 : Int32) = 0 by decide)]
    by_cases h0 : a < 0
    · rw [if_pos h0]
      exact ⟨_, _, _, rfl, rfl, ⟨n, h⟩, Fr.rf, Fr.rf⟩
    · rw [if_neg h0, if_neg (by
        intro z
        rw [I32le, nI_toInt (by omega)] at z
        rw [I32lt, t0] at h0
        omega)]
      exact ⟨_, _, _, rfl, rfl, ⟨n, h⟩, Fr.rf, Fr.rf⟩
