/-! the reference's numbers: sets -/
theorem m_ahead {F : TB} {W : Nat → Nat} {p q : Nat} {σ : SS} (hp : p + 1 < 310) (hq : q + 1 < 310) (p12 : sA σ 12 (p + 1) = nI (F 4 p)) (q12 : sA σ 12 (q + 1) = nI (F 4 q)) (p3 : sL σ 3 (p + 1) = lN (W p)) (q3 : sL σ 3 (q + 1) = lN (W q)) (zp : F 4 p ≤ 24) (zq : F 4 q ≤ 24) (wp : W p ≤ LIM) (wq : W q ≤ LIM) : P_X11_isAhead (nI (p + 1)) (nI (q + 1)) σ = some (b2i (lessP (F 4 q, W q) (F 4 p, W p))) := by
  have hL := LIM_lt
  have gp : ∀ {α : Type} {o : Option α}, gI (nI (p + 1)) 310 o = o := gI_nI hp (by decide)
  have gq : ∀ {α : Type} {o : Option α}, gI (nI (q + 1)) 310 o = o := gI_nI hq (by decide)
  unfold P_X11_isAhead lessP
  rw [gp, gq, ldA_nI (by omega), ldA_nI (by omega), p12, q12, gp, gq, gp, gq, ldL_nI (by omega), ldL_nI (by omega), p3, q3]
  show _ = some (b2i (decide (F 4 q < F 4 p) || (decide (F 4 q = F 4 p) && decide (W q < W p))))
  by_cases a : F 4 q < F 4 p
  · rw [if_pos (nI_lt a (by omega)), decide_eq_true a]
    rfl
  · rw [if_neg (nI_nlt (by omega) (by omega)), decide_eq_false a]
    by_cases e : F 4 q = F 4 p
    · rw [if_neg (fun w => w (by rw [e])), decide_eq_true e]
      by_cases z : W p ≤ W q
      · rw [if_pos ((lN_leB (by omega) (by omega)).mpr z), decide_eq_false (show ¬ W q < W p by omega)]
        rfl
      · rw [if_neg (fun w => z ((lN_leB (by omega) (by omega)).mp w)), decide_eq_true (show W q < W p by omega)]
        rfl
    · rw [if_pos (fun w => e ((nI_eq (by omega) (by omega)).mp w).symm), decide_eq_false e]
      rfl
def anyM (F : TB) (W : Nat → Nat) (B : Nat → Bool) (i : Nat) : Nat → Bool
  | 0 => false
  | t + 1 => anyM F W B i t || (!B (kid F i t) && decide (LIM ≤ W (kid F i t)))
def cnd (F : TB) (W : Nat → Nat) (B : Nat → Bool) (i t s : Nat) : Bool := !B (kid F i t) && (!B (kid F i s) && (decide (W (kid F i t) < LIM) && (decide (F 4 (kid F i t) = F 4 (kid F i s)) && decide (W (kid F i t) = W (kid F i s)))))
def mtB (F : TB) (W : Nat → Nat) (B : Nat → Bool) (i t : Nat) : Nat → Bool
  | 0 => false
  | s + 1 => mtB F W B i t s || cnd F W B i t s
def anyT (F : TB) (W : Nat → Nat) (B : Nat → Bool) (i : Nat) : Nat → Bool
  | 0 => false
  | t + 1 => anyT F W B i t || mtB F W B i t t
def amin (q : Int32) (p : Nat) : Int32 := if q < 0 then nI p else if q ≤ nI p then q else nI p
def am (F : TB) (W : Nat → Nat) (B : Nat → Bool) (i : Nat) (q0 : Int32) : Nat → Int32
  | 0 => q0
  | t + 1 => if mtB F W B i t t = true then amin (am F W B i q0 t) (F 1 (kid F i t)) else am F W B i q0 t
section
variable {g : List N3} {c : Nat → Nat → Nat} {b : Nat → Nat → Nat → Nat} {tp : Nat → Nat} {n : Nat} {F : TB} {N : Nat} {W : Nat → Nat} {B : Nat → Bool} {i m : Nat} {σ : SS}
theorem kid_mono (hs : SB g tp n F 0 N) (hi : i < N) (hk : Kd F i m) : ∀ d s, s + d + 1 ≤ m → kid F i s < kid F i (s + d + 1)
  | 0, s, h => by
    have := (hs.2.1 (kid F i s) (by omega) (kid_lt hs hi hk (by omega))).2.1
    show kid F i s < F 3 (kid F i s)
    omega
  | d + 1, s, h => by
    have ih := kid_mono hs hi hk d s (by omega)
    have := (hs.2.1 (kid F i (s + d + 1)) (by omega) (kid_lt hs hi hk (by omega))).2.1
    show kid F i s < F 3 (kid F i (s + d + 1))
    omega
/-- a part comes to its place -/
theorem m_insert (h : MI g c b F W B N (i + 1) σ) (hs : SB g tp n F 0 N) (hN : N ≤ 300) (hi : i < N) (hk : Kd F i m) (hz : ∀ j, j < N → F 4 j ≤ 24) (K10 : Int32 → Int32 → Int32 → Int32 → SS → Option SS) {z : Nat → Nat} {t : Nat} (ht : t < m) (hzN : ∀ j, j < t → i < z j ∧ z j < N) (x : Int32) : ∀ k σ1 fu, k ≤ t → k < fu → Fr [10] [16] [] σ σ1 → (∀ j, j < k → sA σ1 16 j = nI (z j + 1)) → (∀ j, k < j → j ≤ t → sA σ1 16 j = nI (z (j - 1) + 1)) → ∃ σ', P_X11_numberOfSet_j58 K10 fu (nI (i + 1)) x (nI t) (nI (kid F i t + 1)) (nI k) σ1 = K10 (nI (i + 1)) x (nI (t + 1)) (kx F i m (t + 1)) σ' ∧ Fr [] [16] [] σ1 σ' ∧ ∀ j, j ≤ t → sA σ' 16 j = nI (insF z (posP (fun j => (F 4 (z j), W (z j))) (F 4 (kid F i t), W (kid F i t)) k) (kid F i t) j + 1) := by
  obtain ⟨p1, p2, p3, p4, p5, p6, p7, p8⟩ := h.at hs hN hi hk ht
  have kl := kid_lt hs hi hk ht
  have hm := kd_m hs hN hi hk
  have ga : ∀ {α : Type} {o : Option α}, gI (nI (kid F i t + 1)) 310 o = o := gI_nI (by omega) (by decide)
  have fin : ∀ k σ1, k ≤ t → Fr [10] [16] [] σ σ1 → (∀ j, j < k → sA σ1 16 j = nI (z j + 1)) → (∀ j, k < j → j ≤ t → sA σ1 16 j = nI (z (j - 1) + 1)) → ∃ σ', P_X11_numberOfSet_j103 K10 (nI (i + 1)) x (nI t) (nI (kid F i t + 1)) (nI k) σ1 = K10 (nI (i + 1)) x (nI (t + 1)) (kx F i m (t + 1)) σ' ∧ Fr [] [16] [] σ1 σ' ∧ ∀ j, j ≤ t → sA σ' 16 j = nI (insF z k (kid F i t) j + 1) := by
    intro k σ1 hkt f1 c1 c2
    unfold P_X11_numberOfSet_j103
    rw [gI_nI (show k < 310 by omega) (by decide), ga, nI_1, ldA_nI (by omega), sA_stne (by decide), f1.2.1 14 (by decide), p8]
    refine ⟨_, rfl, Fr.stA (by decide), fun j hj => ?_⟩
    rw [sA_stN (by omega), upd_at]
    rcases Nat.lt_trichotomy j k with w | w | w
    · have ei : insF z k (kid F i t) j = z j := by unfold insF; rw [if_pos w]
      rw [ei, if_neg (by omega)]
      exact c1 j w
    · have ei : insF z k (kid F i t) j = kid F i t := by unfold insF; rw [if_neg (by omega), if_pos w]
      rw [ei, if_pos w]
    · have ei : insF z k (kid F i t) j = z (j - 1) := by unfold insF; rw [if_neg (by omega), if_neg (by omega)]
      rw [ei, if_neg (by omega)]
      exact c2 j w hj
  intro k
  induction k with
  | zero =>
    intro σ1 fu h1 h2 f1 c1 c2
    obtain ⟨fu, rfl⟩ : ∃ k, fu = k + 1 := ⟨fu - 1, by omega⟩
    rw [P_X11_numberOfSet_j58, if_pos (by decide)]
    exact fin 0 σ1 h1 f1 c1 c2
  | succ k ih =>
    intro σ1 fu h1 h2 f1 c1 c2
    obtain ⟨fu, rfl⟩ : ∃ k, fu = k + 1 := ⟨fu - 1, by omega⟩
    obtain ⟨z1, z2⟩ := hzN k (by omega)
    obtain ⟨r1, r2, r3⟩ := h.2.2.2 (z k) (by omega) z2
    have s3 := (h.2.2.1.2.1 (z k) (by omega) z2).2.2.1
    have ah := m_ahead (F := F) (W := W) (p := kid F i t) (q := z k) (σ := σ1) (by omega) (by omega) (by rw [f1.2.1 12 (by decide)]; exact p3) (by rw [f1.2.1 12 (by decide)]; exact s3) (by rw [f1.2.2 3 (by decide)]; exact p4) (by rw [f1.2.2 3 (by decide)]; exact r1) (hz _ kl) (hz _ z2) p5 r2
    rw [P_X11_numberOfSet_j58, if_neg (nI_nle (by omega) (by omega)), nI_pred, gI_nI (show k < 310 by omega) (by decide), ldA_nI (by omega), c1 k (by omega), ah, Option.bind_some]
    cases le : lessP (F 4 (z k), W (z k)) (F 4 (kid F i t), W (kid F i t)) with
    | false =>
      have ep : posP (fun j => (F 4 (z j), W (z j))) (F 4 (kid F i t), W (kid F i t)) (k + 1) = k + 1 := by
        show (if lessP (F 4 (z k), W (z k)) (F 4 (kid F i t), W (kid F i t)) = true then _ else k + 1) = _
        rw [le, if_neg (by decide)]
      rw [b2i_f, if_pos rfl, ep]
      exact fin (k + 1) σ1 h1 f1 c1 c2
    | true =>
      have ep : posP (fun j => (F 4 (z j), W (z j))) (F 4 (kid F i t), W (kid F i t)) (k + 1) = posP (fun j => (F 4 (z j), W (z j))) (F 4 (kid F i t), W (kid F i t)) k := by
        show (if lessP (F 4 (z k), W (z k)) (F 4 (kid F i t), W (kid F i t)) = true then _ else k + 1) = _
        rw [le, if_pos rfl]
      rw [b2i_t, if_neg (by decide), gI_nI (show k < 310 by omega) (by decide), gI_nI (show k + 1 < 310 by omega) (by decide), down1, ep]
      have e16 : ∀ j, sA (stA σ1 16 (nI (k + 1)) (nI (z k + 1))) 16 j = if j = k + 1 then nI (z k + 1) else sA σ1 16 j := fun j => by rw [sA_stN (by omega), upd_at]
      obtain ⟨σ', q1, q2, q3⟩ := ih (stA σ1 16 (nI (k + 1)) (nI (z k + 1))) fu (by omega) (by omega) (f1.tr (Fr.stA (by decide))) (fun j hj => by
        rw [e16, if_neg (by omega)]
        exact c1 j (by omega)) (fun j j1 j2 => by
        rw [e16]
        by_cases w : j = k + 1
        · subst w
          rw [if_pos rfl]
          rfl
        · rw [if_neg w]
          exact c2 j (by omega) j2)
      exact ⟨σ', q1, (Fr.stA (by decide)).tr q2, q3⟩
/-- the parts of a set in order -/
theorem m_sorted (hd : GdL g) (h : MI g c b F W B N (i + 1) σ) (hs : SB g tp n F 0 N) (hN : N ≤ 300) (hi : i < N) (hk : Kd F i m) (hz : ∀ j, j < N → F 4 j ≤ 24) (mb : Bool) : ∀ d t σ1 fu (z : Nat → Nat), t + d = m → d < fu → Fr [10] [16] [] σ σ1 → (∀ j, j < t → sA σ1 16 j = nI (z j + 1)) → (∀ j, j < t → i < z j ∧ z j < N) → (∀ j, j < t → (F 4 (z j), W (z j)) = fs (fun t => (F 4 (kid F i t), W (kid F i t))) t j) → sI σ1 10 = b2i (mb || anyM F W B i t) → ∃ (σ2 : SS) (z' : Nat → Nat), P_X11_numberOfSet_j10 fu (nI (i + 1)) (nI (F 0 i)) (nI t) (kx F i m t) σ1 = (if ¬ kd g (F 0 i) = 6 then P_X11_numberOfSet_j143 (nI (i + 1)) (nI (F 0 i)) (nI m) σ2 else (P_X11_findAlike (nI (i + 1)) σ2).bind fun σ5 => P_X11_numberOfSet_j143 (nI (i + 1)) (nI (F 0 i)) (nI m) σ5) ∧ Fr [10] [16] [] σ σ2 ∧ (∀ j, j < m → sA σ2 16 j = nI (z' j + 1)) ∧ (∀ j, j < m → i < z' j ∧ z' j < N) ∧ (∀ j, j < m → (F 4 (z' j), W (z' j)) = fs (fun t => (F 4 (kid F i t), W (kid F i t))) m j) ∧ sI σ2 10 = b2i (mb || anyM F W B i m) := by
  have hL := LIM_lt
  have hx := (hs.2.1 i (by omega) hi).1
  have h16 : F 0 i < 16 := Nat.lt_of_lt_of_le hx hd.1
  obtain ⟨l0, l1, l2⟩ := gd_lt hd hx
  have hm := kd_m hs hN hi hk
  intro d
  induction d with
  | zero =>
    intro t σ1 fu z a1 a2 f1 c1 c2 c3 c4
    obtain ⟨fu, rfl⟩ : ∃ k, fu = k + 1 := ⟨fu - 1, by omega⟩
    have e : t = m := by omega
    subst e
    refine ⟨σ1, z, ?_, f1, c1, c2, c3, c4⟩
    have k0 : ldA σ1 0 (nI (F 0 i)) = nI (kd g (F 0 i)) := by
      rw [ldA_nI (by omega), f1.2.1 0 (by decide)]
      exact (gM_at h.1 hx).1
    rw [P_X11_numberOfSet_j10, kx_ge (Nat.le_refl _), if_pos rfl, gI_nI h16 (by decide), k0]
    by_cases w : kd g (F 0 i) = 6
    · rw [if_neg (show ¬ ¬ nI (kd g (F 0 i)) = 6 from fun y => y (by rw [w]; rfl)), if_neg (show ¬ ¬ kd g (F 0 i) = 6 from fun y => y w)]
    · rw [if_pos (show ¬ nI (kd g (F 0 i)) = 6 from fun y => w ((nI_eq (b := 6) (by omega) (by decide)).mp y)), if_pos (show ¬ kd g (F 0 i) = 6 from w)]
  | succ d ih =>
    intro t σ1 fu z a1 a2 f1 c1 c2 c3 c4
    obtain ⟨fu, rfl⟩ : ∃ k, fu = k + 1 := ⟨fu - 1, by omega⟩
    have ht : t < m := by omega
    obtain ⟨p1, p2, p3, p4, p5, p6, p7, p8⟩ := h.at hs hN hi hk ht
    have ga : ∀ {α : Type} {o : Option α}, gI (nI (kid F i t + 1)) 310 o = o := gI_nI (by omega) (by decide)
    -- the flag first
    have fl : P_X11_numberOfSet_j10 (fu + 1) (nI (i + 1)) (nI (F 0 i)) (nI t) (kx F i m t) σ1 = P_X11_numberOfSet_j58 (P_X11_numberOfSet_j10 fu) FU (nI (i + 1)) (nI (F 0 i)) (nI t) (nI (kid F i t + 1)) (nI t) (uI σ1 10 (b2i (mb || anyM F W B i (t + 1)))) := by
      rw [P_X11_numberOfSet_j10, kx_lt ht, if_neg (nI_ne0 (by omega) (by omega)), c4]
      unfold P_X11_numberOfSet_j47 P_X11_numberOfSet_j51 P_X11_numberOfSet_j52
      rw [ga, ga, ldA_nI (by omega), f1.2.1 15 (by decide), p6, ldL_nI (by omega), f1.2.2 3 (by decide), p4, gZ_0, gZ_1, L_lit]
      show _ = P_X11_numberOfSet_j58 (P_X11_numberOfSet_j10 fu) FU (nI (i + 1)) (nI (F 0 i)) (nI t) (nI (kid F i t + 1)) (nI t) (uI σ1 10 (b2i (mb || (anyM F W B i t || (!B (kid F i t) && decide (LIM ≤ W (kid F i t)))))))
      rw [← Bool.or_assoc]
      cases mb || anyM F W B i t with
      | true => rw [b2i_t, in1]; rfl
      | false =>
        rw [b2i_f, in0]
        cases B (kid F i t) with
        | true => rw [b2i_t, in1]; rfl
        | false =>
          rw [b2i_f, in0]
          by_cases w : W (kid F i t) < LIM
          · rw [if_pos ((lN_ltB (by omega) (by omega)).mpr w), decide_eq_false (show ¬ LIM ≤ W (kid F i t) by omega)]
            rfl
          · rw [if_neg (fun y => w ((lN_ltB (by omega) (by omega)).mp y)), decide_eq_true (show LIM ≤ W (kid F i t) by omega)]
            rfl
    obtain ⟨σ', q1, q2, q3⟩ := m_insert h hs hN hi hk hz (P_X11_numberOfSet_j10 fu) (z := z) ht c2 (nI (F 0 i)) t (uI σ1 10 (b2i (mb || anyM F W B i (t + 1)))) FU (Nat.le_refl _) (by unfold FU; omega) (f1.tr (Fr.uI (by decide))) (fun j hj => c1 j hj) (fun j j1 j2 => by omega)
    have ep : posP (fun j => (F 4 (z j), W (z j))) (F 4 (kid F i t), W (kid F i t)) t = posP (fs (fun t => (F 4 (kid F i t), W (kid F i t))) t) (F 4 (kid F i t), W (kid F i t)) t := posP_congr t c3
    have hp := posP_le (fs (fun t => (F 4 (kid F i t), W (kid F i t))) t) (F 4 (kid F i t), W (kid F i t)) t
    rw [ep] at q3
    have kl := kid_lt hs hi hk ht
    rw [fl, q1]
    exact ih (t + 1) σ' fu (insF z (posP (fs (fun t => (F 4 (kid F i t), W (kid F i t))) t) (F 4 (kid F i t), W (kid F i t)) t) (kid F i t)) (by omega) (by omega) ((f1.tr (Fr.uI (by decide))).tr (q2.mono (by decide) (by decide) (by decide))) (fun j hj => q3 j (by omega)) (fun j hj => by
      unfold insF
      split
      · exact c2 j (by omega)
      · split
        · exact ⟨p2, kl⟩
        · exact c2 (j - 1) (by omega)) (fun j hj => by
      show _ = insF (fs (fun t => (F 4 (kid F i t), W (kid F i t))) t) (posP (fs (fun t => (F 4 (kid F i t), W (kid F i t))) t) (F 4 (kid F i t), W (kid F i t)) t) (F 4 (kid F i t), W (kid F i t)) j
      unfold insF
      split
      · exact c3 j (by omega)
      · split
        · rfl
        · exact c3 (j - 1) (by omega)) ((q2.1 10 (by decide)).trans rfl)
/-- the number of a set whose parts are in order -/
theorem m_setSum (hd : GdL g) (h : MI g c b F W B N (i + 1) σ) (hs : SB g tp n F 0 N) (hN : N ≤ 300) (hi : i < N) (hk : Kd F i m) (k56 : isB56 g (F 0 i)) (hz : ∀ j, j < N → F 4 j ≤ 24) (h1z : ∀ t, t < m → 1 ≤ F 4 (kid F i t)) {z : Nat → Nat} (c1 : ∀ j, j < m → sA σ 16 j = nI (z j + 1)) (c2 : ∀ j, j < m → i < z j ∧ z j < N) (c3 : ∀ j, j < m → (F 4 (z j), W (z j)) = fs (fun t => (F 4 (kid F i t), W (kid F i t))) m j) : P_X11_numberOfSet_j143 (nI (i + 1)) (nI (F 0 i)) (nI m) σ = some (stL σ 3 (nI (i + 1)) (lN (bagV g b (F 0 i) (F 4 i) (fs (fun t => (F 4 (kid F i t), W (kid F i t))) m) m))) := by
  have hx := (hs.2.1 i (by omega) hi).1
  have hm := kd_m hs hN hi hk
  have e4 := F4_kid hs hi hk
  have hzi := hz i hi
  have es : sumN (fun j => (fs (fun t => (F 4 (kid F i t), W (kid F i t))) m j).1) m = sumN (fun s => F 4 (kid F i s)) m := fs_sum (fun t => (F 4 (kid F i t), W (kid F i t))) m
  have gi : ∀ {α : Type} {o : Option α}, gI (nI (i + 1)) 310 o = o := gI_nI (by omega) (by decide)
  have loop : ∀ d t fu, t + d = m → d < fu → P_X11_numberOfSet_j157 fu (nI (i + 1)) (nI (F 0 i)) (nI m) (lN (bagV g b (F 0 i) (F 4 i) (fs (fun t => (F 4 (kid F i t), W (kid F i t))) m) t)) (nI (F 4 i - sumN (fun j => (fs (fun t => (F 4 (kid F i t), W (kid F i t))) m j).1) t)) (nI t) σ = some (stL σ 3 (nI (i + 1)) (lN (bagV g b (F 0 i) (F 4 i) (fs (fun t => (F 4 (kid F i t), W (kid F i t))) m) m))) := by
    intro d
    induction d with
    | zero =>
      intro t fu a1 a2
      obtain ⟨fu, rfl⟩ : ∃ k, fu = k + 1 := ⟨fu - 1, by omega⟩
      have e : t = m := by omega
      subst e
      rw [P_X11_numberOfSet_j157, if_pos (nI_le (Nat.le_refl _) (by omega)), gi]
    | succ d ih =>
      intro t fu a1 a2
      obtain ⟨fu, rfl⟩ : ∃ k, fu = k + 1 := ⟨fu - 1, by omega⟩
      have ht : t < m := by omega
      obtain ⟨z1, z2⟩ := c2 t ht
      obtain ⟨r1, r2, r3⟩ := h.2.2.2 (z t) (by omega) z2
      have s3 := (h.2.2.1.2.1 (z t) (by omega) z2).2.2.1
      have k3 := c3 t ht
      have f1 : (fs (fun t => (F 4 (kid F i t), W (kid F i t))) m t).1 = F 4 (z t) := by rw [← k3]
      have f2 : (fs (fun t => (F 4 (kid F i t), W (kid F i t))) m t).2 = W (z t) := by rw [← k3]
      have o1 : 1 ≤ F 4 (z t) := by
        obtain ⟨s, s1, s2⟩ := fs_mem (fun t => (F 4 (kid F i t), W (kid F i t))) m t ht
        rw [← f1, s2]
        exact h1z s s1
      have g1 : ∀ {α : Type} {o : Option α}, gI (nI t) 310 o = o := gI_nI (by omega) (by decide)
      have g2 : ∀ {α : Type} {o : Option α}, gI (nI (z t + 1)) 310 o = o := gI_nI (by omega) (by decide)
      have le := sumN_le2 (fun j => (fs (fun t => (F 4 (kid F i t), W (kid F i t))) m j).1) m ht
      rw [es] at le
      have le' : sumN (fun j => (fs (fun t => (F 4 (kid F i t), W (kid F i t))) m j).1) t + F 4 (z t) ≤ F 4 i := by
        rw [← f1]
        omega
      have zt := hz _ z2
      rw [P_X11_numberOfSet_j157, if_neg (nI_ge ht (by omega)), g1, ldA_nI (show t < 2 ^ 31 by omega), c1 t ht, g2, g2, ldA_nI (by omega), s3, ldL_nI (by omega), r1, m_W h.1 hd h.2.1 hx k56 (by omega) o1 zt r2, Option.bind_some, m_plus (bagV_le _ _ _ _ _ _) Wf_le, Option.bind_some, g2, nI_sub (by omega), nI_1]
      have e := ih (t + 1) fu (by omega) (by omega)
      rw [show F 4 i - sumN (fun j => (fs (fun t => (F 4 (kid F i t), W (kid F i t))) m j).1) (t + 1) = F 4 i - sumN (fun j => (fs (fun t => (F 4 (kid F i t), W (kid F i t))) m j).1) t - (fs (fun t => (F 4 (kid F i t), W (kid F i t))) m t).1 from (Nat.sub_sub _ _ _).symm, show bagV g b (F 0 i) (F 4 i) (fs (fun t => (F 4 (kid F i t), W (kid F i t))) m) (t + 1) = sat (bagV g b (F 0 i) (F 4 i) (fs (fun t => (F 4 (kid F i t), W (kid F i t))) m) t + Wf g b (F 0 i) (F 4 i - sumN (fun j => (fs (fun t => (F 4 (kid F i t), W (kid F i t))) m j).1) t) (fs (fun t => (F 4 (kid F i t), W (kid F i t))) m t).1 (fs (fun t => (F 4 (kid F i t), W (kid F i t))) m t).2) from rfl, f1, f2] at e
      exact e
  unfold P_X11_numberOfSet_j143
  rw [gi, ldA_nI (by omega), (h.2.2.1.2.1 i (by omega) hi).2.2.1]
  exact loop m 0 FU (by omega) (by unfold FU; omega)
end
