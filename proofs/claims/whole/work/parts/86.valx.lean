/-! the class's ranker: numbers -/
def CL (f : Nat → Nat × Nat) (σ : SS) (j j' : Nat) : Prop := sA σ 18 j = nI (f j').1 ∧ sL σ 4 j = lN (f j').2
/-- the class puts a part to its place -/
theorem x_insert {f : Nat → Nat × Nat} {a : Nat × Nat} {t : Nat} {σ : SS} (ht : t < 300) (h16 : sI σ 16 = nI t) (hc : ∀ j, j < t → CL f σ j j) (hb : ∀ j, j < t → (f j).1 < 2 ^ 31 ∧ (f j).2 ≤ LIM) (ha : a.1 < 2 ^ 31 ∧ a.2 ≤ LIM) : ∃ σ', P_X4_insert (nI a.1) (lN a.2) σ = some σ' ∧ Fr [16] [18] [4] σ σ' ∧ sI σ' 16 = nI (t + 1) ∧ ∀ j, j < t + 1 → CL (insF f (posP f a t) a) σ' j j := by
  have hL := LIM_lt
  have j110 : ∀ k σ1, k ≤ t → ∃ σ', P_X4_insert_j110 (nI a.1) (lN a.2) (nI k) σ1 = some σ' ∧ Fr [] [18] [4] σ1 σ' ∧ (∀ j, sA σ' 18 j = if j = k then nI a.1 else sA σ1 18 j) ∧ ∀ j, sL σ' 4 j = if j = k then lN a.2 else sL σ1 4 j := by
    intro k σ1 hk
    unfold P_X4_insert_j110
    rw [vX6_set_33 (by omega), Option.bind_some, vX6_set__34 (by omega), Option.bind_some]
    refine ⟨_, rfl, (Fr.stA (by decide)).tr (Fr.stL (by decide)), fun j => ?_, fun j => ?_⟩
    · rw [sA_stL, sA_stN (by omega), upd_at]
    · rw [sL_stN (by omega), updL_at, sL_stA]
  have fin : ∀ k σ1, k ≤ t → (∀ j, j < k → CL f σ1 j j) → (∀ j, k < j → j ≤ t → CL f σ1 j (j - 1)) → ∃ σ', P_X4_insert_j110 (nI a.1) (lN a.2) (nI k) σ1 = some σ' ∧ Fr [] [18] [4] σ1 σ' ∧ ∀ j, j ≤ t → CL (insF f k a) σ' j j := by
    intro k σ1 hk c1 c2
    obtain ⟨σ', e1, e2, e3, e4⟩ := j110 k σ1 hk
    refine ⟨σ', e1, e2, fun j hj => ?_⟩
    unfold CL
    rw [e3, e4]
    rcases Nat.lt_trichotomy j k with z | z | z
    · have ei : insF f k a j = f j := by unfold insF; rw [if_pos z]
      rw [ei, if_neg (show ¬ j = k by omega), if_neg (show ¬ j = k by omega)]
      exact c1 j z
    · have ei : insF f k a j = a := by unfold insF; rw [if_neg (by omega), if_pos z]
      rw [ei, if_pos z, if_pos z]
      exact ⟨rfl, rfl⟩
    · have ei : insF f k a j = f (j - 1) := by unfold insF; rw [if_neg (by omega), if_neg (by omega)]
      rw [ei, if_neg (show ¬ j = k by omega), if_neg (show ¬ j = k by omega)]
      exact c2 j z hj
  have loop : ∀ k σ1 fu, k ≤ t → k < fu → (∀ j, j < k → CL f σ1 j j) → (∀ j, k < j → j ≤ t → CL f σ1 j (j - 1)) → ∃ σ', P_X4_insert_j27 fu (nI a.1) (lN a.2) (nI k) σ1 = some σ' ∧ Fr [] [18] [4] σ1 σ' ∧ ∀ j, j ≤ t → CL (insF f (posP f a k) a) σ' j j := by
    intro k
    induction k with
    | zero =>
      intro σ1 fu h1 h2 c1 c2
      obtain ⟨fu, rfl⟩ : ∃ k, fu = k + 1 := ⟨fu - 1, by omega⟩
      rw [P_X4_insert_j27, if_pos (by decide)]
      exact fin 0 σ1 h1 c1 c2
    | succ k ih =>
      intro σ1 fu h1 h2 c1 c2
      obtain ⟨fu, rfl⟩ : ∃ k, fu = k + 1 := ⟨fu - 1, by omega⟩
      obtain ⟨b1, b2⟩ := hb k (by omega)
      obtain ⟨d1, d2⟩ := c1 k (by omega)
      have g1 : ∀ {α : Type} {o : Option α}, gI (nI k) 300 o = o := gI_nI (by omega) (by decide)
      have g2 : ∀ {α : Type} {o : Option α}, gI (nI (k + 1)) 300 o = o := gI_nI (by omega) (by decide)
      -- one place further to the left
      have go : lessP (f k) a = true → ∃ σ', P_X4_insert_j72 (P_X4_insert_j27 fu) (nI a.1) (lN a.2) (nI (k + 1)) σ1 = some σ' ∧ Fr [] [18] [4] σ1 σ' ∧ ∀ j, j ≤ t → CL (insF f (posP f a (k + 1)) a) σ' j j := by
        intro le
        have ep : posP f a (k + 1) = posP f a k := by
          show (if lessP (f k) a = true then posP f a k else k + 1) = _
          rw [if_pos le]
        unfold P_X4_insert_j72
        rw [nI_pred, g1, g2, g1, g2, ldA_nI (by omega), d1, ldL_nI (by omega), sL_stA, d2, down1, ep]
        have e18 : ∀ j, sA (stL (stA σ1 18 (nI (k + 1)) (nI (f k).1)) 4 (nI (k + 1)) (lN (f k).2)) 18 j = if j = k + 1 then nI (f k).1 else sA σ1 18 j := fun j => by rw [sA_stL, sA_stN (by omega), upd_at]
        have e4 : ∀ j, sL (stL (stA σ1 18 (nI (k + 1)) (nI (f k).1)) 4 (nI (k + 1)) (lN (f k).2)) 4 j = if j = k + 1 then lN (f k).2 else sL σ1 4 j := fun j => by rw [sL_stN (by omega), updL_at, sL_stA]
        obtain ⟨σ', q1, q2, q3⟩ := ih (stL (stA σ1 18 (nI (k + 1)) (nI (f k).1)) 4 (nI (k + 1)) (lN (f k).2)) fu (by omega) (by omega) (fun j hj => by
          unfold CL
          rw [e18, e4, if_neg (by omega), if_neg (by omega)]
          exact c1 j (by omega)) (fun j j1 j2 => by
          unfold CL
          rw [e18, e4]
          by_cases w : j = k + 1
          · subst w
            rw [if_pos rfl, if_pos rfl]
            exact ⟨rfl, rfl⟩
          · rw [if_neg w, if_neg w]
            exact c2 j (by omega) j2)
        exact ⟨σ', q1, (Fr.tr (Fr.stA (by decide)) (Fr.stL (by decide))).tr q2, q3⟩
      have stop : ¬ lessP (f k) a = true → ∃ σ', P_X4_insert_j110 (nI a.1) (lN a.2) (nI (k + 1)) σ1 = some σ' ∧ Fr [] [18] [4] σ1 σ' ∧ ∀ j, j ≤ t → CL (insF f (posP f a (k + 1)) a) σ' j j := by
        intro le
        have ep : posP f a (k + 1) = k + 1 := by
          show (if lessP (f k) a = true then posP f a k else k + 1) = _
          rw [if_neg le]
        rw [ep]
        exact fin (k + 1) σ1 h1 c1 c2
      rw [P_X4_insert_j27, if_neg (nI_nle (by omega) (by omega)), nI_pred, g1, g1, g1, ldA_nI (by omega), d1, ldL_nI (by omega), d2]
      by_cases z1 : (f k).1 < a.1
      · rw [if_pos (nI_lt z1 ha.1)]
        exact go (by unfold lessP; rw [decide_eq_true z1]; rfl)
      · rw [if_neg (nI_nlt (by omega) b1)]
        by_cases z2 : (f k).1 = a.1
        · rw [if_neg (fun w => w (by rw [z2]))]
          by_cases z3 : a.2 ≤ (f k).2
          · rw [if_pos ((lN_leB (by omega) (by omega)).mpr z3)]
            exact stop (by unfold lessP; rw [decide_eq_false z1, decide_eq_false (show ¬ (f k).2 < a.2 by omega), Bool.and_false]; decide)
          · rw [if_neg (fun w => z3 ((lN_leB (by omega) (by omega)).mp w))]
            exact go (by unfold lessP; rw [decide_eq_true z2, decide_eq_true (show (f k).2 < a.2 by omega), Bool.and_true, Bool.or_true])
        · rw [if_pos (fun w => z2 ((nI_eq b1 ha.1).mp w))]
          exact stop (by unfold lessP; rw [decide_eq_false z1, decide_eq_false z2, Bool.false_and, Bool.or_false]; decide)
  unfold P_X4_insert
  rw [h16, show (300 : Int32) = nI 300 from rfl, if_pos (nI_lt ht (by decide)), nI_1]
  obtain ⟨σ', q1, q2, q3⟩ := loop t (uI σ 16 (nI (t + 1))) FU (Nat.le_refl _) (by unfold FU; omega) (fun j hj => hc j hj) (fun j j1 j2 => by omega)
  exact ⟨σ', q1, (Fr.uI (by decide)).tr (q2.mono (by decide) (by decide) (by decide)), (q2.1 16 (by decide)).trans rfl, fun j hj => q3 j (by omega)⟩
theorem Wf_le {g : List N3} {b : Nat → Nat → Nat → Nat} {x s h f : Nat} : Wf g b x s h f ≤ LIM := sat_le _
theorem UX.frame {U : Nat → Option Nat} {k N : Nat} {σ σ' : SS} (h : UX U k N σ) (e : sL σ' 3 = sL σ 3) : UX U k N σ' := fun j h1 h2 => by rw [e]; exact h j h1 h2
theorem PT.frame {F : TB} {i m : Nat} {σ σ' : SS} (h : PT F i m σ) (e1 : sI σ' 15 = sI σ 15) (e2 : sA σ' 17 = sA σ 17) : PT F i m σ' := ⟨e1.trans h.1, fun t ht => by rw [e2]; exact h.2 t ht⟩
/-- what the class knows when it reckons the number of node i -/
def XQ (g : List N3) (c : Nat → Nat → Nat) (b : Nat → Nat → Nat → Nat) (F : TB) (U : Nat → Option Nat) (N i m : Nat) (w : Nat → Nat) (σ : SS) : Prop := gX' g σ ∧ XT g c b σ (fun _ _ => True) ∧ XR g F N σ ∧ PT F i m σ ∧ UX U (i + 1) N σ ∧ (∀ t, t < m → U (kid F i t) = some (w t) ∧ w t ≤ LIM)
section
variable {g : List N3} {c : Nat → Nat → Nat} {b : Nat → Nat → Nat → Nat} {tp : Nat → Nat} {n : Nat} {F : TB} {N : Nat} {U : Nat → Option Nat} {i m : Nat} {w : Nat → Nat} {σ : SS}
theorem XQ.fr {σ' : SS} (h : XQ g c b F U N i m w σ) (f : Fr [16] [18] [4] σ σ') : XQ g c b F U N i m w σ' := by
  obtain ⟨h1, h2, h3, h4, h5, h6⟩ := h
  exact ⟨f.gX h1 (by decide) (by decide) (by decide) (by decide), h2.frame (f.2.2 0 (by decide)) (f.2.2 1 (by decide)), h3.frame (f.1 10 (by decide)) (fun k k1 k2 => f.2.1 k (by simp; omega)), h4.frame (f.1 15 (by decide)) (f.2.1 17 (by decide)), h5.frame (f.2.2 3 (by decide)), h6⟩
theorem XQ.num (h : XQ g c b F U N i m w σ) (hs : SB g tp n F 0 N) (hi : i < N) (hk : Kd F i m) {t : Nat} (ht : t < m) : P_X4_part (nI t) σ = some (nI (kid F i t)) ∧ P_X5_sizeAt (nI (kid F i t)) σ = some (nI (F 4 (kid F i t))) ∧ P_X4_numberAt (nI (kid F i t)) σ = some (lN (w t)) := by
  obtain ⟨h1, h2, h3, h4, h5, h6⟩ := h
  have hN := h3.2.1
  have hm := kd_m hs hN hi hk
  have kl := kid_lt hs hi hk ht
  have k1 := (hk.2 t ht).1
  refine ⟨x_part h4 (by omega) ht, x_szAt h3 kl, ?_⟩
  rw [x_numAt h5 hN (by omega) kl, (h6 t ht).1]
  rfl
theorem x_rowN (hd : GdL g) (h : XQ g c b F U N i m w σ) (hs : SB g tp n F 0 N) (hi : i < N) (hk : Kd F i m) (k4 : kd g (F 0 i) = 4) (hz : F 4 i ≤ 24) : P_X4_numberOfRow (nI i) (nI (F 0 i)) σ = some (lN (rowV g c (F 0 i) (F 4 i) (fun t => F 4 (kid F i t)) w m)) := by
  have h' := h
  obtain ⟨h1, h2, h3, h4, h5, h6⟩ := h
  have hN := h3.2.1
  have hm := kd_m hs hN hi hk
  have hx := (hs.2.1 i (by omega) hi).1
  have e4 := F4_kid hs hi hk
  have loop : ∀ d t fu, t + d = m → d < fu → P_X4_numberOfRow_j15 σ fu (nI (F 0 i)) (nI (F 4 i - sumN (fun t => F 4 (kid F i t)) t)) (lN (rowV g c (F 0 i) (F 4 i) (fun t => F 4 (kid F i t)) w t)) (nI t) = some (lN (rowV g c (F 0 i) (F 4 i) (fun t => F 4 (kid F i t)) w m)) := by
    intro d
    induction d with
    | zero =>
      intro t fu a1 a2
      obtain ⟨fu, rfl⟩ : ∃ k, fu = k + 1 := ⟨fu - 1, by omega⟩
      have e : t = m := by omega
      subst e
      rw [P_X4_numberOfRow_j15, h4.1, if_pos (nI_le (Nat.le_refl _) (by omega))]
    | succ d ih =>
      intro t fu a1 a2
      obtain ⟨fu, rfl⟩ : ∃ k, fu = k + 1 := ⟨fu - 1, by omega⟩
      have ht : t < m := by omega
      obtain ⟨n1, n2, n3⟩ := h'.num hs hi hk ht
      have le := sumN_le2 (fun t => F 4 (kid F i t)) m ht
      have le' : sumN (fun t => F 4 (kid F i t)) t + F 4 (kid F i t) ≤ F 4 i := by omega
      rw [P_X4_numberOfRow_j15, h4.1, if_neg (nI_ge ht (by omega)), n1, Option.bind_some, n2, Option.bind_some, Option.bind_some, n3, Option.bind_some, x_ledBelow h1 hd h2.1 hx (Or.inr k4) (by omega) (by omega) (h6 t ht).2, Option.bind_some, x_plus (rowV_le _ _ _ _ _ _ _) (sat_le _), Option.bind_some, nI_sub (by omega), nI_1]
      have e := ih (t + 1) fu (by omega) (by omega)
      rw [show F 4 i - sumN (fun t => F 4 (kid F i t)) (t + 1) = F 4 i - sumN (fun t => F 4 (kid F i t)) t - F 4 (kid F i t) from (Nat.sub_sub _ _ _).symm] at e
      exact e
  unfold P_X4_numberOfRow
  rw [x_szAt h3 hi, Option.bind_some]
  exact loop m 0 FU (by omega) (by unfold FU; omega)
theorem x_both (hd : GdL g) (h : XQ g c b F U N i m w σ) (hs : SB g tp n F 0 N) (hi : i < N) (hk : Kd F i m) (hm2 : m = 2) (k2 : kd g (F 0 i) = 2) (hz : F 4 i ≤ 24) : P_X4_numberOfBoth (nI i) (nI (F 0 i)) σ = some (lN (sat (sat (w 0 * c (tlS g (F 0 i)) (F 4 i - F 4 (kid F i 0)) + sumN (fun j => c (fa g (F 0 i)) j * c (tlS g (F 0 i)) (F 4 i - j)) (F 4 (kid F i 0))) + w 1))) := by
  have h' := h
  obtain ⟨h1, h2, h3, h4, h5, h6⟩ := h
  have hx := (hs.2.1 i (by omega) hi).1
  obtain ⟨n1, n2, n3⟩ := h'.num hs hi hk (show 0 < m by omega)
  obtain ⟨n4, n5, n6⟩ := h'.num hs hi hk (show 1 < m by omega)
  have le := kid_sz hs hi hk (show 0 < m by omega)
  unfold P_X4_numberOfBoth
  rw [show (0 : Int32) = nI 0 from rfl, n1, Option.bind_some, x_szAt h3 hi, Option.bind_some, n2, Option.bind_some, n3, Option.bind_some, x_ledBelow h1 hd h2.1 hx (Or.inl k2) hz le (h6 0 (by omega)).2, Option.bind_some, show (1 : Int32) = nI 1 from rfl, n4, Option.bind_some, n6, Option.bind_some, x_plus (sat_le _) (h6 1 (by omega)).2, Option.bind_some]
theorem x_bag (hd : GdL g) (h : XQ g c b F U N i m w σ) (hs : SB g tp n F 0 N) (hi : i < N) (hk : Kd F i m) (k56 : isB56 g (F 0 i)) (hz : F 4 i ≤ 24) (h1z : ∀ t, t < m → 1 ≤ F 4 (kid F i t)) : ∃ σ', P_X4_numberOfBag (nI i) (nI (F 0 i)) σ = some (lN (bagV g b (F 0 i) (F 4 i) (fs (fun t => (F 4 (kid F i t), w t)) m) m), σ') ∧ Fr [16] [18] [4] σ σ' := by
  have hN := h.2.2.1.2.1
  have hm := kd_m hs hN hi hk
  have hx := (hs.2.1 i (by omega) hi).1
  have e4 := F4_kid hs hi hk
  have hw := h.2.2.2.2.2
  have mem : ∀ t, t ≤ m → ∀ j, j < t → 1 ≤ (fs (fun t => (F 4 (kid F i t), w t)) t j).1 ∧ (fs (fun t => (F 4 (kid F i t), w t)) t j).1 ≤ 24 ∧ (fs (fun t => (F 4 (kid F i t), w t)) t j).2 ≤ LIM := by
    intro t ht j hj
    obtain ⟨s, s1, s2⟩ := fs_mem (fun t => (F 4 (kid F i t), w t)) t j hj
    rw [s2]
    have := kid_sz hs hi hk (show s < m by omega)
    exact ⟨h1z s (by omega), by show F 4 (kid F i s) ≤ 24; omega, (hw s (by omega)).2⟩
  have sumUp : ∀ σ1, Fr [16] [18] [4] σ σ1 → sI σ1 16 = nI m → (∀ j, j < m → CL (fs (fun t => (F 4 (kid F i t), w t)) m) σ1 j j) → ∀ d t fu, t + d = m → d < fu → P_X4_numberOfBag_j61 fu (nI (F 0 i)) (nI (F 4 i - sumN (fun j => (fs (fun t => (F 4 (kid F i t), w t)) m j).1) t)) (lN (bagV g b (F 0 i) (F 4 i) (fs (fun t => (F 4 (kid F i t), w t)) m) t)) (nI t) σ1 = some (lN (bagV g b (F 0 i) (F 4 i) (fs (fun t => (F 4 (kid F i t), w t)) m) m), σ1) := by
    intro σ1 f1 c1 c2 d
    have Q := h.fr f1
    have es : sumN (fun j => (fs (fun t => (F 4 (kid F i t), w t)) m j).1) m = sumN (fun s => F 4 (kid F i s)) m := fs_sum (fun t => (F 4 (kid F i t), w t)) m
    induction d with
    | zero =>
      intro t fu a1 a2
      obtain ⟨fu, rfl⟩ : ∃ k, fu = k + 1 := ⟨fu - 1, by omega⟩
      have e : t = m := by omega
      subst e
      rw [P_X4_numberOfBag_j61, c1, if_pos (nI_le (Nat.le_refl _) (by omega))]
    | succ d ih =>
      intro t fu a1 a2
      obtain ⟨fu, rfl⟩ : ∃ k, fu = k + 1 := ⟨fu - 1, by omega⟩
      have ht : t < m := by omega
      obtain ⟨m1, m2, m3⟩ := mem m (Nat.le_refl _) t ht
      obtain ⟨d1, d2⟩ := c2 t ht
      have g1 : ∀ {α : Type} {o : Option α}, gI (nI t) 300 o = o := gI_nI (by omega) (by decide)
      have le := sumN_le2 (fun j => (fs (fun t => (F 4 (kid F i t), w t)) m j).1) m ht
      rw [es] at le
      have le' : sumN (fun j => (fs (fun t => (F 4 (kid F i t), w t)) m j).1) t + (fs (fun t => (F 4 (kid F i t), w t)) m t).1 ≤ F 4 i := by omega
      rw [P_X4_numberOfBag_j61, c1, if_neg (nI_ge ht (by omega)), show (300 : Int32) = nI 300 from rfl, if_neg (nI_ge (by omega) (by decide)), g1, g1, ldA_nI (by omega), d1, ldL_nI (by omega), d2, x_W Q.1 hd Q.2.1 hx k56 (by omega) m1 m2 m3, Option.bind_some, x_plus (bagV_le _ _ _ _ _ _) Wf_le, Option.bind_some, g1, nI_sub (by omega), nI_1]
      have e := ih (t + 1) fu (by omega) (by omega)
      rw [Nat.sub_sub]
      exact e
  have loop : ∀ d t σ1 fu, t + d = m → d < fu → Fr [16] [18] [4] σ σ1 → sI σ1 16 = nI t → (∀ j, j < t → CL (fs (fun t => (F 4 (kid F i t), w t)) t) σ1 j j) → ∃ σ', P_X4_numberOfBag_j7 fu (nI i) (nI (F 0 i)) (nI t) σ1 = some (lN (bagV g b (F 0 i) (F 4 i) (fs (fun t => (F 4 (kid F i t), w t)) m) m), σ') ∧ Fr [16] [18] [4] σ σ' := by
    intro d
    induction d with
    | zero =>
      intro t σ1 fu a1 a2 f1 c1 c2
      obtain ⟨fu, rfl⟩ : ∃ k, fu = k + 1 := ⟨fu - 1, by omega⟩
      have e : t = m := by omega
      subst e
      have Q := h.fr f1
      rw [P_X4_numberOfBag_j7, Q.2.2.2.1.1, if_pos (nI_le (Nat.le_refl _) (by omega)), x_szAt Q.2.2.1 hi, Option.bind_some]
      exact ⟨σ1, sumUp σ1 f1 c1 c2 t 0 FU (by omega) (by unfold FU; omega), f1⟩
    | succ d ih =>
      intro t σ1 fu a1 a2 f1 c1 c2
      obtain ⟨fu, rfl⟩ : ∃ k, fu = k + 1 := ⟨fu - 1, by omega⟩
      have ht : t < m := by omega
      have Q := h.fr f1
      obtain ⟨n1, n2, n3⟩ := Q.num hs hi hk ht
      have ks := kid_sz hs hi hk ht
      obtain ⟨σ2, q1, q2, q3, q4⟩ := x_insert (f := fs (fun t => (F 4 (kid F i t), w t)) t) (a := (F 4 (kid F i t), w t)) (show t < 300 by omega) c1 c2 (fun j hj => by
        have := mem t (by omega) j hj
        exact ⟨by omega, this.2.2⟩) ⟨by show F 4 (kid F i t) < 2 ^ 31; omega, (hw t ht).2⟩
      rw [P_X4_numberOfBag_j7, Q.2.2.2.1.1, if_neg (nI_ge ht (by omega)), n1, Option.bind_some, n2, Option.bind_some, Option.bind_some, n3, Option.bind_some, show P_X4_insert (nI (F 4 (kid F i t))) (lN (w t)) σ1 = some σ2 from q1, Option.bind_some, nI_1]
      exact ih (t + 1) σ2 fu (by omega) (by omega) (f1.tr q2) q3 q4
  unfold P_X4_numberOfBag
  exact loop m 0 (uI σ 16 0) FU (by omega) (by unfold FU; omega) (Fr.uI (by decide)) rfl (fun j hj => by omega)
end
