theorem m_isIn_nat {a lo hi : Nat} (ha : a < 2 ^ 63) (hlo : lo < 2 ^ 63) (hhi : hi < 2 ^ 63) : P_X11_isIn (lN a) (lN lo) (lN hi) = some (b2i (decide (lo ≤ a ∧ a ≤ hi))) := by
  unfold P_X11_isIn
  by_cases h1 : a < lo
  · rw [if_pos ((lN_ltB ha hlo).mpr h1)]
    simp [show ¬ (lo ≤ a ∧ a ≤ hi) by omega, b2i]
  · rw [if_neg (fun z => h1 ((lN_ltB ha hlo).mp z))]
    by_cases h2 : hi < a
    · rw [if_pos ((lN_ltB hhi ha).mpr h2)]
      simp [show ¬ (lo ≤ a ∧ a ≤ hi) by omega, b2i]
    · rw [if_neg (fun z => h2 ((lN_ltB hhi ha).mp z))]
      simp [show lo ≤ a ∧ a ≤ hi by omega, b2i]
theorem m_reckon {g : List N3} (hr : Rdy g) {c : Nat → Nat → Nat} {b : Nat → Nat → Nat → Nat} {σ : SS} (hg : gM' g σ) (hE : EM (EE g) σ) (hc : CT c σ) (hz : Zc g c) {x s : Nat} (hx : x < g.length) (hs : s ≤ 24) (hb : isB56 g x → ∀ t, t < s → ∀ u, u ≤ 24 → BM b σ x t u) : ∃ b' σ', P_X11_reckon (nI x) (nI s) σ = some (lN (Rv g c b' x s), σ') ∧ Rv g c b' x s ≤ LIM ∧ Fr [] [] [1] σ σ' ∧ (∀ y t u, ¬ (y = x ∧ t = s) → b' y t u = b y t u) ∧ (isB56 g x → (∀ t, t ≤ s → b' x s t = RB g c b' x s t) ∧ ∀ t, t ≤ 24 → BM b' σ' x s t) ∧ ∀ i, (∀ u, u ≤ 24 → i ≠ im x s u) → sL σ' 1 i = sL σ 1 i := by
  have hd := hr.1
  have hl := hd.1
  have h16 : x < 16 := Nat.lt_of_lt_of_le hx hd.1
  obtain ⟨e0, e1, e2⟩ := gM_at hg hx
  obtain ⟨l0, l1, l2⟩ := gd_lt hd hx
  have ok := gd_at hd hx
  have L1 : 1 ≤ LIM := by decide
  have plain : ∀ v : Nat, v ≤ LIM → ¬ isB56 g x → v = Rv g c b x s → P_X11_reckon (nI x) (nI s) σ = some (lN v, σ) → ∃ b' σ', P_X11_reckon (nI x) (nI s) σ = some (lN (Rv g c b' x s), σ') ∧ Rv g c b' x s ≤ LIM ∧ Fr [] [] [1] σ σ' ∧ (∀ y t u, ¬ (y = x ∧ t = s) → b' y t u = b y t u) ∧ (isB56 g x → (∀ t, t ≤ s → b' x s t = RB g c b' x s t) ∧ ∀ t, t ≤ 24 → BM b' σ' x s t) ∧ ∀ i, (∀ u, u ≤ 24 → i ≠ im x s u) → sL σ' 1 i = sL σ 1 i := by
    intro v hv hn hRv hP
    subst hRv
    exact ⟨b, σ, hP, hv, Fr.rf, fun _ _ _ _ => rfl, fun z => absurd z hn, fun _ _ => rfl⟩
  have bags : isB56 g x → (P_X11_reckon (nI x) (nI s) σ = P_X11_reckon_j185 (nI x) (nI s) σ) → ∃ b' σ', P_X11_reckon (nI x) (nI s) σ = some (lN (Rv g c b' x s), σ') ∧ Rv g c b' x s ≤ LIM ∧ Fr [] [] [1] σ σ' ∧ (∀ y t u, ¬ (y = x ∧ t = s) → b' y t u = b y t u) ∧ (isB56 g x → (∀ t, t ≤ s → b' x s t = RB g c b' x s t) ∧ ∀ t, t ≤ 24 → BM b' σ' x s t) ∧ ∀ i, (∀ u, u ≤ 24 → i ≠ im x s u) → sL σ' 1 i = sL σ 1 i := by
    intro hB hP
    obtain ⟨σ', q1, q2, q3, q4⟩ := m_countSets hg hd hc hx hB hs (hb hB)
    have eRv : Rv g c (upR g c b x s) x s = rowB g c b x s s := by
      unfold Rv
      rcases hB with k | k <;> simp [k, upR_eq]
    refine ⟨upR g c b x s, σ', ?_, by rw [eRv]; exact rowB_le g c b x s s, q2, fun y t u z => upR_ne z, fun _ => ⟨fun t ht => by rw [upR_eq]; exact upR_RB t ht, q3⟩, q4⟩
    rw [hP]
    unfold P_X11_reckon_j185
    rw [q1, Option.bind_some, show (24 : Int32) = nI 24 from rfl, m_upTo (b := upR g c b x s) h16 hs (by omega) (q3 24 (by omega)), Option.bind_some]
    unfold BB
    rw [show min 24 s = s by omega, upR_eq, eRv]
  have nl := hr.2.1 x hx
  unfold P_X11_reckon at plain bags ⊢
  have gi : ∀ {α : Type} {q : Option α}, gI (nI x) 16 q = q := gI_nI h16 (by decide)
  simp only [gi, ldA_nI (show x < 2 ^ 31 by omega), e0, e1, e2] at plain bags ⊢
  have cn : ∀ {α : Type} {p q : α} {n : Nat} {N : Int32}, N = nI n → n < 2 ^ 31 → (if nI (kd g x) = N then p else q) = (if kd g x = n then p else q) := by
    intro α p q n N hN hn
    subst hN
    by_cases z : kd g x = n
    · rw [if_pos z, if_pos (by rw [z])]
    · rw [if_neg z, if_neg (fun y => z ((nI_eq (by omega) hn).mp y))]
  rw [cn (n := 0) (N := 0) rfl (by decide), cn (n := 1) (N := 1) rfl (by decide), cn (n := 2) (N := 2) rfl (by decide), cn (n := 3) (N := 3) rfl (by decide), cn (n := 4) (N := 4) rfl (by decide), cn (n := 5) (N := 5) rfl (by decide), cn (n := 6) (N := 6) rfl (by decide), cn (n := 7) (N := 7) rfl (by decide), cn (n := 8) (N := 8) rfl (by decide)] at plain bags ⊢
  have eqs : ∀ {n : Nat}, n ≤ 15 → (nI s = nI n ↔ s = n) := fun hn => nI_eq (by omega) (by omega)
  rcases (show kd g x = 0 ∨ kd g x = 1 ∨ kd g x = 2 ∨ kd g x = 3 ∨ kd g x = 4 ∨ kd g x = 5 ∨ kd g x = 6 ∨ kd g x = 7 ∨ kd g x = 8 by omega) with k | k | k | k | k | k | k | k | k
  · have hn : ¬ isB56 g x := by unfold isB56; omega
    rw [if_pos k] at plain ⊢
    by_cases z : s = fa g x
    · refine plain 1 L1 hn (by unfold Rv; rw [if_pos k, if_pos z]) ?_
      rw [if_neg (fun y => y (by rw [z]))]
      rfl
    · refine plain 0 (by omega) hn (by unfold Rv; rw [if_pos k, if_neg z]) ?_
      rw [if_pos (show ¬ nI s = nI (fa g x) from fun y => z ((eqs l1).mp y))]
      rfl
  · have hn : ¬ isB56 g x := by unfold isB56; omega
    have k0 : ¬ kd g x = 0 := by omega
    rw [if_neg k0, if_pos k] at plain ⊢
    by_cases z : s = 0
    · refine plain 1 L1 hn (by unfold Rv; rw [if_neg k0, if_pos k, if_pos z]) ?_
      rw [if_neg (fun y => y (by rw [z]; rfl))]
      rfl
    · refine plain 0 (by omega) hn (by unfold Rv; rw [if_neg k0, if_pos k, if_neg z]) ?_
      rw [if_pos (show ¬ nI s = 0 from fun y => z ((eqs (n := 0) (by omega)).mp y))]
      rfl
  · have hn : ¬ isB56 g x := by unfold isB56; omega
    have k0 : ¬ kd g x = 0 := by omega
    have k1 : ¬ kd g x = 1 := by omega
    rw [if_neg k0, if_neg k1, if_pos k] at plain ⊢
    refine plain _ (sat_le _) hn ?_ (by rw [m_countBoth hr hg hE hc hz hx k hs, Option.bind_some])
    unfold Rv
    rw [if_neg k0, if_neg k1, if_pos k]
  · have hn : ¬ isB56 g x := by unfold isB56; omega
    have k0 : ¬ kd g x = 0 := by omega
    have k1 : ¬ kd g x = 1 := by omega
    have k2 : ¬ kd g x = 2 := by omega
    have la := nl.1 (by omega) (by omega)
    have lb := nl.2 (Or.inr k)
    rw [if_neg k0, if_neg k1, if_neg k2, if_pos k] at plain ⊢
    refine plain _ (sat_le (c (fa g x) s + c (fb g x) s)) hn ?_ ?_
    · unfold Rv
      rw [if_neg k0, if_neg k1, if_neg k2, if_pos k]
    · rw [m_of hc (by omega) hs, Option.bind_some, m_of hc (by omega) hs, Option.bind_some, m_plus (hc _ (by omega) s hs).2 (hc _ (by omega) s hs).2, Option.bind_some]
  · have hn : ¬ isB56 g x := by unfold isB56; omega
    have k0 : ¬ kd g x = 0 := by omega
    have k1 : ¬ kd g x = 1 := by omega
    have k2 : ¬ kd g x = 2 := by omega
    have k3 : ¬ kd g x = 3 := by omega
    rw [if_neg k0, if_neg k1, if_neg k2, if_neg k3, if_pos k] at plain ⊢
    refine plain (if s = 0 then 1 else sat (sumN (fun h => c (fa g x) h * c x (s - h)) (s + 1))) (by split; exact L1; exact sat_le _) hn ?_ (by rw [m_countRow hr hg hc hz hx k hs, Option.bind_some])
    unfold Rv
    rw [if_neg k0, if_neg k1, if_neg k2, if_neg k3, if_pos k]
  · refine bags (Or.inl k) ?_
    rw [if_neg (by omega), if_neg (by omega), if_neg (by omega), if_neg (by omega), if_neg (by omega), if_pos k]
  · refine bags (Or.inr k) ?_
    rw [if_neg (by omega), if_neg (by omega), if_neg (by omega), if_neg (by omega), if_neg (by omega), if_neg (by omega), if_pos k]
  · have hn : ¬ isB56 g x := by unfold isB56; omega
    have la := nl.1 (by omega) (by omega)
    have eR : Rv g c b x s = if fb g x / 32 ≤ s ∧ s ≤ fb g x % 32 then c (fa g x) s else 0 := by
      unfold Rv
      rw [if_neg (by omega), if_neg (by omega), if_neg (by omega), if_neg (by omega), if_neg (by omega), if_neg (by omega), if_neg (by omega), if_pos k]
    rw [if_neg (by omega), if_neg (by omega), if_neg (by omega), if_neg (by omega), if_neg (by omega), if_neg (by omega), if_neg (by omega), if_pos k, show (32 : Int32) = nI 32 from rfl, nI_mod (by omega) (by decide), nI_div (by omega) (by decide), nI_l (by omega), nI_l (by omega), nI_l (by omega), m_isIn_nat (by omega) (by omega) (by omega), Option.bind_some, m_of hc (by omega) hs, Option.bind_some] at plain ⊢
    by_cases z : fb g x / 32 ≤ s ∧ s ≤ fb g x % 32
    · refine plain (c (fa g x) s) (hc _ (by omega) s hs).2 hn (by rw [eR, if_pos z]) ?_
      rw [decide_eq_true z, b2i_t, if_neg (by decide)]
    · refine plain 0 (by omega) hn (by rw [eR, if_neg z]) ?_
      rw [decide_eq_false z, b2i_f, if_pos rfl]
      rfl
  · have hn : ¬ isB56 g x := by unfold isB56; omega
    have eR : Rv g c b x s = if s = fa g x then fct s else 0 := by
      unfold Rv
      rw [if_neg (by omega), if_neg (by omega), if_neg (by omega), if_neg (by omega), if_neg (by omega), if_neg (by omega), if_neg (by omega), if_neg (by omega), if_pos k]
    have ha8 : fa g x ≤ 8 := by unfold okI at ok; omega
    rw [if_neg (by omega), if_neg (by omega), if_neg (by omega), if_neg (by omega), if_neg (by omega), if_neg (by omega), if_neg (by omega), if_neg (by omega), if_pos k] at plain ⊢
    by_cases z : s = fa g x
    · refine plain (fct s) (fct_le s (by omega)) hn (by rw [eR, if_pos z]) ?_
      rw [if_neg (fun y => y (by rw [z])), m_fact hs, Option.bind_some]
    · refine plain 0 (by omega) hn (by rw [eR, if_neg z]) ?_
      rw [if_pos (show ¬ nI s = nI (fa g x) from fun y => z ((eqs l1).mp y))]
      rfl
/-- what the reference holds of the tables, so far -/
def MT (g : List N3) (c : Nat → Nat → Nat) (b : Nat → Nat → Nat → Nat) (σ : SS) (D : Nat → Nat → Prop) : Prop := CT c σ ∧ Dn g c b D ∧ ∀ x, x < g.length → isB56 g x → ∀ t, t ≤ 24 → D x t → ∀ u, u ≤ 24 → BM b σ x t u
theorem MT.mono {g : List N3} {c : Nat → Nat → Nat} {b : Nat → Nat → Nat → Nat} {σ : SS} {D D' : Nat → Nat → Prop} (h : MT g c b σ D) (hD : ∀ y, y < g.length → ∀ t, t ≤ 24 → D' y t → D y t) : MT g c b σ D' := ⟨h.1, h.2.1.mono hD, fun x hx hB t ht z => h.2.2 x hx hB t ht (hD x hx t ht z)⟩
theorem MT.frame {g : List N3} {c : Nat → Nat → Nat} {b : Nat → Nat → Nat → Nat} {σ σ' : SS} {D : Nat → Nat → Prop} (h : MT g c b σ D) (e0 : sL σ' 0 = sL σ 0) (e1 : sL σ' 1 = sL σ 1) : MT g c b σ' D := ⟨h.1.frame e0, h.2.1, fun x hx hB t ht z u hu => by unfold BM; rw [e1]; exact h.2.2 x hx hB t ht z u hu⟩
theorem m_fill_step {g : List N3} (hr : Rdy g) {c : Nat → Nat → Nat} {b : Nat → Nat → Nat → Nat} {σ : SS} {D : Nat → Nat → Prop} {x s : Nat} (hg : gM' g σ) (hE : EM (EE g) σ) (hx : x < g.length) (hs : s ≤ 24) (h : MT g c b σ D) (hD : ∀ y, y < g.length → ∀ t, D y t → t ≤ s ∧ ¬ (y = x ∧ t = s) ∧ (t = s → dn g (EE g) y x = false)) (hsm : ∀ t, t < s → D x t) : ∃ c' b' v σ1, P_X11_reckon (nI x) (nI s) σ = some (v, σ1) ∧ Fr [] [] [0, 1] σ (stL σ1 0 (nI (25 * x + s)) v) ∧ MT g c' b' (stL σ1 0 (nI (25 * x + s)) v) (fun y t => D y t ∨ (y = x ∧ t = s)) := by
  obtain ⟨h1, h2, h3⟩ := h
  have h16 : x < 16 := Nat.lt_of_lt_of_le hx hr.1.1
  obtain ⟨b', σ1, q1, q2, q3, q4, q5, q6⟩ := m_reckon (b := b) hr hg hE h1 h2.1.1 hx hs (fun hB t ht u hu => h3 x hx hB t (by omega) (hsm t ht) u hu)
  refine ⟨up2 c x s (Rv g c b' x s), b', _, σ1, q1, (q3.mono (by decide) (by decide) (by decide)).tr (Fr.stL (by decide)), (h1.frame (q3.2.2 0 (by decide))).set h16 hs q2, h2.step hr hx hD rfl q4 (fun hB t ht => (q5 hB).1 t ht), ?_⟩
  intro y hy hB t ht z u hu
  have eL : sL (stL σ1 0 (nI (25 * x + s)) (lN (Rv g c b' x s))) 1 = sL σ1 1 := sL_stne (by decide)
  unfold BM
  rw [eL]
  by_cases ex : y = x ∧ t = s
  · obtain ⟨rfl, rfl⟩ := ex
    exact (q5 hB).2 u hu
  · have hDt : D y t := by
      rcases z with z | z
      · exact z
      · exact absurd z ex
    have eb : BB b' y t u = BB b y t u := q4 y t _ ex
    rw [eb, q6 _ (fun w hw e => ex ⟨(im_inj ht hu hs hw e).1, (im_inj ht hu hs hw e).2.1⟩)]
    exact h3 y hy hB t ht hDt u hu
