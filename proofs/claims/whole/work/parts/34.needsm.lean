def NM (n : Nat) (N : Nat → Nat → Bool) (σ : SS) : Prop := ∀ k, k < n → ∀ j, j < n → sA σ 7 (16 * k + j) = b2i (N k j)
theorem m_hasA {g : List N3} {σ : SS} (hg : gM' g σ) (hd : GdL g) {k : Nat} (hk : k < g.length) : P_X11_hasA (nI k) σ = some (b2i (decide (2 ≤ kd g k) && decide (kd g k ≤ 7))) := by
  have h16 : k < 16 := Nat.lt_of_lt_of_le hk hd.1
  obtain ⟨e0, -, -⟩ := gM_at hg hk
  obtain ⟨l0, l1, l2⟩ := gd_lt hd hk
  unfold P_X11_hasA
  rw [gI_nI h16 (by decide), ldA_nI (by omega), e0]
  have h := isIn_t (nI (kd g k)) 2 7
  rw [w2, w7, nI_toInt (by omega)] at h
  rcases h.cases with ⟨e, q⟩ | ⟨e, q⟩
  · rw [e, Option.bind_some, gZ_1]
    have a : 2 ≤ kd g k := by omega
    have b : kd g k ≤ 7 := by omega
    simp [a, b, b2i]
  · rw [e, Option.bind_some, gZ_0]
    have a : ¬ (2 ≤ kd g k ∧ kd g k ≤ 7) := by omega
    by_cases c : 2 ≤ kd g k
    · have : ¬ kd g k ≤ 7 := fun z => a ⟨c, z⟩
      simp [this, b2i]
    · simp [c, b2i]
theorem m_hasB {g : List N3} {σ : SS} (hg : gM' g σ) (hd : GdL g) {k : Nat} (hk : k < g.length) : P_X11_hasB (nI k) σ = some (b2i (decide (kd g k = 2) || decide (kd g k = 3))) := by
  have h16 : k < 16 := Nat.lt_of_lt_of_le hk hd.1
  obtain ⟨e0, -, -⟩ := gM_at hg hk
  obtain ⟨l0, l1, l2⟩ := gd_lt hd hk
  have lk : kd g k < 2 ^ 31 := by omega
  unfold P_X11_hasB
  simp only [gI_nI h16 (show (16 : Nat) < 2 ^ 31 by decide), ldA_nI (show k < 2 ^ 31 by omega), e0, nI_lit (B := 2) (b := 2) rfl lk (by decide), nI_lit (B := 3) (b := 3) rfl lk (by decide)]
  by_cases a : kd g k = 2
  · simp [a, b2i]
  · by_cases b : kd g k = 3
    · simp [b, b2i]
    · simp [a, b, b2i]
theorem m_needsA {g : List N3} {σ : SS} {E : Nat → Bool} (hg : gM' g σ) (hd : GdL g) (hE : EM E σ) {k : Nat} (hk : k < g.length) : P_X11_needsA (nI k) σ = some (b2i (ndA g E k)) := by
  have h16 : k < 16 := Nat.lt_of_lt_of_le hk hd.1
  obtain ⟨e0, e1, e2⟩ := gM_at hg hk
  obtain ⟨l0, l1, l2⟩ := gd_lt hd hk
  have ok := gd_at hd hk
  have lk : kd g k < 2 ^ 31 := by omega
  unfold P_X11_needsA ndA
  rw [m_hasA hg hd hk, Option.bind_some]
  cases hA : (decide (2 ≤ kd g k) && decide (kd g k ≤ 7)) with
  | false => rw [b2i_f, if_pos rfl]; rfl
  | true =>
    rw [b2i_t, if_neg (by decide)]
    simp only [gI_nI h16 (show (16 : Nat) < 2 ^ 31 by decide), ldA_nI (show k < 2 ^ 31 by omega), e0, e2, nI_lit (B := 2) (b := 2) rfl lk (by decide)]
    by_cases a : kd g k = 2
    · have gb : fb g k < 16 := by unfold okI at ok; omega
      rw [if_neg (fun z => z a), gI_nI gb (by decide), ldA_nI (by omega), hE.1 _ gb]
      cases hb : E (fb g k) <;> simp [a, hb, b2i]
    · rw [if_pos a]
      simp [a, b2i]
theorem m_needsB {g : List N3} {σ : SS} {E : Nat → Bool} (hg : gM' g σ) (hd : GdL g) (hE : EM E σ) {k : Nat} (hk : k < g.length) : P_X11_needsB (nI k) σ = some (b2i (ndB g E k)) := by
  have h16 : k < 16 := Nat.lt_of_lt_of_le hk hd.1
  obtain ⟨e0, e1, e2⟩ := gM_at hg hk
  obtain ⟨l0, l1, l2⟩ := gd_lt hd hk
  have ok := gd_at hd hk
  have lk : kd g k < 2 ^ 31 := by omega
  have ga : fa g k < 16 := by omega
  unfold P_X11_needsB ndB
  simp only [gI_nI h16 (show (16 : Nat) < 2 ^ 31 by decide), ldA_nI (show k < 2 ^ 31 by omega), e0, e1, nI_lit (B := 2) (b := 2) rfl lk (by decide), nI_lit (B := 3) (b := 3) rfl lk (by decide), gI_nI ga (show (16 : Nat) < 2 ^ 31 by decide), ldA_nI (show fa g k < 2 ^ 31 by omega), hE.1 _ ga, b2i_z]
  by_cases b : kd g k = 3
  · simp [b, b2i]
  · by_cases a : kd g k = 2
    · cases hb : E (fa g k) <;> simp [a, hb, b2i]
    · simp [a, b, b2i]
theorem pos16 {k j : Nat} : (16 : Int32) * nI k + nI j = nI (16 * k + j) := by
  rw [show (16 : Int32) * nI k = nI (16 * k) from nI_mul 16 k, nI_add]
theorem pos_inj {k j k' j' : Nat} (h : j < 16) (h' : j' < 16) : (16 * k + j = 16 * k' + j') ↔ k = k' ∧ j = j' := by omega
theorem m_needs {g : List N3} (hd : GdL g) (hl : NoLack g) {σ : SS} {E : Nat → Bool} (hg : gM' g σ) (hE : EM E σ) : ∃ σ', P_X11_findNeeds σ = some σ' ∧ NM g.length (WN g E g.length) σ' ∧ Fr [] [7] [] σ σ' := by
  have hl16 := hd.1
  -- the first loops
  have in1 : ∀ (k : Nat) (K : Int32 → SS → Option SS), k < g.length → ∀ (m j : Nat) (σ1 : SS) (fu : Nat), j + m = g.length → m < fu → (∀ x, x < g.length → ∀ y, y < g.length → (x < k ∨ (x = k ∧ y < j)) → sA σ1 7 (16 * x + y) = b2i (dn g E x y)) → Fr [] [7] [] σ σ1 → ∃ σ', P_X11_findNeeds_j12 K fu (nI k) (nI j) σ1 = K (nI (k + 1)) σ' ∧ (∀ x, x < g.length → ∀ y, y < g.length → x < k + 1 → sA σ' 7 (16 * x + y) = b2i (dn g E x y)) ∧ Fr [] [7] [] σ σ' := by
    intro k K hk m
    induction m with
    | zero =>
      intro j σ1 fu h1 h2 h3 h4
      obtain ⟨fu, rfl⟩ : ∃ k, fu = k + 1 := ⟨fu - 1, by omega⟩
      refine ⟨σ1, ?_, fun x hx y hy hxk => h3 x hx y hy (by omega), h4⟩
      unfold P_X11_findNeeds_j12
      rw [h4.1 0 (by decide), hg.1, if_pos (nI_le (by omega) (by omega)), nI_1]
    | succ m ih =>
      intro j σ1 fu h1 h2 h3 h4
      obtain ⟨fu, rfl⟩ : ∃ k, fu = k + 1 := ⟨fu - 1, by omega⟩
      have hg1 : gM' g σ1 := h4.gM hg (by decide) (by decide) (by decide) (by decide)
      have hE1 : EM E σ1 := ⟨by rw [h4.2.1 6 (by decide)]; exact hE.1, hE.2⟩
      obtain ⟨e0, e1, e2⟩ := gM_at hg1 hk
      obtain ⟨l0, l1, l2⟩ := gd_lt hd hk
      have fin : ∀ b : Bool, b = dn g E k j → ∃ σ', P_X11_findNeeds_j71 K (P_X11_findNeeds_j12 K fu) (nI k) (nI j) (b2i b) (nI (16 * k + j)) σ1 = K (nI (k + 1)) σ' ∧ (∀ x, x < g.length → ∀ y, y < g.length → x < k + 1 → sA σ' 7 (16 * x + y) = b2i (dn g E x y)) ∧ Fr [] [7] [] σ σ' := by
        intro b hb
        unfold P_X11_findNeeds_j71
        rw [gI_nI (by omega) (by decide), nI_1]
        refine ih (j + 1) _ fu (by omega) (by omega) (fun x hx y hy hxy => ?_) (h4.tr (Fr.stZ (by decide)))
        rw [sA_szN (by omega) (b2i_01 b), upd_at]
        by_cases e : x = k ∧ y = j
        · rw [if_pos (by omega), hb, e.1, e.2]
        · rw [if_neg (by omega)]
          exact h3 x hx y hy (by omega)
      unfold P_X11_findNeeds_j12
      rw [hg1.1, if_neg (nI_ge (by omega) (by omega)), m_needsA hg1 hd hE1 hk, Option.bind_some, pos16]
      have f48 : (ndA g E k && decide (fa g k = j)) = false → ∃ σ', P_X11_findNeeds_j48 K (P_X11_findNeeds_j12 K fu) (nI k) (nI j) (nI (16 * k + j)) σ1 = K (nI (k + 1)) σ' ∧ (∀ x, x < g.length → ∀ y, y < g.length → x < k + 1 → sA σ' 7 (16 * x + y) = b2i (dn g E x y)) ∧ Fr [] [7] [] σ σ' := by
        intro hA
        unfold P_X11_findNeeds_j48
        rw [m_needsB hg1 hd hE1 hk, Option.bind_some]
        cases hB : ndB g E k with
        | false =>
          rw [b2i_f, if_pos rfl]
          exact fin false (by unfold dn; rw [hA, hB]; simp)
        | true =>
          rw [b2i_t, if_neg (by decide), gI_nI (by omega) (by decide), ldA_nI (by omega), e2]
          by_cases hj : fb g k = j
          · rw [if_neg (fun z => z (by rw [hj]))]
            exact fin true (by unfold dn; rw [hA, hB]; simp [hk, hj])
          · rw [if_pos (fun z => hj ((nI_eq (by omega) (by omega)).mp z))]
            exact fin false (by unfold dn; rw [hA, hB]; simp [hj])
      cases hA : ndA g E k with
      | false =>
        rw [b2i_f, if_pos rfl]
        exact f48 (by rw [hA]; rfl)
      | true =>
        rw [b2i_t, if_neg (by decide), gI_nI (by omega) (by decide), ldA_nI (by omega), e1]
        by_cases hj : fa g k = j
        · rw [if_pos (by rw [hj])]
          exact fin true (by unfold dn; rw [hA]; simp [hk, hj])
        · rw [if_neg (fun z => hj ((nI_eq (by omega) (by omega)).mp z))]
          exact f48 (by simp [hj])
  have out1 : ∀ (m k : Nat) (σ1 : SS) (fu : Nat), k + m = g.length → m < fu → (∀ x, x < g.length → ∀ y, y < g.length → x < k → sA σ1 7 (16 * x + y) = b2i (dn g E x y)) → Fr [] [7] [] σ σ1 → ∃ σ', P_X11_findNeeds_j2 fu (nI k) σ1 = P_X11_findNeeds_j86 FU 0 σ' ∧ NM g.length (dn g E) σ' ∧ Fr [] [7] [] σ σ' := by
    intro m
    induction m with
    | zero =>
      intro k σ1 fu h1 h2 h3 h4
      obtain ⟨fu, rfl⟩ : ∃ k, fu = k + 1 := ⟨fu - 1, by omega⟩
      refine ⟨σ1, ?_, fun x hx y hy => h3 x hx y hy (by omega), h4⟩
      unfold P_X11_findNeeds_j2
      rw [h4.1 0 (by decide), hg.1, if_pos (nI_le (by omega) (by omega))]
    | succ m ih =>
      intro k σ1 fu h1 h2 h3 h4
      obtain ⟨fu, rfl⟩ : ∃ k, fu = k + 1 := ⟨fu - 1, by omega⟩
      unfold P_X11_findNeeds_j2
      rw [h4.1 0 (by decide), hg.1, if_neg (nI_ge (by omega) (by omega))]
      obtain ⟨σ2, a1, a2, a3⟩ := in1 k (P_X11_findNeeds_j2 fu) (by omega) g.length 0 σ1 FU (by omega) (by unfold FU; omega) (fun x hx y hy hxy => h3 x hx y hy (by omega)) h4
      rw [show P_X11_findNeeds_j12 (P_X11_findNeeds_j2 fu) FU (nI k) 0 σ1 = _ from a1]
      exact ih (k + 1) σ2 fu (by omega) (by omega) a2 a3
  -- the second loops
  have in3 : ∀ (v k : Nat) (N : Nat → Nat → Bool) (K1 : Int32 → SS → Option SS) (K2 : Int32 → Int32 → SS → Option SS), v < g.length → k < g.length → ∀ (m j : Nat) (σ1 : SS) (fu : Nat), j + m = g.length → m < fu → (∀ x, x < g.length → ∀ y, y < g.length → sA σ1 7 (16 * x + y) = b2i (if x < k ∨ (x = k ∧ y < j) then wv N v x y else N x y)) → Fr [] [7] [] σ σ1 → ∃ σ', P_X11_findNeeds_j106 K1 K2 fu (nI v) (nI k) (nI j) σ1 = K2 (nI v) (nI (k + 1)) σ' ∧ (∀ x, x < g.length → ∀ y, y < g.length → sA σ' 7 (16 * x + y) = b2i (if x < k + 1 then wv N v x y else N x y)) ∧ Fr [] [7] [] σ σ' := by
    intro v k N K1 K2 hv hk m
    induction m with
    | zero =>
      intro j σ1 fu h1 h2 h3 h4
      obtain ⟨fu, rfl⟩ : ∃ k, fu = k + 1 := ⟨fu - 1, by omega⟩
      refine ⟨σ1, ?_, fun x hx y hy => ?_, h4⟩
      · unfold P_X11_findNeeds_j106
        rw [h4.1 0 (by decide), hg.1, if_pos (nI_le (by omega) (by omega)), nI_1]
      · rw [h3 x hx y hy]
        by_cases e : x < k + 1
        · rw [if_pos e, if_pos (by omega)]
        · rw [if_neg e, if_neg (by omega)]
    | succ m ih =>
      intro j σ1 fu h1 h2 h3 h4
      obtain ⟨fu, rfl⟩ : ∃ k, fu = k + 1 := ⟨fu - 1, by omega⟩
      have hj : j < g.length := by omega
      have fin : ∀ b : Bool, b = wv N v k j → ∃ σ', P_X11_findNeeds_j171 K1 K2 (P_X11_findNeeds_j106 K1 K2 fu) (nI v) (nI k) (nI j) (b2i b) (nI (16 * k + j)) σ1 = K2 (nI v) (nI (k + 1)) σ' ∧ (∀ x, x < g.length → ∀ y, y < g.length → sA σ' 7 (16 * x + y) = b2i (if x < k + 1 then wv N v x y else N x y)) ∧ Fr [] [7] [] σ σ' := by
        intro b hb
        unfold P_X11_findNeeds_j171
        rw [gI_nI (by omega) (by decide), nI_1]
        refine ih (j + 1) _ fu (by omega) (by omega) (fun x hx y hy => ?_) (h4.tr (Fr.stZ (by decide)))
        rw [sA_szN (by omega) (b2i_01 b), upd_at]
        by_cases e : x = k ∧ y = j
        · rw [if_pos (by omega), if_pos (by omega), hb, e.1, e.2]
        · rw [if_neg (by omega), h3 x hx y hy]
          by_cases e2 : x < k ∨ (x = k ∧ y < j)
          · rw [if_pos e2, if_pos (by omega)]
          · rw [if_neg e2, if_neg (by omega)]
      have r1 : sA σ1 7 (16 * k + j) = b2i (N k j) := by rw [h3 k hk j hj, if_neg (by omega)]
      have r2 : sA σ1 7 (16 * k + v) = b2i (N k v) := by
        rw [h3 k hk v hv]
        split
        · rw [wv_c]
        · rfl
      have r3 : sA σ1 7 (16 * v + j) = b2i (N v j) := by
        rw [h3 v hv j hj]
        split
        · rw [wv_v]
        · rfl
      unfold P_X11_findNeeds_j106
      rw [h4.1 0 (by decide), hg.1, if_neg (nI_ge (by omega) (by omega)), pos16, pos16, pos16, gI_nI (show 16 * k + j < 256 by omega) (by decide), gI_nI (show 16 * k + v < 256 by omega) (by decide), gI_nI (show 16 * v + j < 256 by omega) (by decide), ldA_nI (show 16 * k + j < 2 ^ 31 by omega), ldA_nI (show 16 * k + v < 2 ^ 31 by omega), ldA_nI (show 16 * v + j < 2 ^ 31 by omega), r1, r2, r3]
      unfold P_X11_findNeeds_j166 P_X11_findNeeds_j170
      cases c1 : N k j with
      | true =>
        rw [if_pos (by decide)]
        exact fin true (by unfold wv; rw [c1]; rfl)
      | false =>
        rw [if_neg (by decide)]
        cases c2 : N k v with
        | false =>
          rw [if_pos (show b2i false = 0 from rfl)]
          exact fin false (by unfold wv; rw [c1, c2]; rfl)
        | true =>
          rw [if_neg (by decide)]
          cases c3 : N v j with
          | false =>
            rw [if_pos (show b2i false = 0 from rfl)]
            exact fin false (by unfold wv; rw [c1, c2, c3]; rfl)
          | true =>
            rw [if_neg (by decide)]
            exact fin true (by unfold wv; rw [c1, c2, c3]; rfl)
  have in2 : ∀ (v : Nat) (N : Nat → Nat → Bool) (K1 : Int32 → SS → Option SS), v < g.length → ∀ (m k : Nat) (σ1 : SS) (fu : Nat), k + m = g.length → m < fu → (∀ x, x < g.length → ∀ y, y < g.length → sA σ1 7 (16 * x + y) = b2i (if x < k then wv N v x y else N x y)) → Fr [] [7] [] σ σ1 → ∃ σ', P_X11_findNeeds_j96 K1 fu (nI v) (nI k) σ1 = K1 (nI (v + 1)) σ' ∧ NM g.length (wv N v) σ' ∧ Fr [] [7] [] σ σ' := by
    intro v N K1 hv m
    induction m with
    | zero =>
      intro k σ1 fu h1 h2 h3 h4
      obtain ⟨fu, rfl⟩ : ∃ k, fu = k + 1 := ⟨fu - 1, by omega⟩
      refine ⟨σ1, ?_, fun x hx y hy => ?_, h4⟩
      · unfold P_X11_findNeeds_j96
        rw [h4.1 0 (by decide), hg.1, if_pos (nI_le (by omega) (by omega)), nI_1]
      · rw [h3 x hx y hy, if_pos (by omega)]
    | succ m ih =>
      intro k σ1 fu h1 h2 h3 h4
      obtain ⟨fu, rfl⟩ : ∃ k, fu = k + 1 := ⟨fu - 1, by omega⟩
      unfold P_X11_findNeeds_j96
      rw [h4.1 0 (by decide), hg.1, if_neg (nI_ge (by omega) (by omega))]
      obtain ⟨σ2, a1, a2, a3⟩ := in3 v k N K1 (P_X11_findNeeds_j96 K1 fu) hv (by omega) g.length 0 σ1 FU (by omega) (by unfold FU; omega) (fun x hx y hy => by
        rw [h3 x hx y hy]
        by_cases e : x < k
        · rw [if_pos e, if_pos (by omega)]
        · rw [if_neg e, if_neg (by omega)]) h4
      rw [show P_X11_findNeeds_j106 K1 (P_X11_findNeeds_j96 K1 fu) FU (nI v) (nI k) 0 σ1 = _ from a1]
      exact ih (k + 1) σ2 fu (by omega) (by omega) a2 a3
  have out2 : ∀ (m v : Nat) (σ1 : SS) (fu : Nat), v + m = g.length → m < fu → NM g.length (WN g E v) σ1 → Fr [] [7] [] σ σ1 → ∃ σ', P_X11_findNeeds_j86 fu (nI v) σ1 = some σ' ∧ NM g.length (WN g E g.length) σ' ∧ Fr [] [7] [] σ σ' := by
    intro m
    induction m with
    | zero =>
      intro v σ1 fu h1 h2 h3 h4
      obtain ⟨fu, rfl⟩ : ∃ k, fu = k + 1 := ⟨fu - 1, by omega⟩
      have e : v = g.length := by omega
      subst e
      refine ⟨σ1, ?_, h3, h4⟩
      unfold P_X11_findNeeds_j86
      rw [h4.1 0 (by decide), hg.1, if_pos (nI_le (by omega) (by omega))]
    | succ m ih =>
      intro v σ1 fu h1 h2 h3 h4
      obtain ⟨fu, rfl⟩ : ∃ k, fu = k + 1 := ⟨fu - 1, by omega⟩
      unfold P_X11_findNeeds_j86
      rw [h4.1 0 (by decide), hg.1, if_neg (nI_ge (by omega) (by omega))]
      obtain ⟨σ2, a1, a2, a3⟩ := in2 v (WN g E v) (P_X11_findNeeds_j86 fu) (by omega) g.length 0 σ1 FU (by omega) (by unfold FU; omega) (fun x hx y hy => by rw [if_neg (by omega)]; exact h3 x hx y hy) h4
      rw [show P_X11_findNeeds_j96 (P_X11_findNeeds_j86 fu) FU (nI v) 0 σ1 = _ from a1]
      exact ih (v + 1) σ2 fu (by omega) (by omega) a2 a3
  obtain ⟨σ1, a1, a2, a3⟩ := out1 g.length 0 σ FU (by omega) (by unfold FU; omega) (fun x hx y hy h => absurd h (by omega)) Fr.rf
  obtain ⟨σ2, b1, b2, b3⟩ := out2 g.length 0 σ1 FU (by omega) (by unfold FU; omega) a2 a3
  refine ⟨σ2, ?_, b2, b3⟩
  unfold P_X11_findNeeds
  rw [show P_X11_findNeeds_j2 FU 0 σ = _ from a1]
  exact b1
