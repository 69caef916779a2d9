/-! what a SHAPE NEEDS -/
def ndA (g : List N3) (E : Nat → Bool) (k : Nat) : Bool := decide (2 ≤ kd g k) && decide (kd g k ≤ 7) && (!decide (kd g k = 2) || E (fb g k))
def ndB (g : List N3) (E : Nat → Bool) (k : Nat) : Bool := decide (kd g k = 3) || (decide (kd g k = 2) && E (fa g k))
def dn (g : List N3) (E : Nat → Bool) (k j : Nat) : Bool := decide (k < g.length) && ((ndA g E k && decide (fa g k = j)) || (ndB g E k && decide (fb g k = j)))
def wv (N : Nat → Nat → Bool) (v : Nat) : Nat → Nat → Bool := fun x j => N x j || (N x v && N v j)
def WN (g : List N3) (E : Nat → Bool) : Nat → Nat → Nat → Bool
  | 0 => dn g E
  | v + 1 => wv (WN g E v) v
/-- no part is wanting -/
def NoLack (g : List N3) : Prop := ∀ k, k < g.length → (2 ≤ kd g k → kd g k ≤ 7 → fa g k < g.length) ∧ (kd g k = 2 ∨ kd g k = 3 → fb g k < g.length)
theorem wv_v (N : Nat → Nat → Bool) (v j : Nat) : wv N v v j = N v j := by
  unfold wv
  cases N v j <;> cases N v v <;> rfl
theorem wv_c (N : Nat → Nat → Bool) (v x : Nat) : wv N v x v = N x v := by
  unfold wv
  cases N x v <;> cases N v v <;> rfl
theorem dn_out {g : List N3} {E : Nat → Bool} (hl : NoLack g) {k j : Nat} (h : dn g E k j = true) : k < g.length ∧ j < g.length := by
  unfold dn ndA ndB at h
  simp only [Bool.and_eq_true, Bool.or_eq_true, decide_eq_true_eq] at h
  obtain ⟨h1, h2⟩ := h
  refine ⟨h1, ?_⟩
  have := hl k h1
  rcases h2 with ⟨⟨⟨a1, a2⟩, -⟩, a3⟩ | ⟨a1, a2⟩
  · rw [← a3]; exact this.1 a1 a2
  · rw [← a2]
    apply this.2
    rcases a1 with z | ⟨z, -⟩
    · exact Or.inr z
    · exact Or.inl z
theorem WN_out {g : List N3} {E : Nat → Bool} (hl : NoLack g) : ∀ (v k j : Nat), WN g E v k j = true → k < g.length ∧ j < g.length
  | 0, _, _, h => dn_out hl h
  | v + 1, k, j, h => by
    have h : (WN g E v k j || (WN g E v k v && WN g E v v j)) = true := h
    rw [Bool.or_eq_true, Bool.and_eq_true] at h
    rcases h with z | ⟨z1, z2⟩
    · exact WN_out hl v k j z
    · exact ⟨(WN_out hl v k v z1).1, (WN_out hl v v j z2).2⟩
/-- transitive over all that has been gone through -/
theorem WN_tr (g : List N3) (E : Nat → Bool) : ∀ (v m x j : Nat), m < v → WN g E v x m = true → WN g E v m j = true → WN g E v x j = true
  | 0, _, _, _, h, _, _ => absurd h (by omega)
  | v + 1, m, x, j, h, h1, h2 => by
    have ih := WN_tr g E v
    have e : ∀ a b, WN g E (v + 1) a b = (WN g E v a b || (WN g E v a v && WN g E v v b)) := fun _ _ => rfl
    rw [e] at h1 h2 ⊢
    simp only [Bool.or_eq_true, Bool.and_eq_true] at h1 h2 ⊢
    by_cases hm : m = v
    · subst hm
      have k1 : WN g E m x m = true := by
        rcases h1 with z | ⟨z, -⟩ <;> exact z
      have k2 : WN g E m m j = true := by
        rcases h2 with z | ⟨-, z⟩ <;> exact z
      exact Or.inr ⟨k1, k2⟩
    · have hm2 : m < v := by omega
      rcases h1 with a | ⟨a1, a2⟩ <;> rcases h2 with b | ⟨b1, b2⟩
      · exact Or.inl (ih m x j hm2 a b)
      · exact Or.inr ⟨ih m x v hm2 a b1, b2⟩
      · exact Or.inr ⟨a1, ih m v j hm2 a2 b⟩
      · exact Or.inr ⟨a1, b2⟩
theorem WN_le (g : List N3) (E : Nat → Bool) : ∀ (v k j : Nat), dn g E k j = true → WN g E v k j = true
  | 0, _, _, h => h
  | v + 1, k, j, h => by
    show (WN g E v k j || _) = true
    rw [WN_le g E v k j h, Bool.true_or]
theorem WN_stay {g : List N3} {E : Nat → Bool} (hl : NoLack g) : ∀ m, WN g E (g.length + m) = WN g E g.length
  | 0 => rfl
  | m + 1 => by
    rw [← WN_stay hl m]
    funext x j
    show (WN g E (g.length + m) x j || (WN g E (g.length + m) x (g.length + m) && _)) = _
    have : WN g E (g.length + m) x (g.length + m) = false := by
      cases h : WN g E (g.length + m) x (g.length + m) with
      | false => rfl
      | true => exact absurd (WN_out hl _ _ _ h).2 (by omega)
    rw [this, Bool.false_and, Bool.or_false]
def NX (N : Nat → Nat → Bool) (σ : SS) : Prop := ∀ k, k < 16 → ∀ j, j < 32 → bt (sA σ 7 k) j = N k j
theorem x_direct {g : List N3} {σ : SS} {E : Nat → Bool} (hg : gX' g σ) (hd : GdL g) (hE : EX E σ) {k : Nat} (hk : k < g.length) : ∃ v, P_X3_directNeeds (nI k) σ = some v ∧ ∀ j, j < 32 → bt v j = dn g E k j := by
  have h16 : k < 16 := Nat.lt_of_lt_of_le hk hd.1
  obtain ⟨e0, e1, e2⟩ := gX_at hg hk
  obtain ⟨l0, l1, l2⟩ := gd_lt hd hk
  have ok := gd_at hd hk
  have lk : kd g k < 2 ^ 31 := by omega
  unfold P_X3_directNeeds P_X3_directNeeds_j82
  rw [x_a h16, x_b h16, x_kind h16, e0, e1, e2]
  simp only [Option.bind_some, hE.is (show fa g k < 2 ^ 31 by omega), hE.is (show fb g k < 2 ^ 31 by omega), nI_lit (B := 2) (b := 2) rfl lk (by decide), nI_lit (B := 3) (b := 3) rfl lk (by decide), nI_lit (B := 4) (b := 4) rfl lk (by decide), nI_lit (B := 5) (b := 5) rfl lk (by decide), nI_lit (B := 6) (b := 6) rfl lk (by decide), nI_lit (B := 7) (b := 7) rfl lk (by decide), b2i_z]
  unfold dn ndA ndB
  have sw : ∀ a b : Nat, decide (a = b) = decide (b = a) := fun a b => decide_eq_decide.mpr ⟨Eq.symm, Eq.symm⟩
  by_cases k2 : kd g k = 2
  · have gb : fb g k < 32 := by unfold okI at ok; omega
    simp only [k2, if_true]
    cases hb : E (fb g k) <;> cases ha : E (fa g k) <;> refine ⟨_, rfl, fun j hj => ?_⟩ <;> simp only [b_or, b_0, bt_one (show fa g k < 32 by omega) hj, bt_one gb hj] <;> simp [hk, sw j]
  · by_cases k3 : kd g k = 3
    · have gb : fb g k < 32 := by unfold okI at ok; omega
      simp only [k3, reduceIte, Nat.reduceEqDiff]
      refine ⟨_, rfl, fun j hj => ?_⟩
      simp only [b_or, bt_one (show fa g k < 32 by omega) hj, bt_one gb hj]
      simp [hk, sw j]
    · simp only [k2, k3, if_false]
      by_cases k4 : kd g k = 4 ∨ kd g k = 5 ∨ kd g k = 6 ∨ kd g k = 7
      · refine ⟨(1 : Int32) <<< (nI (fa g k) &&& 31), ?_, fun j hj => ?_⟩
        · rcases k4 with z | z | z | z <;> simp only [z, reduceIte, Nat.reduceEqDiff]
        · rw [bt_one (show fa g k < 32 by omega) hj]
          rcases k4 with z | z | z | z <;> simp [hk, z, sw j]
      · refine ⟨0, ?_, fun j hj => ?_⟩
        · rw [if_neg (fun z => k4 (by simp [z])), if_neg (fun z => k4 (by simp [z])), if_neg (fun z => k4 (by simp [z])), if_neg (fun z => k4 (by simp [z]))]
        · rw [b_0]
          have : ¬ (2 ≤ kd g k ∧ kd g k ≤ 7) := by omega
          simp [hk, k2, k3, this]
theorem x_needs {g : List N3} (hd : GdL g) (hl : NoLack g) {σ : SS} {E : Nat → Bool} (hg : gX' g σ) (hE : EX E σ) : ∃ σ', P_X3_findNeeds σ = some σ' ∧ NX (WN g E g.length) σ' ∧ Fr [] [7] [] σ σ' := by
  have hl16 := hd.1
  have inner : ∀ (v : Nat) (N : Nat → Nat → Bool) (K : Int32 → SS → Option SS), v < 16 → ∀ (m i : Nat) (σ1 : SS) (fu : Nat), i + m = 16 → m < fu → (∀ k, k < 16 → ∀ j, j < 32 → bt (sA σ1 7 k) j = if k < i then wv N v k j else N k j) → Fr [] [7] [] σ σ1 → ∃ σ', P_X3_findNeeds_j50 K fu (nI v) (nI i) σ1 = K (nI (v + 1)) σ' ∧ NX (wv N v) σ' ∧ Fr [] [7] [] σ σ' := by
    intro v N K hv m
    induction m with
    | zero =>
      intro i σ1 fu h1 h2 h3 h4
      obtain ⟨fu, rfl⟩ : ∃ k, fu = k + 1 := ⟨fu - 1, by omega⟩
      have e : i = 16 := by omega
      subst e
      refine ⟨σ1, ?_, fun k hk j hj => ?_, h4⟩
      · unfold P_X3_findNeeds_j50
        rw [if_pos (by decide), nI_1]
      · rw [h3 k hk j hj, if_pos hk]
    | succ m ih =>
      intro i σ1 fu h1 h2 h3 h4
      obtain ⟨fu, rfl⟩ : ∃ k, fu = k + 1 := ⟨fu - 1, by omega⟩
      have hi : i < 16 := by omega
      have hiv : bt (sA σ1 7 i) v = N i v := by rw [h3 i hi v (by omega), if_neg (by omega)]
      unfold P_X3_findNeeds_j50
      rw [show (16 : Int32) = nI 16 from rfl, if_neg (nI_ge hi (by decide)), gI_nI hi (by decide), ldA_nI (by omega), ldA_nI (by omega), x_isIn _ (by omega), Option.bind_some, hiv]
      unfold P_X3_findNeeds_j84
      have d16 : decide (v < 16) = true := by simp [hv]
      rw [d16, Bool.true_and, nI_1]
      cases hN : N i v with
      | false =>
        rw [b2i_f, if_pos rfl]
        refine ih (i + 1) σ1 fu (by omega) (by omega) (fun k hk j hj => ?_) h4
        rw [h3 k hk j hj]
        by_cases e : k = i
        · subst e
          rw [if_neg (by omega), if_pos (by omega)]
          unfold wv
          rw [hN, Bool.false_and, Bool.or_false]
        · by_cases e2 : k < i
          · rw [if_pos e2, if_pos (by omega)]
          · rw [if_neg e2, if_neg (by omega)]
      | true =>
        rw [b2i_t, if_neg (by decide), gI_nI hi (by decide), gI_nI hv (by decide), gI_nI hi (by decide)]
        refine ih (i + 1) _ fu (by omega) (by omega) (fun k hk j hj => ?_) (h4.tr (Fr.stA (by decide)))
        rw [sA_stN (by omega), upd_at]
        by_cases e : k = i
        · subst e
          have hvv : bt (sA σ1 7 v) j = N v j := by
            rw [h3 v hv j hj]
            split
            · exact wv_v N v j
            · rfl
          have hkk : bt (sA σ1 7 k) j = N k j := by rw [h3 k hk j hj, if_neg (by omega)]
          rw [if_pos rfl, b_or, hkk, hvv, if_pos (by omega)]
          unfold wv
          rw [hN, Bool.true_and]
        · rw [if_neg e, h3 k hk j hj]
          by_cases e2 : k < i
          · rw [if_pos e2, if_pos (by omega)]
          · rw [if_neg e2, if_neg (by omega)]
  have outer : ∀ (m v : Nat) (σ1 : SS) (fu : Nat), v + m = 16 → m < fu → NX (WN g E v) σ1 → Fr [] [7] [] σ σ1 → ∃ σ', P_X3_findNeeds_j42 fu (nI v) σ1 = some σ' ∧ NX (WN g E 16) σ' ∧ Fr [] [7] [] σ σ' := by
    intro m
    induction m with
    | zero =>
      intro v σ1 fu h1 h2 h3 h4
      obtain ⟨fu, rfl⟩ : ∃ k, fu = k + 1 := ⟨fu - 1, by omega⟩
      have e : v = 16 := by omega
      subst e
      refine ⟨σ1, ?_, h3, h4⟩
      unfold P_X3_findNeeds_j42
      rw [if_pos (by decide)]
    | succ m ih =>
      intro v σ1 fu h1 h2 h3 h4
      obtain ⟨fu, rfl⟩ : ∃ k, fu = k + 1 := ⟨fu - 1, by omega⟩
      unfold P_X3_findNeeds_j42
      rw [show (16 : Int32) = nI 16 from rfl, if_neg (nI_ge (by omega) (by decide))]
      obtain ⟨σ2, a1, a2, a3⟩ := inner v (WN g E v) (P_X3_findNeeds_j42 fu) (by omega) 16 0 σ1 FU (by decide) (by decide) (fun k hk j hj => by rw [if_neg (by omega)]; exact h3 k hk j hj) h4
      rw [show P_X3_findNeeds_j50 (P_X3_findNeeds_j42 fu) FU (nI v) 0 σ1 = _ from a1]
      exact ih (v + 1) σ2 fu (by omega) (by omega) a2 a3
  have init : ∀ (m i : Nat) (σ1 : SS) (fu : Nat), i + m = 16 → m < fu → (∀ k, k < i → ∀ j, j < 32 → bt (sA σ1 7 k) j = dn g E k j) → Fr [] [7] [] σ σ1 → ∃ σ', P_X3_findNeeds_j2 fu (nI i) σ1 = P_X3_findNeeds_j42 FU (nI 0) σ' ∧ NX (WN g E 0) σ' ∧ Fr [] [7] [] σ σ' := by
    intro m
    induction m with
    | zero =>
      intro i σ1 fu h1 h2 h3 h4
      obtain ⟨fu, rfl⟩ : ∃ k, fu = k + 1 := ⟨fu - 1, by omega⟩
      have e : i = 16 := by omega
      subst e
      refine ⟨σ1, ?_, h3, h4⟩
      unfold P_X3_findNeeds_j2
      rw [if_pos (by decide)]
      rfl
    | succ m ih =>
      intro i σ1 fu h1 h2 h3 h4
      obtain ⟨fu, rfl⟩ : ∃ k, fu = k + 1 := ⟨fu - 1, by omega⟩
      have hi : i < 16 := by omega
      have hg1 : gX' g σ1 := h4.gX hg (by decide) (by decide) (by decide) (by decide)
      have hE1 : EX E σ1 := hE.out (h4.1 7 (by decide))
      have fin : ∀ v : Int32, (∀ j, j < 32 → bt v j = dn g E i j) → ∃ σ', P_X3_findNeeds_j33 (P_X3_findNeeds_j2 fu) (nI i) v (nI i) σ1 = P_X3_findNeeds_j42 FU (nI 0) σ' ∧ NX (WN g E 0) σ' ∧ Fr [] [7] [] σ σ' := by
        intro v hv
        unfold P_X3_findNeeds_j33
        rw [gI_nI hi (by decide), nI_1]
        refine ih (i + 1) _ fu (by omega) (by omega) (fun k hk j hj => ?_) (h4.tr (Fr.stA (by decide)))
        rw [sA_stN (by omega), upd_at]
        by_cases e : k = i
        · rw [if_pos e, e]; exact hv j hj
        · rw [if_neg e]; exact h3 k (by omega) j hj
      unfold P_X3_findNeeds_j2
      rw [show (16 : Int32) = nI 16 from rfl, if_neg (nI_ge hi (by decide))]
      have hh := x_has hg1 hl16 (nI i)
      rw [nI_toInt (by omega)] at hh
      by_cases hk : i < g.length
      · rw [hh.1 (by omega), Option.bind_some, if_neg (by decide)]
        obtain ⟨v, a1, a2⟩ := x_direct hg1 hd hE1 hk
        rw [a1, Option.bind_some]
        exact fin v a2
      · rw [hh.2 (by omega), Option.bind_some, if_pos rfl]
        refine fin 0 (fun j hj => ?_)
        rw [b_0]
        unfold dn
        simp [hk]
  obtain ⟨σ1, a1, a2, a3⟩ := init 16 0 σ FU (by decide) (by decide) (fun k hk => absurd hk (by omega)) Fr.rf
  obtain ⟨σ2, b1, b2, b3⟩ := outer 16 0 σ1 FU (by decide) (by decide) a2 a3
  refine ⟨σ2, ?_, ?_, b3⟩
  · unfold P_X3_findNeeds
    rw [show (0 : Int32) = nI 0 from rfl, a1, b1]
  · have e := WN_stay (E := E) hl (16 - g.length)
    rw [show g.length + (16 - g.length) = 16 by omega] at e
    rw [← e]
    exact b2
