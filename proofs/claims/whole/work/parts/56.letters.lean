/-! the letters of an order -/
theorem sh1 (x : Int32) {p : Nat} (hp : p < 32) : (x >>> (nI p &&& 31)) &&& 1 = b2i (bt x p) := by
  apply b_ext
  intro i hi
  rw [b_and, b_sshr p hp x hi, bt1 i hi]
  by_cases e : i = 0
  · subst e
    simp [hp]
    cases bt x p <;> rfl
  · have : bt (b2i (bt x p)) i = false := by
      cases bt x p
      · exact b_0 i
      · rw [b2i_t, bt1 i hi]; simp [e]
    rw [this]
    simp [e]
def uc (E : Nat → Bool) : Nat → Nat → Nat
  | 0, _ => 0
  | d + 1, p => (if E p = true then 0 else 1) + uc E d (p + 1)
theorem uc_set {E : Nat → Bool} {j : Nat} (hE : E j = false) : ∀ (d p : Nat), p ≤ j → j < p + d → uc (setB E j) d p + 1 = uc E d p
  | 0, p, h1, h2 => by omega
  | d + 1, p, h1, h2 => by
    rw [uc, uc]
    by_cases e : p = j
    · subst e
      have h3 : ∀ d q, p < q → uc (setB E p) d q = uc E d q := by
        intro d
        induction d with
        | zero => intro q _; rfl
        | succ d ih =>
          intro q hq
          rw [uc, uc, ih (q + 1) (by omega), show setB E p q = E q by unfold setB; simp [show ¬ q = p by omega]]
      rw [h3 d (p + 1) (by omega), hE, show setB E p p = true by unfold setB; simp, if_pos rfl, if_neg (show ¬ false = true by decide)]
      omega
    · have := uc_set hE d (p + 1) (by omega) (by omega)
      rw [show setB E j p = E p by unfold setB; simp [show ¬ p = j by omega]]
      omega
theorem x_unused {E : Nat → Bool} {U : Int32} (hU : ∀ j, j < 32 → bt U j = E j) {n : Nat} (hn : n ≤ 8) : ∀ (d p q fu : Nat), p + d = n → d < fu → q < uc E d p → ∃ j, p ≤ j ∧ j < n ∧ E j = false ∧ P_X9_unusedLetter_j5 fu U (lN q) (nI p) = some (nI j) ∧ ∀ (K17 : Int64 → Int32 → Int32 → SS → Option SS) (x4 : Int64) (x7 : Int32) (σ : SS), P_X11_lettersOf_j47 K17 fu x4 U x7 (nI q) (nI p) σ = (P_X11_write (97 + nI j) σ).bind fun σ4 => K17 x4 (U ||| ((1 : Int32) <<< (nI j &&& 31))) (x7 + (-1)) σ4 := by
  intro d
  induction d with
  | zero =>
    intro p q fu h1 h2 h3
    rw [uc] at h3
    omega
  | succ d ih =>
    intro p q fu h1 h2 h3
    obtain ⟨fu, rfl⟩ : ∃ k, fu = k + 1 := ⟨fu - 1, by omega⟩
    rw [uc] at h3
    have hq : q < 2 ^ 31 := by
      have : ∀ d p, uc E d p ≤ d := by
        intro d
        induction d with
        | zero => intro p; exact Nat.le_refl _
        | succ d ih => intro p; rw [uc]; have := ih (p + 1); split <;> omega
      have := this d (p + 1)
      split at h3 <;> omega
    have hs := sh1 U (show p < 32 by omega)
    rw [hU p (by omega)] at hs
    simp only [P_X9_unusedLetter_j5, P_X11_lettersOf_j47, P_X9_unusedLetter_j34, P_X11_lettersOf_j63, P_X11_lettersOf_j81, hs]
    rw [show (8 : Int32) = nI 8 from rfl, if_neg (nI_ge (show p < 8 by omega) (by decide)), nI_1]
    cases hE : E p with
    | true =>
      rw [hE, if_pos rfl, Nat.zero_add] at h3
      obtain ⟨j, j1, j2, j3, j4, j5⟩ := ih (p + 1) q fu (by omega) (by omega) h3
      refine ⟨j, by omega, j2, j3, ?_, fun K17 x4 x7 σ => ?_⟩
      · rw [b2i_t, if_pos (by decide)]
        exact j4
      · have := j5 K17 x4 x7 σ
        simp only [b2i_t, show ¬ (¬ (1 : Int32) = 1) from fun z => z rfl, if_false, Int32.sub_zero, this]
        split <;> rfl
    | false =>
      rw [hE, if_neg (by decide)] at h3
      by_cases q0 : q = 0
      · subst q0
        refine ⟨p, Nat.le_refl _, by omega, hE, ?_, fun K17 x4 x7 σ => ?_⟩
        · rw [b2i_f, if_neg (fun z => z rfl), if_neg (fun z => z rfl)]
        · rw [b2i_f, if_neg (by decide), if_pos (by decide)]
      · obtain ⟨j, j1, j2, j3, j4, j5⟩ := ih (p + 1) (q - 1) fu (by omega) (by omega) (by omega)
        refine ⟨j, by omega, j2, j3, ?_, fun K17 x4 x7 σ => ?_⟩
        · rw [b2i_f, if_neg (fun z => z rfl), if_pos (show ¬ lN q = 0 from fun z => q0 ((lN_inj (b := 0) (by omega) (by omega)).mp z)), show lN q - 1 = lN (q - 1) from lN_sub (b := 1) (by omega)]
          exact j4
        · rw [if_pos (show (0 : Int32) < nI q from nI_lt (a := 0) (by omega) hq), b2i_f, if_pos (by decide), show nI q - 1 = nI (q - 1) from nI_sub (b := 1) (by omega)]
          exact j5 K17 x4 x7 σ
theorem fct_pos : ∀ n, 0 < fct n
  | 0 => by decide
  | n + 1 => by rw [fct]; exact Nat.mul_pos (by omega) (fct_pos n)
theorem lN_32 (q : Nat) : (lN q).toInt32 = nI q := by
  apply Int32.toBitVec_inj.mp
  show (BitVec.ofNat 64 q).signExtend 32 = BitVec.ofNat 32 q
  rw [BitVec.signExtend_eq_setWidth_of_le _ (by decide), BitVec.setWidth_ofNat_of_le (by decide)]
/-- the next letter, on both sides -/
theorem let_step {E : Nat → Bool} {U : Int32} (hU : ∀ j, j < 32 → bt U j = E j) {n i r : Nat} (hn : n ≤ 8) (hi : i < n) (hr : r < fct (i + 1)) (hc : uc E n 0 = i + 1) : ∃ j, j < n ∧ E j = false ∧ r % fct i < fct i ∧ (∀ (fu : Nat) (σ : SS), P_X11_lettersOf_j17 (fu + 1) (lN r) U (nI i) σ = (P_X11_write (nI (97 + j)) σ).bind fun σ4 => P_X11_lettersOf_j17 fu (lN (r % fct i)) (U ||| ((1 : Int32) <<< (nI j &&& 31))) (nI i + (-1)) σ4) ∧ ∀ (fu : Nat) (σ : SS), P_X9_addLetters_j11 (fu + 1) (lN r) U (nI i) σ = b2 (P_X0_add_10 (nI (97 + j)) σ) fun v4 σ5 => if ¬ v4 = 0 then P_X9_addLetters_j11 fu (lN (r % fct i)) (U ||| ((1 : Int32) <<< (nI j &&& 31))) (nI i + (-1)) σ5 else some (0, σ5) := by
  have hf0 := fct_pos i
  have hfL := fct_le i (by omega)
  have hfL1 := fct_le (i + 1) (by omega)
  have hL := LIM_lt
  have hq : r / fct i < i + 1 := (Nat.div_lt_iff_lt_mul hf0).mpr (by rw [fct] at hr; exact hr)
  obtain ⟨j, -, j2, j3, j4, j5⟩ := x_unused hU hn n 0 (r / fct i) FU (by omega) (by unfold FU; omega) (by omega)
  have nz : ¬ lN (fct i) = 0 := fun w => by have := (lN_inj (b := 0) (by omega) (by omega)).mp w; omega
  have hmod : lN r - lN (r / fct i) * lN (fct i) = lN (r % fct i) := by
    rw [← lN_div (by omega) (by omega)]
    exact lN_mod (by omega) (by omega)
  refine ⟨j, j2, j3, Nat.mod_lt _ hf0, fun fu σ => ?_, fun fu σ => ?_⟩
  · rw [P_X11_lettersOf_j17, if_neg (nI_pos (by omega)), m_fact (by omega), Option.bind_some, gN_of nz, gN_of nz, lN_div (by omega) (by omega), hmod, lN_32, show (0 : Int32) = nI 0 from rfl, j5, show (97 : Int32) + nI j = nI (97 + j) from nI_add 97 j]
  · rw [P_X9_addLetters_j11, if_neg (nI_pos (by omega)), x_orders (by omega), Option.bind_some, if_neg (fun w => by have := (lN_leB (b := 0) (by omega) (by omega)).mp w; omega), gN_of nz, lN_div (by omega) (by omega)]
    unfold P_X9_addLetters_j39 P_X9_unusedLetter
    rw [show (0 : Int32) = nI 0 from rfl, j4, Option.bind_some, show (97 : Int32) + nI j = nI (97 + j) from nI_add 97 j, hmod]
theorem setB_bt {E : Nat → Bool} {U : Int32} (hU : ∀ j, j < 32 → bt U j = E j) {j : Nat} (hj : j < 32) : ∀ i, i < 32 → bt (U ||| ((1 : Int32) <<< (nI j &&& 31))) i = setB E j i := by
  intro i hi
  rw [bt_set U hj hi, hU i hi]
  rfl
theorem down1 (i : Nat) : nI (i + 1) + (-1) = nI i := by
  have := i_add1 (n := i)
  rw [Int32.sub_eq_add_neg] at this
  exact this
theorem down0 : nI 0 + (-1) = -1 := by decide
theorem lettersM {n : Nat} (hn : n ≤ 8) : ∀ (i r k : Nat) (E : Nat → Bool) (U : Int32) (σ : SS) (fu : Nat), i ≤ n → (∀ j, j < 32 → bt U j = E j) → uc E n 0 = i → r < fct i → i < fu → sI σ 5 = nI k → 300 < k → k + i < 2000 → ∃ σ', P_X11_lettersOf_j17 fu (lN r) U (nI i + (-1)) σ = some σ' ∧ Fr [5] [9] [] σ σ' ∧ sI σ' 5 = nI (k + i) := by
  intro i
  induction i with
  | zero =>
    intro r k E U σ fu h1 h2 h3 h4 h5 h6 h7 h8
    obtain ⟨fu, rfl⟩ : ∃ k, fu = k + 1 := ⟨fu - 1, by omega⟩
    rw [P_X11_lettersOf_j17, if_pos (by decide)]
    exact ⟨σ, rfl, Fr.rf, h6⟩
  | succ i ih =>
    intro r k E U σ fu h1 h2 h3 h4 h5 h6 h7 h8
    obtain ⟨fu, rfl⟩ : ∃ k, fu = k + 1 := ⟨fu - 1, by omega⟩
    obtain ⟨j, j1, j2, j3, j4, -⟩ := let_step h2 hn (show i < n by omega) h4 h3
    obtain ⟨σ1, p1, p2, p3⟩ := wr_over (v := nI (97 + j)) h6 h7 (by omega)
    rw [down1, j4, p1, Option.bind_some]
    obtain ⟨σ2, q1, q2, q3⟩ := ih (r % fct i) (k + 1) (setB E j) _ σ1 fu (by omega) (setB_bt h2 (by omega)) (by have := uc_set j2 n 0 (by omega) (by omega); omega) j3 (by omega) p3 (by omega) (by omega)
    exact ⟨σ2, q1, p2.tr q2, by rw [q3]; congr 1; omega⟩
/-- the draft's length -/
def DR (σ : SS) : Prop := ∃ n, n ≤ 300 ∧ sI σ 21 = nI n
theorem lettersB {n : Nat} (hn : n ≤ 8) : ∀ (i r k : Nat) (E : Nat → Bool) (U : Int32) (σx σ : SS) (fu : Nat), i ≤ n → (∀ j, j < 32 → bt U j = E j) → uc E n 0 = i → r < fct i → i < fu → Sb 21 21 5 9 k σx σ → ∃ σ', P_X11_lettersOf_j17 fu (lN r) U (nI i + (-1)) σ = some σ' ∧ Fr [5] [9] [] σ σ' ∧ sI σ' 5 = nI (k + i) ∧ ∃ σx', Fr [21] [21] [] σx σx' ∧ ((k + i ≤ 300 ∧ P_X9_addLetters_j11 fu (lN r) U (nI i + (-1)) σx = some (1, σx') ∧ Sb 21 21 5 9 (k + i) σx' σ') ∨ (300 < k + i ∧ DR σx' ∧ P_X9_addLetters_j11 fu (lN r) U (nI i + (-1)) σx = some (0, σx'))) := by
  intro i
  induction i with
  | zero =>
    intro r k E U σx σ fu h1 h2 h3 h4 h5 h6
    obtain ⟨fu, rfl⟩ : ∃ k, fu = k + 1 := ⟨fu - 1, by omega⟩
    rw [P_X11_lettersOf_j17, P_X9_addLetters_j11, if_pos (by decide), if_pos (by decide)]
    exact ⟨σ, rfl, Fr.rf, h6.2.2.1, σx, Fr.rf, Or.inl ⟨h6.1, rfl, h6⟩⟩
  | succ i ih =>
    intro r k E U σx σ fu h1 h2 h3 h4 h5 h6
    obtain ⟨fu, rfl⟩ : ∃ k, fu = k + 1 := ⟨fu - 1, by omega⟩
    obtain ⟨j, j1, j2, j3, j4, j5⟩ := let_step h2 hn (show i < n by omega) h4 h3
    obtain ⟨σ1, p1, p2, p3, p4⟩ := wr (v := nI (97 + j)) h6 ⟨97 + j, by omega, rfl⟩
    rw [down1, j4, j5, p1, Option.bind_some]
    have huc : uc (setB E j) n 0 = i := by have := uc_set j2 n 0 (by omega) (by omega); omega
    rcases p4 with ⟨z, σx1, w1, w2, w3⟩ | ⟨z, w1⟩
    · rw [w1]
      obtain ⟨σ2, q1, q2, q3, σx2, q4, q5⟩ := ih (r % fct i) (k + 1) (setB E j) _ σx1 σ1 fu (by omega) (setB_bt h2 (by omega)) huc j3 (by omega) w3
      rw [show k + 1 + i = k + (i + 1) by omega] at q3 q5
      exact ⟨σ2, q1, p2.tr q2, q3, σx2, w2.tr q4, q5⟩
    · obtain ⟨σ2, q1, q2, q3⟩ := lettersM hn i (r % fct i) (k + 1) (setB E j) _ σ1 fu (by omega) (setB_bt h2 (by omega)) huc j3 (by omega) p3 (by omega) (by omega)
      rw [w1]
      rw [show k + 1 + i = k + (i + 1) by omega] at q3
      exact ⟨σ2, q1, p2.tr q2, q3, σx, Fr.rf, Or.inr ⟨by omega, ⟨k, h6.1, h6.2.1⟩, rfl⟩⟩
