/-! letters, read on both sides -/
theorem orb {u l : Nat} (hl : l < 32) : nI u ||| ((1 : Int32) <<< (nI l &&& 31)) = nI (u ||| 2 ^ l) := by
  apply b_ext
  intro i hi
  rw [bt_set (nI u) hl hi, bt_nI u hi, bt_nI (u ||| 2 ^ l) hi, Nat.testBit_or, Nat.testBit_two_pow, Bool.or_comm]
  congr 1
  exact decide_eq_decide.mpr ⟨fun h => h.symm, fun h => h.symm⟩
theorem or_256 {u l : Nat} (hu : u < 256) (hl : l < 8) : u ||| 2 ^ l < 256 := by
  have h2 : 2 ^ l < 2 ^ 8 := Nat.pow_lt_pow_right (by decide) hl
  exact Nat.or_lt_two_pow (n := 8) hu h2
theorem bc_or {u l : Nat} (hu : u < 256) (hl : l < 8) (hb : u.testBit l = false) : bc (u ||| 2 ^ l) = bc u + 1 := by
  have h := or_256 hu hl
  rw [bc_pop (by omega), bc_pop (by omega), ← cE_set (E := fun j => u.testBit j) hb 16 (by omega)]
  apply cE_congr
  intro j hj
  unfold setB
  show (u ||| 2 ^ l).testBit j = (decide (j = l) || u.testBit j)
  rw [Nat.testBit_or, Nat.testBit_two_pow, Bool.or_comm]
  congr 1
  exact decide_eq_decide.mpr ⟨fun h => h.symm, fun h => h.symm⟩
theorem bc_0 : bc 0 = 0 := by decide
theorem sub97 : ∀ v, v < 97 → nI v - 97 < 0 := by decide +kernel
theorem sub97i : ∀ v, v < 256 → (nI v - 97).toInt = (v : Int) - 97 := by decide +kernel
def LU (tp : Nat → Nat) (p0 : Nat) : Nat → Nat
  | 0 => 0
  | i + 1 => LU tp p0 i ||| 2 ^ (tp (p0 + i) - 97)
def LNm (tp : Nat → Nat) (p0 many : Nat) : Nat → Nat
  | 0 => 0
  | i + 1 => LNm tp p0 many i + uc (fun j => (LU tp p0 i).testBit j) (tp (p0 + i) - 97) 0 * fct (many - 1 - i)
def LOK (tp : Nat → Nat) (p0 many m : Nat) : Prop := ∀ i, i < m → 97 ≤ tp (p0 + i) ∧ tp (p0 + i) - 97 < many
theorem ChP.set {i u u' N : Nat} {ch : Ch} {σ : SS} (hN : N ≤ 300) (h : ChP ((i, u) :: ch) N σ) : ChP ((i, u') :: ch) N (stA σ 16 (nI i) (nI u')) := by
  have hi := h.1
  have e16 : sA (stA σ 16 (nI i) (nI u')) 16 = upd (sA σ 16) i (nI u') := sA_stN (by omega)
  refine ⟨hi, by rw [e16, upd_at, if_pos rfl], h.2.2.1, h.2.2.2.frame (fun j hj => by rw [e16, upd_at, if_neg (by omega)]) (fun _ _ => rfl)⟩
/-- the class takes a letter -/
theorem c_letter {g : List N3} {tp : Nat → Nat} {n rt : Nat} {σx0 σm0 : SS} (C : PC g tp n rt σx0 σm0) {F : TB} {N p i u : Nat} {ch : Ch} {run : Option SS} (H : PSx g σx0 F N p ((i, u) :: ch) run) (hp : p ≤ n) (k8 : kd g (F 0 i) = 8) (hu : u < 256) : (p < n ∧ 97 ≤ tp p ∧ tp p - 97 < fa g (F 0 i) ∧ u.testBit (tp p - 97) = false ∧ PSx g σx0 F N (p + 1) (if bc u + 1 = fa g (F 0 i) then cl (kN g (F 0)) ch else (i, u ||| 2 ^ (tp p - 97)) :: ch) run) ∨ (¬ (p < n ∧ 97 ≤ tp p ∧ tp p - 97 < fa g (F 0 i) ∧ u.testBit (tp p - 97) = false) ∧ BDx σx0 run p) := by
  have C' := C
  obtain ⟨hd, hl, hgx, -, hn, e19, -, htp, e12⟩ := C
  obtain ⟨σx, f, hX, ht, hc, hs⟩ := H
  have hg : gX' g σx := f.gX hgx (by decide) (by decide) (by decide) (by decide)
  have e19' : sI σx 19 = nI n := (f.1 19 (by decide)).trans e19
  have hi := hc.1
  have h300 := hX.2.1
  obtain ⟨q1, q2⟩ := x_nodeKind hg hd hX.2.2.1 hi h300
  have hy := (hX.2.2.1 i hi).2
  have h16 : F 0 i < 16 := Nat.lt_of_lt_of_le hy hd.1
  have ok := gd_at hd hy
  have h8 : fa g (F 0 i) ≤ 8 := by unfold okI at ok; omega
  have g1 := (gX_at hg hy).2.1
  by_cases z : p < n
  · have e19a : sA σx 19 p = nI (tp p) := by rw [f.2.1 19 (by decide)]; exact (htp p z).1
    have t256 := (htp p z).2.2
    rw [sc_step e19' hn z, e19a] at hs
    have tk : ∀ r σ', P_X5_takesLetter (nI (fa g (F 0 i))) (nI (tp p)) σx = some (r, σ') → r = 0 ∨ r = 1 → P_X5_takes (nI (tp p)) (nI p) σx = some (r, σ') := by
      intro r σ' h hr
      unfold P_X5_takes
      rw [ht, top_cons, if_pos (x_neg1 (by omega)), q1, Option.bind_some, q2, Option.bind_some]
      unfold kN
      rw [k8, if_neg (show ¬ nI 8 = 2 by decide), if_neg (show ¬ nI 8 = 3 by decide), if_neg (show ¬ nI 8 = 4 by decide), if_neg (show ¬ nI 8 = 5 by decide), if_neg (show ¬ nI 8 = 6 by decide), if_neg (show ¬ nI 8 = 7 by decide), if_pos (show nI 8 = 8 from rfl), x_a h16, Option.bind_some, g1, h, b2_some, gZ_of hr]
    have no : P_X5_takesLetter (nI (fa g (F 0 i))) (nI (tp p)) σx = some (0, σx) → BDx σx0 run p := by
      intro h
      rw [tk 0 σx h (Or.inl rfl), b2_some, if_pos rfl] at hs
      exact c_bad C' f hp (Or.inl z) hs.symm
    have hL : P_X5_takesLetter (nI (fa g (F 0 i))) (nI (tp p)) σx = if nI (tp p) - 97 < 0 then some (0, σx) else if nI (fa g (F 0 i)) ≤ nI (tp p) - 97 then some (0, σx) else if ((nI u >>> ((nI (tp p) - 97) &&& 31)) &&& 1) = 0 then (P_X6_set_30 (nI i) (nI u ||| ((1 : Int32) <<< ((nI (tp p) - 97) &&& 31))) σx).bind fun σ7 => (P_J6_bitCount_0f7a4 (nI u ||| ((1 : Int32) <<< ((nI (tp p) - 97) &&& 31)))).bind fun v9 => if ¬ v9 = nI (fa g (F 0 i)) then some (1, σ7) else (P_X5_finish (sI σ7 11) σ7).bind fun σ12 => some (1, σ12) else some (0, σx) := by
      unfold P_X5_takesLetter
      rw [ht, top_cons, vX6_at_30 (by omega), Option.bind_some, hc.2.1]
    by_cases a : 97 ≤ tp p
    · rw [show nI (tp p) - 97 = nI (tp p - 97) from nI_sub a, if_neg (nI_pos (by omega))] at hL
      by_cases b : tp p - 97 < fa g (F 0 i)
      · rw [if_neg (nI_ge b (by omega)), sh1 _ (by omega), bt_nI u (by omega)] at hL
        cases tb : u.testBit (tp p - 97) with
        | false =>
          have h256 := or_256 hu (show tp p - 97 < 8 by omega)
          rw [tb, b2i_f, if_pos rfl, orb (by omega), vX6_set_30 (by omega), Option.bind_some, bc_nI (by omega), Option.bind_some, bc_or hu (by omega) tb] at hL
          have hc' := ChP.set (u' := u ||| 2 ^ (tp p - 97)) h300 hc
          have f2 : FXr σx0 (stA σx 16 (nI i) (nI (u ||| 2 ^ (tp p - 97)))) := f.tr (Fr.stA (by decide))
          have hX2 : XN g (F 0) (F 1) (F 2) N (stA σx 16 (nI i) (nI (u ||| 2 ^ (tp p - 97)))) := hX.frame (Fr.stA (by decide))
          refine Or.inl ⟨z, a, b, rfl, ?_⟩
          have hb17 : bc u ≤ 16 := by rw [bc_pop (by omega)]; exact cE_le _ _
          by_cases e : bc u + 1 = fa g (F 0 i)
          · have ht2 : sI (stA σx 16 (nI i) (nI (u ||| 2 ^ (tp p - 97)))) 11 = nI i := ht
            rw [if_neg (fun w => w (by rw [e])), ht2, x_fin (f2.gX hgx (by decide) (by decide) (by decide) (by decide)) hd h300 hc' hX2.2.2.1, Option.bind_some] at hL
            rw [tk _ _ hL (Or.inr rfl), b2_some, if_neg (by decide)] at hs
            rw [if_pos e]
            exact ⟨_, f2.tr ((finS_fr _ _).mono (by decide) (by decide) (by decide)), hX2.frame (finS_fr _ _), finS_top _ _, (cl_ok (by omega) hc'.2.2.2).up (by omega), hs⟩
          · rw [if_pos (show ¬ nI (bc u + 1) = nI (fa g (F 0 i)) from fun w => e ((nI_eq (by omega) (by omega)).mp w))] at hL
            rw [tk _ _ hL (Or.inr rfl), b2_some, if_neg (by decide)] at hs
            rw [if_neg e]
            exact ⟨_, f2, hX2, ht, hc', hs⟩
        | true =>
          rw [tb, b2i_t, if_neg (by decide)] at hL
          exact Or.inr ⟨fun w => absurd w.2.2.2 (by decide), no hL⟩
      · rw [if_pos (nI_le (by omega) (by omega))] at hL
        exact Or.inr ⟨fun w => b w.2.2.1, no hL⟩
    · rw [if_pos (sub97 _ (by omega))] at hL
      exact Or.inr ⟨fun w => a w.2.1, no hL⟩
  · rw [sc_end e19' (by omega) (by omega)] at hs
    exact Or.inr ⟨fun w => z w.1, c_bad C' f hp (Or.inr (Or.inr (by rw [ht, top_cons]; exact x_neg1 (by omega)))) hs.symm⟩
/-- the reference counts the letters below that are not used -/
theorem m_let77 (K14 : Int32 → Int32 → Int32 → Int64 → Int32 → SS → Option SS) {x1 : Int32} {many u num i l : Nat} {σ : SS} (hm : many ≤ 8) (hi : i < many) (hl : l < 8) : ∀ (d k a fu : Nat), k + d = l → d < fu → a + d < 100 → P_X11_letters_j77 K14 fu x1 (nI many) (nI u) (lN num) (nI i) (nI l) (nI a) (nI k) σ = K14 x1 (nI many) (nI (u ||| 2 ^ l)) (lN (num + (a + uc (fun j => u.testBit j) d k) * fct (many - 1 - i))) (nI (i + 1)) (uI σ 7 (sI σ 7 + 1)) := by
  intro d
  induction d with
  | zero =>
    intro k a fu h1 h2 h3
    obtain ⟨fu, rfl⟩ : ∃ k, fu = k + 1 := ⟨fu - 1, by omega⟩
    have e : k = l := by omega
    subst e
    rw [P_X11_letters_j77, if_pos (nI_le (Nat.le_refl _) (by omega)), show nI many - 1 = nI (many - 1) from nI_sub (b := 1) (by omega), nI_sub (by omega), m_fact (by omega), Option.bind_some]
    unfold P_X11_letters_j144
    rw [orb (by omega), nI_l (by omega), lN_mul, lN_add, nI_1]
    rfl
  | succ d ih =>
    intro k a fu h1 h2 h3
    obtain ⟨fu, rfl⟩ : ∃ k, fu = k + 1 := ⟨fu - 1, by omega⟩
    rw [P_X11_letters_j77, if_neg (nI_ge (by omega) (by omega)), sh1 _ (by omega), bt_nI u (by omega)]
    unfold P_X11_letters_j100
    cases tb : u.testBit k with
    | false =>
      rw [b2i_f, in0, nI_1, nI_1, ih (k + 1) (a + 1) fu (by omega) (by omega) (by omega)]
      have : uc (fun j => u.testBit j) (d + 1) k = 1 + uc (fun j => u.testBit j) d (k + 1) := by
        rw [uc, tb]; rfl
      rw [this, Nat.add_assoc]
    | true =>
      rw [b2i_t, in1, Int32.add_zero, nI_1, ih (k + 1) a fu (by omega) (by omega) (by omega)]
      have : uc (fun j => u.testBit j) (d + 1) k = uc (fun j => u.testBit j) d (k + 1) := by
        rw [uc, tb, if_pos rfl, Nat.zero_add]
      rw [this]
theorem m_let_end {fu : Nat} {x1 : Nat} {x2 x3 x6 : Int32} {x4 : Int64} {σ : SS} (h1 : x1 < 310) (h : x2 ≤ x6 ∨ 0 ≤ sI σ 8) : P_X11_letters_j14 (fu + 1) (nI x1) x2 x3 x4 x6 σ = some (stA (stL σ 2 (nI x1) x4) 12 (nI x1) x2) := by
  have e : P_X11_letters_j150 (nI x1) x2 x4 σ = some (stA (stL σ 2 (nI x1) x4) 12 (nI x1) x2) := by
    unfold P_X11_letters_j150
    rw [gI_nI h1 (by decide), gI_nI h1 (by decide)]
  rw [P_X11_letters_j14, e]
  by_cases z : x2 ≤ x6
  · rw [if_pos z]
  · rw [if_neg z, if_pos (h.resolve_left z)]
/-- one letter on the reference's side -/
theorem m_let_step {g : List N3} {tp : Nat → Nat} {n rt : Nat} {σx0 σm0 : SS} (C : PC g tp n rt σx0 σm0) {x1 many u num i p fu : Nat} {σ : SS} (f : FMr σm0 σ) (h7 : sI σ 7 = nI p) (h8 : sI σ 8 = -1) (hm : many ≤ 8) (hi : i < many) (hp : p ≤ n) (h1 : x1 < 310) : ((p < n ∧ 97 ≤ tp p ∧ tp p - 97 < many ∧ u.testBit (tp p - 97) = false) → P_X11_letters_j14 (fu + 1) (nI x1) (nI many) (nI u) (lN num) (nI i) σ = P_X11_letters_j14 fu (nI x1) (nI many) (nI (u ||| 2 ^ (tp p - 97))) (lN (num + uc (fun j => u.testBit j) (tp p - 97) 0 * fct (many - 1 - i))) (nI (i + 1)) (uI σ 7 (nI (p + 1)))) ∧ (¬ (p < n ∧ 97 ≤ tp p ∧ tp p - 97 < many ∧ u.testBit (tp p - 97) = false) → P_X11_letters_j14 (fu + 2) (nI x1) (nI many) (nI u) (lN num) (nI i) σ = some (stA (stL (uI σ 8 (nI p)) 2 (nI x1) (lN num)) 12 (nI x1) (nI many))) := by
  obtain ⟨hd, hl, -, hgm, hn, -, e3, htp, -⟩ := C
  have hh := m_here ((f.1 3 (by decide)).trans e3) h7 hn (by omega)
  have hM : (nI many - 1).toInt64.toInt = (many : Int) - 1 := by
    rw [show nI many - 1 = nI (many - 1) from nI_sub (b := 1) (by omega), nI_l (by omega), lN_toInt (by omega)]
    omega
  have badE : ∀ fu, P_X11_letters_j60 (P_X11_letters_j14 (fu + 1)) (nI x1) (nI many) (nI u) (lN num) (nI i) σ = some (stA (stL (uI σ 8 (nI p)) 2 (nI x1) (lN num)) 12 (nI x1) (nI many)) := by
    intro fu
    unfold P_X11_letters_j60 P_X11_letters_j144
    rw [h7]
    exact m_let_end h1 (Or.inr (nI_pos' (by omega)))
  constructor
  · rintro ⟨a1, a2, a3, a4⟩
    have t256 := (htp p a1).2.2
    rw [if_pos a1, f.2.1 4 (by decide), (htp p a1).2.1] at hh
    rw [P_X11_letters_j14, if_neg (nI_ge hi (by omega)), h8, if_neg (by decide), hh, Option.bind_some]
    rcases isIn_c (nI (tp p) - 97).toInt64 0 (nI many - 1).toInt64 with ⟨q, -, -⟩ | ⟨q, q2⟩
    · rw [q, Option.bind_some, if_neg (by decide), show nI (tp p) - 97 = nI (tp p - 97) from nI_sub a2, sh1 _ (by omega), bt_nI u (by omega), a4, b2i_f, if_pos (by decide)]
      have := m_let77 (P_X11_letters_j14 fu) (x1 := nI x1) (u := u) (num := num) (σ := σ) hm hi (show tp p - 97 < 8 by omega) (tp p - 97) 0 0 FU (by omega) (by unfold FU; omega) (by omega)
      rw [Nat.zero_add, h7, nI_1] at this
      exact this
    · exfalso
      apply q2
      rw [Int32.toInt_toInt64, sub97i _ t256, hM, w0]
      omega
  · intro hb
    rw [P_X11_letters_j14, if_neg (nI_ge hi (by omega)), h8, if_neg (by decide), hh, Option.bind_some]
    by_cases a1 : p < n
    · have t256 := (htp p a1).2.2
      rw [if_pos a1, f.2.1 4 (by decide), (htp p a1).2.1]
      rcases isIn_c (nI (tp p) - 97).toInt64 0 (nI many - 1).toInt64 with ⟨q, q1, q2⟩ | ⟨q, q2⟩
      · rw [Int32.toInt_toInt64, sub97i _ t256, w0] at q1
        rw [Int32.toInt_toInt64, sub97i _ t256, hM] at q2
        have a4 : u.testBit (tp p - 97) = true := by
          cases tb : u.testBit (tp p - 97) with
          | true => rfl
          | false => exact absurd ⟨a1, by omega, by omega, tb⟩ hb
        rw [q, Option.bind_some, if_neg (by decide), show nI (tp p) - 97 = nI (tp p - 97) from nI_sub (b := 97) (by omega), sh1 _ (by omega), bt_nI u (by omega), a4, b2i_t, if_neg (fun w => w rfl), badE]
      · rw [q, Option.bind_some, if_pos rfl, badE]
    · rw [if_neg a1]
      have : P_X11_isIn ((-1 : Int32) - 97).toInt64 0 (nI many - 1).toInt64 = some 0 := by
        rcases isIn_c ((-1 : Int32) - 97).toInt64 0 (nI many - 1).toInt64 with ⟨q, q1, q2⟩ | ⟨q, q2⟩
        · rw [w0] at q1
          exact absurd q1 (by decide)
        · exact q
      rw [this, Option.bind_some, if_pos rfl, badE]
