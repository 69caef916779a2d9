def cE (E : Nat → Bool) : Nat → Nat
  | 0 => 0
  | n + 1 => cE E n + (if E n = true then 1 else 0)
theorem cE_le (E : Nat → Bool) : ∀ n, cE E n ≤ n
  | 0 => Nat.le_refl _
  | n + 1 => by
    have := cE_le E n
    unfold cE
    split <;> omega
theorem cE_mono {E E' : Nat → Bool} (h : ∀ j, E j = true → E' j = true) : ∀ n, cE E n ≤ cE E' n
  | 0 => Nat.le_refl _
  | n + 1 => by
    have := cE_mono h n
    unfold cE
    by_cases z : E n = true
    · rw [if_pos z, if_pos (h n z)]; omega
    · rw [if_neg z]; split <;> omega
theorem cE_lt {E E' : Nat → Bool} (h : ∀ j, E j = true → E' j = true) : ∀ n j, j < n → E j = false → E' j = true → cE E n < cE E' n
  | 0, j, hj, _, _ => absurd hj (by omega)
  | n + 1, j, hj, h1, h2 => by
    unfold cE
    by_cases e : j = n
    · subst e
      have := cE_mono h j
      rw [if_neg (by rw [h1]; decide), if_pos h2]
      omega
    · have := cE_lt h n j (by omega) h1 h2
      by_cases z : E n = true
      · rw [if_pos z, if_pos (h n z)]; omega
      · rw [if_neg z]; split <;> omega
theorem pw_out {g : List N3} : ∀ k j, g.length ≤ j → pw g k j = false
  | 0, _, _ => rfl
  | k + 1, j, h => by
    show psF g g.length 0 (pw g k) j = false
    rw [psF_out g _ _ _ j (by omega)]
    exact pw_out k j h
theorem pass_new {g : List N3} {k : Nat} (h : pass g (pw g k) ≠ pw g k) : ∃ j, j < g.length ∧ pw g k j = false ∧ pw g (k + 1) j = true := by
  apply Classical.byContradiction
  intro hn
  apply h
  funext j
  cases hj : pw g k j with
  | true => exact psF_le g _ _ _ j hj
  | false =>
    by_cases hl : j < g.length
    · cases hp : pass g (pw g k) j with
      | false => rfl
      | true => exact absurd ⟨j, hl, hj, hp⟩ hn
    · rw [← hj]
      exact psF_out g _ _ _ j (by omega)
theorem pw_stay {g : List N3} {j : Nat} (h : pass g (pw g j) = pw g j) : ∀ k, pw g (j + k) = pw g j
  | 0 => rfl
  | k + 1 => by
    show pass g (pw g (j + k)) = _
    rw [pw_stay h k, h]
theorem fix16 {g : List N3} (hl : g.length ≤ 16) : pass g (pw g 16) = pw g 16 := by
  have key : ∀ k, (∀ j, j < k → pass g (pw g j) ≠ pw g j) → k ≤ cE (pw g k) 16 := by
    intro k
    induction k with
    | zero => intro _; omega
    | succ k ih =>
      intro h
      have h1 := ih (fun j hj => h j (by omega))
      obtain ⟨j, a, b, c⟩ := pass_new (h k (by omega))
      have := cE_lt (E := pw g k) (E' := pw g (k + 1)) (fun j hj => psF_le g _ _ _ j hj) 16 j (by omega) b c
      omega
  have hex : ∃ j, j < 17 ∧ pass g (pw g j) = pw g j := by
    apply Classical.byContradiction
    intro hn
    have h1 := key 17 (fun j hj z => hn ⟨j, hj, z⟩)
    have h2 := cE_le (pw g 17) 16
    omega
  obtain ⟨j, hj, hf⟩ := hex
  have e := pw_stay hf (16 - j)
  rw [show j + (16 - j) = 16 by omega] at e
  rw [e]
  exact hf
theorem fix_eq {g : List N3} (hl : g.length ≤ 16) {j : Nat} (h : pass g (pw g j) = pw g j) : pw g j = pw g 16 := by
  rcases Nat.le_total j 16 with z | z
  · have e := pw_stay h (16 - j)
    rw [show j + (16 - j) = 16 by omega] at e
    exact e.symm
  · have e := pw_stay (fix16 hl) (j - 16)
    rw [show 16 + (j - 16) = j by omega] at e
    exact e
theorem m_empties {g : List N3} (hd : GdL g) {σ : SS} (hg : gM' g σ) : ∃ σ', P_X11_findNought σ = some σ' ∧ gM' g σ' ∧ EM (pw g 16) σ' ∧ Fr [] [6] [] σ σ' := by
  have hl := hd.1
  have loop : ∀ (d k : Nat) (σ1 : SS) (fu : Nat), 16 - cE (pw g k) 16 ≤ d → d + 1 < fu → gM' g σ1 → EM (pw g k) σ1 → Fr [] [6] [] σ σ1 → ∃ σ', P_X11_findNought_j23 fu 1 σ1 = some σ' ∧ gM' g σ' ∧ EM (pw g 16) σ' ∧ Fr [] [6] [] σ σ' := by
    intro d
    induction d with
    | zero =>
      intro k σ1 fu h1 h2 h3 h4 h5
      obtain ⟨fu, rfl⟩ : ∃ k, fu = k + 2 := ⟨fu - 2, by omega⟩
      unfold P_X11_findNought_j23
      rw [if_neg (by decide)]
      obtain ⟨σ', mo', a1, a2, a3, a4, a5, a6⟩ := m_pass hd (P_X11_findNought_j23 (fu + 1)) σ g.length 0 (pw g k) false σ1 FU (by omega) (by unfold FU; omega) h3 h4 h5
      rw [show P_X11_findNought_j31 (P_X11_findNought_j23 (fu + 1)) FU 0 0 σ1 = _ from a1]
      cases mo' with
      | true =>
        rcases a6 rfl with z | ⟨j, b1, b2, b3⟩
        · cases z
        · have := cE_lt (E := pw g k) (E' := pw g (k + 1)) (fun j hj => psF_le g _ _ _ j hj) 16 j (by omega) b2 b3
          have h6 := cE_le (pw g (k + 1)) 16
          omega
      | false =>
        have e : pass g (pw g k) = pw g k := (a5 rfl).2
        refine ⟨σ', ?_, a2, ?_, a4⟩
        · unfold P_X11_findNought_j23
          rw [if_pos (by decide)]
        · rw [← fix_eq hl e, ← e]
          exact a3
    | succ d ih =>
      intro k σ1 fu h1 h2 h3 h4 h5
      obtain ⟨fu, rfl⟩ : ∃ k, fu = k + 2 := ⟨fu - 2, by omega⟩
      unfold P_X11_findNought_j23
      rw [if_neg (by decide)]
      obtain ⟨σ', mo', a1, a2, a3, a4, a5, a6⟩ := m_pass hd (P_X11_findNought_j23 (fu + 1)) σ g.length 0 (pw g k) false σ1 FU (by omega) (by unfold FU; omega) h3 h4 h5
      rw [show P_X11_findNought_j31 (P_X11_findNought_j23 (fu + 1)) FU 0 0 σ1 = _ from a1]
      cases mo' with
      | true =>
        rcases a6 rfl with z | ⟨j, b1, b2, b3⟩
        · cases z
        · have := cE_lt (E := pw g k) (E' := pw g (k + 1)) (fun j hj => psF_le g _ _ _ j hj) 16 j (by omega) b2 b3
          exact ih (k + 1) σ' (fu + 1) (by omega) (by omega) a2 a3 a4
      | false =>
        have e : pass g (pw g k) = pw g k := (a5 rfl).2
        refine ⟨σ', ?_, a2, ?_, a4⟩
        · unfold P_X11_findNought_j23
          rw [if_pos (by decide)]
        · rw [← fix_eq hl e, ← e]
          exact a3
  have clear : ∀ (m i : Nat) (σ1 : SS) (fu : Nat), i + m = 16 → m < fu → gM' g σ1 → (∀ k, k < i → sA σ1 6 k = 0) → Fr [] [6] [] σ σ1 → ∃ σ', P_X11_findNought_j2 fu (nI i) σ1 = P_X11_findNought_j23 FU 1 σ' ∧ gM' g σ' ∧ (∀ k, k < 16 → sA σ' 6 k = 0) ∧ Fr [] [6] [] σ σ' := by
    intro m
    induction m with
    | zero =>
      intro i σ1 fu h1 h2 h3 h4 h5
      obtain ⟨fu, rfl⟩ : ∃ k, fu = k + 1 := ⟨fu - 1, by omega⟩
      have e : i = 16 := by omega
      subst e
      refine ⟨σ1, ?_, h3, h4, h5⟩
      unfold P_X11_findNought_j2
      rw [if_pos (by decide)]
    | succ m ih =>
      intro i σ1 fu h1 h2 h3 h4 h5
      obtain ⟨fu, rfl⟩ : ∃ k, fu = k + 1 := ⟨fu - 1, by omega⟩
      unfold P_X11_findNought_j2
      rw [show (16 : Int32) = nI 16 from rfl, if_neg (nI_ge (by omega) (by decide)), gI_nI (show i < 16 by omega) (by decide), nI_1]
      refine ih (i + 1) _ fu (by omega) (by omega) ?_ ?_ (h5.tr (Fr.stZ (by decide)))
      · exact (Fr.stZ (I := []) (A := [6]) (L := []) (by decide)).gM h3 (by decide) (by decide) (by decide) (by decide)
      · intro k hk
        rw [sA_szN (by omega) (Or.inl rfl), upd_at]
        by_cases e : k = i
        · rw [if_pos e]
        · rw [if_neg e]; exact h4 k (by omega)
  obtain ⟨σ1, a1, a2, a3, a4⟩ := clear 16 0 σ FU (by decide) (by decide) hg (fun k hk => absurd hk (by omega)) Fr.rf
  have e0 : P_X11_findNought σ = P_X11_findNought_j23 FU 1 σ1 := a1
  rw [e0]
  exact loop 16 0 σ1 FU (by omega) (by decide) a2 ⟨fun k hk => a3 k hk, fun _ _ => rfl⟩ a4
