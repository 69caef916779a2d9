/-! the class's open nodes -/
abbrev Ch : Type := List (Nat × Nat)
def top : Ch → Int32
  | [] => -1
  | (i, _) :: _ => nI i
def ChP : Ch → Nat → SS → Prop
  | [], _, _ => True
  | (i, k) :: r, N, σ => i < N ∧ sA σ 16 i = nI k ∧ (0 < i → sA σ 13 i = top r) ∧ ChP r i σ
theorem ChP.len : ∀ {ch : Ch} {N : Nat} {σ : SS}, ChP ch N σ → ch.length ≤ N
  | [], _, _, _ => Nat.zero_le _
  | (i, k) :: r, N, σ, h => by
    have := ChP.len h.2.2.2
    have := h.1
    simp
    omega
theorem ChP.up : ∀ {ch : Ch} {N N' : Nat} {σ : SS}, ChP ch N σ → N ≤ N' → ChP ch N' σ
  | [], _, _, _, _, _ => trivial
  | (i, k) :: r, N, N', σ, h, e => ⟨Nat.lt_of_lt_of_le h.1 e, h.2⟩
theorem ChP.frame : ∀ {ch : Ch} {N : Nat} {σ σ' : SS}, ChP ch N σ → (∀ i, i < N → sA σ' 16 i = sA σ 16 i) → (∀ i, i < N → sA σ' 13 i = sA σ 13 i) → ChP ch N σ'
  | [], _, _, _, _, _, _ => trivial
  | (i, k) :: r, N, σ, σ', h, e1, e2 => ⟨h.1, (e1 i h.1).trans h.2.1, fun z => (e2 i h.1).trans (h.2.2.1 z), ChP.frame h.2.2.2 (fun j hj => e1 j (by have := h.1; omega)) (fun j hj => e2 j (by have := h.1; omega))⟩
theorem x_parent {i k N : Nat} {r : Ch} {σ : SS} (h : ChP ((i, k) :: r) N σ) (hN : N ≤ 300) : P_X5_parentAt (nI i) σ = some (top r) := by
  unfold P_X5_parentAt
  have hi := h.1
  by_cases z : 0 < i
  · rw [if_pos (show (0 : Int32) < nI i from nI_lt (a := 0) z (by omega)), vX6_at_27 (by omega), Option.bind_some, h.2.2.1 z]
  · have e : i = 0 := by omega
    subst e
    rw [if_neg (by decide)]
    cases r with
    | nil => rfl
    | cons a r =>
      obtain ⟨j, k'⟩ := a
      have := h.2.2.2.1
      omega
/-- shapes of nodes -/
def SH (g : List N3) (y : Nat → Nat) (N : Nat) (σ : SS) : Prop := ∀ i, i < N → sA σ 11 i = nI (y i) ∧ y i < g.length
def kN (g : List N3) (y : Nat → Nat) (i : Nat) : Nat := kd g (y i)
def cl (kf : Nat → Nat) : Ch → Ch
  | [] => []
  | (i, k) :: r => if kf i = 3 ∨ kf i = 7 then cl kf r else (i, k + 1) :: r
def finS (ch : Ch) (σ : SS) : SS := match ch with
  | [] => uI σ 11 (-1)
  | (i, k) :: _ => uI (stA σ 16 (nI i) (nI k)) 11 (nI i)
theorem x_nodeKind {g : List N3} {y : Nat → Nat} {N i : Nat} {σ : SS} (hg : gX' g σ) (hd : GdL g) (hS : SH g y N σ) (hi : i < N) (hN : N ≤ 300) : P_X5_shapeAt (nI i) σ = some (nI (y i)) ∧ P_X1_kind (nI (y i)) σ = some (nI (kN g y i)) := by
  obtain ⟨e1, e2⟩ := hS i hi
  refine ⟨?_, ?_⟩
  · unfold P_X5_shapeAt
    rw [vX6_at_25 (by omega), Option.bind_some, e1]
  · have hl := hd.1
    rw [x_kind (by omega), (gX_at hg e2).1]
    rfl
theorem x_finish8 {g : List N3} {y : Nat → Nat} {σ : SS} (hg : gX' g σ) (hd : GdL g) : ∀ (ch : Ch) (N t fu : Nat), N ≤ 300 → ChP ch N σ → SH g y N σ → t + ch.length ≤ 300 → ch.length < fu → P_X5_finish_j8 fu (top ch) (nI t) σ = some (finS (cl (kN g y) ch) σ)
  | [], N, t, fu, hN, h, hS, h1, h2 => by
    obtain ⟨fu, rfl⟩ : ∃ k, fu = k + 1 := ⟨fu - 1, by omega⟩
    rw [P_X5_finish_j8]
    unfold P_X5_finish_j62 top cl finS
    rw [if_pos rfl, if_pos rfl]
    split <;> rfl
  | (i, k) :: r, N, t, fu, hN, h, hS, h1, h2 => by
    obtain ⟨fu, rfl⟩ : ∃ k, fu = k + 1 := ⟨fu - 1, by omega⟩
    have hi := h.1
    have hl : r.length + 1 ≤ 300 - t := by simp at h1; omega
    obtain ⟨q1, q2⟩ := x_nodeKind hg hd hS hi hN
    have l0 := (gd_lt hd (hS i hi).2).1
    have hne : ¬ nI i = -1 := fun z => by
      have := congrArg Int32.toInt z
      rw [nI_toInt (by omega), show (-1 : Int32).toInt = -1 by decide] at this
      omega
    have ek : kN g y i ≤ 8 := l0
    have rc := x_finish8 hg hd r i (t + 1) fu (by omega) h.2.2.2 (fun j hj => hS j (by omega)) (by omega) (by simp at h2; omega)
    rw [P_X5_finish_j8, show (300 : Int32) = nI 300 from rfl, if_neg (nI_ge (show t < 300 by omega) (by decide))]
    show (if nI i = -1 then _ else _) = _
    rw [if_neg hne]
    show (P_X5_shapeAt (nI i) σ).bind _ = _
    rw [q1, Option.bind_some, q2, Option.bind_some]
    unfold P_X5_finish_j50
    rw [show top ((i, k) :: r) = nI i from rfl, x_parent h hN, Option.bind_some, nI_1, rc]
    have stop : ¬ (kN g y i = 3 ∨ kN g y i = 7) → P_X5_finish_j62 (nI i) σ = some (finS (cl (kN g y) ((i, k) :: r)) σ) := by
      intro z
      unfold P_X5_finish_j62
      rw [if_neg hne, vX6_at_30 (by omega), Option.bind_some, h.2.1, nI_1, vX6_set_30 (by omega), Option.bind_some]
      unfold cl
      rw [if_neg z]
      rfl
    have go : kN g y i = 3 ∨ kN g y i = 7 → cl (kN g y) ((i, k) :: r) = cl (kN g y) r := by
      intro z
      conv => lhs; unfold cl
      rw [if_pos z]
    by_cases z3 : kN g y i = 3
    · rw [if_pos (show nI (kN g y i) = 3 by rw [z3]; rfl), go (Or.inl z3)]
    · rw [if_neg (show ¬ nI (kN g y i) = 3 from fun w => z3 ((nI_eq (b := 3) (by omega) (by decide)).mp w))]
      by_cases z7 : kN g y i = 7
      · rw [if_pos (show nI (kN g y i) = 7 by rw [z7]; rfl), go (Or.inr z7)]
      · rw [if_neg (show ¬ nI (kN g y i) = 7 from fun w => z7 ((nI_eq (b := 7) (by omega) (by decide)).mp w)), stop (by omega)]
