/-! frames, the grammar and its history -/
def Fr (I A L : List Nat) (σ σ' : SS) : Prop := (∀ k, k ∉ I → sI σ' k = sI σ k) ∧ (∀ k, k ∉ A → sA σ' k = sA σ k) ∧ ∀ k, k ∉ L → sL σ' k = sL σ k
theorem Fr.rf {I A L : List Nat} {σ : SS} : Fr I A L σ σ := ⟨fun _ _ => rfl, fun _ _ => rfl, fun _ _ => rfl⟩
theorem Fr.tr {I A L : List Nat} {σ σ1 σ2 : SS} (h : Fr I A L σ σ1) (h2 : Fr I A L σ1 σ2) : Fr I A L σ σ2 := ⟨fun k z => (h2.1 k z).trans (h.1 k z), fun k z => (h2.2.1 k z).trans (h.2.1 k z), fun k z => (h2.2.2 k z).trans (h.2.2 k z)⟩
theorem Fr.mono {I A L I' A' L' : List Nat} {σ σ1 : SS} (h : Fr I A L σ σ1) (hI : ∀ k ∈ I, k ∈ I') (hA : ∀ k ∈ A, k ∈ A') (hL : ∀ k ∈ L, k ∈ L') : Fr I' A' L' σ σ1 := ⟨fun k z => h.1 k (fun y => z (hI k y)), fun k z => h.2.1 k (fun y => z (hA k y)), fun k z => h.2.2 k (fun y => z (hL k y))⟩
theorem Fr.uI {I A L : List Nat} {σ : SS} {k : Nat} {v : Int32} (h : k ∈ I) : Fr I A L σ (uI σ k v) := ⟨fun j z => by rw [sI_uI, if_neg (fun (e : j = k) => z (e ▸ h))], fun _ _ => rfl, fun _ _ => rfl⟩
theorem Fr.stA {I A L : List Nat} {σ : SS} {k : Nat} {i v : Int32} (h : k ∈ A) : Fr I A L σ (stA σ k i v) := ⟨fun _ _ => rfl, fun j z => by rw [sA_stA, if_neg (fun (e : j = k) => z (e ▸ h))], fun _ _ => rfl⟩
theorem Fr.stZ {I A L : List Nat} {σ : SS} {k : Nat} {i v : Int32} (h : k ∈ A) : Fr I A L σ (stZ σ k i v) := ⟨fun _ _ => rfl, fun j z => by rw [sA_stZ, if_neg (fun (e : j = k) => z (e ▸ h))], fun _ _ => rfl⟩
theorem Fr.stL {I A L : List Nat} {σ : SS} {k : Nat} {i : Int32} {v : Int64} (h : k ∈ L) : Fr I A L σ (stL σ k i v) := ⟨fun _ _ => rfl, fun _ _ => rfl, fun j z => by rw [sL_stL, if_neg (fun (e : j = k) => z (e ▸ h))]⟩
abbrev N3 : Type := Nat × Nat × Nat
def GdN (t : N3) : Prop := okI t.1 t.2.1 t.2.2
theorem GdN.lt {t : N3} (h : GdN t) : t.1 ≤ 8 ∧ t.2.1 ≤ 15 ∧ t.2.2 ≤ 800 := by
  unfold GdN okI at h
  omega
def GdL (g : List N3) : Prop := g.length ≤ 16 ∧ ∀ t ∈ g, GdN t
def GA (g : List N3) (K A B : Nat → Int32) : Prop := ∀ (k : Nat) (t : N3), g[k]? = some t → K k = nI t.1 ∧ A k = nI t.2.1 ∧ B k = nI t.2.2
/-- a SHAPE told by three ints that are as told -/
theorem ok_N3 {k a b : Int32} (h : okI k.toInt a.toInt b.toInt) : ∃ t : N3, GdN t ∧ k = nI t.1 ∧ a = nI t.2.1 ∧ b = nI t.2.2 := by
  have h0 : 0 ≤ k.toInt ∧ 0 ≤ a.toInt ∧ 0 ≤ b.toInt := by
    unfold okI at h
    omega
  obtain ⟨x, -, e1, f1⟩ := of_nI h0.1
  obtain ⟨y, -, e2, f2⟩ := of_nI h0.2.1
  obtain ⟨z, -, e3, f3⟩ := of_nI h0.2.2
  refine ⟨(x, y, z), ?_, f1, f2, f3⟩
  unfold GdN
  rw [show ((x, y, z) : N3).1 = x from rfl, show ((x, y, z) : N3).2.1 = y from rfl, show ((x, y, z) : N3).2.2 = z from rfl, e1, e2, e3]
  exact h
theorem GA.push {g : List N3} {t : N3} {K A B : Nat → Int32} (h : GA g K A B) : GA (g ++ [t]) (upd K g.length (nI t.1)) (upd A g.length (nI t.2.1)) (upd B g.length (nI t.2.2)) := by
  intro k u hk
  simp only [upd_at]
  by_cases e : k = g.length
  · subst e
    rw [List.getElem?_append_right (Nat.le_refl _)] at hk
    simp at hk
    subst hk
    simp
  · have hl : k < g.length := by
      have := (List.getElem?_eq_some_iff.mp hk).1
      simp at this
      omega
    rw [List.getElem?_append_left hl] at hk
    simp only [if_neg e]
    exact h k u hk
theorem GA.set {g : List N3} {i : Nat} {t : N3} {K A B : Nat → Int32} (h : GA g K A B) : GA (g.set i t) (upd K i (nI t.1)) (upd A i (nI t.2.1)) (upd B i (nI t.2.2)) := by
  intro k u hk
  simp only [upd_at]
  by_cases e : k = i
  · subst e
    have hl := (List.getElem?_eq_some_iff.mp hk).1
    rw [List.length_set] at hl
    rw [List.getElem?_set_self hl] at hk
    cases hk
    simp
  · rw [List.getElem?_set_ne (Ne.symm e)] at hk
    simp only [if_neg e]
    exact h k u hk
theorem GA.drop {g : List N3} {K A B : Nat → Int32} (h : GA g K A B) : GA g.dropLast K A B := by
  intro k u hk
  apply h k u
  rw [List.getElem?_dropLast] at hk
  split at hk
  · exact hk
  · cases hk
theorem GdL.push {g : List N3} {t : N3} (h : GdL g) (hl : g.length < 16) (ht : GdN t) : GdL (g ++ [t]) := by
  refine ⟨by simp; omega, fun u hu => ?_⟩
  rcases List.mem_append.mp hu with z | z
  · exact h.2 u z
  · rw [List.mem_singleton.mp z]; exact ht
theorem GdL.set {g : List N3} {i : Nat} {t : N3} (h : GdL g) (ht : GdN t) : GdL (g.set i t) := by
  refine ⟨by rw [List.length_set]; exact h.1, fun u hu => ?_⟩
  rcases List.mem_or_eq_of_mem_set hu with z | z
  · exact h.2 u z
  · rw [z]; exact ht
/-- a change, as what stood there -/
abbrev DD : Type := Nat × Option N3
def back (d : DD) (g : List N3) : List N3 := match d.2 with
  | none => g.dropLast
  | some t => g.set d.1 t
/-- grammars (latest first) and changes (latest first) -/
def HC : List N3 → List (List N3) → List DD → Prop
  | _, [], [] => True
  | g, s :: hs, d :: ds => s = back d g ∧ (∀ t, d.2 = some t → d.1 < 16 ∧ GdN t) ∧ GdL s ∧ HC s hs ds
  | _, _, _ => False
theorem HC.len : ∀ {g : List N3} {hs : List (List N3)} {ds : List DD}, HC g hs ds → hs.length = ds.length
  | _, [], [], _ => rfl
  | _, _ :: hs, _ :: ds, h => by simp [HC.len h.2.2.2]
  | _, [], _ :: _, h => h.elim
  | _, _ :: _, [], h => h.elim
theorem HC.take : ∀ {g : List N3} {hs : List (List N3)} {ds : List DD} (n : Nat), HC g hs ds → HC g (hs.take n) (ds.take n)
  | _, [], [], n, _ => by simp [HC]
  | _, _ :: hs, _ :: ds, 0, _ => by simp [HC]
  | _, _ :: hs, _ :: ds, n + 1, h => ⟨h.1, h.2.1, h.2.2.1, HC.take n h.2.2.2⟩
  | _, [], _ :: _, _, h => h.elim
  | _, _ :: _, [], _, h => h.elim
/-- the x side's history, latest first -/
def dX (ds : List DD) (σ : SS) : Prop := sI σ 6 = nI ds.length ∧ ds.length ≤ 8 ∧ ∀ (j : Nat) (d : DD), ds[j]? = some d → sA σ 3 (ds.length - 1 - j) = nI d.1 ∧ (d.2 = none → sA σ 4 (ds.length - 1 - j) = -1) ∧ ∀ t, d.2 = some t → sA σ 4 (ds.length - 1 - j) = nI t.1 ∧ sA σ 5 (ds.length - 1 - j) = nI t.2.1 ∧ sA σ 6 (ds.length - 1 - j) = nI t.2.2
/-- the reference's: grammars, latest first -/
def hM (hs : List (List N3)) (σ : SS) : Prop := sI σ 2 = nI hs.length ∧ hs.length ≤ 8 ∧ ∀ (j : Nat) (s : List N3), hs[j]? = some s → s.length ≤ 16 ∧ sA σ 3 (49 * (hs.length - 1 - j)) = nI s.length ∧ ∀ (k : Nat) (t : N3), s[k]? = some t → sA σ 3 (49 * (hs.length - 1 - j) + 1 + 3 * k) = nI t.1 ∧ sA σ 3 (49 * (hs.length - 1 - j) + 2 + 3 * k) = nI t.2.1 ∧ sA σ 3 (49 * (hs.length - 1 - j) + 3 + 3 * k) = nI t.2.2
def gX' (g : List N3) (σ : SS) : Prop := sI σ 5 = nI g.length ∧ GA g (sA σ 0) (sA σ 1) (sA σ 2)
def gM' (g : List N3) (σ : SS) : Prop := sI σ 0 = nI g.length ∧ GA g (sA σ 0) (sA σ 1) (sA σ 2)
