/-! the class's nodes so far -/
def upN (f : Nat → Nat) (k v : Nat) : Nat → Nat := fun i => if i = k then v else f i
theorem upN_eq (f : Nat → Nat) (k v : Nat) : upN f k v k = v := if_pos rfl
theorem upN_ne {f : Nat → Nat} {k v i : Nat} (h : ¬ i = k) : upN f k v i = f i := if_neg h
def XN (g : List N3) (y pl q : Nat → Nat) (N : Nat) (σ : SS) : Prop := sI σ 10 = nI N ∧ N ≤ 300 ∧ SH g y N σ ∧ ∀ i, i < N → sA σ 12 i = nI (pl i) ∧ sA σ 14 i = nI (own g (y i)) ∧ sA σ 15 i = nI (i + 1) ∧ (0 < i → sA σ 13 i = nI (q i) ∧ q i < i)
theorem XN.frame {g : List N3} {y pl q : Nat → Nat} {N : Nat} {σ σ' : SS} (h : XN g y pl q N σ) (f : Fr [11] [16] [] σ σ') : XN g y pl q N σ' := by
  obtain ⟨h1, h2, h3, h4⟩ := h
  refine ⟨(f.1 10 (by decide)).trans h1, h2, fun i hi => ?_, fun i hi => ?_⟩
  · rw [f.2.1 11 (by decide)]; exact h3 i hi
  · rw [f.2.1 12 (by decide), f.2.1 13 (by decide), f.2.1 14 (by decide), f.2.1 15 (by decide)]; exact h4 i hi
theorem finS_fr (ch : Ch) (σ : SS) : Fr [11] [16] [] σ (finS ch σ) := by
  cases ch with
  | nil => exact Fr.uI (by decide)
  | cons a r => exact (Fr.stA (by decide)).tr (Fr.uI (by decide))
theorem finS_top (ch : Ch) (σ : SS) : sI (finS ch σ) 11 = top ch := by
  cases ch with
  | nil => rfl
  | cons a r => rfl
theorem cl_ok {kf : Nat → Nat} : ∀ {ch : Ch} {N : Nat} {σ : SS}, N ≤ 300 → ChP ch N σ → ChP (cl kf ch) N (finS (cl kf ch) σ)
  | [], N, σ, _, h => trivial
  | (i, k) :: r, N, σ, hN, h => by
    have hi := h.1
    by_cases z : kf i = 3 ∨ kf i = 7
    · have e : cl kf ((i, k) :: r) = cl kf r := by conv => lhs; unfold cl; rw [if_pos z]
      rw [e]
      exact (cl_ok (by omega) h.2.2.2).up (by omega)
    · have e : cl kf ((i, k) :: r) = (i, k + 1) :: r := by unfold cl; rw [if_neg z]
      rw [e]
      have e16 : sA (finS ((i, k + 1) :: r) σ) 16 = upd (sA σ 16) i (nI (k + 1)) := sA_stN (σ := σ) (k := 16) (x := nI (k + 1)) (show i < 2 ^ 31 by omega)
      have e13 : sA (finS ((i, k + 1) :: r) σ) 13 = sA σ 13 := (finS_fr _ σ).2.1 13 (by decide)
      refine ⟨hi, ?_, fun w => by rw [e13]; exact h.2.2.1 w, h.2.2.2.frame (fun j hj => ?_) (fun j hj => by rw [e13])⟩
      · rw [e16, upd_at, if_pos rfl]
      · rw [e16, upd_at, if_neg (by omega)]
def tq : Ch → Nat
  | [] => 0
  | (i, _) :: _ => i
theorem XN.new {g : List N3} {y pl q : Nat → Nat} {N x p : Nat} {ch : Ch} {σ : SS} (h : XN g y pl q N σ) (hN : N < 300) (hx : x < g.length) (e11 : sI σ 11 = top ch) (hc : ChP ch N σ) (h0 : ch = [] → N = 0) : XN g (upN y N x) (upN pl N p) (upN q N (tq ch)) (N + 1) (nw σ N x (own g x) (nI p)) ∧ ChP ((N, 0) :: ch) (N + 1) (nw σ N x (own g x) (nI p)) := by
  obtain ⟨h1, h2, h3, h4⟩ := h
  have b31 : N < 2 ^ 31 := by omega
  have a11 : sA (nw σ N x (own g x) (nI p)) 11 = upd (sA σ 11) N (nI x) := sA_stN (σ := uI σ 10 (nI (N + 1))) (k := 11) b31
  have a12 : sA (nw σ N x (own g x) (nI p)) 12 = upd (sA σ 12) N (nI p) := sA_stN (σ := stA (uI σ 10 (nI (N + 1))) 11 (nI N) (nI x)) (k := 12) b31
  have a13 : sA (nw σ N x (own g x) (nI p)) 13 = upd (sA σ 13) N (sI σ 11) := sA_stN (σ := stA (stA (uI σ 10 (nI (N + 1))) 11 (nI N) (nI x)) 12 (nI N) (nI p)) (k := 13) b31
  have a14 : sA (nw σ N x (own g x) (nI p)) 14 = upd (sA σ 14) N (nI (own g x)) := sA_stN (σ := stA (stA (stA (uI σ 10 (nI (N + 1))) 11 (nI N) (nI x)) 12 (nI N) (nI p)) 13 (nI N) (sI σ 11)) (k := 14) b31
  have a15 : sA (nw σ N x (own g x) (nI p)) 15 = upd (sA σ 15) N (nI (N + 1)) := sA_stN (σ := stA (stA (stA (stA (uI σ 10 (nI (N + 1))) 11 (nI N) (nI x)) 12 (nI N) (nI p)) 13 (nI N) (sI σ 11)) 14 (nI N) (nI (own g x))) (k := 15) b31
  have a16 : sA (nw σ N x (own g x) (nI p)) 16 = upd (sA σ 16) N 0 := sA_stN (σ := stA (stA (stA (stA (stA (uI σ 10 (nI (N + 1))) 11 (nI N) (nI x)) 12 (nI N) (nI p)) 13 (nI N) (sI σ 11)) 14 (nI N) (nI (own g x))) 15 (nI N) (nI (N + 1))) (k := 16) b31
  refine ⟨⟨rfl, by omega, fun i hi => ?_, fun i hi => ?_⟩, Nat.lt_succ_self N, ?_, fun _ => ?_, hc.frame (fun i hi => ?_) (fun i hi => ?_)⟩
  · rw [a11, upd_at]
    by_cases e : i = N
    · rw [if_pos e, e, upN_eq]; exact ⟨rfl, hx⟩
    · rw [if_neg e, upN_ne e]; exact h3 i (by omega)
  · rw [a12, a13, a14, a15, upd_at, upd_at, upd_at, upd_at]
    by_cases e : i = N
    · subst e
      rw [if_pos rfl, if_pos rfl, if_pos rfl, if_pos rfl, upN_eq, upN_eq, upN_eq]
      refine ⟨rfl, rfl, rfl, fun z => ?_⟩
      cases ch with
      | nil => have := h0 rfl; omega
      | cons a r => exact ⟨e11, hc.1⟩
    · rw [if_neg e, if_neg e, if_neg e, if_neg e, upN_ne e, upN_ne e, upN_ne e]
      exact h4 i (by omega)
  · rw [a16, upd_at, if_pos rfl]; rfl
  · rw [a13, upd_at, if_pos rfl, e11]
  · rw [a16, upd_at, if_neg (by omega)]
  · rw [a13, upd_at, if_neg (by omega)]
