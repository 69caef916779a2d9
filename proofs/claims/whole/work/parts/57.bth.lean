/-! the class's works and the reference's recursion, side by side -/
abbrev FX : SS → SS → Prop := Fr [8, 9, 21] [8, 9, 10, 21] [2]
abbrev FM : SS → SS → Prop := Fr [5] [9] []
def BTH (σx0 σm0 : SS) (run : Option (Int32 × SS)) (k t : Nat) (l : List It) (σm : SS) : Prop := FM σm0 σm ∧ sI σm 5 = nI k ∧ ((k ≤ 300 ∧ t ≤ 2 * k ∧ ∃ σx, FX σx0 σx ∧ Sb 21 21 5 9 k σx σm ∧ Stk l σx ∧ Tl t σx = run) ∨ (300 < k ∧ ∃ σx, FX σx0 σx ∧ DR σx ∧ run = some (0, σx)))
theorem BTH.over {σx0 σm0 : SS} {run : Option (Int32 × SS)} {k t t' : Nat} {l l' : List It} {σm : SS} (h : BTH σx0 σm0 run k t l σm) (hk : 300 < k) : BTH σx0 σm0 run k t' l' σm := by
  obtain ⟨h1, h2, h3⟩ := h
  refine ⟨h1, h2, Or.inr ⟨hk, ?_⟩⟩
  rcases h3 with h3 | h3
  · omega
  · exact h3.2
theorem Sb_dr {k : Nat} {σx σx' σm : SS} (h : Sb 21 21 5 9 k σx σm) (h1 : sI σx' 21 = sI σx 21) (h2 : sA σx' 21 = sA σx 21) : Sb 21 21 5 9 k σx' σm := h.frame h1 h2 rfl rfl
theorem FX_p {σx0 σx σ' : SS} (h : FX σx0 σx) (h2 : Fr [8] [8, 9, 10] [2] σx σ') : FX σx0 σ' := h.tr (h2.mono (by decide) (by decide) (by decide))
theorem FX_8 {σx0 σx : SS} (h : FX σx0 σx) (v : Int32) : FX σx0 (uI σx 8 v) := h.tr (Fr.uI (by decide))
/-- a work that ends by adding a byte; the reference writes the same -/
theorem bth_wr {σx0 σm0 : SS} {run : Option (Int32 × SS)} {k t : Nat} {l : List It} {σm σ2 : SS} {v : Int32} (hm : FM σm0 σm) (ht : t ≤ 2 * k) (hx : FX σx0 σ2) (hs : Sb 21 21 5 9 k σ2 σm) (hst : Stk l σ2) (hv : isB v) (hgo : run = b2 (P_X0_add_10 v σ2) fun r σ' => if ¬ r = 0 then Tl (t + 1) σ' else some (0, σ')) : ∃ σm1, P_X11_write v σm = some σm1 ∧ BTH σx0 σm0 run (k + 1) (t + 1) l σm1 := by
  have hk := hs.1
  obtain ⟨σm1, w1, w2, w3, w4⟩ := wr hs hv
  refine ⟨σm1, w1, hm.tr w2, w3, ?_⟩
  rcases w4 with ⟨z, σ', a1, a2, a3⟩ | ⟨z, a1⟩
  · rw [a1] at hgo
    exact Or.inl ⟨by omega, by omega, σ', hx.tr (a2.mono (by decide) (by decide) (by decide)), a3, hst.frame (a2.1 8 (by decide)) (fun j h1 h2 => a2.2.1 j (by simp; omega)) (a2.2.2 2 (by decide)), hgo.symm⟩
  · rw [a1] at hgo
    exact Or.inr ⟨by omega, σ2, hx, ⟨k, hk, hs.2.1⟩, hgo⟩
theorem bth_over {σx0 σm0 : SS} {run : Option (Int32 × SS)} {k t t' : Nat} {l l' : List It} {σm : SS} {v : Int32} (h : BTH σx0 σm0 run k t l σm) (hk : 300 < k) (hb : k < 2000) : ∃ σm1, P_X11_write v σm = some σm1 ∧ BTH σx0 σm0 run (k + 1) t' l' σm1 := by
  obtain ⟨σm1, w1, w2, w3⟩ := wr_over (v := v) h.2.1 hk (by omega)
  have h' := h.over (t' := t') (l' := l') hk
  obtain ⟨h1, h2, h3⟩ := h'
  refine ⟨σm1, w1, h1.tr w2, w3, Or.inr ⟨by omega, ?_⟩⟩
  rcases h3 with h3 | h3
  · omega
  · exact h3.2
theorem b2_some {α β : Type} {a : α} {σ : SS} {f : α → SS → Option β} : b2 (some (a, σ)) f = f a σ := rfl
/-- through the guards of a boolean answer -/
theorem b2_gz {o : Option (Int32 × SS)} {f : Int32 → SS → Option (Int32 × SS)} (h : ∀ r σ', o = some (r, σ') → r = 0 ∨ r = 1) : b2 (b2 o fun r σ' => gZ r (some (r, σ'))) f = b2 o f := by
  cases o with
  | none => rfl
  | some p =>
    obtain ⟨r, σ'⟩ := p
    show b2 (gZ r (some (r, σ'))) f = f r σ'
    rw [gZ_of (h r σ' rfl)]
    rfl
theorem add_01 {v : Int32} {σ : SS} : ∀ r σ', P_X0_add_10 v σ = some (r, σ') → r = 0 ∨ r = 1 := by
  intro r σ' h
  unfold P_X0_add_10 at h
  split at h
  · cases h; exact Or.inl rfl
  · split at h
    · unfold gI at h
      split at h
      · cases h; exact Or.inr rfl
      · cases h
    · cases h; exact Or.inl rfl
theorem add_01' {v : Int32} {σ : SS} : ∀ r σ', (b2 (P_X0_add_10 v σ) fun r σ' => gZ r (some (r, σ'))) = some (r, σ') → r = 0 ∨ r = 1 := by
  intro r σ' h
  cases e : P_X0_add_10 v σ with
  | none => rw [e] at h; cases h
  | some p =>
    obtain ⟨r1, σ1⟩ := p
    have := add_01 r1 σ1 e
    rw [e] at h
    change gZ r1 (some (r1, σ1)) = some (r, σ') at h
    rw [gZ_of this] at h
    cases h
    exact this
/-- one work, as a run of the class -/
theorem run_go {u : It} {l : List It} {t : Nat} {σ : SS} (h : Stk (u :: l) σ) (hu : u.1 ≤ 2) (ht : t < 3000) {run : Option (Int32 × SS)} (hr : Tl t σ = run) : run = b2 (wk u.1 (nI u.2.1) (nI u.2.2.1) (lN u.2.2.2) (uI σ 8 (nI l.length))) fun v6 σ7 => if ¬ v6 = 0 then Tl (t + 1) σ7 else some (0, σ7) := by
  rw [← hr, tl_step h ht, x_work h hu]
abbrev gzk : Int32 → SS → Option (Int32 × SS) := fun r σ' => gZ r (some (r, σ'))
abbrev kk (t : Nat) : Int32 → SS → Option (Int32 × SS) := fun v6 σ7 => if ¬ v6 = 0 then Tl (t + 1) σ7 else some (0, σ7)
theorem run0 {a s v : Nat} {l : List It} {t : Nat} {σ : SS} (h : Stk ((0, a, s, v) :: l) σ) (ht : t < 3000) {run : Option (Int32 × SS)} (hr : Tl t σ = run) : run = b2 (P_X0_add_10 (nI a) (uI σ 8 (nI l.length))) (kk t) := by
  have e := run_go h (show 0 ≤ 2 by decide) ht hr
  have e2 : run = b2 (b2 (P_X0_add_10 (nI a) (uI σ 8 (nI l.length))) gzk) (kk t) := e
  rw [b2_gz add_01] at e2
  exact e2
theorem run1 {a s v : Nat} {l : List It} {t : Nat} {σ : SS} (h : Stk ((1, a, s, v) :: l) σ) (ht : t < 3000) {run : Option (Int32 × SS)} (hr : Tl t σ = run) : run = b2 (b2 (P_X9_workWhole (nI a) (nI s) (lN v) (uI σ 8 (nI l.length))) gzk) (kk t) := run_go h (show 1 ≤ 2 by decide) ht hr
theorem run2 {a s v : Nat} {l : List It} {t : Nat} {σ : SS} (h : Stk ((2, a, s, v) :: l) σ) (ht : t < 3000) {run : Option (Int32 × SS)} (hr : Tl t σ = run) : run = b2 (b2 (P_X9_workRest (nI a) (nI s) (lN v) (uI σ 8 (nI l.length))) gzk) (kk t) := run_go h (show 2 ≤ 2 by decide) ht hr
/-- a byte that was laid up -/
theorem bth_byte {σx0 σm0 : SS} {run : Option (Int32 × SS)} {k t v : Nat} {l : List It} {σm : SS} (h : BTH σx0 σm0 run k t ((0, v, 0, 0) :: l) σm) (hv : v < 256) (hk : k < 2000) : ∃ σm1, P_X11_write (nI v) σm = some σm1 ∧ BTH σx0 σm0 run (k + 1) (t + 1) l σm1 := by
  by_cases z : 300 < k
  · exact bth_over h z hk
  · obtain ⟨h1, h2, h3⟩ := h
    rcases h3 with ⟨a1, a2, σx, a3, a4, a5, a6⟩ | h3
    · have hg := run0 a5 (by omega) a6
      exact bth_wr h1 a2 (FX_8 a3 _) (Sb_dr a4 rfl rfl) a5.pop.2.1 ⟨v, hv, rfl⟩ hg
    · omega
theorem x_chC : chC 4 = nI 93 ∧ chC 5 = nI 125 ∧ chC 6 = nI 62 := by decide
theorem x_chO : chO 1 = nI 46 ∧ chO 2 = nI 40 ∧ chO 4 = nI 91 ∧ chO 5 = nI 123 ∧ chO 6 = nI 60 ∧ chO 7 = nI 33 := by decide
/-- what both sides know throughout -/
def CTX (g : List N3) (c : Nat → Nat → Nat) (b : Nat → Nat → Nat → Nat) (σx0 σm0 : SS) : Prop := Rdy g ∧ gX' g σx0 ∧ gM' g σm0 ∧ XT g c b σx0 (fun _ _ => True) ∧ MT g c b σm0 (fun _ _ => True)
theorem CTX.x {g : List N3} {c : Nat → Nat → Nat} {b : Nat → Nat → Nat → Nat} {σx0 σm0 σx : SS} (h : CTX g c b σx0 σm0) (f : FX σx0 σx) : gX' g σx ∧ XT g c b σx (fun _ _ => True) := ⟨f.gX h.2.1 (by decide) (by decide) (by decide) (by decide), h.2.2.2.1.frame (f.2.2 0 (by decide)) (f.2.2 1 (by decide))⟩
theorem CTX.m {g : List N3} {c : Nat → Nat → Nat} {b : Nat → Nat → Nat → Nat} {σx0 σm0 σm : SS} (h : CTX g c b σx0 σm0) (f : FM σm0 σm) : gM' g σm ∧ MT g c b σm (fun _ _ => True) := ⟨f.gM h.2.2.1 (by decide) (by decide) (by decide) (by decide), h.2.2.2.2.frame (f.2.2 0 (by decide)) (f.2.2 1 (by decide))⟩
theorem CTX.full {g : List N3} {c : Nat → Nat → Nat} {b : Nat → Nat → Nat → Nat} {σx0 σm0 : SS} (h : CTX g c b σx0 σm0) : Full g c b := ⟨h.2.2.2.1.2.1, fun x hx s hs => (h.2.2.2.1.1 x hx s hs).2, fun x hx hB s hs t ht => (h.2.2.2.1.2.2 x hx hB s hs trivial t ht).2⟩
/-- the end of a row or a set -/
theorem bth_close {g : List N3} {c : Nat → Nat → Nat} {b : Nat → Nat → Nat → Nat} {σx0 σm0 : SS} (C : CTX g c b σx0 σm0) {run : Option (Int32 × SS)} {k t x w e : Nat} {l : List It} {σm : SS} (hx : x < g.length) (h46 : kd g x < 9) (he : chC (kd g x) = nI e) (he2 : e < 256) (h : BTH σx0 σm0 run k t ((2, x, 0, w) :: l) σm) (hk : k < 2000) : ∃ σm1, P_X11_write (nI e) σm = some σm1 ∧ BTH σx0 σm0 run (k + 1) (t + 1) l σm1 := by
  by_cases z : 300 < k
  · exact bth_over h z hk
  · obtain ⟨h1, h2, h3⟩ := h
    rcases h3 with ⟨a1, a2, σx, a3, a4, a5, a6⟩ | h3
    · have hg := run2 a5 (by omega) a6
      have hX := C.x (FX_8 a3 (nI l.length))
      have hl := C.1.1.1
      unfold P_X9_workRest at hg
      rw [show (nI 0 : Int32) = 0 from rfl, if_neg (show ¬ (0 : Int32) < 0 by decide), x_kind (show x < 16 by omega), Option.bind_some, (gX_at hX.1 hx).1, vX6_at___C h46, Option.bind_some, he, b2_gz add_01', b2_gz add_01] at hg
      exact bth_wr h1 a2 (FX_8 a3 _) (Sb_dr a4 rfl rfl) a5.pop.2.1 ⟨e, he2, rfl⟩ hg
    · omega
