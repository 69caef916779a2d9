/-! the reference's numbers: alike parts, and the number of a node -/
def anyB (F : TB) (B : Nat → Bool) (i : Nat) : Nat → Bool
  | 0 => false
  | t + 1 => anyB F B i t || B (kid F i t)
theorem MI.fr {g : List N3} {c : Nat → Nat → Nat} {b : Nat → Nat → Nat → Nat} {F : TB} {N : Nat} {W : Nat → Nat} {B : Nat → Bool} {k : Nat} {σ σ' : SS} (h : MI g c b F W B N k σ) (f : Fr [9, 10] [15, 16] [] σ σ') (e : ∀ j, k ≤ j → j < N → sA σ' 15 (j + 1) = sA σ 15 (j + 1)) : MI g c b F W B N k σ' := by
  obtain ⟨h1, h2, h3, h4⟩ := h
  refine ⟨f.gM h1 (by decide) (by decide) (by decide) (by decide), h2.frame (f.2.2 0 (by decide)) (f.2.2 1 (by decide)), ?_, fun j j1 j2 => ?_⟩
  · obtain ⟨a1, a2, a3⟩ := h3
    refine ⟨by rw [f.2.1 14 (by decide)]; exact a1, fun j j1 j2 => ?_, fun j j1 j2 => by rw [f.2.1 14 (by decide)]; exact a3 j j1 j2⟩
    unfold RW
    rw [f.2.1 10 (by decide), f.2.1 11 (by decide), f.2.1 12 (by decide), f.2.1 13 (by decide), f.2.2 2 (by decide)]
    exact a2 j j1 j2
  · rw [f.2.2 3 (by decide), e j j1 j2]
    exact h4 j j1 j2
section
variable {g : List N3} {c : Nat → Nat → Nat} {b : Nat → Nat → Nat → Nat} {tp : Nat → Nat} {n : Nat} {F : TB} {N : Nat} {W : Nat → Nat} {B : Nat → Bool} {i m : Nat} {σ : SS}
/-- whether a part is alike with one ahead of it -/
theorem m_alikeIn (h : MI g c b F W B N (i + 1) σ) (hs : SB g tp n F 0 N) (hN : N ≤ 300) (hi : i < N) (hk : Kd F i m) (hz : ∀ j, j < N → F 4 j ≤ 24) (K7 : Int32 → Int32 → SS → Option SS) {t : Nat} (ht : t < m) : ∀ d s fu, s + d = t → d < fu → ∃ fu', P_X11_findAlike_j21 K7 fu (nI (i + 1)) (nI (kid F i t + 1)) (b2i (mtB F W B i t s)) (kx F i m s) σ = P_X11_findAlike_j21 K7 (fu' + 1) (nI (i + 1)) (nI (kid F i t + 1)) (b2i (mtB F W B i t t)) (nI (kid F i t + 1)) σ := by
  have hL := LIM_lt
  obtain ⟨p1, p2, p3, p4, p5, p6, p7, p8⟩ := h.at hs hN hi hk ht
  have gt : ∀ {α : Type} {o : Option α}, gI (nI (kid F i t + 1)) 310 o = o := gI_nI (by omega) (by decide)
  have zt := hz _ (kid_lt hs hi hk ht)
  intro d
  induction d with
  | zero =>
    intro s fu a1 a2
    obtain ⟨fu, rfl⟩ : ∃ k, fu = k + 1 := ⟨fu - 1, by omega⟩
    have e : s = t := by omega
    subst e
    exact ⟨fu, by rw [kx_lt ht]⟩
  | succ d ih =>
    intro s fu a1 a2
    obtain ⟨fu, rfl⟩ : ∃ k, fu = k + 1 := ⟨fu - 1, by omega⟩
    have hsm : s < m := by omega
    obtain ⟨q1, q2, q3, q4, q5, q6, q7, q8⟩ := h.at hs hN hi hk hsm
    have gs : ∀ {α : Type} {o : Option α}, gI (nI (kid F i s + 1)) 310 o = o := gI_nI (by omega) (by decide)
    have zs := hz _ (kid_lt hs hi hk hsm)
    have mono := kid_mono hs hi hk (t - s - 1) s (by omega)
    rw [show s + (t - s - 1) + 1 = t by omega] at mono
    have step : P_X11_findAlike_j21 K7 (fu + 1) (nI (i + 1)) (nI (kid F i t + 1)) (b2i (mtB F W B i t s)) (kx F i m s) σ = P_X11_findAlike_j21 K7 fu (nI (i + 1)) (nI (kid F i t + 1)) (b2i (mtB F W B i t (s + 1))) (kx F i m (s + 1)) σ := by
      rw [P_X11_findAlike_j21, kx_lt hsm, if_neg (fun w => by have := (nI_eq (by omega) (by omega)).mp w; omega)]
      unfold P_X11_findAlike_j96 P_X11_findAlike_j100 P_X11_findAlike_j101
      simp only [gs, gt, ldA_nI (show kid F i s + 1 < 2 ^ 31 by omega), ldA_nI (show kid F i t + 1 < 2 ^ 31 by omega), ldL_nI (show kid F i s + 1 < 2 ^ 31 by omega), ldL_nI (show kid F i t + 1 < 2 ^ 31 by omega), p3, p4, p6, q3, q4, q6, q8, L_lit]
      show _ = P_X11_findAlike_j21 K7 fu (nI (i + 1)) (nI (kid F i t + 1)) (b2i (mtB F W B i t s || cnd F W B i t s)) (kx F i m (s + 1)) σ
      cases mtB F W B i t s with
      | true => rw [b2i_t, in1]; rfl
      | false =>
        rw [b2i_f, in0, Bool.false_or]
        unfold cnd
        cases B (kid F i t) with
        | true => rw [b2i_t, in1]; rfl
        | false =>
          rw [b2i_f, in0]
          cases B (kid F i s) with
          | true => rw [b2i_t, in1]; rfl
          | false =>
            rw [b2i_f, in0]
            by_cases w1 : W (kid F i t) < LIM
            · rw [if_neg (fun y => by have := (lN_leB (by omega) (by omega)).mp y; omega), decide_eq_true w1]
              by_cases w2 : F 4 (kid F i t) = F 4 (kid F i s)
              · rw [if_neg (fun y => y (by rw [w2])), decide_eq_true w2]
                by_cases w3 : W (kid F i t) = W (kid F i s)
                · rw [if_neg (fun y => y (by rw [w3])), decide_eq_true w3]; rfl
                · rw [if_pos (fun y => w3 ((lN_inj (by omega) (by omega)).mp y)), decide_eq_false w3]; rfl
              · rw [if_pos (fun y => w2 ((nI_eq (by omega) (by omega)).mp y)), decide_eq_false w2]; rfl
            · rw [if_pos ((lN_leB (by omega) (by omega)).mpr (by omega)), decide_eq_false w1]; rfl
    rw [step]
    exact ih (s + 1) fu (by omega) (by omega)
theorem m_alike (h : MI g c b F W B N (i + 1) σ) (hs : SB g tp n F 0 N) (hN : N ≤ 300) (hi : i < N) (hk : Kd F i m) (hz : ∀ j, j < N → F 4 j ≤ 24) (bi : Bool) (h15 : sA σ 15 (i + 1) = b2i bi) : ∃ σ', P_X11_findAlike (nI (i + 1)) σ = some σ' ∧ Fr [9] [15] [] σ σ' ∧ (∀ j, sA σ' 15 j = if j = i + 1 then b2i (bi || anyT F W B i m) else sA σ 15 j) ∧ sI σ' 9 = am F W B i (sI σ 9) m := by
  have hm := kd_m hs hN hi hk
  have gi : ∀ {α : Type} {o : Option α}, gI (nI (i + 1)) 310 o = o := gI_nI (by omega) (by decide)
  have loop : ∀ d t σ1 fu, t + d = m → d < fu → Fr [9] [15] [] σ σ1 → (∀ j, sA σ1 15 j = if j = i + 1 then b2i (bi || anyT F W B i t) else sA σ 15 j) → sI σ1 9 = am F W B i (sI σ 9) t → ∃ σ', P_X11_findAlike_j7 fu (nI (i + 1)) (kx F i m t) σ1 = some σ' ∧ Fr [9] [15] [] σ σ' ∧ (∀ j, sA σ' 15 j = if j = i + 1 then b2i (bi || anyT F W B i m) else sA σ 15 j) ∧ sI σ' 9 = am F W B i (sI σ 9) m := by
    intro d
    induction d with
    | zero =>
      intro t σ1 fu a1 a2 f1 c1 c2
      obtain ⟨fu, rfl⟩ : ∃ k, fu = k + 1 := ⟨fu - 1, by omega⟩
      have e : t = m := by omega
      subst e
      rw [P_X11_findAlike_j7, kx_ge (Nat.le_refl _), if_pos rfl]
      exact ⟨σ1, rfl, f1, c1, c2⟩
    | succ d ih =>
      intro t σ1 fu a1 a2 f1 c1 c2
      obtain ⟨fu, rfl⟩ : ∃ k, fu = k + 1 := ⟨fu - 1, by omega⟩
      have ht : t < m := by omega
      have h1 : MI g c b F W B N (i + 1) σ1 := h.fr (f1.mono (by decide) (by decide) (by decide)) (fun j j1 j2 => by rw [c1, if_neg (by omega)])
      obtain ⟨p1, p2, p3, p4, p5, p6, p7, p8⟩ := h1.at hs hN hi hk ht
      have gt : ∀ {α : Type} {o : Option α}, gI (nI (kid F i t + 1)) 310 o = o := gI_nI (by omega) (by decide)
      obtain ⟨fu', st⟩ := m_alikeIn h1 hs hN hi hk hz (P_X11_findAlike_j7 fu) ht t 0 FU (by omega) (by unfold FU; omega)
      have e13 : ldA σ1 13 (nI (i + 1)) = kx F i m 0 := by rw [ldA_nI (by omega)]; exact (m_chain hs hi hk h1.2.2.1).1
      rw [P_X11_findAlike_j7, kx_lt ht, if_neg (nI_ne0 (by omega) (by omega)), gi, e13, show P_X11_findAlike_j21 (P_X11_findAlike_j7 fu) FU (nI (i + 1)) (nI (kid F i t + 1)) 0 (kx F i m 0) σ1 = _ from st, P_X11_findAlike_j21, if_pos rfl]
      have e15 : ∀ j, sA (stZ σ1 15 (nI (i + 1)) 1) 15 j = if j = i + 1 then 1 else sA σ1 15 j := fun j => by rw [sA_szN (by omega) (Or.inr rfl), upd_at]
      cases tw : mtB F W B i t t with
      | false =>
        rw [b2i_f, if_pos rfl]
        unfold P_X11_findAlike_j162
        rw [gt, ldA_nI (by omega), p8]
        refine ih (t + 1) σ1 fu (by omega) (by omega) f1 (fun j => ?_) ?_
        · rw [c1, show anyT F W B i (t + 1) = (anyT F W B i t || mtB F W B i t t) from rfl, tw, Bool.or_false]
        · rw [c2, show am F W B i (sI σ 9) (t + 1) = if mtB F W B i t t = true then amin (am F W B i (sI σ 9) t) (F 1 (kid F i t)) else am F W B i (sI σ 9) t from rfl, tw, if_neg (by decide)]
      | true =>
        rw [b2i_t, if_neg (by decide), gi, sI_stZ]
        unfold P_X11_findAlike_j146 P_X11_findAlike_j159 P_X11_findAlike_j162
        have l11 : ldA (stZ σ1 15 (nI (i + 1)) 1) 11 (nI (kid F i t + 1)) = nI (F 1 (kid F i t)) := by
          rw [ldA_nI (by omega), sA_stZ, if_neg (by decide)]
          exact p7
        have l14 : ∀ v, ldA (uI (stZ σ1 15 (nI (i + 1)) 1) 9 v) 14 (nI (kid F i t + 1)) = kx F i m (t + 1) := by
          intro v
          rw [ldA_nI (by omega), sA_uI, sA_stZ, if_neg (by decide)]
          exact p8
        have R := ih (t + 1) (uI (stZ σ1 15 (nI (i + 1)) 1) 9 (amin (sI σ1 9) (F 1 (kid F i t)))) fu (by omega) (by omega) (f1.tr ((Fr.stZ (by decide)).tr (Fr.uI (by decide)))) (fun j => by
          rw [sA_uI, e15, show anyT F W B i (t + 1) = (anyT F W B i t || mtB F W B i t t) from rfl, tw, Bool.or_true, Bool.or_true]
          by_cases w : j = i + 1
          · rw [if_pos w, if_pos w]; rfl
          · rw [if_neg w, if_neg w, c1, if_neg w]) (by
          rw [sI_uI, if_pos rfl, c2, show am F W B i (sI σ 9) (t + 1) = if mtB F W B i t t = true then amin (am F W B i (sI σ 9) t) (F 1 (kid F i t)) else am F W B i (sI σ 9) t from rfl, tw, if_pos rfl])
        simp only [gt, l11, l14]
        unfold amin at R
        by_cases y1 : sI σ1 9 < 0
        · rw [if_pos y1] at R ⊢
          exact R
        · rw [if_neg y1] at R ⊢
          by_cases y2 : sI σ1 9 ≤ nI (F 1 (kid F i t))
          · rw [if_pos y2] at R ⊢
            exact R
          · rw [if_neg y2] at R ⊢
            exact R
  unfold P_X11_findAlike
  rw [gi, ldA_nI (by omega), (m_chain hs hi hk h.2.2.1).1]
  refine loop m 0 σ FU (by omega) (by unfold FU; omega) Fr.rf (fun j => ?_) rfl
  by_cases w : j = i + 1
  · rw [if_pos w, w, h15, show anyT F W B i 0 = false from rfl, Bool.or_false]
  · rw [if_neg w]
/-- the number of a set -/
theorem m_set (hr : Rdy g) (h : MI g c b F W B N (i + 1) σ) (hs : SB g tp n F 0 N) (ks : ∀ i, i < N → KS g tp n F i) (nb : ∀ i, i < N → ¬ brk g F i) (hN : N ≤ 300) (hi : i < N) (hk : Kd F i m) (k56 : isB56 g (F 0 i)) (hz : ∀ j, j < N → F 4 j ≤ 24) (mb bi : Bool) (h10 : sI σ 10 = b2i mb) (h15 : sA σ 15 (i + 1) = b2i bi) : ∃ σ', P_X11_numberOfSet (nI (i + 1)) (nI (F 0 i)) σ = some σ' ∧ Fr [9, 10] [15, 16] [3] σ σ' ∧ (∀ j, sL σ' 3 j = if j = i + 1 then lN (bagV g b (F 0 i) (F 4 i) (fs (fun t => (F 4 (kid F i t), W (kid F i t))) m) m) else sL σ 3 j) ∧ (∀ j, sA σ' 15 j = if j = i + 1 then b2i (bi || (decide (kd g (F 0 i) = 6) && anyT F W B i m)) else sA σ 15 j) ∧ sI σ' 10 = b2i (mb || anyM F W B i m) ∧ sI σ' 9 = if kd g (F 0 i) = 6 then am F W B i (sI σ 9) m else sI σ 9 := by
  have hd := hr.1
  have hm := kd_m hs hN hi hk
  have h1z : ∀ t, t < m → 1 ≤ F 4 (kid F i t) := fun t ht => part_sz hr hs ks nb hi (by rcases k56 with k | k <;> omega) (by rcases k56 with k | k <;> omega) hk ht
  obtain ⟨σ2, z, e1, f2, c1, c2, c3, c4⟩ := m_sorted hd h hs hN hi hk hz mb m 0 σ FU (fun _ => 0) (by omega) (by unfold FU; omega) Fr.rf (fun j hj => by omega) (fun j hj => by omega) (fun j hj => by omega) (by rw [show anyM F W B i 0 = false from rfl, Bool.or_false]; exact h10)
  have h2 : MI g c b F W B N (i + 1) σ2 := h.fr (f2.mono (by decide) (by decide) (by decide)) (fun j j1 j2 => by rw [f2.2.1 15 (by decide)])
  unfold P_X11_numberOfSet
  rw [gI_nI (show i + 1 < 310 by omega) (by decide), ldA_nI (by omega), (m_chain hs hi hk h.2.2.1).1, show P_X11_numberOfSet_j10 FU (nI (i + 1)) (nI (F 0 i)) 0 (kx F i m 0) σ = _ from e1]
  by_cases k6 : kd g (F 0 i) = 6
  · obtain ⟨σ5, a1, a2, a3, a4⟩ := m_alike h2 hs hN hi hk hz bi (by rw [f2.2.1 15 (by decide)]; exact h15)
    have h5 : MI g c b F W B N (i + 1) σ5 := h2.fr (a2.mono (by decide) (by decide) (by decide)) (fun j j1 j2 => by rw [a3, if_neg (by omega)])
    rw [if_neg (show ¬ ¬ kd g (F 0 i) = 6 from fun y => y k6), a1, Option.bind_some, m_setSum hd h5 hs hN hi hk k56 hz h1z (z := z) (fun j hj => by rw [a2.2.1 16 (by decide)]; exact c1 j hj) c2 c3]
    refine ⟨_, rfl, ((f2.mono (by decide) (by decide) (by decide)).tr (a2.mono (by decide) (by decide) (by decide))).tr (Fr.stL (by decide)), fun j => ?_, fun j => ?_, ?_, ?_⟩
    · rw [sL_stN (by omega), updL_at, a2.2.2 3 (by decide), f2.2.2 3 (by decide)]
    · rw [sA_stL, a3, decide_eq_true k6, Bool.true_and, f2.2.1 15 (by decide)]
    · rw [sI_stL, a2.1 10 (by decide)]
      exact c4
    · rw [sI_stL, a4, if_pos k6, f2.1 9 (by decide)]
  · rw [if_pos (show ¬ kd g (F 0 i) = 6 from k6), m_setSum hd h2 hs hN hi hk k56 hz h1z c1 c2 c3]
    refine ⟨_, rfl, (f2.mono (by decide) (by decide) (by decide)).tr (Fr.stL (by decide)), fun j => ?_, fun j => ?_, ?_, ?_⟩
    · rw [sL_stN (by omega), updL_at, f2.2.2 3 (by decide)]
    · rw [sA_stL, f2.2.1 15 (by decide), decide_eq_false k6, Bool.false_and, Bool.or_false]
      by_cases w : j = i + 1
      · rw [if_pos w, w, h15]
      · rw [if_neg w]
    · rw [sI_stL]
      exact c4
    · rw [sI_stL, if_neg k6, f2.1 9 (by decide)]
/-- the number of a node on the reference's side -/
theorem m_num (hr : Rdy g) (h : MI g c b F W B N (i + 1) σ) (hs : SB g tp n F 0 N) (ks : ∀ i, i < N → KS g tp n F i) (nb : ∀ i, i < N → ¬ brk g F i) (hN : N ≤ 300) (hi : i < N) (hk : Kd F i m) (hz : ∀ j, j < N → F 4 j ≤ 24) (mb : Bool) (h10 : sI σ 10 = b2i mb) : ∃ σ', P_X11_numberOf (nI (i + 1)) σ = some σ' ∧ Fr [9, 10] [15, 16] [3] σ σ' ∧ (∀ j, sL σ' 3 j = if j = i + 1 then lN (nv g c b (F 0 i) (F 5 i) (F 4 i) m (fun t => F 4 (kid F i t)) (fun t => W (kid F i t))) else sL σ 3 j) ∧ (∀ j, sA σ' 15 j = if j = i + 1 then b2i (anyB F B i m || (decide (kd g (F 0 i) = 6) && anyT F W B i m)) else sA σ 15 j) ∧ sI σ' 10 = b2i (mb || (decide (kd g (F 0 i) = 5 ∨ kd g (F 0 i) = 6) && anyM F W B i m)) ∧ sI σ' 9 = if kd g (F 0 i) = 6 then am F W B i (sI σ 9) m else sI σ 9 := by
  have hd := hr.1
  have hm := kd_m hs hN hi hk
  have hx := (hs.2.1 i (by omega) hi).1
  have h16 : F 0 i < 16 := Nat.lt_of_lt_of_le hx hd.1
  obtain ⟨l0, l1, l2⟩ := gd_lt hd hx
  have hzi := hz i hi
  have gi : ∀ {α : Type} {o : Option α}, gI (nI (i + 1)) 310 o = o := gI_nI (by omega) (by decide)
  have gx : ∀ {α : Type} {o : Option α}, gI (nI (F 0 i)) 16 o = o := gI_nI h16 (by decide)
  obtain ⟨r1, r2, r3, r4, r5⟩ := h.2.2.1.2.1 i (by omega) hi
  -- the broken parts first
  have loop : ∀ d t σ1 fu, t + d = m → d < fu → Fr [] [15] [] σ σ1 → (∀ j, sA σ1 15 j = if j = i + 1 then b2i (anyB F B i t) else sA σ 15 j) → ∃ σ2 fu', P_X11_numberOf_j29 fu (nI (i + 1)) (nI (F 0 i)) (nI (F 4 i)) (kx F i m t) σ1 = P_X11_numberOf_j29 (fu' + 1) (nI (i + 1)) (nI (F 0 i)) (nI (F 4 i)) 0 σ2 ∧ Fr [] [15] [] σ σ2 ∧ (∀ j, sA σ2 15 j = if j = i + 1 then b2i (anyB F B i m) else sA σ 15 j) := by
    intro d
    induction d with
    | zero =>
      intro t σ1 fu a1 a2 f1 c1
      obtain ⟨fu, rfl⟩ : ∃ k, fu = k + 1 := ⟨fu - 1, by omega⟩
      have e : t = m := by omega
      subst e
      exact ⟨σ1, fu, by rw [kx_ge (Nat.le_refl _)], f1, c1⟩
    | succ d ih =>
      intro t σ1 fu a1 a2 f1 c1
      obtain ⟨fu, rfl⟩ : ∃ k, fu = k + 1 := ⟨fu - 1, by omega⟩
      have ht : t < m := by omega
      obtain ⟨p1, p2, p3, p4, p5, p6, p7, p8⟩ := h.at hs hN hi hk ht
      have gt : ∀ {α : Type} {o : Option α}, gI (nI (kid F i t + 1)) 310 o = o := gI_nI (by omega) (by decide)
      have b15 : sA σ1 15 (kid F i t + 1) = b2i (B (kid F i t)) := by rw [c1, if_neg (by omega)]; exact p6
      have i15 : sA σ1 15 (i + 1) = b2i (anyB F B i t) := by rw [c1, if_pos rfl]
      have j63 : ∀ y : Bool, P_X11_numberOf_j63 (P_X11_numberOf_j29 fu) (nI (i + 1)) (nI (F 0 i)) (nI (F 4 i)) (nI (kid F i t + 1)) (b2i y) (nI (i + 1)) σ1 = P_X11_numberOf_j29 fu (nI (i + 1)) (nI (F 0 i)) (nI (F 4 i)) (kx F i m (t + 1)) (stZ σ1 15 (nI (i + 1)) (b2i y)) := by
        intro y
        unfold P_X11_numberOf_j63
        rw [gi, gt, ldA_nI (by omega), sA_stZ, if_neg (by decide), f1.2.1 14 (by decide), p8]
      have step : P_X11_numberOf_j29 (fu + 1) (nI (i + 1)) (nI (F 0 i)) (nI (F 4 i)) (kx F i m t) σ1 = P_X11_numberOf_j29 fu (nI (i + 1)) (nI (F 0 i)) (nI (F 4 i)) (kx F i m (t + 1)) (stZ σ1 15 (nI (i + 1)) (b2i (anyB F B i (t + 1)))) := by
        rw [P_X11_numberOf_j29, kx_lt ht, if_neg (nI_ne0 (by omega) (by omega)), gi, gt, ldA_nI (by omega), i15, ldA_nI (by omega), b15]
        unfold P_X11_numberOf_j58
        show _ = P_X11_numberOf_j29 fu (nI (i + 1)) (nI (F 0 i)) (nI (F 4 i)) (kx F i m (t + 1)) (stZ σ1 15 (nI (i + 1)) (b2i (anyB F B i t || B (kid F i t))))
        rw [← j63]
        cases anyB F B i t with
        | true => rw [b2i_t, in1]; rfl
        | false =>
          rw [b2i_f, in0]
          cases B (kid F i t) with
          | true => rw [b2i_t, ii1]; rfl
          | false => rw [b2i_f, ii0]; rfl
      rw [step]
      refine ih (t + 1) _ fu (by omega) (by omega) (f1.tr (Fr.stZ (by decide))) (fun j => ?_)
      rw [sA_szN (by omega) (b2i_01 _), upd_at]
      by_cases w : j = i + 1
      · rw [if_pos w, if_pos w]
      · rw [if_neg w, if_neg w, c1, if_neg w]
  obtain ⟨σ2, fu', e1, f2, c2⟩ := loop m 0 (stZ σ 15 (nI (i + 1)) 0) FU (by omega) (by unfold FU; omega) (Fr.stZ (by decide)) (fun j => by rw [sA_szN (by omega) (Or.inl rfl), upd_at]; rfl)
  have h2 : MI g c b F W B N (i + 1) σ2 := h.fr (f2.mono (by decide) (by decide) (by decide)) (fun j j1 j2 => by rw [c2, if_neg (by omega)])
  have k0 : ldA σ2 0 (nI (F 0 i)) = nI (kd g (F 0 i)) := by rw [ldA_nI (by omega)]; exact (gM_at h2.1 hx).1
  have e13 : ldA σ2 13 (nI (i + 1)) = kx F i m 0 := by rw [ldA_nI (by omega)]; exact (m_chain hs hi hk h2.2.2.1).1
  have start : P_X11_numberOf (nI (i + 1)) σ = P_X11_numberOf_j29 (fu' + 1) (nI (i + 1)) (nI (F 0 i)) (nI (F 4 i)) 0 σ2 := by
    unfold P_X11_numberOf
    rw [gi, gi, gi, gi, ldA_nI (by omega), r1, ldA_nI (by omega), r3, ldA_nI (by omega), sA_stZ, if_neg (by decide), (m_chain hs hi hk h.2.2.1).1]
    exact e1
  -- a number that is stored at once
  have fin : ∀ v : Int64, v = lN (nv g c b (F 0 i) (F 5 i) (F 4 i) m (fun t => F 4 (kid F i t)) (fun t => W (kid F i t))) → ¬ kd g (F 0 i) = 5 → ¬ kd g (F 0 i) = 6 → P_X11_numberOf (nI (i + 1)) σ = some (stL σ2 3 (nI (i + 1)) v) → ∃ σ', P_X11_numberOf (nI (i + 1)) σ = some σ' ∧ Fr [9, 10] [15, 16] [3] σ σ' ∧ (∀ j, sL σ' 3 j = if j = i + 1 then lN (nv g c b (F 0 i) (F 5 i) (F 4 i) m (fun t => F 4 (kid F i t)) (fun t => W (kid F i t))) else sL σ 3 j) ∧ (∀ j, sA σ' 15 j = if j = i + 1 then b2i (anyB F B i m || (decide (kd g (F 0 i) = 6) && anyT F W B i m)) else sA σ 15 j) ∧ sI σ' 10 = b2i (mb || (decide (kd g (F 0 i) = 5 ∨ kd g (F 0 i) = 6) && anyM F W B i m)) ∧ sI σ' 9 = if kd g (F 0 i) = 6 then am F W B i (sI σ 9) m else sI σ 9 := by
    intro v hv n5 n6 hq
    refine ⟨_, hq, (f2.mono (by decide) (by decide) (by decide)).tr (Fr.stL (by decide)), fun j => ?_, fun j => ?_, ?_, ?_⟩
    · rw [sL_stN (by omega), updL_at, f2.2.2 3 (by decide), hv]
    · rw [sA_stL, c2, decide_eq_false n6, Bool.false_and, Bool.or_false]
    · rw [sI_stL, f2.1 10 (by decide), h10, decide_eq_false (fun w => w.elim n5 n6), Bool.false_and, Bool.or_false]
    · rw [sI_stL, f2.1 9 (by decide), if_neg n6]
  have W0 : 0 < m → gI (kx F i m 0) 310 (some (stL σ2 3 (nI (i + 1)) (ldL σ2 3 (kx F i m 0)))) = some (stL σ2 3 (nI (i + 1)) (lN (W (kid F i 0)))) := by
    intro hm0
    obtain ⟨p1, p2, p3, p4, p5, p6, p7, p8⟩ := h2.at hs hN hi hk hm0
    rw [kx_lt hm0, gI_nI (by omega) (by decide), ldL_nI (by omega), p4]
  obtain ⟨q0, q2, q3, q7, q8, q4⟩ := ks i hi
  have e : P_X11_numberOf (nI (i + 1)) σ = if kd g (F 0 i) = 0 then some (stL σ2 3 (nI (i + 1)) 0) else if kd g (F 0 i) = 1 then some (stL σ2 3 (nI (i + 1)) 0) else if kd g (F 0 i) = 2 then gI (kx F i m 0) 310 ((P_X11_numberOfBoth (nI (F 0 i)) (nI (F 4 i)) (kx F i m 0) (ldA σ2 14 (kx F i m 0)) σ2).bind fun v12 => some (stL σ2 3 (nI (i + 1)) v12)) else if kd g (F 0 i) = 3 then (if ¬ ldL σ2 2 (nI (i + 1)) = 1 then (P_X11_countOf (ldA σ2 1 (nI (F 0 i))) (nI (F 4 i)) σ2).bind fun v19 => gI (kx F i m 0) 310 ((P_X11_plus v19 (ldL σ2 3 (kx F i m 0))).bind fun v23 => some (stL σ2 3 (nI (i + 1)) v23)) else gI (kx F i m 0) 310 (some (stL σ2 3 (nI (i + 1)) (ldL σ2 3 (kx F i m 0))))) else if kd g (F 0 i) = 4 then (P_X11_numberOfRow (nI (F 0 i)) (nI (F 4 i)) (kx F i m 0) σ2).bind fun v31 => some (stL σ2 3 (nI (i + 1)) v31) else if kd g (F 0 i) = 5 then (P_X11_numberOfSet (nI (i + 1)) (nI (F 0 i)) σ2).bind fun σ35 => some σ35 else if kd g (F 0 i) = 6 then (P_X11_numberOfSet (nI (i + 1)) (nI (F 0 i)) σ2).bind fun σ38 => some σ38 else if kd g (F 0 i) = 7 then gI (kx F i m 0) 310 (some (stL σ2 3 (nI (i + 1)) (ldL σ2 3 (kx F i m 0)))) else if kd g (F 0 i) = 8 then some (stL σ2 3 (nI (i + 1)) (ldL σ2 2 (nI (i + 1)))) else (P_X11_numberOfSet (nI (i + 1)) (nI (F 0 i)) σ2).bind fun σ47 => some σ47 := by
    rw [start, P_X11_numberOf_j29, if_pos rfl]
    simp only [gx, gi, k0, e13]
    rw [← kq 0 l0 (by decide), ← kq 1 l0 (by decide), ← kq 2 l0 (by decide), ← kq 3 l0 (by decide), ← kq 4 l0 (by decide), ← kq 5 l0 (by decide), ← kq 6 l0 (by decide), ← kq 7 l0 (by decide), ← kq 8 l0 (by decide)]
    rfl
  rcases (show kd g (F 0 i) = 0 ∨ kd g (F 0 i) = 1 ∨ kd g (F 0 i) = 2 ∨ kd g (F 0 i) = 3 ∨ kd g (F 0 i) = 4 ∨ (kd g (F 0 i) = 5 ∨ kd g (F 0 i) = 6) ∨ kd g (F 0 i) = 7 ∨ kd g (F 0 i) = 8 by omega) with k | k | k | k | k | k | k | k
  · rw [if_pos k] at e
    refine fin 0 ?_ (by omega) (by omega) e
    unfold nv
    rw [if_neg (by omega), if_neg (by omega), if_neg (by omega), if_neg (by omega), if_neg (by omega), if_neg (by omega)]
    rfl
  · rw [if_neg (by omega), if_pos k] at e
    refine fin 0 ?_ (by omega) (by omega) e
    unfold nv
    rw [if_neg (by omega), if_neg (by omega), if_neg (by omega), if_neg (by omega), if_neg (by omega), if_neg (by omega)]
    rfl
  · obtain ⟨a1, a2, a3, a4, a5⟩ := q2 k
    have em := Kd_u hk (Kd_2 hs hi a1 a2 a3)
    obtain ⟨p1, p2, p3, p4, p5, p6, p7, p8⟩ := h2.at hs hN hi hk (show 0 < m by omega)
    have hfb : fb g (F 0 i) < 16 := Nat.lt_of_lt_of_le ((hr.2.1 _ hx).2 (Or.inl k)) hd.1
    rw [if_neg (by omega), if_neg (by omega), if_pos k, kx_lt (show 0 < m by omega), gI_nI (by omega) (by decide), ldA_nI (by omega), p8, kx_lt (show 0 + 1 < m by omega), m_both hd h2 hs hN hi hk em k hzi hfb, Option.bind_some] at e
    refine fin _ ?_ (by omega) (by omega) e
    unfold nv
    rw [if_pos k]
  · obtain ⟨a1, a2, a3, a4⟩ := q3 k
    have em := Kd_u hk (Kd_1 hs hi a1 a2)
    obtain ⟨p1, p2, p3, p4, p5, p6, p7, p8⟩ := h2.at hs hN hi hk (show 0 < m by omega)
    have t2 : ldL σ2 2 (nI (i + 1)) = lN (F 5 i) := by rw [ldL_nI (by omega), f2.2.2 2 (by decide)]; exact r5
    rw [if_neg (by omega), if_neg (by omega), if_neg (by omega), if_pos k, t2, W0 (by omega)] at e
    rcases a4 with ⟨-, t5, -⟩ | ⟨-, t5, -⟩
    · rw [t5, if_neg (fun w => w rfl)] at e
      refine fin _ ?_ (by omega) (by omega) e
      unfold nv
      rw [if_neg (by omega), if_pos k, if_pos t5]
    · have ha : fa g (F 0 i) < 16 := by omega
      rw [t5, if_pos (show ¬ lN 2 = 1 by decide), ldA_nI (by omega), (gM_at h2.1 hx).2.1, m_of h2.2.1.1 ha hzi, Option.bind_some, kx_lt (show 0 < m by omega), gI_nI (by omega) (by decide), ldL_nI (by omega), p4, m_plus (h2.2.1.1 _ ha _ hzi).2 p5, Option.bind_some] at e
      refine fin _ ?_ (by omega) (by omega) e
      unfold nv
      rw [if_neg (by omega), if_pos k, if_neg (by omega)]
  · rw [if_neg (by omega), if_neg (by omega), if_neg (by omega), if_neg (by omega), if_pos k, m_rowN hr h2 hs hN hi hk k hzi (fun t ht => part_sz hr hs ks nb hi (by omega) (by omega) hk ht), Option.bind_some] at e
    refine fin _ ?_ (by omega) (by omega) e
    unfold nv
    rw [if_neg (by omega), if_neg (by omega), if_pos k]
  · obtain ⟨σ', s1, s2, s3, s4, s5, s6⟩ := m_set hr h2 hs ks nb hN hi hk k hz mb (anyB F B i m) ((f2.1 10 (by decide)).trans h10) (by rw [c2, if_pos rfl])
    have e' : P_X11_numberOf (nI (i + 1)) σ = some σ' := by
      rw [e, if_neg (by omega), if_neg (by omega), if_neg (by omega), if_neg (by omega), if_neg (by omega), s1, Option.bind_some]
      rcases k with k | k
      · rw [if_pos k]
      · rw [if_neg (by omega), if_pos k]
    refine ⟨σ', e', (f2.mono (by decide) (by decide) (by decide)).tr s2, fun j => ?_, fun j => ?_, ?_, ?_⟩
    · have env : nv g c b (F 0 i) (F 5 i) (F 4 i) m (fun t => F 4 (kid F i t)) (fun t => W (kid F i t)) = bagV g b (F 0 i) (F 4 i) (fs (fun t => (F 4 (kid F i t), W (kid F i t))) m) m := by
        unfold nv
        rw [if_neg (by omega), if_neg (by omega), if_neg (by omega), if_pos k]
      rw [s3, f2.2.2 3 (by decide), env]
    · rw [s4, c2]
      by_cases w : j = i + 1
      · rw [if_pos w, if_pos w]
      · rw [if_neg w, if_neg w, if_neg w]
    · rw [s5, decide_eq_true k, Bool.true_and]
    · rw [s6, f2.1 9 (by decide)]
  · obtain ⟨a1, a2, a3⟩ := q7 k
    have em := Kd_u hk (Kd_1 hs hi a1 a2)
    rw [if_neg (by omega), if_neg (by omega), if_neg (by omega), if_neg (by omega), if_neg (by omega), if_neg (by omega), if_neg (by omega), if_pos k, W0 (by omega)] at e
    refine fin _ ?_ (by omega) (by omega) e
    unfold nv
    rw [if_neg (by omega), if_neg (by omega), if_neg (by omega), if_neg (by omega), if_pos k]
  · have t2 : ldL σ2 2 (nI (i + 1)) = lN (F 5 i) := by rw [ldL_nI (by omega), f2.2.2 2 (by decide)]; exact r5
    rw [if_neg (by omega), if_neg (by omega), if_neg (by omega), if_neg (by omega), if_neg (by omega), if_neg (by omega), if_neg (by omega), if_neg (by omega), if_pos k, t2] at e
    refine fin _ ?_ (by omega) (by omega) e
    unfold nv
    rw [if_neg (by omega), if_neg (by omega), if_neg (by omega), if_neg (by omega), if_neg (by omega), if_pos k]
end
