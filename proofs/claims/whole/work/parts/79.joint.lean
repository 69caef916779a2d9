/-! the joint parse: what is carried, and the small steps -/
def PS (g : List N3) (n : Nat) (σx0 σm0 : SS) (run : Option SS) (F : TB) (N p : Nat) (ch : Ch) (σm : SS) : Prop := FMr σm0 σm ∧ sI σm 6 = nI N ∧ sI σm 7 = nI p ∧ sI σm 8 = -1 ∧ N ≤ p ∧ p ≤ n ∧ (∀ i j, i < j → j < N → F 1 i < F 1 j) ∧ (∀ i, i < N → F 1 i < p) ∧ PSx g σx0 F N p ch run
def BD (n : Nat) (σx0 σm0 : SS) (run : Option SS) (σm : SS) : Prop := FMr σm0 σm ∧ ∃ q, q ≤ n ∧ sI σm 8 = nI q ∧ BDx σx0 run q
def NR (σ : SS) (N x p : Nat) : Prop := sA σ 10 (N + 1) = nI x ∧ sA σ 11 (N + 1) = nI p ∧ sA σ 12 (N + 1) = 0 ∧ sA σ 13 (N + 1) = 0 ∧ sA σ 14 (N + 1) = 0 ∧ sL σ 2 (N + 1) = lN 0
section
variable {g : List N3} {tp : Nat → Nat} {n rt : Nat} {σx0 σm0 : SS} {run : Option SS}
theorem BD.fr {σ σ' : SS} (h : BD n σx0 σm0 run σ) (f : FMr σ σ') (e : sI σ' 8 = sI σ 8) : BD n σx0 σm0 run σ' := by
  obtain ⟨h1, q, h2, h3, h4⟩ := h
  exact ⟨h1.tr f, q, h2, e.trans h3, h4⟩
theorem BD.ge {σ : SS} (h : BD n σx0 σm0 run σ) (hn : n ≤ 300) : 0 ≤ sI σ 8 := by
  obtain ⟨h1, q, h2, h3, h4⟩ := h
  rw [h3]
  exact nI_pos' (by omega)
theorem BD.nlt {σ : SS} (h : BD n σx0 σm0 run σ) (hn : n ≤ 300) : ¬ sI σ 8 < 0 := by
  obtain ⟨h1, q, h2, h3, h4⟩ := h
  rw [h3]
  exact nI_pos (by omega)
theorem PS.fr {F : TB} {N p : Nat} {ch : Ch} {σ σ' : SS} (h : PS g n σx0 σm0 run F N p ch σ) (f : Fr [] [10, 11, 12, 13, 14] [2] σ σ') : PS g n σx0 σm0 run F N p ch σ' := by
  obtain ⟨h1, h2, h3, h4, h5⟩ := h
  exact ⟨h1.tr (f.mono (by decide) (by decide) (by decide)), (f.1 6 (by decide)).trans h2, (f.1 7 (by decide)).trans h3, (f.1 8 (by decide)).trans h4, h5⟩
theorem PS.congr {F F' : TB} {N p : Nat} {ch : Ch} {σ : SS} (h : PS g n σx0 σm0 run F N p ch σ) (e0 : F' 0 = F 0) (e1 : F' 1 = F 1) (e2 : F' 2 = F 2) : PS g n σx0 σm0 run F' N p ch σ := by
  obtain ⟨h1, h2, h3, h4, h5, h6, h7, h8, h9⟩ := h
  refine ⟨h1, h2, h3, h4, h5, h6, ?_, ?_, h9.congr e0 e1 e2⟩
  · rw [e1]; exact h7
  · rw [e1]; exact h8
theorem PS.clc {F : TB} {N p : Nat} {ch : Ch} {σ : SS} (h : PS g n σx0 σm0 run F N p ch σ) {kf kf' : Nat → Nat} (e : ∀ i, i < N → kf i = kf' i) : cl kf ch = cl kf' ch := by
  obtain ⟨h1, h2, h3, h4, h5, h6, h7, h8, σx, -, -, -, hc, -⟩ := h
  exact cl_congr hc e
theorem PS.clc2 {F : TB} {N N1 k p : Nat} {ch : Ch} {σ : SS} (h : PS g n σx0 σm0 run F N1 p ((N, k) :: ch) σ) {kf kf' : Nat → Nat} (e : ∀ i, i < N → kf i = kf' i) : cl kf ch = cl kf' ch := by
  obtain ⟨h1, h2, h3, h4, h5, h6, h7, h8, σx, -, -, -, hc, -⟩ := h
  exact cl_congr hc.2.2.2 e
theorem mnw_ok {σ : SS} {N x p : Nat} (hN : N + 1 < 310) (h7 : sI σ 7 = nI p) : NR (mnw σ (N + 1) x) N x p ∧ CF N σ (mnw σ (N + 1) x) ∧ FMr σ (mnw σ (N + 1) x) := by
  have b31 : N + 1 < 2 ^ 31 := by omega
  have a10 : sA (mnw σ (N + 1) x) 10 = upd (sA σ 10) (N + 1) (nI x) := sA_stN (σ := uI σ 6 (nI (N + 1))) (k := 10) b31
  have a11 : sA (mnw σ (N + 1) x) 11 = upd (sA σ 11) (N + 1) (sI σ 7) := sA_stN (σ := stA (uI σ 6 (nI (N + 1))) 10 (nI (N + 1)) (nI x)) (k := 11) b31
  have a12 : sA (mnw σ (N + 1) x) 12 = upd (sA σ 12) (N + 1) 0 := sA_stN (σ := stA (stA (uI σ 6 (nI (N + 1))) 10 (nI (N + 1)) (nI x)) 11 (nI (N + 1)) (sI σ 7)) (k := 12) b31
  have a13 : sA (mnw σ (N + 1) x) 13 = upd (sA σ 13) (N + 1) 0 := sA_stN (σ := stA (stA (stA (uI σ 6 (nI (N + 1))) 10 (nI (N + 1)) (nI x)) 11 (nI (N + 1)) (sI σ 7)) 12 (nI (N + 1)) 0) (k := 13) b31
  have a14 : sA (mnw σ (N + 1) x) 14 = upd (sA σ 14) (N + 1) 0 := sA_stN (σ := stA (stA (stA (stA (uI σ 6 (nI (N + 1))) 10 (nI (N + 1)) (nI x)) 11 (nI (N + 1)) (sI σ 7)) 12 (nI (N + 1)) 0) 13 (nI (N + 1)) 0) (k := 14) b31
  have a2 : sL (mnw σ (N + 1) x) 2 = vp_updL (sL σ 2) (N + 1) 0 := sL_stN (σ := stA (stA (stA (stA (stA (uI σ 6 (nI (N + 1))) 10 (nI (N + 1)) (nI x)) 11 (nI (N + 1)) (sI σ 7)) 12 (nI (N + 1)) 0) 13 (nI (N + 1)) 0) 14 (nI (N + 1)) 0) (k := 2) b31
  refine ⟨⟨?_, ?_, ?_, ?_, ?_, ?_⟩, ⟨fun k g1 g2 j hj => ?_, fun j hj => ?_⟩, ((((((Fr.uI (by decide)).tr (Fr.stA (by decide))).tr (Fr.stA (by decide))).tr (Fr.stA (by decide))).tr (Fr.stA (by decide))).tr (Fr.stA (by decide))).tr (Fr.stL (by decide))⟩
  · rw [a10, upd_at, if_pos rfl]
  · rw [a11, upd_at, if_pos rfl, h7]
  · rw [a12, upd_at, if_pos rfl]
  · rw [a13, upd_at, if_pos rfl]
  · rw [a14, upd_at, if_pos rfl]
  · rw [a2, updL_at, if_pos rfl]; rfl
  · rcases (show k = 10 ∨ k = 11 ∨ k = 12 ∨ k = 13 ∨ k = 14 by omega) with z | z | z | z | z <;> subst z
    · rw [a10, upd_at, if_neg (by omega)]
    · rw [a11, upd_at, if_neg (by omega)]
    · rw [a12, upd_at, if_neg (by omega)]
    · rw [a13, upd_at, if_neg (by omega)]
    · rw [a14, upd_at, if_neg (by omega)]
  · rw [a2, updL_at, if_neg (by omega)]
/-- both sides stand behind the first byte of a new node -/
theorem PS.begun {F : TB} {N p x s t : Nat} {ch ch' : Ch} {σm σ1 : SS} (H : PS g n σx0 σm0 run F N p ch σm) (hp : p < n) (hx : PSx g σx0 (nwF F N x p (tq ch) s t) (N + 1) (p + 1) ch' run) (f : FMr σm σ1) (h6 : sI σ1 6 = nI (N + 1)) (h7 : sI σ1 7 = nI (p + 1)) (h8 : sI σ1 8 = -1) : PS g n σx0 σm0 run (nwF F N x p (tq ch) s t) (N + 1) (p + 1) ch' σ1 := by
  obtain ⟨a1, a2, a3, a4, a5, a6, a7, a8, a9⟩ := H
  refine ⟨a1.tr f, h6, h7, h8, by omega, by omega, fun i j i1 i2 => ?_, fun i i1 => ?_, hx⟩
  · show upN (F 1) N p i < upN (F 1) N p j
    rw [upN_ne (show ¬ i = N by omega)]
    by_cases e : j = N
    · rw [e, upN_eq]; exact a8 i (by omega)
    · rw [upN_ne e]; exact a7 i j i1 (by omega)
  · show upN (F 1) N p i < p + 1
    by_cases e : i = N
    · rw [e, upN_eq]; omega
    · rw [upN_ne e]; have := a8 i (by omega); omega
theorem p_open (C : PC g tp n rt σx0 σm0) {F : TB} {N p x ov : Nat} {ch : Ch} {σm : SS} (H : PS g n σx0 σm0 run F N p ch σm) (hx : x < g.length) (hA : Abt g tp n rt F N p ch x) (ho : ov < 2 ^ 31) (hov : ∀ b, b < 256 → (opn g x (nI b) = true ↔ b = ov)) (s t : Nat) : ∃ σ1, P_X11_need (nI ov) (mnw σm (N + 1) x) = some σ1 ∧ (BD n σx0 σm0 run σ1 ∨ (p < n ∧ PS g n σx0 σm0 run (nwF F N x p (tq ch) s t) (N + 1) (p + 1) (if kd g x ≤ 1 then cl (kN g (F 0)) ch else (N, 0) :: ch) σ1 ∧ NR σ1 N x p ∧ CF N σm σ1)) := by
  have C' := C
  have H' := H
  obtain ⟨hd, hl, -, hgm, hn, -, e3, htp, -⟩ := C
  obtain ⟨a1, a2, a3, a4, a5, a6, a7, a8, a9⟩ := H
  obtain ⟨m1, m2, m3⟩ := mnw_ok (σ := σm) (x := x) (show N + 1 < 310 by omega) a3
  have hne := m_need_ok (σ := mnw σm (N + 1) x) (v := nI ov) ((a1.1 3 (by decide)).trans e3) a3 a4 hn (by omega) (x_neg1 ho)
  have e4 : p < n → sA (mnw σm (N + 1) x) 4 p = nI (tp p) := fun z => by
    show sA σm 4 p = _
    rw [a1.2.1 4 (by decide)]
    exact (htp p z).2.1
  rcases c_begin C' a9 a5 a6 hx hA s t with ⟨z1, z2, z3⟩ | ⟨z1, z2⟩
  · have t256 := (htp p z1).2.2
    rw [if_pos ⟨z1, by rw [e4 z1, (hov _ t256).mp z2]⟩] at hne
    exact ⟨_, hne, Or.inr ⟨z1, H'.begun z1 z3 (m3.tr (Fr.uI (by decide))) rfl rfl a4, m1, m2⟩⟩
  · rw [if_neg (fun w => z1 ⟨w.1, by
      have t256 := (htp p w.1).2.2
      have w2 := w.2
      rw [e4 w.1] at w2
      exact (hov _ t256).mpr ((nI_eq (by omega) ho).mp w2)⟩)] at hne
    exact ⟨_, hne, Or.inl ⟨(a1.tr m3).tr ((Fr.uI (by decide)).tr (Fr.uI (by decide))), p, a6, rfl, z2⟩⟩
theorem rec_bad {L : Nat} {σ : SS} (a : Int32) (hn : n ≤ 300) (hL : 1 ≤ L) (h : BD n σx0 σm0 run σ) : P_X11_part L a σ = some (0, σ) := by
  obtain ⟨L, rfl⟩ : ∃ k, L = k + 1 := ⟨L - 1, by omega⟩
  show B_X11_part (P_X11_part L) a σ = _
  exact m_part_bad _ _ (h.nlt hn)
theorem need_bad {σ : SS} (v : Int32) (hn : n ≤ 300) (h : BD n σx0 σm0 run σ) : ∃ σ', P_X11_need v σ = some σ' ∧ BD n σx0 σm0 run σ' := ⟨_, m_need_bad (h.ge hn), h.fr (Fr.uI (by decide)) rfl⟩
theorem KS.leaf {F : TB} {i : Nat} (hk : kd g (F 0 i) ≤ 1) (h3 : F 3 i = i + 1) : KS g tp n F i := ⟨fun _ => h3, fun z => by omega, fun z => by omega, fun z => by omega, fun z => by omega, fun z => by omega⟩
theorem LSt.cong {F F' : TB} {N0 N1 : Nat} {v : Int32} (h : LSt F N0 N1 v) (e : Ag N1 F F') : LSt F' N0 N1 v := by
  rcases h with h | ⟨l, l1, l2, l3, l4, l5⟩
  · exact Or.inl h
  · exact Or.inr ⟨l, l1, l2, by rw [e 2 l l2]; exact l3, by rw [e 3 l l2]; exact l4, l5⟩
end
def OKP (g : List N3) (tp : Nat → Nat) (n : Nat) (σx0 σm0 : SS) (run : Option SS) (F : TB) (N p : Nat) (ch : Ch) (x : Nat) (σm : SS) (v : Int32) (σm' : SS) : Prop := v = nI (N + 1) ∧ ∃ (F' : TB) (N' p' : Nat), PS g n σx0 σm0 run F' N' p' (cl (kN g (F 0)) ch) σm' ∧ SB g tp n F' N N' ∧ SM F' N N' σm' ∧ KS g tp n F' N ∧ F' 0 N = x ∧ F' 2 N = tq ch ∧ Ag N F F' ∧ CF N σm σm' ∧ p < p'
def WP (g : List N3) (tp : Nat → Nat) (n rt : Nat) (σx0 σm0 : SS) (run : Option SS) (L : Nat) : Prop := ∀ (F : TB) (N p : Nat) (ch : Ch) (σm : SS) (x : Nat), PS g n σx0 σm0 run F N p ch σm → x < g.length → Abt g tp n rt F N p ch x → 302 ≤ p + L → ∃ (v : Int32) (σm' : SS), P_X11_part L (nI x) σm = some (v, σm') ∧ (BD n σx0 σm0 run σm' ∨ OKP g tp n σx0 σm0 run F N p ch x σm v σm')
section
variable {g : List N3} {tp : Nat → Nat} {n rt : Nat} {σx0 σm0 : SS} {run : Option SS}
/-- a part within an open node -/
theorem p_child (C : PC g tp n rt σx0 σm0) {L : Nat} (W : WP g tp n rt σx0 σm0 run L) {F : TB} {N0 N1 p1 k y : Nat} {ch : Ch} {σ : SS} {v : Int32} (H : PS g n σx0 σm0 run F N1 p1 ((N0, k) :: ch) σ) (hs : SB g tp n F N0 N1) (hm : SM F N0 N1 σ) (hl : LSt F N0 N1 v) (hy : y < g.length) (hA : Abt g tp n rt F N1 p1 ((N0, k) :: ch) y) (hL : 302 ≤ p1 + L) : ∃ r σ1, P_X11_part L (nI y) σ = some (r, σ1) ∧ (BD n σx0 σm0 run σ1 ∨ (r = nI (N1 + 1) ∧ sA σ1 13 (N0 + 1) = sA σ 13 (N0 + 1) ∧ ∃ σ2, P_X11_within (nI (N0 + 1)) r v σ1 = some σ2 ∧ ∃ (F' : TB) (N2 p2 : Nat), PS g n σx0 σm0 run F' N2 p2 (cl (kN g (F 0)) ((N0, k) :: ch)) σ2 ∧ SB g tp n F' N0 N2 ∧ SM F' N0 N2 σ2 ∧ LSt F' N0 N2 r ∧ (∀ k i, i < N1 → ¬ i = N0 → F' k i = F k i) ∧ (∀ k, ¬ k = 3 → ¬ k = 4 → F' k N0 = F k N0) ∧ F' 0 N1 = y ∧ F' 2 N1 = N0 ∧ F' 3 N1 = N2 ∧ N1 < N2 ∧ CF N0 σ σ2 ∧ p1 < p2 ∧ ∀ j, N1 < j → j < N2 → ¬ F' 2 j = N0)) := by
  obtain ⟨r, σ1, e1, b⟩ := W F N1 p1 ((N0, k) :: ch) σ y H hy hA hL
  have hn := C.2.2.2.2.1
  have h01 := hs.1.1
  have hp1 : N1 ≤ p1 ∧ p1 ≤ n := ⟨H.2.2.2.2.1, H.2.2.2.2.2.1⟩
  refine ⟨r, σ1, e1, ?_⟩
  rcases b with b | ⟨rfl, F', N2, p2, H2, s2, m2, ks, f0, f2, ag, cf, pp⟩
  · exact Or.inl b
  · have hq : F' 2 N1 = N0 := f2
    obtain ⟨σ2, w1, w2, w3, w4⟩ := m_within (hs.cong ag) s2 hq (hm.cong hs ag cf) m2 (hl.cong ag) H2.2.2.2.1 (by omega)
    refine Or.inr ⟨rfl, cf.1 13 (by decide) (by decide) _ (by omega), σ2, w1, upE F' N0 N2 (F' 4 N0 + F' 4 N1), N2, p2, ?_, (hs.cong ag).join s2 ks hq, w4, LSt.next h01 s2.1.1 hq s2.1.2, fun k i i1 i2 => ?_, fun k k1 k2 => ?_, ?_, ?_, ?_, s2.1.1, (cf.mono (by omega)).tr w3, pp, fun j j1 j2 => ?_⟩
    · exact (H2.fr (w2.mono (by decide) (by decide) (by decide))).congr (upE_k (by decide) (by decide)) (upE_k (by decide) (by decide)) (upE_k (by decide) (by decide))
    · rw [upE_ne i2]; exact ag k i i1
    · rw [upE_k k1 k2]; exact ag k N0 h01
    · rw [upE_k (by decide) (by decide)]; exact f0
    · rw [upE_k (by decide) (by decide)]; exact hq
    · rw [upE_ne (by omega)]; exact s2.1.2
    · rw [upE_k (by decide) (by decide)]
      have := (s2.2.2.1 j j1 j2).2.1
      omega
/-- the letters of an arrangement on both sides -/
theorem p_letters (C : PC g tp n rt σx0 σm0) {F : TB} {N N1 p0 many : Nat} {ch : Ch} (k8 : kd g (F 0 N) = 8) (hm : fa g (F 0 N) = many) (hm8 : many ≤ 8) (hN : N + 1 < 310) : ∀ (d i u num p : Nat) (σ : SS) (fu : Nat), i + d = many → 1 ≤ d → d + 1 < fu → u < 256 → bc u = i → u = LU tp p0 i → num = LNm tp p0 many i → LOK tp p0 many i → p0 + i = p → PS g n σx0 σm0 run F N1 p ((N, u) :: ch) σ → ∃ σ', P_X11_letters_j14 fu (nI (N + 1)) (nI many) (nI u) (lN num) (nI i) σ = some σ' ∧ (BD n σx0 σm0 run σ' ∨ ∃ σ2, Fr [7] [] [] σ σ2 ∧ σ' = stA (stL σ2 2 (nI (N + 1)) (lN (LNm tp p0 many many))) 12 (nI (N + 1)) (nI many) ∧ PS g n σx0 σm0 run F N1 (p0 + many) (cl (kN g (F 0)) ch) σ2 ∧ LOK tp p0 many many) := by
  intro d
  induction d with
  | zero => intro i u num p σ fu h1 h2; omega
  | succ d ih =>
    intro i u num p σ fu h1 _ h2 hu hb eu en lo ep H
    have H' := H
    obtain ⟨a1, a2, a3, a4, a5, a6, a7, a8, a9⟩ := H
    obtain ⟨fu, rfl⟩ : ∃ k, fu = k + 2 := ⟨fu - 2, by omega⟩
    have st := fun fu => m_let_step C (x1 := N + 1) (u := u) (num := num) (fu := fu) a1 a3 a4 hm8 (show i < many by omega) a6 hN
    rcases c_letter C a9 a6 k8 hu with ⟨z1, z2, z3, z4, z5⟩ | ⟨z1, z2⟩
    · rw [hm] at z3 z5
      have e := (st (fu + 1)).1 ⟨z1, z2, z3, z4⟩
      have lo' : LOK tp p0 many (i + 1) := by
        intro j hj
        by_cases w : j = i
        · subst w; rw [ep]; exact ⟨z2, z3⟩
        · exact lo j (by omega)
      have en' : num + uc (fun j => u.testBit j) (tp p - 97) 0 * fct (many - 1 - i) = LNm tp p0 many (i + 1) := by
        rw [LNm, ← en, ← eu, ep]
      have eu' : u ||| 2 ^ (tp p - 97) = LU tp p0 (i + 1) := by rw [LU, ← eu, ep]
      have HP : ∀ ch', PSx g σx0 F N1 (p + 1) ch' run → PS g n σx0 σm0 run F N1 (p + 1) ch' (uI σ 7 (nI (p + 1))) := fun ch' w => ⟨a1.tr (Fr.uI (by decide)), a2, rfl, a4, by omega, by omega, a7, fun j hj => by have := a8 j hj; omega, w⟩
      rw [e, en']
      by_cases w : i + 1 = many
      · rw [if_pos (by omega)] at z5
        refine ⟨_, m_let_end hN (Or.inl (nI_le (by omega) (by omega))), Or.inr ⟨uI σ 7 (nI (p + 1)), Fr.uI (by decide), by rw [w], ?_, by rw [← w]; rw [← w] at lo'; exact lo'⟩⟩
        rw [show p0 + many = p + 1 by omega]
        exact HP _ z5
      · rw [if_neg (by omega)] at z5
        obtain ⟨σ', q1, q2⟩ := ih (i + 1) (u ||| 2 ^ (tp p - 97)) (LNm tp p0 many (i + 1)) (p + 1) (uI σ 7 (nI (p + 1))) (fu + 1) (by omega) (by omega) (by omega) (or_256 hu (by omega)) (by rw [bc_or hu (by omega) z4]; omega) eu' rfl lo' (by omega) (HP _ z5)
        refine ⟨σ', q1, ?_⟩
        rcases q2 with q2 | ⟨σ2, q2, q3, q4⟩
        · exact Or.inl q2
        · exact Or.inr ⟨σ2, (Fr.uI (by decide)).tr q2, q3, q4⟩
    · rw [hm] at z1
      refine ⟨_, (st fu).2 z1, Or.inl ⟨?_, p, a6, rfl, z2⟩⟩
      exact a1.tr (((Fr.uI (by decide)).tr (Fr.stL (by decide))).tr (Fr.stA (by decide)))
end
