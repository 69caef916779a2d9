/-! ranking to its end; read -/
section
variable {g : List N3} {c : Nat → Nat → Nat} {b : Nat → Nat → Nat → Nat} {tp : Nat → Nat} {n : Nat} {F : TB} {N : Nat}
theorem rk_loop (hr : Rdy g) (hs : SB g tp n F 0 N) (ks : ∀ i, i < N → KS g tp n F i) (nb : ∀ i, i < N → ¬ brk g F i) (hz : ∀ j, j < N → F 4 j ≤ 24) (hn : n ≤ 300) (hN : N ≤ 300) (hpl : ∀ i j, i < j → j < N → F 1 i < F 1 j) (hp : ∀ i, i < N → F 1 i < 300) : ∀ (k fx fm : Nat) (σx σm : SS) (W : Nat → Nat) (B : Nat → Bool) (U : Nat → Option Nat), k ≤ N → k < fx → k < fm → XI g c b tp n F U N k σx → MI g c b F W B N k σm → (NRM g F N W B U k σx σm ∨ MNY g F N W B k σx σm) → ∃ (σx' σm' : SS) (W' : Nat → Nat) (B' : Nat → Bool) (U' : Nat → Option Nat) (fm' : Nat), P_X4_rank_j20 fx (nI k + (-1)) σx = some σx' ∧ P_X11_readHere_j117 fm (nI 1) (nI k) σm = P_X11_readHere_j117 (fm' + 1) (nI 1) (nI 0) σm' ∧ XI g c b tp n F U' N 0 σx' ∧ MI g c b F W' B' N 0 σm' ∧ (NRM g F N W' B' U' 0 σx' σm' ∨ MNY g F N W' B' 0 σx' σm') ∧ FXk σx σx' ∧ FMk σm σm' := by
  intro k
  induction k with
  | zero =>
    intro fx fm σx σm W B U h1 h2 h3 X M D
    obtain ⟨fx, rfl⟩ : ∃ k, fx = k + 1 := ⟨fx - 1, by omega⟩
    obtain ⟨fm, rfl⟩ : ∃ k, fm = k + 1 := ⟨fm - 1, by omega⟩
    refine ⟨σx, σm, W, B, U, fm, ?_, rfl, X, M, D, Fr.rf, Fr.rf⟩
    rw [down0, P_X4_rank_j20, if_pos (by decide)]
  | succ i ih =>
    intro fx fm σx σm W B U h1 h2 h3 X M D
    obtain ⟨fx, rfl⟩ : ∃ k, fx = k + 1 := ⟨fx - 1, by omega⟩
    obtain ⟨fm, rfl⟩ : ∃ k, fm = k + 1 := ⟨fm - 1, by omega⟩
    obtain ⟨σx1, σm1, W1, B1, U1, x1, m1, X1, M1, D1, f1, f2⟩ := rk_step hr hs ks nb hz hn hN hpl hp (show i < N by omega) X M D
    obtain ⟨σx', σm', W', B', U', fm', e1, e2, X', M', D', g1, g2⟩ := ih fx fm σx1 σm1 W1 B1 U1 (by omega) (by omega) (by omega) X1 M1 D1
    refine ⟨σx', σm', W', B', U', fm', ?_, ?_, X', M', D', f1.tr g1, f2.tr g2⟩
    · rw [down1, x1]
      exact e1
    · rw [P_X11_readHere_j117, if_neg (show ¬ nI (i + 1) < 1 from nI_nlt (b := 1) (by omega) (by omega)), m1, Option.bind_some, down1]
      exact e2
end
def J (σ : SS) : SS := uI (uI (uI (uI σ 1 1) 4 (sI σ 19)) 2 (sI σ 13)) 3 (sA σ 14 0)
theorem x_judge (σ : SS) : P_X10_judge σ = if sI σ 13 = 0 then (P_X4_rank (J σ)).bind fun σ9 => (P_X4_hasManyPart σ9).bind fun v11 => if v11 = 0 then (P_X4_hasTwin σ9).bind fun v14 => if v14 = 0 then (P_X4_wholeNumber σ9).bind fun v17 => (P_X10_orMany v17).bind fun v19 => some (v19, σ9) else (P_X4_twinPlace (uI σ9 2 3)).bind fun v21 => some (((-100) - v21).toInt64, (uI σ9 2 3)) else some ((-2000000004), σ9) else some (((-100) - sI σ 14).toInt64, J σ) := by
  unfold P_X10_judge P_X0_length_8 P_X5_fault P_X5_wholeSize P_X5_sizeAt P_X5_faultPlace
  rw [Option.bind_some, Option.bind_some, show (0 : Int32) = nI 0 from rfl, vX6_at_28 (by decide), Option.bind_some, Option.bind_some, Option.bind_some]
  rfl
theorem minus100 : ∀ q, q ≤ 300 → ((-100 : Int32) - nI q).toInt64 = (-100) - (nI q).toInt64 := by decide +kernel
abbrev FRX : SS → SS → Prop := Fr [1, 2, 3, 4, 10, 11, 12, 13, 14, 15, 16, 17, 18] [11, 12, 13, 14, 15, 16, 17, 18] [3, 4]
abbrev FRM : SS → SS → Prop := Fr [6, 7, 8, 9, 10, 12, 13] [10, 11, 12, 13, 14, 15, 16] [2, 3]
def sxs (σx : SS) (x : Nat) : SS := stA (uI (uI (uI σx 12 (nI x)) 10 0) 11 (-1)) 14 (nI 0) 0
def sma (σm : SS) : SS := uI (uI σm 11 1) 14 (sI (uI σm 11 1) 3)
def sms (σm : SS) : SS := uI (uI (uI (sma σm) 7 0) 8 (-1)) 6 0
theorem x_scan (σx : SS) (x : Nat) : P_X5_scan (nI x) σx = Sc 0 (sxs σx x) := by
  unfold P_X5_scan
  rw [show P_X6_set_28 0 0 (uI (uI (uI σx 12 (nI x)) 10 0) 11 (-1)) = some (sxs σx x) from vX6_set_28 (i := 0) (by decide), Option.bind_some]
  rfl
theorem sxs_fr (σx : SS) (x : Nat) : FRX σx (sxs σx x) := (((Fr.uI (by decide)).tr (Fr.uI (by decide))).tr (Fr.uI (by decide))).tr (Fr.stA (by decide))
theorem sms_fr (σm : SS) : FRM (sma σm) (sms σm) := ((Fr.uI (by decide)).tr (Fr.uI (by decide))).tr (Fr.uI (by decide))
theorem J_fr (σ : SS) : Fr [1, 2, 3, 4] [] [] σ (J σ) := (((Fr.uI (by decide)).tr (Fr.uI (by decide))).tr (Fr.uI (by decide))).tr (Fr.uI (by decide))
/-- a writing with a fault 1, 2 or 4 -/
theorem rd_bad {σx σm σf σr : SS} {x k q n : Nat} (hn : n ≤ 300) (e19 : sI σx 19 = nI n) (e3 : sI σm 3 = nI n) (hk : k = 1 ∨ k = 2 ∨ k = 4) (hq : q ≤ 300) (hr : Sc 0 (sxs σx x) = some σf) (ff : Fr [10, 11, 13, 14] [11, 12, 13, 14, 15, 16] [] (sxs σx x) σf) (f13 : sI σf 13 = nI k) (f14 : sI σf 14 = nI q) (fr : FMr (sms σm) σr) (hm : P_X11_readHere (nI x) (sma σm) = some ((-100) - (nI q).toInt64, uI (uI σr 12 (nI k)) 13 (-1))) : RdMain σx σm x := by
  have h13 : ¬ sI σf 13 = 0 := by rw [f13]; exact nI_ne0 (by omega) (by omega)
  have FF : FRX σx σf := (sxs_fr σx x).tr (ff.mono (by decide) (by decide) (by decide))
  have FM : FRM (sma σm) σr := (sms_fr σm).tr (fr.mono (by decide) (by decide) (by decide))
  refine ⟨(-100) - (nI q).toInt64, σf, J σf, uI (uI σr 12 (nI k)) 13 (-1), ?_, ?_, hm, FF.tr ((J_fr σf).mono (by decide) (by decide) (by decide)), FM.tr ((Fr.uI (by decide)).tr (Fr.uI (by decide))), ?_⟩
  · rw [x_scan]; exact hr
  · rw [x_judge, if_neg h13, f14, minus100 q hq]
  · have s2 : sI (J σf) 2 = nI k := f13
    have s4 : sI (J σf) 4 = nI n := (FF.1 19 (by decide)).trans e19
    refine ⟨Or.inr rfl, ?_, fun _ => ⟨?_, ?_, Or.inr ⟨?_, ?_, rfl⟩⟩⟩
    · rw [sI_uI, if_neg (by decide), sI_uI, if_neg (by decide), FM.1 11 (by decide)]
      rfl
    · rw [s2]; rfl
    · rw [s4, sI_uI, if_neg (by decide), sI_uI, if_neg (by decide), FM.1 14 (by decide)]
      exact e3
    · rw [s2]; exact nI_ne0 (by omega) (by omega)
    · rw [s2]; exact fun w => by have := (nI_eq (b := 3) (by omega) (by decide)).mp w; omega
/-- a writing without a fault 1, 2, 4 -/
theorem rd_good {g : List N3} {c : Nat → Nat → Nat} {b : Nat → Nat → Nat → Nat} {tp : Nat → Nat} {n x N : Nat} {F : TB} {σx σm σf σ3 : SS} (C : CTX g c b σx σm) (hn : n ≤ 300) (e19 : sI σx 19 = nI n) (e3 : sI σm 3 = nI n) (htp : ∀ j, j < n → sA σx 19 j = nI (tp j) ∧ tp j < 256) (hs : SB g tp n F 0 N) (ks : ∀ i, i < N → KS g tp n F i) (nb : ∀ i, i < N → ¬ brk g F i) (h24 : F 4 0 ≤ 24) (hpl : ∀ i j, i < j → j < N → F 1 i < F 1 j) (hp : ∀ i, i < N → F 1 i < 300) (hr : Sc 0 (sxs σx x) = some σf) (ff : Fr [10, 11, 13, 14] [11, 12, 13, 14, 15, 16] [] (sxs σx x) σf) (f13 : sI σf 13 = 0) (xr : XR g F N σf) (fr : FMr (sms σm) σ3) (sm : SM F 0 N σ3) (hm : P_X11_readHere (nI x) (sma σm) = P_X11_readHere_j117 FU (nI 1) (nI N) (uI (uI σ3 9 (-1)) 10 0)) : RdMain σx σm x := by
  obtain ⟨hrd, hgx, hgm, hxt, hmt⟩ := C
  have hN := xr.2.1
  have hN0 := hs.1.1
  have hz : ∀ j, j < N → F 4 j ≤ 24 := fun j hj => Nat.le_trans (sz_top hs j j (Nat.le_refl _) hj) h24
  have FF : FRX σx σf := (sxs_fr σx x).tr (ff.mono (by decide) (by decide) (by decide))
  have FM : FRM (sma σm) σ3 := (sms_fr σm).tr (fr.mono (by decide) (by decide) (by decide))
  have fma : Fr [11, 14] [] [] σm (sma σm) := (Fr.uI (by decide)).tr (Fr.uI (by decide))
  have FJ : FRX σx (uI (uI (J σf) 17 0) 18 (-1)) := (FF.tr ((J_fr σf).mono (by decide) (by decide) (by decide))).tr ((Fr.uI (by decide)).tr (Fr.uI (by decide)))
  have FK : FRM (sma σm) (uI (uI σ3 9 (-1)) 10 0) := FM.tr ((Fr.uI (by decide)).tr (Fr.uI (by decide)))
  have X : XI g c b tp n F (fun _ => none) N N (uI (uI (J σf) 17 0) 18 (-1)) := by
    refine ⟨FJ.gX hgx (by decide) (by decide) (by decide) (by decide), hxt.frame (FJ.2.2 0 (by decide)) (FJ.2.2 1 (by decide)), xr.frame rfl (fun _ _ _ => rfl), fun j j1 j2 => by omega, (FJ.1 19 (by decide)).trans e19, fun j hj => ?_⟩
    rw [FJ.2.1 19 (by decide)]
    exact htp j hj
  have M : MI g c b F (fun _ => 0) (fun _ => false) N N (uI (uI σ3 9 (-1)) 10 0) := by
    refine ⟨FK.gM (fma.gM hgm (by decide) (by decide) (by decide) (by decide)) (by decide) (by decide) (by decide) (by decide), (hmt.frame (fma.2.2 0 (by decide)) (fma.2.2 1 (by decide))).frame (FK.2.2 0 (by decide)) (FK.2.2 1 (by decide)), sm, fun j j1 j2 => by omega⟩
  have D : NRM g F N (fun _ => 0) (fun _ => false) (fun _ => none) N (uI (uI (J σf) 17 0) 18 (-1)) (uI (uI σ3 9 (-1)) 10 0) := ⟨rfl, rfl, fun j j1 j2 => by omega, fun j j1 j2 => by omega, rfl, Or.inl rfl, fun j j1 j2 => by omega⟩
  obtain ⟨σ9, σ7, W, B, U, fm, r1, r2, X', M', D', gx, gm⟩ := rk_loop hrd hs ks nb hz hn hN hpl hp N FU FU _ _ _ _ _ (Nat.le_refl _) (by unfold FU; omega) (by unfold FU; omega) X M (Or.inl D)
  have rank : P_X4_rank (J σf) = some σ9 := by
    unfold P_X4_rank P_X5_size
    rw [Option.bind_some, show sI (uI (uI (J σf) 17 0) 18 (-1)) 10 = nI N from xr.1]
    obtain ⟨N', rfl⟩ : ∃ k, N = k + 1 := ⟨N - 1, by omega⟩
    rw [nI_pred]
    rw [down1] at r1
    exact r1
  rw [r2, P_X11_readHere_j117, if_pos (show nI 0 < 1 by decide)] at hm
  have FX9 : FRX σx σ9 := FJ.tr (gx.mono (by decide) (by decide) (by decide))
  have FM7 : FRM (sma σm) σ7 := FK.tr (gm.mono (by decide) (by decide) (by decide))
  have s1 : sI σ9 1 = 1 := (gx.1 1 (by decide)).trans rfl
  have s2 : sI σ9 2 = 0 := (gx.1 2 (by decide)).trans f13
  have s3 : sI σ9 3 = nI (F 4 0) := (gx.1 3 (by decide)).trans (xr.2.2 0 hN0).2.2.2.1
  have s4 : sI σ9 4 = nI n := (gx.1 4 (by decide)).trans ((FF.1 19 (by decide)).trans e19)
  have t11 : sI σ7 11 = 1 := (FM7.1 11 (by decide)).trans rfl
  have t14 : sI σ7 14 = nI n := (FM7.1 14 (by decide)).trans e3
  have l12 : ∀ σ', sA σ' 12 = sA σ7 12 → ldA σ' 12 (nI 1) = nI (F 4 0) := by
    intro σ' h
    rw [ldA_nI (by decide), h]
    exact (M'.2.2.1.2.1 0 (Nat.le_refl _) hN0).2.2.1
  have g1 : ∀ {α : Type} {o : Option α}, gI (nI 1) 310 o = o := gI_nI (by decide) (by decide)
  have sc : P_X5_scan (nI x) σx = some σf := by rw [x_scan]; exact hr
  have p0 : 0 ≤ nI (F 4 0) := nI_pos' (by omega)
  -- no fault: the states at the end
  have good : ∀ v : Int64, P_X10_judge σf = some (v, σ9) → P_X11_readHere (nI x) (sma σm) = some (v, uI (uI σ7 12 0) 13 (nI (F 4 0))) → RdMain σx σm x := by
    intro v j1 j2
    refine ⟨v, σf, σ9, _, sc, j1, j2, FX9, FM7.tr ((Fr.uI (by decide)).tr (Fr.uI (by decide))), Or.inr s1, ?_, fun _ => ⟨?_, ?_, Or.inl ⟨Or.inl s2, ?_, ?_⟩⟩⟩
    · rw [s1]; exact t11
    · rw [s2]; rfl
    · rw [s4]; exact t14
    · rw [s3]; rfl
    · rw [s3]; exact p0
  have j165 : P_X11_readHere_j165 (nI 1) σ7 = if ¬ sI σ7 10 = 0 then some ((-2000000004), uI (uI σ7 12 0) 13 (nI (F 4 0))) else if ldL σ7 3 (nI 1) < 10000000000000000 then some (ldL σ7 3 (nI 1), uI (uI σ7 12 0) 13 (nI (F 4 0))) else some ((-2000000004), uI (uI σ7 12 0) 13 (nI (F 4 0))) := by
    unfold P_X11_readHere_j165
    rw [g1, g1, g1, l12 (uI σ7 12 0) rfl]
    rfl
  rcases D' with ⟨d1, d2, d3, d4, d5, d6, d7⟩ | ⟨d1, mb, d2, d3⟩
  · rw [d2, in0] at hm
    have jd : P_X10_judge σf = (P_X4_hasTwin σ9).bind fun v14 => if v14 = 0 then (P_X4_wholeNumber σ9).bind fun v17 => (P_X10_orMany v17).bind fun v19 => some (v19, σ9) else (P_X4_twinPlace (uI σ9 2 3)).bind fun v21 => some (((-100) - v21).toInt64, (uI σ9 2 3)) := by
      rw [x_judge, if_pos f13, rank, Option.bind_some]
      unfold P_X4_hasManyPart
      rw [d1, gZ_0, Option.bind_some, if_pos rfl]
    rcases d6 with q | ⟨r, r1', r2'⟩
    · have B0 : B 0 = false := bool_f (fun w => d7 0 (Nat.le_refl _) hN0 w q)
      have U0 : U 0 = some (W 0) := by rw [d4 0 (Nat.le_refl _) hN0, B0, if_neg (by decide)]
      have wn : P_X4_wholeNumber σ9 = some (lN (W 0)) := by
        unfold P_X4_wholeNumber
        rw [show (0 : Int32) = nI 0 from rfl, x_numAt X'.2.2.2.1 hN (Nat.le_refl _) hN0, Option.bind_some, U0]
        rfl
      have l3 : ldL σ7 3 (nI 1) = lN (W 0) := by rw [ldL_nI (by decide)]; exact (M'.2.2.2 0 (Nat.le_refl _) hN0).1
      unfold P_X4_hasTwin at jd
      rw [d5, q, if_pos rfl, Option.bind_some, if_pos rfl, wn, Option.bind_some] at jd
      rw [q, if_pos (by decide), j165, d2, in0, l3] at hm
      unfold P_X10_orMany at jd
      by_cases z : lN (W 0) < 10000000000000000
      · rw [if_pos z, Option.bind_some] at jd
        rw [if_pos z] at hm
        exact good _ jd hm
      · rw [if_neg z, Option.bind_some] at jd
        rw [if_neg z] at hm
        exact good _ jd hm
    · unfold P_X4_hasTwin P_X4_twinPlace at jd
      rw [d5, r2', if_neg (x_neg1 (by omega)), Option.bind_some, if_neg (by decide), Option.bind_some, sI_uI, if_neg (by decide), d5, r2', minus100 r (by omega)] at jd
      rw [r2', if_neg (nI_pos (by omega)), g1, l12 σ7 rfl] at hm
      unfold P_X11_fault at hm
      rw [b2_some] at hm
      refine ⟨_, σf, uI σ9 2 3, uI (uI σ7 12 3) 13 (nI (F 4 0)), sc, jd, hm, FX9.tr (Fr.uI (by decide)), FM7.tr ((Fr.uI (by decide)).tr (Fr.uI (by decide))), Or.inr s1, ?_, fun _ => ⟨rfl, ?_, Or.inl ⟨Or.inr rfl, ?_, ?_⟩⟩⟩
      · show sI σ7 11 = sI σ9 1
        rw [s1, t11]
      · show sI σ7 14 = sI σ9 4
        rw [s4, t14]
      · show nI (F 4 0) = sI σ9 3
        rw [s3]
      · show 0 ≤ sI σ9 3
        rw [s3]; exact p0
  · have mt : mb = true := by
      rcases d3 with w | ⟨j, j1, j2, j3, j4⟩
      · exact w
      · omega
    rw [d2, mt, b2i_t, in1, j165, d2, mt, b2i_t, in1] at hm
    have jd : P_X10_judge σf = some ((-2000000004), σ9) := by
      rw [x_judge, if_pos f13, rank, Option.bind_some]
      unfold P_X4_hasManyPart
      rw [d1, gZ_1, Option.bind_some, if_neg (by decide)]
    exact good _ jd hm
theorem rd_main (g : List N3) (c : Nat → Nat → Nat) (b : Nat → Nat → Nat → Nat) (σx σm : SS) (n x : Nat) (C : CTX g c b σx σm) (hb : Sb 19 19 3 4 n σx σm) (hx : x < g.length) : RdMain σx σm x := by
  obtain ⟨hn, e19, e3, by1⟩ := hb
  have hC := C
  obtain ⟨hrd, hgx, hgm, hxt, hmt⟩ := C
  obtain ⟨tp, htp⟩ : ∃ tp : Nat → Nat, ∀ j, j < n → sA σx 19 j = nI (tp j) ∧ sA σm 4 j = nI (tp j) ∧ tp j < 256 := by
    refine ⟨fun j => (sA σx 19 j).toInt.toNat, fun j hj => ?_⟩
    obtain ⟨h1, v, h2, h3⟩ := by1 j hj
    have e : (sA σx 19 j).toInt.toNat = v := by
      rw [h3, nI_toInt (by omega)]
      omega
    show sA σx 19 j = nI (sA σx 19 j).toInt.toNat ∧ sA σm 4 j = nI (sA σx 19 j).toInt.toNat ∧ (sA σx 19 j).toInt.toNat < 256
    rw [e]
    exact ⟨h3, by rw [← h1]; exact h3, h2⟩
  have fx0 : FRX σx (sxs σx x) := sxs_fr σx x
  have fm0 : Fr [6, 7, 8, 11, 14] [] [] σm (sms σm) := ((((Fr.uI (by decide)).tr (Fr.uI (by decide))).tr (Fr.uI (by decide))).tr (Fr.uI (by decide))).tr (Fr.uI (by decide))
  have P : PC g tp n x (sxs σx x) (sms σm) := by
    refine ⟨hrd.1, hrd.2.1, fx0.gX hgx (by decide) (by decide) (by decide) (by decide), fm0.gM hgm (by decide) (by decide) (by decide) (by decide), hn, (fx0.1 19 (by decide)).trans e19, (fm0.1 3 (by decide)).trans e3, fun j hj => ?_, rfl⟩
    rw [fx0.2.1 19 (by decide), fm0.2.1 4 (by decide)]
    exact htp j hj
  have S0 : PS g n (sxs σx x) (sms σm) (Sc 0 (sxs σx x)) (fun _ _ => 0) 0 0 [] (sms σm) := ⟨Fr.rf, rfl, rfl, rfl, Nat.le_refl _, Nat.zero_le _, fun i j _ h => by omega, fun i h => by omega, sxs σx x, Fr.rf, ⟨rfl, by omega, fun i h => by omega, fun i h => by omega⟩, rfl, trivial, rfl⟩
  obtain ⟨v, σ3, p1, p2⟩ := parse_all P LV (fun _ _ => 0) 0 0 [] (sms σm) x S0 hx ⟨rfl, rfl⟩ (by unfold LV; omega)
  have rh : P_X11_readHere (nI x) (sma σm) = if 0 ≤ sI σ3 8 then P_X11_readHere_j47 v σ3 else if sI σ3 3 ≤ sI σ3 7 then P_X11_readHere_j47 v σ3 else P_X11_readHere_j47 v (uI σ3 8 (sI σ3 7)) := by
    unfold P_X11_readHere
    rw [show P_X11_part LV (nI x) (uI (uI (uI (sma σm) 7 0) 8 (-1)) 6 0) = some (v, σ3) from p1, b2_some]
  have bad47 : ∀ σ q, q ≤ 300 → sI σ 8 = nI q → P_X11_readHere_j47 v σ = some ((-100) - (nI q).toInt64, uI (uI σ 12 (nI 1)) 13 (-1)) := by
    intro σ q hq e8
    unfold P_X11_readHere_j47 P_X11_fault
    rw [e8, if_neg (nI_pos (by omega)), b2_some]
    rfl
  rcases p2 with ⟨fb, q, q1, q2, σf, b1, b2, b3, b4⟩ | ⟨rfl, F, N, p, H, hs, sm, k0, f0, -, -, -, -⟩
  · rw [q2, if_pos (nI_pos' (by omega)), bad47 σ3 q (by omega) q2] at rh
    exact rd_bad hn e19 e3 (Or.inl rfl) (by omega) b1 b2 b3 b4 fb rh
  · have H' := H
    obtain ⟨a1, a2, a3, a4, a5, a6, a7, a8, a9⟩ := H
    have hN0 := hs.1.1
    have c9 : PSx g (sxs σx x) F N p [] (Sc 0 (sxs σx x)) := a9
    rw [a4, if_neg (by decide), (a1.1 3 (by decide)).trans ((fm0.1 3 (by decide)).trans e3), a3] at rh
    by_cases z : p < n
    · rw [if_neg (nI_ge z (by omega)), bad47 (uI σ3 8 (nI p)) p (by omega) rfl] at rh
      obtain ⟨σf, b1, b2, b3, b4⟩ := c_more P c9 hN0 z
      exact rd_bad hn e19 e3 (Or.inl rfl) (by omega) b1 b2 b3 b4 (a1.tr (Fr.uI (by decide))) rh
    · have e : p = n := by omega
      subst e
      rw [if_pos (nI_le (Nat.le_refl _) (by omega))] at rh
      have hN : N ≤ 300 := by omega
      have hg3 : gM' g σ3 := a1.gM (fm0.gM hgm (by decide) (by decide) (by decide) (by decide)) (by decide) (by decide) (by decide) (by decide)
      have hz : ∀ i, i < N → F 4 i ≤ 4500 := fun i hi => sz_lt hrd.1 hs hN hi
      have hp : ∀ i, i < N → F 1 i < 300 := fun i hi => by have := a8 i hi; omega
      obtain ⟨mA, mB⟩ := m_cut hrd.1 hg3 a2 hN sm (fun i hi => (hs.2.1 i (by omega) hi).1) hz hp a7
      obtain ⟨cA, cB⟩ := c_end P c9 hs
      have ks : ∀ i, i < N → KS g tp p F i := fun i hi => by
        by_cases w : i = 0
        · subst w; exact k0
        · exact (hs.2.2.1 i (by omega) hi).1
      unfold P_X11_readHere_j47 at rh
      rw [a4, if_pos (by decide)] at rh
      rcases first_or (brk g F) N with no | ⟨i, hi, bi, no⟩
      · obtain ⟨σf, b1, b2, b3, b4, b5⟩ := cA no
        have l12 : ldA σ3 12 (nI (0 + 1)) = nI (F 4 0) := by
          rw [ldA_nI (by decide)]
          exact (sm.2.1 0 (Nat.le_refl _) hN0).2.2.1
        rw [mA no, Option.bind_some, if_pos (by decide), gI_nI (by decide) (by decide), l12] at rh
        have z0 := hz 0 hN0
        by_cases w : F 4 0 ≤ 24
        · rw [if_pos w] at b4
          rw [if_pos (show nI (F 4 0) < 25 from nI_lt (b := 25) (by omega) (by decide)), show sI (uI (uI σ3 9 (-1)) 10 0) 6 = nI N from a2] at rh
          exact rd_good hC hn e19 e3 (fun j hj => ⟨(htp j hj).1, (htp j hj).2.2⟩) hs ks no w a7 hp b1 b3 b4 b2 a1 sm rh
        · rw [if_neg w] at b4
          rw [if_neg (show ¬ nI (F 4 0) < 25 from nI_nlt (b := 25) (by omega) (by omega))] at rh
          exact rd_bad (k := 4) (q := 0) hn e19 e3 (Or.inr (Or.inr rfl)) (by omega) b1 b3 b4 b5 a1 rh
      · obtain ⟨σf, b1, b2, b3, b4⟩ := cB i hi bi no
        rw [mB i hi bi no, Option.bind_some, if_neg (nI_pos (by have := hp i hi; omega))] at rh
        exact rd_bad (k := 2) (q := F 1 i) hn e19 e3 (Or.inr (Or.inl rfl)) (by have := hp i hi; omega) b1 b2 b3 b4 a1 rh
theorem read_ok : ReadOK := read_of rd_main
