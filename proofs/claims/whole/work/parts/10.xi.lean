def P_X5_blame (a1 : Int32) (a2 : Int32) (σ : SS) : Option SS :=
  some (uI (uI σ 13 a1) 14 a2)
set_option maxHeartbeats 4000000 in
set_option maxRecDepth 100000 in
theorem T_X5_blame {X : XE} {σf : SS} {σ : SS} {a1 : Int32} {a2 : Int32} (h : P_X5_blame a1 a2 σ = some σf) : Mt (gX X) 0 yX5_blame cX5_blame 3 none [.ref (xq X 6), .int a1, .int a2] σ none σf := by
  refine Mt.of (own := RX5) (lv := [(0, .ref (xq X 6)), (1, .int a1), (2, .int a2)]) pn_X5 rfl (Nat.le_of_ble_eq_true rfl) rfl ?_
  unfold P_X5_blame at h
  refine r_aload_n 0 dX5_blame_0 rfl rfl rfl ?_
  refine r_iload_n 1 dX5_blame_1 rfl rfl rfl ?_
  refine pf_X5_38_6 dX5_blame_2 rfl ?_
  refine r_aload_n 0 dX5_blame_5 rfl rfl rfl ?_
  refine r_iload_n 2 dX5_blame_6 rfl rfl rfl ?_
  refine pf_X5_42_6 dX5_blame_7 rfl ?_
  exact r_vretS dX5_blame_10 h
def P_X6_at_28 (a1 : Int32) (σ : SS) : Option Int32 :=
  if a1 < 0 then
    some 0
  else
    if 300 ≤ a1 then
      some 0
    else
      gI a1 300 <|
      some (ldA σ 14 a1)
set_option maxHeartbeats 4000000 in
set_option maxRecDepth 100000 in
theorem T_X6_at_28 {X : XE} {σ : SS} {r : Int32} {a1 : Int32} (h : P_X6_at_28 a1 σ = some r) : Mt (gX X) 0 yX6_at cX6_at 2 (some .int) [.ref (xq X 28), .int a1] σ (some (.int r)) σ := by
  refine Mt.of (own := RX6) (lv := [(0, .ref (xq X 28)), (1, .int a1)]) pn_X6 rfl (Nat.le_of_ble_eq_true rfl) rfl ?_
  unfold P_X6_at_28 at h
  refine r_iload_n 1 dX6_at_0 rfl rfl rfl ?_
  refine r_if_lt (t := 16) dX6_at_1 (by decide) rfl (fun c1 => ?_) (fun c1 => ?_)
  · have h := it_t c1 h
    refine ric_0 dX6_at_16 rfl ?_
    exact r_iretR dX6_at_17 h
  · have h := it_f c1 h
    refine r_iload_n 1 dX6_at_4 rfl rfl rfl ?_
    refine r_aload_n 0 dX6_at_5 rfl rfl rfl ?_
    refine anX_28 dX6_at_6 rfl ?_
    refine r_icmp_ge (t := 16) dX6_at_7 (by decide) rfl (fun c2 => ?_) (fun c2 => ?_)
    · have h := it_t c2 h
      refine ric_0 dX6_at_16 rfl ?_
      exact r_iretR dX6_at_17 h
    · have h := it_f c2 h
      refine r_aload_n 0 dX6_at_10 rfl rfl rfl ?_
      refine r_iload_n 1 dX6_at_11 rfl rfl rfl ?_
      obtain ⟨hi3, h⟩ := gi h
      refine alX_28 hi3 dX6_at_12 rfl ?_
      refine r_goto (t := 17) dX6_at_13 (by decide) ?_
      exact r_iretR dX6_at_17 h
def P_X5_sizeAt (a1 : Int32) (σ : SS) : Option Int32 :=
  (P_X6_at_28 a1 σ).bind fun v2 =>
  some v2
set_option maxHeartbeats 4000000 in
set_option maxRecDepth 100000 in
theorem T_X5_sizeAt {X : XE} {σ : SS} {r : Int32} {a1 : Int32} (h : P_X5_sizeAt a1 σ = some r) : Mt (gX X) 1 yX5_sizeAt cX5_sizeAt 2 (some .int) [.ref (xq X 6), .int a1] σ (some (.int r)) σ := by
  refine Mt.of (own := RX5) (lv := [(0, .ref (xq X 6)), (1, .int a1)]) pn_X5 rfl (Nat.le_of_ble_eq_true rfl) rfl ?_
  unfold P_X5_sizeAt at h
  refine r_aload_n 0 dX5_sizeAt_0 rfl rfl rfl ?_
  refine gf_X5_21_6 dX5_sizeAt_1 rfl ?_
  refine r_iload_n 1 dX5_sizeAt_4 rfl rfl rfl ?_
  obtain ⟨v2, e1, h⟩ := bd h
  refine r_callS (As := [.ref (xq X 28), .int a1]) (rest := []) (T_X6_at_28 e1) (by decide) mf_X6_at rfl tw_446 tw_760 rfl (Nat.le_of_ble_eq_true rfl) dX5_sizeAt_5 rfl ?_
  refine r_call0 ?_
  exact r_iretR dX5_sizeAt_8 h
def P_X6_at_29 (a1 : Int32) (σ : SS) : Option Int32 :=
  if a1 < 0 then
    some 0
  else
    if 300 ≤ a1 then
      some 0
    else
      gI a1 300 <|
      some (ldA σ 15 a1)
set_option maxHeartbeats 4000000 in
set_option maxRecDepth 100000 in
theorem T_X6_at_29 {X : XE} {σ : SS} {r : Int32} {a1 : Int32} (h : P_X6_at_29 a1 σ = some r) : Mt (gX X) 0 yX6_at cX6_at 2 (some .int) [.ref (xq X 29), .int a1] σ (some (.int r)) σ := by
  refine Mt.of (own := RX6) (lv := [(0, .ref (xq X 29)), (1, .int a1)]) pn_X6 rfl (Nat.le_of_ble_eq_true rfl) rfl ?_
  unfold P_X6_at_29 at h
  refine r_iload_n 1 dX6_at_0 rfl rfl rfl ?_
  refine r_if_lt (t := 16) dX6_at_1 (by decide) rfl (fun c1 => ?_) (fun c1 => ?_)
  · have h := it_t c1 h
    refine ric_0 dX6_at_16 rfl ?_
    exact r_iretR dX6_at_17 h
  · have h := it_f c1 h
    refine r_iload_n 1 dX6_at_4 rfl rfl rfl ?_
    refine r_aload_n 0 dX6_at_5 rfl rfl rfl ?_
    refine anX_29 dX6_at_6 rfl ?_
    refine r_icmp_ge (t := 16) dX6_at_7 (by decide) rfl (fun c2 => ?_) (fun c2 => ?_)
    · have h := it_t c2 h
      refine ric_0 dX6_at_16 rfl ?_
      exact r_iretR dX6_at_17 h
    · have h := it_f c2 h
      refine r_aload_n 0 dX6_at_10 rfl rfl rfl ?_
      refine r_iload_n 1 dX6_at_11 rfl rfl rfl ?_
      obtain ⟨hi3, h⟩ := gi h
      refine alX_29 hi3 dX6_at_12 rfl ?_
      refine r_goto (t := 17) dX6_at_13 (by decide) ?_
      exact r_iretR dX6_at_17 h
def P_X5_endAt (a1 : Int32) (σ : SS) : Option Int32 :=
  (P_X6_at_29 a1 σ).bind fun v2 =>
  some v2
set_option maxHeartbeats 4000000 in
set_option maxRecDepth 100000 in
theorem T_X5_endAt {X : XE} {σ : SS} {r : Int32} {a1 : Int32} (h : P_X5_endAt a1 σ = some r) : Mt (gX X) 1 yX5_endAt cX5_endAt 2 (some .int) [.ref (xq X 6), .int a1] σ (some (.int r)) σ := by
  refine Mt.of (own := RX5) (lv := [(0, .ref (xq X 6)), (1, .int a1)]) pn_X5 rfl (Nat.le_of_ble_eq_true rfl) rfl ?_
  unfold P_X5_endAt at h
  refine r_aload_n 0 dX5_endAt_0 rfl rfl rfl ?_
  refine gf_X5_24_6 dX5_endAt_1 rfl ?_
  refine r_iload_n 1 dX5_endAt_4 rfl rfl rfl ?_
  obtain ⟨v2, e1, h⟩ := bd h
  refine r_callS (As := [.ref (xq X 29), .int a1]) (rest := []) (T_X6_at_29 e1) (by decide) mf_X6_at rfl tw_446 tw_760 rfl (Nat.le_of_ble_eq_true rfl) dX5_endAt_5 rfl ?_
  refine r_call0 ?_
  exact r_iretR dX5_endAt_8 h
def P_X5_sumUp_j7 : Nat → Int32 → SS → Option SS
  | 0, _, _ => none
  | n + 1, x1, σ =>
    if x1 ≤ 0 then
      some σ
    else
      (P_X5_parentAt x1 σ).bind fun v3 =>
      (P_X5_sizeAt v3 σ).bind fun v5 =>
      (P_X5_sizeAt x1 σ).bind fun v7 =>
      (P_X6_set_28 v3 (v5 + v7) σ).bind fun σ9 =>
      (P_X5_endAt v3 σ9).bind fun v11 =>
      (P_X5_endAt x1 σ9).bind fun v13 =>
      (P_X6_set_29 v3 (mmaxi v11 v13) σ9).bind fun σ15 =>
      (P_X5_sumUp_j7 n) (x1 + (-1)) σ15
set_option maxHeartbeats 4000000 in
set_option maxRecDepth 100000 in
theorem T_X5_sumUp_j7 {X : XE} {σf : SS} : ∀ (fu : Nat) (x1 : Int32) (σ : SS), P_X5_sumUp_j7 fu x1 σ = some σf → V (gX X) 2 RX5 cX5_sumUp 3 none none σf 7 [(0, .ref (xq X 6)), (1, .int x1)] [] σ := by
  intro fu
  induction fu with
  | zero => intro x1 σ h; exact no0 h
  | succ n ih =>
    intro x1 σ h
    unfold P_X5_sumUp_j7 at h
    refine r_iload_n 1 dX5_sumUp_7 rfl rfl rfl ?_
    refine r_if_le (t := 63) dX5_sumUp_8 (by decide) rfl (fun c1 => ?_) (fun c1 => ?_)
    · have h := it_t c1 h
      exact r_vretS dX5_sumUp_63 h
    · have h := it_f c1 h
      refine r_aload_n 0 dX5_sumUp_11 rfl rfl rfl ?_
      refine r_iload_n 1 dX5_sumUp_12 rfl rfl rfl ?_
      obtain ⟨v3, e2, h⟩ := bd h
      refine r_callV (rest := []) (T_X5_parentAt e2) (by decide) mf_X5_parentAt rfl tw_757 tw_758 tw_756 cX_6 rfl rfl rfl (Nat.le_of_ble_eq_true rfl) dX5_sumUp_13 rfl ?_
      refine r_call0 ?_
      refine r_istore_n (lv' := [(2, .int v3), (0, .ref (xq X 6)), (1, .int x1)]) dX5_sumUp_16 rfl (by decide) rfl rfl ?_
      refine r_aload_n 1 dX5_sumUp_17 rfl rfl rfl ?_
      refine gf_X5_21_6 dX5_sumUp_18 rfl ?_
      refine r_iload_n 0 dX5_sumUp_21 rfl rfl rfl ?_
      refine r_aload_n 1 dX5_sumUp_22 rfl rfl rfl ?_
      refine r_iload_n 0 dX5_sumUp_23 rfl rfl rfl ?_
      obtain ⟨v5, e4, h⟩ := bd h
      refine r_callV (rest := [.int v3, .ref (xq X 28)]) (T_X5_sizeAt e4) (by decide) mf_X5_sizeAt rfl tw_788 tw_789 tw_787 cX_6 rfl rfl rfl (Nat.le_of_ble_eq_true rfl) dX5_sumUp_24 rfl ?_
      refine r_call0 ?_
      refine r_aload_n 1 dX5_sumUp_27 rfl rfl rfl ?_
      refine r_iload_n 2 dX5_sumUp_28 rfl rfl rfl ?_
      obtain ⟨v7, e6, h⟩ := bd h
      refine r_callV (rest := [.int v5, .int v3, .ref (xq X 28)]) (T_X5_sizeAt e6) (by decide) mf_X5_sizeAt rfl tw_788 tw_789 tw_787 cX_6 rfl rfl rfl (Nat.le_of_ble_eq_true rfl) dX5_sumUp_29 rfl ?_
      refine r_call0 ?_
      refine r_iadd dX5_sumUp_32 rfl ?_
      obtain ⟨σ9, e8, h⟩ := bd h
      refine r_callS (As := [.ref (xq X 28), .int v3, .int (v5 + v7)]) (rest := []) (T_X6_set_28 e8) (by decide) mf_X6_set rfl tw_400 tw_732 rfl (Nat.le_of_ble_eq_true rfl) dX5_sumUp_33 rfl ?_
      refine r_calln ?_
      refine r_aload_n 1 dX5_sumUp_36 rfl rfl rfl ?_
      refine gf_X5_24_6 dX5_sumUp_37 rfl ?_
      refine r_iload_n 0 dX5_sumUp_40 rfl rfl rfl ?_
      refine r_aload_n 1 dX5_sumUp_41 rfl rfl rfl ?_
      refine r_iload_n 0 dX5_sumUp_42 rfl rfl rfl ?_
      obtain ⟨v11, e10, h⟩ := bd h
      refine r_callV (rest := [.int v3, .ref (xq X 29)]) (T_X5_endAt e10) (by decide) mf_X5_endAt rfl tw_792 tw_793 tw_791 cX_6 rfl rfl rfl (Nat.le_of_ble_eq_true rfl) dX5_sumUp_43 rfl ?_
      refine r_call0 ?_
      refine r_aload_n 1 dX5_sumUp_46 rfl rfl rfl ?_
      refine r_iload_n 2 dX5_sumUp_47 rfl rfl rfl ?_
      obtain ⟨v13, e12, h⟩ := bd h
      refine r_callV (rest := [.int v11, .int v3, .ref (xq X 29)]) (T_X5_endAt e12) (by decide) mf_X5_endAt rfl tw_792 tw_793 tw_791 cX_6 rfl rfl rfl (Nat.le_of_ble_eq_true rfl) dX5_sumUp_48 rfl ?_
      refine r_call0 ?_
      refine r_mmaxi (by decide) (Nat.le_of_ble_eq_true rfl) tw_795 dX5_sumUp_51 rfl ?_
      obtain ⟨σ15, e14, h⟩ := bd h
      refine r_callS (As := [.ref (xq X 29), .int v3, .int (mmaxi v11 v13)]) (rest := []) (T_X6_set_29 e14) (by decide) mf_X6_set rfl tw_400 tw_732 rfl (Nat.le_of_ble_eq_true rfl) dX5_sumUp_54 rfl ?_
      refine r_calln ?_
      refine r_iinc (v := (x1 + (-1))) (lv' := [(1, .int (x1 + (-1))), (2, .int v3), (0, .ref (xq X 6))]) 2 dX5_sumUp_57 rfl rfl (by decide) rfl rfl ?_
      refine r_goto (t := 7) dX5_sumUp_60 (by decide) ?_
      refine r_sub [2, 0] rfl ?_
      exact ih (x1 + (-1)) σ15 h
def P_X5_sumUp (σ : SS) : Option SS :=
  P_X5_sumUp_j7 FU ((sI σ 10) - 1) σ
set_option maxHeartbeats 4000000 in
set_option maxRecDepth 100000 in
theorem T_X5_sumUp {X : XE} {σf : SS} {σ : SS} (h : P_X5_sumUp σ = some σf) : Mt (gX X) 2 yX5_sumUp cX5_sumUp 3 none [.ref (xq X 6)] σ none σf := by
  refine Mt.of (own := RX5) (lv := [(0, .ref (xq X 6))]) pn_X5 rfl (Nat.le_of_ble_eq_true rfl) rfl ?_
  unfold P_X5_sumUp at h
  refine r_aload_n 0 dX5_sumUp_0 rfl rfl rfl ?_
  refine gf_X5_45_6 dX5_sumUp_1 rfl ?_
  refine ric_1 dX5_sumUp_4 rfl ?_
  refine r_isub dX5_sumUp_5 rfl ?_
  refine r_istore_n (lv' := [(1, .int ((sI σ 10) - 1)), (0, .ref (xq X 6))]) dX5_sumUp_6 rfl (by decide) rfl rfl ?_
  refine r_sub [1, 0] rfl ?_
  exact T_X5_sumUp_j7 FU ((sI σ 10) - 1) σ h
def P_X5_firstBrokenCut_j61 (σ : SS) (K2 : Int32 → Option Int32) (x1 : Int32) : Option Int32 :=
  K2 (x1 + 1)
set_option maxHeartbeats 4000000 in
set_option maxRecDepth 100000 in
theorem T_X5_firstBrokenCut_j61 {X : XE} {σ : SS} {r : Int32} {K2 : Int32 → Option Int32} (hK2 : ∀ (x1 : Int32), K2 x1 = some r → V (gX X) 2 RX5 cX5_firstBrokenCut 4 (some .int) (some (.int r)) σ 2 [(0, .ref (xq X 6)), (1, .int x1)] [] σ) : ∀ (x1 : Int32), P_X5_firstBrokenCut_j61 σ K2 x1 = some r → V (gX X) 2 RX5 cX5_firstBrokenCut 4 (some .int) (some (.int r)) σ 61 [(0, .ref (xq X 6)), (1, .int x1)] [] σ := by
  intro x1 h
  unfold P_X5_firstBrokenCut_j61 at h
  refine r_iinc (v := (x1 + 1)) (lv' := [(1, .int (x1 + 1)), (0, .ref (xq X 6))]) 1 dX5_firstBrokenCut_61 rfl rfl (by decide) rfl rfl ?_
  refine r_goto (t := 2) dX5_firstBrokenCut_64 (by decide) ?_
  refine r_sub [1, 0] rfl ?_
  exact hK2 (x1 + 1) h
def P_X5_firstBrokenCut_j2 (σ : SS) : Nat → Int32 → Option Int32
  | 0, _ => none
  | n + 1, x1 =>
    if (sI σ 10) ≤ x1 then
      some (-1)
    else
      (P_X5_shapeAt x1 σ).bind fun v3 =>
      (P_X5_sizeAt x1 σ).bind fun v5 =>
      (P_X1_kind v3 σ).bind fun v7 =>
      if ¬ v7 = 7 then
        P_X5_firstBrokenCut_j61 σ (P_X5_firstBrokenCut_j2 σ n) x1
      else
        (P_X1_low v3 σ).bind fun v10 =>
        if v5 < v10 then
          some x1
        else
          (P_X1_high v3 σ).bind fun v13 =>
          if v5 ≤ v13 then
            P_X5_firstBrokenCut_j61 σ (P_X5_firstBrokenCut_j2 σ n) x1
          else
            some x1
set_option maxHeartbeats 4000000 in
set_option maxRecDepth 100000 in
theorem T_X5_firstBrokenCut_j2 {X : XE} {σ : SS} {r : Int32} : ∀ (fu : Nat) (x1 : Int32), P_X5_firstBrokenCut_j2 σ fu x1 = some r → V (gX X) 2 RX5 cX5_firstBrokenCut 4 (some .int) (some (.int r)) σ 2 [(0, .ref (xq X 6)), (1, .int x1)] [] σ := by
  intro fu
  induction fu with
  | zero => intro x1 h; exact no0 h
  | succ n ih =>
    intro x1 h
    unfold P_X5_firstBrokenCut_j2 at h
    refine r_iload_n 1 dX5_firstBrokenCut_2 rfl rfl rfl ?_
    refine r_aload_n 0 dX5_firstBrokenCut_3 rfl rfl rfl ?_
    refine gf_X5_45_6 dX5_firstBrokenCut_4 rfl ?_
    refine r_icmp_ge (t := 67) dX5_firstBrokenCut_7 (by decide) rfl (fun c1 => ?_) (fun c1 => ?_)
    · have h := it_t c1 h
      refine ric_m1 dX5_firstBrokenCut_67 rfl ?_
      exact r_iretR dX5_firstBrokenCut_68 h
    · have h := it_f c1 h
      refine r_aload_n 0 dX5_firstBrokenCut_10 rfl rfl rfl ?_
      refine r_iload_n 1 dX5_firstBrokenCut_11 rfl rfl rfl ?_
      obtain ⟨v3, e2, h⟩ := bd h
      refine r_callV (rest := []) (T_X5_shapeAt e2) (by decide) mf_X5_shapeAt rfl tw_762 tw_763 tw_761 cX_6 rfl rfl rfl (Nat.le_of_ble_eq_true rfl) dX5_firstBrokenCut_12 rfl ?_
      refine r_call0 ?_
      refine r_istore_n (lv' := [(2, .int v3), (0, .ref (xq X 6)), (1, .int x1)]) dX5_firstBrokenCut_15 rfl (by decide) rfl rfl ?_
      refine r_aload_n 1 dX5_firstBrokenCut_16 rfl rfl rfl ?_
      refine r_iload_n 2 dX5_firstBrokenCut_17 rfl rfl rfl ?_
      obtain ⟨v5, e4, h⟩ := bd h
      refine r_callV (rest := []) (T_X5_sizeAt e4) (by decide) mf_X5_sizeAt rfl tw_788 tw_789 tw_787 cX_6 rfl rfl rfl (Nat.le_of_ble_eq_true rfl) dX5_firstBrokenCut_18 rfl ?_
      refine r_call0 ?_
      refine r_istore_n (lv' := [(3, .int v5), (2, .int v3), (0, .ref (xq X 6)), (1, .int x1)]) dX5_firstBrokenCut_21 rfl (by decide) rfl rfl ?_
      refine r_aload_n 2 dX5_firstBrokenCut_22 rfl rfl rfl ?_
      refine gf_X5_30_6 dX5_firstBrokenCut_23 rfl ?_
      refine r_iload_n 1 dX5_firstBrokenCut_26 rfl rfl rfl ?_
      obtain ⟨v7, e6, h⟩ := bd h
      refine r_callV (rest := []) (T_X1_kind e6) (by decide) mf_X1_kind rfl tw_420 tw_421 tw_743 cX_1 rfl rfl rfl (Nat.le_of_ble_eq_true rfl) dX5_firstBrokenCut_27 rfl ?_
      refine r_call0 ?_
      refine r_bipush (v := 7) dX5_firstBrokenCut_30 (by decide) rfl ?_
      refine r_icmp_ne (t := 61) dX5_firstBrokenCut_32 (by decide) rfl (fun c8 => ?_) (fun c8 => ?_)
      · have h := it_t c8 h
        refine r_sub [2, 3] rfl ?_
        exact T_X5_firstBrokenCut_j61 ih x1 h
      · have h := it_n c8 h
        refine r_iload_n 0 dX5_firstBrokenCut_35 rfl rfl rfl ?_
        refine r_aload_n 2 dX5_firstBrokenCut_36 rfl rfl rfl ?_
        refine gf_X5_30_6 dX5_firstBrokenCut_37 rfl ?_
        refine r_iload_n 1 dX5_firstBrokenCut_40 rfl rfl rfl ?_
        obtain ⟨v10, e9, h⟩ := bd h
        refine r_callV (rest := [.int v5]) (T_X1_low e9) (by decide) mf_X1_low rfl tw_486 tw_487 tw_802 cX_1 rfl rfl rfl (Nat.le_of_ble_eq_true rfl) dX5_firstBrokenCut_41 rfl ?_
        refine r_call0 ?_
        refine r_icmp_lt (t := 59) dX5_firstBrokenCut_44 (by decide) rfl (fun c11 => ?_) (fun c11 => ?_)
        · have h := it_t c11 h
          refine r_iload_n 3 dX5_firstBrokenCut_59 rfl rfl rfl ?_
          exact r_iretR dX5_firstBrokenCut_60 h
        · have h := it_f c11 h
          refine r_iload_n 0 dX5_firstBrokenCut_47 rfl rfl rfl ?_
          refine r_aload_n 2 dX5_firstBrokenCut_48 rfl rfl rfl ?_
          refine gf_X5_30_6 dX5_firstBrokenCut_49 rfl ?_
          refine r_iload_n 1 dX5_firstBrokenCut_52 rfl rfl rfl ?_
          obtain ⟨v13, e12, h⟩ := bd h
          refine r_callV (rest := [.int v5]) (T_X1_high e12) (by decide) mf_X1_high rfl tw_588 tw_589 tw_803 cX_1 rfl rfl rfl (Nat.le_of_ble_eq_true rfl) dX5_firstBrokenCut_53 rfl ?_
          refine r_call0 ?_
          refine r_icmp_le (t := 61) dX5_firstBrokenCut_56 (by decide) rfl (fun c14 => ?_) (fun c14 => ?_)
          · have h := it_t c14 h
            refine r_sub [2, 3] rfl ?_
            exact T_X5_firstBrokenCut_j61 ih x1 h
          · have h := it_f c14 h
            refine r_iload_n 3 dX5_firstBrokenCut_59 rfl rfl rfl ?_
            exact r_iretR dX5_firstBrokenCut_60 h
def P_X5_firstBrokenCut (σ : SS) : Option Int32 :=
  P_X5_firstBrokenCut_j2 σ FU 0
set_option maxHeartbeats 4000000 in
set_option maxRecDepth 100000 in
theorem T_X5_firstBrokenCut {X : XE} {σ : SS} {r : Int32} (h : P_X5_firstBrokenCut σ = some r) : Mt (gX X) 2 yX5_firstBrokenCut cX5_firstBrokenCut 4 (some .int) [.ref (xq X 6)] σ (some (.int r)) σ := by
  refine Mt.of (own := RX5) (lv := [(0, .ref (xq X 6))]) pn_X5 rfl (Nat.le_of_ble_eq_true rfl) rfl ?_
  unfold P_X5_firstBrokenCut at h
  refine ric_0 dX5_firstBrokenCut_0 rfl ?_
  refine r_istore_n (lv' := [(1, .int 0), (0, .ref (xq X 6))]) dX5_firstBrokenCut_1 rfl (by decide) rfl rfl ?_
  refine r_sub [1, 0] rfl ?_
  exact T_X5_firstBrokenCut_j2 FU 0 h
def P_X5_wholeSize (σ : SS) : Option Int32 :=
  (P_X5_sizeAt 0 σ).bind fun v2 =>
  some v2
set_option maxHeartbeats 4000000 in
set_option maxRecDepth 100000 in
theorem T_X5_wholeSize {X : XE} {σ : SS} {r : Int32} (h : P_X5_wholeSize σ = some r) : Mt (gX X) 2 yX5_wholeSize cX5_wholeSize 1 (some .int) [.ref (xq X 6)] σ (some (.int r)) σ := by
  refine Mt.of (own := RX5) (lv := [(0, .ref (xq X 6))]) pn_X5 rfl (Nat.le_of_ble_eq_true rfl) rfl ?_
  unfold P_X5_wholeSize at h
  refine r_aload_n 0 dX5_wholeSize_0 rfl rfl rfl ?_
  refine ric_0 dX5_wholeSize_1 rfl ?_
  obtain ⟨v2, e1, h⟩ := bd h
  refine r_callV (rest := []) (T_X5_sizeAt e1) (by decide) mf_X5_sizeAt rfl tw_788 tw_789 tw_787 cX_6 rfl rfl rfl (Nat.le_of_ble_eq_true rfl) dX5_wholeSize_2 rfl ?_
  refine r_call0 ?_
  exact r_iretR dX5_wholeSize_5 h
def P_X5_scan_j59 (x2 : Int32) (σ : SS) : Option SS :=
  (P_X0_length_8 σ).bind fun v2 =>
  if x2 < v2 then
    (P_X5_blame 1 x2 σ).bind fun σ5 =>
    some σ5
  else
    if (sI σ 10) = 0 then
      (P_X5_blame 1 x2 σ).bind fun σ8 =>
      some σ8
    else
      if (sI σ 11) = (-1) then
        (P_X5_sumUp σ).bind fun σ11 =>
        (P_X5_firstBrokenCut σ11).bind fun v13 =>
        if v13 = (-1) then
          (P_X5_wholeSize σ11).bind fun v16 =>
          if v16 ≤ 24 then
            (P_X5_blame 0 0 σ11).bind fun σ19 =>
            some σ19
          else
            (P_X5_blame 4 0 σ11).bind fun σ21 =>
            some σ21
        else
          (P_X5_placeAt v13 σ11).bind fun v23 =>
          (P_X5_blame 2 v23 σ11).bind fun σ25 =>
          some σ25
      else
        (P_X5_blame 1 x2 σ).bind fun σ27 =>
        some σ27
set_option maxHeartbeats 4000000 in
set_option maxRecDepth 100000 in
theorem T_X5_scan_j59 {X : XE} {σf : SS} : ∀ (x2 : Int32) (σ : SS), P_X5_scan_j59 x2 σ = some σf → V (gX X) 6 RX5 cX5_scan 4 none none σf 59 [(0, .ref (xq X 6)), (2, .int x2)] [] σ := by
  intro x2 σ h
  unfold P_X5_scan_j59 at h
  refine r_iload_n 1 dX5_scan_59 rfl rfl rfl ?_
  refine r_aload_n 0 dX5_scan_60 rfl rfl rfl ?_
  refine gf_X5_34_6 dX5_scan_61 rfl ?_
  obtain ⟨v2, e1, h⟩ := bd h
  refine r_callV (rest := [.int x2]) (T_X0_length_8 e1) (by decide) mf_X0_length rfl tw_704 tw_705 tw_733 cX_8 rfl rfl rfl (Nat.le_of_ble_eq_true rfl) dX5_scan_64 rfl ?_
  refine r_call0 ?_
  refine r_icmp_lt (t := 85) dX5_scan_67 (by decide) rfl (fun c3 => ?_) (fun c3 => ?_)
  · have h := it_t c3 h
    refine r_aload_n 0 dX5_scan_85 rfl rfl rfl ?_
    refine ric_1 dX5_scan_86 rfl ?_
    refine r_iload_n 1 dX5_scan_87 rfl rfl rfl ?_
    obtain ⟨σ5, e4, h⟩ := bd h
    refine r_callV (rest := []) (T_X5_blame e4) (by decide) mf_X5_blame rfl tw_781 tw_23 tw_779 cX_6 rfl rfl rfl (Nat.le_of_ble_eq_true rfl) dX5_scan_88 rfl ?_
    refine r_calln ?_
    exact r_vretS dX5_scan_91 h
  · have h := it_f c3 h
    refine r_aload_n 0 dX5_scan_70 rfl rfl rfl ?_
    refine gf_X5_45_6 dX5_scan_71 rfl ?_
    refine r_if_eq (t := 85) dX5_scan_74 (by decide) rfl (fun c6 => ?_) (fun c6 => ?_)
    · have h := it_t c6 h
      refine r_aload_n 0 dX5_scan_85 rfl rfl rfl ?_
      refine ric_1 dX5_scan_86 rfl ?_
      refine r_iload_n 1 dX5_scan_87 rfl rfl rfl ?_
      obtain ⟨σ8, e7, h⟩ := bd h
      refine r_callV (rest := []) (T_X5_blame e7) (by decide) mf_X5_blame rfl tw_781 tw_23 tw_779 cX_6 rfl rfl rfl (Nat.le_of_ble_eq_true rfl) dX5_scan_88 rfl ?_
      refine r_calln ?_
      exact r_vretS dX5_scan_91 h
    · have h := it_f c6 h
      refine r_aload_n 0 dX5_scan_77 rfl rfl rfl ?_
      refine gf_X5_61_6 dX5_scan_78 rfl ?_
      refine ric_m1 dX5_scan_81 rfl ?_
      refine r_icmp_eq (t := 92) dX5_scan_82 (by decide) rfl (fun c9 => ?_) (fun c9 => ?_)
      · have h := it_t c9 h
        refine r_aload_n 0 dX5_scan_92 rfl rfl rfl ?_
        obtain ⟨σ11, e10, h⟩ := bd h
        refine r_callV (rest := []) (T_X5_sumUp e10) (by decide) mf_X5_sumUp rfl tw_785 tw_24 tw_783 cX_6 rfl rfl rfl (Nat.le_of_ble_eq_true rfl) dX5_scan_93 rfl ?_
        refine r_calln ?_
        refine r_aload_n 0 dX5_scan_96 rfl rfl rfl ?_
        obtain ⟨v13, e12, h⟩ := bd h
        refine r_callV (rest := []) (T_X5_firstBrokenCut e12) (by decide) mf_X5_firstBrokenCut rfl tw_800 tw_25 tw_798 cX_6 rfl rfl rfl (Nat.le_of_ble_eq_true rfl) dX5_scan_97 rfl ?_
        refine r_call0 ?_
        refine r_istore_n (lv' := [(3, .int v13), (0, .ref (xq X 6)), (2, .int x2)]) dX5_scan_100 rfl (by decide) rfl rfl ?_
        refine r_iload_n 0 dX5_scan_101 rfl rfl rfl ?_
        refine ric_m1 dX5_scan_102 rfl ?_
        refine r_icmp_eq (t := 119) dX5_scan_103 (by decide) rfl (fun c14 => ?_) (fun c14 => ?_)
        · have h := it_t c14 h
          refine r_aload_n 1 dX5_scan_119 rfl rfl rfl ?_
          refine r_aload_n 1 dX5_scan_120 rfl rfl rfl ?_
          obtain ⟨v16, e15, h⟩ := bd h
          refine r_callV (rest := [.ref (xq X 6)]) (T_X5_wholeSize e15) (by decide) mf_X5_wholeSize rfl tw_805 tw_806 tw_804 cX_6 rfl rfl rfl (Nat.le_of_ble_eq_true rfl) dX5_scan_121 rfl ?_
          refine r_call0 ?_
          refine r_bipush (v := 24) dX5_scan_124 (by decide) rfl ?_
          refine r_icmp_le (t := 133) dX5_scan_126 (by decide) rfl (fun c17 => ?_) (fun c17 => ?_)
          · have h := it_t c17 h
            refine ric_0 dX5_scan_133 rfl ?_
            refine ric_0 dX5_scan_134 rfl ?_
            obtain ⟨σ19, e18, h⟩ := bd h
            refine r_callV (rest := []) (T_X5_blame e18) (by decide) mf_X5_blame rfl tw_781 tw_23 tw_779 cX_6 rfl rfl rfl (Nat.le_of_ble_eq_true rfl) dX5_scan_135 rfl ?_
            refine r_calln ?_
            exact r_vretS dX5_scan_138 h
          · have h := it_f c17 h
            refine ric_4 dX5_scan_129 rfl ?_
            refine r_goto (t := 134) dX5_scan_130 (by decide) ?_
            refine ric_0 dX5_scan_134 rfl ?_
            obtain ⟨σ21, e20, h⟩ := bd h
            refine r_callV (rest := []) (T_X5_blame e20) (by decide) mf_X5_blame rfl tw_781 tw_23 tw_779 cX_6 rfl rfl rfl (Nat.le_of_ble_eq_true rfl) dX5_scan_135 rfl ?_
            refine r_calln ?_
            exact r_vretS dX5_scan_138 h
        · have h := it_f c14 h
          refine r_aload_n 1 dX5_scan_106 rfl rfl rfl ?_
          refine ric_2 dX5_scan_107 rfl ?_
          refine r_aload_n 1 dX5_scan_108 rfl rfl rfl ?_
          refine r_iload_n 0 dX5_scan_109 rfl rfl rfl ?_
          obtain ⟨v23, e22, h⟩ := bd h
          refine r_callV (rest := [.int 2, .ref (xq X 6)]) (T_X5_placeAt e22) (by decide) mf_X5_placeAt rfl tw_770 tw_771 tw_769 cX_6 rfl rfl rfl (Nat.le_of_ble_eq_true rfl) dX5_scan_110 rfl ?_
          refine r_call0 ?_
          obtain ⟨σ25, e24, h⟩ := bd h
          refine r_callV (rest := []) (T_X5_blame e24) (by decide) mf_X5_blame rfl tw_781 tw_23 tw_779 cX_6 rfl rfl rfl (Nat.le_of_ble_eq_true rfl) dX5_scan_113 rfl ?_
          refine r_calln ?_
          refine r_goto (t := 138) dX5_scan_116 (by decide) ?_
          exact r_vretS dX5_scan_138 h
      · have h := it_f c9 h
        refine r_aload_n 0 dX5_scan_85 rfl rfl rfl ?_
        refine ric_1 dX5_scan_86 rfl ?_
        refine r_iload_n 1 dX5_scan_87 rfl rfl rfl ?_
        obtain ⟨σ27, e26, h⟩ := bd h
        refine r_callV (rest := []) (T_X5_blame e26) (by decide) mf_X5_blame rfl tw_781 tw_23 tw_779 cX_6 rfl rfl rfl (Nat.le_of_ble_eq_true rfl) dX5_scan_88 rfl ?_
        refine r_calln ?_
        exact r_vretS dX5_scan_91 h
def P_X5_scan_j26 : Nat → Int32 → SS → Option SS
  | 0, _, _ => none
  | n + 1, x2, σ =>
    (P_X0_length_8 σ).bind fun v2 =>
    if v2 ≤ x2 then
      P_X5_scan_j59 x2 σ
    else
      (P_X0_at_8 x2 σ).bind fun v5 =>
      b2 (P_X5_takes v5 x2 σ) fun v7 σ8 =>
      if v7 = 0 then
        P_X5_scan_j59 x2 σ8
      else
        (P_X5_scan_j26 n) (x2 + 1) σ8
set_option maxHeartbeats 4000000 in
set_option maxRecDepth 100000 in
theorem T_X5_scan_j26 {X : XE} {σf : SS} : ∀ (fu : Nat) (x2 : Int32) (σ : SS), P_X5_scan_j26 fu x2 σ = some σf → V (gX X) 6 RX5 cX5_scan 4 none none σf 26 [(0, .ref (xq X 6)), (2, .int x2)] [] σ := by
  intro fu
  induction fu with
  | zero => intro x2 σ h; exact no0 h
  | succ n ih =>
    intro x2 σ h
    unfold P_X5_scan_j26 at h
    refine r_iload_n 1 dX5_scan_26 rfl rfl rfl ?_
    refine r_aload_n 0 dX5_scan_27 rfl rfl rfl ?_
    refine gf_X5_34_6 dX5_scan_28 rfl ?_
    obtain ⟨v2, e1, h⟩ := bd h
    refine r_callV (rest := [.int x2]) (T_X0_length_8 e1) (by decide) mf_X0_length rfl tw_704 tw_705 tw_733 cX_8 rfl rfl rfl (Nat.le_of_ble_eq_true rfl) dX5_scan_31 rfl ?_
    refine r_call0 ?_
    refine r_icmp_ge (t := 59) dX5_scan_34 (by decide) rfl (fun c3 => ?_) (fun c3 => ?_)
    · have h := it_t c3 h
      exact T_X5_scan_j59 x2 σ h
    · have h := it_f c3 h
      refine r_aload_n 0 dX5_scan_37 rfl rfl rfl ?_
      refine r_aload_n 0 dX5_scan_38 rfl rfl rfl ?_
      refine gf_X5_34_6 dX5_scan_39 rfl ?_
      refine r_iload_n 1 dX5_scan_42 rfl rfl rfl ?_
      obtain ⟨v5, e4, h⟩ := bd h
      refine r_callV (rest := [.ref (xq X 6)]) (T_X0_at_8 e4) (by decide) mf_X0_at rfl tw_698 tw_699 tw_734 cX_8 rfl rfl rfl (Nat.le_of_ble_eq_true rfl) dX5_scan_43 rfl ?_
      refine r_call0 ?_
      refine r_iload_n 1 dX5_scan_46 rfl rfl rfl ?_
      obtain ⟨v7, σ8, e6, h⟩ := b2d h
      refine r_callV (rest := []) (T_X5_takes e6) (by decide) mf_X5_takes rfl tw_737 tw_17 tw_735 cX_6 rfl rfl rfl (Nat.le_of_ble_eq_true rfl) dX5_scan_47 rfl ?_
      refine r_call0 ?_
      refine r_if_eq (t := 59) dX5_scan_50 (by decide) rfl (fun c9 => ?_) (fun c9 => ?_)
      · have h := it_t c9 h
        exact T_X5_scan_j59 x2 σ8 h
      · have h := it_f c9 h
        refine r_iinc (v := (x2 + 1)) (lv' := [(2, .int (x2 + 1)), (0, .ref (xq X 6))]) 1 dX5_scan_53 rfl rfl (by decide) rfl rfl ?_
        refine r_goto (t := 26) dX5_scan_56 (by decide) ?_
        refine r_sub [1, 0] rfl ?_
        exact ih (x2 + 1) σ8 h
def P_X5_scan (a1 : Int32) (σ : SS) : Option SS :=
  (P_X6_set_28 0 0 (uI (uI (uI σ 12 a1) 10 0) 11 (-1))).bind fun σ2 =>
  P_X5_scan_j26 FU 0 σ2
set_option maxHeartbeats 4000000 in
set_option maxRecDepth 100000 in
theorem T_X5_scan {X : XE} {σf : SS} {σ : SS} {a1 : Int32} (h : P_X5_scan a1 σ = some σf) : Mt (gX X) 6 yX5_scan cX5_scan 4 none [.ref (xq X 6), .int a1] σ none σf := by
  refine Mt.of (own := RX5) (lv := [(0, .ref (xq X 6)), (1, .int a1)]) pn_X5 rfl (Nat.le_of_ble_eq_true rfl) rfl ?_
  unfold P_X5_scan at h
  refine r_aload_n 0 dX5_scan_0 rfl rfl rfl ?_
  refine r_iload_n 1 dX5_scan_1 rfl rfl rfl ?_
  refine pf_X5_58_6 dX5_scan_2 rfl ?_
  refine r_aload_n 0 dX5_scan_5 rfl rfl rfl ?_
  refine ric_0 dX5_scan_6 rfl ?_
  refine pf_X5_45_6 dX5_scan_7 rfl ?_
  refine r_aload_n 0 dX5_scan_10 rfl rfl rfl ?_
  refine ric_m1 dX5_scan_11 rfl ?_
  refine pf_X5_61_6 dX5_scan_12 rfl ?_
  refine r_aload_n 0 dX5_scan_15 rfl rfl rfl ?_
  refine gf_X5_21_6 dX5_scan_16 rfl ?_
  refine ric_0 dX5_scan_19 rfl ?_
  refine ric_0 dX5_scan_20 rfl ?_
  obtain ⟨σ2, e1, h⟩ := bd h
  refine r_callS (As := [.ref (xq X 28), .int 0, .int 0]) (rest := []) (T_X6_set_28 e1) (by decide) mf_X6_set rfl tw_400 tw_732 rfl (Nat.le_of_ble_eq_true rfl) dX5_scan_21 rfl ?_
  refine r_calln ?_
  refine ric_0 dX5_scan_24 rfl ?_
  refine r_istore_n (lv' := [(2, .int 0), (0, .ref (xq X 6)), (1, .int a1)]) dX5_scan_25 rfl (by decide) rfl rfl ?_
  refine r_sub [1, 0] rfl ?_
  exact T_X5_scan_j26 FU 0 σ2 h
def P_X5_fault (σ : SS) : Option Int32 :=
  some (sI σ 13)
set_option maxHeartbeats 4000000 in
set_option maxRecDepth 100000 in
theorem T_X5_fault {X : XE} {σ : SS} {r : Int32} (h : P_X5_fault σ = some r) : Mt (gX X) 0 yX5_fault cX5_fault 1 (some .int) [.ref (xq X 6)] σ (some (.int r)) σ := by
  refine Mt.of (own := RX5) (lv := [(0, .ref (xq X 6))]) pn_X5 rfl (Nat.le_of_ble_eq_true rfl) rfl ?_
  unfold P_X5_fault at h
  refine r_aload_n 0 dX5_fault_0 rfl rfl rfl ?_
  refine gf_X5_38_6 dX5_fault_1 rfl ?_
  exact r_iretR dX5_fault_4 h
def P_X5_faultPlace (σ : SS) : Option Int32 :=
  some (sI σ 14)
set_option maxHeartbeats 4000000 in
set_option maxRecDepth 100000 in
theorem T_X5_faultPlace {X : XE} {σ : SS} {r : Int32} (h : P_X5_faultPlace σ = some r) : Mt (gX X) 0 yX5_faultPlace cX5_faultPlace 1 (some .int) [.ref (xq X 6)] σ (some (.int r)) σ := by
  refine Mt.of (own := RX5) (lv := [(0, .ref (xq X 6))]) pn_X5 rfl (Nat.le_of_ble_eq_true rfl) rfl ?_
  unfold P_X5_faultPlace at h
  refine r_aload_n 0 dX5_faultPlace_0 rfl rfl rfl ?_
  refine gf_X5_42_6 dX5_faultPlace_1 rfl ?_
  exact r_iretR dX5_faultPlace_4 h
def P_X5_size (σ : SS) : Option Int32 :=
  some (sI σ 10)
set_option maxHeartbeats 4000000 in
set_option maxRecDepth 100000 in
theorem T_X5_size {X : XE} {σ : SS} {r : Int32} (h : P_X5_size σ = some r) : Mt (gX X) 0 yX5_size cX5_size 1 (some .int) [.ref (xq X 6)] σ (some (.int r)) σ := by
  refine Mt.of (own := RX5) (lv := [(0, .ref (xq X 6))]) pn_X5 rfl (Nat.le_of_ble_eq_true rfl) rfl ?_
  unfold P_X5_size at h
  refine r_aload_n 0 dX5_size_0 rfl rfl rfl ?_
  refine gf_X5_45_6 dX5_size_1 rfl ?_
  exact r_iretR dX5_size_4 h
def P_X6_set_32 (a1 : Int32) (a2 : Int32) (σ : SS) : Option SS :=
  if a1 < 0 then
    some σ
  else
    if 300 ≤ a1 then
      some σ
    else
      gI a1 300 <|
      some (stA σ 17 a1 a2)
set_option maxHeartbeats 4000000 in
set_option maxRecDepth 100000 in
theorem T_X6_set_32 {X : XE} {σf : SS} {σ : SS} {a1 : Int32} {a2 : Int32} (h : P_X6_set_32 a1 a2 σ = some σf) : Mt (gX X) 0 yX6_set cX6_set 3 none [.ref (xq X 32), .int a1, .int a2] σ none σf := by
  refine Mt.of (own := RX6) (lv := [(0, .ref (xq X 32)), (1, .int a1), (2, .int a2)]) pn_X6 rfl (Nat.le_of_ble_eq_true rfl) rfl ?_
  unfold P_X6_set_32 at h
  refine r_iload_n 1 dX6_set_0 rfl rfl rfl ?_
  refine r_if_lt (t := 14) dX6_set_1 (by decide) rfl (fun c1 => ?_) (fun c1 => ?_)
  · have h := it_t c1 h
    exact r_vretS dX6_set_14 h
  · have h := it_f c1 h
    refine r_iload_n 1 dX6_set_4 rfl rfl rfl ?_
    refine r_aload_n 0 dX6_set_5 rfl rfl rfl ?_
    refine anX_32 dX6_set_6 rfl ?_
    refine r_icmp_ge (t := 14) dX6_set_7 (by decide) rfl (fun c2 => ?_) (fun c2 => ?_)
    · have h := it_t c2 h
      exact r_vretS dX6_set_14 h
    · have h := it_f c2 h
      refine r_aload_n 0 dX6_set_10 rfl rfl rfl ?_
      refine r_iload_n 1 dX6_set_11 rfl rfl rfl ?_
      refine r_iload_n 2 dX6_set_12 rfl rfl rfl ?_
      obtain ⟨hi3, h⟩ := gi h
      refine asX_32 hi3 dX6_set_13 rfl ?_
      exact r_vretS dX6_set_14 h
def P_X4_gatherParts_j18 : Nat → Int32 → Int32 → SS → Option SS
  | 0, _, _, _ => none
  | n + 1, x2, x3, σ =>
    if x2 ≤ x3 then
      some σ
    else
      if 300 ≤ (sI σ 15) then
        some σ
      else
        (P_X6_set_32 (sI σ 15) x3 σ).bind fun σ4 =>
        (P_X5_endAt x3 (uI σ4 15 ((sI σ4 15) + 1))).bind fun v6 =>
        (P_X4_gatherParts_j18 n) x2 (mmaxi (x3 + 1) v6) (uI σ4 15 ((sI σ4 15) + 1))
set_option maxHeartbeats 4000000 in
set_option maxRecDepth 100000 in
theorem T_X4_gatherParts_j18 {X : XE} {σf : SS} : ∀ (fu : Nat) (x2 : Int32) (x3 : Int32) (σ : SS), P_X4_gatherParts_j18 fu x2 x3 σ = some σf → V (gX X) 2 RX4 cX4_gatherParts 4 none none σf 18 [(0, .ref (xq X 7)), (2, .int x2), (3, .int x3)] [] σ := by
  intro fu
  induction fu with
  | zero => intro x2 x3 σ h; exact no0 h
  | succ n ih =>
    intro x2 x3 σ h
    unfold P_X4_gatherParts_j18 at h
    refine r_iload_n 2 dX4_gatherParts_18 rfl rfl rfl ?_
    refine r_iload_n 1 dX4_gatherParts_19 rfl rfl rfl ?_
    refine r_icmp_ge (t := 73) dX4_gatherParts_20 (by decide) rfl (fun c1 => ?_) (fun c1 => ?_)
    · have h := it_t c1 h
      exact r_vretS dX4_gatherParts_73 h
    · have h := it_f c1 h
      refine r_aload_n 0 dX4_gatherParts_23 rfl rfl rfl ?_
      refine gf_X4_143_7 dX4_gatherParts_24 rfl ?_
      refine r_sipush (v := 300) dX4_gatherParts_27 (by decide) rfl ?_
      refine r_icmp_ge (t := 73) dX4_gatherParts_30 (by decide) rfl (fun c2 => ?_) (fun c2 => ?_)
      · have h := it_t c2 h
        exact r_vretS dX4_gatherParts_73 h
      · have h := it_f c2 h
        refine r_aload_n 0 dX4_gatherParts_33 rfl rfl rfl ?_
        refine gf_X4_15_7 dX4_gatherParts_34 rfl ?_
        refine r_aload_n 0 dX4_gatherParts_37 rfl rfl rfl ?_
        refine gf_X4_143_7 dX4_gatherParts_38 rfl ?_
        refine r_iload_n 2 dX4_gatherParts_41 rfl rfl rfl ?_
        obtain ⟨σ4, e3, h⟩ := bd h
        refine r_callS (As := [.ref (xq X 32), .int (sI σ 15), .int x3]) (rest := []) (T_X6_set_32 e3) (by decide) mf_X6_set rfl tw_400 tw_840 rfl (Nat.le_of_ble_eq_true rfl) dX4_gatherParts_42 rfl ?_
        refine r_calln ?_
        refine r_aload_n 0 dX4_gatherParts_45 rfl rfl rfl ?_
        refine r_dup rfl dX4_gatherParts_46 rfl ?_
        refine gf_X4_143_7 dX4_gatherParts_47 rfl ?_
        refine ric_1 dX4_gatherParts_50 rfl ?_
        refine r_iadd dX4_gatherParts_51 rfl ?_
        refine pf_X4_143_7 dX4_gatherParts_52 rfl ?_
        refine r_iload_n 2 dX4_gatherParts_55 rfl rfl rfl ?_
        refine ric_1 dX4_gatherParts_56 rfl ?_
        refine r_iadd dX4_gatherParts_57 rfl ?_
        refine r_aload_n 0 dX4_gatherParts_58 rfl rfl rfl ?_
        refine gf_X4_33_7 dX4_gatherParts_59 rfl ?_
        refine r_iload_n 2 dX4_gatherParts_62 rfl rfl rfl ?_
        obtain ⟨v6, e5, h⟩ := bd h
        refine r_callV (rest := [.int (x3 + 1)]) (T_X5_endAt e5) (by decide) mf_X5_endAt rfl tw_792 tw_793 tw_839 cX_6 rfl rfl rfl (Nat.le_of_ble_eq_true rfl) dX4_gatherParts_63 rfl ?_
        refine r_call0 ?_
        refine r_mmaxi (by decide) (Nat.le_of_ble_eq_true rfl) tw_841 dX4_gatherParts_66 rfl ?_
        refine r_istore_n (lv' := [(3, .int (mmaxi (x3 + 1) v6)), (0, .ref (xq X 7)), (2, .int x2)]) dX4_gatherParts_69 rfl (by decide) rfl rfl ?_
        refine r_goto (t := 18) dX4_gatherParts_70 (by decide) ?_
        refine r_sub [1, 2, 0] rfl ?_
        exact ih x2 (mmaxi (x3 + 1) v6) (uI σ4 15 ((sI σ4 15) + 1)) h
def P_X4_gatherParts (a1 : Int32) (σ : SS) : Option SS :=
  (P_X5_endAt a1 σ).bind fun v2 =>
  P_X4_gatherParts_j18 FU v2 (a1 + 1) (uI σ 15 0)
set_option maxHeartbeats 4000000 in
set_option maxRecDepth 100000 in
theorem T_X4_gatherParts {X : XE} {σf : SS} {σ : SS} {a1 : Int32} (h : P_X4_gatherParts a1 σ = some σf) : Mt (gX X) 2 yX4_gatherParts cX4_gatherParts 4 none [.ref (xq X 7), .int a1] σ none σf := by
  refine Mt.of (own := RX4) (lv := [(0, .ref (xq X 7)), (1, .int a1)]) pn_X4 rfl (Nat.le_of_ble_eq_true rfl) rfl ?_
  unfold P_X4_gatherParts at h
  refine r_aload_n 0 dX4_gatherParts_0 rfl rfl rfl ?_
  refine gf_X4_33_7 dX4_gatherParts_1 rfl ?_
  refine r_iload_n 1 dX4_gatherParts_4 rfl rfl rfl ?_
  obtain ⟨v2, e1, h⟩ := bd h
  refine r_callV (rest := []) (T_X5_endAt e1) (by decide) mf_X5_endAt rfl tw_792 tw_793 tw_839 cX_6 rfl rfl rfl (Nat.le_of_ble_eq_true rfl) dX4_gatherParts_5 rfl ?_
  refine r_call0 ?_
  refine r_istore_n (lv' := [(2, .int v2), (0, .ref (xq X 7)), (1, .int a1)]) dX4_gatherParts_8 rfl (by decide) rfl rfl ?_
  refine r_aload_n 1 dX4_gatherParts_9 rfl rfl rfl ?_
  refine ric_0 dX4_gatherParts_10 rfl ?_
  refine pf_X4_143_7 dX4_gatherParts_11 rfl ?_
  refine r_iload_n 2 dX4_gatherParts_14 rfl rfl rfl ?_
  refine ric_1 dX4_gatherParts_15 rfl ?_
  refine r_iadd dX4_gatherParts_16 rfl ?_
  refine r_istore_n (lv' := [(3, .int (a1 + 1)), (2, .int v2), (0, .ref (xq X 7)), (1, .int a1)]) dX4_gatherParts_17 rfl (by decide) rfl rfl ?_
  refine r_sub [2, 1, 0] rfl ?_
  exact T_X4_gatherParts_j18 FU v2 (a1 + 1) (uI σ 15 0) h
def P_X6_at_32 (a1 : Int32) (σ : SS) : Option Int32 :=
  if a1 < 0 then
    some 0
  else
    if 300 ≤ a1 then
      some 0
    else
      gI a1 300 <|
      some (ldA σ 17 a1)
set_option maxHeartbeats 4000000 in
set_option maxRecDepth 100000 in
theorem T_X6_at_32 {X : XE} {σ : SS} {r : Int32} {a1 : Int32} (h : P_X6_at_32 a1 σ = some r) : Mt (gX X) 0 yX6_at cX6_at 2 (some .int) [.ref (xq X 32), .int a1] σ (some (.int r)) σ := by
  refine Mt.of (own := RX6) (lv := [(0, .ref (xq X 32)), (1, .int a1)]) pn_X6 rfl (Nat.le_of_ble_eq_true rfl) rfl ?_
  unfold P_X6_at_32 at h
  refine r_iload_n 1 dX6_at_0 rfl rfl rfl ?_
  refine r_if_lt (t := 16) dX6_at_1 (by decide) rfl (fun c1 => ?_) (fun c1 => ?_)
  · have h := it_t c1 h
    refine ric_0 dX6_at_16 rfl ?_
    exact r_iretR dX6_at_17 h
  · have h := it_f c1 h
    refine r_iload_n 1 dX6_at_4 rfl rfl rfl ?_
    refine r_aload_n 0 dX6_at_5 rfl rfl rfl ?_
    refine anX_32 dX6_at_6 rfl ?_
    refine r_icmp_ge (t := 16) dX6_at_7 (by decide) rfl (fun c2 => ?_) (fun c2 => ?_)
    · have h := it_t c2 h
      refine ric_0 dX6_at_16 rfl ?_
      exact r_iretR dX6_at_17 h
    · have h := it_f c2 h
      refine r_aload_n 0 dX6_at_10 rfl rfl rfl ?_
      refine r_iload_n 1 dX6_at_11 rfl rfl rfl ?_
      obtain ⟨hi3, h⟩ := gi h
      refine alX_32 hi3 dX6_at_12 rfl ?_
      refine r_goto (t := 17) dX6_at_13 (by decide) ?_
      exact r_iretR dX6_at_17 h
def P_X4_part (a1 : Int32) (σ : SS) : Option Int32 :=
  (P_X6_at_32 a1 σ).bind fun v2 =>
  some v2
set_option maxHeartbeats 4000000 in
set_option maxRecDepth 100000 in
theorem T_X4_part {X : XE} {σ : SS} {r : Int32} {a1 : Int32} (h : P_X4_part a1 σ = some r) : Mt (gX X) 1 yX4_part cX4_part 2 (some .int) [.ref (xq X 7), .int a1] σ (some (.int r)) σ := by
  refine Mt.of (own := RX4) (lv := [(0, .ref (xq X 7)), (1, .int a1)]) pn_X4 rfl (Nat.le_of_ble_eq_true rfl) rfl ?_
  unfold P_X4_part at h
  refine r_aload_n 0 dX4_part_0 rfl rfl rfl ?_
  refine gf_X4_15_7 dX4_part_1 rfl ?_
  refine r_iload_n 1 dX4_part_4 rfl rfl rfl ?_
  obtain ⟨v2, e1, h⟩ := bd h
  refine r_callS (As := [.ref (xq X 32), .int a1]) (rest := []) (T_X6_at_32 e1) (by decide) mf_X6_at rfl tw_446 tw_854 rfl (Nat.le_of_ble_eq_true rfl) dX4_part_5 rfl ?_
  refine r_call0 ?_
  exact r_iretR dX4_part_8 h
def P_X6_at__31 (a1 : Int32) (σ : SS) : Option Int64 :=
  if a1 < 0 then
    some 0
  else
    if 300 ≤ a1 then
      some 0
    else
      gI a1 300 <|
      some (ldL σ 3 a1)
set_option maxHeartbeats 4000000 in
set_option maxRecDepth 100000 in
theorem T_X6_at__31 {X : XE} {σ : SS} {r : Int64} {a1 : Int32} (h : P_X6_at__31 a1 σ = some r) : Mt (gX X) 0 yX6_at_ cX6_at_ 2 (some .long) [.ref (xq X 31), .int a1] σ (some (.long r)) σ := by
  refine Mt.of (own := RX6) (lv := [(0, .ref (xq X 31)), (1, .int a1)]) pn_X6 rfl (Nat.le_of_ble_eq_true rfl) rfl ?_
  unfold P_X6_at__31 at h
  refine r_iload_n 1 dX6_at__0 rfl rfl rfl ?_
  refine r_if_lt (t := 16) dX6_at__1 (by decide) rfl (fun c1 => ?_) (fun c1 => ?_)
  · have h := it_t c1 h
    refine rlc_0 dX6_at__16 rfl ?_
    exact r_lretR dX6_at__17 h
  · have h := it_f c1 h
    refine r_iload_n 1 dX6_at__4 rfl rfl rfl ?_
    refine r_aload_n 0 dX6_at__5 rfl rfl rfl ?_
    refine anX_31 dX6_at__6 rfl ?_
    refine r_icmp_ge (t := 16) dX6_at__7 (by decide) rfl (fun c2 => ?_) (fun c2 => ?_)
    · have h := it_t c2 h
      refine rlc_0 dX6_at__16 rfl ?_
      exact r_lretR dX6_at__17 h
    · have h := it_f c2 h
      refine r_aload_n 0 dX6_at__10 rfl rfl rfl ?_
      refine r_iload_n 1 dX6_at__11 rfl rfl rfl ?_
      obtain ⟨hi3, h⟩ := gi h
      refine alX_31 hi3 dX6_at__12 rfl ?_
      refine r_goto (t := 17) dX6_at__13 (by decide) ?_
      exact r_lretR dX6_at__17 h
def P_X4_numberAt (a1 : Int32) (σ : SS) : Option Int64 :=
  (P_X6_at__31 a1 σ).bind fun v2 =>
  some v2
set_option maxHeartbeats 4000000 in
set_option maxRecDepth 100000 in
theorem T_X4_numberAt {X : XE} {σ : SS} {r : Int64} {a1 : Int32} (h : P_X4_numberAt a1 σ = some r) : Mt (gX X) 1 yX4_numberAt cX4_numberAt 2 (some .long) [.ref (xq X 7), .int a1] σ (some (.long r)) σ := by
  refine Mt.of (own := RX4) (lv := [(0, .ref (xq X 7)), (1, .int a1)]) pn_X4 rfl (Nat.le_of_ble_eq_true rfl) rfl ?_
  unfold P_X4_numberAt at h
  refine r_aload_n 0 dX4_numberAt_0 rfl rfl rfl ?_
  refine gf_X4_9_7 dX4_numberAt_1 rfl ?_
  refine r_iload_n 1 dX4_numberAt_4 rfl rfl rfl ?_
  obtain ⟨v2, e1, h⟩ := bd h
  refine r_callS (As := [.ref (xq X 31), .int a1]) (rest := []) (T_X6_at__31 e1) (by decide) mf_X6_at_ rfl tw_581 tw_859 rfl (Nat.le_of_ble_eq_true rfl) dX4_numberAt_5 rfl ?_
  refine r_call0 ?_
  exact r_lretR dX4_numberAt_8 h
def P_X4_hasTwinAhead_j76 (σ : SS) (K27 : Int32 → Int64 → Int32 → Int32 → Option Int32) (x1 : Int32) (x2 : Int64) (x4 : Int32) (x5 : Int32) : Option Int32 :=
  K27 x1 x2 x4 (x5 + 1)
set_option maxHeartbeats 4000000 in
set_option maxRecDepth 100000 in
theorem T_X4_hasTwinAhead_j76 {X : XE} {σ : SS} {r : Int32} {K27 : Int32 → Int64 → Int32 → Int32 → Option Int32} (hK27 : ∀ (x1 : Int32) (x2 : Int64) (x4 : Int32) (x5 : Int32), K27 x1 x2 x4 x5 = some r → V (gX X) 2 RX4 cX4_hasTwinAhead 6 (some .boolean) (some (.int r)) σ 27 [(0, .ref (xq X 7)), (1, .int x1), (2, .long x2), (4, .int x4), (5, .int x5)] [] σ) : ∀ (x1 : Int32) (x2 : Int64) (x4 : Int32) (x5 : Int32), P_X4_hasTwinAhead_j76 σ K27 x1 x2 x4 x5 = some r → V (gX X) 2 RX4 cX4_hasTwinAhead 6 (some .boolean) (some (.int r)) σ 76 [(0, .ref (xq X 7)), (1, .int x1), (2, .long x2), (4, .int x4), (5, .int x5)] [] σ := by
  intro x1 x2 x4 x5 h
  unfold P_X4_hasTwinAhead_j76 at h
  refine r_iinc (v := (x5 + 1)) (lv' := [(5, .int (x5 + 1)), (0, .ref (xq X 7)), (1, .int x1), (2, .long x2), (4, .int x4)]) 4 dX4_hasTwinAhead_76 rfl rfl (by decide) rfl rfl ?_
  refine r_goto (t := 27) dX4_hasTwinAhead_79 (by decide) ?_
  refine r_sub [1, 2, 3, 4, 0] rfl ?_
  exact hK27 x1 x2 x4 (x5 + 1) h
def P_X4_hasTwinAhead_j27 (σ : SS) : Nat → Int32 → Int64 → Int32 → Int32 → Option Int32
  | 0, _, _, _, _ => none
  | n + 1, x1, x2, x4, x5 =>
    if x1 ≤ x5 then
      some 0
    else
      if x2 = (-1) then
        some 0
      else
        (P_X4_part x5 σ).bind fun v4 =>
        (P_X4_numberAt v4 σ).bind fun v6 =>
        if ¬ v6 = x2 then
          P_X4_hasTwinAhead_j76 σ (P_X4_hasTwinAhead_j27 σ n) x1 x2 x4 x5
        else
          (P_X4_part x5 σ).bind fun v9 =>
          (P_X5_sizeAt v9 σ).bind fun v11 =>
          if ¬ v11 = x4 then
            P_X4_hasTwinAhead_j76 σ (P_X4_hasTwinAhead_j27 σ n) x1 x2 x4 x5
          else
            some 1
set_option maxHeartbeats 4000000 in
set_option maxRecDepth 100000 in
theorem T_X4_hasTwinAhead_j27 {X : XE} {σ : SS} {r : Int32} : ∀ (fu : Nat) (x1 : Int32) (x2 : Int64) (x4 : Int32) (x5 : Int32), P_X4_hasTwinAhead_j27 σ fu x1 x2 x4 x5 = some r → V (gX X) 2 RX4 cX4_hasTwinAhead 6 (some .boolean) (some (.int r)) σ 27 [(0, .ref (xq X 7)), (1, .int x1), (2, .long x2), (4, .int x4), (5, .int x5)] [] σ := by
  intro fu
  induction fu with
  | zero => intro x1 x2 x4 x5 h; exact no0 h
  | succ n ih =>
    intro x1 x2 x4 x5 h
    unfold P_X4_hasTwinAhead_j27 at h
    refine r_iload 4 dX4_hasTwinAhead_27 rfl rfl ?_
    refine r_iload_n 1 dX4_hasTwinAhead_29 rfl rfl rfl ?_
    refine r_icmp_ge (t := 82) dX4_hasTwinAhead_30 (by decide) rfl (fun c1 => ?_) (fun c1 => ?_)
    · have h := it_t c1 h
      refine ric_0 dX4_hasTwinAhead_82 rfl ?_
      exact r_zretR (Or.inl rfl) dX4_hasTwinAhead_83 h
    · have h := it_f c1 h
      refine r_lload_n 2 dX4_hasTwinAhead_33 rfl rfl rfl ?_
      refine r_ldc2 (v := (-1)) tw_861 dX4_hasTwinAhead_34 rfl ?_
      refine r_lif_eq (t := 82) dX4_hasTwinAhead_37 rfl dX4_hasTwinAhead_38 (by decide) rfl (fun c2 => ?_) (fun c2 => ?_)
      · have h := it_t c2 h
        refine ric_0 dX4_hasTwinAhead_82 rfl ?_
        exact r_zretR (Or.inl rfl) dX4_hasTwinAhead_83 h
      · have h := it_f c2 h
        refine r_aload_n 0 dX4_hasTwinAhead_41 rfl rfl rfl ?_
        refine r_aload_n 0 dX4_hasTwinAhead_42 rfl rfl rfl ?_
        refine r_iload 4 dX4_hasTwinAhead_43 rfl rfl ?_
        obtain ⟨v4, e3, h⟩ := bd h
        refine r_callV (rest := [.ref (xq X 7)]) (T_X4_part e3) (by decide) mf_X4_part rfl tw_852 tw_31 tw_850 cX_7 rfl rfl rfl (Nat.le_of_ble_eq_true rfl) dX4_hasTwinAhead_45 rfl ?_
        refine r_call0 ?_
        obtain ⟨v6, e5, h⟩ := bd h
        refine r_callV (rest := []) (T_X4_numberAt e5) (by decide) mf_X4_numberAt rfl tw_857 tw_32 tw_855 cX_7 rfl rfl rfl (Nat.le_of_ble_eq_true rfl) dX4_hasTwinAhead_48 rfl ?_
        refine r_call0 ?_
        refine r_lload_n 2 dX4_hasTwinAhead_51 rfl rfl rfl ?_
        refine r_lif_ne (t := 76) dX4_hasTwinAhead_52 rfl dX4_hasTwinAhead_53 (by decide) rfl (fun c7 => ?_) (fun c7 => ?_)
        · have h := it_t c7 h
          exact T_X4_hasTwinAhead_j76 ih x1 x2 x4 x5 h
        · have h := it_n c7 h
          refine r_aload_n 0 dX4_hasTwinAhead_56 rfl rfl rfl ?_
          refine gf_X4_33_7 dX4_hasTwinAhead_57 rfl ?_
          refine r_aload_n 0 dX4_hasTwinAhead_60 rfl rfl rfl ?_
          refine r_iload 4 dX4_hasTwinAhead_61 rfl rfl ?_
          obtain ⟨v9, e8, h⟩ := bd h
          refine r_callV (rest := [.ref (xq X 6)]) (T_X4_part e8) (by decide) mf_X4_part rfl tw_852 tw_31 tw_850 cX_7 rfl rfl rfl (Nat.le_of_ble_eq_true rfl) dX4_hasTwinAhead_63 rfl ?_
          refine r_call0 ?_
          obtain ⟨v11, e10, h⟩ := bd h
          refine r_callV (rest := []) (T_X5_sizeAt e10) (by decide) mf_X5_sizeAt rfl tw_788 tw_789 tw_860 cX_6 rfl rfl rfl (Nat.le_of_ble_eq_true rfl) dX4_hasTwinAhead_66 rfl ?_
          refine r_call0 ?_
          refine r_iload 3 dX4_hasTwinAhead_69 rfl rfl ?_
          refine r_icmp_ne (t := 76) dX4_hasTwinAhead_71 (by decide) rfl (fun c12 => ?_) (fun c12 => ?_)
          · have h := it_t c12 h
            exact T_X4_hasTwinAhead_j76 ih x1 x2 x4 x5 h
          · have h := it_n c12 h
            refine ric_1 dX4_hasTwinAhead_74 rfl ?_
            exact r_zretR (Or.inr rfl) dX4_hasTwinAhead_75 h
def P_X4_hasTwinAhead (a1 : Int32) (σ : SS) : Option Int32 :=
  (P_X4_part a1 σ).bind fun v2 =>
  (P_X4_numberAt v2 σ).bind fun v4 =>
  (P_X4_part a1 σ).bind fun v6 =>
  (P_X5_sizeAt v6 σ).bind fun v8 =>
  P_X4_hasTwinAhead_j27 σ FU a1 v4 v8 0
set_option maxHeartbeats 4000000 in
set_option maxRecDepth 100000 in
theorem T_X4_hasTwinAhead {X : XE} {σ : SS} {r : Int32} {a1 : Int32} (h : P_X4_hasTwinAhead a1 σ = some r) : Mt (gX X) 2 yX4_hasTwinAhead cX4_hasTwinAhead 6 (some .boolean) [.ref (xq X 7), .int a1] σ (some (.int r)) σ := by
  refine Mt.of (own := RX4) (lv := [(0, .ref (xq X 7)), (1, .int a1)]) pn_X4 rfl (Nat.le_of_ble_eq_true rfl) rfl ?_
  unfold P_X4_hasTwinAhead at h
  refine r_aload_n 0 dX4_hasTwinAhead_0 rfl rfl rfl ?_
  refine r_aload_n 0 dX4_hasTwinAhead_1 rfl rfl rfl ?_
  refine r_iload_n 1 dX4_hasTwinAhead_2 rfl rfl rfl ?_
  obtain ⟨v2, e1, h⟩ := bd h
  refine r_callV (rest := [.ref (xq X 7)]) (T_X4_part e1) (by decide) mf_X4_part rfl tw_852 tw_31 tw_850 cX_7 rfl rfl rfl (Nat.le_of_ble_eq_true rfl) dX4_hasTwinAhead_3 rfl ?_
  refine r_call0 ?_
  obtain ⟨v4, e3, h⟩ := bd h
  refine r_callV (rest := []) (T_X4_numberAt e3) (by decide) mf_X4_numberAt rfl tw_857 tw_32 tw_855 cX_7 rfl rfl rfl (Nat.le_of_ble_eq_true rfl) dX4_hasTwinAhead_6 rfl ?_
  refine r_call0 ?_
  refine r_lstore_n (lv' := [(2, .long v4), (0, .ref (xq X 7)), (1, .int a1)]) dX4_hasTwinAhead_9 rfl (by decide) rfl rfl ?_
  refine r_aload_n 1 dX4_hasTwinAhead_10 rfl rfl rfl ?_
  refine gf_X4_33_7 dX4_hasTwinAhead_11 rfl ?_
  refine r_aload_n 1 dX4_hasTwinAhead_14 rfl rfl rfl ?_
  refine r_iload_n 2 dX4_hasTwinAhead_15 rfl rfl rfl ?_
  obtain ⟨v6, e5, h⟩ := bd h
  refine r_callV (rest := [.ref (xq X 6)]) (T_X4_part e5) (by decide) mf_X4_part rfl tw_852 tw_31 tw_850 cX_7 rfl rfl rfl (Nat.le_of_ble_eq_true rfl) dX4_hasTwinAhead_16 rfl ?_
  refine r_call0 ?_
  obtain ⟨v8, e7, h⟩ := bd h
  refine r_callV (rest := []) (T_X5_sizeAt e7) (by decide) mf_X5_sizeAt rfl tw_788 tw_789 tw_860 cX_6 rfl rfl rfl (Nat.le_of_ble_eq_true rfl) dX4_hasTwinAhead_19 rfl ?_
  refine r_call0 ?_
  refine r_istore (lv' := [(4, .int v8), (2, .long v4), (0, .ref (xq X 7)), (1, .int a1)]) dX4_hasTwinAhead_22 (by decide) rfl rfl ?_
  refine ric_0 dX4_hasTwinAhead_24 rfl ?_
  refine r_istore (lv' := [(5, .int 0), (4, .int v8), (2, .long v4), (0, .ref (xq X 7)), (1, .int a1)]) dX4_hasTwinAhead_25 (by decide) rfl rfl ?_
  refine r_sub [3, 4, 2, 1, 0] rfl ?_
  exact T_X4_hasTwinAhead_j27 FU a1 v4 v8 0 h
def P_X4_hasTwin (σ : SS) : Option Int32 :=
  if (sI σ 18) = (-1) then
    some 0
  else
    some 1
set_option maxHeartbeats 4000000 in
set_option maxRecDepth 100000 in
theorem T_X4_hasTwin {X : XE} {σ : SS} {r : Int32} (h : P_X4_hasTwin σ = some r) : Mt (gX X) 0 yX4_hasTwin cX4_hasTwin 1 (some .boolean) [.ref (xq X 7)] σ (some (.int r)) σ := by
  refine Mt.of (own := RX4) (lv := [(0, .ref (xq X 7))]) pn_X4 rfl (Nat.le_of_ble_eq_true rfl) rfl ?_
  unfold P_X4_hasTwin at h
  refine r_aload_n 0 dX4_hasTwin_0 rfl rfl rfl ?_
  refine gf_X4_45_7 dX4_hasTwin_1 rfl ?_
  refine ric_m1 dX4_hasTwin_4 rfl ?_
  refine r_icmp_eq (t := 12) dX4_hasTwin_5 (by decide) rfl (fun c1 => ?_) (fun c1 => ?_)
  · have h := it_t c1 h
    refine ric_0 dX4_hasTwin_12 rfl ?_
    exact r_zretR (Or.inl rfl) dX4_hasTwin_13 h
  · have h := it_f c1 h
    refine ric_1 dX4_hasTwin_8 rfl ?_
    refine r_goto (t := 13) dX4_hasTwin_9 (by decide) ?_
    exact r_zretR (Or.inr rfl) dX4_hasTwin_13 h
