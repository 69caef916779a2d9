def P_X6_set__31 (a1 : Int32) (a2 : Int64) (σ : SS) : Option SS :=
  if a1 < 0 then
    some σ
  else
    if 300 ≤ a1 then
      some σ
    else
      gI a1 300 <|
      some (stL σ 3 a1 a2)
set_option maxHeartbeats 4000000 in
set_option maxRecDepth 100000 in
theorem T_X6_set__31 {X : XE} {σf : SS} {σ : SS} {a1 : Int32} {a2 : Int64} (h : P_X6_set__31 a1 a2 σ = some σf) : Mt (gX X) 0 yX6_set_ cX6_set_ 4 none [.ref (xq X 31), .int a1, .long a2] σ none σf := by
  refine Mt.of (own := RX6) (lv := [(0, .ref (xq X 31)), (1, .int a1), (2, .long a2)]) pn_X6 rfl (Nat.le_of_ble_eq_true rfl) rfl ?_
  unfold P_X6_set__31 at h
  refine r_iload_n 1 dX6_set__0 rfl rfl rfl ?_
  refine r_if_lt (t := 14) dX6_set__1 (by decide) rfl (fun c1 => ?_) (fun c1 => ?_)
  · have h := it_t c1 h
    exact r_vretS dX6_set__14 h
  · have h := it_f c1 h
    refine r_iload_n 1 dX6_set__4 rfl rfl rfl ?_
    refine r_aload_n 0 dX6_set__5 rfl rfl rfl ?_
    refine anX_31 dX6_set__6 rfl ?_
    refine r_icmp_ge (t := 14) dX6_set__7 (by decide) rfl (fun c2 => ?_) (fun c2 => ?_)
    · have h := it_t c2 h
      exact r_vretS dX6_set__14 h
    · have h := it_f c2 h
      refine r_aload_n 0 dX6_set__10 rfl rfl rfl ?_
      refine r_iload_n 1 dX6_set__11 rfl rfl rfl ?_
      refine r_lload_n 2 dX6_set__12 rfl rfl rfl ?_
      obtain ⟨hi3, h⟩ := gi h
      refine asX_31 hi3 dX6_set__13 rfl ?_
      exact r_vretS dX6_set__14 h
def P_X4_rank_j93 (K20 : Int32 → SS → Option SS) (x1 : Int32) (σ : SS) : Option SS :=
  K20 (x1 + (-1)) σ
set_option maxHeartbeats 4000000 in
set_option maxRecDepth 100000 in
theorem T_X4_rank_j93 {X : XE} {σf : SS} {K20 : Int32 → SS → Option SS} (hK20 : ∀ (x1 : Int32) (σ : SS), K20 x1 σ = some σf → V (gX X) 5 RX4 cX4_rank 3 none none σf 20 [(0, .ref (xq X 7)), (1, .int x1)] [] σ) : ∀ (x1 : Int32) (σ : SS), P_X4_rank_j93 K20 x1 σ = some σf → V (gX X) 5 RX4 cX4_rank 3 none none σf 93 [(0, .ref (xq X 7)), (1, .int x1)] [] σ := by
  intro x1 σ h
  unfold P_X4_rank_j93 at h
  refine r_iinc (v := (x1 + (-1))) (lv' := [(1, .int (x1 + (-1))), (0, .ref (xq X 7))]) 1 dX4_rank_93 rfl rfl (by decide) rfl rfl ?_
  refine r_goto (t := 20) dX4_rank_96 (by decide) ?_
  refine r_sub [1, 0] rfl ?_
  exact hK20 (x1 + (-1)) σ h
def P_X4_rank_j71 (K20 : Int32 → SS → Option SS) (x1 : Int32) (y0 : Int32) (σ : SS) : Option SS :=
  if y0 = 0 then
    P_X4_rank_j93 K20 x1 σ
  else
    (P_X4_numberAt x1 σ).bind fun v3 =>
    if v3 < 10000000000000000 then
      P_X4_rank_j93 K20 x1 σ
    else
      P_X4_rank_j93 K20 x1 (uI σ 17 1)
set_option maxHeartbeats 4000000 in
set_option maxRecDepth 100000 in
theorem T_X4_rank_j71 {X : XE} {σf : SS} {K20 : Int32 → SS → Option SS} (hK20 : ∀ (x1 : Int32) (σ : SS), K20 x1 σ = some σf → V (gX X) 5 RX4 cX4_rank 3 none none σf 20 [(0, .ref (xq X 7)), (1, .int x1)] [] σ) : ∀ (x1 : Int32) (y0 : Int32) (σ : SS), P_X4_rank_j71 K20 x1 y0 σ = some σf → V (gX X) 5 RX4 cX4_rank 3 none none σf 71 [(0, .ref (xq X 7)), (1, .int x1)] [.int y0] σ := by
  intro x1 y0 σ h
  unfold P_X4_rank_j71 at h
  refine r_istore_n (lv' := [(2, .int y0), (0, .ref (xq X 7)), (1, .int x1)]) dX4_rank_71 rfl (by decide) rfl rfl ?_
  refine r_iload_n 0 dX4_rank_72 rfl rfl rfl ?_
  refine r_if_eq (t := 93) dX4_rank_73 (by decide) rfl (fun c1 => ?_) (fun c1 => ?_)
  · have h := it_t c1 h
    refine r_sub [1, 2] rfl ?_
    exact T_X4_rank_j93 hK20 x1 σ h
  · have h := it_f c1 h
    refine r_aload_n 1 dX4_rank_76 rfl rfl rfl ?_
    refine r_iload_n 2 dX4_rank_77 rfl rfl rfl ?_
    obtain ⟨v3, e2, h⟩ := bd h
    refine r_callV (rest := []) (T_X4_numberAt e2) (by decide) mf_X4_numberAt rfl tw_857 tw_32 tw_855 cX_7 rfl rfl rfl (Nat.le_of_ble_eq_true rfl) dX4_rank_78 rfl ?_
    refine r_call0 ?_
    refine r_ldc2 (v := 10000000000000000) tw_903 dX4_rank_81 rfl ?_
    refine r_lif_lt (t := 93) dX4_rank_84 rfl dX4_rank_85 (by decide) rfl (fun c4 => ?_) (fun c4 => ?_)
    · have h := it_t c4 h
      refine r_sub [1, 2] rfl ?_
      exact T_X4_rank_j93 hK20 x1 σ h
    · have h := it_f c4 h
      refine r_aload_n 1 dX4_rank_88 rfl rfl rfl ?_
      refine ric_1 dX4_rank_89 rfl ?_
      refine pf_X4_41_7 (Or.inr rfl) dX4_rank_90 rfl ?_
      refine r_sub [1, 2] rfl ?_
      exact T_X4_rank_j93 hK20 x1 (uI σ 17 1) h
def P_X4_rank_j70 (K20 : Int32 → SS → Option SS) (x1 : Int32) (σ : SS) : Option SS :=
  P_X4_rank_j71 K20 x1 0 σ
set_option maxHeartbeats 4000000 in
set_option maxRecDepth 100000 in
theorem T_X4_rank_j70 {X : XE} {σf : SS} {K20 : Int32 → SS → Option SS} (hK20 : ∀ (x1 : Int32) (σ : SS), K20 x1 σ = some σf → V (gX X) 5 RX4 cX4_rank 3 none none σf 20 [(0, .ref (xq X 7)), (1, .int x1)] [] σ) : ∀ (x1 : Int32) (σ : SS), P_X4_rank_j70 K20 x1 σ = some σf → V (gX X) 5 RX4 cX4_rank 3 none none σf 70 [(0, .ref (xq X 7)), (1, .int x1)] [] σ := by
  intro x1 σ h
  unfold P_X4_rank_j70 at h
  refine ric_0 dX4_rank_70 rfl ?_
  exact T_X4_rank_j71 hK20 x1 0 σ h
def P_X4_rank_j20 : Nat → Int32 → SS → Option SS
  | 0, _, _ => none
  | n + 1, x1, σ =>
    if x1 < 0 then
      some σ
    else
      b2 (P_X4_numberOf x1 σ) fun v3 σ4 =>
      (P_X6_set__31 x1 v3 σ4).bind fun σ6 =>
      if x1 ≤ 0 then
        P_X4_rank_j70 (P_X4_rank_j20 n) x1 σ6
      else
        (P_X5_parentAt x1 σ6).bind fun v9 =>
        (P_X5_shapeAt v9 σ6).bind fun v11 =>
        (P_X1_isBag v11 σ6).bind fun v13 =>
        if v13 = 0 then
          P_X4_rank_j70 (P_X4_rank_j20 n) x1 σ6
        else
          P_X4_rank_j71 (P_X4_rank_j20 n) x1 1 σ6
set_option maxHeartbeats 4000000 in
set_option maxRecDepth 100000 in
theorem T_X4_rank_j20 {X : XE} {σf : SS} : ∀ (fu : Nat) (x1 : Int32) (σ : SS), P_X4_rank_j20 fu x1 σ = some σf → V (gX X) 5 RX4 cX4_rank 3 none none σf 20 [(0, .ref (xq X 7)), (1, .int x1)] [] σ := by
  intro fu
  induction fu with
  | zero => intro x1 σ h; exact no0 h
  | succ n ih =>
    intro x1 σ h
    unfold P_X4_rank_j20 at h
    refine r_iload_n 1 dX4_rank_20 rfl rfl rfl ?_
    refine r_if_lt (t := 99) dX4_rank_21 (by decide) rfl (fun c1 => ?_) (fun c1 => ?_)
    · have h := it_t c1 h
      exact r_vretS dX4_rank_99 h
    · have h := it_f c1 h
      refine r_aload_n 0 dX4_rank_24 rfl rfl rfl ?_
      refine gf_X4_9_7 dX4_rank_25 rfl ?_
      refine r_iload_n 1 dX4_rank_28 rfl rfl rfl ?_
      refine r_aload_n 0 dX4_rank_29 rfl rfl rfl ?_
      refine r_iload_n 1 dX4_rank_30 rfl rfl rfl ?_
      obtain ⟨v3, σ4, e2, h⟩ := b2d h
      refine r_callV (rest := [.int x1, .ref (xq X 31)]) (T_X4_numberOf e2) (by decide) mf_X4_numberOf rfl tw_831 tw_27 tw_829 cX_7 rfl rfl rfl (Nat.le_of_ble_eq_true rfl) dX4_rank_31 rfl ?_
      refine r_call0 ?_
      obtain ⟨σ6, e5, h⟩ := bd h
      refine r_callS (As := [.ref (xq X 31), .int x1, .long v3]) (rest := []) (T_X6_set__31 e5) (by decide) mf_X6_set_ rfl tw_564 tw_893 rfl (Nat.le_of_ble_eq_true rfl) dX4_rank_34 rfl ?_
      refine r_calln ?_
      refine r_iload_n 1 dX4_rank_37 rfl rfl rfl ?_
      refine r_if_le (t := 70) dX4_rank_38 (by decide) rfl (fun c7 => ?_) (fun c7 => ?_)
      · have h := it_t c7 h
        exact T_X4_rank_j70 ih x1 σ6 h
      · have h := it_f c7 h
        refine r_aload_n 0 dX4_rank_41 rfl rfl rfl ?_
        refine gf_X4_25_7 dX4_rank_42 rfl ?_
        refine r_aload_n 0 dX4_rank_45 rfl rfl rfl ?_
        refine gf_X4_33_7 dX4_rank_46 rfl ?_
        refine r_aload_n 0 dX4_rank_49 rfl rfl rfl ?_
        refine gf_X4_33_7 dX4_rank_50 rfl ?_
        refine r_iload_n 1 dX4_rank_53 rfl rfl rfl ?_
        obtain ⟨v9, e8, h⟩ := bd h
        refine r_callV (rest := [.ref (xq X 6), .ref (xq X 1)]) (T_X5_parentAt e8) (by decide) mf_X5_parentAt rfl tw_757 tw_758 tw_901 cX_6 rfl rfl rfl (Nat.le_of_ble_eq_true rfl) dX4_rank_54 rfl ?_
        refine r_call0 ?_
        obtain ⟨v11, e10, h⟩ := bd h
        refine r_callV (rest := [.ref (xq X 1)]) (T_X5_shapeAt e10) (by decide) mf_X5_shapeAt rfl tw_762 tw_763 tw_833 cX_6 rfl rfl rfl (Nat.le_of_ble_eq_true rfl) dX4_rank_57 rfl ?_
        refine r_call0 ?_
        obtain ⟨v13, e12, h⟩ := bd h
        refine r_callV (rest := []) (T_X1_isBag e12) (by decide) mf_X1_isBag rfl tw_495 tw_496 tw_902 cX_1 rfl rfl rfl (Nat.le_of_ble_eq_true rfl) dX4_rank_60 rfl ?_
        refine r_call0 ?_
        refine r_if_eq (t := 70) dX4_rank_63 (by decide) rfl (fun c14 => ?_) (fun c14 => ?_)
        · have h := it_t c14 h
          exact T_X4_rank_j70 ih x1 σ6 h
        · have h := it_f c14 h
          refine ric_1 dX4_rank_66 rfl ?_
          refine r_goto (t := 71) dX4_rank_67 (by decide) ?_
          exact T_X4_rank_j71 ih x1 1 σ6 h
def P_X4_rank (σ : SS) : Option SS :=
  (P_X5_size (uI (uI σ 17 0) 18 (-1))).bind fun v2 =>
  P_X4_rank_j20 FU (v2 - 1) (uI (uI σ 17 0) 18 (-1))
set_option maxHeartbeats 4000000 in
set_option maxRecDepth 100000 in
theorem T_X4_rank {X : XE} {σf : SS} {σ : SS} (h : P_X4_rank σ = some σf) : Mt (gX X) 5 yX4_rank cX4_rank 3 none [.ref (xq X 7)] σ none σf := by
  refine Mt.of (own := RX4) (lv := [(0, .ref (xq X 7))]) pn_X4 rfl (Nat.le_of_ble_eq_true rfl) rfl ?_
  unfold P_X4_rank at h
  refine r_aload_n 0 dX4_rank_0 rfl rfl rfl ?_
  refine ric_0 dX4_rank_1 rfl ?_
  refine pf_X4_41_7 (Or.inl rfl) dX4_rank_2 rfl ?_
  refine r_aload_n 0 dX4_rank_5 rfl rfl rfl ?_
  refine ric_m1 dX4_rank_6 rfl ?_
  refine pf_X4_45_7 dX4_rank_7 rfl ?_
  refine r_aload_n 0 dX4_rank_10 rfl rfl rfl ?_
  refine gf_X4_33_7 dX4_rank_11 rfl ?_
  obtain ⟨v2, e1, h⟩ := bd h
  refine r_callV (rest := []) (T_X5_size e1) (by decide) mf_X5_size rfl tw_826 tw_827 tw_825 cX_6 rfl rfl rfl (Nat.le_of_ble_eq_true rfl) dX4_rank_14 rfl ?_
  refine r_call0 ?_
  refine ric_1 dX4_rank_17 rfl ?_
  refine r_isub dX4_rank_18 rfl ?_
  refine r_istore_n (lv' := [(1, .int (v2 - 1)), (0, .ref (xq X 7))]) dX4_rank_19 rfl (by decide) rfl rfl ?_
  refine r_sub [1, 0] rfl ?_
  exact T_X4_rank_j20 FU (v2 - 1) (uI (uI σ 17 0) 18 (-1)) h
def P_X4_hasManyPart (σ : SS) : Option Int32 :=
  gZ (sI σ 17) <|
  some (sI σ 17)
set_option maxHeartbeats 4000000 in
set_option maxRecDepth 100000 in
theorem T_X4_hasManyPart {X : XE} {σ : SS} {r : Int32} (h : P_X4_hasManyPart σ = some r) : Mt (gX X) 0 yX4_hasManyPart cX4_hasManyPart 1 (some .boolean) [.ref (xq X 7)] σ (some (.int r)) σ := by
  refine Mt.of (own := RX4) (lv := [(0, .ref (xq X 7))]) pn_X4 rfl (Nat.le_of_ble_eq_true rfl) rfl ?_
  unfold P_X4_hasManyPart at h
  refine r_aload_n 0 dX4_hasManyPart_0 rfl rfl rfl ?_
  refine gf_X4_41_7 dX4_hasManyPart_1 rfl ?_
  obtain ⟨hz1, h⟩ := gz h
  exact r_zretR hz1 dX4_hasManyPart_4 h
def P_X4_twinPlace (σ : SS) : Option Int32 :=
  some (sI σ 18)
set_option maxHeartbeats 4000000 in
set_option maxRecDepth 100000 in
theorem T_X4_twinPlace {X : XE} {σ : SS} {r : Int32} (h : P_X4_twinPlace σ = some r) : Mt (gX X) 0 yX4_twinPlace cX4_twinPlace 1 (some .int) [.ref (xq X 7)] σ (some (.int r)) σ := by
  refine Mt.of (own := RX4) (lv := [(0, .ref (xq X 7))]) pn_X4 rfl (Nat.le_of_ble_eq_true rfl) rfl ?_
  unfold P_X4_twinPlace at h
  refine r_aload_n 0 dX4_twinPlace_0 rfl rfl rfl ?_
  refine gf_X4_45_7 dX4_twinPlace_1 rfl ?_
  exact r_iretR dX4_twinPlace_4 h
def P_X4_wholeNumber (σ : SS) : Option Int64 :=
  (P_X4_numberAt 0 σ).bind fun v2 =>
  some v2
set_option maxHeartbeats 4000000 in
set_option maxRecDepth 100000 in
theorem T_X4_wholeNumber {X : XE} {σ : SS} {r : Int64} (h : P_X4_wholeNumber σ = some r) : Mt (gX X) 2 yX4_wholeNumber cX4_wholeNumber 1 (some .long) [.ref (xq X 7)] σ (some (.long r)) σ := by
  refine Mt.of (own := RX4) (lv := [(0, .ref (xq X 7))]) pn_X4 rfl (Nat.le_of_ble_eq_true rfl) rfl ?_
  unfold P_X4_wholeNumber at h
  refine r_aload_n 0 dX4_wholeNumber_0 rfl rfl rfl ?_
  refine ric_0 dX4_wholeNumber_1 rfl ?_
  obtain ⟨v2, e1, h⟩ := bd h
  refine r_callV (rest := []) (T_X4_numberAt e1) (by decide) mf_X4_numberAt rfl tw_857 tw_32 tw_855 cX_7 rfl rfl rfl (Nat.le_of_ble_eq_true rfl) dX4_wholeNumber_2 rfl ?_
  refine r_call0 ?_
  exact r_lretR dX4_wholeNumber_5 h
def P_X10_judge (σ : SS) : Option (Int64 × SS) :=
  (P_X0_length_8 (uI σ 1 1)).bind fun v2 =>
  (P_X5_fault (uI (uI σ 1 1) 4 v2)).bind fun v4 =>
  (P_X5_wholeSize (uI (uI (uI σ 1 1) 4 v2) 2 v4)).bind fun v6 =>
  if (sI (uI (uI (uI (uI σ 1 1) 4 v2) 2 v4) 3 v6) 2) = 0 then
    (P_X4_rank (uI (uI (uI (uI σ 1 1) 4 v2) 2 v4) 3 v6)).bind fun σ9 =>
    (P_X4_hasManyPart σ9).bind fun v11 =>
    if v11 = 0 then
      (P_X4_hasTwin σ9).bind fun v14 =>
      if v14 = 0 then
        (P_X4_wholeNumber σ9).bind fun v17 =>
        (P_X10_orMany v17).bind fun v19 =>
        some (v19, σ9)
      else
        (P_X4_twinPlace (uI σ9 2 3)).bind fun v21 =>
        some (((-100) - v21).toInt64, (uI σ9 2 3))
    else
      some ((-2000000004), σ9)
  else
    (P_X5_faultPlace (uI (uI (uI (uI σ 1 1) 4 v2) 2 v4) 3 v6)).bind fun v23 =>
    some (((-100) - v23).toInt64, (uI (uI (uI (uI σ 1 1) 4 v2) 2 v4) 3 v6))
set_option maxHeartbeats 4000000 in
set_option maxRecDepth 100000 in
theorem T_X10_judge {X : XE} {σf : SS} {r : Int64} {σ : SS} (h : P_X10_judge σ = some (r, σf)) : Mt (gX X) 6 yX10_judge cX10_judge 1 (some .long) [.ref (xq X 0)] σ (some (.long r)) σf := by
  refine Mt.of (own := RX10) (lv := [(0, .ref (xq X 0))]) pn_X10 rfl (Nat.le_of_ble_eq_true rfl) rfl ?_
  unfold P_X10_judge at h
  refine r_aload_n 0 dX10_judge_0 rfl rfl rfl ?_
  refine ric_1 dX10_judge_1 rfl ?_
  refine pf_X10_181_0 (Or.inr rfl) dX10_judge_2 rfl ?_
  refine r_aload_n 0 dX10_judge_5 rfl rfl rfl ?_
  refine r_aload_n 0 dX10_judge_6 rfl rfl rfl ?_
  refine gf_X10_53_0 dX10_judge_7 rfl ?_
  obtain ⟨v2, e1, h⟩ := bd h
  refine r_callV (rest := [.ref (xq X 0)]) (T_X0_length_8 e1) (by decide) mf_X0_length rfl tw_704 tw_705 tw_703 cX_8 rfl rfl rfl (Nat.le_of_ble_eq_true rfl) dX10_judge_10 rfl ?_
  refine r_call0 ?_
  refine pf_X10_188_0 dX10_judge_13 rfl ?_
  refine r_aload_n 0 dX10_judge_16 rfl rfl rfl ?_
  refine r_aload_n 0 dX10_judge_17 rfl rfl rfl ?_
  refine gf_X10_65_0 dX10_judge_18 rfl ?_
  obtain ⟨v4, e3, h⟩ := bd h
  refine r_callV (rest := [.ref (xq X 0)]) (T_X5_fault e3) (by decide) mf_X5_fault rfl tw_813 tw_814 tw_812 cX_6 rfl rfl rfl (Nat.le_of_ble_eq_true rfl) dX10_judge_21 rfl ?_
  refine r_call0 ?_
  refine pf_X10_184_0 dX10_judge_24 rfl ?_
  refine r_aload_n 0 dX10_judge_27 rfl rfl rfl ?_
  refine r_aload_n 0 dX10_judge_28 rfl rfl rfl ?_
  refine gf_X10_65_0 dX10_judge_29 rfl ?_
  obtain ⟨v6, e5, h⟩ := bd h
  refine r_callV (rest := [.ref (xq X 0)]) (T_X5_wholeSize e5) (by decide) mf_X5_wholeSize rfl tw_805 tw_806 tw_816 cX_6 rfl rfl rfl (Nat.le_of_ble_eq_true rfl) dX10_judge_32 rfl ?_
  refine r_call0 ?_
  refine pf_X10_191_0 dX10_judge_35 rfl ?_
  refine r_aload_n 0 dX10_judge_38 rfl rfl rfl ?_
  refine gf_X10_184_0 dX10_judge_39 rfl ?_
  refine r_if_eq (t := 57) dX10_judge_42 (by decide) rfl (fun c7 => ?_) (fun c7 => ?_)
  · have h := it_t c7 h
    refine r_aload_n 0 dX10_judge_57 rfl rfl rfl ?_
    refine gf_X10_74_0 dX10_judge_58 rfl ?_
    obtain ⟨σ9, e8, h⟩ := bd h
    refine r_callV (rest := []) (T_X4_rank e8) (by decide) mf_X4_rank rfl tw_822 tw_823 tw_821 cX_7 rfl rfl rfl (Nat.le_of_ble_eq_true rfl) dX10_judge_61 rfl ?_
    refine r_calln ?_
    refine r_aload_n 0 dX10_judge_64 rfl rfl rfl ?_
    refine gf_X10_74_0 dX10_judge_65 rfl ?_
    obtain ⟨v11, e10, h⟩ := bd h
    refine r_callV (rest := []) (T_X4_hasManyPart e10) (by decide) mf_X4_hasManyPart rfl tw_905 tw_906 tw_904 cX_7 rfl rfl rfl (Nat.le_of_ble_eq_true rfl) dX10_judge_68 rfl ?_
    refine r_call0 ?_
    refine r_if_eq (t := 78) dX10_judge_71 (by decide) rfl (fun c12 => ?_) (fun c12 => ?_)
    · have h := it_t c12 h
      refine r_aload_n 0 dX10_judge_78 rfl rfl rfl ?_
      refine gf_X10_74_0 dX10_judge_79 rfl ?_
      obtain ⟨v14, e13, h⟩ := bd h
      refine r_callV (rest := []) (T_X4_hasTwin e13) (by decide) mf_X4_hasTwin rfl tw_864 tw_865 tw_908 cX_7 rfl rfl rfl (Nat.le_of_ble_eq_true rfl) dX10_judge_82 rfl ?_
      refine r_call0 ?_
      refine r_if_eq (t := 105) dX10_judge_85 (by decide) rfl (fun c15 => ?_) (fun c15 => ?_)
      · have h := it_t c15 h
        refine r_aload_n 0 dX10_judge_105 rfl rfl rfl ?_
        refine gf_X10_74_0 dX10_judge_106 rfl ?_
        obtain ⟨v17, e16, h⟩ := bd h
        refine r_callV (rest := []) (T_X4_wholeNumber e16) (by decide) mf_X4_wholeNumber rfl tw_914 tw_915 tw_913 cX_7 rfl rfl rfl (Nat.le_of_ble_eq_true rfl) dX10_judge_109 rfl ?_
        refine r_call0 ?_
        obtain ⟨v19, e18, h⟩ := bd h
        refine r_callS (As := [.long v17]) (rest := []) (T_X10_orMany e18) (by decide) mf_X10_orMany rfl tw_601 tw_600 rfl (Nat.le_of_ble_eq_true rfl) dX10_judge_112 rfl ?_
        refine r_call0 ?_
        exact r_lretQ dX10_judge_115 h
      · have h := it_f c15 h
        refine r_aload_n 0 dX10_judge_88 rfl rfl rfl ?_
        refine ric_3 dX10_judge_89 rfl ?_
        refine pf_X10_184_0 dX10_judge_90 rfl ?_
        refine r_bipush (v := (-100)) dX10_judge_93 (by decide) rfl ?_
        refine r_aload_n 0 dX10_judge_95 rfl rfl rfl ?_
        refine gf_X10_74_0 dX10_judge_96 rfl ?_
        obtain ⟨v21, e20, h⟩ := bd h
        refine r_callV (rest := [.int (-100)]) (T_X4_twinPlace e20) (by decide) mf_X4_twinPlace rfl tw_910 tw_911 tw_909 cX_7 rfl rfl rfl (Nat.le_of_ble_eq_true rfl) dX10_judge_99 rfl ?_
        refine r_call0 ?_
        refine r_isub dX10_judge_102 rfl ?_
        refine r_i2l dX10_judge_103 rfl ?_
        exact r_lretQ dX10_judge_104 h
    · have h := it_f c12 h
      refine r_ldc2 (v := (-2000000004)) tw_604 dX10_judge_74 rfl ?_
      exact r_lretQ dX10_judge_77 h
  · have h := it_f c7 h
    refine r_bipush (v := (-100)) dX10_judge_45 (by decide) rfl ?_
    refine r_aload_n 0 dX10_judge_47 rfl rfl rfl ?_
    refine gf_X10_65_0 dX10_judge_48 rfl ?_
    obtain ⟨v23, e22, h⟩ := bd h
    refine r_callV (rest := [.int (-100)]) (T_X5_faultPlace e22) (by decide) mf_X5_faultPlace rfl tw_818 tw_819 tw_817 cX_6 rfl rfl rfl (Nat.le_of_ble_eq_true rfl) dX10_judge_51 rfl ?_
    refine r_call0 ?_
    refine r_isub dX10_judge_54 rfl ?_
    refine r_i2l dX10_judge_55 rfl ?_
    exact r_lretQ dX10_judge_56 h
def P_X10_read_j20 (x1 : Int32) (y0 : Int64) (σ : SS) : Option (Int64 × SS) :=
  if (sI σ 0) = 0 then
    (P_X0_shorten_8 0 σ).bind fun σ3 =>
    some (y0, σ3)
  else
    (P_X1_has x1 σ).bind fun v5 =>
    if v5 = 0 then
      (P_X0_shorten_8 0 σ).bind fun σ8 =>
      some (y0, σ8)
    else
      (P_X5_scan x1 σ).bind fun σ10 =>
      b2 (P_X10_judge σ10) fun v12 σ13 =>
      (P_X0_shorten_8 0 σ13).bind fun σ15 =>
      some (v12, σ15)
set_option maxHeartbeats 4000000 in
set_option maxRecDepth 100000 in
theorem T_X10_read_j20 {X : XE} {σf : SS} {r : Int64} : ∀ (x1 : Int32) (y0 : Int64) (σ : SS), P_X10_read_j20 x1 y0 σ = some (r, σf) → V (gX X) 7 RX10 cX10_read 4 (some .long) (some (.long r)) σf 20 [(0, .ref (xq X 0)), (1, .int x1)] [.long y0] σ := by
  intro x1 y0 σ h
  unfold P_X10_read_j20 at h
  refine r_lstore_n (lv' := [(2, .long y0), (0, .ref (xq X 0)), (1, .int x1)]) dX10_read_20 rfl (by decide) rfl rfl ?_
  refine r_aload_n 1 dX10_read_21 rfl rfl rfl ?_
  refine gf_X10_98_0 dX10_read_22 rfl ?_
  refine r_if_eq (t := 52) dX10_read_25 (by decide) rfl (fun c1 => ?_) (fun c1 => ?_)
  · have h := it_t c1 h
    refine r_aload_n 1 dX10_read_52 rfl rfl rfl ?_
    refine gf_X10_53_0 dX10_read_53 rfl ?_
    refine ric_0 dX10_read_56 rfl ?_
    obtain ⟨σ3, e2, h⟩ := bd h
    refine r_callV (rest := []) (T_X0_shorten_8 e2) (by decide) mf_X0_shorten rfl tw_624 tw_625 tw_719 cX_8 rfl rfl rfl (Nat.le_of_ble_eq_true rfl) dX10_read_57 rfl ?_
    refine r_calln ?_
    refine r_lload_n 0 dX10_read_60 rfl rfl rfl ?_
    exact r_lretQ dX10_read_61 h
  · have h := it_f c1 h
    refine r_aload_n 1 dX10_read_28 rfl rfl rfl ?_
    refine gf_X10_12_0 dX10_read_29 rfl ?_
    refine r_iload_n 2 dX10_read_32 rfl rfl rfl ?_
    obtain ⟨v5, e4, h⟩ := bd h
    refine r_callV (rest := []) (T_X1_has e4) (by decide) mf_X1_has rfl tw_416 tw_417 tw_415 cX_1 rfl rfl rfl (Nat.le_of_ble_eq_true rfl) dX10_read_33 rfl ?_
    refine r_call0 ?_
    refine r_if_eq (t := 52) dX10_read_36 (by decide) rfl (fun c6 => ?_) (fun c6 => ?_)
    · have h := it_t c6 h
      refine r_aload_n 1 dX10_read_52 rfl rfl rfl ?_
      refine gf_X10_53_0 dX10_read_53 rfl ?_
      refine ric_0 dX10_read_56 rfl ?_
      obtain ⟨σ8, e7, h⟩ := bd h
      refine r_callV (rest := []) (T_X0_shorten_8 e7) (by decide) mf_X0_shorten rfl tw_624 tw_625 tw_719 cX_8 rfl rfl rfl (Nat.le_of_ble_eq_true rfl) dX10_read_57 rfl ?_
      refine r_calln ?_
      refine r_lload_n 0 dX10_read_60 rfl rfl rfl ?_
      exact r_lretQ dX10_read_61 h
    · have h := it_f c6 h
      refine r_aload_n 1 dX10_read_39 rfl rfl rfl ?_
      refine gf_X10_65_0 dX10_read_40 rfl ?_
      refine r_iload_n 2 dX10_read_43 rfl rfl rfl ?_
      obtain ⟨σ10, e9, h⟩ := bd h
      refine r_callV (rest := []) (T_X5_scan e9) (by decide) mf_X5_scan rfl tw_729 tw_730 tw_728 cX_6 rfl rfl rfl (Nat.le_of_ble_eq_true rfl) dX10_read_44 rfl ?_
      refine r_calln ?_
      refine r_aload_n 1 dX10_read_47 rfl rfl rfl ?_
      obtain ⟨v12, σ13, e11, h⟩ := b2d h
      refine r_callV (rest := []) (T_X10_judge e11) (by decide) mf_X10_judge rfl tw_810 tw_26 tw_808 cX_0 rfl rfl rfl (Nat.le_of_ble_eq_true rfl) dX10_read_48 rfl ?_
      refine r_call0 ?_
      refine r_lstore_n (lv' := [(2, .long v12), (0, .ref (xq X 0)), (1, .int x1)]) dX10_read_51 rfl (by decide) rfl rfl ?_
      refine r_aload_n 1 dX10_read_52 rfl rfl rfl ?_
      refine gf_X10_53_0 dX10_read_53 rfl ?_
      refine ric_0 dX10_read_56 rfl ?_
      obtain ⟨σ15, e14, h⟩ := bd h
      refine r_callV (rest := []) (T_X0_shorten_8 e14) (by decide) mf_X0_shorten rfl tw_624 tw_625 tw_719 cX_8 rfl rfl rfl (Nat.le_of_ble_eq_true rfl) dX10_read_57 rfl ?_
      refine r_calln ?_
      refine r_lload_n 0 dX10_read_60 rfl rfl rfl ?_
      exact r_lretQ dX10_read_61 h
def P_X10_read (a1 : Int32) (σ : SS) : Option (Int64 × SS) :=
  (P_X1_has a1 σ).bind fun v2 =>
  if v2 = 0 then
    P_X10_read_j20 a1 (-2000000001) σ
  else
    P_X10_read_j20 a1 (-2000000002) σ
set_option maxHeartbeats 4000000 in
set_option maxRecDepth 100000 in
theorem T_X10_read {X : XE} {σf : SS} {r : Int64} {σ : SS} {a1 : Int32} (h : P_X10_read a1 σ = some (r, σf)) : Mt (gX X) 7 yX10_read cX10_read 4 (some .long) [.ref (xq X 0), .int a1] σ (some (.long r)) σf := by
  refine Mt.of (own := RX10) (lv := [(0, .ref (xq X 0)), (1, .int a1)]) pn_X10 rfl (Nat.le_of_ble_eq_true rfl) rfl ?_
  unfold P_X10_read at h
  refine r_aload_n 0 dX10_read_0 rfl rfl rfl ?_
  refine gf_X10_12_0 dX10_read_1 rfl ?_
  refine r_iload_n 1 dX10_read_4 rfl rfl rfl ?_
  obtain ⟨v2, e1, h⟩ := bd h
  refine r_callV (rest := []) (T_X1_has e1) (by decide) mf_X1_has rfl tw_416 tw_417 tw_415 cX_1 rfl rfl rfl (Nat.le_of_ble_eq_true rfl) dX10_read_5 rfl ?_
  refine r_call0 ?_
  refine r_if_eq (t := 17) dX10_read_8 (by decide) rfl (fun c3 => ?_) (fun c3 => ?_)
  · have h := it_t c3 h
    refine r_ldc2 (v := (-2000000001)) tw_385 dX10_read_17 rfl ?_
    exact T_X10_read_j20 a1 (-2000000001) σ h
  · have h := it_f c3 h
    refine r_ldc2 (v := (-2000000002)) tw_440 dX10_read_11 rfl ?_
    refine r_goto (t := 20) dX10_read_14 (by decide) ?_
    exact T_X10_read_j20 a1 (-2000000002) σ h
def P_X10_found (a1 : Int32) (σ : SS) : Option Int64 :=
  if a1 < 0 then
    some (-2000000001)
  else
    if a1 ≤ 2 then
      if ¬ (sI σ 1) = 0 then
        if ¬ a1 = 0 then
          if ¬ a1 = 2 then
            if (sI σ 2) = 0 then
              some ((sI σ 3).toInt64)
            else
              if ¬ (sI σ 2) = 3 then
                some (-2000000005)
              else
                some ((sI σ 3).toInt64)
          else
            some ((sI σ 4).toInt64)
        else
          some ((sI σ 2).toInt64)
      else
        some (-2000000005)
    else
      some (-2000000001)
set_option maxHeartbeats 4000000 in
set_option maxRecDepth 100000 in
theorem T_X10_found {X : XE} {σ : SS} {r : Int64} {a1 : Int32} (h : P_X10_found a1 σ = some r) : Mt (gX X) 0 yX10_found cX10_found 2 (some .long) [.ref (xq X 0), .int a1] σ (some (.long r)) σ := by
  refine Mt.of (own := RX10) (lv := [(0, .ref (xq X 0)), (1, .int a1)]) pn_X10 rfl (Nat.le_of_ble_eq_true rfl) rfl ?_
  unfold P_X10_found at h
  refine r_iload_n 1 dX10_found_0 rfl rfl rfl ?_
  refine r_if_lt (t := 9) dX10_found_1 (by decide) rfl (fun c1 => ?_) (fun c1 => ?_)
  · have h := it_t c1 h
    refine r_ldc2 (v := (-2000000001)) tw_385 dX10_found_9 rfl ?_
    exact r_lretR dX10_found_12 h
  · have h := it_f c1 h
    refine r_iload_n 1 dX10_found_4 rfl rfl rfl ?_
    refine ric_2 dX10_found_5 rfl ?_
    refine r_icmp_le (t := 13) dX10_found_6 (by decide) rfl (fun c2 => ?_) (fun c2 => ?_)
    · have h := it_t c2 h
      refine r_aload_n 0 dX10_found_13 rfl rfl rfl ?_
      refine gf_X10_181_0 dX10_found_14 rfl ?_
      refine r_if_ne (t := 24) dX10_found_17 (by decide) rfl (fun c3 => ?_) (fun c3 => ?_)
      · have h := it_t c3 h
        refine r_iload_n 1 dX10_found_24 rfl rfl rfl ?_
        refine r_if_ne (t := 34) dX10_found_25 (by decide) rfl (fun c4 => ?_) (fun c4 => ?_)
        · have h := it_t c4 h
          refine r_iload_n 1 dX10_found_34 rfl rfl rfl ?_
          refine ric_2 dX10_found_35 rfl ?_
          refine r_icmp_ne (t := 45) dX10_found_36 (by decide) rfl (fun c5 => ?_) (fun c5 => ?_)
          · have h := it_t c5 h
            refine r_aload_n 0 dX10_found_45 rfl rfl rfl ?_
            refine gf_X10_184_0 dX10_found_46 rfl ?_
            refine r_if_eq (t := 60) dX10_found_49 (by decide) rfl (fun c6 => ?_) (fun c6 => ?_)
            · have h := it_t c6 h
              refine r_aload_n 0 dX10_found_60 rfl rfl rfl ?_
              refine gf_X10_191_0 dX10_found_61 rfl ?_
              refine r_i2l dX10_found_64 rfl ?_
              refine r_goto (t := 71) dX10_found_65 (by decide) ?_
              exact r_lretR dX10_found_71 h
            · have h := it_f c6 h
              refine r_aload_n 0 dX10_found_52 rfl rfl rfl ?_
              refine gf_X10_184_0 dX10_found_53 rfl ?_
              refine ric_3 dX10_found_56 rfl ?_
              refine r_icmp_ne (t := 68) dX10_found_57 (by decide) rfl (fun c7 => ?_) (fun c7 => ?_)
              · have h := it_t c7 h
                refine r_ldc2 (v := (-2000000005)) tw_614 dX10_found_68 rfl ?_
                exact r_lretR dX10_found_71 h
              · have h := it_n c7 h
                refine r_aload_n 0 dX10_found_60 rfl rfl rfl ?_
                refine gf_X10_191_0 dX10_found_61 rfl ?_
                refine r_i2l dX10_found_64 rfl ?_
                refine r_goto (t := 71) dX10_found_65 (by decide) ?_
                exact r_lretR dX10_found_71 h
          · have h := it_n c5 h
            refine r_aload_n 0 dX10_found_39 rfl rfl rfl ?_
            refine gf_X10_188_0 dX10_found_40 rfl ?_
            refine r_i2l dX10_found_43 rfl ?_
            exact r_lretR dX10_found_44 h
        · have h := it_n c4 h
          refine r_aload_n 0 dX10_found_28 rfl rfl rfl ?_
          refine gf_X10_184_0 dX10_found_29 rfl ?_
          refine r_i2l dX10_found_32 rfl ?_
          exact r_lretR dX10_found_33 h
      · have h := it_n c3 h
        refine r_ldc2 (v := (-2000000005)) tw_614 dX10_found_20 rfl ?_
        exact r_lretR dX10_found_23 h
    · have h := it_f c2 h
      refine r_ldc2 (v := (-2000000001)) tw_385 dX10_found_9 rfl ?_
      exact r_lretR dX10_found_12 h
def P_X10_out (a1 : Int32) (σ : SS) : Option Int64 :=
  if a1 < 0 then
    some (-2000000005)
  else
    (P_X0_length_9 σ).bind fun v3 =>
    if v3 ≤ a1 then
      some (-2000000005)
    else
      (P_X0_at_9 a1 σ).bind fun v6 =>
      some v6.toInt64
set_option maxHeartbeats 4000000 in
set_option maxRecDepth 100000 in
theorem T_X10_out {X : XE} {σ : SS} {r : Int64} {a1 : Int32} (h : P_X10_out a1 σ = some r) : Mt (gX X) 2 yX10_out cX10_out 2 (some .long) [.ref (xq X 0), .int a1] σ (some (.long r)) σ := by
  refine Mt.of (own := RX10) (lv := [(0, .ref (xq X 0)), (1, .int a1)]) pn_X10 rfl (Nat.le_of_ble_eq_true rfl) rfl ?_
  unfold P_X10_out at h
  refine r_iload_n 1 dX10_out_0 rfl rfl rfl ?_
  refine r_if_lt (t := 27) dX10_out_1 (by decide) rfl (fun c1 => ?_) (fun c1 => ?_)
  · have h := it_t c1 h
    refine r_ldc2 (v := (-2000000005)) tw_614 dX10_out_27 rfl ?_
    exact r_lretR dX10_out_30 h
  · have h := it_f c1 h
    refine r_iload_n 1 dX10_out_4 rfl rfl rfl ?_
    refine r_aload_n 0 dX10_out_5 rfl rfl rfl ?_
    refine gf_X10_57_0 dX10_out_6 rfl ?_
    obtain ⟨v3, e2, h⟩ := bd h
    refine r_callV (rest := [.int a1]) (T_X0_length_9 e2) (by decide) mf_X0_length rfl tw_704 tw_705 tw_703 cX_9 rfl rfl rfl (Nat.le_of_ble_eq_true rfl) dX10_out_9 rfl ?_
    refine r_call0 ?_
    refine r_icmp_ge (t := 27) dX10_out_12 (by decide) rfl (fun c4 => ?_) (fun c4 => ?_)
    · have h := it_t c4 h
      refine r_ldc2 (v := (-2000000005)) tw_614 dX10_out_27 rfl ?_
      exact r_lretR dX10_out_30 h
    · have h := it_f c4 h
      refine r_aload_n 0 dX10_out_15 rfl rfl rfl ?_
      refine gf_X10_57_0 dX10_out_16 rfl ?_
      refine r_iload_n 1 dX10_out_19 rfl rfl rfl ?_
      obtain ⟨v6, e5, h⟩ := bd h
      refine r_callV (rest := []) (T_X0_at_9 e5) (by decide) mf_X0_at rfl tw_698 tw_699 tw_925 cX_9 rfl rfl rfl (Nat.le_of_ble_eq_true rfl) dX10_out_20 rfl ?_
      refine r_call0 ?_
      refine r_i2l dX10_out_23 rfl ?_
      refine r_goto (t := 30) dX10_out_24 (by decide) ?_
      exact r_lretR dX10_out_30 h
def P_X10_state (a1 : Int32) (σ : SS) : Option Int64 :=
  if a1 = 0 then
    (P_X1_size σ).bind fun v3 =>
    some v3.toInt64
  else
    if a1 = 1 then
      (P_X0_length_8 σ).bind fun v6 =>
      some v6.toInt64
    else
      if a1 = 2 then
        (P_X0_length_9 σ).bind fun v9 =>
        some v9.toInt64
      else
        if a1 = 3 then
          (P_X2_size σ).bind fun v12 =>
          some v12.toInt64
        else
          if a1 = 4 then
            if (sI σ 0) = 0 then
              some 0
            else
              some 1
          else
            some (-2000000001)
set_option maxHeartbeats 4000000 in
set_option maxRecDepth 100000 in
theorem T_X10_state {X : XE} {σ : SS} {r : Int64} {a1 : Int32} (h : P_X10_state a1 σ = some r) : Mt (gX X) 1 yX10_state cX10_state 2 (some .long) [.ref (xq X 0), .int a1] σ (some (.long r)) σ := by
  refine Mt.of (own := RX10) (lv := [(0, .ref (xq X 0)), (1, .int a1)]) pn_X10 rfl (Nat.le_of_ble_eq_true rfl) rfl ?_
  unfold P_X10_state at h
  refine r_iload_n 1 dX10_state_0 rfl rfl rfl ?_
  by_cases c1 : a1 = 0
  · have h := it_t c1 h
    refine r_tableIn (t := 36) dX10_state_1 (by rw [c1]; decide) (by rw [c1]; decide) (by rw [c1]; rfl) (by decide) ?_
    refine r_aload_n 0 dX10_state_36 rfl rfl rfl ?_
    refine gf_X10_12_0 dX10_state_37 rfl ?_
    obtain ⟨v3, e2, h⟩ := bd h
    refine r_callV (rest := []) (T_X1_size e2) (by decide) mf_X1_size rfl tw_387 tw_388 tw_386 cX_1 rfl rfl rfl (Nat.le_of_ble_eq_true rfl) dX10_state_40 rfl ?_
    refine r_call0 ?_
    refine r_i2l dX10_state_43 rfl ?_
    exact r_lretR dX10_state_44 h
  · have h := it_f c1 h
    by_cases c4 : a1 = 1
    · have h := it_t c4 h
      refine r_tableIn (t := 45) dX10_state_1 (by rw [c4]; decide) (by rw [c4]; decide) (by rw [c4]; rfl) (by decide) ?_
      refine r_aload_n 0 dX10_state_45 rfl rfl rfl ?_
      refine gf_X10_53_0 dX10_state_46 rfl ?_
      obtain ⟨v6, e5, h⟩ := bd h
      refine r_callV (rest := []) (T_X0_length_8 e5) (by decide) mf_X0_length rfl tw_704 tw_705 tw_703 cX_8 rfl rfl rfl (Nat.le_of_ble_eq_true rfl) dX10_state_49 rfl ?_
      refine r_call0 ?_
      refine r_i2l dX10_state_52 rfl ?_
      exact r_lretR dX10_state_53 h
    · have h := it_f c4 h
      by_cases c7 : a1 = 2
      · have h := it_t c7 h
        refine r_tableIn (t := 54) dX10_state_1 (by rw [c7]; decide) (by rw [c7]; decide) (by rw [c7]; rfl) (by decide) ?_
        refine r_aload_n 0 dX10_state_54 rfl rfl rfl ?_
        refine gf_X10_57_0 dX10_state_55 rfl ?_
        obtain ⟨v9, e8, h⟩ := bd h
        refine r_callV (rest := []) (T_X0_length_9 e8) (by decide) mf_X0_length rfl tw_704 tw_705 tw_703 cX_9 rfl rfl rfl (Nat.le_of_ble_eq_true rfl) dX10_state_58 rfl ?_
        refine r_call0 ?_
        refine r_i2l dX10_state_61 rfl ?_
        exact r_lretR dX10_state_62 h
      · have h := it_f c7 h
        by_cases c10 : a1 = 3
        · have h := it_t c10 h
          refine r_tableIn (t := 63) dX10_state_1 (by rw [c10]; decide) (by rw [c10]; decide) (by rw [c10]; rfl) (by decide) ?_
          refine r_aload_n 0 dX10_state_63 rfl rfl rfl ?_
          refine gf_X10_21_0 dX10_state_64 rfl ?_
          obtain ⟨v12, e11, h⟩ := bd h
          refine r_callV (rest := []) (T_X2_size e11) (by decide) mf_X2_size rfl tw_437 tw_438 tw_436 cX_2 rfl rfl rfl (Nat.le_of_ble_eq_true rfl) dX10_state_67 rfl ?_
          refine r_call0 ?_
          refine r_i2l dX10_state_70 rfl ?_
          exact r_lretR dX10_state_71 h
        · have h := it_f c10 h
          by_cases c13 : a1 = 4
          · have h := it_t c13 h
            refine r_tableIn (t := 72) dX10_state_1 (by rw [c13]; decide) (by rw [c13]; decide) (by rw [c13]; rfl) (by decide) ?_
            refine r_aload_n 0 dX10_state_72 rfl rfl rfl ?_
            refine gf_X10_98_0 dX10_state_73 rfl ?_
            refine r_if_eq (t := 83) dX10_state_76 (by decide) rfl (fun c14 => ?_) (fun c14 => ?_)
            · have h := it_t c14 h
              refine rlc_0 dX10_state_83 rfl ?_
              exact r_lretR dX10_state_84 h
            · have h := it_f c14 h
              refine rlc_1 dX10_state_79 rfl ?_
              refine r_goto (t := 84) dX10_state_80 (by decide) ?_
              exact r_lretR dX10_state_84 h
          · have h := it_f c13 h
            refine r_tableOut (t := 85) dX10_state_1 (by have z0 := neL c1 (z := 0) rfl; have z1 := neL c4 (z := 1) rfl; have z2 := neL c7 (z := 2) rfl; have z3 := neL c10 (z := 3) rfl; have z4 := neL c13 (z := 4) rfl; omega) (by decide) ?_
            refine r_ldc2 (v := (-2000000001)) tw_385 dX10_state_85 rfl ?_
            exact r_lretR dX10_state_88 h
