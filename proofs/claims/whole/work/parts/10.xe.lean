def P_X6_set__19 (a1 : Int32) (a2 : Int64) (σ : SS) : Option SS :=
  if a1 < 0 then
    some σ
  else
    if 400 ≤ a1 then
      some σ
    else
      gI a1 400 <|
      some (stL σ 0 a1 a2)
set_option maxHeartbeats 4000000 in
set_option maxRecDepth 100000 in
theorem T_X6_set__19 {X : XE} {σf : SS} {σ : SS} {a1 : Int32} {a2 : Int64} (h : P_X6_set__19 a1 a2 σ = some σf) : Mt (gX X) 0 yX6_set_ cX6_set_ 4 none [.ref (xq X 19), .int a1, .long a2] σ none σf := by
  refine Mt.of (own := RX6) (lv := [(0, .ref (xq X 19)), (1, .int a1), (2, .long a2)]) pn_X6 rfl (Nat.le_of_ble_eq_true rfl) rfl ?_
  unfold P_X6_set__19 at h
  refine r_iload_n 1 dX6_set__0 rfl rfl rfl ?_
  refine r_if_lt (t := 14) dX6_set__1 (by decide) rfl (fun c1 => ?_) (fun c1 => ?_)
  · have h := it_t c1 h
    exact r_vretS dX6_set__14 h
  · have h := it_f c1 h
    refine r_iload_n 1 dX6_set__4 rfl rfl rfl ?_
    refine r_aload_n 0 dX6_set__5 rfl rfl rfl ?_
    refine anX_19 dX6_set__6 rfl ?_
    refine r_icmp_ge (t := 14) dX6_set__7 (by decide) rfl (fun c2 => ?_) (fun c2 => ?_)
    · have h := it_t c2 h
      exact r_vretS dX6_set__14 h
    · have h := it_f c2 h
      refine r_aload_n 0 dX6_set__10 rfl rfl rfl ?_
      refine r_iload_n 1 dX6_set__11 rfl rfl rfl ?_
      refine r_lload_n 2 dX6_set__12 rfl rfl rfl ?_
      obtain ⟨hi3, h⟩ := gi h
      refine asX_19 hi3 dX6_set__13 rfl ?_
      exact r_vretS dX6_set__14 h
def P_X8_fill_j84 (K26 : Int32 → SS → Option SS) (K34 : Int32 → Int32 → SS → Option SS) (K42 : Int32 → Int32 → Int32 → SS → Option SS) (x1 : Int32) (x2 : Int32) (x3 : Int32) (σ : SS) : Option SS :=
  K42 x1 x2 (x3 + 1) σ
set_option maxHeartbeats 4000000 in
set_option maxRecDepth 100000 in
theorem T_X8_fill_j84 {X : XE} {σf : SS} {K26 : Int32 → SS → Option SS} {K34 : Int32 → Int32 → SS → Option SS} {K42 : Int32 → Int32 → Int32 → SS → Option SS} (hK26 : ∀ (x1 : Int32) (σ : SS), K26 x1 σ = some σf → V (gX X) 5 RX8 cX8_fill 4 none none σf 26 [(0, .ref (xq X 4)), (1, .int x1)] [] σ) (hK34 : ∀ (x1 : Int32) (x2 : Int32) (σ : SS), K34 x1 x2 σ = some σf → V (gX X) 5 RX8 cX8_fill 4 none none σf 34 [(0, .ref (xq X 4)), (1, .int x1), (2, .int x2)] [] σ) (hK42 : ∀ (x1 : Int32) (x2 : Int32) (x3 : Int32) (σ : SS), K42 x1 x2 x3 σ = some σf → V (gX X) 5 RX8 cX8_fill 4 none none σf 42 [(0, .ref (xq X 4)), (1, .int x1), (2, .int x2), (3, .int x3)] [] σ) : ∀ (x1 : Int32) (x2 : Int32) (x3 : Int32) (σ : SS), P_X8_fill_j84 K26 K34 K42 x1 x2 x3 σ = some σf → V (gX X) 5 RX8 cX8_fill 4 none none σf 84 [(0, .ref (xq X 4)), (1, .int x1), (2, .int x2), (3, .int x3)] [] σ := by
  intro x1 x2 x3 σ h
  unfold P_X8_fill_j84 at h
  refine r_iinc (v := (x3 + 1)) (lv' := [(3, .int (x3 + 1)), (0, .ref (xq X 4)), (1, .int x1), (2, .int x2)]) 3 dX8_fill_84 rfl rfl (by decide) rfl rfl ?_
  refine r_goto (t := 42) dX8_fill_87 (by decide) ?_
  refine r_sub [1, 2, 3, 0] rfl ?_
  exact hK42 x1 x2 (x3 + 1) σ h
def P_X8_fill_j42 (K26 : Int32 → SS → Option SS) (K34 : Int32 → Int32 → SS → Option SS) : Nat → Int32 → Int32 → Int32 → SS → Option SS
  | 0, _, _, _, _ => none
  | n + 1, x1, x2, x3, σ =>
    (P_X1_size σ).bind fun v2 =>
    if v2 ≤ x3 then
      K34 x1 (x2 + 1) σ
    else
      (P_X3_needCount x3 σ).bind fun v5 =>
      if ¬ v5 = x2 then
        P_X8_fill_j84 K26 K34 (P_X8_fill_j42 K26 K34 n) x1 x2 x3 σ
      else
        b2 (P_X8_reckon x3 x1 σ) fun v8 σ9 =>
        (P_X6_set__19 ((x3 * 25) + x1) v8 σ9).bind fun σ11 =>
        P_X8_fill_j84 K26 K34 (P_X8_fill_j42 K26 K34 n) x1 x2 x3 σ11
set_option maxHeartbeats 4000000 in
set_option maxRecDepth 100000 in
theorem T_X8_fill_j42 {X : XE} {σf : SS} {K26 : Int32 → SS → Option SS} {K34 : Int32 → Int32 → SS → Option SS} (hK26 : ∀ (x1 : Int32) (σ : SS), K26 x1 σ = some σf → V (gX X) 5 RX8 cX8_fill 4 none none σf 26 [(0, .ref (xq X 4)), (1, .int x1)] [] σ) (hK34 : ∀ (x1 : Int32) (x2 : Int32) (σ : SS), K34 x1 x2 σ = some σf → V (gX X) 5 RX8 cX8_fill 4 none none σf 34 [(0, .ref (xq X 4)), (1, .int x1), (2, .int x2)] [] σ) : ∀ (fu : Nat) (x1 : Int32) (x2 : Int32) (x3 : Int32) (σ : SS), P_X8_fill_j42 K26 K34 fu x1 x2 x3 σ = some σf → V (gX X) 5 RX8 cX8_fill 4 none none σf 42 [(0, .ref (xq X 4)), (1, .int x1), (2, .int x2), (3, .int x3)] [] σ := by
  intro fu
  induction fu with
  | zero => intro x1 x2 x3 σ h; exact no0 h
  | succ n ih =>
    intro x1 x2 x3 σ h
    unfold P_X8_fill_j42 at h
    refine r_iload_n 3 dX8_fill_42 rfl rfl rfl ?_
    refine r_aload_n 0 dX8_fill_43 rfl rfl rfl ?_
    refine gf_X8_18_4 dX8_fill_44 rfl ?_
    obtain ⟨v2, e1, h⟩ := bd h
    refine r_callV (rest := [.int x3]) (T_X1_size e1) (by decide) mf_X1_size rfl tw_387 tw_388 tw_512 cX_1 rfl rfl rfl (Nat.le_of_ble_eq_true rfl) dX8_fill_47 rfl ?_
    refine r_call0 ?_
    refine r_icmp_ge (t := 90) dX8_fill_50 (by decide) rfl (fun c3 => ?_) (fun c3 => ?_)
    · have h := it_t c3 h
      refine r_iinc (v := (x2 + 1)) (lv' := [(2, .int (x2 + 1)), (0, .ref (xq X 4)), (1, .int x1), (3, .int x3)]) 2 dX8_fill_90 rfl rfl (by decide) rfl rfl ?_
      refine r_goto (t := 34) dX8_fill_93 (by decide) ?_
      refine r_sub [1, 2, 0] rfl ?_
      exact hK34 x1 (x2 + 1) σ h
    · have h := it_f c3 h
      refine r_aload_n 0 dX8_fill_53 rfl rfl rfl ?_
      refine gf_X8_22_4 dX8_fill_54 rfl ?_
      refine r_iload_n 3 dX8_fill_57 rfl rfl rfl ?_
      obtain ⟨v5, e4, h⟩ := bd h
      refine r_callV (rest := []) (T_X3_needCount e4) (by decide) mf_X3_needCount rfl tw_514 tw_515 tw_513 cX_3 rfl rfl rfl (Nat.le_of_ble_eq_true rfl) dX8_fill_58 rfl ?_
      refine r_call0 ?_
      refine r_iload_n 2 dX8_fill_61 rfl rfl rfl ?_
      refine r_icmp_ne (t := 84) dX8_fill_62 (by decide) rfl (fun c6 => ?_) (fun c6 => ?_)
      · have h := it_t c6 h
        exact T_X8_fill_j84 hK26 hK34 ih x1 x2 x3 σ h
      · have h := it_n c6 h
        refine r_aload_n 0 dX8_fill_65 rfl rfl rfl ?_
        refine gf_X8_9_4 dX8_fill_66 rfl ?_
        refine r_iload_n 3 dX8_fill_69 rfl rfl rfl ?_
        refine r_bipush (v := 25) dX8_fill_70 (by decide) rfl ?_
        refine r_imul dX8_fill_72 rfl ?_
        refine r_iload_n 1 dX8_fill_73 rfl rfl rfl ?_
        refine r_iadd dX8_fill_74 rfl ?_
        refine r_aload_n 0 dX8_fill_75 rfl rfl rfl ?_
        refine r_iload_n 3 dX8_fill_76 rfl rfl rfl ?_
        refine r_iload_n 1 dX8_fill_77 rfl rfl rfl ?_
        obtain ⟨v8, σ9, e7, h⟩ := b2d h
        refine r_callV (rest := [.int ((x3 * 25) + x1), .ref (xq X 19)]) (T_X8_reckon e7) (by decide) mf_X8_reckon rfl tw_525 tw_7 tw_523 cX_4 rfl rfl rfl (Nat.le_of_ble_eq_true rfl) dX8_fill_78 rfl ?_
        refine r_call0 ?_
        obtain ⟨σ11, e10, h⟩ := bd h
        refine r_callS (As := [.ref (xq X 19), .int ((x3 * 25) + x1), .long v8]) (rest := []) (T_X6_set__19 e10) (by decide) mf_X6_set_ rfl tw_564 tw_563 rfl (Nat.le_of_ble_eq_true rfl) dX8_fill_81 rfl ?_
        refine r_calln ?_
        exact T_X8_fill_j84 hK26 hK34 ih x1 x2 x3 σ11 h
def P_X8_fill_j34 (K26 : Int32 → SS → Option SS) : Nat → Int32 → Int32 → SS → Option SS
  | 0, _, _, _ => none
  | n + 1, x1, x2, σ =>
    if 16 ≤ x2 then
      K26 (x1 + 1) σ
    else
      P_X8_fill_j42 K26 (P_X8_fill_j34 K26 n) FU x1 x2 0 σ
set_option maxHeartbeats 4000000 in
set_option maxRecDepth 100000 in
theorem T_X8_fill_j34 {X : XE} {σf : SS} {K26 : Int32 → SS → Option SS} (hK26 : ∀ (x1 : Int32) (σ : SS), K26 x1 σ = some σf → V (gX X) 5 RX8 cX8_fill 4 none none σf 26 [(0, .ref (xq X 4)), (1, .int x1)] [] σ) : ∀ (fu : Nat) (x1 : Int32) (x2 : Int32) (σ : SS), P_X8_fill_j34 K26 fu x1 x2 σ = some σf → V (gX X) 5 RX8 cX8_fill 4 none none σf 34 [(0, .ref (xq X 4)), (1, .int x1), (2, .int x2)] [] σ := by
  intro fu
  induction fu with
  | zero => intro x1 x2 σ h; exact no0 h
  | succ n ih =>
    intro x1 x2 σ h
    unfold P_X8_fill_j34 at h
    refine r_iload_n 2 dX8_fill_34 rfl rfl rfl ?_
    refine r_bipush (v := 16) dX8_fill_35 (by decide) rfl ?_
    refine r_icmp_ge (t := 96) dX8_fill_37 (by decide) rfl (fun c1 => ?_) (fun c1 => ?_)
    · have h := it_t c1 h
      refine r_iinc (v := (x1 + 1)) (lv' := [(1, .int (x1 + 1)), (0, .ref (xq X 4)), (2, .int x2)]) 1 dX8_fill_96 rfl rfl (by decide) rfl rfl ?_
      refine r_goto (t := 26) dX8_fill_99 (by decide) ?_
      refine r_sub [1, 0] rfl ?_
      exact hK26 (x1 + 1) σ h
    · have h := it_f c1 h
      refine ric_0 dX8_fill_40 rfl ?_
      refine r_istore_n (lv' := [(3, .int 0), (0, .ref (xq X 4)), (1, .int x1), (2, .int x2)]) dX8_fill_41 rfl (by decide) rfl rfl ?_
      refine r_sub [1, 2, 3, 0] rfl ?_
      exact T_X8_fill_j42 hK26 ih FU x1 x2 0 σ h
def P_X8_fill_j26 : Nat → Int32 → SS → Option SS
  | 0, _, _ => none
  | n + 1, x1, σ =>
    if 24 < x1 then
      some σ
    else
      P_X8_fill_j34 (P_X8_fill_j26 n) FU x1 0 σ
set_option maxHeartbeats 4000000 in
set_option maxRecDepth 100000 in
theorem T_X8_fill_j26 {X : XE} {σf : SS} : ∀ (fu : Nat) (x1 : Int32) (σ : SS), P_X8_fill_j26 fu x1 σ = some σf → V (gX X) 5 RX8 cX8_fill 4 none none σf 26 [(0, .ref (xq X 4)), (1, .int x1)] [] σ := by
  intro fu
  induction fu with
  | zero => intro x1 σ h; exact no0 h
  | succ n ih =>
    intro x1 σ h
    unfold P_X8_fill_j26 at h
    refine r_iload_n 1 dX8_fill_26 rfl rfl rfl ?_
    refine r_bipush (v := 24) dX8_fill_27 (by decide) rfl ?_
    refine r_icmp_gt (t := 102) dX8_fill_29 (by decide) rfl (fun c1 => ?_) (fun c1 => ?_)
    · have h := it_t c1 h
      exact r_vretS dX8_fill_102 h
    · have h := it_f c1 h
      refine ric_0 dX8_fill_32 rfl ?_
      refine r_istore_n (lv' := [(2, .int 0), (0, .ref (xq X 4)), (1, .int x1)]) dX8_fill_33 rfl (by decide) rfl rfl ?_
      refine r_sub [1, 2, 0] rfl ?_
      exact T_X8_fill_j34 ih FU x1 0 σ h
def P_X8_fill_j2 : Nat → Int32 → SS → Option SS
  | 0, _, _ => none
  | n + 1, x1, σ =>
    if 400 ≤ x1 then
      P_X8_fill_j26 FU 0 σ
    else
      gI x1 400 <|
      (P_X8_fill_j2 n) (x1 + 1) (stL σ 0 x1 0)
set_option maxHeartbeats 4000000 in
set_option maxRecDepth 100000 in
theorem T_X8_fill_j2 {X : XE} {σf : SS} : ∀ (fu : Nat) (x1 : Int32) (σ : SS), P_X8_fill_j2 fu x1 σ = some σf → V (gX X) 5 RX8 cX8_fill 4 none none σf 2 [(0, .ref (xq X 4)), (1, .int x1)] [] σ := by
  intro fu
  induction fu with
  | zero => intro x1 σ h; exact no0 h
  | succ n ih =>
    intro x1 σ h
    unfold P_X8_fill_j2 at h
    refine r_iload_n 1 dX8_fill_2 rfl rfl rfl ?_
    refine r_aload_n 0 dX8_fill_3 rfl rfl rfl ?_
    refine gf_X8_9_4 dX8_fill_4 rfl ?_
    refine anX_19 dX8_fill_7 rfl ?_
    refine r_icmp_ge (t := 24) dX8_fill_8 (by decide) rfl (fun c1 => ?_) (fun c1 => ?_)
    · have h := it_t c1 h
      refine ric_0 dX8_fill_24 rfl ?_
      refine r_istore_n (lv' := [(1, .int 0), (0, .ref (xq X 4))]) dX8_fill_25 rfl (by decide) rfl rfl ?_
      refine r_sub [1, 0] rfl ?_
      exact T_X8_fill_j26 FU 0 σ h
    · have h := it_f c1 h
      refine r_aload_n 0 dX8_fill_11 rfl rfl rfl ?_
      refine gf_X8_9_4 dX8_fill_12 rfl ?_
      refine r_iload_n 1 dX8_fill_15 rfl rfl rfl ?_
      refine rlc_0 dX8_fill_16 rfl ?_
      obtain ⟨hi2, h⟩ := gi h
      refine asX_19 hi2 dX8_fill_17 rfl ?_
      refine r_iinc (v := (x1 + 1)) (lv' := [(1, .int (x1 + 1)), (0, .ref (xq X 4))]) 1 dX8_fill_18 rfl rfl (by decide) rfl rfl ?_
      refine r_goto (t := 2) dX8_fill_21 (by decide) ?_
      refine r_sub [1, 0] rfl ?_
      exact ih (x1 + 1) (stL σ 0 x1 0) h
def P_X8_fill (σ : SS) : Option SS :=
  P_X8_fill_j2 FU 0 σ
set_option maxHeartbeats 4000000 in
set_option maxRecDepth 100000 in
theorem T_X8_fill {X : XE} {σf : SS} {σ : SS} (h : P_X8_fill σ = some σf) : Mt (gX X) 5 yX8_fill cX8_fill 4 none [.ref (xq X 4)] σ none σf := by
  refine Mt.of (own := RX8) (lv := [(0, .ref (xq X 4))]) pn_X8 rfl (Nat.le_of_ble_eq_true rfl) rfl ?_
  unfold P_X8_fill at h
  refine ric_0 dX8_fill_0 rfl ?_
  refine r_istore_n (lv' := [(1, .int 0), (0, .ref (xq X 4))]) dX8_fill_1 rfl (by decide) rfl rfl ?_
  refine r_sub [1, 0] rfl ?_
  exact T_X8_fill_j2 FU 0 σ h
def P_X10_ready (σ : SS) : Option (Int64 × SS) :=
  b2 (P_X3_inspect σ) fun v2 σ3 =>
  if v2 = 0 then
    if ¬ (sI σ3 0) = 0 then
      some (0, σ3)
    else
      (P_X8_fill σ3).bind fun σ7 =>
      some (0, (uI σ7 0 1))
  else
    some (v2.toInt64, σ3)
set_option maxHeartbeats 4000000 in
set_option maxRecDepth 100000 in
theorem T_X10_ready {X : XE} {σf : SS} {r : Int64} {σ : SS} (h : P_X10_ready σ = some (r, σf)) : Mt (gX X) 6 yX10_ready cX10_ready 2 (some .long) [.ref (xq X 0)] σ (some (.long r)) σf := by
  refine Mt.of (own := RX10) (lv := [(0, .ref (xq X 0))]) pn_X10 rfl (Nat.le_of_ble_eq_true rfl) rfl ?_
  unfold P_X10_ready at h
  refine r_aload_n 0 dX10_ready_0 rfl rfl rfl ?_
  refine gf_X10_28_0 dX10_ready_1 rfl ?_
  obtain ⟨v2, σ3, e1, h⟩ := b2d h
  refine r_callV (rest := []) (T_X3_inspect e1) (by decide) mf_X3_inspect rfl tw_462 tw_463 tw_461 cX_3 rfl rfl rfl (Nat.le_of_ble_eq_true rfl) dX10_ready_4 rfl ?_
  refine r_call0 ?_
  refine r_istore_n (lv' := [(1, .int v2), (0, .ref (xq X 0))]) dX10_ready_7 rfl (by decide) rfl rfl ?_
  refine r_iload_n 0 dX10_ready_8 rfl rfl rfl ?_
  refine r_if_eq (t := 15) dX10_ready_9 (by decide) rfl (fun c4 => ?_) (fun c4 => ?_)
  · have h := it_t c4 h
    refine r_aload_n 1 dX10_ready_15 rfl rfl rfl ?_
    refine gf_X10_98_0 dX10_ready_16 rfl ?_
    refine r_if_ne (t := 34) dX10_ready_19 (by decide) rfl (fun c5 => ?_) (fun c5 => ?_)
    · have h := it_t c5 h
      refine rlc_0 dX10_ready_34 rfl ?_
      exact r_lretQ dX10_ready_35 h
    · have h := it_n c5 h
      refine r_aload_n 1 dX10_ready_22 rfl rfl rfl ?_
      refine gf_X10_37_0 dX10_ready_23 rfl ?_
      obtain ⟨σ7, e6, h⟩ := bd h
      refine r_callV (rest := []) (T_X8_fill e6) (by decide) mf_X8_fill rfl tw_509 tw_510 tw_508 cX_4 rfl rfl rfl (Nat.le_of_ble_eq_true rfl) dX10_ready_26 rfl ?_
      refine r_calln ?_
      refine r_aload_n 1 dX10_ready_29 rfl rfl rfl ?_
      refine ric_1 dX10_ready_30 rfl ?_
      refine pf_X10_98_0 (Or.inr rfl) dX10_ready_31 rfl ?_
      refine rlc_0 dX10_ready_34 rfl ?_
      exact r_lretQ dX10_ready_35 h
  · have h := it_f c4 h
    refine r_iload_n 0 dX10_ready_12 rfl rfl rfl ?_
    refine r_i2l dX10_ready_13 rfl ?_
    exact r_lretQ dX10_ready_14 h
def P_X10_orMany (a0 : Int64) : Option Int64 :=
  if a0 < 10000000000000000 then
    some a0
  else
    some (-2000000004)
set_option maxHeartbeats 4000000 in
set_option maxRecDepth 100000 in
theorem T_X10_orMany {X : XE} {σ : SS} {r : Int64} {a0 : Int64} (h : P_X10_orMany a0 = some r) : Mt (gX X) 0 yX10_orMany cX10_orMany 2 (some .long) [.long a0] σ (some (.long r)) σ := by
  refine Mt.of (own := RX10) (lv := [(0, .long a0)]) pn_X10 rfl (Nat.le_of_ble_eq_true rfl) rfl ?_
  unfold P_X10_orMany at h
  refine r_lload_n 0 dX10_orMany_0 rfl rfl rfl ?_
  refine r_ldc2 (v := 10000000000000000) tw_603 dX10_orMany_1 rfl ?_
  refine r_lif_lt (t := 14) dX10_orMany_4 rfl dX10_orMany_5 (by decide) rfl (fun c1 => ?_) (fun c1 => ?_)
  · have h := it_t c1 h
    refine r_lload_n 0 dX10_orMany_14 rfl rfl rfl ?_
    exact r_lretR dX10_orMany_15 h
  · have h := it_f c1 h
    refine r_ldc2 (v := (-2000000004)) tw_604 dX10_orMany_8 rfl ?_
    refine r_goto (t := 15) dX10_orMany_11 (by decide) ?_
    exact r_lretR dX10_orMany_15 h
def P_X10_count (a1 : Int32) (a2 : Int32) (σ : SS) : Option Int64 :=
  (P_X1_has a1 σ).bind fun v2 =>
  if v2 = 0 then
    some (-2000000001)
  else
    (P_X10_isSize a2).bind fun v5 =>
    if ¬ v5 = 0 then
      if (sI σ 0) = 0 then
        some (-2000000002)
      else
        (P_X8_of a1 a2 σ).bind fun v9 =>
        (P_X10_orMany v9).bind fun v11 =>
        some v11
    else
      some (-2000000001)
set_option maxHeartbeats 4000000 in
set_option maxRecDepth 100000 in
theorem T_X10_count {X : XE} {σ : SS} {r : Int64} {a1 : Int32} {a2 : Int32} (h : P_X10_count a1 a2 σ = some r) : Mt (gX X) 1 yX10_count cX10_count 3 (some .long) [.ref (xq X 0), .int a1, .int a2] σ (some (.long r)) σ := by
  refine Mt.of (own := RX10) (lv := [(0, .ref (xq X 0)), (1, .int a1), (2, .int a2)]) pn_X10 rfl (Nat.le_of_ble_eq_true rfl) rfl ?_
  unfold P_X10_count at h
  refine r_aload_n 0 dX10_count_0 rfl rfl rfl ?_
  refine gf_X10_12_0 dX10_count_1 rfl ?_
  refine r_iload_n 1 dX10_count_4 rfl rfl rfl ?_
  obtain ⟨v2, e1, h⟩ := bd h
  refine r_callV (rest := []) (T_X1_has e1) (by decide) mf_X1_has rfl tw_416 tw_417 tw_415 cX_1 rfl rfl rfl (Nat.le_of_ble_eq_true rfl) dX10_count_5 rfl ?_
  refine r_call0 ?_
  refine r_if_eq (t := 18) dX10_count_8 (by decide) rfl (fun c3 => ?_) (fun c3 => ?_)
  · have h := it_t c3 h
    refine r_ldc2 (v := (-2000000001)) tw_385 dX10_count_18 rfl ?_
    exact r_lretR dX10_count_21 h
  · have h := it_f c3 h
    refine r_iload_n 2 dX10_count_11 rfl rfl rfl ?_
    obtain ⟨v5, e4, h⟩ := bd h
    refine r_callS (As := [.int a2]) (rest := []) (T_X10_isSize e4) (by decide) mf_X10_isSize rfl tw_575 tw_598 rfl (Nat.le_of_ble_eq_true rfl) dX10_count_12 rfl ?_
    refine r_call0 ?_
    refine r_if_ne (t := 22) dX10_count_15 (by decide) rfl (fun c6 => ?_) (fun c6 => ?_)
    · have h := it_t c6 h
      refine r_aload_n 0 dX10_count_22 rfl rfl rfl ?_
      refine gf_X10_98_0 dX10_count_23 rfl ?_
      refine r_if_eq (t := 44) dX10_count_26 (by decide) rfl (fun c7 => ?_) (fun c7 => ?_)
      · have h := it_t c7 h
        refine r_ldc2 (v := (-2000000002)) tw_440 dX10_count_44 rfl ?_
        exact r_lretR dX10_count_47 h
      · have h := it_f c7 h
        refine r_aload_n 0 dX10_count_29 rfl rfl rfl ?_
        refine gf_X10_37_0 dX10_count_30 rfl ?_
        refine r_iload_n 1 dX10_count_33 rfl rfl rfl ?_
        refine r_iload_n 2 dX10_count_34 rfl rfl rfl ?_
        obtain ⟨v9, e8, h⟩ := bd h
        refine r_callV (rest := []) (T_X8_of e8) (by decide) mf_X8_of rfl tw_539 tw_540 tw_599 cX_4 rfl rfl rfl (Nat.le_of_ble_eq_true rfl) dX10_count_35 rfl ?_
        refine r_call0 ?_
        obtain ⟨v11, e10, h⟩ := bd h
        refine r_callS (As := [.long v9]) (rest := []) (T_X10_orMany e10) (by decide) mf_X10_orMany rfl tw_601 tw_600 rfl (Nat.le_of_ble_eq_true rfl) dX10_count_38 rfl ?_
        refine r_call0 ?_
        refine r_goto (t := 47) dX10_count_41 (by decide) ?_
        exact r_lretR dX10_count_47 h
    · have h := it_n c6 h
      refine r_ldc2 (v := (-2000000001)) tw_385 dX10_count_18 rfl ?_
      exact r_lretR dX10_count_21 h
def P_X10_upTo_j38 (σ : SS) : Nat → Int32 → Int32 → Int64 → Int32 → Option Int64
  | 0, _, _, _, _ => none
  | n + 1, x1, x2, x3, x5 =>
    if x2 < x5 then
      (P_X10_orMany x3).bind fun v3 =>
      some v3
    else
      (P_X8_of x1 x5 σ).bind fun v5 =>
      (P_X7_plus x3 v5).bind fun v7 =>
      (P_X10_upTo_j38 σ n) x1 x2 v7 (x5 + 1)
set_option maxHeartbeats 4000000 in
set_option maxRecDepth 100000 in
theorem T_X10_upTo_j38 {X : XE} {σ : SS} {r : Int64} : ∀ (fu : Nat) (x1 : Int32) (x2 : Int32) (x3 : Int64) (x5 : Int32), P_X10_upTo_j38 σ fu x1 x2 x3 x5 = some r → V (gX X) 2 RX10 cX10_upTo 6 (some .long) (some (.long r)) σ 38 [(0, .ref (xq X 0)), (1, .int x1), (2, .int x2), (3, .long x3), (5, .int x5)] [] σ := by
  intro fu
  induction fu with
  | zero => intro x1 x2 x3 x5 h; exact no0 h
  | succ n ih =>
    intro x1 x2 x3 x5 h
    unfold P_X10_upTo_j38 at h
    refine r_iload 4 dX10_upTo_38 rfl rfl ?_
    refine r_iload_n 2 dX10_upTo_40 rfl rfl rfl ?_
    refine r_icmp_gt (t := 65) dX10_upTo_41 (by decide) rfl (fun c1 => ?_) (fun c1 => ?_)
    · have h := it_t c1 h
      refine r_lload_n 3 dX10_upTo_65 rfl rfl rfl ?_
      obtain ⟨v3, e2, h⟩ := bd h
      refine r_callS (As := [.long x3]) (rest := []) (T_X10_orMany e2) (by decide) mf_X10_orMany rfl tw_601 tw_600 rfl (Nat.le_of_ble_eq_true rfl) dX10_upTo_66 rfl ?_
      refine r_call0 ?_
      exact r_lretR dX10_upTo_69 h
    · have h := it_f c1 h
      refine r_lload_n 3 dX10_upTo_44 rfl rfl rfl ?_
      refine r_aload_n 0 dX10_upTo_45 rfl rfl rfl ?_
      refine gf_X10_37_0 dX10_upTo_46 rfl ?_
      refine r_iload_n 1 dX10_upTo_49 rfl rfl rfl ?_
      refine r_iload 4 dX10_upTo_50 rfl rfl ?_
      obtain ⟨v5, e4, h⟩ := bd h
      refine r_callV (rest := [.long x3]) (T_X8_of e4) (by decide) mf_X8_of rfl tw_539 tw_540 tw_599 cX_4 rfl rfl rfl (Nat.le_of_ble_eq_true rfl) dX10_upTo_52 rfl ?_
      refine r_call0 ?_
      obtain ⟨v7, e6, h⟩ := bd h
      refine r_callS (As := [.long x3, .long v5]) (rest := []) (T_X7_plus e6) (by decide) mf_X7_plus rfl tw_551 tw_609 rfl (Nat.le_of_ble_eq_true rfl) dX10_upTo_55 rfl ?_
      refine r_call0 ?_
      refine r_lstore_n (lv' := [(3, .long v7), (0, .ref (xq X 0)), (1, .int x1), (2, .int x2), (5, .int x5)]) dX10_upTo_58 rfl (by decide) rfl rfl ?_
      refine r_iinc (v := (x5 + 1)) (lv' := [(5, .int (x5 + 1)), (3, .long v7), (0, .ref (xq X 0)), (1, .int x1), (2, .int x2)]) 4 dX10_upTo_59 rfl rfl (by decide) rfl rfl ?_
      refine r_goto (t := 38) dX10_upTo_62 (by decide) ?_
      refine r_sub [2, 3, 4, 1, 0] rfl ?_
      exact ih x1 x2 v7 (x5 + 1) h
def P_X10_upTo (a1 : Int32) (a2 : Int32) (σ : SS) : Option Int64 :=
  (P_X1_has a1 σ).bind fun v2 =>
  if v2 = 0 then
    some (-2000000001)
  else
    (P_X10_isSize a2).bind fun v5 =>
    if ¬ v5 = 0 then
      if ¬ (sI σ 0) = 0 then
        P_X10_upTo_j38 σ FU a1 a2 0 0
      else
        some (-2000000002)
    else
      some (-2000000001)
set_option maxHeartbeats 4000000 in
set_option maxRecDepth 100000 in
theorem T_X10_upTo {X : XE} {σ : SS} {r : Int64} {a1 : Int32} {a2 : Int32} (h : P_X10_upTo a1 a2 σ = some r) : Mt (gX X) 2 yX10_upTo cX10_upTo 6 (some .long) [.ref (xq X 0), .int a1, .int a2] σ (some (.long r)) σ := by
  refine Mt.of (own := RX10) (lv := [(0, .ref (xq X 0)), (1, .int a1), (2, .int a2)]) pn_X10 rfl (Nat.le_of_ble_eq_true rfl) rfl ?_
  unfold P_X10_upTo at h
  refine r_aload_n 0 dX10_upTo_0 rfl rfl rfl ?_
  refine gf_X10_12_0 dX10_upTo_1 rfl ?_
  refine r_iload_n 1 dX10_upTo_4 rfl rfl rfl ?_
  obtain ⟨v2, e1, h⟩ := bd h
  refine r_callV (rest := []) (T_X1_has e1) (by decide) mf_X1_has rfl tw_416 tw_417 tw_415 cX_1 rfl rfl rfl (Nat.le_of_ble_eq_true rfl) dX10_upTo_5 rfl ?_
  refine r_call0 ?_
  refine r_if_eq (t := 18) dX10_upTo_8 (by decide) rfl (fun c3 => ?_) (fun c3 => ?_)
  · have h := it_t c3 h
    refine r_ldc2 (v := (-2000000001)) tw_385 dX10_upTo_18 rfl ?_
    exact r_lretR dX10_upTo_21 h
  · have h := it_f c3 h
    refine r_iload_n 2 dX10_upTo_11 rfl rfl rfl ?_
    obtain ⟨v5, e4, h⟩ := bd h
    refine r_callS (As := [.int a2]) (rest := []) (T_X10_isSize e4) (by decide) mf_X10_isSize rfl tw_575 tw_598 rfl (Nat.le_of_ble_eq_true rfl) dX10_upTo_12 rfl ?_
    refine r_call0 ?_
    refine r_if_ne (t := 22) dX10_upTo_15 (by decide) rfl (fun c6 => ?_) (fun c6 => ?_)
    · have h := it_t c6 h
      refine r_aload_n 0 dX10_upTo_22 rfl rfl rfl ?_
      refine gf_X10_98_0 dX10_upTo_23 rfl ?_
      refine r_if_ne (t := 33) dX10_upTo_26 (by decide) rfl (fun c7 => ?_) (fun c7 => ?_)
      · have h := it_t c7 h
        refine rlc_0 dX10_upTo_33 rfl ?_
        refine r_lstore_n (lv' := [(3, .long 0), (0, .ref (xq X 0)), (1, .int a1), (2, .int a2)]) dX10_upTo_34 rfl (by decide) rfl rfl ?_
        refine ric_0 dX10_upTo_35 rfl ?_
        refine r_istore (lv' := [(5, .int 0), (3, .long 0), (0, .ref (xq X 0)), (1, .int a1), (2, .int a2)]) dX10_upTo_36 (by decide) rfl rfl ?_
        refine r_sub [2, 3, 4, 1, 0] rfl ?_
        exact T_X10_upTo_j38 FU a1 a2 0 0 h
      · have h := it_n c7 h
        refine r_ldc2 (v := (-2000000002)) tw_440 dX10_upTo_29 rfl ?_
        exact r_lretR dX10_upTo_32 h
    · have h := it_n c6 h
      refine r_ldc2 (v := (-2000000001)) tw_385 dX10_upTo_18 rfl ?_
      exact r_lretR dX10_upTo_21 h
def P_X10_parts_j47 (σ : SS) : Nat → Int32 → Int32 → Int32 → Int32 → Option Int64
  | 0, _, _, _, _ => none
  | n + 1, x1, x2, x3, x4 =>
    if x3 < x4 then
      some (-2000000005)
    else
      (P_X8_of x1 x4 σ).bind fun v3 =>
      (P_X8_of x2 x4 σ).bind fun v5 =>
      if v3 = v5 then
        (P_X10_parts_j47 σ n) x1 x2 x3 (x4 + 1)
      else
        some x4.toInt64
set_option maxHeartbeats 4000000 in
set_option maxRecDepth 100000 in
theorem T_X10_parts_j47 {X : XE} {σ : SS} {r : Int64} : ∀ (fu : Nat) (x1 : Int32) (x2 : Int32) (x3 : Int32) (x4 : Int32), P_X10_parts_j47 σ fu x1 x2 x3 x4 = some r → V (gX X) 1 RX10 cX10_parts 5 (some .long) (some (.long r)) σ 47 [(0, .ref (xq X 0)), (1, .int x1), (2, .int x2), (3, .int x3), (4, .int x4)] [] σ := by
  intro fu
  induction fu with
  | zero => intro x1 x2 x3 x4 h; exact no0 h
  | succ n ih =>
    intro x1 x2 x3 x4 h
    unfold P_X10_parts_j47 at h
    refine r_iload 4 dX10_parts_47 rfl rfl ?_
    refine r_iload_n 3 dX10_parts_49 rfl rfl rfl ?_
    refine r_icmp_gt (t := 87) dX10_parts_50 (by decide) rfl (fun c1 => ?_) (fun c1 => ?_)
    · have h := it_t c1 h
      refine r_ldc2 (v := (-2000000005)) tw_614 dX10_parts_87 rfl ?_
      exact r_lretR dX10_parts_90 h
    · have h := it_f c1 h
      refine r_aload_n 0 dX10_parts_53 rfl rfl rfl ?_
      refine gf_X10_37_0 dX10_parts_54 rfl ?_
      refine r_iload_n 1 dX10_parts_57 rfl rfl rfl ?_
      refine r_iload 4 dX10_parts_58 rfl rfl ?_
      obtain ⟨v3, e2, h⟩ := bd h
      refine r_callV (rest := []) (T_X8_of e2) (by decide) mf_X8_of rfl tw_539 tw_540 tw_599 cX_4 rfl rfl rfl (Nat.le_of_ble_eq_true rfl) dX10_parts_60 rfl ?_
      refine r_call0 ?_
      refine r_aload_n 0 dX10_parts_63 rfl rfl rfl ?_
      refine gf_X10_37_0 dX10_parts_64 rfl ?_
      refine r_iload_n 2 dX10_parts_67 rfl rfl rfl ?_
      refine r_iload 4 dX10_parts_68 rfl rfl ?_
      obtain ⟨v5, e4, h⟩ := bd h
      refine r_callV (rest := [.long v3]) (T_X8_of e4) (by decide) mf_X8_of rfl tw_539 tw_540 tw_599 cX_4 rfl rfl rfl (Nat.le_of_ble_eq_true rfl) dX10_parts_70 rfl ?_
      refine r_call0 ?_
      refine r_lif_eq (t := 81) dX10_parts_73 rfl dX10_parts_74 (by decide) rfl (fun c6 => ?_) (fun c6 => ?_)
      · have h := it_t c6 h
        refine r_iinc (v := (x4 + 1)) (lv' := [(4, .int (x4 + 1)), (0, .ref (xq X 0)), (1, .int x1), (2, .int x2), (3, .int x3)]) 4 dX10_parts_81 rfl rfl (by decide) rfl rfl ?_
        refine r_goto (t := 47) dX10_parts_84 (by decide) ?_
        refine r_sub [1, 2, 3, 4, 0] rfl ?_
        exact ih x1 x2 x3 (x4 + 1) h
      · have h := it_f c6 h
        refine r_iload 4 dX10_parts_77 rfl rfl ?_
        refine r_i2l dX10_parts_79 rfl ?_
        exact r_lretR dX10_parts_80 h
def P_X10_parts (a1 : Int32) (a2 : Int32) (a3 : Int32) (σ : SS) : Option Int64 :=
  (P_X1_has a1 σ).bind fun v2 =>
  if v2 = 0 then
    some (-2000000001)
  else
    (P_X1_has a2 σ).bind fun v5 =>
    if v5 = 0 then
      some (-2000000001)
    else
      (P_X10_isSize a3).bind fun v8 =>
      if ¬ v8 = 0 then
        if ¬ (sI σ 0) = 0 then
          P_X10_parts_j47 σ FU a1 a2 a3 0
        else
          some (-2000000002)
      else
        some (-2000000001)
set_option maxHeartbeats 4000000 in
set_option maxRecDepth 100000 in
theorem T_X10_parts {X : XE} {σ : SS} {r : Int64} {a1 : Int32} {a2 : Int32} {a3 : Int32} (h : P_X10_parts a1 a2 a3 σ = some r) : Mt (gX X) 1 yX10_parts cX10_parts 5 (some .long) [.ref (xq X 0), .int a1, .int a2, .int a3] σ (some (.long r)) σ := by
  refine Mt.of (own := RX10) (lv := [(0, .ref (xq X 0)), (1, .int a1), (2, .int a2), (3, .int a3)]) pn_X10 rfl (Nat.le_of_ble_eq_true rfl) rfl ?_
  unfold P_X10_parts at h
  refine r_aload_n 0 dX10_parts_0 rfl rfl rfl ?_
  refine gf_X10_12_0 dX10_parts_1 rfl ?_
  refine r_iload_n 1 dX10_parts_4 rfl rfl rfl ?_
  obtain ⟨v2, e1, h⟩ := bd h
  refine r_callV (rest := []) (T_X1_has e1) (by decide) mf_X1_has rfl tw_416 tw_417 tw_415 cX_1 rfl rfl rfl (Nat.le_of_ble_eq_true rfl) dX10_parts_5 rfl ?_
  refine r_call0 ?_
  refine r_if_eq (t := 29) dX10_parts_8 (by decide) rfl (fun c3 => ?_) (fun c3 => ?_)
  · have h := it_t c3 h
    refine r_ldc2 (v := (-2000000001)) tw_385 dX10_parts_29 rfl ?_
    exact r_lretR dX10_parts_32 h
  · have h := it_f c3 h
    refine r_aload_n 0 dX10_parts_11 rfl rfl rfl ?_
    refine gf_X10_12_0 dX10_parts_12 rfl ?_
    refine r_iload_n 2 dX10_parts_15 rfl rfl rfl ?_
    obtain ⟨v5, e4, h⟩ := bd h
    refine r_callV (rest := []) (T_X1_has e4) (by decide) mf_X1_has rfl tw_416 tw_417 tw_415 cX_1 rfl rfl rfl (Nat.le_of_ble_eq_true rfl) dX10_parts_16 rfl ?_
    refine r_call0 ?_
    refine r_if_eq (t := 29) dX10_parts_19 (by decide) rfl (fun c6 => ?_) (fun c6 => ?_)
    · have h := it_t c6 h
      refine r_ldc2 (v := (-2000000001)) tw_385 dX10_parts_29 rfl ?_
      exact r_lretR dX10_parts_32 h
    · have h := it_f c6 h
      refine r_iload_n 3 dX10_parts_22 rfl rfl rfl ?_
      obtain ⟨v8, e7, h⟩ := bd h
      refine r_callS (As := [.int a3]) (rest := []) (T_X10_isSize e7) (by decide) mf_X10_isSize rfl tw_575 tw_598 rfl (Nat.le_of_ble_eq_true rfl) dX10_parts_23 rfl ?_
      refine r_call0 ?_
      refine r_if_ne (t := 33) dX10_parts_26 (by decide) rfl (fun c9 => ?_) (fun c9 => ?_)
      · have h := it_t c9 h
        refine r_aload_n 0 dX10_parts_33 rfl rfl rfl ?_
        refine gf_X10_98_0 dX10_parts_34 rfl ?_
        refine r_if_ne (t := 44) dX10_parts_37 (by decide) rfl (fun c10 => ?_) (fun c10 => ?_)
        · have h := it_t c10 h
          refine ric_0 dX10_parts_44 rfl ?_
          refine r_istore (lv' := [(4, .int 0), (0, .ref (xq X 0)), (1, .int a1), (2, .int a2), (3, .int a3)]) dX10_parts_45 (by decide) rfl rfl ?_
          refine r_sub [1, 2, 3, 4, 0] rfl ?_
          exact T_X10_parts_j47 FU a1 a2 a3 0 h
        · have h := it_n c10 h
          refine r_ldc2 (v := (-2000000002)) tw_440 dX10_parts_40 rfl ?_
          exact r_lretR dX10_parts_43 h
      · have h := it_n c9 h
        refine r_ldc2 (v := (-2000000001)) tw_385 dX10_parts_29 rfl ?_
        exact r_lretR dX10_parts_32 h
def P_X0_shorten_10 (a1 : Int32) (σ : SS) : Option SS :=
  if a1 < 0 then
    some σ
  else
    if (sI σ 21) ≤ a1 then
      some σ
    else
      some (uI σ 21 a1)
set_option maxHeartbeats 4000000 in
set_option maxRecDepth 100000 in
theorem T_X0_shorten_10 {X : XE} {σf : SS} {σ : SS} {a1 : Int32} (h : P_X0_shorten_10 a1 σ = some σf) : Mt (gX X) 0 yX0_shorten cX0_shorten 2 none [.ref (xq X 10), .int a1] σ none σf := by
  refine Mt.of (own := RX0) (lv := [(0, .ref (xq X 10)), (1, .int a1)]) pn_X0 rfl (Nat.le_of_ble_eq_true rfl) rfl ?_
  unfold P_X0_shorten_10 at h
  refine r_iload_n 1 dX0_shorten_0 rfl rfl rfl ?_
  refine r_if_lt (t := 17) dX0_shorten_1 (by decide) rfl (fun c1 => ?_) (fun c1 => ?_)
  · have h := it_t c1 h
    exact r_vretS dX0_shorten_17 h
  · have h := it_f c1 h
    refine r_iload_n 1 dX0_shorten_4 rfl rfl rfl ?_
    refine r_aload_n 0 dX0_shorten_5 rfl rfl rfl ?_
    refine gf_X0_15_10 dX0_shorten_6 rfl ?_
    refine r_icmp_ge (t := 17) dX0_shorten_9 (by decide) rfl (fun c2 => ?_) (fun c2 => ?_)
    · have h := it_t c2 h
      exact r_vretS dX0_shorten_17 h
    · have h := it_f c2 h
      refine r_aload_n 0 dX0_shorten_12 rfl rfl rfl ?_
      refine r_iload_n 1 dX0_shorten_13 rfl rfl rfl ?_
      refine pf_X0_15_10 dX0_shorten_14 rfl ?_
      exact r_vretS dX0_shorten_17 h
def P_X9_push (a1 : Int32) (a2 : Int32) (a3 : Int32) (a4 : Int64) (σ : SS) : Option SS :=
  if (sI σ 8) < 0 then
    some σ
  else
    if 608 ≤ (sI σ 8) then
      some σ
    else
      gI (sI σ 8) 608 <|
      gI (sI (stA σ 8 (sI σ 8) a1) 8) 608 <|
      gI (sI (stA (stA σ 8 (sI σ 8) a1) 9 (sI (stA σ 8 (sI σ 8) a1) 8) a2) 8) 608 <|
      gI (sI (stA (stA (stA σ 8 (sI σ 8) a1) 9 (sI (stA σ 8 (sI σ 8) a1) 8) a2) 10 (sI (stA (stA σ 8 (sI σ 8) a1) 9 (sI (stA σ 8 (sI σ 8) a1) 8) a2) 8) a3) 8) 608 <|
      some (uI (stL (stA (stA (stA σ 8 (sI σ 8) a1) 9 (sI (stA σ 8 (sI σ 8) a1) 8) a2) 10 (sI (stA (stA σ 8 (sI σ 8) a1) 9 (sI (stA σ 8 (sI σ 8) a1) 8) a2) 8) a3) 2 (sI (stA (stA (stA σ 8 (sI σ 8) a1) 9 (sI (stA σ 8 (sI σ 8) a1) 8) a2) 10 (sI (stA (stA σ 8 (sI σ 8) a1) 9 (sI (stA σ 8 (sI σ 8) a1) 8) a2) 8) a3) 8) a4) 8 ((sI (stL (stA (stA (stA σ 8 (sI σ 8) a1) 9 (sI (stA σ 8 (sI σ 8) a1) 8) a2) 10 (sI (stA (stA σ 8 (sI σ 8) a1) 9 (sI (stA σ 8 (sI σ 8) a1) 8) a2) 8) a3) 2 (sI (stA (stA (stA σ 8 (sI σ 8) a1) 9 (sI (stA σ 8 (sI σ 8) a1) 8) a2) 10 (sI (stA (stA σ 8 (sI σ 8) a1) 9 (sI (stA σ 8 (sI σ 8) a1) 8) a2) 8) a3) 8) a4) 8) + 1))
set_option maxHeartbeats 4000000 in
set_option maxRecDepth 100000 in
theorem T_X9_push {X : XE} {σf : SS} {σ : SS} {a1 : Int32} {a2 : Int32} {a3 : Int32} {a4 : Int64} (h : P_X9_push a1 a2 a3 a4 σ = some σf) : Mt (gX X) 0 yX9_push cX9_push 6 none [.ref (xq X 5), .int a1, .int a2, .int a3, .long a4] σ none σf := by
  refine Mt.of (own := RX9) (lv := [(0, .ref (xq X 5)), (1, .int a1), (2, .int a2), (3, .int a3), (4, .long a4)]) pn_X9 rfl (Nat.le_of_ble_eq_true rfl) rfl ?_
  unfold P_X9_push at h
  refine r_aload_n 0 dX9_push_0 rfl rfl rfl ?_
  refine gf_X9_44_5 dX9_push_1 rfl ?_
  refine r_if_lt (t := 68) dX9_push_4 (by decide) rfl (fun c1 => ?_) (fun c1 => ?_)
  · have h := it_t c1 h
    exact r_vretS dX9_push_68 h
  · have h := it_f c1 h
    refine r_aload_n 0 dX9_push_7 rfl rfl rfl ?_
    refine gf_X9_44_5 dX9_push_8 rfl ?_
    refine r_sipush (v := 608) dX9_push_11 (by decide) rfl ?_
    refine r_icmp_ge (t := 68) dX9_push_14 (by decide) rfl (fun c2 => ?_) (fun c2 => ?_)
    · have h := it_t c2 h
      exact r_vretS dX9_push_68 h
    · have h := it_f c2 h
      refine r_aload_n 0 dX9_push_17 rfl rfl rfl ?_
      refine gf_X9_18_5 dX9_push_18 rfl ?_
      refine r_aload_n 0 dX9_push_21 rfl rfl rfl ?_
      refine gf_X9_44_5 dX9_push_22 rfl ?_
      refine r_iload_n 1 dX9_push_25 rfl rfl rfl ?_
      obtain ⟨hi3, h⟩ := gi h
      refine asX_21 hi3 dX9_push_26 rfl ?_
      refine r_aload_n 0 dX9_push_27 rfl rfl rfl ?_
      refine gf_X9_22_5 dX9_push_28 rfl ?_
      refine r_aload_n 0 dX9_push_31 rfl rfl rfl ?_
      refine gf_X9_44_5 dX9_push_32 rfl ?_
      refine r_iload_n 2 dX9_push_35 rfl rfl rfl ?_
      obtain ⟨hi4, h⟩ := gi h
      refine asX_22 hi4 dX9_push_36 rfl ?_
      refine r_aload_n 0 dX9_push_37 rfl rfl rfl ?_
      refine gf_X9_25_5 dX9_push_38 rfl ?_
      refine r_aload_n 0 dX9_push_41 rfl rfl rfl ?_
      refine gf_X9_44_5 dX9_push_42 rfl ?_
      refine r_iload_n 3 dX9_push_45 rfl rfl rfl ?_
      obtain ⟨hi5, h⟩ := gi h
      refine asX_23 hi5 dX9_push_46 rfl ?_
      refine r_aload_n 0 dX9_push_47 rfl rfl rfl ?_
      refine gf_X9_28_5 dX9_push_48 rfl ?_
      refine r_aload_n 0 dX9_push_51 rfl rfl rfl ?_
      refine gf_X9_44_5 dX9_push_52 rfl ?_
      refine r_lload 4 dX9_push_55 rfl rfl ?_
      obtain ⟨hi6, h⟩ := gi h
      refine asX_24 hi6 dX9_push_57 rfl ?_
      refine r_aload_n 0 dX9_push_58 rfl rfl rfl ?_
      refine r_dup rfl dX9_push_59 rfl ?_
      refine gf_X9_44_5 dX9_push_60 rfl ?_
      refine ric_1 dX9_push_63 rfl ?_
      refine r_iadd dX9_push_64 rfl ?_
      refine pf_X9_44_5 dX9_push_65 rfl ?_
      exact r_vretS dX9_push_68 h
def P_X6_at_22 (a1 : Int32) (σ : SS) : Option Int32 :=
  if a1 < 0 then
    some 0
  else
    if 608 ≤ a1 then
      some 0
    else
      gI a1 608 <|
      some (ldA σ 9 a1)
set_option maxHeartbeats 4000000 in
set_option maxRecDepth 100000 in
theorem T_X6_at_22 {X : XE} {σ : SS} {r : Int32} {a1 : Int32} (h : P_X6_at_22 a1 σ = some r) : Mt (gX X) 0 yX6_at cX6_at 2 (some .int) [.ref (xq X 22), .int a1] σ (some (.int r)) σ := by
  refine Mt.of (own := RX6) (lv := [(0, .ref (xq X 22)), (1, .int a1)]) pn_X6 rfl (Nat.le_of_ble_eq_true rfl) rfl ?_
  unfold P_X6_at_22 at h
  refine r_iload_n 1 dX6_at_0 rfl rfl rfl ?_
  refine r_if_lt (t := 16) dX6_at_1 (by decide) rfl (fun c1 => ?_) (fun c1 => ?_)
  · have h := it_t c1 h
    refine ric_0 dX6_at_16 rfl ?_
    exact r_iretR dX6_at_17 h
  · have h := it_f c1 h
    refine r_iload_n 1 dX6_at_4 rfl rfl rfl ?_
    refine r_aload_n 0 dX6_at_5 rfl rfl rfl ?_
    refine anX_22 dX6_at_6 rfl ?_
    refine r_icmp_ge (t := 16) dX6_at_7 (by decide) rfl (fun c2 => ?_) (fun c2 => ?_)
    · have h := it_t c2 h
      refine ric_0 dX6_at_16 rfl ?_
      exact r_iretR dX6_at_17 h
    · have h := it_f c2 h
      refine r_aload_n 0 dX6_at_10 rfl rfl rfl ?_
      refine r_iload_n 1 dX6_at_11 rfl rfl rfl ?_
      obtain ⟨hi3, h⟩ := gi h
      refine alX_22 hi3 dX6_at_12 rfl ?_
      refine r_goto (t := 17) dX6_at_13 (by decide) ?_
      exact r_iretR dX6_at_17 h
def P_X6_at_23 (a1 : Int32) (σ : SS) : Option Int32 :=
  if a1 < 0 then
    some 0
  else
    if 608 ≤ a1 then
      some 0
    else
      gI a1 608 <|
      some (ldA σ 10 a1)
set_option maxHeartbeats 4000000 in
set_option maxRecDepth 100000 in
theorem T_X6_at_23 {X : XE} {σ : SS} {r : Int32} {a1 : Int32} (h : P_X6_at_23 a1 σ = some r) : Mt (gX X) 0 yX6_at cX6_at 2 (some .int) [.ref (xq X 23), .int a1] σ (some (.int r)) σ := by
  refine Mt.of (own := RX6) (lv := [(0, .ref (xq X 23)), (1, .int a1)]) pn_X6 rfl (Nat.le_of_ble_eq_true rfl) rfl ?_
  unfold P_X6_at_23 at h
  refine r_iload_n 1 dX6_at_0 rfl rfl rfl ?_
  refine r_if_lt (t := 16) dX6_at_1 (by decide) rfl (fun c1 => ?_) (fun c1 => ?_)
  · have h := it_t c1 h
    refine ric_0 dX6_at_16 rfl ?_
    exact r_iretR dX6_at_17 h
  · have h := it_f c1 h
    refine r_iload_n 1 dX6_at_4 rfl rfl rfl ?_
    refine r_aload_n 0 dX6_at_5 rfl rfl rfl ?_
    refine anX_23 dX6_at_6 rfl ?_
    refine r_icmp_ge (t := 16) dX6_at_7 (by decide) rfl (fun c2 => ?_) (fun c2 => ?_)
    · have h := it_t c2 h
      refine ric_0 dX6_at_16 rfl ?_
      exact r_iretR dX6_at_17 h
    · have h := it_f c2 h
      refine r_aload_n 0 dX6_at_10 rfl rfl rfl ?_
      refine r_iload_n 1 dX6_at_11 rfl rfl rfl ?_
      obtain ⟨hi3, h⟩ := gi h
      refine alX_23 hi3 dX6_at_12 rfl ?_
      refine r_goto (t := 17) dX6_at_13 (by decide) ?_
      exact r_iretR dX6_at_17 h
def P_X6_at__24 (a1 : Int32) (σ : SS) : Option Int64 :=
  if a1 < 0 then
    some 0
  else
    if 608 ≤ a1 then
      some 0
    else
      gI a1 608 <|
      some (ldL σ 2 a1)
set_option maxHeartbeats 4000000 in
set_option maxRecDepth 100000 in
theorem T_X6_at__24 {X : XE} {σ : SS} {r : Int64} {a1 : Int32} (h : P_X6_at__24 a1 σ = some r) : Mt (gX X) 0 yX6_at_ cX6_at_ 2 (some .long) [.ref (xq X 24), .int a1] σ (some (.long r)) σ := by
  refine Mt.of (own := RX6) (lv := [(0, .ref (xq X 24)), (1, .int a1)]) pn_X6 rfl (Nat.le_of_ble_eq_true rfl) rfl ?_
  unfold P_X6_at__24 at h
  refine r_iload_n 1 dX6_at__0 rfl rfl rfl ?_
  refine r_if_lt (t := 16) dX6_at__1 (by decide) rfl (fun c1 => ?_) (fun c1 => ?_)
  · have h := it_t c1 h
    refine rlc_0 dX6_at__16 rfl ?_
    exact r_lretR dX6_at__17 h
  · have h := it_f c1 h
    refine r_iload_n 1 dX6_at__4 rfl rfl rfl ?_
    refine r_aload_n 0 dX6_at__5 rfl rfl rfl ?_
    refine anX_24 dX6_at__6 rfl ?_
    refine r_icmp_ge (t := 16) dX6_at__7 (by decide) rfl (fun c2 => ?_) (fun c2 => ?_)
    · have h := it_t c2 h
      refine rlc_0 dX6_at__16 rfl ?_
      exact r_lretR dX6_at__17 h
    · have h := it_f c2 h
      refine r_aload_n 0 dX6_at__10 rfl rfl rfl ?_
      refine r_iload_n 1 dX6_at__11 rfl rfl rfl ?_
      obtain ⟨hi3, h⟩ := gi h
      refine alX_24 hi3 dX6_at__12 rfl ?_
      refine r_goto (t := 17) dX6_at__13 (by decide) ?_
      exact r_lretR dX6_at__17 h
def P_X6_at_21 (a1 : Int32) (σ : SS) : Option Int32 :=
  if a1 < 0 then
    some 0
  else
    if 608 ≤ a1 then
      some 0
    else
      gI a1 608 <|
      some (ldA σ 8 a1)
set_option maxHeartbeats 4000000 in
set_option maxRecDepth 100000 in
theorem T_X6_at_21 {X : XE} {σ : SS} {r : Int32} {a1 : Int32} (h : P_X6_at_21 a1 σ = some r) : Mt (gX X) 0 yX6_at cX6_at 2 (some .int) [.ref (xq X 21), .int a1] σ (some (.int r)) σ := by
  refine Mt.of (own := RX6) (lv := [(0, .ref (xq X 21)), (1, .int a1)]) pn_X6 rfl (Nat.le_of_ble_eq_true rfl) rfl ?_
  unfold P_X6_at_21 at h
  refine r_iload_n 1 dX6_at_0 rfl rfl rfl ?_
  refine r_if_lt (t := 16) dX6_at_1 (by decide) rfl (fun c1 => ?_) (fun c1 => ?_)
  · have h := it_t c1 h
    refine ric_0 dX6_at_16 rfl ?_
    exact r_iretR dX6_at_17 h
  · have h := it_f c1 h
    refine r_iload_n 1 dX6_at_4 rfl rfl rfl ?_
    refine r_aload_n 0 dX6_at_5 rfl rfl rfl ?_
    refine anX_21 dX6_at_6 rfl ?_
    refine r_icmp_ge (t := 16) dX6_at_7 (by decide) rfl (fun c2 => ?_) (fun c2 => ?_)
    · have h := it_t c2 h
      refine ric_0 dX6_at_16 rfl ?_
      exact r_iretR dX6_at_17 h
    · have h := it_f c2 h
      refine r_aload_n 0 dX6_at_10 rfl rfl rfl ?_
      refine r_iload_n 1 dX6_at_11 rfl rfl rfl ?_
      obtain ⟨hi3, h⟩ := gi h
      refine alX_21 hi3 dX6_at_12 rfl ?_
      refine r_goto (t := 17) dX6_at_13 (by decide) ?_
      exact r_iretR dX6_at_17 h
def P_X0_add_10 (a1 : Int32) (σ : SS) : Option (Int32 × SS) :=
  if (sI σ 21) < 0 then
    some (0, σ)
  else
    if (sI σ 21) < 300 then
      gI (sI σ 21) 300 <|
      some (1, (uI (stA σ 21 (sI σ 21) (a1 &&& 255)) 21 ((sI (stA σ 21 (sI σ 21) (a1 &&& 255)) 21) + 1)))
    else
      some (0, σ)
set_option maxHeartbeats 4000000 in
set_option maxRecDepth 100000 in
theorem T_X0_add_10 {X : XE} {σf : SS} {r : Int32} {σ : SS} {a1 : Int32} (h : P_X0_add_10 a1 σ = some (r, σf)) : Mt (gX X) 0 yX0_add cX0_add 2 (some .boolean) [.ref (xq X 10), .int a1] σ (some (.int r)) σf := by
  refine Mt.of (own := RX0) (lv := [(0, .ref (xq X 10)), (1, .int a1)]) pn_X0 rfl (Nat.le_of_ble_eq_true rfl) rfl ?_
  unfold P_X0_add_10 at h
  refine r_aload_n 0 dX0_add_0 rfl rfl rfl ?_
  refine gf_X0_15_10 dX0_add_1 rfl ?_
  refine r_if_lt (t := 17) dX0_add_4 (by decide) rfl (fun c1 => ?_) (fun c1 => ?_)
  · have h := it_t c1 h
    refine ric_0 dX0_add_17 rfl ?_
    exact r_zretQ (Or.inl rfl) dX0_add_18 h
  · have h := it_f c1 h
    refine r_aload_n 0 dX0_add_7 rfl rfl rfl ?_
    refine gf_X0_15_10 dX0_add_8 rfl ?_
    refine r_sipush (v := 300) dX0_add_11 (by decide) rfl ?_
    refine r_icmp_lt (t := 19) dX0_add_14 (by decide) rfl (fun c2 => ?_) (fun c2 => ?_)
    · have h := it_t c2 h
      refine r_aload_n 0 dX0_add_19 rfl rfl rfl ?_
      refine gf_X0_9_10 dX0_add_20 rfl ?_
      refine r_aload_n 0 dX0_add_23 rfl rfl rfl ?_
      refine gf_X0_15_10 dX0_add_24 rfl ?_
      refine r_iload_n 1 dX0_add_27 rfl rfl rfl ?_
      refine r_sipush (v := 255) dX0_add_28 (by decide) rfl ?_
      refine r_iand dX0_add_31 rfl ?_
      obtain ⟨hi3, h⟩ := gi h
      refine asX_37 hi3 dX0_add_32 rfl ?_
      refine r_aload_n 0 dX0_add_33 rfl rfl rfl ?_
      refine r_dup rfl dX0_add_34 rfl ?_
      refine gf_X0_15_10 dX0_add_35 rfl ?_
      refine ric_1 dX0_add_38 rfl ?_
      refine r_iadd dX0_add_39 rfl ?_
      refine pf_X0_15_10 dX0_add_40 rfl ?_
      refine ric_1 dX0_add_43 rfl ?_
      exact r_zretQ (Or.inr rfl) dX0_add_44 h
    · have h := it_f c2 h
      refine ric_0 dX0_add_17 rfl ?_
      exact r_zretQ (Or.inl rfl) dX0_add_18 h
def P_X6_at___C (a1 : Int32) : Option Int32 :=
  if a1 < 0 then
    some 0
  else
    if 9 ≤ a1 then
      some 0
    else
      gI a1 9 <|
      some (chC (ix a1))
set_option maxHeartbeats 4000000 in
set_option maxRecDepth 100000 in
theorem T_X6_at___C {X : XE} {σ : SS} {r : Int32} {a1 : Int32} (h : P_X6_at___C a1 = some r) : Mt (gX X) 0 yX6_at__ cX6_at__ 2 (some .int) [.ref (gC (gX X)), .int a1] σ (some (.int r)) σ := by
  refine Mt.of (own := RX6) (lv := [(0, .ref (gC (gX X))), (1, .int a1)]) pn_X6 rfl (Nat.le_of_ble_eq_true rfl) rfl ?_
  unfold P_X6_at___C at h
  refine r_iload_n 1 dX6_at___0 rfl rfl rfl ?_
  refine r_if_lt (t := 16) dX6_at___1 (by decide) rfl (fun c1 => ?_) (fun c1 => ?_)
  · have h := it_t c1 h
    refine ric_0 dX6_at___16 rfl ?_
    exact r_iretR dX6_at___17 h
  · have h := it_f c1 h
    refine r_iload_n 1 dX6_at___4 rfl rfl rfl ?_
    refine r_aload_n 0 dX6_at___5 rfl rfl rfl ?_
    refine r_alenC dX6_at___6 rfl ?_
    refine r_icmp_ge (t := 16) dX6_at___7 (by decide) rfl (fun c2 => ?_) (fun c2 => ?_)
    · have h := it_t c2 h
      refine ric_0 dX6_at___16 rfl ?_
      exact r_iretR dX6_at___17 h
    · have h := it_f c2 h
      refine r_aload_n 0 dX6_at___10 rfl rfl rfl ?_
      refine r_iload_n 1 dX6_at___11 rfl rfl rfl ?_
      obtain ⟨hi3, h⟩ := gi h
      refine r_caldC hi3 dX6_at___12 rfl ?_
      refine r_goto (t := 17) dX6_at___13 (by decide) ?_
      exact r_iretR dX6_at___17 h
def P_X9_splitBag_j124 (K62 : Int32 → Int32 → Int64 → Int32 → Int64 → Int64 → Int32 → SS → Option SS) (x1 : Int32) (x2 : Int32) (x3 : Int64) (x5 : Int32) (x6 : Int64) (x8 : Int64) (x10 : Int32) (σ : SS) : Option SS :=
  K62 x1 x2 x3 x5 x6 x8 (x10 + 1) σ
set_option maxHeartbeats 4000000 in
set_option maxRecDepth 100000 in
theorem T_X9_splitBag_j124 {X : XE} {σf : SS} {K62 : Int32 → Int32 → Int64 → Int32 → Int64 → Int64 → Int32 → SS → Option SS} (hK62 : ∀ (x1 : Int32) (x2 : Int32) (x3 : Int64) (x5 : Int32) (x6 : Int64) (x8 : Int64) (x10 : Int32) (σ : SS), K62 x1 x2 x3 x5 x6 x8 x10 σ = some σf → V (gX X) 3 RX9 cX9_splitBag 13 none none σf 62 [(0, .ref (xq X 5)), (1, .int x1), (2, .int x2), (3, .long x3), (5, .int x5), (6, .long x6), (8, .long x8), (10, .int x10)] [] σ) : ∀ (x1 : Int32) (x2 : Int32) (x3 : Int64) (x5 : Int32) (x6 : Int64) (x8 : Int64) (x10 : Int32) (σ : SS), P_X9_splitBag_j124 K62 x1 x2 x3 x5 x6 x8 x10 σ = some σf → V (gX X) 3 RX9 cX9_splitBag 13 none none σf 124 [(0, .ref (xq X 5)), (1, .int x1), (2, .int x2), (3, .long x3), (5, .int x5), (6, .long x6), (8, .long x8), (10, .int x10)] [] σ := by
  intro x1 x2 x3 x5 x6 x8 x10 σ h
  unfold P_X9_splitBag_j124 at h
  refine r_iinc (v := (x10 + 1)) (lv' := [(10, .int (x10 + 1)), (0, .ref (xq X 5)), (1, .int x1), (2, .int x2), (3, .long x3), (5, .int x5), (6, .long x6), (8, .long x8)]) 7 dX9_splitBag_124 rfl rfl (by decide) rfl rfl ?_
  refine r_goto (t := 62) dX9_splitBag_127 (by decide) ?_
  refine r_sub [1, 2, 3, 4, 5, 6, 7, 0] rfl ?_
  exact hK62 x1 x2 x3 x5 x6 x8 (x10 + 1) σ h
def P_X9_splitBag_j130 (x1 : Int32) (x2 : Int32) (x3 : Int64) (x5 : Int32) (x6 : Int64) (σ : SS) : Option SS :=
  (P_X8_bagsBelow x1 x2 x5 x6 (uJ (uI σ 9 x5) 0 x6)).bind fun v2 =>
  some (uJ (uJ (uI σ 9 x5) 0 x6) 1 (x3 - v2))
set_option maxHeartbeats 4000000 in
set_option maxRecDepth 100000 in
theorem T_X9_splitBag_j130 {X : XE} {σf : SS} : ∀ (x1 : Int32) (x2 : Int32) (x3 : Int64) (x5 : Int32) (x6 : Int64) (σ : SS), P_X9_splitBag_j130 x1 x2 x3 x5 x6 σ = some σf → V (gX X) 3 RX9 cX9_splitBag 13 none none σf 130 [(0, .ref (xq X 5)), (1, .int x1), (2, .int x2), (3, .long x3), (5, .int x5), (6, .long x6)] [] σ := by
  intro x1 x2 x3 x5 x6 σ h
  unfold P_X9_splitBag_j130 at h
  refine r_aload_n 0 dX9_splitBag_130 rfl rfl rfl ?_
  refine r_iload 4 dX9_splitBag_131 rfl rfl ?_
  refine pf_X9_92_5 dX9_splitBag_133 rfl ?_
  refine r_aload_n 0 dX9_splitBag_136 rfl rfl rfl ?_
  refine r_lload 5 dX9_splitBag_137 rfl rfl ?_
  refine pf_X9_99_5 dX9_splitBag_139 rfl ?_
  refine r_aload_n 0 dX9_splitBag_142 rfl rfl rfl ?_
  refine r_lload_n 3 dX9_splitBag_143 rfl rfl rfl ?_
  refine r_aload_n 0 dX9_splitBag_144 rfl rfl rfl ?_
  refine gf_X9_36_5 dX9_splitBag_145 rfl ?_
  refine r_iload_n 1 dX9_splitBag_148 rfl rfl rfl ?_
  refine r_iload_n 2 dX9_splitBag_149 rfl rfl rfl ?_
  refine r_iload 4 dX9_splitBag_150 rfl rfl ?_
  refine r_lload 5 dX9_splitBag_152 rfl rfl ?_
  obtain ⟨v2, e1, h⟩ := bd h
  refine r_callV (rest := [.long x3, .ref (xq X 5)]) (T_X8_bagsBelow e1) (by decide) mf_X8_bagsBelow rfl tw_567 tw_568 tw_688 cX_4 rfl rfl rfl (Nat.le_of_ble_eq_true rfl) dX9_splitBag_154 rfl ?_
  refine r_call0 ?_
  refine r_lsub dX9_splitBag_157 rfl ?_
  refine pf_X9_95_5 dX9_splitBag_158 rfl ?_
  exact r_vretS dX9_splitBag_161 h
def P_X9_splitBag_j62 : Nat → Int32 → Int32 → Int64 → Int32 → Int64 → Int64 → Int32 → SS → Option SS
  | 0, _, _, _, _, _, _, _, _ => none
  | n + 1, x1, x2, x3, x5, x6, x8, x10, σ =>
    if 64 ≤ x10 then
      P_X9_splitBag_j130 x1 x2 x3 x5 x6 σ
    else
      if x8 ≤ x6 then
        P_X9_splitBag_j130 x1 x2 x3 x5 x6 σ
      else
        (P_X8_bagsBelow x1 x2 x5 (x6 + (((x8 - x6) + 1) / 2)) σ).bind fun v5 =>
        if x3 < v5 then
          P_X9_splitBag_j124 (P_X9_splitBag_j62 n) x1 x2 x3 x5 x6 ((x6 + (((x8 - x6) + 1) / 2)) - 1) x10 σ
        else
          P_X9_splitBag_j124 (P_X9_splitBag_j62 n) x1 x2 x3 x5 (x6 + (((x8 - x6) + 1) / 2)) x8 x10 σ
set_option maxHeartbeats 4000000 in
set_option maxRecDepth 100000 in
theorem T_X9_splitBag_j62 {X : XE} {σf : SS} : ∀ (fu : Nat) (x1 : Int32) (x2 : Int32) (x3 : Int64) (x5 : Int32) (x6 : Int64) (x8 : Int64) (x10 : Int32) (σ : SS), P_X9_splitBag_j62 fu x1 x2 x3 x5 x6 x8 x10 σ = some σf → V (gX X) 3 RX9 cX9_splitBag 13 none none σf 62 [(0, .ref (xq X 5)), (1, .int x1), (2, .int x2), (3, .long x3), (5, .int x5), (6, .long x6), (8, .long x8), (10, .int x10)] [] σ := by
  intro fu
  induction fu with
  | zero => intro x1 x2 x3 x5 x6 x8 x10 σ h; exact no0 h
  | succ n ih =>
    intro x1 x2 x3 x5 x6 x8 x10 σ h
    unfold P_X9_splitBag_j62 at h
    refine r_iload 7 dX9_splitBag_62 rfl rfl ?_
    refine r_bipush (v := 64) dX9_splitBag_64 (by decide) rfl ?_
    refine r_icmp_ge (t := 130) dX9_splitBag_66 (by decide) rfl (fun c1 => ?_) (fun c1 => ?_)
    · have h := it_t c1 h
      refine r_sub [0, 1, 2, 3, 4, 5] rfl ?_
      exact T_X9_splitBag_j130 x1 x2 x3 x5 x6 σ h
    · have h := it_f c1 h
      refine r_lload 5 dX9_splitBag_69 rfl rfl ?_
      refine r_lload 6 dX9_splitBag_71 rfl rfl ?_
      refine r_lif_ge (t := 130) dX9_splitBag_73 rfl dX9_splitBag_74 (by decide) rfl (fun c2 => ?_) (fun c2 => ?_)
      · have h := it_t c2 h
        refine r_sub [0, 1, 2, 3, 4, 5] rfl ?_
        exact T_X9_splitBag_j130 x1 x2 x3 x5 x6 σ h
      · have h := it_f c2 h
        refine r_lload 5 dX9_splitBag_77 rfl rfl ?_
        refine r_lload 6 dX9_splitBag_79 rfl rfl ?_
        refine r_lload 5 dX9_splitBag_81 rfl rfl ?_
        refine r_lsub dX9_splitBag_83 rfl ?_
        refine rlc_1 dX9_splitBag_84 rfl ?_
        refine r_ladd dX9_splitBag_85 rfl ?_
        refine r_ldc2 (v := 2) tw_687 dX9_splitBag_86 rfl ?_
        refine r_ldiv (by decide) dX9_splitBag_89 rfl ?_
        refine r_ladd dX9_splitBag_90 rfl ?_
        refine r_lstore (lv' := [(11, .long (x6 + (((x8 - x6) + 1) / 2))), (0, .ref (xq X 5)), (1, .int x1), (2, .int x2), (3, .long x3), (5, .int x5), (6, .long x6), (8, .long x8), (10, .int x10)]) dX9_splitBag_91 (by decide) rfl rfl ?_
        refine r_aload_n 1 dX9_splitBag_93 rfl rfl rfl ?_
        refine gf_X9_36_5 dX9_splitBag_94 rfl ?_
        refine r_iload_n 2 dX9_splitBag_97 rfl rfl rfl ?_
        refine r_iload_n 3 dX9_splitBag_98 rfl rfl rfl ?_
        refine r_iload 5 dX9_splitBag_99 rfl rfl ?_
        refine r_lload 0 dX9_splitBag_101 rfl rfl ?_
        obtain ⟨v5, e4, h⟩ := bd h
        refine r_callV (rest := []) (T_X8_bagsBelow e4) (by decide) mf_X8_bagsBelow rfl tw_567 tw_568 tw_688 cX_4 rfl rfl rfl (Nat.le_of_ble_eq_true rfl) dX9_splitBag_103 rfl ?_
        refine r_call0 ?_
        refine r_lload_n 4 dX9_splitBag_106 rfl rfl rfl ?_
        refine r_lif_gt (t := 118) dX9_splitBag_107 rfl dX9_splitBag_108 (by decide) rfl (fun c6 => ?_) (fun c6 => ?_)
        · have h := it_t c6 h
          refine r_lload 0 dX9_splitBag_118 rfl rfl ?_
          refine rlc_1 dX9_splitBag_120 rfl ?_
          refine r_lsub dX9_splitBag_121 rfl ?_
          refine r_lstore (lv' := [(8, .long ((x6 + (((x8 - x6) + 1) / 2)) - 1)), (11, .long (x6 + (((x8 - x6) + 1) / 2))), (0, .ref (xq X 5)), (1, .int x1), (2, .int x2), (3, .long x3), (5, .int x5), (6, .long x6), (10, .int x10)]) dX9_splitBag_122 (by decide) rfl rfl ?_
          refine r_sub [2, 3, 4, 5, 6, 7, 0, 8] rfl ?_
          exact T_X9_splitBag_j124 ih x1 x2 x3 x5 x6 ((x6 + (((x8 - x6) + 1) / 2)) - 1) x10 σ h
        · have h := it_f c6 h
          refine r_lload 0 dX9_splitBag_111 rfl rfl ?_
          refine r_lstore (lv' := [(6, .long (x6 + (((x8 - x6) + 1) / 2))), (11, .long (x6 + (((x8 - x6) + 1) / 2))), (0, .ref (xq X 5)), (1, .int x1), (2, .int x2), (3, .long x3), (5, .int x5), (8, .long x8), (10, .int x10)]) dX9_splitBag_113 (by decide) rfl rfl ?_
          refine r_goto (t := 124) dX9_splitBag_115 (by decide) ?_
          refine r_sub [2, 3, 4, 5, 6, 0, 7, 8] rfl ?_
          exact T_X9_splitBag_j124 ih x1 x2 x3 x5 (x6 + (((x8 - x6) + 1) / 2)) x8 x10 σ h
def P_X9_splitBag_j31 (x1 : Int32) (x2 : Int32) (x3 : Int64) (x5 : Int32) (σ : SS) : Option SS :=
  (P_X1_a x1 σ).bind fun v2 =>
  (P_X8_of v2 x5 σ).bind fun v4 =>
  P_X9_splitBag_j62 FU x1 x2 x3 x5 0 (mmaxl 0 (v4 - 1)) 0 σ
set_option maxHeartbeats 4000000 in
set_option maxRecDepth 100000 in
theorem T_X9_splitBag_j31 {X : XE} {σf : SS} : ∀ (x1 : Int32) (x2 : Int32) (x3 : Int64) (x5 : Int32) (σ : SS), P_X9_splitBag_j31 x1 x2 x3 x5 σ = some σf → V (gX X) 3 RX9 cX9_splitBag 13 none none σf 31 [(0, .ref (xq X 5)), (1, .int x1), (2, .int x2), (3, .long x3), (5, .int x5)] [] σ := by
  intro x1 x2 x3 x5 σ h
  unfold P_X9_splitBag_j31 at h
  refine rlc_0 dX9_splitBag_31 rfl ?_
  refine r_lstore (lv' := [(6, .long 0), (0, .ref (xq X 5)), (1, .int x1), (2, .int x2), (3, .long x3), (5, .int x5)]) dX9_splitBag_32 (by decide) rfl rfl ?_
  refine rlc_0 dX9_splitBag_34 rfl ?_
  refine r_aload_n 1 dX9_splitBag_35 rfl rfl rfl ?_
  refine gf_X9_36_5 dX9_splitBag_36 rfl ?_
  refine r_aload_n 1 dX9_splitBag_39 rfl rfl rfl ?_
  refine gf_X9_32_5 dX9_splitBag_40 rfl ?_
  refine r_iload_n 2 dX9_splitBag_43 rfl rfl rfl ?_
  obtain ⟨v2, e1, h⟩ := bd h
  refine r_callV (rest := [.ref (xq X 4), .long 0]) (T_X1_a e1) (by decide) mf_X1_a rfl tw_424 tw_425 tw_642 cX_1 rfl rfl rfl (Nat.le_of_ble_eq_true rfl) dX9_splitBag_44 rfl ?_
  refine r_call0 ?_
  refine r_iload 5 dX9_splitBag_47 rfl rfl ?_
  obtain ⟨v4, e3, h⟩ := bd h
  refine r_callV (rest := [.long 0]) (T_X8_of e3) (by decide) mf_X8_of rfl tw_539 tw_540 tw_654 cX_4 rfl rfl rfl (Nat.le_of_ble_eq_true rfl) dX9_splitBag_49 rfl ?_
  refine r_call0 ?_
  refine rlc_1 dX9_splitBag_52 rfl ?_
  refine r_lsub dX9_splitBag_53 rfl ?_
  refine r_mmaxl (by decide) (Nat.le_of_ble_eq_true rfl) tw_684 dX9_splitBag_54 rfl ?_
  refine r_lstore (lv' := [(8, .long (mmaxl 0 (v4 - 1))), (6, .long 0), (0, .ref (xq X 5)), (1, .int x1), (2, .int x2), (3, .long x3), (5, .int x5)]) dX9_splitBag_57 (by decide) rfl rfl ?_
  refine ric_0 dX9_splitBag_59 rfl ?_
  refine r_istore (lv' := [(10, .int 0), (8, .long (mmaxl 0 (v4 - 1))), (6, .long 0), (0, .ref (xq X 5)), (1, .int x1), (2, .int x2), (3, .long x3), (5, .int x5)]) dX9_splitBag_60 (by decide) rfl rfl ?_
  refine r_sub [3, 4, 5, 6, 7, 2, 1, 0] rfl ?_
  exact T_X9_splitBag_j62 FU x1 x2 x3 x5 0 (mmaxl 0 (v4 - 1)) 0 σ h
def P_X9_splitBag_j3 : Nat → Int32 → Int32 → Int64 → Int32 → SS → Option SS
  | 0, _, _, _, _, _ => none
  | n + 1, x1, x2, x3, x5, σ =>
    if x2 ≤ x5 then
      P_X9_splitBag_j31 x1 x2 x3 x5 σ
    else
      (P_X8_bagsUpTo x1 x2 x5 σ).bind fun v3 =>
      if x3 < v3 then
        P_X9_splitBag_j31 x1 x2 x3 x5 σ
      else
        (P_X9_splitBag_j3 n) x1 x2 x3 (x5 + 1) σ
set_option maxHeartbeats 4000000 in
set_option maxRecDepth 100000 in
theorem T_X9_splitBag_j3 {X : XE} {σf : SS} : ∀ (fu : Nat) (x1 : Int32) (x2 : Int32) (x3 : Int64) (x5 : Int32) (σ : SS), P_X9_splitBag_j3 fu x1 x2 x3 x5 σ = some σf → V (gX X) 3 RX9 cX9_splitBag 13 none none σf 3 [(0, .ref (xq X 5)), (1, .int x1), (2, .int x2), (3, .long x3), (5, .int x5)] [] σ := by
  intro fu
  induction fu with
  | zero => intro x1 x2 x3 x5 σ h; exact no0 h
  | succ n ih =>
    intro x1 x2 x3 x5 σ h
    unfold P_X9_splitBag_j3 at h
    refine r_iload 4 dX9_splitBag_3 rfl rfl ?_
    refine r_iload_n 2 dX9_splitBag_5 rfl rfl rfl ?_
    refine r_icmp_ge (t := 31) dX9_splitBag_6 (by decide) rfl (fun c1 => ?_) (fun c1 => ?_)
    · have h := it_t c1 h
      exact T_X9_splitBag_j31 x1 x2 x3 x5 σ h
    · have h := it_f c1 h
      refine r_lload_n 3 dX9_splitBag_9 rfl rfl rfl ?_
      refine r_aload_n 0 dX9_splitBag_10 rfl rfl rfl ?_
      refine gf_X9_36_5 dX9_splitBag_11 rfl ?_
      refine r_iload_n 1 dX9_splitBag_14 rfl rfl rfl ?_
      refine r_iload_n 2 dX9_splitBag_15 rfl rfl rfl ?_
      refine r_iload 4 dX9_splitBag_16 rfl rfl ?_
      obtain ⟨v3, e2, h⟩ := bd h
      refine r_callV (rest := [.long x3]) (T_X8_bagsUpTo e2) (by decide) mf_X8_bagsUpTo rfl tw_571 tw_572 tw_683 cX_4 rfl rfl rfl (Nat.le_of_ble_eq_true rfl) dX9_splitBag_18 rfl ?_
      refine r_call0 ?_
      refine r_lif_lt (t := 31) dX9_splitBag_21 rfl dX9_splitBag_22 (by decide) rfl (fun c4 => ?_) (fun c4 => ?_)
      · have h := it_t c4 h
        exact T_X9_splitBag_j31 x1 x2 x3 x5 σ h
      · have h := it_f c4 h
        refine r_iinc (v := (x5 + 1)) (lv' := [(5, .int (x5 + 1)), (0, .ref (xq X 5)), (1, .int x1), (2, .int x2), (3, .long x3)]) 4 dX9_splitBag_25 rfl rfl (by decide) rfl rfl ?_
        refine r_goto (t := 3) dX9_splitBag_28 (by decide) ?_
        refine r_sub [1, 2, 3, 4, 0] rfl ?_
        exact ih x1 x2 x3 (x5 + 1) σ h
def P_X9_splitBag (a1 : Int32) (a2 : Int32) (a3 : Int64) (σ : SS) : Option SS :=
  P_X9_splitBag_j3 FU a1 a2 a3 1 σ
set_option maxHeartbeats 4000000 in
set_option maxRecDepth 100000 in
theorem T_X9_splitBag {X : XE} {σf : SS} {σ : SS} {a1 : Int32} {a2 : Int32} {a3 : Int64} (h : P_X9_splitBag a1 a2 a3 σ = some σf) : Mt (gX X) 3 yX9_splitBag cX9_splitBag 13 none [.ref (xq X 5), .int a1, .int a2, .long a3] σ none σf := by
  refine Mt.of (own := RX9) (lv := [(0, .ref (xq X 5)), (1, .int a1), (2, .int a2), (3, .long a3)]) pn_X9 rfl (Nat.le_of_ble_eq_true rfl) rfl ?_
  unfold P_X9_splitBag at h
  refine ric_1 dX9_splitBag_0 rfl ?_
  refine r_istore (lv' := [(5, .int 1), (0, .ref (xq X 5)), (1, .int a1), (2, .int a2), (3, .long a3)]) dX9_splitBag_1 (by decide) rfl rfl ?_
  refine r_sub [1, 2, 3, 4, 0] rfl ?_
  exact T_X9_splitBag_j3 FU a1 a2 a3 1 σ h
