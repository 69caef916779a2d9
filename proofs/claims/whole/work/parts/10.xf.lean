def P_X9_splitLed_j115 (x7 : Int64) (x10 : Int64) (y0 : Int64) (σ : SS) : Option SS :=
  if x10 ≤ 0 then
    some (uJ (uJ σ 0 y0) 1 0)
  else
    gN x10 <|
    some (uJ (uJ σ 0 y0) 1 (x7 - x7 / x10 * x10))
set_option maxHeartbeats 4000000 in
set_option maxRecDepth 100000 in
theorem T_X9_splitLed_j115 {X : XE} {σf : SS} : ∀ (x7 : Int64) (x10 : Int64) (y0 : Int64) (σ : SS), P_X9_splitLed_j115 x7 x10 y0 σ = some σf → V (gX X) 2 RX9 cX9_splitLed 12 none none σf 115 [(0, .ref (xq X 5)), (7, .long x7), (10, .long x10)] [.long y0, .ref (xq X 5)] σ := by
  intro x7 x10 y0 σ h
  unfold P_X9_splitLed_j115 at h
  refine pf_X9_99_5 dX9_splitLed_115 rfl ?_
  refine r_aload_n 0 dX9_splitLed_118 rfl rfl rfl ?_
  refine r_lload 2 dX9_splitLed_119 rfl rfl ?_
  refine rlc_0 dX9_splitLed_121 rfl ?_
  refine r_lif_le (t := 134) dX9_splitLed_122 rfl dX9_splitLed_123 (by decide) rfl (fun c1 => ?_) (fun c1 => ?_)
  · have h := it_t c1 h
    refine rlc_0 dX9_splitLed_134 rfl ?_
    refine pf_X9_95_5 dX9_splitLed_135 rfl ?_
    exact r_vretS dX9_splitLed_138 h
  · have h := it_f c1 h
    refine r_lload 1 dX9_splitLed_126 rfl rfl ?_
    refine r_lload 2 dX9_splitLed_128 rfl rfl ?_
    obtain ⟨hn2, h⟩ := gn h
    refine r_lrem hn2 dX9_splitLed_130 rfl ?_
    refine r_goto (t := 135) dX9_splitLed_131 (by decide) ?_
    refine pf_X9_95_5 dX9_splitLed_135 rfl ?_
    exact r_vretS dX9_splitLed_138 h
def P_X9_splitLed_j77 (x2 : Int32) (x6 : Int32) (x7 : Int64) (x9 : Int32) (σ : SS) : Option SS :=
  (P_X8_of x6 (x2 - x9) σ).bind fun v2 =>
  if v2 ≤ 0 then
    P_X9_splitLed_j115 x7 v2 0 (uI σ 9 x9)
  else
    gN v2 <|
    P_X9_splitLed_j115 x7 v2 (x7 / v2) (uI σ 9 x9)
set_option maxHeartbeats 4000000 in
set_option maxRecDepth 100000 in
theorem T_X9_splitLed_j77 {X : XE} {σf : SS} : ∀ (x2 : Int32) (x6 : Int32) (x7 : Int64) (x9 : Int32) (σ : SS), P_X9_splitLed_j77 x2 x6 x7 x9 σ = some σf → V (gX X) 2 RX9 cX9_splitLed 12 none none σf 77 [(0, .ref (xq X 5)), (2, .int x2), (6, .int x6), (7, .long x7), (9, .int x9)] [] σ := by
  intro x2 x6 x7 x9 σ h
  unfold P_X9_splitLed_j77 at h
  refine r_aload_n 0 dX9_splitLed_77 rfl rfl rfl ?_
  refine gf_X9_36_5 dX9_splitLed_78 rfl ?_
  refine r_iload 2 dX9_splitLed_81 rfl rfl ?_
  refine r_iload_n 1 dX9_splitLed_83 rfl rfl rfl ?_
  refine r_iload 4 dX9_splitLed_84 rfl rfl ?_
  refine r_isub dX9_splitLed_86 rfl ?_
  obtain ⟨v2, e1, h⟩ := bd h
  refine r_callV (rest := []) (T_X8_of e1) (by decide) mf_X8_of rfl tw_539 tw_540 tw_654 cX_4 rfl rfl rfl (Nat.le_of_ble_eq_true rfl) dX9_splitLed_87 rfl ?_
  refine r_call0 ?_
  refine r_lstore (lv' := [(10, .long v2), (0, .ref (xq X 5)), (2, .int x2), (6, .int x6), (7, .long x7), (9, .int x9)]) dX9_splitLed_90 (by decide) rfl rfl ?_
  refine r_aload_n 1 dX9_splitLed_92 rfl rfl rfl ?_
  refine r_iload 5 dX9_splitLed_93 rfl rfl ?_
  refine pf_X9_92_5 dX9_splitLed_95 rfl ?_
  refine r_aload_n 1 dX9_splitLed_98 rfl rfl rfl ?_
  refine r_lload 0 dX9_splitLed_99 rfl rfl ?_
  refine rlc_0 dX9_splitLed_101 rfl ?_
  refine r_lif_le (t := 114) dX9_splitLed_102 rfl dX9_splitLed_103 (by decide) rfl (fun c3 => ?_) (fun c3 => ?_)
  · have h := it_t c3 h
    refine rlc_0 dX9_splitLed_114 rfl ?_
    refine r_sub [1, 4, 0] rfl ?_
    exact T_X9_splitLed_j115 x7 v2 0 (uI σ 9 x9) h
  · have h := it_f c3 h
    refine r_lload 4 dX9_splitLed_106 rfl rfl ?_
    refine r_lload 0 dX9_splitLed_108 rfl rfl ?_
    obtain ⟨hn4, h⟩ := gn h
    refine r_ldiv hn4 dX9_splitLed_110 rfl ?_
    refine r_goto (t := 115) dX9_splitLed_111 (by decide) ?_
    refine r_sub [1, 4, 0] rfl ?_
    exact T_X9_splitLed_j115 x7 v2 (x7 / v2) (uI σ 9 x9) h
def P_X9_splitLed_j26 : Nat → Int32 → Int32 → Int32 → Int64 → Int32 → SS → Option SS
  | 0, _, _, _, _, _, _ => none
  | n + 1, x2, x5, x6, x7, x9, σ =>
    if x2 ≤ x9 then
      P_X9_splitLed_j77 x2 x6 x7 x9 σ
    else
      (P_X8_led x5 x6 x2 x9 σ).bind fun v3 =>
      if x7 < v3 then
        P_X9_splitLed_j77 x2 x6 x7 x9 σ
      else
        (P_X8_led x5 x6 x2 x9 σ).bind fun v6 =>
        (P_X9_splitLed_j26 n) x2 x5 x6 (x7 - v6) (x9 + 1) σ
set_option maxHeartbeats 4000000 in
set_option maxRecDepth 100000 in
theorem T_X9_splitLed_j26 {X : XE} {σf : SS} : ∀ (fu : Nat) (x2 : Int32) (x5 : Int32) (x6 : Int32) (x7 : Int64) (x9 : Int32) (σ : SS), P_X9_splitLed_j26 fu x2 x5 x6 x7 x9 σ = some σf → V (gX X) 2 RX9 cX9_splitLed 12 none none σf 26 [(0, .ref (xq X 5)), (2, .int x2), (5, .int x5), (6, .int x6), (7, .long x7), (9, .int x9)] [] σ := by
  intro fu
  induction fu with
  | zero => intro x2 x5 x6 x7 x9 σ h; exact no0 h
  | succ n ih =>
    intro x2 x5 x6 x7 x9 σ h
    unfold P_X9_splitLed_j26 at h
    refine r_iload 5 dX9_splitLed_26 rfl rfl ?_
    refine r_iload_n 1 dX9_splitLed_28 rfl rfl rfl ?_
    refine r_icmp_ge (t := 77) dX9_splitLed_29 (by decide) rfl (fun c1 => ?_) (fun c1 => ?_)
    · have h := it_t c1 h
      refine r_sub [0, 1, 3, 4, 5] rfl ?_
      exact T_X9_splitLed_j77 x2 x6 x7 x9 σ h
    · have h := it_f c1 h
      refine r_lload 4 dX9_splitLed_32 rfl rfl ?_
      refine r_aload_n 0 dX9_splitLed_34 rfl rfl rfl ?_
      refine gf_X9_36_5 dX9_splitLed_35 rfl ?_
      refine r_iload 2 dX9_splitLed_38 rfl rfl ?_
      refine r_iload 3 dX9_splitLed_40 rfl rfl ?_
      refine r_iload_n 1 dX9_splitLed_42 rfl rfl rfl ?_
      refine r_iload 5 dX9_splitLed_43 rfl rfl ?_
      obtain ⟨v3, e2, h⟩ := bd h
      refine r_callV (rest := [.long x7]) (T_X8_led e2) (by decide) mf_X8_led rfl tw_547 tw_548 tw_653 cX_4 rfl rfl rfl (Nat.le_of_ble_eq_true rfl) dX9_splitLed_45 rfl ?_
      refine r_call0 ?_
      refine r_lif_lt (t := 77) dX9_splitLed_48 rfl dX9_splitLed_49 (by decide) rfl (fun c4 => ?_) (fun c4 => ?_)
      · have h := it_t c4 h
        refine r_sub [0, 1, 3, 4, 5] rfl ?_
        exact T_X9_splitLed_j77 x2 x6 x7 x9 σ h
      · have h := it_f c4 h
        refine r_lload 4 dX9_splitLed_52 rfl rfl ?_
        refine r_aload_n 0 dX9_splitLed_54 rfl rfl rfl ?_
        refine gf_X9_36_5 dX9_splitLed_55 rfl ?_
        refine r_iload 2 dX9_splitLed_58 rfl rfl ?_
        refine r_iload 3 dX9_splitLed_60 rfl rfl ?_
        refine r_iload_n 1 dX9_splitLed_62 rfl rfl rfl ?_
        refine r_iload 5 dX9_splitLed_63 rfl rfl ?_
        obtain ⟨v6, e5, h⟩ := bd h
        refine r_callV (rest := [.long x7]) (T_X8_led e5) (by decide) mf_X8_led rfl tw_547 tw_548 tw_653 cX_4 rfl rfl rfl (Nat.le_of_ble_eq_true rfl) dX9_splitLed_65 rfl ?_
        refine r_call0 ?_
        refine r_lsub dX9_splitLed_68 rfl ?_
        refine r_lstore (lv' := [(7, .long (x7 - v6)), (0, .ref (xq X 5)), (2, .int x2), (5, .int x5), (6, .int x6), (9, .int x9)]) dX9_splitLed_69 (by decide) rfl rfl ?_
        refine r_iinc (v := (x9 + 1)) (lv' := [(9, .int (x9 + 1)), (7, .long (x7 - v6)), (0, .ref (xq X 5)), (2, .int x2), (5, .int x5), (6, .int x6)]) 5 dX9_splitLed_71 rfl rfl (by decide) rfl rfl ?_
        refine r_goto (t := 26) dX9_splitLed_74 (by decide) ?_
        refine r_sub [2, 3, 4, 5, 1, 0] rfl ?_
        exact ih x2 x5 x6 (x7 - v6) (x9 + 1) σ h
def P_X9_splitLed (a1 : Int32) (a2 : Int32) (a3 : Int64) (σ : SS) : Option SS :=
  (P_X1_a a1 σ).bind fun v2 =>
  (P_X8_tail a1 σ).bind fun v4 =>
  P_X9_splitLed_j26 FU a2 v2 v4 a3 0 σ
set_option maxHeartbeats 4000000 in
set_option maxRecDepth 100000 in
theorem T_X9_splitLed {X : XE} {σf : SS} {σ : SS} {a1 : Int32} {a2 : Int32} {a3 : Int64} (h : P_X9_splitLed a1 a2 a3 σ = some σf) : Mt (gX X) 2 yX9_splitLed cX9_splitLed 12 none [.ref (xq X 5), .int a1, .int a2, .long a3] σ none σf := by
  refine Mt.of (own := RX9) (lv := [(0, .ref (xq X 5)), (1, .int a1), (2, .int a2), (3, .long a3)]) pn_X9 rfl (Nat.le_of_ble_eq_true rfl) rfl ?_
  unfold P_X9_splitLed at h
  refine r_aload_n 0 dX9_splitLed_0 rfl rfl rfl ?_
  refine gf_X9_32_5 dX9_splitLed_1 rfl ?_
  refine r_iload_n 1 dX9_splitLed_4 rfl rfl rfl ?_
  obtain ⟨v2, e1, h⟩ := bd h
  refine r_callV (rest := []) (T_X1_a e1) (by decide) mf_X1_a rfl tw_424 tw_425 tw_642 cX_1 rfl rfl rfl (Nat.le_of_ble_eq_true rfl) dX9_splitLed_5 rfl ?_
  refine r_call0 ?_
  refine r_istore (lv' := [(5, .int v2), (0, .ref (xq X 5)), (1, .int a1), (2, .int a2), (3, .long a3)]) dX9_splitLed_8 (by decide) rfl rfl ?_
  refine r_aload_n 1 dX9_splitLed_10 rfl rfl rfl ?_
  refine gf_X9_36_5 dX9_splitLed_11 rfl ?_
  refine r_iload_n 2 dX9_splitLed_14 rfl rfl rfl ?_
  obtain ⟨v4, e3, h⟩ := bd h
  refine r_callV (rest := []) (T_X8_tail e3) (by decide) mf_X8_tail rfl tw_534 tw_535 tw_652 cX_4 rfl rfl rfl (Nat.le_of_ble_eq_true rfl) dX9_splitLed_15 rfl ?_
  refine r_call0 ?_
  refine r_istore (lv' := [(6, .int v4), (5, .int v2), (0, .ref (xq X 5)), (1, .int a1), (2, .int a2), (3, .long a3)]) dX9_splitLed_18 (by decide) rfl rfl ?_
  refine r_lload_n 5 dX9_splitLed_20 rfl rfl rfl ?_
  refine r_lstore (lv' := [(7, .long a3), (6, .int v4), (5, .int v2), (0, .ref (xq X 5)), (1, .int a1), (2, .int a2), (3, .long a3)]) dX9_splitLed_21 (by decide) rfl rfl ?_
  refine ric_0 dX9_splitLed_23 rfl ?_
  refine r_istore (lv' := [(9, .int 0), (7, .long a3), (6, .int v4), (5, .int v2), (0, .ref (xq X 5)), (1, .int a1), (2, .int a2), (3, .long a3)]) dX9_splitLed_24 (by decide) rfl rfl ?_
  refine r_sub [4, 6, 3, 2, 1, 0] rfl ?_
  exact T_X9_splitLed_j26 FU a2 v2 v4 a3 0 σ h
def P_X9_workRest_j54 (x1 : Int32) (x2 : Int32) (σ : SS) : Option (Int32 × SS) :=
  (P_X9_push 2 x1 (x2 - (sI σ 9)) (sJ σ 1) σ).bind fun σ2 =>
  (P_X1_a x1 σ2).bind fun v4 =>
  (P_X9_push 1 v4 (sI σ2 9) (sJ σ2 0) σ2).bind fun σ6 =>
  some (1, σ6)
set_option maxHeartbeats 4000000 in
set_option maxRecDepth 100000 in
theorem T_X9_workRest_j54 {X : XE} {σf : SS} {r : Int32} : ∀ (x1 : Int32) (x2 : Int32) (σ : SS), P_X9_workRest_j54 x1 x2 σ = some (r, σf) → V (gX X) 4 RX9 cX9_workRest 5 (some .boolean) (some (.int r)) σf 54 [(0, .ref (xq X 5)), (1, .int x1), (2, .int x2)] [] σ := by
  intro x1 x2 σ h
  unfold P_X9_workRest_j54 at h
  refine r_aload_n 0 dX9_workRest_54 rfl rfl rfl ?_
  refine ric_2 dX9_workRest_55 rfl ?_
  refine r_iload_n 1 dX9_workRest_56 rfl rfl rfl ?_
  refine r_iload_n 2 dX9_workRest_57 rfl rfl rfl ?_
  refine r_aload_n 0 dX9_workRest_58 rfl rfl rfl ?_
  refine gf_X9_92_5 dX9_workRest_59 rfl ?_
  refine r_isub dX9_workRest_62 rfl ?_
  refine r_aload_n 0 dX9_workRest_63 rfl rfl rfl ?_
  refine gf_X9_95_5 dX9_workRest_64 rfl ?_
  obtain ⟨σ2, e1, h⟩ := bd h
  refine r_callV (rest := []) (T_X9_push e1) (by decide) mf_X9_push rfl tw_629 tw_9 tw_627 cX_5 rfl rfl rfl (Nat.le_of_ble_eq_true rfl) dX9_workRest_67 rfl ?_
  refine r_calln ?_
  refine r_aload_n 0 dX9_workRest_70 rfl rfl rfl ?_
  refine ric_1 dX9_workRest_71 rfl ?_
  refine r_aload_n 0 dX9_workRest_72 rfl rfl rfl ?_
  refine gf_X9_32_5 dX9_workRest_73 rfl ?_
  refine r_iload_n 1 dX9_workRest_76 rfl rfl rfl ?_
  obtain ⟨v4, e3, h⟩ := bd h
  refine r_callV (rest := [.int 1, .ref (xq X 5)]) (T_X1_a e3) (by decide) mf_X1_a rfl tw_424 tw_425 tw_642 cX_1 rfl rfl rfl (Nat.le_of_ble_eq_true rfl) dX9_workRest_77 rfl ?_
  refine r_call0 ?_
  refine r_aload_n 0 dX9_workRest_80 rfl rfl rfl ?_
  refine gf_X9_92_5 dX9_workRest_81 rfl ?_
  refine r_aload_n 0 dX9_workRest_84 rfl rfl rfl ?_
  refine gf_X9_99_5 dX9_workRest_85 rfl ?_
  obtain ⟨σ6, e5, h⟩ := bd h
  refine r_callV (rest := []) (T_X9_push e5) (by decide) mf_X9_push rfl tw_629 tw_9 tw_627 cX_5 rfl rfl rfl (Nat.le_of_ble_eq_true rfl) dX9_workRest_88 rfl ?_
  refine r_calln ?_
  refine ric_1 dX9_workRest_91 rfl ?_
  exact r_zretQ (Or.inr rfl) dX9_workRest_92 h
def P_X9_workRest (a1 : Int32) (a2 : Int32) (a3 : Int64) (σ : SS) : Option (Int32 × SS) :=
  if 0 < a2 then
    (P_X1_isBag a1 σ).bind fun v3 =>
    if v3 = 0 then
      (P_X9_splitLed a1 a2 a3 σ).bind fun σ6 =>
      P_X9_workRest_j54 a1 a2 σ6
    else
      (P_X9_splitBag a1 a2 a3 σ).bind fun σ8 =>
      P_X9_workRest_j54 a1 a2 σ8
  else
    (P_X1_kind a1 σ).bind fun v10 =>
    (P_X6_at___C v10).bind fun v12 =>
    b2 (P_X0_add_10 v12 σ) fun v14 σ15 =>
    gZ v14 <|
    some (v14, σ15)
set_option maxHeartbeats 4000000 in
set_option maxRecDepth 100000 in
theorem T_X9_workRest {X : XE} {σf : SS} {r : Int32} {σ : SS} {a1 : Int32} {a2 : Int32} {a3 : Int64} (h : P_X9_workRest a1 a2 a3 σ = some (r, σf)) : Mt (gX X) 4 yX9_workRest cX9_workRest 5 (some .boolean) [.ref (xq X 5), .int a1, .int a2, .long a3] σ (some (.int r)) σf := by
  refine Mt.of (own := RX9) (lv := [(0, .ref (xq X 5)), (1, .int a1), (2, .int a2), (3, .long a3)]) pn_X9 rfl (Nat.le_of_ble_eq_true rfl) rfl ?_
  unfold P_X9_workRest at h
  refine r_iload_n 2 dX9_workRest_0 rfl rfl rfl ?_
  refine r_if_gt (t := 26) dX9_workRest_1 (by decide) rfl (fun c1 => ?_) (fun c1 => ?_)
  · have h := it_t c1 h
    refine r_aload_n 0 dX9_workRest_26 rfl rfl rfl ?_
    refine gf_X9_32_5 dX9_workRest_27 rfl ?_
    refine r_iload_n 1 dX9_workRest_30 rfl rfl rfl ?_
    obtain ⟨v3, e2, h⟩ := bd h
    refine r_callV (rest := []) (T_X1_isBag e2) (by decide) mf_X1_isBag rfl tw_495 tw_496 tw_678 cX_1 rfl rfl rfl (Nat.le_of_ble_eq_true rfl) dX9_workRest_31 rfl ?_
    refine r_call0 ?_
    refine r_if_eq (t := 47) dX9_workRest_34 (by decide) rfl (fun c4 => ?_) (fun c4 => ?_)
    · have h := it_t c4 h
      refine r_aload_n 0 dX9_workRest_47 rfl rfl rfl ?_
      refine r_iload_n 1 dX9_workRest_48 rfl rfl rfl ?_
      refine r_iload_n 2 dX9_workRest_49 rfl rfl rfl ?_
      refine r_lload_n 3 dX9_workRest_50 rfl rfl rfl ?_
      obtain ⟨σ6, e5, h⟩ := bd h
      refine r_callV (rest := []) (T_X9_splitLed e5) (by decide) mf_X9_splitLed rfl tw_650 tw_12 tw_648 cX_5 rfl rfl rfl (Nat.le_of_ble_eq_true rfl) dX9_workRest_51 rfl ?_
      refine r_calln ?_
      refine r_sub [0, 1, 2] rfl ?_
      exact T_X9_workRest_j54 a1 a2 σ6 h
    · have h := it_f c4 h
      refine r_aload_n 0 dX9_workRest_37 rfl rfl rfl ?_
      refine r_iload_n 1 dX9_workRest_38 rfl rfl rfl ?_
      refine r_iload_n 2 dX9_workRest_39 rfl rfl rfl ?_
      refine r_lload_n 3 dX9_workRest_40 rfl rfl rfl ?_
      obtain ⟨σ8, e7, h⟩ := bd h
      refine r_callV (rest := []) (T_X9_splitBag e7) (by decide) mf_X9_splitBag rfl tw_681 tw_16 tw_679 cX_5 rfl rfl rfl (Nat.le_of_ble_eq_true rfl) dX9_workRest_41 rfl ?_
      refine r_calln ?_
      refine r_goto (t := 54) dX9_workRest_44 (by decide) ?_
      refine r_sub [0, 1, 2] rfl ?_
      exact T_X9_workRest_j54 a1 a2 σ8 h
  · have h := it_f c1 h
    refine r_aload_n 0 dX9_workRest_4 rfl rfl rfl ?_
    refine gf_X9_12_5 dX9_workRest_5 rfl ?_
    refine r_getsC (fun u h => h.2.1) dX9_workRest_8 rfl ?_
    refine r_aload_n 0 dX9_workRest_11 rfl rfl rfl ?_
    refine gf_X9_32_5 dX9_workRest_12 rfl ?_
    refine r_iload_n 1 dX9_workRest_15 rfl rfl rfl ?_
    obtain ⟨v10, e9, h⟩ := bd h
    refine r_callV (rest := [.ref (gC (gX X)), .ref (xq X 10)]) (T_X1_kind e9) (by decide) mf_X1_kind rfl tw_420 tw_421 tw_641 cX_1 rfl rfl rfl (Nat.le_of_ble_eq_true rfl) dX9_workRest_16 rfl ?_
    refine r_call0 ?_
    obtain ⟨v12, e11, h⟩ := bd h
    refine r_callS (As := [.ref (gC (gX X)), .int v10]) (rest := [.ref (xq X 10)]) (T_X6_at___C e11) (by decide) mf_X6_at__ rfl tw_670 tw_669 rfl (Nat.le_of_ble_eq_true rfl) dX9_workRest_19 rfl ?_
    refine r_call0 ?_
    obtain ⟨v14, σ15, e13, h⟩ := b2d h
    refine r_callV (rest := []) (T_X0_add_10 e13) (by decide) mf_X0_add rfl tw_645 tw_646 tw_644 cX_10 rfl rfl rfl (Nat.le_of_ble_eq_true rfl) dX9_workRest_22 rfl ?_
    refine r_call0 ?_
    obtain ⟨hz16, h⟩ := gz h
    exact r_zretQ hz16 dX9_workRest_25 h
def P_X6_at___O (a1 : Int32) : Option Int32 :=
  if a1 < 0 then
    some 0
  else
    if 9 ≤ a1 then
      some 0
    else
      gI a1 9 <|
      some (chO (ix a1))
set_option maxHeartbeats 4000000 in
set_option maxRecDepth 100000 in
theorem T_X6_at___O {X : XE} {σ : SS} {r : Int32} {a1 : Int32} (h : P_X6_at___O a1 = some r) : Mt (gX X) 0 yX6_at__ cX6_at__ 2 (some .int) [.ref (gO (gX X)), .int a1] σ (some (.int r)) σ := by
  refine Mt.of (own := RX6) (lv := [(0, .ref (gO (gX X))), (1, .int a1)]) pn_X6 rfl (Nat.le_of_ble_eq_true rfl) rfl ?_
  unfold P_X6_at___O at h
  refine r_iload_n 1 dX6_at___0 rfl rfl rfl ?_
  refine r_if_lt (t := 16) dX6_at___1 (by decide) rfl (fun c1 => ?_) (fun c1 => ?_)
  · have h := it_t c1 h
    refine ric_0 dX6_at___16 rfl ?_
    exact r_iretR dX6_at___17 h
  · have h := it_f c1 h
    refine r_iload_n 1 dX6_at___4 rfl rfl rfl ?_
    refine r_aload_n 0 dX6_at___5 rfl rfl rfl ?_
    refine r_alenO dX6_at___6 rfl ?_
    refine r_icmp_ge (t := 16) dX6_at___7 (by decide) rfl (fun c2 => ?_) (fun c2 => ?_)
    · have h := it_t c2 h
      refine ric_0 dX6_at___16 rfl ?_
      exact r_iretR dX6_at___17 h
    · have h := it_f c2 h
      refine r_aload_n 0 dX6_at___10 rfl rfl rfl ?_
      refine r_iload_n 1 dX6_at___11 rfl rfl rfl ?_
      obtain ⟨hi3, h⟩ := gi h
      refine r_caldO hi3 dX6_at___12 rfl ?_
      refine r_goto (t := 17) dX6_at___13 (by decide) ?_
      exact r_iretR dX6_at___17 h
def P_X9_unusedLetter_j34 (K5 : Int32 → Int64 → Int32 → Option Int32) (x0 : Int32) (x3 : Int64) (x5 : Int32) : Option Int32 :=
  K5 x0 x3 (x5 + 1)
set_option maxHeartbeats 4000000 in
set_option maxRecDepth 100000 in
theorem T_X9_unusedLetter_j34 {X : XE} {σ : SS} {r : Int32} {K5 : Int32 → Int64 → Int32 → Option Int32} (hK5 : ∀ (x0 : Int32) (x3 : Int64) (x5 : Int32), K5 x0 x3 x5 = some r → V (gX X) 0 RX9 cX9_unusedLetter 6 (some .int) (some (.int r)) σ 5 [(0, .int x0), (3, .long x3), (5, .int x5)] [] σ) : ∀ (x0 : Int32) (x3 : Int64) (x5 : Int32), P_X9_unusedLetter_j34 K5 x0 x3 x5 = some r → V (gX X) 0 RX9 cX9_unusedLetter 6 (some .int) (some (.int r)) σ 34 [(0, .int x0), (3, .long x3), (5, .int x5)] [] σ := by
  intro x0 x3 x5 h
  unfold P_X9_unusedLetter_j34 at h
  refine r_iinc (v := (x5 + 1)) (lv' := [(5, .int (x5 + 1)), (0, .int x0), (3, .long x3)]) 2 dX9_unusedLetter_34 rfl rfl (by decide) rfl rfl ?_
  refine r_goto (t := 5) dX9_unusedLetter_37 (by decide) ?_
  refine r_sub [1, 2, 0] rfl ?_
  exact hK5 x0 x3 (x5 + 1) h
def P_X9_unusedLetter_j5 : Nat → Int32 → Int64 → Int32 → Option Int32
  | 0, _, _, _ => none
  | n + 1, x0, x3, x5 =>
    if 8 ≤ x5 then
      some 0
    else
      if ¬ ((x0 >>> (x5 &&& 31)) &&& 1) = 0 then
        P_X9_unusedLetter_j34 (P_X9_unusedLetter_j5 n) x0 x3 x5
      else
        if ¬ x3 = 0 then
          P_X9_unusedLetter_j34 (P_X9_unusedLetter_j5 n) x0 (x3 - 1) x5
        else
          some x5
set_option maxHeartbeats 4000000 in
set_option maxRecDepth 100000 in
theorem T_X9_unusedLetter_j5 {X : XE} {σ : SS} {r : Int32} : ∀ (fu : Nat) (x0 : Int32) (x3 : Int64) (x5 : Int32), P_X9_unusedLetter_j5 fu x0 x3 x5 = some r → V (gX X) 0 RX9 cX9_unusedLetter 6 (some .int) (some (.int r)) σ 5 [(0, .int x0), (3, .long x3), (5, .int x5)] [] σ := by
  intro fu
  induction fu with
  | zero => intro x0 x3 x5 h; exact no0 h
  | succ n ih =>
    intro x0 x3 x5 h
    unfold P_X9_unusedLetter_j5 at h
    refine r_iload 2 dX9_unusedLetter_5 rfl rfl ?_
    refine r_bipush (v := 8) dX9_unusedLetter_7 (by decide) rfl ?_
    refine r_icmp_ge (t := 40) dX9_unusedLetter_9 (by decide) rfl (fun c1 => ?_) (fun c1 => ?_)
    · have h := it_t c1 h
      refine ric_0 dX9_unusedLetter_40 rfl ?_
      exact r_iretR dX9_unusedLetter_41 h
    · have h := it_f c1 h
      refine r_iload_n 0 dX9_unusedLetter_12 rfl rfl rfl ?_
      refine r_iload 2 dX9_unusedLetter_13 rfl rfl ?_
      refine r_ishr dX9_unusedLetter_15 rfl ?_
      refine ric_1 dX9_unusedLetter_16 rfl ?_
      refine r_iand dX9_unusedLetter_17 rfl ?_
      refine r_if_ne (t := 34) dX9_unusedLetter_18 (by decide) rfl (fun c2 => ?_) (fun c2 => ?_)
      · have h := it_t c2 h
        exact T_X9_unusedLetter_j34 ih x0 x3 x5 h
      · have h := it_n c2 h
        refine r_lload_n 1 dX9_unusedLetter_21 rfl rfl rfl ?_
        refine rlc_0 dX9_unusedLetter_22 rfl ?_
        refine r_lif_ne (t := 30) dX9_unusedLetter_23 rfl dX9_unusedLetter_24 (by decide) rfl (fun c3 => ?_) (fun c3 => ?_)
        · have h := it_t c3 h
          refine r_lload_n 1 dX9_unusedLetter_30 rfl rfl rfl ?_
          refine rlc_1 dX9_unusedLetter_31 rfl ?_
          refine r_lsub dX9_unusedLetter_32 rfl ?_
          refine r_lstore_n (lv' := [(3, .long (x3 - 1)), (0, .int x0), (5, .int x5)]) dX9_unusedLetter_33 rfl (by decide) rfl rfl ?_
          refine r_sub [1, 0, 2] rfl ?_
          exact T_X9_unusedLetter_j34 ih x0 (x3 - 1) x5 h
        · have h := it_n c3 h
          refine r_iload 2 dX9_unusedLetter_27 rfl rfl ?_
          exact r_iretR dX9_unusedLetter_29 h
def P_X9_unusedLetter (a0 : Int32) (a1 : Int64) : Option Int32 :=
  P_X9_unusedLetter_j5 FU a0 a1 0
set_option maxHeartbeats 4000000 in
set_option maxRecDepth 100000 in
theorem T_X9_unusedLetter {X : XE} {σ : SS} {r : Int32} {a0 : Int32} {a1 : Int64} (h : P_X9_unusedLetter a0 a1 = some r) : Mt (gX X) 0 yX9_unusedLetter cX9_unusedLetter 6 (some .int) [.int a0, .long a1] σ (some (.int r)) σ := by
  refine Mt.of (own := RX9) (lv := [(0, .int a0), (1, .long a1)]) pn_X9 rfl (Nat.le_of_ble_eq_true rfl) rfl ?_
  unfold P_X9_unusedLetter at h
  refine r_lload_n 1 dX9_unusedLetter_0 rfl rfl rfl ?_
  refine r_lstore_n (lv' := [(3, .long a1), (0, .int a0), (1, .long a1)]) dX9_unusedLetter_1 rfl (by decide) rfl rfl ?_
  refine ric_0 dX9_unusedLetter_2 rfl ?_
  refine r_istore (lv' := [(5, .int 0), (3, .long a1), (0, .int a0), (1, .long a1)]) dX9_unusedLetter_3 (by decide) rfl rfl ?_
  refine r_sub [2, 1, 0] rfl ?_
  exact T_X9_unusedLetter_j5 FU a0 a1 0 h
def P_X9_addLetters_j39 (K11 : Int64 → Int32 → Int32 → SS → Option (Int32 × SS)) (x4 : Int64) (x6 : Int32) (x7 : Int32) (x8 : Int64) (y0 : Int64) (σ : SS) : Option (Int32 × SS) :=
  (P_X9_unusedLetter x6 y0).bind fun v2 =>
  b2 (P_X0_add_10 (97 + v2) σ) fun v4 σ5 =>
  if ¬ v4 = 0 then
    K11 (x4 - (y0 * x8)) (x6 ||| ((1 : Int32) <<< (v2 &&& 31))) (x7 + (-1)) σ5
  else
    some (0, σ5)
set_option maxHeartbeats 4000000 in
set_option maxRecDepth 100000 in
theorem T_X9_addLetters_j39 {X : XE} {σf : SS} {r : Int32} {K11 : Int64 → Int32 → Int32 → SS → Option (Int32 × SS)} (hK11 : ∀ (x4 : Int64) (x6 : Int32) (x7 : Int32) (σ : SS), K11 x4 x6 x7 σ = some (r, σf) → V (gX X) 1 RX9 cX9_addLetters 13 (some .boolean) (some (.int r)) σf 11 [(0, .ref (xq X 5)), (4, .long x4), (6, .int x6), (7, .int x7)] [] σ) : ∀ (x4 : Int64) (x6 : Int32) (x7 : Int32) (x8 : Int64) (y0 : Int64) (σ : SS), P_X9_addLetters_j39 K11 x4 x6 x7 x8 y0 σ = some (r, σf) → V (gX X) 1 RX9 cX9_addLetters 13 (some .boolean) (some (.int r)) σf 39 [(0, .ref (xq X 5)), (4, .long x4), (6, .int x6), (7, .int x7), (8, .long x8)] [.long y0] σ := by
  intro x4 x6 x7 x8 y0 σ h
  unfold P_X9_addLetters_j39 at h
  refine r_lstore (lv' := [(10, .long y0), (0, .ref (xq X 5)), (4, .long x4), (6, .int x6), (7, .int x7), (8, .long x8)]) dX9_addLetters_39 (by decide) rfl rfl ?_
  refine r_lload 2 dX9_addLetters_41 rfl rfl ?_
  refine r_lload 0 dX9_addLetters_43 rfl rfl ?_
  refine r_lload 5 dX9_addLetters_45 rfl rfl ?_
  refine r_lmul dX9_addLetters_47 rfl ?_
  refine r_lsub dX9_addLetters_48 rfl ?_
  refine r_lstore (lv' := [(4, .long (x4 - (y0 * x8))), (10, .long y0), (0, .ref (xq X 5)), (6, .int x6), (7, .int x7), (8, .long x8)]) dX9_addLetters_49 (by decide) rfl rfl ?_
  refine r_iload 3 dX9_addLetters_51 rfl rfl ?_
  refine r_lload 1 dX9_addLetters_53 rfl rfl ?_
  obtain ⟨v2, e1, h⟩ := bd h
  refine r_callS (As := [.int x6, .long y0]) (rest := []) (T_X9_unusedLetter e1) (by decide) mf_X9_unusedLetter rfl tw_665 tw_664 rfl (Nat.le_of_ble_eq_true rfl) dX9_addLetters_55 rfl ?_
  refine r_call0 ?_
  refine r_istore (lv' := [(12, .int v2), (4, .long (x4 - (y0 * x8))), (10, .long y0), (0, .ref (xq X 5)), (6, .int x6), (7, .int x7), (8, .long x8)]) dX9_addLetters_58 (by decide) rfl rfl ?_
  refine r_iload 4 dX9_addLetters_60 rfl rfl ?_
  refine ric_1 dX9_addLetters_62 rfl ?_
  refine r_iload 0 dX9_addLetters_63 rfl rfl ?_
  refine r_ishl dX9_addLetters_65 rfl ?_
  refine r_ior dX9_addLetters_66 rfl ?_
  refine r_istore (lv' := [(6, .int (x6 ||| ((1 : Int32) <<< (v2 &&& 31)))), (12, .int v2), (4, .long (x4 - (y0 * x8))), (10, .long y0), (0, .ref (xq X 5)), (7, .int x7), (8, .long x8)]) dX9_addLetters_67 (by decide) rfl rfl ?_
  refine r_aload_n 4 dX9_addLetters_69 rfl rfl rfl ?_
  refine gf_X9_12_5 dX9_addLetters_70 rfl ?_
  refine r_bipush (v := 97) dX9_addLetters_73 (by decide) rfl ?_
  refine r_iload 1 dX9_addLetters_75 rfl rfl ?_
  refine r_iadd dX9_addLetters_77 rfl ?_
  obtain ⟨v4, σ5, e3, h⟩ := b2d h
  refine r_callV (rest := []) (T_X0_add_10 e3) (by decide) mf_X0_add rfl tw_645 tw_646 tw_644 cX_10 rfl rfl rfl (Nat.le_of_ble_eq_true rfl) dX9_addLetters_78 rfl ?_
  refine r_call0 ?_
  refine r_if_ne (t := 86) dX9_addLetters_81 (by decide) rfl (fun c6 => ?_) (fun c6 => ?_)
  · have h := it_t c6 h
    refine r_iinc (v := (x7 + (-1))) (lv' := [(7, .int (x7 + (-1))), (6, .int (x6 ||| ((1 : Int32) <<< (v2 &&& 31)))), (12, .int v2), (4, .long (x4 - (y0 * x8))), (10, .long y0), (0, .ref (xq X 5)), (8, .long x8)]) 5 dX9_addLetters_86 rfl rfl (by decide) rfl rfl ?_
    refine r_goto (t := 11) dX9_addLetters_89 (by decide) ?_
    refine r_sub [5, 3, 1, 0] rfl ?_
    exact hK11 (x4 - (y0 * x8)) (x6 ||| ((1 : Int32) <<< (v2 &&& 31))) (x7 + (-1)) σ5 h
  · have h := it_n c6 h
    refine ric_0 dX9_addLetters_84 rfl ?_
    exact r_zretQ (Or.inl rfl) dX9_addLetters_85 h
def P_X9_addLetters_j11 : Nat → Int64 → Int32 → Int32 → SS → Option (Int32 × SS)
  | 0, _, _, _, _ => none
  | n + 1, x4, x6, x7, σ =>
    if x7 < 0 then
      some (1, σ)
    else
      (P_X7_orders x7).bind fun v3 =>
      if v3 ≤ 0 then
        P_X9_addLetters_j39 (P_X9_addLetters_j11 n) x4 x6 x7 v3 0 σ
      else
        gN v3 <|
        P_X9_addLetters_j39 (P_X9_addLetters_j11 n) x4 x6 x7 v3 (x4 / v3) σ
set_option maxHeartbeats 4000000 in
set_option maxRecDepth 100000 in
theorem T_X9_addLetters_j11 {X : XE} {σf : SS} {r : Int32} : ∀ (fu : Nat) (x4 : Int64) (x6 : Int32) (x7 : Int32) (σ : SS), P_X9_addLetters_j11 fu x4 x6 x7 σ = some (r, σf) → V (gX X) 1 RX9 cX9_addLetters 13 (some .boolean) (some (.int r)) σf 11 [(0, .ref (xq X 5)), (4, .long x4), (6, .int x6), (7, .int x7)] [] σ := by
  intro fu
  induction fu with
  | zero => intro x4 x6 x7 σ h; exact no0 h
  | succ n ih =>
    intro x4 x6 x7 σ h
    unfold P_X9_addLetters_j11 at h
    refine r_iload 3 dX9_addLetters_11 rfl rfl ?_
    refine r_if_lt (t := 92) dX9_addLetters_13 (by decide) rfl (fun c1 => ?_) (fun c1 => ?_)
    · have h := it_t c1 h
      refine ric_1 dX9_addLetters_92 rfl ?_
      exact r_zretQ (Or.inr rfl) dX9_addLetters_93 h
    · have h := it_f c1 h
      refine r_iload 3 dX9_addLetters_16 rfl rfl ?_
      obtain ⟨v3, e2, h⟩ := bd h
      refine r_callS (As := [.int x7]) (rest := []) (T_X7_orders e2) (by decide) mf_X7_orders rfl tw_592 tw_663 rfl (Nat.le_of_ble_eq_true rfl) dX9_addLetters_18 rfl ?_
      refine r_call0 ?_
      refine r_lstore (lv' := [(8, .long v3), (0, .ref (xq X 5)), (4, .long x4), (6, .int x6), (7, .int x7)]) dX9_addLetters_21 (by decide) rfl rfl ?_
      refine r_lload 0 dX9_addLetters_23 rfl rfl ?_
      refine rlc_0 dX9_addLetters_25 rfl ?_
      refine r_lif_le (t := 38) dX9_addLetters_26 rfl dX9_addLetters_27 (by decide) rfl (fun c4 => ?_) (fun c4 => ?_)
      · have h := it_t c4 h
        refine rlc_0 dX9_addLetters_38 rfl ?_
        refine r_sub [1, 2, 3, 4, 0] rfl ?_
        exact T_X9_addLetters_j39 ih x4 x6 x7 v3 0 σ h
      · have h := it_f c4 h
        refine r_lload 2 dX9_addLetters_30 rfl rfl ?_
        refine r_lload 0 dX9_addLetters_32 rfl rfl ?_
        obtain ⟨hn5, h⟩ := gn h
        refine r_ldiv hn5 dX9_addLetters_34 rfl ?_
        refine r_goto (t := 39) dX9_addLetters_35 (by decide) ?_
        refine r_sub [1, 2, 3, 4, 0] rfl ?_
        exact T_X9_addLetters_j39 ih x4 x6 x7 v3 (x4 / v3) σ h
def P_X9_addLetters (a1 : Int32) (a2 : Int64) (σ : SS) : Option (Int32 × SS) :=
  P_X9_addLetters_j11 FU a2 0 (a1 - 1) σ
set_option maxHeartbeats 4000000 in
set_option maxRecDepth 100000 in
theorem T_X9_addLetters {X : XE} {σf : SS} {r : Int32} {σ : SS} {a1 : Int32} {a2 : Int64} (h : P_X9_addLetters a1 a2 σ = some (r, σf)) : Mt (gX X) 1 yX9_addLetters cX9_addLetters 13 (some .boolean) [.ref (xq X 5), .int a1, .long a2] σ (some (.int r)) σf := by
  refine Mt.of (own := RX9) (lv := [(0, .ref (xq X 5)), (1, .int a1), (2, .long a2)]) pn_X9 rfl (Nat.le_of_ble_eq_true rfl) rfl ?_
  unfold P_X9_addLetters at h
  refine r_lload_n 2 dX9_addLetters_0 rfl rfl rfl ?_
  refine r_lstore (lv' := [(4, .long a2), (0, .ref (xq X 5)), (1, .int a1), (2, .long a2)]) dX9_addLetters_1 (by decide) rfl rfl ?_
  refine ric_0 dX9_addLetters_3 rfl ?_
  refine r_istore (lv' := [(6, .int 0), (4, .long a2), (0, .ref (xq X 5)), (1, .int a1), (2, .long a2)]) dX9_addLetters_4 (by decide) rfl rfl ?_
  refine r_iload_n 3 dX9_addLetters_6 rfl rfl rfl ?_
  refine ric_1 dX9_addLetters_7 rfl ?_
  refine r_isub dX9_addLetters_8 rfl ?_
  refine r_istore (lv' := [(7, .int (a1 - 1)), (6, .int 0), (4, .long a2), (0, .ref (xq X 5)), (1, .int a1), (2, .long a2)]) dX9_addLetters_9 (by decide) rfl rfl ?_
  refine r_sub [3, 2, 1, 0] rfl ?_
  exact T_X9_addLetters_j11 FU a2 0 (a1 - 1) σ h
def P_X9_workEither (a1 : Int32) (a2 : Int32) (a3 : Int64) (σ : SS) : Option (Int32 × SS) :=
  (P_X1_a a1 σ).bind fun v2 =>
  (P_X8_of v2 a2 σ).bind fun v4 =>
  if v4 ≤ a3 then
    (P_X1_b a1 σ).bind fun v7 =>
    (P_X9_push 1 v7 a2 (a3 - v4) σ).bind fun σ9 =>
    b2 (P_X0_add_10 50 σ9) fun v11 σ12 =>
    gZ v11 <|
    some (v11, σ12)
  else
    (P_X1_a a1 σ).bind fun v15 =>
    (P_X9_push 1 v15 a2 a3 σ).bind fun σ17 =>
    b2 (P_X0_add_10 49 σ17) fun v19 σ20 =>
    gZ v19 <|
    some (v19, σ20)
set_option maxHeartbeats 4000000 in
set_option maxRecDepth 100000 in
theorem T_X9_workEither {X : XE} {σf : SS} {r : Int32} {σ : SS} {a1 : Int32} {a2 : Int32} {a3 : Int64} (h : P_X9_workEither a1 a2 a3 σ = some (r, σf)) : Mt (gX X) 1 yX9_workEither cX9_workEither 7 (some .boolean) [.ref (xq X 5), .int a1, .int a2, .long a3] σ (some (.int r)) σf := by
  refine Mt.of (own := RX9) (lv := [(0, .ref (xq X 5)), (1, .int a1), (2, .int a2), (3, .long a3)]) pn_X9 rfl (Nat.le_of_ble_eq_true rfl) rfl ?_
  unfold P_X9_workEither at h
  refine r_aload_n 0 dX9_workEither_0 rfl rfl rfl ?_
  refine gf_X9_36_5 dX9_workEither_1 rfl ?_
  refine r_aload_n 0 dX9_workEither_4 rfl rfl rfl ?_
  refine gf_X9_32_5 dX9_workEither_5 rfl ?_
  refine r_iload_n 1 dX9_workEither_8 rfl rfl rfl ?_
  obtain ⟨v2, e1, h⟩ := bd h
  refine r_callV (rest := [.ref (xq X 4)]) (T_X1_a e1) (by decide) mf_X1_a rfl tw_424 tw_425 tw_642 cX_1 rfl rfl rfl (Nat.le_of_ble_eq_true rfl) dX9_workEither_9 rfl ?_
  refine r_call0 ?_
  refine r_iload_n 2 dX9_workEither_12 rfl rfl rfl ?_
  obtain ⟨v4, e3, h⟩ := bd h
  refine r_callV (rest := []) (T_X8_of e3) (by decide) mf_X8_of rfl tw_539 tw_540 tw_654 cX_4 rfl rfl rfl (Nat.le_of_ble_eq_true rfl) dX9_workEither_13 rfl ?_
  refine r_call0 ?_
  refine r_lstore (lv' := [(5, .long v4), (0, .ref (xq X 5)), (1, .int a1), (2, .int a2), (3, .long a3)]) dX9_workEither_16 (by decide) rfl rfl ?_
  refine r_lload_n 4 dX9_workEither_18 rfl rfl rfl ?_
  refine r_lload 0 dX9_workEither_19 rfl rfl ?_
  refine r_lif_ge (t := 50) dX9_workEither_21 rfl dX9_workEither_22 (by decide) rfl (fun c5 => ?_) (fun c5 => ?_)
  · have h := it_t c5 h
    refine r_aload_n 1 dX9_workEither_50 rfl rfl rfl ?_
    refine ric_1 dX9_workEither_51 rfl ?_
    refine r_aload_n 1 dX9_workEither_52 rfl rfl rfl ?_
    refine gf_X9_32_5 dX9_workEither_53 rfl ?_
    refine r_iload_n 2 dX9_workEither_56 rfl rfl rfl ?_
    obtain ⟨v7, e6, h⟩ := bd h
    refine r_callV (rest := [.int 1, .ref (xq X 5)]) (T_X1_b e6) (by decide) mf_X1_b rfl tw_428 tw_429 tw_643 cX_1 rfl rfl rfl (Nat.le_of_ble_eq_true rfl) dX9_workEither_57 rfl ?_
    refine r_call0 ?_
    refine r_iload_n 3 dX9_workEither_60 rfl rfl rfl ?_
    refine r_lload_n 4 dX9_workEither_61 rfl rfl rfl ?_
    refine r_lload 0 dX9_workEither_62 rfl rfl ?_
    refine r_lsub dX9_workEither_64 rfl ?_
    obtain ⟨σ9, e8, h⟩ := bd h
    refine r_callV (rest := []) (T_X9_push e8) (by decide) mf_X9_push rfl tw_629 tw_9 tw_627 cX_5 rfl rfl rfl (Nat.le_of_ble_eq_true rfl) dX9_workEither_65 rfl ?_
    refine r_calln ?_
    refine r_aload_n 1 dX9_workEither_68 rfl rfl rfl ?_
    refine gf_X9_12_5 dX9_workEither_69 rfl ?_
    refine r_bipush (v := 50) dX9_workEither_72 (by decide) rfl ?_
    obtain ⟨v11, σ12, e10, h⟩ := b2d h
    refine r_callV (rest := []) (T_X0_add_10 e10) (by decide) mf_X0_add rfl tw_645 tw_646 tw_644 cX_10 rfl rfl rfl (Nat.le_of_ble_eq_true rfl) dX9_workEither_74 rfl ?_
    refine r_call0 ?_
    obtain ⟨hz13, h⟩ := gz h
    exact r_zretQ hz13 dX9_workEither_77 h
  · have h := it_f c5 h
    refine r_aload_n 1 dX9_workEither_25 rfl rfl rfl ?_
    refine ric_1 dX9_workEither_26 rfl ?_
    refine r_aload_n 1 dX9_workEither_27 rfl rfl rfl ?_
    refine gf_X9_32_5 dX9_workEither_28 rfl ?_
    refine r_iload_n 2 dX9_workEither_31 rfl rfl rfl ?_
    obtain ⟨v15, e14, h⟩ := bd h
    refine r_callV (rest := [.int 1, .ref (xq X 5)]) (T_X1_a e14) (by decide) mf_X1_a rfl tw_424 tw_425 tw_642 cX_1 rfl rfl rfl (Nat.le_of_ble_eq_true rfl) dX9_workEither_32 rfl ?_
    refine r_call0 ?_
    refine r_iload_n 3 dX9_workEither_35 rfl rfl rfl ?_
    refine r_lload_n 4 dX9_workEither_36 rfl rfl rfl ?_
    obtain ⟨σ17, e16, h⟩ := bd h
    refine r_callV (rest := []) (T_X9_push e16) (by decide) mf_X9_push rfl tw_629 tw_9 tw_627 cX_5 rfl rfl rfl (Nat.le_of_ble_eq_true rfl) dX9_workEither_37 rfl ?_
    refine r_calln ?_
    refine r_aload_n 1 dX9_workEither_40 rfl rfl rfl ?_
    refine gf_X9_12_5 dX9_workEither_41 rfl ?_
    refine r_bipush (v := 49) dX9_workEither_44 (by decide) rfl ?_
    obtain ⟨v19, σ20, e18, h⟩ := b2d h
    refine r_callV (rest := []) (T_X0_add_10 e18) (by decide) mf_X0_add rfl tw_645 tw_646 tw_644 cX_10 rfl rfl rfl (Nat.le_of_ble_eq_true rfl) dX9_workEither_46 rfl ?_
    refine r_call0 ?_
    obtain ⟨hz21, h⟩ := gz h
    exact r_zretQ hz21 dX9_workEither_49 h
def P_X9_workWhole_j156 (x1 : Int32) (x2 : Int32) (x3 : Int64) (x5 : Int32) (σ : SS) : Option (Int32 × SS) :=
  (P_X9_push 2 x1 x2 x3 σ).bind fun σ2 =>
  (P_X6_at___O x5).bind fun v4 =>
  b2 (P_X0_add_10 v4 σ2) fun v6 σ7 =>
  gZ v6 <|
  some (v6, σ7)
set_option maxHeartbeats 4000000 in
set_option maxRecDepth 100000 in
theorem T_X9_workWhole_j156 {X : XE} {σf : SS} {r : Int32} : ∀ (x1 : Int32) (x2 : Int32) (x3 : Int64) (x5 : Int32) (σ : SS), P_X9_workWhole_j156 x1 x2 x3 x5 σ = some (r, σf) → V (gX X) 3 RX9 cX9_workWhole 7 (some .boolean) (some (.int r)) σf 156 [(0, .ref (xq X 5)), (1, .int x1), (2, .int x2), (3, .long x3), (5, .int x5)] [] σ := by
  intro x1 x2 x3 x5 σ h
  unfold P_X9_workWhole_j156 at h
  refine r_aload_n 0 dX9_workWhole_156 rfl rfl rfl ?_
  refine ric_2 dX9_workWhole_157 rfl ?_
  refine r_iload_n 1 dX9_workWhole_158 rfl rfl rfl ?_
  refine r_iload_n 2 dX9_workWhole_159 rfl rfl rfl ?_
  refine r_lload_n 3 dX9_workWhole_160 rfl rfl rfl ?_
  obtain ⟨σ2, e1, h⟩ := bd h
  refine r_callV (rest := []) (T_X9_push e1) (by decide) mf_X9_push rfl tw_629 tw_9 tw_627 cX_5 rfl rfl rfl (Nat.le_of_ble_eq_true rfl) dX9_workWhole_161 rfl ?_
  refine r_calln ?_
  refine r_goto (t := 207) dX9_workWhole_164 (by decide) ?_
  refine r_aload_n 0 dX9_workWhole_207 rfl rfl rfl ?_
  refine gf_X9_12_5 dX9_workWhole_208 rfl ?_
  refine r_getsO (fun u h => h.1) dX9_workWhole_211 rfl ?_
  refine r_iload 4 dX9_workWhole_214 rfl rfl ?_
  obtain ⟨v4, e3, h⟩ := bd h
  refine r_callS (As := [.ref (gO (gX X)), .int x5]) (rest := [.ref (xq X 10)]) (T_X6_at___O e3) (by decide) mf_X6_at__ rfl tw_670 tw_669 rfl (Nat.le_of_ble_eq_true rfl) dX9_workWhole_216 rfl ?_
  refine r_call0 ?_
  obtain ⟨v6, σ7, e5, h⟩ := b2d h
  refine r_callV (rest := []) (T_X0_add_10 e5) (by decide) mf_X0_add rfl tw_645 tw_646 tw_644 cX_10 rfl rfl rfl (Nat.le_of_ble_eq_true rfl) dX9_workWhole_219 rfl ?_
  refine r_call0 ?_
  obtain ⟨hz8, h⟩ := gz h
  exact r_zretQ hz8 dX9_workWhole_222 h
def P_X9_workWhole (a1 : Int32) (a2 : Int32) (a3 : Int64) (σ : SS) : Option (Int32 × SS) :=
  (P_X1_kind a1 σ).bind fun v2 =>
  (P_X1_a a1 σ).bind fun v4 =>
  if v2 = 0 then
    (P_X1_b a1 σ).bind fun v7 =>
    b2 (P_X0_add_10 (97 + v7) σ) fun v9 σ10 =>
    gZ v9 <|
    some (v9, σ10)
  else
    if v2 = 1 then
      (P_X6_at___O v2).bind fun v14 =>
      b2 (P_X0_add_10 v14 σ) fun v16 σ17 =>
      gZ v16 <|
      some (v16, σ17)
    else
      if v2 = 2 then
        (P_X9_splitLed a1 a2 a3 σ).bind fun σ21 =>
        (P_X9_push 0 41 0 0 σ21).bind fun σ23 =>
        (P_X1_b a1 σ23).bind fun v25 =>
        (P_X9_push 1 v25 (a2 - (sI σ23 9)) (sJ σ23 1) σ23).bind fun σ27 =>
        (P_X9_push 1 v4 (sI σ27 9) (sJ σ27 0) σ27).bind fun σ29 =>
        (P_X6_at___O v2).bind fun v31 =>
        b2 (P_X0_add_10 v31 σ29) fun v33 σ34 =>
        gZ v33 <|
        some (v33, σ34)
      else
        if v2 = 3 then
          b2 (P_X9_workEither a1 a2 a3 σ) fun v38 σ39 =>
          gZ v38 <|
          some (v38, σ39)
        else
          if v2 = 4 then
            P_X9_workWhole_j156 a1 a2 a3 v2 σ
          else
            if v2 = 5 then
              P_X9_workWhole_j156 a1 a2 a3 v2 σ
            else
              if v2 = 6 then
                P_X9_workWhole_j156 a1 a2 a3 v2 σ
              else
                if v2 = 7 then
                  (P_X9_push 1 v4 a2 a3 σ).bind fun σ46 =>
                  (P_X6_at___O v2).bind fun v48 =>
                  b2 (P_X0_add_10 v48 σ46) fun v50 σ51 =>
                  gZ v50 <|
                  some (v50, σ51)
                else
                  if v2 = 8 then
                    b2 (P_X0_add_10 61 σ) fun v55 σ56 =>
                    if v55 = 0 then
                      some (0, σ56)
                    else
                      b2 (P_X9_addLetters v4 a3 σ56) fun v59 σ60 =>
                      if v59 = 0 then
                        some (0, σ60)
                      else
                        some (1, σ60)
                  else
                    (P_X6_at___O v2).bind fun v63 =>
                    b2 (P_X0_add_10 v63 σ) fun v65 σ66 =>
                    gZ v65 <|
                    some (v65, σ66)
set_option maxHeartbeats 4000000 in
set_option maxRecDepth 100000 in
theorem T_X9_workWhole {X : XE} {σf : SS} {r : Int32} {σ : SS} {a1 : Int32} {a2 : Int32} {a3 : Int64} (h : P_X9_workWhole a1 a2 a3 σ = some (r, σf)) : Mt (gX X) 3 yX9_workWhole cX9_workWhole 7 (some .boolean) [.ref (xq X 5), .int a1, .int a2, .long a3] σ (some (.int r)) σf := by
  refine Mt.of (own := RX9) (lv := [(0, .ref (xq X 5)), (1, .int a1), (2, .int a2), (3, .long a3)]) pn_X9 rfl (Nat.le_of_ble_eq_true rfl) rfl ?_
  unfold P_X9_workWhole at h
  refine r_aload_n 0 dX9_workWhole_0 rfl rfl rfl ?_
  refine gf_X9_32_5 dX9_workWhole_1 rfl ?_
  refine r_iload_n 1 dX9_workWhole_4 rfl rfl rfl ?_
  obtain ⟨v2, e1, h⟩ := bd h
  refine r_callV (rest := []) (T_X1_kind e1) (by decide) mf_X1_kind rfl tw_420 tw_421 tw_641 cX_1 rfl rfl rfl (Nat.le_of_ble_eq_true rfl) dX9_workWhole_5 rfl ?_
  refine r_call0 ?_
  refine r_istore (lv' := [(5, .int v2), (0, .ref (xq X 5)), (1, .int a1), (2, .int a2), (3, .long a3)]) dX9_workWhole_8 (by decide) rfl rfl ?_
  refine r_aload_n 1 dX9_workWhole_10 rfl rfl rfl ?_
  refine gf_X9_32_5 dX9_workWhole_11 rfl ?_
  refine r_iload_n 2 dX9_workWhole_14 rfl rfl rfl ?_
  obtain ⟨v4, e3, h⟩ := bd h
  refine r_callV (rest := []) (T_X1_a e3) (by decide) mf_X1_a rfl tw_424 tw_425 tw_642 cX_1 rfl rfl rfl (Nat.le_of_ble_eq_true rfl) dX9_workWhole_15 rfl ?_
  refine r_call0 ?_
  refine r_istore (lv' := [(6, .int v4), (5, .int v2), (0, .ref (xq X 5)), (1, .int a1), (2, .int a2), (3, .long a3)]) dX9_workWhole_18 (by decide) rfl rfl ?_
  refine r_iload 1 dX9_workWhole_20 rfl rfl ?_
  by_cases c5 : v2 = 0
  · have h := it_t c5 h
    refine r_tableIn (t := 72) dX9_workWhole_22 (by rw [c5]; decide) (by rw [c5]; decide) (by rw [c5]; rfl) (by decide) ?_
    refine r_aload_n 2 dX9_workWhole_72 rfl rfl rfl ?_
    refine gf_X9_12_5 dX9_workWhole_73 rfl ?_
    refine r_bipush (v := 97) dX9_workWhole_76 (by decide) rfl ?_
    refine r_aload_n 2 dX9_workWhole_78 rfl rfl rfl ?_
    refine gf_X9_32_5 dX9_workWhole_79 rfl ?_
    refine r_iload_n 3 dX9_workWhole_82 rfl rfl rfl ?_
    obtain ⟨v7, e6, h⟩ := bd h
    refine r_callV (rest := [.int 97, .ref (xq X 10)]) (T_X1_b e6) (by decide) mf_X1_b rfl tw_428 tw_429 tw_643 cX_1 rfl rfl rfl (Nat.le_of_ble_eq_true rfl) dX9_workWhole_83 rfl ?_
    refine r_call0 ?_
    refine r_iadd dX9_workWhole_86 rfl ?_
    obtain ⟨v9, σ10, e8, h⟩ := b2d h
    refine r_callV (rest := []) (T_X0_add_10 e8) (by decide) mf_X0_add rfl tw_645 tw_646 tw_644 cX_10 rfl rfl rfl (Nat.le_of_ble_eq_true rfl) dX9_workWhole_87 rfl ?_
    refine r_call0 ?_
    obtain ⟨hz11, h⟩ := gz h
    exact r_zretQ hz11 dX9_workWhole_90 h
  · have h := it_f c5 h
    by_cases c12 : v2 = 1
    · have h := it_t c12 h
      refine r_tableIn (t := 207) dX9_workWhole_22 (by rw [c12]; decide) (by rw [c12]; decide) (by rw [c12]; rfl) (by decide) ?_
      refine r_aload_n 2 dX9_workWhole_207 rfl rfl rfl ?_
      refine gf_X9_12_5 dX9_workWhole_208 rfl ?_
      refine r_getsO (fun u h => h.1) dX9_workWhole_211 rfl ?_
      refine r_iload 1 dX9_workWhole_214 rfl rfl ?_
      obtain ⟨v14, e13, h⟩ := bd h
      refine r_callS (As := [.ref (gO (gX X)), .int v2]) (rest := [.ref (xq X 10)]) (T_X6_at___O e13) (by decide) mf_X6_at__ rfl tw_670 tw_669 rfl (Nat.le_of_ble_eq_true rfl) dX9_workWhole_216 rfl ?_
      refine r_call0 ?_
      obtain ⟨v16, σ17, e15, h⟩ := b2d h
      refine r_callV (rest := []) (T_X0_add_10 e15) (by decide) mf_X0_add rfl tw_645 tw_646 tw_644 cX_10 rfl rfl rfl (Nat.le_of_ble_eq_true rfl) dX9_workWhole_219 rfl ?_
      refine r_call0 ?_
      obtain ⟨hz18, h⟩ := gz h
      exact r_zretQ hz18 dX9_workWhole_222 h
    · have h := it_f c12 h
      by_cases c19 : v2 = 2
      · have h := it_t c19 h
        refine r_tableIn (t := 91) dX9_workWhole_22 (by rw [c19]; decide) (by rw [c19]; decide) (by rw [c19]; rfl) (by decide) ?_
        refine r_aload_n 2 dX9_workWhole_91 rfl rfl rfl ?_
        refine r_iload_n 3 dX9_workWhole_92 rfl rfl rfl ?_
        refine r_iload_n 4 dX9_workWhole_93 rfl rfl rfl ?_
        refine r_lload_n 5 dX9_workWhole_94 rfl rfl rfl ?_
        obtain ⟨σ21, e20, h⟩ := bd h
        refine r_callV (rest := []) (T_X9_splitLed e20) (by decide) mf_X9_splitLed rfl tw_650 tw_12 tw_648 cX_5 rfl rfl rfl (Nat.le_of_ble_eq_true rfl) dX9_workWhole_95 rfl ?_
        refine r_calln ?_
        refine r_aload_n 2 dX9_workWhole_98 rfl rfl rfl ?_
        refine ric_0 dX9_workWhole_99 rfl ?_
        refine r_bipush (v := 41) dX9_workWhole_100 (by decide) rfl ?_
        refine ric_0 dX9_workWhole_102 rfl ?_
        refine rlc_0 dX9_workWhole_103 rfl ?_
        obtain ⟨σ23, e22, h⟩ := bd h
        refine r_callV (rest := []) (T_X9_push e22) (by decide) mf_X9_push rfl tw_629 tw_9 tw_627 cX_5 rfl rfl rfl (Nat.le_of_ble_eq_true rfl) dX9_workWhole_104 rfl ?_
        refine r_calln ?_
        refine r_aload_n 2 dX9_workWhole_107 rfl rfl rfl ?_
        refine ric_1 dX9_workWhole_108 rfl ?_
        refine r_aload_n 2 dX9_workWhole_109 rfl rfl rfl ?_
        refine gf_X9_32_5 dX9_workWhole_110 rfl ?_
        refine r_iload_n 3 dX9_workWhole_113 rfl rfl rfl ?_
        obtain ⟨v25, e24, h⟩ := bd h
        refine r_callV (rest := [.int 1, .ref (xq X 5)]) (T_X1_b e24) (by decide) mf_X1_b rfl tw_428 tw_429 tw_643 cX_1 rfl rfl rfl (Nat.le_of_ble_eq_true rfl) dX9_workWhole_114 rfl ?_
        refine r_call0 ?_
        refine r_iload_n 4 dX9_workWhole_117 rfl rfl rfl ?_
        refine r_aload_n 2 dX9_workWhole_118 rfl rfl rfl ?_
        refine gf_X9_92_5 dX9_workWhole_119 rfl ?_
        refine r_isub dX9_workWhole_122 rfl ?_
        refine r_aload_n 2 dX9_workWhole_123 rfl rfl rfl ?_
        refine gf_X9_95_5 dX9_workWhole_124 rfl ?_
        obtain ⟨σ27, e26, h⟩ := bd h
        refine r_callV (rest := []) (T_X9_push e26) (by decide) mf_X9_push rfl tw_629 tw_9 tw_627 cX_5 rfl rfl rfl (Nat.le_of_ble_eq_true rfl) dX9_workWhole_127 rfl ?_
        refine r_calln ?_
        refine r_aload_n 2 dX9_workWhole_130 rfl rfl rfl ?_
        refine ric_1 dX9_workWhole_131 rfl ?_
        refine r_iload 0 dX9_workWhole_132 rfl rfl ?_
        refine r_aload_n 2 dX9_workWhole_134 rfl rfl rfl ?_
        refine gf_X9_92_5 dX9_workWhole_135 rfl ?_
        refine r_aload_n 2 dX9_workWhole_138 rfl rfl rfl ?_
        refine gf_X9_99_5 dX9_workWhole_139 rfl ?_
        obtain ⟨σ29, e28, h⟩ := bd h
        refine r_callV (rest := []) (T_X9_push e28) (by decide) mf_X9_push rfl tw_629 tw_9 tw_627 cX_5 rfl rfl rfl (Nat.le_of_ble_eq_true rfl) dX9_workWhole_142 rfl ?_
        refine r_calln ?_
        refine r_goto (t := 207) dX9_workWhole_145 (by decide) ?_
        refine r_aload_n 2 dX9_workWhole_207 rfl rfl rfl ?_
        refine gf_X9_12_5 dX9_workWhole_208 rfl ?_
        refine r_getsO (fun u h => h.1) dX9_workWhole_211 rfl ?_
        refine r_iload 1 dX9_workWhole_214 rfl rfl ?_
        obtain ⟨v31, e30, h⟩ := bd h
        refine r_callS (As := [.ref (gO (gX X)), .int v2]) (rest := [.ref (xq X 10)]) (T_X6_at___O e30) (by decide) mf_X6_at__ rfl tw_670 tw_669 rfl (Nat.le_of_ble_eq_true rfl) dX9_workWhole_216 rfl ?_
        refine r_call0 ?_
        obtain ⟨v33, σ34, e32, h⟩ := b2d h
        refine r_callV (rest := []) (T_X0_add_10 e32) (by decide) mf_X0_add rfl tw_645 tw_646 tw_644 cX_10 rfl rfl rfl (Nat.le_of_ble_eq_true rfl) dX9_workWhole_219 rfl ?_
        refine r_call0 ?_
        obtain ⟨hz35, h⟩ := gz h
        exact r_zretQ hz35 dX9_workWhole_222 h
      · have h := it_f c19 h
        by_cases c36 : v2 = 3
        · have h := it_t c36 h
          refine r_tableIn (t := 148) dX9_workWhole_22 (by rw [c36]; decide) (by rw [c36]; decide) (by rw [c36]; rfl) (by decide) ?_
          refine r_aload_n 2 dX9_workWhole_148 rfl rfl rfl ?_
          refine r_iload_n 3 dX9_workWhole_149 rfl rfl rfl ?_
          refine r_iload_n 4 dX9_workWhole_150 rfl rfl rfl ?_
          refine r_lload_n 5 dX9_workWhole_151 rfl rfl rfl ?_
          obtain ⟨v38, σ39, e37, h⟩ := b2d h
          refine r_callV (rest := []) (T_X9_workEither e37) (by decide) mf_X9_workEither rfl tw_657 tw_13 tw_655 cX_5 rfl rfl rfl (Nat.le_of_ble_eq_true rfl) dX9_workWhole_152 rfl ?_
          refine r_call0 ?_
          obtain ⟨hz40, h⟩ := gz h
          exact r_zretQ hz40 dX9_workWhole_155 h
        · have h := it_f c36 h
          by_cases c41 : v2 = 4
          · have h := it_t c41 h
            refine r_tableIn (t := 156) dX9_workWhole_22 (by rw [c41]; decide) (by rw [c41]; decide) (by rw [c41]; rfl) (by decide) ?_
            refine r_sub [2, 3, 4, 5, 1] rfl ?_
            exact T_X9_workWhole_j156 a1 a2 a3 v2 σ h
          · have h := it_f c41 h
            by_cases c42 : v2 = 5
            · have h := it_t c42 h
              refine r_tableIn (t := 156) dX9_workWhole_22 (by rw [c42]; decide) (by rw [c42]; decide) (by rw [c42]; rfl) (by decide) ?_
              refine r_sub [2, 3, 4, 5, 1] rfl ?_
              exact T_X9_workWhole_j156 a1 a2 a3 v2 σ h
            · have h := it_f c42 h
              by_cases c43 : v2 = 6
              · have h := it_t c43 h
                refine r_tableIn (t := 156) dX9_workWhole_22 (by rw [c43]; decide) (by rw [c43]; decide) (by rw [c43]; rfl) (by decide) ?_
                refine r_sub [2, 3, 4, 5, 1] rfl ?_
                exact T_X9_workWhole_j156 a1 a2 a3 v2 σ h
              · have h := it_f c43 h
                by_cases c44 : v2 = 7
                · have h := it_t c44 h
                  refine r_tableIn (t := 167) dX9_workWhole_22 (by rw [c44]; decide) (by rw [c44]; decide) (by rw [c44]; rfl) (by decide) ?_
                  refine r_aload_n 2 dX9_workWhole_167 rfl rfl rfl ?_
                  refine ric_1 dX9_workWhole_168 rfl ?_
                  refine r_iload 0 dX9_workWhole_169 rfl rfl ?_
                  refine r_iload_n 4 dX9_workWhole_171 rfl rfl rfl ?_
                  refine r_lload_n 5 dX9_workWhole_172 rfl rfl rfl ?_
                  obtain ⟨σ46, e45, h⟩ := bd h
                  refine r_callV (rest := []) (T_X9_push e45) (by decide) mf_X9_push rfl tw_629 tw_9 tw_627 cX_5 rfl rfl rfl (Nat.le_of_ble_eq_true rfl) dX9_workWhole_173 rfl ?_
                  refine r_calln ?_
                  refine r_goto (t := 207) dX9_workWhole_176 (by decide) ?_
                  refine r_aload_n 2 dX9_workWhole_207 rfl rfl rfl ?_
                  refine gf_X9_12_5 dX9_workWhole_208 rfl ?_
                  refine r_getsO (fun u h => h.1) dX9_workWhole_211 rfl ?_
                  refine r_iload 1 dX9_workWhole_214 rfl rfl ?_
                  obtain ⟨v48, e47, h⟩ := bd h
                  refine r_callS (As := [.ref (gO (gX X)), .int v2]) (rest := [.ref (xq X 10)]) (T_X6_at___O e47) (by decide) mf_X6_at__ rfl tw_670 tw_669 rfl (Nat.le_of_ble_eq_true rfl) dX9_workWhole_216 rfl ?_
                  refine r_call0 ?_
                  obtain ⟨v50, σ51, e49, h⟩ := b2d h
                  refine r_callV (rest := []) (T_X0_add_10 e49) (by decide) mf_X0_add rfl tw_645 tw_646 tw_644 cX_10 rfl rfl rfl (Nat.le_of_ble_eq_true rfl) dX9_workWhole_219 rfl ?_
                  refine r_call0 ?_
                  obtain ⟨hz52, h⟩ := gz h
                  exact r_zretQ hz52 dX9_workWhole_222 h
                · have h := it_f c44 h
                  by_cases c53 : v2 = 8
                  · have h := it_t c53 h
                    refine r_tableIn (t := 179) dX9_workWhole_22 (by rw [c53]; decide) (by rw [c53]; decide) (by rw [c53]; rfl) (by decide) ?_
                    refine r_aload_n 2 dX9_workWhole_179 rfl rfl rfl ?_
                    refine gf_X9_12_5 dX9_workWhole_180 rfl ?_
                    refine r_bipush (v := 61) dX9_workWhole_183 (by decide) rfl ?_
                    obtain ⟨v55, σ56, e54, h⟩ := b2d h
                    refine r_callV (rest := []) (T_X0_add_10 e54) (by decide) mf_X0_add rfl tw_645 tw_646 tw_644 cX_10 rfl rfl rfl (Nat.le_of_ble_eq_true rfl) dX9_workWhole_185 rfl ?_
                    refine r_call0 ?_
                    refine r_if_eq (t := 205) dX9_workWhole_188 (by decide) rfl (fun c57 => ?_) (fun c57 => ?_)
                    · have h := it_t c57 h
                      refine ric_0 dX9_workWhole_205 rfl ?_
                      exact r_zretQ (Or.inl rfl) dX9_workWhole_206 h
                    · have h := it_f c57 h
                      refine r_aload_n 2 dX9_workWhole_191 rfl rfl rfl ?_
                      refine r_iload 0 dX9_workWhole_192 rfl rfl ?_
                      refine r_lload_n 5 dX9_workWhole_194 rfl rfl rfl ?_
                      obtain ⟨v59, σ60, e58, h⟩ := b2d h
                      refine r_callV (rest := []) (T_X9_addLetters e58) (by decide) mf_X9_addLetters rfl tw_661 tw_14 tw_659 cX_5 rfl rfl rfl (Nat.le_of_ble_eq_true rfl) dX9_workWhole_195 rfl ?_
                      refine r_call0 ?_
                      refine r_if_eq (t := 205) dX9_workWhole_198 (by decide) rfl (fun c61 => ?_) (fun c61 => ?_)
                      · have h := it_t c61 h
                        refine ric_0 dX9_workWhole_205 rfl ?_
                        exact r_zretQ (Or.inl rfl) dX9_workWhole_206 h
                      · have h := it_f c61 h
                        refine ric_1 dX9_workWhole_201 rfl ?_
                        refine r_goto (t := 206) dX9_workWhole_202 (by decide) ?_
                        exact r_zretQ (Or.inr rfl) dX9_workWhole_206 h
                  · have h := it_f c53 h
                    refine r_tableOut (t := 207) dX9_workWhole_22 (by have z0 := neL c5 (z := 0) rfl; have z1 := neL c12 (z := 1) rfl; have z2 := neL c19 (z := 2) rfl; have z3 := neL c36 (z := 3) rfl; have z4 := neL c41 (z := 4) rfl; have z5 := neL c42 (z := 5) rfl; have z6 := neL c43 (z := 6) rfl; have z7 := neL c44 (z := 7) rfl; have z8 := neL c53 (z := 8) rfl; omega) (by decide) ?_
                    refine r_aload_n 2 dX9_workWhole_207 rfl rfl rfl ?_
                    refine gf_X9_12_5 dX9_workWhole_208 rfl ?_
                    refine r_getsO (fun u h => h.1) dX9_workWhole_211 rfl ?_
                    refine r_iload 1 dX9_workWhole_214 rfl rfl ?_
                    obtain ⟨v63, e62, h⟩ := bd h
                    refine r_callS (As := [.ref (gO (gX X)), .int v2]) (rest := [.ref (xq X 10)]) (T_X6_at___O e62) (by decide) mf_X6_at__ rfl tw_670 tw_669 rfl (Nat.le_of_ble_eq_true rfl) dX9_workWhole_216 rfl ?_
                    refine r_call0 ?_
                    obtain ⟨v65, σ66, e64, h⟩ := b2d h
                    refine r_callV (rest := []) (T_X0_add_10 e64) (by decide) mf_X0_add rfl tw_645 tw_646 tw_644 cX_10 rfl rfl rfl (Nat.le_of_ble_eq_true rfl) dX9_workWhole_219 rfl ?_
                    refine r_call0 ?_
                    obtain ⟨hz67, h⟩ := gz h
                    exact r_zretQ hz67 dX9_workWhole_222 h
def P_X9_work (σ : SS) : Option (Int32 × SS) :=
  (P_X6_at_22 (sI (uI σ 8 ((sI σ 8) - 1)) 8) (uI σ 8 ((sI σ 8) - 1))).bind fun v2 =>
  (P_X6_at_23 (sI (uI σ 8 ((sI σ 8) - 1)) 8) (uI σ 8 ((sI σ 8) - 1))).bind fun v4 =>
  (P_X6_at__24 (sI (uI σ 8 ((sI σ 8) - 1)) 8) (uI σ 8 ((sI σ 8) - 1))).bind fun v6 =>
  (P_X6_at_21 (sI (uI σ 8 ((sI σ 8) - 1)) 8) (uI σ 8 ((sI σ 8) - 1))).bind fun v8 =>
  if v8 = 1 then
    b2 (P_X9_workWhole v2 v4 v6 (uI σ 8 ((sI σ 8) - 1))) fun v11 σ12 =>
    gZ v11 <|
    some (v11, σ12)
  else
    if v8 = 2 then
      b2 (P_X9_workRest v2 v4 v6 (uI σ 8 ((sI σ 8) - 1))) fun v16 σ17 =>
      gZ v16 <|
      some (v16, σ17)
    else
      b2 (P_X0_add_10 v2 (uI σ 8 ((sI σ 8) - 1))) fun v20 σ21 =>
      gZ v20 <|
      some (v20, σ21)
set_option maxHeartbeats 4000000 in
set_option maxRecDepth 100000 in
theorem T_X9_work {X : XE} {σf : SS} {r : Int32} {σ : SS} (h : P_X9_work σ = some (r, σf)) : Mt (gX X) 5 yX9_work cX9_work 5 (some .boolean) [.ref (xq X 5)] σ (some (.int r)) σf := by
  refine Mt.of (own := RX9) (lv := [(0, .ref (xq X 5))]) pn_X9 rfl (Nat.le_of_ble_eq_true rfl) rfl ?_
  unfold P_X9_work at h
  refine r_aload_n 0 dX9_work_0 rfl rfl rfl ?_
  refine r_dup rfl dX9_work_1 rfl ?_
  refine gf_X9_44_5 dX9_work_2 rfl ?_
  refine ric_1 dX9_work_5 rfl ?_
  refine r_isub dX9_work_6 rfl ?_
  refine pf_X9_44_5 dX9_work_7 rfl ?_
  refine r_aload_n 0 dX9_work_10 rfl rfl rfl ?_
  refine gf_X9_22_5 dX9_work_11 rfl ?_
  refine r_aload_n 0 dX9_work_14 rfl rfl rfl ?_
  refine gf_X9_44_5 dX9_work_15 rfl ?_
  obtain ⟨v2, e1, h⟩ := bd h
  refine r_callS (As := [.ref (xq X 22), .int (sI (uI σ 8 ((sI σ 8) - 1)) 8)]) (rest := []) (T_X6_at_22 e1) (by decide) mf_X6_at rfl tw_446 tw_635 rfl (Nat.le_of_ble_eq_true rfl) dX9_work_18 rfl ?_
  refine r_call0 ?_
  refine r_istore_n (lv' := [(1, .int v2), (0, .ref (xq X 5))]) dX9_work_21 rfl (by decide) rfl rfl ?_
  refine r_aload_n 1 dX9_work_22 rfl rfl rfl ?_
  refine gf_X9_25_5 dX9_work_23 rfl ?_
  refine r_aload_n 1 dX9_work_26 rfl rfl rfl ?_
  refine gf_X9_44_5 dX9_work_27 rfl ?_
  obtain ⟨v4, e3, h⟩ := bd h
  refine r_callS (As := [.ref (xq X 23), .int (sI (uI σ 8 ((sI σ 8) - 1)) 8)]) (rest := []) (T_X6_at_23 e3) (by decide) mf_X6_at rfl tw_446 tw_635 rfl (Nat.le_of_ble_eq_true rfl) dX9_work_30 rfl ?_
  refine r_call0 ?_
  refine r_istore_n (lv' := [(2, .int v4), (1, .int v2), (0, .ref (xq X 5))]) dX9_work_33 rfl (by decide) rfl rfl ?_
  refine r_aload_n 2 dX9_work_34 rfl rfl rfl ?_
  refine gf_X9_28_5 dX9_work_35 rfl ?_
  refine r_aload_n 2 dX9_work_38 rfl rfl rfl ?_
  refine gf_X9_44_5 dX9_work_39 rfl ?_
  obtain ⟨v6, e5, h⟩ := bd h
  refine r_callS (As := [.ref (xq X 24), .int (sI (uI σ 8 ((sI σ 8) - 1)) 8)]) (rest := []) (T_X6_at__24 e5) (by decide) mf_X6_at_ rfl tw_581 tw_636 rfl (Nat.le_of_ble_eq_true rfl) dX9_work_42 rfl ?_
  refine r_call0 ?_
  refine r_lstore_n (lv' := [(3, .long v6), (2, .int v4), (1, .int v2), (0, .ref (xq X 5))]) dX9_work_45 rfl (by decide) rfl rfl ?_
  refine r_aload_n 3 dX9_work_46 rfl rfl rfl ?_
  refine gf_X9_18_5 dX9_work_47 rfl ?_
  refine r_aload_n 3 dX9_work_50 rfl rfl rfl ?_
  refine gf_X9_44_5 dX9_work_51 rfl ?_
  obtain ⟨v8, e7, h⟩ := bd h
  refine r_callS (As := [.ref (xq X 21), .int (sI (uI σ 8 ((sI σ 8) - 1)) 8)]) (rest := []) (T_X6_at_21 e7) (by decide) mf_X6_at rfl tw_446 tw_635 rfl (Nat.le_of_ble_eq_true rfl) dX9_work_54 rfl ?_
  refine r_call0 ?_
  by_cases c9 : v8 = 1
  · have h := it_t c9 h
    refine r_lookup (t := 84) (off := 27) dX9_work_57 (by decide) (by rw [c9]; try rfl) (by decide) ?_
    refine r_aload_n 3 dX9_work_84 rfl rfl rfl ?_
    refine r_iload_n 2 dX9_work_85 rfl rfl rfl ?_
    refine r_iload_n 1 dX9_work_86 rfl rfl rfl ?_
    refine r_lload_n 0 dX9_work_87 rfl rfl rfl ?_
    obtain ⟨v11, σ12, e10, h⟩ := b2d h
    refine r_callV (rest := []) (T_X9_workWhole e10) (by decide) mf_X9_workWhole rfl tw_639 tw_11 tw_637 cX_5 rfl rfl rfl (Nat.le_of_ble_eq_true rfl) dX9_work_88 rfl ?_
    refine r_call0 ?_
    obtain ⟨hz13, h⟩ := gz h
    exact r_zretQ hz13 dX9_work_91 h
  · have h := it_f c9 h
    by_cases c14 : v8 = 2
    · have h := it_t c14 h
      refine r_lookup (t := 92) (off := 35) dX9_work_57 (by decide) (by rw [c14]; try rfl) (by decide) ?_
      refine r_aload_n 3 dX9_work_92 rfl rfl rfl ?_
      refine r_iload_n 2 dX9_work_93 rfl rfl rfl ?_
      refine r_iload_n 1 dX9_work_94 rfl rfl rfl ?_
      refine r_lload_n 0 dX9_work_95 rfl rfl rfl ?_
      obtain ⟨v16, σ17, e15, h⟩ := b2d h
      refine r_callV (rest := []) (T_X9_workRest e15) (by decide) mf_X9_workRest rfl tw_674 tw_15 tw_672 cX_5 rfl rfl rfl (Nat.le_of_ble_eq_true rfl) dX9_work_96 rfl ?_
      refine r_call0 ?_
      obtain ⟨hz18, h⟩ := gz h
      exact r_zretQ hz18 dX9_work_99 h
    · have h := it_f c14 h
      refine r_lookup (t := 100) (off := 43) dX9_work_57 (by decide) (by have z0 := neL c9 (z := 1) rfl; have z1 := neL c14 (z := 2) rfl; show (if (1 : Int) = v8.toInt then (27 : Int) else if (2 : Int) = v8.toInt then (35 : Int) else (43 : Int)) = 43; rw [if_neg (fun z => z0 z.symm), if_neg (fun z => z1 z.symm)]) (by decide) ?_
      refine r_aload_n 3 dX9_work_100 rfl rfl rfl ?_
      refine gf_X9_12_5 dX9_work_101 rfl ?_
      refine r_iload_n 2 dX9_work_104 rfl rfl rfl ?_
      obtain ⟨v20, σ21, e19, h⟩ := b2d h
      refine r_callV (rest := []) (T_X0_add_10 e19) (by decide) mf_X0_add rfl tw_645 tw_646 tw_644 cX_10 rfl rfl rfl (Nat.le_of_ble_eq_true rfl) dX9_work_105 rfl ?_
      refine r_call0 ?_
      obtain ⟨hz22, h⟩ := gz h
      exact r_zretQ hz22 dX9_work_108 h
