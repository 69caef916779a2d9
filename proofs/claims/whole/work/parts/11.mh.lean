def P_X11_numberOfRow_j17 (σ : SS) (K9 : Int32 → Int64 → Int32 → Int32 → Option Int64) : Nat → Int32 → Int64 → Int32 → Int32 → Int32 → Option Int64
  | 0, _, _, _, _, _ => none
  | n + 1, x1, x4, x6, x7, x8 =>
    gI x7 310 <|
    if (ldA σ 12 x7) ≤ x8 then
      gI x7 310 <|
      gI x7 310 <|
      (P_X11_countOf x1 (x6 - (ldA σ 12 x7)) σ).bind fun v6 =>
      (P_X11_times (ldL σ 3 x7) v6).bind fun v8 =>
      (P_X11_plus x4 v8).bind fun v10 =>
      gI x7 310 <|
      K9 x1 v10 (x6 - (ldA σ 12 x7)) (ldA σ 14 x7)
    else
      gI x1 16 <|
      (P_X11_countOf (ldA σ 1 x1) x8 σ).bind fun v14 =>
      (P_X11_countOf x1 (x6 - x8) σ).bind fun v16 =>
      (P_X11_times v14 v16).bind fun v18 =>
      (P_X11_plus x4 v18).bind fun v20 =>
      (P_X11_numberOfRow_j17 σ K9 n) x1 v20 x6 x7 (x8 + 1)
set_option maxHeartbeats 4000000 in
set_option maxRecDepth 100000 in
theorem T_X11_numberOfRow_j17 {X : XE} {σ : SS} {r : Int64} {K9 : Int32 → Int64 → Int32 → Int32 → Option Int64} (hK9 : ∀ (x1 : Int32) (x4 : Int64) (x6 : Int32) (x7 : Int32), K9 x1 x4 x6 x7 = some r → V (gM X) 1 RX11 cX11_numberOfRow 9 (some .long) (some (.long r)) σ 9 [(0, .ref (xq X 0)), (1, .int x1), (4, .long x4), (6, .int x6), (7, .int x7)] [] σ) : ∀ (fu : Nat) (x1 : Int32) (x4 : Int64) (x6 : Int32) (x7 : Int32) (x8 : Int32), P_X11_numberOfRow_j17 σ K9 fu x1 x4 x6 x7 x8 = some r → V (gM X) 1 RX11 cX11_numberOfRow 9 (some .long) (some (.long r)) σ 17 [(0, .ref (xq X 0)), (1, .int x1), (4, .long x4), (6, .int x6), (7, .int x7), (8, .int x8)] [] σ := by
  intro fu
  induction fu with
  | zero => intro x1 x4 x6 x7 x8 h; exact no0 h
  | succ n ih =>
    intro x1 x4 x6 x7 x8 h
    unfold P_X11_numberOfRow_j17 at h
    refine r_iload 5 dX11_numberOfRow_17 rfl rfl ?_
    refine r_aload_n 0 dX11_numberOfRow_19 rfl rfl rfl ?_
    refine gf_X11_54_0 dX11_numberOfRow_20 rfl ?_
    refine r_iload 4 dX11_numberOfRow_23 rfl rfl ?_
    obtain ⟨hi1, h⟩ := gi h
    refine alM_15 hi1 dX11_numberOfRow_25 rfl ?_
    refine r_icmp_ge (t := 67) dX11_numberOfRow_26 (by decide) rfl (fun c2 => ?_) (fun c2 => ?_)
    · have h := it_t c2 h
      refine r_iload 3 dX11_numberOfRow_67 rfl rfl ?_
      refine r_aload_n 0 dX11_numberOfRow_69 rfl rfl rfl ?_
      refine gf_X11_54_0 dX11_numberOfRow_70 rfl ?_
      refine r_iload 4 dX11_numberOfRow_73 rfl rfl ?_
      obtain ⟨hi3, h⟩ := gi h
      refine alM_15 hi3 dX11_numberOfRow_75 rfl ?_
      refine r_isub dX11_numberOfRow_76 rfl ?_
      refine r_istore (lv' := [(6, .int (x6 - (ldA σ 12 x7))), (0, .ref (xq X 0)), (1, .int x1), (4, .long x4), (7, .int x7), (8, .int x8)]) dX11_numberOfRow_77 (by decide) rfl rfl ?_
      refine r_lload 3 dX11_numberOfRow_79 rfl rfl ?_
      refine r_aload_n 1 dX11_numberOfRow_81 rfl rfl rfl ?_
      refine gf_X11_66_0 dX11_numberOfRow_82 rfl ?_
      refine r_iload 4 dX11_numberOfRow_85 rfl rfl ?_
      obtain ⟨hi4, h⟩ := gi h
      refine alM_19 hi4 dX11_numberOfRow_87 rfl ?_
      refine r_aload_n 1 dX11_numberOfRow_88 rfl rfl rfl ?_
      refine r_iload_n 2 dX11_numberOfRow_89 rfl rfl rfl ?_
      refine r_iload 0 dX11_numberOfRow_90 rfl rfl ?_
      obtain ⟨v6, e5, h⟩ := bd h
      refine r_callV (rest := [.long (ldL σ 3 x7), .long x4]) (T_X11_countOf e5) (by decide) mf_X11_countOf rfl tw_1145 tw_54 tw_1143 cM_0 rfl rfl rfl (Nat.le_of_ble_eq_true rfl) dX11_numberOfRow_92 rfl ?_
      refine r_call0 ?_
      obtain ⟨v8, e7, h⟩ := bd h
      refine r_callS (As := [.long (ldL σ 3 x7), .long v6]) (rest := [.long x4]) (T_X11_times e7) (by decide) mf_X11_times rfl tw_1148 tw_1147 rfl (Nat.le_of_ble_eq_true rfl) dX11_numberOfRow_95 rfl ?_
      refine r_call0 ?_
      obtain ⟨v10, e9, h⟩ := bd h
      refine r_callS (As := [.long x4, .long v8]) (rest := []) (T_X11_plus e9) (by decide) mf_X11_plus rfl tw_1153 tw_1152 rfl (Nat.le_of_ble_eq_true rfl) dX11_numberOfRow_98 rfl ?_
      refine r_call0 ?_
      refine r_lstore (lv' := [(4, .long v10), (6, .int (x6 - (ldA σ 12 x7))), (0, .ref (xq X 0)), (1, .int x1), (7, .int x7), (8, .int x8)]) dX11_numberOfRow_101 (by decide) rfl rfl ?_
      refine r_aload_n 2 dX11_numberOfRow_103 rfl rfl rfl ?_
      refine gf_X11_60_0 dX11_numberOfRow_104 rfl ?_
      refine r_iload 4 dX11_numberOfRow_107 rfl rfl ?_
      obtain ⟨hi11, h⟩ := gi h
      refine alM_17 hi11 dX11_numberOfRow_109 rfl ?_
      refine r_istore (lv' := [(7, .int (ldA σ 14 x7)), (4, .long v10), (6, .int (x6 - (ldA σ 12 x7))), (0, .ref (xq X 0)), (1, .int x1), (8, .int x8)]) dX11_numberOfRow_110 (by decide) rfl rfl ?_
      refine r_goto (t := 9) dX11_numberOfRow_112 (by decide) ?_
      refine r_sub [3, 4, 1, 2, 0] rfl ?_
      exact hK9 x1 v10 (x6 - (ldA σ 12 x7)) (ldA σ 14 x7) h
    · have h := it_f c2 h
      refine r_lload 2 dX11_numberOfRow_29 rfl rfl ?_
      refine r_aload_n 0 dX11_numberOfRow_31 rfl rfl rfl ?_
      refine r_aload_n 0 dX11_numberOfRow_32 rfl rfl rfl ?_
      refine gf_X11_13_0 dX11_numberOfRow_33 rfl ?_
      refine r_iload_n 1 dX11_numberOfRow_36 rfl rfl rfl ?_
      obtain ⟨hi12, h⟩ := gi h
      refine alM_2 hi12 dX11_numberOfRow_37 rfl ?_
      refine r_iload 5 dX11_numberOfRow_38 rfl rfl ?_
      obtain ⟨v14, e13, h⟩ := bd h
      refine r_callV (rest := [.long x4]) (T_X11_countOf e13) (by decide) mf_X11_countOf rfl tw_1145 tw_54 tw_1143 cM_0 rfl rfl rfl (Nat.le_of_ble_eq_true rfl) dX11_numberOfRow_40 rfl ?_
      refine r_call0 ?_
      refine r_aload_n 0 dX11_numberOfRow_43 rfl rfl rfl ?_
      refine r_iload_n 1 dX11_numberOfRow_44 rfl rfl rfl ?_
      refine r_iload 3 dX11_numberOfRow_45 rfl rfl ?_
      refine r_iload 5 dX11_numberOfRow_47 rfl rfl ?_
      refine r_isub dX11_numberOfRow_49 rfl ?_
      obtain ⟨v16, e15, h⟩ := bd h
      refine r_callV (rest := [.long v14, .long x4]) (T_X11_countOf e15) (by decide) mf_X11_countOf rfl tw_1145 tw_54 tw_1143 cM_0 rfl rfl rfl (Nat.le_of_ble_eq_true rfl) dX11_numberOfRow_50 rfl ?_
      refine r_call0 ?_
      obtain ⟨v18, e17, h⟩ := bd h
      refine r_callS (As := [.long v14, .long v16]) (rest := [.long x4]) (T_X11_times e17) (by decide) mf_X11_times rfl tw_1148 tw_1147 rfl (Nat.le_of_ble_eq_true rfl) dX11_numberOfRow_53 rfl ?_
      refine r_call0 ?_
      obtain ⟨v20, e19, h⟩ := bd h
      refine r_callS (As := [.long x4, .long v18]) (rest := []) (T_X11_plus e19) (by decide) mf_X11_plus rfl tw_1153 tw_1152 rfl (Nat.le_of_ble_eq_true rfl) dX11_numberOfRow_56 rfl ?_
      refine r_call0 ?_
      refine r_lstore (lv' := [(4, .long v20), (0, .ref (xq X 0)), (1, .int x1), (6, .int x6), (7, .int x7), (8, .int x8)]) dX11_numberOfRow_59 (by decide) rfl rfl ?_
      refine r_iinc (v := (x8 + 1)) (lv' := [(8, .int (x8 + 1)), (4, .long v20), (0, .ref (xq X 0)), (1, .int x1), (6, .int x6), (7, .int x7)]) 5 dX11_numberOfRow_61 rfl rfl (by decide) rfl rfl ?_
      refine r_goto (t := 17) dX11_numberOfRow_64 (by decide) ?_
      refine r_sub [2, 3, 1, 4, 5, 0] rfl ?_
      exact ih x1 v20 x6 x7 (x8 + 1) h
def P_X11_numberOfRow_j9 (σ : SS) : Nat → Int32 → Int64 → Int32 → Int32 → Option Int64
  | 0, _, _, _, _ => none
  | n + 1, x1, x4, x6, x7 =>
    if x7 = 0 then
      some x4
    else
      P_X11_numberOfRow_j17 σ (P_X11_numberOfRow_j9 σ n) FU x1 x4 x6 x7 1
set_option maxHeartbeats 4000000 in
set_option maxRecDepth 100000 in
theorem T_X11_numberOfRow_j9 {X : XE} {σ : SS} {r : Int64} : ∀ (fu : Nat) (x1 : Int32) (x4 : Int64) (x6 : Int32) (x7 : Int32), P_X11_numberOfRow_j9 σ fu x1 x4 x6 x7 = some r → V (gM X) 1 RX11 cX11_numberOfRow 9 (some .long) (some (.long r)) σ 9 [(0, .ref (xq X 0)), (1, .int x1), (4, .long x4), (6, .int x6), (7, .int x7)] [] σ := by
  intro fu
  induction fu with
  | zero => intro x1 x4 x6 x7 h; exact no0 h
  | succ n ih =>
    intro x1 x4 x6 x7 h
    unfold P_X11_numberOfRow_j9 at h
    refine r_iload 4 dX11_numberOfRow_9 rfl rfl ?_
    refine r_if_eq (t := 115) dX11_numberOfRow_11 (by decide) rfl (fun c1 => ?_) (fun c1 => ?_)
    · have h := it_t c1 h
      refine r_lload 2 dX11_numberOfRow_115 rfl rfl ?_
      exact r_lretR dX11_numberOfRow_117 h
    · have h := it_f c1 h
      refine ric_1 dX11_numberOfRow_14 rfl ?_
      refine r_istore (lv' := [(8, .int 1), (0, .ref (xq X 0)), (1, .int x1), (4, .long x4), (6, .int x6), (7, .int x7)]) dX11_numberOfRow_15 (by decide) rfl rfl ?_
      refine r_sub [1, 2, 3, 4, 5, 0] rfl ?_
      exact T_X11_numberOfRow_j17 ih FU x1 x4 x6 x7 1 h
def P_X11_numberOfRow (a1 : Int32) (a2 : Int32) (a3 : Int32) (σ : SS) : Option Int64 :=
  P_X11_numberOfRow_j9 σ FU a1 0 a2 a3
set_option maxHeartbeats 4000000 in
set_option maxRecDepth 100000 in
theorem T_X11_numberOfRow {X : XE} {σ : SS} {r : Int64} {a1 : Int32} {a2 : Int32} {a3 : Int32} (h : P_X11_numberOfRow a1 a2 a3 σ = some r) : Mt (gM X) 1 yX11_numberOfRow cX11_numberOfRow 9 (some .long) [.ref (xq X 0), .int a1, .int a2, .int a3] σ (some (.long r)) σ := by
  refine Mt.of (own := RX11) (lv := [(0, .ref (xq X 0)), (1, .int a1), (2, .int a2), (3, .int a3)]) pn_X11 rfl (Nat.le_of_ble_eq_true rfl) rfl ?_
  unfold P_X11_numberOfRow at h
  refine rlc_0 dX11_numberOfRow_0 rfl ?_
  refine r_lstore (lv' := [(4, .long 0), (0, .ref (xq X 0)), (1, .int a1), (2, .int a2), (3, .int a3)]) dX11_numberOfRow_1 (by decide) rfl rfl ?_
  refine r_iload_n 3 dX11_numberOfRow_3 rfl rfl rfl ?_
  refine r_istore (lv' := [(6, .int a2), (4, .long 0), (0, .ref (xq X 0)), (1, .int a1), (2, .int a2), (3, .int a3)]) dX11_numberOfRow_4 (by decide) rfl rfl ?_
  refine r_iload_n 5 dX11_numberOfRow_6 rfl rfl rfl ?_
  refine r_istore (lv' := [(7, .int a3), (6, .int a2), (4, .long 0), (0, .ref (xq X 0)), (1, .int a1), (2, .int a2), (3, .int a3)]) dX11_numberOfRow_7 (by decide) rfl rfl ?_
  refine r_sub [3, 4, 2, 1, 0] rfl ?_
  exact T_X11_numberOfRow_j9 FU a1 0 a2 a3 h
def P_X11_numberOfBoth_j6 (σ : SS) : Nat → Int32 → Int32 → Int32 → Int32 → Int64 → Int32 → Option Int64
  | 0, _, _, _, _, _, _ => none
  | n + 1, x1, x2, x3, x4, x5, x7 =>
    gI x3 310 <|
    if (ldA σ 12 x3) ≤ x7 then
      gI x3 310 <|
      gI x1 16 <|
      gI x4 310 <|
      (P_X11_countOf (ldA σ 2 x1) (ldA σ 12 x4) σ).bind fun v7 =>
      (P_X11_times (ldL σ 3 x3) v7).bind fun v9 =>
      (P_X11_plus x5 v9).bind fun v11 =>
      gI x4 310 <|
      (P_X11_plus v11 (ldL σ 3 x4)).bind fun v14 =>
      some v14
    else
      gI x1 16 <|
      (P_X11_countOf (ldA σ 1 x1) x7 σ).bind fun v17 =>
      gI x1 16 <|
      (P_X11_countOf (ldA σ 2 x1) (x2 - x7) σ).bind fun v20 =>
      (P_X11_times v17 v20).bind fun v22 =>
      (P_X11_plus x5 v22).bind fun v24 =>
      (P_X11_numberOfBoth_j6 σ n) x1 x2 x3 x4 v24 (x7 + 1)
set_option maxHeartbeats 4000000 in
set_option maxRecDepth 100000 in
theorem T_X11_numberOfBoth_j6 {X : XE} {σ : SS} {r : Int64} : ∀ (fu : Nat) (x1 : Int32) (x2 : Int32) (x3 : Int32) (x4 : Int32) (x5 : Int64) (x7 : Int32), P_X11_numberOfBoth_j6 σ fu x1 x2 x3 x4 x5 x7 = some r → V (gM X) 1 RX11 cX11_numberOfBoth 8 (some .long) (some (.long r)) σ 6 [(0, .ref (xq X 0)), (1, .int x1), (2, .int x2), (3, .int x3), (4, .int x4), (5, .long x5), (7, .int x7)] [] σ := by
  intro fu
  induction fu with
  | zero => intro x1 x2 x3 x4 x5 x7 h; exact no0 h
  | succ n ih =>
    intro x1 x2 x3 x4 x5 x7 h
    unfold P_X11_numberOfBoth_j6 at h
    refine r_iload 6 dX11_numberOfBoth_6 rfl rfl ?_
    refine r_aload_n 0 dX11_numberOfBoth_8 rfl rfl rfl ?_
    refine gf_X11_54_0 dX11_numberOfBoth_9 rfl ?_
    refine r_iload_n 3 dX11_numberOfBoth_12 rfl rfl rfl ?_
    obtain ⟨hi1, h⟩ := gi h
    refine alM_15 hi1 dX11_numberOfBoth_13 rfl ?_
    refine r_icmp_ge (t := 59) dX11_numberOfBoth_14 (by decide) rfl (fun c2 => ?_) (fun c2 => ?_)
    · have h := it_t c2 h
      refine r_lload 5 dX11_numberOfBoth_59 rfl rfl ?_
      refine r_aload_n 0 dX11_numberOfBoth_61 rfl rfl rfl ?_
      refine gf_X11_66_0 dX11_numberOfBoth_62 rfl ?_
      refine r_iload_n 3 dX11_numberOfBoth_65 rfl rfl rfl ?_
      obtain ⟨hi3, h⟩ := gi h
      refine alM_19 hi3 dX11_numberOfBoth_66 rfl ?_
      refine r_aload_n 0 dX11_numberOfBoth_67 rfl rfl rfl ?_
      refine r_aload_n 0 dX11_numberOfBoth_68 rfl rfl rfl ?_
      refine gf_X11_16_0 dX11_numberOfBoth_69 rfl ?_
      refine r_iload_n 1 dX11_numberOfBoth_72 rfl rfl rfl ?_
      obtain ⟨hi4, h⟩ := gi h
      refine alM_3 hi4 dX11_numberOfBoth_73 rfl ?_
      refine r_aload_n 0 dX11_numberOfBoth_74 rfl rfl rfl ?_
      refine gf_X11_54_0 dX11_numberOfBoth_75 rfl ?_
      refine r_iload 4 dX11_numberOfBoth_78 rfl rfl ?_
      obtain ⟨hi5, h⟩ := gi h
      refine alM_15 hi5 dX11_numberOfBoth_80 rfl ?_
      obtain ⟨v7, e6, h⟩ := bd h
      refine r_callV (rest := [.long (ldL σ 3 x3), .long x5]) (T_X11_countOf e6) (by decide) mf_X11_countOf rfl tw_1145 tw_54 tw_1143 cM_0 rfl rfl rfl (Nat.le_of_ble_eq_true rfl) dX11_numberOfBoth_81 rfl ?_
      refine r_call0 ?_
      obtain ⟨v9, e8, h⟩ := bd h
      refine r_callS (As := [.long (ldL σ 3 x3), .long v7]) (rest := [.long x5]) (T_X11_times e8) (by decide) mf_X11_times rfl tw_1148 tw_1147 rfl (Nat.le_of_ble_eq_true rfl) dX11_numberOfBoth_84 rfl ?_
      refine r_call0 ?_
      obtain ⟨v11, e10, h⟩ := bd h
      refine r_callS (As := [.long x5, .long v9]) (rest := []) (T_X11_plus e10) (by decide) mf_X11_plus rfl tw_1153 tw_1152 rfl (Nat.le_of_ble_eq_true rfl) dX11_numberOfBoth_87 rfl ?_
      refine r_call0 ?_
      refine r_aload_n 0 dX11_numberOfBoth_90 rfl rfl rfl ?_
      refine gf_X11_66_0 dX11_numberOfBoth_91 rfl ?_
      refine r_iload 4 dX11_numberOfBoth_94 rfl rfl ?_
      obtain ⟨hi12, h⟩ := gi h
      refine alM_19 hi12 dX11_numberOfBoth_96 rfl ?_
      obtain ⟨v14, e13, h⟩ := bd h
      refine r_callS (As := [.long v11, .long (ldL σ 3 x4)]) (rest := []) (T_X11_plus e13) (by decide) mf_X11_plus rfl tw_1153 tw_1152 rfl (Nat.le_of_ble_eq_true rfl) dX11_numberOfBoth_97 rfl ?_
      refine r_call0 ?_
      exact r_lretR dX11_numberOfBoth_100 h
    · have h := it_f c2 h
      refine r_lload 5 dX11_numberOfBoth_17 rfl rfl ?_
      refine r_aload_n 0 dX11_numberOfBoth_19 rfl rfl rfl ?_
      refine r_aload_n 0 dX11_numberOfBoth_20 rfl rfl rfl ?_
      refine gf_X11_13_0 dX11_numberOfBoth_21 rfl ?_
      refine r_iload_n 1 dX11_numberOfBoth_24 rfl rfl rfl ?_
      obtain ⟨hi15, h⟩ := gi h
      refine alM_2 hi15 dX11_numberOfBoth_25 rfl ?_
      refine r_iload 6 dX11_numberOfBoth_26 rfl rfl ?_
      obtain ⟨v17, e16, h⟩ := bd h
      refine r_callV (rest := [.long x5]) (T_X11_countOf e16) (by decide) mf_X11_countOf rfl tw_1145 tw_54 tw_1143 cM_0 rfl rfl rfl (Nat.le_of_ble_eq_true rfl) dX11_numberOfBoth_28 rfl ?_
      refine r_call0 ?_
      refine r_aload_n 0 dX11_numberOfBoth_31 rfl rfl rfl ?_
      refine r_aload_n 0 dX11_numberOfBoth_32 rfl rfl rfl ?_
      refine gf_X11_16_0 dX11_numberOfBoth_33 rfl ?_
      refine r_iload_n 1 dX11_numberOfBoth_36 rfl rfl rfl ?_
      obtain ⟨hi18, h⟩ := gi h
      refine alM_3 hi18 dX11_numberOfBoth_37 rfl ?_
      refine r_iload_n 2 dX11_numberOfBoth_38 rfl rfl rfl ?_
      refine r_iload 6 dX11_numberOfBoth_39 rfl rfl ?_
      refine r_isub dX11_numberOfBoth_41 rfl ?_
      obtain ⟨v20, e19, h⟩ := bd h
      refine r_callV (rest := [.long v17, .long x5]) (T_X11_countOf e19) (by decide) mf_X11_countOf rfl tw_1145 tw_54 tw_1143 cM_0 rfl rfl rfl (Nat.le_of_ble_eq_true rfl) dX11_numberOfBoth_42 rfl ?_
      refine r_call0 ?_
      obtain ⟨v22, e21, h⟩ := bd h
      refine r_callS (As := [.long v17, .long v20]) (rest := [.long x5]) (T_X11_times e21) (by decide) mf_X11_times rfl tw_1148 tw_1147 rfl (Nat.le_of_ble_eq_true rfl) dX11_numberOfBoth_45 rfl ?_
      refine r_call0 ?_
      obtain ⟨v24, e23, h⟩ := bd h
      refine r_callS (As := [.long x5, .long v22]) (rest := []) (T_X11_plus e23) (by decide) mf_X11_plus rfl tw_1153 tw_1152 rfl (Nat.le_of_ble_eq_true rfl) dX11_numberOfBoth_48 rfl ?_
      refine r_call0 ?_
      refine r_lstore (lv' := [(5, .long v24), (0, .ref (xq X 0)), (1, .int x1), (2, .int x2), (3, .int x3), (4, .int x4), (7, .int x7)]) dX11_numberOfBoth_51 (by decide) rfl rfl ?_
      refine r_iinc (v := (x7 + 1)) (lv' := [(7, .int (x7 + 1)), (5, .long v24), (0, .ref (xq X 0)), (1, .int x1), (2, .int x2), (3, .int x3), (4, .int x4)]) 6 dX11_numberOfBoth_53 rfl rfl (by decide) rfl rfl ?_
      refine r_goto (t := 6) dX11_numberOfBoth_56 (by decide) ?_
      refine r_sub [2, 3, 4, 5, 6, 1, 0] rfl ?_
      exact ih x1 x2 x3 x4 v24 (x7 + 1) h
def P_X11_numberOfBoth (a1 : Int32) (a2 : Int32) (a3 : Int32) (a4 : Int32) (σ : SS) : Option Int64 :=
  P_X11_numberOfBoth_j6 σ FU a1 a2 a3 a4 0 0
set_option maxHeartbeats 4000000 in
set_option maxRecDepth 100000 in
theorem T_X11_numberOfBoth {X : XE} {σ : SS} {r : Int64} {a1 : Int32} {a2 : Int32} {a3 : Int32} {a4 : Int32} (h : P_X11_numberOfBoth a1 a2 a3 a4 σ = some r) : Mt (gM X) 1 yX11_numberOfBoth cX11_numberOfBoth 8 (some .long) [.ref (xq X 0), .int a1, .int a2, .int a3, .int a4] σ (some (.long r)) σ := by
  refine Mt.of (own := RX11) (lv := [(0, .ref (xq X 0)), (1, .int a1), (2, .int a2), (3, .int a3), (4, .int a4)]) pn_X11 rfl (Nat.le_of_ble_eq_true rfl) rfl ?_
  unfold P_X11_numberOfBoth at h
  refine rlc_0 dX11_numberOfBoth_0 rfl ?_
  refine r_lstore (lv' := [(5, .long 0), (0, .ref (xq X 0)), (1, .int a1), (2, .int a2), (3, .int a3), (4, .int a4)]) dX11_numberOfBoth_1 (by decide) rfl rfl ?_
  refine ric_0 dX11_numberOfBoth_3 rfl ?_
  refine r_istore (lv' := [(7, .int 0), (5, .long 0), (0, .ref (xq X 0)), (1, .int a1), (2, .int a2), (3, .int a3), (4, .int a4)]) dX11_numberOfBoth_4 (by decide) rfl rfl ?_
  refine r_sub [2, 3, 4, 5, 6, 1, 0] rfl ?_
  exact T_X11_numberOfBoth_j6 FU a1 a2 a3 a4 0 0 h
def P_X11_numberOf_j63 (K29 : Int32 → Int32 → Int32 → Int32 → SS → Option SS) (x1 : Int32) (x2 : Int32) (x3 : Int32) (x4 : Int32) (y0 : Int32) (y1 : Int32) (σ : SS) : Option SS :=
  gI y1 310 <|
  gI x4 310 <|
  K29 x1 x2 x3 (ldA (stZ σ 15 y1 y0) 14 x4) (stZ σ 15 y1 y0)
set_option maxHeartbeats 4000000 in
set_option maxRecDepth 100000 in
theorem T_X11_numberOf_j63 {X : XE} {σf : SS} {K29 : Int32 → Int32 → Int32 → Int32 → SS → Option SS} (hK29 : ∀ (x1 : Int32) (x2 : Int32) (x3 : Int32) (x4 : Int32) (σ : SS), K29 x1 x2 x3 x4 σ = some σf → V (gM X) 4 RX11 cX11_numberOf 5 none none σf 29 [(0, .ref (xq X 0)), (1, .int x1), (2, .int x2), (3, .int x3), (4, .int x4)] [] σ) : ∀ (x1 : Int32) (x2 : Int32) (x3 : Int32) (x4 : Int32) (y0 : Int32) (y1 : Int32) (σ : SS), P_X11_numberOf_j63 K29 x1 x2 x3 x4 y0 y1 σ = some σf → V (gM X) 4 RX11 cX11_numberOf 5 none none σf 63 [(0, .ref (xq X 0)), (1, .int x1), (2, .int x2), (3, .int x3), (4, .int x4)] [.int y0, .int y1, .ref (xq X 20)] σ := by
  intro x1 x2 x3 x4 y0 y1 σ h
  unfold P_X11_numberOf_j63 at h
  obtain ⟨hi1, h⟩ := gi h
  refine asM_20 hi1 dX11_numberOf_63 rfl ?_
  refine r_aload_n 0 dX11_numberOf_64 rfl rfl rfl ?_
  refine gf_X11_60_0 dX11_numberOf_65 rfl ?_
  refine r_iload 4 dX11_numberOf_68 rfl rfl ?_
  obtain ⟨hi2, h⟩ := gi h
  refine alM_17 hi2 dX11_numberOf_70 rfl ?_
  refine r_istore (lv' := [(4, .int (ldA (stZ σ 15 y1 y0) 14 x4)), (0, .ref (xq X 0)), (1, .int x1), (2, .int x2), (3, .int x3)]) dX11_numberOf_71 (by decide) rfl rfl ?_
  refine r_goto (t := 29) dX11_numberOf_73 (by decide) ?_
  refine r_sub [1, 2, 3, 4, 0] rfl ?_
  exact hK29 x1 x2 x3 (ldA (stZ σ 15 y1 y0) 14 x4) (stZ σ 15 y1 y0) h
def P_X11_numberOf_j58 (K29 : Int32 → Int32 → Int32 → Int32 → SS → Option SS) (x1 : Int32) (x2 : Int32) (x3 : Int32) (x4 : Int32) (y0 : Int32) (σ : SS) : Option SS :=
  P_X11_numberOf_j63 K29 x1 x2 x3 x4 1 y0 σ
set_option maxHeartbeats 4000000 in
set_option maxRecDepth 100000 in
theorem T_X11_numberOf_j58 {X : XE} {σf : SS} {K29 : Int32 → Int32 → Int32 → Int32 → SS → Option SS} (hK29 : ∀ (x1 : Int32) (x2 : Int32) (x3 : Int32) (x4 : Int32) (σ : SS), K29 x1 x2 x3 x4 σ = some σf → V (gM X) 4 RX11 cX11_numberOf 5 none none σf 29 [(0, .ref (xq X 0)), (1, .int x1), (2, .int x2), (3, .int x3), (4, .int x4)] [] σ) : ∀ (x1 : Int32) (x2 : Int32) (x3 : Int32) (x4 : Int32) (y0 : Int32) (σ : SS), P_X11_numberOf_j58 K29 x1 x2 x3 x4 y0 σ = some σf → V (gM X) 4 RX11 cX11_numberOf 5 none none σf 58 [(0, .ref (xq X 0)), (1, .int x1), (2, .int x2), (3, .int x3), (4, .int x4)] [.int y0, .ref (xq X 20)] σ := by
  intro x1 x2 x3 x4 y0 σ h
  unfold P_X11_numberOf_j58 at h
  refine ric_1 dX11_numberOf_58 rfl ?_
  refine r_goto (t := 63) dX11_numberOf_59 (by decide) ?_
  exact T_X11_numberOf_j63 hK29 x1 x2 x3 x4 1 y0 σ h
def P_X11_numberOf_j29 : Nat → Int32 → Int32 → Int32 → Int32 → SS → Option SS
  | 0, _, _, _, _, _ => none
  | n + 1, x1, x2, x3, x4, σ =>
    if x4 = 0 then
      gI x2 16 <|
      if (ldA σ 0 x2) = 0 then
        gI x1 310 <|
        some (stL σ 3 x1 0)
      else
        if (ldA σ 0 x2) = 1 then
          gI x1 310 <|
          some (stL σ 3 x1 0)
        else
          if (ldA σ 0 x2) = 2 then
            gI x1 310 <|
            gI x1 310 <|
            gI (ldA σ 13 x1) 310 <|
            (P_X11_numberOfBoth x2 x3 (ldA σ 13 x1) (ldA σ 14 (ldA σ 13 x1)) σ).bind fun v12 =>
            gI x1 310 <|
            some (stL σ 3 x1 v12)
          else
            if (ldA σ 0 x2) = 3 then
              gI x1 310 <|
              if ¬ (ldL σ 2 x1) = 1 then
                gI x2 16 <|
                (P_X11_countOf (ldA σ 1 x2) x3 σ).bind fun v19 =>
                gI x1 310 <|
                gI (ldA σ 13 x1) 310 <|
                (P_X11_plus v19 (ldL σ 3 (ldA σ 13 x1))).bind fun v23 =>
                gI x1 310 <|
                some (stL σ 3 x1 v23)
              else
                gI x1 310 <|
                gI (ldA σ 13 x1) 310 <|
                gI x1 310 <|
                some (stL σ 3 x1 (ldL σ 3 (ldA σ 13 x1)))
            else
              if (ldA σ 0 x2) = 4 then
                gI x1 310 <|
                (P_X11_numberOfRow x2 x3 (ldA σ 13 x1) σ).bind fun v31 =>
                gI x1 310 <|
                some (stL σ 3 x1 v31)
              else
                if (ldA σ 0 x2) = 5 then
                  (P_X11_numberOfSet x1 x2 σ).bind fun σ35 =>
                  some σ35
                else
                  if (ldA σ 0 x2) = 6 then
                    (P_X11_numberOfSet x1 x2 σ).bind fun σ38 =>
                    some σ38
                  else
                    if (ldA σ 0 x2) = 7 then
                      gI x1 310 <|
                      gI (ldA σ 13 x1) 310 <|
                      gI x1 310 <|
                      some (stL σ 3 x1 (ldL σ 3 (ldA σ 13 x1)))
                    else
                      if (ldA σ 0 x2) = 8 then
                        gI x1 310 <|
                        gI x1 310 <|
                        some (stL σ 3 x1 (ldL σ 2 x1))
                      else
                        (P_X11_numberOfSet x1 x2 σ).bind fun σ47 =>
                        some σ47
    else
      gI x1 310 <|
      if ¬ (ldA σ 15 x1) = 0 then
        P_X11_numberOf_j58 (P_X11_numberOf_j29 n) x1 x2 x3 x4 x1 σ
      else
        gI x4 310 <|
        if (ldA σ 15 x4) = 0 then
          P_X11_numberOf_j63 (P_X11_numberOf_j29 n) x1 x2 x3 x4 0 x1 σ
        else
          P_X11_numberOf_j58 (P_X11_numberOf_j29 n) x1 x2 x3 x4 x1 σ
set_option maxHeartbeats 4000000 in
set_option maxRecDepth 100000 in
theorem T_X11_numberOf_j29 {X : XE} {σf : SS} : ∀ (fu : Nat) (x1 : Int32) (x2 : Int32) (x3 : Int32) (x4 : Int32) (σ : SS), P_X11_numberOf_j29 fu x1 x2 x3 x4 σ = some σf → V (gM X) 4 RX11 cX11_numberOf 5 none none σf 29 [(0, .ref (xq X 0)), (1, .int x1), (2, .int x2), (3, .int x3), (4, .int x4)] [] σ := by
  intro fu
  induction fu with
  | zero => intro x1 x2 x3 x4 σ h; exact no0 h
  | succ n ih =>
    intro x1 x2 x3 x4 σ h
    unfold P_X11_numberOf_j29 at h
    refine r_iload 4 dX11_numberOf_29 rfl rfl ?_
    refine r_if_eq (t := 76) dX11_numberOf_31 (by decide) rfl (fun c1 => ?_) (fun c1 => ?_)
    · have h := it_t c1 h
      refine r_aload_n 0 dX11_numberOf_76 rfl rfl rfl ?_
      refine gf_X11_7_0 dX11_numberOf_77 rfl ?_
      refine r_iload_n 2 dX11_numberOf_80 rfl rfl rfl ?_
      obtain ⟨hi2, h⟩ := gi h
      refine alM_1 hi2 dX11_numberOf_81 rfl ?_
      by_cases c3 : (ldA σ 0 x2) = 0
      · have h := it_t c3 h
        refine r_tableIn (t := 132) dX11_numberOf_82 (by rw [c3]; decide) (by rw [c3]; decide) (by rw [c3]; rfl) (by decide) ?_
        refine r_aload_n 0 dX11_numberOf_132 rfl rfl rfl ?_
        refine gf_X11_66_0 dX11_numberOf_133 rfl ?_
        refine r_iload_n 1 dX11_numberOf_136 rfl rfl rfl ?_
        refine rlc_0 dX11_numberOf_137 rfl ?_
        obtain ⟨hi4, h⟩ := gi h
        refine asM_19 hi4 dX11_numberOf_138 rfl ?_
        refine r_goto (t := 295) dX11_numberOf_139 (by decide) ?_
        exact r_vretS dX11_numberOf_295 h
      · have h := it_f c3 h
        by_cases c5 : (ldA σ 0 x2) = 1
        · have h := it_t c5 h
          refine r_tableIn (t := 132) dX11_numberOf_82 (by rw [c5]; decide) (by rw [c5]; decide) (by rw [c5]; rfl) (by decide) ?_
          refine r_aload_n 0 dX11_numberOf_132 rfl rfl rfl ?_
          refine gf_X11_66_0 dX11_numberOf_133 rfl ?_
          refine r_iload_n 1 dX11_numberOf_136 rfl rfl rfl ?_
          refine rlc_0 dX11_numberOf_137 rfl ?_
          obtain ⟨hi6, h⟩ := gi h
          refine asM_19 hi6 dX11_numberOf_138 rfl ?_
          refine r_goto (t := 295) dX11_numberOf_139 (by decide) ?_
          exact r_vretS dX11_numberOf_295 h
        · have h := it_f c5 h
          by_cases c7 : (ldA σ 0 x2) = 2
          · have h := it_t c7 h
            refine r_tableIn (t := 142) dX11_numberOf_82 (by rw [c7]; decide) (by rw [c7]; decide) (by rw [c7]; rfl) (by decide) ?_
            refine r_aload_n 0 dX11_numberOf_142 rfl rfl rfl ?_
            refine gf_X11_66_0 dX11_numberOf_143 rfl ?_
            refine r_iload_n 1 dX11_numberOf_146 rfl rfl rfl ?_
            refine r_aload_n 0 dX11_numberOf_147 rfl rfl rfl ?_
            refine r_iload_n 2 dX11_numberOf_148 rfl rfl rfl ?_
            refine r_iload_n 3 dX11_numberOf_149 rfl rfl rfl ?_
            refine r_aload_n 0 dX11_numberOf_150 rfl rfl rfl ?_
            refine gf_X11_57_0 dX11_numberOf_151 rfl ?_
            refine r_iload_n 1 dX11_numberOf_154 rfl rfl rfl ?_
            obtain ⟨hi8, h⟩ := gi h
            refine alM_16 hi8 dX11_numberOf_155 rfl ?_
            refine r_aload_n 0 dX11_numberOf_156 rfl rfl rfl ?_
            refine gf_X11_60_0 dX11_numberOf_157 rfl ?_
            refine r_aload_n 0 dX11_numberOf_160 rfl rfl rfl ?_
            refine gf_X11_57_0 dX11_numberOf_161 rfl ?_
            refine r_iload_n 1 dX11_numberOf_164 rfl rfl rfl ?_
            obtain ⟨hi9, h⟩ := gi h
            refine alM_16 hi9 dX11_numberOf_165 rfl ?_
            obtain ⟨hi10, h⟩ := gi h
            refine alM_17 hi10 dX11_numberOf_166 rfl ?_
            obtain ⟨v12, e11, h⟩ := bd h
            refine r_callV (rest := [.int x1, .ref (xq X 19)]) (T_X11_numberOfBoth e11) (by decide) mf_X11_numberOfBoth rfl tw_1304 tw_79 tw_1302 cM_0 rfl rfl rfl (Nat.le_of_ble_eq_true rfl) dX11_numberOf_167 rfl ?_
            refine r_call0 ?_
            obtain ⟨hi13, h⟩ := gi h
            refine asM_19 hi13 dX11_numberOf_170 rfl ?_
            refine r_goto (t := 295) dX11_numberOf_171 (by decide) ?_
            exact r_vretS dX11_numberOf_295 h
          · have h := it_f c7 h
            by_cases c14 : (ldA σ 0 x2) = 3
            · have h := it_t c14 h
              refine r_tableIn (t := 174) dX11_numberOf_82 (by rw [c14]; decide) (by rw [c14]; decide) (by rw [c14]; rfl) (by decide) ?_
              refine r_aload_n 0 dX11_numberOf_174 rfl rfl rfl ?_
              refine gf_X11_66_0 dX11_numberOf_175 rfl ?_
              refine r_iload_n 1 dX11_numberOf_178 rfl rfl rfl ?_
              refine r_aload_n 0 dX11_numberOf_179 rfl rfl rfl ?_
              refine gf_X11_63_0 dX11_numberOf_180 rfl ?_
              refine r_iload_n 1 dX11_numberOf_183 rfl rfl rfl ?_
              obtain ⟨hi15, h⟩ := gi h
              refine alM_18 hi15 dX11_numberOf_184 rfl ?_
              refine rlc_1 dX11_numberOf_185 rfl ?_
              refine r_lif_ne (t := 204) dX11_numberOf_186 rfl dX11_numberOf_187 (by decide) rfl (fun c16 => ?_) (fun c16 => ?_)
              · have h := it_t c16 h
                refine r_aload_n 0 dX11_numberOf_204 rfl rfl rfl ?_
                refine r_aload_n 0 dX11_numberOf_205 rfl rfl rfl ?_
                refine gf_X11_13_0 dX11_numberOf_206 rfl ?_
                refine r_iload_n 2 dX11_numberOf_209 rfl rfl rfl ?_
                obtain ⟨hi17, h⟩ := gi h
                refine alM_2 hi17 dX11_numberOf_210 rfl ?_
                refine r_iload_n 3 dX11_numberOf_211 rfl rfl rfl ?_
                obtain ⟨v19, e18, h⟩ := bd h
                refine r_callV (rest := [.int x1, .ref (xq X 19)]) (T_X11_countOf e18) (by decide) mf_X11_countOf rfl tw_1145 tw_54 tw_1143 cM_0 rfl rfl rfl (Nat.le_of_ble_eq_true rfl) dX11_numberOf_212 rfl ?_
                refine r_call0 ?_
                refine r_aload_n 0 dX11_numberOf_215 rfl rfl rfl ?_
                refine gf_X11_66_0 dX11_numberOf_216 rfl ?_
                refine r_aload_n 0 dX11_numberOf_219 rfl rfl rfl ?_
                refine gf_X11_57_0 dX11_numberOf_220 rfl ?_
                refine r_iload_n 1 dX11_numberOf_223 rfl rfl rfl ?_
                obtain ⟨hi20, h⟩ := gi h
                refine alM_16 hi20 dX11_numberOf_224 rfl ?_
                obtain ⟨hi21, h⟩ := gi h
                refine alM_19 hi21 dX11_numberOf_225 rfl ?_
                obtain ⟨v23, e22, h⟩ := bd h
                refine r_callS (As := [.long v19, .long (ldL σ 3 (ldA σ 13 x1))]) (rest := [.int x1, .ref (xq X 19)]) (T_X11_plus e22) (by decide) mf_X11_plus rfl tw_1153 tw_1152 rfl (Nat.le_of_ble_eq_true rfl) dX11_numberOf_226 rfl ?_
                refine r_call0 ?_
                obtain ⟨hi24, h⟩ := gi h
                refine asM_19 hi24 dX11_numberOf_229 rfl ?_
                refine r_goto (t := 295) dX11_numberOf_230 (by decide) ?_
                exact r_vretS dX11_numberOf_295 h
              · have h := it_n c16 h
                refine r_aload_n 0 dX11_numberOf_190 rfl rfl rfl ?_
                refine gf_X11_66_0 dX11_numberOf_191 rfl ?_
                refine r_aload_n 0 dX11_numberOf_194 rfl rfl rfl ?_
                refine gf_X11_57_0 dX11_numberOf_195 rfl ?_
                refine r_iload_n 1 dX11_numberOf_198 rfl rfl rfl ?_
                obtain ⟨hi25, h⟩ := gi h
                refine alM_16 hi25 dX11_numberOf_199 rfl ?_
                obtain ⟨hi26, h⟩ := gi h
                refine alM_19 hi26 dX11_numberOf_200 rfl ?_
                refine r_goto (t := 229) dX11_numberOf_201 (by decide) ?_
                obtain ⟨hi27, h⟩ := gi h
                refine asM_19 hi27 dX11_numberOf_229 rfl ?_
                refine r_goto (t := 295) dX11_numberOf_230 (by decide) ?_
                exact r_vretS dX11_numberOf_295 h
            · have h := it_f c14 h
              by_cases c28 : (ldA σ 0 x2) = 4
              · have h := it_t c28 h
                refine r_tableIn (t := 233) dX11_numberOf_82 (by rw [c28]; decide) (by rw [c28]; decide) (by rw [c28]; rfl) (by decide) ?_
                refine r_aload_n 0 dX11_numberOf_233 rfl rfl rfl ?_
                refine gf_X11_66_0 dX11_numberOf_234 rfl ?_
                refine r_iload_n 1 dX11_numberOf_237 rfl rfl rfl ?_
                refine r_aload_n 0 dX11_numberOf_238 rfl rfl rfl ?_
                refine r_iload_n 2 dX11_numberOf_239 rfl rfl rfl ?_
                refine r_iload_n 3 dX11_numberOf_240 rfl rfl rfl ?_
                refine r_aload_n 0 dX11_numberOf_241 rfl rfl rfl ?_
                refine gf_X11_57_0 dX11_numberOf_242 rfl ?_
                refine r_iload_n 1 dX11_numberOf_245 rfl rfl rfl ?_
                obtain ⟨hi29, h⟩ := gi h
                refine alM_16 hi29 dX11_numberOf_246 rfl ?_
                obtain ⟨v31, e30, h⟩ := bd h
                refine r_callV (rest := [.int x1, .ref (xq X 19)]) (T_X11_numberOfRow e30) (by decide) mf_X11_numberOfRow rfl tw_1308 tw_80 tw_1306 cM_0 rfl rfl rfl (Nat.le_of_ble_eq_true rfl) dX11_numberOf_247 rfl ?_
                refine r_call0 ?_
                obtain ⟨hi32, h⟩ := gi h
                refine asM_19 hi32 dX11_numberOf_250 rfl ?_
                refine r_goto (t := 295) dX11_numberOf_251 (by decide) ?_
                exact r_vretS dX11_numberOf_295 h
              · have h := it_f c28 h
                by_cases c33 : (ldA σ 0 x2) = 5
                · have h := it_t c33 h
                  refine r_tableIn (t := 289) dX11_numberOf_82 (by rw [c33]; decide) (by rw [c33]; decide) (by rw [c33]; rfl) (by decide) ?_
                  refine r_aload_n 0 dX11_numberOf_289 rfl rfl rfl ?_
                  refine r_iload_n 1 dX11_numberOf_290 rfl rfl rfl ?_
                  refine r_iload_n 2 dX11_numberOf_291 rfl rfl rfl ?_
                  obtain ⟨σ35, e34, h⟩ := bd h
                  refine r_callV (rest := []) (T_X11_numberOfSet e34) (by decide) mf_X11_numberOfSet rfl tw_1312 tw_81 tw_1310 cM_0 rfl rfl rfl (Nat.le_of_ble_eq_true rfl) dX11_numberOf_292 rfl ?_
                  refine r_calln ?_
                  exact r_vretS dX11_numberOf_295 h
                · have h := it_f c33 h
                  by_cases c36 : (ldA σ 0 x2) = 6
                  · have h := it_t c36 h
                    refine r_tableIn (t := 289) dX11_numberOf_82 (by rw [c36]; decide) (by rw [c36]; decide) (by rw [c36]; rfl) (by decide) ?_
                    refine r_aload_n 0 dX11_numberOf_289 rfl rfl rfl ?_
                    refine r_iload_n 1 dX11_numberOf_290 rfl rfl rfl ?_
                    refine r_iload_n 2 dX11_numberOf_291 rfl rfl rfl ?_
                    obtain ⟨σ38, e37, h⟩ := bd h
                    refine r_callV (rest := []) (T_X11_numberOfSet e37) (by decide) mf_X11_numberOfSet rfl tw_1312 tw_81 tw_1310 cM_0 rfl rfl rfl (Nat.le_of_ble_eq_true rfl) dX11_numberOf_292 rfl ?_
                    refine r_calln ?_
                    exact r_vretS dX11_numberOf_295 h
                  · have h := it_f c36 h
                    by_cases c39 : (ldA σ 0 x2) = 7
                    · have h := it_t c39 h
                      refine r_tableIn (t := 254) dX11_numberOf_82 (by rw [c39]; decide) (by rw [c39]; decide) (by rw [c39]; rfl) (by decide) ?_
                      refine r_aload_n 0 dX11_numberOf_254 rfl rfl rfl ?_
                      refine gf_X11_66_0 dX11_numberOf_255 rfl ?_
                      refine r_iload_n 1 dX11_numberOf_258 rfl rfl rfl ?_
                      refine r_aload_n 0 dX11_numberOf_259 rfl rfl rfl ?_
                      refine gf_X11_66_0 dX11_numberOf_260 rfl ?_
                      refine r_aload_n 0 dX11_numberOf_263 rfl rfl rfl ?_
                      refine gf_X11_57_0 dX11_numberOf_264 rfl ?_
                      refine r_iload_n 1 dX11_numberOf_267 rfl rfl rfl ?_
                      obtain ⟨hi40, h⟩ := gi h
                      refine alM_16 hi40 dX11_numberOf_268 rfl ?_
                      obtain ⟨hi41, h⟩ := gi h
                      refine alM_19 hi41 dX11_numberOf_269 rfl ?_
                      obtain ⟨hi42, h⟩ := gi h
                      refine asM_19 hi42 dX11_numberOf_270 rfl ?_
                      refine r_goto (t := 295) dX11_numberOf_271 (by decide) ?_
                      exact r_vretS dX11_numberOf_295 h
                    · have h := it_f c39 h
                      by_cases c43 : (ldA σ 0 x2) = 8
                      · have h := it_t c43 h
                        refine r_tableIn (t := 274) dX11_numberOf_82 (by rw [c43]; decide) (by rw [c43]; decide) (by rw [c43]; rfl) (by decide) ?_
                        refine r_aload_n 0 dX11_numberOf_274 rfl rfl rfl ?_
                        refine gf_X11_66_0 dX11_numberOf_275 rfl ?_
                        refine r_iload_n 1 dX11_numberOf_278 rfl rfl rfl ?_
                        refine r_aload_n 0 dX11_numberOf_279 rfl rfl rfl ?_
                        refine gf_X11_63_0 dX11_numberOf_280 rfl ?_
                        refine r_iload_n 1 dX11_numberOf_283 rfl rfl rfl ?_
                        obtain ⟨hi44, h⟩ := gi h
                        refine alM_18 hi44 dX11_numberOf_284 rfl ?_
                        obtain ⟨hi45, h⟩ := gi h
                        refine asM_19 hi45 dX11_numberOf_285 rfl ?_
                        refine r_goto (t := 295) dX11_numberOf_286 (by decide) ?_
                        exact r_vretS dX11_numberOf_295 h
                      · have h := it_f c43 h
                        refine r_tableOut (t := 289) dX11_numberOf_82 (by have z0 := neL c3 (z := 0) rfl; have z1 := neL c5 (z := 1) rfl; have z2 := neL c7 (z := 2) rfl; have z3 := neL c14 (z := 3) rfl; have z4 := neL c28 (z := 4) rfl; have z5 := neL c33 (z := 5) rfl; have z6 := neL c36 (z := 6) rfl; have z7 := neL c39 (z := 7) rfl; have z8 := neL c43 (z := 8) rfl; omega) (by decide) ?_
                        refine r_aload_n 0 dX11_numberOf_289 rfl rfl rfl ?_
                        refine r_iload_n 1 dX11_numberOf_290 rfl rfl rfl ?_
                        refine r_iload_n 2 dX11_numberOf_291 rfl rfl rfl ?_
                        obtain ⟨σ47, e46, h⟩ := bd h
                        refine r_callV (rest := []) (T_X11_numberOfSet e46) (by decide) mf_X11_numberOfSet rfl tw_1312 tw_81 tw_1310 cM_0 rfl rfl rfl (Nat.le_of_ble_eq_true rfl) dX11_numberOf_292 rfl ?_
                        refine r_calln ?_
                        exact r_vretS dX11_numberOf_295 h
    · have h := it_f c1 h
      refine r_aload_n 0 dX11_numberOf_34 rfl rfl rfl ?_
      refine gf_X11_69_0 dX11_numberOf_35 rfl ?_
      refine r_iload_n 1 dX11_numberOf_38 rfl rfl rfl ?_
      refine r_aload_n 0 dX11_numberOf_39 rfl rfl rfl ?_
      refine gf_X11_69_0 dX11_numberOf_40 rfl ?_
      refine r_iload_n 1 dX11_numberOf_43 rfl rfl rfl ?_
      obtain ⟨hi48, h⟩ := gi h
      refine alM_20 hi48 dX11_numberOf_44 rfl ?_
      refine r_if_ne (t := 58) dX11_numberOf_45 (by decide) rfl (fun c49 => ?_) (fun c49 => ?_)
      · have h := it_t c49 h
        exact T_X11_numberOf_j58 ih x1 x2 x3 x4 x1 σ h
      · have h := it_n c49 h
        refine r_aload_n 0 dX11_numberOf_48 rfl rfl rfl ?_
        refine gf_X11_69_0 dX11_numberOf_49 rfl ?_
        refine r_iload 4 dX11_numberOf_52 rfl rfl ?_
        obtain ⟨hi50, h⟩ := gi h
        refine alM_20 hi50 dX11_numberOf_54 rfl ?_
        refine r_if_eq (t := 62) dX11_numberOf_55 (by decide) rfl (fun c51 => ?_) (fun c51 => ?_)
        · have h := it_t c51 h
          refine ric_0 dX11_numberOf_62 rfl ?_
          exact T_X11_numberOf_j63 ih x1 x2 x3 x4 0 x1 σ h
        · have h := it_f c51 h
          exact T_X11_numberOf_j58 ih x1 x2 x3 x4 x1 σ h
def P_X11_numberOf (a1 : Int32) (σ : SS) : Option SS :=
  gI a1 310 <|
  gI a1 310 <|
  gI a1 310 <|
  gI a1 310 <|
  P_X11_numberOf_j29 FU a1 (ldA σ 10 a1) (ldA σ 12 a1) (ldA (stZ σ 15 a1 0) 13 a1) (stZ σ 15 a1 0)
set_option maxHeartbeats 4000000 in
set_option maxRecDepth 100000 in
theorem T_X11_numberOf {X : XE} {σf : SS} {σ : SS} {a1 : Int32} (h : P_X11_numberOf a1 σ = some σf) : Mt (gM X) 4 yX11_numberOf cX11_numberOf 5 none [.ref (xq X 0), .int a1] σ none σf := by
  refine Mt.of (own := RX11) (lv := [(0, .ref (xq X 0)), (1, .int a1)]) pn_X11 rfl (Nat.le_of_ble_eq_true rfl) rfl ?_
  unfold P_X11_numberOf at h
  refine r_aload_n 0 dX11_numberOf_0 rfl rfl rfl ?_
  refine gf_X11_48_0 dX11_numberOf_1 rfl ?_
  refine r_iload_n 1 dX11_numberOf_4 rfl rfl rfl ?_
  obtain ⟨hi1, h⟩ := gi h
  refine alM_13 hi1 dX11_numberOf_5 rfl ?_
  refine r_istore_n (lv' := [(2, .int (ldA σ 10 a1)), (0, .ref (xq X 0)), (1, .int a1)]) dX11_numberOf_6 rfl (by decide) rfl rfl ?_
  refine r_aload_n 1 dX11_numberOf_7 rfl rfl rfl ?_
  refine gf_X11_54_0 dX11_numberOf_8 rfl ?_
  refine r_iload_n 2 dX11_numberOf_11 rfl rfl rfl ?_
  obtain ⟨hi2, h⟩ := gi h
  refine alM_15 hi2 dX11_numberOf_12 rfl ?_
  refine r_istore_n (lv' := [(3, .int (ldA σ 12 a1)), (2, .int (ldA σ 10 a1)), (0, .ref (xq X 0)), (1, .int a1)]) dX11_numberOf_13 rfl (by decide) rfl rfl ?_
  refine r_aload_n 2 dX11_numberOf_14 rfl rfl rfl ?_
  refine gf_X11_69_0 dX11_numberOf_15 rfl ?_
  refine r_iload_n 3 dX11_numberOf_18 rfl rfl rfl ?_
  refine ric_0 dX11_numberOf_19 rfl ?_
  obtain ⟨hi3, h⟩ := gi h
  refine asM_20 hi3 dX11_numberOf_20 rfl ?_
  refine r_aload_n 2 dX11_numberOf_21 rfl rfl rfl ?_
  refine gf_X11_57_0 dX11_numberOf_22 rfl ?_
  refine r_iload_n 3 dX11_numberOf_25 rfl rfl rfl ?_
  obtain ⟨hi4, h⟩ := gi h
  refine alM_16 hi4 dX11_numberOf_26 rfl ?_
  refine r_istore (lv' := [(4, .int (ldA (stZ σ 15 a1 0) 13 a1)), (3, .int (ldA σ 12 a1)), (2, .int (ldA σ 10 a1)), (0, .ref (xq X 0)), (1, .int a1)]) dX11_numberOf_27 (by decide) rfl rfl ?_
  refine r_sub [3, 4, 2, 1, 0] rfl ?_
  exact T_X11_numberOf_j29 FU a1 (ldA σ 10 a1) (ldA σ 12 a1) (ldA (stZ σ 15 a1 0) 13 a1) (stZ σ 15 a1 0) h
def P_X11_readHere_j165 (x2 : Int32) (σ : SS) : Option (Int64 × SS) :=
  gI x2 310 <|
  if ¬ (sI (uI (uI σ 12 0) 13 (ldA (uI σ 12 0) 12 x2)) 10) = 0 then
    some ((-2000000004), (uI (uI σ 12 0) 13 (ldA (uI σ 12 0) 12 x2)))
  else
    gI x2 310 <|
    if (ldL (uI (uI σ 12 0) 13 (ldA (uI σ 12 0) 12 x2)) 3 x2) < 10000000000000000 then
      gI x2 310 <|
      some ((ldL (uI (uI σ 12 0) 13 (ldA (uI σ 12 0) 12 x2)) 3 x2), (uI (uI σ 12 0) 13 (ldA (uI σ 12 0) 12 x2)))
    else
      some ((-2000000004), (uI (uI σ 12 0) 13 (ldA (uI σ 12 0) 12 x2)))
set_option maxHeartbeats 4000000 in
set_option maxRecDepth 100000 in
theorem T_X11_readHere_j165 {X : XE} {σf : SS} {r : Int64} : ∀ (x2 : Int32) (σ : SS), P_X11_readHere_j165 x2 σ = some (r, σf) → V (gM X) 624 RX11 cX11_readHere 5 (some .long) (some (.long r)) σf 165 [(0, .ref (xq X 0)), (2, .int x2)] [] σ := by
  intro x2 σ h
  unfold P_X11_readHere_j165 at h
  refine r_aload_n 0 dX11_readHere_165 rfl rfl rfl ?_
  refine ric_0 dX11_readHere_166 rfl ?_
  refine pf_X11_315_0 dX11_readHere_167 rfl ?_
  refine r_aload_n 0 dX11_readHere_170 rfl rfl rfl ?_
  refine r_aload_n 0 dX11_readHere_171 rfl rfl rfl ?_
  refine gf_X11_54_0 dX11_readHere_172 rfl ?_
  refine r_iload_n 1 dX11_readHere_175 rfl rfl rfl ?_
  obtain ⟨hi1, h⟩ := gi h
  refine alM_15 hi1 dX11_readHere_176 rfl ?_
  refine pf_X11_318_0 dX11_readHere_177 rfl ?_
  refine r_aload_n 0 dX11_readHere_180 rfl rfl rfl ?_
  refine gf_X11_302_0 dX11_readHere_181 rfl ?_
  refine r_if_ne (t := 200) dX11_readHere_184 (by decide) rfl (fun c2 => ?_) (fun c2 => ?_)
  · have h := it_t c2 h
    refine r_ldc2 (v := (-2000000004)) tw_1191 dX11_readHere_200 rfl ?_
    refine r_goto (t := 212) dX11_readHere_203 (by decide) ?_
    exact r_lretQ dX11_readHere_212 h
  · have h := it_n c2 h
    refine r_aload_n 0 dX11_readHere_187 rfl rfl rfl ?_
    refine gf_X11_66_0 dX11_readHere_188 rfl ?_
    refine r_iload_n 1 dX11_readHere_191 rfl rfl rfl ?_
    obtain ⟨hi3, h⟩ := gi h
    refine alM_19 hi3 dX11_readHere_192 rfl ?_
    refine r_ldc2 (v := 10000000000000000) tw_1151 dX11_readHere_193 rfl ?_
    refine r_lif_lt (t := 206) dX11_readHere_196 rfl dX11_readHere_197 (by decide) rfl (fun c4 => ?_) (fun c4 => ?_)
    · have h := it_t c4 h
      refine r_aload_n 0 dX11_readHere_206 rfl rfl rfl ?_
      refine gf_X11_66_0 dX11_readHere_207 rfl ?_
      refine r_iload_n 1 dX11_readHere_210 rfl rfl rfl ?_
      obtain ⟨hi5, h⟩ := gi h
      refine alM_19 hi5 dX11_readHere_211 rfl ?_
      exact r_lretQ dX11_readHere_212 h
    · have h := it_f c4 h
      refine r_ldc2 (v := (-2000000004)) tw_1191 dX11_readHere_200 rfl ?_
      refine r_goto (t := 212) dX11_readHere_203 (by decide) ?_
      exact r_lretQ dX11_readHere_212 h
def P_X11_readHere_j117 : Nat → Int32 → Int32 → SS → Option (Int64 × SS)
  | 0, _, _, _ => none
  | n + 1, x2, x4, σ =>
    if x4 < 1 then
      if ¬ (sI σ 10) = 0 then
        P_X11_readHere_j165 x2 σ
      else
        if (sI σ 9) < 0 then
          P_X11_readHere_j165 x2 σ
        else
          gI x2 310 <|
          b2 (P_X11_fault 3 (sI σ 9) (ldA σ 12 x2) σ) fun v6 σ7 =>
          some (v6, σ7)
    else
      (P_X11_numberOf x4 σ).bind fun σ9 =>
      (P_X11_readHere_j117 n) x2 (x4 + (-1)) σ9
set_option maxHeartbeats 4000000 in
set_option maxRecDepth 100000 in
theorem T_X11_readHere_j117 {X : XE} {σf : SS} {r : Int64} : ∀ (fu : Nat) (x2 : Int32) (x4 : Int32) (σ : SS), P_X11_readHere_j117 fu x2 x4 σ = some (r, σf) → V (gM X) 624 RX11 cX11_readHere 5 (some .long) (some (.long r)) σf 117 [(0, .ref (xq X 0)), (2, .int x2), (4, .int x4)] [] σ := by
  intro fu
  induction fu with
  | zero => intro x2 x4 σ h; exact no0 h
  | succ n ih =>
    intro x2 x4 σ h
    unfold P_X11_readHere_j117 at h
    refine r_iload 2 dX11_readHere_117 rfl rfl ?_
    refine ric_1 dX11_readHere_119 rfl ?_
    refine r_icmp_lt (t := 135) dX11_readHere_120 (by decide) rfl (fun c1 => ?_) (fun c1 => ?_)
    · have h := it_t c1 h
      refine r_aload_n 0 dX11_readHere_135 rfl rfl rfl ?_
      refine gf_X11_302_0 dX11_readHere_136 rfl ?_
      refine r_if_ne (t := 165) dX11_readHere_139 (by decide) rfl (fun c2 => ?_) (fun c2 => ?_)
      · have h := it_t c2 h
        refine r_sub [0, 1] rfl ?_
        exact T_X11_readHere_j165 x2 σ h
      · have h := it_n c2 h
        refine r_aload_n 0 dX11_readHere_142 rfl rfl rfl ?_
        refine gf_X11_312_0 dX11_readHere_143 rfl ?_
        refine r_if_lt (t := 165) dX11_readHere_146 (by decide) rfl (fun c3 => ?_) (fun c3 => ?_)
        · have h := it_t c3 h
          refine r_sub [0, 1] rfl ?_
          exact T_X11_readHere_j165 x2 σ h
        · have h := it_f c3 h
          refine r_aload_n 0 dX11_readHere_149 rfl rfl rfl ?_
          refine ric_3 dX11_readHere_150 rfl ?_
          refine r_aload_n 0 dX11_readHere_151 rfl rfl rfl ?_
          refine gf_X11_312_0 dX11_readHere_152 rfl ?_
          refine r_aload_n 0 dX11_readHere_155 rfl rfl rfl ?_
          refine gf_X11_54_0 dX11_readHere_156 rfl ?_
          refine r_iload_n 1 dX11_readHere_159 rfl rfl rfl ?_
          obtain ⟨hi4, h⟩ := gi h
          refine alM_15 hi4 dX11_readHere_160 rfl ?_
          obtain ⟨v6, σ7, e5, h⟩ := b2d h
          refine r_callV (rest := []) (T_X11_fault e5) (by decide) mf_X11_fault rfl tw_1291 tw_76 tw_1289 cM_0 rfl rfl rfl (Nat.le_of_ble_eq_true rfl) dX11_readHere_161 rfl ?_
          refine r_call0 ?_
          exact r_lretQ dX11_readHere_164 h
    · have h := it_f c1 h
      refine r_aload_n 0 dX11_readHere_123 rfl rfl rfl ?_
      refine r_iload 2 dX11_readHere_124 rfl rfl ?_
      obtain ⟨σ9, e8, h⟩ := bd h
      refine r_callV (rest := []) (T_X11_numberOf e8) (by decide) mf_X11_numberOf rfl tw_1300 tw_78 tw_1298 cM_0 rfl rfl rfl (Nat.le_of_ble_eq_true rfl) dX11_readHere_126 rfl ?_
      refine r_calln ?_
      refine r_iinc (v := (x4 + (-1))) (lv' := [(4, .int (x4 + (-1))), (0, .ref (xq X 0)), (2, .int x2)]) 2 dX11_readHere_129 rfl rfl (by decide) rfl rfl ?_
      refine r_goto (t := 117) dX11_readHere_132 (by decide) ?_
      refine r_sub [1, 2, 0] rfl ?_
      exact ih x2 (x4 + (-1)) σ9 h
def P_X11_readHere_j47 (x2 : Int32) (σ : SS) : Option (Int64 × SS) :=
  if (sI σ 8) < 0 then
    (P_X11_wrongCut σ).bind fun v3 =>
    if v3 < 0 then
      gI x2 310 <|
      if (ldA σ 12 x2) < 25 then
        P_X11_readHere_j117 FU x2 (sI (uI (uI σ 9 (-1)) 10 0) 6) (uI (uI σ 9 (-1)) 10 0)
      else
        b2 (P_X11_fault 4 0 (-1) σ) fun v8 σ9 =>
        some (v8, σ9)
    else
      b2 (P_X11_fault 2 v3 (-1) σ) fun v11 σ12 =>
      some (v11, σ12)
  else
    b2 (P_X11_fault 1 (sI σ 8) (-1) σ) fun v14 σ15 =>
    some (v14, σ15)
set_option maxHeartbeats 4000000 in
set_option maxRecDepth 100000 in
theorem T_X11_readHere_j47 {X : XE} {σf : SS} {r : Int64} : ∀ (x2 : Int32) (σ : SS), P_X11_readHere_j47 x2 σ = some (r, σf) → V (gM X) 624 RX11 cX11_readHere 5 (some .long) (some (.long r)) σf 47 [(0, .ref (xq X 0)), (2, .int x2)] [] σ := by
  intro x2 σ h
  unfold P_X11_readHere_j47 at h
  refine r_aload_n 0 dX11_readHere_47 rfl rfl rfl ?_
  refine gf_X11_263_0 dX11_readHere_48 rfl ?_
  refine r_if_lt (t := 65) dX11_readHere_51 (by decide) rfl (fun c1 => ?_) (fun c1 => ?_)
  · have h := it_t c1 h
    refine r_aload_n 0 dX11_readHere_65 rfl rfl rfl ?_
    obtain ⟨v3, e2, h⟩ := bd h
    refine r_callV (rest := []) (T_X11_wrongCut e2) (by decide) mf_X11_wrongCut rfl tw_1296 tw_77 tw_1294 cM_0 rfl rfl rfl (Nat.le_of_ble_eq_true rfl) dX11_readHere_66 rfl ?_
    refine r_call0 ?_
    refine r_istore_n (lv' := [(3, .int v3), (0, .ref (xq X 0)), (2, .int x2)]) dX11_readHere_69 rfl (by decide) rfl rfl ?_
    refine r_iload_n 0 dX11_readHere_70 rfl rfl rfl ?_
    refine r_if_lt (t := 82) dX11_readHere_71 (by decide) rfl (fun c4 => ?_) (fun c4 => ?_)
    · have h := it_t c4 h
      refine r_aload_n 1 dX11_readHere_82 rfl rfl rfl ?_
      refine gf_X11_54_0 dX11_readHere_83 rfl ?_
      refine r_iload_n 2 dX11_readHere_86 rfl rfl rfl ?_
      obtain ⟨hi5, h⟩ := gi h
      refine alM_15 hi5 dX11_readHere_87 rfl ?_
      refine r_bipush (v := 25) dX11_readHere_88 (by decide) rfl ?_
      refine r_icmp_lt (t := 101) dX11_readHere_90 (by decide) rfl (fun c6 => ?_) (fun c6 => ?_)
      · have h := it_t c6 h
        refine r_aload_n 1 dX11_readHere_101 rfl rfl rfl ?_
        refine ric_m1 dX11_readHere_102 rfl ?_
        refine pf_X11_312_0 dX11_readHere_103 rfl ?_
        refine r_aload_n 1 dX11_readHere_106 rfl rfl rfl ?_
        refine ric_0 dX11_readHere_107 rfl ?_
        refine pf_X11_302_0 (Or.inl rfl) dX11_readHere_108 rfl ?_
        refine r_aload_n 1 dX11_readHere_111 rfl rfl rfl ?_
        refine gf_X11_270_0 dX11_readHere_112 rfl ?_
        refine r_istore (lv' := [(4, .int (sI (uI (uI σ 9 (-1)) 10 0) 6)), (3, .int v3), (0, .ref (xq X 0)), (2, .int x2)]) dX11_readHere_115 (by decide) rfl rfl ?_
        refine r_sub [2, 3, 0] rfl ?_
        exact T_X11_readHere_j117 FU x2 (sI (uI (uI σ 9 (-1)) 10 0) 6) (uI (uI σ 9 (-1)) 10 0) h
      · have h := it_f c6 h
        refine r_aload_n 1 dX11_readHere_93 rfl rfl rfl ?_
        refine ric_4 dX11_readHere_94 rfl ?_
        refine ric_0 dX11_readHere_95 rfl ?_
        refine ric_m1 dX11_readHere_96 rfl ?_
        obtain ⟨v8, σ9, e7, h⟩ := b2d h
        refine r_callV (rest := []) (T_X11_fault e7) (by decide) mf_X11_fault rfl tw_1291 tw_76 tw_1289 cM_0 rfl rfl rfl (Nat.le_of_ble_eq_true rfl) dX11_readHere_97 rfl ?_
        refine r_call0 ?_
        exact r_lretQ dX11_readHere_100 h
    · have h := it_f c4 h
      refine r_aload_n 1 dX11_readHere_74 rfl rfl rfl ?_
      refine ric_2 dX11_readHere_75 rfl ?_
      refine r_iload_n 0 dX11_readHere_76 rfl rfl rfl ?_
      refine ric_m1 dX11_readHere_77 rfl ?_
      obtain ⟨v11, σ12, e10, h⟩ := b2d h
      refine r_callV (rest := []) (T_X11_fault e10) (by decide) mf_X11_fault rfl tw_1291 tw_76 tw_1289 cM_0 rfl rfl rfl (Nat.le_of_ble_eq_true rfl) dX11_readHere_78 rfl ?_
      refine r_call0 ?_
      exact r_lretQ dX11_readHere_81 h
  · have h := it_f c1 h
    refine r_aload_n 0 dX11_readHere_54 rfl rfl rfl ?_
    refine ric_1 dX11_readHere_55 rfl ?_
    refine r_aload_n 0 dX11_readHere_56 rfl rfl rfl ?_
    refine gf_X11_263_0 dX11_readHere_57 rfl ?_
    refine ric_m1 dX11_readHere_60 rfl ?_
    obtain ⟨v14, σ15, e13, h⟩ := b2d h
    refine r_callV (rest := []) (T_X11_fault e13) (by decide) mf_X11_fault rfl tw_1291 tw_76 tw_1289 cM_0 rfl rfl rfl (Nat.le_of_ble_eq_true rfl) dX11_readHere_61 rfl ?_
    refine r_call0 ?_
    exact r_lretQ dX11_readHere_64 h
def P_X11_readHere (a1 : Int32) (σ : SS) : Option (Int64 × SS) :=
  b2 (P_X11_part LV a1 (uI (uI (uI σ 7 0) 8 (-1)) 6 0)) fun v2 σ3 =>
  if 0 ≤ (sI σ3 8) then
    P_X11_readHere_j47 v2 σ3
  else
    if (sI σ3 3) ≤ (sI σ3 7) then
      P_X11_readHere_j47 v2 σ3
    else
      P_X11_readHere_j47 v2 (uI σ3 8 (sI σ3 7))
set_option maxHeartbeats 4000000 in
set_option maxRecDepth 100000 in
theorem T_X11_readHere {X : XE} {σf : SS} {r : Int64} {σ : SS} {a1 : Int32} (h : P_X11_readHere a1 σ = some (r, σf)) : Mt (gM X) 624 yX11_readHere cX11_readHere 5 (some .long) [.ref (xq X 0), .int a1] σ (some (.long r)) σf := by
  refine Mt.of (own := RX11) (lv := [(0, .ref (xq X 0)), (1, .int a1)]) pn_X11 rfl (Nat.le_of_ble_eq_true rfl) rfl ?_
  unfold P_X11_readHere at h
  refine r_aload_n 0 dX11_readHere_0 rfl rfl rfl ?_
  refine ric_0 dX11_readHere_1 rfl ?_
  refine pf_X11_260_0 dX11_readHere_2 rfl ?_
  refine r_aload_n 0 dX11_readHere_5 rfl rfl rfl ?_
  refine ric_m1 dX11_readHere_6 rfl ?_
  refine pf_X11_263_0 dX11_readHere_7 rfl ?_
  refine r_aload_n 0 dX11_readHere_10 rfl rfl rfl ?_
  refine ric_0 dX11_readHere_11 rfl ?_
  refine pf_X11_270_0 dX11_readHere_12 rfl ?_
  refine r_aload_n 0 dX11_readHere_15 rfl rfl rfl ?_
  refine r_iload_n 1 dX11_readHere_16 rfl rfl rfl ?_
  obtain ⟨v2, σ3, e1, h⟩ := b2d h
  refine r_callV (rest := []) (T_X11_part LV e1) (by decide) mf_X11_part rfl tw_1263 tw_69 tw_1261 cM_0 rfl rfl rfl (Nat.le_of_ble_eq_true rfl) dX11_readHere_17 rfl ?_
  refine r_call0 ?_
  refine r_istore_n (lv' := [(2, .int v2), (0, .ref (xq X 0)), (1, .int a1)]) dX11_readHere_20 rfl (by decide) rfl rfl ?_
  refine r_aload_n 1 dX11_readHere_21 rfl rfl rfl ?_
  refine gf_X11_263_0 dX11_readHere_22 rfl ?_
  refine r_if_ge (t := 47) dX11_readHere_25 (by decide) rfl (fun c4 => ?_) (fun c4 => ?_)
  · have h := it_t c4 h
    refine r_sub [1, 0] rfl ?_
    exact T_X11_readHere_j47 v2 σ3 h
  · have h := it_f c4 h
    refine r_aload_n 1 dX11_readHere_28 rfl rfl rfl ?_
    refine gf_X11_260_0 dX11_readHere_29 rfl ?_
    refine r_aload_n 1 dX11_readHere_32 rfl rfl rfl ?_
    refine gf_X11_254_0 dX11_readHere_33 rfl ?_
    refine r_icmp_ge (t := 47) dX11_readHere_36 (by decide) rfl (fun c5 => ?_) (fun c5 => ?_)
    · have h := it_t c5 h
      refine r_sub [1, 0] rfl ?_
      exact T_X11_readHere_j47 v2 σ3 h
    · have h := it_f c5 h
      refine r_aload_n 1 dX11_readHere_39 rfl rfl rfl ?_
      refine r_aload_n 1 dX11_readHere_40 rfl rfl rfl ?_
      refine gf_X11_260_0 dX11_readHere_41 rfl ?_
      refine pf_X11_263_0 dX11_readHere_44 rfl ?_
      refine r_sub [1, 0] rfl ?_
      exact T_X11_readHere_j47 v2 (uI σ3 8 (sI σ3 7)) h
def P_X11_read (a1 : Int32) (σ : SS) : Option (Int64 × SS) :=
  (P_X11_isShape a1 σ).bind fun v2 =>
  if v2 = 0 then
    some ((-2000000001), (uI σ 3 0))
  else
    if (sI σ 1) = 0 then
      some ((-2000000002), (uI σ 3 0))
    else
      b2 (P_X11_readHere a1 (uI (uI σ 11 1) 14 (sI (uI σ 11 1) 3))) fun v6 σ7 =>
      some (v6, (uI σ7 3 0))
set_option maxHeartbeats 4000000 in
set_option maxRecDepth 100000 in
theorem T_X11_read {X : XE} {σf : SS} {r : Int64} {σ : SS} {a1 : Int32} (h : P_X11_read a1 σ = some (r, σf)) : Mt (gM X) 625 yX11_read cX11_read 4 (some .long) [.ref (xq X 0), .int a1] σ (some (.long r)) σf := by
  refine Mt.of (own := RX11) (lv := [(0, .ref (xq X 0)), (1, .int a1)]) pn_X11 rfl (Nat.le_of_ble_eq_true rfl) rfl ?_
  unfold P_X11_read at h
  refine r_ldc2 (v := (-2000000001)) tw_1060 dX11_read_0 rfl ?_
  refine r_lstore_n (lv' := [(2, .long (-2000000001)), (0, .ref (xq X 0)), (1, .int a1)]) dX11_read_3 rfl (by decide) rfl rfl ?_
  refine r_aload_n 1 dX11_read_4 rfl rfl rfl ?_
  refine r_iload_n 2 dX11_read_5 rfl rfl rfl ?_
  obtain ⟨v2, e1, h⟩ := bd h
  refine r_callV (rest := []) (T_X11_isShape e1) (by decide) mf_X11_isShape rfl tw_1076 tw_41 tw_1074 cM_0 rfl rfl rfl (Nat.le_of_ble_eq_true rfl) dX11_read_6 rfl ?_
  refine r_call0 ?_
  refine r_if_eq (t := 42) dX11_read_9 (by decide) rfl (fun c3 => ?_) (fun c3 => ?_)
  · have h := it_t c3 h
    refine r_aload_n 1 dX11_read_42 rfl rfl rfl ?_
    refine ric_0 dX11_read_43 rfl ?_
    refine pf_X11_254_0 dX11_read_44 rfl ?_
    refine r_lload_n 0 dX11_read_47 rfl rfl rfl ?_
    exact r_lretQ dX11_read_48 h
  · have h := it_f c3 h
    refine r_ldc2 (v := (-2000000002)) tw_1082 dX11_read_12 rfl ?_
    refine r_lstore_n (lv' := [(2, .long (-2000000002)), (0, .ref (xq X 0)), (1, .int a1)]) dX11_read_15 rfl (by decide) rfl rfl ?_
    refine r_aload_n 1 dX11_read_16 rfl rfl rfl ?_
    refine gf_X11_98_0 dX11_read_17 rfl ?_
    refine r_if_eq (t := 42) dX11_read_20 (by decide) rfl (fun c4 => ?_) (fun c4 => ?_)
    · have h := it_t c4 h
      refine r_aload_n 1 dX11_read_42 rfl rfl rfl ?_
      refine ric_0 dX11_read_43 rfl ?_
      refine pf_X11_254_0 dX11_read_44 rfl ?_
      refine r_lload_n 0 dX11_read_47 rfl rfl rfl ?_
      exact r_lretQ dX11_read_48 h
    · have h := it_f c4 h
      refine r_aload_n 1 dX11_read_23 rfl rfl rfl ?_
      refine ric_1 dX11_read_24 rfl ?_
      refine pf_X11_75_0 (Or.inr rfl) dX11_read_25 rfl ?_
      refine r_aload_n 1 dX11_read_28 rfl rfl rfl ?_
      refine r_aload_n 1 dX11_read_29 rfl rfl rfl ?_
      refine gf_X11_254_0 dX11_read_30 rfl ?_
      refine pf_X11_332_0 dX11_read_33 rfl ?_
      refine r_aload_n 1 dX11_read_36 rfl rfl rfl ?_
      refine r_iload_n 2 dX11_read_37 rfl rfl rfl ?_
      obtain ⟨v6, σ7, e5, h⟩ := b2d h
      refine r_callV (rest := []) (T_X11_readHere e5) (by decide) mf_X11_readHere rfl tw_1259 tw_68 tw_1257 cM_0 rfl rfl rfl (Nat.le_of_ble_eq_true rfl) dX11_read_38 rfl ?_
      refine r_call0 ?_
      refine r_lstore_n (lv' := [(2, .long v6), (0, .ref (xq X 0)), (1, .int a1)]) dX11_read_41 rfl (by decide) rfl rfl ?_
      refine r_aload_n 1 dX11_read_42 rfl rfl rfl ?_
      refine ric_0 dX11_read_43 rfl ?_
      refine pf_X11_254_0 dX11_read_44 rfl ?_
      refine r_lload_n 0 dX11_read_47 rfl rfl rfl ?_
      exact r_lretQ dX11_read_48 h
