def P_X11_thing_j93 : Nat → Int32 → SS → Option (Int64 × SS)
  | 0, _, _ => none
  | n + 1, x5, σ =>
    if (sI σ 4) ≤ x5 then
      some ((sI σ 4).toInt64, σ)
    else
      gI x5 300 <|
      gI x5 300 <|
      (P_X11_thing_j93 n) (x5 + 1) (stA σ 5 x5 (ldA σ 9 x5))
set_option maxHeartbeats 4000000 in
set_option maxRecDepth 100000 in
theorem T_X11_thing_j93 {X : XE} {σf : SS} {r : Int64} : ∀ (fu : Nat) (x5 : Int32) (σ : SS), P_X11_thing_j93 fu x5 σ = some (r, σf) → V (gM X) 625 RX11 cX11_thing 6 (some .long) (some (.long r)) σf 93 [(0, .ref (xq X 0)), (5, .int x5)] [] σ := by
  intro fu
  induction fu with
  | zero => intro x5 σ h; exact no0 h
  | succ n ih =>
    intro x5 σ h
    unfold P_X11_thing_j93 at h
    refine r_iload 1 dX11_thing_93 rfl rfl ?_
    refine r_aload_n 0 dX11_thing_95 rfl rfl rfl ?_
    refine gf_X11_251_0 dX11_thing_96 rfl ?_
    refine r_icmp_ge (t := 122) dX11_thing_99 (by decide) rfl (fun c1 => ?_) (fun c1 => ?_)
    · have h := it_t c1 h
      refine r_aload_n 0 dX11_thing_122 rfl rfl rfl ?_
      refine gf_X11_251_0 dX11_thing_123 rfl ?_
      refine r_i2l dX11_thing_126 rfl ?_
      exact r_lretQ dX11_thing_127 h
    · have h := it_f c1 h
      refine r_aload_n 0 dX11_thing_102 rfl rfl rfl ?_
      refine gf_X11_25_0 dX11_thing_103 rfl ?_
      refine r_iload 1 dX11_thing_106 rfl rfl ?_
      refine r_aload_n 0 dX11_thing_108 rfl rfl rfl ?_
      refine gf_X11_45_0 dX11_thing_109 rfl ?_
      refine r_iload 1 dX11_thing_112 rfl rfl ?_
      obtain ⟨hi2, h⟩ := gi h
      refine alM_12 hi2 dX11_thing_114 rfl ?_
      obtain ⟨hi3, h⟩ := gi h
      refine asM_6 hi3 dX11_thing_115 rfl ?_
      refine r_iinc (v := (x5 + 1)) (lv' := [(5, .int (x5 + 1)), (0, .ref (xq X 0))]) 1 dX11_thing_116 rfl rfl (by decide) rfl rfl ?_
      refine r_goto (t := 93) dX11_thing_119 (by decide) ?_
      refine r_sub [1, 0] rfl ?_
      exact ih (x5 + 1) (stA σ 5 x5 (ldA σ 9 x5)) h
def P_X11_thing (a1 : Int32) (a2 : Int32) (a3 : Int64) (σ : SS) : Option (Int64 × SS) :=
  (P_X11_isShape a1 σ).bind fun v2 =>
  if v2 = 0 then
    some ((-2000000001), σ)
  else
    (P_X11_isSize a2).bind fun v5 =>
    if v5 = 0 then
      some ((-2000000001), σ)
    else
      (P_X11_isIn a3 0 9999999999999999).bind fun v8 =>
      if ¬ v8 = 0 then
        if ¬ (sI σ 1) = 0 then
          (P_X11_countOf a1 a2 σ).bind fun v12 =>
          if a3 < v12 then
            (P_X11_thingOf LV a1 a2 a3 (uI σ 5 0)).bind fun σ15 =>
            if (sI σ15 5) ≤ 300 then
              P_X11_thing_j93 FU 0 (uI σ15 4 (sI σ15 5))
            else
              some ((-2000000003), σ15)
          else
            some ((-2000000005), σ)
        else
          some ((-2000000002), σ)
      else
        some ((-2000000001), σ)
set_option maxHeartbeats 4000000 in
set_option maxRecDepth 100000 in
theorem T_X11_thing {X : XE} {σf : SS} {r : Int64} {σ : SS} {a1 : Int32} {a2 : Int32} {a3 : Int64} (h : P_X11_thing a1 a2 a3 σ = some (r, σf)) : Mt (gM X) 625 yX11_thing cX11_thing 6 (some .long) [.ref (xq X 0), .int a1, .int a2, .long a3] σ (some (.long r)) σf := by
  refine Mt.of (own := RX11) (lv := [(0, .ref (xq X 0)), (1, .int a1), (2, .int a2), (3, .long a3)]) pn_X11 rfl (Nat.le_of_ble_eq_true rfl) rfl ?_
  unfold P_X11_thing at h
  refine r_aload_n 0 dX11_thing_0 rfl rfl rfl ?_
  refine r_iload_n 1 dX11_thing_1 rfl rfl rfl ?_
  obtain ⟨v2, e1, h⟩ := bd h
  refine r_callV (rest := []) (T_X11_isShape e1) (by decide) mf_X11_isShape rfl tw_1076 tw_41 tw_1074 cM_0 rfl rfl rfl (Nat.le_of_ble_eq_true rfl) dX11_thing_2 rfl ?_
  refine r_call0 ?_
  refine r_if_eq (t := 26) dX11_thing_5 (by decide) rfl (fun c3 => ?_) (fun c3 => ?_)
  · have h := it_t c3 h
    refine r_ldc2 (v := (-2000000001)) tw_1060 dX11_thing_26 rfl ?_
    exact r_lretQ dX11_thing_29 h
  · have h := it_f c3 h
    refine r_iload_n 2 dX11_thing_8 rfl rfl rfl ?_
    obtain ⟨v5, e4, h⟩ := bd h
    refine r_callS (As := [.int a2]) (rest := []) (T_X11_isSize e4) (by decide) mf_X11_isSize rfl tw_1185 tw_1184 rfl (Nat.le_of_ble_eq_true rfl) dX11_thing_9 rfl ?_
    refine r_call0 ?_
    refine r_if_eq (t := 26) dX11_thing_12 (by decide) rfl (fun c6 => ?_) (fun c6 => ?_)
    · have h := it_t c6 h
      refine r_ldc2 (v := (-2000000001)) tw_1060 dX11_thing_26 rfl ?_
      exact r_lretQ dX11_thing_29 h
    · have h := it_f c6 h
      refine r_lload_n 3 dX11_thing_15 rfl rfl rfl ?_
      refine rlc_0 dX11_thing_16 rfl ?_
      refine r_ldc2 (v := 9999999999999999) tw_1150 dX11_thing_17 rfl ?_
      obtain ⟨v8, e7, h⟩ := bd h
      refine r_callS (As := [.long a3, .long 0, .long 9999999999999999]) (rest := []) (T_X11_isIn e7) (by decide) mf_X11_isIn rfl tw_1055 tw_1054 rfl (Nat.le_of_ble_eq_true rfl) dX11_thing_20 rfl ?_
      refine r_call0 ?_
      refine r_if_ne (t := 30) dX11_thing_23 (by decide) rfl (fun c9 => ?_) (fun c9 => ?_)
      · have h := it_t c9 h
        refine r_aload_n 0 dX11_thing_30 rfl rfl rfl ?_
        refine gf_X11_98_0 dX11_thing_31 rfl ?_
        refine r_if_ne (t := 41) dX11_thing_34 (by decide) rfl (fun c10 => ?_) (fun c10 => ?_)
        · have h := it_t c10 h
          refine r_lload_n 3 dX11_thing_41 rfl rfl rfl ?_
          refine r_aload_n 0 dX11_thing_42 rfl rfl rfl ?_
          refine r_iload_n 1 dX11_thing_43 rfl rfl rfl ?_
          refine r_iload_n 2 dX11_thing_44 rfl rfl rfl ?_
          obtain ⟨v12, e11, h⟩ := bd h
          refine r_callV (rest := [.long a3]) (T_X11_countOf e11) (by decide) mf_X11_countOf rfl tw_1145 tw_54 tw_1143 cM_0 rfl rfl rfl (Nat.le_of_ble_eq_true rfl) dX11_thing_45 rfl ?_
          refine r_call0 ?_
          refine r_lif_lt (t := 56) dX11_thing_48 rfl dX11_thing_49 (by decide) rfl (fun c13 => ?_) (fun c13 => ?_)
          · have h := it_t c13 h
            refine r_aload_n 0 dX11_thing_56 rfl rfl rfl ?_
            refine ric_0 dX11_thing_57 rfl ?_
            refine pf_X11_221_0 dX11_thing_58 rfl ?_
            refine r_aload_n 0 dX11_thing_61 rfl rfl rfl ?_
            refine r_iload_n 1 dX11_thing_62 rfl rfl rfl ?_
            refine r_iload_n 2 dX11_thing_63 rfl rfl rfl ?_
            refine r_lload_n 3 dX11_thing_64 rfl rfl rfl ?_
            obtain ⟨σ15, e14, h⟩ := bd h
            refine r_callV (rest := []) (T_X11_thingOf LV e14) (by decide) mf_X11_thingOf rfl tw_1207 tw_59 tw_1205 cM_0 rfl rfl rfl (Nat.le_of_ble_eq_true rfl) dX11_thing_65 rfl ?_
            refine r_calln ?_
            refine r_aload_n 0 dX11_thing_68 rfl rfl rfl ?_
            refine gf_X11_221_0 dX11_thing_69 rfl ?_
            refine r_sipush (v := 300) dX11_thing_72 (by decide) rfl ?_
            refine r_icmp_le (t := 82) dX11_thing_75 (by decide) rfl (fun c16 => ?_) (fun c16 => ?_)
            · have h := it_t c16 h
              refine r_aload_n 0 dX11_thing_82 rfl rfl rfl ?_
              refine r_aload_n 0 dX11_thing_83 rfl rfl rfl ?_
              refine gf_X11_221_0 dX11_thing_84 rfl ?_
              refine pf_X11_251_0 dX11_thing_87 rfl ?_
              refine ric_0 dX11_thing_90 rfl ?_
              refine r_istore (lv' := [(5, .int 0), (0, .ref (xq X 0)), (1, .int a1), (2, .int a2), (3, .long a3)]) dX11_thing_91 (by decide) rfl rfl ?_
              refine r_sub [1, 0] rfl ?_
              exact T_X11_thing_j93 FU 0 (uI σ15 4 (sI σ15 5)) h
            · have h := it_f c16 h
              refine r_ldc2 (v := (-2000000003)) tw_1061 dX11_thing_78 rfl ?_
              exact r_lretQ dX11_thing_81 h
          · have h := it_f c13 h
            refine r_ldc2 (v := (-2000000005)) tw_1200 dX11_thing_52 rfl ?_
            exact r_lretQ dX11_thing_55 h
        · have h := it_n c10 h
          refine r_ldc2 (v := (-2000000002)) tw_1082 dX11_thing_37 rfl ?_
          exact r_lretQ dX11_thing_40 h
      · have h := it_n c9 h
        refine r_ldc2 (v := (-2000000001)) tw_1060 dX11_thing_26 rfl ?_
        exact r_lretQ dX11_thing_29 h
def P_X11_lay4_j3 : Nat → Int32 → Int32 → SS → Option SS
  | 0, _, _, _ => none
  | n + 1, x1, x2, σ =>
    if x2 < 0 then
      some σ
    else
      gI (sI σ 3) 300 <|
      (P_X11_lay4_j3 n) x1 (x2 + (-8)) (uI (stA σ 4 (sI σ 3) ((x1 >>> (x2 &&& 31)) &&& 255)) 3 ((sI (stA σ 4 (sI σ 3) ((x1 >>> (x2 &&& 31)) &&& 255)) 3) + 1))
set_option maxHeartbeats 4000000 in
set_option maxRecDepth 100000 in
theorem T_X11_lay4_j3 {X : XE} {σf : SS} : ∀ (fu : Nat) (x1 : Int32) (x2 : Int32) (σ : SS), P_X11_lay4_j3 fu x1 x2 σ = some σf → V (gM X) 0 RX11 cX11_lay4 3 none none σf 3 [(0, .ref (xq X 0)), (1, .int x1), (2, .int x2)] [] σ := by
  intro fu
  induction fu with
  | zero => intro x1 x2 σ h; exact no0 h
  | succ n ih =>
    intro x1 x2 σ h
    unfold P_X11_lay4_j3 at h
    refine r_iload_n 2 dX11_lay4_3 rfl rfl rfl ?_
    refine r_if_lt (t := 39) dX11_lay4_4 (by decide) rfl (fun c1 => ?_) (fun c1 => ?_)
    · have h := it_t c1 h
      exact r_vretS dX11_lay4_39 h
    · have h := it_f c1 h
      refine r_aload_n 0 dX11_lay4_7 rfl rfl rfl ?_
      refine gf_X11_22_0 dX11_lay4_8 rfl ?_
      refine r_aload_n 0 dX11_lay4_11 rfl rfl rfl ?_
      refine gf_X11_254_0 dX11_lay4_12 rfl ?_
      refine r_iload_n 1 dX11_lay4_15 rfl rfl rfl ?_
      refine r_iload_n 2 dX11_lay4_16 rfl rfl rfl ?_
      refine r_ishr dX11_lay4_17 rfl ?_
      refine r_sipush (v := 255) dX11_lay4_18 (by decide) rfl ?_
      refine r_iand dX11_lay4_21 rfl ?_
      obtain ⟨hi2, h⟩ := gi h
      refine asM_5 hi2 dX11_lay4_22 rfl ?_
      refine r_aload_n 0 dX11_lay4_23 rfl rfl rfl ?_
      refine r_dup rfl dX11_lay4_24 rfl ?_
      refine gf_X11_254_0 dX11_lay4_25 rfl ?_
      refine ric_1 dX11_lay4_28 rfl ?_
      refine r_iadd dX11_lay4_29 rfl ?_
      refine pf_X11_254_0 dX11_lay4_30 rfl ?_
      refine r_iinc (v := (x2 + (-8))) (lv' := [(2, .int (x2 + (-8))), (0, .ref (xq X 0)), (1, .int x1)]) 2 dX11_lay4_33 rfl rfl (by decide) rfl rfl ?_
      refine r_goto (t := 3) dX11_lay4_36 (by decide) ?_
      refine r_sub [1, 2, 0] rfl ?_
      exact ih x1 (x2 + (-8)) (uI (stA σ 4 (sI σ 3) ((x1 >>> (x2 &&& 31)) &&& 255)) 3 ((sI (stA σ 4 (sI σ 3) ((x1 >>> (x2 &&& 31)) &&& 255)) 3) + 1)) h
def P_X11_lay4 (a1 : Int32) (σ : SS) : Option SS :=
  P_X11_lay4_j3 FU a1 24 σ
set_option maxHeartbeats 4000000 in
set_option maxRecDepth 100000 in
theorem T_X11_lay4 {X : XE} {σf : SS} {σ : SS} {a1 : Int32} (h : P_X11_lay4 a1 σ = some σf) : Mt (gM X) 0 yX11_lay4 cX11_lay4 3 none [.ref (xq X 0), .int a1] σ none σf := by
  refine Mt.of (own := RX11) (lv := [(0, .ref (xq X 0)), (1, .int a1)]) pn_X11 rfl (Nat.le_of_ble_eq_true rfl) rfl ?_
  unfold P_X11_lay4 at h
  refine r_bipush (v := 24) dX11_lay4_0 (by decide) rfl ?_
  refine r_istore_n (lv' := [(2, .int 24), (0, .ref (xq X 0)), (1, .int a1)]) dX11_lay4_2 rfl (by decide) rfl rfl ?_
  refine r_sub [1, 2, 0] rfl ?_
  exact T_X11_lay4_j3 FU a1 24 σ h
def P_X11_feed (a1 : Int32) (a2 : Int32) (a3 : Int32) (a4 : Int32) (a5 : Int32) (σ : SS) : Option (Int64 × SS) :=
  if ((sI σ 3) + 20) ≤ 300 then
    (P_X11_lay4 a1 σ).bind fun σ3 =>
    (P_X11_lay4 a2 σ3).bind fun σ5 =>
    (P_X11_lay4 a3 σ5).bind fun σ7 =>
    (P_X11_lay4 a4 σ7).bind fun σ9 =>
    (P_X11_lay4 a5 σ9).bind fun σ11 =>
    some ((sI σ11 3).toInt64, σ11)
  else
    some ((-2000000003), σ)
set_option maxHeartbeats 4000000 in
set_option maxRecDepth 100000 in
theorem T_X11_feed {X : XE} {σf : SS} {r : Int64} {σ : SS} {a1 : Int32} {a2 : Int32} {a3 : Int32} {a4 : Int32} {a5 : Int32} (h : P_X11_feed a1 a2 a3 a4 a5 σ = some (r, σf)) : Mt (gM X) 1 yX11_feed cX11_feed 6 (some .long) [.ref (xq X 0), .int a1, .int a2, .int a3, .int a4, .int a5] σ (some (.long r)) σf := by
  refine Mt.of (own := RX11) (lv := [(0, .ref (xq X 0)), (1, .int a1), (2, .int a2), (3, .int a3), (4, .int a4), (5, .int a5)]) pn_X11 rfl (Nat.le_of_ble_eq_true rfl) rfl ?_
  unfold P_X11_feed at h
  refine r_aload_n 0 dX11_feed_0 rfl rfl rfl ?_
  refine gf_X11_254_0 dX11_feed_1 rfl ?_
  refine r_bipush (v := 20) dX11_feed_4 (by decide) rfl ?_
  refine r_iadd dX11_feed_6 rfl ?_
  refine r_sipush (v := 300) dX11_feed_7 (by decide) rfl ?_
  refine r_icmp_le (t := 17) dX11_feed_10 (by decide) rfl (fun c1 => ?_) (fun c1 => ?_)
  · have h := it_t c1 h
    refine r_aload_n 0 dX11_feed_17 rfl rfl rfl ?_
    refine r_iload_n 1 dX11_feed_18 rfl rfl rfl ?_
    obtain ⟨σ3, e2, h⟩ := bd h
    refine r_callV (rest := []) (T_X11_lay4 e2) (by decide) mf_X11_lay4 rfl tw_1243 tw_67 tw_1241 cM_0 rfl rfl rfl (Nat.le_of_ble_eq_true rfl) dX11_feed_19 rfl ?_
    refine r_calln ?_
    refine r_aload_n 0 dX11_feed_22 rfl rfl rfl ?_
    refine r_iload_n 2 dX11_feed_23 rfl rfl rfl ?_
    obtain ⟨σ5, e4, h⟩ := bd h
    refine r_callV (rest := []) (T_X11_lay4 e4) (by decide) mf_X11_lay4 rfl tw_1243 tw_67 tw_1241 cM_0 rfl rfl rfl (Nat.le_of_ble_eq_true rfl) dX11_feed_24 rfl ?_
    refine r_calln ?_
    refine r_aload_n 0 dX11_feed_27 rfl rfl rfl ?_
    refine r_iload_n 3 dX11_feed_28 rfl rfl rfl ?_
    obtain ⟨σ7, e6, h⟩ := bd h
    refine r_callV (rest := []) (T_X11_lay4 e6) (by decide) mf_X11_lay4 rfl tw_1243 tw_67 tw_1241 cM_0 rfl rfl rfl (Nat.le_of_ble_eq_true rfl) dX11_feed_29 rfl ?_
    refine r_calln ?_
    refine r_aload_n 0 dX11_feed_32 rfl rfl rfl ?_
    refine r_iload 4 dX11_feed_33 rfl rfl ?_
    obtain ⟨σ9, e8, h⟩ := bd h
    refine r_callV (rest := []) (T_X11_lay4 e8) (by decide) mf_X11_lay4 rfl tw_1243 tw_67 tw_1241 cM_0 rfl rfl rfl (Nat.le_of_ble_eq_true rfl) dX11_feed_35 rfl ?_
    refine r_calln ?_
    refine r_aload_n 0 dX11_feed_38 rfl rfl rfl ?_
    refine r_iload 5 dX11_feed_39 rfl rfl ?_
    obtain ⟨σ11, e10, h⟩ := bd h
    refine r_callV (rest := []) (T_X11_lay4 e10) (by decide) mf_X11_lay4 rfl tw_1243 tw_67 tw_1241 cM_0 rfl rfl rfl (Nat.le_of_ble_eq_true rfl) dX11_feed_41 rfl ?_
    refine r_calln ?_
    refine r_aload_n 0 dX11_feed_44 rfl rfl rfl ?_
    refine gf_X11_254_0 dX11_feed_45 rfl ?_
    refine r_i2l dX11_feed_48 rfl ?_
    exact r_lretQ dX11_feed_49 h
  · have h := it_f c1 h
    refine r_ldc2 (v := (-2000000003)) tw_1061 dX11_feed_13 rfl ?_
    exact r_lretQ dX11_feed_16 h
def P_X11_trim (a1 : Int32) (σ : SS) : Option (Int64 × SS) :=
  (P_X11_isIn a1.toInt64 0 ((sI σ 3).toInt64)).bind fun v2 =>
  if ¬ v2 = 0 then
    some (a1.toInt64, (uI σ 3 a1))
  else
    some ((-2000000001), σ)
set_option maxHeartbeats 4000000 in
set_option maxRecDepth 100000 in
theorem T_X11_trim {X : XE} {σf : SS} {r : Int64} {σ : SS} {a1 : Int32} (h : P_X11_trim a1 σ = some (r, σf)) : Mt (gM X) 1 yX11_trim cX11_trim 2 (some .long) [.ref (xq X 0), .int a1] σ (some (.long r)) σf := by
  refine Mt.of (own := RX11) (lv := [(0, .ref (xq X 0)), (1, .int a1)]) pn_X11 rfl (Nat.le_of_ble_eq_true rfl) rfl ?_
  unfold P_X11_trim at h
  refine r_iload_n 1 dX11_trim_0 rfl rfl rfl ?_
  refine r_i2l dX11_trim_1 rfl ?_
  refine rlc_0 dX11_trim_2 rfl ?_
  refine r_aload_n 0 dX11_trim_3 rfl rfl rfl ?_
  refine gf_X11_254_0 dX11_trim_4 rfl ?_
  refine r_i2l dX11_trim_7 rfl ?_
  obtain ⟨v2, e1, h⟩ := bd h
  refine r_callS (As := [.long a1.toInt64, .long 0, .long ((sI σ 3).toInt64)]) (rest := []) (T_X11_isIn e1) (by decide) mf_X11_isIn rfl tw_1055 tw_1054 rfl (Nat.le_of_ble_eq_true rfl) dX11_trim_8 rfl ?_
  refine r_call0 ?_
  refine r_if_ne (t := 18) dX11_trim_11 (by decide) rfl (fun c3 => ?_) (fun c3 => ?_)
  · have h := it_t c3 h
    refine r_aload_n 0 dX11_trim_18 rfl rfl rfl ?_
    refine r_iload_n 1 dX11_trim_19 rfl rfl rfl ?_
    refine pf_X11_254_0 dX11_trim_20 rfl ?_
    refine r_iload_n 1 dX11_trim_23 rfl rfl rfl ?_
    refine r_i2l dX11_trim_24 rfl ?_
    exact r_lretQ dX11_trim_25 h
  · have h := it_n c3 h
    refine r_ldc2 (v := (-2000000001)) tw_1060 dX11_trim_14 rfl ?_
    exact r_lretQ dX11_trim_17 h
def P_X11_again_j10 : Nat → Int32 → SS → Option (Int64 × SS)
  | 0, _, _ => none
  | n + 1, x1, σ =>
    if (sI σ 4) ≤ x1 then
      some ((sI σ 3).toInt64, σ)
    else
      gI x1 300 <|
      gI x1 300 <|
      (P_X11_again_j10 n) (x1 + 1) (stA σ 4 x1 (ldA σ 5 x1))
set_option maxHeartbeats 4000000 in
set_option maxRecDepth 100000 in
theorem T_X11_again_j10 {X : XE} {σf : SS} {r : Int64} : ∀ (fu : Nat) (x1 : Int32) (σ : SS), P_X11_again_j10 fu x1 σ = some (r, σf) → V (gM X) 0 RX11 cX11_again 2 (some .long) (some (.long r)) σf 10 [(0, .ref (xq X 0)), (1, .int x1)] [] σ := by
  intro fu
  induction fu with
  | zero => intro x1 σ h; exact no0 h
  | succ n ih =>
    intro x1 σ h
    unfold P_X11_again_j10 at h
    refine r_iload_n 1 dX11_again_10 rfl rfl rfl ?_
    refine r_aload_n 0 dX11_again_11 rfl rfl rfl ?_
    refine gf_X11_251_0 dX11_again_12 rfl ?_
    refine r_icmp_ge (t := 36) dX11_again_15 (by decide) rfl (fun c1 => ?_) (fun c1 => ?_)
    · have h := it_t c1 h
      refine r_aload_n 0 dX11_again_36 rfl rfl rfl ?_
      refine gf_X11_254_0 dX11_again_37 rfl ?_
      refine r_i2l dX11_again_40 rfl ?_
      exact r_lretQ dX11_again_41 h
    · have h := it_f c1 h
      refine r_aload_n 0 dX11_again_18 rfl rfl rfl ?_
      refine gf_X11_22_0 dX11_again_19 rfl ?_
      refine r_iload_n 1 dX11_again_22 rfl rfl rfl ?_
      refine r_aload_n 0 dX11_again_23 rfl rfl rfl ?_
      refine gf_X11_25_0 dX11_again_24 rfl ?_
      refine r_iload_n 1 dX11_again_27 rfl rfl rfl ?_
      obtain ⟨hi2, h⟩ := gi h
      refine alM_6 hi2 dX11_again_28 rfl ?_
      obtain ⟨hi3, h⟩ := gi h
      refine asM_5 hi3 dX11_again_29 rfl ?_
      refine r_iinc (v := (x1 + 1)) (lv' := [(1, .int (x1 + 1)), (0, .ref (xq X 0))]) 1 dX11_again_30 rfl rfl (by decide) rfl rfl ?_
      refine r_goto (t := 10) dX11_again_33 (by decide) ?_
      refine r_sub [1, 0] rfl ?_
      exact ih (x1 + 1) (stA σ 4 x1 (ldA σ 5 x1)) h
def P_X11_again (σ : SS) : Option (Int64 × SS) :=
  P_X11_again_j10 FU 0 (uI σ 3 (sI σ 4))
set_option maxHeartbeats 4000000 in
set_option maxRecDepth 100000 in
theorem T_X11_again {X : XE} {σf : SS} {r : Int64} {σ : SS} (h : P_X11_again σ = some (r, σf)) : Mt (gM X) 0 yX11_again cX11_again 2 (some .long) [.ref (xq X 0)] σ (some (.long r)) σf := by
  refine Mt.of (own := RX11) (lv := [(0, .ref (xq X 0))]) pn_X11 rfl (Nat.le_of_ble_eq_true rfl) rfl ?_
  unfold P_X11_again at h
  refine r_aload_n 0 dX11_again_0 rfl rfl rfl ?_
  refine r_aload_n 0 dX11_again_1 rfl rfl rfl ?_
  refine gf_X11_251_0 dX11_again_2 rfl ?_
  refine pf_X11_254_0 dX11_again_5 rfl ?_
  refine ric_0 dX11_again_8 rfl ?_
  refine r_istore_n (lv' := [(1, .int 0), (0, .ref (xq X 0))]) dX11_again_9 rfl (by decide) rfl rfl ?_
  refine r_sub [1, 0] rfl ?_
  exact T_X11_again_j10 FU 0 (uI σ 3 (sI σ 4)) h
def P_X11_here (σ : SS) : Option Int32 :=
  if (sI σ 3) ≤ (sI σ 7) then
    some (-1)
  else
    gI (sI σ 7) 300 <|
    some (ldA σ 4 (sI σ 7))
set_option maxHeartbeats 4000000 in
set_option maxRecDepth 100000 in
theorem T_X11_here {X : XE} {σ : SS} {r : Int32} (h : P_X11_here σ = some r) : Mt (gM X) 0 yX11_here cX11_here 1 (some .int) [.ref (xq X 0)] σ (some (.int r)) σ := by
  refine Mt.of (own := RX11) (lv := [(0, .ref (xq X 0))]) pn_X11 rfl (Nat.le_of_ble_eq_true rfl) rfl ?_
  unfold P_X11_here at h
  refine r_aload_n 0 dX11_here_0 rfl rfl rfl ?_
  refine gf_X11_260_0 dX11_here_1 rfl ?_
  refine r_aload_n 0 dX11_here_4 rfl rfl rfl ?_
  refine gf_X11_254_0 dX11_here_5 rfl ?_
  refine r_icmp_ge (t := 23) dX11_here_8 (by decide) rfl (fun c1 => ?_) (fun c1 => ?_)
  · have h := it_t c1 h
    refine ric_m1 dX11_here_23 rfl ?_
    exact r_iretR dX11_here_24 h
  · have h := it_f c1 h
    refine r_aload_n 0 dX11_here_11 rfl rfl rfl ?_
    refine gf_X11_22_0 dX11_here_12 rfl ?_
    refine r_aload_n 0 dX11_here_15 rfl rfl rfl ?_
    refine gf_X11_260_0 dX11_here_16 rfl ?_
    obtain ⟨hi2, h⟩ := gi h
    refine alM_5 hi2 dX11_here_19 rfl ?_
    refine r_goto (t := 24) dX11_here_20 (by decide) ?_
    exact r_iretR dX11_here_24 h
def P_X11_need (a1 : Int32) (σ : SS) : Option SS :=
  if 0 ≤ (sI σ 8) then
    some (uI σ 7 ((sI σ 7) + 1))
  else
    (P_X11_here σ).bind fun v3 =>
    if v3 = a1 then
      some (uI σ 7 ((sI σ 7) + 1))
    else
      some (uI (uI σ 8 (sI σ 7)) 7 ((sI (uI σ 8 (sI σ 7)) 7) + 1))
set_option maxHeartbeats 4000000 in
set_option maxRecDepth 100000 in
theorem T_X11_need {X : XE} {σf : SS} {σ : SS} {a1 : Int32} (h : P_X11_need a1 σ = some σf) : Mt (gM X) 1 yX11_need cX11_need 2 none [.ref (xq X 0), .int a1] σ none σf := by
  refine Mt.of (own := RX11) (lv := [(0, .ref (xq X 0)), (1, .int a1)]) pn_X11 rfl (Nat.le_of_ble_eq_true rfl) rfl ?_
  unfold P_X11_need at h
  refine r_aload_n 0 dX11_need_0 rfl rfl rfl ?_
  refine gf_X11_263_0 dX11_need_1 rfl ?_
  refine r_if_ge (t := 23) dX11_need_4 (by decide) rfl (fun c1 => ?_) (fun c1 => ?_)
  · have h := it_t c1 h
    refine r_aload_n 0 dX11_need_23 rfl rfl rfl ?_
    refine r_dup rfl dX11_need_24 rfl ?_
    refine gf_X11_260_0 dX11_need_25 rfl ?_
    refine ric_1 dX11_need_28 rfl ?_
    refine r_iadd dX11_need_29 rfl ?_
    refine pf_X11_260_0 dX11_need_30 rfl ?_
    exact r_vretS dX11_need_33 h
  · have h := it_f c1 h
    refine r_aload_n 0 dX11_need_7 rfl rfl rfl ?_
    obtain ⟨v3, e2, h⟩ := bd h
    refine r_callV (rest := []) (T_X11_here e2) (by decide) mf_X11_here rfl tw_1271 tw_71 tw_1269 cM_0 rfl rfl rfl (Nat.le_of_ble_eq_true rfl) dX11_need_8 rfl ?_
    refine r_call0 ?_
    refine r_iload_n 1 dX11_need_11 rfl rfl rfl ?_
    refine r_icmp_eq (t := 23) dX11_need_12 (by decide) rfl (fun c4 => ?_) (fun c4 => ?_)
    · have h := it_t c4 h
      refine r_aload_n 0 dX11_need_23 rfl rfl rfl ?_
      refine r_dup rfl dX11_need_24 rfl ?_
      refine gf_X11_260_0 dX11_need_25 rfl ?_
      refine ric_1 dX11_need_28 rfl ?_
      refine r_iadd dX11_need_29 rfl ?_
      refine pf_X11_260_0 dX11_need_30 rfl ?_
      exact r_vretS dX11_need_33 h
    · have h := it_f c4 h
      refine r_aload_n 0 dX11_need_15 rfl rfl rfl ?_
      refine r_aload_n 0 dX11_need_16 rfl rfl rfl ?_
      refine gf_X11_260_0 dX11_need_17 rfl ?_
      refine pf_X11_263_0 dX11_need_20 rfl ?_
      refine r_aload_n 0 dX11_need_23 rfl rfl rfl ?_
      refine r_dup rfl dX11_need_24 rfl ?_
      refine gf_X11_260_0 dX11_need_25 rfl ?_
      refine ric_1 dX11_need_28 rfl ?_
      refine r_iadd dX11_need_29 rfl ?_
      refine pf_X11_260_0 dX11_need_30 rfl ?_
      exact r_vretS dX11_need_33 h
def P_X11_within (a1 : Int32) (a2 : Int32) (a3 : Int32) (σ : SS) : Option SS :=
  if (sI σ 8) < 0 then
    gI a1 310 <|
    gI a2 310 <|
    gI a1 310 <|
    if ¬ a3 = 0 then
      gI a3 310 <|
      some (stA (stA σ 12 a1 ((ldA σ 12 a1) + (ldA σ 12 a2))) 14 a3 a2)
    else
      gI a1 310 <|
      some (stA (stA σ 12 a1 ((ldA σ 12 a1) + (ldA σ 12 a2))) 13 a1 a2)
  else
    some σ
set_option maxHeartbeats 4000000 in
set_option maxRecDepth 100000 in
theorem T_X11_within {X : XE} {σf : SS} {σ : SS} {a1 : Int32} {a2 : Int32} {a3 : Int32} (h : P_X11_within a1 a2 a3 σ = some σf) : Mt (gM X) 0 yX11_within cX11_within 4 none [.ref (xq X 0), .int a1, .int a2, .int a3] σ none σf := by
  refine Mt.of (own := RX11) (lv := [(0, .ref (xq X 0)), (1, .int a1), (2, .int a2), (3, .int a3)]) pn_X11 rfl (Nat.le_of_ble_eq_true rfl) rfl ?_
  unfold P_X11_within at h
  refine r_aload_n 0 dX11_within_0 rfl rfl rfl ?_
  refine gf_X11_263_0 dX11_within_1 rfl ?_
  refine r_if_lt (t := 8) dX11_within_4 (by decide) rfl (fun c1 => ?_) (fun c1 => ?_)
  · have h := it_t c1 h
    refine r_aload_n 0 dX11_within_8 rfl rfl rfl ?_
    refine gf_X11_54_0 dX11_within_9 rfl ?_
    refine r_iload_n 1 dX11_within_12 rfl rfl rfl ?_
    refine r_dup2_11 rfl rfl dX11_within_13 rfl ?_
    obtain ⟨hi2, h⟩ := gi h
    refine alM_15 hi2 dX11_within_14 rfl ?_
    refine r_aload_n 0 dX11_within_15 rfl rfl rfl ?_
    refine gf_X11_54_0 dX11_within_16 rfl ?_
    refine r_iload_n 2 dX11_within_19 rfl rfl rfl ?_
    obtain ⟨hi3, h⟩ := gi h
    refine alM_15 hi3 dX11_within_20 rfl ?_
    refine r_iadd dX11_within_21 rfl ?_
    obtain ⟨hi4, h⟩ := gi h
    refine asM_15 hi4 dX11_within_22 rfl ?_
    refine r_iload_n 3 dX11_within_23 rfl rfl rfl ?_
    refine r_if_ne (t := 37) dX11_within_24 (by decide) rfl (fun c5 => ?_) (fun c5 => ?_)
    · have h := it_t c5 h
      refine r_aload_n 0 dX11_within_37 rfl rfl rfl ?_
      refine gf_X11_60_0 dX11_within_38 rfl ?_
      refine r_iload_n 3 dX11_within_41 rfl rfl rfl ?_
      refine r_iload_n 2 dX11_within_42 rfl rfl rfl ?_
      obtain ⟨hi6, h⟩ := gi h
      refine asM_17 hi6 dX11_within_43 rfl ?_
      exact r_vretS dX11_within_44 h
    · have h := it_n c5 h
      refine r_aload_n 0 dX11_within_27 rfl rfl rfl ?_
      refine gf_X11_57_0 dX11_within_28 rfl ?_
      refine r_iload_n 1 dX11_within_31 rfl rfl rfl ?_
      refine r_iload_n 2 dX11_within_32 rfl rfl rfl ?_
      obtain ⟨hi7, h⟩ := gi h
      refine asM_16 hi7 dX11_within_33 rfl ?_
      refine r_goto (t := 44) dX11_within_34 (by decide) ?_
      exact r_vretS dX11_within_44 h
  · have h := it_f c1 h
    exact r_vretS dX11_within_7 h
def P_X11_several_j104 (rec : (Int32 → SS → Option (Int32 × SS))) (σ : SS) : Option SS :=
  if 0 ≤ (sI σ 8) then
    some σ
  else
    some (uI σ 7 ((sI σ 7) + 1))
set_option maxHeartbeats 4000000 in
set_option maxRecDepth 100000 in
theorem T_X11_several_j104 {X : XE} {e : Nat} (he : 3 ≤ e) {rec : (Int32 → SS → Option (Int32 × SS))} (hrec : ∀ (a r : Int32) (σ σ1 : SS), rec a σ = some (r, σ1) → Mt (gM X) e yX11_part cX11_part 3 (some .int) [.ref (xq X 0), .int a] σ (some (.int r)) σ1) {σf : SS} : ∀ (σ : SS), P_X11_several_j104 rec σ = some σf → V (gM X) (e + 1) RX11 cX11_several 7 none none σf 104 [(0, .ref (xq X 0))] [] σ := by
  intro σ h
  unfold P_X11_several_j104 at h
  refine r_aload_n 0 dX11_several_104 rfl rfl rfl ?_
  refine gf_X11_263_0 dX11_several_105 rfl ?_
  refine r_if_ge (t := 121) dX11_several_108 (by decide) rfl (fun c1 => ?_) (fun c1 => ?_)
  · have h := it_t c1 h
    exact r_vretS dX11_several_121 h
  · have h := it_f c1 h
    refine r_aload_n 0 dX11_several_111 rfl rfl rfl ?_
    refine r_dup rfl dX11_several_112 rfl ?_
    refine gf_X11_260_0 dX11_several_113 rfl ?_
    refine ric_1 dX11_several_116 rfl ?_
    refine r_iadd dX11_several_117 rfl ?_
    refine pf_X11_260_0 dX11_several_118 rfl ?_
    exact r_vretS dX11_several_121 h
def P_X11_several_j60 (rec : (Int32 → SS → Option (Int32 × SS))) : Nat → Int32 → Int32 → Int32 → Int32 → SS → Option SS
  | 0, _, _, _, _, _ => none
  | n + 1, x1, x2, x4, x5, σ =>
    if 0 ≤ (sI σ 8) then
      P_X11_several_j104 rec σ
    else
      (P_X11_here σ).bind fun v3 =>
      if v3 = x4 then
        P_X11_several_j104 rec σ
      else
        gI x2 16 <|
        b2 (rec (ldA σ 1 x2) σ) fun v7 σ8 =>
        (P_X11_within x1 v7 x5 σ8).bind fun σ10 =>
        (P_X11_several_j60 rec n) x1 x2 x4 v7 σ10
set_option maxHeartbeats 4000000 in
set_option maxRecDepth 100000 in
theorem T_X11_several_j60 {X : XE} {e : Nat} (he : 3 ≤ e) {rec : (Int32 → SS → Option (Int32 × SS))} (hrec : ∀ (a r : Int32) (σ σ1 : SS), rec a σ = some (r, σ1) → Mt (gM X) e yX11_part cX11_part 3 (some .int) [.ref (xq X 0), .int a] σ (some (.int r)) σ1) {σf : SS} : ∀ (fu : Nat) (x1 : Int32) (x2 : Int32) (x4 : Int32) (x5 : Int32) (σ : SS), P_X11_several_j60 rec fu x1 x2 x4 x5 σ = some σf → V (gM X) (e + 1) RX11 cX11_several 7 none none σf 60 [(0, .ref (xq X 0)), (1, .int x1), (2, .int x2), (4, .int x4), (5, .int x5)] [] σ := by
  intro fu
  induction fu with
  | zero => intro x1 x2 x4 x5 σ h; exact no0 h
  | succ n ih =>
    intro x1 x2 x4 x5 σ h
    unfold P_X11_several_j60 at h
    refine r_aload_n 0 dX11_several_60 rfl rfl rfl ?_
    refine gf_X11_263_0 dX11_several_61 rfl ?_
    refine r_if_ge (t := 104) dX11_several_64 (by decide) rfl (fun c1 => ?_) (fun c1 => ?_)
    · have h := it_t c1 h
      refine r_sub [0] rfl ?_
      exact T_X11_several_j104 he hrec σ h
    · have h := it_f c1 h
      refine r_aload_n 0 dX11_several_67 rfl rfl rfl ?_
      obtain ⟨v3, e2, h⟩ := bd h
      refine r_callV (rest := []) (T_X11_here e2) (by omega) mf_X11_here rfl tw_1271 tw_71 tw_1269 cM_0 rfl rfl rfl (Nat.le_of_ble_eq_true rfl) dX11_several_68 rfl ?_
      refine r_call0 ?_
      refine r_iload 3 dX11_several_71 rfl rfl ?_
      refine r_icmp_eq (t := 104) dX11_several_73 (by decide) rfl (fun c4 => ?_) (fun c4 => ?_)
      · have h := it_t c4 h
        refine r_sub [0] rfl ?_
        exact T_X11_several_j104 he hrec σ h
      · have h := it_f c4 h
        refine r_aload_n 0 dX11_several_76 rfl rfl rfl ?_
        refine r_aload_n 0 dX11_several_77 rfl rfl rfl ?_
        refine gf_X11_13_0 dX11_several_78 rfl ?_
        refine r_iload_n 2 dX11_several_81 rfl rfl rfl ?_
        obtain ⟨hi5, h⟩ := gi h
        refine alM_2 hi5 dX11_several_82 rfl ?_
        obtain ⟨v7, σ8, e6, h⟩ := b2d h
        refine r_callV (rest := []) (hrec _ _ _ _ e6) (by omega) mf_X11_part rfl tw_1263 tw_69 tw_1261 cM_0 rfl rfl rfl (Nat.le_of_ble_eq_true rfl) dX11_several_83 rfl ?_
        refine r_call0 ?_
        refine r_istore (lv' := [(6, .int v7), (0, .ref (xq X 0)), (1, .int x1), (2, .int x2), (4, .int x4), (5, .int x5)]) dX11_several_86 (by decide) rfl rfl ?_
        refine r_aload_n 1 dX11_several_88 rfl rfl rfl ?_
        refine r_iload_n 2 dX11_several_89 rfl rfl rfl ?_
        refine r_iload 0 dX11_several_90 rfl rfl ?_
        refine r_iload 5 dX11_several_92 rfl rfl ?_
        obtain ⟨σ10, e9, h⟩ := bd h
        refine r_callV (rest := []) (T_X11_within e9) (by omega) mf_X11_within rfl tw_1275 tw_72 tw_1273 cM_0 rfl rfl rfl (Nat.le_of_ble_eq_true rfl) dX11_several_94 rfl ?_
        refine r_calln ?_
        refine r_iload 0 dX11_several_97 rfl rfl ?_
        refine r_istore (lv' := [(5, .int v7), (6, .int v7), (0, .ref (xq X 0)), (1, .int x1), (2, .int x2), (4, .int x4)]) dX11_several_99 (by decide) rfl rfl ?_
        refine r_goto (t := 60) dX11_several_101 (by decide) ?_
        refine r_sub [2, 3, 4, 5, 0] rfl ?_
        exact ih x1 x2 x4 v7 σ10 h
def P_X11_several_j54 (rec : (Int32 → SS → Option (Int32 × SS))) (x1 : Int32) (x2 : Int32) (x4 : Int32) (y0 : Int32) (σ : SS) : Option SS :=
  (P_X11_need y0 σ).bind fun σ2 =>
  P_X11_several_j60 rec FU x1 x2 x4 0 σ2
set_option maxHeartbeats 4000000 in
set_option maxRecDepth 100000 in
theorem T_X11_several_j54 {X : XE} {e : Nat} (he : 3 ≤ e) {rec : (Int32 → SS → Option (Int32 × SS))} (hrec : ∀ (a r : Int32) (σ σ1 : SS), rec a σ = some (r, σ1) → Mt (gM X) e yX11_part cX11_part 3 (some .int) [.ref (xq X 0), .int a] σ (some (.int r)) σ1) {σf : SS} : ∀ (x1 : Int32) (x2 : Int32) (x4 : Int32) (y0 : Int32) (σ : SS), P_X11_several_j54 rec x1 x2 x4 y0 σ = some σf → V (gM X) (e + 1) RX11 cX11_several 7 none none σf 54 [(0, .ref (xq X 0)), (1, .int x1), (2, .int x2), (4, .int x4)] [.int y0, .ref (xq X 0)] σ := by
  intro x1 x2 x4 y0 σ h
  unfold P_X11_several_j54 at h
  obtain ⟨σ2, e1, h⟩ := bd h
  refine r_callV (rest := []) (T_X11_need e1) (by omega) mf_X11_need rfl tw_1267 tw_70 tw_1265 cM_0 rfl rfl rfl (Nat.le_of_ble_eq_true rfl) dX11_several_54 rfl ?_
  refine r_calln ?_
  refine ric_0 dX11_several_57 rfl ?_
  refine r_istore (lv' := [(5, .int 0), (0, .ref (xq X 0)), (1, .int x1), (2, .int x2), (4, .int x4)]) dX11_several_58 (by decide) rfl rfl ?_
  refine r_sub [1, 2, 3, 4, 0] rfl ?_
  exact T_X11_several_j60 he hrec FU x1 x2 x4 0 σ2 h
def P_X11_several_j29 (rec : (Int32 → SS → Option (Int32 × SS))) (x1 : Int32) (x2 : Int32) (x3 : Int32) (y0 : Int32) (σ : SS) : Option SS :=
  if ¬ x3 = 4 then
    if ¬ x3 = 5 then
      P_X11_several_j54 rec x1 x2 y0 60 σ
    else
      P_X11_several_j54 rec x1 x2 y0 123 σ
  else
    P_X11_several_j54 rec x1 x2 y0 91 σ
set_option maxHeartbeats 4000000 in
set_option maxRecDepth 100000 in
theorem T_X11_several_j29 {X : XE} {e : Nat} (he : 3 ≤ e) {rec : (Int32 → SS → Option (Int32 × SS))} (hrec : ∀ (a r : Int32) (σ σ1 : SS), rec a σ = some (r, σ1) → Mt (gM X) e yX11_part cX11_part 3 (some .int) [.ref (xq X 0), .int a] σ (some (.int r)) σ1) {σf : SS} : ∀ (x1 : Int32) (x2 : Int32) (x3 : Int32) (y0 : Int32) (σ : SS), P_X11_several_j29 rec x1 x2 x3 y0 σ = some σf → V (gM X) (e + 1) RX11 cX11_several 7 none none σf 29 [(0, .ref (xq X 0)), (1, .int x1), (2, .int x2), (3, .int x3)] [.int y0] σ := by
  intro x1 x2 x3 y0 σ h
  unfold P_X11_several_j29 at h
  refine r_istore (lv' := [(4, .int y0), (0, .ref (xq X 0)), (1, .int x1), (2, .int x2), (3, .int x3)]) dX11_several_29 (by decide) rfl rfl ?_
  refine r_aload_n 1 dX11_several_31 rfl rfl rfl ?_
  refine r_iload_n 4 dX11_several_32 rfl rfl rfl ?_
  refine ric_4 dX11_several_33 rfl ?_
  refine r_icmp_ne (t := 42) dX11_several_34 (by decide) rfl (fun c1 => ?_) (fun c1 => ?_)
  · have h := it_t c1 h
    refine r_iload_n 4 dX11_several_42 rfl rfl rfl ?_
    refine ric_5 dX11_several_43 rfl ?_
    refine r_icmp_ne (t := 52) dX11_several_44 (by decide) rfl (fun c2 => ?_) (fun c2 => ?_)
    · have h := it_t c2 h
      refine r_bipush (v := 60) dX11_several_52 (by decide) rfl ?_
      refine r_sub [1, 2, 3, 0] rfl ?_
      exact T_X11_several_j54 he hrec x1 x2 y0 60 σ h
    · have h := it_n c2 h
      refine r_bipush (v := 123) dX11_several_47 (by decide) rfl ?_
      refine r_goto (t := 54) dX11_several_49 (by decide) ?_
      refine r_sub [1, 2, 3, 0] rfl ?_
      exact T_X11_several_j54 he hrec x1 x2 y0 123 σ h
  · have h := it_n c1 h
    refine r_bipush (v := 91) dX11_several_37 (by decide) rfl ?_
    refine r_goto (t := 54) dX11_several_39 (by decide) ?_
    refine r_sub [1, 2, 3, 0] rfl ?_
    exact T_X11_several_j54 he hrec x1 x2 y0 91 σ h
def P_X11_several (rec : (Int32 → SS → Option (Int32 × SS))) (a1 : Int32) (a2 : Int32) (σ : SS) : Option SS :=
  gI a2 16 <|
  if ¬ (ldA σ 0 a2) = 4 then
    if ¬ (ldA σ 0 a2) = 5 then
      P_X11_several_j29 rec a1 a2 (ldA σ 0 a2) 62 σ
    else
      P_X11_several_j29 rec a1 a2 (ldA σ 0 a2) 125 σ
  else
    P_X11_several_j29 rec a1 a2 (ldA σ 0 a2) 93 σ
set_option maxHeartbeats 4000000 in
set_option maxRecDepth 100000 in
theorem T_X11_several {X : XE} {e : Nat} (he : 3 ≤ e) {rec : (Int32 → SS → Option (Int32 × SS))} (hrec : ∀ (a r : Int32) (σ σ1 : SS), rec a σ = some (r, σ1) → Mt (gM X) e yX11_part cX11_part 3 (some .int) [.ref (xq X 0), .int a] σ (some (.int r)) σ1) {σf : SS} {σ : SS} {a1 : Int32} {a2 : Int32} (h : P_X11_several rec a1 a2 σ = some σf) : Mt (gM X) (e + 1) yX11_several cX11_several 7 none [.ref (xq X 0), .int a1, .int a2] σ none σf := by
  refine Mt.of (own := RX11) (lv := [(0, .ref (xq X 0)), (1, .int a1), (2, .int a2)]) pn_X11 rfl (Nat.le_of_ble_eq_true rfl) rfl ?_
  unfold P_X11_several at h
  refine r_aload_n 0 dX11_several_0 rfl rfl rfl ?_
  refine gf_X11_7_0 dX11_several_1 rfl ?_
  refine r_iload_n 2 dX11_several_4 rfl rfl rfl ?_
  obtain ⟨hi1, h⟩ := gi h
  refine alM_1 hi1 dX11_several_5 rfl ?_
  refine r_istore_n (lv' := [(3, .int (ldA σ 0 a2)), (0, .ref (xq X 0)), (1, .int a1), (2, .int a2)]) dX11_several_6 rfl (by decide) rfl rfl ?_
  refine r_iload_n 0 dX11_several_7 rfl rfl rfl ?_
  refine ric_4 dX11_several_8 rfl ?_
  refine r_icmp_ne (t := 17) dX11_several_9 (by decide) rfl (fun c2 => ?_) (fun c2 => ?_)
  · have h := it_t c2 h
    refine r_iload_n 0 dX11_several_17 rfl rfl rfl ?_
    refine ric_5 dX11_several_18 rfl ?_
    refine r_icmp_ne (t := 27) dX11_several_19 (by decide) rfl (fun c3 => ?_) (fun c3 => ?_)
    · have h := it_t c3 h
      refine r_bipush (v := 62) dX11_several_27 (by decide) rfl ?_
      refine r_sub [1, 2, 3, 0] rfl ?_
      exact T_X11_several_j29 he hrec a1 a2 (ldA σ 0 a2) 62 σ h
    · have h := it_n c3 h
      refine r_bipush (v := 125) dX11_several_22 (by decide) rfl ?_
      refine r_goto (t := 29) dX11_several_24 (by decide) ?_
      refine r_sub [1, 2, 3, 0] rfl ?_
      exact T_X11_several_j29 he hrec a1 a2 (ldA σ 0 a2) 125 σ h
  · have h := it_n c2 h
    refine r_bipush (v := 93) dX11_several_12 (by decide) rfl ?_
    refine r_goto (t := 29) dX11_several_14 (by decide) ?_
    refine r_sub [1, 2, 3, 0] rfl ?_
    exact T_X11_several_j29 he hrec a1 a2 (ldA σ 0 a2) 93 σ h
def P_X11_letters_j144 (K14 : Int32 → Int32 → Int32 → Int64 → Int32 → SS → Option SS) (x1 : Int32) (x2 : Int32) (x3 : Int32) (x4 : Int64) (x6 : Int32) (σ : SS) : Option SS :=
  K14 x1 x2 x3 x4 (x6 + 1) σ
set_option maxHeartbeats 4000000 in
set_option maxRecDepth 100000 in
theorem T_X11_letters_j144 {X : XE} {σf : SS} {K14 : Int32 → Int32 → Int32 → Int64 → Int32 → SS → Option SS} (hK14 : ∀ (x1 : Int32) (x2 : Int32) (x3 : Int32) (x4 : Int64) (x6 : Int32) (σ : SS), K14 x1 x2 x3 x4 x6 σ = some σf → V (gM X) 2 RX11 cX11_letters 10 none none σf 14 [(0, .ref (xq X 0)), (1, .int x1), (2, .int x2), (3, .int x3), (4, .long x4), (6, .int x6)] [] σ) : ∀ (x1 : Int32) (x2 : Int32) (x3 : Int32) (x4 : Int64) (x6 : Int32) (σ : SS), P_X11_letters_j144 K14 x1 x2 x3 x4 x6 σ = some σf → V (gM X) 2 RX11 cX11_letters 10 none none σf 144 [(0, .ref (xq X 0)), (1, .int x1), (2, .int x2), (3, .int x3), (4, .long x4), (6, .int x6)] [] σ := by
  intro x1 x2 x3 x4 x6 σ h
  unfold P_X11_letters_j144 at h
  refine r_iinc (v := (x6 + 1)) (lv' := [(6, .int (x6 + 1)), (0, .ref (xq X 0)), (1, .int x1), (2, .int x2), (3, .int x3), (4, .long x4)]) 5 dX11_letters_144 rfl rfl (by decide) rfl rfl ?_
  refine r_goto (t := 14) dX11_letters_147 (by decide) ?_
  refine r_sub [1, 2, 3, 4, 5, 0] rfl ?_
  exact hK14 x1 x2 x3 x4 (x6 + 1) σ h
def P_X11_letters_j60 (K14 : Int32 → Int32 → Int32 → Int64 → Int32 → SS → Option SS) (x1 : Int32) (x2 : Int32) (x3 : Int32) (x4 : Int64) (x6 : Int32) (σ : SS) : Option SS :=
  P_X11_letters_j144 K14 x1 x2 x3 x4 x6 (uI σ 8 (sI σ 7))
set_option maxHeartbeats 4000000 in
set_option maxRecDepth 100000 in
theorem T_X11_letters_j60 {X : XE} {σf : SS} {K14 : Int32 → Int32 → Int32 → Int64 → Int32 → SS → Option SS} (hK14 : ∀ (x1 : Int32) (x2 : Int32) (x3 : Int32) (x4 : Int64) (x6 : Int32) (σ : SS), K14 x1 x2 x3 x4 x6 σ = some σf → V (gM X) 2 RX11 cX11_letters 10 none none σf 14 [(0, .ref (xq X 0)), (1, .int x1), (2, .int x2), (3, .int x3), (4, .long x4), (6, .int x6)] [] σ) : ∀ (x1 : Int32) (x2 : Int32) (x3 : Int32) (x4 : Int64) (x6 : Int32) (σ : SS), P_X11_letters_j60 K14 x1 x2 x3 x4 x6 σ = some σf → V (gM X) 2 RX11 cX11_letters 10 none none σf 60 [(0, .ref (xq X 0)), (1, .int x1), (2, .int x2), (3, .int x3), (4, .long x4), (6, .int x6)] [] σ := by
  intro x1 x2 x3 x4 x6 σ h
  unfold P_X11_letters_j60 at h
  refine r_aload_n 0 dX11_letters_60 rfl rfl rfl ?_
  refine r_aload_n 0 dX11_letters_61 rfl rfl rfl ?_
  refine gf_X11_260_0 dX11_letters_62 rfl ?_
  refine pf_X11_263_0 dX11_letters_65 rfl ?_
  refine r_goto (t := 144) dX11_letters_68 (by decide) ?_
  exact T_X11_letters_j144 hK14 x1 x2 x3 x4 x6 (uI σ 8 (sI σ 7)) h
def P_X11_letters_j100 (K14 : Int32 → Int32 → Int32 → Int64 → Int32 → SS → Option SS) (K77 : Int32 → Int32 → Int32 → Int64 → Int32 → Int32 → Int32 → Int32 → SS → Option SS) (x1 : Int32) (x2 : Int32) (x3 : Int32) (x4 : Int64) (x6 : Int32) (x7 : Int32) (x9 : Int32) (y0 : Int32) (y1 : Int32) (σ : SS) : Option SS :=
  K77 x1 x2 x3 x4 x6 x7 (y1 + y0) (x9 + 1) σ
set_option maxHeartbeats 4000000 in
set_option maxRecDepth 100000 in
theorem T_X11_letters_j100 {X : XE} {σf : SS} {K14 : Int32 → Int32 → Int32 → Int64 → Int32 → SS → Option SS} {K77 : Int32 → Int32 → Int32 → Int64 → Int32 → Int32 → Int32 → Int32 → SS → Option SS} (hK14 : ∀ (x1 : Int32) (x2 : Int32) (x3 : Int32) (x4 : Int64) (x6 : Int32) (σ : SS), K14 x1 x2 x3 x4 x6 σ = some σf → V (gM X) 2 RX11 cX11_letters 10 none none σf 14 [(0, .ref (xq X 0)), (1, .int x1), (2, .int x2), (3, .int x3), (4, .long x4), (6, .int x6)] [] σ) (hK77 : ∀ (x1 : Int32) (x2 : Int32) (x3 : Int32) (x4 : Int64) (x6 : Int32) (x7 : Int32) (x8 : Int32) (x9 : Int32) (σ : SS), K77 x1 x2 x3 x4 x6 x7 x8 x9 σ = some σf → V (gM X) 2 RX11 cX11_letters 10 none none σf 77 [(0, .ref (xq X 0)), (1, .int x1), (2, .int x2), (3, .int x3), (4, .long x4), (6, .int x6), (7, .int x7), (8, .int x8), (9, .int x9)] [] σ) : ∀ (x1 : Int32) (x2 : Int32) (x3 : Int32) (x4 : Int64) (x6 : Int32) (x7 : Int32) (x9 : Int32) (y0 : Int32) (y1 : Int32) (σ : SS), P_X11_letters_j100 K14 K77 x1 x2 x3 x4 x6 x7 x9 y0 y1 σ = some σf → V (gM X) 2 RX11 cX11_letters 10 none none σf 100 [(0, .ref (xq X 0)), (1, .int x1), (2, .int x2), (3, .int x3), (4, .long x4), (6, .int x6), (7, .int x7), (9, .int x9)] [.int y0, .int y1] σ := by
  intro x1 x2 x3 x4 x6 x7 x9 y0 y1 σ h
  unfold P_X11_letters_j100 at h
  refine r_iadd dX11_letters_100 rfl ?_
  refine r_istore (lv' := [(8, .int (y1 + y0)), (0, .ref (xq X 0)), (1, .int x1), (2, .int x2), (3, .int x3), (4, .long x4), (6, .int x6), (7, .int x7), (9, .int x9)]) dX11_letters_101 (by decide) rfl rfl ?_
  refine r_iinc (v := (x9 + 1)) (lv' := [(9, .int (x9 + 1)), (8, .int (y1 + y0)), (0, .ref (xq X 0)), (1, .int x1), (2, .int x2), (3, .int x3), (4, .long x4), (6, .int x6), (7, .int x7)]) 8 dX11_letters_103 rfl rfl (by decide) rfl rfl ?_
  refine r_goto (t := 77) dX11_letters_106 (by decide) ?_
  refine r_sub [2, 3, 4, 5, 6, 7, 8, 1, 0] rfl ?_
  exact hK77 x1 x2 x3 x4 x6 x7 (y1 + y0) (x9 + 1) σ h
def P_X11_letters_j77 (K14 : Int32 → Int32 → Int32 → Int64 → Int32 → SS → Option SS) : Nat → Int32 → Int32 → Int32 → Int64 → Int32 → Int32 → Int32 → Int32 → SS → Option SS
  | 0, _, _, _, _, _, _, _, _, _ => none
  | n + 1, x1, x2, x3, x4, x6, x7, x8, x9, σ =>
    if x7 ≤ x9 then
      (P_X11_factorial ((x2 - 1) - x6)).bind fun v3 =>
      P_X11_letters_j144 K14 x1 x2 (x3 ||| ((1 : Int32) <<< (x7 &&& 31))) (x4 + (x8.toInt64 * v3)) x6 (uI σ 7 ((sI σ 7) + 1))
    else
      if ¬ ((x3 >>> (x9 &&& 31)) &&& 1) = 0 then
        P_X11_letters_j100 K14 (P_X11_letters_j77 K14 n) x1 x2 x3 x4 x6 x7 x9 0 x8 σ
      else
        P_X11_letters_j100 K14 (P_X11_letters_j77 K14 n) x1 x2 x3 x4 x6 x7 x9 1 x8 σ
set_option maxHeartbeats 4000000 in
set_option maxRecDepth 100000 in
theorem T_X11_letters_j77 {X : XE} {σf : SS} {K14 : Int32 → Int32 → Int32 → Int64 → Int32 → SS → Option SS} (hK14 : ∀ (x1 : Int32) (x2 : Int32) (x3 : Int32) (x4 : Int64) (x6 : Int32) (σ : SS), K14 x1 x2 x3 x4 x6 σ = some σf → V (gM X) 2 RX11 cX11_letters 10 none none σf 14 [(0, .ref (xq X 0)), (1, .int x1), (2, .int x2), (3, .int x3), (4, .long x4), (6, .int x6)] [] σ) : ∀ (fu : Nat) (x1 : Int32) (x2 : Int32) (x3 : Int32) (x4 : Int64) (x6 : Int32) (x7 : Int32) (x8 : Int32) (x9 : Int32) (σ : SS), P_X11_letters_j77 K14 fu x1 x2 x3 x4 x6 x7 x8 x9 σ = some σf → V (gM X) 2 RX11 cX11_letters 10 none none σf 77 [(0, .ref (xq X 0)), (1, .int x1), (2, .int x2), (3, .int x3), (4, .long x4), (6, .int x6), (7, .int x7), (8, .int x8), (9, .int x9)] [] σ := by
  intro fu
  induction fu with
  | zero => intro x1 x2 x3 x4 x6 x7 x8 x9 σ h; exact no0 h
  | succ n ih =>
    intro x1 x2 x3 x4 x6 x7 x8 x9 σ h
    unfold P_X11_letters_j77 at h
    refine r_iload 8 dX11_letters_77 rfl rfl ?_
    refine r_iload 6 dX11_letters_79 rfl rfl ?_
    refine r_icmp_ge (t := 109) dX11_letters_81 (by decide) rfl (fun c1 => ?_) (fun c1 => ?_)
    · have h := it_t c1 h
      refine r_lload 4 dX11_letters_109 rfl rfl ?_
      refine r_iload 7 dX11_letters_111 rfl rfl ?_
      refine r_i2l dX11_letters_113 rfl ?_
      refine r_iload_n 2 dX11_letters_114 rfl rfl rfl ?_
      refine ric_1 dX11_letters_115 rfl ?_
      refine r_isub dX11_letters_116 rfl ?_
      refine r_iload 5 dX11_letters_117 rfl rfl ?_
      refine r_isub dX11_letters_119 rfl ?_
      obtain ⟨v3, e2, h⟩ := bd h
      refine r_callS (As := [.int ((x2 - 1) - x6)]) (rest := [.long x8.toInt64, .long x4]) (T_X11_factorial e2) (by decide) mf_X11_factorial rfl tw_1160 tw_1159 rfl (Nat.le_of_ble_eq_true rfl) dX11_letters_120 rfl ?_
      refine r_call0 ?_
      refine r_lmul dX11_letters_123 rfl ?_
      refine r_ladd dX11_letters_124 rfl ?_
      refine r_lstore (lv' := [(4, .long (x4 + (x8.toInt64 * v3))), (0, .ref (xq X 0)), (1, .int x1), (2, .int x2), (3, .int x3), (6, .int x6), (7, .int x7), (8, .int x8), (9, .int x9)]) dX11_letters_125 (by decide) rfl rfl ?_
      refine r_iload_n 4 dX11_letters_127 rfl rfl rfl ?_
      refine ric_1 dX11_letters_128 rfl ?_
      refine r_iload 6 dX11_letters_129 rfl rfl ?_
      refine r_ishl dX11_letters_131 rfl ?_
      refine r_ior dX11_letters_132 rfl ?_
      refine r_istore_n (lv' := [(3, .int (x3 ||| ((1 : Int32) <<< (x7 &&& 31)))), (4, .long (x4 + (x8.toInt64 * v3))), (0, .ref (xq X 0)), (1, .int x1), (2, .int x2), (6, .int x6), (7, .int x7), (8, .int x8), (9, .int x9)]) dX11_letters_133 rfl (by decide) rfl rfl ?_
      refine r_aload_n 2 dX11_letters_134 rfl rfl rfl ?_
      refine r_dup rfl dX11_letters_135 rfl ?_
      refine gf_X11_260_0 dX11_letters_136 rfl ?_
      refine ric_1 dX11_letters_139 rfl ?_
      refine r_iadd dX11_letters_140 rfl ?_
      refine pf_X11_260_0 dX11_letters_141 rfl ?_
      refine r_sub [2, 3, 4, 0, 1, 5] rfl ?_
      exact T_X11_letters_j144 hK14 x1 x2 (x3 ||| ((1 : Int32) <<< (x7 &&& 31))) (x4 + (x8.toInt64 * v3)) x6 (uI σ 7 ((sI σ 7) + 1)) h
    · have h := it_f c1 h
      refine r_iload 7 dX11_letters_84 rfl rfl ?_
      refine r_iload_n 3 dX11_letters_86 rfl rfl rfl ?_
      refine r_iload 8 dX11_letters_87 rfl rfl ?_
      refine r_ishr dX11_letters_89 rfl ?_
      refine ric_1 dX11_letters_90 rfl ?_
      refine r_iand dX11_letters_91 rfl ?_
      refine r_if_ne (t := 99) dX11_letters_92 (by decide) rfl (fun c4 => ?_) (fun c4 => ?_)
      · have h := it_t c4 h
        refine ric_0 dX11_letters_99 rfl ?_
        refine r_sub [0, 1, 2, 3, 4, 5, 6, 8] rfl ?_
        exact T_X11_letters_j100 hK14 ih x1 x2 x3 x4 x6 x7 x9 0 x8 σ h
      · have h := it_n c4 h
        refine ric_1 dX11_letters_95 rfl ?_
        refine r_goto (t := 100) dX11_letters_96 (by decide) ?_
        refine r_sub [0, 1, 2, 3, 4, 5, 6, 8] rfl ?_
        exact T_X11_letters_j100 hK14 ih x1 x2 x3 x4 x6 x7 x9 1 x8 σ h
def P_X11_letters_j150 (x1 : Int32) (x2 : Int32) (x4 : Int64) (σ : SS) : Option SS :=
  gI x1 310 <|
  gI x1 310 <|
  some (stA (stL σ 2 x1 x4) 12 x1 x2)
set_option maxHeartbeats 4000000 in
set_option maxRecDepth 100000 in
theorem T_X11_letters_j150 {X : XE} {σf : SS} : ∀ (x1 : Int32) (x2 : Int32) (x4 : Int64) (σ : SS), P_X11_letters_j150 x1 x2 x4 σ = some σf → V (gM X) 2 RX11 cX11_letters 10 none none σf 150 [(0, .ref (xq X 0)), (1, .int x1), (2, .int x2), (4, .long x4)] [] σ := by
  intro x1 x2 x4 σ h
  unfold P_X11_letters_j150 at h
  refine r_aload_n 0 dX11_letters_150 rfl rfl rfl ?_
  refine gf_X11_63_0 dX11_letters_151 rfl ?_
  refine r_iload_n 1 dX11_letters_154 rfl rfl rfl ?_
  refine r_lload 3 dX11_letters_155 rfl rfl ?_
  obtain ⟨hi1, h⟩ := gi h
  refine asM_18 hi1 dX11_letters_157 rfl ?_
  refine r_aload_n 0 dX11_letters_158 rfl rfl rfl ?_
  refine gf_X11_54_0 dX11_letters_159 rfl ?_
  refine r_iload_n 1 dX11_letters_162 rfl rfl rfl ?_
  refine r_iload_n 2 dX11_letters_163 rfl rfl rfl ?_
  obtain ⟨hi2, h⟩ := gi h
  refine asM_15 hi2 dX11_letters_164 rfl ?_
  exact r_vretS dX11_letters_165 h
def P_X11_letters_j14 : Nat → Int32 → Int32 → Int32 → Int64 → Int32 → SS → Option SS
  | 0, _, _, _, _, _, _ => none
  | n + 1, x1, x2, x3, x4, x6, σ =>
    if x2 ≤ x6 then
      P_X11_letters_j150 x1 x2 x4 σ
    else
      if 0 ≤ (sI σ 8) then
        P_X11_letters_j150 x1 x2 x4 σ
      else
        (P_X11_here σ).bind fun v4 =>
        (P_X11_isIn ((v4 - 97).toInt64) 0 ((x2 - 1).toInt64)).bind fun v6 =>
        if v6 = 0 then
          P_X11_letters_j60 (P_X11_letters_j14 n) x1 x2 x3 x4 x6 σ
        else
          if ¬ ((x3 >>> ((v4 - 97) &&& 31)) &&& 1) = 1 then
            P_X11_letters_j77 (P_X11_letters_j14 n) FU x1 x2 x3 x4 x6 (v4 - 97) 0 0 σ
          else
            P_X11_letters_j60 (P_X11_letters_j14 n) x1 x2 x3 x4 x6 σ
set_option maxHeartbeats 4000000 in
set_option maxRecDepth 100000 in
theorem T_X11_letters_j14 {X : XE} {σf : SS} : ∀ (fu : Nat) (x1 : Int32) (x2 : Int32) (x3 : Int32) (x4 : Int64) (x6 : Int32) (σ : SS), P_X11_letters_j14 fu x1 x2 x3 x4 x6 σ = some σf → V (gM X) 2 RX11 cX11_letters 10 none none σf 14 [(0, .ref (xq X 0)), (1, .int x1), (2, .int x2), (3, .int x3), (4, .long x4), (6, .int x6)] [] σ := by
  intro fu
  induction fu with
  | zero => intro x1 x2 x3 x4 x6 σ h; exact no0 h
  | succ n ih =>
    intro x1 x2 x3 x4 x6 σ h
    unfold P_X11_letters_j14 at h
    refine r_iload 5 dX11_letters_14 rfl rfl ?_
    refine r_iload_n 2 dX11_letters_16 rfl rfl rfl ?_
    refine r_icmp_ge (t := 150) dX11_letters_17 (by decide) rfl (fun c1 => ?_) (fun c1 => ?_)
    · have h := it_t c1 h
      refine r_sub [0, 1, 2, 4] rfl ?_
      exact T_X11_letters_j150 x1 x2 x4 σ h
    · have h := it_f c1 h
      refine r_aload_n 0 dX11_letters_20 rfl rfl rfl ?_
      refine gf_X11_263_0 dX11_letters_21 rfl ?_
      refine r_if_ge (t := 150) dX11_letters_24 (by decide) rfl (fun c2 => ?_) (fun c2 => ?_)
      · have h := it_t c2 h
        refine r_sub [0, 1, 2, 4] rfl ?_
        exact T_X11_letters_j150 x1 x2 x4 σ h
      · have h := it_f c2 h
        refine r_aload_n 0 dX11_letters_27 rfl rfl rfl ?_
        obtain ⟨v4, e3, h⟩ := bd h
        refine r_callV (rest := []) (T_X11_here e3) (by decide) mf_X11_here rfl tw_1271 tw_71 tw_1269 cM_0 rfl rfl rfl (Nat.le_of_ble_eq_true rfl) dX11_letters_28 rfl ?_
        refine r_call0 ?_
        refine r_bipush (v := 97) dX11_letters_31 (by decide) rfl ?_
        refine r_isub dX11_letters_33 rfl ?_
        refine r_istore (lv' := [(7, .int (v4 - 97)), (0, .ref (xq X 0)), (1, .int x1), (2, .int x2), (3, .int x3), (4, .long x4), (6, .int x6)]) dX11_letters_34 (by decide) rfl rfl ?_
        refine r_iload 0 dX11_letters_36 rfl rfl ?_
        refine r_i2l dX11_letters_38 rfl ?_
        refine rlc_0 dX11_letters_39 rfl ?_
        refine r_iload_n 3 dX11_letters_40 rfl rfl rfl ?_
        refine ric_1 dX11_letters_41 rfl ?_
        refine r_isub dX11_letters_42 rfl ?_
        refine r_i2l dX11_letters_43 rfl ?_
        obtain ⟨v6, e5, h⟩ := bd h
        refine r_callS (As := [.long ((v4 - 97).toInt64), .long 0, .long ((x2 - 1).toInt64)]) (rest := []) (T_X11_isIn e5) (by decide) mf_X11_isIn rfl tw_1055 tw_1054 rfl (Nat.le_of_ble_eq_true rfl) dX11_letters_44 rfl ?_
        refine r_call0 ?_
        refine r_if_eq (t := 60) dX11_letters_47 (by decide) rfl (fun c7 => ?_) (fun c7 => ?_)
        · have h := it_t c7 h
          refine r_sub [1, 2, 3, 4, 5, 6] rfl ?_
          exact T_X11_letters_j60 ih x1 x2 x3 x4 x6 σ h
        · have h := it_f c7 h
          refine r_iload_n 4 dX11_letters_50 rfl rfl rfl ?_
          refine r_iload 0 dX11_letters_51 rfl rfl ?_
          refine r_ishr dX11_letters_53 rfl ?_
          refine ric_1 dX11_letters_54 rfl ?_
          refine r_iand dX11_letters_55 rfl ?_
          refine ric_1 dX11_letters_56 rfl ?_
          refine r_icmp_ne (t := 71) dX11_letters_57 (by decide) rfl (fun c8 => ?_) (fun c8 => ?_)
          · have h := it_t c8 h
            refine ric_0 dX11_letters_71 rfl ?_
            refine r_istore (lv' := [(8, .int 0), (7, .int (v4 - 97)), (0, .ref (xq X 0)), (1, .int x1), (2, .int x2), (3, .int x3), (4, .long x4), (6, .int x6)]) dX11_letters_72 (by decide) rfl rfl ?_
            refine ric_0 dX11_letters_74 rfl ?_
            refine r_istore (lv' := [(9, .int 0), (8, .int 0), (7, .int (v4 - 97)), (0, .ref (xq X 0)), (1, .int x1), (2, .int x2), (3, .int x3), (4, .long x4), (6, .int x6)]) dX11_letters_75 (by decide) rfl rfl ?_
            refine r_sub [3, 4, 5, 6, 7, 8, 2, 1, 0] rfl ?_
            exact T_X11_letters_j77 ih FU x1 x2 x3 x4 x6 (v4 - 97) 0 0 σ h
          · have h := it_n c8 h
            refine r_sub [1, 2, 3, 4, 5, 6] rfl ?_
            exact T_X11_letters_j60 ih x1 x2 x3 x4 x6 σ h
def P_X11_letters (a1 : Int32) (a2 : Int32) (σ : SS) : Option SS :=
  (P_X11_need 61 σ).bind fun σ2 =>
  P_X11_letters_j14 FU a1 a2 0 0 0 σ2
set_option maxHeartbeats 4000000 in
set_option maxRecDepth 100000 in
theorem T_X11_letters {X : XE} {σf : SS} {σ : SS} {a1 : Int32} {a2 : Int32} (h : P_X11_letters a1 a2 σ = some σf) : Mt (gM X) 2 yX11_letters cX11_letters 10 none [.ref (xq X 0), .int a1, .int a2] σ none σf := by
  refine Mt.of (own := RX11) (lv := [(0, .ref (xq X 0)), (1, .int a1), (2, .int a2)]) pn_X11 rfl (Nat.le_of_ble_eq_true rfl) rfl ?_
  unfold P_X11_letters at h
  refine r_aload_n 0 dX11_letters_0 rfl rfl rfl ?_
  refine r_bipush (v := 61) dX11_letters_1 (by decide) rfl ?_
  obtain ⟨σ2, e1, h⟩ := bd h
  refine r_callV (rest := []) (T_X11_need e1) (by decide) mf_X11_need rfl tw_1267 tw_70 tw_1265 cM_0 rfl rfl rfl (Nat.le_of_ble_eq_true rfl) dX11_letters_3 rfl ?_
  refine r_calln ?_
  refine ric_0 dX11_letters_6 rfl ?_
  refine r_istore_n (lv' := [(3, .int 0), (0, .ref (xq X 0)), (1, .int a1), (2, .int a2)]) dX11_letters_7 rfl (by decide) rfl rfl ?_
  refine rlc_0 dX11_letters_8 rfl ?_
  refine r_lstore (lv' := [(4, .long 0), (3, .int 0), (0, .ref (xq X 0)), (1, .int a1), (2, .int a2)]) dX11_letters_9 (by decide) rfl rfl ?_
  refine ric_0 dX11_letters_11 rfl ?_
  refine r_istore (lv' := [(6, .int 0), (4, .long 0), (3, .int 0), (0, .ref (xq X 0)), (1, .int a1), (2, .int a2)]) dX11_letters_12 (by decide) rfl rfl ?_
  refine r_sub [3, 4, 5, 2, 1, 0] rfl ?_
  exact T_X11_letters_j14 FU a1 a2 0 0 0 σ2 h
def P_X11_eitherPart_j27 (rec : (Int32 → SS → Option (Int32 × SS))) (x1 : Int32) (x2 : Int32) (σ : SS) : Option SS :=
  (P_X11_here σ).bind fun v2 =>
  gI x1 310 <|
  gI x1 310 <|
  if ¬ (ldL (uI (stL σ 2 x1 ((v2 - 48).toInt64)) 7 ((sI (stL σ 2 x1 ((v2 - 48).toInt64)) 7) + 1)) 2 x1) = 1 then
    gI x2 16 <|
    b2 (rec (ldA (uI (stL σ 2 x1 ((v2 - 48).toInt64)) 7 ((sI (stL σ 2 x1 ((v2 - 48).toInt64)) 7) + 1)) 2 x2) (uI (stL σ 2 x1 ((v2 - 48).toInt64)) 7 ((sI (stL σ 2 x1 ((v2 - 48).toInt64)) 7) + 1))) fun v8 σ9 =>
    (P_X11_within x1 v8 0 σ9).bind fun σ11 =>
    some σ11
  else
    gI x2 16 <|
    b2 (rec (ldA (uI (stL σ 2 x1 ((v2 - 48).toInt64)) 7 ((sI (stL σ 2 x1 ((v2 - 48).toInt64)) 7) + 1)) 1 x2) (uI (stL σ 2 x1 ((v2 - 48).toInt64)) 7 ((sI (stL σ 2 x1 ((v2 - 48).toInt64)) 7) + 1))) fun v14 σ15 =>
    (P_X11_within x1 v14 0 σ15).bind fun σ17 =>
    some σ17
set_option maxHeartbeats 4000000 in
set_option maxRecDepth 100000 in
theorem T_X11_eitherPart_j27 {X : XE} {e : Nat} (he : 3 ≤ e) {rec : (Int32 → SS → Option (Int32 × SS))} (hrec : ∀ (a r : Int32) (σ σ1 : SS), rec a σ = some (r, σ1) → Mt (gM X) e yX11_part cX11_part 3 (some .int) [.ref (xq X 0), .int a] σ (some (.int r)) σ1) {σf : SS} : ∀ (x1 : Int32) (x2 : Int32) (σ : SS), P_X11_eitherPart_j27 rec x1 x2 σ = some σf → V (gM X) (e + 1) RX11 cX11_eitherPart 3 none none σf 27 [(0, .ref (xq X 0)), (1, .int x1), (2, .int x2)] [] σ := by
  intro x1 x2 σ h
  unfold P_X11_eitherPart_j27 at h
  refine r_aload_n 0 dX11_eitherPart_27 rfl rfl rfl ?_
  refine gf_X11_63_0 dX11_eitherPart_28 rfl ?_
  refine r_iload_n 1 dX11_eitherPart_31 rfl rfl rfl ?_
  refine r_aload_n 0 dX11_eitherPart_32 rfl rfl rfl ?_
  obtain ⟨v2, e1, h⟩ := bd h
  refine r_callV (rest := [.int x1, .ref (xq X 18)]) (T_X11_here e1) (by omega) mf_X11_here rfl tw_1271 tw_71 tw_1269 cM_0 rfl rfl rfl (Nat.le_of_ble_eq_true rfl) dX11_eitherPart_33 rfl ?_
  refine r_call0 ?_
  refine r_bipush (v := 48) dX11_eitherPart_36 (by decide) rfl ?_
  refine r_isub dX11_eitherPart_38 rfl ?_
  refine r_i2l dX11_eitherPart_39 rfl ?_
  obtain ⟨hi3, h⟩ := gi h
  refine asM_18 hi3 dX11_eitherPart_40 rfl ?_
  refine r_aload_n 0 dX11_eitherPart_41 rfl rfl rfl ?_
  refine r_dup rfl dX11_eitherPart_42 rfl ?_
  refine gf_X11_260_0 dX11_eitherPart_43 rfl ?_
  refine ric_1 dX11_eitherPart_46 rfl ?_
  refine r_iadd dX11_eitherPart_47 rfl ?_
  refine pf_X11_260_0 dX11_eitherPart_48 rfl ?_
  refine r_aload_n 0 dX11_eitherPart_51 rfl rfl rfl ?_
  refine r_iload_n 1 dX11_eitherPart_52 rfl rfl rfl ?_
  refine r_aload_n 0 dX11_eitherPart_53 rfl rfl rfl ?_
  refine r_aload_n 0 dX11_eitherPart_54 rfl rfl rfl ?_
  refine gf_X11_63_0 dX11_eitherPart_55 rfl ?_
  refine r_iload_n 1 dX11_eitherPart_58 rfl rfl rfl ?_
  obtain ⟨hi4, h⟩ := gi h
  refine alM_18 hi4 dX11_eitherPart_59 rfl ?_
  refine rlc_1 dX11_eitherPart_60 rfl ?_
  refine r_lif_ne (t := 74) dX11_eitherPart_61 rfl dX11_eitherPart_62 (by decide) rfl (fun c5 => ?_) (fun c5 => ?_)
  · have h := it_t c5 h
    refine r_aload_n 0 dX11_eitherPart_74 rfl rfl rfl ?_
    refine gf_X11_16_0 dX11_eitherPart_75 rfl ?_
    refine r_iload_n 2 dX11_eitherPart_78 rfl rfl rfl ?_
    obtain ⟨hi6, h⟩ := gi h
    refine alM_3 hi6 dX11_eitherPart_79 rfl ?_
    obtain ⟨v8, σ9, e7, h⟩ := b2d h
    refine r_callV (rest := [.int x1, .ref (xq X 0)]) (hrec _ _ _ _ e7) (by omega) mf_X11_part rfl tw_1263 tw_69 tw_1261 cM_0 rfl rfl rfl (Nat.le_of_ble_eq_true rfl) dX11_eitherPart_80 rfl ?_
    refine r_call0 ?_
    refine ric_0 dX11_eitherPart_83 rfl ?_
    obtain ⟨σ11, e10, h⟩ := bd h
    refine r_callV (rest := []) (T_X11_within e10) (by omega) mf_X11_within rfl tw_1275 tw_72 tw_1273 cM_0 rfl rfl rfl (Nat.le_of_ble_eq_true rfl) dX11_eitherPart_84 rfl ?_
    refine r_calln ?_
    exact r_vretS dX11_eitherPart_87 h
  · have h := it_n c5 h
    refine r_aload_n 0 dX11_eitherPart_65 rfl rfl rfl ?_
    refine gf_X11_13_0 dX11_eitherPart_66 rfl ?_
    refine r_iload_n 2 dX11_eitherPart_69 rfl rfl rfl ?_
    obtain ⟨hi12, h⟩ := gi h
    refine alM_2 hi12 dX11_eitherPart_70 rfl ?_
    refine r_goto (t := 80) dX11_eitherPart_71 (by decide) ?_
    obtain ⟨v14, σ15, e13, h⟩ := b2d h
    refine r_callV (rest := [.int x1, .ref (xq X 0)]) (hrec _ _ _ _ e13) (by omega) mf_X11_part rfl tw_1263 tw_69 tw_1261 cM_0 rfl rfl rfl (Nat.le_of_ble_eq_true rfl) dX11_eitherPart_80 rfl ?_
    refine r_call0 ?_
    refine ric_0 dX11_eitherPart_83 rfl ?_
    obtain ⟨σ17, e16, h⟩ := bd h
    refine r_callV (rest := []) (T_X11_within e16) (by omega) mf_X11_within rfl tw_1275 tw_72 tw_1273 cM_0 rfl rfl rfl (Nat.le_of_ble_eq_true rfl) dX11_eitherPart_84 rfl ?_
    refine r_calln ?_
    exact r_vretS dX11_eitherPart_87 h
def P_X11_eitherPart (rec : (Int32 → SS → Option (Int32 × SS))) (a1 : Int32) (a2 : Int32) (σ : SS) : Option SS :=
  (P_X11_here σ).bind fun v2 =>
  if v2 = 49 then
    P_X11_eitherPart_j27 rec a1 a2 σ
  else
    (P_X11_here σ).bind fun v5 =>
    if v5 = 50 then
      P_X11_eitherPart_j27 rec a1 a2 σ
    else
      some (uI σ 8 (sI σ 7))
set_option maxHeartbeats 4000000 in
set_option maxRecDepth 100000 in
theorem T_X11_eitherPart {X : XE} {e : Nat} (he : 3 ≤ e) {rec : (Int32 → SS → Option (Int32 × SS))} (hrec : ∀ (a r : Int32) (σ σ1 : SS), rec a σ = some (r, σ1) → Mt (gM X) e yX11_part cX11_part 3 (some .int) [.ref (xq X 0), .int a] σ (some (.int r)) σ1) {σf : SS} {σ : SS} {a1 : Int32} {a2 : Int32} (h : P_X11_eitherPart rec a1 a2 σ = some σf) : Mt (gM X) (e + 1) yX11_eitherPart cX11_eitherPart 3 none [.ref (xq X 0), .int a1, .int a2] σ none σf := by
  refine Mt.of (own := RX11) (lv := [(0, .ref (xq X 0)), (1, .int a1), (2, .int a2)]) pn_X11 rfl (Nat.le_of_ble_eq_true rfl) rfl ?_
  unfold P_X11_eitherPart at h
  refine r_aload_n 0 dX11_eitherPart_0 rfl rfl rfl ?_
  obtain ⟨v2, e1, h⟩ := bd h
  refine r_callV (rest := []) (T_X11_here e1) (by omega) mf_X11_here rfl tw_1271 tw_71 tw_1269 cM_0 rfl rfl rfl (Nat.le_of_ble_eq_true rfl) dX11_eitherPart_1 rfl ?_
  refine r_call0 ?_
  refine r_bipush (v := 49) dX11_eitherPart_4 (by decide) rfl ?_
  refine r_icmp_eq (t := 27) dX11_eitherPart_6 (by decide) rfl (fun c3 => ?_) (fun c3 => ?_)
  · have h := it_t c3 h
    exact T_X11_eitherPart_j27 he hrec a1 a2 σ h
  · have h := it_f c3 h
    refine r_aload_n 0 dX11_eitherPart_9 rfl rfl rfl ?_
    obtain ⟨v5, e4, h⟩ := bd h
    refine r_callV (rest := []) (T_X11_here e4) (by omega) mf_X11_here rfl tw_1271 tw_71 tw_1269 cM_0 rfl rfl rfl (Nat.le_of_ble_eq_true rfl) dX11_eitherPart_10 rfl ?_
    refine r_call0 ?_
    refine r_bipush (v := 50) dX11_eitherPart_13 (by decide) rfl ?_
    refine r_icmp_eq (t := 27) dX11_eitherPart_15 (by decide) rfl (fun c6 => ?_) (fun c6 => ?_)
    · have h := it_t c6 h
      exact T_X11_eitherPart_j27 he hrec a1 a2 σ h
    · have h := it_f c6 h
      refine r_aload_n 0 dX11_eitherPart_18 rfl rfl rfl ?_
      refine r_aload_n 0 dX11_eitherPart_19 rfl rfl rfl ?_
      refine gf_X11_260_0 dX11_eitherPart_20 rfl ?_
      refine pf_X11_263_0 dX11_eitherPart_23 rfl ?_
      exact r_vretS dX11_eitherPart_26 h
