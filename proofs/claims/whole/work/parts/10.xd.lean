def P_X8_bagRow (a0 : Int32) (a1 : Int32) : Option Int32 :=
  some ((a0 * 325) + ((a1 * (a1 + 1)) / 2))
set_option maxHeartbeats 4000000 in
set_option maxRecDepth 100000 in
theorem T_X8_bagRow {X : XE} {σ : SS} {r : Int32} {a0 : Int32} {a1 : Int32} (h : P_X8_bagRow a0 a1 = some r) : Mt (gX X) 0 yX8_bagRow cX8_bagRow 2 (some .int) [.int a0, .int a1] σ (some (.int r)) σ := by
  refine Mt.of (own := RX8) (lv := [(0, .int a0), (1, .int a1)]) pn_X8 rfl (Nat.le_of_ble_eq_true rfl) rfl ?_
  unfold P_X8_bagRow at h
  refine r_iload_n 0 dX8_bagRow_0 rfl rfl rfl ?_
  refine r_sipush (v := 325) dX8_bagRow_1 (by decide) rfl ?_
  refine r_imul dX8_bagRow_4 rfl ?_
  refine r_iload_n 1 dX8_bagRow_5 rfl rfl rfl ?_
  refine r_iload_n 1 dX8_bagRow_6 rfl rfl rfl ?_
  refine ric_1 dX8_bagRow_7 rfl ?_
  refine r_iadd dX8_bagRow_8 rfl ?_
  refine r_imul dX8_bagRow_9 rfl ?_
  refine ric_2 dX8_bagRow_10 rfl ?_
  refine r_idiv (by decide) dX8_bagRow_11 rfl ?_
  refine r_iadd dX8_bagRow_12 rfl ?_
  exact r_iretR dX8_bagRow_13 h
def P_X6_set__20 (a1 : Int32) (a2 : Int64) (σ : SS) : Option SS :=
  if a1 < 0 then
    some σ
  else
    if 5200 ≤ a1 then
      some σ
    else
      gI a1 5200 <|
      some (stL σ 1 a1 a2)
set_option maxHeartbeats 4000000 in
set_option maxRecDepth 100000 in
theorem T_X6_set__20 {X : XE} {σf : SS} {σ : SS} {a1 : Int32} {a2 : Int64} (h : P_X6_set__20 a1 a2 σ = some σf) : Mt (gX X) 0 yX6_set_ cX6_set_ 4 none [.ref (xq X 20), .int a1, .long a2] σ none σf := by
  refine Mt.of (own := RX6) (lv := [(0, .ref (xq X 20)), (1, .int a1), (2, .long a2)]) pn_X6 rfl (Nat.le_of_ble_eq_true rfl) rfl ?_
  unfold P_X6_set__20 at h
  refine r_iload_n 1 dX6_set__0 rfl rfl rfl ?_
  refine r_if_lt (t := 14) dX6_set__1 (by decide) rfl (fun c1 => ?_) (fun c1 => ?_)
  · have h := it_t c1 h
    exact r_vretS dX6_set__14 h
  · have h := it_f c1 h
    refine r_iload_n 1 dX6_set__4 rfl rfl rfl ?_
    refine r_aload_n 0 dX6_set__5 rfl rfl rfl ?_
    refine anX_20 dX6_set__6 rfl ?_
    refine r_icmp_ge (t := 14) dX6_set__7 (by decide) rfl (fun c2 => ?_) (fun c2 => ?_)
    · have h := it_t c2 h
      exact r_vretS dX6_set__14 h
    · have h := it_f c2 h
      refine r_aload_n 0 dX6_set__10 rfl rfl rfl ?_
      refine r_iload_n 1 dX6_set__11 rfl rfl rfl ?_
      refine r_lload_n 2 dX6_set__12 rfl rfl rfl ?_
      obtain ⟨hi3, h⟩ := gi h
      refine asX_20 hi3 dX6_set__13 rfl ?_
      exact r_vretS dX6_set__14 h
def P_X10_isSize (a0 : Int32) : Option Int32 :=
  if a0 < 0 then
    some 0
  else
    if 24 < a0 then
      some 0
    else
      some 1
set_option maxHeartbeats 4000000 in
set_option maxRecDepth 100000 in
theorem T_X10_isSize {X : XE} {σ : SS} {r : Int32} {a0 : Int32} (h : P_X10_isSize a0 = some r) : Mt (gX X) 0 yX10_isSize cX10_isSize 1 (some .boolean) [.int a0] σ (some (.int r)) σ := by
  refine Mt.of (own := RX10) (lv := [(0, .int a0)]) pn_X10 rfl (Nat.le_of_ble_eq_true rfl) rfl ?_
  unfold P_X10_isSize at h
  refine r_iload_n 0 dX10_isSize_0 rfl rfl rfl ?_
  refine r_if_lt (t := 14) dX10_isSize_1 (by decide) rfl (fun c1 => ?_) (fun c1 => ?_)
  · have h := it_t c1 h
    refine ric_0 dX10_isSize_14 rfl ?_
    exact r_zretR (Or.inl rfl) dX10_isSize_15 h
  · have h := it_f c1 h
    refine r_iload_n 0 dX10_isSize_4 rfl rfl rfl ?_
    refine r_bipush (v := 24) dX10_isSize_5 (by decide) rfl ?_
    refine r_icmp_gt (t := 14) dX10_isSize_7 (by decide) rfl (fun c2 => ?_) (fun c2 => ?_)
    · have h := it_t c2 h
      refine ric_0 dX10_isSize_14 rfl ?_
      exact r_zretR (Or.inl rfl) dX10_isSize_15 h
    · have h := it_f c2 h
      refine ric_1 dX10_isSize_10 rfl ?_
      refine r_goto (t := 15) dX10_isSize_11 (by decide) ?_
      exact r_zretR (Or.inr rfl) dX10_isSize_15 h
def P_X6_at__20 (a1 : Int32) (σ : SS) : Option Int64 :=
  if a1 < 0 then
    some 0
  else
    if 5200 ≤ a1 then
      some 0
    else
      gI a1 5200 <|
      some (ldL σ 1 a1)
set_option maxHeartbeats 4000000 in
set_option maxRecDepth 100000 in
theorem T_X6_at__20 {X : XE} {σ : SS} {r : Int64} {a1 : Int32} (h : P_X6_at__20 a1 σ = some r) : Mt (gX X) 0 yX6_at_ cX6_at_ 2 (some .long) [.ref (xq X 20), .int a1] σ (some (.long r)) σ := by
  refine Mt.of (own := RX6) (lv := [(0, .ref (xq X 20)), (1, .int a1)]) pn_X6 rfl (Nat.le_of_ble_eq_true rfl) rfl ?_
  unfold P_X6_at__20 at h
  refine r_iload_n 1 dX6_at__0 rfl rfl rfl ?_
  refine r_if_lt (t := 16) dX6_at__1 (by decide) rfl (fun c1 => ?_) (fun c1 => ?_)
  · have h := it_t c1 h
    refine rlc_0 dX6_at__16 rfl ?_
    exact r_lretR dX6_at__17 h
  · have h := it_f c1 h
    refine r_iload_n 1 dX6_at__4 rfl rfl rfl ?_
    refine r_aload_n 0 dX6_at__5 rfl rfl rfl ?_
    refine anX_20 dX6_at__6 rfl ?_
    refine r_icmp_ge (t := 16) dX6_at__7 (by decide) rfl (fun c2 => ?_) (fun c2 => ?_)
    · have h := it_t c2 h
      refine rlc_0 dX6_at__16 rfl ?_
      exact r_lretR dX6_at__17 h
    · have h := it_f c2 h
      refine r_aload_n 0 dX6_at__10 rfl rfl rfl ?_
      refine r_iload_n 1 dX6_at__11 rfl rfl rfl ?_
      obtain ⟨hi3, h⟩ := gi h
      refine alX_20 hi3 dX6_at__12 rfl ?_
      refine r_goto (t := 17) dX6_at__13 (by decide) ?_
      exact r_lretR dX6_at__17 h
def P_X8_bagsUpTo (a1 : Int32) (a2 : Int32) (a3 : Int32) (σ : SS) : Option Int64 :=
  (P_X10_isSize a2).bind fun v2 =>
  if v2 = 0 then
    some 0
  else
    (P_X10_isSize a3).bind fun v5 =>
    if ¬ v5 = 0 then
      (P_X8_bagRow a1 a2).bind fun v8 =>
      (P_X6_at__20 (v8 + (mmini a3 a2)) σ).bind fun v10 =>
      some v10
    else
      some 0
set_option maxHeartbeats 4000000 in
set_option maxRecDepth 100000 in
theorem T_X8_bagsUpTo {X : XE} {σ : SS} {r : Int64} {a1 : Int32} {a2 : Int32} {a3 : Int32} (h : P_X8_bagsUpTo a1 a2 a3 σ = some r) : Mt (gX X) 1 yX8_bagsUpTo cX8_bagsUpTo 4 (some .long) [.ref (xq X 4), .int a1, .int a2, .int a3] σ (some (.long r)) σ := by
  refine Mt.of (own := RX8) (lv := [(0, .ref (xq X 4)), (1, .int a1), (2, .int a2), (3, .int a3)]) pn_X8 rfl (Nat.le_of_ble_eq_true rfl) rfl ?_
  unfold P_X8_bagsUpTo at h
  refine r_iload_n 2 dX8_bagsUpTo_0 rfl rfl rfl ?_
  obtain ⟨v2, e1, h⟩ := bd h
  refine r_callSN (As := [.int a2]) (rest := []) (T_X10_isSize e1) (by decide) mf_X10_isSize rfl tw_575 (fun u h => h.2.2.2.2) rfl (Nat.le_of_ble_eq_true rfl) dX8_bagsUpTo_1 rfl ?_
  refine r_call0 ?_
  refine r_if_eq (t := 14) dX8_bagsUpTo_4 (by decide) rfl (fun c3 => ?_) (fun c3 => ?_)
  · have h := it_t c3 h
    refine rlc_0 dX8_bagsUpTo_14 rfl ?_
    exact r_lretR dX8_bagsUpTo_15 h
  · have h := it_f c3 h
    refine r_iload_n 3 dX8_bagsUpTo_7 rfl rfl rfl ?_
    obtain ⟨v5, e4, h⟩ := bd h
    refine r_callSN (As := [.int a3]) (rest := []) (T_X10_isSize e4) (by decide) mf_X10_isSize rfl tw_575 (fun u h => h.2.2.2.2) rfl (Nat.le_of_ble_eq_true rfl) dX8_bagsUpTo_8 rfl ?_
    refine r_call0 ?_
    refine r_if_ne (t := 16) dX8_bagsUpTo_11 (by decide) rfl (fun c6 => ?_) (fun c6 => ?_)
    · have h := it_t c6 h
      refine r_aload_n 0 dX8_bagsUpTo_16 rfl rfl rfl ?_
      refine gf_X8_15_4 dX8_bagsUpTo_17 rfl ?_
      refine r_iload_n 1 dX8_bagsUpTo_20 rfl rfl rfl ?_
      refine r_iload_n 2 dX8_bagsUpTo_21 rfl rfl rfl ?_
      obtain ⟨v8, e7, h⟩ := bd h
      refine r_callS (As := [.int a1, .int a2]) (rest := [.ref (xq X 20)]) (T_X8_bagRow e7) (by decide) mf_X8_bagRow rfl tw_561 tw_560 rfl (Nat.le_of_ble_eq_true rfl) dX8_bagsUpTo_22 rfl ?_
      refine r_call0 ?_
      refine r_iload_n 3 dX8_bagsUpTo_25 rfl rfl rfl ?_
      refine r_iload_n 2 dX8_bagsUpTo_26 rfl rfl rfl ?_
      refine r_mmini (by decide) (Nat.le_of_ble_eq_true rfl) tw_577 dX8_bagsUpTo_27 rfl ?_
      refine r_iadd dX8_bagsUpTo_30 rfl ?_
      obtain ⟨v10, e9, h⟩ := bd h
      refine r_callS (As := [.ref (xq X 20), .int (v8 + (mmini a3 a2))]) (rest := []) (T_X6_at__20 e9) (by decide) mf_X6_at_ rfl tw_581 tw_580 rfl (Nat.le_of_ble_eq_true rfl) dX8_bagsUpTo_31 rfl ?_
      refine r_call0 ?_
      exact r_lretR dX8_bagsUpTo_34 h
    · have h := it_n c6 h
      refine rlc_0 dX8_bagsUpTo_14 rfl ?_
      exact r_lretR dX8_bagsUpTo_15 h
def P_X7_choose_j34 : Nat → Int64 → Int32 → Int64 → Int32 → Option Int64
  | 0, _, _, _, _ => none
  | n + 1, x0, x2, x3, x5 =>
    if x2 < x5 then
      some (mminl 10000000000000000 x3)
    else
      if ((x0 - x2.toInt64) + x5.toInt64) ≤ 0 then
        some 10000000000000000
      else
        gN ((x0 - x2.toInt64) + x5.toInt64) <|
        if x3 ≤ ((10000000000000000 * x5.toInt64) / ((x0 - x2.toInt64) + x5.toInt64)) then
          gN x5.toInt64 <|
          (P_X7_choose_j34 n) x0 x2 ((x3 * ((x0 - x2.toInt64) + x5.toInt64)) / x5.toInt64) (x5 + 1)
        else
          some 10000000000000000
set_option maxHeartbeats 4000000 in
set_option maxRecDepth 100000 in
theorem T_X7_choose_j34 {X : XE} {σ : SS} {r : Int64} : ∀ (fu : Nat) (x0 : Int64) (x2 : Int32) (x3 : Int64) (x5 : Int32), P_X7_choose_j34 fu x0 x2 x3 x5 = some r → V (gX X) 1 RX7 cX7_choose 8 (some .long) (some (.long r)) σ 34 [(0, .long x0), (2, .int x2), (3, .long x3), (5, .int x5)] [] σ := by
  intro fu
  induction fu with
  | zero => intro x0 x2 x3 x5 h; exact no0 h
  | succ n ih =>
    intro x0 x2 x3 x5 h
    unfold P_X7_choose_j34 at h
    refine r_iload 3 dX7_choose_34 rfl rfl ?_
    refine r_iload_n 1 dX7_choose_36 rfl rfl rfl ?_
    refine r_icmp_gt (t := 91) dX7_choose_37 (by decide) rfl (fun c1 => ?_) (fun c1 => ?_)
    · have h := it_t c1 h
      refine r_ldc2 (v := 10000000000000000) tw_545 dX7_choose_91 rfl ?_
      refine r_lload_n 2 dX7_choose_94 rfl rfl rfl ?_
      refine r_mminl (by decide) (Nat.le_of_ble_eq_true rfl) tw_553 dX7_choose_95 rfl ?_
      exact r_lretR dX7_choose_98 h
    · have h := it_f c1 h
      refine r_lload_n 0 dX7_choose_40 rfl rfl rfl ?_
      refine r_iload_n 1 dX7_choose_41 rfl rfl rfl ?_
      refine r_i2l dX7_choose_42 rfl ?_
      refine r_lsub dX7_choose_43 rfl ?_
      refine r_iload 3 dX7_choose_44 rfl rfl ?_
      refine r_i2l dX7_choose_46 rfl ?_
      refine r_ladd dX7_choose_47 rfl ?_
      refine r_lstore (lv' := [(6, .long ((x0 - x2.toInt64) + x5.toInt64)), (0, .long x0), (2, .int x2), (3, .long x3), (5, .int x5)]) dX7_choose_48 (by decide) rfl rfl ?_
      refine r_lload 0 dX7_choose_50 rfl rfl ?_
      refine rlc_0 dX7_choose_52 rfl ?_
      refine r_lif_le (t := 72) dX7_choose_53 rfl dX7_choose_54 (by decide) rfl (fun c2 => ?_) (fun c2 => ?_)
      · have h := it_t c2 h
        refine r_ldc2 (v := 10000000000000000) tw_545 dX7_choose_72 rfl ?_
        exact r_lretR dX7_choose_75 h
      · have h := it_f c2 h
        refine r_lload_n 3 dX7_choose_57 rfl rfl rfl ?_
        refine r_ldc2 (v := 10000000000000000) tw_545 dX7_choose_58 rfl ?_
        refine r_iload 4 dX7_choose_61 rfl rfl ?_
        refine r_i2l dX7_choose_63 rfl ?_
        refine r_lmul dX7_choose_64 rfl ?_
        refine r_lload 0 dX7_choose_65 rfl rfl ?_
        obtain ⟨hn3, h⟩ := gn h
        refine r_ldiv hn3 dX7_choose_67 rfl ?_
        refine r_lif_le (t := 76) dX7_choose_68 rfl dX7_choose_69 (by decide) rfl (fun c4 => ?_) (fun c4 => ?_)
        · have h := it_t c4 h
          refine r_lload_n 3 dX7_choose_76 rfl rfl rfl ?_
          refine r_lload 0 dX7_choose_77 rfl rfl ?_
          refine r_lmul dX7_choose_79 rfl ?_
          refine r_iload 4 dX7_choose_80 rfl rfl ?_
          refine r_i2l dX7_choose_82 rfl ?_
          obtain ⟨hn5, h⟩ := gn h
          refine r_ldiv hn5 dX7_choose_83 rfl ?_
          refine r_lstore_n (lv' := [(3, .long ((x3 * ((x0 - x2.toInt64) + x5.toInt64)) / x5.toInt64)), (6, .long ((x0 - x2.toInt64) + x5.toInt64)), (0, .long x0), (2, .int x2), (5, .int x5)]) dX7_choose_84 rfl (by decide) rfl rfl ?_
          refine r_iinc (v := (x5 + 1)) (lv' := [(5, .int (x5 + 1)), (3, .long ((x3 * ((x0 - x2.toInt64) + x5.toInt64)) / x5.toInt64)), (6, .long ((x0 - x2.toInt64) + x5.toInt64)), (0, .long x0), (2, .int x2)]) 4 dX7_choose_85 rfl rfl (by decide) rfl rfl ?_
          refine r_goto (t := 34) dX7_choose_88 (by decide) ?_
          refine r_sub [3, 4, 1, 0] rfl ?_
          exact ih x0 x2 ((x3 * ((x0 - x2.toInt64) + x5.toInt64)) / x5.toInt64) (x5 + 1) h
        · have h := it_f c4 h
          refine r_ldc2 (v := 10000000000000000) tw_545 dX7_choose_72 rfl ?_
          exact r_lretR dX7_choose_75 h
def P_X7_choose (a0 : Int64) (a2 : Int32) : Option Int64 :=
  if 0 < a2 then
    if a0 < a2.toInt64 then
      some 0
    else
      if a2 ≤ 24 then
        P_X7_choose_j34 FU a0 a2 1 1
      else
        some 0
  else
    if ¬ a2 = 0 then
      some 0
    else
      some 1
set_option maxHeartbeats 4000000 in
set_option maxRecDepth 100000 in
theorem T_X7_choose {X : XE} {σ : SS} {r : Int64} {a0 : Int64} {a2 : Int32} (h : P_X7_choose a0 a2 = some r) : Mt (gX X) 1 yX7_choose cX7_choose 8 (some .long) [.long a0, .int a2] σ (some (.long r)) σ := by
  refine Mt.of (own := RX7) (lv := [(0, .long a0), (2, .int a2)]) pn_X7 rfl (Nat.le_of_ble_eq_true rfl) rfl ?_
  unfold P_X7_choose at h
  refine r_iload_n 1 dX7_choose_0 rfl rfl rfl ?_
  refine r_if_gt (t := 14) dX7_choose_1 (by decide) rfl (fun c1 => ?_) (fun c1 => ?_)
  · have h := it_t c1 h
    refine r_lload_n 0 dX7_choose_14 rfl rfl rfl ?_
    refine r_iload_n 1 dX7_choose_15 rfl rfl rfl ?_
    refine r_i2l dX7_choose_16 rfl ?_
    refine r_lif_lt (t := 27) dX7_choose_17 rfl dX7_choose_18 (by decide) rfl (fun c2 => ?_) (fun c2 => ?_)
    · have h := it_t c2 h
      refine rlc_0 dX7_choose_27 rfl ?_
      exact r_lretR dX7_choose_28 h
    · have h := it_f c2 h
      refine r_iload_n 1 dX7_choose_21 rfl rfl rfl ?_
      refine r_bipush (v := 24) dX7_choose_22 (by decide) rfl ?_
      refine r_icmp_le (t := 29) dX7_choose_24 (by decide) rfl (fun c3 => ?_) (fun c3 => ?_)
      · have h := it_t c3 h
        refine rlc_1 dX7_choose_29 rfl ?_
        refine r_lstore_n (lv' := [(3, .long 1), (0, .long a0), (2, .int a2)]) dX7_choose_30 rfl (by decide) rfl rfl ?_
        refine ric_1 dX7_choose_31 rfl ?_
        refine r_istore (lv' := [(5, .int 1), (3, .long 1), (0, .long a0), (2, .int a2)]) dX7_choose_32 (by decide) rfl rfl ?_
        refine r_sub [2, 3, 1, 0] rfl ?_
        exact T_X7_choose_j34 FU a0 a2 1 1 h
      · have h := it_f c3 h
        refine rlc_0 dX7_choose_27 rfl ?_
        exact r_lretR dX7_choose_28 h
  · have h := it_f c1 h
    refine r_iload_n 1 dX7_choose_4 rfl rfl rfl ?_
    refine r_if_ne (t := 12) dX7_choose_5 (by decide) rfl (fun c4 => ?_) (fun c4 => ?_)
    · have h := it_t c4 h
      refine rlc_0 dX7_choose_12 rfl ?_
      exact r_lretR dX7_choose_13 h
    · have h := it_n c4 h
      refine rlc_1 dX7_choose_8 rfl ?_
      refine r_goto (t := 13) dX7_choose_9 (by decide) ?_
      exact r_lretR dX7_choose_13 h
def P_X7_times (a0 : Int64) (a2 : Int64) : Option Int64 :=
  if a0 ≤ 0 then
    some 0
  else
    if 0 < a2 then
      gN a2 <|
      if a0 ≤ (10000000000000000 / a2) then
        some (a0 * a2)
      else
        some 10000000000000000
    else
      some 0
set_option maxHeartbeats 4000000 in
set_option maxRecDepth 100000 in
theorem T_X7_times {X : XE} {σ : SS} {r : Int64} {a0 : Int64} {a2 : Int64} (h : P_X7_times a0 a2 = some r) : Mt (gX X) 0 yX7_times cX7_times 4 (some .long) [.long a0, .long a2] σ (some (.long r)) σ := by
  refine Mt.of (own := RX7) (lv := [(0, .long a0), (2, .long a2)]) pn_X7 rfl (Nat.le_of_ble_eq_true rfl) rfl ?_
  unfold P_X7_times at h
  refine r_lload_n 0 dX7_times_0 rfl rfl rfl ?_
  refine rlc_0 dX7_times_1 rfl ?_
  refine r_lif_le (t := 12) dX7_times_2 rfl dX7_times_3 (by decide) rfl (fun c1 => ?_) (fun c1 => ?_)
  · have h := it_t c1 h
    refine rlc_0 dX7_times_12 rfl ?_
    exact r_lretR dX7_times_13 h
  · have h := it_f c1 h
    refine r_lload_n 1 dX7_times_6 rfl rfl rfl ?_
    refine rlc_0 dX7_times_7 rfl ?_
    refine r_lif_gt (t := 14) dX7_times_8 rfl dX7_times_9 (by decide) rfl (fun c2 => ?_) (fun c2 => ?_)
    · have h := it_t c2 h
      refine r_lload_n 0 dX7_times_14 rfl rfl rfl ?_
      refine r_ldc2 (v := 10000000000000000) tw_545 dX7_times_15 rfl ?_
      refine r_lload_n 1 dX7_times_18 rfl rfl rfl ?_
      obtain ⟨hn3, h⟩ := gn h
      refine r_ldiv hn3 dX7_times_19 rfl ?_
      refine r_lif_le (t := 30) dX7_times_20 rfl dX7_times_21 (by decide) rfl (fun c4 => ?_) (fun c4 => ?_)
      · have h := it_t c4 h
        refine r_lload_n 0 dX7_times_30 rfl rfl rfl ?_
        refine r_lload_n 1 dX7_times_31 rfl rfl rfl ?_
        refine r_lmul dX7_times_32 rfl ?_
        exact r_lretR dX7_times_33 h
      · have h := it_f c4 h
        refine r_ldc2 (v := 10000000000000000) tw_545 dX7_times_24 rfl ?_
        refine r_goto (t := 33) dX7_times_27 (by decide) ?_
        exact r_lretR dX7_times_33 h
    · have h := it_f c2 h
      refine rlc_0 dX7_times_12 rfl ?_
      exact r_lretR dX7_times_13 h
def P_X7_plus (a0 : Int64) (a2 : Int64) : Option Int64 :=
  some (mminl 10000000000000000 (a0 + a2))
set_option maxHeartbeats 4000000 in
set_option maxRecDepth 100000 in
theorem T_X7_plus {X : XE} {σ : SS} {r : Int64} {a0 : Int64} {a2 : Int64} (h : P_X7_plus a0 a2 = some r) : Mt (gX X) 1 yX7_plus cX7_plus 4 (some .long) [.long a0, .long a2] σ (some (.long r)) σ := by
  refine Mt.of (own := RX7) (lv := [(0, .long a0), (2, .long a2)]) pn_X7 rfl (Nat.le_of_ble_eq_true rfl) rfl ?_
  unfold P_X7_plus at h
  refine r_ldc2 (v := 10000000000000000) tw_545 dX7_plus_0 rfl ?_
  refine r_lload_n 0 dX7_plus_3 rfl rfl rfl ?_
  refine r_lload_n 1 dX7_plus_4 rfl rfl rfl ?_
  refine r_ladd dX7_plus_5 rfl ?_
  refine r_mminl (by decide) (Nat.le_of_ble_eq_true rfl) tw_553 dX7_plus_6 rfl ?_
  exact r_lretR dX7_plus_9 h
def P_X8_bagsBelow_j32 (σ : SS) : Nat → Int32 → Int32 → Int32 → Int64 → Int32 → Int64 → Int32 → Option Int64
  | 0, _, _, _, _, _, _, _ => none
  | n + 1, x1, x2, x3, x4, x6, x7, x9 =>
    if x2 < (x9 * x3) then
      some x7
    else
      if 24 < x9 then
        some x7
      else
        (P_X8_bagsUpTo x1 (x2 - (x9 * x3)) (x3 - 1) σ).bind fun v4 =>
        (P_X7_choose (x4 + (x6 * (x9 - 1)).toInt64) x9).bind fun v6 =>
        (P_X7_times v6 v4).bind fun v8 =>
        (P_X7_plus x7 v8).bind fun v10 =>
        (P_X8_bagsBelow_j32 σ n) x1 x2 x3 x4 x6 v10 (x9 + 1)
set_option maxHeartbeats 4000000 in
set_option maxRecDepth 100000 in
theorem T_X8_bagsBelow_j32 {X : XE} {σ : SS} {r : Int64} : ∀ (fu : Nat) (x1 : Int32) (x2 : Int32) (x3 : Int32) (x4 : Int64) (x6 : Int32) (x7 : Int64) (x9 : Int32), P_X8_bagsBelow_j32 σ fu x1 x2 x3 x4 x6 x7 x9 = some r → V (gX X) 2 RX8 cX8_bagsBelow 14 (some .long) (some (.long r)) σ 32 [(0, .ref (xq X 4)), (1, .int x1), (2, .int x2), (3, .int x3), (4, .long x4), (6, .int x6), (7, .long x7), (9, .int x9)] [] σ := by
  intro fu
  induction fu with
  | zero => intro x1 x2 x3 x4 x6 x7 x9 h; exact no0 h
  | succ n ih =>
    intro x1 x2 x3 x4 x6 x7 x9 h
    unfold P_X8_bagsBelow_j32 at h
    refine r_iload 7 dX8_bagsBelow_32 rfl rfl ?_
    refine r_iload_n 3 dX8_bagsBelow_34 rfl rfl rfl ?_
    refine r_imul dX8_bagsBelow_35 rfl ?_
    refine r_iload_n 2 dX8_bagsBelow_36 rfl rfl rfl ?_
    refine r_icmp_gt (t := 101) dX8_bagsBelow_37 (by decide) rfl (fun c1 => ?_) (fun c1 => ?_)
    · have h := it_t c1 h
      refine r_lload 6 dX8_bagsBelow_101 rfl rfl ?_
      exact r_lretR dX8_bagsBelow_103 h
    · have h := it_f c1 h
      refine r_iload 7 dX8_bagsBelow_40 rfl rfl ?_
      refine r_bipush (v := 24) dX8_bagsBelow_42 (by decide) rfl ?_
      refine r_icmp_gt (t := 101) dX8_bagsBelow_44 (by decide) rfl (fun c2 => ?_) (fun c2 => ?_)
      · have h := it_t c2 h
        refine r_lload 6 dX8_bagsBelow_101 rfl rfl ?_
        exact r_lretR dX8_bagsBelow_103 h
      · have h := it_f c2 h
        refine r_aload_n 0 dX8_bagsBelow_47 rfl rfl rfl ?_
        refine r_iload_n 1 dX8_bagsBelow_48 rfl rfl rfl ?_
        refine r_iload_n 2 dX8_bagsBelow_49 rfl rfl rfl ?_
        refine r_iload 7 dX8_bagsBelow_50 rfl rfl ?_
        refine r_iload_n 3 dX8_bagsBelow_52 rfl rfl rfl ?_
        refine r_imul dX8_bagsBelow_53 rfl ?_
        refine r_isub dX8_bagsBelow_54 rfl ?_
        refine r_iload_n 3 dX8_bagsBelow_55 rfl rfl rfl ?_
        refine ric_1 dX8_bagsBelow_56 rfl ?_
        refine r_isub dX8_bagsBelow_57 rfl ?_
        obtain ⟨v4, e3, h⟩ := bd h
        refine r_callV (rest := []) (T_X8_bagsUpTo e3) (by decide) mf_X8_bagsUpTo rfl tw_571 tw_572 tw_570 cX_4 rfl rfl rfl (Nat.le_of_ble_eq_true rfl) dX8_bagsBelow_58 rfl ?_
        refine r_call0 ?_
        refine r_lstore (lv' := [(10, .long v4), (0, .ref (xq X 4)), (1, .int x1), (2, .int x2), (3, .int x3), (4, .long x4), (6, .int x6), (7, .long x7), (9, .int x9)]) dX8_bagsBelow_61 (by decide) rfl rfl ?_
        refine r_lload 5 dX8_bagsBelow_63 rfl rfl ?_
        refine r_iload 6 dX8_bagsBelow_65 rfl rfl ?_
        refine r_iload 8 dX8_bagsBelow_67 rfl rfl ?_
        refine ric_1 dX8_bagsBelow_69 rfl ?_
        refine r_isub dX8_bagsBelow_70 rfl ?_
        refine r_imul dX8_bagsBelow_71 rfl ?_
        refine r_i2l dX8_bagsBelow_72 rfl ?_
        refine r_ladd dX8_bagsBelow_73 rfl ?_
        refine r_iload 8 dX8_bagsBelow_74 rfl rfl ?_
        obtain ⟨v6, e5, h⟩ := bd h
        refine r_callS (As := [.long (x4 + (x6 * (x9 - 1)).toInt64), .int x9]) (rest := []) (T_X7_choose e5) (by decide) mf_X7_choose rfl tw_584 tw_583 rfl (Nat.le_of_ble_eq_true rfl) dX8_bagsBelow_76 rfl ?_
        refine r_call0 ?_
        refine r_lstore (lv' := [(12, .long v6), (10, .long v4), (0, .ref (xq X 4)), (1, .int x1), (2, .int x2), (3, .int x3), (4, .long x4), (6, .int x6), (7, .long x7), (9, .int x9)]) dX8_bagsBelow_79 (by decide) rfl rfl ?_
        refine r_lload 8 dX8_bagsBelow_81 rfl rfl ?_
        refine r_lload 0 dX8_bagsBelow_83 rfl rfl ?_
        refine r_lload 1 dX8_bagsBelow_85 rfl rfl ?_
        obtain ⟨v8, e7, h⟩ := bd h
        refine r_callS (As := [.long v6, .long v4]) (rest := [.long x7]) (T_X7_times e7) (by decide) mf_X7_times rfl tw_543 tw_542 rfl (Nat.le_of_ble_eq_true rfl) dX8_bagsBelow_87 rfl ?_
        refine r_call0 ?_
        obtain ⟨v10, e9, h⟩ := bd h
        refine r_callS (As := [.long x7, .long v8]) (rest := []) (T_X7_plus e9) (by decide) mf_X7_plus rfl tw_551 tw_550 rfl (Nat.le_of_ble_eq_true rfl) dX8_bagsBelow_90 rfl ?_
        refine r_call0 ?_
        refine r_lstore (lv' := [(7, .long v10), (12, .long v6), (10, .long v4), (0, .ref (xq X 4)), (1, .int x1), (2, .int x2), (3, .int x3), (4, .long x4), (6, .int x6), (9, .int x9)]) dX8_bagsBelow_93 (by decide) rfl rfl ?_
        refine r_iinc (v := (x9 + 1)) (lv' := [(9, .int (x9 + 1)), (7, .long v10), (12, .long v6), (10, .long v4), (0, .ref (xq X 4)), (1, .int x1), (2, .int x2), (3, .int x3), (4, .long x4), (6, .int x6)]) 9 dX8_bagsBelow_95 rfl rfl (by decide) rfl rfl ?_
        refine r_goto (t := 32) dX8_bagsBelow_98 (by decide) ?_
        refine r_sub [4, 5, 6, 7, 8, 9, 1, 0] rfl ?_
        exact ih x1 x2 x3 x4 x6 v10 (x9 + 1) h
def P_X8_bagsBelow_j24 (σ : SS) (x1 : Int32) (x2 : Int32) (x3 : Int32) (x4 : Int64) (y0 : Int32) : Option Int64 :=
  P_X8_bagsBelow_j32 σ FU x1 x2 x3 x4 y0 0 0
set_option maxHeartbeats 4000000 in
set_option maxRecDepth 100000 in
theorem T_X8_bagsBelow_j24 {X : XE} {σ : SS} {r : Int64} : ∀ (x1 : Int32) (x2 : Int32) (x3 : Int32) (x4 : Int64) (y0 : Int32), P_X8_bagsBelow_j24 σ x1 x2 x3 x4 y0 = some r → V (gX X) 2 RX8 cX8_bagsBelow 14 (some .long) (some (.long r)) σ 24 [(0, .ref (xq X 4)), (1, .int x1), (2, .int x2), (3, .int x3), (4, .long x4)] [.int y0] σ := by
  intro x1 x2 x3 x4 y0 h
  unfold P_X8_bagsBelow_j24 at h
  refine r_istore (lv' := [(6, .int y0), (0, .ref (xq X 4)), (1, .int x1), (2, .int x2), (3, .int x3), (4, .long x4)]) dX8_bagsBelow_24 (by decide) rfl rfl ?_
  refine rlc_0 dX8_bagsBelow_26 rfl ?_
  refine r_lstore (lv' := [(7, .long 0), (6, .int y0), (0, .ref (xq X 4)), (1, .int x1), (2, .int x2), (3, .int x3), (4, .long x4)]) dX8_bagsBelow_27 (by decide) rfl rfl ?_
  refine ric_0 dX8_bagsBelow_29 rfl ?_
  refine r_istore (lv' := [(9, .int 0), (7, .long 0), (6, .int y0), (0, .ref (xq X 4)), (1, .int x1), (2, .int x2), (3, .int x3), (4, .long x4)]) dX8_bagsBelow_30 (by decide) rfl rfl ?_
  refine r_sub [3, 4, 5, 6, 7, 2, 1, 0] rfl ?_
  exact T_X8_bagsBelow_j32 FU x1 x2 x3 x4 y0 0 0 h
def P_X8_bagsBelow (a1 : Int32) (a2 : Int32) (a3 : Int32) (a4 : Int64) (σ : SS) : Option Int64 :=
  if 1 ≤ a3 then
    (P_X1_kind a1 σ).bind fun v3 =>
    if ¬ v3 = 5 then
      P_X8_bagsBelow_j24 σ a1 a2 a3 a4 0
    else
      P_X8_bagsBelow_j24 σ a1 a2 a3 a4 1
  else
    some 0
set_option maxHeartbeats 4000000 in
set_option maxRecDepth 100000 in
theorem T_X8_bagsBelow {X : XE} {σ : SS} {r : Int64} {a1 : Int32} {a2 : Int32} {a3 : Int32} {a4 : Int64} (h : P_X8_bagsBelow a1 a2 a3 a4 σ = some r) : Mt (gX X) 2 yX8_bagsBelow cX8_bagsBelow 14 (some .long) [.ref (xq X 4), .int a1, .int a2, .int a3, .long a4] σ (some (.long r)) σ := by
  refine Mt.of (own := RX8) (lv := [(0, .ref (xq X 4)), (1, .int a1), (2, .int a2), (3, .int a3), (4, .long a4)]) pn_X8 rfl (Nat.le_of_ble_eq_true rfl) rfl ?_
  unfold P_X8_bagsBelow at h
  refine r_iload_n 3 dX8_bagsBelow_0 rfl rfl rfl ?_
  refine ric_1 dX8_bagsBelow_1 rfl ?_
  refine r_icmp_ge (t := 7) dX8_bagsBelow_2 (by decide) rfl (fun c1 => ?_) (fun c1 => ?_)
  · have h := it_t c1 h
    refine r_aload_n 0 dX8_bagsBelow_7 rfl rfl rfl ?_
    refine gf_X8_18_4 dX8_bagsBelow_8 rfl ?_
    refine r_iload_n 1 dX8_bagsBelow_11 rfl rfl rfl ?_
    obtain ⟨v3, e2, h⟩ := bd h
    refine r_callV (rest := []) (T_X1_kind e2) (by decide) mf_X1_kind rfl tw_420 tw_421 tw_528 cX_1 rfl rfl rfl (Nat.le_of_ble_eq_true rfl) dX8_bagsBelow_12 rfl ?_
    refine r_call0 ?_
    refine ric_5 dX8_bagsBelow_15 rfl ?_
    refine r_icmp_ne (t := 23) dX8_bagsBelow_16 (by decide) rfl (fun c4 => ?_) (fun c4 => ?_)
    · have h := it_t c4 h
      refine ric_0 dX8_bagsBelow_23 rfl ?_
      exact T_X8_bagsBelow_j24 a1 a2 a3 a4 0 h
    · have h := it_n c4 h
      refine ric_1 dX8_bagsBelow_19 rfl ?_
      refine r_goto (t := 24) dX8_bagsBelow_20 (by decide) ?_
      exact T_X8_bagsBelow_j24 a1 a2 a3 a4 1 h
  · have h := it_f c1 h
    refine rlc_0 dX8_bagsBelow_5 rfl ?_
    exact r_lretR dX8_bagsBelow_6 h
def P_X8_fillBags_j26 : Nat → Int32 → Int32 → Int32 → Int32 → SS → Option SS
  | 0, _, _, _, _, _ => none
  | n + 1, x1, x2, x3, x4, σ =>
    if x2 < x4 then
      some σ
    else
      (P_X1_a x1 σ).bind fun v3 =>
      (P_X8_of v3 x4 σ).bind fun v5 =>
      (P_X8_bagsBelow x1 x2 x4 v5 σ).bind fun v7 =>
      (P_X6_set__20 (x3 + x4) v7 σ).bind fun σ9 =>
      (P_X8_fillBags_j26 n) x1 x2 x3 (x4 + 1) σ9
set_option maxHeartbeats 4000000 in
set_option maxRecDepth 100000 in
theorem T_X8_fillBags_j26 {X : XE} {σf : SS} : ∀ (fu : Nat) (x1 : Int32) (x2 : Int32) (x3 : Int32) (x4 : Int32) (σ : SS), P_X8_fillBags_j26 fu x1 x2 x3 x4 σ = some σf → V (gX X) 3 RX8 cX8_fillBags 5 none none σf 26 [(0, .ref (xq X 4)), (1, .int x1), (2, .int x2), (3, .int x3), (4, .int x4)] [] σ := by
  intro fu
  induction fu with
  | zero => intro x1 x2 x3 x4 σ h; exact no0 h
  | succ n ih =>
    intro x1 x2 x3 x4 σ h
    unfold P_X8_fillBags_j26 at h
    refine r_iload 4 dX8_fillBags_26 rfl rfl ?_
    refine r_iload_n 2 dX8_fillBags_28 rfl rfl rfl ?_
    refine r_icmp_gt (t := 71) dX8_fillBags_29 (by decide) rfl (fun c1 => ?_) (fun c1 => ?_)
    · have h := it_t c1 h
      exact r_vretS dX8_fillBags_71 h
    · have h := it_f c1 h
      refine r_aload_n 0 dX8_fillBags_32 rfl rfl rfl ?_
      refine gf_X8_15_4 dX8_fillBags_33 rfl ?_
      refine r_iload_n 3 dX8_fillBags_36 rfl rfl rfl ?_
      refine r_iload 4 dX8_fillBags_37 rfl rfl ?_
      refine r_iadd dX8_fillBags_39 rfl ?_
      refine r_aload_n 0 dX8_fillBags_40 rfl rfl rfl ?_
      refine r_iload_n 1 dX8_fillBags_41 rfl rfl rfl ?_
      refine r_iload_n 2 dX8_fillBags_42 rfl rfl rfl ?_
      refine r_iload 4 dX8_fillBags_43 rfl rfl ?_
      refine r_aload_n 0 dX8_fillBags_45 rfl rfl rfl ?_
      refine r_aload_n 0 dX8_fillBags_46 rfl rfl rfl ?_
      refine gf_X8_18_4 dX8_fillBags_47 rfl ?_
      refine r_iload_n 1 dX8_fillBags_50 rfl rfl rfl ?_
      obtain ⟨v3, e2, h⟩ := bd h
      refine r_callV (rest := [.ref (xq X 4), .int x4, .int x2, .int x1, .ref (xq X 4), .int (x3 + x4), .ref (xq X 20)]) (T_X1_a e2) (by decide) mf_X1_a rfl tw_424 tw_425 tw_527 cX_1 rfl rfl rfl (Nat.le_of_ble_eq_true rfl) dX8_fillBags_51 rfl ?_
      refine r_call0 ?_
      refine r_iload 4 dX8_fillBags_54 rfl rfl ?_
      obtain ⟨v5, e4, h⟩ := bd h
      refine r_callV (rest := [.int x4, .int x2, .int x1, .ref (xq X 4), .int (x3 + x4), .ref (xq X 20)]) (T_X8_of e4) (by decide) mf_X8_of rfl tw_539 tw_540 tw_538 cX_4 rfl rfl rfl (Nat.le_of_ble_eq_true rfl) dX8_fillBags_56 rfl ?_
      refine r_call0 ?_
      obtain ⟨v7, e6, h⟩ := bd h
      refine r_callV (rest := [.int (x3 + x4), .ref (xq X 20)]) (T_X8_bagsBelow e6) (by decide) mf_X8_bagsBelow rfl tw_567 tw_568 tw_566 cX_4 rfl rfl rfl (Nat.le_of_ble_eq_true rfl) dX8_fillBags_59 rfl ?_
      refine r_call0 ?_
      obtain ⟨σ9, e8, h⟩ := bd h
      refine r_callS (As := [.ref (xq X 20), .int (x3 + x4), .long v7]) (rest := []) (T_X6_set__20 e8) (by decide) mf_X6_set_ rfl tw_564 tw_563 rfl (Nat.le_of_ble_eq_true rfl) dX8_fillBags_62 rfl ?_
      refine r_calln ?_
      refine r_iinc (v := (x4 + 1)) (lv' := [(4, .int (x4 + 1)), (0, .ref (xq X 4)), (1, .int x1), (2, .int x2), (3, .int x3)]) 4 dX8_fillBags_65 rfl rfl (by decide) rfl rfl ?_
      refine r_goto (t := 26) dX8_fillBags_68 (by decide) ?_
      refine r_sub [1, 2, 3, 4, 0] rfl ?_
      exact ih x1 x2 x3 (x4 + 1) σ9 h
def P_X8_fillBags_j20 (x1 : Int32) (x2 : Int32) (x3 : Int32) (y0 : Int64) (y1 : Int32) (σ : SS) : Option SS :=
  (P_X6_set__20 y1 y0 σ).bind fun σ2 =>
  P_X8_fillBags_j26 FU x1 x2 x3 1 σ2
set_option maxHeartbeats 4000000 in
set_option maxRecDepth 100000 in
theorem T_X8_fillBags_j20 {X : XE} {σf : SS} : ∀ (x1 : Int32) (x2 : Int32) (x3 : Int32) (y0 : Int64) (y1 : Int32) (σ : SS), P_X8_fillBags_j20 x1 x2 x3 y0 y1 σ = some σf → V (gX X) 3 RX8 cX8_fillBags 5 none none σf 20 [(0, .ref (xq X 4)), (1, .int x1), (2, .int x2), (3, .int x3)] [.long y0, .int y1, .ref (xq X 20)] σ := by
  intro x1 x2 x3 y0 y1 σ h
  unfold P_X8_fillBags_j20 at h
  obtain ⟨σ2, e1, h⟩ := bd h
  refine r_callS (As := [.ref (xq X 20), .int y1, .long y0]) (rest := []) (T_X6_set__20 e1) (by decide) mf_X6_set_ rfl tw_564 tw_563 rfl (Nat.le_of_ble_eq_true rfl) dX8_fillBags_20 rfl ?_
  refine r_calln ?_
  refine ric_1 dX8_fillBags_23 rfl ?_
  refine r_istore (lv' := [(4, .int 1), (0, .ref (xq X 4)), (1, .int x1), (2, .int x2), (3, .int x3)]) dX8_fillBags_24 (by decide) rfl rfl ?_
  refine r_sub [1, 2, 3, 4, 0] rfl ?_
  exact T_X8_fillBags_j26 FU x1 x2 x3 1 σ2 h
def P_X8_fillBags (a1 : Int32) (a2 : Int32) (σ : SS) : Option SS :=
  (P_X8_bagRow a1 a2).bind fun v2 =>
  if ¬ a2 = 0 then
    P_X8_fillBags_j20 a1 a2 v2 0 v2 σ
  else
    P_X8_fillBags_j20 a1 a2 v2 1 v2 σ
set_option maxHeartbeats 4000000 in
set_option maxRecDepth 100000 in
theorem T_X8_fillBags {X : XE} {σf : SS} {σ : SS} {a1 : Int32} {a2 : Int32} (h : P_X8_fillBags a1 a2 σ = some σf) : Mt (gX X) 3 yX8_fillBags cX8_fillBags 5 none [.ref (xq X 4), .int a1, .int a2] σ none σf := by
  refine Mt.of (own := RX8) (lv := [(0, .ref (xq X 4)), (1, .int a1), (2, .int a2)]) pn_X8 rfl (Nat.le_of_ble_eq_true rfl) rfl ?_
  unfold P_X8_fillBags at h
  refine r_iload_n 1 dX8_fillBags_0 rfl rfl rfl ?_
  refine r_iload_n 2 dX8_fillBags_1 rfl rfl rfl ?_
  obtain ⟨v2, e1, h⟩ := bd h
  refine r_callS (As := [.int a1, .int a2]) (rest := []) (T_X8_bagRow e1) (by decide) mf_X8_bagRow rfl tw_561 tw_560 rfl (Nat.le_of_ble_eq_true rfl) dX8_fillBags_2 rfl ?_
  refine r_call0 ?_
  refine r_istore_n (lv' := [(3, .int v2), (0, .ref (xq X 4)), (1, .int a1), (2, .int a2)]) dX8_fillBags_5 rfl (by decide) rfl rfl ?_
  refine r_aload_n 1 dX8_fillBags_6 rfl rfl rfl ?_
  refine gf_X8_15_4 dX8_fillBags_7 rfl ?_
  refine r_iload_n 0 dX8_fillBags_10 rfl rfl rfl ?_
  refine r_iload_n 3 dX8_fillBags_11 rfl rfl rfl ?_
  refine r_if_ne (t := 19) dX8_fillBags_12 (by decide) rfl (fun c3 => ?_) (fun c3 => ?_)
  · have h := it_t c3 h
    refine rlc_0 dX8_fillBags_19 rfl ?_
    refine r_sub [1, 2, 3, 0] rfl ?_
    exact T_X8_fillBags_j20 a1 a2 v2 0 v2 σ h
  · have h := it_n c3 h
    refine rlc_1 dX8_fillBags_15 rfl ?_
    refine r_goto (t := 20) dX8_fillBags_16 (by decide) ?_
    refine r_sub [1, 2, 3, 0] rfl ?_
    exact T_X8_fillBags_j20 a1 a2 v2 1 v2 σ h
def P_X8_tail (a1 : Int32) (σ : SS) : Option Int32 :=
  (P_X1_kind a1 σ).bind fun v2 =>
  if ¬ v2 = 2 then
    some a1
  else
    (P_X1_b a1 σ).bind fun v5 =>
    some v5
set_option maxHeartbeats 4000000 in
set_option maxRecDepth 100000 in
theorem T_X8_tail {X : XE} {σ : SS} {r : Int32} {a1 : Int32} (h : P_X8_tail a1 σ = some r) : Mt (gX X) 1 yX8_tail cX8_tail 2 (some .int) [.ref (xq X 4), .int a1] σ (some (.int r)) σ := by
  refine Mt.of (own := RX8) (lv := [(0, .ref (xq X 4)), (1, .int a1)]) pn_X8 rfl (Nat.le_of_ble_eq_true rfl) rfl ?_
  unfold P_X8_tail at h
  refine r_aload_n 0 dX8_tail_0 rfl rfl rfl ?_
  refine gf_X8_18_4 dX8_tail_1 rfl ?_
  refine r_iload_n 1 dX8_tail_4 rfl rfl rfl ?_
  obtain ⟨v2, e1, h⟩ := bd h
  refine r_callV (rest := []) (T_X1_kind e1) (by decide) mf_X1_kind rfl tw_420 tw_421 tw_528 cX_1 rfl rfl rfl (Nat.le_of_ble_eq_true rfl) dX8_tail_5 rfl ?_
  refine r_call0 ?_
  refine ric_2 dX8_tail_8 rfl ?_
  refine r_icmp_ne (t := 23) dX8_tail_9 (by decide) rfl (fun c3 => ?_) (fun c3 => ?_)
  · have h := it_t c3 h
    refine r_iload_n 1 dX8_tail_23 rfl rfl rfl ?_
    exact r_iretR dX8_tail_24 h
  · have h := it_n c3 h
    refine r_aload_n 0 dX8_tail_12 rfl rfl rfl ?_
    refine gf_X8_18_4 dX8_tail_13 rfl ?_
    refine r_iload_n 1 dX8_tail_16 rfl rfl rfl ?_
    obtain ⟨v5, e4, h⟩ := bd h
    refine r_callV (rest := []) (T_X1_b e4) (by decide) mf_X1_b rfl tw_428 tw_429 tw_537 cX_1 rfl rfl rfl (Nat.le_of_ble_eq_true rfl) dX8_tail_17 rfl ?_
    refine r_call0 ?_
    refine r_goto (t := 24) dX8_tail_20 (by decide) ?_
    exact r_iretR dX8_tail_24 h
def P_X8_led (a1 : Int32) (a2 : Int32) (a3 : Int32) (a4 : Int32) (σ : SS) : Option Int64 :=
  (P_X8_of a1 a4 σ).bind fun v2 =>
  (P_X8_of a2 (a3 - a4) σ).bind fun v4 =>
  (P_X7_times v2 v4).bind fun v6 =>
  some v6
set_option maxHeartbeats 4000000 in
set_option maxRecDepth 100000 in
theorem T_X8_led {X : XE} {σ : SS} {r : Int64} {a1 : Int32} {a2 : Int32} {a3 : Int32} {a4 : Int32} (h : P_X8_led a1 a2 a3 a4 σ = some r) : Mt (gX X) 1 yX8_led cX8_led 5 (some .long) [.ref (xq X 4), .int a1, .int a2, .int a3, .int a4] σ (some (.long r)) σ := by
  refine Mt.of (own := RX8) (lv := [(0, .ref (xq X 4)), (1, .int a1), (2, .int a2), (3, .int a3), (4, .int a4)]) pn_X8 rfl (Nat.le_of_ble_eq_true rfl) rfl ?_
  unfold P_X8_led at h
  refine r_aload_n 0 dX8_led_0 rfl rfl rfl ?_
  refine r_iload_n 1 dX8_led_1 rfl rfl rfl ?_
  refine r_iload 4 dX8_led_2 rfl rfl ?_
  obtain ⟨v2, e1, h⟩ := bd h
  refine r_callV (rest := []) (T_X8_of e1) (by decide) mf_X8_of rfl tw_539 tw_540 tw_538 cX_4 rfl rfl rfl (Nat.le_of_ble_eq_true rfl) dX8_led_4 rfl ?_
  refine r_call0 ?_
  refine r_aload_n 0 dX8_led_7 rfl rfl rfl ?_
  refine r_iload_n 2 dX8_led_8 rfl rfl rfl ?_
  refine r_iload_n 3 dX8_led_9 rfl rfl rfl ?_
  refine r_iload 4 dX8_led_10 rfl rfl ?_
  refine r_isub dX8_led_12 rfl ?_
  obtain ⟨v4, e3, h⟩ := bd h
  refine r_callV (rest := [.long v2]) (T_X8_of e3) (by decide) mf_X8_of rfl tw_539 tw_540 tw_538 cX_4 rfl rfl rfl (Nat.le_of_ble_eq_true rfl) dX8_led_13 rfl ?_
  refine r_call0 ?_
  obtain ⟨v6, e5, h⟩ := bd h
  refine r_callS (As := [.long v2, .long v4]) (rest := []) (T_X7_times e5) (by decide) mf_X7_times rfl tw_543 tw_542 rfl (Nat.le_of_ble_eq_true rfl) dX8_led_16 rfl ?_
  refine r_call0 ?_
  exact r_lretR dX8_led_19 h
def P_X8_ledBelow_j36 (σ : SS) : Nat → Int32 → Int32 → Int32 → Int32 → Int64 → Int32 → Option Int64
  | 0, _, _, _, _, _, _ => none
  | n + 1, x2, x3, x6, x7, x8, x10 =>
    if x3 ≤ x10 then
      some x8
    else
      if 24 < x10 then
        some x8
      else
        (P_X8_led x6 x7 x2 x10 σ).bind fun v4 =>
        (P_X7_plus x8 v4).bind fun v6 =>
        (P_X8_ledBelow_j36 σ n) x2 x3 x6 x7 v6 (x10 + 1)
set_option maxHeartbeats 4000000 in
set_option maxRecDepth 100000 in
theorem T_X8_ledBelow_j36 {X : XE} {σ : SS} {r : Int64} : ∀ (fu : Nat) (x2 : Int32) (x3 : Int32) (x6 : Int32) (x7 : Int32) (x8 : Int64) (x10 : Int32), P_X8_ledBelow_j36 σ fu x2 x3 x6 x7 x8 x10 = some r → V (gX X) 2 RX8 cX8_ledBelow 11 (some .long) (some (.long r)) σ 36 [(0, .ref (xq X 4)), (2, .int x2), (3, .int x3), (6, .int x6), (7, .int x7), (8, .long x8), (10, .int x10)] [] σ := by
  intro fu
  induction fu with
  | zero => intro x2 x3 x6 x7 x8 x10 h; exact no0 h
  | succ n ih =>
    intro x2 x3 x6 x7 x8 x10 h
    unfold P_X8_ledBelow_j36 at h
    refine r_iload 6 dX8_ledBelow_36 rfl rfl ?_
    refine r_iload_n 2 dX8_ledBelow_38 rfl rfl rfl ?_
    refine r_icmp_ge (t := 73) dX8_ledBelow_39 (by decide) rfl (fun c1 => ?_) (fun c1 => ?_)
    · have h := it_t c1 h
      refine r_lload 5 dX8_ledBelow_73 rfl rfl ?_
      exact r_lretR dX8_ledBelow_75 h
    · have h := it_f c1 h
      refine r_iload 6 dX8_ledBelow_42 rfl rfl ?_
      refine r_bipush (v := 24) dX8_ledBelow_44 (by decide) rfl ?_
      refine r_icmp_gt (t := 73) dX8_ledBelow_46 (by decide) rfl (fun c2 => ?_) (fun c2 => ?_)
      · have h := it_t c2 h
        refine r_lload 5 dX8_ledBelow_73 rfl rfl ?_
        exact r_lretR dX8_ledBelow_75 h
      · have h := it_f c2 h
        refine r_lload 5 dX8_ledBelow_49 rfl rfl ?_
        refine r_aload_n 0 dX8_ledBelow_51 rfl rfl rfl ?_
        refine r_iload 3 dX8_ledBelow_52 rfl rfl ?_
        refine r_iload 4 dX8_ledBelow_54 rfl rfl ?_
        refine r_iload_n 1 dX8_ledBelow_56 rfl rfl rfl ?_
        refine r_iload 6 dX8_ledBelow_57 rfl rfl ?_
        obtain ⟨v4, e3, h⟩ := bd h
        refine r_callV (rest := [.long x8]) (T_X8_led e3) (by decide) mf_X8_led rfl tw_547 tw_548 tw_546 cX_4 rfl rfl rfl (Nat.le_of_ble_eq_true rfl) dX8_ledBelow_59 rfl ?_
        refine r_call0 ?_
        obtain ⟨v6, e5, h⟩ := bd h
        refine r_callS (As := [.long x8, .long v4]) (rest := []) (T_X7_plus e5) (by decide) mf_X7_plus rfl tw_551 tw_550 rfl (Nat.le_of_ble_eq_true rfl) dX8_ledBelow_62 rfl ?_
        refine r_call0 ?_
        refine r_lstore (lv' := [(8, .long v6), (0, .ref (xq X 4)), (2, .int x2), (3, .int x3), (6, .int x6), (7, .int x7), (10, .int x10)]) dX8_ledBelow_65 (by decide) rfl rfl ?_
        refine r_iinc (v := (x10 + 1)) (lv' := [(10, .int (x10 + 1)), (8, .long v6), (0, .ref (xq X 4)), (2, .int x2), (3, .int x3), (6, .int x6), (7, .int x7)]) 6 dX8_ledBelow_67 rfl rfl (by decide) rfl rfl ?_
        refine r_goto (t := 36) dX8_ledBelow_70 (by decide) ?_
        refine r_sub [2, 3, 4, 5, 6, 1, 0] rfl ?_
        exact ih x2 x3 x6 x7 v6 (x10 + 1) h
def P_X8_ledBelow (a1 : Int32) (a2 : Int32) (a3 : Int32) (a4 : Int64) (σ : SS) : Option Int64 :=
  (P_X1_a a1 σ).bind fun v2 =>
  (P_X8_tail a1 σ).bind fun v4 =>
  (P_X8_of v4 (a2 - a3) σ).bind fun v6 =>
  (P_X7_times a4 v6).bind fun v8 =>
  P_X8_ledBelow_j36 σ FU a2 a3 v2 v4 v8 0
set_option maxHeartbeats 4000000 in
set_option maxRecDepth 100000 in
theorem T_X8_ledBelow {X : XE} {σ : SS} {r : Int64} {a1 : Int32} {a2 : Int32} {a3 : Int32} {a4 : Int64} (h : P_X8_ledBelow a1 a2 a3 a4 σ = some r) : Mt (gX X) 2 yX8_ledBelow cX8_ledBelow 11 (some .long) [.ref (xq X 4), .int a1, .int a2, .int a3, .long a4] σ (some (.long r)) σ := by
  refine Mt.of (own := RX8) (lv := [(0, .ref (xq X 4)), (1, .int a1), (2, .int a2), (3, .int a3), (4, .long a4)]) pn_X8 rfl (Nat.le_of_ble_eq_true rfl) rfl ?_
  unfold P_X8_ledBelow at h
  refine r_aload_n 0 dX8_ledBelow_0 rfl rfl rfl ?_
  refine gf_X8_18_4 dX8_ledBelow_1 rfl ?_
  refine r_iload_n 1 dX8_ledBelow_4 rfl rfl rfl ?_
  obtain ⟨v2, e1, h⟩ := bd h
  refine r_callV (rest := []) (T_X1_a e1) (by decide) mf_X1_a rfl tw_424 tw_425 tw_527 cX_1 rfl rfl rfl (Nat.le_of_ble_eq_true rfl) dX8_ledBelow_5 rfl ?_
  refine r_call0 ?_
  refine r_istore (lv' := [(6, .int v2), (0, .ref (xq X 4)), (1, .int a1), (2, .int a2), (3, .int a3), (4, .long a4)]) dX8_ledBelow_8 (by decide) rfl rfl ?_
  refine r_aload_n 1 dX8_ledBelow_10 rfl rfl rfl ?_
  refine r_iload_n 2 dX8_ledBelow_11 rfl rfl rfl ?_
  obtain ⟨v4, e3, h⟩ := bd h
  refine r_callV (rest := []) (T_X8_tail e3) (by decide) mf_X8_tail rfl tw_534 tw_535 tw_533 cX_4 rfl rfl rfl (Nat.le_of_ble_eq_true rfl) dX8_ledBelow_12 rfl ?_
  refine r_call0 ?_
  refine r_istore (lv' := [(7, .int v4), (6, .int v2), (0, .ref (xq X 4)), (1, .int a1), (2, .int a2), (3, .int a3), (4, .long a4)]) dX8_ledBelow_15 (by decide) rfl rfl ?_
  refine r_lload 6 dX8_ledBelow_17 rfl rfl ?_
  refine r_aload_n 2 dX8_ledBelow_19 rfl rfl rfl ?_
  refine r_iload 0 dX8_ledBelow_20 rfl rfl ?_
  refine r_iload_n 4 dX8_ledBelow_22 rfl rfl rfl ?_
  refine r_iload_n 5 dX8_ledBelow_23 rfl rfl rfl ?_
  refine r_isub dX8_ledBelow_24 rfl ?_
  obtain ⟨v6, e5, h⟩ := bd h
  refine r_callV (rest := [.long a4]) (T_X8_of e5) (by decide) mf_X8_of rfl tw_539 tw_540 tw_538 cX_4 rfl rfl rfl (Nat.le_of_ble_eq_true rfl) dX8_ledBelow_25 rfl ?_
  refine r_call0 ?_
  obtain ⟨v8, e7, h⟩ := bd h
  refine r_callS (As := [.long a4, .long v6]) (rest := []) (T_X7_times e7) (by decide) mf_X7_times rfl tw_543 tw_542 rfl (Nat.le_of_ble_eq_true rfl) dX8_ledBelow_28 rfl ?_
  refine r_call0 ?_
  refine r_lstore (lv' := [(8, .long v8), (7, .int v4), (6, .int v2), (0, .ref (xq X 4)), (1, .int a1), (2, .int a2), (3, .int a3), (4, .long a4)]) dX8_ledBelow_31 (by decide) rfl rfl ?_
  refine ric_0 dX8_ledBelow_33 rfl ?_
  refine r_istore (lv' := [(10, .int 0), (8, .long v8), (7, .int v4), (6, .int v2), (0, .ref (xq X 4)), (1, .int a1), (2, .int a2), (3, .int a3), (4, .long a4)]) dX8_ledBelow_34 (by decide) rfl rfl ?_
  refine r_sub [4, 6, 7, 3, 2, 1, 0] rfl ?_
  exact T_X8_ledBelow_j36 FU a2 a3 v2 v4 v8 0 h
def P_X8_reckon_j142 (x1 : Int32) (x2 : Int32) (σ : SS) : Option (Int64 × SS) :=
  (P_X8_fillBags x1 x2 σ).bind fun σ2 =>
  (P_X8_bagsUpTo x1 x2 24 σ2).bind fun v4 =>
  some (v4, σ2)
set_option maxHeartbeats 4000000 in
set_option maxRecDepth 100000 in
theorem T_X8_reckon_j142 {X : XE} {σf : SS} {r : Int64} : ∀ (x1 : Int32) (x2 : Int32) (σ : SS), P_X8_reckon_j142 x1 x2 σ = some (r, σf) → V (gX X) 4 RX8 cX8_reckon 4 (some .long) (some (.long r)) σf 142 [(0, .ref (xq X 4)), (1, .int x1), (2, .int x2)] [] σ := by
  intro x1 x2 σ h
  unfold P_X8_reckon_j142 at h
  refine r_aload_n 0 dX8_reckon_142 rfl rfl rfl ?_
  refine r_iload_n 1 dX8_reckon_143 rfl rfl rfl ?_
  refine r_iload_n 2 dX8_reckon_144 rfl rfl rfl ?_
  obtain ⟨σ2, e1, h⟩ := bd h
  refine r_callV (rest := []) (T_X8_fillBags e1) (by decide) mf_X8_fillBags rfl tw_558 tw_8 tw_556 cX_4 rfl rfl rfl (Nat.le_of_ble_eq_true rfl) dX8_reckon_145 rfl ?_
  refine r_calln ?_
  refine r_aload_n 0 dX8_reckon_148 rfl rfl rfl ?_
  refine r_iload_n 1 dX8_reckon_149 rfl rfl rfl ?_
  refine r_iload_n 2 dX8_reckon_150 rfl rfl rfl ?_
  refine r_bipush (v := 24) dX8_reckon_151 (by decide) rfl ?_
  obtain ⟨v4, e3, h⟩ := bd h
  refine r_callV (rest := []) (T_X8_bagsUpTo e3) (by decide) mf_X8_bagsUpTo rfl tw_571 tw_572 tw_570 cX_4 rfl rfl rfl (Nat.le_of_ble_eq_true rfl) dX8_reckon_153 rfl ?_
  refine r_call0 ?_
  exact r_lretQ dX8_reckon_156 h
def P_X8_reckon (a1 : Int32) (a2 : Int32) (σ : SS) : Option (Int64 × SS) :=
  (P_X1_a a1 σ).bind fun v2 =>
  (P_X1_kind a1 σ).bind fun v4 =>
  if v4 = 0 then
    if ¬ a2 = v2 then
      some (0, σ)
    else
      some (1, σ)
  else
    if v4 = 1 then
      if ¬ a2 = 0 then
        some (0, σ)
      else
        some (1, σ)
    else
      if v4 = 2 then
        (P_X8_ledBelow a1 a2 (a2 + 1) 0 σ).bind fun v11 =>
        some (v11, σ)
      else
        if v4 = 3 then
          (P_X8_of v2 a2 σ).bind fun v14 =>
          (P_X1_b a1 σ).bind fun v16 =>
          (P_X8_of v16 a2 σ).bind fun v18 =>
          (P_X7_plus v14 v18).bind fun v20 =>
          some (v20, σ)
        else
          if v4 = 4 then
            if ¬ a2 = 0 then
              (P_X8_ledBelow a1 a2 (a2 + 1) 0 σ).bind fun v24 =>
              some (v24, σ)
            else
              some (1, σ)
          else
            if v4 = 5 then
              P_X8_reckon_j142 a1 a2 σ
            else
              if v4 = 6 then
                P_X8_reckon_j142 a1 a2 σ
              else
                if v4 = 7 then
                  (P_X1_low a1 σ).bind fun v29 =>
                  if a2 < v29 then
                    some (0, σ)
                  else
                    (P_X1_high a1 σ).bind fun v32 =>
                    if v32 < a2 then
                      some (0, σ)
                    else
                      (P_X8_of v2 a2 σ).bind fun v35 =>
                      some (v35, σ)
                else
                  if v4 = 8 then
                    if ¬ a2 = v2 then
                      some (0, σ)
                    else
                      (P_X7_orders v2).bind fun v39 =>
                      some (v39, σ)
                  else
                    some (0, σ)
set_option maxHeartbeats 4000000 in
set_option maxRecDepth 100000 in
theorem T_X8_reckon {X : XE} {σf : SS} {r : Int64} {σ : SS} {a1 : Int32} {a2 : Int32} (h : P_X8_reckon a1 a2 σ = some (r, σf)) : Mt (gX X) 4 yX8_reckon cX8_reckon 4 (some .long) [.ref (xq X 4), .int a1, .int a2] σ (some (.long r)) σf := by
  refine Mt.of (own := RX8) (lv := [(0, .ref (xq X 4)), (1, .int a1), (2, .int a2)]) pn_X8 rfl (Nat.le_of_ble_eq_true rfl) rfl ?_
  unfold P_X8_reckon at h
  refine r_aload_n 0 dX8_reckon_0 rfl rfl rfl ?_
  refine gf_X8_18_4 dX8_reckon_1 rfl ?_
  refine r_iload_n 1 dX8_reckon_4 rfl rfl rfl ?_
  obtain ⟨v2, e1, h⟩ := bd h
  refine r_callV (rest := []) (T_X1_a e1) (by decide) mf_X1_a rfl tw_424 tw_425 tw_527 cX_1 rfl rfl rfl (Nat.le_of_ble_eq_true rfl) dX8_reckon_5 rfl ?_
  refine r_call0 ?_
  refine r_istore_n (lv' := [(3, .int v2), (0, .ref (xq X 4)), (1, .int a1), (2, .int a2)]) dX8_reckon_8 rfl (by decide) rfl rfl ?_
  refine r_aload_n 1 dX8_reckon_9 rfl rfl rfl ?_
  refine gf_X8_18_4 dX8_reckon_10 rfl ?_
  refine r_iload_n 2 dX8_reckon_13 rfl rfl rfl ?_
  obtain ⟨v4, e3, h⟩ := bd h
  refine r_callV (rest := []) (T_X1_kind e3) (by decide) mf_X1_kind rfl tw_420 tw_421 tw_528 cX_1 rfl rfl rfl (Nat.le_of_ble_eq_true rfl) dX8_reckon_14 rfl ?_
  refine r_call0 ?_
  by_cases c5 : v4 = 0
  · have h := it_t c5 h
    refine r_tableIn (t := 68) dX8_reckon_17 (by rw [c5]; decide) (by rw [c5]; decide) (by rw [c5]; rfl) (by decide) ?_
    refine r_iload_n 3 dX8_reckon_68 rfl rfl rfl ?_
    refine r_iload_n 0 dX8_reckon_69 rfl rfl rfl ?_
    refine r_icmp_ne (t := 77) dX8_reckon_70 (by decide) rfl (fun c6 => ?_) (fun c6 => ?_)
    · have h := it_t c6 h
      refine rlc_0 dX8_reckon_77 rfl ?_
      exact r_lretQ dX8_reckon_78 h
    · have h := it_n c6 h
      refine rlc_1 dX8_reckon_73 rfl ?_
      refine r_goto (t := 78) dX8_reckon_74 (by decide) ?_
      exact r_lretQ dX8_reckon_78 h
  · have h := it_f c5 h
    by_cases c7 : v4 = 1
    · have h := it_t c7 h
      refine r_tableIn (t := 79) dX8_reckon_17 (by rw [c7]; decide) (by rw [c7]; decide) (by rw [c7]; rfl) (by decide) ?_
      refine r_iload_n 3 dX8_reckon_79 rfl rfl rfl ?_
      refine r_if_ne (t := 87) dX8_reckon_80 (by decide) rfl (fun c8 => ?_) (fun c8 => ?_)
      · have h := it_t c8 h
        refine rlc_0 dX8_reckon_87 rfl ?_
        exact r_lretQ dX8_reckon_88 h
      · have h := it_n c8 h
        refine rlc_1 dX8_reckon_83 rfl ?_
        refine r_goto (t := 88) dX8_reckon_84 (by decide) ?_
        exact r_lretQ dX8_reckon_88 h
    · have h := it_f c7 h
      by_cases c9 : v4 = 2
      · have h := it_t c9 h
        refine r_tableIn (t := 89) dX8_reckon_17 (by rw [c9]; decide) (by rw [c9]; decide) (by rw [c9]; rfl) (by decide) ?_
        refine r_aload_n 1 dX8_reckon_89 rfl rfl rfl ?_
        refine r_iload_n 2 dX8_reckon_90 rfl rfl rfl ?_
        refine r_iload_n 3 dX8_reckon_91 rfl rfl rfl ?_
        refine r_iload_n 3 dX8_reckon_92 rfl rfl rfl ?_
        refine ric_1 dX8_reckon_93 rfl ?_
        refine r_iadd dX8_reckon_94 rfl ?_
        refine rlc_0 dX8_reckon_95 rfl ?_
        obtain ⟨v11, e10, h⟩ := bd h
        refine r_callV (rest := []) (T_X8_ledBelow e10) (by decide) mf_X8_ledBelow rfl tw_530 tw_531 tw_529 cX_4 rfl rfl rfl (Nat.le_of_ble_eq_true rfl) dX8_reckon_96 rfl ?_
        refine r_call0 ?_
        exact r_lretQ dX8_reckon_99 h
      · have h := it_f c9 h
        by_cases c12 : v4 = 3
        · have h := it_t c12 h
          refine r_tableIn (t := 100) dX8_reckon_17 (by rw [c12]; decide) (by rw [c12]; decide) (by rw [c12]; rfl) (by decide) ?_
          refine r_aload_n 1 dX8_reckon_100 rfl rfl rfl ?_
          refine r_iload_n 0 dX8_reckon_101 rfl rfl rfl ?_
          refine r_iload_n 3 dX8_reckon_102 rfl rfl rfl ?_
          obtain ⟨v14, e13, h⟩ := bd h
          refine r_callV (rest := []) (T_X8_of e13) (by decide) mf_X8_of rfl tw_539 tw_540 tw_538 cX_4 rfl rfl rfl (Nat.le_of_ble_eq_true rfl) dX8_reckon_103 rfl ?_
          refine r_call0 ?_
          refine r_aload_n 1 dX8_reckon_106 rfl rfl rfl ?_
          refine r_aload_n 1 dX8_reckon_107 rfl rfl rfl ?_
          refine gf_X8_18_4 dX8_reckon_108 rfl ?_
          refine r_iload_n 2 dX8_reckon_111 rfl rfl rfl ?_
          obtain ⟨v16, e15, h⟩ := bd h
          refine r_callV (rest := [.ref (xq X 4), .long v14]) (T_X1_b e15) (by decide) mf_X1_b rfl tw_428 tw_429 tw_537 cX_1 rfl rfl rfl (Nat.le_of_ble_eq_true rfl) dX8_reckon_112 rfl ?_
          refine r_call0 ?_
          refine r_iload_n 3 dX8_reckon_115 rfl rfl rfl ?_
          obtain ⟨v18, e17, h⟩ := bd h
          refine r_callV (rest := [.long v14]) (T_X8_of e17) (by decide) mf_X8_of rfl tw_539 tw_540 tw_538 cX_4 rfl rfl rfl (Nat.le_of_ble_eq_true rfl) dX8_reckon_116 rfl ?_
          refine r_call0 ?_
          obtain ⟨v20, e19, h⟩ := bd h
          refine r_callS (As := [.long v14, .long v18]) (rest := []) (T_X7_plus e19) (by decide) mf_X7_plus rfl tw_551 tw_550 rfl (Nat.le_of_ble_eq_true rfl) dX8_reckon_119 rfl ?_
          refine r_call0 ?_
          exact r_lretQ dX8_reckon_122 h
        · have h := it_f c12 h
          by_cases c21 : v4 = 4
          · have h := it_t c21 h
            refine r_tableIn (t := 123) dX8_reckon_17 (by rw [c21]; decide) (by rw [c21]; decide) (by rw [c21]; rfl) (by decide) ?_
            refine r_iload_n 3 dX8_reckon_123 rfl rfl rfl ?_
            refine r_if_ne (t := 131) dX8_reckon_124 (by decide) rfl (fun c22 => ?_) (fun c22 => ?_)
            · have h := it_t c22 h
              refine r_aload_n 1 dX8_reckon_131 rfl rfl rfl ?_
              refine r_iload_n 2 dX8_reckon_132 rfl rfl rfl ?_
              refine r_iload_n 3 dX8_reckon_133 rfl rfl rfl ?_
              refine r_iload_n 3 dX8_reckon_134 rfl rfl rfl ?_
              refine ric_1 dX8_reckon_135 rfl ?_
              refine r_iadd dX8_reckon_136 rfl ?_
              refine rlc_0 dX8_reckon_137 rfl ?_
              obtain ⟨v24, e23, h⟩ := bd h
              refine r_callV (rest := []) (T_X8_ledBelow e23) (by decide) mf_X8_ledBelow rfl tw_530 tw_531 tw_529 cX_4 rfl rfl rfl (Nat.le_of_ble_eq_true rfl) dX8_reckon_138 rfl ?_
              refine r_call0 ?_
              exact r_lretQ dX8_reckon_141 h
            · have h := it_n c22 h
              refine rlc_1 dX8_reckon_127 rfl ?_
              refine r_goto (t := 141) dX8_reckon_128 (by decide) ?_
              exact r_lretQ dX8_reckon_141 h
          · have h := it_f c21 h
            by_cases c25 : v4 = 5
            · have h := it_t c25 h
              refine r_tableIn (t := 142) dX8_reckon_17 (by rw [c25]; decide) (by rw [c25]; decide) (by rw [c25]; rfl) (by decide) ?_
              refine r_sub [1, 2, 3] rfl ?_
              exact T_X8_reckon_j142 a1 a2 σ h
            · have h := it_f c25 h
              by_cases c26 : v4 = 6
              · have h := it_t c26 h
                refine r_tableIn (t := 142) dX8_reckon_17 (by rw [c26]; decide) (by rw [c26]; decide) (by rw [c26]; rfl) (by decide) ?_
                refine r_sub [1, 2, 3] rfl ?_
                exact T_X8_reckon_j142 a1 a2 σ h
              · have h := it_f c26 h
                by_cases c27 : v4 = 7
                · have h := it_t c27 h
                  refine r_tableIn (t := 157) dX8_reckon_17 (by rw [c27]; decide) (by rw [c27]; decide) (by rw [c27]; rfl) (by decide) ?_
                  refine r_iload_n 3 dX8_reckon_157 rfl rfl rfl ?_
                  refine r_aload_n 1 dX8_reckon_158 rfl rfl rfl ?_
                  refine gf_X8_18_4 dX8_reckon_159 rfl ?_
                  refine r_iload_n 2 dX8_reckon_162 rfl rfl rfl ?_
                  obtain ⟨v29, e28, h⟩ := bd h
                  refine r_callV (rest := [.int a2]) (T_X1_low e28) (by decide) mf_X1_low rfl tw_486 tw_487 tw_586 cX_1 rfl rfl rfl (Nat.le_of_ble_eq_true rfl) dX8_reckon_163 rfl ?_
                  refine r_call0 ?_
                  refine r_icmp_lt (t := 190) dX8_reckon_166 (by decide) rfl (fun c30 => ?_) (fun c30 => ?_)
                  · have h := it_t c30 h
                    refine rlc_0 dX8_reckon_190 rfl ?_
                    exact r_lretQ dX8_reckon_191 h
                  · have h := it_f c30 h
                    refine r_iload_n 3 dX8_reckon_169 rfl rfl rfl ?_
                    refine r_aload_n 1 dX8_reckon_170 rfl rfl rfl ?_
                    refine gf_X8_18_4 dX8_reckon_171 rfl ?_
                    refine r_iload_n 2 dX8_reckon_174 rfl rfl rfl ?_
                    obtain ⟨v32, e31, h⟩ := bd h
                    refine r_callV (rest := [.int a2]) (T_X1_high e31) (by decide) mf_X1_high rfl tw_588 tw_589 tw_587 cX_1 rfl rfl rfl (Nat.le_of_ble_eq_true rfl) dX8_reckon_175 rfl ?_
                    refine r_call0 ?_
                    refine r_icmp_gt (t := 190) dX8_reckon_178 (by decide) rfl (fun c33 => ?_) (fun c33 => ?_)
                    · have h := it_t c33 h
                      refine rlc_0 dX8_reckon_190 rfl ?_
                      exact r_lretQ dX8_reckon_191 h
                    · have h := it_f c33 h
                      refine r_aload_n 1 dX8_reckon_181 rfl rfl rfl ?_
                      refine r_iload_n 0 dX8_reckon_182 rfl rfl rfl ?_
                      refine r_iload_n 3 dX8_reckon_183 rfl rfl rfl ?_
                      obtain ⟨v35, e34, h⟩ := bd h
                      refine r_callV (rest := []) (T_X8_of e34) (by decide) mf_X8_of rfl tw_539 tw_540 tw_538 cX_4 rfl rfl rfl (Nat.le_of_ble_eq_true rfl) dX8_reckon_184 rfl ?_
                      refine r_call0 ?_
                      refine r_goto (t := 191) dX8_reckon_187 (by decide) ?_
                      exact r_lretQ dX8_reckon_191 h
                · have h := it_f c27 h
                  by_cases c36 : v4 = 8
                  · have h := it_t c36 h
                    refine r_tableIn (t := 192) dX8_reckon_17 (by rw [c36]; decide) (by rw [c36]; decide) (by rw [c36]; rfl) (by decide) ?_
                    refine r_iload_n 3 dX8_reckon_192 rfl rfl rfl ?_
                    refine r_iload_n 0 dX8_reckon_193 rfl rfl rfl ?_
                    refine r_icmp_ne (t := 204) dX8_reckon_194 (by decide) rfl (fun c37 => ?_) (fun c37 => ?_)
                    · have h := it_t c37 h
                      refine rlc_0 dX8_reckon_204 rfl ?_
                      exact r_lretQ dX8_reckon_205 h
                    · have h := it_n c37 h
                      refine r_iload_n 0 dX8_reckon_197 rfl rfl rfl ?_
                      obtain ⟨v39, e38, h⟩ := bd h
                      refine r_callS (As := [.int v2]) (rest := []) (T_X7_orders e38) (by decide) mf_X7_orders rfl tw_592 tw_591 rfl (Nat.le_of_ble_eq_true rfl) dX8_reckon_198 rfl ?_
                      refine r_call0 ?_
                      refine r_goto (t := 205) dX8_reckon_201 (by decide) ?_
                      exact r_lretQ dX8_reckon_205 h
                  · have h := it_f c36 h
                    refine r_tableOut (t := 206) dX8_reckon_17 (by have z0 := neL c5 (z := 0) rfl; have z1 := neL c7 (z := 1) rfl; have z2 := neL c9 (z := 2) rfl; have z3 := neL c12 (z := 3) rfl; have z4 := neL c21 (z := 4) rfl; have z5 := neL c25 (z := 5) rfl; have z6 := neL c26 (z := 6) rfl; have z7 := neL c27 (z := 7) rfl; have z8 := neL c36 (z := 8) rfl; omega) (by decide) ?_
                    refine rlc_0 dX8_reckon_206 rfl ?_
                    exact r_lretQ dX8_reckon_207 h
