def P_X11_found (a1 : Int32) (σ : SS) : Option Int64 :=
  (P_X11_isIn a1.toInt64 0 2).bind fun v2 =>
  if ¬ v2 = 0 then
    if ¬ (sI σ 11) = 0 then
      if ¬ a1 = 0 then
        if ¬ a1 = 2 then
          if 0 ≤ (sI σ 13) then
            some ((sI σ 13).toInt64)
          else
            some (-2000000005)
        else
          some ((sI σ 14).toInt64)
      else
        some ((sI σ 12).toInt64)
    else
      some (-2000000005)
  else
    some (-2000000001)
set_option maxHeartbeats 4000000 in
set_option maxRecDepth 100000 in
theorem T_X11_found {X : XE} {σ : SS} {r : Int64} {a1 : Int32} (h : P_X11_found a1 σ = some r) : Mt (gM X) 1 yX11_found cX11_found 2 (some .long) [.ref (xq X 0), .int a1] σ (some (.long r)) σ := by
  refine Mt.of (own := RX11) (lv := [(0, .ref (xq X 0)), (1, .int a1)]) pn_X11 rfl (Nat.le_of_ble_eq_true rfl) rfl ?_
  unfold P_X11_found at h
  refine r_iload_n 1 dX11_found_0 rfl rfl rfl ?_
  refine r_i2l dX11_found_1 rfl ?_
  refine rlc_0 dX11_found_2 rfl ?_
  refine r_ldc2 (v := 2) tw_1087 dX11_found_3 rfl ?_
  obtain ⟨v2, e1, h⟩ := bd h
  refine r_callS (As := [.long a1.toInt64, .long 0, .long 2]) (rest := []) (T_X11_isIn e1) (by decide) mf_X11_isIn rfl tw_1055 tw_1054 rfl (Nat.le_of_ble_eq_true rfl) dX11_found_6 rfl ?_
  refine r_call0 ?_
  refine r_if_ne (t := 16) dX11_found_9 (by decide) rfl (fun c3 => ?_) (fun c3 => ?_)
  · have h := it_t c3 h
    refine r_aload_n 0 dX11_found_16 rfl rfl rfl ?_
    refine gf_X11_75_0 dX11_found_17 rfl ?_
    refine r_if_ne (t := 27) dX11_found_20 (by decide) rfl (fun c4 => ?_) (fun c4 => ?_)
    · have h := it_t c4 h
      refine r_iload_n 1 dX11_found_27 rfl rfl rfl ?_
      refine r_if_ne (t := 39) dX11_found_28 (by decide) rfl (fun c5 => ?_) (fun c5 => ?_)
      · have h := it_t c5 h
        refine r_iload_n 1 dX11_found_39 rfl rfl rfl ?_
        refine ric_2 dX11_found_40 rfl ?_
        refine r_icmp_ne (t := 52) dX11_found_41 (by decide) rfl (fun c6 => ?_) (fun c6 => ?_)
        · have h := it_t c6 h
          refine r_aload_n 0 dX11_found_52 rfl rfl rfl ?_
          refine gf_X11_318_0 dX11_found_53 rfl ?_
          refine r_if_ge (t := 65) dX11_found_56 (by decide) rfl (fun c7 => ?_) (fun c7 => ?_)
          · have h := it_t c7 h
            refine r_aload_n 0 dX11_found_65 rfl rfl rfl ?_
            refine gf_X11_318_0 dX11_found_66 rfl ?_
            refine r_i2l dX11_found_69 rfl ?_
            exact r_lretR dX11_found_70 h
          · have h := it_f c7 h
            refine r_ldc2 (v := (-2000000005)) tw_1200 dX11_found_59 rfl ?_
            refine r_goto (t := 70) dX11_found_62 (by decide) ?_
            exact r_lretR dX11_found_70 h
        · have h := it_n c6 h
          refine r_aload_n 0 dX11_found_44 rfl rfl rfl ?_
          refine gf_X11_332_0 dX11_found_45 rfl ?_
          refine r_i2l dX11_found_48 rfl ?_
          refine r_goto (t := 70) dX11_found_49 (by decide) ?_
          exact r_lretR dX11_found_70 h
      · have h := it_n c5 h
        refine r_aload_n 0 dX11_found_31 rfl rfl rfl ?_
        refine gf_X11_315_0 dX11_found_32 rfl ?_
        refine r_i2l dX11_found_35 rfl ?_
        refine r_goto (t := 70) dX11_found_36 (by decide) ?_
        exact r_lretR dX11_found_70 h
    · have h := it_n c4 h
      refine r_ldc2 (v := (-2000000005)) tw_1200 dX11_found_23 rfl ?_
      exact r_lretR dX11_found_26 h
  · have h := it_n c3 h
    refine r_ldc2 (v := (-2000000001)) tw_1060 dX11_found_12 rfl ?_
    exact r_lretR dX11_found_15 h
def P_X11_out (a1 : Int32) (σ : SS) : Option Int64 :=
  (P_X11_isIn a1.toInt64 0 (((sI σ 4) - 1).toInt64)).bind fun v2 =>
  if v2 = 0 then
    some (-2000000005)
  else
    gI a1 300 <|
    some ((ldA σ 5 a1).toInt64)
set_option maxHeartbeats 4000000 in
set_option maxRecDepth 100000 in
theorem T_X11_out {X : XE} {σ : SS} {r : Int64} {a1 : Int32} (h : P_X11_out a1 σ = some r) : Mt (gM X) 1 yX11_out cX11_out 2 (some .long) [.ref (xq X 0), .int a1] σ (some (.long r)) σ := by
  refine Mt.of (own := RX11) (lv := [(0, .ref (xq X 0)), (1, .int a1)]) pn_X11 rfl (Nat.le_of_ble_eq_true rfl) rfl ?_
  unfold P_X11_out at h
  refine r_iload_n 1 dX11_out_0 rfl rfl rfl ?_
  refine r_i2l dX11_out_1 rfl ?_
  refine rlc_0 dX11_out_2 rfl ?_
  refine r_aload_n 0 dX11_out_3 rfl rfl rfl ?_
  refine gf_X11_251_0 dX11_out_4 rfl ?_
  refine ric_1 dX11_out_7 rfl ?_
  refine r_isub dX11_out_8 rfl ?_
  refine r_i2l dX11_out_9 rfl ?_
  obtain ⟨v2, e1, h⟩ := bd h
  refine r_callS (As := [.long a1.toInt64, .long 0, .long (((sI σ 4) - 1).toInt64)]) (rest := []) (T_X11_isIn e1) (by decide) mf_X11_isIn rfl tw_1055 tw_1054 rfl (Nat.le_of_ble_eq_true rfl) dX11_out_10 rfl ?_
  refine r_call0 ?_
  refine r_if_eq (t := 26) dX11_out_13 (by decide) rfl (fun c3 => ?_) (fun c3 => ?_)
  · have h := it_t c3 h
    refine r_ldc2 (v := (-2000000005)) tw_1200 dX11_out_26 rfl ?_
    exact r_lretR dX11_out_29 h
  · have h := it_f c3 h
    refine r_aload_n 0 dX11_out_16 rfl rfl rfl ?_
    refine gf_X11_25_0 dX11_out_17 rfl ?_
    refine r_iload_n 1 dX11_out_20 rfl rfl rfl ?_
    obtain ⟨hi4, h⟩ := gi h
    refine alM_6 hi4 dX11_out_21 rfl ?_
    refine r_i2l dX11_out_22 rfl ?_
    refine r_goto (t := 29) dX11_out_23 (by decide) ?_
    exact r_lretR dX11_out_29 h
def P_X11_state (a1 : Int32) (σ : SS) : Option Int64 :=
  if a1 = 0 then
    some ((sI σ 0).toInt64)
  else
    if a1 = 1 then
      some ((sI σ 3).toInt64)
    else
      if a1 = 2 then
        some ((sI σ 4).toInt64)
      else
        if a1 = 3 then
          some ((sI σ 2).toInt64)
        else
          if a1 = 4 then
            if (sI σ 1) = 0 then
              some 0
            else
              some 1
          else
            some (-2000000001)
set_option maxHeartbeats 4000000 in
set_option maxRecDepth 100000 in
theorem T_X11_state {X : XE} {σ : SS} {r : Int64} {a1 : Int32} (h : P_X11_state a1 σ = some r) : Mt (gM X) 0 yX11_state cX11_state 2 (some .long) [.ref (xq X 0), .int a1] σ (some (.long r)) σ := by
  refine Mt.of (own := RX11) (lv := [(0, .ref (xq X 0)), (1, .int a1)]) pn_X11 rfl (Nat.le_of_ble_eq_true rfl) rfl ?_
  unfold P_X11_state at h
  refine r_iload_n 1 dX11_state_0 rfl rfl rfl ?_
  by_cases c1 : a1 = 0
  · have h := it_t c1 h
    refine r_tableIn (t := 36) dX11_state_1 (by rw [c1]; decide) (by rw [c1]; decide) (by rw [c1]; rfl) (by decide) ?_
    refine r_aload_n 0 dX11_state_36 rfl rfl rfl ?_
    refine gf_X11_95_0 dX11_state_37 rfl ?_
    refine r_i2l dX11_state_40 rfl ?_
    exact r_lretR dX11_state_41 h
  · have h := it_f c1 h
    by_cases c2 : a1 = 1
    · have h := it_t c2 h
      refine r_tableIn (t := 42) dX11_state_1 (by rw [c2]; decide) (by rw [c2]; decide) (by rw [c2]; rfl) (by decide) ?_
      refine r_aload_n 0 dX11_state_42 rfl rfl rfl ?_
      refine gf_X11_254_0 dX11_state_43 rfl ?_
      refine r_i2l dX11_state_46 rfl ?_
      exact r_lretR dX11_state_47 h
    · have h := it_f c2 h
      by_cases c3 : a1 = 2
      · have h := it_t c3 h
        refine r_tableIn (t := 48) dX11_state_1 (by rw [c3]; decide) (by rw [c3]; decide) (by rw [c3]; rfl) (by decide) ?_
        refine r_aload_n 0 dX11_state_48 rfl rfl rfl ?_
        refine gf_X11_251_0 dX11_state_49 rfl ?_
        refine r_i2l dX11_state_52 rfl ?_
        exact r_lretR dX11_state_53 h
      · have h := it_f c3 h
        by_cases c4 : a1 = 3
        · have h := it_t c4 h
          refine r_tableIn (t := 54) dX11_state_1 (by rw [c4]; decide) (by rw [c4]; decide) (by rw [c4]; rfl) (by decide) ?_
          refine r_aload_n 0 dX11_state_54 rfl rfl rfl ?_
          refine gf_X11_91_0 dX11_state_55 rfl ?_
          refine r_i2l dX11_state_58 rfl ?_
          exact r_lretR dX11_state_59 h
        · have h := it_f c4 h
          by_cases c5 : a1 = 4
          · have h := it_t c5 h
            refine r_tableIn (t := 60) dX11_state_1 (by rw [c5]; decide) (by rw [c5]; decide) (by rw [c5]; rfl) (by decide) ?_
            refine r_aload_n 0 dX11_state_60 rfl rfl rfl ?_
            refine gf_X11_98_0 dX11_state_61 rfl ?_
            refine r_if_eq (t := 71) dX11_state_64 (by decide) rfl (fun c6 => ?_) (fun c6 => ?_)
            · have h := it_t c6 h
              refine rlc_0 dX11_state_71 rfl ?_
              exact r_lretR dX11_state_72 h
            · have h := it_f c6 h
              refine rlc_1 dX11_state_67 rfl ?_
              refine r_goto (t := 72) dX11_state_68 (by decide) ?_
              exact r_lretR dX11_state_72 h
          · have h := it_f c5 h
            refine r_tableOut (t := 73) dX11_state_1 (by have z0 := neL c1 (z := 0) rfl; have z1 := neL c2 (z := 1) rfl; have z2 := neL c3 (z := 2) rfl; have z3 := neL c4 (z := 3) rfl; have z4 := neL c5 (z := 4) rfl; omega) (by decide) ?_
            refine r_ldc2 (v := (-2000000001)) tw_1060 dX11_state_73 rfl ?_
            exact r_lretR dX11_state_76 h
