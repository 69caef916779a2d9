def P_X1_has (a1 : Int32) (σ : SS) : Option Int32 :=
  if a1 < 0 then
    some 0
  else
    if (sI σ 5) ≤ a1 then
      some 0
    else
      some 1
set_option maxHeartbeats 4000000 in
set_option maxRecDepth 100000 in
theorem T_X1_has {X : XE} {σ : SS} {r : Int32} {a1 : Int32} (h : P_X1_has a1 σ = some r) : Mt (gX X) 0 yX1_has cX1_has 2 (some .boolean) [.ref (xq X 1), .int a1] σ (some (.int r)) σ := by
  refine Mt.of (own := RX1) (lv := [(0, .ref (xq X 1)), (1, .int a1)]) pn_X1 rfl (Nat.le_of_ble_eq_true rfl) rfl ?_
  unfold P_X1_has at h
  refine r_iload_n 1 dX1_has_0 rfl rfl rfl ?_
  refine r_if_lt (t := 16) dX1_has_1 (by decide) rfl (fun c1 => ?_) (fun c1 => ?_)
  · have h := it_t c1 h
    refine ric_0 dX1_has_16 rfl ?_
    exact r_zretR (Or.inl rfl) dX1_has_17 h
  · have h := it_f c1 h
    refine r_iload_n 1 dX1_has_4 rfl rfl rfl ?_
    refine r_aload_n 0 dX1_has_5 rfl rfl rfl ?_
    refine gf_X1_21_1 dX1_has_6 rfl ?_
    refine r_icmp_ge (t := 16) dX1_has_9 (by decide) rfl (fun c2 => ?_) (fun c2 => ?_)
    · have h := it_t c2 h
      refine ric_0 dX1_has_16 rfl ?_
      exact r_zretR (Or.inl rfl) dX1_has_17 h
    · have h := it_f c2 h
      refine ric_1 dX1_has_12 rfl ?_
      refine r_goto (t := 17) dX1_has_13 (by decide) ?_
      exact r_zretR (Or.inr rfl) dX1_has_17 h
def P_X1_kind (a1 : Int32) (σ : SS) : Option Int32 :=
  if a1 < 0 then
    some 0
  else
    if 16 ≤ a1 then
      some 0
    else
      gI a1 16 <|
      some (ldA σ 0 a1)
set_option maxHeartbeats 4000000 in
set_option maxRecDepth 100000 in
theorem T_X1_kind {X : XE} {σ : SS} {r : Int32} {a1 : Int32} (h : P_X1_kind a1 σ = some r) : Mt (gX X) 0 yX1_kind cX1_kind 2 (some .int) [.ref (xq X 1), .int a1] σ (some (.int r)) σ := by
  refine Mt.of (own := RX1) (lv := [(0, .ref (xq X 1)), (1, .int a1)]) pn_X1 rfl (Nat.le_of_ble_eq_true rfl) rfl ?_
  unfold P_X1_kind at h
  refine r_iload_n 1 dX1_kind_0 rfl rfl rfl ?_
  refine r_if_lt (t := 19) dX1_kind_1 (by decide) rfl (fun c1 => ?_) (fun c1 => ?_)
  · have h := it_t c1 h
    refine ric_0 dX1_kind_19 rfl ?_
    exact r_iretR dX1_kind_20 h
  · have h := it_f c1 h
    refine r_iload_n 1 dX1_kind_4 rfl rfl rfl ?_
    refine r_bipush (v := 16) dX1_kind_5 (by decide) rfl ?_
    refine r_icmp_ge (t := 19) dX1_kind_7 (by decide) rfl (fun c2 => ?_) (fun c2 => ?_)
    · have h := it_t c2 h
      refine ric_0 dX1_kind_19 rfl ?_
      exact r_iretR dX1_kind_20 h
    · have h := it_f c2 h
      refine r_aload_n 0 dX1_kind_10 rfl rfl rfl ?_
      refine gf_X1_9_1 dX1_kind_11 rfl ?_
      refine r_iload_n 1 dX1_kind_14 rfl rfl rfl ?_
      obtain ⟨hi3, h⟩ := gi h
      refine alX_11 hi3 dX1_kind_15 rfl ?_
      refine r_goto (t := 20) dX1_kind_16 (by decide) ?_
      exact r_iretR dX1_kind_20 h
def P_X1_a (a1 : Int32) (σ : SS) : Option Int32 :=
  if a1 < 0 then
    some 0
  else
    if 16 ≤ a1 then
      some 0
    else
      gI a1 16 <|
      some (ldA σ 1 a1)
set_option maxHeartbeats 4000000 in
set_option maxRecDepth 100000 in
theorem T_X1_a {X : XE} {σ : SS} {r : Int32} {a1 : Int32} (h : P_X1_a a1 σ = some r) : Mt (gX X) 0 yX1_a cX1_a 2 (some .int) [.ref (xq X 1), .int a1] σ (some (.int r)) σ := by
  refine Mt.of (own := RX1) (lv := [(0, .ref (xq X 1)), (1, .int a1)]) pn_X1 rfl (Nat.le_of_ble_eq_true rfl) rfl ?_
  unfold P_X1_a at h
  refine r_iload_n 1 dX1_a_0 rfl rfl rfl ?_
  refine r_if_lt (t := 19) dX1_a_1 (by decide) rfl (fun c1 => ?_) (fun c1 => ?_)
  · have h := it_t c1 h
    refine ric_0 dX1_a_19 rfl ?_
    exact r_iretR dX1_a_20 h
  · have h := it_f c1 h
    refine r_iload_n 1 dX1_a_4 rfl rfl rfl ?_
    refine r_bipush (v := 16) dX1_a_5 (by decide) rfl ?_
    refine r_icmp_ge (t := 19) dX1_a_7 (by decide) rfl (fun c2 => ?_) (fun c2 => ?_)
    · have h := it_t c2 h
      refine ric_0 dX1_a_19 rfl ?_
      exact r_iretR dX1_a_20 h
    · have h := it_f c2 h
      refine r_aload_n 0 dX1_a_10 rfl rfl rfl ?_
      refine gf_X1_15_1 dX1_a_11 rfl ?_
      refine r_iload_n 1 dX1_a_14 rfl rfl rfl ?_
      obtain ⟨hi3, h⟩ := gi h
      refine alX_12 hi3 dX1_a_15 rfl ?_
      refine r_goto (t := 20) dX1_a_16 (by decide) ?_
      exact r_iretR dX1_a_20 h
def P_X1_b (a1 : Int32) (σ : SS) : Option Int32 :=
  if a1 < 0 then
    some 0
  else
    if 16 ≤ a1 then
      some 0
    else
      gI a1 16 <|
      some (ldA σ 2 a1)
set_option maxHeartbeats 4000000 in
set_option maxRecDepth 100000 in
theorem T_X1_b {X : XE} {σ : SS} {r : Int32} {a1 : Int32} (h : P_X1_b a1 σ = some r) : Mt (gX X) 0 yX1_b cX1_b 2 (some .int) [.ref (xq X 1), .int a1] σ (some (.int r)) σ := by
  refine Mt.of (own := RX1) (lv := [(0, .ref (xq X 1)), (1, .int a1)]) pn_X1 rfl (Nat.le_of_ble_eq_true rfl) rfl ?_
  unfold P_X1_b at h
  refine r_iload_n 1 dX1_b_0 rfl rfl rfl ?_
  refine r_if_lt (t := 19) dX1_b_1 (by decide) rfl (fun c1 => ?_) (fun c1 => ?_)
  · have h := it_t c1 h
    refine ric_0 dX1_b_19 rfl ?_
    exact r_iretR dX1_b_20 h
  · have h := it_f c1 h
    refine r_iload_n 1 dX1_b_4 rfl rfl rfl ?_
    refine r_bipush (v := 16) dX1_b_5 (by decide) rfl ?_
    refine r_icmp_ge (t := 19) dX1_b_7 (by decide) rfl (fun c2 => ?_) (fun c2 => ?_)
    · have h := it_t c2 h
      refine ric_0 dX1_b_19 rfl ?_
      exact r_iretR dX1_b_20 h
    · have h := it_f c2 h
      refine r_aload_n 0 dX1_b_10 rfl rfl rfl ?_
      refine gf_X1_18_1 dX1_b_11 rfl ?_
      refine r_iload_n 1 dX1_b_14 rfl rfl rfl ?_
      obtain ⟨hi3, h⟩ := gi h
      refine alX_13 hi3 dX1_b_15 rfl ?_
      refine r_goto (t := 20) dX1_b_16 (by decide) ?_
      exact r_iretR dX1_b_20 h
def P_X10_put (a1 : Int32) (a2 : Int32) (a3 : Int32) (a4 : Int32) (σ : SS) : Option (Int64 × SS) :=
  (P_X1_has a1 σ).bind fun v2 =>
  if v2 = 0 then
    some ((-2000000001), σ)
  else
    (P_X10_fits a2 a3 a4).bind fun v5 =>
    if ¬ v5 = 0 then
      (P_X1_kind a1 σ).bind fun v8 =>
      (P_X1_a a1 σ).bind fun v10 =>
      (P_X1_b a1 σ).bind fun v12 =>
      (P_X2_keep a1 v8 v10 v12 σ).bind fun σ14 =>
      (P_X1_change a1 a2 a3 a4 σ14).bind fun σ16 =>
      some (0, (uI σ16 0 0))
    else
      some ((-2000000001), σ)
set_option maxHeartbeats 4000000 in
set_option maxRecDepth 100000 in
theorem T_X10_put {X : XE} {σf : SS} {r : Int64} {σ : SS} {a1 : Int32} {a2 : Int32} {a3 : Int32} {a4 : Int32} (h : P_X10_put a1 a2 a3 a4 σ = some (r, σf)) : Mt (gX X) 2 yX10_put cX10_put 5 (some .long) [.ref (xq X 0), .int a1, .int a2, .int a3, .int a4] σ (some (.long r)) σf := by
  refine Mt.of (own := RX10) (lv := [(0, .ref (xq X 0)), (1, .int a1), (2, .int a2), (3, .int a3), (4, .int a4)]) pn_X10 rfl (Nat.le_of_ble_eq_true rfl) rfl ?_
  unfold P_X10_put at h
  refine r_aload_n 0 dX10_put_0 rfl rfl rfl ?_
  refine gf_X10_12_0 dX10_put_1 rfl ?_
  refine r_iload_n 1 dX10_put_4 rfl rfl rfl ?_
  obtain ⟨v2, e1, h⟩ := bd h
  refine r_callV (rest := []) (T_X1_has e1) (by decide) mf_X1_has rfl tw_416 tw_417 tw_415 cX_1 rfl rfl rfl (Nat.le_of_ble_eq_true rfl) dX10_put_5 rfl ?_
  refine r_call0 ?_
  refine r_if_eq (t := 21) dX10_put_8 (by decide) rfl (fun c3 => ?_) (fun c3 => ?_)
  · have h := it_t c3 h
    refine r_ldc2 (v := (-2000000001)) tw_385 dX10_put_21 rfl ?_
    exact r_lretQ dX10_put_24 h
  · have h := it_f c3 h
    refine r_iload_n 2 dX10_put_11 rfl rfl rfl ?_
    refine r_iload_n 3 dX10_put_12 rfl rfl rfl ?_
    refine r_iload 4 dX10_put_13 rfl rfl ?_
    obtain ⟨v5, e4, h⟩ := bd h
    refine r_callS (As := [.int a2, .int a3, .int a4]) (rest := []) (T_X10_fits e4) (by decide) mf_X10_fits rfl tw_380 tw_379 rfl (Nat.le_of_ble_eq_true rfl) dX10_put_15 rfl ?_
    refine r_call0 ?_
    refine r_if_ne (t := 25) dX10_put_18 (by decide) rfl (fun c6 => ?_) (fun c6 => ?_)
    · have h := it_t c6 h
      refine r_aload_n 0 dX10_put_25 rfl rfl rfl ?_
      refine gf_X10_21_0 dX10_put_26 rfl ?_
      refine r_iload_n 1 dX10_put_29 rfl rfl rfl ?_
      refine r_aload_n 0 dX10_put_30 rfl rfl rfl ?_
      refine gf_X10_12_0 dX10_put_31 rfl ?_
      refine r_iload_n 1 dX10_put_34 rfl rfl rfl ?_
      obtain ⟨v8, e7, h⟩ := bd h
      refine r_callV (rest := [.int a1, .ref (xq X 2)]) (T_X1_kind e7) (by decide) mf_X1_kind rfl tw_420 tw_421 tw_419 cX_1 rfl rfl rfl (Nat.le_of_ble_eq_true rfl) dX10_put_35 rfl ?_
      refine r_call0 ?_
      refine r_aload_n 0 dX10_put_38 rfl rfl rfl ?_
      refine gf_X10_12_0 dX10_put_39 rfl ?_
      refine r_iload_n 1 dX10_put_42 rfl rfl rfl ?_
      obtain ⟨v10, e9, h⟩ := bd h
      refine r_callV (rest := [.int v8, .int a1, .ref (xq X 2)]) (T_X1_a e9) (by decide) mf_X1_a rfl tw_424 tw_425 tw_423 cX_1 rfl rfl rfl (Nat.le_of_ble_eq_true rfl) dX10_put_43 rfl ?_
      refine r_call0 ?_
      refine r_aload_n 0 dX10_put_46 rfl rfl rfl ?_
      refine gf_X10_12_0 dX10_put_47 rfl ?_
      refine r_iload_n 1 dX10_put_50 rfl rfl rfl ?_
      obtain ⟨v12, e11, h⟩ := bd h
      refine r_callV (rest := [.int v10, .int v8, .int a1, .ref (xq X 2)]) (T_X1_b e11) (by decide) mf_X1_b rfl tw_428 tw_429 tw_427 cX_1 rfl rfl rfl (Nat.le_of_ble_eq_true rfl) dX10_put_51 rfl ?_
      refine r_call0 ?_
      obtain ⟨σ14, e13, h⟩ := bd h
      refine r_callV (rest := []) (T_X2_keep e13) (by decide) mf_X2_keep rfl tw_392 tw_393 tw_391 cX_2 rfl rfl rfl (Nat.le_of_ble_eq_true rfl) dX10_put_54 rfl ?_
      refine r_calln ?_
      refine r_aload_n 0 dX10_put_57 rfl rfl rfl ?_
      refine gf_X10_12_0 dX10_put_58 rfl ?_
      refine r_iload_n 1 dX10_put_61 rfl rfl rfl ?_
      refine r_iload_n 2 dX10_put_62 rfl rfl rfl ?_
      refine r_iload_n 3 dX10_put_63 rfl rfl rfl ?_
      refine r_iload 4 dX10_put_64 rfl rfl ?_
      obtain ⟨σ16, e15, h⟩ := bd h
      refine r_callV (rest := []) (T_X1_change e15) (by decide) mf_X1_change rfl tw_407 tw_408 tw_431 cX_1 rfl rfl rfl (Nat.le_of_ble_eq_true rfl) dX10_put_66 rfl ?_
      refine r_calln ?_
      refine r_aload_n 0 dX10_put_69 rfl rfl rfl ?_
      refine ric_0 dX10_put_70 rfl ?_
      refine pf_X10_98_0 (Or.inl rfl) dX10_put_71 rfl ?_
      refine rlc_0 dX10_put_74 rfl ?_
      exact r_lretQ dX10_put_75 h
    · have h := it_n c6 h
      refine r_ldc2 (v := (-2000000001)) tw_385 dX10_put_21 rfl ?_
      exact r_lretQ dX10_put_24 h
def P_X2_size (σ : SS) : Option Int32 :=
  some (sI σ 6)
set_option maxHeartbeats 4000000 in
set_option maxRecDepth 100000 in
theorem T_X2_size {X : XE} {σ : SS} {r : Int32} (h : P_X2_size σ = some r) : Mt (gX X) 0 yX2_size cX2_size 1 (some .int) [.ref (xq X 2)] σ (some (.int r)) σ := by
  refine Mt.of (own := RX2) (lv := [(0, .ref (xq X 2))]) pn_X2 rfl (Nat.le_of_ble_eq_true rfl) rfl ?_
  unfold P_X2_size at h
  refine r_aload_n 0 dX2_size_0 rfl rfl rfl ?_
  refine gf_X2_28_2 dX2_size_1 rfl ?_
  exact r_iretR dX2_size_4 h
def P_X6_at_15 (a1 : Int32) (σ : SS) : Option Int32 :=
  if a1 < 0 then
    some 0
  else
    if 8 ≤ a1 then
      some 0
    else
      gI a1 8 <|
      some (ldA σ 4 a1)
set_option maxHeartbeats 4000000 in
set_option maxRecDepth 100000 in
theorem T_X6_at_15 {X : XE} {σ : SS} {r : Int32} {a1 : Int32} (h : P_X6_at_15 a1 σ = some r) : Mt (gX X) 0 yX6_at cX6_at 2 (some .int) [.ref (xq X 15), .int a1] σ (some (.int r)) σ := by
  refine Mt.of (own := RX6) (lv := [(0, .ref (xq X 15)), (1, .int a1)]) pn_X6 rfl (Nat.le_of_ble_eq_true rfl) rfl ?_
  unfold P_X6_at_15 at h
  refine r_iload_n 1 dX6_at_0 rfl rfl rfl ?_
  refine r_if_lt (t := 16) dX6_at_1 (by decide) rfl (fun c1 => ?_) (fun c1 => ?_)
  · have h := it_t c1 h
    refine ric_0 dX6_at_16 rfl ?_
    exact r_iretR dX6_at_17 h
  · have h := it_f c1 h
    refine r_iload_n 1 dX6_at_4 rfl rfl rfl ?_
    refine r_aload_n 0 dX6_at_5 rfl rfl rfl ?_
    refine anX_15 dX6_at_6 rfl ?_
    refine r_icmp_ge (t := 16) dX6_at_7 (by decide) rfl (fun c2 => ?_) (fun c2 => ?_)
    · have h := it_t c2 h
      refine ric_0 dX6_at_16 rfl ?_
      exact r_iretR dX6_at_17 h
    · have h := it_f c2 h
      refine r_aload_n 0 dX6_at_10 rfl rfl rfl ?_
      refine r_iload_n 1 dX6_at_11 rfl rfl rfl ?_
      obtain ⟨hi3, h⟩ := gi h
      refine alX_15 hi3 dX6_at_12 rfl ?_
      refine r_goto (t := 17) dX6_at_13 (by decide) ?_
      exact r_iretR dX6_at_17 h
def P_X1_dropLast (σ : SS) : Option SS :=
  if (sI σ 5) ≤ 0 then
    some σ
  else
    some (uI σ 5 ((sI σ 5) - 1))
set_option maxHeartbeats 4000000 in
set_option maxRecDepth 100000 in
theorem T_X1_dropLast {X : XE} {σf : SS} {σ : SS} (h : P_X1_dropLast σ = some σf) : Mt (gX X) 0 yX1_dropLast cX1_dropLast 1 none [.ref (xq X 1)] σ none σf := by
  refine Mt.of (own := RX1) (lv := [(0, .ref (xq X 1))]) pn_X1 rfl (Nat.le_of_ble_eq_true rfl) rfl ?_
  unfold P_X1_dropLast at h
  refine r_aload_n 0 dX1_dropLast_0 rfl rfl rfl ?_
  refine gf_X1_21_1 dX1_dropLast_1 rfl ?_
  refine r_if_le (t := 17) dX1_dropLast_4 (by decide) rfl (fun c1 => ?_) (fun c1 => ?_)
  · have h := it_t c1 h
    exact r_vretS dX1_dropLast_17 h
  · have h := it_f c1 h
    refine r_aload_n 0 dX1_dropLast_7 rfl rfl rfl ?_
    refine r_dup rfl dX1_dropLast_8 rfl ?_
    refine gf_X1_21_1 dX1_dropLast_9 rfl ?_
    refine ric_1 dX1_dropLast_12 rfl ?_
    refine r_isub dX1_dropLast_13 rfl ?_
    refine pf_X1_21_1 dX1_dropLast_14 rfl ?_
    exact r_vretS dX1_dropLast_17 h
def P_X6_at_14 (a1 : Int32) (σ : SS) : Option Int32 :=
  if a1 < 0 then
    some 0
  else
    if 8 ≤ a1 then
      some 0
    else
      gI a1 8 <|
      some (ldA σ 3 a1)
set_option maxHeartbeats 4000000 in
set_option maxRecDepth 100000 in
theorem T_X6_at_14 {X : XE} {σ : SS} {r : Int32} {a1 : Int32} (h : P_X6_at_14 a1 σ = some r) : Mt (gX X) 0 yX6_at cX6_at 2 (some .int) [.ref (xq X 14), .int a1] σ (some (.int r)) σ := by
  refine Mt.of (own := RX6) (lv := [(0, .ref (xq X 14)), (1, .int a1)]) pn_X6 rfl (Nat.le_of_ble_eq_true rfl) rfl ?_
  unfold P_X6_at_14 at h
  refine r_iload_n 1 dX6_at_0 rfl rfl rfl ?_
  refine r_if_lt (t := 16) dX6_at_1 (by decide) rfl (fun c1 => ?_) (fun c1 => ?_)
  · have h := it_t c1 h
    refine ric_0 dX6_at_16 rfl ?_
    exact r_iretR dX6_at_17 h
  · have h := it_f c1 h
    refine r_iload_n 1 dX6_at_4 rfl rfl rfl ?_
    refine r_aload_n 0 dX6_at_5 rfl rfl rfl ?_
    refine anX_14 dX6_at_6 rfl ?_
    refine r_icmp_ge (t := 16) dX6_at_7 (by decide) rfl (fun c2 => ?_) (fun c2 => ?_)
    · have h := it_t c2 h
      refine ric_0 dX6_at_16 rfl ?_
      exact r_iretR dX6_at_17 h
    · have h := it_f c2 h
      refine r_aload_n 0 dX6_at_10 rfl rfl rfl ?_
      refine r_iload_n 1 dX6_at_11 rfl rfl rfl ?_
      obtain ⟨hi3, h⟩ := gi h
      refine alX_14 hi3 dX6_at_12 rfl ?_
      refine r_goto (t := 17) dX6_at_13 (by decide) ?_
      exact r_iretR dX6_at_17 h
def P_X6_at_16 (a1 : Int32) (σ : SS) : Option Int32 :=
  if a1 < 0 then
    some 0
  else
    if 8 ≤ a1 then
      some 0
    else
      gI a1 8 <|
      some (ldA σ 5 a1)
set_option maxHeartbeats 4000000 in
set_option maxRecDepth 100000 in
theorem T_X6_at_16 {X : XE} {σ : SS} {r : Int32} {a1 : Int32} (h : P_X6_at_16 a1 σ = some r) : Mt (gX X) 0 yX6_at cX6_at 2 (some .int) [.ref (xq X 16), .int a1] σ (some (.int r)) σ := by
  refine Mt.of (own := RX6) (lv := [(0, .ref (xq X 16)), (1, .int a1)]) pn_X6 rfl (Nat.le_of_ble_eq_true rfl) rfl ?_
  unfold P_X6_at_16 at h
  refine r_iload_n 1 dX6_at_0 rfl rfl rfl ?_
  refine r_if_lt (t := 16) dX6_at_1 (by decide) rfl (fun c1 => ?_) (fun c1 => ?_)
  · have h := it_t c1 h
    refine ric_0 dX6_at_16 rfl ?_
    exact r_iretR dX6_at_17 h
  · have h := it_f c1 h
    refine r_iload_n 1 dX6_at_4 rfl rfl rfl ?_
    refine r_aload_n 0 dX6_at_5 rfl rfl rfl ?_
    refine anX_16 dX6_at_6 rfl ?_
    refine r_icmp_ge (t := 16) dX6_at_7 (by decide) rfl (fun c2 => ?_) (fun c2 => ?_)
    · have h := it_t c2 h
      refine ric_0 dX6_at_16 rfl ?_
      exact r_iretR dX6_at_17 h
    · have h := it_f c2 h
      refine r_aload_n 0 dX6_at_10 rfl rfl rfl ?_
      refine r_iload_n 1 dX6_at_11 rfl rfl rfl ?_
      obtain ⟨hi3, h⟩ := gi h
      refine alX_16 hi3 dX6_at_12 rfl ?_
      refine r_goto (t := 17) dX6_at_13 (by decide) ?_
      exact r_iretR dX6_at_17 h
def P_X6_at_17 (a1 : Int32) (σ : SS) : Option Int32 :=
  if a1 < 0 then
    some 0
  else
    if 8 ≤ a1 then
      some 0
    else
      gI a1 8 <|
      some (ldA σ 6 a1)
set_option maxHeartbeats 4000000 in
set_option maxRecDepth 100000 in
theorem T_X6_at_17 {X : XE} {σ : SS} {r : Int32} {a1 : Int32} (h : P_X6_at_17 a1 σ = some r) : Mt (gX X) 0 yX6_at cX6_at 2 (some .int) [.ref (xq X 17), .int a1] σ (some (.int r)) σ := by
  refine Mt.of (own := RX6) (lv := [(0, .ref (xq X 17)), (1, .int a1)]) pn_X6 rfl (Nat.le_of_ble_eq_true rfl) rfl ?_
  unfold P_X6_at_17 at h
  refine r_iload_n 1 dX6_at_0 rfl rfl rfl ?_
  refine r_if_lt (t := 16) dX6_at_1 (by decide) rfl (fun c1 => ?_) (fun c1 => ?_)
  · have h := it_t c1 h
    refine ric_0 dX6_at_16 rfl ?_
    exact r_iretR dX6_at_17 h
  · have h := it_f c1 h
    refine r_iload_n 1 dX6_at_4 rfl rfl rfl ?_
    refine r_aload_n 0 dX6_at_5 rfl rfl rfl ?_
    refine anX_17 dX6_at_6 rfl ?_
    refine r_icmp_ge (t := 16) dX6_at_7 (by decide) rfl (fun c2 => ?_) (fun c2 => ?_)
    · have h := it_t c2 h
      refine ric_0 dX6_at_16 rfl ?_
      exact r_iretR dX6_at_17 h
    · have h := it_f c2 h
      refine r_aload_n 0 dX6_at_10 rfl rfl rfl ?_
      refine r_iload_n 1 dX6_at_11 rfl rfl rfl ?_
      obtain ⟨hi3, h⟩ := gi h
      refine alX_17 hi3 dX6_at_12 rfl ?_
      refine r_goto (t := 17) dX6_at_13 (by decide) ?_
      exact r_iretR dX6_at_17 h
def P_X2_takeBack (σ : SS) : Option SS :=
  if 0 < (sI σ 6) then
    (P_X6_at_15 (sI (uI σ 6 ((sI σ 6) - 1)) 6) (uI σ 6 ((sI σ 6) - 1))).bind fun v3 =>
    if ¬ v3 = (-1) then
      (P_X6_at_14 (sI (uI σ 6 ((sI σ 6) - 1)) 6) (uI σ 6 ((sI σ 6) - 1))).bind fun v6 =>
      (P_X6_at_16 (sI (uI σ 6 ((sI σ 6) - 1)) 6) (uI σ 6 ((sI σ 6) - 1))).bind fun v8 =>
      (P_X6_at_17 (sI (uI σ 6 ((sI σ 6) - 1)) 6) (uI σ 6 ((sI σ 6) - 1))).bind fun v10 =>
      (P_X1_change v6 v3 v8 v10 (uI σ 6 ((sI σ 6) - 1))).bind fun σ12 =>
      some σ12
    else
      (P_X1_dropLast (uI σ 6 ((sI σ 6) - 1))).bind fun σ14 =>
      some σ14
  else
    some σ
set_option maxHeartbeats 4000000 in
set_option maxRecDepth 100000 in
theorem T_X2_takeBack {X : XE} {σf : SS} {σ : SS} (h : P_X2_takeBack σ = some σf) : Mt (gX X) 2 yX2_takeBack cX2_takeBack 2 none [.ref (xq X 2)] σ none σf := by
  refine Mt.of (own := RX2) (lv := [(0, .ref (xq X 2))]) pn_X2 rfl (Nat.le_of_ble_eq_true rfl) rfl ?_
  unfold P_X2_takeBack at h
  refine r_aload_n 0 dX2_takeBack_0 rfl rfl rfl ?_
  refine gf_X2_28_2 dX2_takeBack_1 rfl ?_
  refine r_if_gt (t := 8) dX2_takeBack_4 (by decide) rfl (fun c1 => ?_) (fun c1 => ?_)
  · have h := it_t c1 h
    refine r_aload_n 0 dX2_takeBack_8 rfl rfl rfl ?_
    refine r_dup rfl dX2_takeBack_9 rfl ?_
    refine gf_X2_28_2 dX2_takeBack_10 rfl ?_
    refine ric_1 dX2_takeBack_13 rfl ?_
    refine r_isub dX2_takeBack_14 rfl ?_
    refine pf_X2_28_2 dX2_takeBack_15 rfl ?_
    refine r_aload_n 0 dX2_takeBack_18 rfl rfl rfl ?_
    refine gf_X2_15_2 dX2_takeBack_19 rfl ?_
    refine r_aload_n 0 dX2_takeBack_22 rfl rfl rfl ?_
    refine gf_X2_28_2 dX2_takeBack_23 rfl ?_
    obtain ⟨v3, e2, h⟩ := bd h
    refine r_callS (As := [.ref (xq X 15), .int (sI (uI σ 6 ((sI σ 6) - 1)) 6)]) (rest := []) (T_X6_at_15 e2) (by decide) mf_X6_at rfl tw_446 tw_445 rfl (Nat.le_of_ble_eq_true rfl) dX2_takeBack_26 rfl ?_
    refine r_call0 ?_
    refine r_istore_n (lv' := [(1, .int v3), (0, .ref (xq X 2))]) dX2_takeBack_29 rfl (by decide) rfl rfl ?_
    refine r_iload_n 0 dX2_takeBack_30 rfl rfl rfl ?_
    refine ric_m1 dX2_takeBack_31 rfl ?_
    refine r_icmp_ne (t := 45) dX2_takeBack_32 (by decide) rfl (fun c4 => ?_) (fun c4 => ?_)
    · have h := it_t c4 h
      refine r_aload_n 1 dX2_takeBack_45 rfl rfl rfl ?_
      refine gf_X2_24_2 dX2_takeBack_46 rfl ?_
      refine r_aload_n 1 dX2_takeBack_49 rfl rfl rfl ?_
      refine gf_X2_9_2 dX2_takeBack_50 rfl ?_
      refine r_aload_n 1 dX2_takeBack_53 rfl rfl rfl ?_
      refine gf_X2_28_2 dX2_takeBack_54 rfl ?_
      obtain ⟨v6, e5, h⟩ := bd h
      refine r_callS (As := [.ref (xq X 14), .int (sI (uI σ 6 ((sI σ 6) - 1)) 6)]) (rest := [.ref (xq X 1)]) (T_X6_at_14 e5) (by decide) mf_X6_at rfl tw_446 tw_445 rfl (Nat.le_of_ble_eq_true rfl) dX2_takeBack_57 rfl ?_
      refine r_call0 ?_
      refine r_iload_n 0 dX2_takeBack_60 rfl rfl rfl ?_
      refine r_aload_n 1 dX2_takeBack_61 rfl rfl rfl ?_
      refine gf_X2_18_2 dX2_takeBack_62 rfl ?_
      refine r_aload_n 1 dX2_takeBack_65 rfl rfl rfl ?_
      refine gf_X2_28_2 dX2_takeBack_66 rfl ?_
      obtain ⟨v8, e7, h⟩ := bd h
      refine r_callS (As := [.ref (xq X 16), .int (sI (uI σ 6 ((sI σ 6) - 1)) 6)]) (rest := [.int v3, .int v6, .ref (xq X 1)]) (T_X6_at_16 e7) (by decide) mf_X6_at rfl tw_446 tw_445 rfl (Nat.le_of_ble_eq_true rfl) dX2_takeBack_69 rfl ?_
      refine r_call0 ?_
      refine r_aload_n 1 dX2_takeBack_72 rfl rfl rfl ?_
      refine gf_X2_21_2 dX2_takeBack_73 rfl ?_
      refine r_aload_n 1 dX2_takeBack_76 rfl rfl rfl ?_
      refine gf_X2_28_2 dX2_takeBack_77 rfl ?_
      obtain ⟨v10, e9, h⟩ := bd h
      refine r_callS (As := [.ref (xq X 17), .int (sI (uI σ 6 ((sI σ 6) - 1)) 6)]) (rest := [.int v8, .int v3, .int v6, .ref (xq X 1)]) (T_X6_at_17 e9) (by decide) mf_X6_at rfl tw_446 tw_445 rfl (Nat.le_of_ble_eq_true rfl) dX2_takeBack_80 rfl ?_
      refine r_call0 ?_
      obtain ⟨σ12, e11, h⟩ := bd h
      refine r_callV (rest := []) (T_X1_change e11) (by decide) mf_X1_change rfl tw_407 tw_408 tw_452 cX_1 rfl rfl rfl (Nat.le_of_ble_eq_true rfl) dX2_takeBack_83 rfl ?_
      refine r_calln ?_
      exact r_vretS dX2_takeBack_86 h
    · have h := it_n c4 h
      refine r_aload_n 1 dX2_takeBack_35 rfl rfl rfl ?_
      refine gf_X2_24_2 dX2_takeBack_36 rfl ?_
      obtain ⟨σ14, e13, h⟩ := bd h
      refine r_callV (rest := []) (T_X1_dropLast e13) (by decide) mf_X1_dropLast rfl tw_449 tw_450 tw_448 cX_1 rfl rfl rfl (Nat.le_of_ble_eq_true rfl) dX2_takeBack_39 rfl ?_
      refine r_calln ?_
      refine r_goto (t := 86) dX2_takeBack_42 (by decide) ?_
      exact r_vretS dX2_takeBack_86 h
  · have h := it_f c1 h
    exact r_vretS dX2_takeBack_7 h
def P_X10_undo (σ : SS) : Option (Int64 × SS) :=
  (P_X2_size σ).bind fun v2 =>
  if ¬ v2 = 0 then
    (P_X2_takeBack σ).bind fun σ5 =>
    (P_X2_size (uI σ5 0 0)).bind fun v7 =>
    some (v7.toInt64, (uI σ5 0 0))
  else
    some ((-2000000002), σ)
set_option maxHeartbeats 4000000 in
set_option maxRecDepth 100000 in
theorem T_X10_undo {X : XE} {σf : SS} {r : Int64} {σ : SS} (h : P_X10_undo σ = some (r, σf)) : Mt (gX X) 3 yX10_undo cX10_undo 1 (some .long) [.ref (xq X 0)] σ (some (.long r)) σf := by
  refine Mt.of (own := RX10) (lv := [(0, .ref (xq X 0))]) pn_X10 rfl (Nat.le_of_ble_eq_true rfl) rfl ?_
  unfold P_X10_undo at h
  refine r_aload_n 0 dX10_undo_0 rfl rfl rfl ?_
  refine gf_X10_21_0 dX10_undo_1 rfl ?_
  obtain ⟨v2, e1, h⟩ := bd h
  refine r_callV (rest := []) (T_X2_size e1) (by decide) mf_X2_size rfl tw_437 tw_438 tw_436 cX_2 rfl rfl rfl (Nat.le_of_ble_eq_true rfl) dX10_undo_4 rfl ?_
  refine r_call0 ?_
  refine r_if_ne (t := 14) dX10_undo_7 (by decide) rfl (fun c3 => ?_) (fun c3 => ?_)
  · have h := it_t c3 h
    refine r_aload_n 0 dX10_undo_14 rfl rfl rfl ?_
    refine gf_X10_21_0 dX10_undo_15 rfl ?_
    obtain ⟨σ5, e4, h⟩ := bd h
    refine r_callV (rest := []) (T_X2_takeBack e4) (by decide) mf_X2_takeBack rfl tw_442 tw_443 tw_441 cX_2 rfl rfl rfl (Nat.le_of_ble_eq_true rfl) dX10_undo_18 rfl ?_
    refine r_calln ?_
    refine r_aload_n 0 dX10_undo_21 rfl rfl rfl ?_
    refine ric_0 dX10_undo_22 rfl ?_
    refine pf_X10_98_0 (Or.inl rfl) dX10_undo_23 rfl ?_
    refine r_aload_n 0 dX10_undo_26 rfl rfl rfl ?_
    refine gf_X10_21_0 dX10_undo_27 rfl ?_
    obtain ⟨v7, e6, h⟩ := bd h
    refine r_callV (rest := []) (T_X2_size e6) (by decide) mf_X2_size rfl tw_437 tw_438 tw_436 cX_2 rfl rfl rfl (Nat.le_of_ble_eq_true rfl) dX10_undo_30 rfl ?_
    refine r_call0 ?_
    refine r_i2l dX10_undo_33 rfl ?_
    exact r_lretQ dX10_undo_34 h
  · have h := it_n c3 h
    refine r_ldc2 (v := (-2000000002)) tw_440 dX10_undo_10 rfl ?_
    exact r_lretQ dX10_undo_13 h
def P_X10_about (a1 : Int32) (a2 : Int32) (σ : SS) : Option Int64 :=
  (P_X1_has a1 σ).bind fun v2 =>
  if ¬ v2 = 0 then
    if a2 = 0 then
      (P_X1_kind a1 σ).bind fun v6 =>
      some v6.toInt64
    else
      if a2 = 1 then
        (P_X1_a a1 σ).bind fun v9 =>
        some v9.toInt64
      else
        if a2 = 2 then
          (P_X1_b a1 σ).bind fun v12 =>
          some v12.toInt64
        else
          some (-2000000001)
  else
    some (-2000000001)
set_option maxHeartbeats 4000000 in
set_option maxRecDepth 100000 in
theorem T_X10_about {X : XE} {σ : SS} {r : Int64} {a1 : Int32} {a2 : Int32} (h : P_X10_about a1 a2 σ = some r) : Mt (gX X) 1 yX10_about cX10_about 3 (some .long) [.ref (xq X 0), .int a1, .int a2] σ (some (.long r)) σ := by
  refine Mt.of (own := RX10) (lv := [(0, .ref (xq X 0)), (1, .int a1), (2, .int a2)]) pn_X10 rfl (Nat.le_of_ble_eq_true rfl) rfl ?_
  unfold P_X10_about at h
  refine r_aload_n 0 dX10_about_0 rfl rfl rfl ?_
  refine gf_X10_12_0 dX10_about_1 rfl ?_
  refine r_iload_n 1 dX10_about_4 rfl rfl rfl ?_
  obtain ⟨v2, e1, h⟩ := bd h
  refine r_callV (rest := []) (T_X1_has e1) (by decide) mf_X1_has rfl tw_416 tw_417 tw_415 cX_1 rfl rfl rfl (Nat.le_of_ble_eq_true rfl) dX10_about_5 rfl ?_
  refine r_call0 ?_
  refine r_if_ne (t := 15) dX10_about_8 (by decide) rfl (fun c3 => ?_) (fun c3 => ?_)
  · have h := it_t c3 h
    refine r_iload_n 2 dX10_about_15 rfl rfl rfl ?_
    by_cases c4 : a2 = 0
    · have h := it_t c4 h
      refine r_tableIn (t := 44) dX10_about_16 (by rw [c4]; decide) (by rw [c4]; decide) (by rw [c4]; rfl) (by decide) ?_
      refine r_aload_n 0 dX10_about_44 rfl rfl rfl ?_
      refine gf_X10_12_0 dX10_about_45 rfl ?_
      refine r_iload_n 1 dX10_about_48 rfl rfl rfl ?_
      obtain ⟨v6, e5, h⟩ := bd h
      refine r_callV (rest := []) (T_X1_kind e5) (by decide) mf_X1_kind rfl tw_420 tw_421 tw_419 cX_1 rfl rfl rfl (Nat.le_of_ble_eq_true rfl) dX10_about_49 rfl ?_
      refine r_call0 ?_
      refine r_i2l dX10_about_52 rfl ?_
      exact r_lretR dX10_about_53 h
    · have h := it_f c4 h
      by_cases c7 : a2 = 1
      · have h := it_t c7 h
        refine r_tableIn (t := 54) dX10_about_16 (by rw [c7]; decide) (by rw [c7]; decide) (by rw [c7]; rfl) (by decide) ?_
        refine r_aload_n 0 dX10_about_54 rfl rfl rfl ?_
        refine gf_X10_12_0 dX10_about_55 rfl ?_
        refine r_iload_n 1 dX10_about_58 rfl rfl rfl ?_
        obtain ⟨v9, e8, h⟩ := bd h
        refine r_callV (rest := []) (T_X1_a e8) (by decide) mf_X1_a rfl tw_424 tw_425 tw_423 cX_1 rfl rfl rfl (Nat.le_of_ble_eq_true rfl) dX10_about_59 rfl ?_
        refine r_call0 ?_
        refine r_i2l dX10_about_62 rfl ?_
        exact r_lretR dX10_about_63 h
      · have h := it_f c7 h
        by_cases c10 : a2 = 2
        · have h := it_t c10 h
          refine r_tableIn (t := 64) dX10_about_16 (by rw [c10]; decide) (by rw [c10]; decide) (by rw [c10]; rfl) (by decide) ?_
          refine r_aload_n 0 dX10_about_64 rfl rfl rfl ?_
          refine gf_X10_12_0 dX10_about_65 rfl ?_
          refine r_iload_n 1 dX10_about_68 rfl rfl rfl ?_
          obtain ⟨v12, e11, h⟩ := bd h
          refine r_callV (rest := []) (T_X1_b e11) (by decide) mf_X1_b rfl tw_428 tw_429 tw_427 cX_1 rfl rfl rfl (Nat.le_of_ble_eq_true rfl) dX10_about_69 rfl ?_
          refine r_call0 ?_
          refine r_i2l dX10_about_72 rfl ?_
          exact r_lretR dX10_about_73 h
        · have h := it_f c10 h
          refine r_tableOut (t := 74) dX10_about_16 (by have z0 := neL c4 (z := 0) rfl; have z1 := neL c7 (z := 1) rfl; have z2 := neL c10 (z := 2) rfl; omega) (by decide) ?_
          refine r_ldc2 (v := (-2000000001)) tw_385 dX10_about_74 rfl ?_
          exact r_lretR dX10_about_77 h
  · have h := it_n c3 h
    refine r_ldc2 (v := (-2000000001)) tw_385 dX10_about_11 rfl ?_
    exact r_lretR dX10_about_14 h
def P_X3_lacksPart_j48 (σ : SS) (x1 : Int32) : Option Int32 :=
  (P_X1_a x1 σ).bind fun v2 =>
  (P_X1_has v2 σ).bind fun v4 =>
  if v4 = 0 then
    some 1
  else
    (P_X1_b x1 σ).bind fun v7 =>
    (P_X1_has v7 σ).bind fun v9 =>
    if ¬ v9 = 0 then
      some 0
    else
      some 1
set_option maxHeartbeats 4000000 in
set_option maxRecDepth 100000 in
theorem T_X3_lacksPart_j48 {X : XE} {σ : SS} {r : Int32} : ∀ (x1 : Int32), P_X3_lacksPart_j48 σ x1 = some r → V (gX X) 1 RX3 cX3_lacksPart 2 (some .boolean) (some (.int r)) σ 48 [(0, .ref (xq X 3)), (1, .int x1)] [] σ := by
  intro x1 h
  unfold P_X3_lacksPart_j48 at h
  refine r_aload_n 0 dX3_lacksPart_48 rfl rfl rfl ?_
  refine gf_X3_15_3 dX3_lacksPart_49 rfl ?_
  refine r_aload_n 0 dX3_lacksPart_52 rfl rfl rfl ?_
  refine gf_X3_15_3 dX3_lacksPart_53 rfl ?_
  refine r_iload_n 1 dX3_lacksPart_56 rfl rfl rfl ?_
  obtain ⟨v2, e1, h⟩ := bd h
  refine r_callV (rest := [.ref (xq X 1)]) (T_X1_a e1) (by decide) mf_X1_a rfl tw_424 tw_425 tw_471 cX_1 rfl rfl rfl (Nat.le_of_ble_eq_true rfl) dX3_lacksPart_57 rfl ?_
  refine r_call0 ?_
  obtain ⟨v4, e3, h⟩ := bd h
  refine r_callV (rest := []) (T_X1_has e3) (by decide) mf_X1_has rfl tw_416 tw_417 tw_472 cX_1 rfl rfl rfl (Nat.le_of_ble_eq_true rfl) dX3_lacksPart_60 rfl ?_
  refine r_call0 ?_
  refine r_if_eq (t := 84) dX3_lacksPart_63 (by decide) rfl (fun c5 => ?_) (fun c5 => ?_)
  · have h := it_t c5 h
    refine ric_1 dX3_lacksPart_84 rfl ?_
    refine r_goto (t := 89) dX3_lacksPart_85 (by decide) ?_
    exact r_zretR (Or.inr rfl) dX3_lacksPart_89 h
  · have h := it_f c5 h
    refine r_aload_n 0 dX3_lacksPart_66 rfl rfl rfl ?_
    refine gf_X3_15_3 dX3_lacksPart_67 rfl ?_
    refine r_aload_n 0 dX3_lacksPart_70 rfl rfl rfl ?_
    refine gf_X3_15_3 dX3_lacksPart_71 rfl ?_
    refine r_iload_n 1 dX3_lacksPart_74 rfl rfl rfl ?_
    obtain ⟨v7, e6, h⟩ := bd h
    refine r_callV (rest := [.ref (xq X 1)]) (T_X1_b e6) (by decide) mf_X1_b rfl tw_428 tw_429 tw_473 cX_1 rfl rfl rfl (Nat.le_of_ble_eq_true rfl) dX3_lacksPart_75 rfl ?_
    refine r_call0 ?_
    obtain ⟨v9, e8, h⟩ := bd h
    refine r_callV (rest := []) (T_X1_has e8) (by decide) mf_X1_has rfl tw_416 tw_417 tw_472 cX_1 rfl rfl rfl (Nat.le_of_ble_eq_true rfl) dX3_lacksPart_78 rfl ?_
    refine r_call0 ?_
    refine r_if_ne (t := 88) dX3_lacksPart_81 (by decide) rfl (fun c10 => ?_) (fun c10 => ?_)
    · have h := it_t c10 h
      refine ric_0 dX3_lacksPart_88 rfl ?_
      exact r_zretR (Or.inl rfl) dX3_lacksPart_89 h
    · have h := it_n c10 h
      refine ric_1 dX3_lacksPart_84 rfl ?_
      refine r_goto (t := 89) dX3_lacksPart_85 (by decide) ?_
      exact r_zretR (Or.inr rfl) dX3_lacksPart_89 h
def P_X3_lacksPart_j90 (σ : SS) (x1 : Int32) : Option Int32 :=
  (P_X1_a x1 σ).bind fun v2 =>
  (P_X1_has v2 σ).bind fun v4 =>
  if ¬ v4 = 0 then
    some 0
  else
    some 1
set_option maxHeartbeats 4000000 in
set_option maxRecDepth 100000 in
theorem T_X3_lacksPart_j90 {X : XE} {σ : SS} {r : Int32} : ∀ (x1 : Int32), P_X3_lacksPart_j90 σ x1 = some r → V (gX X) 1 RX3 cX3_lacksPart 2 (some .boolean) (some (.int r)) σ 90 [(0, .ref (xq X 3)), (1, .int x1)] [] σ := by
  intro x1 h
  unfold P_X3_lacksPart_j90 at h
  refine r_aload_n 0 dX3_lacksPart_90 rfl rfl rfl ?_
  refine gf_X3_15_3 dX3_lacksPart_91 rfl ?_
  refine r_aload_n 0 dX3_lacksPart_94 rfl rfl rfl ?_
  refine gf_X3_15_3 dX3_lacksPart_95 rfl ?_
  refine r_iload_n 1 dX3_lacksPart_98 rfl rfl rfl ?_
  obtain ⟨v2, e1, h⟩ := bd h
  refine r_callV (rest := [.ref (xq X 1)]) (T_X1_a e1) (by decide) mf_X1_a rfl tw_424 tw_425 tw_471 cX_1 rfl rfl rfl (Nat.le_of_ble_eq_true rfl) dX3_lacksPart_99 rfl ?_
  refine r_call0 ?_
  obtain ⟨v4, e3, h⟩ := bd h
  refine r_callV (rest := []) (T_X1_has e3) (by decide) mf_X1_has rfl tw_416 tw_417 tw_472 cX_1 rfl rfl rfl (Nat.le_of_ble_eq_true rfl) dX3_lacksPart_102 rfl ?_
  refine r_call0 ?_
  refine r_if_ne (t := 112) dX3_lacksPart_105 (by decide) rfl (fun c5 => ?_) (fun c5 => ?_)
  · have h := it_t c5 h
    refine ric_0 dX3_lacksPart_112 rfl ?_
    exact r_zretR (Or.inl rfl) dX3_lacksPart_113 h
  · have h := it_n c5 h
    refine ric_1 dX3_lacksPart_108 rfl ?_
    refine r_goto (t := 113) dX3_lacksPart_109 (by decide) ?_
    exact r_zretR (Or.inr rfl) dX3_lacksPart_113 h
def P_X3_lacksPart (a1 : Int32) (σ : SS) : Option Int32 :=
  (P_X1_kind a1 σ).bind fun v2 =>
  if v2 = 2 then
    P_X3_lacksPart_j48 σ a1
  else
    if v2 = 3 then
      P_X3_lacksPart_j48 σ a1
    else
      if v2 = 4 then
        P_X3_lacksPart_j90 σ a1
      else
        if v2 = 5 then
          P_X3_lacksPart_j90 σ a1
        else
          if v2 = 6 then
            P_X3_lacksPart_j90 σ a1
          else
            if v2 = 7 then
              P_X3_lacksPart_j90 σ a1
            else
              some 0
set_option maxHeartbeats 4000000 in
set_option maxRecDepth 100000 in
theorem T_X3_lacksPart {X : XE} {σ : SS} {r : Int32} {a1 : Int32} (h : P_X3_lacksPart a1 σ = some r) : Mt (gX X) 1 yX3_lacksPart cX3_lacksPart 2 (some .boolean) [.ref (xq X 3), .int a1] σ (some (.int r)) σ := by
  refine Mt.of (own := RX3) (lv := [(0, .ref (xq X 3)), (1, .int a1)]) pn_X3 rfl (Nat.le_of_ble_eq_true rfl) rfl ?_
  unfold P_X3_lacksPart at h
  refine r_aload_n 0 dX3_lacksPart_0 rfl rfl rfl ?_
  refine gf_X3_15_3 dX3_lacksPart_1 rfl ?_
  refine r_iload_n 1 dX3_lacksPart_4 rfl rfl rfl ?_
  obtain ⟨v2, e1, h⟩ := bd h
  refine r_callV (rest := []) (T_X1_kind e1) (by decide) mf_X1_kind rfl tw_420 tw_421 tw_470 cX_1 rfl rfl rfl (Nat.le_of_ble_eq_true rfl) dX3_lacksPart_5 rfl ?_
  refine r_call0 ?_
  by_cases c3 : v2 = 2
  · have h := it_t c3 h
    refine r_tableIn (t := 48) dX3_lacksPart_8 (by rw [c3]; decide) (by rw [c3]; decide) (by rw [c3]; rfl) (by decide) ?_
    exact T_X3_lacksPart_j48 a1 h
  · have h := it_f c3 h
    by_cases c4 : v2 = 3
    · have h := it_t c4 h
      refine r_tableIn (t := 48) dX3_lacksPart_8 (by rw [c4]; decide) (by rw [c4]; decide) (by rw [c4]; rfl) (by decide) ?_
      exact T_X3_lacksPart_j48 a1 h
    · have h := it_f c4 h
      by_cases c5 : v2 = 4
      · have h := it_t c5 h
        refine r_tableIn (t := 90) dX3_lacksPart_8 (by rw [c5]; decide) (by rw [c5]; decide) (by rw [c5]; rfl) (by decide) ?_
        exact T_X3_lacksPart_j90 a1 h
      · have h := it_f c5 h
        by_cases c6 : v2 = 5
        · have h := it_t c6 h
          refine r_tableIn (t := 90) dX3_lacksPart_8 (by rw [c6]; decide) (by rw [c6]; decide) (by rw [c6]; rfl) (by decide) ?_
          exact T_X3_lacksPart_j90 a1 h
        · have h := it_f c6 h
          by_cases c7 : v2 = 6
          · have h := it_t c7 h
            refine r_tableIn (t := 90) dX3_lacksPart_8 (by rw [c7]; decide) (by rw [c7]; decide) (by rw [c7]; rfl) (by decide) ?_
            exact T_X3_lacksPart_j90 a1 h
          · have h := it_f c7 h
            by_cases c8 : v2 = 7
            · have h := it_t c8 h
              refine r_tableIn (t := 90) dX3_lacksPart_8 (by rw [c8]; decide) (by rw [c8]; decide) (by rw [c8]; rfl) (by decide) ?_
              exact T_X3_lacksPart_j90 a1 h
            · have h := it_f c8 h
              refine r_tableOut (t := 114) dX3_lacksPart_8 (by have z0 := neL c3 (z := 2) rfl; have z1 := neL c4 (z := 3) rfl; have z2 := neL c5 (z := 4) rfl; have z3 := neL c6 (z := 5) rfl; have z4 := neL c7 (z := 6) rfl; have z5 := neL c8 (z := 7) rfl; omega) (by decide) ?_
              refine ric_0 dX3_lacksPart_114 rfl ?_
              exact r_zretR (Or.inl rfl) dX3_lacksPart_115 h
def P_X3_isIn (a0 : Int32) (a1 : Int32) : Option Int32 :=
  if a1 < 0 then
    some 0
  else
    if 16 ≤ a1 then
      some 0
    else
      if ((a0 >>> (a1 &&& 31)) &&& 1) = 0 then
        some 0
      else
        some 1
set_option maxHeartbeats 4000000 in
set_option maxRecDepth 100000 in
theorem T_X3_isIn {X : XE} {σ : SS} {r : Int32} {a0 : Int32} {a1 : Int32} (h : P_X3_isIn a0 a1 = some r) : Mt (gX X) 0 yX3_isIn cX3_isIn 2 (some .boolean) [.int a0, .int a1] σ (some (.int r)) σ := by
  refine Mt.of (own := RX3) (lv := [(0, .int a0), (1, .int a1)]) pn_X3 rfl (Nat.le_of_ble_eq_true rfl) rfl ?_
  unfold P_X3_isIn at h
  refine r_iload_n 1 dX3_isIn_0 rfl rfl rfl ?_
  refine r_if_lt (t := 22) dX3_isIn_1 (by decide) rfl (fun c1 => ?_) (fun c1 => ?_)
  · have h := it_t c1 h
    refine ric_0 dX3_isIn_22 rfl ?_
    exact r_zretR (Or.inl rfl) dX3_isIn_23 h
  · have h := it_f c1 h
    refine r_iload_n 1 dX3_isIn_4 rfl rfl rfl ?_
    refine r_bipush (v := 16) dX3_isIn_5 (by decide) rfl ?_
    refine r_icmp_ge (t := 22) dX3_isIn_7 (by decide) rfl (fun c2 => ?_) (fun c2 => ?_)
    · have h := it_t c2 h
      refine ric_0 dX3_isIn_22 rfl ?_
      exact r_zretR (Or.inl rfl) dX3_isIn_23 h
    · have h := it_f c2 h
      refine r_iload_n 0 dX3_isIn_10 rfl rfl rfl ?_
      refine r_iload_n 1 dX3_isIn_11 rfl rfl rfl ?_
      refine r_ishr dX3_isIn_12 rfl ?_
      refine ric_1 dX3_isIn_13 rfl ?_
      refine r_iand dX3_isIn_14 rfl ?_
      refine r_if_eq (t := 22) dX3_isIn_15 (by decide) rfl (fun c3 => ?_) (fun c3 => ?_)
      · have h := it_t c3 h
        refine ric_0 dX3_isIn_22 rfl ?_
        exact r_zretR (Or.inl rfl) dX3_isIn_23 h
      · have h := it_f c3 h
        refine ric_1 dX3_isIn_18 rfl ?_
        refine r_goto (t := 23) dX3_isIn_19 (by decide) ?_
        exact r_zretR (Or.inr rfl) dX3_isIn_23 h
def P_X1_low (a1 : Int32) (σ : SS) : Option Int32 :=
  (P_X1_b a1 σ).bind fun v2 =>
  some (v2 >>> ((5 : Int32) &&& 31))
set_option maxHeartbeats 4000000 in
set_option maxRecDepth 100000 in
theorem T_X1_low {X : XE} {σ : SS} {r : Int32} {a1 : Int32} (h : P_X1_low a1 σ = some r) : Mt (gX X) 1 yX1_low cX1_low 2 (some .int) [.ref (xq X 1), .int a1] σ (some (.int r)) σ := by
  refine Mt.of (own := RX1) (lv := [(0, .ref (xq X 1)), (1, .int a1)]) pn_X1 rfl (Nat.le_of_ble_eq_true rfl) rfl ?_
  unfold P_X1_low at h
  refine r_aload_n 0 dX1_low_0 rfl rfl rfl ?_
  refine r_iload_n 1 dX1_low_1 rfl rfl rfl ?_
  obtain ⟨v2, e1, h⟩ := bd h
  refine r_callV (rest := []) (T_X1_b e1) (by decide) mf_X1_b rfl tw_428 tw_429 tw_489 cX_1 rfl rfl rfl (Nat.le_of_ble_eq_true rfl) dX1_low_2 rfl ?_
  refine r_call0 ?_
  refine ric_5 dX1_low_5 rfl ?_
  refine r_ishr dX1_low_6 rfl ?_
  exact r_iretR dX1_low_7 h
def P_X3_canBeEmpty (a1 : Int32) (σ : SS) : Option Int32 :=
  (P_X1_a a1 σ).bind fun v2 =>
  (P_X3_isIn (sI σ 7) v2).bind fun v4 =>
  (P_X1_b a1 σ).bind fun v6 =>
  (P_X3_isIn (sI σ 7) v6).bind fun v8 =>
  (P_X1_kind a1 σ).bind fun v10 =>
  if v10 = 1 then
    some 1
  else
    if v10 = 2 then
      if v4 = 0 then
        some 0
      else
        if v8 = 0 then
          some 0
        else
          some 1
    else
      if v10 = 3 then
        if ¬ v4 = 0 then
          some 1
        else
          if v8 = 0 then
            some 0
          else
            some 1
      else
        if v10 = 4 then
          some 1
        else
          if v10 = 5 then
            some 1
          else
            if v10 = 6 then
              some 1
            else
              if v10 = 7 then
                (P_X1_low a1 σ).bind fun v23 =>
                if ¬ v23 = 0 then
                  some 0
                else
                  if v4 = 0 then
                    some 0
                  else
                    some 1
              else
                some 0
set_option maxHeartbeats 4000000 in
set_option maxRecDepth 100000 in
theorem T_X3_canBeEmpty {X : XE} {σ : SS} {r : Int32} {a1 : Int32} (h : P_X3_canBeEmpty a1 σ = some r) : Mt (gX X) 2 yX3_canBeEmpty cX3_canBeEmpty 4 (some .boolean) [.ref (xq X 3), .int a1] σ (some (.int r)) σ := by
  refine Mt.of (own := RX3) (lv := [(0, .ref (xq X 3)), (1, .int a1)]) pn_X3 rfl (Nat.le_of_ble_eq_true rfl) rfl ?_
  unfold P_X3_canBeEmpty at h
  refine r_aload_n 0 dX3_canBeEmpty_0 rfl rfl rfl ?_
  refine gf_X3_66_3 dX3_canBeEmpty_1 rfl ?_
  refine r_aload_n 0 dX3_canBeEmpty_4 rfl rfl rfl ?_
  refine gf_X3_15_3 dX3_canBeEmpty_5 rfl ?_
  refine r_iload_n 1 dX3_canBeEmpty_8 rfl rfl rfl ?_
  obtain ⟨v2, e1, h⟩ := bd h
  refine r_callV (rest := [.int (sI σ 7)]) (T_X1_a e1) (by decide) mf_X1_a rfl tw_424 tw_425 tw_471 cX_1 rfl rfl rfl (Nat.le_of_ble_eq_true rfl) dX3_canBeEmpty_9 rfl ?_
  refine r_call0 ?_
  obtain ⟨v4, e3, h⟩ := bd h
  refine r_callS (As := [.int (sI σ 7), .int v2]) (rest := []) (T_X3_isIn e3) (by decide) mf_X3_isIn rfl tw_483 tw_482 rfl (Nat.le_of_ble_eq_true rfl) dX3_canBeEmpty_12 rfl ?_
  refine r_call0 ?_
  refine r_istore_n (lv' := [(2, .int v4), (0, .ref (xq X 3)), (1, .int a1)]) dX3_canBeEmpty_15 rfl (by decide) rfl rfl ?_
  refine r_aload_n 1 dX3_canBeEmpty_16 rfl rfl rfl ?_
  refine gf_X3_66_3 dX3_canBeEmpty_17 rfl ?_
  refine r_aload_n 1 dX3_canBeEmpty_20 rfl rfl rfl ?_
  refine gf_X3_15_3 dX3_canBeEmpty_21 rfl ?_
  refine r_iload_n 2 dX3_canBeEmpty_24 rfl rfl rfl ?_
  obtain ⟨v6, e5, h⟩ := bd h
  refine r_callV (rest := [.int (sI σ 7)]) (T_X1_b e5) (by decide) mf_X1_b rfl tw_428 tw_429 tw_473 cX_1 rfl rfl rfl (Nat.le_of_ble_eq_true rfl) dX3_canBeEmpty_25 rfl ?_
  refine r_call0 ?_
  obtain ⟨v8, e7, h⟩ := bd h
  refine r_callS (As := [.int (sI σ 7), .int v6]) (rest := []) (T_X3_isIn e7) (by decide) mf_X3_isIn rfl tw_483 tw_482 rfl (Nat.le_of_ble_eq_true rfl) dX3_canBeEmpty_28 rfl ?_
  refine r_call0 ?_
  refine r_istore_n (lv' := [(3, .int v8), (2, .int v4), (0, .ref (xq X 3)), (1, .int a1)]) dX3_canBeEmpty_31 rfl (by decide) rfl rfl ?_
  refine r_aload_n 2 dX3_canBeEmpty_32 rfl rfl rfl ?_
  refine gf_X3_15_3 dX3_canBeEmpty_33 rfl ?_
  refine r_iload_n 3 dX3_canBeEmpty_36 rfl rfl rfl ?_
  obtain ⟨v10, e9, h⟩ := bd h
  refine r_callV (rest := []) (T_X1_kind e9) (by decide) mf_X1_kind rfl tw_420 tw_421 tw_470 cX_1 rfl rfl rfl (Nat.le_of_ble_eq_true rfl) dX3_canBeEmpty_37 rfl ?_
  refine r_call0 ?_
  by_cases c11 : v10 = 1
  · have h := it_t c11 h
    refine r_tableIn (t := 84) dX3_canBeEmpty_40 (by rw [c11]; decide) (by rw [c11]; decide) (by rw [c11]; rfl) (by decide) ?_
    refine ric_1 dX3_canBeEmpty_84 rfl ?_
    exact r_zretR (Or.inr rfl) dX3_canBeEmpty_85 h
  · have h := it_f c11 h
    by_cases c12 : v10 = 2
    · have h := it_t c12 h
      refine r_tableIn (t := 86) dX3_canBeEmpty_40 (by rw [c12]; decide) (by rw [c12]; decide) (by rw [c12]; rfl) (by decide) ?_
      refine r_iload_n 1 dX3_canBeEmpty_86 rfl rfl rfl ?_
      refine r_if_eq (t := 98) dX3_canBeEmpty_87 (by decide) rfl (fun c13 => ?_) (fun c13 => ?_)
      · have h := it_t c13 h
        refine ric_0 dX3_canBeEmpty_98 rfl ?_
        exact r_zretR (Or.inl rfl) dX3_canBeEmpty_99 h
      · have h := it_f c13 h
        refine r_iload_n 0 dX3_canBeEmpty_90 rfl rfl rfl ?_
        refine r_if_eq (t := 98) dX3_canBeEmpty_91 (by decide) rfl (fun c14 => ?_) (fun c14 => ?_)
        · have h := it_t c14 h
          refine ric_0 dX3_canBeEmpty_98 rfl ?_
          exact r_zretR (Or.inl rfl) dX3_canBeEmpty_99 h
        · have h := it_f c14 h
          refine ric_1 dX3_canBeEmpty_94 rfl ?_
          refine r_goto (t := 99) dX3_canBeEmpty_95 (by decide) ?_
          exact r_zretR (Or.inr rfl) dX3_canBeEmpty_99 h
    · have h := it_f c12 h
      by_cases c15 : v10 = 3
      · have h := it_t c15 h
        refine r_tableIn (t := 100) dX3_canBeEmpty_40 (by rw [c15]; decide) (by rw [c15]; decide) (by rw [c15]; rfl) (by decide) ?_
        refine r_iload_n 1 dX3_canBeEmpty_100 rfl rfl rfl ?_
        refine r_if_ne (t := 108) dX3_canBeEmpty_101 (by decide) rfl (fun c16 => ?_) (fun c16 => ?_)
        · have h := it_t c16 h
          refine ric_1 dX3_canBeEmpty_108 rfl ?_
          refine r_goto (t := 113) dX3_canBeEmpty_109 (by decide) ?_
          exact r_zretR (Or.inr rfl) dX3_canBeEmpty_113 h
        · have h := it_n c16 h
          refine r_iload_n 0 dX3_canBeEmpty_104 rfl rfl rfl ?_
          refine r_if_eq (t := 112) dX3_canBeEmpty_105 (by decide) rfl (fun c17 => ?_) (fun c17 => ?_)
          · have h := it_t c17 h
            refine ric_0 dX3_canBeEmpty_112 rfl ?_
            exact r_zretR (Or.inl rfl) dX3_canBeEmpty_113 h
          · have h := it_f c17 h
            refine ric_1 dX3_canBeEmpty_108 rfl ?_
            refine r_goto (t := 113) dX3_canBeEmpty_109 (by decide) ?_
            exact r_zretR (Or.inr rfl) dX3_canBeEmpty_113 h
      · have h := it_f c15 h
        by_cases c18 : v10 = 4
        · have h := it_t c18 h
          refine r_tableIn (t := 84) dX3_canBeEmpty_40 (by rw [c18]; decide) (by rw [c18]; decide) (by rw [c18]; rfl) (by decide) ?_
          refine ric_1 dX3_canBeEmpty_84 rfl ?_
          exact r_zretR (Or.inr rfl) dX3_canBeEmpty_85 h
        · have h := it_f c18 h
          by_cases c19 : v10 = 5
          · have h := it_t c19 h
            refine r_tableIn (t := 84) dX3_canBeEmpty_40 (by rw [c19]; decide) (by rw [c19]; decide) (by rw [c19]; rfl) (by decide) ?_
            refine ric_1 dX3_canBeEmpty_84 rfl ?_
            exact r_zretR (Or.inr rfl) dX3_canBeEmpty_85 h
          · have h := it_f c19 h
            by_cases c20 : v10 = 6
            · have h := it_t c20 h
              refine r_tableIn (t := 84) dX3_canBeEmpty_40 (by rw [c20]; decide) (by rw [c20]; decide) (by rw [c20]; rfl) (by decide) ?_
              refine ric_1 dX3_canBeEmpty_84 rfl ?_
              exact r_zretR (Or.inr rfl) dX3_canBeEmpty_85 h
            · have h := it_f c20 h
              by_cases c21 : v10 = 7
              · have h := it_t c21 h
                refine r_tableIn (t := 114) dX3_canBeEmpty_40 (by rw [c21]; decide) (by rw [c21]; decide) (by rw [c21]; rfl) (by decide) ?_
                refine r_aload_n 2 dX3_canBeEmpty_114 rfl rfl rfl ?_
                refine gf_X3_15_3 dX3_canBeEmpty_115 rfl ?_
                refine r_iload_n 3 dX3_canBeEmpty_118 rfl rfl rfl ?_
                obtain ⟨v23, e22, h⟩ := bd h
                refine r_callV (rest := []) (T_X1_low e22) (by decide) mf_X1_low rfl tw_486 tw_487 tw_485 cX_1 rfl rfl rfl (Nat.le_of_ble_eq_true rfl) dX3_canBeEmpty_119 rfl ?_
                refine r_call0 ?_
                refine r_if_ne (t := 133) dX3_canBeEmpty_122 (by decide) rfl (fun c24 => ?_) (fun c24 => ?_)
                · have h := it_t c24 h
                  refine ric_0 dX3_canBeEmpty_133 rfl ?_
                  exact r_zretR (Or.inl rfl) dX3_canBeEmpty_134 h
                · have h := it_n c24 h
                  refine r_iload_n 1 dX3_canBeEmpty_125 rfl rfl rfl ?_
                  refine r_if_eq (t := 133) dX3_canBeEmpty_126 (by decide) rfl (fun c25 => ?_) (fun c25 => ?_)
                  · have h := it_t c25 h
                    refine ric_0 dX3_canBeEmpty_133 rfl ?_
                    exact r_zretR (Or.inl rfl) dX3_canBeEmpty_134 h
                  · have h := it_f c25 h
                    refine ric_1 dX3_canBeEmpty_129 rfl ?_
                    refine r_goto (t := 134) dX3_canBeEmpty_130 (by decide) ?_
                    exact r_zretR (Or.inr rfl) dX3_canBeEmpty_134 h
              · have h := it_f c21 h
                refine r_tableOut (t := 135) dX3_canBeEmpty_40 (by have z0 := neL c11 (z := 1) rfl; have z1 := neL c12 (z := 2) rfl; have z2 := neL c15 (z := 3) rfl; have z3 := neL c18 (z := 4) rfl; have z4 := neL c19 (z := 5) rfl; have z5 := neL c20 (z := 6) rfl; have z6 := neL c21 (z := 7) rfl; omega) (by decide) ?_
                refine ric_0 dX3_canBeEmpty_135 rfl ?_
                exact r_zretR (Or.inl rfl) dX3_canBeEmpty_136 h
