def P_X6_set_25 (a1 : Int32) (a2 : Int32) (σ : SS) : Option SS :=
  if a1 < 0 then
    some σ
  else
    if 300 ≤ a1 then
      some σ
    else
      gI a1 300 <|
      some (stA σ 11 a1 a2)
set_option maxHeartbeats 4000000 in
set_option maxRecDepth 100000 in
theorem T_X6_set_25 {X : XE} {σf : SS} {σ : SS} {a1 : Int32} {a2 : Int32} (h : P_X6_set_25 a1 a2 σ = some σf) : Mt (gX X) 0 yX6_set cX6_set 3 none [.ref (xq X 25), .int a1, .int a2] σ none σf := by
  refine Mt.of (own := RX6) (lv := [(0, .ref (xq X 25)), (1, .int a1), (2, .int a2)]) pn_X6 rfl (Nat.le_of_ble_eq_true rfl) rfl ?_
  unfold P_X6_set_25 at h
  refine r_iload_n 1 dX6_set_0 rfl rfl rfl ?_
  refine r_if_lt (t := 14) dX6_set_1 (by decide) rfl (fun c1 => ?_) (fun c1 => ?_)
  · have h := it_t c1 h
    exact r_vretS dX6_set_14 h
  · have h := it_f c1 h
    refine r_iload_n 1 dX6_set_4 rfl rfl rfl ?_
    refine r_aload_n 0 dX6_set_5 rfl rfl rfl ?_
    refine anX_25 dX6_set_6 rfl ?_
    refine r_icmp_ge (t := 14) dX6_set_7 (by decide) rfl (fun c2 => ?_) (fun c2 => ?_)
    · have h := it_t c2 h
      exact r_vretS dX6_set_14 h
    · have h := it_f c2 h
      refine r_aload_n 0 dX6_set_10 rfl rfl rfl ?_
      refine r_iload_n 1 dX6_set_11 rfl rfl rfl ?_
      refine r_iload_n 2 dX6_set_12 rfl rfl rfl ?_
      obtain ⟨hi3, h⟩ := gi h
      refine asX_25 hi3 dX6_set_13 rfl ?_
      exact r_vretS dX6_set_14 h
def P_X6_set_26 (a1 : Int32) (a2 : Int32) (σ : SS) : Option SS :=
  if a1 < 0 then
    some σ
  else
    if 300 ≤ a1 then
      some σ
    else
      gI a1 300 <|
      some (stA σ 12 a1 a2)
set_option maxHeartbeats 4000000 in
set_option maxRecDepth 100000 in
theorem T_X6_set_26 {X : XE} {σf : SS} {σ : SS} {a1 : Int32} {a2 : Int32} (h : P_X6_set_26 a1 a2 σ = some σf) : Mt (gX X) 0 yX6_set cX6_set 3 none [.ref (xq X 26), .int a1, .int a2] σ none σf := by
  refine Mt.of (own := RX6) (lv := [(0, .ref (xq X 26)), (1, .int a1), (2, .int a2)]) pn_X6 rfl (Nat.le_of_ble_eq_true rfl) rfl ?_
  unfold P_X6_set_26 at h
  refine r_iload_n 1 dX6_set_0 rfl rfl rfl ?_
  refine r_if_lt (t := 14) dX6_set_1 (by decide) rfl (fun c1 => ?_) (fun c1 => ?_)
  · have h := it_t c1 h
    exact r_vretS dX6_set_14 h
  · have h := it_f c1 h
    refine r_iload_n 1 dX6_set_4 rfl rfl rfl ?_
    refine r_aload_n 0 dX6_set_5 rfl rfl rfl ?_
    refine anX_26 dX6_set_6 rfl ?_
    refine r_icmp_ge (t := 14) dX6_set_7 (by decide) rfl (fun c2 => ?_) (fun c2 => ?_)
    · have h := it_t c2 h
      exact r_vretS dX6_set_14 h
    · have h := it_f c2 h
      refine r_aload_n 0 dX6_set_10 rfl rfl rfl ?_
      refine r_iload_n 1 dX6_set_11 rfl rfl rfl ?_
      refine r_iload_n 2 dX6_set_12 rfl rfl rfl ?_
      obtain ⟨hi3, h⟩ := gi h
      refine asX_26 hi3 dX6_set_13 rfl ?_
      exact r_vretS dX6_set_14 h
def P_X6_set_27 (a1 : Int32) (a2 : Int32) (σ : SS) : Option SS :=
  if a1 < 0 then
    some σ
  else
    if 300 ≤ a1 then
      some σ
    else
      gI a1 300 <|
      some (stA σ 13 a1 a2)
set_option maxHeartbeats 4000000 in
set_option maxRecDepth 100000 in
theorem T_X6_set_27 {X : XE} {σf : SS} {σ : SS} {a1 : Int32} {a2 : Int32} (h : P_X6_set_27 a1 a2 σ = some σf) : Mt (gX X) 0 yX6_set cX6_set 3 none [.ref (xq X 27), .int a1, .int a2] σ none σf := by
  refine Mt.of (own := RX6) (lv := [(0, .ref (xq X 27)), (1, .int a1), (2, .int a2)]) pn_X6 rfl (Nat.le_of_ble_eq_true rfl) rfl ?_
  unfold P_X6_set_27 at h
  refine r_iload_n 1 dX6_set_0 rfl rfl rfl ?_
  refine r_if_lt (t := 14) dX6_set_1 (by decide) rfl (fun c1 => ?_) (fun c1 => ?_)
  · have h := it_t c1 h
    exact r_vretS dX6_set_14 h
  · have h := it_f c1 h
    refine r_iload_n 1 dX6_set_4 rfl rfl rfl ?_
    refine r_aload_n 0 dX6_set_5 rfl rfl rfl ?_
    refine anX_27 dX6_set_6 rfl ?_
    refine r_icmp_ge (t := 14) dX6_set_7 (by decide) rfl (fun c2 => ?_) (fun c2 => ?_)
    · have h := it_t c2 h
      exact r_vretS dX6_set_14 h
    · have h := it_f c2 h
      refine r_aload_n 0 dX6_set_10 rfl rfl rfl ?_
      refine r_iload_n 1 dX6_set_11 rfl rfl rfl ?_
      refine r_iload_n 2 dX6_set_12 rfl rfl rfl ?_
      obtain ⟨hi3, h⟩ := gi h
      refine asX_27 hi3 dX6_set_13 rfl ?_
      exact r_vretS dX6_set_14 h
def P_X6_set_29 (a1 : Int32) (a2 : Int32) (σ : SS) : Option SS :=
  if a1 < 0 then
    some σ
  else
    if 300 ≤ a1 then
      some σ
    else
      gI a1 300 <|
      some (stA σ 15 a1 a2)
set_option maxHeartbeats 4000000 in
set_option maxRecDepth 100000 in
theorem T_X6_set_29 {X : XE} {σf : SS} {σ : SS} {a1 : Int32} {a2 : Int32} (h : P_X6_set_29 a1 a2 σ = some σf) : Mt (gX X) 0 yX6_set cX6_set 3 none [.ref (xq X 29), .int a1, .int a2] σ none σf := by
  refine Mt.of (own := RX6) (lv := [(0, .ref (xq X 29)), (1, .int a1), (2, .int a2)]) pn_X6 rfl (Nat.le_of_ble_eq_true rfl) rfl ?_
  unfold P_X6_set_29 at h
  refine r_iload_n 1 dX6_set_0 rfl rfl rfl ?_
  refine r_if_lt (t := 14) dX6_set_1 (by decide) rfl (fun c1 => ?_) (fun c1 => ?_)
  · have h := it_t c1 h
    exact r_vretS dX6_set_14 h
  · have h := it_f c1 h
    refine r_iload_n 1 dX6_set_4 rfl rfl rfl ?_
    refine r_aload_n 0 dX6_set_5 rfl rfl rfl ?_
    refine anX_29 dX6_set_6 rfl ?_
    refine r_icmp_ge (t := 14) dX6_set_7 (by decide) rfl (fun c2 => ?_) (fun c2 => ?_)
    · have h := it_t c2 h
      exact r_vretS dX6_set_14 h
    · have h := it_f c2 h
      refine r_aload_n 0 dX6_set_10 rfl rfl rfl ?_
      refine r_iload_n 1 dX6_set_11 rfl rfl rfl ?_
      refine r_iload_n 2 dX6_set_12 rfl rfl rfl ?_
      obtain ⟨hi3, h⟩ := gi h
      refine asX_29 hi3 dX6_set_13 rfl ?_
      exact r_vretS dX6_set_14 h
def P_X6_set_30 (a1 : Int32) (a2 : Int32) (σ : SS) : Option SS :=
  if a1 < 0 then
    some σ
  else
    if 300 ≤ a1 then
      some σ
    else
      gI a1 300 <|
      some (stA σ 16 a1 a2)
set_option maxHeartbeats 4000000 in
set_option maxRecDepth 100000 in
theorem T_X6_set_30 {X : XE} {σf : SS} {σ : SS} {a1 : Int32} {a2 : Int32} (h : P_X6_set_30 a1 a2 σ = some σf) : Mt (gX X) 0 yX6_set cX6_set 3 none [.ref (xq X 30), .int a1, .int a2] σ none σf := by
  refine Mt.of (own := RX6) (lv := [(0, .ref (xq X 30)), (1, .int a1), (2, .int a2)]) pn_X6 rfl (Nat.le_of_ble_eq_true rfl) rfl ?_
  unfold P_X6_set_30 at h
  refine r_iload_n 1 dX6_set_0 rfl rfl rfl ?_
  refine r_if_lt (t := 14) dX6_set_1 (by decide) rfl (fun c1 => ?_) (fun c1 => ?_)
  · have h := it_t c1 h
    exact r_vretS dX6_set_14 h
  · have h := it_f c1 h
    refine r_iload_n 1 dX6_set_4 rfl rfl rfl ?_
    refine r_aload_n 0 dX6_set_5 rfl rfl rfl ?_
    refine anX_30 dX6_set_6 rfl ?_
    refine r_icmp_ge (t := 14) dX6_set_7 (by decide) rfl (fun c2 => ?_) (fun c2 => ?_)
    · have h := it_t c2 h
      exact r_vretS dX6_set_14 h
    · have h := it_f c2 h
      refine r_aload_n 0 dX6_set_10 rfl rfl rfl ?_
      refine r_iload_n 1 dX6_set_11 rfl rfl rfl ?_
      refine r_iload_n 2 dX6_set_12 rfl rfl rfl ?_
      obtain ⟨hi3, h⟩ := gi h
      refine asX_30 hi3 dX6_set_13 rfl ?_
      exact r_vretS dX6_set_14 h
def P_X6_at_27 (a1 : Int32) (σ : SS) : Option Int32 :=
  if a1 < 0 then
    some 0
  else
    if 300 ≤ a1 then
      some 0
    else
      gI a1 300 <|
      some (ldA σ 13 a1)
set_option maxHeartbeats 4000000 in
set_option maxRecDepth 100000 in
theorem T_X6_at_27 {X : XE} {σ : SS} {r : Int32} {a1 : Int32} (h : P_X6_at_27 a1 σ = some r) : Mt (gX X) 0 yX6_at cX6_at 2 (some .int) [.ref (xq X 27), .int a1] σ (some (.int r)) σ := by
  refine Mt.of (own := RX6) (lv := [(0, .ref (xq X 27)), (1, .int a1)]) pn_X6 rfl (Nat.le_of_ble_eq_true rfl) rfl ?_
  unfold P_X6_at_27 at h
  refine r_iload_n 1 dX6_at_0 rfl rfl rfl ?_
  refine r_if_lt (t := 16) dX6_at_1 (by decide) rfl (fun c1 => ?_) (fun c1 => ?_)
  · have h := it_t c1 h
    refine ric_0 dX6_at_16 rfl ?_
    exact r_iretR dX6_at_17 h
  · have h := it_f c1 h
    refine r_iload_n 1 dX6_at_4 rfl rfl rfl ?_
    refine r_aload_n 0 dX6_at_5 rfl rfl rfl ?_
    refine anX_27 dX6_at_6 rfl ?_
    refine r_icmp_ge (t := 16) dX6_at_7 (by decide) rfl (fun c2 => ?_) (fun c2 => ?_)
    · have h := it_t c2 h
      refine ric_0 dX6_at_16 rfl ?_
      exact r_iretR dX6_at_17 h
    · have h := it_f c2 h
      refine r_aload_n 0 dX6_at_10 rfl rfl rfl ?_
      refine r_iload_n 1 dX6_at_11 rfl rfl rfl ?_
      obtain ⟨hi3, h⟩ := gi h
      refine alX_27 hi3 dX6_at_12 rfl ?_
      refine r_goto (t := 17) dX6_at_13 (by decide) ?_
      exact r_iretR dX6_at_17 h
def P_X5_parentAt (a1 : Int32) (σ : SS) : Option Int32 :=
  if 0 < a1 then
    (P_X6_at_27 a1 σ).bind fun v3 =>
    some v3
  else
    some (-1)
set_option maxHeartbeats 4000000 in
set_option maxRecDepth 100000 in
theorem T_X5_parentAt {X : XE} {σ : SS} {r : Int32} {a1 : Int32} (h : P_X5_parentAt a1 σ = some r) : Mt (gX X) 1 yX5_parentAt cX5_parentAt 2 (some .int) [.ref (xq X 6), .int a1] σ (some (.int r)) σ := by
  refine Mt.of (own := RX5) (lv := [(0, .ref (xq X 6)), (1, .int a1)]) pn_X5 rfl (Nat.le_of_ble_eq_true rfl) rfl ?_
  unfold P_X5_parentAt at h
  refine r_iload_n 1 dX5_parentAt_0 rfl rfl rfl ?_
  refine r_if_gt (t := 8) dX5_parentAt_1 (by decide) rfl (fun c1 => ?_) (fun c1 => ?_)
  · have h := it_t c1 h
    refine r_aload_n 0 dX5_parentAt_8 rfl rfl rfl ?_
    refine gf_X5_18_6 dX5_parentAt_9 rfl ?_
    refine r_iload_n 1 dX5_parentAt_12 rfl rfl rfl ?_
    obtain ⟨v3, e2, h⟩ := bd h
    refine r_callS (As := [.ref (xq X 27), .int a1]) (rest := []) (T_X6_at_27 e2) (by decide) mf_X6_at rfl tw_446 tw_760 rfl (Nat.le_of_ble_eq_true rfl) dX5_parentAt_13 rfl ?_
    refine r_call0 ?_
    exact r_iretR dX5_parentAt_16 h
  · have h := it_f c1 h
    refine ric_m1 dX5_parentAt_4 rfl ?_
    refine r_goto (t := 16) dX5_parentAt_5 (by decide) ?_
    exact r_iretR dX5_parentAt_16 h
def P_X6_at_25 (a1 : Int32) (σ : SS) : Option Int32 :=
  if a1 < 0 then
    some 0
  else
    if 300 ≤ a1 then
      some 0
    else
      gI a1 300 <|
      some (ldA σ 11 a1)
set_option maxHeartbeats 4000000 in
set_option maxRecDepth 100000 in
theorem T_X6_at_25 {X : XE} {σ : SS} {r : Int32} {a1 : Int32} (h : P_X6_at_25 a1 σ = some r) : Mt (gX X) 0 yX6_at cX6_at 2 (some .int) [.ref (xq X 25), .int a1] σ (some (.int r)) σ := by
  refine Mt.of (own := RX6) (lv := [(0, .ref (xq X 25)), (1, .int a1)]) pn_X6 rfl (Nat.le_of_ble_eq_true rfl) rfl ?_
  unfold P_X6_at_25 at h
  refine r_iload_n 1 dX6_at_0 rfl rfl rfl ?_
  refine r_if_lt (t := 16) dX6_at_1 (by decide) rfl (fun c1 => ?_) (fun c1 => ?_)
  · have h := it_t c1 h
    refine ric_0 dX6_at_16 rfl ?_
    exact r_iretR dX6_at_17 h
  · have h := it_f c1 h
    refine r_iload_n 1 dX6_at_4 rfl rfl rfl ?_
    refine r_aload_n 0 dX6_at_5 rfl rfl rfl ?_
    refine anX_25 dX6_at_6 rfl ?_
    refine r_icmp_ge (t := 16) dX6_at_7 (by decide) rfl (fun c2 => ?_) (fun c2 => ?_)
    · have h := it_t c2 h
      refine ric_0 dX6_at_16 rfl ?_
      exact r_iretR dX6_at_17 h
    · have h := it_f c2 h
      refine r_aload_n 0 dX6_at_10 rfl rfl rfl ?_
      refine r_iload_n 1 dX6_at_11 rfl rfl rfl ?_
      obtain ⟨hi3, h⟩ := gi h
      refine alX_25 hi3 dX6_at_12 rfl ?_
      refine r_goto (t := 17) dX6_at_13 (by decide) ?_
      exact r_iretR dX6_at_17 h
def P_X5_shapeAt (a1 : Int32) (σ : SS) : Option Int32 :=
  (P_X6_at_25 a1 σ).bind fun v2 =>
  some v2
set_option maxHeartbeats 4000000 in
set_option maxRecDepth 100000 in
theorem T_X5_shapeAt {X : XE} {σ : SS} {r : Int32} {a1 : Int32} (h : P_X5_shapeAt a1 σ = some r) : Mt (gX X) 1 yX5_shapeAt cX5_shapeAt 2 (some .int) [.ref (xq X 6), .int a1] σ (some (.int r)) σ := by
  refine Mt.of (own := RX5) (lv := [(0, .ref (xq X 6)), (1, .int a1)]) pn_X5 rfl (Nat.le_of_ble_eq_true rfl) rfl ?_
  unfold P_X5_shapeAt at h
  refine r_aload_n 0 dX5_shapeAt_0 rfl rfl rfl ?_
  refine gf_X5_9_6 dX5_shapeAt_1 rfl ?_
  refine r_iload_n 1 dX5_shapeAt_4 rfl rfl rfl ?_
  obtain ⟨v2, e1, h⟩ := bd h
  refine r_callS (As := [.ref (xq X 25), .int a1]) (rest := []) (T_X6_at_25 e1) (by decide) mf_X6_at rfl tw_446 tw_760 rfl (Nat.le_of_ble_eq_true rfl) dX5_shapeAt_5 rfl ?_
  refine r_call0 ?_
  exact r_iretR dX5_shapeAt_8 h
def P_X6_at_30 (a1 : Int32) (σ : SS) : Option Int32 :=
  if a1 < 0 then
    some 0
  else
    if 300 ≤ a1 then
      some 0
    else
      gI a1 300 <|
      some (ldA σ 16 a1)
set_option maxHeartbeats 4000000 in
set_option maxRecDepth 100000 in
theorem T_X6_at_30 {X : XE} {σ : SS} {r : Int32} {a1 : Int32} (h : P_X6_at_30 a1 σ = some r) : Mt (gX X) 0 yX6_at cX6_at 2 (some .int) [.ref (xq X 30), .int a1] σ (some (.int r)) σ := by
  refine Mt.of (own := RX6) (lv := [(0, .ref (xq X 30)), (1, .int a1)]) pn_X6 rfl (Nat.le_of_ble_eq_true rfl) rfl ?_
  unfold P_X6_at_30 at h
  refine r_iload_n 1 dX6_at_0 rfl rfl rfl ?_
  refine r_if_lt (t := 16) dX6_at_1 (by decide) rfl (fun c1 => ?_) (fun c1 => ?_)
  · have h := it_t c1 h
    refine ric_0 dX6_at_16 rfl ?_
    exact r_iretR dX6_at_17 h
  · have h := it_f c1 h
    refine r_iload_n 1 dX6_at_4 rfl rfl rfl ?_
    refine r_aload_n 0 dX6_at_5 rfl rfl rfl ?_
    refine anX_30 dX6_at_6 rfl ?_
    refine r_icmp_ge (t := 16) dX6_at_7 (by decide) rfl (fun c2 => ?_) (fun c2 => ?_)
    · have h := it_t c2 h
      refine ric_0 dX6_at_16 rfl ?_
      exact r_iretR dX6_at_17 h
    · have h := it_f c2 h
      refine r_aload_n 0 dX6_at_10 rfl rfl rfl ?_
      refine r_iload_n 1 dX6_at_11 rfl rfl rfl ?_
      obtain ⟨hi3, h⟩ := gi h
      refine alX_30 hi3 dX6_at_12 rfl ?_
      refine r_goto (t := 17) dX6_at_13 (by decide) ?_
      exact r_iretR dX6_at_17 h
def P_X5_finish_j50 (K8 : Int32 → Int32 → SS → Option SS) (x2 : Int32) (x3 : Int32) (σ : SS) : Option SS :=
  (P_X5_parentAt x2 σ).bind fun v2 =>
  K8 v2 (x3 + 1) σ
set_option maxHeartbeats 4000000 in
set_option maxRecDepth 100000 in
theorem T_X5_finish_j50 {X : XE} {σf : SS} {K8 : Int32 → Int32 → SS → Option SS} (hK8 : ∀ (x2 : Int32) (x3 : Int32) (σ : SS), K8 x2 x3 σ = some σf → V (gX X) 2 RX5 cX5_finish 5 none none σf 8 [(0, .ref (xq X 6)), (2, .int x2), (3, .int x3)] [] σ) : ∀ (x2 : Int32) (x3 : Int32) (σ : SS), P_X5_finish_j50 K8 x2 x3 σ = some σf → V (gX X) 2 RX5 cX5_finish 5 none none σf 50 [(0, .ref (xq X 6)), (2, .int x2), (3, .int x3)] [] σ := by
  intro x2 x3 σ h
  unfold P_X5_finish_j50 at h
  refine r_aload_n 0 dX5_finish_50 rfl rfl rfl ?_
  refine r_iload_n 1 dX5_finish_51 rfl rfl rfl ?_
  obtain ⟨v2, e1, h⟩ := bd h
  refine r_callV (rest := []) (T_X5_parentAt e1) (by decide) mf_X5_parentAt rfl tw_757 tw_758 tw_756 cX_6 rfl rfl rfl (Nat.le_of_ble_eq_true rfl) dX5_finish_52 rfl ?_
  refine r_call0 ?_
  refine r_istore_n (lv' := [(2, .int v2), (0, .ref (xq X 6)), (3, .int x3)]) dX5_finish_55 rfl (by decide) rfl rfl ?_
  refine r_iinc (v := (x3 + 1)) (lv' := [(3, .int (x3 + 1)), (2, .int v2), (0, .ref (xq X 6))]) 2 dX5_finish_56 rfl rfl (by decide) rfl rfl ?_
  refine r_goto (t := 8) dX5_finish_59 (by decide) ?_
  refine r_sub [2, 1, 0] rfl ?_
  exact hK8 v2 (x3 + 1) σ h
def P_X5_finish_j62 (x2 : Int32) (σ : SS) : Option SS :=
  if x2 = (-1) then
    some (uI σ 11 x2)
  else
    (P_X6_at_30 x2 σ).bind fun v3 =>
    (P_X6_set_30 x2 (v3 + 1) σ).bind fun σ5 =>
    some (uI σ5 11 x2)
set_option maxHeartbeats 4000000 in
set_option maxRecDepth 100000 in
theorem T_X5_finish_j62 {X : XE} {σf : SS} : ∀ (x2 : Int32) (σ : SS), P_X5_finish_j62 x2 σ = some σf → V (gX X) 2 RX5 cX5_finish 5 none none σf 62 [(0, .ref (xq X 6)), (2, .int x2)] [] σ := by
  intro x2 σ h
  unfold P_X5_finish_j62 at h
  refine r_iload_n 1 dX5_finish_62 rfl rfl rfl ?_
  refine ric_m1 dX5_finish_63 rfl ?_
  refine r_icmp_eq (t := 85) dX5_finish_64 (by decide) rfl (fun c1 => ?_) (fun c1 => ?_)
  · have h := it_t c1 h
    refine r_aload_n 0 dX5_finish_85 rfl rfl rfl ?_
    refine r_iload_n 1 dX5_finish_86 rfl rfl rfl ?_
    refine pf_X5_61_6 dX5_finish_87 rfl ?_
    exact r_vretS dX5_finish_90 h
  · have h := it_f c1 h
    refine r_aload_n 0 dX5_finish_67 rfl rfl rfl ?_
    refine gf_X5_27_6 dX5_finish_68 rfl ?_
    refine r_iload_n 1 dX5_finish_71 rfl rfl rfl ?_
    refine r_aload_n 0 dX5_finish_72 rfl rfl rfl ?_
    refine gf_X5_27_6 dX5_finish_73 rfl ?_
    refine r_iload_n 1 dX5_finish_76 rfl rfl rfl ?_
    obtain ⟨v3, e2, h⟩ := bd h
    refine r_callS (As := [.ref (xq X 30), .int x2]) (rest := [.int x2, .ref (xq X 30)]) (T_X6_at_30 e2) (by decide) mf_X6_at rfl tw_446 tw_760 rfl (Nat.le_of_ble_eq_true rfl) dX5_finish_77 rfl ?_
    refine r_call0 ?_
    refine ric_1 dX5_finish_80 rfl ?_
    refine r_iadd dX5_finish_81 rfl ?_
    obtain ⟨σ5, e4, h⟩ := bd h
    refine r_callS (As := [.ref (xq X 30), .int x2, .int (v3 + 1)]) (rest := []) (T_X6_set_30 e4) (by decide) mf_X6_set rfl tw_400 tw_732 rfl (Nat.le_of_ble_eq_true rfl) dX5_finish_82 rfl ?_
    refine r_calln ?_
    refine r_aload_n 0 dX5_finish_85 rfl rfl rfl ?_
    refine r_iload_n 1 dX5_finish_86 rfl rfl rfl ?_
    refine pf_X5_61_6 dX5_finish_87 rfl ?_
    exact r_vretS dX5_finish_90 h
def P_X5_finish_j8 : Nat → Int32 → Int32 → SS → Option SS
  | 0, _, _, _ => none
  | n + 1, x2, x3, σ =>
    if 300 ≤ x3 then
      P_X5_finish_j62 x2 σ
    else
      if x2 = (-1) then
        P_X5_finish_j62 x2 σ
      else
        (P_X5_shapeAt x2 σ).bind fun v4 =>
        (P_X1_kind v4 σ).bind fun v6 =>
        if v6 = 3 then
          P_X5_finish_j50 (P_X5_finish_j8 n) x2 x3 σ
        else
          if v6 = 7 then
            P_X5_finish_j50 (P_X5_finish_j8 n) x2 x3 σ
          else
            P_X5_finish_j62 x2 σ
set_option maxHeartbeats 4000000 in
set_option maxRecDepth 100000 in
theorem T_X5_finish_j8 {X : XE} {σf : SS} : ∀ (fu : Nat) (x2 : Int32) (x3 : Int32) (σ : SS), P_X5_finish_j8 fu x2 x3 σ = some σf → V (gX X) 2 RX5 cX5_finish 5 none none σf 8 [(0, .ref (xq X 6)), (2, .int x2), (3, .int x3)] [] σ := by
  intro fu
  induction fu with
  | zero => intro x2 x3 σ h; exact no0 h
  | succ n ih =>
    intro x2 x3 σ h
    unfold P_X5_finish_j8 at h
    refine r_iload_n 2 dX5_finish_8 rfl rfl rfl ?_
    refine r_sipush (v := 300) dX5_finish_9 (by decide) rfl ?_
    refine r_icmp_ge (t := 62) dX5_finish_12 (by decide) rfl (fun c1 => ?_) (fun c1 => ?_)
    · have h := it_t c1 h
      refine r_sub [0, 1] rfl ?_
      exact T_X5_finish_j62 x2 σ h
    · have h := it_f c1 h
      refine r_iload_n 1 dX5_finish_15 rfl rfl rfl ?_
      refine ric_m1 dX5_finish_16 rfl ?_
      refine r_icmp_eq (t := 62) dX5_finish_17 (by decide) rfl (fun c2 => ?_) (fun c2 => ?_)
      · have h := it_t c2 h
        refine r_sub [0, 1] rfl ?_
        exact T_X5_finish_j62 x2 σ h
      · have h := it_f c2 h
        refine r_aload_n 0 dX5_finish_20 rfl rfl rfl ?_
        refine gf_X5_30_6 dX5_finish_21 rfl ?_
        refine r_aload_n 0 dX5_finish_24 rfl rfl rfl ?_
        refine r_iload_n 1 dX5_finish_25 rfl rfl rfl ?_
        obtain ⟨v4, e3, h⟩ := bd h
        refine r_callV (rest := [.ref (xq X 1)]) (T_X5_shapeAt e3) (by decide) mf_X5_shapeAt rfl tw_762 tw_763 tw_761 cX_6 rfl rfl rfl (Nat.le_of_ble_eq_true rfl) dX5_finish_26 rfl ?_
        refine r_call0 ?_
        obtain ⟨v6, e5, h⟩ := bd h
        refine r_callV (rest := []) (T_X1_kind e5) (by decide) mf_X1_kind rfl tw_420 tw_421 tw_743 cX_1 rfl rfl rfl (Nat.le_of_ble_eq_true rfl) dX5_finish_29 rfl ?_
        refine r_call0 ?_
        refine r_istore (lv' := [(4, .int v6), (0, .ref (xq X 6)), (2, .int x2), (3, .int x3)]) dX5_finish_32 (by decide) rfl rfl ?_
        refine r_iload 0 dX5_finish_34 rfl rfl ?_
        refine ric_3 dX5_finish_36 rfl ?_
        refine r_icmp_eq (t := 50) dX5_finish_37 (by decide) rfl (fun c7 => ?_) (fun c7 => ?_)
        · have h := it_t c7 h
          refine r_sub [1, 2, 3] rfl ?_
          exact T_X5_finish_j50 ih x2 x3 σ h
        · have h := it_f c7 h
          refine r_iload 0 dX5_finish_40 rfl rfl ?_
          refine r_bipush (v := 7) dX5_finish_42 (by decide) rfl ?_
          refine r_icmp_eq (t := 50) dX5_finish_44 (by decide) rfl (fun c8 => ?_) (fun c8 => ?_)
          · have h := it_t c8 h
            refine r_sub [1, 2, 3] rfl ?_
            exact T_X5_finish_j50 ih x2 x3 σ h
          · have h := it_f c8 h
            refine r_goto (t := 62) dX5_finish_47 (by decide) ?_
            refine r_sub [1, 2] rfl ?_
            exact T_X5_finish_j62 x2 σ h
def P_X5_finish (a1 : Int32) (σ : SS) : Option SS :=
  (P_X5_parentAt a1 σ).bind fun v2 =>
  P_X5_finish_j8 FU v2 0 σ
set_option maxHeartbeats 4000000 in
set_option maxRecDepth 100000 in
theorem T_X5_finish {X : XE} {σf : SS} {σ : SS} {a1 : Int32} (h : P_X5_finish a1 σ = some σf) : Mt (gX X) 2 yX5_finish cX5_finish 5 none [.ref (xq X 6), .int a1] σ none σf := by
  refine Mt.of (own := RX5) (lv := [(0, .ref (xq X 6)), (1, .int a1)]) pn_X5 rfl (Nat.le_of_ble_eq_true rfl) rfl ?_
  unfold P_X5_finish at h
  refine r_aload_n 0 dX5_finish_0 rfl rfl rfl ?_
  refine r_iload_n 1 dX5_finish_1 rfl rfl rfl ?_
  obtain ⟨v2, e1, h⟩ := bd h
  refine r_callV (rest := []) (T_X5_parentAt e1) (by decide) mf_X5_parentAt rfl tw_757 tw_758 tw_756 cX_6 rfl rfl rfl (Nat.le_of_ble_eq_true rfl) dX5_finish_2 rfl ?_
  refine r_call0 ?_
  refine r_istore_n (lv' := [(2, .int v2), (0, .ref (xq X 6)), (1, .int a1)]) dX5_finish_5 rfl (by decide) rfl rfl ?_
  refine ric_0 dX5_finish_6 rfl ?_
  refine r_istore_n (lv' := [(3, .int 0), (2, .int v2), (0, .ref (xq X 6)), (1, .int a1)]) dX5_finish_7 rfl (by decide) rfl rfl ?_
  refine r_sub [2, 1, 0] rfl ?_
  exact T_X5_finish_j8 FU v2 0 σ h
def P_X5_begins_j124 (x4 : Int32) (x5 : Int32) (y0 : Int32) (y1 : Int32) (σ : SS) : Option (Int32 × SS) :=
  (P_X6_set_28 y1 y0 σ).bind fun σ2 =>
  (P_X6_set_29 x5 (x5 + 1) σ2).bind fun σ4 =>
  (P_X6_set_30 x5 0 σ4).bind fun σ6 =>
  if x4 = 0 then
    (P_X5_finish x5 σ6).bind fun σ9 =>
    some (1, σ9)
  else
    if ¬ x4 = 1 then
      some (1, (uI σ6 11 x5))
    else
      (P_X5_finish x5 σ6).bind fun σ12 =>
      some (1, σ12)
set_option maxHeartbeats 4000000 in
set_option maxRecDepth 100000 in
theorem T_X5_begins_j124 {X : XE} {σf : SS} {r : Int32} : ∀ (x4 : Int32) (x5 : Int32) (y0 : Int32) (y1 : Int32) (σ : SS), P_X5_begins_j124 x4 x5 y0 y1 σ = some (r, σf) → V (gX X) 3 RX5 cX5_begins 7 (some .boolean) (some (.int r)) σf 124 [(0, .ref (xq X 6)), (4, .int x4), (5, .int x5)] [.int y0, .int y1, .ref (xq X 28)] σ := by
  intro x4 x5 y0 y1 σ h
  unfold P_X5_begins_j124 at h
  obtain ⟨σ2, e1, h⟩ := bd h
  refine r_callS (As := [.ref (xq X 28), .int y1, .int y0]) (rest := []) (T_X6_set_28 e1) (by decide) mf_X6_set rfl tw_400 tw_732 rfl (Nat.le_of_ble_eq_true rfl) dX5_begins_124 rfl ?_
  refine r_calln ?_
  refine r_aload_n 0 dX5_begins_127 rfl rfl rfl ?_
  refine gf_X5_24_6 dX5_begins_128 rfl ?_
  refine r_iload 2 dX5_begins_131 rfl rfl ?_
  refine r_iload 2 dX5_begins_133 rfl rfl ?_
  refine ric_1 dX5_begins_135 rfl ?_
  refine r_iadd dX5_begins_136 rfl ?_
  obtain ⟨σ4, e3, h⟩ := bd h
  refine r_callS (As := [.ref (xq X 29), .int x5, .int (x5 + 1)]) (rest := []) (T_X6_set_29 e3) (by decide) mf_X6_set rfl tw_400 tw_732 rfl (Nat.le_of_ble_eq_true rfl) dX5_begins_137 rfl ?_
  refine r_calln ?_
  refine r_aload_n 0 dX5_begins_140 rfl rfl rfl ?_
  refine gf_X5_27_6 dX5_begins_141 rfl ?_
  refine r_iload 2 dX5_begins_144 rfl rfl ?_
  refine ric_0 dX5_begins_146 rfl ?_
  obtain ⟨σ6, e5, h⟩ := bd h
  refine r_callS (As := [.ref (xq X 30), .int x5, .int 0]) (rest := []) (T_X6_set_30 e5) (by decide) mf_X6_set rfl tw_400 tw_732 rfl (Nat.le_of_ble_eq_true rfl) dX5_begins_147 rfl ?_
  refine r_calln ?_
  refine r_iload 1 dX5_begins_150 rfl rfl ?_
  refine r_if_eq (t := 161) dX5_begins_152 (by decide) rfl (fun c7 => ?_) (fun c7 => ?_)
  · have h := it_t c7 h
    refine r_aload_n 0 dX5_begins_161 rfl rfl rfl ?_
    refine r_iload 2 dX5_begins_162 rfl rfl ?_
    obtain ⟨σ9, e8, h⟩ := bd h
    refine r_callV (rest := []) (T_X5_finish e8) (by decide) mf_X5_finish rfl tw_754 tw_20 tw_752 cX_6 rfl rfl rfl (Nat.le_of_ble_eq_true rfl) dX5_begins_164 rfl ?_
    refine r_calln ?_
    refine r_goto (t := 176) dX5_begins_167 (by decide) ?_
    refine ric_1 dX5_begins_176 rfl ?_
    exact r_zretQ (Or.inr rfl) dX5_begins_177 h
  · have h := it_f c7 h
    refine r_iload 1 dX5_begins_155 rfl rfl ?_
    refine ric_1 dX5_begins_157 rfl ?_
    refine r_icmp_ne (t := 170) dX5_begins_158 (by decide) rfl (fun c10 => ?_) (fun c10 => ?_)
    · have h := it_t c10 h
      refine r_aload_n 0 dX5_begins_170 rfl rfl rfl ?_
      refine r_iload 2 dX5_begins_171 rfl rfl ?_
      refine pf_X5_61_6 dX5_begins_173 rfl ?_
      refine ric_1 dX5_begins_176 rfl ?_
      exact r_zretQ (Or.inr rfl) dX5_begins_177 h
    · have h := it_n c10 h
      refine r_aload_n 0 dX5_begins_161 rfl rfl rfl ?_
      refine r_iload 2 dX5_begins_162 rfl rfl ?_
      obtain ⟨σ12, e11, h⟩ := bd h
      refine r_callV (rest := []) (T_X5_finish e11) (by decide) mf_X5_finish rfl tw_754 tw_20 tw_752 cX_6 rfl rfl rfl (Nat.le_of_ble_eq_true rfl) dX5_begins_164 rfl ?_
      refine r_calln ?_
      refine r_goto (t := 176) dX5_begins_167 (by decide) ?_
      refine ric_1 dX5_begins_176 rfl ?_
      exact r_zretQ (Or.inr rfl) dX5_begins_177 h
def P_X5_begins_j66 (x1 : Int32) (x3 : Int32) (x4 : Int32) (x5 : Int32) (y0 : Int32) (σ : SS) : Option (Int32 × SS) :=
  (P_X6_set_25 x5 x1 σ).bind fun σ2 =>
  (P_X6_set_26 x5 x3 σ2).bind fun σ4 =>
  (P_X6_set_27 x5 (sI σ4 11) σ4).bind fun σ6 =>
  if y0 = 0 then
    P_X5_begins_j124 x4 x5 0 x5 σ6
  else
    (P_X1_a x1 σ6).bind fun v9 =>
    P_X5_begins_j124 x4 x5 v9 x5 σ6
set_option maxHeartbeats 4000000 in
set_option maxRecDepth 100000 in
theorem T_X5_begins_j66 {X : XE} {σf : SS} {r : Int32} : ∀ (x1 : Int32) (x3 : Int32) (x4 : Int32) (x5 : Int32) (y0 : Int32) (σ : SS), P_X5_begins_j66 x1 x3 x4 x5 y0 σ = some (r, σf) → V (gX X) 3 RX5 cX5_begins 7 (some .boolean) (some (.int r)) σf 66 [(0, .ref (xq X 6)), (1, .int x1), (3, .int x3), (4, .int x4), (5, .int x5)] [.int y0] σ := by
  intro x1 x3 x4 x5 y0 σ h
  unfold P_X5_begins_j66 at h
  refine r_istore (lv' := [(6, .int y0), (0, .ref (xq X 6)), (1, .int x1), (3, .int x3), (4, .int x4), (5, .int x5)]) dX5_begins_66 (by decide) rfl rfl ?_
  refine r_aload_n 1 dX5_begins_68 rfl rfl rfl ?_
  refine gf_X5_9_6 dX5_begins_69 rfl ?_
  refine r_iload 5 dX5_begins_72 rfl rfl ?_
  refine r_iload_n 2 dX5_begins_74 rfl rfl rfl ?_
  obtain ⟨σ2, e1, h⟩ := bd h
  refine r_callS (As := [.ref (xq X 25), .int x5, .int x1]) (rest := []) (T_X6_set_25 e1) (by decide) mf_X6_set rfl tw_400 tw_732 rfl (Nat.le_of_ble_eq_true rfl) dX5_begins_75 rfl ?_
  refine r_calln ?_
  refine r_aload_n 1 dX5_begins_78 rfl rfl rfl ?_
  refine gf_X5_15_6 dX5_begins_79 rfl ?_
  refine r_iload 5 dX5_begins_82 rfl rfl ?_
  refine r_iload_n 3 dX5_begins_84 rfl rfl rfl ?_
  obtain ⟨σ4, e3, h⟩ := bd h
  refine r_callS (As := [.ref (xq X 26), .int x5, .int x3]) (rest := []) (T_X6_set_26 e3) (by decide) mf_X6_set rfl tw_400 tw_732 rfl (Nat.le_of_ble_eq_true rfl) dX5_begins_85 rfl ?_
  refine r_calln ?_
  refine r_aload_n 1 dX5_begins_88 rfl rfl rfl ?_
  refine gf_X5_18_6 dX5_begins_89 rfl ?_
  refine r_iload 5 dX5_begins_92 rfl rfl ?_
  refine r_aload_n 1 dX5_begins_94 rfl rfl rfl ?_
  refine gf_X5_61_6 dX5_begins_95 rfl ?_
  obtain ⟨σ6, e5, h⟩ := bd h
  refine r_callS (As := [.ref (xq X 27), .int x5, .int (sI σ4 11)]) (rest := []) (T_X6_set_27 e5) (by decide) mf_X6_set rfl tw_400 tw_732 rfl (Nat.le_of_ble_eq_true rfl) dX5_begins_98 rfl ?_
  refine r_calln ?_
  refine r_aload_n 1 dX5_begins_101 rfl rfl rfl ?_
  refine gf_X5_21_6 dX5_begins_102 rfl ?_
  refine r_iload 5 dX5_begins_105 rfl rfl ?_
  refine r_iload 0 dX5_begins_107 rfl rfl ?_
  refine r_if_eq (t := 123) dX5_begins_109 (by decide) rfl (fun c7 => ?_) (fun c7 => ?_)
  · have h := it_t c7 h
    refine ric_0 dX5_begins_123 rfl ?_
    refine r_sub [1, 4, 5] rfl ?_
    exact T_X5_begins_j124 x4 x5 0 x5 σ6 h
  · have h := it_f c7 h
    refine r_aload_n 1 dX5_begins_112 rfl rfl rfl ?_
    refine gf_X5_30_6 dX5_begins_113 rfl ?_
    refine r_iload_n 2 dX5_begins_116 rfl rfl rfl ?_
    obtain ⟨v9, e8, h⟩ := bd h
    refine r_callV (rest := [.int x5, .ref (xq X 28)]) (T_X1_a e8) (by decide) mf_X1_a rfl tw_424 tw_425 tw_751 cX_1 rfl rfl rfl (Nat.le_of_ble_eq_true rfl) dX5_begins_117 rfl ?_
    refine r_call0 ?_
    refine r_goto (t := 124) dX5_begins_120 (by decide) ?_
    refine r_sub [1, 4, 5] rfl ?_
    exact T_X5_begins_j124 x4 x5 v9 x5 σ6 h
def P_X5_begins_j61 (x1 : Int32) (x3 : Int32) (x4 : Int32) (x5 : Int32) (σ : SS) : Option (Int32 × SS) :=
  P_X5_begins_j66 x1 x3 x4 x5 1 σ
set_option maxHeartbeats 4000000 in
set_option maxRecDepth 100000 in
theorem T_X5_begins_j61 {X : XE} {σf : SS} {r : Int32} : ∀ (x1 : Int32) (x3 : Int32) (x4 : Int32) (x5 : Int32) (σ : SS), P_X5_begins_j61 x1 x3 x4 x5 σ = some (r, σf) → V (gX X) 3 RX5 cX5_begins 7 (some .boolean) (some (.int r)) σf 61 [(0, .ref (xq X 6)), (1, .int x1), (3, .int x3), (4, .int x4), (5, .int x5)] [] σ := by
  intro x1 x3 x4 x5 σ h
  unfold P_X5_begins_j61 at h
  refine ric_1 dX5_begins_61 rfl ?_
  refine r_goto (t := 66) dX5_begins_62 (by decide) ?_
  exact T_X5_begins_j66 x1 x3 x4 x5 1 σ h
def P_X5_begins (a1 : Int32) (a2 : Int32) (a3 : Int32) (σ : SS) : Option (Int32 × SS) :=
  (P_X1_kind a1 σ).bind fun v2 =>
  if 300 ≤ (sI σ 10) then
    some (0, σ)
  else
    (P_X5_opens a1 v2 a2 σ).bind fun v5 =>
    if ¬ v5 = 0 then
      if v2 = 0 then
        P_X5_begins_j61 a1 a3 v2 (sI σ 10) (uI σ 10 ((sI σ 10) + 1))
      else
        if ¬ v2 = 8 then
          P_X5_begins_j66 a1 a3 v2 (sI σ 10) 0 (uI σ 10 ((sI σ 10) + 1))
        else
          P_X5_begins_j61 a1 a3 v2 (sI σ 10) (uI σ 10 ((sI σ 10) + 1))
    else
      some (0, σ)
set_option maxHeartbeats 4000000 in
set_option maxRecDepth 100000 in
theorem T_X5_begins {X : XE} {σf : SS} {r : Int32} {σ : SS} {a1 : Int32} {a2 : Int32} {a3 : Int32} (h : P_X5_begins a1 a2 a3 σ = some (r, σf)) : Mt (gX X) 3 yX5_begins cX5_begins 7 (some .boolean) [.ref (xq X 6), .int a1, .int a2, .int a3] σ (some (.int r)) σf := by
  refine Mt.of (own := RX5) (lv := [(0, .ref (xq X 6)), (1, .int a1), (2, .int a2), (3, .int a3)]) pn_X5 rfl (Nat.le_of_ble_eq_true rfl) rfl ?_
  unfold P_X5_begins at h
  refine r_aload_n 0 dX5_begins_0 rfl rfl rfl ?_
  refine gf_X5_30_6 dX5_begins_1 rfl ?_
  refine r_iload_n 1 dX5_begins_4 rfl rfl rfl ?_
  obtain ⟨v2, e1, h⟩ := bd h
  refine r_callV (rest := []) (T_X1_kind e1) (by decide) mf_X1_kind rfl tw_420 tw_421 tw_743 cX_1 rfl rfl rfl (Nat.le_of_ble_eq_true rfl) dX5_begins_5 rfl ?_
  refine r_call0 ?_
  refine r_istore (lv' := [(4, .int v2), (0, .ref (xq X 6)), (1, .int a1), (2, .int a2), (3, .int a3)]) dX5_begins_8 (by decide) rfl rfl ?_
  refine r_aload_n 1 dX5_begins_10 rfl rfl rfl ?_
  refine gf_X5_45_6 dX5_begins_11 rfl ?_
  refine r_sipush (v := 300) dX5_begins_14 (by decide) rfl ?_
  refine r_icmp_ge (t := 31) dX5_begins_17 (by decide) rfl (fun c3 => ?_) (fun c3 => ?_)
  · have h := it_t c3 h
    refine ric_0 dX5_begins_31 rfl ?_
    exact r_zretQ (Or.inl rfl) dX5_begins_32 h
  · have h := it_f c3 h
    refine r_aload_n 1 dX5_begins_20 rfl rfl rfl ?_
    refine r_iload_n 2 dX5_begins_21 rfl rfl rfl ?_
    refine r_iload 0 dX5_begins_22 rfl rfl ?_
    refine r_iload_n 3 dX5_begins_24 rfl rfl rfl ?_
    obtain ⟨v5, e4, h⟩ := bd h
    refine r_callV (rest := []) (T_X5_opens e4) (by decide) mf_X5_opens rfl tw_746 tw_19 tw_744 cX_6 rfl rfl rfl (Nat.le_of_ble_eq_true rfl) dX5_begins_25 rfl ?_
    refine r_call0 ?_
    refine r_if_ne (t := 33) dX5_begins_28 (by decide) rfl (fun c6 => ?_) (fun c6 => ?_)
    · have h := it_t c6 h
      refine r_aload_n 1 dX5_begins_33 rfl rfl rfl ?_
      refine gf_X5_45_6 dX5_begins_34 rfl ?_
      refine r_istore (lv' := [(5, .int (sI σ 10)), (4, .int v2), (0, .ref (xq X 6)), (1, .int a1), (2, .int a2), (3, .int a3)]) dX5_begins_37 (by decide) rfl rfl ?_
      refine r_aload_n 2 dX5_begins_39 rfl rfl rfl ?_
      refine r_dup rfl dX5_begins_40 rfl ?_
      refine gf_X5_45_6 dX5_begins_41 rfl ?_
      refine ric_1 dX5_begins_44 rfl ?_
      refine r_iadd dX5_begins_45 rfl ?_
      refine pf_X5_45_6 dX5_begins_46 rfl ?_
      refine r_iload 1 dX5_begins_49 rfl rfl ?_
      refine r_if_eq (t := 61) dX5_begins_51 (by decide) rfl (fun c7 => ?_) (fun c7 => ?_)
      · have h := it_t c7 h
        refine r_sub [2, 3, 5, 1, 0] rfl ?_
        exact T_X5_begins_j61 a1 a3 v2 (sI σ 10) (uI σ 10 ((sI σ 10) + 1)) h
      · have h := it_f c7 h
        refine r_iload 1 dX5_begins_54 rfl rfl ?_
        refine r_bipush (v := 8) dX5_begins_56 (by decide) rfl ?_
        refine r_icmp_ne (t := 65) dX5_begins_58 (by decide) rfl (fun c8 => ?_) (fun c8 => ?_)
        · have h := it_t c8 h
          refine ric_0 dX5_begins_65 rfl ?_
          refine r_sub [2, 3, 5, 1, 0] rfl ?_
          exact T_X5_begins_j66 a1 a3 v2 (sI σ 10) 0 (uI σ 10 ((sI σ 10) + 1)) h
        · have h := it_n c8 h
          refine r_sub [2, 3, 5, 1, 0] rfl ?_
          exact T_X5_begins_j61 a1 a3 v2 (sI σ 10) (uI σ 10 ((sI σ 10) + 1)) h
    · have h := it_n c6 h
      refine ric_0 dX5_begins_31 rfl ?_
      exact r_zretQ (Or.inl rfl) dX5_begins_32 h
def P_X5_takesLetter (a1 : Int32) (a2 : Int32) (σ : SS) : Option (Int32 × SS) :=
  (P_X6_at_30 (sI σ 11) σ).bind fun v2 =>
  if (a2 - 97) < 0 then
    some (0, σ)
  else
    if a1 ≤ (a2 - 97) then
      some (0, σ)
    else
      if ((v2 >>> ((a2 - 97) &&& 31)) &&& 1) = 0 then
        (P_X6_set_30 (sI σ 11) (v2 ||| ((1 : Int32) <<< ((a2 - 97) &&& 31))) σ).bind fun σ7 =>
        (P_J6_bitCount_0f7a4 (v2 ||| ((1 : Int32) <<< ((a2 - 97) &&& 31)))).bind fun v9 =>
        if ¬ v9 = a1 then
          some (1, σ7)
        else
          (P_X5_finish (sI σ7 11) σ7).bind fun σ12 =>
          some (1, σ12)
      else
        some (0, σ)
set_option maxHeartbeats 4000000 in
set_option maxRecDepth 100000 in
theorem T_X5_takesLetter {X : XE} {σf : SS} {r : Int32} {σ : SS} {a1 : Int32} {a2 : Int32} (h : P_X5_takesLetter a1 a2 σ = some (r, σf)) : Mt (gX X) 3 yX5_takesLetter cX5_takesLetter 5 (some .boolean) [.ref (xq X 6), .int a1, .int a2] σ (some (.int r)) σf := by
  refine Mt.of (own := RX5) (lv := [(0, .ref (xq X 6)), (1, .int a1), (2, .int a2)]) pn_X5 rfl (Nat.le_of_ble_eq_true rfl) rfl ?_
  unfold P_X5_takesLetter at h
  refine r_iload_n 2 dX5_takesLetter_0 rfl rfl rfl ?_
  refine r_bipush (v := 97) dX5_takesLetter_1 (by decide) rfl ?_
  refine r_isub dX5_takesLetter_3 rfl ?_
  refine r_istore_n (lv' := [(3, .int (a2 - 97)), (0, .ref (xq X 6)), (1, .int a1), (2, .int a2)]) dX5_takesLetter_4 rfl (by decide) rfl rfl ?_
  refine r_aload_n 1 dX5_takesLetter_5 rfl rfl rfl ?_
  refine gf_X5_27_6 dX5_takesLetter_6 rfl ?_
  refine r_aload_n 1 dX5_takesLetter_9 rfl rfl rfl ?_
  refine gf_X5_61_6 dX5_takesLetter_10 rfl ?_
  obtain ⟨v2, e1, h⟩ := bd h
  refine r_callS (As := [.ref (xq X 30), .int (sI σ 11)]) (rest := []) (T_X6_at_30 e1) (by decide) mf_X6_at rfl tw_446 tw_760 rfl (Nat.le_of_ble_eq_true rfl) dX5_takesLetter_13 rfl ?_
  refine r_call0 ?_
  refine r_istore (lv' := [(4, .int v2), (3, .int (a2 - 97)), (0, .ref (xq X 6)), (1, .int a1), (2, .int a2)]) dX5_takesLetter_16 (by decide) rfl rfl ?_
  refine r_iload_n 1 dX5_takesLetter_18 rfl rfl rfl ?_
  refine r_if_lt (t := 36) dX5_takesLetter_19 (by decide) rfl (fun c3 => ?_) (fun c3 => ?_)
  · have h := it_t c3 h
    refine ric_0 dX5_takesLetter_36 rfl ?_
    exact r_zretQ (Or.inl rfl) dX5_takesLetter_37 h
  · have h := it_f c3 h
    refine r_iload_n 1 dX5_takesLetter_22 rfl rfl rfl ?_
    refine r_iload_n 3 dX5_takesLetter_23 rfl rfl rfl ?_
    refine r_icmp_ge (t := 36) dX5_takesLetter_24 (by decide) rfl (fun c4 => ?_) (fun c4 => ?_)
    · have h := it_t c4 h
      refine ric_0 dX5_takesLetter_36 rfl ?_
      exact r_zretQ (Or.inl rfl) dX5_takesLetter_37 h
    · have h := it_f c4 h
      refine r_iload 0 dX5_takesLetter_27 rfl rfl ?_
      refine r_iload_n 1 dX5_takesLetter_29 rfl rfl rfl ?_
      refine r_ishr dX5_takesLetter_30 rfl ?_
      refine ric_1 dX5_takesLetter_31 rfl ?_
      refine r_iand dX5_takesLetter_32 rfl ?_
      refine r_if_eq (t := 38) dX5_takesLetter_33 (by decide) rfl (fun c5 => ?_) (fun c5 => ?_)
      · have h := it_t c5 h
        refine r_iload 0 dX5_takesLetter_38 rfl rfl ?_
        refine ric_1 dX5_takesLetter_40 rfl ?_
        refine r_iload_n 1 dX5_takesLetter_41 rfl rfl rfl ?_
        refine r_ishl dX5_takesLetter_42 rfl ?_
        refine r_ior dX5_takesLetter_43 rfl ?_
        refine r_istore (lv' := [(4, .int (v2 ||| ((1 : Int32) <<< ((a2 - 97) &&& 31)))), (3, .int (a2 - 97)), (0, .ref (xq X 6)), (1, .int a1), (2, .int a2)]) dX5_takesLetter_44 (by decide) rfl rfl ?_
        refine r_aload_n 2 dX5_takesLetter_46 rfl rfl rfl ?_
        refine gf_X5_27_6 dX5_takesLetter_47 rfl ?_
        refine r_aload_n 2 dX5_takesLetter_50 rfl rfl rfl ?_
        refine gf_X5_61_6 dX5_takesLetter_51 rfl ?_
        refine r_iload 0 dX5_takesLetter_54 rfl rfl ?_
        obtain ⟨σ7, e6, h⟩ := bd h
        refine r_callS (As := [.ref (xq X 30), .int (sI σ 11), .int (v2 ||| ((1 : Int32) <<< ((a2 - 97) &&& 31)))]) (rest := []) (T_X6_set_30 e6) (by decide) mf_X6_set rfl tw_400 tw_732 rfl (Nat.le_of_ble_eq_true rfl) dX5_takesLetter_56 rfl ?_
        refine r_calln ?_
        refine r_iload 0 dX5_takesLetter_59 rfl rfl ?_
        obtain ⟨v9, e8, h⟩ := bd h
        refine r_callS (As := [.int (v2 ||| ((1 : Int32) <<< ((a2 - 97) &&& 31)))]) (rest := []) (T_J6_bitCount_0f7a4 e8) (by decide) mf_J6_bitCount_0f7a4 rfl tw_518 tw_777 rfl (Nat.le_of_ble_eq_true rfl) dX5_takesLetter_61 rfl ?_
        refine r_call0 ?_
        refine r_iload_n 3 dX5_takesLetter_64 rfl rfl rfl ?_
        refine r_icmp_ne (t := 76) dX5_takesLetter_65 (by decide) rfl (fun c10 => ?_) (fun c10 => ?_)
        · have h := it_t c10 h
          refine ric_1 dX5_takesLetter_76 rfl ?_
          exact r_zretQ (Or.inr rfl) dX5_takesLetter_77 h
        · have h := it_n c10 h
          refine r_aload_n 2 dX5_takesLetter_68 rfl rfl rfl ?_
          refine r_aload_n 2 dX5_takesLetter_69 rfl rfl rfl ?_
          refine gf_X5_61_6 dX5_takesLetter_70 rfl ?_
          obtain ⟨σ12, e11, h⟩ := bd h
          refine r_callV (rest := []) (T_X5_finish e11) (by decide) mf_X5_finish rfl tw_754 tw_20 tw_752 cX_6 rfl rfl rfl (Nat.le_of_ble_eq_true rfl) dX5_takesLetter_73 rfl ?_
          refine r_calln ?_
          refine ric_1 dX5_takesLetter_76 rfl ?_
          exact r_zretQ (Or.inr rfl) dX5_takesLetter_77 h
      · have h := it_f c5 h
        refine ric_0 dX5_takesLetter_36 rfl ?_
        exact r_zretQ (Or.inl rfl) dX5_takesLetter_37 h
def P_X6_at_26 (a1 : Int32) (σ : SS) : Option Int32 :=
  if a1 < 0 then
    some 0
  else
    if 300 ≤ a1 then
      some 0
    else
      gI a1 300 <|
      some (ldA σ 12 a1)
set_option maxHeartbeats 4000000 in
set_option maxRecDepth 100000 in
theorem T_X6_at_26 {X : XE} {σ : SS} {r : Int32} {a1 : Int32} (h : P_X6_at_26 a1 σ = some r) : Mt (gX X) 0 yX6_at cX6_at 2 (some .int) [.ref (xq X 26), .int a1] σ (some (.int r)) σ := by
  refine Mt.of (own := RX6) (lv := [(0, .ref (xq X 26)), (1, .int a1)]) pn_X6 rfl (Nat.le_of_ble_eq_true rfl) rfl ?_
  unfold P_X6_at_26 at h
  refine r_iload_n 1 dX6_at_0 rfl rfl rfl ?_
  refine r_if_lt (t := 16) dX6_at_1 (by decide) rfl (fun c1 => ?_) (fun c1 => ?_)
  · have h := it_t c1 h
    refine ric_0 dX6_at_16 rfl ?_
    exact r_iretR dX6_at_17 h
  · have h := it_f c1 h
    refine r_iload_n 1 dX6_at_4 rfl rfl rfl ?_
    refine r_aload_n 0 dX6_at_5 rfl rfl rfl ?_
    refine anX_26 dX6_at_6 rfl ?_
    refine r_icmp_ge (t := 16) dX6_at_7 (by decide) rfl (fun c2 => ?_) (fun c2 => ?_)
    · have h := it_t c2 h
      refine ric_0 dX6_at_16 rfl ?_
      exact r_iretR dX6_at_17 h
    · have h := it_f c2 h
      refine r_aload_n 0 dX6_at_10 rfl rfl rfl ?_
      refine r_iload_n 1 dX6_at_11 rfl rfl rfl ?_
      obtain ⟨hi3, h⟩ := gi h
      refine alX_26 hi3 dX6_at_12 rfl ?_
      refine r_goto (t := 17) dX6_at_13 (by decide) ?_
      exact r_iretR dX6_at_17 h
def P_X5_placeAt (a1 : Int32) (σ : SS) : Option Int32 :=
  (P_X6_at_26 a1 σ).bind fun v2 =>
  some v2
set_option maxHeartbeats 4000000 in
set_option maxRecDepth 100000 in
theorem T_X5_placeAt {X : XE} {σ : SS} {r : Int32} {a1 : Int32} (h : P_X5_placeAt a1 σ = some r) : Mt (gX X) 1 yX5_placeAt cX5_placeAt 2 (some .int) [.ref (xq X 6), .int a1] σ (some (.int r)) σ := by
  refine Mt.of (own := RX5) (lv := [(0, .ref (xq X 6)), (1, .int a1)]) pn_X5 rfl (Nat.le_of_ble_eq_true rfl) rfl ?_
  unfold P_X5_placeAt at h
  refine r_aload_n 0 dX5_placeAt_0 rfl rfl rfl ?_
  refine gf_X5_15_6 dX5_placeAt_1 rfl ?_
  refine r_iload_n 1 dX5_placeAt_4 rfl rfl rfl ?_
  obtain ⟨v2, e1, h⟩ := bd h
  refine r_callS (As := [.ref (xq X 26), .int a1]) (rest := []) (T_X6_at_26 e1) (by decide) mf_X6_at rfl tw_446 tw_760 rfl (Nat.le_of_ble_eq_true rfl) dX5_placeAt_5 rfl ?_
  refine r_call0 ?_
  exact r_iretR dX5_placeAt_8 h
def P_X5_takesOfBoth (a1 : Int32) (a2 : Int32) (a3 : Int32) (σ : SS) : Option (Int32 × SS) :=
  (P_X6_at_30 (sI σ 11) σ).bind fun v2 =>
  if 2 ≤ v2 then
    if a2 = 41 then
      (P_X5_finish (sI σ 11) σ).bind fun σ6 =>
      some (1, σ6)
    else
      some (0, σ)
  else
    if ¬ v2 = 0 then
      (P_X1_b a1 σ).bind fun v9 =>
      b2 (P_X5_begins v9 a2 a3 σ) fun v11 σ12 =>
      gZ v11 <|
      some (v11, σ12)
    else
      (P_X1_a a1 σ).bind fun v15 =>
      b2 (P_X5_begins v15 a2 a3 σ) fun v17 σ18 =>
      gZ v17 <|
      some (v17, σ18)
set_option maxHeartbeats 4000000 in
set_option maxRecDepth 100000 in
theorem T_X5_takesOfBoth {X : XE} {σf : SS} {r : Int32} {σ : SS} {a1 : Int32} {a2 : Int32} {a3 : Int32} (h : P_X5_takesOfBoth a1 a2 a3 σ = some (r, σf)) : Mt (gX X) 4 yX5_takesOfBoth cX5_takesOfBoth 5 (some .boolean) [.ref (xq X 6), .int a1, .int a2, .int a3] σ (some (.int r)) σf := by
  refine Mt.of (own := RX5) (lv := [(0, .ref (xq X 6)), (1, .int a1), (2, .int a2), (3, .int a3)]) pn_X5 rfl (Nat.le_of_ble_eq_true rfl) rfl ?_
  unfold P_X5_takesOfBoth at h
  refine r_aload_n 0 dX5_takesOfBoth_0 rfl rfl rfl ?_
  refine gf_X5_27_6 dX5_takesOfBoth_1 rfl ?_
  refine r_aload_n 0 dX5_takesOfBoth_4 rfl rfl rfl ?_
  refine gf_X5_61_6 dX5_takesOfBoth_5 rfl ?_
  obtain ⟨v2, e1, h⟩ := bd h
  refine r_callS (As := [.ref (xq X 30), .int (sI σ 11)]) (rest := []) (T_X6_at_30 e1) (by decide) mf_X6_at rfl tw_446 tw_760 rfl (Nat.le_of_ble_eq_true rfl) dX5_takesOfBoth_8 rfl ?_
  refine r_call0 ?_
  refine r_istore (lv' := [(4, .int v2), (0, .ref (xq X 6)), (1, .int a1), (2, .int a2), (3, .int a3)]) dX5_takesOfBoth_11 (by decide) rfl rfl ?_
  refine r_iload 0 dX5_takesOfBoth_13 rfl rfl ?_
  refine ric_2 dX5_takesOfBoth_15 rfl ?_
  refine r_icmp_ge (t := 50) dX5_takesOfBoth_16 (by decide) rfl (fun c3 => ?_) (fun c3 => ?_)
  · have h := it_t c3 h
    refine r_iload_n 3 dX5_takesOfBoth_50 rfl rfl rfl ?_
    refine r_bipush (v := 41) dX5_takesOfBoth_51 (by decide) rfl ?_
    refine r_icmp_eq (t := 58) dX5_takesOfBoth_53 (by decide) rfl (fun c4 => ?_) (fun c4 => ?_)
    · have h := it_t c4 h
      refine r_aload_n 1 dX5_takesOfBoth_58 rfl rfl rfl ?_
      refine r_aload_n 1 dX5_takesOfBoth_59 rfl rfl rfl ?_
      refine gf_X5_61_6 dX5_takesOfBoth_60 rfl ?_
      obtain ⟨σ6, e5, h⟩ := bd h
      refine r_callV (rest := []) (T_X5_finish e5) (by decide) mf_X5_finish rfl tw_754 tw_20 tw_752 cX_6 rfl rfl rfl (Nat.le_of_ble_eq_true rfl) dX5_takesOfBoth_63 rfl ?_
      refine r_calln ?_
      refine ric_1 dX5_takesOfBoth_66 rfl ?_
      exact r_zretQ (Or.inr rfl) dX5_takesOfBoth_67 h
    · have h := it_f c4 h
      refine ric_0 dX5_takesOfBoth_56 rfl ?_
      exact r_zretQ (Or.inl rfl) dX5_takesOfBoth_57 h
  · have h := it_f c3 h
    refine r_aload_n 1 dX5_takesOfBoth_19 rfl rfl rfl ?_
    refine r_iload 0 dX5_takesOfBoth_20 rfl rfl ?_
    refine r_if_ne (t := 36) dX5_takesOfBoth_22 (by decide) rfl (fun c7 => ?_) (fun c7 => ?_)
    · have h := it_t c7 h
      refine r_aload_n 1 dX5_takesOfBoth_36 rfl rfl rfl ?_
      refine gf_X5_30_6 dX5_takesOfBoth_37 rfl ?_
      refine r_iload_n 2 dX5_takesOfBoth_40 rfl rfl rfl ?_
      obtain ⟨v9, e8, h⟩ := bd h
      refine r_callV (rest := [.ref (xq X 6)]) (T_X1_b e8) (by decide) mf_X1_b rfl tw_428 tw_429 tw_748 cX_1 rfl rfl rfl (Nat.le_of_ble_eq_true rfl) dX5_takesOfBoth_41 rfl ?_
      refine r_call0 ?_
      refine r_iload_n 3 dX5_takesOfBoth_44 rfl rfl rfl ?_
      refine r_iload_n 4 dX5_takesOfBoth_45 rfl rfl rfl ?_
      obtain ⟨v11, σ12, e10, h⟩ := b2d h
      refine r_callV (rest := []) (T_X5_begins e10) (by decide) mf_X5_begins rfl tw_741 tw_18 tw_739 cX_6 rfl rfl rfl (Nat.le_of_ble_eq_true rfl) dX5_takesOfBoth_46 rfl ?_
      refine r_call0 ?_
      obtain ⟨hz13, h⟩ := gz h
      exact r_zretQ hz13 dX5_takesOfBoth_49 h
    · have h := it_n c7 h
      refine r_aload_n 1 dX5_takesOfBoth_25 rfl rfl rfl ?_
      refine gf_X5_30_6 dX5_takesOfBoth_26 rfl ?_
      refine r_iload_n 2 dX5_takesOfBoth_29 rfl rfl rfl ?_
      obtain ⟨v15, e14, h⟩ := bd h
      refine r_callV (rest := [.ref (xq X 6)]) (T_X1_a e14) (by decide) mf_X1_a rfl tw_424 tw_425 tw_751 cX_1 rfl rfl rfl (Nat.le_of_ble_eq_true rfl) dX5_takesOfBoth_30 rfl ?_
      refine r_call0 ?_
      refine r_goto (t := 44) dX5_takesOfBoth_33 (by decide) ?_
      refine r_iload_n 3 dX5_takesOfBoth_44 rfl rfl rfl ?_
      refine r_iload_n 4 dX5_takesOfBoth_45 rfl rfl rfl ?_
      obtain ⟨v17, σ18, e16, h⟩ := b2d h
      refine r_callV (rest := []) (T_X5_begins e16) (by decide) mf_X5_begins rfl tw_741 tw_18 tw_739 cX_6 rfl rfl rfl (Nat.le_of_ble_eq_true rfl) dX5_takesOfBoth_46 rfl ?_
      refine r_call0 ?_
      obtain ⟨hz19, h⟩ := gz h
      exact r_zretQ hz19 dX5_takesOfBoth_49 h
def P_X5_takes_j129 (x1 : Int32) (x2 : Int32) (x3 : Int32) (y0 : Int32) (σ : SS) : Option (Int32 × SS) :=
  if y0 = 0 then
    (P_X1_b x3 σ).bind fun v3 =>
    b2 (P_X5_begins v3 x1 x2 σ) fun v5 σ6 =>
    gZ v5 <|
    some (v5, σ6)
  else
    (P_X1_a x3 σ).bind fun v9 =>
    b2 (P_X5_begins v9 x1 x2 σ) fun v11 σ12 =>
    gZ v11 <|
    some (v11, σ12)
set_option maxHeartbeats 4000000 in
set_option maxRecDepth 100000 in
theorem T_X5_takes_j129 {X : XE} {σf : SS} {r : Int32} : ∀ (x1 : Int32) (x2 : Int32) (x3 : Int32) (y0 : Int32) (σ : SS), P_X5_takes_j129 x1 x2 x3 y0 σ = some (r, σf) → V (gX X) 5 RX5 cX5_takes 6 (some .boolean) (some (.int r)) σf 129 [(0, .ref (xq X 6)), (1, .int x1), (2, .int x2), (3, .int x3)] [.int y0] σ := by
  intro x1 x2 x3 y0 σ h
  unfold P_X5_takes_j129 at h
  refine r_istore (lv' := [(5, .int y0), (0, .ref (xq X 6)), (1, .int x1), (2, .int x2), (3, .int x3)]) dX5_takes_129 (by decide) rfl rfl ?_
  refine r_aload_n 1 dX5_takes_131 rfl rfl rfl ?_
  refine r_iload 0 dX5_takes_132 rfl rfl ?_
  refine r_if_eq (t := 148) dX5_takes_134 (by decide) rfl (fun c1 => ?_) (fun c1 => ?_)
  · have h := it_t c1 h
    refine r_aload_n 1 dX5_takes_148 rfl rfl rfl ?_
    refine gf_X5_30_6 dX5_takes_149 rfl ?_
    refine r_iload_n 4 dX5_takes_152 rfl rfl rfl ?_
    obtain ⟨v3, e2, h⟩ := bd h
    refine r_callV (rest := [.ref (xq X 6)]) (T_X1_b e2) (by decide) mf_X1_b rfl tw_428 tw_429 tw_748 cX_1 rfl rfl rfl (Nat.le_of_ble_eq_true rfl) dX5_takes_153 rfl ?_
    refine r_call0 ?_
    refine r_iload_n 2 dX5_takes_156 rfl rfl rfl ?_
    refine r_iload_n 3 dX5_takes_157 rfl rfl rfl ?_
    obtain ⟨v5, σ6, e4, h⟩ := b2d h
    refine r_callV (rest := []) (T_X5_begins e4) (by decide) mf_X5_begins rfl tw_741 tw_18 tw_739 cX_6 rfl rfl rfl (Nat.le_of_ble_eq_true rfl) dX5_takes_158 rfl ?_
    refine r_call0 ?_
    obtain ⟨hz7, h⟩ := gz h
    exact r_zretQ hz7 dX5_takes_161 h
  · have h := it_f c1 h
    refine r_aload_n 1 dX5_takes_137 rfl rfl rfl ?_
    refine gf_X5_30_6 dX5_takes_138 rfl ?_
    refine r_iload_n 4 dX5_takes_141 rfl rfl rfl ?_
    obtain ⟨v9, e8, h⟩ := bd h
    refine r_callV (rest := [.ref (xq X 6)]) (T_X1_a e8) (by decide) mf_X1_a rfl tw_424 tw_425 tw_751 cX_1 rfl rfl rfl (Nat.le_of_ble_eq_true rfl) dX5_takes_142 rfl ?_
    refine r_call0 ?_
    refine r_goto (t := 156) dX5_takes_145 (by decide) ?_
    refine r_iload_n 2 dX5_takes_156 rfl rfl rfl ?_
    refine r_iload_n 3 dX5_takes_157 rfl rfl rfl ?_
    obtain ⟨v11, σ12, e10, h⟩ := b2d h
    refine r_callV (rest := []) (T_X5_begins e10) (by decide) mf_X5_begins rfl tw_741 tw_18 tw_739 cX_6 rfl rfl rfl (Nat.le_of_ble_eq_true rfl) dX5_takes_158 rfl ?_
    refine r_call0 ?_
    obtain ⟨hz13, h⟩ := gz h
    exact r_zretQ hz13 dX5_takes_161 h
def P_X5_takes_j191 (x1 : Int32) (x2 : Int32) (x3 : Int32) (x4 : Int32) (σ : SS) : Option (Int32 × SS) :=
  (P_X6_at___C x4).bind fun v2 =>
  if ¬ x1 = v2 then
    (P_X1_a x3 σ).bind fun v5 =>
    b2 (P_X5_begins v5 x1 x2 σ) fun v7 σ8 =>
    gZ v7 <|
    some (v7, σ8)
  else
    (P_X5_finish (sI σ 11) σ).bind fun σ11 =>
    some (1, σ11)
set_option maxHeartbeats 4000000 in
set_option maxRecDepth 100000 in
theorem T_X5_takes_j191 {X : XE} {σf : SS} {r : Int32} : ∀ (x1 : Int32) (x2 : Int32) (x3 : Int32) (x4 : Int32) (σ : SS), P_X5_takes_j191 x1 x2 x3 x4 σ = some (r, σf) → V (gX X) 5 RX5 cX5_takes 6 (some .boolean) (some (.int r)) σf 191 [(0, .ref (xq X 6)), (1, .int x1), (2, .int x2), (3, .int x3), (4, .int x4)] [] σ := by
  intro x1 x2 x3 x4 σ h
  unfold P_X5_takes_j191 at h
  refine r_iload_n 1 dX5_takes_191 rfl rfl rfl ?_
  refine r_getsC (fun u h => h.2.2.2.1) dX5_takes_192 rfl ?_
  refine r_iload 4 dX5_takes_195 rfl rfl ?_
  obtain ⟨v2, e1, h⟩ := bd h
  refine r_callS (As := [.ref (gC (gX X)), .int x4]) (rest := [.int x1]) (T_X6_at___C e1) (by decide) mf_X6_at__ rfl tw_670 tw_750 rfl (Nat.le_of_ble_eq_true rfl) dX5_takes_197 rfl ?_
  refine r_call0 ?_
  refine r_icmp_ne (t := 213) dX5_takes_200 (by decide) rfl (fun c3 => ?_) (fun c3 => ?_)
  · have h := it_t c3 h
    refine r_aload_n 0 dX5_takes_213 rfl rfl rfl ?_
    refine r_aload_n 0 dX5_takes_214 rfl rfl rfl ?_
    refine gf_X5_30_6 dX5_takes_215 rfl ?_
    refine r_iload_n 3 dX5_takes_218 rfl rfl rfl ?_
    obtain ⟨v5, e4, h⟩ := bd h
    refine r_callV (rest := [.ref (xq X 6)]) (T_X1_a e4) (by decide) mf_X1_a rfl tw_424 tw_425 tw_751 cX_1 rfl rfl rfl (Nat.le_of_ble_eq_true rfl) dX5_takes_219 rfl ?_
    refine r_call0 ?_
    refine r_iload_n 1 dX5_takes_222 rfl rfl rfl ?_
    refine r_iload_n 2 dX5_takes_223 rfl rfl rfl ?_
    obtain ⟨v7, σ8, e6, h⟩ := b2d h
    refine r_callV (rest := []) (T_X5_begins e6) (by decide) mf_X5_begins rfl tw_741 tw_18 tw_739 cX_6 rfl rfl rfl (Nat.le_of_ble_eq_true rfl) dX5_takes_224 rfl ?_
    refine r_call0 ?_
    obtain ⟨hz9, h⟩ := gz h
    exact r_zretQ hz9 dX5_takes_227 h
  · have h := it_n c3 h
    refine r_aload_n 0 dX5_takes_203 rfl rfl rfl ?_
    refine r_aload_n 0 dX5_takes_204 rfl rfl rfl ?_
    refine gf_X5_61_6 dX5_takes_205 rfl ?_
    obtain ⟨σ11, e10, h⟩ := bd h
    refine r_callV (rest := []) (T_X5_finish e10) (by decide) mf_X5_finish rfl tw_754 tw_20 tw_752 cX_6 rfl rfl rfl (Nat.le_of_ble_eq_true rfl) dX5_takes_208 rfl ?_
    refine r_calln ?_
    refine ric_1 dX5_takes_211 rfl ?_
    exact r_zretQ (Or.inr rfl) dX5_takes_212 h
def P_X5_takes (a1 : Int32) (a2 : Int32) (σ : SS) : Option (Int32 × SS) :=
  if ¬ (sI σ 11) = (-1) then
    (P_X5_shapeAt (sI σ 11) σ).bind fun v3 =>
    (P_X1_kind v3 σ).bind fun v5 =>
    if v5 = 2 then
      b2 (P_X5_takesOfBoth v3 a1 a2 σ) fun v8 σ9 =>
      gZ v8 <|
      some (v8, σ9)
    else
      if v5 = 3 then
        (P_X5_placeAt (sI σ 11) σ).bind fun v13 =>
        (P_X0_at_8 v13 σ).bind fun v15 =>
        if ¬ v15 = 49 then
          P_X5_takes_j129 a1 a2 v3 0 σ
        else
          P_X5_takes_j129 a1 a2 v3 1 σ
      else
        if v5 = 4 then
          P_X5_takes_j191 a1 a2 v3 v5 σ
        else
          if v5 = 5 then
            P_X5_takes_j191 a1 a2 v3 v5 σ
          else
            if v5 = 6 then
              P_X5_takes_j191 a1 a2 v3 v5 σ
            else
              if v5 = 7 then
                (P_X1_a v3 σ).bind fun v22 =>
                b2 (P_X5_begins v22 a1 a2 σ) fun v24 σ25 =>
                gZ v24 <|
                some (v24, σ25)
              else
                if v5 = 8 then
                  (P_X1_a v3 σ).bind fun v29 =>
                  b2 (P_X5_takesLetter v29 a1 σ) fun v31 σ32 =>
                  gZ v31 <|
                  some (v31, σ32)
                else
                  P_X5_takes_j191 a1 a2 v3 v5 σ
  else
    if ¬ (sI σ 10) = 0 then
      some (0, σ)
    else
      b2 (P_X5_begins (sI σ 12) a1 a2 σ) fun v36 σ37 =>
      if v36 = 0 then
        some (0, σ37)
      else
        some (1, σ37)
set_option maxHeartbeats 4000000 in
set_option maxRecDepth 100000 in
theorem T_X5_takes {X : XE} {σf : SS} {r : Int32} {σ : SS} {a1 : Int32} {a2 : Int32} (h : P_X5_takes a1 a2 σ = some (r, σf)) : Mt (gX X) 5 yX5_takes cX5_takes 6 (some .boolean) [.ref (xq X 6), .int a1, .int a2] σ (some (.int r)) σf := by
  refine Mt.of (own := RX5) (lv := [(0, .ref (xq X 6)), (1, .int a1), (2, .int a2)]) pn_X5 rfl (Nat.le_of_ble_eq_true rfl) rfl ?_
  unfold P_X5_takes at h
  refine r_aload_n 0 dX5_takes_0 rfl rfl rfl ?_
  refine gf_X5_61_6 dX5_takes_1 rfl ?_
  refine ric_m1 dX5_takes_4 rfl ?_
  refine r_icmp_ne (t := 34) dX5_takes_5 (by decide) rfl (fun c1 => ?_) (fun c1 => ?_)
  · have h := it_t c1 h
    refine r_aload_n 0 dX5_takes_34 rfl rfl rfl ?_
    refine r_aload_n 0 dX5_takes_35 rfl rfl rfl ?_
    refine gf_X5_61_6 dX5_takes_36 rfl ?_
    obtain ⟨v3, e2, h⟩ := bd h
    refine r_callV (rest := []) (T_X5_shapeAt e2) (by decide) mf_X5_shapeAt rfl tw_762 tw_763 tw_761 cX_6 rfl rfl rfl (Nat.le_of_ble_eq_true rfl) dX5_takes_39 rfl ?_
    refine r_call0 ?_
    refine r_istore_n (lv' := [(3, .int v3), (0, .ref (xq X 6)), (1, .int a1), (2, .int a2)]) dX5_takes_42 rfl (by decide) rfl rfl ?_
    refine r_aload_n 1 dX5_takes_43 rfl rfl rfl ?_
    refine gf_X5_30_6 dX5_takes_44 rfl ?_
    refine r_iload_n 0 dX5_takes_47 rfl rfl rfl ?_
    obtain ⟨v5, e4, h⟩ := bd h
    refine r_callV (rest := []) (T_X1_kind e4) (by decide) mf_X1_kind rfl tw_420 tw_421 tw_743 cX_1 rfl rfl rfl (Nat.le_of_ble_eq_true rfl) dX5_takes_48 rfl ?_
    refine r_call0 ?_
    refine r_istore (lv' := [(4, .int v5), (3, .int v3), (0, .ref (xq X 6)), (1, .int a1), (2, .int a2)]) dX5_takes_51 (by decide) rfl rfl ?_
    refine r_iload 0 dX5_takes_53 rfl rfl ?_
    by_cases c6 : v5 = 2
    · have h := it_t c6 h
      refine r_tableIn (t := 96) dX5_takes_55 (by rw [c6]; decide) (by rw [c6]; decide) (by rw [c6]; rfl) (by decide) ?_
      refine r_aload_n 2 dX5_takes_96 rfl rfl rfl ?_
      refine r_iload_n 1 dX5_takes_97 rfl rfl rfl ?_
      refine r_iload_n 3 dX5_takes_98 rfl rfl rfl ?_
      refine r_iload_n 4 dX5_takes_99 rfl rfl rfl ?_
      obtain ⟨v8, σ9, e7, h⟩ := b2d h
      refine r_callV (rest := []) (T_X5_takesOfBoth e7) (by decide) mf_X5_takesOfBoth rfl tw_767 tw_21 tw_765 cX_6 rfl rfl rfl (Nat.le_of_ble_eq_true rfl) dX5_takes_100 rfl ?_
      refine r_call0 ?_
      obtain ⟨hz10, h⟩ := gz h
      exact r_zretQ hz10 dX5_takes_103 h
    · have h := it_f c6 h
      by_cases c11 : v5 = 3
      · have h := it_t c11 h
        refine r_tableIn (t := 104) dX5_takes_55 (by rw [c11]; decide) (by rw [c11]; decide) (by rw [c11]; rfl) (by decide) ?_
        refine r_aload_n 2 dX5_takes_104 rfl rfl rfl ?_
        refine gf_X5_34_6 dX5_takes_105 rfl ?_
        refine r_aload_n 2 dX5_takes_108 rfl rfl rfl ?_
        refine r_aload_n 2 dX5_takes_109 rfl rfl rfl ?_
        refine gf_X5_61_6 dX5_takes_110 rfl ?_
        obtain ⟨v13, e12, h⟩ := bd h
        refine r_callV (rest := [.ref (xq X 8)]) (T_X5_placeAt e12) (by decide) mf_X5_placeAt rfl tw_770 tw_771 tw_769 cX_6 rfl rfl rfl (Nat.le_of_ble_eq_true rfl) dX5_takes_113 rfl ?_
        refine r_call0 ?_
        obtain ⟨v15, e14, h⟩ := bd h
        refine r_callV (rest := []) (T_X0_at_8 e14) (by decide) mf_X0_at rfl tw_698 tw_699 tw_734 cX_8 rfl rfl rfl (Nat.le_of_ble_eq_true rfl) dX5_takes_116 rfl ?_
        refine r_call0 ?_
        refine r_bipush (v := 49) dX5_takes_119 (by decide) rfl ?_
        refine r_icmp_ne (t := 128) dX5_takes_121 (by decide) rfl (fun c16 => ?_) (fun c16 => ?_)
        · have h := it_t c16 h
          refine ric_0 dX5_takes_128 rfl ?_
          refine r_sub [2, 3, 4, 1] rfl ?_
          exact T_X5_takes_j129 a1 a2 v3 0 σ h
        · have h := it_n c16 h
          refine ric_1 dX5_takes_124 rfl ?_
          refine r_goto (t := 129) dX5_takes_125 (by decide) ?_
          refine r_sub [2, 3, 4, 1] rfl ?_
          exact T_X5_takes_j129 a1 a2 v3 1 σ h
      · have h := it_f c11 h
        by_cases c17 : v5 = 4
        · have h := it_t c17 h
          refine r_tableIn (t := 191) dX5_takes_55 (by rw [c17]; decide) (by rw [c17]; decide) (by rw [c17]; rfl) (by decide) ?_
          refine r_sub [2, 3, 4, 1, 0] rfl ?_
          exact T_X5_takes_j191 a1 a2 v3 v5 σ h
        · have h := it_f c17 h
          by_cases c18 : v5 = 5
          · have h := it_t c18 h
            refine r_tableIn (t := 191) dX5_takes_55 (by rw [c18]; decide) (by rw [c18]; decide) (by rw [c18]; rfl) (by decide) ?_
            refine r_sub [2, 3, 4, 1, 0] rfl ?_
            exact T_X5_takes_j191 a1 a2 v3 v5 σ h
          · have h := it_f c18 h
            by_cases c19 : v5 = 6
            · have h := it_t c19 h
              refine r_tableIn (t := 191) dX5_takes_55 (by rw [c19]; decide) (by rw [c19]; decide) (by rw [c19]; rfl) (by decide) ?_
              refine r_sub [2, 3, 4, 1, 0] rfl ?_
              exact T_X5_takes_j191 a1 a2 v3 v5 σ h
            · have h := it_f c19 h
              by_cases c20 : v5 = 7
              · have h := it_t c20 h
                refine r_tableIn (t := 162) dX5_takes_55 (by rw [c20]; decide) (by rw [c20]; decide) (by rw [c20]; rfl) (by decide) ?_
                refine r_aload_n 2 dX5_takes_162 rfl rfl rfl ?_
                refine r_aload_n 2 dX5_takes_163 rfl rfl rfl ?_
                refine gf_X5_30_6 dX5_takes_164 rfl ?_
                refine r_iload_n 1 dX5_takes_167 rfl rfl rfl ?_
                obtain ⟨v22, e21, h⟩ := bd h
                refine r_callV (rest := [.ref (xq X 6)]) (T_X1_a e21) (by decide) mf_X1_a rfl tw_424 tw_425 tw_751 cX_1 rfl rfl rfl (Nat.le_of_ble_eq_true rfl) dX5_takes_168 rfl ?_
                refine r_call0 ?_
                refine r_iload_n 3 dX5_takes_171 rfl rfl rfl ?_
                refine r_iload_n 4 dX5_takes_172 rfl rfl rfl ?_
                obtain ⟨v24, σ25, e23, h⟩ := b2d h
                refine r_callV (rest := []) (T_X5_begins e23) (by decide) mf_X5_begins rfl tw_741 tw_18 tw_739 cX_6 rfl rfl rfl (Nat.le_of_ble_eq_true rfl) dX5_takes_173 rfl ?_
                refine r_call0 ?_
                obtain ⟨hz26, h⟩ := gz h
                exact r_zretQ hz26 dX5_takes_176 h
              · have h := it_f c20 h
                by_cases c27 : v5 = 8
                · have h := it_t c27 h
                  refine r_tableIn (t := 177) dX5_takes_55 (by rw [c27]; decide) (by rw [c27]; decide) (by rw [c27]; rfl) (by decide) ?_
                  refine r_aload_n 2 dX5_takes_177 rfl rfl rfl ?_
                  refine r_aload_n 2 dX5_takes_178 rfl rfl rfl ?_
                  refine gf_X5_30_6 dX5_takes_179 rfl ?_
                  refine r_iload_n 1 dX5_takes_182 rfl rfl rfl ?_
                  obtain ⟨v29, e28, h⟩ := bd h
                  refine r_callV (rest := [.ref (xq X 6)]) (T_X1_a e28) (by decide) mf_X1_a rfl tw_424 tw_425 tw_751 cX_1 rfl rfl rfl (Nat.le_of_ble_eq_true rfl) dX5_takes_183 rfl ?_
                  refine r_call0 ?_
                  refine r_iload_n 3 dX5_takes_186 rfl rfl rfl ?_
                  obtain ⟨v31, σ32, e30, h⟩ := b2d h
                  refine r_callV (rest := []) (T_X5_takesLetter e30) (by decide) mf_X5_takesLetter rfl tw_775 tw_22 tw_773 cX_6 rfl rfl rfl (Nat.le_of_ble_eq_true rfl) dX5_takes_187 rfl ?_
                  refine r_call0 ?_
                  obtain ⟨hz33, h⟩ := gz h
                  exact r_zretQ hz33 dX5_takes_190 h
                · have h := it_f c27 h
                  refine r_tableOut (t := 191) dX5_takes_55 (by have z0 := neL c6 (z := 2) rfl; have z1 := neL c11 (z := 3) rfl; have z2 := neL c17 (z := 4) rfl; have z3 := neL c18 (z := 5) rfl; have z4 := neL c19 (z := 6) rfl; have z5 := neL c20 (z := 7) rfl; have z6 := neL c27 (z := 8) rfl; omega) (by decide) ?_
                  refine r_sub [2, 3, 4, 1, 0] rfl ?_
                  exact T_X5_takes_j191 a1 a2 v3 v5 σ h
  · have h := it_n c1 h
    refine r_aload_n 0 dX5_takes_8 rfl rfl rfl ?_
    refine gf_X5_45_6 dX5_takes_9 rfl ?_
    refine r_if_ne (t := 32) dX5_takes_12 (by decide) rfl (fun c34 => ?_) (fun c34 => ?_)
    · have h := it_t c34 h
      refine ric_0 dX5_takes_32 rfl ?_
      exact r_zretQ (Or.inl rfl) dX5_takes_33 h
    · have h := it_n c34 h
      refine r_aload_n 0 dX5_takes_15 rfl rfl rfl ?_
      refine r_aload_n 0 dX5_takes_16 rfl rfl rfl ?_
      refine gf_X5_58_6 dX5_takes_17 rfl ?_
      refine r_iload_n 1 dX5_takes_20 rfl rfl rfl ?_
      refine r_iload_n 2 dX5_takes_21 rfl rfl rfl ?_
      obtain ⟨v36, σ37, e35, h⟩ := b2d h
      refine r_callV (rest := []) (T_X5_begins e35) (by decide) mf_X5_begins rfl tw_741 tw_18 tw_739 cX_6 rfl rfl rfl (Nat.le_of_ble_eq_true rfl) dX5_takes_22 rfl ?_
      refine r_call0 ?_
      refine r_if_eq (t := 32) dX5_takes_25 (by decide) rfl (fun c38 => ?_) (fun c38 => ?_)
      · have h := it_t c38 h
        refine ric_0 dX5_takes_32 rfl ?_
        exact r_zretQ (Or.inl rfl) dX5_takes_33 h
      · have h := it_f c38 h
        refine ric_1 dX5_takes_28 rfl ?_
        refine r_goto (t := 33) dX5_takes_29 (by decide) ?_
        exact r_zretQ (Or.inr rfl) dX5_takes_33 h
