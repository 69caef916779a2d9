def P_X3_findEmpties_j46 (K7 : Int32 → SS → Option SS) (K15 : Int32 → Int32 → SS → Option SS) (x1 : Int32) (x2 : Int32) (σ : SS) : Option SS :=
  K15 x1 (x2 + 1) σ
set_option maxHeartbeats 4000000 in
set_option maxRecDepth 100000 in
theorem T_X3_findEmpties_j46 {X : XE} {σf : SS} {K7 : Int32 → SS → Option SS} {K15 : Int32 → Int32 → SS → Option SS} (hK7 : ∀ (x1 : Int32) (σ : SS), K7 x1 σ = some σf → V (gX X) 3 RX3 cX3_findEmpties 3 none none σf 7 [(0, .ref (xq X 3)), (1, .int x1)] [] σ) (hK15 : ∀ (x1 : Int32) (x2 : Int32) (σ : SS), K15 x1 x2 σ = some σf → V (gX X) 3 RX3 cX3_findEmpties 3 none none σf 15 [(0, .ref (xq X 3)), (1, .int x1), (2, .int x2)] [] σ) : ∀ (x1 : Int32) (x2 : Int32) (σ : SS), P_X3_findEmpties_j46 K7 K15 x1 x2 σ = some σf → V (gX X) 3 RX3 cX3_findEmpties 3 none none σf 46 [(0, .ref (xq X 3)), (1, .int x1), (2, .int x2)] [] σ := by
  intro x1 x2 σ h
  unfold P_X3_findEmpties_j46 at h
  refine r_iinc (v := (x2 + 1)) (lv' := [(2, .int (x2 + 1)), (0, .ref (xq X 3)), (1, .int x1)]) 2 dX3_findEmpties_46 rfl rfl (by decide) rfl rfl ?_
  refine r_goto (t := 15) dX3_findEmpties_49 (by decide) ?_
  refine r_sub [1, 2, 0] rfl ?_
  exact hK15 x1 (x2 + 1) σ h
def P_X3_findEmpties_j15 (K7 : Int32 → SS → Option SS) : Nat → Int32 → Int32 → SS → Option SS
  | 0, _, _, _ => none
  | n + 1, x1, x2, σ =>
    (P_X1_size σ).bind fun v2 =>
    if v2 ≤ x2 then
      K7 (x1 + 1) σ
    else
      (P_X3_canBeEmpty x2 σ).bind fun v5 =>
      if v5 = 0 then
        P_X3_findEmpties_j46 K7 (P_X3_findEmpties_j15 K7 n) x1 x2 σ
      else
        P_X3_findEmpties_j46 K7 (P_X3_findEmpties_j15 K7 n) x1 x2 (uI σ 7 ((sI σ 7) ||| ((1 : Int32) <<< (x2 &&& 31))))
set_option maxHeartbeats 4000000 in
set_option maxRecDepth 100000 in
theorem T_X3_findEmpties_j15 {X : XE} {σf : SS} {K7 : Int32 → SS → Option SS} (hK7 : ∀ (x1 : Int32) (σ : SS), K7 x1 σ = some σf → V (gX X) 3 RX3 cX3_findEmpties 3 none none σf 7 [(0, .ref (xq X 3)), (1, .int x1)] [] σ) : ∀ (fu : Nat) (x1 : Int32) (x2 : Int32) (σ : SS), P_X3_findEmpties_j15 K7 fu x1 x2 σ = some σf → V (gX X) 3 RX3 cX3_findEmpties 3 none none σf 15 [(0, .ref (xq X 3)), (1, .int x1), (2, .int x2)] [] σ := by
  intro fu
  induction fu with
  | zero => intro x1 x2 σ h; exact no0 h
  | succ n ih =>
    intro x1 x2 σ h
    unfold P_X3_findEmpties_j15 at h
    refine r_iload_n 2 dX3_findEmpties_15 rfl rfl rfl ?_
    refine r_aload_n 0 dX3_findEmpties_16 rfl rfl rfl ?_
    refine gf_X3_15_3 dX3_findEmpties_17 rfl ?_
    obtain ⟨v2, e1, h⟩ := bd h
    refine r_callV (rest := [.int x2]) (T_X1_size e1) (by decide) mf_X1_size rfl tw_387 tw_388 tw_465 cX_1 rfl rfl rfl (Nat.le_of_ble_eq_true rfl) dX3_findEmpties_20 rfl ?_
    refine r_call0 ?_
    refine r_icmp_ge (t := 52) dX3_findEmpties_23 (by decide) rfl (fun c3 => ?_) (fun c3 => ?_)
    · have h := it_t c3 h
      refine r_iinc (v := (x1 + 1)) (lv' := [(1, .int (x1 + 1)), (0, .ref (xq X 3)), (2, .int x2)]) 1 dX3_findEmpties_52 rfl rfl (by decide) rfl rfl ?_
      refine r_goto (t := 7) dX3_findEmpties_55 (by decide) ?_
      refine r_sub [1, 0] rfl ?_
      exact hK7 (x1 + 1) σ h
    · have h := it_f c3 h
      refine r_aload_n 0 dX3_findEmpties_26 rfl rfl rfl ?_
      refine r_iload_n 2 dX3_findEmpties_27 rfl rfl rfl ?_
      obtain ⟨v5, e4, h⟩ := bd h
      refine r_callV (rest := []) (T_X3_canBeEmpty e4) (by decide) mf_X3_canBeEmpty rfl tw_480 tw_3 tw_478 cX_3 rfl rfl rfl (Nat.le_of_ble_eq_true rfl) dX3_findEmpties_28 rfl ?_
      refine r_call0 ?_
      refine r_if_eq (t := 46) dX3_findEmpties_31 (by decide) rfl (fun c6 => ?_) (fun c6 => ?_)
      · have h := it_t c6 h
        exact T_X3_findEmpties_j46 hK7 ih x1 x2 σ h
      · have h := it_f c6 h
        refine r_aload_n 0 dX3_findEmpties_34 rfl rfl rfl ?_
        refine r_dup rfl dX3_findEmpties_35 rfl ?_
        refine gf_X3_66_3 dX3_findEmpties_36 rfl ?_
        refine ric_1 dX3_findEmpties_39 rfl ?_
        refine r_iload_n 2 dX3_findEmpties_40 rfl rfl rfl ?_
        refine r_ishl dX3_findEmpties_41 rfl ?_
        refine r_ior dX3_findEmpties_42 rfl ?_
        refine pf_X3_66_3 dX3_findEmpties_43 rfl ?_
        exact T_X3_findEmpties_j46 hK7 ih x1 x2 (uI σ 7 ((sI σ 7) ||| ((1 : Int32) <<< (x2 &&& 31)))) h
def P_X3_findEmpties_j7 : Nat → Int32 → SS → Option SS
  | 0, _, _ => none
  | n + 1, x1, σ =>
    if 16 ≤ x1 then
      some σ
    else
      P_X3_findEmpties_j15 (P_X3_findEmpties_j7 n) FU x1 0 σ
set_option maxHeartbeats 4000000 in
set_option maxRecDepth 100000 in
theorem T_X3_findEmpties_j7 {X : XE} {σf : SS} : ∀ (fu : Nat) (x1 : Int32) (σ : SS), P_X3_findEmpties_j7 fu x1 σ = some σf → V (gX X) 3 RX3 cX3_findEmpties 3 none none σf 7 [(0, .ref (xq X 3)), (1, .int x1)] [] σ := by
  intro fu
  induction fu with
  | zero => intro x1 σ h; exact no0 h
  | succ n ih =>
    intro x1 σ h
    unfold P_X3_findEmpties_j7 at h
    refine r_iload_n 1 dX3_findEmpties_7 rfl rfl rfl ?_
    refine r_bipush (v := 16) dX3_findEmpties_8 (by decide) rfl ?_
    refine r_icmp_ge (t := 58) dX3_findEmpties_10 (by decide) rfl (fun c1 => ?_) (fun c1 => ?_)
    · have h := it_t c1 h
      exact r_vretS dX3_findEmpties_58 h
    · have h := it_f c1 h
      refine ric_0 dX3_findEmpties_13 rfl ?_
      refine r_istore_n (lv' := [(2, .int 0), (0, .ref (xq X 3)), (1, .int x1)]) dX3_findEmpties_14 rfl (by decide) rfl rfl ?_
      refine r_sub [1, 2, 0] rfl ?_
      exact T_X3_findEmpties_j15 ih FU x1 0 σ h
def P_X3_findEmpties (σ : SS) : Option SS :=
  P_X3_findEmpties_j7 FU 0 (uI σ 7 0)
set_option maxHeartbeats 4000000 in
set_option maxRecDepth 100000 in
theorem T_X3_findEmpties {X : XE} {σf : SS} {σ : SS} (h : P_X3_findEmpties σ = some σf) : Mt (gX X) 3 yX3_findEmpties cX3_findEmpties 3 none [.ref (xq X 3)] σ none σf := by
  refine Mt.of (own := RX3) (lv := [(0, .ref (xq X 3))]) pn_X3 rfl (Nat.le_of_ble_eq_true rfl) rfl ?_
  unfold P_X3_findEmpties at h
  refine r_aload_n 0 dX3_findEmpties_0 rfl rfl rfl ?_
  refine ric_0 dX3_findEmpties_1 rfl ?_
  refine pf_X3_66_3 dX3_findEmpties_2 rfl ?_
  refine ric_0 dX3_findEmpties_5 rfl ?_
  refine r_istore_n (lv' := [(1, .int 0), (0, .ref (xq X 3))]) dX3_findEmpties_6 rfl (by decide) rfl rfl ?_
  refine r_sub [1, 0] rfl ?_
  exact T_X3_findEmpties_j7 FU 0 (uI σ 7 0) h
def P_X1_isBag (a1 : Int32) (σ : SS) : Option Int32 :=
  (P_X1_kind a1 σ).bind fun v2 =>
  if v2 = 5 then
    some 1
  else
    if ¬ v2 = 6 then
      some 0
    else
      some 1
set_option maxHeartbeats 4000000 in
set_option maxRecDepth 100000 in
theorem T_X1_isBag {X : XE} {σ : SS} {r : Int32} {a1 : Int32} (h : P_X1_isBag a1 σ = some r) : Mt (gX X) 1 yX1_isBag cX1_isBag 3 (some .boolean) [.ref (xq X 1), .int a1] σ (some (.int r)) σ := by
  refine Mt.of (own := RX1) (lv := [(0, .ref (xq X 1)), (1, .int a1)]) pn_X1 rfl (Nat.le_of_ble_eq_true rfl) rfl ?_
  unfold P_X1_isBag at h
  refine r_aload_n 0 dX1_isBag_0 rfl rfl rfl ?_
  refine r_iload_n 1 dX1_isBag_1 rfl rfl rfl ?_
  obtain ⟨v2, e1, h⟩ := bd h
  refine r_callV (rest := []) (T_X1_kind e1) (by decide) mf_X1_kind rfl tw_420 tw_421 tw_498 cX_1 rfl rfl rfl (Nat.le_of_ble_eq_true rfl) dX1_isBag_2 rfl ?_
  refine r_call0 ?_
  refine r_istore_n (lv' := [(2, .int v2), (0, .ref (xq X 1)), (1, .int a1)]) dX1_isBag_5 rfl (by decide) rfl rfl ?_
  refine r_iload_n 0 dX1_isBag_6 rfl rfl rfl ?_
  refine ric_5 dX1_isBag_7 rfl ?_
  refine r_icmp_eq (t := 17) dX1_isBag_8 (by decide) rfl (fun c3 => ?_) (fun c3 => ?_)
  · have h := it_t c3 h
    refine ric_1 dX1_isBag_17 rfl ?_
    refine r_goto (t := 22) dX1_isBag_18 (by decide) ?_
    exact r_zretR (Or.inr rfl) dX1_isBag_22 h
  · have h := it_f c3 h
    refine r_iload_n 0 dX1_isBag_11 rfl rfl rfl ?_
    refine r_bipush (v := 6) dX1_isBag_12 (by decide) rfl ?_
    refine r_icmp_ne (t := 21) dX1_isBag_14 (by decide) rfl (fun c4 => ?_) (fun c4 => ?_)
    · have h := it_t c4 h
      refine ric_0 dX1_isBag_21 rfl ?_
      exact r_zretR (Or.inl rfl) dX1_isBag_22 h
    · have h := it_n c4 h
      refine ric_1 dX1_isBag_17 rfl ?_
      refine r_goto (t := 22) dX1_isBag_18 (by decide) ?_
      exact r_zretR (Or.inr rfl) dX1_isBag_22 h
def P_X3_repeatsEmpty_j28 (σ : SS) (x1 : Int32) (y0 : Int32) : Option Int32 :=
  if y0 = 0 then
    some 0
  else
    (P_X1_a x1 σ).bind fun v3 =>
    (P_X3_isIn (sI σ 7) v3).bind fun v5 =>
    if v5 = 0 then
      some 0
    else
      some 1
set_option maxHeartbeats 4000000 in
set_option maxRecDepth 100000 in
theorem T_X3_repeatsEmpty_j28 {X : XE} {σ : SS} {r : Int32} : ∀ (x1 : Int32) (y0 : Int32), P_X3_repeatsEmpty_j28 σ x1 y0 = some r → V (gX X) 2 RX3 cX3_repeatsEmpty 3 (some .boolean) (some (.int r)) σ 28 [(0, .ref (xq X 3)), (1, .int x1)] [.int y0] σ := by
  intro x1 y0 h
  unfold P_X3_repeatsEmpty_j28 at h
  refine r_istore_n (lv' := [(2, .int y0), (0, .ref (xq X 3)), (1, .int x1)]) dX3_repeatsEmpty_28 rfl (by decide) rfl rfl ?_
  refine r_iload_n 0 dX3_repeatsEmpty_29 rfl rfl rfl ?_
  refine r_if_eq (t := 55) dX3_repeatsEmpty_30 (by decide) rfl (fun c1 => ?_) (fun c1 => ?_)
  · have h := it_t c1 h
    refine ric_0 dX3_repeatsEmpty_55 rfl ?_
    exact r_zretR (Or.inl rfl) dX3_repeatsEmpty_56 h
  · have h := it_f c1 h
    refine r_aload_n 1 dX3_repeatsEmpty_33 rfl rfl rfl ?_
    refine gf_X3_66_3 dX3_repeatsEmpty_34 rfl ?_
    refine r_aload_n 1 dX3_repeatsEmpty_37 rfl rfl rfl ?_
    refine gf_X3_15_3 dX3_repeatsEmpty_38 rfl ?_
    refine r_iload_n 2 dX3_repeatsEmpty_41 rfl rfl rfl ?_
    obtain ⟨v3, e2, h⟩ := bd h
    refine r_callV (rest := [.int (sI σ 7)]) (T_X1_a e2) (by decide) mf_X1_a rfl tw_424 tw_425 tw_471 cX_1 rfl rfl rfl (Nat.le_of_ble_eq_true rfl) dX3_repeatsEmpty_42 rfl ?_
    refine r_call0 ?_
    obtain ⟨v5, e4, h⟩ := bd h
    refine r_callS (As := [.int (sI σ 7), .int v3]) (rest := []) (T_X3_isIn e4) (by decide) mf_X3_isIn rfl tw_483 tw_482 rfl (Nat.le_of_ble_eq_true rfl) dX3_repeatsEmpty_45 rfl ?_
    refine r_call0 ?_
    refine r_if_eq (t := 55) dX3_repeatsEmpty_48 (by decide) rfl (fun c6 => ?_) (fun c6 => ?_)
    · have h := it_t c6 h
      refine ric_0 dX3_repeatsEmpty_55 rfl ?_
      exact r_zretR (Or.inl rfl) dX3_repeatsEmpty_56 h
    · have h := it_f c6 h
      refine ric_1 dX3_repeatsEmpty_51 rfl ?_
      refine r_goto (t := 56) dX3_repeatsEmpty_52 (by decide) ?_
      exact r_zretR (Or.inr rfl) dX3_repeatsEmpty_56 h
def P_X3_repeatsEmpty_j23 (σ : SS) (x1 : Int32) : Option Int32 :=
  P_X3_repeatsEmpty_j28 σ x1 1
set_option maxHeartbeats 4000000 in
set_option maxRecDepth 100000 in
theorem T_X3_repeatsEmpty_j23 {X : XE} {σ : SS} {r : Int32} : ∀ (x1 : Int32), P_X3_repeatsEmpty_j23 σ x1 = some r → V (gX X) 2 RX3 cX3_repeatsEmpty 3 (some .boolean) (some (.int r)) σ 23 [(0, .ref (xq X 3)), (1, .int x1)] [] σ := by
  intro x1 h
  unfold P_X3_repeatsEmpty_j23 at h
  refine ric_1 dX3_repeatsEmpty_23 rfl ?_
  refine r_goto (t := 28) dX3_repeatsEmpty_24 (by decide) ?_
  exact T_X3_repeatsEmpty_j28 x1 1 h
def P_X3_repeatsEmpty (a1 : Int32) (σ : SS) : Option Int32 :=
  (P_X1_kind a1 σ).bind fun v2 =>
  if v2 = 4 then
    P_X3_repeatsEmpty_j23 σ a1
  else
    (P_X1_isBag a1 σ).bind fun v5 =>
    if v5 = 0 then
      P_X3_repeatsEmpty_j28 σ a1 0
    else
      P_X3_repeatsEmpty_j23 σ a1
set_option maxHeartbeats 4000000 in
set_option maxRecDepth 100000 in
theorem T_X3_repeatsEmpty {X : XE} {σ : SS} {r : Int32} {a1 : Int32} (h : P_X3_repeatsEmpty a1 σ = some r) : Mt (gX X) 2 yX3_repeatsEmpty cX3_repeatsEmpty 3 (some .boolean) [.ref (xq X 3), .int a1] σ (some (.int r)) σ := by
  refine Mt.of (own := RX3) (lv := [(0, .ref (xq X 3)), (1, .int a1)]) pn_X3 rfl (Nat.le_of_ble_eq_true rfl) rfl ?_
  unfold P_X3_repeatsEmpty at h
  refine r_aload_n 0 dX3_repeatsEmpty_0 rfl rfl rfl ?_
  refine gf_X3_15_3 dX3_repeatsEmpty_1 rfl ?_
  refine r_iload_n 1 dX3_repeatsEmpty_4 rfl rfl rfl ?_
  obtain ⟨v2, e1, h⟩ := bd h
  refine r_callV (rest := []) (T_X1_kind e1) (by decide) mf_X1_kind rfl tw_420 tw_421 tw_470 cX_1 rfl rfl rfl (Nat.le_of_ble_eq_true rfl) dX3_repeatsEmpty_5 rfl ?_
  refine r_call0 ?_
  refine ric_4 dX3_repeatsEmpty_8 rfl ?_
  refine r_icmp_eq (t := 23) dX3_repeatsEmpty_9 (by decide) rfl (fun c3 => ?_) (fun c3 => ?_)
  · have h := it_t c3 h
    exact T_X3_repeatsEmpty_j23 a1 h
  · have h := it_f c3 h
    refine r_aload_n 0 dX3_repeatsEmpty_12 rfl rfl rfl ?_
    refine gf_X3_15_3 dX3_repeatsEmpty_13 rfl ?_
    refine r_iload_n 1 dX3_repeatsEmpty_16 rfl rfl rfl ?_
    obtain ⟨v5, e4, h⟩ := bd h
    refine r_callV (rest := []) (T_X1_isBag e4) (by decide) mf_X1_isBag rfl tw_495 tw_496 tw_494 cX_1 rfl rfl rfl (Nat.le_of_ble_eq_true rfl) dX3_repeatsEmpty_17 rfl ?_
    refine r_call0 ?_
    refine r_if_eq (t := 27) dX3_repeatsEmpty_20 (by decide) rfl (fun c6 => ?_) (fun c6 => ?_)
    · have h := it_t c6 h
      refine ric_0 dX3_repeatsEmpty_27 rfl ?_
      exact T_X3_repeatsEmpty_j28 a1 0 h
    · have h := it_f c6 h
      exact T_X3_repeatsEmpty_j23 a1 h
def P_X3_directNeeds_j82 (σ : SS) (x2 : Int32) (x3 : Int32) (y0 : Int32) : Option Int32 :=
  (P_X3_isIn (sI σ 7) x2).bind fun v2 =>
  if v2 = 0 then
    some (y0 ||| 0)
  else
    some (y0 ||| ((1 : Int32) <<< (x3 &&& 31)))
set_option maxHeartbeats 4000000 in
set_option maxRecDepth 100000 in
theorem T_X3_directNeeds_j82 {X : XE} {σ : SS} {r : Int32} : ∀ (x2 : Int32) (x3 : Int32) (y0 : Int32), P_X3_directNeeds_j82 σ x2 x3 y0 = some r → V (gX X) 1 RX3 cX3_directNeeds 4 (some .int) (some (.int r)) σ 82 [(0, .ref (xq X 3)), (2, .int x2), (3, .int x3)] [.int y0] σ := by
  intro x2 x3 y0 h
  unfold P_X3_directNeeds_j82 at h
  refine r_aload_n 0 dX3_directNeeds_82 rfl rfl rfl ?_
  refine gf_X3_66_3 dX3_directNeeds_83 rfl ?_
  refine r_iload_n 1 dX3_directNeeds_86 rfl rfl rfl ?_
  obtain ⟨v2, e1, h⟩ := bd h
  refine r_callS (As := [.int (sI σ 7), .int x2]) (rest := [.int y0]) (T_X3_isIn e1) (by decide) mf_X3_isIn rfl tw_483 tw_482 rfl (Nat.le_of_ble_eq_true rfl) dX3_directNeeds_87 rfl ?_
  refine r_call0 ?_
  refine r_if_eq (t := 99) dX3_directNeeds_90 (by decide) rfl (fun c3 => ?_) (fun c3 => ?_)
  · have h := it_t c3 h
    refine ric_0 dX3_directNeeds_99 rfl ?_
    refine r_ior dX3_directNeeds_100 rfl ?_
    exact r_iretR dX3_directNeeds_101 h
  · have h := it_f c3 h
    refine ric_1 dX3_directNeeds_93 rfl ?_
    refine r_iload_n 2 dX3_directNeeds_94 rfl rfl rfl ?_
    refine r_ishl dX3_directNeeds_95 rfl ?_
    refine r_goto (t := 100) dX3_directNeeds_96 (by decide) ?_
    refine r_ior dX3_directNeeds_100 rfl ?_
    exact r_iretR dX3_directNeeds_101 h
def P_X3_directNeeds (a1 : Int32) (σ : SS) : Option Int32 :=
  (P_X1_a a1 σ).bind fun v2 =>
  (P_X1_b a1 σ).bind fun v4 =>
  (P_X1_kind a1 σ).bind fun v6 =>
  if v6 = 2 then
    (P_X3_isIn (sI σ 7) v4).bind fun v9 =>
    if v9 = 0 then
      P_X3_directNeeds_j82 σ v2 v4 0
    else
      P_X3_directNeeds_j82 σ v2 v4 ((1 : Int32) <<< (v2 &&& 31))
  else
    if v6 = 3 then
      some (((1 : Int32) <<< (v2 &&& 31)) ||| ((1 : Int32) <<< (v4 &&& 31)))
    else
      if v6 = 4 then
        some ((1 : Int32) <<< (v2 &&& 31))
      else
        if v6 = 5 then
          some ((1 : Int32) <<< (v2 &&& 31))
        else
          if v6 = 6 then
            some ((1 : Int32) <<< (v2 &&& 31))
          else
            if v6 = 7 then
              some ((1 : Int32) <<< (v2 &&& 31))
            else
              some 0
set_option maxHeartbeats 4000000 in
set_option maxRecDepth 100000 in
theorem T_X3_directNeeds {X : XE} {σ : SS} {r : Int32} {a1 : Int32} (h : P_X3_directNeeds a1 σ = some r) : Mt (gX X) 1 yX3_directNeeds cX3_directNeeds 4 (some .int) [.ref (xq X 3), .int a1] σ (some (.int r)) σ := by
  refine Mt.of (own := RX3) (lv := [(0, .ref (xq X 3)), (1, .int a1)]) pn_X3 rfl (Nat.le_of_ble_eq_true rfl) rfl ?_
  unfold P_X3_directNeeds at h
  refine r_aload_n 0 dX3_directNeeds_0 rfl rfl rfl ?_
  refine gf_X3_15_3 dX3_directNeeds_1 rfl ?_
  refine r_iload_n 1 dX3_directNeeds_4 rfl rfl rfl ?_
  obtain ⟨v2, e1, h⟩ := bd h
  refine r_callV (rest := []) (T_X1_a e1) (by decide) mf_X1_a rfl tw_424 tw_425 tw_471 cX_1 rfl rfl rfl (Nat.le_of_ble_eq_true rfl) dX3_directNeeds_5 rfl ?_
  refine r_call0 ?_
  refine r_istore_n (lv' := [(2, .int v2), (0, .ref (xq X 3)), (1, .int a1)]) dX3_directNeeds_8 rfl (by decide) rfl rfl ?_
  refine r_aload_n 1 dX3_directNeeds_9 rfl rfl rfl ?_
  refine gf_X3_15_3 dX3_directNeeds_10 rfl ?_
  refine r_iload_n 2 dX3_directNeeds_13 rfl rfl rfl ?_
  obtain ⟨v4, e3, h⟩ := bd h
  refine r_callV (rest := []) (T_X1_b e3) (by decide) mf_X1_b rfl tw_428 tw_429 tw_473 cX_1 rfl rfl rfl (Nat.le_of_ble_eq_true rfl) dX3_directNeeds_14 rfl ?_
  refine r_call0 ?_
  refine r_istore_n (lv' := [(3, .int v4), (2, .int v2), (0, .ref (xq X 3)), (1, .int a1)]) dX3_directNeeds_17 rfl (by decide) rfl rfl ?_
  refine r_aload_n 2 dX3_directNeeds_18 rfl rfl rfl ?_
  refine gf_X3_15_3 dX3_directNeeds_19 rfl ?_
  refine r_iload_n 3 dX3_directNeeds_22 rfl rfl rfl ?_
  obtain ⟨v6, e5, h⟩ := bd h
  refine r_callV (rest := []) (T_X1_kind e5) (by decide) mf_X1_kind rfl tw_420 tw_421 tw_470 cX_1 rfl rfl rfl (Nat.le_of_ble_eq_true rfl) dX3_directNeeds_23 rfl ?_
  refine r_call0 ?_
  by_cases c7 : v6 = 2
  · have h := it_t c7 h
    refine r_tableIn (t := 64) dX3_directNeeds_26 (by rw [c7]; decide) (by rw [c7]; decide) (by rw [c7]; rfl) (by decide) ?_
    refine r_aload_n 2 dX3_directNeeds_64 rfl rfl rfl ?_
    refine gf_X3_66_3 dX3_directNeeds_65 rfl ?_
    refine r_iload_n 0 dX3_directNeeds_68 rfl rfl rfl ?_
    obtain ⟨v9, e8, h⟩ := bd h
    refine r_callS (As := [.int (sI σ 7), .int v4]) (rest := []) (T_X3_isIn e8) (by decide) mf_X3_isIn rfl tw_483 tw_482 rfl (Nat.le_of_ble_eq_true rfl) dX3_directNeeds_69 rfl ?_
    refine r_call0 ?_
    refine r_if_eq (t := 81) dX3_directNeeds_72 (by decide) rfl (fun c10 => ?_) (fun c10 => ?_)
    · have h := it_t c10 h
      refine ric_0 dX3_directNeeds_81 rfl ?_
      refine r_sub [2, 1, 0] rfl ?_
      exact T_X3_directNeeds_j82 v2 v4 0 h
    · have h := it_f c10 h
      refine ric_1 dX3_directNeeds_75 rfl ?_
      refine r_iload_n 1 dX3_directNeeds_76 rfl rfl rfl ?_
      refine r_ishl dX3_directNeeds_77 rfl ?_
      refine r_goto (t := 82) dX3_directNeeds_78 (by decide) ?_
      refine r_sub [2, 1, 0] rfl ?_
      exact T_X3_directNeeds_j82 v2 v4 ((1 : Int32) <<< (v2 &&& 31)) h
  · have h := it_f c7 h
    by_cases c11 : v6 = 3
    · have h := it_t c11 h
      refine r_tableIn (t := 102) dX3_directNeeds_26 (by rw [c11]; decide) (by rw [c11]; decide) (by rw [c11]; rfl) (by decide) ?_
      refine ric_1 dX3_directNeeds_102 rfl ?_
      refine r_iload_n 1 dX3_directNeeds_103 rfl rfl rfl ?_
      refine r_ishl dX3_directNeeds_104 rfl ?_
      refine ric_1 dX3_directNeeds_105 rfl ?_
      refine r_iload_n 0 dX3_directNeeds_106 rfl rfl rfl ?_
      refine r_ishl dX3_directNeeds_107 rfl ?_
      refine r_ior dX3_directNeeds_108 rfl ?_
      exact r_iretR dX3_directNeeds_109 h
    · have h := it_f c11 h
      by_cases c12 : v6 = 4
      · have h := it_t c12 h
        refine r_tableIn (t := 110) dX3_directNeeds_26 (by rw [c12]; decide) (by rw [c12]; decide) (by rw [c12]; rfl) (by decide) ?_
        refine ric_1 dX3_directNeeds_110 rfl ?_
        refine r_iload_n 1 dX3_directNeeds_111 rfl rfl rfl ?_
        refine r_ishl dX3_directNeeds_112 rfl ?_
        exact r_iretR dX3_directNeeds_113 h
      · have h := it_f c12 h
        by_cases c13 : v6 = 5
        · have h := it_t c13 h
          refine r_tableIn (t := 110) dX3_directNeeds_26 (by rw [c13]; decide) (by rw [c13]; decide) (by rw [c13]; rfl) (by decide) ?_
          refine ric_1 dX3_directNeeds_110 rfl ?_
          refine r_iload_n 1 dX3_directNeeds_111 rfl rfl rfl ?_
          refine r_ishl dX3_directNeeds_112 rfl ?_
          exact r_iretR dX3_directNeeds_113 h
        · have h := it_f c13 h
          by_cases c14 : v6 = 6
          · have h := it_t c14 h
            refine r_tableIn (t := 110) dX3_directNeeds_26 (by rw [c14]; decide) (by rw [c14]; decide) (by rw [c14]; rfl) (by decide) ?_
            refine ric_1 dX3_directNeeds_110 rfl ?_
            refine r_iload_n 1 dX3_directNeeds_111 rfl rfl rfl ?_
            refine r_ishl dX3_directNeeds_112 rfl ?_
            exact r_iretR dX3_directNeeds_113 h
          · have h := it_f c14 h
            by_cases c15 : v6 = 7
            · have h := it_t c15 h
              refine r_tableIn (t := 110) dX3_directNeeds_26 (by rw [c15]; decide) (by rw [c15]; decide) (by rw [c15]; rfl) (by decide) ?_
              refine ric_1 dX3_directNeeds_110 rfl ?_
              refine r_iload_n 1 dX3_directNeeds_111 rfl rfl rfl ?_
              refine r_ishl dX3_directNeeds_112 rfl ?_
              exact r_iretR dX3_directNeeds_113 h
            · have h := it_f c15 h
              refine r_tableOut (t := 114) dX3_directNeeds_26 (by have z0 := neL c7 (z := 2) rfl; have z1 := neL c11 (z := 3) rfl; have z2 := neL c12 (z := 4) rfl; have z3 := neL c13 (z := 5) rfl; have z4 := neL c14 (z := 6) rfl; have z5 := neL c15 (z := 7) rfl; omega) (by decide) ?_
              refine ric_0 dX3_directNeeds_114 rfl ?_
              exact r_iretR dX3_directNeeds_115 h
def P_X3_findNeeds_j33 (K2 : Int32 → SS → Option SS) (x1 : Int32) (y0 : Int32) (y1 : Int32) (σ : SS) : Option SS :=
  gI y1 16 <|
  K2 (x1 + 1) (stA σ 7 y1 y0)
set_option maxHeartbeats 4000000 in
set_option maxRecDepth 100000 in
theorem T_X3_findNeeds_j33 {X : XE} {σf : SS} {K2 : Int32 → SS → Option SS} (hK2 : ∀ (x1 : Int32) (σ : SS), K2 x1 σ = some σf → V (gX X) 2 RX3 cX3_findNeeds 3 none none σf 2 [(0, .ref (xq X 3)), (1, .int x1)] [] σ) : ∀ (x1 : Int32) (y0 : Int32) (y1 : Int32) (σ : SS), P_X3_findNeeds_j33 K2 x1 y0 y1 σ = some σf → V (gX X) 2 RX3 cX3_findNeeds 3 none none σf 33 [(0, .ref (xq X 3)), (1, .int x1)] [.int y0, .int y1, .ref (xq X 18)] σ := by
  intro x1 y0 y1 σ h
  unfold P_X3_findNeeds_j33 at h
  obtain ⟨hi1, h⟩ := gi h
  refine asX_18 hi1 dX3_findNeeds_33 rfl ?_
  refine r_iinc (v := (x1 + 1)) (lv' := [(1, .int (x1 + 1)), (0, .ref (xq X 3))]) 1 dX3_findNeeds_34 rfl rfl (by decide) rfl rfl ?_
  refine r_goto (t := 2) dX3_findNeeds_37 (by decide) ?_
  refine r_sub [1, 0] rfl ?_
  exact hK2 (x1 + 1) (stA σ 7 y1 y0) h
def P_X3_findNeeds_j84 (K42 : Int32 → SS → Option SS) (K50 : Int32 → Int32 → SS → Option SS) (x1 : Int32) (x2 : Int32) (σ : SS) : Option SS :=
  K50 x1 (x2 + 1) σ
set_option maxHeartbeats 4000000 in
set_option maxRecDepth 100000 in
theorem T_X3_findNeeds_j84 {X : XE} {σf : SS} {K42 : Int32 → SS → Option SS} {K50 : Int32 → Int32 → SS → Option SS} (hK42 : ∀ (x1 : Int32) (σ : SS), K42 x1 σ = some σf → V (gX X) 2 RX3 cX3_findNeeds 3 none none σf 42 [(0, .ref (xq X 3)), (1, .int x1)] [] σ) (hK50 : ∀ (x1 : Int32) (x2 : Int32) (σ : SS), K50 x1 x2 σ = some σf → V (gX X) 2 RX3 cX3_findNeeds 3 none none σf 50 [(0, .ref (xq X 3)), (1, .int x1), (2, .int x2)] [] σ) : ∀ (x1 : Int32) (x2 : Int32) (σ : SS), P_X3_findNeeds_j84 K42 K50 x1 x2 σ = some σf → V (gX X) 2 RX3 cX3_findNeeds 3 none none σf 84 [(0, .ref (xq X 3)), (1, .int x1), (2, .int x2)] [] σ := by
  intro x1 x2 σ h
  unfold P_X3_findNeeds_j84 at h
  refine r_iinc (v := (x2 + 1)) (lv' := [(2, .int (x2 + 1)), (0, .ref (xq X 3)), (1, .int x1)]) 2 dX3_findNeeds_84 rfl rfl (by decide) rfl rfl ?_
  refine r_goto (t := 50) dX3_findNeeds_87 (by decide) ?_
  refine r_sub [1, 2, 0] rfl ?_
  exact hK50 x1 (x2 + 1) σ h
def P_X3_findNeeds_j50 (K42 : Int32 → SS → Option SS) : Nat → Int32 → Int32 → SS → Option SS
  | 0, _, _, _ => none
  | n + 1, x1, x2, σ =>
    if 16 ≤ x2 then
      K42 (x1 + 1) σ
    else
      gI x2 16 <|
      (P_X3_isIn (ldA σ 7 x2) x1).bind fun v4 =>
      if v4 = 0 then
        P_X3_findNeeds_j84 K42 (P_X3_findNeeds_j50 K42 n) x1 x2 σ
      else
        gI x2 16 <|
        gI x1 16 <|
        gI x2 16 <|
        P_X3_findNeeds_j84 K42 (P_X3_findNeeds_j50 K42 n) x1 x2 (stA σ 7 x2 ((ldA σ 7 x2) ||| (ldA σ 7 x1)))
set_option maxHeartbeats 4000000 in
set_option maxRecDepth 100000 in
theorem T_X3_findNeeds_j50 {X : XE} {σf : SS} {K42 : Int32 → SS → Option SS} (hK42 : ∀ (x1 : Int32) (σ : SS), K42 x1 σ = some σf → V (gX X) 2 RX3 cX3_findNeeds 3 none none σf 42 [(0, .ref (xq X 3)), (1, .int x1)] [] σ) : ∀ (fu : Nat) (x1 : Int32) (x2 : Int32) (σ : SS), P_X3_findNeeds_j50 K42 fu x1 x2 σ = some σf → V (gX X) 2 RX3 cX3_findNeeds 3 none none σf 50 [(0, .ref (xq X 3)), (1, .int x1), (2, .int x2)] [] σ := by
  intro fu
  induction fu with
  | zero => intro x1 x2 σ h; exact no0 h
  | succ n ih =>
    intro x1 x2 σ h
    unfold P_X3_findNeeds_j50 at h
    refine r_iload_n 2 dX3_findNeeds_50 rfl rfl rfl ?_
    refine r_bipush (v := 16) dX3_findNeeds_51 (by decide) rfl ?_
    refine r_icmp_ge (t := 90) dX3_findNeeds_53 (by decide) rfl (fun c1 => ?_) (fun c1 => ?_)
    · have h := it_t c1 h
      refine r_iinc (v := (x1 + 1)) (lv' := [(1, .int (x1 + 1)), (0, .ref (xq X 3)), (2, .int x2)]) 1 dX3_findNeeds_90 rfl rfl (by decide) rfl rfl ?_
      refine r_goto (t := 42) dX3_findNeeds_93 (by decide) ?_
      refine r_sub [1, 0] rfl ?_
      exact hK42 (x1 + 1) σ h
    · have h := it_f c1 h
      refine r_aload_n 0 dX3_findNeeds_56 rfl rfl rfl ?_
      refine gf_X3_9_3 dX3_findNeeds_57 rfl ?_
      refine r_iload_n 2 dX3_findNeeds_60 rfl rfl rfl ?_
      obtain ⟨hi2, h⟩ := gi h
      refine alX_18 hi2 dX3_findNeeds_61 rfl ?_
      refine r_iload_n 1 dX3_findNeeds_62 rfl rfl rfl ?_
      obtain ⟨v4, e3, h⟩ := bd h
      refine r_callS (As := [.int (ldA σ 7 x2), .int x1]) (rest := []) (T_X3_isIn e3) (by decide) mf_X3_isIn rfl tw_483 tw_482 rfl (Nat.le_of_ble_eq_true rfl) dX3_findNeeds_63 rfl ?_
      refine r_call0 ?_
      refine r_if_eq (t := 84) dX3_findNeeds_66 (by decide) rfl (fun c5 => ?_) (fun c5 => ?_)
      · have h := it_t c5 h
        exact T_X3_findNeeds_j84 hK42 ih x1 x2 σ h
      · have h := it_f c5 h
        refine r_aload_n 0 dX3_findNeeds_69 rfl rfl rfl ?_
        refine gf_X3_9_3 dX3_findNeeds_70 rfl ?_
        refine r_iload_n 2 dX3_findNeeds_73 rfl rfl rfl ?_
        refine r_dup2_11 rfl rfl dX3_findNeeds_74 rfl ?_
        obtain ⟨hi6, h⟩ := gi h
        refine alX_18 hi6 dX3_findNeeds_75 rfl ?_
        refine r_aload_n 0 dX3_findNeeds_76 rfl rfl rfl ?_
        refine gf_X3_9_3 dX3_findNeeds_77 rfl ?_
        refine r_iload_n 1 dX3_findNeeds_80 rfl rfl rfl ?_
        obtain ⟨hi7, h⟩ := gi h
        refine alX_18 hi7 dX3_findNeeds_81 rfl ?_
        refine r_ior dX3_findNeeds_82 rfl ?_
        obtain ⟨hi8, h⟩ := gi h
        refine asX_18 hi8 dX3_findNeeds_83 rfl ?_
        exact T_X3_findNeeds_j84 hK42 ih x1 x2 (stA σ 7 x2 ((ldA σ 7 x2) ||| (ldA σ 7 x1))) h
def P_X3_findNeeds_j42 : Nat → Int32 → SS → Option SS
  | 0, _, _ => none
  | n + 1, x1, σ =>
    if 16 ≤ x1 then
      some σ
    else
      P_X3_findNeeds_j50 (P_X3_findNeeds_j42 n) FU x1 0 σ
set_option maxHeartbeats 4000000 in
set_option maxRecDepth 100000 in
theorem T_X3_findNeeds_j42 {X : XE} {σf : SS} : ∀ (fu : Nat) (x1 : Int32) (σ : SS), P_X3_findNeeds_j42 fu x1 σ = some σf → V (gX X) 2 RX3 cX3_findNeeds 3 none none σf 42 [(0, .ref (xq X 3)), (1, .int x1)] [] σ := by
  intro fu
  induction fu with
  | zero => intro x1 σ h; exact no0 h
  | succ n ih =>
    intro x1 σ h
    unfold P_X3_findNeeds_j42 at h
    refine r_iload_n 1 dX3_findNeeds_42 rfl rfl rfl ?_
    refine r_bipush (v := 16) dX3_findNeeds_43 (by decide) rfl ?_
    refine r_icmp_ge (t := 96) dX3_findNeeds_45 (by decide) rfl (fun c1 => ?_) (fun c1 => ?_)
    · have h := it_t c1 h
      exact r_vretS dX3_findNeeds_96 h
    · have h := it_f c1 h
      refine ric_0 dX3_findNeeds_48 rfl ?_
      refine r_istore_n (lv' := [(2, .int 0), (0, .ref (xq X 3)), (1, .int x1)]) dX3_findNeeds_49 rfl (by decide) rfl rfl ?_
      refine r_sub [1, 2, 0] rfl ?_
      exact T_X3_findNeeds_j50 ih FU x1 0 σ h
def P_X3_findNeeds_j2 : Nat → Int32 → SS → Option SS
  | 0, _, _ => none
  | n + 1, x1, σ =>
    if 16 ≤ x1 then
      P_X3_findNeeds_j42 FU 0 σ
    else
      (P_X1_has x1 σ).bind fun v3 =>
      if v3 = 0 then
        P_X3_findNeeds_j33 (P_X3_findNeeds_j2 n) x1 0 x1 σ
      else
        (P_X3_directNeeds x1 σ).bind fun v6 =>
        P_X3_findNeeds_j33 (P_X3_findNeeds_j2 n) x1 v6 x1 σ
set_option maxHeartbeats 4000000 in
set_option maxRecDepth 100000 in
theorem T_X3_findNeeds_j2 {X : XE} {σf : SS} : ∀ (fu : Nat) (x1 : Int32) (σ : SS), P_X3_findNeeds_j2 fu x1 σ = some σf → V (gX X) 2 RX3 cX3_findNeeds 3 none none σf 2 [(0, .ref (xq X 3)), (1, .int x1)] [] σ := by
  intro fu
  induction fu with
  | zero => intro x1 σ h; exact no0 h
  | succ n ih =>
    intro x1 σ h
    unfold P_X3_findNeeds_j2 at h
    refine r_iload_n 1 dX3_findNeeds_2 rfl rfl rfl ?_
    refine r_bipush (v := 16) dX3_findNeeds_3 (by decide) rfl ?_
    refine r_icmp_ge (t := 40) dX3_findNeeds_5 (by decide) rfl (fun c1 => ?_) (fun c1 => ?_)
    · have h := it_t c1 h
      refine ric_0 dX3_findNeeds_40 rfl ?_
      refine r_istore_n (lv' := [(1, .int 0), (0, .ref (xq X 3))]) dX3_findNeeds_41 rfl (by decide) rfl rfl ?_
      refine r_sub [1, 0] rfl ?_
      exact T_X3_findNeeds_j42 FU 0 σ h
    · have h := it_f c1 h
      refine r_aload_n 0 dX3_findNeeds_8 rfl rfl rfl ?_
      refine gf_X3_9_3 dX3_findNeeds_9 rfl ?_
      refine r_iload_n 1 dX3_findNeeds_12 rfl rfl rfl ?_
      refine r_aload_n 0 dX3_findNeeds_13 rfl rfl rfl ?_
      refine gf_X3_15_3 dX3_findNeeds_14 rfl ?_
      refine r_iload_n 1 dX3_findNeeds_17 rfl rfl rfl ?_
      obtain ⟨v3, e2, h⟩ := bd h
      refine r_callV (rest := [.int x1, .ref (xq X 18)]) (T_X1_has e2) (by decide) mf_X1_has rfl tw_416 tw_417 tw_472 cX_1 rfl rfl rfl (Nat.le_of_ble_eq_true rfl) dX3_findNeeds_18 rfl ?_
      refine r_call0 ?_
      refine r_if_eq (t := 32) dX3_findNeeds_21 (by decide) rfl (fun c4 => ?_) (fun c4 => ?_)
      · have h := it_t c4 h
        refine ric_0 dX3_findNeeds_32 rfl ?_
        exact T_X3_findNeeds_j33 ih x1 0 x1 σ h
      · have h := it_f c4 h
        refine r_aload_n 0 dX3_findNeeds_24 rfl rfl rfl ?_
        refine r_iload_n 1 dX3_findNeeds_25 rfl rfl rfl ?_
        obtain ⟨v6, e5, h⟩ := bd h
        refine r_callV (rest := [.int x1, .ref (xq X 18)]) (T_X3_directNeeds e5) (by decide) mf_X3_directNeeds rfl tw_505 tw_6 tw_503 cX_3 rfl rfl rfl (Nat.le_of_ble_eq_true rfl) dX3_findNeeds_26 rfl ?_
        refine r_call0 ?_
        refine r_goto (t := 33) dX3_findNeeds_29 (by decide) ?_
        exact T_X3_findNeeds_j33 ih x1 v6 x1 σ h
def P_X3_findNeeds (σ : SS) : Option SS :=
  P_X3_findNeeds_j2 FU 0 σ
set_option maxHeartbeats 4000000 in
set_option maxRecDepth 100000 in
theorem T_X3_findNeeds {X : XE} {σf : SS} {σ : SS} (h : P_X3_findNeeds σ = some σf) : Mt (gX X) 2 yX3_findNeeds cX3_findNeeds 3 none [.ref (xq X 3)] σ none σf := by
  refine Mt.of (own := RX3) (lv := [(0, .ref (xq X 3))]) pn_X3 rfl (Nat.le_of_ble_eq_true rfl) rfl ?_
  unfold P_X3_findNeeds at h
  refine ric_0 dX3_findNeeds_0 rfl ?_
  refine r_istore_n (lv' := [(1, .int 0), (0, .ref (xq X 3))]) dX3_findNeeds_1 rfl (by decide) rfl rfl ?_
  refine r_sub [1, 0] rfl ?_
  exact T_X3_findNeeds_j2 FU 0 σ h
def P_X6_at_18 (a1 : Int32) (σ : SS) : Option Int32 :=
  if a1 < 0 then
    some 0
  else
    if 16 ≤ a1 then
      some 0
    else
      gI a1 16 <|
      some (ldA σ 7 a1)
set_option maxHeartbeats 4000000 in
set_option maxRecDepth 100000 in
theorem T_X6_at_18 {X : XE} {σ : SS} {r : Int32} {a1 : Int32} (h : P_X6_at_18 a1 σ = some r) : Mt (gX X) 0 yX6_at cX6_at 2 (some .int) [.ref (xq X 18), .int a1] σ (some (.int r)) σ := by
  refine Mt.of (own := RX6) (lv := [(0, .ref (xq X 18)), (1, .int a1)]) pn_X6 rfl (Nat.le_of_ble_eq_true rfl) rfl ?_
  unfold P_X6_at_18 at h
  refine r_iload_n 1 dX6_at_0 rfl rfl rfl ?_
  refine r_if_lt (t := 16) dX6_at_1 (by decide) rfl (fun c1 => ?_) (fun c1 => ?_)
  · have h := it_t c1 h
    refine ric_0 dX6_at_16 rfl ?_
    exact r_iretR dX6_at_17 h
  · have h := it_f c1 h
    refine r_iload_n 1 dX6_at_4 rfl rfl rfl ?_
    refine r_aload_n 0 dX6_at_5 rfl rfl rfl ?_
    refine anX_18 dX6_at_6 rfl ?_
    refine r_icmp_ge (t := 16) dX6_at_7 (by decide) rfl (fun c2 => ?_) (fun c2 => ?_)
    · have h := it_t c2 h
      refine ric_0 dX6_at_16 rfl ?_
      exact r_iretR dX6_at_17 h
    · have h := it_f c2 h
      refine r_aload_n 0 dX6_at_10 rfl rfl rfl ?_
      refine r_iload_n 1 dX6_at_11 rfl rfl rfl ?_
      obtain ⟨hi3, h⟩ := gi h
      refine alX_18 hi3 dX6_at_12 rfl ?_
      refine r_goto (t := 17) dX6_at_13 (by decide) ?_
      exact r_iretR dX6_at_17 h
def P_X3_inspect_j70 : Nat → Int32 → Int32 → SS → Option (Int32 × SS)
  | 0, _, _, _ => none
  | n + 1, x1, x2, σ =>
    if x1 ≤ x2 then
      some (0, σ)
    else
      (P_X6_at_18 x2 σ).bind fun v3 =>
      (P_X3_isIn v3 x2).bind fun v5 =>
      if v5 = 0 then
        (P_X3_inspect_j70 n) x1 (x2 + 1) σ
      else
        some ((48 + x2), σ)
set_option maxHeartbeats 4000000 in
set_option maxRecDepth 100000 in
theorem T_X3_inspect_j70 {X : XE} {σf : SS} {r : Int32} : ∀ (fu : Nat) (x1 : Int32) (x2 : Int32) (σ : SS), P_X3_inspect_j70 fu x1 x2 σ = some (r, σf) → V (gX X) 4 RX3 cX3_inspect 3 (some .int) (some (.int r)) σf 70 [(0, .ref (xq X 3)), (1, .int x1), (2, .int x2)] [] σ := by
  intro fu
  induction fu with
  | zero => intro x1 x2 σ h; exact no0 h
  | succ n ih =>
    intro x1 x2 σ h
    unfold P_X3_inspect_j70 at h
    refine r_iload_n 2 dX3_inspect_70 rfl rfl rfl ?_
    refine r_iload_n 1 dX3_inspect_71 rfl rfl rfl ?_
    refine r_icmp_ge (t := 101) dX3_inspect_72 (by decide) rfl (fun c1 => ?_) (fun c1 => ?_)
    · have h := it_t c1 h
      refine ric_0 dX3_inspect_101 rfl ?_
      exact r_iretQ dX3_inspect_102 h
    · have h := it_f c1 h
      refine r_aload_n 0 dX3_inspect_75 rfl rfl rfl ?_
      refine gf_X3_9_3 dX3_inspect_76 rfl ?_
      refine r_iload_n 2 dX3_inspect_79 rfl rfl rfl ?_
      obtain ⟨v3, e2, h⟩ := bd h
      refine r_callS (As := [.ref (xq X 18), .int x2]) (rest := []) (T_X6_at_18 e2) (by decide) mf_X6_at rfl tw_446 tw_507 rfl (Nat.le_of_ble_eq_true rfl) dX3_inspect_80 rfl ?_
      refine r_call0 ?_
      refine r_iload_n 2 dX3_inspect_83 rfl rfl rfl ?_
      obtain ⟨v5, e4, h⟩ := bd h
      refine r_callS (As := [.int v3, .int x2]) (rest := []) (T_X3_isIn e4) (by decide) mf_X3_isIn rfl tw_483 tw_482 rfl (Nat.le_of_ble_eq_true rfl) dX3_inspect_84 rfl ?_
      refine r_call0 ?_
      refine r_if_eq (t := 95) dX3_inspect_87 (by decide) rfl (fun c6 => ?_) (fun c6 => ?_)
      · have h := it_t c6 h
        refine r_iinc (v := (x2 + 1)) (lv' := [(2, .int (x2 + 1)), (0, .ref (xq X 3)), (1, .int x1)]) 2 dX3_inspect_95 rfl rfl (by decide) rfl rfl ?_
        refine r_goto (t := 70) dX3_inspect_98 (by decide) ?_
        refine r_sub [1, 2, 0] rfl ?_
        exact ih x1 (x2 + 1) σ h
      · have h := it_f c6 h
        refine r_bipush (v := 48) dX3_inspect_90 (by decide) rfl ?_
        refine r_iload_n 2 dX3_inspect_92 rfl rfl rfl ?_
        refine r_iadd dX3_inspect_93 rfl ?_
        exact r_iretQ dX3_inspect_94 h
def P_X3_inspect_j40 : Nat → Int32 → Int32 → SS → Option (Int32 × SS)
  | 0, _, _, _ => none
  | n + 1, x1, x2, σ =>
    if x1 ≤ x2 then
      (P_X3_findNeeds σ).bind fun σ3 =>
      P_X3_inspect_j70 FU x1 0 σ3
    else
      (P_X3_repeatsEmpty x2 σ).bind fun v5 =>
      if v5 = 0 then
        (P_X3_inspect_j40 n) x1 (x2 + 1) σ
      else
        some ((32 + x2), σ)
set_option maxHeartbeats 4000000 in
set_option maxRecDepth 100000 in
theorem T_X3_inspect_j40 {X : XE} {σf : SS} {r : Int32} : ∀ (fu : Nat) (x1 : Int32) (x2 : Int32) (σ : SS), P_X3_inspect_j40 fu x1 x2 σ = some (r, σf) → V (gX X) 4 RX3 cX3_inspect 3 (some .int) (some (.int r)) σf 40 [(0, .ref (xq X 3)), (1, .int x1), (2, .int x2)] [] σ := by
  intro fu
  induction fu with
  | zero => intro x1 x2 σ h; exact no0 h
  | succ n ih =>
    intro x1 x2 σ h
    unfold P_X3_inspect_j40 at h
    refine r_iload_n 2 dX3_inspect_40 rfl rfl rfl ?_
    refine r_iload_n 1 dX3_inspect_41 rfl rfl rfl ?_
    refine r_icmp_ge (t := 64) dX3_inspect_42 (by decide) rfl (fun c1 => ?_) (fun c1 => ?_)
    · have h := it_t c1 h
      refine r_aload_n 0 dX3_inspect_64 rfl rfl rfl ?_
      obtain ⟨σ3, e2, h⟩ := bd h
      refine r_callV (rest := []) (T_X3_findNeeds e2) (by decide) mf_X3_findNeeds rfl tw_501 tw_5 tw_499 cX_3 rfl rfl rfl (Nat.le_of_ble_eq_true rfl) dX3_inspect_65 rfl ?_
      refine r_calln ?_
      refine ric_0 dX3_inspect_68 rfl ?_
      refine r_istore_n (lv' := [(2, .int 0), (0, .ref (xq X 3)), (1, .int x1)]) dX3_inspect_69 rfl (by decide) rfl rfl ?_
      refine r_sub [1, 2, 0] rfl ?_
      exact T_X3_inspect_j70 FU x1 0 σ3 h
    · have h := it_f c1 h
      refine r_aload_n 0 dX3_inspect_45 rfl rfl rfl ?_
      refine r_iload_n 2 dX3_inspect_46 rfl rfl rfl ?_
      obtain ⟨v5, e4, h⟩ := bd h
      refine r_callV (rest := []) (T_X3_repeatsEmpty e4) (by decide) mf_X3_repeatsEmpty rfl tw_492 tw_4 tw_490 cX_3 rfl rfl rfl (Nat.le_of_ble_eq_true rfl) dX3_inspect_47 rfl ?_
      refine r_call0 ?_
      refine r_if_eq (t := 58) dX3_inspect_50 (by decide) rfl (fun c6 => ?_) (fun c6 => ?_)
      · have h := it_t c6 h
        refine r_iinc (v := (x2 + 1)) (lv' := [(2, .int (x2 + 1)), (0, .ref (xq X 3)), (1, .int x1)]) 2 dX3_inspect_58 rfl rfl (by decide) rfl rfl ?_
        refine r_goto (t := 40) dX3_inspect_61 (by decide) ?_
        refine r_sub [1, 2, 0] rfl ?_
        exact ih x1 (x2 + 1) σ h
      · have h := it_f c6 h
        refine r_bipush (v := 32) dX3_inspect_53 (by decide) rfl ?_
        refine r_iload_n 2 dX3_inspect_55 rfl rfl rfl ?_
        refine r_iadd dX3_inspect_56 rfl ?_
        exact r_iretQ dX3_inspect_57 h
def P_X3_inspect_j10 : Nat → Int32 → Int32 → SS → Option (Int32 × SS)
  | 0, _, _, _ => none
  | n + 1, x1, x2, σ =>
    if x1 ≤ x2 then
      (P_X3_findEmpties σ).bind fun σ3 =>
      P_X3_inspect_j40 FU x1 0 σ3
    else
      (P_X3_lacksPart x2 σ).bind fun v5 =>
      if v5 = 0 then
        (P_X3_inspect_j10 n) x1 (x2 + 1) σ
      else
        some ((16 + x2), σ)
set_option maxHeartbeats 4000000 in
set_option maxRecDepth 100000 in
theorem T_X3_inspect_j10 {X : XE} {σf : SS} {r : Int32} : ∀ (fu : Nat) (x1 : Int32) (x2 : Int32) (σ : SS), P_X3_inspect_j10 fu x1 x2 σ = some (r, σf) → V (gX X) 4 RX3 cX3_inspect 3 (some .int) (some (.int r)) σf 10 [(0, .ref (xq X 3)), (1, .int x1), (2, .int x2)] [] σ := by
  intro fu
  induction fu with
  | zero => intro x1 x2 σ h; exact no0 h
  | succ n ih =>
    intro x1 x2 σ h
    unfold P_X3_inspect_j10 at h
    refine r_iload_n 2 dX3_inspect_10 rfl rfl rfl ?_
    refine r_iload_n 1 dX3_inspect_11 rfl rfl rfl ?_
    refine r_icmp_ge (t := 34) dX3_inspect_12 (by decide) rfl (fun c1 => ?_) (fun c1 => ?_)
    · have h := it_t c1 h
      refine r_aload_n 0 dX3_inspect_34 rfl rfl rfl ?_
      obtain ⟨σ3, e2, h⟩ := bd h
      refine r_callV (rest := []) (T_X3_findEmpties e2) (by decide) mf_X3_findEmpties rfl tw_476 tw_2 tw_474 cX_3 rfl rfl rfl (Nat.le_of_ble_eq_true rfl) dX3_inspect_35 rfl ?_
      refine r_calln ?_
      refine ric_0 dX3_inspect_38 rfl ?_
      refine r_istore_n (lv' := [(2, .int 0), (0, .ref (xq X 3)), (1, .int x1)]) dX3_inspect_39 rfl (by decide) rfl rfl ?_
      refine r_sub [1, 2, 0] rfl ?_
      exact T_X3_inspect_j40 FU x1 0 σ3 h
    · have h := it_f c1 h
      refine r_aload_n 0 dX3_inspect_15 rfl rfl rfl ?_
      refine r_iload_n 2 dX3_inspect_16 rfl rfl rfl ?_
      obtain ⟨v5, e4, h⟩ := bd h
      refine r_callV (rest := []) (T_X3_lacksPart e4) (by decide) mf_X3_lacksPart rfl tw_468 tw_1 tw_466 cX_3 rfl rfl rfl (Nat.le_of_ble_eq_true rfl) dX3_inspect_17 rfl ?_
      refine r_call0 ?_
      refine r_if_eq (t := 28) dX3_inspect_20 (by decide) rfl (fun c6 => ?_) (fun c6 => ?_)
      · have h := it_t c6 h
        refine r_iinc (v := (x2 + 1)) (lv' := [(2, .int (x2 + 1)), (0, .ref (xq X 3)), (1, .int x1)]) 2 dX3_inspect_28 rfl rfl (by decide) rfl rfl ?_
        refine r_goto (t := 10) dX3_inspect_31 (by decide) ?_
        refine r_sub [1, 2, 0] rfl ?_
        exact ih x1 (x2 + 1) σ h
      · have h := it_f c6 h
        refine r_bipush (v := 16) dX3_inspect_23 (by decide) rfl ?_
        refine r_iload_n 2 dX3_inspect_25 rfl rfl rfl ?_
        refine r_iadd dX3_inspect_26 rfl ?_
        exact r_iretQ dX3_inspect_27 h
def P_X3_inspect (σ : SS) : Option (Int32 × SS) :=
  (P_X1_size σ).bind fun v2 =>
  P_X3_inspect_j10 FU v2 0 σ
set_option maxHeartbeats 4000000 in
set_option maxRecDepth 100000 in
theorem T_X3_inspect {X : XE} {σf : SS} {r : Int32} {σ : SS} (h : P_X3_inspect σ = some (r, σf)) : Mt (gX X) 4 yX3_inspect cX3_inspect 3 (some .int) [.ref (xq X 3)] σ (some (.int r)) σf := by
  refine Mt.of (own := RX3) (lv := [(0, .ref (xq X 3))]) pn_X3 rfl (Nat.le_of_ble_eq_true rfl) rfl ?_
  unfold P_X3_inspect at h
  refine r_aload_n 0 dX3_inspect_0 rfl rfl rfl ?_
  refine gf_X3_15_3 dX3_inspect_1 rfl ?_
  obtain ⟨v2, e1, h⟩ := bd h
  refine r_callV (rest := []) (T_X1_size e1) (by decide) mf_X1_size rfl tw_387 tw_388 tw_465 cX_1 rfl rfl rfl (Nat.le_of_ble_eq_true rfl) dX3_inspect_4 rfl ?_
  refine r_call0 ?_
  refine r_istore_n (lv' := [(1, .int v2), (0, .ref (xq X 3))]) dX3_inspect_7 rfl (by decide) rfl rfl ?_
  refine ric_0 dX3_inspect_8 rfl ?_
  refine r_istore_n (lv' := [(2, .int 0), (1, .int v2), (0, .ref (xq X 3))]) dX3_inspect_9 rfl (by decide) rfl rfl ?_
  refine r_sub [2, 1, 0] rfl ?_
  exact T_X3_inspect_j10 FU v2 0 σ h
def P_J6_bitCount_0f7a4 (a0 : Int32) : Option Int32 :=
  some ((((((((a0 - ((iushr a0 1) &&& 1431655765)) &&& 858993459) + ((iushr (a0 - ((iushr a0 1) &&& 1431655765)) 2) &&& 858993459)) + (iushr (((a0 - ((iushr a0 1) &&& 1431655765)) &&& 858993459) + ((iushr (a0 - ((iushr a0 1) &&& 1431655765)) 2) &&& 858993459)) 4)) &&& 252645135) + (iushr (((((a0 - ((iushr a0 1) &&& 1431655765)) &&& 858993459) + ((iushr (a0 - ((iushr a0 1) &&& 1431655765)) 2) &&& 858993459)) + (iushr (((a0 - ((iushr a0 1) &&& 1431655765)) &&& 858993459) + ((iushr (a0 - ((iushr a0 1) &&& 1431655765)) 2) &&& 858993459)) 4)) &&& 252645135) 8)) + (iushr ((((((a0 - ((iushr a0 1) &&& 1431655765)) &&& 858993459) + ((iushr (a0 - ((iushr a0 1) &&& 1431655765)) 2) &&& 858993459)) + (iushr (((a0 - ((iushr a0 1) &&& 1431655765)) &&& 858993459) + ((iushr (a0 - ((iushr a0 1) &&& 1431655765)) 2) &&& 858993459)) 4)) &&& 252645135) + (iushr (((((a0 - ((iushr a0 1) &&& 1431655765)) &&& 858993459) + ((iushr (a0 - ((iushr a0 1) &&& 1431655765)) 2) &&& 858993459)) + (iushr (((a0 - ((iushr a0 1) &&& 1431655765)) &&& 858993459) + ((iushr (a0 - ((iushr a0 1) &&& 1431655765)) 2) &&& 858993459)) 4)) &&& 252645135) 8)) 16)) &&& 63)
set_option maxHeartbeats 4000000 in
set_option maxRecDepth 100000 in
theorem T_J6_bitCount_0f7a4 {X : XE} {σ : SS} {r : Int32} {a0 : Int32} (h : P_J6_bitCount_0f7a4 a0 = some r) : Mt (gX X) 0 yJ6_bitCount_0f7a4 cJ6_bitCount_0f7a4 1 (some .int) [.int a0] σ (some (.int r)) σ := by
  refine Mt.of (own := RJ6) (lv := [(0, .int a0)]) pn_J6 rfl (Nat.le_of_ble_eq_true rfl) rfl ?_
  unfold P_J6_bitCount_0f7a4 at h
  refine r_iload_n 0 dJ6_bitCount_0f7a4_0 rfl rfl rfl ?_
  refine r_iload_n 0 dJ6_bitCount_0f7a4_1 rfl rfl rfl ?_
  refine ric_1 dJ6_bitCount_0f7a4_2 rfl ?_
  refine r_iushr dJ6_bitCount_0f7a4_3 rfl ?_
  refine r_ldcw (v := 1431655765) tw_520 dJ6_bitCount_0f7a4_4 rfl ?_
  refine r_iand dJ6_bitCount_0f7a4_7 rfl ?_
  refine r_isub dJ6_bitCount_0f7a4_8 rfl ?_
  refine r_istore_n (lv' := [(0, .int (a0 - ((iushr a0 1) &&& 1431655765)))]) dJ6_bitCount_0f7a4_9 rfl (by decide) rfl rfl ?_
  refine r_iload_n 0 dJ6_bitCount_0f7a4_10 rfl rfl rfl ?_
  refine r_ldcw (v := 858993459) tw_521 dJ6_bitCount_0f7a4_11 rfl ?_
  refine r_iand dJ6_bitCount_0f7a4_14 rfl ?_
  refine r_iload_n 0 dJ6_bitCount_0f7a4_15 rfl rfl rfl ?_
  refine ric_2 dJ6_bitCount_0f7a4_16 rfl ?_
  refine r_iushr dJ6_bitCount_0f7a4_17 rfl ?_
  refine r_ldcw (v := 858993459) tw_521 dJ6_bitCount_0f7a4_18 rfl ?_
  refine r_iand dJ6_bitCount_0f7a4_21 rfl ?_
  refine r_iadd dJ6_bitCount_0f7a4_22 rfl ?_
  refine r_istore_n (lv' := [(0, .int (((a0 - ((iushr a0 1) &&& 1431655765)) &&& 858993459) + ((iushr (a0 - ((iushr a0 1) &&& 1431655765)) 2) &&& 858993459)))]) dJ6_bitCount_0f7a4_23 rfl (by decide) rfl rfl ?_
  refine r_iload_n 0 dJ6_bitCount_0f7a4_24 rfl rfl rfl ?_
  refine r_iload_n 0 dJ6_bitCount_0f7a4_25 rfl rfl rfl ?_
  refine ric_4 dJ6_bitCount_0f7a4_26 rfl ?_
  refine r_iushr dJ6_bitCount_0f7a4_27 rfl ?_
  refine r_iadd dJ6_bitCount_0f7a4_28 rfl ?_
  refine r_ldcw (v := 252645135) tw_522 dJ6_bitCount_0f7a4_29 rfl ?_
  refine r_iand dJ6_bitCount_0f7a4_32 rfl ?_
  refine r_istore_n (lv' := [(0, .int (((((a0 - ((iushr a0 1) &&& 1431655765)) &&& 858993459) + ((iushr (a0 - ((iushr a0 1) &&& 1431655765)) 2) &&& 858993459)) + (iushr (((a0 - ((iushr a0 1) &&& 1431655765)) &&& 858993459) + ((iushr (a0 - ((iushr a0 1) &&& 1431655765)) 2) &&& 858993459)) 4)) &&& 252645135))]) dJ6_bitCount_0f7a4_33 rfl (by decide) rfl rfl ?_
  refine r_iload_n 0 dJ6_bitCount_0f7a4_34 rfl rfl rfl ?_
  refine r_iload_n 0 dJ6_bitCount_0f7a4_35 rfl rfl rfl ?_
  refine r_bipush (v := 8) dJ6_bitCount_0f7a4_36 (by decide) rfl ?_
  refine r_iushr dJ6_bitCount_0f7a4_38 rfl ?_
  refine r_iadd dJ6_bitCount_0f7a4_39 rfl ?_
  refine r_istore_n (lv' := [(0, .int ((((((a0 - ((iushr a0 1) &&& 1431655765)) &&& 858993459) + ((iushr (a0 - ((iushr a0 1) &&& 1431655765)) 2) &&& 858993459)) + (iushr (((a0 - ((iushr a0 1) &&& 1431655765)) &&& 858993459) + ((iushr (a0 - ((iushr a0 1) &&& 1431655765)) 2) &&& 858993459)) 4)) &&& 252645135) + (iushr (((((a0 - ((iushr a0 1) &&& 1431655765)) &&& 858993459) + ((iushr (a0 - ((iushr a0 1) &&& 1431655765)) 2) &&& 858993459)) + (iushr (((a0 - ((iushr a0 1) &&& 1431655765)) &&& 858993459) + ((iushr (a0 - ((iushr a0 1) &&& 1431655765)) 2) &&& 858993459)) 4)) &&& 252645135) 8)))]) dJ6_bitCount_0f7a4_40 rfl (by decide) rfl rfl ?_
  refine r_iload_n 0 dJ6_bitCount_0f7a4_41 rfl rfl rfl ?_
  refine r_iload_n 0 dJ6_bitCount_0f7a4_42 rfl rfl rfl ?_
  refine r_bipush (v := 16) dJ6_bitCount_0f7a4_43 (by decide) rfl ?_
  refine r_iushr dJ6_bitCount_0f7a4_45 rfl ?_
  refine r_iadd dJ6_bitCount_0f7a4_46 rfl ?_
  refine r_istore_n (lv' := [(0, .int (((((((a0 - ((iushr a0 1) &&& 1431655765)) &&& 858993459) + ((iushr (a0 - ((iushr a0 1) &&& 1431655765)) 2) &&& 858993459)) + (iushr (((a0 - ((iushr a0 1) &&& 1431655765)) &&& 858993459) + ((iushr (a0 - ((iushr a0 1) &&& 1431655765)) 2) &&& 858993459)) 4)) &&& 252645135) + (iushr (((((a0 - ((iushr a0 1) &&& 1431655765)) &&& 858993459) + ((iushr (a0 - ((iushr a0 1) &&& 1431655765)) 2) &&& 858993459)) + (iushr (((a0 - ((iushr a0 1) &&& 1431655765)) &&& 858993459) + ((iushr (a0 - ((iushr a0 1) &&& 1431655765)) 2) &&& 858993459)) 4)) &&& 252645135) 8)) + (iushr ((((((a0 - ((iushr a0 1) &&& 1431655765)) &&& 858993459) + ((iushr (a0 - ((iushr a0 1) &&& 1431655765)) 2) &&& 858993459)) + (iushr (((a0 - ((iushr a0 1) &&& 1431655765)) &&& 858993459) + ((iushr (a0 - ((iushr a0 1) &&& 1431655765)) 2) &&& 858993459)) 4)) &&& 252645135) + (iushr (((((a0 - ((iushr a0 1) &&& 1431655765)) &&& 858993459) + ((iushr (a0 - ((iushr a0 1) &&& 1431655765)) 2) &&& 858993459)) + (iushr (((a0 - ((iushr a0 1) &&& 1431655765)) &&& 858993459) + ((iushr (a0 - ((iushr a0 1) &&& 1431655765)) 2) &&& 858993459)) 4)) &&& 252645135) 8)) 16)))]) dJ6_bitCount_0f7a4_47 rfl (by decide) rfl rfl ?_
  refine r_iload_n 0 dJ6_bitCount_0f7a4_48 rfl rfl rfl ?_
  refine r_bipush (v := 63) dJ6_bitCount_0f7a4_49 (by decide) rfl ?_
  refine r_iand dJ6_bitCount_0f7a4_51 rfl ?_
  exact r_iretR dJ6_bitCount_0f7a4_52 h
def P_X3_needCount (a1 : Int32) (σ : SS) : Option Int32 :=
  (P_X6_at_18 a1 σ).bind fun v2 =>
  (P_J6_bitCount_0f7a4 v2).bind fun v4 =>
  some v4
set_option maxHeartbeats 4000000 in
set_option maxRecDepth 100000 in
theorem T_X3_needCount {X : XE} {σ : SS} {r : Int32} {a1 : Int32} (h : P_X3_needCount a1 σ = some r) : Mt (gX X) 1 yX3_needCount cX3_needCount 2 (some .int) [.ref (xq X 3), .int a1] σ (some (.int r)) σ := by
  refine Mt.of (own := RX3) (lv := [(0, .ref (xq X 3)), (1, .int a1)]) pn_X3 rfl (Nat.le_of_ble_eq_true rfl) rfl ?_
  unfold P_X3_needCount at h
  refine r_aload_n 0 dX3_needCount_0 rfl rfl rfl ?_
  refine gf_X3_9_3 dX3_needCount_1 rfl ?_
  refine r_iload_n 1 dX3_needCount_4 rfl rfl rfl ?_
  obtain ⟨v2, e1, h⟩ := bd h
  refine r_callS (As := [.ref (xq X 18), .int a1]) (rest := []) (T_X6_at_18 e1) (by decide) mf_X6_at rfl tw_446 tw_507 rfl (Nat.le_of_ble_eq_true rfl) dX3_needCount_5 rfl ?_
  refine r_call0 ?_
  obtain ⟨v4, e3, h⟩ := bd h
  refine r_callS (As := [.int v2]) (rest := []) (T_J6_bitCount_0f7a4 e3) (by decide) mf_J6_bitCount_0f7a4 rfl tw_518 tw_517 rfl (Nat.le_of_ble_eq_true rfl) dX3_needCount_8 rfl ?_
  refine r_call0 ?_
  exact r_iretR dX3_needCount_11 h
def P_X7_orders_j4 : Nat → Int32 → Int64 → Int32 → Option Int64
  | 0, _, _, _ => none
  | n + 1, x0, x1, x3 =>
    if x0 < x3 then
      some x1
    else
      if 8 < x3 then
        some x1
      else
        (P_X7_orders_j4 n) x0 (x1 * x3.toInt64) (x3 + 1)
set_option maxHeartbeats 4000000 in
set_option maxRecDepth 100000 in
theorem T_X7_orders_j4 {X : XE} {σ : SS} {r : Int64} : ∀ (fu : Nat) (x0 : Int32) (x1 : Int64) (x3 : Int32), P_X7_orders_j4 fu x0 x1 x3 = some r → V (gX X) 0 RX7 cX7_orders 4 (some .long) (some (.long r)) σ 4 [(0, .int x0), (1, .long x1), (3, .int x3)] [] σ := by
  intro fu
  induction fu with
  | zero => intro x0 x1 x3 h; exact no0 h
  | succ n ih =>
    intro x0 x1 x3 h
    unfold P_X7_orders_j4 at h
    refine r_iload_n 2 dX7_orders_4 rfl rfl rfl ?_
    refine r_iload_n 0 dX7_orders_5 rfl rfl rfl ?_
    refine r_icmp_gt (t := 26) dX7_orders_6 (by decide) rfl (fun c1 => ?_) (fun c1 => ?_)
    · have h := it_t c1 h
      refine r_lload_n 1 dX7_orders_26 rfl rfl rfl ?_
      exact r_lretR dX7_orders_27 h
    · have h := it_f c1 h
      refine r_iload_n 2 dX7_orders_9 rfl rfl rfl ?_
      refine r_bipush (v := 8) dX7_orders_10 (by decide) rfl ?_
      refine r_icmp_gt (t := 26) dX7_orders_12 (by decide) rfl (fun c2 => ?_) (fun c2 => ?_)
      · have h := it_t c2 h
        refine r_lload_n 1 dX7_orders_26 rfl rfl rfl ?_
        exact r_lretR dX7_orders_27 h
      · have h := it_f c2 h
        refine r_lload_n 1 dX7_orders_15 rfl rfl rfl ?_
        refine r_iload_n 2 dX7_orders_16 rfl rfl rfl ?_
        refine r_i2l dX7_orders_17 rfl ?_
        refine r_lmul dX7_orders_18 rfl ?_
        refine r_lstore_n (lv' := [(1, .long (x1 * x3.toInt64)), (0, .int x0), (3, .int x3)]) dX7_orders_19 rfl (by decide) rfl rfl ?_
        refine r_iinc (v := (x3 + 1)) (lv' := [(3, .int (x3 + 1)), (1, .long (x1 * x3.toInt64)), (0, .int x0)]) 2 dX7_orders_20 rfl rfl (by decide) rfl rfl ?_
        refine r_goto (t := 4) dX7_orders_23 (by decide) ?_
        refine r_sub [2, 1, 0] rfl ?_
        exact ih x0 (x1 * x3.toInt64) (x3 + 1) h
def P_X7_orders (a0 : Int32) : Option Int64 :=
  P_X7_orders_j4 FU a0 1 2
set_option maxHeartbeats 4000000 in
set_option maxRecDepth 100000 in
theorem T_X7_orders {X : XE} {σ : SS} {r : Int64} {a0 : Int32} (h : P_X7_orders a0 = some r) : Mt (gX X) 0 yX7_orders cX7_orders 4 (some .long) [.int a0] σ (some (.long r)) σ := by
  refine Mt.of (own := RX7) (lv := [(0, .int a0)]) pn_X7 rfl (Nat.le_of_ble_eq_true rfl) rfl ?_
  unfold P_X7_orders at h
  refine rlc_1 dX7_orders_0 rfl ?_
  refine r_lstore_n (lv' := [(1, .long 1), (0, .int a0)]) dX7_orders_1 rfl (by decide) rfl rfl ?_
  refine ric_2 dX7_orders_2 rfl ?_
  refine r_istore_n (lv' := [(3, .int 2), (1, .long 1), (0, .int a0)]) dX7_orders_3 rfl (by decide) rfl rfl ?_
  refine r_sub [2, 1, 0] rfl ?_
  exact T_X7_orders_j4 FU a0 1 2 h
def P_X1_high (a1 : Int32) (σ : SS) : Option Int32 :=
  (P_X1_b a1 σ).bind fun v2 =>
  some (v2 &&& 31)
set_option maxHeartbeats 4000000 in
set_option maxRecDepth 100000 in
theorem T_X1_high {X : XE} {σ : SS} {r : Int32} {a1 : Int32} (h : P_X1_high a1 σ = some r) : Mt (gX X) 1 yX1_high cX1_high 2 (some .int) [.ref (xq X 1), .int a1] σ (some (.int r)) σ := by
  refine Mt.of (own := RX1) (lv := [(0, .ref (xq X 1)), (1, .int a1)]) pn_X1 rfl (Nat.le_of_ble_eq_true rfl) rfl ?_
  unfold P_X1_high at h
  refine r_aload_n 0 dX1_high_0 rfl rfl rfl ?_
  refine r_iload_n 1 dX1_high_1 rfl rfl rfl ?_
  obtain ⟨v2, e1, h⟩ := bd h
  refine r_callV (rest := []) (T_X1_b e1) (by decide) mf_X1_b rfl tw_428 tw_429 tw_489 cX_1 rfl rfl rfl (Nat.le_of_ble_eq_true rfl) dX1_high_2 rfl ?_
  refine r_call0 ?_
  refine r_bipush (v := 31) dX1_high_5 (by decide) rfl ?_
  refine r_iand dX1_high_7 rfl ?_
  exact r_iretR dX1_high_8 h
def P_X8_of (a1 : Int32) (a2 : Int32) (σ : SS) : Option Int64 :=
  if a1 < 0 then
    some 0
  else
    if 16 ≤ a1 then
      some 0
    else
      if a2 < 0 then
        some 0
      else
        if a2 ≤ 24 then
          gI ((a1 * 25) + a2) 400 <|
          some (ldL σ 0 ((a1 * 25) + a2))
        else
          some 0
set_option maxHeartbeats 4000000 in
set_option maxRecDepth 100000 in
theorem T_X8_of {X : XE} {σ : SS} {r : Int64} {a1 : Int32} {a2 : Int32} (h : P_X8_of a1 a2 σ = some r) : Mt (gX X) 0 yX8_of cX8_of 3 (some .long) [.ref (xq X 4), .int a1, .int a2] σ (some (.long r)) σ := by
  refine Mt.of (own := RX8) (lv := [(0, .ref (xq X 4)), (1, .int a1), (2, .int a2)]) pn_X8 rfl (Nat.le_of_ble_eq_true rfl) rfl ?_
  unfold P_X8_of at h
  refine r_iload_n 1 dX8_of_0 rfl rfl rfl ?_
  refine r_if_lt (t := 20) dX8_of_1 (by decide) rfl (fun c1 => ?_) (fun c1 => ?_)
  · have h := it_t c1 h
    refine rlc_0 dX8_of_20 rfl ?_
    exact r_lretR dX8_of_21 h
  · have h := it_f c1 h
    refine r_iload_n 1 dX8_of_4 rfl rfl rfl ?_
    refine r_bipush (v := 16) dX8_of_5 (by decide) rfl ?_
    refine r_icmp_ge (t := 20) dX8_of_7 (by decide) rfl (fun c2 => ?_) (fun c2 => ?_)
    · have h := it_t c2 h
      refine rlc_0 dX8_of_20 rfl ?_
      exact r_lretR dX8_of_21 h
    · have h := it_f c2 h
      refine r_iload_n 2 dX8_of_10 rfl rfl rfl ?_
      refine r_if_lt (t := 20) dX8_of_11 (by decide) rfl (fun c3 => ?_) (fun c3 => ?_)
      · have h := it_t c3 h
        refine rlc_0 dX8_of_20 rfl ?_
        exact r_lretR dX8_of_21 h
      · have h := it_f c3 h
        refine r_iload_n 2 dX8_of_14 rfl rfl rfl ?_
        refine r_bipush (v := 24) dX8_of_15 (by decide) rfl ?_
        refine r_icmp_le (t := 22) dX8_of_17 (by decide) rfl (fun c4 => ?_) (fun c4 => ?_)
        · have h := it_t c4 h
          refine r_aload_n 0 dX8_of_22 rfl rfl rfl ?_
          refine gf_X8_9_4 dX8_of_23 rfl ?_
          refine r_iload_n 1 dX8_of_26 rfl rfl rfl ?_
          refine r_bipush (v := 25) dX8_of_27 (by decide) rfl ?_
          refine r_imul dX8_of_29 rfl ?_
          refine r_iload_n 2 dX8_of_30 rfl rfl rfl ?_
          refine r_iadd dX8_of_31 rfl ?_
          obtain ⟨hi5, h⟩ := gi h
          refine alX_19 hi5 dX8_of_32 rfl ?_
          exact r_lretR dX8_of_33 h
        · have h := it_f c4 h
          refine rlc_0 dX8_of_20 rfl ?_
          exact r_lretR dX8_of_21 h
