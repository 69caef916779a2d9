def P_X11_mayCount_j57 (σ : SS) (K17 : Int32 → Int32 → Int32 → Option Int32) (x1 : Int32) (x3 : Int32) (y0 : Int32) : Option Int32 :=
  K17 x1 y0 (x3 + 1)
set_option maxHeartbeats 4000000 in
set_option maxRecDepth 100000 in
theorem T_X11_mayCount_j57 {X : XE} {σ : SS} {r : Int32} {K17 : Int32 → Int32 → Int32 → Option Int32} (hK17 : ∀ (x1 : Int32) (x2 : Int32) (x3 : Int32), K17 x1 x2 x3 = some r → V (gM X) 0 RX11 cX11_mayCount 4 (some .boolean) (some (.int r)) σ 17 [(0, .ref (xq X 0)), (1, .int x1), (2, .int x2), (3, .int x3)] [] σ) : ∀ (x1 : Int32) (x3 : Int32) (y0 : Int32), P_X11_mayCount_j57 σ K17 x1 x3 y0 = some r → V (gM X) 0 RX11 cX11_mayCount 4 (some .boolean) (some (.int r)) σ 57 [(0, .ref (xq X 0)), (1, .int x1), (3, .int x3)] [.int y0] σ := by
  intro x1 x3 y0 h
  unfold P_X11_mayCount_j57 at h
  refine r_istore_n (lv' := [(2, .int y0), (0, .ref (xq X 0)), (1, .int x1), (3, .int x3)]) dX11_mayCount_57 rfl (by decide) rfl rfl ?_
  refine r_iinc (v := (x3 + 1)) (lv' := [(3, .int (x3 + 1)), (2, .int y0), (0, .ref (xq X 0)), (1, .int x1)]) 3 dX11_mayCount_58 rfl rfl (by decide) rfl rfl ?_
  refine r_goto (t := 17) dX11_mayCount_61 (by decide) ?_
  refine r_sub [2, 3, 1, 0] rfl ?_
  exact hK17 x1 y0 (x3 + 1) h
def P_X11_mayCount_j52 (σ : SS) (K17 : Int32 → Int32 → Int32 → Option Int32) (x1 : Int32) (x3 : Int32) : Option Int32 :=
  P_X11_mayCount_j57 σ K17 x1 x3 1
set_option maxHeartbeats 4000000 in
set_option maxRecDepth 100000 in
theorem T_X11_mayCount_j52 {X : XE} {σ : SS} {r : Int32} {K17 : Int32 → Int32 → Int32 → Option Int32} (hK17 : ∀ (x1 : Int32) (x2 : Int32) (x3 : Int32), K17 x1 x2 x3 = some r → V (gM X) 0 RX11 cX11_mayCount 4 (some .boolean) (some (.int r)) σ 17 [(0, .ref (xq X 0)), (1, .int x1), (2, .int x2), (3, .int x3)] [] σ) : ∀ (x1 : Int32) (x3 : Int32), P_X11_mayCount_j52 σ K17 x1 x3 = some r → V (gM X) 0 RX11 cX11_mayCount 4 (some .boolean) (some (.int r)) σ 52 [(0, .ref (xq X 0)), (1, .int x1), (3, .int x3)] [] σ := by
  intro x1 x3 h
  unfold P_X11_mayCount_j52 at h
  refine ric_1 dX11_mayCount_52 rfl ?_
  refine r_goto (t := 57) dX11_mayCount_53 (by decide) ?_
  exact T_X11_mayCount_j57 hK17 x1 x3 1 h
def P_X11_mayCount_j56 (σ : SS) (K17 : Int32 → Int32 → Int32 → Option Int32) (x1 : Int32) (x3 : Int32) : Option Int32 :=
  P_X11_mayCount_j57 σ K17 x1 x3 0
set_option maxHeartbeats 4000000 in
set_option maxRecDepth 100000 in
theorem T_X11_mayCount_j56 {X : XE} {σ : SS} {r : Int32} {K17 : Int32 → Int32 → Int32 → Option Int32} (hK17 : ∀ (x1 : Int32) (x2 : Int32) (x3 : Int32), K17 x1 x2 x3 = some r → V (gM X) 0 RX11 cX11_mayCount 4 (some .boolean) (some (.int r)) σ 17 [(0, .ref (xq X 0)), (1, .int x1), (2, .int x2), (3, .int x3)] [] σ) : ∀ (x1 : Int32) (x3 : Int32), P_X11_mayCount_j56 σ K17 x1 x3 = some r → V (gM X) 0 RX11 cX11_mayCount 4 (some .boolean) (some (.int r)) σ 56 [(0, .ref (xq X 0)), (1, .int x1), (3, .int x3)] [] σ := by
  intro x1 x3 h
  unfold P_X11_mayCount_j56 at h
  refine ric_0 dX11_mayCount_56 rfl ?_
  exact T_X11_mayCount_j57 hK17 x1 x3 0 h
def P_X11_mayCount_j17 (σ : SS) : Nat → Int32 → Int32 → Int32 → Option Int32
  | 0, _, _, _ => none
  | n + 1, x1, x2, x3 =>
    if (sI σ 0) ≤ x3 then
      gZ x2 <|
      some x2
    else
      if x2 = 0 then
        P_X11_mayCount_j56 σ (P_X11_mayCount_j17 σ n) x1 x3
      else
        gI ((16 * x1) + x3) 256 <|
        if (ldA σ 7 ((16 * x1) + x3)) = 0 then
          P_X11_mayCount_j52 σ (P_X11_mayCount_j17 σ n) x1 x3
        else
          gI x3 16 <|
          if (ldA σ 8 x3) = 0 then
            P_X11_mayCount_j56 σ (P_X11_mayCount_j17 σ n) x1 x3
          else
            P_X11_mayCount_j52 σ (P_X11_mayCount_j17 σ n) x1 x3
set_option maxHeartbeats 4000000 in
set_option maxRecDepth 100000 in
theorem T_X11_mayCount_j17 {X : XE} {σ : SS} {r : Int32} : ∀ (fu : Nat) (x1 : Int32) (x2 : Int32) (x3 : Int32), P_X11_mayCount_j17 σ fu x1 x2 x3 = some r → V (gM X) 0 RX11 cX11_mayCount 4 (some .boolean) (some (.int r)) σ 17 [(0, .ref (xq X 0)), (1, .int x1), (2, .int x2), (3, .int x3)] [] σ := by
  intro fu
  induction fu with
  | zero => intro x1 x2 x3 h; exact no0 h
  | succ n ih =>
    intro x1 x2 x3 h
    unfold P_X11_mayCount_j17 at h
    refine r_iload_n 3 dX11_mayCount_17 rfl rfl rfl ?_
    refine r_aload_n 0 dX11_mayCount_18 rfl rfl rfl ?_
    refine gf_X11_95_0 dX11_mayCount_19 rfl ?_
    refine r_icmp_ge (t := 64) dX11_mayCount_22 (by decide) rfl (fun c1 => ?_) (fun c1 => ?_)
    · have h := it_t c1 h
      refine r_iload_n 2 dX11_mayCount_64 rfl rfl rfl ?_
      obtain ⟨hz2, h⟩ := gz h
      exact r_zretR hz2 dX11_mayCount_65 h
    · have h := it_f c1 h
      refine r_iload_n 2 dX11_mayCount_25 rfl rfl rfl ?_
      refine r_if_eq (t := 56) dX11_mayCount_26 (by decide) rfl (fun c3 => ?_) (fun c3 => ?_)
      · have h := it_t c3 h
        refine r_sub [0, 1, 3] rfl ?_
        exact T_X11_mayCount_j56 ih x1 x3 h
      · have h := it_f c3 h
        refine r_aload_n 0 dX11_mayCount_29 rfl rfl rfl ?_
        refine gf_X11_32_0 dX11_mayCount_30 rfl ?_
        refine r_bipush (v := 16) dX11_mayCount_33 (by decide) rfl ?_
        refine r_iload_n 1 dX11_mayCount_35 rfl rfl rfl ?_
        refine r_imul dX11_mayCount_36 rfl ?_
        refine r_iload_n 3 dX11_mayCount_37 rfl rfl rfl ?_
        refine r_iadd dX11_mayCount_38 rfl ?_
        obtain ⟨hi4, h⟩ := gi h
        refine alM_8 hi4 dX11_mayCount_39 rfl ?_
        refine r_if_eq (t := 52) dX11_mayCount_40 (by decide) rfl (fun c5 => ?_) (fun c5 => ?_)
        · have h := it_t c5 h
          refine r_sub [0, 1, 3] rfl ?_
          exact T_X11_mayCount_j52 ih x1 x3 h
        · have h := it_f c5 h
          refine r_aload_n 0 dX11_mayCount_43 rfl rfl rfl ?_
          refine gf_X11_42_0 dX11_mayCount_44 rfl ?_
          refine r_iload_n 3 dX11_mayCount_47 rfl rfl rfl ?_
          obtain ⟨hi6, h⟩ := gi h
          refine alM_11 hi6 dX11_mayCount_48 rfl ?_
          refine r_if_eq (t := 56) dX11_mayCount_49 (by decide) rfl (fun c7 => ?_) (fun c7 => ?_)
          · have h := it_t c7 h
            refine r_sub [0, 1, 3] rfl ?_
            exact T_X11_mayCount_j56 ih x1 x3 h
          · have h := it_f c7 h
            refine r_sub [0, 1, 3] rfl ?_
            exact T_X11_mayCount_j52 ih x1 x3 h
def P_X11_mayCount_j14 (σ : SS) (x1 : Int32) (y0 : Int32) : Option Int32 :=
  P_X11_mayCount_j17 σ FU x1 y0 0
set_option maxHeartbeats 4000000 in
set_option maxRecDepth 100000 in
theorem T_X11_mayCount_j14 {X : XE} {σ : SS} {r : Int32} : ∀ (x1 : Int32) (y0 : Int32), P_X11_mayCount_j14 σ x1 y0 = some r → V (gM X) 0 RX11 cX11_mayCount 4 (some .boolean) (some (.int r)) σ 14 [(0, .ref (xq X 0)), (1, .int x1)] [.int y0] σ := by
  intro x1 y0 h
  unfold P_X11_mayCount_j14 at h
  refine r_istore_n (lv' := [(2, .int y0), (0, .ref (xq X 0)), (1, .int x1)]) dX11_mayCount_14 rfl (by decide) rfl rfl ?_
  refine ric_0 dX11_mayCount_15 rfl ?_
  refine r_istore_n (lv' := [(3, .int 0), (2, .int y0), (0, .ref (xq X 0)), (1, .int x1)]) dX11_mayCount_16 rfl (by decide) rfl rfl ?_
  refine r_sub [2, 3, 1, 0] rfl ?_
  exact T_X11_mayCount_j17 FU x1 y0 0 h
def P_X11_mayCount (a1 : Int32) (σ : SS) : Option Int32 :=
  gI a1 16 <|
  if ¬ (ldA σ 8 a1) = 0 then
    P_X11_mayCount_j14 σ a1 0
  else
    P_X11_mayCount_j14 σ a1 1
set_option maxHeartbeats 4000000 in
set_option maxRecDepth 100000 in
theorem T_X11_mayCount {X : XE} {σ : SS} {r : Int32} {a1 : Int32} (h : P_X11_mayCount a1 σ = some r) : Mt (gM X) 0 yX11_mayCount cX11_mayCount 4 (some .boolean) [.ref (xq X 0), .int a1] σ (some (.int r)) σ := by
  refine Mt.of (own := RX11) (lv := [(0, .ref (xq X 0)), (1, .int a1)]) pn_X11 rfl (Nat.le_of_ble_eq_true rfl) rfl ?_
  unfold P_X11_mayCount at h
  refine r_aload_n 0 dX11_mayCount_0 rfl rfl rfl ?_
  refine gf_X11_42_0 dX11_mayCount_1 rfl ?_
  refine r_iload_n 1 dX11_mayCount_4 rfl rfl rfl ?_
  obtain ⟨hi1, h⟩ := gi h
  refine alM_11 hi1 dX11_mayCount_5 rfl ?_
  refine r_if_ne (t := 13) dX11_mayCount_6 (by decide) rfl (fun c2 => ?_) (fun c2 => ?_)
  · have h := it_t c2 h
    refine ric_0 dX11_mayCount_13 rfl ?_
    exact T_X11_mayCount_j14 a1 0 h
  · have h := it_n c2 h
    refine ric_1 dX11_mayCount_9 rfl ?_
    refine r_goto (t := 14) dX11_mayCount_10 (by decide) ?_
    exact T_X11_mayCount_j14 a1 1 h
def P_X11_countOf (a1 : Int32) (a2 : Int32) (σ : SS) : Option Int64 :=
  gI ((25 * a1) + a2) 400 <|
  some (ldL σ 0 ((25 * a1) + a2))
set_option maxHeartbeats 4000000 in
set_option maxRecDepth 100000 in
theorem T_X11_countOf {X : XE} {σ : SS} {r : Int64} {a1 : Int32} {a2 : Int32} (h : P_X11_countOf a1 a2 σ = some r) : Mt (gM X) 0 yX11_countOf cX11_countOf 3 (some .long) [.ref (xq X 0), .int a1, .int a2] σ (some (.long r)) σ := by
  refine Mt.of (own := RX11) (lv := [(0, .ref (xq X 0)), (1, .int a1), (2, .int a2)]) pn_X11 rfl (Nat.le_of_ble_eq_true rfl) rfl ?_
  unfold P_X11_countOf at h
  refine r_aload_n 0 dX11_countOf_0 rfl rfl rfl ?_
  refine gf_X11_35_0 dX11_countOf_1 rfl ?_
  refine r_bipush (v := 25) dX11_countOf_4 (by decide) rfl ?_
  refine r_iload_n 1 dX11_countOf_6 rfl rfl rfl ?_
  refine r_imul dX11_countOf_7 rfl ?_
  refine r_iload_n 2 dX11_countOf_8 rfl rfl rfl ?_
  refine r_iadd dX11_countOf_9 rfl ?_
  obtain ⟨hi1, h⟩ := gi h
  refine alM_9 hi1 dX11_countOf_10 rfl ?_
  exact r_lretR dX11_countOf_11 h
def P_X11_common_j6 : Nat → Int64 → Int64 → Option Int64
  | 0, _, _ => none
  | n + 1, x4, x6 =>
    if x6 = 0 then
      some x4
    else
      gN x6 <|
      (P_X11_common_j6 n) x6 (x4 - x4 / x6 * x6)
set_option maxHeartbeats 4000000 in
set_option maxRecDepth 100000 in
theorem T_X11_common_j6 {X : XE} {σ : SS} {r : Int64} : ∀ (fu : Nat) (x4 : Int64) (x6 : Int64), P_X11_common_j6 fu x4 x6 = some r → V (gM X) 0 RX11 cX11_common 10 (some .long) (some (.long r)) σ 6 [(4, .long x4), (6, .long x6)] [] σ := by
  intro fu
  induction fu with
  | zero => intro x4 x6 h; exact no0 h
  | succ n ih =>
    intro x4 x6 h
    unfold P_X11_common_j6 at h
    refine r_lload 1 dX11_common_6 rfl rfl ?_
    refine rlc_0 dX11_common_8 rfl ?_
    refine r_lif_eq (t := 31) dX11_common_9 rfl dX11_common_10 (by decide) rfl (fun c1 => ?_) (fun c1 => ?_)
    · have h := it_t c1 h
      refine r_lload 0 dX11_common_31 rfl rfl ?_
      exact r_lretR dX11_common_33 h
    · have h := it_f c1 h
      refine r_lload 0 dX11_common_13 rfl rfl ?_
      refine r_lload 1 dX11_common_15 rfl rfl ?_
      obtain ⟨hn2, h⟩ := gn h
      refine r_lrem hn2 dX11_common_17 rfl ?_
      refine r_lstore (lv' := [(8, .long (x4 - x4 / x6 * x6)), (4, .long x4), (6, .long x6)]) dX11_common_18 (by decide) rfl rfl ?_
      refine r_lload 2 dX11_common_20 rfl rfl ?_
      refine r_lstore (lv' := [(4, .long x6), (8, .long (x4 - x4 / x6 * x6)), (6, .long x6)]) dX11_common_22 (by decide) rfl rfl ?_
      refine r_lload 1 dX11_common_24 rfl rfl ?_
      refine r_lstore (lv' := [(6, .long (x4 - x4 / x6 * x6)), (4, .long x6), (8, .long (x4 - x4 / x6 * x6))]) dX11_common_26 (by decide) rfl rfl ?_
      refine r_goto (t := 6) dX11_common_28 (by decide) ?_
      refine r_sub [1, 0] rfl ?_
      exact ih x6 (x4 - x4 / x6 * x6) h
def P_X11_common (a0 : Int64) (a2 : Int64) : Option Int64 :=
  P_X11_common_j6 FU a0 a2
set_option maxHeartbeats 4000000 in
set_option maxRecDepth 100000 in
theorem T_X11_common {X : XE} {σ : SS} {r : Int64} {a0 : Int64} {a2 : Int64} (h : P_X11_common a0 a2 = some r) : Mt (gM X) 0 yX11_common cX11_common 10 (some .long) [.long a0, .long a2] σ (some (.long r)) σ := by
  refine Mt.of (own := RX11) (lv := [(0, .long a0), (2, .long a2)]) pn_X11 rfl (Nat.le_of_ble_eq_true rfl) rfl ?_
  unfold P_X11_common at h
  refine r_lload_n 0 dX11_common_0 rfl rfl rfl ?_
  refine r_lstore (lv' := [(4, .long a0), (0, .long a0), (2, .long a2)]) dX11_common_1 (by decide) rfl rfl ?_
  refine r_lload_n 2 dX11_common_3 rfl rfl rfl ?_
  refine r_lstore (lv' := [(6, .long a2), (4, .long a0), (0, .long a0), (2, .long a2)]) dX11_common_4 (by decide) rfl rfl ?_
  refine r_sub [1, 0] rfl ?_
  exact T_X11_common_j6 FU a0 a2 h
def P_X11_times (a0 : Int64) (a2 : Int64) : Option Int64 :=
  if a0 = 0 then
    some 0
  else
    if ¬ a2 = 0 then
      gN a2 <|
      if a0 ≤ (9999999999999999 / a2) then
        some (a0 * a2)
      else
        some 10000000000000000
    else
      some 0
set_option maxHeartbeats 4000000 in
set_option maxRecDepth 100000 in
theorem T_X11_times {X : XE} {σ : SS} {r : Int64} {a0 : Int64} {a2 : Int64} (h : P_X11_times a0 a2 = some r) : Mt (gM X) 0 yX11_times cX11_times 4 (some .long) [.long a0, .long a2] σ (some (.long r)) σ := by
  refine Mt.of (own := RX11) (lv := [(0, .long a0), (2, .long a2)]) pn_X11 rfl (Nat.le_of_ble_eq_true rfl) rfl ?_
  unfold P_X11_times at h
  refine r_lload_n 0 dX11_times_0 rfl rfl rfl ?_
  refine rlc_0 dX11_times_1 rfl ?_
  refine r_lif_eq (t := 12) dX11_times_2 rfl dX11_times_3 (by decide) rfl (fun c1 => ?_) (fun c1 => ?_)
  · have h := it_t c1 h
    refine rlc_0 dX11_times_12 rfl ?_
    refine r_goto (t := 35) dX11_times_13 (by decide) ?_
    exact r_lretR dX11_times_35 h
  · have h := it_f c1 h
    refine r_lload_n 1 dX11_times_6 rfl rfl rfl ?_
    refine rlc_0 dX11_times_7 rfl ?_
    refine r_lif_ne (t := 16) dX11_times_8 rfl dX11_times_9 (by decide) rfl (fun c2 => ?_) (fun c2 => ?_)
    · have h := it_t c2 h
      refine r_lload_n 0 dX11_times_16 rfl rfl rfl ?_
      refine r_ldc2 (v := 9999999999999999) tw_1150 dX11_times_17 rfl ?_
      refine r_lload_n 1 dX11_times_20 rfl rfl rfl ?_
      obtain ⟨hn3, h⟩ := gn h
      refine r_ldiv hn3 dX11_times_21 rfl ?_
      refine r_lif_le (t := 32) dX11_times_22 rfl dX11_times_23 (by decide) rfl (fun c4 => ?_) (fun c4 => ?_)
      · have h := it_t c4 h
        refine r_lload_n 0 dX11_times_32 rfl rfl rfl ?_
        refine r_lload_n 1 dX11_times_33 rfl rfl rfl ?_
        refine r_lmul dX11_times_34 rfl ?_
        exact r_lretR dX11_times_35 h
      · have h := it_f c4 h
        refine r_ldc2 (v := 10000000000000000) tw_1151 dX11_times_26 rfl ?_
        refine r_goto (t := 35) dX11_times_29 (by decide) ?_
        exact r_lretR dX11_times_35 h
    · have h := it_n c2 h
      refine rlc_0 dX11_times_12 rfl ?_
      refine r_goto (t := 35) dX11_times_13 (by decide) ?_
      exact r_lretR dX11_times_35 h
def P_X11_ways_j29 (K6 : Int64 → Int32 → Int32 → Int64 → Int32 → Option Int64) (x0 : Int64) (x2 : Int32) (x3 : Int32) (x4 : Int64) (x6 : Int32) (y0 : Int64) : Option Int64 :=
  if 0 < y0 then
    (P_X11_common x4 ((x6 + 1).toInt64)).bind fun v3 =>
    gN v3 <|
    gN v3 <|
    gN ((x6 + 1).toInt64 / v3) <|
    (P_X11_times (x4 / v3) (y0 / ((x6 + 1).toInt64 / v3))).bind fun v8 =>
    if ¬ v8 = 10000000000000000 then
      K6 x0 x2 x3 v8 (x6 + 1)
    else
      some 10000000000000000
  else
    some 0
set_option maxHeartbeats 4000000 in
set_option maxRecDepth 100000 in
theorem T_X11_ways_j29 {X : XE} {σ : SS} {r : Int64} {K6 : Int64 → Int32 → Int32 → Int64 → Int32 → Option Int64} (hK6 : ∀ (x0 : Int64) (x2 : Int32) (x3 : Int32) (x4 : Int64) (x6 : Int32), K6 x0 x2 x3 x4 x6 = some r → V (gM X) 1 RX11 cX11_ways 11 (some .long) (some (.long r)) σ 6 [(0, .long x0), (2, .int x2), (3, .int x3), (4, .long x4), (6, .int x6)] [] σ) : ∀ (x0 : Int64) (x2 : Int32) (x3 : Int32) (x4 : Int64) (x6 : Int32) (y0 : Int64), P_X11_ways_j29 K6 x0 x2 x3 x4 x6 y0 = some r → V (gM X) 1 RX11 cX11_ways 11 (some .long) (some (.long r)) σ 29 [(0, .long x0), (2, .int x2), (3, .int x3), (4, .long x4), (6, .int x6)] [.long y0] σ := by
  intro x0 x2 x3 x4 x6 y0 h
  unfold P_X11_ways_j29 at h
  refine r_lstore (lv' := [(7, .long y0), (0, .long x0), (2, .int x2), (3, .int x3), (4, .long x4), (6, .int x6)]) dX11_ways_29 (by decide) rfl rfl ?_
  refine r_lload 0 dX11_ways_31 rfl rfl ?_
  refine rlc_0 dX11_ways_33 rfl ?_
  refine r_lif_gt (t := 40) dX11_ways_34 rfl dX11_ways_35 (by decide) rfl (fun c1 => ?_) (fun c1 => ?_)
  · have h := it_t c1 h
    refine r_lload 4 dX11_ways_40 rfl rfl ?_
    refine r_iload 5 dX11_ways_42 rfl rfl ?_
    refine ric_1 dX11_ways_44 rfl ?_
    refine r_iadd dX11_ways_45 rfl ?_
    refine r_i2l dX11_ways_46 rfl ?_
    obtain ⟨v3, e2, h⟩ := bd h
    refine r_callS (As := [.long x4, .long ((x6 + 1).toInt64)]) (rest := []) (T_X11_common e2) (by decide) mf_X11_common rfl tw_1174 tw_1173 rfl (Nat.le_of_ble_eq_true rfl) dX11_ways_47 rfl ?_
    refine r_call0 ?_
    refine r_lstore (lv' := [(9, .long v3), (7, .long y0), (0, .long x0), (2, .int x2), (3, .int x3), (4, .long x4), (6, .int x6)]) dX11_ways_50 (by decide) rfl rfl ?_
    refine r_lload 5 dX11_ways_52 rfl rfl ?_
    refine r_lload 0 dX11_ways_54 rfl rfl ?_
    obtain ⟨hn4, h⟩ := gn h
    refine r_ldiv hn4 dX11_ways_56 rfl ?_
    refine r_lload 1 dX11_ways_57 rfl rfl ?_
    refine r_iload 6 dX11_ways_59 rfl rfl ?_
    refine ric_1 dX11_ways_61 rfl ?_
    refine r_iadd dX11_ways_62 rfl ?_
    refine r_i2l dX11_ways_63 rfl ?_
    refine r_lload 0 dX11_ways_64 rfl rfl ?_
    obtain ⟨hn5, h⟩ := gn h
    refine r_ldiv hn5 dX11_ways_66 rfl ?_
    obtain ⟨hn6, h⟩ := gn h
    refine r_ldiv hn6 dX11_ways_67 rfl ?_
    obtain ⟨v8, e7, h⟩ := bd h
    refine r_callS (As := [.long (x4 / v3), .long (y0 / ((x6 + 1).toInt64 / v3))]) (rest := []) (T_X11_times e7) (by decide) mf_X11_times rfl tw_1148 tw_1147 rfl (Nat.le_of_ble_eq_true rfl) dX11_ways_68 rfl ?_
    refine r_call0 ?_
    refine r_lstore (lv' := [(4, .long v8), (9, .long v3), (7, .long y0), (0, .long x0), (2, .int x2), (3, .int x3), (6, .int x6)]) dX11_ways_71 (by decide) rfl rfl ?_
    refine r_lload 0 dX11_ways_73 rfl rfl ?_
    refine r_ldc2 (v := 10000000000000000) tw_1151 dX11_ways_75 rfl ?_
    refine r_lif_ne (t := 86) dX11_ways_78 rfl dX11_ways_79 (by decide) rfl (fun c9 => ?_) (fun c9 => ?_)
    · have h := it_t c9 h
      refine r_iinc (v := (x6 + 1)) (lv' := [(6, .int (x6 + 1)), (4, .long v8), (9, .long v3), (7, .long y0), (0, .long x0), (2, .int x2), (3, .int x3)]) 6 dX11_ways_86 rfl rfl (by decide) rfl rfl ?_
      refine r_goto (t := 6) dX11_ways_89 (by decide) ?_
      refine r_sub [4, 5, 6, 1, 0] rfl ?_
      exact hK6 x0 x2 x3 v8 (x6 + 1) h
    · have h := it_n c9 h
      refine r_ldc2 (v := 10000000000000000) tw_1151 dX11_ways_82 rfl ?_
      exact r_lretR dX11_ways_85 h
  · have h := it_f c1 h
    refine rlc_0 dX11_ways_38 rfl ?_
    exact r_lretR dX11_ways_39 h
def P_X11_ways_j6 : Nat → Int64 → Int32 → Int32 → Int64 → Int32 → Option Int64
  | 0, _, _, _, _, _ => none
  | n + 1, x0, x2, x3, x4, x6 =>
    if x2 ≤ x6 then
      some x4
    else
      if x3 = 0 then
        P_X11_ways_j29 (P_X11_ways_j6 n) x0 x2 x3 x4 x6 (x0 + x6.toInt64)
      else
        P_X11_ways_j29 (P_X11_ways_j6 n) x0 x2 x3 x4 x6 (x0 - x6.toInt64)
set_option maxHeartbeats 4000000 in
set_option maxRecDepth 100000 in
theorem T_X11_ways_j6 {X : XE} {σ : SS} {r : Int64} : ∀ (fu : Nat) (x0 : Int64) (x2 : Int32) (x3 : Int32) (x4 : Int64) (x6 : Int32), P_X11_ways_j6 fu x0 x2 x3 x4 x6 = some r → V (gM X) 1 RX11 cX11_ways 11 (some .long) (some (.long r)) σ 6 [(0, .long x0), (2, .int x2), (3, .int x3), (4, .long x4), (6, .int x6)] [] σ := by
  intro fu
  induction fu with
  | zero => intro x0 x2 x3 x4 x6 h; exact no0 h
  | succ n ih =>
    intro x0 x2 x3 x4 x6 h
    unfold P_X11_ways_j6 at h
    refine r_iload 4 dX11_ways_6 rfl rfl ?_
    refine r_iload_n 1 dX11_ways_8 rfl rfl rfl ?_
    refine r_icmp_ge (t := 92) dX11_ways_9 (by decide) rfl (fun c1 => ?_) (fun c1 => ?_)
    · have h := it_t c1 h
      refine r_lload 3 dX11_ways_92 rfl rfl ?_
      exact r_lretR dX11_ways_94 h
    · have h := it_f c1 h
      refine r_iload_n 2 dX11_ways_12 rfl rfl rfl ?_
      refine r_if_eq (t := 24) dX11_ways_13 (by decide) rfl (fun c2 => ?_) (fun c2 => ?_)
      · have h := it_t c2 h
        refine r_lload_n 0 dX11_ways_24 rfl rfl rfl ?_
        refine r_iload 4 dX11_ways_25 rfl rfl ?_
        refine r_i2l dX11_ways_27 rfl ?_
        refine r_ladd dX11_ways_28 rfl ?_
        exact T_X11_ways_j29 ih x0 x2 x3 x4 x6 (x0 + x6.toInt64) h
      · have h := it_f c2 h
        refine r_lload_n 0 dX11_ways_16 rfl rfl rfl ?_
        refine r_iload 4 dX11_ways_17 rfl rfl ?_
        refine r_i2l dX11_ways_19 rfl ?_
        refine r_lsub dX11_ways_20 rfl ?_
        refine r_goto (t := 29) dX11_ways_21 (by decide) ?_
        exact T_X11_ways_j29 ih x0 x2 x3 x4 x6 (x0 - x6.toInt64) h
def P_X11_ways (a0 : Int64) (a2 : Int32) (a3 : Int32) : Option Int64 :=
  P_X11_ways_j6 FU a0 a2 a3 1 0
set_option maxHeartbeats 4000000 in
set_option maxRecDepth 100000 in
theorem T_X11_ways {X : XE} {σ : SS} {r : Int64} {a0 : Int64} {a2 : Int32} {a3 : Int32} (h : P_X11_ways a0 a2 a3 = some r) : Mt (gM X) 1 yX11_ways cX11_ways 11 (some .long) [.long a0, .int a2, .int a3] σ (some (.long r)) σ := by
  refine Mt.of (own := RX11) (lv := [(0, .long a0), (2, .int a2), (3, .int a3)]) pn_X11 rfl (Nat.le_of_ble_eq_true rfl) rfl ?_
  unfold P_X11_ways at h
  refine rlc_1 dX11_ways_0 rfl ?_
  refine r_lstore (lv' := [(4, .long 1), (0, .long a0), (2, .int a2), (3, .int a3)]) dX11_ways_1 (by decide) rfl rfl ?_
  refine ric_0 dX11_ways_3 rfl ?_
  refine r_istore (lv' := [(6, .int 0), (4, .long 1), (0, .long a0), (2, .int a2), (3, .int a3)]) dX11_ways_4 (by decide) rfl rfl ?_
  refine r_sub [2, 3, 4, 1, 0] rfl ?_
  exact T_X11_ways_j6 FU a0 a2 a3 1 0 h
def P_X11_upToOf (a1 : Int32) (a2 : Int32) (a3 : Int32) (σ : SS) : Option Int64 :=
  gI ((25 * ((25 * a1) + a2)) + a3) 10000 <|
  some (ldL σ 1 ((25 * ((25 * a1) + a2)) + a3))
set_option maxHeartbeats 4000000 in
set_option maxRecDepth 100000 in
theorem T_X11_upToOf {X : XE} {σ : SS} {r : Int64} {a1 : Int32} {a2 : Int32} {a3 : Int32} (h : P_X11_upToOf a1 a2 a3 σ = some r) : Mt (gM X) 0 yX11_upToOf cX11_upToOf 4 (some .long) [.ref (xq X 0), .int a1, .int a2, .int a3] σ (some (.long r)) σ := by
  refine Mt.of (own := RX11) (lv := [(0, .ref (xq X 0)), (1, .int a1), (2, .int a2), (3, .int a3)]) pn_X11 rfl (Nat.le_of_ble_eq_true rfl) rfl ?_
  unfold P_X11_upToOf at h
  refine r_aload_n 0 dX11_upToOf_0 rfl rfl rfl ?_
  refine gf_X11_39_0 dX11_upToOf_1 rfl ?_
  refine r_bipush (v := 25) dX11_upToOf_4 (by decide) rfl ?_
  refine r_bipush (v := 25) dX11_upToOf_6 (by decide) rfl ?_
  refine r_iload_n 1 dX11_upToOf_8 rfl rfl rfl ?_
  refine r_imul dX11_upToOf_9 rfl ?_
  refine r_iload_n 2 dX11_upToOf_10 rfl rfl rfl ?_
  refine r_iadd dX11_upToOf_11 rfl ?_
  refine r_imul dX11_upToOf_12 rfl ?_
  refine r_iload_n 3 dX11_upToOf_13 rfl rfl rfl ?_
  refine r_iadd dX11_upToOf_14 rfl ?_
  obtain ⟨hi1, h⟩ := gi h
  refine alM_10 hi1 dX11_upToOf_15 rfl ?_
  exact r_lretR dX11_upToOf_16 h
def P_X11_plus (a0 : Int64) (a2 : Int64) : Option Int64 :=
  if 10000000000000000 ≤ (a0 + a2) then
    some 10000000000000000
  else
    some (a0 + a2)
set_option maxHeartbeats 4000000 in
set_option maxRecDepth 100000 in
theorem T_X11_plus {X : XE} {σ : SS} {r : Int64} {a0 : Int64} {a2 : Int64} (h : P_X11_plus a0 a2 = some r) : Mt (gM X) 0 yX11_plus cX11_plus 4 (some .long) [.long a0, .long a2] σ (some (.long r)) σ := by
  refine Mt.of (own := RX11) (lv := [(0, .long a0), (2, .long a2)]) pn_X11 rfl (Nat.le_of_ble_eq_true rfl) rfl ?_
  unfold P_X11_plus at h
  refine r_lload_n 0 dX11_plus_0 rfl rfl rfl ?_
  refine r_lload_n 1 dX11_plus_1 rfl rfl rfl ?_
  refine r_ladd dX11_plus_2 rfl ?_
  refine r_ldc2 (v := 10000000000000000) tw_1151 dX11_plus_3 rfl ?_
  refine r_lif_ge (t := 16) dX11_plus_6 rfl dX11_plus_7 (by decide) rfl (fun c1 => ?_) (fun c1 => ?_)
  · have h := it_t c1 h
    refine r_ldc2 (v := 10000000000000000) tw_1151 dX11_plus_16 rfl ?_
    exact r_lretR dX11_plus_19 h
  · have h := it_f c1 h
    refine r_lload_n 0 dX11_plus_10 rfl rfl rfl ?_
    refine r_lload_n 1 dX11_plus_11 rfl rfl rfl ?_
    refine r_ladd dX11_plus_12 rfl ?_
    refine r_goto (t := 19) dX11_plus_13 (by decide) ?_
    exact r_lretR dX11_plus_19 h
def P_X11_waysBelow_j36 (σ : SS) (K6 : Int32 → Int32 → Int32 → Int64 → Int64 → Int32 → Option Int64) (x1 : Int32) (x2 : Int32) (x3 : Int32) (x4 : Int64) (x8 : Int32) (y0 : Int32) (y1 : Int32) (y2 : Int64) (y3 : Int64) : Option Int64 :=
  (P_X11_ways y2 y1 y0).bind fun v2 =>
  (P_X11_upToOf x1 (x2 - (x8 * x3)) (x3 - 1) σ).bind fun v4 =>
  (P_X11_times v2 v4).bind fun v6 =>
  (P_X11_plus y3 v6).bind fun v8 =>
  K6 x1 x2 x3 x4 v8 (x8 + 1)
set_option maxHeartbeats 4000000 in
set_option maxRecDepth 100000 in
theorem T_X11_waysBelow_j36 {X : XE} {σ : SS} {r : Int64} {K6 : Int32 → Int32 → Int32 → Int64 → Int64 → Int32 → Option Int64} (hK6 : ∀ (x1 : Int32) (x2 : Int32) (x3 : Int32) (x4 : Int64) (x6 : Int64) (x8 : Int32), K6 x1 x2 x3 x4 x6 x8 = some r → V (gM X) 2 RX11 cX11_waysBelow 9 (some .long) (some (.long r)) σ 6 [(0, .ref (xq X 0)), (1, .int x1), (2, .int x2), (3, .int x3), (4, .long x4), (6, .long x6), (8, .int x8)] [] σ) : ∀ (x1 : Int32) (x2 : Int32) (x3 : Int32) (x4 : Int64) (x8 : Int32) (y0 : Int32) (y1 : Int32) (y2 : Int64) (y3 : Int64), P_X11_waysBelow_j36 σ K6 x1 x2 x3 x4 x8 y0 y1 y2 y3 = some r → V (gM X) 2 RX11 cX11_waysBelow 9 (some .long) (some (.long r)) σ 36 [(0, .ref (xq X 0)), (1, .int x1), (2, .int x2), (3, .int x3), (4, .long x4), (8, .int x8)] [.int y0, .int y1, .long y2, .long y3] σ := by
  intro x1 x2 x3 x4 x8 y0 y1 y2 y3 h
  unfold P_X11_waysBelow_j36 at h
  obtain ⟨v2, e1, h⟩ := bd h
  refine r_callS (As := [.long y2, .int y1, .int y0]) (rest := [.long y3]) (T_X11_ways e1) (by decide) mf_X11_ways rfl tw_1171 tw_1170 rfl (Nat.le_of_ble_eq_true rfl) dX11_waysBelow_36 rfl ?_
  refine r_call0 ?_
  refine r_aload_n 0 dX11_waysBelow_39 rfl rfl rfl ?_
  refine r_iload_n 1 dX11_waysBelow_40 rfl rfl rfl ?_
  refine r_iload_n 2 dX11_waysBelow_41 rfl rfl rfl ?_
  refine r_iload 5 dX11_waysBelow_42 rfl rfl ?_
  refine r_iload_n 3 dX11_waysBelow_44 rfl rfl rfl ?_
  refine r_imul dX11_waysBelow_45 rfl ?_
  refine r_isub dX11_waysBelow_46 rfl ?_
  refine r_iload_n 3 dX11_waysBelow_47 rfl rfl rfl ?_
  refine ric_1 dX11_waysBelow_48 rfl ?_
  refine r_isub dX11_waysBelow_49 rfl ?_
  obtain ⟨v4, e3, h⟩ := bd h
  refine r_callV (rest := [.long v2, .long y3]) (T_X11_upToOf e3) (by decide) mf_X11_upToOf rfl tw_1178 tw_58 tw_1176 cM_0 rfl rfl rfl (Nat.le_of_ble_eq_true rfl) dX11_waysBelow_50 rfl ?_
  refine r_call0 ?_
  obtain ⟨v6, e5, h⟩ := bd h
  refine r_callS (As := [.long v2, .long v4]) (rest := [.long y3]) (T_X11_times e5) (by decide) mf_X11_times rfl tw_1148 tw_1147 rfl (Nat.le_of_ble_eq_true rfl) dX11_waysBelow_53 rfl ?_
  refine r_call0 ?_
  obtain ⟨v8, e7, h⟩ := bd h
  refine r_callS (As := [.long y3, .long v6]) (rest := []) (T_X11_plus e7) (by decide) mf_X11_plus rfl tw_1153 tw_1152 rfl (Nat.le_of_ble_eq_true rfl) dX11_waysBelow_56 rfl ?_
  refine r_call0 ?_
  refine r_lstore (lv' := [(6, .long v8), (0, .ref (xq X 0)), (1, .int x1), (2, .int x2), (3, .int x3), (4, .long x4), (8, .int x8)]) dX11_waysBelow_59 (by decide) rfl rfl ?_
  refine r_iinc (v := (x8 + 1)) (lv' := [(8, .int (x8 + 1)), (6, .long v8), (0, .ref (xq X 0)), (1, .int x1), (2, .int x2), (3, .int x3), (4, .long x4)]) 6 dX11_waysBelow_61 rfl rfl (by decide) rfl rfl ?_
  refine r_goto (t := 6) dX11_waysBelow_64 (by decide) ?_
  refine r_sub [2, 3, 4, 5, 6, 1, 0] rfl ?_
  exact hK6 x1 x2 x3 x4 v8 (x8 + 1) h
def P_X11_waysBelow_j6 (σ : SS) : Nat → Int32 → Int32 → Int32 → Int64 → Int64 → Int32 → Option Int64
  | 0, _, _, _, _, _, _ => none
  | n + 1, x1, x2, x3, x4, x6, x8 =>
    if x2 < (x8 * x3) then
      some x6
    else
      gI x1 16 <|
      if ¬ (ldA σ 0 x1) = 6 then
        P_X11_waysBelow_j36 σ (P_X11_waysBelow_j6 σ n) x1 x2 x3 x4 x8 0 x8 x4 x6
      else
        P_X11_waysBelow_j36 σ (P_X11_waysBelow_j6 σ n) x1 x2 x3 x4 x8 1 x8 x4 x6
set_option maxHeartbeats 4000000 in
set_option maxRecDepth 100000 in
theorem T_X11_waysBelow_j6 {X : XE} {σ : SS} {r : Int64} : ∀ (fu : Nat) (x1 : Int32) (x2 : Int32) (x3 : Int32) (x4 : Int64) (x6 : Int64) (x8 : Int32), P_X11_waysBelow_j6 σ fu x1 x2 x3 x4 x6 x8 = some r → V (gM X) 2 RX11 cX11_waysBelow 9 (some .long) (some (.long r)) σ 6 [(0, .ref (xq X 0)), (1, .int x1), (2, .int x2), (3, .int x3), (4, .long x4), (6, .long x6), (8, .int x8)] [] σ := by
  intro fu
  induction fu with
  | zero => intro x1 x2 x3 x4 x6 x8 h; exact no0 h
  | succ n ih =>
    intro x1 x2 x3 x4 x6 x8 h
    unfold P_X11_waysBelow_j6 at h
    refine r_iload 6 dX11_waysBelow_6 rfl rfl ?_
    refine r_iload_n 3 dX11_waysBelow_8 rfl rfl rfl ?_
    refine r_imul dX11_waysBelow_9 rfl ?_
    refine r_iload_n 2 dX11_waysBelow_10 rfl rfl rfl ?_
    refine r_icmp_gt (t := 67) dX11_waysBelow_11 (by decide) rfl (fun c1 => ?_) (fun c1 => ?_)
    · have h := it_t c1 h
      refine r_lload 5 dX11_waysBelow_67 rfl rfl ?_
      exact r_lretR dX11_waysBelow_69 h
    · have h := it_f c1 h
      refine r_lload 5 dX11_waysBelow_14 rfl rfl ?_
      refine r_lload 4 dX11_waysBelow_16 rfl rfl ?_
      refine r_iload 6 dX11_waysBelow_18 rfl rfl ?_
      refine r_aload_n 0 dX11_waysBelow_20 rfl rfl rfl ?_
      refine gf_X11_7_0 dX11_waysBelow_21 rfl ?_
      refine r_iload_n 1 dX11_waysBelow_24 rfl rfl rfl ?_
      obtain ⟨hi2, h⟩ := gi h
      refine alM_1 hi2 dX11_waysBelow_25 rfl ?_
      refine r_bipush (v := 6) dX11_waysBelow_26 (by decide) rfl ?_
      refine r_icmp_ne (t := 35) dX11_waysBelow_28 (by decide) rfl (fun c3 => ?_) (fun c3 => ?_)
      · have h := it_t c3 h
        refine ric_0 dX11_waysBelow_35 rfl ?_
        refine r_sub [0, 1, 2, 3, 4, 6] rfl ?_
        exact T_X11_waysBelow_j36 ih x1 x2 x3 x4 x8 0 x8 x4 x6 h
      · have h := it_n c3 h
        refine ric_1 dX11_waysBelow_31 rfl ?_
        refine r_goto (t := 36) dX11_waysBelow_32 (by decide) ?_
        refine r_sub [0, 1, 2, 3, 4, 6] rfl ?_
        exact T_X11_waysBelow_j36 ih x1 x2 x3 x4 x8 1 x8 x4 x6 h
def P_X11_waysBelow (a1 : Int32) (a2 : Int32) (a3 : Int32) (a4 : Int64) (σ : SS) : Option Int64 :=
  P_X11_waysBelow_j6 σ FU a1 a2 a3 a4 0 0
set_option maxHeartbeats 4000000 in
set_option maxRecDepth 100000 in
theorem T_X11_waysBelow {X : XE} {σ : SS} {r : Int64} {a1 : Int32} {a2 : Int32} {a3 : Int32} {a4 : Int64} (h : P_X11_waysBelow a1 a2 a3 a4 σ = some r) : Mt (gM X) 2 yX11_waysBelow cX11_waysBelow 9 (some .long) [.ref (xq X 0), .int a1, .int a2, .int a3, .long a4] σ (some (.long r)) σ := by
  refine Mt.of (own := RX11) (lv := [(0, .ref (xq X 0)), (1, .int a1), (2, .int a2), (3, .int a3), (4, .long a4)]) pn_X11 rfl (Nat.le_of_ble_eq_true rfl) rfl ?_
  unfold P_X11_waysBelow at h
  refine rlc_0 dX11_waysBelow_0 rfl ?_
  refine r_lstore (lv' := [(6, .long 0), (0, .ref (xq X 0)), (1, .int a1), (2, .int a2), (3, .int a3), (4, .long a4)]) dX11_waysBelow_1 (by decide) rfl rfl ?_
  refine ric_0 dX11_waysBelow_3 rfl ?_
  refine r_istore (lv' := [(8, .int 0), (6, .long 0), (0, .ref (xq X 0)), (1, .int a1), (2, .int a2), (3, .int a3), (4, .long a4)]) dX11_waysBelow_4 (by decide) rfl rfl ?_
  refine r_sub [2, 3, 4, 5, 6, 1, 0] rfl ?_
  exact T_X11_waysBelow_j6 FU a1 a2 a3 a4 0 0 h
def P_X11_countSets_j83 (K28 : Int32 → Int32 → Int32 → Int32 → SS → Option SS) (x1 : Int32) (x2 : Int32) (x3 : Int32) (x4 : Int32) (y0 : Int64) (y1 : Int32) (σ : SS) : Option SS :=
  gI y1 10000 <|
  K28 x1 x2 x3 (x4 + 1) (stL σ 1 y1 y0)
set_option maxHeartbeats 4000000 in
set_option maxRecDepth 100000 in
theorem T_X11_countSets_j83 {X : XE} {σf : SS} {K28 : Int32 → Int32 → Int32 → Int32 → SS → Option SS} (hK28 : ∀ (x1 : Int32) (x2 : Int32) (x3 : Int32) (x4 : Int32) (σ : SS), K28 x1 x2 x3 x4 σ = some σf → V (gM X) 3 RX11 cX11_countSets 5 none none σf 28 [(0, .ref (xq X 0)), (1, .int x1), (2, .int x2), (3, .int x3), (4, .int x4)] [] σ) : ∀ (x1 : Int32) (x2 : Int32) (x3 : Int32) (x4 : Int32) (y0 : Int64) (y1 : Int32) (σ : SS), P_X11_countSets_j83 K28 x1 x2 x3 x4 y0 y1 σ = some σf → V (gM X) 3 RX11 cX11_countSets 5 none none σf 83 [(0, .ref (xq X 0)), (1, .int x1), (2, .int x2), (3, .int x3), (4, .int x4)] [.long y0, .int y1, .ref (xq X 10)] σ := by
  intro x1 x2 x3 x4 y0 y1 σ h
  unfold P_X11_countSets_j83 at h
  obtain ⟨hi1, h⟩ := gi h
  refine asM_10 hi1 dX11_countSets_83 rfl ?_
  refine r_iinc (v := (x4 + 1)) (lv' := [(4, .int (x4 + 1)), (0, .ref (xq X 0)), (1, .int x1), (2, .int x2), (3, .int x3)]) 4 dX11_countSets_84 rfl rfl (by decide) rfl rfl ?_
  refine r_goto (t := 28) dX11_countSets_87 (by decide) ?_
  refine r_sub [1, 2, 3, 4, 0] rfl ?_
  exact hK28 x1 x2 x3 (x4 + 1) (stL σ 1 y1 y0) h
def P_X11_countSets_j28 : Nat → Int32 → Int32 → Int32 → Int32 → SS → Option SS
  | 0, _, _, _, _, _ => none
  | n + 1, x1, x2, x3, x4, σ =>
    if 25 ≤ x4 then
      some σ
    else
      if x4 ≤ x2 then
        gI x1 16 <|
        (P_X11_countOf (ldA σ 1 x1) x4 σ).bind fun v5 =>
        (P_X11_waysBelow x1 x2 x4 v5 σ).bind fun v7 =>
        P_X11_countSets_j83 (P_X11_countSets_j28 n) x1 x2 x3 x4 v7 (x3 + x4) σ
      else
        gI ((x3 + x4) - 1) 10000 <|
        P_X11_countSets_j83 (P_X11_countSets_j28 n) x1 x2 x3 x4 (ldL σ 1 ((x3 + x4) - 1)) (x3 + x4) σ
set_option maxHeartbeats 4000000 in
set_option maxRecDepth 100000 in
theorem T_X11_countSets_j28 {X : XE} {σf : SS} : ∀ (fu : Nat) (x1 : Int32) (x2 : Int32) (x3 : Int32) (x4 : Int32) (σ : SS), P_X11_countSets_j28 fu x1 x2 x3 x4 σ = some σf → V (gM X) 3 RX11 cX11_countSets 5 none none σf 28 [(0, .ref (xq X 0)), (1, .int x1), (2, .int x2), (3, .int x3), (4, .int x4)] [] σ := by
  intro fu
  induction fu with
  | zero => intro x1 x2 x3 x4 σ h; exact no0 h
  | succ n ih =>
    intro x1 x2 x3 x4 σ h
    unfold P_X11_countSets_j28 at h
    refine r_iload 4 dX11_countSets_28 rfl rfl ?_
    refine r_bipush (v := 25) dX11_countSets_30 (by decide) rfl ?_
    refine r_icmp_ge (t := 90) dX11_countSets_32 (by decide) rfl (fun c1 => ?_) (fun c1 => ?_)
    · have h := it_t c1 h
      exact r_vretS dX11_countSets_90 h
    · have h := it_f c1 h
      refine r_aload_n 0 dX11_countSets_35 rfl rfl rfl ?_
      refine gf_X11_39_0 dX11_countSets_36 rfl ?_
      refine r_iload_n 3 dX11_countSets_39 rfl rfl rfl ?_
      refine r_iload 4 dX11_countSets_40 rfl rfl ?_
      refine r_iadd dX11_countSets_42 rfl ?_
      refine r_iload 4 dX11_countSets_43 rfl rfl ?_
      refine r_iload_n 2 dX11_countSets_45 rfl rfl rfl ?_
      refine r_icmp_le (t := 63) dX11_countSets_46 (by decide) rfl (fun c2 => ?_) (fun c2 => ?_)
      · have h := it_t c2 h
        refine r_aload_n 0 dX11_countSets_63 rfl rfl rfl ?_
        refine r_iload_n 1 dX11_countSets_64 rfl rfl rfl ?_
        refine r_iload_n 2 dX11_countSets_65 rfl rfl rfl ?_
        refine r_iload 4 dX11_countSets_66 rfl rfl ?_
        refine r_aload_n 0 dX11_countSets_68 rfl rfl rfl ?_
        refine r_aload_n 0 dX11_countSets_69 rfl rfl rfl ?_
        refine gf_X11_13_0 dX11_countSets_70 rfl ?_
        refine r_iload_n 1 dX11_countSets_73 rfl rfl rfl ?_
        obtain ⟨hi3, h⟩ := gi h
        refine alM_2 hi3 dX11_countSets_74 rfl ?_
        refine r_iload 4 dX11_countSets_75 rfl rfl ?_
        obtain ⟨v5, e4, h⟩ := bd h
        refine r_callV (rest := [.int x4, .int x2, .int x1, .ref (xq X 0), .int (x3 + x4), .ref (xq X 10)]) (T_X11_countOf e4) (by decide) mf_X11_countOf rfl tw_1145 tw_54 tw_1143 cM_0 rfl rfl rfl (Nat.le_of_ble_eq_true rfl) dX11_countSets_77 rfl ?_
        refine r_call0 ?_
        obtain ⟨v7, e6, h⟩ := bd h
        refine r_callV (rest := [.int (x3 + x4), .ref (xq X 10)]) (T_X11_waysBelow e6) (by decide) mf_X11_waysBelow rfl tw_1168 tw_57 tw_1166 cM_0 rfl rfl rfl (Nat.le_of_ble_eq_true rfl) dX11_countSets_80 rfl ?_
        refine r_call0 ?_
        exact T_X11_countSets_j83 ih x1 x2 x3 x4 v7 (x3 + x4) σ h
      · have h := it_f c2 h
        refine r_aload_n 0 dX11_countSets_49 rfl rfl rfl ?_
        refine gf_X11_39_0 dX11_countSets_50 rfl ?_
        refine r_iload_n 3 dX11_countSets_53 rfl rfl rfl ?_
        refine r_iload 4 dX11_countSets_54 rfl rfl ?_
        refine r_iadd dX11_countSets_56 rfl ?_
        refine ric_1 dX11_countSets_57 rfl ?_
        refine r_isub dX11_countSets_58 rfl ?_
        obtain ⟨hi8, h⟩ := gi h
        refine alM_10 hi8 dX11_countSets_59 rfl ?_
        refine r_goto (t := 83) dX11_countSets_60 (by decide) ?_
        exact T_X11_countSets_j83 ih x1 x2 x3 x4 (ldL σ 1 ((x3 + x4) - 1)) (x3 + x4) σ h
def P_X11_countSets_j24 (x1 : Int32) (x2 : Int32) (x3 : Int32) (y0 : Int64) (y1 : Int32) (σ : SS) : Option SS :=
  gI y1 10000 <|
  P_X11_countSets_j28 FU x1 x2 x3 1 (stL σ 1 y1 y0)
set_option maxHeartbeats 4000000 in
set_option maxRecDepth 100000 in
theorem T_X11_countSets_j24 {X : XE} {σf : SS} : ∀ (x1 : Int32) (x2 : Int32) (x3 : Int32) (y0 : Int64) (y1 : Int32) (σ : SS), P_X11_countSets_j24 x1 x2 x3 y0 y1 σ = some σf → V (gM X) 3 RX11 cX11_countSets 5 none none σf 24 [(0, .ref (xq X 0)), (1, .int x1), (2, .int x2), (3, .int x3)] [.long y0, .int y1, .ref (xq X 10)] σ := by
  intro x1 x2 x3 y0 y1 σ h
  unfold P_X11_countSets_j24 at h
  obtain ⟨hi1, h⟩ := gi h
  refine asM_10 hi1 dX11_countSets_24 rfl ?_
  refine ric_1 dX11_countSets_25 rfl ?_
  refine r_istore (lv' := [(4, .int 1), (0, .ref (xq X 0)), (1, .int x1), (2, .int x2), (3, .int x3)]) dX11_countSets_26 (by decide) rfl rfl ?_
  refine r_sub [1, 2, 3, 4, 0] rfl ?_
  exact T_X11_countSets_j28 FU x1 x2 x3 1 (stL σ 1 y1 y0) h
def P_X11_countSets (a1 : Int32) (a2 : Int32) (σ : SS) : Option SS :=
  if ¬ a2 = 0 then
    P_X11_countSets_j24 a1 a2 (25 * ((25 * a1) + a2)) 0 (25 * ((25 * a1) + a2)) σ
  else
    P_X11_countSets_j24 a1 a2 (25 * ((25 * a1) + a2)) 1 (25 * ((25 * a1) + a2)) σ
set_option maxHeartbeats 4000000 in
set_option maxRecDepth 100000 in
theorem T_X11_countSets {X : XE} {σf : SS} {σ : SS} {a1 : Int32} {a2 : Int32} (h : P_X11_countSets a1 a2 σ = some σf) : Mt (gM X) 3 yX11_countSets cX11_countSets 5 none [.ref (xq X 0), .int a1, .int a2] σ none σf := by
  refine Mt.of (own := RX11) (lv := [(0, .ref (xq X 0)), (1, .int a1), (2, .int a2)]) pn_X11 rfl (Nat.le_of_ble_eq_true rfl) rfl ?_
  unfold P_X11_countSets at h
  refine r_bipush (v := 25) dX11_countSets_0 (by decide) rfl ?_
  refine r_bipush (v := 25) dX11_countSets_2 (by decide) rfl ?_
  refine r_iload_n 1 dX11_countSets_4 rfl rfl rfl ?_
  refine r_imul dX11_countSets_5 rfl ?_
  refine r_iload_n 2 dX11_countSets_6 rfl rfl rfl ?_
  refine r_iadd dX11_countSets_7 rfl ?_
  refine r_imul dX11_countSets_8 rfl ?_
  refine r_istore_n (lv' := [(3, .int (25 * ((25 * a1) + a2))), (0, .ref (xq X 0)), (1, .int a1), (2, .int a2)]) dX11_countSets_9 rfl (by decide) rfl rfl ?_
  refine r_aload_n 1 dX11_countSets_10 rfl rfl rfl ?_
  refine gf_X11_39_0 dX11_countSets_11 rfl ?_
  refine r_iload_n 0 dX11_countSets_14 rfl rfl rfl ?_
  refine r_iload_n 3 dX11_countSets_15 rfl rfl rfl ?_
  refine r_if_ne (t := 23) dX11_countSets_16 (by decide) rfl (fun c1 => ?_) (fun c1 => ?_)
  · have h := it_t c1 h
    refine rlc_0 dX11_countSets_23 rfl ?_
    refine r_sub [1, 2, 3, 0] rfl ?_
    exact T_X11_countSets_j24 a1 a2 (25 * ((25 * a1) + a2)) 0 (25 * ((25 * a1) + a2)) σ h
  · have h := it_n c1 h
    refine rlc_1 dX11_countSets_19 rfl ?_
    refine r_goto (t := 24) dX11_countSets_20 (by decide) ?_
    refine r_sub [1, 2, 3, 0] rfl ?_
    exact T_X11_countSets_j24 a1 a2 (25 * ((25 * a1) + a2)) 1 (25 * ((25 * a1) + a2)) σ h
def P_X11_factorial_j4 : Nat → Int32 → Int64 → Int32 → Option Int64
  | 0, _, _, _ => none
  | n + 1, x0, x1, x3 =>
    if x0 < x3 then
      some x1
    else
      (P_X11_factorial_j4 n) x0 (x1 * x3.toInt64) (x3 + 1)
set_option maxHeartbeats 4000000 in
set_option maxRecDepth 100000 in
theorem T_X11_factorial_j4 {X : XE} {σ : SS} {r : Int64} : ∀ (fu : Nat) (x0 : Int32) (x1 : Int64) (x3 : Int32), P_X11_factorial_j4 fu x0 x1 x3 = some r → V (gM X) 0 RX11 cX11_factorial 4 (some .long) (some (.long r)) σ 4 [(0, .int x0), (1, .long x1), (3, .int x3)] [] σ := by
  intro fu
  induction fu with
  | zero => intro x0 x1 x3 h; exact no0 h
  | succ n ih =>
    intro x0 x1 x3 h
    unfold P_X11_factorial_j4 at h
    refine r_iload_n 2 dX11_factorial_4 rfl rfl rfl ?_
    refine r_iload_n 0 dX11_factorial_5 rfl rfl rfl ?_
    refine r_icmp_gt (t := 20) dX11_factorial_6 (by decide) rfl (fun c1 => ?_) (fun c1 => ?_)
    · have h := it_t c1 h
      refine r_lload_n 1 dX11_factorial_20 rfl rfl rfl ?_
      exact r_lretR dX11_factorial_21 h
    · have h := it_f c1 h
      refine r_lload_n 1 dX11_factorial_9 rfl rfl rfl ?_
      refine r_iload_n 2 dX11_factorial_10 rfl rfl rfl ?_
      refine r_i2l dX11_factorial_11 rfl ?_
      refine r_lmul dX11_factorial_12 rfl ?_
      refine r_lstore_n (lv' := [(1, .long (x1 * x3.toInt64)), (0, .int x0), (3, .int x3)]) dX11_factorial_13 rfl (by decide) rfl rfl ?_
      refine r_iinc (v := (x3 + 1)) (lv' := [(3, .int (x3 + 1)), (1, .long (x1 * x3.toInt64)), (0, .int x0)]) 2 dX11_factorial_14 rfl rfl (by decide) rfl rfl ?_
      refine r_goto (t := 4) dX11_factorial_17 (by decide) ?_
      refine r_sub [2, 1, 0] rfl ?_
      exact ih x0 (x1 * x3.toInt64) (x3 + 1) h
def P_X11_factorial (a0 : Int32) : Option Int64 :=
  P_X11_factorial_j4 FU a0 1 2
set_option maxHeartbeats 4000000 in
set_option maxRecDepth 100000 in
theorem T_X11_factorial {X : XE} {σ : SS} {r : Int64} {a0 : Int32} (h : P_X11_factorial a0 = some r) : Mt (gM X) 0 yX11_factorial cX11_factorial 4 (some .long) [.int a0] σ (some (.long r)) σ := by
  refine Mt.of (own := RX11) (lv := [(0, .int a0)]) pn_X11 rfl (Nat.le_of_ble_eq_true rfl) rfl ?_
  unfold P_X11_factorial at h
  refine rlc_1 dX11_factorial_0 rfl ?_
  refine r_lstore_n (lv' := [(1, .long 1), (0, .int a0)]) dX11_factorial_1 rfl (by decide) rfl rfl ?_
  refine ric_2 dX11_factorial_2 rfl ?_
  refine r_istore_n (lv' := [(3, .int 2), (1, .long 1), (0, .int a0)]) dX11_factorial_3 rfl (by decide) rfl rfl ?_
  refine r_sub [2, 1, 0] rfl ?_
  exact T_X11_factorial_j4 FU a0 1 2 h
def P_X11_countRow_j13 (σ : SS) : Nat → Int32 → Int32 → Int64 → Int32 → Option Int64
  | 0, _, _, _, _ => none
  | n + 1, x1, x2, x3, x5 =>
    if x2 < x5 then
      some x3
    else
      gI x1 16 <|
      (P_X11_countOf (ldA σ 1 x1) x5 σ).bind fun v4 =>
      (P_X11_countOf x1 (x2 - x5) σ).bind fun v6 =>
      (P_X11_times v4 v6).bind fun v8 =>
      (P_X11_plus x3 v8).bind fun v10 =>
      (P_X11_countRow_j13 σ n) x1 x2 v10 (x5 + 1)
set_option maxHeartbeats 4000000 in
set_option maxRecDepth 100000 in
theorem T_X11_countRow_j13 {X : XE} {σ : SS} {r : Int64} : ∀ (fu : Nat) (x1 : Int32) (x2 : Int32) (x3 : Int64) (x5 : Int32), P_X11_countRow_j13 σ fu x1 x2 x3 x5 = some r → V (gM X) 1 RX11 cX11_countRow 6 (some .long) (some (.long r)) σ 13 [(0, .ref (xq X 0)), (1, .int x1), (2, .int x2), (3, .long x3), (5, .int x5)] [] σ := by
  intro fu
  induction fu with
  | zero => intro x1 x2 x3 x5 h; exact no0 h
  | succ n ih =>
    intro x1 x2 x3 x5 h
    unfold P_X11_countRow_j13 at h
    refine r_iload 4 dX11_countRow_13 rfl rfl ?_
    refine r_iload_n 2 dX11_countRow_15 rfl rfl rfl ?_
    refine r_icmp_gt (t := 54) dX11_countRow_16 (by decide) rfl (fun c1 => ?_) (fun c1 => ?_)
    · have h := it_t c1 h
      refine r_lload_n 3 dX11_countRow_54 rfl rfl rfl ?_
      exact r_lretR dX11_countRow_55 h
    · have h := it_f c1 h
      refine r_lload_n 3 dX11_countRow_19 rfl rfl rfl ?_
      refine r_aload_n 0 dX11_countRow_20 rfl rfl rfl ?_
      refine r_aload_n 0 dX11_countRow_21 rfl rfl rfl ?_
      refine gf_X11_13_0 dX11_countRow_22 rfl ?_
      refine r_iload_n 1 dX11_countRow_25 rfl rfl rfl ?_
      obtain ⟨hi2, h⟩ := gi h
      refine alM_2 hi2 dX11_countRow_26 rfl ?_
      refine r_iload 4 dX11_countRow_27 rfl rfl ?_
      obtain ⟨v4, e3, h⟩ := bd h
      refine r_callV (rest := [.long x3]) (T_X11_countOf e3) (by decide) mf_X11_countOf rfl tw_1145 tw_54 tw_1143 cM_0 rfl rfl rfl (Nat.le_of_ble_eq_true rfl) dX11_countRow_29 rfl ?_
      refine r_call0 ?_
      refine r_aload_n 0 dX11_countRow_32 rfl rfl rfl ?_
      refine r_iload_n 1 dX11_countRow_33 rfl rfl rfl ?_
      refine r_iload_n 2 dX11_countRow_34 rfl rfl rfl ?_
      refine r_iload 4 dX11_countRow_35 rfl rfl ?_
      refine r_isub dX11_countRow_37 rfl ?_
      obtain ⟨v6, e5, h⟩ := bd h
      refine r_callV (rest := [.long v4, .long x3]) (T_X11_countOf e5) (by decide) mf_X11_countOf rfl tw_1145 tw_54 tw_1143 cM_0 rfl rfl rfl (Nat.le_of_ble_eq_true rfl) dX11_countRow_38 rfl ?_
      refine r_call0 ?_
      obtain ⟨v8, e7, h⟩ := bd h
      refine r_callS (As := [.long v4, .long v6]) (rest := [.long x3]) (T_X11_times e7) (by decide) mf_X11_times rfl tw_1148 tw_1147 rfl (Nat.le_of_ble_eq_true rfl) dX11_countRow_41 rfl ?_
      refine r_call0 ?_
      obtain ⟨v10, e9, h⟩ := bd h
      refine r_callS (As := [.long x3, .long v8]) (rest := []) (T_X11_plus e9) (by decide) mf_X11_plus rfl tw_1153 tw_1152 rfl (Nat.le_of_ble_eq_true rfl) dX11_countRow_44 rfl ?_
      refine r_call0 ?_
      refine r_lstore_n (lv' := [(3, .long v10), (0, .ref (xq X 0)), (1, .int x1), (2, .int x2), (5, .int x5)]) dX11_countRow_47 rfl (by decide) rfl rfl ?_
      refine r_iinc (v := (x5 + 1)) (lv' := [(5, .int (x5 + 1)), (3, .long v10), (0, .ref (xq X 0)), (1, .int x1), (2, .int x2)]) 4 dX11_countRow_48 rfl rfl (by decide) rfl rfl ?_
      refine r_goto (t := 13) dX11_countRow_51 (by decide) ?_
      refine r_sub [2, 3, 4, 1, 0] rfl ?_
      exact ih x1 x2 v10 (x5 + 1) h
def P_X11_countRow_j9 (σ : SS) (x1 : Int32) (x2 : Int32) (y0 : Int64) : Option Int64 :=
  P_X11_countRow_j13 σ FU x1 x2 y0 1
set_option maxHeartbeats 4000000 in
set_option maxRecDepth 100000 in
theorem T_X11_countRow_j9 {X : XE} {σ : SS} {r : Int64} : ∀ (x1 : Int32) (x2 : Int32) (y0 : Int64), P_X11_countRow_j9 σ x1 x2 y0 = some r → V (gM X) 1 RX11 cX11_countRow 6 (some .long) (some (.long r)) σ 9 [(0, .ref (xq X 0)), (1, .int x1), (2, .int x2)] [.long y0] σ := by
  intro x1 x2 y0 h
  unfold P_X11_countRow_j9 at h
  refine r_lstore_n (lv' := [(3, .long y0), (0, .ref (xq X 0)), (1, .int x1), (2, .int x2)]) dX11_countRow_9 rfl (by decide) rfl rfl ?_
  refine ric_1 dX11_countRow_10 rfl ?_
  refine r_istore (lv' := [(5, .int 1), (3, .long y0), (0, .ref (xq X 0)), (1, .int x1), (2, .int x2)]) dX11_countRow_11 (by decide) rfl rfl ?_
  refine r_sub [2, 3, 4, 1, 0] rfl ?_
  exact T_X11_countRow_j13 FU x1 x2 y0 1 h
def P_X11_countRow (a1 : Int32) (a2 : Int32) (σ : SS) : Option Int64 :=
  if ¬ a2 = 0 then
    P_X11_countRow_j9 σ a1 a2 0
  else
    P_X11_countRow_j9 σ a1 a2 1
set_option maxHeartbeats 4000000 in
set_option maxRecDepth 100000 in
theorem T_X11_countRow {X : XE} {σ : SS} {r : Int64} {a1 : Int32} {a2 : Int32} (h : P_X11_countRow a1 a2 σ = some r) : Mt (gM X) 1 yX11_countRow cX11_countRow 6 (some .long) [.ref (xq X 0), .int a1, .int a2] σ (some (.long r)) σ := by
  refine Mt.of (own := RX11) (lv := [(0, .ref (xq X 0)), (1, .int a1), (2, .int a2)]) pn_X11 rfl (Nat.le_of_ble_eq_true rfl) rfl ?_
  unfold P_X11_countRow at h
  refine r_iload_n 2 dX11_countRow_0 rfl rfl rfl ?_
  refine r_if_ne (t := 8) dX11_countRow_1 (by decide) rfl (fun c1 => ?_) (fun c1 => ?_)
  · have h := it_t c1 h
    refine rlc_0 dX11_countRow_8 rfl ?_
    exact T_X11_countRow_j9 a1 a2 0 h
  · have h := it_n c1 h
    refine rlc_1 dX11_countRow_4 rfl ?_
    refine r_goto (t := 9) dX11_countRow_5 (by decide) ?_
    exact T_X11_countRow_j9 a1 a2 1 h
def P_X11_countBoth_j99 (σ : SS) (K5 : Int32 → Int32 → Int64 → Int32 → Option Int64) (x1 : Int32) (x2 : Int32) (x5 : Int32) (y0 : Int64) : Option Int64 :=
  K5 x1 x2 y0 (x5 + 1)
set_option maxHeartbeats 4000000 in
set_option maxRecDepth 100000 in
theorem T_X11_countBoth_j99 {X : XE} {σ : SS} {r : Int64} {K5 : Int32 → Int32 → Int64 → Int32 → Option Int64} (hK5 : ∀ (x1 : Int32) (x2 : Int32) (x3 : Int64) (x5 : Int32), K5 x1 x2 x3 x5 = some r → V (gM X) 1 RX11 cX11_countBoth 7 (some .long) (some (.long r)) σ 5 [(0, .ref (xq X 0)), (1, .int x1), (2, .int x2), (3, .long x3), (5, .int x5)] [] σ) : ∀ (x1 : Int32) (x2 : Int32) (x5 : Int32) (y0 : Int64), P_X11_countBoth_j99 σ K5 x1 x2 x5 y0 = some r → V (gM X) 1 RX11 cX11_countBoth 7 (some .long) (some (.long r)) σ 99 [(0, .ref (xq X 0)), (1, .int x1), (2, .int x2), (5, .int x5)] [.long y0] σ := by
  intro x1 x2 x5 y0 h
  unfold P_X11_countBoth_j99 at h
  refine r_lstore_n (lv' := [(3, .long y0), (0, .ref (xq X 0)), (1, .int x1), (2, .int x2), (5, .int x5)]) dX11_countBoth_99 rfl (by decide) rfl rfl ?_
  refine r_iinc (v := (x5 + 1)) (lv' := [(5, .int (x5 + 1)), (3, .long y0), (0, .ref (xq X 0)), (1, .int x1), (2, .int x2)]) 4 dX11_countBoth_100 rfl rfl (by decide) rfl rfl ?_
  refine r_goto (t := 5) dX11_countBoth_103 (by decide) ?_
  refine r_sub [2, 3, 4, 1, 0] rfl ?_
  exact hK5 x1 x2 y0 (x5 + 1) h
def P_X11_countBoth_j55 (σ : SS) (K5 : Int32 → Int32 → Int64 → Int32 → Option Int64) (x1 : Int32) (x2 : Int32) (x3 : Int64) (x5 : Int32) (y0 : Int32) : Option Int64 :=
  if y0 = 0 then
    P_X11_countBoth_j99 σ K5 x1 x2 x5 x3
  else
    gI x1 16 <|
    (P_X11_countOf (ldA σ 1 x1) x5 σ).bind fun v4 =>
    gI x1 16 <|
    (P_X11_countOf (ldA σ 2 x1) (x2 - x5) σ).bind fun v7 =>
    (P_X11_times v4 v7).bind fun v9 =>
    (P_X11_plus x3 v9).bind fun v11 =>
    P_X11_countBoth_j99 σ K5 x1 x2 x5 v11
set_option maxHeartbeats 4000000 in
set_option maxRecDepth 100000 in
theorem T_X11_countBoth_j55 {X : XE} {σ : SS} {r : Int64} {K5 : Int32 → Int32 → Int64 → Int32 → Option Int64} (hK5 : ∀ (x1 : Int32) (x2 : Int32) (x3 : Int64) (x5 : Int32), K5 x1 x2 x3 x5 = some r → V (gM X) 1 RX11 cX11_countBoth 7 (some .long) (some (.long r)) σ 5 [(0, .ref (xq X 0)), (1, .int x1), (2, .int x2), (3, .long x3), (5, .int x5)] [] σ) : ∀ (x1 : Int32) (x2 : Int32) (x3 : Int64) (x5 : Int32) (y0 : Int32), P_X11_countBoth_j55 σ K5 x1 x2 x3 x5 y0 = some r → V (gM X) 1 RX11 cX11_countBoth 7 (some .long) (some (.long r)) σ 55 [(0, .ref (xq X 0)), (1, .int x1), (2, .int x2), (3, .long x3), (5, .int x5)] [.int y0] σ := by
  intro x1 x2 x3 x5 y0 h
  unfold P_X11_countBoth_j55 at h
  refine r_istore (lv' := [(6, .int y0), (0, .ref (xq X 0)), (1, .int x1), (2, .int x2), (3, .long x3), (5, .int x5)]) dX11_countBoth_55 (by decide) rfl rfl ?_
  refine r_iload 0 dX11_countBoth_57 rfl rfl ?_
  refine r_if_eq (t := 98) dX11_countBoth_59 (by decide) rfl (fun c1 => ?_) (fun c1 => ?_)
  · have h := it_t c1 h
    refine r_lload_n 4 dX11_countBoth_98 rfl rfl rfl ?_
    refine r_sub [1, 2, 3, 5] rfl ?_
    exact T_X11_countBoth_j99 hK5 x1 x2 x5 x3 h
  · have h := it_f c1 h
    refine r_lload_n 4 dX11_countBoth_62 rfl rfl rfl ?_
    refine r_aload_n 1 dX11_countBoth_63 rfl rfl rfl ?_
    refine r_aload_n 1 dX11_countBoth_64 rfl rfl rfl ?_
    refine gf_X11_13_0 dX11_countBoth_65 rfl ?_
    refine r_iload_n 2 dX11_countBoth_68 rfl rfl rfl ?_
    obtain ⟨hi2, h⟩ := gi h
    refine alM_2 hi2 dX11_countBoth_69 rfl ?_
    refine r_iload 5 dX11_countBoth_70 rfl rfl ?_
    obtain ⟨v4, e3, h⟩ := bd h
    refine r_callV (rest := [.long x3]) (T_X11_countOf e3) (by decide) mf_X11_countOf rfl tw_1145 tw_54 tw_1143 cM_0 rfl rfl rfl (Nat.le_of_ble_eq_true rfl) dX11_countBoth_72 rfl ?_
    refine r_call0 ?_
    refine r_aload_n 1 dX11_countBoth_75 rfl rfl rfl ?_
    refine r_aload_n 1 dX11_countBoth_76 rfl rfl rfl ?_
    refine gf_X11_16_0 dX11_countBoth_77 rfl ?_
    refine r_iload_n 2 dX11_countBoth_80 rfl rfl rfl ?_
    obtain ⟨hi5, h⟩ := gi h
    refine alM_3 hi5 dX11_countBoth_81 rfl ?_
    refine r_iload_n 3 dX11_countBoth_82 rfl rfl rfl ?_
    refine r_iload 5 dX11_countBoth_83 rfl rfl ?_
    refine r_isub dX11_countBoth_85 rfl ?_
    obtain ⟨v7, e6, h⟩ := bd h
    refine r_callV (rest := [.long v4, .long x3]) (T_X11_countOf e6) (by decide) mf_X11_countOf rfl tw_1145 tw_54 tw_1143 cM_0 rfl rfl rfl (Nat.le_of_ble_eq_true rfl) dX11_countBoth_86 rfl ?_
    refine r_call0 ?_
    obtain ⟨v9, e8, h⟩ := bd h
    refine r_callS (As := [.long v4, .long v7]) (rest := [.long x3]) (T_X11_times e8) (by decide) mf_X11_times rfl tw_1148 tw_1147 rfl (Nat.le_of_ble_eq_true rfl) dX11_countBoth_89 rfl ?_
    refine r_call0 ?_
    obtain ⟨v11, e10, h⟩ := bd h
    refine r_callS (As := [.long x3, .long v9]) (rest := []) (T_X11_plus e10) (by decide) mf_X11_plus rfl tw_1153 tw_1152 rfl (Nat.le_of_ble_eq_true rfl) dX11_countBoth_92 rfl ?_
    refine r_call0 ?_
    refine r_goto (t := 99) dX11_countBoth_95 (by decide) ?_
    refine r_sub [1, 2, 3, 5] rfl ?_
    exact T_X11_countBoth_j99 hK5 x1 x2 x5 v11 h
def P_X11_countBoth_j50 (σ : SS) (K5 : Int32 → Int32 → Int64 → Int32 → Option Int64) (x1 : Int32) (x2 : Int32) (x3 : Int64) (x5 : Int32) : Option Int64 :=
  P_X11_countBoth_j55 σ K5 x1 x2 x3 x5 1
set_option maxHeartbeats 4000000 in
set_option maxRecDepth 100000 in
theorem T_X11_countBoth_j50 {X : XE} {σ : SS} {r : Int64} {K5 : Int32 → Int32 → Int64 → Int32 → Option Int64} (hK5 : ∀ (x1 : Int32) (x2 : Int32) (x3 : Int64) (x5 : Int32), K5 x1 x2 x3 x5 = some r → V (gM X) 1 RX11 cX11_countBoth 7 (some .long) (some (.long r)) σ 5 [(0, .ref (xq X 0)), (1, .int x1), (2, .int x2), (3, .long x3), (5, .int x5)] [] σ) : ∀ (x1 : Int32) (x2 : Int32) (x3 : Int64) (x5 : Int32), P_X11_countBoth_j50 σ K5 x1 x2 x3 x5 = some r → V (gM X) 1 RX11 cX11_countBoth 7 (some .long) (some (.long r)) σ 50 [(0, .ref (xq X 0)), (1, .int x1), (2, .int x2), (3, .long x3), (5, .int x5)] [] σ := by
  intro x1 x2 x3 x5 h
  unfold P_X11_countBoth_j50 at h
  refine ric_1 dX11_countBoth_50 rfl ?_
  refine r_goto (t := 55) dX11_countBoth_51 (by decide) ?_
  exact T_X11_countBoth_j55 hK5 x1 x2 x3 x5 1 h
def P_X11_countBoth_j54 (σ : SS) (K5 : Int32 → Int32 → Int64 → Int32 → Option Int64) (x1 : Int32) (x2 : Int32) (x3 : Int64) (x5 : Int32) : Option Int64 :=
  P_X11_countBoth_j55 σ K5 x1 x2 x3 x5 0
set_option maxHeartbeats 4000000 in
set_option maxRecDepth 100000 in
theorem T_X11_countBoth_j54 {X : XE} {σ : SS} {r : Int64} {K5 : Int32 → Int32 → Int64 → Int32 → Option Int64} (hK5 : ∀ (x1 : Int32) (x2 : Int32) (x3 : Int64) (x5 : Int32), K5 x1 x2 x3 x5 = some r → V (gM X) 1 RX11 cX11_countBoth 7 (some .long) (some (.long r)) σ 5 [(0, .ref (xq X 0)), (1, .int x1), (2, .int x2), (3, .long x3), (5, .int x5)] [] σ) : ∀ (x1 : Int32) (x2 : Int32) (x3 : Int64) (x5 : Int32), P_X11_countBoth_j54 σ K5 x1 x2 x3 x5 = some r → V (gM X) 1 RX11 cX11_countBoth 7 (some .long) (some (.long r)) σ 54 [(0, .ref (xq X 0)), (1, .int x1), (2, .int x2), (3, .long x3), (5, .int x5)] [] σ := by
  intro x1 x2 x3 x5 h
  unfold P_X11_countBoth_j54 at h
  refine ric_0 dX11_countBoth_54 rfl ?_
  exact T_X11_countBoth_j55 hK5 x1 x2 x3 x5 0 h
def P_X11_countBoth_j31 (σ : SS) (K5 : Int32 → Int32 → Int64 → Int32 → Option Int64) (x1 : Int32) (x2 : Int32) (x3 : Int64) (x5 : Int32) : Option Int64 :=
  if 0 < x5 then
    P_X11_countBoth_j50 σ K5 x1 x2 x3 x5
  else
    gI x1 16 <|
    gI (ldA σ 1 x1) 16 <|
    if (ldA σ 6 (ldA σ 1 x1)) = 0 then
      P_X11_countBoth_j54 σ K5 x1 x2 x3 x5
    else
      P_X11_countBoth_j50 σ K5 x1 x2 x3 x5
set_option maxHeartbeats 4000000 in
set_option maxRecDepth 100000 in
theorem T_X11_countBoth_j31 {X : XE} {σ : SS} {r : Int64} {K5 : Int32 → Int32 → Int64 → Int32 → Option Int64} (hK5 : ∀ (x1 : Int32) (x2 : Int32) (x3 : Int64) (x5 : Int32), K5 x1 x2 x3 x5 = some r → V (gM X) 1 RX11 cX11_countBoth 7 (some .long) (some (.long r)) σ 5 [(0, .ref (xq X 0)), (1, .int x1), (2, .int x2), (3, .long x3), (5, .int x5)] [] σ) : ∀ (x1 : Int32) (x2 : Int32) (x3 : Int64) (x5 : Int32), P_X11_countBoth_j31 σ K5 x1 x2 x3 x5 = some r → V (gM X) 1 RX11 cX11_countBoth 7 (some .long) (some (.long r)) σ 31 [(0, .ref (xq X 0)), (1, .int x1), (2, .int x2), (3, .long x3), (5, .int x5)] [] σ := by
  intro x1 x2 x3 x5 h
  unfold P_X11_countBoth_j31 at h
  refine r_iload 4 dX11_countBoth_31 rfl rfl ?_
  refine r_if_gt (t := 50) dX11_countBoth_33 (by decide) rfl (fun c1 => ?_) (fun c1 => ?_)
  · have h := it_t c1 h
    exact T_X11_countBoth_j50 hK5 x1 x2 x3 x5 h
  · have h := it_f c1 h
    refine r_aload_n 0 dX11_countBoth_36 rfl rfl rfl ?_
    refine gf_X11_28_0 dX11_countBoth_37 rfl ?_
    refine r_aload_n 0 dX11_countBoth_40 rfl rfl rfl ?_
    refine gf_X11_13_0 dX11_countBoth_41 rfl ?_
    refine r_iload_n 1 dX11_countBoth_44 rfl rfl rfl ?_
    obtain ⟨hi2, h⟩ := gi h
    refine alM_2 hi2 dX11_countBoth_45 rfl ?_
    obtain ⟨hi3, h⟩ := gi h
    refine alM_7 hi3 dX11_countBoth_46 rfl ?_
    refine r_if_eq (t := 54) dX11_countBoth_47 (by decide) rfl (fun c4 => ?_) (fun c4 => ?_)
    · have h := it_t c4 h
      exact T_X11_countBoth_j54 hK5 x1 x2 x3 x5 h
    · have h := it_f c4 h
      exact T_X11_countBoth_j50 hK5 x1 x2 x3 x5 h
def P_X11_countBoth_j5 (σ : SS) : Nat → Int32 → Int32 → Int64 → Int32 → Option Int64
  | 0, _, _, _, _ => none
  | n + 1, x1, x2, x3, x5 =>
    if x2 < x5 then
      some x3
    else
      if x5 < x2 then
        P_X11_countBoth_j31 σ (P_X11_countBoth_j5 σ n) x1 x2 x3 x5
      else
        gI x1 16 <|
        gI (ldA σ 2 x1) 16 <|
        if (ldA σ 6 (ldA σ 2 x1)) = 0 then
          P_X11_countBoth_j54 σ (P_X11_countBoth_j5 σ n) x1 x2 x3 x5
        else
          P_X11_countBoth_j31 σ (P_X11_countBoth_j5 σ n) x1 x2 x3 x5
set_option maxHeartbeats 4000000 in
set_option maxRecDepth 100000 in
theorem T_X11_countBoth_j5 {X : XE} {σ : SS} {r : Int64} : ∀ (fu : Nat) (x1 : Int32) (x2 : Int32) (x3 : Int64) (x5 : Int32), P_X11_countBoth_j5 σ fu x1 x2 x3 x5 = some r → V (gM X) 1 RX11 cX11_countBoth 7 (some .long) (some (.long r)) σ 5 [(0, .ref (xq X 0)), (1, .int x1), (2, .int x2), (3, .long x3), (5, .int x5)] [] σ := by
  intro fu
  induction fu with
  | zero => intro x1 x2 x3 x5 h; exact no0 h
  | succ n ih =>
    intro x1 x2 x3 x5 h
    unfold P_X11_countBoth_j5 at h
    refine r_iload 4 dX11_countBoth_5 rfl rfl ?_
    refine r_iload_n 2 dX11_countBoth_7 rfl rfl rfl ?_
    refine r_icmp_gt (t := 106) dX11_countBoth_8 (by decide) rfl (fun c1 => ?_) (fun c1 => ?_)
    · have h := it_t c1 h
      refine r_lload_n 3 dX11_countBoth_106 rfl rfl rfl ?_
      exact r_lretR dX11_countBoth_107 h
    · have h := it_f c1 h
      refine r_iload 4 dX11_countBoth_11 rfl rfl ?_
      refine r_iload_n 2 dX11_countBoth_13 rfl rfl rfl ?_
      refine r_icmp_lt (t := 31) dX11_countBoth_14 (by decide) rfl (fun c2 => ?_) (fun c2 => ?_)
      · have h := it_t c2 h
        exact T_X11_countBoth_j31 ih x1 x2 x3 x5 h
      · have h := it_f c2 h
        refine r_aload_n 0 dX11_countBoth_17 rfl rfl rfl ?_
        refine gf_X11_28_0 dX11_countBoth_18 rfl ?_
        refine r_aload_n 0 dX11_countBoth_21 rfl rfl rfl ?_
        refine gf_X11_16_0 dX11_countBoth_22 rfl ?_
        refine r_iload_n 1 dX11_countBoth_25 rfl rfl rfl ?_
        obtain ⟨hi3, h⟩ := gi h
        refine alM_3 hi3 dX11_countBoth_26 rfl ?_
        obtain ⟨hi4, h⟩ := gi h
        refine alM_7 hi4 dX11_countBoth_27 rfl ?_
        refine r_if_eq (t := 54) dX11_countBoth_28 (by decide) rfl (fun c5 => ?_) (fun c5 => ?_)
        · have h := it_t c5 h
          exact T_X11_countBoth_j54 ih x1 x2 x3 x5 h
        · have h := it_f c5 h
          exact T_X11_countBoth_j31 ih x1 x2 x3 x5 h
def P_X11_countBoth (a1 : Int32) (a2 : Int32) (σ : SS) : Option Int64 :=
  P_X11_countBoth_j5 σ FU a1 a2 0 0
set_option maxHeartbeats 4000000 in
set_option maxRecDepth 100000 in
theorem T_X11_countBoth {X : XE} {σ : SS} {r : Int64} {a1 : Int32} {a2 : Int32} (h : P_X11_countBoth a1 a2 σ = some r) : Mt (gM X) 1 yX11_countBoth cX11_countBoth 7 (some .long) [.ref (xq X 0), .int a1, .int a2] σ (some (.long r)) σ := by
  refine Mt.of (own := RX11) (lv := [(0, .ref (xq X 0)), (1, .int a1), (2, .int a2)]) pn_X11 rfl (Nat.le_of_ble_eq_true rfl) rfl ?_
  unfold P_X11_countBoth at h
  refine rlc_0 dX11_countBoth_0 rfl ?_
  refine r_lstore_n (lv' := [(3, .long 0), (0, .ref (xq X 0)), (1, .int a1), (2, .int a2)]) dX11_countBoth_1 rfl (by decide) rfl rfl ?_
  refine ric_0 dX11_countBoth_2 rfl ?_
  refine r_istore (lv' := [(5, .int 0), (3, .long 0), (0, .ref (xq X 0)), (1, .int a1), (2, .int a2)]) dX11_countBoth_3 (by decide) rfl rfl ?_
  refine r_sub [2, 3, 4, 1, 0] rfl ?_
  exact T_X11_countBoth_j5 FU a1 a2 0 0 h
