def P_X4_findsTwin_j2 : Nat → Int32 → SS → Option (Int32 × SS)
  | 0, _, _ => none
  | n + 1, x1, σ =>
    if (sI σ 15) ≤ x1 then
      some (0, σ)
    else
      (P_X4_hasTwinAhead x1 σ).bind fun v3 =>
      if v3 = 0 then
        (P_X4_findsTwin_j2 n) (x1 + 1) σ
      else
        (P_X4_part x1 σ).bind fun v6 =>
        (P_X5_placeAt v6 σ).bind fun v8 =>
        (P_X4_hasTwin σ).bind fun v10 =>
        if v10 = 0 then
          some (1, (uI σ 18 v8))
        else
          some (1, (uI σ 18 (mmini (sI σ 18) v8)))
set_option maxHeartbeats 4000000 in
set_option maxRecDepth 100000 in
theorem T_X4_findsTwin_j2 {X : XE} {σf : SS} {r : Int32} : ∀ (fu : Nat) (x1 : Int32) (σ : SS), P_X4_findsTwin_j2 fu x1 σ = some (r, σf) → V (gX X) 3 RX4 cX4_findsTwin 3 (some .boolean) (some (.int r)) σf 2 [(0, .ref (xq X 7)), (1, .int x1)] [] σ := by
  intro fu
  induction fu with
  | zero => intro x1 σ h; exact no0 h
  | succ n ih =>
    intro x1 σ h
    unfold P_X4_findsTwin_j2 at h
    refine r_iload_n 1 dX4_findsTwin_2 rfl rfl rfl ?_
    refine r_aload_n 0 dX4_findsTwin_3 rfl rfl rfl ?_
    refine gf_X4_143_7 dX4_findsTwin_4 rfl ?_
    refine r_icmp_ge (t := 62) dX4_findsTwin_7 (by decide) rfl (fun c1 => ?_) (fun c1 => ?_)
    · have h := it_t c1 h
      refine ric_0 dX4_findsTwin_62 rfl ?_
      exact r_zretQ (Or.inl rfl) dX4_findsTwin_63 h
    · have h := it_f c1 h
      refine r_aload_n 0 dX4_findsTwin_10 rfl rfl rfl ?_
      refine r_iload_n 1 dX4_findsTwin_11 rfl rfl rfl ?_
      obtain ⟨v3, e2, h⟩ := bd h
      refine r_callV (rest := []) (T_X4_hasTwinAhead e2) (by decide) mf_X4_hasTwinAhead rfl tw_848 tw_30 tw_846 cX_7 rfl rfl rfl (Nat.le_of_ble_eq_true rfl) dX4_findsTwin_12 rfl ?_
      refine r_call0 ?_
      refine r_if_eq (t := 56) dX4_findsTwin_15 (by decide) rfl (fun c4 => ?_) (fun c4 => ?_)
      · have h := it_t c4 h
        refine r_iinc (v := (x1 + 1)) (lv' := [(1, .int (x1 + 1)), (0, .ref (xq X 7))]) 1 dX4_findsTwin_56 rfl rfl (by decide) rfl rfl ?_
        refine r_goto (t := 2) dX4_findsTwin_59 (by decide) ?_
        refine r_sub [1, 0] rfl ?_
        exact ih (x1 + 1) σ h
      · have h := it_f c4 h
        refine r_aload_n 0 dX4_findsTwin_18 rfl rfl rfl ?_
        refine gf_X4_33_7 dX4_findsTwin_19 rfl ?_
        refine r_aload_n 0 dX4_findsTwin_22 rfl rfl rfl ?_
        refine r_iload_n 1 dX4_findsTwin_23 rfl rfl rfl ?_
        obtain ⟨v6, e5, h⟩ := bd h
        refine r_callV (rest := [.ref (xq X 6)]) (T_X4_part e5) (by decide) mf_X4_part rfl tw_852 tw_31 tw_850 cX_7 rfl rfl rfl (Nat.le_of_ble_eq_true rfl) dX4_findsTwin_24 rfl ?_
        refine r_call0 ?_
        obtain ⟨v8, e7, h⟩ := bd h
        refine r_callV (rest := []) (T_X5_placeAt e7) (by decide) mf_X5_placeAt rfl tw_770 tw_771 tw_862 cX_6 rfl rfl rfl (Nat.le_of_ble_eq_true rfl) dX4_findsTwin_27 rfl ?_
        refine r_call0 ?_
        refine r_istore_n (lv' := [(2, .int v8), (0, .ref (xq X 7)), (1, .int x1)]) dX4_findsTwin_30 rfl (by decide) rfl rfl ?_
        refine r_aload_n 1 dX4_findsTwin_31 rfl rfl rfl ?_
        refine r_aload_n 1 dX4_findsTwin_32 rfl rfl rfl ?_
        obtain ⟨v10, e9, h⟩ := bd h
        refine r_callV (rest := [.ref (xq X 7)]) (T_X4_hasTwin e9) (by decide) mf_X4_hasTwin rfl tw_864 tw_865 tw_863 cX_7 rfl rfl rfl (Nat.le_of_ble_eq_true rfl) dX4_findsTwin_33 rfl ?_
        refine r_call0 ?_
        refine r_if_eq (t := 50) dX4_findsTwin_36 (by decide) rfl (fun c11 => ?_) (fun c11 => ?_)
        · have h := it_t c11 h
          refine r_iload_n 0 dX4_findsTwin_50 rfl rfl rfl ?_
          refine pf_X4_45_7 dX4_findsTwin_51 rfl ?_
          refine ric_1 dX4_findsTwin_54 rfl ?_
          exact r_zretQ (Or.inr rfl) dX4_findsTwin_55 h
        · have h := it_f c11 h
          refine r_aload_n 1 dX4_findsTwin_39 rfl rfl rfl ?_
          refine gf_X4_45_7 dX4_findsTwin_40 rfl ?_
          refine r_iload_n 0 dX4_findsTwin_43 rfl rfl rfl ?_
          refine r_mmini (by decide) (Nat.le_of_ble_eq_true rfl) tw_867 dX4_findsTwin_44 rfl ?_
          refine r_goto (t := 51) dX4_findsTwin_47 (by decide) ?_
          refine pf_X4_45_7 dX4_findsTwin_51 rfl ?_
          refine ric_1 dX4_findsTwin_54 rfl ?_
          exact r_zretQ (Or.inr rfl) dX4_findsTwin_55 h
def P_X4_findsTwin (σ : SS) : Option (Int32 × SS) :=
  P_X4_findsTwin_j2 FU 0 σ
set_option maxHeartbeats 4000000 in
set_option maxRecDepth 100000 in
theorem T_X4_findsTwin {X : XE} {σf : SS} {r : Int32} {σ : SS} (h : P_X4_findsTwin σ = some (r, σf)) : Mt (gX X) 3 yX4_findsTwin cX4_findsTwin 3 (some .boolean) [.ref (xq X 7)] σ (some (.int r)) σf := by
  refine Mt.of (own := RX4) (lv := [(0, .ref (xq X 7))]) pn_X4 rfl (Nat.le_of_ble_eq_true rfl) rfl ?_
  unfold P_X4_findsTwin at h
  refine ric_0 dX4_findsTwin_0 rfl ?_
  refine r_istore_n (lv' := [(1, .int 0), (0, .ref (xq X 7))]) dX4_findsTwin_1 rfl (by decide) rfl rfl ?_
  refine r_sub [1, 0] rfl ?_
  exact T_X4_findsTwin_j2 FU 0 σ h
def P_X4_hasUnknownPart_j2 (σ : SS) : Nat → Int32 → Option Int32
  | 0, _ => none
  | n + 1, x1 =>
    if (sI σ 15) ≤ x1 then
      some 0
    else
      (P_X4_part x1 σ).bind fun v3 =>
      (P_X4_numberAt v3 σ).bind fun v5 =>
      if ¬ v5 = (-1) then
        (P_X4_hasUnknownPart_j2 σ n) (x1 + 1)
      else
        some 1
set_option maxHeartbeats 4000000 in
set_option maxRecDepth 100000 in
theorem T_X4_hasUnknownPart_j2 {X : XE} {σ : SS} {r : Int32} : ∀ (fu : Nat) (x1 : Int32), P_X4_hasUnknownPart_j2 σ fu x1 = some r → V (gX X) 2 RX4 cX4_hasUnknownPart 2 (some .boolean) (some (.int r)) σ 2 [(0, .ref (xq X 7)), (1, .int x1)] [] σ := by
  intro fu
  induction fu with
  | zero => intro x1 h; exact no0 h
  | succ n ih =>
    intro x1 h
    unfold P_X4_hasUnknownPart_j2 at h
    refine r_iload_n 1 dX4_hasUnknownPart_2 rfl rfl rfl ?_
    refine r_aload_n 0 dX4_hasUnknownPart_3 rfl rfl rfl ?_
    refine gf_X4_143_7 dX4_hasUnknownPart_4 rfl ?_
    refine r_icmp_ge (t := 34) dX4_hasUnknownPart_7 (by decide) rfl (fun c1 => ?_) (fun c1 => ?_)
    · have h := it_t c1 h
      refine ric_0 dX4_hasUnknownPart_34 rfl ?_
      exact r_zretR (Or.inl rfl) dX4_hasUnknownPart_35 h
    · have h := it_f c1 h
      refine r_aload_n 0 dX4_hasUnknownPart_10 rfl rfl rfl ?_
      refine r_aload_n 0 dX4_hasUnknownPart_11 rfl rfl rfl ?_
      refine r_iload_n 1 dX4_hasUnknownPart_12 rfl rfl rfl ?_
      obtain ⟨v3, e2, h⟩ := bd h
      refine r_callV (rest := [.ref (xq X 7)]) (T_X4_part e2) (by decide) mf_X4_part rfl tw_852 tw_31 tw_850 cX_7 rfl rfl rfl (Nat.le_of_ble_eq_true rfl) dX4_hasUnknownPart_13 rfl ?_
      refine r_call0 ?_
      obtain ⟨v5, e4, h⟩ := bd h
      refine r_callV (rest := []) (T_X4_numberAt e4) (by decide) mf_X4_numberAt rfl tw_857 tw_32 tw_855 cX_7 rfl rfl rfl (Nat.le_of_ble_eq_true rfl) dX4_hasUnknownPart_16 rfl ?_
      refine r_call0 ?_
      refine r_ldc2 (v := (-1)) tw_861 dX4_hasUnknownPart_19 rfl ?_
      refine r_lif_ne (t := 28) dX4_hasUnknownPart_22 rfl dX4_hasUnknownPart_23 (by decide) rfl (fun c6 => ?_) (fun c6 => ?_)
      · have h := it_t c6 h
        refine r_iinc (v := (x1 + 1)) (lv' := [(1, .int (x1 + 1)), (0, .ref (xq X 7))]) 1 dX4_hasUnknownPart_28 rfl rfl (by decide) rfl rfl ?_
        refine r_goto (t := 2) dX4_hasUnknownPart_31 (by decide) ?_
        refine r_sub [1, 0] rfl ?_
        exact ih (x1 + 1) h
      · have h := it_n c6 h
        refine ric_1 dX4_hasUnknownPart_26 rfl ?_
        exact r_zretR (Or.inr rfl) dX4_hasUnknownPart_27 h
def P_X4_hasUnknownPart (σ : SS) : Option Int32 :=
  P_X4_hasUnknownPart_j2 σ FU 0
set_option maxHeartbeats 4000000 in
set_option maxRecDepth 100000 in
theorem T_X4_hasUnknownPart {X : XE} {σ : SS} {r : Int32} (h : P_X4_hasUnknownPart σ = some r) : Mt (gX X) 2 yX4_hasUnknownPart cX4_hasUnknownPart 2 (some .boolean) [.ref (xq X 7)] σ (some (.int r)) σ := by
  refine Mt.of (own := RX4) (lv := [(0, .ref (xq X 7))]) pn_X4 rfl (Nat.le_of_ble_eq_true rfl) rfl ?_
  unfold P_X4_hasUnknownPart at h
  refine ric_0 dX4_hasUnknownPart_0 rfl ?_
  refine r_istore_n (lv' := [(1, .int 0), (0, .ref (xq X 7))]) dX4_hasUnknownPart_1 rfl (by decide) rfl rfl ?_
  refine r_sub [1, 0] rfl ?_
  exact T_X4_hasUnknownPart_j2 FU 0 h
def P_X4_numberOfLetters_j20 (σ : SS) : Nat → Int32 → Int32 → Int32 → Int64 → Int32 → Option Int64
  | 0, _, _, _, _, _ => none
  | n + 1, x2, x3, x4, x5, x7 =>
    if x2 ≤ x7 then
      some x5
    else
      (P_X0_at_8 (x3 + x7) σ).bind fun v3 =>
      (P_J6_bitCount_0f7a4 ((((1 : Int32) <<< ((v3 - 97) &&& 31)) - 1) &&& (x4 ^^^ (-1)))).bind fun v5 =>
      (P_X7_orders ((x2 - 1) - x7)).bind fun v7 =>
      (P_X4_numberOfLetters_j20 σ n) x2 x3 (x4 ||| ((1 : Int32) <<< ((v3 - 97) &&& 31))) (x5 + (v5.toInt64 * v7)) (x7 + 1)
set_option maxHeartbeats 4000000 in
set_option maxRecDepth 100000 in
theorem T_X4_numberOfLetters_j20 {X : XE} {σ : SS} {r : Int64} : ∀ (fu : Nat) (x2 : Int32) (x3 : Int32) (x4 : Int32) (x5 : Int64) (x7 : Int32), P_X4_numberOfLetters_j20 σ fu x2 x3 x4 x5 x7 = some r → V (gX X) 2 RX4 cX4_numberOfLetters 10 (some .long) (some (.long r)) σ 20 [(0, .ref (xq X 7)), (2, .int x2), (3, .int x3), (4, .int x4), (5, .long x5), (7, .int x7)] [] σ := by
  intro fu
  induction fu with
  | zero => intro x2 x3 x4 x5 x7 h; exact no0 h
  | succ n ih =>
    intro x2 x3 x4 x5 x7 h
    unfold P_X4_numberOfLetters_j20 at h
    refine r_iload 5 dX4_numberOfLetters_20 rfl rfl ?_
    refine r_iload_n 1 dX4_numberOfLetters_22 rfl rfl rfl ?_
    refine r_icmp_ge (t := 91) dX4_numberOfLetters_23 (by decide) rfl (fun c1 => ?_) (fun c1 => ?_)
    · have h := it_t c1 h
      refine r_lload 4 dX4_numberOfLetters_91 rfl rfl ?_
      exact r_lretR dX4_numberOfLetters_93 h
    · have h := it_f c1 h
      refine r_aload_n 0 dX4_numberOfLetters_26 rfl rfl rfl ?_
      refine gf_X4_37_7 dX4_numberOfLetters_27 rfl ?_
      refine r_iload_n 2 dX4_numberOfLetters_30 rfl rfl rfl ?_
      refine r_iload 5 dX4_numberOfLetters_31 rfl rfl ?_
      refine r_iadd dX4_numberOfLetters_33 rfl ?_
      obtain ⟨v3, e2, h⟩ := bd h
      refine r_callV (rest := []) (T_X0_at_8 e2) (by decide) mf_X0_at rfl tw_698 tw_699 tw_878 cX_8 rfl rfl rfl (Nat.le_of_ble_eq_true rfl) dX4_numberOfLetters_34 rfl ?_
      refine r_call0 ?_
      refine r_bipush (v := 97) dX4_numberOfLetters_37 (by decide) rfl ?_
      refine r_isub dX4_numberOfLetters_39 rfl ?_
      refine r_istore (lv' := [(8, .int (v3 - 97)), (0, .ref (xq X 7)), (2, .int x2), (3, .int x3), (4, .int x4), (5, .long x5), (7, .int x7)]) dX4_numberOfLetters_40 (by decide) rfl rfl ?_
      refine ric_1 dX4_numberOfLetters_42 rfl ?_
      refine r_iload 0 dX4_numberOfLetters_43 rfl rfl ?_
      refine r_ishl dX4_numberOfLetters_45 rfl ?_
      refine ric_1 dX4_numberOfLetters_46 rfl ?_
      refine r_isub dX4_numberOfLetters_47 rfl ?_
      refine r_istore (lv' := [(9, .int (((1 : Int32) <<< ((v3 - 97) &&& 31)) - 1)), (8, .int (v3 - 97)), (0, .ref (xq X 7)), (2, .int x2), (3, .int x3), (4, .int x4), (5, .long x5), (7, .int x7)]) dX4_numberOfLetters_48 (by decide) rfl rfl ?_
      refine r_lload 6 dX4_numberOfLetters_50 rfl rfl ?_
      refine r_iload 0 dX4_numberOfLetters_52 rfl rfl ?_
      refine r_iload 5 dX4_numberOfLetters_54 rfl rfl ?_
      refine ric_m1 dX4_numberOfLetters_56 rfl ?_
      refine r_ixor dX4_numberOfLetters_57 rfl ?_
      refine r_iand dX4_numberOfLetters_58 rfl ?_
      obtain ⟨v5, e4, h⟩ := bd h
      refine r_callS (As := [.int ((((1 : Int32) <<< ((v3 - 97) &&& 31)) - 1) &&& (x4 ^^^ (-1)))]) (rest := [.long x5]) (T_J6_bitCount_0f7a4 e4) (by decide) mf_J6_bitCount_0f7a4 rfl tw_518 tw_899 rfl (Nat.le_of_ble_eq_true rfl) dX4_numberOfLetters_59 rfl ?_
      refine r_call0 ?_
      refine r_i2l dX4_numberOfLetters_62 rfl ?_
      refine r_iload_n 3 dX4_numberOfLetters_63 rfl rfl rfl ?_
      refine ric_1 dX4_numberOfLetters_64 rfl ?_
      refine r_isub dX4_numberOfLetters_65 rfl ?_
      refine r_iload 7 dX4_numberOfLetters_66 rfl rfl ?_
      refine r_isub dX4_numberOfLetters_68 rfl ?_
      obtain ⟨v7, e6, h⟩ := bd h
      refine r_callS (As := [.int ((x2 - 1) - x7)]) (rest := [.long v5.toInt64, .long x5]) (T_X7_orders e6) (by decide) mf_X7_orders rfl tw_592 tw_900 rfl (Nat.le_of_ble_eq_true rfl) dX4_numberOfLetters_69 rfl ?_
      refine r_call0 ?_
      refine r_lmul dX4_numberOfLetters_72 rfl ?_
      refine r_ladd dX4_numberOfLetters_73 rfl ?_
      refine r_lstore (lv' := [(5, .long (x5 + (v5.toInt64 * v7))), (9, .int (((1 : Int32) <<< ((v3 - 97) &&& 31)) - 1)), (8, .int (v3 - 97)), (0, .ref (xq X 7)), (2, .int x2), (3, .int x3), (4, .int x4), (7, .int x7)]) dX4_numberOfLetters_74 (by decide) rfl rfl ?_
      refine r_iload 6 dX4_numberOfLetters_76 rfl rfl ?_
      refine ric_1 dX4_numberOfLetters_78 rfl ?_
      refine r_iload 2 dX4_numberOfLetters_79 rfl rfl ?_
      refine r_ishl dX4_numberOfLetters_81 rfl ?_
      refine r_ior dX4_numberOfLetters_82 rfl ?_
      refine r_istore (lv' := [(4, .int (x4 ||| ((1 : Int32) <<< ((v3 - 97) &&& 31)))), (5, .long (x5 + (v5.toInt64 * v7))), (9, .int (((1 : Int32) <<< ((v3 - 97) &&& 31)) - 1)), (8, .int (v3 - 97)), (0, .ref (xq X 7)), (2, .int x2), (3, .int x3), (7, .int x7)]) dX4_numberOfLetters_83 (by decide) rfl rfl ?_
      refine r_iinc (v := (x7 + 1)) (lv' := [(7, .int (x7 + 1)), (4, .int (x4 ||| ((1 : Int32) <<< ((v3 - 97) &&& 31)))), (5, .long (x5 + (v5.toInt64 * v7))), (9, .int (((1 : Int32) <<< ((v3 - 97) &&& 31)) - 1)), (8, .int (v3 - 97)), (0, .ref (xq X 7)), (2, .int x2), (3, .int x3)]) 7 dX4_numberOfLetters_85 rfl rfl (by decide) rfl rfl ?_
      refine r_goto (t := 20) dX4_numberOfLetters_88 (by decide) ?_
      refine r_sub [5, 6, 7, 1, 2, 0] rfl ?_
      exact ih x2 x3 (x4 ||| ((1 : Int32) <<< ((v3 - 97) &&& 31))) (x5 + (v5.toInt64 * v7)) (x7 + 1) h
def P_X4_numberOfLetters (a1 : Int32) (a2 : Int32) (σ : SS) : Option Int64 :=
  (P_X5_placeAt a1 σ).bind fun v2 =>
  P_X4_numberOfLetters_j20 σ FU a2 (v2 + 1) 0 0 0
set_option maxHeartbeats 4000000 in
set_option maxRecDepth 100000 in
theorem T_X4_numberOfLetters {X : XE} {σ : SS} {r : Int64} {a1 : Int32} {a2 : Int32} (h : P_X4_numberOfLetters a1 a2 σ = some r) : Mt (gX X) 2 yX4_numberOfLetters cX4_numberOfLetters 10 (some .long) [.ref (xq X 7), .int a1, .int a2] σ (some (.long r)) σ := by
  refine Mt.of (own := RX4) (lv := [(0, .ref (xq X 7)), (1, .int a1), (2, .int a2)]) pn_X4 rfl (Nat.le_of_ble_eq_true rfl) rfl ?_
  unfold P_X4_numberOfLetters at h
  refine r_aload_n 0 dX4_numberOfLetters_0 rfl rfl rfl ?_
  refine gf_X4_33_7 dX4_numberOfLetters_1 rfl ?_
  refine r_iload_n 1 dX4_numberOfLetters_4 rfl rfl rfl ?_
  obtain ⟨v2, e1, h⟩ := bd h
  refine r_callV (rest := []) (T_X5_placeAt e1) (by decide) mf_X5_placeAt rfl tw_770 tw_771 tw_862 cX_6 rfl rfl rfl (Nat.le_of_ble_eq_true rfl) dX4_numberOfLetters_5 rfl ?_
  refine r_call0 ?_
  refine ric_1 dX4_numberOfLetters_8 rfl ?_
  refine r_iadd dX4_numberOfLetters_9 rfl ?_
  refine r_istore_n (lv' := [(3, .int (v2 + 1)), (0, .ref (xq X 7)), (1, .int a1), (2, .int a2)]) dX4_numberOfLetters_10 rfl (by decide) rfl rfl ?_
  refine ric_0 dX4_numberOfLetters_11 rfl ?_
  refine r_istore (lv' := [(4, .int 0), (3, .int (v2 + 1)), (0, .ref (xq X 7)), (1, .int a1), (2, .int a2)]) dX4_numberOfLetters_12 (by decide) rfl rfl ?_
  refine rlc_0 dX4_numberOfLetters_14 rfl ?_
  refine r_lstore (lv' := [(5, .long 0), (4, .int 0), (3, .int (v2 + 1)), (0, .ref (xq X 7)), (1, .int a1), (2, .int a2)]) dX4_numberOfLetters_15 (by decide) rfl rfl ?_
  refine ric_0 dX4_numberOfLetters_17 rfl ?_
  refine r_istore (lv' := [(7, .int 0), (5, .long 0), (4, .int 0), (3, .int (v2 + 1)), (0, .ref (xq X 7)), (1, .int a1), (2, .int a2)]) dX4_numberOfLetters_18 (by decide) rfl rfl ?_
  refine r_sub [4, 6, 3, 2, 1, 0] rfl ?_
  exact T_X4_numberOfLetters_j20 FU a2 (v2 + 1) 0 0 0 h
def P_X6_set_33 (a1 : Int32) (a2 : Int32) (σ : SS) : Option SS :=
  if a1 < 0 then
    some σ
  else
    if 300 ≤ a1 then
      some σ
    else
      gI a1 300 <|
      some (stA σ 18 a1 a2)
set_option maxHeartbeats 4000000 in
set_option maxRecDepth 100000 in
theorem T_X6_set_33 {X : XE} {σf : SS} {σ : SS} {a1 : Int32} {a2 : Int32} (h : P_X6_set_33 a1 a2 σ = some σf) : Mt (gX X) 0 yX6_set cX6_set 3 none [.ref (xq X 33), .int a1, .int a2] σ none σf := by
  refine Mt.of (own := RX6) (lv := [(0, .ref (xq X 33)), (1, .int a1), (2, .int a2)]) pn_X6 rfl (Nat.le_of_ble_eq_true rfl) rfl ?_
  unfold P_X6_set_33 at h
  refine r_iload_n 1 dX6_set_0 rfl rfl rfl ?_
  refine r_if_lt (t := 14) dX6_set_1 (by decide) rfl (fun c1 => ?_) (fun c1 => ?_)
  · have h := it_t c1 h
    exact r_vretS dX6_set_14 h
  · have h := it_f c1 h
    refine r_iload_n 1 dX6_set_4 rfl rfl rfl ?_
    refine r_aload_n 0 dX6_set_5 rfl rfl rfl ?_
    refine anX_33 dX6_set_6 rfl ?_
    refine r_icmp_ge (t := 14) dX6_set_7 (by decide) rfl (fun c2 => ?_) (fun c2 => ?_)
    · have h := it_t c2 h
      exact r_vretS dX6_set_14 h
    · have h := it_f c2 h
      refine r_aload_n 0 dX6_set_10 rfl rfl rfl ?_
      refine r_iload_n 1 dX6_set_11 rfl rfl rfl ?_
      refine r_iload_n 2 dX6_set_12 rfl rfl rfl ?_
      obtain ⟨hi3, h⟩ := gi h
      refine asX_33 hi3 dX6_set_13 rfl ?_
      exact r_vretS dX6_set_14 h
def P_X6_set__34 (a1 : Int32) (a2 : Int64) (σ : SS) : Option SS :=
  if a1 < 0 then
    some σ
  else
    if 300 ≤ a1 then
      some σ
    else
      gI a1 300 <|
      some (stL σ 4 a1 a2)
set_option maxHeartbeats 4000000 in
set_option maxRecDepth 100000 in
theorem T_X6_set__34 {X : XE} {σf : SS} {σ : SS} {a1 : Int32} {a2 : Int64} (h : P_X6_set__34 a1 a2 σ = some σf) : Mt (gX X) 0 yX6_set_ cX6_set_ 4 none [.ref (xq X 34), .int a1, .long a2] σ none σf := by
  refine Mt.of (own := RX6) (lv := [(0, .ref (xq X 34)), (1, .int a1), (2, .long a2)]) pn_X6 rfl (Nat.le_of_ble_eq_true rfl) rfl ?_
  unfold P_X6_set__34 at h
  refine r_iload_n 1 dX6_set__0 rfl rfl rfl ?_
  refine r_if_lt (t := 14) dX6_set__1 (by decide) rfl (fun c1 => ?_) (fun c1 => ?_)
  · have h := it_t c1 h
    exact r_vretS dX6_set__14 h
  · have h := it_f c1 h
    refine r_iload_n 1 dX6_set__4 rfl rfl rfl ?_
    refine r_aload_n 0 dX6_set__5 rfl rfl rfl ?_
    refine anX_34 dX6_set__6 rfl ?_
    refine r_icmp_ge (t := 14) dX6_set__7 (by decide) rfl (fun c2 => ?_) (fun c2 => ?_)
    · have h := it_t c2 h
      exact r_vretS dX6_set__14 h
    · have h := it_f c2 h
      refine r_aload_n 0 dX6_set__10 rfl rfl rfl ?_
      refine r_iload_n 1 dX6_set__11 rfl rfl rfl ?_
      refine r_lload_n 2 dX6_set__12 rfl rfl rfl ?_
      obtain ⟨hi3, h⟩ := gi h
      refine asX_34 hi3 dX6_set__13 rfl ?_
      exact r_vretS dX6_set__14 h
def P_X4_insert_j72 (K27 : Int32 → Int64 → Int32 → SS → Option SS) (x1 : Int32) (x2 : Int64) (x4 : Int32) (σ : SS) : Option SS :=
  gI (x4 - 1) 300 <|
  gI x4 300 <|
  gI (x4 - 1) 300 <|
  gI x4 300 <|
  K27 x1 x2 (x4 + (-1)) (stL (stA σ 18 x4 (ldA σ 18 (x4 - 1))) 4 x4 (ldL (stA σ 18 x4 (ldA σ 18 (x4 - 1))) 4 (x4 - 1)))
set_option maxHeartbeats 4000000 in
set_option maxRecDepth 100000 in
theorem T_X4_insert_j72 {X : XE} {σf : SS} {K27 : Int32 → Int64 → Int32 → SS → Option SS} (hK27 : ∀ (x1 : Int32) (x2 : Int64) (x4 : Int32) (σ : SS), K27 x1 x2 x4 σ = some σf → V (gX X) 1 RX4 cX4_insert 5 none none σf 27 [(0, .ref (xq X 7)), (1, .int x1), (2, .long x2), (4, .int x4)] [] σ) : ∀ (x1 : Int32) (x2 : Int64) (x4 : Int32) (σ : SS), P_X4_insert_j72 K27 x1 x2 x4 σ = some σf → V (gX X) 1 RX4 cX4_insert 5 none none σf 72 [(0, .ref (xq X 7)), (1, .int x1), (2, .long x2), (4, .int x4)] [] σ := by
  intro x1 x2 x4 σ h
  unfold P_X4_insert_j72 at h
  refine r_aload_n 0 dX4_insert_72 rfl rfl rfl ?_
  refine gf_X4_19_7 dX4_insert_73 rfl ?_
  refine r_iload 3 dX4_insert_76 rfl rfl ?_
  refine r_aload_n 0 dX4_insert_78 rfl rfl rfl ?_
  refine gf_X4_19_7 dX4_insert_79 rfl ?_
  refine r_iload 3 dX4_insert_82 rfl rfl ?_
  refine ric_1 dX4_insert_84 rfl ?_
  refine r_isub dX4_insert_85 rfl ?_
  obtain ⟨hi1, h⟩ := gi h
  refine alX_33 hi1 dX4_insert_86 rfl ?_
  obtain ⟨hi2, h⟩ := gi h
  refine asX_33 hi2 dX4_insert_87 rfl ?_
  refine r_aload_n 0 dX4_insert_88 rfl rfl rfl ?_
  refine gf_X4_22_7 dX4_insert_89 rfl ?_
  refine r_iload 3 dX4_insert_92 rfl rfl ?_
  refine r_aload_n 0 dX4_insert_94 rfl rfl rfl ?_
  refine gf_X4_22_7 dX4_insert_95 rfl ?_
  refine r_iload 3 dX4_insert_98 rfl rfl ?_
  refine ric_1 dX4_insert_100 rfl ?_
  refine r_isub dX4_insert_101 rfl ?_
  obtain ⟨hi3, h⟩ := gi h
  refine alX_34 hi3 dX4_insert_102 rfl ?_
  obtain ⟨hi4, h⟩ := gi h
  refine asX_34 hi4 dX4_insert_103 rfl ?_
  refine r_iinc (v := (x4 + (-1))) (lv' := [(4, .int (x4 + (-1))), (0, .ref (xq X 7)), (1, .int x1), (2, .long x2)]) 3 dX4_insert_104 rfl rfl (by decide) rfl rfl ?_
  refine r_goto (t := 27) dX4_insert_107 (by decide) ?_
  refine r_sub [1, 2, 3, 0] rfl ?_
  exact hK27 x1 x2 (x4 + (-1)) (stL (stA σ 18 x4 (ldA σ 18 (x4 - 1))) 4 x4 (ldL (stA σ 18 x4 (ldA σ 18 (x4 - 1))) 4 (x4 - 1))) h
def P_X4_insert_j110 (x1 : Int32) (x2 : Int64) (x4 : Int32) (σ : SS) : Option SS :=
  (P_X6_set_33 x4 x1 σ).bind fun σ2 =>
  (P_X6_set__34 x4 x2 σ2).bind fun σ4 =>
  some σ4
set_option maxHeartbeats 4000000 in
set_option maxRecDepth 100000 in
theorem T_X4_insert_j110 {X : XE} {σf : SS} : ∀ (x1 : Int32) (x2 : Int64) (x4 : Int32) (σ : SS), P_X4_insert_j110 x1 x2 x4 σ = some σf → V (gX X) 1 RX4 cX4_insert 5 none none σf 110 [(0, .ref (xq X 7)), (1, .int x1), (2, .long x2), (4, .int x4)] [] σ := by
  intro x1 x2 x4 σ h
  unfold P_X4_insert_j110 at h
  refine r_aload_n 0 dX4_insert_110 rfl rfl rfl ?_
  refine gf_X4_19_7 dX4_insert_111 rfl ?_
  refine r_iload 3 dX4_insert_114 rfl rfl ?_
  refine r_iload_n 1 dX4_insert_116 rfl rfl rfl ?_
  obtain ⟨σ2, e1, h⟩ := bd h
  refine r_callS (As := [.ref (xq X 33), .int x4, .int x1]) (rest := []) (T_X6_set_33 e1) (by decide) mf_X6_set rfl tw_400 tw_840 rfl (Nat.le_of_ble_eq_true rfl) dX4_insert_117 rfl ?_
  refine r_calln ?_
  refine r_aload_n 0 dX4_insert_120 rfl rfl rfl ?_
  refine gf_X4_22_7 dX4_insert_121 rfl ?_
  refine r_iload 3 dX4_insert_124 rfl rfl ?_
  refine r_lload_n 2 dX4_insert_126 rfl rfl rfl ?_
  obtain ⟨σ4, e3, h⟩ := bd h
  refine r_callS (As := [.ref (xq X 34), .int x4, .long x2]) (rest := []) (T_X6_set__34 e3) (by decide) mf_X6_set_ rfl tw_564 tw_893 rfl (Nat.le_of_ble_eq_true rfl) dX4_insert_127 rfl ?_
  refine r_calln ?_
  exact r_vretS dX4_insert_130 h
def P_X4_insert_j27 : Nat → Int32 → Int64 → Int32 → SS → Option SS
  | 0, _, _, _, _ => none
  | n + 1, x1, x2, x4, σ =>
    if x4 ≤ 0 then
      P_X4_insert_j110 x1 x2 x4 σ
    else
      gI (x4 - 1) 300 <|
      if (ldA σ 18 (x4 - 1)) < x1 then
        P_X4_insert_j72 (P_X4_insert_j27 n) x1 x2 x4 σ
      else
        gI (x4 - 1) 300 <|
        if ¬ (ldA σ 18 (x4 - 1)) = x1 then
          P_X4_insert_j110 x1 x2 x4 σ
        else
          gI (x4 - 1) 300 <|
          if x2 ≤ (ldL σ 4 (x4 - 1)) then
            P_X4_insert_j110 x1 x2 x4 σ
          else
            P_X4_insert_j72 (P_X4_insert_j27 n) x1 x2 x4 σ
set_option maxHeartbeats 4000000 in
set_option maxRecDepth 100000 in
theorem T_X4_insert_j27 {X : XE} {σf : SS} : ∀ (fu : Nat) (x1 : Int32) (x2 : Int64) (x4 : Int32) (σ : SS), P_X4_insert_j27 fu x1 x2 x4 σ = some σf → V (gX X) 1 RX4 cX4_insert 5 none none σf 27 [(0, .ref (xq X 7)), (1, .int x1), (2, .long x2), (4, .int x4)] [] σ := by
  intro fu
  induction fu with
  | zero => intro x1 x2 x4 σ h; exact no0 h
  | succ n ih =>
    intro x1 x2 x4 σ h
    unfold P_X4_insert_j27 at h
    refine r_iload 3 dX4_insert_27 rfl rfl ?_
    refine r_if_le (t := 110) dX4_insert_29 (by decide) rfl (fun c1 => ?_) (fun c1 => ?_)
    · have h := it_t c1 h
      exact T_X4_insert_j110 x1 x2 x4 σ h
    · have h := it_f c1 h
      refine r_aload_n 0 dX4_insert_32 rfl rfl rfl ?_
      refine gf_X4_19_7 dX4_insert_33 rfl ?_
      refine r_iload 3 dX4_insert_36 rfl rfl ?_
      refine ric_1 dX4_insert_38 rfl ?_
      refine r_isub dX4_insert_39 rfl ?_
      obtain ⟨hi2, h⟩ := gi h
      refine alX_33 hi2 dX4_insert_40 rfl ?_
      refine r_iload_n 1 dX4_insert_41 rfl rfl rfl ?_
      refine r_icmp_lt (t := 72) dX4_insert_42 (by decide) rfl (fun c3 => ?_) (fun c3 => ?_)
      · have h := it_t c3 h
        exact T_X4_insert_j72 ih x1 x2 x4 σ h
      · have h := it_f c3 h
        refine r_aload_n 0 dX4_insert_45 rfl rfl rfl ?_
        refine gf_X4_19_7 dX4_insert_46 rfl ?_
        refine r_iload 3 dX4_insert_49 rfl rfl ?_
        refine ric_1 dX4_insert_51 rfl ?_
        refine r_isub dX4_insert_52 rfl ?_
        obtain ⟨hi4, h⟩ := gi h
        refine alX_33 hi4 dX4_insert_53 rfl ?_
        refine r_iload_n 1 dX4_insert_54 rfl rfl rfl ?_
        refine r_icmp_ne (t := 110) dX4_insert_55 (by decide) rfl (fun c5 => ?_) (fun c5 => ?_)
        · have h := it_t c5 h
          exact T_X4_insert_j110 x1 x2 x4 σ h
        · have h := it_n c5 h
          refine r_aload_n 0 dX4_insert_58 rfl rfl rfl ?_
          refine gf_X4_22_7 dX4_insert_59 rfl ?_
          refine r_iload 3 dX4_insert_62 rfl rfl ?_
          refine ric_1 dX4_insert_64 rfl ?_
          refine r_isub dX4_insert_65 rfl ?_
          obtain ⟨hi6, h⟩ := gi h
          refine alX_34 hi6 dX4_insert_66 rfl ?_
          refine r_lload_n 2 dX4_insert_67 rfl rfl rfl ?_
          refine r_lif_ge (t := 110) dX4_insert_68 rfl dX4_insert_69 (by decide) rfl (fun c7 => ?_) (fun c7 => ?_)
          · have h := it_t c7 h
            exact T_X4_insert_j110 x1 x2 x4 σ h
          · have h := it_f c7 h
            exact T_X4_insert_j72 ih x1 x2 x4 σ h
def P_X4_insert (a1 : Int32) (a2 : Int64) (σ : SS) : Option SS :=
  if (sI σ 16) < 300 then
    P_X4_insert_j27 FU a1 a2 (sI σ 16) (uI σ 16 ((sI σ 16) + 1))
  else
    some σ
set_option maxHeartbeats 4000000 in
set_option maxRecDepth 100000 in
theorem T_X4_insert {X : XE} {σf : SS} {σ : SS} {a1 : Int32} {a2 : Int64} (h : P_X4_insert a1 a2 σ = some σf) : Mt (gX X) 1 yX4_insert cX4_insert 5 none [.ref (xq X 7), .int a1, .long a2] σ none σf := by
  refine Mt.of (own := RX4) (lv := [(0, .ref (xq X 7)), (1, .int a1), (2, .long a2)]) pn_X4 rfl (Nat.le_of_ble_eq_true rfl) rfl ?_
  unfold P_X4_insert at h
  refine r_aload_n 0 dX4_insert_0 rfl rfl rfl ?_
  refine gf_X4_174_7 dX4_insert_1 rfl ?_
  refine r_sipush (v := 300) dX4_insert_4 (by decide) rfl ?_
  refine r_icmp_lt (t := 11) dX4_insert_7 (by decide) rfl (fun c1 => ?_) (fun c1 => ?_)
  · have h := it_t c1 h
    refine r_aload_n 0 dX4_insert_11 rfl rfl rfl ?_
    refine gf_X4_174_7 dX4_insert_12 rfl ?_
    refine r_istore (lv' := [(4, .int (sI σ 16)), (0, .ref (xq X 7)), (1, .int a1), (2, .long a2)]) dX4_insert_15 (by decide) rfl rfl ?_
    refine r_aload_n 1 dX4_insert_17 rfl rfl rfl ?_
    refine r_dup rfl dX4_insert_18 rfl ?_
    refine gf_X4_174_7 dX4_insert_19 rfl ?_
    refine ric_1 dX4_insert_22 rfl ?_
    refine r_iadd dX4_insert_23 rfl ?_
    refine pf_X4_174_7 dX4_insert_24 rfl ?_
    refine r_sub [1, 2, 3, 0] rfl ?_
    exact T_X4_insert_j27 FU a1 a2 (sI σ 16) (uI σ 16 ((sI σ 16) + 1)) h
  · have h := it_f c1 h
    exact r_vretS dX4_insert_10 h
def P_X4_numberOfBag_j61 : Nat → Int32 → Int32 → Int64 → Int32 → SS → Option (Int64 × SS)
  | 0, _, _, _, _, _ => none
  | n + 1, x2, x3, x4, x6, σ =>
    if (sI σ 16) ≤ x6 then
      some (x4, σ)
    else
      if 300 ≤ x6 then
        some (x4, σ)
      else
        gI x6 300 <|
        gI x6 300 <|
        (P_X8_bagsBelow x2 x3 (ldA σ 18 x6) (ldL σ 4 x6) σ).bind fun v6 =>
        (P_X7_plus x4 v6).bind fun v8 =>
        gI x6 300 <|
        (P_X4_numberOfBag_j61 n) x2 (x3 - (ldA σ 18 x6)) v8 (x6 + 1) σ
set_option maxHeartbeats 4000000 in
set_option maxRecDepth 100000 in
theorem T_X4_numberOfBag_j61 {X : XE} {σf : SS} {r : Int64} : ∀ (fu : Nat) (x2 : Int32) (x3 : Int32) (x4 : Int64) (x6 : Int32) (σ : SS), P_X4_numberOfBag_j61 fu x2 x3 x4 x6 σ = some (r, σf) → V (gX X) 3 RX4 cX4_numberOfBag 7 (some .long) (some (.long r)) σf 61 [(0, .ref (xq X 7)), (2, .int x2), (3, .int x3), (4, .long x4), (6, .int x6)] [] σ := by
  intro fu
  induction fu with
  | zero => intro x2 x3 x4 x6 σ h; exact no0 h
  | succ n ih =>
    intro x2 x3 x4 x6 σ h
    unfold P_X4_numberOfBag_j61 at h
    refine r_iload 4 dX4_numberOfBag_61 rfl rfl ?_
    refine r_aload_n 0 dX4_numberOfBag_63 rfl rfl rfl ?_
    refine gf_X4_174_7 dX4_numberOfBag_64 rfl ?_
    refine r_icmp_ge (t := 124) dX4_numberOfBag_67 (by decide) rfl (fun c1 => ?_) (fun c1 => ?_)
    · have h := it_t c1 h
      refine r_lload 3 dX4_numberOfBag_124 rfl rfl ?_
      exact r_lretQ dX4_numberOfBag_126 h
    · have h := it_f c1 h
      refine r_iload 4 dX4_numberOfBag_70 rfl rfl ?_
      refine r_sipush (v := 300) dX4_numberOfBag_72 (by decide) rfl ?_
      refine r_icmp_ge (t := 124) dX4_numberOfBag_75 (by decide) rfl (fun c2 => ?_) (fun c2 => ?_)
      · have h := it_t c2 h
        refine r_lload 3 dX4_numberOfBag_124 rfl rfl ?_
        exact r_lretQ dX4_numberOfBag_126 h
      · have h := it_f c2 h
        refine r_lload 3 dX4_numberOfBag_78 rfl rfl ?_
        refine r_aload_n 0 dX4_numberOfBag_80 rfl rfl rfl ?_
        refine gf_X4_29_7 dX4_numberOfBag_81 rfl ?_
        refine r_iload_n 1 dX4_numberOfBag_84 rfl rfl rfl ?_
        refine r_iload_n 2 dX4_numberOfBag_85 rfl rfl rfl ?_
        refine r_aload_n 0 dX4_numberOfBag_86 rfl rfl rfl ?_
        refine gf_X4_19_7 dX4_numberOfBag_87 rfl ?_
        refine r_iload 4 dX4_numberOfBag_90 rfl rfl ?_
        obtain ⟨hi3, h⟩ := gi h
        refine alX_33 hi3 dX4_numberOfBag_92 rfl ?_
        refine r_aload_n 0 dX4_numberOfBag_93 rfl rfl rfl ?_
        refine gf_X4_22_7 dX4_numberOfBag_94 rfl ?_
        refine r_iload 4 dX4_numberOfBag_97 rfl rfl ?_
        obtain ⟨hi4, h⟩ := gi h
        refine alX_34 hi4 dX4_numberOfBag_99 rfl ?_
        obtain ⟨v6, e5, h⟩ := bd h
        refine r_callV (rest := [.long x4]) (T_X8_bagsBelow e5) (by decide) mf_X8_bagsBelow rfl tw_567 tw_568 tw_894 cX_4 rfl rfl rfl (Nat.le_of_ble_eq_true rfl) dX4_numberOfBag_100 rfl ?_
        refine r_call0 ?_
        obtain ⟨v8, e7, h⟩ := bd h
        refine r_callS (As := [.long x4, .long v6]) (rest := []) (T_X7_plus e7) (by decide) mf_X7_plus rfl tw_551 tw_877 rfl (Nat.le_of_ble_eq_true rfl) dX4_numberOfBag_103 rfl ?_
        refine r_call0 ?_
        refine r_lstore (lv' := [(4, .long v8), (0, .ref (xq X 7)), (2, .int x2), (3, .int x3), (6, .int x6)]) dX4_numberOfBag_106 (by decide) rfl rfl ?_
        refine r_iload_n 3 dX4_numberOfBag_108 rfl rfl rfl ?_
        refine r_aload_n 1 dX4_numberOfBag_109 rfl rfl rfl ?_
        refine gf_X4_19_7 dX4_numberOfBag_110 rfl ?_
        refine r_iload 4 dX4_numberOfBag_113 rfl rfl ?_
        obtain ⟨hi9, h⟩ := gi h
        refine alX_33 hi9 dX4_numberOfBag_115 rfl ?_
        refine r_isub dX4_numberOfBag_116 rfl ?_
        refine r_istore_n (lv' := [(3, .int (x3 - (ldA σ 18 x6))), (4, .long v8), (0, .ref (xq X 7)), (2, .int x2), (6, .int x6)]) dX4_numberOfBag_117 rfl (by decide) rfl rfl ?_
        refine r_iinc (v := (x6 + 1)) (lv' := [(6, .int (x6 + 1)), (3, .int (x3 - (ldA σ 18 x6))), (4, .long v8), (0, .ref (xq X 7)), (2, .int x2)]) 4 dX4_numberOfBag_118 rfl rfl (by decide) rfl rfl ?_
        refine r_goto (t := 61) dX4_numberOfBag_121 (by decide) ?_
        refine r_sub [3, 4, 1, 2, 0] rfl ?_
        exact ih x2 (x3 - (ldA σ 18 x6)) v8 (x6 + 1) σ h
def P_X4_numberOfBag_j7 : Nat → Int32 → Int32 → Int32 → SS → Option (Int64 × SS)
  | 0, _, _, _, _ => none
  | n + 1, x1, x2, x3, σ =>
    if (sI σ 15) ≤ x3 then
      (P_X5_sizeAt x1 σ).bind fun v3 =>
      P_X4_numberOfBag_j61 FU x2 v3 0 0 σ
    else
      (P_X4_part x3 σ).bind fun v5 =>
      (P_X5_sizeAt v5 σ).bind fun v7 =>
      (P_X4_part x3 σ).bind fun v9 =>
      (P_X4_numberAt v9 σ).bind fun v11 =>
      (P_X4_insert v7 v11 σ).bind fun σ13 =>
      (P_X4_numberOfBag_j7 n) x1 x2 (x3 + 1) σ13
set_option maxHeartbeats 4000000 in
set_option maxRecDepth 100000 in
theorem T_X4_numberOfBag_j7 {X : XE} {σf : SS} {r : Int64} : ∀ (fu : Nat) (x1 : Int32) (x2 : Int32) (x3 : Int32) (σ : SS), P_X4_numberOfBag_j7 fu x1 x2 x3 σ = some (r, σf) → V (gX X) 3 RX4 cX4_numberOfBag 7 (some .long) (some (.long r)) σf 7 [(0, .ref (xq X 7)), (1, .int x1), (2, .int x2), (3, .int x3)] [] σ := by
  intro fu
  induction fu with
  | zero => intro x1 x2 x3 σ h; exact no0 h
  | succ n ih =>
    intro x1 x2 x3 σ h
    unfold P_X4_numberOfBag_j7 at h
    refine r_iload_n 3 dX4_numberOfBag_7 rfl rfl rfl ?_
    refine r_aload_n 0 dX4_numberOfBag_8 rfl rfl rfl ?_
    refine gf_X4_143_7 dX4_numberOfBag_9 rfl ?_
    refine r_icmp_ge (t := 46) dX4_numberOfBag_12 (by decide) rfl (fun c1 => ?_) (fun c1 => ?_)
    · have h := it_t c1 h
      refine r_aload_n 0 dX4_numberOfBag_46 rfl rfl rfl ?_
      refine gf_X4_33_7 dX4_numberOfBag_47 rfl ?_
      refine r_iload_n 1 dX4_numberOfBag_50 rfl rfl rfl ?_
      obtain ⟨v3, e2, h⟩ := bd h
      refine r_callV (rest := []) (T_X5_sizeAt e2) (by decide) mf_X5_sizeAt rfl tw_788 tw_789 tw_860 cX_6 rfl rfl rfl (Nat.le_of_ble_eq_true rfl) dX4_numberOfBag_51 rfl ?_
      refine r_call0 ?_
      refine r_istore_n (lv' := [(3, .int v3), (0, .ref (xq X 7)), (1, .int x1), (2, .int x2)]) dX4_numberOfBag_54 rfl (by decide) rfl rfl ?_
      refine rlc_0 dX4_numberOfBag_55 rfl ?_
      refine r_lstore (lv' := [(4, .long 0), (3, .int v3), (0, .ref (xq X 7)), (1, .int x1), (2, .int x2)]) dX4_numberOfBag_56 (by decide) rfl rfl ?_
      refine ric_0 dX4_numberOfBag_58 rfl ?_
      refine r_istore (lv' := [(6, .int 0), (4, .long 0), (3, .int v3), (0, .ref (xq X 7)), (1, .int x1), (2, .int x2)]) dX4_numberOfBag_59 (by decide) rfl rfl ?_
      refine r_sub [3, 5, 2, 1, 0] rfl ?_
      exact T_X4_numberOfBag_j61 FU x2 v3 0 0 σ h
    · have h := it_f c1 h
      refine r_aload_n 0 dX4_numberOfBag_15 rfl rfl rfl ?_
      refine r_aload_n 0 dX4_numberOfBag_16 rfl rfl rfl ?_
      refine gf_X4_33_7 dX4_numberOfBag_17 rfl ?_
      refine r_aload_n 0 dX4_numberOfBag_20 rfl rfl rfl ?_
      refine r_iload_n 3 dX4_numberOfBag_21 rfl rfl rfl ?_
      obtain ⟨v5, e4, h⟩ := bd h
      refine r_callV (rest := [.ref (xq X 6), .ref (xq X 7)]) (T_X4_part e4) (by decide) mf_X4_part rfl tw_852 tw_31 tw_850 cX_7 rfl rfl rfl (Nat.le_of_ble_eq_true rfl) dX4_numberOfBag_22 rfl ?_
      refine r_call0 ?_
      obtain ⟨v7, e6, h⟩ := bd h
      refine r_callV (rest := [.ref (xq X 7)]) (T_X5_sizeAt e6) (by decide) mf_X5_sizeAt rfl tw_788 tw_789 tw_860 cX_6 rfl rfl rfl (Nat.le_of_ble_eq_true rfl) dX4_numberOfBag_25 rfl ?_
      refine r_call0 ?_
      refine r_aload_n 0 dX4_numberOfBag_28 rfl rfl rfl ?_
      refine r_aload_n 0 dX4_numberOfBag_29 rfl rfl rfl ?_
      refine r_iload_n 3 dX4_numberOfBag_30 rfl rfl rfl ?_
      obtain ⟨v9, e8, h⟩ := bd h
      refine r_callV (rest := [.ref (xq X 7), .int v7, .ref (xq X 7)]) (T_X4_part e8) (by decide) mf_X4_part rfl tw_852 tw_31 tw_850 cX_7 rfl rfl rfl (Nat.le_of_ble_eq_true rfl) dX4_numberOfBag_31 rfl ?_
      refine r_call0 ?_
      obtain ⟨v11, e10, h⟩ := bd h
      refine r_callV (rest := [.int v7, .ref (xq X 7)]) (T_X4_numberAt e10) (by decide) mf_X4_numberAt rfl tw_857 tw_32 tw_855 cX_7 rfl rfl rfl (Nat.le_of_ble_eq_true rfl) dX4_numberOfBag_34 rfl ?_
      refine r_call0 ?_
      obtain ⟨σ13, e12, h⟩ := bd h
      refine r_callV (rest := []) (T_X4_insert e12) (by decide) mf_X4_insert rfl tw_891 tw_37 tw_889 cX_7 rfl rfl rfl (Nat.le_of_ble_eq_true rfl) dX4_numberOfBag_37 rfl ?_
      refine r_calln ?_
      refine r_iinc (v := (x3 + 1)) (lv' := [(3, .int (x3 + 1)), (0, .ref (xq X 7)), (1, .int x1), (2, .int x2)]) 3 dX4_numberOfBag_40 rfl rfl (by decide) rfl rfl ?_
      refine r_goto (t := 7) dX4_numberOfBag_43 (by decide) ?_
      refine r_sub [1, 2, 3, 0] rfl ?_
      exact ih x1 x2 (x3 + 1) σ13 h
def P_X4_numberOfBag (a1 : Int32) (a2 : Int32) (σ : SS) : Option (Int64 × SS) :=
  P_X4_numberOfBag_j7 FU a1 a2 0 (uI σ 16 0)
set_option maxHeartbeats 4000000 in
set_option maxRecDepth 100000 in
theorem T_X4_numberOfBag {X : XE} {σf : SS} {r : Int64} {σ : SS} {a1 : Int32} {a2 : Int32} (h : P_X4_numberOfBag a1 a2 σ = some (r, σf)) : Mt (gX X) 3 yX4_numberOfBag cX4_numberOfBag 7 (some .long) [.ref (xq X 7), .int a1, .int a2] σ (some (.long r)) σf := by
  refine Mt.of (own := RX4) (lv := [(0, .ref (xq X 7)), (1, .int a1), (2, .int a2)]) pn_X4 rfl (Nat.le_of_ble_eq_true rfl) rfl ?_
  unfold P_X4_numberOfBag at h
  refine r_aload_n 0 dX4_numberOfBag_0 rfl rfl rfl ?_
  refine ric_0 dX4_numberOfBag_1 rfl ?_
  refine pf_X4_174_7 dX4_numberOfBag_2 rfl ?_
  refine ric_0 dX4_numberOfBag_5 rfl ?_
  refine r_istore_n (lv' := [(3, .int 0), (0, .ref (xq X 7)), (1, .int a1), (2, .int a2)]) dX4_numberOfBag_6 rfl (by decide) rfl rfl ?_
  refine r_sub [1, 2, 3, 0] rfl ?_
  exact T_X4_numberOfBag_j7 FU a1 a2 0 (uI σ 16 0) h
def P_X4_numberOfRow_j15 (σ : SS) : Nat → Int32 → Int32 → Int64 → Int32 → Option Int64
  | 0, _, _, _, _ => none
  | n + 1, x2, x3, x4, x6 =>
    if (sI σ 15) ≤ x6 then
      some x4
    else
      (P_X4_part x6 σ).bind fun v3 =>
      (P_X5_sizeAt v3 σ).bind fun v5 =>
      (P_X4_part x6 σ).bind fun v7 =>
      (P_X4_numberAt v7 σ).bind fun v9 =>
      (P_X8_ledBelow x2 x3 v5 v9 σ).bind fun v11 =>
      (P_X7_plus x4 v11).bind fun v13 =>
      (P_X4_numberOfRow_j15 σ n) x2 (x3 - v5) v13 (x6 + 1)
set_option maxHeartbeats 4000000 in
set_option maxRecDepth 100000 in
theorem T_X4_numberOfRow_j15 {X : XE} {σ : SS} {r : Int64} : ∀ (fu : Nat) (x2 : Int32) (x3 : Int32) (x4 : Int64) (x6 : Int32), P_X4_numberOfRow_j15 σ fu x2 x3 x4 x6 = some r → V (gX X) 3 RX4 cX4_numberOfRow 8 (some .long) (some (.long r)) σ 15 [(0, .ref (xq X 7)), (2, .int x2), (3, .int x3), (4, .long x4), (6, .int x6)] [] σ := by
  intro fu
  induction fu with
  | zero => intro x2 x3 x4 x6 h; exact no0 h
  | succ n ih =>
    intro x2 x3 x4 x6 h
    unfold P_X4_numberOfRow_j15 at h
    refine r_iload 4 dX4_numberOfRow_15 rfl rfl ?_
    refine r_aload_n 0 dX4_numberOfRow_17 rfl rfl rfl ?_
    refine gf_X4_143_7 dX4_numberOfRow_18 rfl ?_
    refine r_icmp_ge (t := 78) dX4_numberOfRow_21 (by decide) rfl (fun c1 => ?_) (fun c1 => ?_)
    · have h := it_t c1 h
      refine r_lload 3 dX4_numberOfRow_78 rfl rfl ?_
      exact r_lretR dX4_numberOfRow_80 h
    · have h := it_f c1 h
      refine r_aload_n 0 dX4_numberOfRow_24 rfl rfl rfl ?_
      refine gf_X4_33_7 dX4_numberOfRow_25 rfl ?_
      refine r_aload_n 0 dX4_numberOfRow_28 rfl rfl rfl ?_
      refine r_iload 4 dX4_numberOfRow_29 rfl rfl ?_
      obtain ⟨v3, e2, h⟩ := bd h
      refine r_callV (rest := [.ref (xq X 6)]) (T_X4_part e2) (by decide) mf_X4_part rfl tw_852 tw_31 tw_850 cX_7 rfl rfl rfl (Nat.le_of_ble_eq_true rfl) dX4_numberOfRow_31 rfl ?_
      refine r_call0 ?_
      obtain ⟨v5, e4, h⟩ := bd h
      refine r_callV (rest := []) (T_X5_sizeAt e4) (by decide) mf_X5_sizeAt rfl tw_788 tw_789 tw_860 cX_6 rfl rfl rfl (Nat.le_of_ble_eq_true rfl) dX4_numberOfRow_34 rfl ?_
      refine r_call0 ?_
      refine r_istore (lv' := [(7, .int v5), (0, .ref (xq X 7)), (2, .int x2), (3, .int x3), (4, .long x4), (6, .int x6)]) dX4_numberOfRow_37 (by decide) rfl rfl ?_
      refine r_lload 4 dX4_numberOfRow_39 rfl rfl ?_
      refine r_aload_n 1 dX4_numberOfRow_41 rfl rfl rfl ?_
      refine gf_X4_29_7 dX4_numberOfRow_42 rfl ?_
      refine r_iload_n 2 dX4_numberOfRow_45 rfl rfl rfl ?_
      refine r_iload_n 3 dX4_numberOfRow_46 rfl rfl rfl ?_
      refine r_iload 0 dX4_numberOfRow_47 rfl rfl ?_
      refine r_aload_n 1 dX4_numberOfRow_49 rfl rfl rfl ?_
      refine r_aload_n 1 dX4_numberOfRow_50 rfl rfl rfl ?_
      refine r_iload 5 dX4_numberOfRow_51 rfl rfl ?_
      obtain ⟨v7, e6, h⟩ := bd h
      refine r_callV (rest := [.ref (xq X 7), .int v5, .int x3, .int x2, .ref (xq X 4), .long x4]) (T_X4_part e6) (by decide) mf_X4_part rfl tw_852 tw_31 tw_850 cX_7 rfl rfl rfl (Nat.le_of_ble_eq_true rfl) dX4_numberOfRow_53 rfl ?_
      refine r_call0 ?_
      obtain ⟨v9, e8, h⟩ := bd h
      refine r_callV (rest := [.int v5, .int x3, .int x2, .ref (xq X 4), .long x4]) (T_X4_numberAt e8) (by decide) mf_X4_numberAt rfl tw_857 tw_32 tw_855 cX_7 rfl rfl rfl (Nat.le_of_ble_eq_true rfl) dX4_numberOfRow_56 rfl ?_
      refine r_call0 ?_
      obtain ⟨v11, e10, h⟩ := bd h
      refine r_callV (rest := [.long x4]) (T_X8_ledBelow e10) (by decide) mf_X8_ledBelow rfl tw_530 tw_531 tw_876 cX_4 rfl rfl rfl (Nat.le_of_ble_eq_true rfl) dX4_numberOfRow_59 rfl ?_
      refine r_call0 ?_
      obtain ⟨v13, e12, h⟩ := bd h
      refine r_callS (As := [.long x4, .long v11]) (rest := []) (T_X7_plus e12) (by decide) mf_X7_plus rfl tw_551 tw_877 rfl (Nat.le_of_ble_eq_true rfl) dX4_numberOfRow_62 rfl ?_
      refine r_call0 ?_
      refine r_lstore (lv' := [(4, .long v13), (7, .int v5), (0, .ref (xq X 7)), (2, .int x2), (3, .int x3), (6, .int x6)]) dX4_numberOfRow_65 (by decide) rfl rfl ?_
      refine r_iload_n 4 dX4_numberOfRow_67 rfl rfl rfl ?_
      refine r_iload 1 dX4_numberOfRow_68 rfl rfl ?_
      refine r_isub dX4_numberOfRow_70 rfl ?_
      refine r_istore_n (lv' := [(3, .int (x3 - v5)), (4, .long v13), (7, .int v5), (0, .ref (xq X 7)), (2, .int x2), (6, .int x6)]) dX4_numberOfRow_71 rfl (by decide) rfl rfl ?_
      refine r_iinc (v := (x6 + 1)) (lv' := [(6, .int (x6 + 1)), (3, .int (x3 - v5)), (4, .long v13), (7, .int v5), (0, .ref (xq X 7)), (2, .int x2)]) 5 dX4_numberOfRow_72 rfl rfl (by decide) rfl rfl ?_
      refine r_goto (t := 15) dX4_numberOfRow_75 (by decide) ?_
      refine r_sub [4, 5, 1, 2, 0] rfl ?_
      exact ih x2 (x3 - v5) v13 (x6 + 1) h
def P_X4_numberOfRow (a1 : Int32) (a2 : Int32) (σ : SS) : Option Int64 :=
  (P_X5_sizeAt a1 σ).bind fun v2 =>
  P_X4_numberOfRow_j15 σ FU a2 v2 0 0
set_option maxHeartbeats 4000000 in
set_option maxRecDepth 100000 in
theorem T_X4_numberOfRow {X : XE} {σ : SS} {r : Int64} {a1 : Int32} {a2 : Int32} (h : P_X4_numberOfRow a1 a2 σ = some r) : Mt (gX X) 3 yX4_numberOfRow cX4_numberOfRow 8 (some .long) [.ref (xq X 7), .int a1, .int a2] σ (some (.long r)) σ := by
  refine Mt.of (own := RX4) (lv := [(0, .ref (xq X 7)), (1, .int a1), (2, .int a2)]) pn_X4 rfl (Nat.le_of_ble_eq_true rfl) rfl ?_
  unfold P_X4_numberOfRow at h
  refine r_aload_n 0 dX4_numberOfRow_0 rfl rfl rfl ?_
  refine gf_X4_33_7 dX4_numberOfRow_1 rfl ?_
  refine r_iload_n 1 dX4_numberOfRow_4 rfl rfl rfl ?_
  obtain ⟨v2, e1, h⟩ := bd h
  refine r_callV (rest := []) (T_X5_sizeAt e1) (by decide) mf_X5_sizeAt rfl tw_788 tw_789 tw_860 cX_6 rfl rfl rfl (Nat.le_of_ble_eq_true rfl) dX4_numberOfRow_5 rfl ?_
  refine r_call0 ?_
  refine r_istore_n (lv' := [(3, .int v2), (0, .ref (xq X 7)), (1, .int a1), (2, .int a2)]) dX4_numberOfRow_8 rfl (by decide) rfl rfl ?_
  refine rlc_0 dX4_numberOfRow_9 rfl ?_
  refine r_lstore (lv' := [(4, .long 0), (3, .int v2), (0, .ref (xq X 7)), (1, .int a1), (2, .int a2)]) dX4_numberOfRow_10 (by decide) rfl rfl ?_
  refine ric_0 dX4_numberOfRow_12 rfl ?_
  refine r_istore (lv' := [(6, .int 0), (4, .long 0), (3, .int v2), (0, .ref (xq X 7)), (1, .int a1), (2, .int a2)]) dX4_numberOfRow_13 (by decide) rfl rfl ?_
  refine r_sub [3, 5, 2, 1, 0] rfl ?_
  exact T_X4_numberOfRow_j15 FU a2 v2 0 0 h
def P_X4_numberOfBoth (a1 : Int32) (a2 : Int32) (σ : SS) : Option Int64 :=
  (P_X4_part 0 σ).bind fun v2 =>
  (P_X5_sizeAt a1 σ).bind fun v4 =>
  (P_X5_sizeAt v2 σ).bind fun v6 =>
  (P_X4_numberAt v2 σ).bind fun v8 =>
  (P_X8_ledBelow a2 v4 v6 v8 σ).bind fun v10 =>
  (P_X4_part 1 σ).bind fun v12 =>
  (P_X4_numberAt v12 σ).bind fun v14 =>
  (P_X7_plus v10 v14).bind fun v16 =>
  some v16
set_option maxHeartbeats 4000000 in
set_option maxRecDepth 100000 in
theorem T_X4_numberOfBoth {X : XE} {σ : SS} {r : Int64} {a1 : Int32} {a2 : Int32} (h : P_X4_numberOfBoth a1 a2 σ = some r) : Mt (gX X) 3 yX4_numberOfBoth cX4_numberOfBoth 6 (some .long) [.ref (xq X 7), .int a1, .int a2] σ (some (.long r)) σ := by
  refine Mt.of (own := RX4) (lv := [(0, .ref (xq X 7)), (1, .int a1), (2, .int a2)]) pn_X4 rfl (Nat.le_of_ble_eq_true rfl) rfl ?_
  unfold P_X4_numberOfBoth at h
  refine r_aload_n 0 dX4_numberOfBoth_0 rfl rfl rfl ?_
  refine ric_0 dX4_numberOfBoth_1 rfl ?_
  obtain ⟨v2, e1, h⟩ := bd h
  refine r_callV (rest := []) (T_X4_part e1) (by decide) mf_X4_part rfl tw_852 tw_31 tw_850 cX_7 rfl rfl rfl (Nat.le_of_ble_eq_true rfl) dX4_numberOfBoth_2 rfl ?_
  refine r_call0 ?_
  refine r_istore_n (lv' := [(3, .int v2), (0, .ref (xq X 7)), (1, .int a1), (2, .int a2)]) dX4_numberOfBoth_5 rfl (by decide) rfl rfl ?_
  refine r_aload_n 1 dX4_numberOfBoth_6 rfl rfl rfl ?_
  refine gf_X4_29_7 dX4_numberOfBoth_7 rfl ?_
  refine r_iload_n 3 dX4_numberOfBoth_10 rfl rfl rfl ?_
  refine r_aload_n 1 dX4_numberOfBoth_11 rfl rfl rfl ?_
  refine gf_X4_33_7 dX4_numberOfBoth_12 rfl ?_
  refine r_iload_n 2 dX4_numberOfBoth_15 rfl rfl rfl ?_
  obtain ⟨v4, e3, h⟩ := bd h
  refine r_callV (rest := [.int a2, .ref (xq X 4)]) (T_X5_sizeAt e3) (by decide) mf_X5_sizeAt rfl tw_788 tw_789 tw_860 cX_6 rfl rfl rfl (Nat.le_of_ble_eq_true rfl) dX4_numberOfBoth_16 rfl ?_
  refine r_call0 ?_
  refine r_aload_n 1 dX4_numberOfBoth_19 rfl rfl rfl ?_
  refine gf_X4_33_7 dX4_numberOfBoth_20 rfl ?_
  refine r_iload_n 0 dX4_numberOfBoth_23 rfl rfl rfl ?_
  obtain ⟨v6, e5, h⟩ := bd h
  refine r_callV (rest := [.int v4, .int a2, .ref (xq X 4)]) (T_X5_sizeAt e5) (by decide) mf_X5_sizeAt rfl tw_788 tw_789 tw_860 cX_6 rfl rfl rfl (Nat.le_of_ble_eq_true rfl) dX4_numberOfBoth_24 rfl ?_
  refine r_call0 ?_
  refine r_aload_n 1 dX4_numberOfBoth_27 rfl rfl rfl ?_
  refine r_iload_n 0 dX4_numberOfBoth_28 rfl rfl rfl ?_
  obtain ⟨v8, e7, h⟩ := bd h
  refine r_callV (rest := [.int v6, .int v4, .int a2, .ref (xq X 4)]) (T_X4_numberAt e7) (by decide) mf_X4_numberAt rfl tw_857 tw_32 tw_855 cX_7 rfl rfl rfl (Nat.le_of_ble_eq_true rfl) dX4_numberOfBoth_29 rfl ?_
  refine r_call0 ?_
  obtain ⟨v10, e9, h⟩ := bd h
  refine r_callV (rest := []) (T_X8_ledBelow e9) (by decide) mf_X8_ledBelow rfl tw_530 tw_531 tw_876 cX_4 rfl rfl rfl (Nat.le_of_ble_eq_true rfl) dX4_numberOfBoth_32 rfl ?_
  refine r_call0 ?_
  refine r_lstore (lv' := [(4, .long v10), (3, .int v2), (0, .ref (xq X 7)), (1, .int a1), (2, .int a2)]) dX4_numberOfBoth_35 (by decide) rfl rfl ?_
  refine r_lload 0 dX4_numberOfBoth_37 rfl rfl ?_
  refine r_aload_n 2 dX4_numberOfBoth_39 rfl rfl rfl ?_
  refine r_aload_n 2 dX4_numberOfBoth_40 rfl rfl rfl ?_
  refine ric_1 dX4_numberOfBoth_41 rfl ?_
  obtain ⟨v12, e11, h⟩ := bd h
  refine r_callV (rest := [.ref (xq X 7), .long v10]) (T_X4_part e11) (by decide) mf_X4_part rfl tw_852 tw_31 tw_850 cX_7 rfl rfl rfl (Nat.le_of_ble_eq_true rfl) dX4_numberOfBoth_42 rfl ?_
  refine r_call0 ?_
  obtain ⟨v14, e13, h⟩ := bd h
  refine r_callV (rest := [.long v10]) (T_X4_numberAt e13) (by decide) mf_X4_numberAt rfl tw_857 tw_32 tw_855 cX_7 rfl rfl rfl (Nat.le_of_ble_eq_true rfl) dX4_numberOfBoth_45 rfl ?_
  refine r_call0 ?_
  obtain ⟨v16, e15, h⟩ := bd h
  refine r_callS (As := [.long v10, .long v14]) (rest := []) (T_X7_plus e15) (by decide) mf_X7_plus rfl tw_551 tw_877 rfl (Nat.le_of_ble_eq_true rfl) dX4_numberOfBoth_48 rfl ?_
  refine r_call0 ?_
  exact r_lretR dX4_numberOfBoth_51 h
def P_X4_numberOf_j136 (x1 : Int32) (x2 : Int32) (y0 : Int32) (σ : SS) : Option (Int64 × SS) :=
  if y0 = 0 then
    (P_X1_a x2 σ).bind fun v3 =>
    (P_X5_sizeAt x1 σ).bind fun v5 =>
    (P_X8_of v3 v5 σ).bind fun v7 =>
    (P_X4_numberAt (x1 + 1) σ).bind fun v9 =>
    (P_X7_plus v7 v9).bind fun v11 =>
    some (v11, σ)
  else
    (P_X4_numberAt (x1 + 1) σ).bind fun v13 =>
    (P_X7_plus 0 v13).bind fun v15 =>
    some (v15, σ)
set_option maxHeartbeats 4000000 in
set_option maxRecDepth 100000 in
theorem T_X4_numberOf_j136 {X : XE} {σf : SS} {r : Int64} : ∀ (x1 : Int32) (x2 : Int32) (y0 : Int32) (σ : SS), P_X4_numberOf_j136 x1 x2 y0 σ = some (r, σf) → V (gX X) 4 RX4 cX4_numberOf 8 (some .long) (some (.long r)) σf 136 [(0, .ref (xq X 7)), (1, .int x1), (2, .int x2)] [.int y0] σ := by
  intro x1 x2 y0 σ h
  unfold P_X4_numberOf_j136 at h
  refine r_istore (lv' := [(5, .int y0), (0, .ref (xq X 7)), (1, .int x1), (2, .int x2)]) dX4_numberOf_136 (by decide) rfl rfl ?_
  refine r_iload 0 dX4_numberOf_138 rfl rfl ?_
  refine r_if_eq (t := 147) dX4_numberOf_140 (by decide) rfl (fun c1 => ?_) (fun c1 => ?_)
  · have h := it_t c1 h
    refine r_aload_n 1 dX4_numberOf_147 rfl rfl rfl ?_
    refine gf_X4_29_7 dX4_numberOf_148 rfl ?_
    refine r_aload_n 1 dX4_numberOf_151 rfl rfl rfl ?_
    refine gf_X4_25_7 dX4_numberOf_152 rfl ?_
    refine r_iload_n 3 dX4_numberOf_155 rfl rfl rfl ?_
    obtain ⟨v3, e2, h⟩ := bd h
    refine r_callV (rest := [.ref (xq X 4)]) (T_X1_a e2) (by decide) mf_X1_a rfl tw_424 tw_425 tw_879 cX_1 rfl rfl rfl (Nat.le_of_ble_eq_true rfl) dX4_numberOf_156 rfl ?_
    refine r_call0 ?_
    refine r_aload_n 1 dX4_numberOf_159 rfl rfl rfl ?_
    refine gf_X4_33_7 dX4_numberOf_160 rfl ?_
    refine r_iload_n 2 dX4_numberOf_163 rfl rfl rfl ?_
    obtain ⟨v5, e4, h⟩ := bd h
    refine r_callV (rest := [.int v3, .ref (xq X 4)]) (T_X5_sizeAt e4) (by decide) mf_X5_sizeAt rfl tw_788 tw_789 tw_860 cX_6 rfl rfl rfl (Nat.le_of_ble_eq_true rfl) dX4_numberOf_164 rfl ?_
    refine r_call0 ?_
    obtain ⟨v7, e6, h⟩ := bd h
    refine r_callV (rest := []) (T_X8_of e6) (by decide) mf_X8_of rfl tw_539 tw_540 tw_880 cX_4 rfl rfl rfl (Nat.le_of_ble_eq_true rfl) dX4_numberOf_167 rfl ?_
    refine r_call0 ?_
    refine r_lstore (lv' := [(6, .long v7), (5, .int y0), (0, .ref (xq X 7)), (1, .int x1), (2, .int x2)]) dX4_numberOf_170 (by decide) rfl rfl ?_
    refine r_lload 0 dX4_numberOf_172 rfl rfl ?_
    refine r_aload_n 2 dX4_numberOf_174 rfl rfl rfl ?_
    refine r_iload_n 3 dX4_numberOf_175 rfl rfl rfl ?_
    refine ric_1 dX4_numberOf_176 rfl ?_
    refine r_iadd dX4_numberOf_177 rfl ?_
    obtain ⟨v9, e8, h⟩ := bd h
    refine r_callV (rest := [.long v7]) (T_X4_numberAt e8) (by decide) mf_X4_numberAt rfl tw_857 tw_32 tw_855 cX_7 rfl rfl rfl (Nat.le_of_ble_eq_true rfl) dX4_numberOf_178 rfl ?_
    refine r_call0 ?_
    obtain ⟨v11, e10, h⟩ := bd h
    refine r_callS (As := [.long v7, .long v9]) (rest := []) (T_X7_plus e10) (by decide) mf_X7_plus rfl tw_551 tw_877 rfl (Nat.le_of_ble_eq_true rfl) dX4_numberOf_181 rfl ?_
    refine r_call0 ?_
    exact r_lretQ dX4_numberOf_184 h
  · have h := it_f c1 h
    refine rlc_0 dX4_numberOf_143 rfl ?_
    refine r_goto (t := 170) dX4_numberOf_144 (by decide) ?_
    refine r_lstore (lv' := [(6, .long 0), (5, .int y0), (0, .ref (xq X 7)), (1, .int x1), (2, .int x2)]) dX4_numberOf_170 (by decide) rfl rfl ?_
    refine r_lload 0 dX4_numberOf_172 rfl rfl ?_
    refine r_aload_n 2 dX4_numberOf_174 rfl rfl rfl ?_
    refine r_iload_n 3 dX4_numberOf_175 rfl rfl rfl ?_
    refine ric_1 dX4_numberOf_176 rfl ?_
    refine r_iadd dX4_numberOf_177 rfl ?_
    obtain ⟨v13, e12, h⟩ := bd h
    refine r_callV (rest := [.long 0]) (T_X4_numberAt e12) (by decide) mf_X4_numberAt rfl tw_857 tw_32 tw_855 cX_7 rfl rfl rfl (Nat.le_of_ble_eq_true rfl) dX4_numberOf_178 rfl ?_
    refine r_call0 ?_
    obtain ⟨v15, e14, h⟩ := bd h
    refine r_callS (As := [.long 0, .long v13]) (rest := []) (T_X7_plus e14) (by decide) mf_X7_plus rfl tw_551 tw_877 rfl (Nat.le_of_ble_eq_true rfl) dX4_numberOf_181 rfl ?_
    refine r_call0 ?_
    exact r_lretQ dX4_numberOf_184 h
def P_X4_numberOf_j41 (x1 : Int32) (x2 : Int32) (x3 : Int32) (y0 : Int32) (σ : SS) : Option (Int64 × SS) :=
  if ¬ y0 = 0 then
    some ((-1), σ)
  else
    (P_X4_hasUnknownPart σ).bind fun v3 =>
    if v3 = 0 then
      if x3 = 2 then
        (P_X4_numberOfBoth x1 x2 σ).bind fun v7 =>
        some (v7, σ)
      else
        if x3 = 3 then
          (P_X5_placeAt x1 σ).bind fun v10 =>
          (P_X0_at_8 v10 σ).bind fun v12 =>
          if ¬ v12 = 49 then
            P_X4_numberOf_j136 x1 x2 0 σ
          else
            P_X4_numberOf_j136 x1 x2 1 σ
        else
          if x3 = 4 then
            (P_X4_numberOfRow x1 x2 σ).bind fun v16 =>
            some (v16, σ)
          else
            if x3 = 5 then
              b2 (P_X4_numberOfBag x1 x2 σ) fun v19 σ20 =>
              some (v19, σ20)
            else
              if x3 = 6 then
                b2 (P_X4_numberOfBag x1 x2 σ) fun v23 σ24 =>
                some (v23, σ24)
              else
                if x3 = 7 then
                  (P_X4_numberAt (x1 + 1) σ).bind fun v27 =>
                  some (v27, σ)
                else
                  if x3 = 8 then
                    (P_X1_a x2 σ).bind fun v30 =>
                    (P_X4_numberOfLetters x1 v30 σ).bind fun v32 =>
                    some (v32, σ)
                  else
                    some (0, σ)
    else
      some ((-1), σ)
set_option maxHeartbeats 4000000 in
set_option maxRecDepth 100000 in
theorem T_X4_numberOf_j41 {X : XE} {σf : SS} {r : Int64} : ∀ (x1 : Int32) (x2 : Int32) (x3 : Int32) (y0 : Int32) (σ : SS), P_X4_numberOf_j41 x1 x2 x3 y0 σ = some (r, σf) → V (gX X) 4 RX4 cX4_numberOf 8 (some .long) (some (.long r)) σf 41 [(0, .ref (xq X 7)), (1, .int x1), (2, .int x2), (3, .int x3)] [.int y0] σ := by
  intro x1 x2 x3 y0 σ h
  unfold P_X4_numberOf_j41 at h
  refine r_istore (lv' := [(4, .int y0), (0, .ref (xq X 7)), (1, .int x1), (2, .int x2), (3, .int x3)]) dX4_numberOf_41 (by decide) rfl rfl ?_
  refine r_iload 0 dX4_numberOf_43 rfl rfl ?_
  refine r_if_ne (t := 55) dX4_numberOf_45 (by decide) rfl (fun c1 => ?_) (fun c1 => ?_)
  · have h := it_t c1 h
    refine r_ldc2 (v := (-1)) tw_861 dX4_numberOf_55 rfl ?_
    exact r_lretQ dX4_numberOf_58 h
  · have h := it_n c1 h
    refine r_aload_n 1 dX4_numberOf_48 rfl rfl rfl ?_
    obtain ⟨v3, e2, h⟩ := bd h
    refine r_callV (rest := []) (T_X4_hasUnknownPart e2) (by decide) mf_X4_hasUnknownPart rfl tw_870 tw_33 tw_868 cX_7 rfl rfl rfl (Nat.le_of_ble_eq_true rfl) dX4_numberOf_49 rfl ?_
    refine r_call0 ?_
    refine r_if_eq (t := 59) dX4_numberOf_52 (by decide) rfl (fun c4 => ?_) (fun c4 => ?_)
    · have h := it_t c4 h
      refine r_iload_n 4 dX4_numberOf_59 rfl rfl rfl ?_
      by_cases c5 : x3 = 2
      · have h := it_t c5 h
        refine r_tableIn (t := 104) dX4_numberOf_60 (by rw [c5]; decide) (by rw [c5]; decide) (by rw [c5]; rfl) (by decide) ?_
        refine r_aload_n 1 dX4_numberOf_104 rfl rfl rfl ?_
        refine r_iload_n 2 dX4_numberOf_105 rfl rfl rfl ?_
        refine r_iload_n 3 dX4_numberOf_106 rfl rfl rfl ?_
        obtain ⟨v7, e6, h⟩ := bd h
        refine r_callV (rest := []) (T_X4_numberOfBoth e6) (by decide) mf_X4_numberOfBoth rfl tw_874 tw_34 tw_872 cX_7 rfl rfl rfl (Nat.le_of_ble_eq_true rfl) dX4_numberOf_107 rfl ?_
        refine r_call0 ?_
        exact r_lretQ dX4_numberOf_110 h
      · have h := it_f c5 h
        by_cases c8 : x3 = 3
        · have h := it_t c8 h
          refine r_tableIn (t := 111) dX4_numberOf_60 (by rw [c8]; decide) (by rw [c8]; decide) (by rw [c8]; rfl) (by decide) ?_
          refine r_aload_n 1 dX4_numberOf_111 rfl rfl rfl ?_
          refine gf_X4_37_7 dX4_numberOf_112 rfl ?_
          refine r_aload_n 1 dX4_numberOf_115 rfl rfl rfl ?_
          refine gf_X4_33_7 dX4_numberOf_116 rfl ?_
          refine r_iload_n 2 dX4_numberOf_119 rfl rfl rfl ?_
          obtain ⟨v10, e9, h⟩ := bd h
          refine r_callV (rest := [.ref (xq X 8)]) (T_X5_placeAt e9) (by decide) mf_X5_placeAt rfl tw_770 tw_771 tw_862 cX_6 rfl rfl rfl (Nat.le_of_ble_eq_true rfl) dX4_numberOf_120 rfl ?_
          refine r_call0 ?_
          obtain ⟨v12, e11, h⟩ := bd h
          refine r_callV (rest := []) (T_X0_at_8 e11) (by decide) mf_X0_at rfl tw_698 tw_699 tw_878 cX_8 rfl rfl rfl (Nat.le_of_ble_eq_true rfl) dX4_numberOf_123 rfl ?_
          refine r_call0 ?_
          refine r_bipush (v := 49) dX4_numberOf_126 (by decide) rfl ?_
          refine r_icmp_ne (t := 135) dX4_numberOf_128 (by decide) rfl (fun c13 => ?_) (fun c13 => ?_)
          · have h := it_t c13 h
            refine ric_0 dX4_numberOf_135 rfl ?_
            refine r_sub [1, 2, 3] rfl ?_
            exact T_X4_numberOf_j136 x1 x2 0 σ h
          · have h := it_n c13 h
            refine ric_1 dX4_numberOf_131 rfl ?_
            refine r_goto (t := 136) dX4_numberOf_132 (by decide) ?_
            refine r_sub [1, 2, 3] rfl ?_
            exact T_X4_numberOf_j136 x1 x2 1 σ h
        · have h := it_f c8 h
          by_cases c14 : x3 = 4
          · have h := it_t c14 h
            refine r_tableIn (t := 185) dX4_numberOf_60 (by rw [c14]; decide) (by rw [c14]; decide) (by rw [c14]; rfl) (by decide) ?_
            refine r_aload_n 1 dX4_numberOf_185 rfl rfl rfl ?_
            refine r_iload_n 2 dX4_numberOf_186 rfl rfl rfl ?_
            refine r_iload_n 3 dX4_numberOf_187 rfl rfl rfl ?_
            obtain ⟨v16, e15, h⟩ := bd h
            refine r_callV (rest := []) (T_X4_numberOfRow e15) (by decide) mf_X4_numberOfRow rfl tw_883 tw_35 tw_881 cX_7 rfl rfl rfl (Nat.le_of_ble_eq_true rfl) dX4_numberOf_188 rfl ?_
            refine r_call0 ?_
            exact r_lretQ dX4_numberOf_191 h
          · have h := it_f c14 h
            by_cases c17 : x3 = 5
            · have h := it_t c17 h
              refine r_tableIn (t := 192) dX4_numberOf_60 (by rw [c17]; decide) (by rw [c17]; decide) (by rw [c17]; rfl) (by decide) ?_
              refine r_aload_n 1 dX4_numberOf_192 rfl rfl rfl ?_
              refine r_iload_n 2 dX4_numberOf_193 rfl rfl rfl ?_
              refine r_iload_n 3 dX4_numberOf_194 rfl rfl rfl ?_
              obtain ⟨v19, σ20, e18, h⟩ := b2d h
              refine r_callV (rest := []) (T_X4_numberOfBag e18) (by decide) mf_X4_numberOfBag rfl tw_887 tw_36 tw_885 cX_7 rfl rfl rfl (Nat.le_of_ble_eq_true rfl) dX4_numberOf_195 rfl ?_
              refine r_call0 ?_
              exact r_lretQ dX4_numberOf_198 h
            · have h := it_f c17 h
              by_cases c21 : x3 = 6
              · have h := it_t c21 h
                refine r_tableIn (t := 192) dX4_numberOf_60 (by rw [c21]; decide) (by rw [c21]; decide) (by rw [c21]; rfl) (by decide) ?_
                refine r_aload_n 1 dX4_numberOf_192 rfl rfl rfl ?_
                refine r_iload_n 2 dX4_numberOf_193 rfl rfl rfl ?_
                refine r_iload_n 3 dX4_numberOf_194 rfl rfl rfl ?_
                obtain ⟨v23, σ24, e22, h⟩ := b2d h
                refine r_callV (rest := []) (T_X4_numberOfBag e22) (by decide) mf_X4_numberOfBag rfl tw_887 tw_36 tw_885 cX_7 rfl rfl rfl (Nat.le_of_ble_eq_true rfl) dX4_numberOf_195 rfl ?_
                refine r_call0 ?_
                exact r_lretQ dX4_numberOf_198 h
              · have h := it_f c21 h
                by_cases c25 : x3 = 7
                · have h := it_t c25 h
                  refine r_tableIn (t := 199) dX4_numberOf_60 (by rw [c25]; decide) (by rw [c25]; decide) (by rw [c25]; rfl) (by decide) ?_
                  refine r_aload_n 1 dX4_numberOf_199 rfl rfl rfl ?_
                  refine r_iload_n 2 dX4_numberOf_200 rfl rfl rfl ?_
                  refine ric_1 dX4_numberOf_201 rfl ?_
                  refine r_iadd dX4_numberOf_202 rfl ?_
                  obtain ⟨v27, e26, h⟩ := bd h
                  refine r_callV (rest := []) (T_X4_numberAt e26) (by decide) mf_X4_numberAt rfl tw_857 tw_32 tw_855 cX_7 rfl rfl rfl (Nat.le_of_ble_eq_true rfl) dX4_numberOf_203 rfl ?_
                  refine r_call0 ?_
                  exact r_lretQ dX4_numberOf_206 h
                · have h := it_f c25 h
                  by_cases c28 : x3 = 8
                  · have h := it_t c28 h
                    refine r_tableIn (t := 207) dX4_numberOf_60 (by rw [c28]; decide) (by rw [c28]; decide) (by rw [c28]; rfl) (by decide) ?_
                    refine r_aload_n 1 dX4_numberOf_207 rfl rfl rfl ?_
                    refine r_iload_n 2 dX4_numberOf_208 rfl rfl rfl ?_
                    refine r_aload_n 1 dX4_numberOf_209 rfl rfl rfl ?_
                    refine gf_X4_25_7 dX4_numberOf_210 rfl ?_
                    refine r_iload_n 3 dX4_numberOf_213 rfl rfl rfl ?_
                    obtain ⟨v30, e29, h⟩ := bd h
                    refine r_callV (rest := [.int x1, .ref (xq X 7)]) (T_X1_a e29) (by decide) mf_X1_a rfl tw_424 tw_425 tw_879 cX_1 rfl rfl rfl (Nat.le_of_ble_eq_true rfl) dX4_numberOf_214 rfl ?_
                    refine r_call0 ?_
                    obtain ⟨v32, e31, h⟩ := bd h
                    refine r_callV (rest := []) (T_X4_numberOfLetters e31) (by decide) mf_X4_numberOfLetters rfl tw_897 tw_38 tw_895 cX_7 rfl rfl rfl (Nat.le_of_ble_eq_true rfl) dX4_numberOf_217 rfl ?_
                    refine r_call0 ?_
                    exact r_lretQ dX4_numberOf_220 h
                  · have h := it_f c28 h
                    refine r_tableOut (t := 221) dX4_numberOf_60 (by have z0 := neL c5 (z := 2) rfl; have z1 := neL c8 (z := 3) rfl; have z2 := neL c14 (z := 4) rfl; have z3 := neL c17 (z := 5) rfl; have z4 := neL c21 (z := 6) rfl; have z5 := neL c25 (z := 7) rfl; have z6 := neL c28 (z := 8) rfl; omega) (by decide) ?_
                    refine rlc_0 dX4_numberOf_221 rfl ?_
                    exact r_lretQ dX4_numberOf_222 h
    · have h := it_f c4 h
      refine r_ldc2 (v := (-1)) tw_861 dX4_numberOf_55 rfl ?_
      exact r_lretQ dX4_numberOf_58 h
def P_X4_numberOf_j40 (x1 : Int32) (x2 : Int32) (x3 : Int32) (σ : SS) : Option (Int64 × SS) :=
  P_X4_numberOf_j41 x1 x2 x3 0 σ
set_option maxHeartbeats 4000000 in
set_option maxRecDepth 100000 in
theorem T_X4_numberOf_j40 {X : XE} {σf : SS} {r : Int64} : ∀ (x1 : Int32) (x2 : Int32) (x3 : Int32) (σ : SS), P_X4_numberOf_j40 x1 x2 x3 σ = some (r, σf) → V (gX X) 4 RX4 cX4_numberOf 8 (some .long) (some (.long r)) σf 40 [(0, .ref (xq X 7)), (1, .int x1), (2, .int x2), (3, .int x3)] [] σ := by
  intro x1 x2 x3 σ h
  unfold P_X4_numberOf_j40 at h
  refine ric_0 dX4_numberOf_40 rfl ?_
  exact T_X4_numberOf_j41 x1 x2 x3 0 σ h
def P_X4_numberOf (a1 : Int32) (σ : SS) : Option (Int64 × SS) :=
  (P_X5_shapeAt a1 σ).bind fun v2 =>
  (P_X1_kind v2 σ).bind fun v4 =>
  (P_X4_gatherParts a1 σ).bind fun σ6 =>
  if ¬ v4 = 6 then
    P_X4_numberOf_j40 a1 v2 v4 σ6
  else
    b2 (P_X4_findsTwin σ6) fun v9 σ10 =>
    if v9 = 0 then
      P_X4_numberOf_j40 a1 v2 v4 σ10
    else
      P_X4_numberOf_j41 a1 v2 v4 1 σ10
set_option maxHeartbeats 4000000 in
set_option maxRecDepth 100000 in
theorem T_X4_numberOf {X : XE} {σf : SS} {r : Int64} {σ : SS} {a1 : Int32} (h : P_X4_numberOf a1 σ = some (r, σf)) : Mt (gX X) 4 yX4_numberOf cX4_numberOf 8 (some .long) [.ref (xq X 7), .int a1] σ (some (.long r)) σf := by
  refine Mt.of (own := RX4) (lv := [(0, .ref (xq X 7)), (1, .int a1)]) pn_X4 rfl (Nat.le_of_ble_eq_true rfl) rfl ?_
  unfold P_X4_numberOf at h
  refine r_aload_n 0 dX4_numberOf_0 rfl rfl rfl ?_
  refine gf_X4_33_7 dX4_numberOf_1 rfl ?_
  refine r_iload_n 1 dX4_numberOf_4 rfl rfl rfl ?_
  obtain ⟨v2, e1, h⟩ := bd h
  refine r_callV (rest := []) (T_X5_shapeAt e1) (by decide) mf_X5_shapeAt rfl tw_762 tw_763 tw_833 cX_6 rfl rfl rfl (Nat.le_of_ble_eq_true rfl) dX4_numberOf_5 rfl ?_
  refine r_call0 ?_
  refine r_istore_n (lv' := [(2, .int v2), (0, .ref (xq X 7)), (1, .int a1)]) dX4_numberOf_8 rfl (by decide) rfl rfl ?_
  refine r_aload_n 1 dX4_numberOf_9 rfl rfl rfl ?_
  refine gf_X4_25_7 dX4_numberOf_10 rfl ?_
  refine r_iload_n 0 dX4_numberOf_13 rfl rfl rfl ?_
  obtain ⟨v4, e3, h⟩ := bd h
  refine r_callV (rest := []) (T_X1_kind e3) (by decide) mf_X1_kind rfl tw_420 tw_421 tw_834 cX_1 rfl rfl rfl (Nat.le_of_ble_eq_true rfl) dX4_numberOf_14 rfl ?_
  refine r_call0 ?_
  refine r_istore_n (lv' := [(3, .int v4), (2, .int v2), (0, .ref (xq X 7)), (1, .int a1)]) dX4_numberOf_17 rfl (by decide) rfl rfl ?_
  refine r_aload_n 2 dX4_numberOf_18 rfl rfl rfl ?_
  refine r_iload_n 3 dX4_numberOf_19 rfl rfl rfl ?_
  obtain ⟨σ6, e5, h⟩ := bd h
  refine r_callV (rest := []) (T_X4_gatherParts e5) (by decide) mf_X4_gatherParts rfl tw_837 tw_28 tw_835 cX_7 rfl rfl rfl (Nat.le_of_ble_eq_true rfl) dX4_numberOf_20 rfl ?_
  refine r_calln ?_
  refine r_iload_n 0 dX4_numberOf_23 rfl rfl rfl ?_
  refine r_bipush (v := 6) dX4_numberOf_24 (by decide) rfl ?_
  refine r_icmp_ne (t := 40) dX4_numberOf_26 (by decide) rfl (fun c7 => ?_) (fun c7 => ?_)
  · have h := it_t c7 h
    refine r_sub [2, 3, 1, 0] rfl ?_
    exact T_X4_numberOf_j40 a1 v2 v4 σ6 h
  · have h := it_n c7 h
    refine r_aload_n 2 dX4_numberOf_29 rfl rfl rfl ?_
    obtain ⟨v9, σ10, e8, h⟩ := b2d h
    refine r_callV (rest := []) (T_X4_findsTwin e8) (by decide) mf_X4_findsTwin rfl tw_844 tw_29 tw_842 cX_7 rfl rfl rfl (Nat.le_of_ble_eq_true rfl) dX4_numberOf_30 rfl ?_
    refine r_call0 ?_
    refine r_if_eq (t := 40) dX4_numberOf_33 (by decide) rfl (fun c11 => ?_) (fun c11 => ?_)
    · have h := it_t c11 h
      refine r_sub [2, 3, 1, 0] rfl ?_
      exact T_X4_numberOf_j40 a1 v2 v4 σ10 h
    · have h := it_f c11 h
      refine ric_1 dX4_numberOf_36 rfl ?_
      refine r_goto (t := 41) dX4_numberOf_37 (by decide) ?_
      refine r_sub [2, 3, 1, 0] rfl ?_
      exact T_X4_numberOf_j41 a1 v2 v4 1 σ10 h
