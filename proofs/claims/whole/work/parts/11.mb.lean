def P_X11_faulty_j122 (σ : SS) (K2 : Int32 → Int32 → Option Int32) (x1 : Int32) (x2 : Int32) (y0 : Int32) : Option Int32 :=
  if y0 = 0 then
    K2 x1 (x2 + 1)
  else
    some x2
set_option maxHeartbeats 4000000 in
set_option maxRecDepth 100000 in
theorem T_X11_faulty_j122 {X : XE} {σ : SS} {r : Int32} {K2 : Int32 → Int32 → Option Int32} (hK2 : ∀ (x1 : Int32) (x2 : Int32), K2 x1 x2 = some r → V (gM X) 2 RX11 cX11_faulty 4 (some .int) (some (.int r)) σ 2 [(0, .ref (xq X 0)), (1, .int x1), (2, .int x2)] [] σ) : ∀ (x1 : Int32) (x2 : Int32) (y0 : Int32), P_X11_faulty_j122 σ K2 x1 x2 y0 = some r → V (gM X) 2 RX11 cX11_faulty 4 (some .int) (some (.int r)) σ 122 [(0, .ref (xq X 0)), (1, .int x1), (2, .int x2)] [.int y0] σ := by
  intro x1 x2 y0 h
  unfold P_X11_faulty_j122 at h
  refine r_istore_n (lv' := [(3, .int y0), (0, .ref (xq X 0)), (1, .int x1), (2, .int x2)]) dX11_faulty_122 rfl (by decide) rfl rfl ?_
  refine r_iload_n 0 dX11_faulty_123 rfl rfl rfl ?_
  refine r_if_eq (t := 129) dX11_faulty_124 (by decide) rfl (fun c1 => ?_) (fun c1 => ?_)
  · have h := it_t c1 h
    refine r_iinc (v := (x2 + 1)) (lv' := [(2, .int (x2 + 1)), (3, .int y0), (0, .ref (xq X 0)), (1, .int x1)]) 3 dX11_faulty_129 rfl rfl (by decide) rfl rfl ?_
    refine r_goto (t := 2) dX11_faulty_132 (by decide) ?_
    refine r_sub [2, 3, 0] rfl ?_
    exact hK2 x1 (x2 + 1) h
  · have h := it_f c1 h
    refine r_iload_n 3 dX11_faulty_127 rfl rfl rfl ?_
    exact r_iretR dX11_faulty_128 h
def P_X11_faulty_j57 (σ : SS) (K2 : Int32 → Int32 → Option Int32) (x1 : Int32) (x2 : Int32) : Option Int32 :=
  P_X11_faulty_j122 σ K2 x1 x2 1
set_option maxHeartbeats 4000000 in
set_option maxRecDepth 100000 in
theorem T_X11_faulty_j57 {X : XE} {σ : SS} {r : Int32} {K2 : Int32 → Int32 → Option Int32} (hK2 : ∀ (x1 : Int32) (x2 : Int32), K2 x1 x2 = some r → V (gM X) 2 RX11 cX11_faulty 4 (some .int) (some (.int r)) σ 2 [(0, .ref (xq X 0)), (1, .int x1), (2, .int x2)] [] σ) : ∀ (x1 : Int32) (x2 : Int32), P_X11_faulty_j57 σ K2 x1 x2 = some r → V (gM X) 2 RX11 cX11_faulty 4 (some .int) (some (.int r)) σ 57 [(0, .ref (xq X 0)), (1, .int x1), (2, .int x2)] [] σ := by
  intro x1 x2 h
  unfold P_X11_faulty_j57 at h
  refine ric_1 dX11_faulty_57 rfl ?_
  refine r_goto (t := 122) dX11_faulty_58 (by decide) ?_
  exact T_X11_faulty_j122 hK2 x1 x2 1 h
def P_X11_faulty_j61 (σ : SS) (K2 : Int32 → Int32 → Option Int32) (x1 : Int32) (x2 : Int32) : Option Int32 :=
  P_X11_faulty_j122 σ K2 x1 x2 0
set_option maxHeartbeats 4000000 in
set_option maxRecDepth 100000 in
theorem T_X11_faulty_j61 {X : XE} {σ : SS} {r : Int32} {K2 : Int32 → Int32 → Option Int32} (hK2 : ∀ (x1 : Int32) (x2 : Int32), K2 x1 x2 = some r → V (gM X) 2 RX11 cX11_faulty 4 (some .int) (some (.int r)) σ 2 [(0, .ref (xq X 0)), (1, .int x1), (2, .int x2)] [] σ) : ∀ (x1 : Int32) (x2 : Int32), P_X11_faulty_j61 σ K2 x1 x2 = some r → V (gM X) 2 RX11 cX11_faulty 4 (some .int) (some (.int r)) σ 61 [(0, .ref (xq X 0)), (1, .int x1), (2, .int x2)] [] σ := by
  intro x1 x2 h
  unfold P_X11_faulty_j61 at h
  refine ric_0 dX11_faulty_61 rfl ?_
  refine r_goto (t := 122) dX11_faulty_62 (by decide) ?_
  exact T_X11_faulty_j122 hK2 x1 x2 0 h
def P_X11_faulty_j36 (σ : SS) (K2 : Int32 → Int32 → Option Int32) (x1 : Int32) (x2 : Int32) : Option Int32 :=
  (P_X11_hasB x2 σ).bind fun v2 =>
  if v2 = 0 then
    P_X11_faulty_j61 σ K2 x1 x2
  else
    gI x2 16 <|
    if (ldA σ 2 x2) < (sI σ 0) then
      P_X11_faulty_j61 σ K2 x1 x2
    else
      P_X11_faulty_j57 σ K2 x1 x2
set_option maxHeartbeats 4000000 in
set_option maxRecDepth 100000 in
theorem T_X11_faulty_j36 {X : XE} {σ : SS} {r : Int32} {K2 : Int32 → Int32 → Option Int32} (hK2 : ∀ (x1 : Int32) (x2 : Int32), K2 x1 x2 = some r → V (gM X) 2 RX11 cX11_faulty 4 (some .int) (some (.int r)) σ 2 [(0, .ref (xq X 0)), (1, .int x1), (2, .int x2)] [] σ) : ∀ (x1 : Int32) (x2 : Int32), P_X11_faulty_j36 σ K2 x1 x2 = some r → V (gM X) 2 RX11 cX11_faulty 4 (some .int) (some (.int r)) σ 36 [(0, .ref (xq X 0)), (1, .int x1), (2, .int x2)] [] σ := by
  intro x1 x2 h
  unfold P_X11_faulty_j36 at h
  refine r_aload_n 0 dX11_faulty_36 rfl rfl rfl ?_
  refine r_iload_n 2 dX11_faulty_37 rfl rfl rfl ?_
  obtain ⟨v2, e1, h⟩ := bd h
  refine r_callV (rest := []) (T_X11_hasB e1) (by decide) mf_X11_hasB rfl tw_1103 tw_44 tw_1101 cM_0 rfl rfl rfl (Nat.le_of_ble_eq_true rfl) dX11_faulty_38 rfl ?_
  refine r_call0 ?_
  refine r_if_eq (t := 61) dX11_faulty_41 (by decide) rfl (fun c3 => ?_) (fun c3 => ?_)
  · have h := it_t c3 h
    exact T_X11_faulty_j61 hK2 x1 x2 h
  · have h := it_f c3 h
    refine r_aload_n 0 dX11_faulty_44 rfl rfl rfl ?_
    refine gf_X11_16_0 dX11_faulty_45 rfl ?_
    refine r_iload_n 2 dX11_faulty_48 rfl rfl rfl ?_
    obtain ⟨hi4, h⟩ := gi h
    refine alM_3 hi4 dX11_faulty_49 rfl ?_
    refine r_aload_n 0 dX11_faulty_50 rfl rfl rfl ?_
    refine gf_X11_95_0 dX11_faulty_51 rfl ?_
    refine r_icmp_lt (t := 61) dX11_faulty_54 (by decide) rfl (fun c5 => ?_) (fun c5 => ?_)
    · have h := it_t c5 h
      exact T_X11_faulty_j61 hK2 x1 x2 h
    · have h := it_f c5 h
      exact T_X11_faulty_j57 hK2 x1 x2 h
def P_X11_faulty_j107 (σ : SS) (K2 : Int32 → Int32 → Option Int32) (x1 : Int32) (x2 : Int32) : Option Int32 :=
  P_X11_faulty_j122 σ K2 x1 x2 0
set_option maxHeartbeats 4000000 in
set_option maxRecDepth 100000 in
theorem T_X11_faulty_j107 {X : XE} {σ : SS} {r : Int32} {K2 : Int32 → Int32 → Option Int32} (hK2 : ∀ (x1 : Int32) (x2 : Int32), K2 x1 x2 = some r → V (gM X) 2 RX11 cX11_faulty 4 (some .int) (some (.int r)) σ 2 [(0, .ref (xq X 0)), (1, .int x1), (2, .int x2)] [] σ) : ∀ (x1 : Int32) (x2 : Int32), P_X11_faulty_j107 σ K2 x1 x2 = some r → V (gM X) 2 RX11 cX11_faulty 4 (some .int) (some (.int r)) σ 107 [(0, .ref (xq X 0)), (1, .int x1), (2, .int x2)] [] σ := by
  intro x1 x2 h
  unfold P_X11_faulty_j107 at h
  refine ric_0 dX11_faulty_107 rfl ?_
  refine r_goto (t := 122) dX11_faulty_108 (by decide) ?_
  exact T_X11_faulty_j122 hK2 x1 x2 0 h
def P_X11_faulty_j2 (σ : SS) : Nat → Int32 → Int32 → Option Int32
  | 0, _, _ => none
  | n + 1, x1, x2 =>
    if (sI σ 0) ≤ x2 then
      some (-1)
    else
      if ¬ x1 = 1 then
        if ¬ x1 = 2 then
          gI ((16 * x2) + x2) 256 <|
          P_X11_faulty_j122 σ (P_X11_faulty_j2 σ n) x1 x2 (ldA σ 7 ((16 * x2) + x2))
        else
          gI x2 16 <|
          (P_X11_isIn ((ldA σ 0 x2).toInt64) 4 6).bind fun v7 =>
          if v7 = 0 then
            P_X11_faulty_j107 σ (P_X11_faulty_j2 σ n) x1 x2
          else
            gI x2 16 <|
            gI (ldA σ 1 x2) 16 <|
            if (ldA σ 6 (ldA σ 1 x2)) = 0 then
              P_X11_faulty_j107 σ (P_X11_faulty_j2 σ n) x1 x2
            else
              P_X11_faulty_j122 σ (P_X11_faulty_j2 σ n) x1 x2 1
      else
        (P_X11_hasA x2 σ).bind fun v13 =>
        if v13 = 0 then
          P_X11_faulty_j36 σ (P_X11_faulty_j2 σ n) x1 x2
        else
          gI x2 16 <|
          if (sI σ 0) ≤ (ldA σ 1 x2) then
            P_X11_faulty_j57 σ (P_X11_faulty_j2 σ n) x1 x2
          else
            P_X11_faulty_j36 σ (P_X11_faulty_j2 σ n) x1 x2
set_option maxHeartbeats 4000000 in
set_option maxRecDepth 100000 in
theorem T_X11_faulty_j2 {X : XE} {σ : SS} {r : Int32} : ∀ (fu : Nat) (x1 : Int32) (x2 : Int32), P_X11_faulty_j2 σ fu x1 x2 = some r → V (gM X) 2 RX11 cX11_faulty 4 (some .int) (some (.int r)) σ 2 [(0, .ref (xq X 0)), (1, .int x1), (2, .int x2)] [] σ := by
  intro fu
  induction fu with
  | zero => intro x1 x2 h; exact no0 h
  | succ n ih =>
    intro x1 x2 h
    unfold P_X11_faulty_j2 at h
    refine r_iload_n 2 dX11_faulty_2 rfl rfl rfl ?_
    refine r_aload_n 0 dX11_faulty_3 rfl rfl rfl ?_
    refine gf_X11_95_0 dX11_faulty_4 rfl ?_
    refine r_icmp_ge (t := 135) dX11_faulty_7 (by decide) rfl (fun c1 => ?_) (fun c1 => ?_)
    · have h := it_t c1 h
      refine ric_m1 dX11_faulty_135 rfl ?_
      exact r_iretR dX11_faulty_136 h
    · have h := it_f c1 h
      refine r_iload_n 1 dX11_faulty_10 rfl rfl rfl ?_
      refine ric_1 dX11_faulty_11 rfl ?_
      refine r_icmp_ne (t := 65) dX11_faulty_12 (by decide) rfl (fun c2 => ?_) (fun c2 => ?_)
      · have h := it_t c2 h
        refine r_iload_n 1 dX11_faulty_65 rfl rfl rfl ?_
        refine ric_2 dX11_faulty_66 rfl ?_
        refine r_icmp_ne (t := 111) dX11_faulty_67 (by decide) rfl (fun c3 => ?_) (fun c3 => ?_)
        · have h := it_t c3 h
          refine r_aload_n 0 dX11_faulty_111 rfl rfl rfl ?_
          refine gf_X11_32_0 dX11_faulty_112 rfl ?_
          refine r_bipush (v := 16) dX11_faulty_115 (by decide) rfl ?_
          refine r_iload_n 2 dX11_faulty_117 rfl rfl rfl ?_
          refine r_imul dX11_faulty_118 rfl ?_
          refine r_iload_n 2 dX11_faulty_119 rfl rfl rfl ?_
          refine r_iadd dX11_faulty_120 rfl ?_
          obtain ⟨hi4, h⟩ := gi h
          refine alM_8 hi4 dX11_faulty_121 rfl ?_
          exact T_X11_faulty_j122 ih x1 x2 (ldA σ 7 ((16 * x2) + x2)) h
        · have h := it_n c3 h
          refine r_aload_n 0 dX11_faulty_70 rfl rfl rfl ?_
          refine gf_X11_7_0 dX11_faulty_71 rfl ?_
          refine r_iload_n 2 dX11_faulty_74 rfl rfl rfl ?_
          obtain ⟨hi5, h⟩ := gi h
          refine alM_1 hi5 dX11_faulty_75 rfl ?_
          refine r_i2l dX11_faulty_76 rfl ?_
          refine r_ldc2 (v := 4) tw_1105 dX11_faulty_77 rfl ?_
          refine r_ldc2 (v := 6) tw_1106 dX11_faulty_80 rfl ?_
          obtain ⟨v7, e6, h⟩ := bd h
          refine r_callS (As := [.long ((ldA σ 0 x2).toInt64), .long 4, .long 6]) (rest := []) (T_X11_isIn e6) (by decide) mf_X11_isIn rfl tw_1055 tw_1054 rfl (Nat.le_of_ble_eq_true rfl) dX11_faulty_83 rfl ?_
          refine r_call0 ?_
          refine r_if_eq (t := 107) dX11_faulty_86 (by decide) rfl (fun c8 => ?_) (fun c8 => ?_)
          · have h := it_t c8 h
            exact T_X11_faulty_j107 ih x1 x2 h
          · have h := it_f c8 h
            refine r_aload_n 0 dX11_faulty_89 rfl rfl rfl ?_
            refine gf_X11_28_0 dX11_faulty_90 rfl ?_
            refine r_aload_n 0 dX11_faulty_93 rfl rfl rfl ?_
            refine gf_X11_13_0 dX11_faulty_94 rfl ?_
            refine r_iload_n 2 dX11_faulty_97 rfl rfl rfl ?_
            obtain ⟨hi9, h⟩ := gi h
            refine alM_2 hi9 dX11_faulty_98 rfl ?_
            obtain ⟨hi10, h⟩ := gi h
            refine alM_7 hi10 dX11_faulty_99 rfl ?_
            refine r_if_eq (t := 107) dX11_faulty_100 (by decide) rfl (fun c11 => ?_) (fun c11 => ?_)
            · have h := it_t c11 h
              exact T_X11_faulty_j107 ih x1 x2 h
            · have h := it_f c11 h
              refine ric_1 dX11_faulty_103 rfl ?_
              refine r_goto (t := 122) dX11_faulty_104 (by decide) ?_
              exact T_X11_faulty_j122 ih x1 x2 1 h
      · have h := it_n c2 h
        refine r_aload_n 0 dX11_faulty_15 rfl rfl rfl ?_
        refine r_iload_n 2 dX11_faulty_16 rfl rfl rfl ?_
        obtain ⟨v13, e12, h⟩ := bd h
        refine r_callV (rest := []) (T_X11_hasA e12) (by decide) mf_X11_hasA rfl tw_1098 tw_43 tw_1096 cM_0 rfl rfl rfl (Nat.le_of_ble_eq_true rfl) dX11_faulty_17 rfl ?_
        refine r_call0 ?_
        refine r_if_eq (t := 36) dX11_faulty_20 (by decide) rfl (fun c14 => ?_) (fun c14 => ?_)
        · have h := it_t c14 h
          exact T_X11_faulty_j36 ih x1 x2 h
        · have h := it_f c14 h
          refine r_aload_n 0 dX11_faulty_23 rfl rfl rfl ?_
          refine gf_X11_13_0 dX11_faulty_24 rfl ?_
          refine r_iload_n 2 dX11_faulty_27 rfl rfl rfl ?_
          obtain ⟨hi15, h⟩ := gi h
          refine alM_2 hi15 dX11_faulty_28 rfl ?_
          refine r_aload_n 0 dX11_faulty_29 rfl rfl rfl ?_
          refine gf_X11_95_0 dX11_faulty_30 rfl ?_
          refine r_icmp_ge (t := 57) dX11_faulty_33 (by decide) rfl (fun c16 => ?_) (fun c16 => ?_)
          · have h := it_t c16 h
            exact T_X11_faulty_j57 ih x1 x2 h
          · have h := it_f c16 h
            exact T_X11_faulty_j36 ih x1 x2 h
def P_X11_faulty (a1 : Int32) (σ : SS) : Option Int32 :=
  P_X11_faulty_j2 σ FU a1 0
set_option maxHeartbeats 4000000 in
set_option maxRecDepth 100000 in
theorem T_X11_faulty {X : XE} {σ : SS} {r : Int32} {a1 : Int32} (h : P_X11_faulty a1 σ = some r) : Mt (gM X) 2 yX11_faulty cX11_faulty 4 (some .int) [.ref (xq X 0), .int a1] σ (some (.int r)) σ := by
  refine Mt.of (own := RX11) (lv := [(0, .ref (xq X 0)), (1, .int a1)]) pn_X11 rfl (Nat.le_of_ble_eq_true rfl) rfl ?_
  unfold P_X11_faulty at h
  refine ric_0 dX11_faulty_0 rfl ?_
  refine r_istore_n (lv' := [(2, .int 0), (0, .ref (xq X 0)), (1, .int a1)]) dX11_faulty_1 rfl (by decide) rfl rfl ?_
  refine r_sub [1, 2, 0] rfl ?_
  exact T_X11_faulty_j2 FU a1 0 h
def P_X11_canBeNought (a1 : Int32) (σ : SS) : Option Int32 :=
  gI a1 16 <|
  if (ldA σ 0 a1) = 1 then
    some 1
  else
    if (ldA σ 0 a1) = 2 then
      gI a1 16 <|
      gI (ldA σ 1 a1) 16 <|
      if (ldA σ 6 (ldA σ 1 a1)) = 0 then
        some 0
      else
        gI a1 16 <|
        gI (ldA σ 2 a1) 16 <|
        if (ldA σ 6 (ldA σ 2 a1)) = 0 then
          some 0
        else
          some 1
    else
      if (ldA σ 0 a1) = 3 then
        gI a1 16 <|
        gI (ldA σ 1 a1) 16 <|
        if ¬ (ldA σ 6 (ldA σ 1 a1)) = 0 then
          some 1
        else
          gI a1 16 <|
          gI (ldA σ 2 a1) 16 <|
          if (ldA σ 6 (ldA σ 2 a1)) = 0 then
            some 0
          else
            some 1
      else
        if (ldA σ 0 a1) = 4 then
          some 1
        else
          if (ldA σ 0 a1) = 5 then
            some 1
          else
            if (ldA σ 0 a1) = 6 then
              some 1
            else
              if (ldA σ 0 a1) = 7 then
                gI a1 16 <|
                if ¬ ((ldA σ 2 a1) / 32) = 0 then
                  some 0
                else
                  gI a1 16 <|
                  gI (ldA σ 1 a1) 16 <|
                  if (ldA σ 6 (ldA σ 1 a1)) = 0 then
                    some 0
                  else
                    some 1
              else
                some 0
set_option maxHeartbeats 4000000 in
set_option maxRecDepth 100000 in
theorem T_X11_canBeNought {X : XE} {σ : SS} {r : Int32} {a1 : Int32} (h : P_X11_canBeNought a1 σ = some r) : Mt (gM X) 0 yX11_canBeNought cX11_canBeNought 2 (some .boolean) [.ref (xq X 0), .int a1] σ (some (.int r)) σ := by
  refine Mt.of (own := RX11) (lv := [(0, .ref (xq X 0)), (1, .int a1)]) pn_X11 rfl (Nat.le_of_ble_eq_true rfl) rfl ?_
  unfold P_X11_canBeNought at h
  refine r_aload_n 0 dX11_canBeNought_0 rfl rfl rfl ?_
  refine gf_X11_7_0 dX11_canBeNought_1 rfl ?_
  refine r_iload_n 1 dX11_canBeNought_4 rfl rfl rfl ?_
  obtain ⟨hi1, h⟩ := gi h
  refine alM_1 hi1 dX11_canBeNought_5 rfl ?_
  by_cases c2 : (ldA σ 0 a1) = 1
  · have h := it_t c2 h
    refine r_tableIn (t := 48) dX11_canBeNought_6 (by rw [c2]; decide) (by rw [c2]; decide) (by rw [c2]; rfl) (by decide) ?_
    refine ric_1 dX11_canBeNought_48 rfl ?_
    exact r_zretR (Or.inr rfl) dX11_canBeNought_49 h
  · have h := it_f c2 h
    by_cases c3 : (ldA σ 0 a1) = 2
    · have h := it_t c3 h
      refine r_tableIn (t := 50) dX11_canBeNought_6 (by rw [c3]; decide) (by rw [c3]; decide) (by rw [c3]; rfl) (by decide) ?_
      refine r_aload_n 0 dX11_canBeNought_50 rfl rfl rfl ?_
      refine gf_X11_28_0 dX11_canBeNought_51 rfl ?_
      refine r_aload_n 0 dX11_canBeNought_54 rfl rfl rfl ?_
      refine gf_X11_13_0 dX11_canBeNought_55 rfl ?_
      refine r_iload_n 1 dX11_canBeNought_58 rfl rfl rfl ?_
      obtain ⟨hi4, h⟩ := gi h
      refine alM_2 hi4 dX11_canBeNought_59 rfl ?_
      obtain ⟨hi5, h⟩ := gi h
      refine alM_7 hi5 dX11_canBeNought_60 rfl ?_
      refine r_if_eq (t := 82) dX11_canBeNought_61 (by decide) rfl (fun c6 => ?_) (fun c6 => ?_)
      · have h := it_t c6 h
        refine ric_0 dX11_canBeNought_82 rfl ?_
        exact r_zretR (Or.inl rfl) dX11_canBeNought_83 h
      · have h := it_f c6 h
        refine r_aload_n 0 dX11_canBeNought_64 rfl rfl rfl ?_
        refine gf_X11_28_0 dX11_canBeNought_65 rfl ?_
        refine r_aload_n 0 dX11_canBeNought_68 rfl rfl rfl ?_
        refine gf_X11_16_0 dX11_canBeNought_69 rfl ?_
        refine r_iload_n 1 dX11_canBeNought_72 rfl rfl rfl ?_
        obtain ⟨hi7, h⟩ := gi h
        refine alM_3 hi7 dX11_canBeNought_73 rfl ?_
        obtain ⟨hi8, h⟩ := gi h
        refine alM_7 hi8 dX11_canBeNought_74 rfl ?_
        refine r_if_eq (t := 82) dX11_canBeNought_75 (by decide) rfl (fun c9 => ?_) (fun c9 => ?_)
        · have h := it_t c9 h
          refine ric_0 dX11_canBeNought_82 rfl ?_
          exact r_zretR (Or.inl rfl) dX11_canBeNought_83 h
        · have h := it_f c9 h
          refine ric_1 dX11_canBeNought_78 rfl ?_
          refine r_goto (t := 83) dX11_canBeNought_79 (by decide) ?_
          exact r_zretR (Or.inr rfl) dX11_canBeNought_83 h
    · have h := it_f c3 h
      by_cases c10 : (ldA σ 0 a1) = 3
      · have h := it_t c10 h
        refine r_tableIn (t := 84) dX11_canBeNought_6 (by rw [c10]; decide) (by rw [c10]; decide) (by rw [c10]; rfl) (by decide) ?_
        refine r_aload_n 0 dX11_canBeNought_84 rfl rfl rfl ?_
        refine gf_X11_28_0 dX11_canBeNought_85 rfl ?_
        refine r_aload_n 0 dX11_canBeNought_88 rfl rfl rfl ?_
        refine gf_X11_13_0 dX11_canBeNought_89 rfl ?_
        refine r_iload_n 1 dX11_canBeNought_92 rfl rfl rfl ?_
        obtain ⟨hi11, h⟩ := gi h
        refine alM_2 hi11 dX11_canBeNought_93 rfl ?_
        obtain ⟨hi12, h⟩ := gi h
        refine alM_7 hi12 dX11_canBeNought_94 rfl ?_
        refine r_if_ne (t := 112) dX11_canBeNought_95 (by decide) rfl (fun c13 => ?_) (fun c13 => ?_)
        · have h := it_t c13 h
          refine ric_1 dX11_canBeNought_112 rfl ?_
          refine r_goto (t := 117) dX11_canBeNought_113 (by decide) ?_
          exact r_zretR (Or.inr rfl) dX11_canBeNought_117 h
        · have h := it_n c13 h
          refine r_aload_n 0 dX11_canBeNought_98 rfl rfl rfl ?_
          refine gf_X11_28_0 dX11_canBeNought_99 rfl ?_
          refine r_aload_n 0 dX11_canBeNought_102 rfl rfl rfl ?_
          refine gf_X11_16_0 dX11_canBeNought_103 rfl ?_
          refine r_iload_n 1 dX11_canBeNought_106 rfl rfl rfl ?_
          obtain ⟨hi14, h⟩ := gi h
          refine alM_3 hi14 dX11_canBeNought_107 rfl ?_
          obtain ⟨hi15, h⟩ := gi h
          refine alM_7 hi15 dX11_canBeNought_108 rfl ?_
          refine r_if_eq (t := 116) dX11_canBeNought_109 (by decide) rfl (fun c16 => ?_) (fun c16 => ?_)
          · have h := it_t c16 h
            refine ric_0 dX11_canBeNought_116 rfl ?_
            exact r_zretR (Or.inl rfl) dX11_canBeNought_117 h
          · have h := it_f c16 h
            refine ric_1 dX11_canBeNought_112 rfl ?_
            refine r_goto (t := 117) dX11_canBeNought_113 (by decide) ?_
            exact r_zretR (Or.inr rfl) dX11_canBeNought_117 h
      · have h := it_f c10 h
        by_cases c17 : (ldA σ 0 a1) = 4
        · have h := it_t c17 h
          refine r_tableIn (t := 48) dX11_canBeNought_6 (by rw [c17]; decide) (by rw [c17]; decide) (by rw [c17]; rfl) (by decide) ?_
          refine ric_1 dX11_canBeNought_48 rfl ?_
          exact r_zretR (Or.inr rfl) dX11_canBeNought_49 h
        · have h := it_f c17 h
          by_cases c18 : (ldA σ 0 a1) = 5
          · have h := it_t c18 h
            refine r_tableIn (t := 48) dX11_canBeNought_6 (by rw [c18]; decide) (by rw [c18]; decide) (by rw [c18]; rfl) (by decide) ?_
            refine ric_1 dX11_canBeNought_48 rfl ?_
            exact r_zretR (Or.inr rfl) dX11_canBeNought_49 h
          · have h := it_f c18 h
            by_cases c19 : (ldA σ 0 a1) = 6
            · have h := it_t c19 h
              refine r_tableIn (t := 48) dX11_canBeNought_6 (by rw [c19]; decide) (by rw [c19]; decide) (by rw [c19]; rfl) (by decide) ?_
              refine ric_1 dX11_canBeNought_48 rfl ?_
              exact r_zretR (Or.inr rfl) dX11_canBeNought_49 h
            · have h := it_f c19 h
              by_cases c20 : (ldA σ 0 a1) = 7
              · have h := it_t c20 h
                refine r_tableIn (t := 118) dX11_canBeNought_6 (by rw [c20]; decide) (by rw [c20]; decide) (by rw [c20]; rfl) (by decide) ?_
                refine r_aload_n 0 dX11_canBeNought_118 rfl rfl rfl ?_
                refine gf_X11_16_0 dX11_canBeNought_119 rfl ?_
                refine r_iload_n 1 dX11_canBeNought_122 rfl rfl rfl ?_
                obtain ⟨hi21, h⟩ := gi h
                refine alM_3 hi21 dX11_canBeNought_123 rfl ?_
                refine r_bipush (v := 32) dX11_canBeNought_124 (by decide) rfl ?_
                refine r_idiv (by decide) dX11_canBeNought_126 rfl ?_
                refine r_if_ne (t := 148) dX11_canBeNought_127 (by decide) rfl (fun c23 => ?_) (fun c23 => ?_)
                · have h := it_t c23 h
                  refine ric_0 dX11_canBeNought_148 rfl ?_
                  exact r_zretR (Or.inl rfl) dX11_canBeNought_149 h
                · have h := it_n c23 h
                  refine r_aload_n 0 dX11_canBeNought_130 rfl rfl rfl ?_
                  refine gf_X11_28_0 dX11_canBeNought_131 rfl ?_
                  refine r_aload_n 0 dX11_canBeNought_134 rfl rfl rfl ?_
                  refine gf_X11_13_0 dX11_canBeNought_135 rfl ?_
                  refine r_iload_n 1 dX11_canBeNought_138 rfl rfl rfl ?_
                  obtain ⟨hi24, h⟩ := gi h
                  refine alM_2 hi24 dX11_canBeNought_139 rfl ?_
                  obtain ⟨hi25, h⟩ := gi h
                  refine alM_7 hi25 dX11_canBeNought_140 rfl ?_
                  refine r_if_eq (t := 148) dX11_canBeNought_141 (by decide) rfl (fun c26 => ?_) (fun c26 => ?_)
                  · have h := it_t c26 h
                    refine ric_0 dX11_canBeNought_148 rfl ?_
                    exact r_zretR (Or.inl rfl) dX11_canBeNought_149 h
                  · have h := it_f c26 h
                    refine ric_1 dX11_canBeNought_144 rfl ?_
                    refine r_goto (t := 149) dX11_canBeNought_145 (by decide) ?_
                    exact r_zretR (Or.inr rfl) dX11_canBeNought_149 h
              · have h := it_f c20 h
                refine r_tableOut (t := 150) dX11_canBeNought_6 (by have z0 := neL c2 (z := 1) rfl; have z1 := neL c3 (z := 2) rfl; have z2 := neL c10 (z := 3) rfl; have z3 := neL c17 (z := 4) rfl; have z4 := neL c18 (z := 5) rfl; have z5 := neL c19 (z := 6) rfl; have z6 := neL c20 (z := 7) rfl; omega) (by decide) ?_
                refine ric_0 dX11_canBeNought_150 rfl ?_
                exact r_zretR (Or.inl rfl) dX11_canBeNought_151 h
def P_X11_findNought_j65 (K23 : Int32 → SS → Option SS) (K31 : Int32 → Int32 → SS → Option SS) (x1 : Int32) (x2 : Int32) (σ : SS) : Option SS :=
  K31 x1 (x2 + 1) σ
set_option maxHeartbeats 4000000 in
set_option maxRecDepth 100000 in
theorem T_X11_findNought_j65 {X : XE} {σf : SS} {K23 : Int32 → SS → Option SS} {K31 : Int32 → Int32 → SS → Option SS} (hK23 : ∀ (x1 : Int32) (σ : SS), K23 x1 σ = some σf → V (gM X) 1 RX11 cX11_findNought 3 none none σf 23 [(0, .ref (xq X 0)), (1, .int x1)] [] σ) (hK31 : ∀ (x1 : Int32) (x2 : Int32) (σ : SS), K31 x1 x2 σ = some σf → V (gM X) 1 RX11 cX11_findNought 3 none none σf 31 [(0, .ref (xq X 0)), (1, .int x1), (2, .int x2)] [] σ) : ∀ (x1 : Int32) (x2 : Int32) (σ : SS), P_X11_findNought_j65 K23 K31 x1 x2 σ = some σf → V (gM X) 1 RX11 cX11_findNought 3 none none σf 65 [(0, .ref (xq X 0)), (1, .int x1), (2, .int x2)] [] σ := by
  intro x1 x2 σ h
  unfold P_X11_findNought_j65 at h
  refine r_iinc (v := (x2 + 1)) (lv' := [(2, .int (x2 + 1)), (0, .ref (xq X 0)), (1, .int x1)]) 2 dX11_findNought_65 rfl rfl (by decide) rfl rfl ?_
  refine r_goto (t := 31) dX11_findNought_68 (by decide) ?_
  refine r_sub [1, 2, 0] rfl ?_
  exact hK31 x1 (x2 + 1) σ h
def P_X11_findNought_j31 (K23 : Int32 → SS → Option SS) : Nat → Int32 → Int32 → SS → Option SS
  | 0, _, _, _ => none
  | n + 1, x1, x2, σ =>
    if (sI σ 0) ≤ x2 then
      K23 x1 σ
    else
      gI x2 16 <|
      if ¬ (ldA σ 6 x2) = 0 then
        P_X11_findNought_j65 K23 (P_X11_findNought_j31 K23 n) x1 x2 σ
      else
        (P_X11_canBeNought x2 σ).bind fun v5 =>
        if v5 = 0 then
          P_X11_findNought_j65 K23 (P_X11_findNought_j31 K23 n) x1 x2 σ
        else
          gI x2 16 <|
          P_X11_findNought_j65 K23 (P_X11_findNought_j31 K23 n) 1 x2 (stZ σ 6 x2 1)
set_option maxHeartbeats 4000000 in
set_option maxRecDepth 100000 in
theorem T_X11_findNought_j31 {X : XE} {σf : SS} {K23 : Int32 → SS → Option SS} (hK23 : ∀ (x1 : Int32) (σ : SS), K23 x1 σ = some σf → V (gM X) 1 RX11 cX11_findNought 3 none none σf 23 [(0, .ref (xq X 0)), (1, .int x1)] [] σ) : ∀ (fu : Nat) (x1 : Int32) (x2 : Int32) (σ : SS), P_X11_findNought_j31 K23 fu x1 x2 σ = some σf → V (gM X) 1 RX11 cX11_findNought 3 none none σf 31 [(0, .ref (xq X 0)), (1, .int x1), (2, .int x2)] [] σ := by
  intro fu
  induction fu with
  | zero => intro x1 x2 σ h; exact no0 h
  | succ n ih =>
    intro x1 x2 σ h
    unfold P_X11_findNought_j31 at h
    refine r_iload_n 2 dX11_findNought_31 rfl rfl rfl ?_
    refine r_aload_n 0 dX11_findNought_32 rfl rfl rfl ?_
    refine gf_X11_95_0 dX11_findNought_33 rfl ?_
    refine r_icmp_ge (t := 71) dX11_findNought_36 (by decide) rfl (fun c1 => ?_) (fun c1 => ?_)
    · have h := it_t c1 h
      refine r_goto (t := 23) dX11_findNought_71 (by decide) ?_
      refine r_sub [0, 1] rfl ?_
      exact hK23 x1 σ h
    · have h := it_f c1 h
      refine r_aload_n 0 dX11_findNought_39 rfl rfl rfl ?_
      refine gf_X11_28_0 dX11_findNought_40 rfl ?_
      refine r_iload_n 2 dX11_findNought_43 rfl rfl rfl ?_
      obtain ⟨hi2, h⟩ := gi h
      refine alM_7 hi2 dX11_findNought_44 rfl ?_
      refine r_if_ne (t := 65) dX11_findNought_45 (by decide) rfl (fun c3 => ?_) (fun c3 => ?_)
      · have h := it_t c3 h
        exact T_X11_findNought_j65 hK23 ih x1 x2 σ h
      · have h := it_n c3 h
        refine r_aload_n 0 dX11_findNought_48 rfl rfl rfl ?_
        refine r_iload_n 2 dX11_findNought_49 rfl rfl rfl ?_
        obtain ⟨v5, e4, h⟩ := bd h
        refine r_callV (rest := []) (T_X11_canBeNought e4) (by decide) mf_X11_canBeNought rfl tw_1113 tw_46 tw_1111 cM_0 rfl rfl rfl (Nat.le_of_ble_eq_true rfl) dX11_findNought_50 rfl ?_
        refine r_call0 ?_
        refine r_if_eq (t := 65) dX11_findNought_53 (by decide) rfl (fun c6 => ?_) (fun c6 => ?_)
        · have h := it_t c6 h
          exact T_X11_findNought_j65 hK23 ih x1 x2 σ h
        · have h := it_f c6 h
          refine r_aload_n 0 dX11_findNought_56 rfl rfl rfl ?_
          refine gf_X11_28_0 dX11_findNought_57 rfl ?_
          refine r_iload_n 2 dX11_findNought_60 rfl rfl rfl ?_
          refine ric_1 dX11_findNought_61 rfl ?_
          obtain ⟨hi7, h⟩ := gi h
          refine asM_7 hi7 dX11_findNought_62 rfl ?_
          refine ric_1 dX11_findNought_63 rfl ?_
          refine r_istore_n (lv' := [(1, .int 1), (0, .ref (xq X 0)), (2, .int x2)]) dX11_findNought_64 rfl (by decide) rfl rfl ?_
          refine r_sub [1, 0, 2] rfl ?_
          exact T_X11_findNought_j65 hK23 ih 1 x2 (stZ σ 6 x2 1) h
def P_X11_findNought_j23 : Nat → Int32 → SS → Option SS
  | 0, _, _ => none
  | n + 1, x1, σ =>
    if x1 = 0 then
      some σ
    else
      P_X11_findNought_j31 (P_X11_findNought_j23 n) FU 0 0 σ
set_option maxHeartbeats 4000000 in
set_option maxRecDepth 100000 in
theorem T_X11_findNought_j23 {X : XE} {σf : SS} : ∀ (fu : Nat) (x1 : Int32) (σ : SS), P_X11_findNought_j23 fu x1 σ = some σf → V (gM X) 1 RX11 cX11_findNought 3 none none σf 23 [(0, .ref (xq X 0)), (1, .int x1)] [] σ := by
  intro fu
  induction fu with
  | zero => intro x1 σ h; exact no0 h
  | succ n ih =>
    intro x1 σ h
    unfold P_X11_findNought_j23 at h
    refine r_iload_n 1 dX11_findNought_23 rfl rfl rfl ?_
    refine r_if_eq (t := 74) dX11_findNought_24 (by decide) rfl (fun c1 => ?_) (fun c1 => ?_)
    · have h := it_t c1 h
      exact r_vretS dX11_findNought_74 h
    · have h := it_f c1 h
      refine ric_0 dX11_findNought_27 rfl ?_
      refine r_istore_n (lv' := [(1, .int 0), (0, .ref (xq X 0))]) dX11_findNought_28 rfl (by decide) rfl rfl ?_
      refine ric_0 dX11_findNought_29 rfl ?_
      refine r_istore_n (lv' := [(2, .int 0), (1, .int 0), (0, .ref (xq X 0))]) dX11_findNought_30 rfl (by decide) rfl rfl ?_
      refine r_sub [2, 1, 0] rfl ?_
      exact T_X11_findNought_j31 ih FU 0 0 σ h
def P_X11_findNought_j2 : Nat → Int32 → SS → Option SS
  | 0, _, _ => none
  | n + 1, x1, σ =>
    if 16 ≤ x1 then
      P_X11_findNought_j23 FU 1 σ
    else
      gI x1 16 <|
      (P_X11_findNought_j2 n) (x1 + 1) (stZ σ 6 x1 0)
set_option maxHeartbeats 4000000 in
set_option maxRecDepth 100000 in
theorem T_X11_findNought_j2 {X : XE} {σf : SS} : ∀ (fu : Nat) (x1 : Int32) (σ : SS), P_X11_findNought_j2 fu x1 σ = some σf → V (gM X) 1 RX11 cX11_findNought 3 none none σf 2 [(0, .ref (xq X 0)), (1, .int x1)] [] σ := by
  intro fu
  induction fu with
  | zero => intro x1 σ h; exact no0 h
  | succ n ih =>
    intro x1 σ h
    unfold P_X11_findNought_j2 at h
    refine r_iload_n 1 dX11_findNought_2 rfl rfl rfl ?_
    refine r_bipush (v := 16) dX11_findNought_3 (by decide) rfl ?_
    refine r_icmp_ge (t := 21) dX11_findNought_5 (by decide) rfl (fun c1 => ?_) (fun c1 => ?_)
    · have h := it_t c1 h
      refine ric_1 dX11_findNought_21 rfl ?_
      refine r_istore_n (lv' := [(1, .int 1), (0, .ref (xq X 0))]) dX11_findNought_22 rfl (by decide) rfl rfl ?_
      refine r_sub [1, 0] rfl ?_
      exact T_X11_findNought_j23 FU 1 σ h
    · have h := it_f c1 h
      refine r_aload_n 0 dX11_findNought_8 rfl rfl rfl ?_
      refine gf_X11_28_0 dX11_findNought_9 rfl ?_
      refine r_iload_n 1 dX11_findNought_12 rfl rfl rfl ?_
      refine ric_0 dX11_findNought_13 rfl ?_
      obtain ⟨hi2, h⟩ := gi h
      refine asM_7 hi2 dX11_findNought_14 rfl ?_
      refine r_iinc (v := (x1 + 1)) (lv' := [(1, .int (x1 + 1)), (0, .ref (xq X 0))]) 1 dX11_findNought_15 rfl rfl (by decide) rfl rfl ?_
      refine r_goto (t := 2) dX11_findNought_18 (by decide) ?_
      refine r_sub [1, 0] rfl ?_
      exact ih (x1 + 1) (stZ σ 6 x1 0) h
def P_X11_findNought (σ : SS) : Option SS :=
  P_X11_findNought_j2 FU 0 σ
set_option maxHeartbeats 4000000 in
set_option maxRecDepth 100000 in
theorem T_X11_findNought {X : XE} {σf : SS} {σ : SS} (h : P_X11_findNought σ = some σf) : Mt (gM X) 1 yX11_findNought cX11_findNought 3 none [.ref (xq X 0)] σ none σf := by
  refine Mt.of (own := RX11) (lv := [(0, .ref (xq X 0))]) pn_X11 rfl (Nat.le_of_ble_eq_true rfl) rfl ?_
  unfold P_X11_findNought at h
  refine ric_0 dX11_findNought_0 rfl ?_
  refine r_istore_n (lv' := [(1, .int 0), (0, .ref (xq X 0))]) dX11_findNought_1 rfl (by decide) rfl rfl ?_
  refine r_sub [1, 0] rfl ?_
  exact T_X11_findNought_j2 FU 0 σ h
def P_X11_needsA (a1 : Int32) (σ : SS) : Option Int32 :=
  (P_X11_hasA a1 σ).bind fun v2 =>
  if v2 = 0 then
    some 0
  else
    gI a1 16 <|
    if ¬ (ldA σ 0 a1) = 2 then
      some 1
    else
      gI a1 16 <|
      gI (ldA σ 2 a1) 16 <|
      if (ldA σ 6 (ldA σ 2 a1)) = 0 then
        some 0
      else
        some 1
set_option maxHeartbeats 4000000 in
set_option maxRecDepth 100000 in
theorem T_X11_needsA {X : XE} {σ : SS} {r : Int32} {a1 : Int32} (h : P_X11_needsA a1 σ = some r) : Mt (gM X) 2 yX11_needsA cX11_needsA 2 (some .boolean) [.ref (xq X 0), .int a1] σ (some (.int r)) σ := by
  refine Mt.of (own := RX11) (lv := [(0, .ref (xq X 0)), (1, .int a1)]) pn_X11 rfl (Nat.le_of_ble_eq_true rfl) rfl ?_
  unfold P_X11_needsA at h
  refine r_aload_n 0 dX11_needsA_0 rfl rfl rfl ?_
  refine r_iload_n 1 dX11_needsA_1 rfl rfl rfl ?_
  obtain ⟨v2, e1, h⟩ := bd h
  refine r_callV (rest := []) (T_X11_hasA e1) (by decide) mf_X11_hasA rfl tw_1098 tw_43 tw_1096 cM_0 rfl rfl rfl (Nat.le_of_ble_eq_true rfl) dX11_needsA_2 rfl ?_
  refine r_call0 ?_
  refine r_if_eq (t := 36) dX11_needsA_5 (by decide) rfl (fun c3 => ?_) (fun c3 => ?_)
  · have h := it_t c3 h
    refine ric_0 dX11_needsA_36 rfl ?_
    exact r_zretR (Or.inl rfl) dX11_needsA_37 h
  · have h := it_f c3 h
    refine r_aload_n 0 dX11_needsA_8 rfl rfl rfl ?_
    refine gf_X11_7_0 dX11_needsA_9 rfl ?_
    refine r_iload_n 1 dX11_needsA_12 rfl rfl rfl ?_
    obtain ⟨hi4, h⟩ := gi h
    refine alM_1 hi4 dX11_needsA_13 rfl ?_
    refine ric_2 dX11_needsA_14 rfl ?_
    refine r_icmp_ne (t := 32) dX11_needsA_15 (by decide) rfl (fun c5 => ?_) (fun c5 => ?_)
    · have h := it_t c5 h
      refine ric_1 dX11_needsA_32 rfl ?_
      refine r_goto (t := 37) dX11_needsA_33 (by decide) ?_
      exact r_zretR (Or.inr rfl) dX11_needsA_37 h
    · have h := it_n c5 h
      refine r_aload_n 0 dX11_needsA_18 rfl rfl rfl ?_
      refine gf_X11_28_0 dX11_needsA_19 rfl ?_
      refine r_aload_n 0 dX11_needsA_22 rfl rfl rfl ?_
      refine gf_X11_16_0 dX11_needsA_23 rfl ?_
      refine r_iload_n 1 dX11_needsA_26 rfl rfl rfl ?_
      obtain ⟨hi6, h⟩ := gi h
      refine alM_3 hi6 dX11_needsA_27 rfl ?_
      obtain ⟨hi7, h⟩ := gi h
      refine alM_7 hi7 dX11_needsA_28 rfl ?_
      refine r_if_eq (t := 36) dX11_needsA_29 (by decide) rfl (fun c8 => ?_) (fun c8 => ?_)
      · have h := it_t c8 h
        refine ric_0 dX11_needsA_36 rfl ?_
        exact r_zretR (Or.inl rfl) dX11_needsA_37 h
      · have h := it_f c8 h
        refine ric_1 dX11_needsA_32 rfl ?_
        refine r_goto (t := 37) dX11_needsA_33 (by decide) ?_
        exact r_zretR (Or.inr rfl) dX11_needsA_37 h
def P_X11_needsB (a1 : Int32) (σ : SS) : Option Int32 :=
  gI a1 16 <|
  if (ldA σ 0 a1) = 3 then
    some 1
  else
    gI a1 16 <|
    if ¬ (ldA σ 0 a1) = 2 then
      some 0
    else
      gI a1 16 <|
      gI (ldA σ 1 a1) 16 <|
      if (ldA σ 6 (ldA σ 1 a1)) = 0 then
        some 0
      else
        some 1
set_option maxHeartbeats 4000000 in
set_option maxRecDepth 100000 in
theorem T_X11_needsB {X : XE} {σ : SS} {r : Int32} {a1 : Int32} (h : P_X11_needsB a1 σ = some r) : Mt (gM X) 0 yX11_needsB cX11_needsB 2 (some .boolean) [.ref (xq X 0), .int a1] σ (some (.int r)) σ := by
  refine Mt.of (own := RX11) (lv := [(0, .ref (xq X 0)), (1, .int a1)]) pn_X11 rfl (Nat.le_of_ble_eq_true rfl) rfl ?_
  unfold P_X11_needsB at h
  refine r_aload_n 0 dX11_needsB_0 rfl rfl rfl ?_
  refine gf_X11_7_0 dX11_needsB_1 rfl ?_
  refine r_iload_n 1 dX11_needsB_4 rfl rfl rfl ?_
  obtain ⟨hi1, h⟩ := gi h
  refine alM_1 hi1 dX11_needsB_5 rfl ?_
  refine ric_3 dX11_needsB_6 rfl ?_
  refine r_icmp_eq (t := 34) dX11_needsB_7 (by decide) rfl (fun c2 => ?_) (fun c2 => ?_)
  · have h := it_t c2 h
    refine ric_1 dX11_needsB_34 rfl ?_
    refine r_goto (t := 39) dX11_needsB_35 (by decide) ?_
    exact r_zretR (Or.inr rfl) dX11_needsB_39 h
  · have h := it_f c2 h
    refine r_aload_n 0 dX11_needsB_10 rfl rfl rfl ?_
    refine gf_X11_7_0 dX11_needsB_11 rfl ?_
    refine r_iload_n 1 dX11_needsB_14 rfl rfl rfl ?_
    obtain ⟨hi3, h⟩ := gi h
    refine alM_1 hi3 dX11_needsB_15 rfl ?_
    refine ric_2 dX11_needsB_16 rfl ?_
    refine r_icmp_ne (t := 38) dX11_needsB_17 (by decide) rfl (fun c4 => ?_) (fun c4 => ?_)
    · have h := it_t c4 h
      refine ric_0 dX11_needsB_38 rfl ?_
      exact r_zretR (Or.inl rfl) dX11_needsB_39 h
    · have h := it_n c4 h
      refine r_aload_n 0 dX11_needsB_20 rfl rfl rfl ?_
      refine gf_X11_28_0 dX11_needsB_21 rfl ?_
      refine r_aload_n 0 dX11_needsB_24 rfl rfl rfl ?_
      refine gf_X11_13_0 dX11_needsB_25 rfl ?_
      refine r_iload_n 1 dX11_needsB_28 rfl rfl rfl ?_
      obtain ⟨hi5, h⟩ := gi h
      refine alM_2 hi5 dX11_needsB_29 rfl ?_
      obtain ⟨hi6, h⟩ := gi h
      refine alM_7 hi6 dX11_needsB_30 rfl ?_
      refine r_if_eq (t := 38) dX11_needsB_31 (by decide) rfl (fun c7 => ?_) (fun c7 => ?_)
      · have h := it_t c7 h
        refine ric_0 dX11_needsB_38 rfl ?_
        exact r_zretR (Or.inl rfl) dX11_needsB_39 h
      · have h := it_f c7 h
        refine ric_1 dX11_needsB_34 rfl ?_
        refine r_goto (t := 39) dX11_needsB_35 (by decide) ?_
        exact r_zretR (Or.inr rfl) dX11_needsB_39 h
def P_X11_findNeeds_j71 (K2 : Int32 → SS → Option SS) (K12 : Int32 → Int32 → SS → Option SS) (x1 : Int32) (x2 : Int32) (y0 : Int32) (y1 : Int32) (σ : SS) : Option SS :=
  gI y1 256 <|
  K12 x1 (x2 + 1) (stZ σ 7 y1 y0)
set_option maxHeartbeats 4000000 in
set_option maxRecDepth 100000 in
theorem T_X11_findNeeds_j71 {X : XE} {σf : SS} {K2 : Int32 → SS → Option SS} {K12 : Int32 → Int32 → SS → Option SS} (hK2 : ∀ (x1 : Int32) (σ : SS), K2 x1 σ = some σf → V (gM X) 3 RX11 cX11_findNeeds 4 none none σf 2 [(0, .ref (xq X 0)), (1, .int x1)] [] σ) (hK12 : ∀ (x1 : Int32) (x2 : Int32) (σ : SS), K12 x1 x2 σ = some σf → V (gM X) 3 RX11 cX11_findNeeds 4 none none σf 12 [(0, .ref (xq X 0)), (1, .int x1), (2, .int x2)] [] σ) : ∀ (x1 : Int32) (x2 : Int32) (y0 : Int32) (y1 : Int32) (σ : SS), P_X11_findNeeds_j71 K2 K12 x1 x2 y0 y1 σ = some σf → V (gM X) 3 RX11 cX11_findNeeds 4 none none σf 71 [(0, .ref (xq X 0)), (1, .int x1), (2, .int x2)] [.int y0, .int y1, .ref (xq X 8)] σ := by
  intro x1 x2 y0 y1 σ h
  unfold P_X11_findNeeds_j71 at h
  obtain ⟨hi1, h⟩ := gi h
  refine asM_8 hi1 dX11_findNeeds_71 rfl ?_
  refine r_iinc (v := (x2 + 1)) (lv' := [(2, .int (x2 + 1)), (0, .ref (xq X 0)), (1, .int x1)]) 2 dX11_findNeeds_72 rfl rfl (by decide) rfl rfl ?_
  refine r_goto (t := 12) dX11_findNeeds_75 (by decide) ?_
  refine r_sub [1, 2, 0] rfl ?_
  exact hK12 x1 (x2 + 1) (stZ σ 7 y1 y0) h
def P_X11_findNeeds_j66 (K2 : Int32 → SS → Option SS) (K12 : Int32 → Int32 → SS → Option SS) (x1 : Int32) (x2 : Int32) (y0 : Int32) (σ : SS) : Option SS :=
  P_X11_findNeeds_j71 K2 K12 x1 x2 1 y0 σ
set_option maxHeartbeats 4000000 in
set_option maxRecDepth 100000 in
theorem T_X11_findNeeds_j66 {X : XE} {σf : SS} {K2 : Int32 → SS → Option SS} {K12 : Int32 → Int32 → SS → Option SS} (hK2 : ∀ (x1 : Int32) (σ : SS), K2 x1 σ = some σf → V (gM X) 3 RX11 cX11_findNeeds 4 none none σf 2 [(0, .ref (xq X 0)), (1, .int x1)] [] σ) (hK12 : ∀ (x1 : Int32) (x2 : Int32) (σ : SS), K12 x1 x2 σ = some σf → V (gM X) 3 RX11 cX11_findNeeds 4 none none σf 12 [(0, .ref (xq X 0)), (1, .int x1), (2, .int x2)] [] σ) : ∀ (x1 : Int32) (x2 : Int32) (y0 : Int32) (σ : SS), P_X11_findNeeds_j66 K2 K12 x1 x2 y0 σ = some σf → V (gM X) 3 RX11 cX11_findNeeds 4 none none σf 66 [(0, .ref (xq X 0)), (1, .int x1), (2, .int x2)] [.int y0, .ref (xq X 8)] σ := by
  intro x1 x2 y0 σ h
  unfold P_X11_findNeeds_j66 at h
  refine ric_1 dX11_findNeeds_66 rfl ?_
  refine r_goto (t := 71) dX11_findNeeds_67 (by decide) ?_
  exact T_X11_findNeeds_j71 hK2 hK12 x1 x2 1 y0 σ h
def P_X11_findNeeds_j70 (K2 : Int32 → SS → Option SS) (K12 : Int32 → Int32 → SS → Option SS) (x1 : Int32) (x2 : Int32) (y0 : Int32) (σ : SS) : Option SS :=
  P_X11_findNeeds_j71 K2 K12 x1 x2 0 y0 σ
set_option maxHeartbeats 4000000 in
set_option maxRecDepth 100000 in
theorem T_X11_findNeeds_j70 {X : XE} {σf : SS} {K2 : Int32 → SS → Option SS} {K12 : Int32 → Int32 → SS → Option SS} (hK2 : ∀ (x1 : Int32) (σ : SS), K2 x1 σ = some σf → V (gM X) 3 RX11 cX11_findNeeds 4 none none σf 2 [(0, .ref (xq X 0)), (1, .int x1)] [] σ) (hK12 : ∀ (x1 : Int32) (x2 : Int32) (σ : SS), K12 x1 x2 σ = some σf → V (gM X) 3 RX11 cX11_findNeeds 4 none none σf 12 [(0, .ref (xq X 0)), (1, .int x1), (2, .int x2)] [] σ) : ∀ (x1 : Int32) (x2 : Int32) (y0 : Int32) (σ : SS), P_X11_findNeeds_j70 K2 K12 x1 x2 y0 σ = some σf → V (gM X) 3 RX11 cX11_findNeeds 4 none none σf 70 [(0, .ref (xq X 0)), (1, .int x1), (2, .int x2)] [.int y0, .ref (xq X 8)] σ := by
  intro x1 x2 y0 σ h
  unfold P_X11_findNeeds_j70 at h
  refine ric_0 dX11_findNeeds_70 rfl ?_
  exact T_X11_findNeeds_j71 hK2 hK12 x1 x2 0 y0 σ h
def P_X11_findNeeds_j48 (K2 : Int32 → SS → Option SS) (K12 : Int32 → Int32 → SS → Option SS) (x1 : Int32) (x2 : Int32) (y0 : Int32) (σ : SS) : Option SS :=
  (P_X11_needsB x1 σ).bind fun v2 =>
  if v2 = 0 then
    P_X11_findNeeds_j70 K2 K12 x1 x2 y0 σ
  else
    gI x1 16 <|
    if ¬ (ldA σ 2 x1) = x2 then
      P_X11_findNeeds_j70 K2 K12 x1 x2 y0 σ
    else
      P_X11_findNeeds_j66 K2 K12 x1 x2 y0 σ
set_option maxHeartbeats 4000000 in
set_option maxRecDepth 100000 in
theorem T_X11_findNeeds_j48 {X : XE} {σf : SS} {K2 : Int32 → SS → Option SS} {K12 : Int32 → Int32 → SS → Option SS} (hK2 : ∀ (x1 : Int32) (σ : SS), K2 x1 σ = some σf → V (gM X) 3 RX11 cX11_findNeeds 4 none none σf 2 [(0, .ref (xq X 0)), (1, .int x1)] [] σ) (hK12 : ∀ (x1 : Int32) (x2 : Int32) (σ : SS), K12 x1 x2 σ = some σf → V (gM X) 3 RX11 cX11_findNeeds 4 none none σf 12 [(0, .ref (xq X 0)), (1, .int x1), (2, .int x2)] [] σ) : ∀ (x1 : Int32) (x2 : Int32) (y0 : Int32) (σ : SS), P_X11_findNeeds_j48 K2 K12 x1 x2 y0 σ = some σf → V (gM X) 3 RX11 cX11_findNeeds 4 none none σf 48 [(0, .ref (xq X 0)), (1, .int x1), (2, .int x2)] [.int y0, .ref (xq X 8)] σ := by
  intro x1 x2 y0 σ h
  unfold P_X11_findNeeds_j48 at h
  refine r_aload_n 0 dX11_findNeeds_48 rfl rfl rfl ?_
  refine r_iload_n 1 dX11_findNeeds_49 rfl rfl rfl ?_
  obtain ⟨v2, e1, h⟩ := bd h
  refine r_callV (rest := [.int y0, .ref (xq X 8)]) (T_X11_needsB e1) (by decide) mf_X11_needsB rfl tw_1125 tw_49 tw_1123 cM_0 rfl rfl rfl (Nat.le_of_ble_eq_true rfl) dX11_findNeeds_50 rfl ?_
  refine r_call0 ?_
  refine r_if_eq (t := 70) dX11_findNeeds_53 (by decide) rfl (fun c3 => ?_) (fun c3 => ?_)
  · have h := it_t c3 h
    exact T_X11_findNeeds_j70 hK2 hK12 x1 x2 y0 σ h
  · have h := it_f c3 h
    refine r_aload_n 0 dX11_findNeeds_56 rfl rfl rfl ?_
    refine gf_X11_16_0 dX11_findNeeds_57 rfl ?_
    refine r_iload_n 1 dX11_findNeeds_60 rfl rfl rfl ?_
    obtain ⟨hi4, h⟩ := gi h
    refine alM_3 hi4 dX11_findNeeds_61 rfl ?_
    refine r_iload_n 2 dX11_findNeeds_62 rfl rfl rfl ?_
    refine r_icmp_ne (t := 70) dX11_findNeeds_63 (by decide) rfl (fun c5 => ?_) (fun c5 => ?_)
    · have h := it_t c5 h
      exact T_X11_findNeeds_j70 hK2 hK12 x1 x2 y0 σ h
    · have h := it_n c5 h
      exact T_X11_findNeeds_j66 hK2 hK12 x1 x2 y0 σ h
def P_X11_findNeeds_j12 (K2 : Int32 → SS → Option SS) : Nat → Int32 → Int32 → SS → Option SS
  | 0, _, _, _ => none
  | n + 1, x1, x2, σ =>
    if (sI σ 0) ≤ x2 then
      K2 (x1 + 1) σ
    else
      (P_X11_needsA x1 σ).bind fun v3 =>
      if v3 = 0 then
        P_X11_findNeeds_j48 K2 (P_X11_findNeeds_j12 K2 n) x1 x2 ((16 * x1) + x2) σ
      else
        gI x1 16 <|
        if (ldA σ 1 x1) = x2 then
          P_X11_findNeeds_j66 K2 (P_X11_findNeeds_j12 K2 n) x1 x2 ((16 * x1) + x2) σ
        else
          P_X11_findNeeds_j48 K2 (P_X11_findNeeds_j12 K2 n) x1 x2 ((16 * x1) + x2) σ
set_option maxHeartbeats 4000000 in
set_option maxRecDepth 100000 in
theorem T_X11_findNeeds_j12 {X : XE} {σf : SS} {K2 : Int32 → SS → Option SS} (hK2 : ∀ (x1 : Int32) (σ : SS), K2 x1 σ = some σf → V (gM X) 3 RX11 cX11_findNeeds 4 none none σf 2 [(0, .ref (xq X 0)), (1, .int x1)] [] σ) : ∀ (fu : Nat) (x1 : Int32) (x2 : Int32) (σ : SS), P_X11_findNeeds_j12 K2 fu x1 x2 σ = some σf → V (gM X) 3 RX11 cX11_findNeeds 4 none none σf 12 [(0, .ref (xq X 0)), (1, .int x1), (2, .int x2)] [] σ := by
  intro fu
  induction fu with
  | zero => intro x1 x2 σ h; exact no0 h
  | succ n ih =>
    intro x1 x2 σ h
    unfold P_X11_findNeeds_j12 at h
    refine r_iload_n 2 dX11_findNeeds_12 rfl rfl rfl ?_
    refine r_aload_n 0 dX11_findNeeds_13 rfl rfl rfl ?_
    refine gf_X11_95_0 dX11_findNeeds_14 rfl ?_
    refine r_icmp_ge (t := 78) dX11_findNeeds_17 (by decide) rfl (fun c1 => ?_) (fun c1 => ?_)
    · have h := it_t c1 h
      refine r_iinc (v := (x1 + 1)) (lv' := [(1, .int (x1 + 1)), (0, .ref (xq X 0)), (2, .int x2)]) 1 dX11_findNeeds_78 rfl rfl (by decide) rfl rfl ?_
      refine r_goto (t := 2) dX11_findNeeds_81 (by decide) ?_
      refine r_sub [1, 0] rfl ?_
      exact hK2 (x1 + 1) σ h
    · have h := it_f c1 h
      refine r_aload_n 0 dX11_findNeeds_20 rfl rfl rfl ?_
      refine gf_X11_32_0 dX11_findNeeds_21 rfl ?_
      refine r_bipush (v := 16) dX11_findNeeds_24 (by decide) rfl ?_
      refine r_iload_n 1 dX11_findNeeds_26 rfl rfl rfl ?_
      refine r_imul dX11_findNeeds_27 rfl ?_
      refine r_iload_n 2 dX11_findNeeds_28 rfl rfl rfl ?_
      refine r_iadd dX11_findNeeds_29 rfl ?_
      refine r_aload_n 0 dX11_findNeeds_30 rfl rfl rfl ?_
      refine r_iload_n 1 dX11_findNeeds_31 rfl rfl rfl ?_
      obtain ⟨v3, e2, h⟩ := bd h
      refine r_callV (rest := [.int ((16 * x1) + x2), .ref (xq X 8)]) (T_X11_needsA e2) (by decide) mf_X11_needsA rfl tw_1121 tw_48 tw_1119 cM_0 rfl rfl rfl (Nat.le_of_ble_eq_true rfl) dX11_findNeeds_32 rfl ?_
      refine r_call0 ?_
      refine r_if_eq (t := 48) dX11_findNeeds_35 (by decide) rfl (fun c4 => ?_) (fun c4 => ?_)
      · have h := it_t c4 h
        exact T_X11_findNeeds_j48 hK2 ih x1 x2 ((16 * x1) + x2) σ h
      · have h := it_f c4 h
        refine r_aload_n 0 dX11_findNeeds_38 rfl rfl rfl ?_
        refine gf_X11_13_0 dX11_findNeeds_39 rfl ?_
        refine r_iload_n 1 dX11_findNeeds_42 rfl rfl rfl ?_
        obtain ⟨hi5, h⟩ := gi h
        refine alM_2 hi5 dX11_findNeeds_43 rfl ?_
        refine r_iload_n 2 dX11_findNeeds_44 rfl rfl rfl ?_
        refine r_icmp_eq (t := 66) dX11_findNeeds_45 (by decide) rfl (fun c6 => ?_) (fun c6 => ?_)
        · have h := it_t c6 h
          exact T_X11_findNeeds_j66 hK2 ih x1 x2 ((16 * x1) + x2) σ h
        · have h := it_f c6 h
          exact T_X11_findNeeds_j48 hK2 ih x1 x2 ((16 * x1) + x2) σ h
def P_X11_findNeeds_j171 (K86 : Int32 → SS → Option SS) (K96 : Int32 → Int32 → SS → Option SS) (K106 : Int32 → Int32 → Int32 → SS → Option SS) (x1 : Int32) (x2 : Int32) (x3 : Int32) (y0 : Int32) (y1 : Int32) (σ : SS) : Option SS :=
  gI y1 256 <|
  K106 x1 x2 (x3 + 1) (stZ σ 7 y1 y0)
set_option maxHeartbeats 4000000 in
set_option maxRecDepth 100000 in
theorem T_X11_findNeeds_j171 {X : XE} {σf : SS} {K86 : Int32 → SS → Option SS} {K96 : Int32 → Int32 → SS → Option SS} {K106 : Int32 → Int32 → Int32 → SS → Option SS} (hK86 : ∀ (x1 : Int32) (σ : SS), K86 x1 σ = some σf → V (gM X) 3 RX11 cX11_findNeeds 4 none none σf 86 [(0, .ref (xq X 0)), (1, .int x1)] [] σ) (hK96 : ∀ (x1 : Int32) (x2 : Int32) (σ : SS), K96 x1 x2 σ = some σf → V (gM X) 3 RX11 cX11_findNeeds 4 none none σf 96 [(0, .ref (xq X 0)), (1, .int x1), (2, .int x2)] [] σ) (hK106 : ∀ (x1 : Int32) (x2 : Int32) (x3 : Int32) (σ : SS), K106 x1 x2 x3 σ = some σf → V (gM X) 3 RX11 cX11_findNeeds 4 none none σf 106 [(0, .ref (xq X 0)), (1, .int x1), (2, .int x2), (3, .int x3)] [] σ) : ∀ (x1 : Int32) (x2 : Int32) (x3 : Int32) (y0 : Int32) (y1 : Int32) (σ : SS), P_X11_findNeeds_j171 K86 K96 K106 x1 x2 x3 y0 y1 σ = some σf → V (gM X) 3 RX11 cX11_findNeeds 4 none none σf 171 [(0, .ref (xq X 0)), (1, .int x1), (2, .int x2), (3, .int x3)] [.int y0, .int y1, .ref (xq X 8)] σ := by
  intro x1 x2 x3 y0 y1 σ h
  unfold P_X11_findNeeds_j171 at h
  obtain ⟨hi1, h⟩ := gi h
  refine asM_8 hi1 dX11_findNeeds_171 rfl ?_
  refine r_iinc (v := (x3 + 1)) (lv' := [(3, .int (x3 + 1)), (0, .ref (xq X 0)), (1, .int x1), (2, .int x2)]) 3 dX11_findNeeds_172 rfl rfl (by decide) rfl rfl ?_
  refine r_goto (t := 106) dX11_findNeeds_175 (by decide) ?_
  refine r_sub [1, 2, 3, 0] rfl ?_
  exact hK106 x1 x2 (x3 + 1) (stZ σ 7 y1 y0) h
def P_X11_findNeeds_j166 (K86 : Int32 → SS → Option SS) (K96 : Int32 → Int32 → SS → Option SS) (K106 : Int32 → Int32 → Int32 → SS → Option SS) (x1 : Int32) (x2 : Int32) (x3 : Int32) (y0 : Int32) (σ : SS) : Option SS :=
  P_X11_findNeeds_j171 K86 K96 K106 x1 x2 x3 1 y0 σ
set_option maxHeartbeats 4000000 in
set_option maxRecDepth 100000 in
theorem T_X11_findNeeds_j166 {X : XE} {σf : SS} {K86 : Int32 → SS → Option SS} {K96 : Int32 → Int32 → SS → Option SS} {K106 : Int32 → Int32 → Int32 → SS → Option SS} (hK86 : ∀ (x1 : Int32) (σ : SS), K86 x1 σ = some σf → V (gM X) 3 RX11 cX11_findNeeds 4 none none σf 86 [(0, .ref (xq X 0)), (1, .int x1)] [] σ) (hK96 : ∀ (x1 : Int32) (x2 : Int32) (σ : SS), K96 x1 x2 σ = some σf → V (gM X) 3 RX11 cX11_findNeeds 4 none none σf 96 [(0, .ref (xq X 0)), (1, .int x1), (2, .int x2)] [] σ) (hK106 : ∀ (x1 : Int32) (x2 : Int32) (x3 : Int32) (σ : SS), K106 x1 x2 x3 σ = some σf → V (gM X) 3 RX11 cX11_findNeeds 4 none none σf 106 [(0, .ref (xq X 0)), (1, .int x1), (2, .int x2), (3, .int x3)] [] σ) : ∀ (x1 : Int32) (x2 : Int32) (x3 : Int32) (y0 : Int32) (σ : SS), P_X11_findNeeds_j166 K86 K96 K106 x1 x2 x3 y0 σ = some σf → V (gM X) 3 RX11 cX11_findNeeds 4 none none σf 166 [(0, .ref (xq X 0)), (1, .int x1), (2, .int x2), (3, .int x3)] [.int y0, .ref (xq X 8)] σ := by
  intro x1 x2 x3 y0 σ h
  unfold P_X11_findNeeds_j166 at h
  refine ric_1 dX11_findNeeds_166 rfl ?_
  refine r_goto (t := 171) dX11_findNeeds_167 (by decide) ?_
  exact T_X11_findNeeds_j171 hK86 hK96 hK106 x1 x2 x3 1 y0 σ h
def P_X11_findNeeds_j170 (K86 : Int32 → SS → Option SS) (K96 : Int32 → Int32 → SS → Option SS) (K106 : Int32 → Int32 → Int32 → SS → Option SS) (x1 : Int32) (x2 : Int32) (x3 : Int32) (y0 : Int32) (σ : SS) : Option SS :=
  P_X11_findNeeds_j171 K86 K96 K106 x1 x2 x3 0 y0 σ
set_option maxHeartbeats 4000000 in
set_option maxRecDepth 100000 in
theorem T_X11_findNeeds_j170 {X : XE} {σf : SS} {K86 : Int32 → SS → Option SS} {K96 : Int32 → Int32 → SS → Option SS} {K106 : Int32 → Int32 → Int32 → SS → Option SS} (hK86 : ∀ (x1 : Int32) (σ : SS), K86 x1 σ = some σf → V (gM X) 3 RX11 cX11_findNeeds 4 none none σf 86 [(0, .ref (xq X 0)), (1, .int x1)] [] σ) (hK96 : ∀ (x1 : Int32) (x2 : Int32) (σ : SS), K96 x1 x2 σ = some σf → V (gM X) 3 RX11 cX11_findNeeds 4 none none σf 96 [(0, .ref (xq X 0)), (1, .int x1), (2, .int x2)] [] σ) (hK106 : ∀ (x1 : Int32) (x2 : Int32) (x3 : Int32) (σ : SS), K106 x1 x2 x3 σ = some σf → V (gM X) 3 RX11 cX11_findNeeds 4 none none σf 106 [(0, .ref (xq X 0)), (1, .int x1), (2, .int x2), (3, .int x3)] [] σ) : ∀ (x1 : Int32) (x2 : Int32) (x3 : Int32) (y0 : Int32) (σ : SS), P_X11_findNeeds_j170 K86 K96 K106 x1 x2 x3 y0 σ = some σf → V (gM X) 3 RX11 cX11_findNeeds 4 none none σf 170 [(0, .ref (xq X 0)), (1, .int x1), (2, .int x2), (3, .int x3)] [.int y0, .ref (xq X 8)] σ := by
  intro x1 x2 x3 y0 σ h
  unfold P_X11_findNeeds_j170 at h
  refine ric_0 dX11_findNeeds_170 rfl ?_
  exact T_X11_findNeeds_j171 hK86 hK96 hK106 x1 x2 x3 0 y0 σ h
def P_X11_findNeeds_j106 (K86 : Int32 → SS → Option SS) (K96 : Int32 → Int32 → SS → Option SS) : Nat → Int32 → Int32 → Int32 → SS → Option SS
  | 0, _, _, _, _ => none
  | n + 1, x1, x2, x3, σ =>
    if (sI σ 0) ≤ x3 then
      K96 x1 (x2 + 1) σ
    else
      gI ((16 * x2) + x3) 256 <|
      if ¬ (ldA σ 7 ((16 * x2) + x3)) = 0 then
        P_X11_findNeeds_j166 K86 K96 (P_X11_findNeeds_j106 K86 K96 n) x1 x2 x3 ((16 * x2) + x3) σ
      else
        gI ((16 * x2) + x1) 256 <|
        if (ldA σ 7 ((16 * x2) + x1)) = 0 then
          P_X11_findNeeds_j170 K86 K96 (P_X11_findNeeds_j106 K86 K96 n) x1 x2 x3 ((16 * x2) + x3) σ
        else
          gI ((16 * x1) + x3) 256 <|
          if (ldA σ 7 ((16 * x1) + x3)) = 0 then
            P_X11_findNeeds_j170 K86 K96 (P_X11_findNeeds_j106 K86 K96 n) x1 x2 x3 ((16 * x2) + x3) σ
          else
            P_X11_findNeeds_j166 K86 K96 (P_X11_findNeeds_j106 K86 K96 n) x1 x2 x3 ((16 * x2) + x3) σ
set_option maxHeartbeats 4000000 in
set_option maxRecDepth 100000 in
theorem T_X11_findNeeds_j106 {X : XE} {σf : SS} {K86 : Int32 → SS → Option SS} {K96 : Int32 → Int32 → SS → Option SS} (hK86 : ∀ (x1 : Int32) (σ : SS), K86 x1 σ = some σf → V (gM X) 3 RX11 cX11_findNeeds 4 none none σf 86 [(0, .ref (xq X 0)), (1, .int x1)] [] σ) (hK96 : ∀ (x1 : Int32) (x2 : Int32) (σ : SS), K96 x1 x2 σ = some σf → V (gM X) 3 RX11 cX11_findNeeds 4 none none σf 96 [(0, .ref (xq X 0)), (1, .int x1), (2, .int x2)] [] σ) : ∀ (fu : Nat) (x1 : Int32) (x2 : Int32) (x3 : Int32) (σ : SS), P_X11_findNeeds_j106 K86 K96 fu x1 x2 x3 σ = some σf → V (gM X) 3 RX11 cX11_findNeeds 4 none none σf 106 [(0, .ref (xq X 0)), (1, .int x1), (2, .int x2), (3, .int x3)] [] σ := by
  intro fu
  induction fu with
  | zero => intro x1 x2 x3 σ h; exact no0 h
  | succ n ih =>
    intro x1 x2 x3 σ h
    unfold P_X11_findNeeds_j106 at h
    refine r_iload_n 3 dX11_findNeeds_106 rfl rfl rfl ?_
    refine r_aload_n 0 dX11_findNeeds_107 rfl rfl rfl ?_
    refine gf_X11_95_0 dX11_findNeeds_108 rfl ?_
    refine r_icmp_ge (t := 178) dX11_findNeeds_111 (by decide) rfl (fun c1 => ?_) (fun c1 => ?_)
    · have h := it_t c1 h
      refine r_iinc (v := (x2 + 1)) (lv' := [(2, .int (x2 + 1)), (0, .ref (xq X 0)), (1, .int x1), (3, .int x3)]) 2 dX11_findNeeds_178 rfl rfl (by decide) rfl rfl ?_
      refine r_goto (t := 96) dX11_findNeeds_181 (by decide) ?_
      refine r_sub [1, 2, 0] rfl ?_
      exact hK96 x1 (x2 + 1) σ h
    · have h := it_f c1 h
      refine r_aload_n 0 dX11_findNeeds_114 rfl rfl rfl ?_
      refine gf_X11_32_0 dX11_findNeeds_115 rfl ?_
      refine r_bipush (v := 16) dX11_findNeeds_118 (by decide) rfl ?_
      refine r_iload_n 2 dX11_findNeeds_120 rfl rfl rfl ?_
      refine r_imul dX11_findNeeds_121 rfl ?_
      refine r_iload_n 3 dX11_findNeeds_122 rfl rfl rfl ?_
      refine r_iadd dX11_findNeeds_123 rfl ?_
      refine r_aload_n 0 dX11_findNeeds_124 rfl rfl rfl ?_
      refine gf_X11_32_0 dX11_findNeeds_125 rfl ?_
      refine r_bipush (v := 16) dX11_findNeeds_128 (by decide) rfl ?_
      refine r_iload_n 2 dX11_findNeeds_130 rfl rfl rfl ?_
      refine r_imul dX11_findNeeds_131 rfl ?_
      refine r_iload_n 3 dX11_findNeeds_132 rfl rfl rfl ?_
      refine r_iadd dX11_findNeeds_133 rfl ?_
      obtain ⟨hi2, h⟩ := gi h
      refine alM_8 hi2 dX11_findNeeds_134 rfl ?_
      refine r_if_ne (t := 166) dX11_findNeeds_135 (by decide) rfl (fun c3 => ?_) (fun c3 => ?_)
      · have h := it_t c3 h
        exact T_X11_findNeeds_j166 hK86 hK96 ih x1 x2 x3 ((16 * x2) + x3) σ h
      · have h := it_n c3 h
        refine r_aload_n 0 dX11_findNeeds_138 rfl rfl rfl ?_
        refine gf_X11_32_0 dX11_findNeeds_139 rfl ?_
        refine r_bipush (v := 16) dX11_findNeeds_142 (by decide) rfl ?_
        refine r_iload_n 2 dX11_findNeeds_144 rfl rfl rfl ?_
        refine r_imul dX11_findNeeds_145 rfl ?_
        refine r_iload_n 1 dX11_findNeeds_146 rfl rfl rfl ?_
        refine r_iadd dX11_findNeeds_147 rfl ?_
        obtain ⟨hi4, h⟩ := gi h
        refine alM_8 hi4 dX11_findNeeds_148 rfl ?_
        refine r_if_eq (t := 170) dX11_findNeeds_149 (by decide) rfl (fun c5 => ?_) (fun c5 => ?_)
        · have h := it_t c5 h
          exact T_X11_findNeeds_j170 hK86 hK96 ih x1 x2 x3 ((16 * x2) + x3) σ h
        · have h := it_f c5 h
          refine r_aload_n 0 dX11_findNeeds_152 rfl rfl rfl ?_
          refine gf_X11_32_0 dX11_findNeeds_153 rfl ?_
          refine r_bipush (v := 16) dX11_findNeeds_156 (by decide) rfl ?_
          refine r_iload_n 1 dX11_findNeeds_158 rfl rfl rfl ?_
          refine r_imul dX11_findNeeds_159 rfl ?_
          refine r_iload_n 3 dX11_findNeeds_160 rfl rfl rfl ?_
          refine r_iadd dX11_findNeeds_161 rfl ?_
          obtain ⟨hi6, h⟩ := gi h
          refine alM_8 hi6 dX11_findNeeds_162 rfl ?_
          refine r_if_eq (t := 170) dX11_findNeeds_163 (by decide) rfl (fun c7 => ?_) (fun c7 => ?_)
          · have h := it_t c7 h
            exact T_X11_findNeeds_j170 hK86 hK96 ih x1 x2 x3 ((16 * x2) + x3) σ h
          · have h := it_f c7 h
            exact T_X11_findNeeds_j166 hK86 hK96 ih x1 x2 x3 ((16 * x2) + x3) σ h
def P_X11_findNeeds_j96 (K86 : Int32 → SS → Option SS) : Nat → Int32 → Int32 → SS → Option SS
  | 0, _, _, _ => none
  | n + 1, x1, x2, σ =>
    if (sI σ 0) ≤ x2 then
      K86 (x1 + 1) σ
    else
      P_X11_findNeeds_j106 K86 (P_X11_findNeeds_j96 K86 n) FU x1 x2 0 σ
set_option maxHeartbeats 4000000 in
set_option maxRecDepth 100000 in
theorem T_X11_findNeeds_j96 {X : XE} {σf : SS} {K86 : Int32 → SS → Option SS} (hK86 : ∀ (x1 : Int32) (σ : SS), K86 x1 σ = some σf → V (gM X) 3 RX11 cX11_findNeeds 4 none none σf 86 [(0, .ref (xq X 0)), (1, .int x1)] [] σ) : ∀ (fu : Nat) (x1 : Int32) (x2 : Int32) (σ : SS), P_X11_findNeeds_j96 K86 fu x1 x2 σ = some σf → V (gM X) 3 RX11 cX11_findNeeds 4 none none σf 96 [(0, .ref (xq X 0)), (1, .int x1), (2, .int x2)] [] σ := by
  intro fu
  induction fu with
  | zero => intro x1 x2 σ h; exact no0 h
  | succ n ih =>
    intro x1 x2 σ h
    unfold P_X11_findNeeds_j96 at h
    refine r_iload_n 2 dX11_findNeeds_96 rfl rfl rfl ?_
    refine r_aload_n 0 dX11_findNeeds_97 rfl rfl rfl ?_
    refine gf_X11_95_0 dX11_findNeeds_98 rfl ?_
    refine r_icmp_ge (t := 184) dX11_findNeeds_101 (by decide) rfl (fun c1 => ?_) (fun c1 => ?_)
    · have h := it_t c1 h
      refine r_iinc (v := (x1 + 1)) (lv' := [(1, .int (x1 + 1)), (0, .ref (xq X 0)), (2, .int x2)]) 1 dX11_findNeeds_184 rfl rfl (by decide) rfl rfl ?_
      refine r_goto (t := 86) dX11_findNeeds_187 (by decide) ?_
      refine r_sub [1, 0] rfl ?_
      exact hK86 (x1 + 1) σ h
    · have h := it_f c1 h
      refine ric_0 dX11_findNeeds_104 rfl ?_
      refine r_istore_n (lv' := [(3, .int 0), (0, .ref (xq X 0)), (1, .int x1), (2, .int x2)]) dX11_findNeeds_105 rfl (by decide) rfl rfl ?_
      refine r_sub [1, 2, 3, 0] rfl ?_
      exact T_X11_findNeeds_j106 hK86 ih FU x1 x2 0 σ h
def P_X11_findNeeds_j86 : Nat → Int32 → SS → Option SS
  | 0, _, _ => none
  | n + 1, x1, σ =>
    if (sI σ 0) ≤ x1 then
      some σ
    else
      P_X11_findNeeds_j96 (P_X11_findNeeds_j86 n) FU x1 0 σ
set_option maxHeartbeats 4000000 in
set_option maxRecDepth 100000 in
theorem T_X11_findNeeds_j86 {X : XE} {σf : SS} : ∀ (fu : Nat) (x1 : Int32) (σ : SS), P_X11_findNeeds_j86 fu x1 σ = some σf → V (gM X) 3 RX11 cX11_findNeeds 4 none none σf 86 [(0, .ref (xq X 0)), (1, .int x1)] [] σ := by
  intro fu
  induction fu with
  | zero => intro x1 σ h; exact no0 h
  | succ n ih =>
    intro x1 σ h
    unfold P_X11_findNeeds_j86 at h
    refine r_iload_n 1 dX11_findNeeds_86 rfl rfl rfl ?_
    refine r_aload_n 0 dX11_findNeeds_87 rfl rfl rfl ?_
    refine gf_X11_95_0 dX11_findNeeds_88 rfl ?_
    refine r_icmp_ge (t := 190) dX11_findNeeds_91 (by decide) rfl (fun c1 => ?_) (fun c1 => ?_)
    · have h := it_t c1 h
      exact r_vretS dX11_findNeeds_190 h
    · have h := it_f c1 h
      refine ric_0 dX11_findNeeds_94 rfl ?_
      refine r_istore_n (lv' := [(2, .int 0), (0, .ref (xq X 0)), (1, .int x1)]) dX11_findNeeds_95 rfl (by decide) rfl rfl ?_
      refine r_sub [1, 2, 0] rfl ?_
      exact T_X11_findNeeds_j96 ih FU x1 0 σ h
def P_X11_findNeeds_j2 : Nat → Int32 → SS → Option SS
  | 0, _, _ => none
  | n + 1, x1, σ =>
    if (sI σ 0) ≤ x1 then
      P_X11_findNeeds_j86 FU 0 σ
    else
      P_X11_findNeeds_j12 (P_X11_findNeeds_j2 n) FU x1 0 σ
set_option maxHeartbeats 4000000 in
set_option maxRecDepth 100000 in
theorem T_X11_findNeeds_j2 {X : XE} {σf : SS} : ∀ (fu : Nat) (x1 : Int32) (σ : SS), P_X11_findNeeds_j2 fu x1 σ = some σf → V (gM X) 3 RX11 cX11_findNeeds 4 none none σf 2 [(0, .ref (xq X 0)), (1, .int x1)] [] σ := by
  intro fu
  induction fu with
  | zero => intro x1 σ h; exact no0 h
  | succ n ih =>
    intro x1 σ h
    unfold P_X11_findNeeds_j2 at h
    refine r_iload_n 1 dX11_findNeeds_2 rfl rfl rfl ?_
    refine r_aload_n 0 dX11_findNeeds_3 rfl rfl rfl ?_
    refine gf_X11_95_0 dX11_findNeeds_4 rfl ?_
    refine r_icmp_ge (t := 84) dX11_findNeeds_7 (by decide) rfl (fun c1 => ?_) (fun c1 => ?_)
    · have h := it_t c1 h
      refine ric_0 dX11_findNeeds_84 rfl ?_
      refine r_istore_n (lv' := [(1, .int 0), (0, .ref (xq X 0))]) dX11_findNeeds_85 rfl (by decide) rfl rfl ?_
      refine r_sub [1, 0] rfl ?_
      exact T_X11_findNeeds_j86 FU 0 σ h
    · have h := it_f c1 h
      refine ric_0 dX11_findNeeds_10 rfl ?_
      refine r_istore_n (lv' := [(2, .int 0), (0, .ref (xq X 0)), (1, .int x1)]) dX11_findNeeds_11 rfl (by decide) rfl rfl ?_
      refine r_sub [1, 2, 0] rfl ?_
      exact T_X11_findNeeds_j12 ih FU x1 0 σ h
def P_X11_findNeeds (σ : SS) : Option SS :=
  P_X11_findNeeds_j2 FU 0 σ
set_option maxHeartbeats 4000000 in
set_option maxRecDepth 100000 in
theorem T_X11_findNeeds {X : XE} {σf : SS} {σ : SS} (h : P_X11_findNeeds σ = some σf) : Mt (gM X) 3 yX11_findNeeds cX11_findNeeds 4 none [.ref (xq X 0)] σ none σf := by
  refine Mt.of (own := RX11) (lv := [(0, .ref (xq X 0))]) pn_X11 rfl (Nat.le_of_ble_eq_true rfl) rfl ?_
  unfold P_X11_findNeeds at h
  refine ric_0 dX11_findNeeds_0 rfl ?_
  refine r_istore_n (lv' := [(1, .int 0), (0, .ref (xq X 0))]) dX11_findNeeds_1 rfl (by decide) rfl rfl ?_
  refine r_sub [1, 0] rfl ?_
  exact T_X11_findNeeds_j2 FU 0 σ h
