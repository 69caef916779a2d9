def P_X9_tell_j24 : Nat → Int32 → SS → Option (Int32 × SS)
  | 0, _, _ => none
  | n + 1, x5, σ =>
    if (sI σ 8) ≤ 0 then
      if ¬ (sI σ 8) = 0 then
        some (0, σ)
      else
        some (1, σ)
    else
      if 3000 ≤ x5 then
        if ¬ (sI σ 8) = 0 then
          some (0, σ)
        else
          some (1, σ)
      else
        b2 (P_X9_work σ) fun v6 σ7 =>
        if ¬ v6 = 0 then
          (P_X9_tell_j24 n) (x5 + 1) σ7
        else
          some (0, σ7)
set_option maxHeartbeats 4000000 in
set_option maxRecDepth 100000 in
theorem T_X9_tell_j24 {X : XE} {σf : SS} {r : Int32} : ∀ (fu : Nat) (x5 : Int32) (σ : SS), P_X9_tell_j24 fu x5 σ = some (r, σf) → V (gX X) 6 RX9 cX9_tell 6 (some .boolean) (some (.int r)) σf 24 [(0, .ref (xq X 5)), (5, .int x5)] [] σ := by
  intro fu
  induction fu with
  | zero => intro x5 σ h; exact no0 h
  | succ n ih =>
    intro x5 σ h
    unfold P_X9_tell_j24 at h
    refine r_aload_n 0 dX9_tell_24 rfl rfl rfl ?_
    refine gf_X9_44_5 dX9_tell_25 rfl ?_
    refine r_if_le (t := 54) dX9_tell_28 (by decide) rfl (fun c1 => ?_) (fun c1 => ?_)
    · have h := it_t c1 h
      refine r_aload_n 0 dX9_tell_54 rfl rfl rfl ?_
      refine gf_X9_44_5 dX9_tell_55 rfl ?_
      refine r_if_ne (t := 65) dX9_tell_58 (by decide) rfl (fun c2 => ?_) (fun c2 => ?_)
      · have h := it_t c2 h
        refine ric_0 dX9_tell_65 rfl ?_
        exact r_zretQ (Or.inl rfl) dX9_tell_66 h
      · have h := it_n c2 h
        refine ric_1 dX9_tell_61 rfl ?_
        refine r_goto (t := 66) dX9_tell_62 (by decide) ?_
        exact r_zretQ (Or.inr rfl) dX9_tell_66 h
    · have h := it_f c1 h
      refine r_iload 1 dX9_tell_31 rfl rfl ?_
      refine r_sipush (v := 3000) dX9_tell_33 (by decide) rfl ?_
      refine r_icmp_ge (t := 54) dX9_tell_36 (by decide) rfl (fun c3 => ?_) (fun c3 => ?_)
      · have h := it_t c3 h
        refine r_aload_n 0 dX9_tell_54 rfl rfl rfl ?_
        refine gf_X9_44_5 dX9_tell_55 rfl ?_
        refine r_if_ne (t := 65) dX9_tell_58 (by decide) rfl (fun c4 => ?_) (fun c4 => ?_)
        · have h := it_t c4 h
          refine ric_0 dX9_tell_65 rfl ?_
          exact r_zretQ (Or.inl rfl) dX9_tell_66 h
        · have h := it_n c4 h
          refine ric_1 dX9_tell_61 rfl ?_
          refine r_goto (t := 66) dX9_tell_62 (by decide) ?_
          exact r_zretQ (Or.inr rfl) dX9_tell_66 h
      · have h := it_f c3 h
        refine r_aload_n 0 dX9_tell_39 rfl rfl rfl ?_
        obtain ⟨v6, σ7, e5, h⟩ := b2d h
        refine r_callV (rest := []) (T_X9_work e5) (by decide) mf_X9_work rfl tw_633 tw_10 tw_631 cX_5 rfl rfl rfl (Nat.le_of_ble_eq_true rfl) dX9_tell_40 rfl ?_
        refine r_call0 ?_
        refine r_if_ne (t := 48) dX9_tell_43 (by decide) rfl (fun c8 => ?_) (fun c8 => ?_)
        · have h := it_t c8 h
          refine r_iinc (v := (x5 + 1)) (lv' := [(5, .int (x5 + 1)), (0, .ref (xq X 5))]) 1 dX9_tell_48 rfl rfl (by decide) rfl rfl ?_
          refine r_goto (t := 24) dX9_tell_51 (by decide) ?_
          refine r_sub [1, 0] rfl ?_
          exact ih (x5 + 1) σ7 h
        · have h := it_n c8 h
          refine ric_0 dX9_tell_46 rfl ?_
          exact r_zretQ (Or.inl rfl) dX9_tell_47 h
def P_X9_tell (a1 : Int32) (a2 : Int32) (a3 : Int64) (σ : SS) : Option (Int32 × SS) :=
  (P_X0_shorten_10 0 σ).bind fun σ2 =>
  (P_X9_push 1 a1 a2 a3 (uI σ2 8 0)).bind fun σ4 =>
  P_X9_tell_j24 FU 0 σ4
set_option maxHeartbeats 4000000 in
set_option maxRecDepth 100000 in
theorem T_X9_tell {X : XE} {σf : SS} {r : Int32} {σ : SS} {a1 : Int32} {a2 : Int32} {a3 : Int64} (h : P_X9_tell a1 a2 a3 σ = some (r, σf)) : Mt (gX X) 6 yX9_tell cX9_tell 6 (some .boolean) [.ref (xq X 5), .int a1, .int a2, .long a3] σ (some (.int r)) σf := by
  refine Mt.of (own := RX9) (lv := [(0, .ref (xq X 5)), (1, .int a1), (2, .int a2), (3, .long a3)]) pn_X9 rfl (Nat.le_of_ble_eq_true rfl) rfl ?_
  unfold P_X9_tell at h
  refine r_aload_n 0 dX9_tell_0 rfl rfl rfl ?_
  refine gf_X9_12_5 dX9_tell_1 rfl ?_
  refine ric_0 dX9_tell_4 rfl ?_
  obtain ⟨σ2, e1, h⟩ := bd h
  refine r_callV (rest := []) (T_X0_shorten_10 e1) (by decide) mf_X0_shorten rfl tw_624 tw_625 tw_623 cX_10 rfl rfl rfl (Nat.le_of_ble_eq_true rfl) dX9_tell_5 rfl ?_
  refine r_calln ?_
  refine r_aload_n 0 dX9_tell_8 rfl rfl rfl ?_
  refine ric_0 dX9_tell_9 rfl ?_
  refine pf_X9_44_5 dX9_tell_10 rfl ?_
  refine r_aload_n 0 dX9_tell_13 rfl rfl rfl ?_
  refine ric_1 dX9_tell_14 rfl ?_
  refine r_iload_n 1 dX9_tell_15 rfl rfl rfl ?_
  refine r_iload_n 2 dX9_tell_16 rfl rfl rfl ?_
  refine r_lload_n 3 dX9_tell_17 rfl rfl rfl ?_
  obtain ⟨σ4, e3, h⟩ := bd h
  refine r_callV (rest := []) (T_X9_push e3) (by decide) mf_X9_push rfl tw_629 tw_9 tw_627 cX_5 rfl rfl rfl (Nat.le_of_ble_eq_true rfl) dX9_tell_18 rfl ?_
  refine r_calln ?_
  refine ric_0 dX9_tell_21 rfl ?_
  refine r_istore (lv' := [(5, .int 0), (0, .ref (xq X 5)), (1, .int a1), (2, .int a2), (3, .long a3)]) dX9_tell_22 (by decide) rfl rfl ?_
  refine r_sub [1, 0] rfl ?_
  exact T_X9_tell_j24 FU 0 σ4 h
set_option maxHeartbeats 4000000 in
set_option maxRecDepth 100000 in
theorem T_X9_draft {X : XE} {σ : SS} : Mt (gX X) 0 yX9_draft cX9_draft 1 (some (.object "ShapeHouse$Bytes")) [.ref (xq X 5)] σ (some (.ref (xq X 10))) σ := by
  refine Mt.of (own := RX9) (lv := [(0, .ref (xq X 5))]) pn_X9 rfl (Nat.le_of_ble_eq_true rfl) rfl ?_
  refine r_aload_n 0 dX9_draft_0 rfl rfl rfl ?_
  refine gf_X9_12_5 dX9_draft_1 rfl ?_
  exact r_aret dX9_draft_4
def P_X6_at_37 (a1 : Int32) (σ : SS) : Option Int32 :=
  if a1 < 0 then
    some 0
  else
    if 300 ≤ a1 then
      some 0
    else
      gI a1 300 <|
      some (ldA σ 21 a1)
set_option maxHeartbeats 4000000 in
set_option maxRecDepth 100000 in
theorem T_X6_at_37 {X : XE} {σ : SS} {r : Int32} {a1 : Int32} (h : P_X6_at_37 a1 σ = some r) : Mt (gX X) 0 yX6_at cX6_at 2 (some .int) [.ref (xq X 37), .int a1] σ (some (.int r)) σ := by
  refine Mt.of (own := RX6) (lv := [(0, .ref (xq X 37)), (1, .int a1)]) pn_X6 rfl (Nat.le_of_ble_eq_true rfl) rfl ?_
  unfold P_X6_at_37 at h
  refine r_iload_n 1 dX6_at_0 rfl rfl rfl ?_
  refine r_if_lt (t := 16) dX6_at_1 (by decide) rfl (fun c1 => ?_) (fun c1 => ?_)
  · have h := it_t c1 h
    refine ric_0 dX6_at_16 rfl ?_
    exact r_iretR dX6_at_17 h
  · have h := it_f c1 h
    refine r_iload_n 1 dX6_at_4 rfl rfl rfl ?_
    refine r_aload_n 0 dX6_at_5 rfl rfl rfl ?_
    refine anX_37 dX6_at_6 rfl ?_
    refine r_icmp_ge (t := 16) dX6_at_7 (by decide) rfl (fun c2 => ?_) (fun c2 => ?_)
    · have h := it_t c2 h
      refine ric_0 dX6_at_16 rfl ?_
      exact r_iretR dX6_at_17 h
    · have h := it_f c2 h
      refine r_aload_n 0 dX6_at_10 rfl rfl rfl ?_
      refine r_iload_n 1 dX6_at_11 rfl rfl rfl ?_
      obtain ⟨hi3, h⟩ := gi h
      refine alX_37 hi3 dX6_at_12 rfl ?_
      refine r_goto (t := 17) dX6_at_13 (by decide) ?_
      exact r_iretR dX6_at_17 h
def P_X0_at_10 (a1 : Int32) (σ : SS) : Option Int32 :=
  if (sI σ 21) ≤ a1 then
    some 0
  else
    (P_X6_at_37 a1 σ).bind fun v3 =>
    some v3
set_option maxHeartbeats 4000000 in
set_option maxRecDepth 100000 in
theorem T_X0_at_10 {X : XE} {σ : SS} {r : Int32} {a1 : Int32} (h : P_X0_at_10 a1 σ = some r) : Mt (gX X) 1 yX0_at cX0_at 2 (some .int) [.ref (xq X 10), .int a1] σ (some (.int r)) σ := by
  refine Mt.of (own := RX0) (lv := [(0, .ref (xq X 10)), (1, .int a1)]) pn_X0 rfl (Nat.le_of_ble_eq_true rfl) rfl ?_
  unfold P_X0_at_10 at h
  refine r_iload_n 1 dX0_at_0 rfl rfl rfl ?_
  refine r_aload_n 0 dX0_at_1 rfl rfl rfl ?_
  refine gf_X0_15_10 dX0_at_2 rfl ?_
  refine r_icmp_ge (t := 19) dX0_at_5 (by decide) rfl (fun c1 => ?_) (fun c1 => ?_)
  · have h := it_t c1 h
    refine ric_0 dX0_at_19 rfl ?_
    exact r_iretR dX0_at_20 h
  · have h := it_f c1 h
    refine r_aload_n 0 dX0_at_8 rfl rfl rfl ?_
    refine gf_X0_9_10 dX0_at_9 rfl ?_
    refine r_iload_n 1 dX0_at_12 rfl rfl rfl ?_
    obtain ⟨v3, e2, h⟩ := bd h
    refine r_callS (As := [.ref (xq X 37), .int a1]) (rest := []) (T_X6_at_37 e2) (by decide) mf_X6_at rfl tw_446 tw_701 rfl (Nat.le_of_ble_eq_true rfl) dX0_at_13 rfl ?_
    refine r_call0 ?_
    refine r_goto (t := 20) dX0_at_16 (by decide) ?_
    exact r_iretR dX0_at_20 h
def P_X0_add_9 (a1 : Int32) (σ : SS) : Option (Int32 × SS) :=
  if (sI σ 20) < 0 then
    some (0, σ)
  else
    if (sI σ 20) < 300 then
      gI (sI σ 20) 300 <|
      some (1, (uI (stA σ 20 (sI σ 20) (a1 &&& 255)) 20 ((sI (stA σ 20 (sI σ 20) (a1 &&& 255)) 20) + 1)))
    else
      some (0, σ)
set_option maxHeartbeats 4000000 in
set_option maxRecDepth 100000 in
theorem T_X0_add_9 {X : XE} {σf : SS} {r : Int32} {σ : SS} {a1 : Int32} (h : P_X0_add_9 a1 σ = some (r, σf)) : Mt (gX X) 0 yX0_add cX0_add 2 (some .boolean) [.ref (xq X 9), .int a1] σ (some (.int r)) σf := by
  refine Mt.of (own := RX0) (lv := [(0, .ref (xq X 9)), (1, .int a1)]) pn_X0 rfl (Nat.le_of_ble_eq_true rfl) rfl ?_
  unfold P_X0_add_9 at h
  refine r_aload_n 0 dX0_add_0 rfl rfl rfl ?_
  refine gf_X0_15_9 dX0_add_1 rfl ?_
  refine r_if_lt (t := 17) dX0_add_4 (by decide) rfl (fun c1 => ?_) (fun c1 => ?_)
  · have h := it_t c1 h
    refine ric_0 dX0_add_17 rfl ?_
    exact r_zretQ (Or.inl rfl) dX0_add_18 h
  · have h := it_f c1 h
    refine r_aload_n 0 dX0_add_7 rfl rfl rfl ?_
    refine gf_X0_15_9 dX0_add_8 rfl ?_
    refine r_sipush (v := 300) dX0_add_11 (by decide) rfl ?_
    refine r_icmp_lt (t := 19) dX0_add_14 (by decide) rfl (fun c2 => ?_) (fun c2 => ?_)
    · have h := it_t c2 h
      refine r_aload_n 0 dX0_add_19 rfl rfl rfl ?_
      refine gf_X0_9_9 dX0_add_20 rfl ?_
      refine r_aload_n 0 dX0_add_23 rfl rfl rfl ?_
      refine gf_X0_15_9 dX0_add_24 rfl ?_
      refine r_iload_n 1 dX0_add_27 rfl rfl rfl ?_
      refine r_sipush (v := 255) dX0_add_28 (by decide) rfl ?_
      refine r_iand dX0_add_31 rfl ?_
      obtain ⟨hi3, h⟩ := gi h
      refine asX_36 hi3 dX0_add_32 rfl ?_
      refine r_aload_n 0 dX0_add_33 rfl rfl rfl ?_
      refine r_dup rfl dX0_add_34 rfl ?_
      refine gf_X0_15_9 dX0_add_35 rfl ?_
      refine ric_1 dX0_add_38 rfl ?_
      refine r_iadd dX0_add_39 rfl ?_
      refine pf_X0_15_9 dX0_add_40 rfl ?_
      refine ric_1 dX0_add_43 rfl ?_
      exact r_zretQ (Or.inr rfl) dX0_add_44 h
    · have h := it_f c2 h
      refine ric_0 dX0_add_17 rfl ?_
      exact r_zretQ (Or.inl rfl) dX0_add_18 h
def P_X0_copy_9_10_j7 : Nat → Int32 → SS → Option SS
  | 0, _, _ => none
  | n + 1, x2, σ =>
    if (sI σ 21) ≤ x2 then
      some σ
    else
      (P_X0_at_10 x2 σ).bind fun v3 =>
      b2 (P_X0_add_9 v3 σ) fun v5 σ6 =>
      (P_X0_copy_9_10_j7 n) (x2 + 1) σ6
set_option maxHeartbeats 4000000 in
set_option maxRecDepth 100000 in
theorem T_X0_copy_9_10_j7 {X : XE} {σf : SS} : ∀ (fu : Nat) (x2 : Int32) (σ : SS), P_X0_copy_9_10_j7 fu x2 σ = some σf → V (gX X) 2 RX0 cX0_copy 3 none none σf 7 [(0, .ref (xq X 9)), (1, .ref (xq X 10)), (2, .int x2)] [] σ := by
  intro fu
  induction fu with
  | zero => intro x2 σ h; exact no0 h
  | succ n ih =>
    intro x2 σ h
    unfold P_X0_copy_9_10_j7 at h
    refine r_iload_n 2 dX0_copy_7 rfl rfl rfl ?_
    refine r_aload_n 1 dX0_copy_8 rfl rfl rfl ?_
    refine gf_X0_15_10 dX0_copy_9 rfl ?_
    refine r_icmp_ge (t := 31) dX0_copy_12 (by decide) rfl (fun c1 => ?_) (fun c1 => ?_)
    · have h := it_t c1 h
      exact r_vretS dX0_copy_31 h
    · have h := it_f c1 h
      refine r_aload_n 0 dX0_copy_15 rfl rfl rfl ?_
      refine r_aload_n 1 dX0_copy_16 rfl rfl rfl ?_
      refine r_iload_n 2 dX0_copy_17 rfl rfl rfl ?_
      obtain ⟨v3, e2, h⟩ := bd h
      refine r_callV (rest := [.ref (xq X 9)]) (T_X0_at_10 e2) (by decide) mf_X0_at rfl tw_698 tw_699 tw_697 cX_10 rfl rfl rfl (Nat.le_of_ble_eq_true rfl) dX0_copy_18 rfl ?_
      refine r_call0 ?_
      obtain ⟨v5, σ6, e4, h⟩ := b2d h
      refine r_callV (rest := []) (T_X0_add_9 e4) (by decide) mf_X0_add rfl tw_645 tw_646 tw_702 cX_9 rfl rfl rfl (Nat.le_of_ble_eq_true rfl) dX0_copy_21 rfl ?_
      refine r_call0 ?_
      refine r_pop rfl dX0_copy_24 rfl ?_
      refine r_iinc (v := (x2 + 1)) (lv' := [(2, .int (x2 + 1)), (0, .ref (xq X 9)), (1, .ref (xq X 10))]) 2 dX0_copy_25 rfl rfl (by decide) rfl rfl ?_
      refine r_goto (t := 7) dX0_copy_28 (by decide) ?_
      refine r_sub [1, 2, 0] rfl ?_
      exact ih (x2 + 1) σ6 h
def P_X0_copy_9_10 (σ : SS) : Option SS :=
  P_X0_copy_9_10_j7 FU 0 (uI σ 20 0)
set_option maxHeartbeats 4000000 in
set_option maxRecDepth 100000 in
theorem T_X0_copy_9_10 {X : XE} {σf : SS} {σ : SS} (h : P_X0_copy_9_10 σ = some σf) : Mt (gX X) 2 yX0_copy cX0_copy 3 none [.ref (xq X 9), .ref (xq X 10)] σ none σf := by
  refine Mt.of (own := RX0) (lv := [(0, .ref (xq X 9)), (1, .ref (xq X 10))]) pn_X0 rfl (Nat.le_of_ble_eq_true rfl) rfl ?_
  unfold P_X0_copy_9_10 at h
  refine r_aload_n 0 dX0_copy_0 rfl rfl rfl ?_
  refine ric_0 dX0_copy_1 rfl ?_
  refine pf_X0_15_9 dX0_copy_2 rfl ?_
  refine ric_0 dX0_copy_5 rfl ?_
  refine r_istore_n (lv' := [(2, .int 0), (0, .ref (xq X 9)), (1, .ref (xq X 10))]) dX0_copy_6 rfl (by decide) rfl rfl ?_
  refine r_sub [1, 2, 0] rfl ?_
  exact T_X0_copy_9_10_j7 FU 0 (uI σ 20 0) h
def P_X0_length_9 (σ : SS) : Option Int32 :=
  some (sI σ 20)
set_option maxHeartbeats 4000000 in
set_option maxRecDepth 100000 in
theorem T_X0_length_9 {X : XE} {σ : SS} {r : Int32} (h : P_X0_length_9 σ = some r) : Mt (gX X) 0 yX0_length cX0_length 1 (some .int) [.ref (xq X 9)] σ (some (.int r)) σ := by
  refine Mt.of (own := RX0) (lv := [(0, .ref (xq X 9))]) pn_X0 rfl (Nat.le_of_ble_eq_true rfl) rfl ?_
  unfold P_X0_length_9 at h
  refine r_aload_n 0 dX0_length_0 rfl rfl rfl ?_
  refine gf_X0_15_9 dX0_length_1 rfl ?_
  exact r_iretR dX0_length_4 h
def P_X10_thing (a1 : Int32) (a2 : Int32) (a3 : Int64) (σ : SS) : Option (Int64 × SS) :=
  (P_X1_has a1 σ).bind fun v2 =>
  if v2 = 0 then
    some ((-2000000001), σ)
  else
    (P_X10_isSize a2).bind fun v5 =>
    if v5 = 0 then
      some ((-2000000001), σ)
    else
      if a3 < 0 then
        some ((-2000000001), σ)
      else
        if a3 < 10000000000000000 then
          if ¬ (sI σ 0) = 0 then
            (P_X8_of a1 a2 σ).bind fun v11 =>
            if a3 < v11 then
              b2 (P_X9_tell a1 a2 a3 σ) fun v14 σ15 =>
              if ¬ v14 = 0 then
                (P_X0_copy_9_10 σ15).bind fun σ19 =>
                (P_X0_length_9 σ19).bind fun v21 =>
                some (v21.toInt64, σ19)
              else
                some ((-2000000003), σ15)
            else
              some ((-2000000005), σ)
          else
            some ((-2000000002), σ)
        else
          some ((-2000000001), σ)
set_option maxHeartbeats 4000000 in
set_option maxRecDepth 100000 in
theorem T_X10_thing {X : XE} {σf : SS} {r : Int64} {σ : SS} {a1 : Int32} {a2 : Int32} {a3 : Int64} (h : P_X10_thing a1 a2 a3 σ = some (r, σf)) : Mt (gX X) 7 yX10_thing cX10_thing 5 (some .long) [.ref (xq X 0), .int a1, .int a2, .long a3] σ (some (.long r)) σf := by
  refine Mt.of (own := RX10) (lv := [(0, .ref (xq X 0)), (1, .int a1), (2, .int a2), (3, .long a3)]) pn_X10 rfl (Nat.le_of_ble_eq_true rfl) rfl ?_
  unfold P_X10_thing at h
  refine r_aload_n 0 dX10_thing_0 rfl rfl rfl ?_
  refine gf_X10_12_0 dX10_thing_1 rfl ?_
  refine r_iload_n 1 dX10_thing_4 rfl rfl rfl ?_
  obtain ⟨v2, e1, h⟩ := bd h
  refine r_callV (rest := []) (T_X1_has e1) (by decide) mf_X1_has rfl tw_416 tw_417 tw_415 cX_1 rfl rfl rfl (Nat.le_of_ble_eq_true rfl) dX10_thing_5 rfl ?_
  refine r_call0 ?_
  refine r_if_eq (t := 32) dX10_thing_8 (by decide) rfl (fun c3 => ?_) (fun c3 => ?_)
  · have h := it_t c3 h
    refine r_ldc2 (v := (-2000000001)) tw_385 dX10_thing_32 rfl ?_
    exact r_lretQ dX10_thing_35 h
  · have h := it_f c3 h
    refine r_iload_n 2 dX10_thing_11 rfl rfl rfl ?_
    obtain ⟨v5, e4, h⟩ := bd h
    refine r_callS (As := [.int a2]) (rest := []) (T_X10_isSize e4) (by decide) mf_X10_isSize rfl tw_575 tw_598 rfl (Nat.le_of_ble_eq_true rfl) dX10_thing_12 rfl ?_
    refine r_call0 ?_
    refine r_if_eq (t := 32) dX10_thing_15 (by decide) rfl (fun c6 => ?_) (fun c6 => ?_)
    · have h := it_t c6 h
      refine r_ldc2 (v := (-2000000001)) tw_385 dX10_thing_32 rfl ?_
      exact r_lretQ dX10_thing_35 h
    · have h := it_f c6 h
      refine r_lload_n 3 dX10_thing_18 rfl rfl rfl ?_
      refine rlc_0 dX10_thing_19 rfl ?_
      refine r_lif_lt (t := 32) dX10_thing_20 rfl dX10_thing_21 (by decide) rfl (fun c7 => ?_) (fun c7 => ?_)
      · have h := it_t c7 h
        refine r_ldc2 (v := (-2000000001)) tw_385 dX10_thing_32 rfl ?_
        exact r_lretQ dX10_thing_35 h
      · have h := it_f c7 h
        refine r_lload_n 3 dX10_thing_24 rfl rfl rfl ?_
        refine r_ldc2 (v := 10000000000000000) tw_603 dX10_thing_25 rfl ?_
        refine r_lif_lt (t := 36) dX10_thing_28 rfl dX10_thing_29 (by decide) rfl (fun c8 => ?_) (fun c8 => ?_)
        · have h := it_t c8 h
          refine r_aload_n 0 dX10_thing_36 rfl rfl rfl ?_
          refine gf_X10_98_0 dX10_thing_37 rfl ?_
          refine r_if_ne (t := 47) dX10_thing_40 (by decide) rfl (fun c9 => ?_) (fun c9 => ?_)
          · have h := it_t c9 h
            refine r_lload_n 3 dX10_thing_47 rfl rfl rfl ?_
            refine r_aload_n 0 dX10_thing_48 rfl rfl rfl ?_
            refine gf_X10_37_0 dX10_thing_49 rfl ?_
            refine r_iload_n 1 dX10_thing_52 rfl rfl rfl ?_
            refine r_iload_n 2 dX10_thing_53 rfl rfl rfl ?_
            obtain ⟨v11, e10, h⟩ := bd h
            refine r_callV (rest := [.long a3]) (T_X8_of e10) (by decide) mf_X8_of rfl tw_539 tw_540 tw_599 cX_4 rfl rfl rfl (Nat.le_of_ble_eq_true rfl) dX10_thing_54 rfl ?_
            refine r_call0 ?_
            refine r_lif_lt (t := 65) dX10_thing_57 rfl dX10_thing_58 (by decide) rfl (fun c12 => ?_) (fun c12 => ?_)
            · have h := it_t c12 h
              refine r_aload_n 0 dX10_thing_65 rfl rfl rfl ?_
              refine gf_X10_46_0 dX10_thing_66 rfl ?_
              refine r_iload_n 1 dX10_thing_69 rfl rfl rfl ?_
              refine r_iload_n 2 dX10_thing_70 rfl rfl rfl ?_
              refine r_lload_n 3 dX10_thing_71 rfl rfl rfl ?_
              obtain ⟨v14, σ15, e13, h⟩ := b2d h
              refine r_callV (rest := []) (T_X9_tell e13) (by decide) mf_X9_tell rfl tw_620 tw_621 tw_619 cX_5 rfl rfl rfl (Nat.le_of_ble_eq_true rfl) dX10_thing_72 rfl ?_
              refine r_call0 ?_
              refine r_if_ne (t := 82) dX10_thing_75 (by decide) rfl (fun c16 => ?_) (fun c16 => ?_)
              · have h := it_t c16 h
                refine r_aload_n 0 dX10_thing_82 rfl rfl rfl ?_
                refine gf_X10_57_0 dX10_thing_83 rfl ?_
                refine r_aload_n 0 dX10_thing_86 rfl rfl rfl ?_
                refine gf_X10_46_0 dX10_thing_87 rfl ?_
                refine r_callV (rest := [.ref (xq X 9)]) T_X9_draft (by decide) mf_X9_draft rfl tw_690 tw_691 tw_689 cX_5 rfl rfl rfl (Nat.le_of_ble_eq_true rfl) dX10_thing_90 rfl ?_
                refine r_call0 ?_
                obtain ⟨σ19, e18, h⟩ := bd h
                refine r_callV (rest := []) (T_X0_copy_9_10 e18) (by decide) mf_X0_copy rfl tw_694 tw_695 tw_693 cX_9 rfl rfl rfl (Nat.le_of_ble_eq_true rfl) dX10_thing_93 rfl ?_
                refine r_calln ?_
                refine r_aload_n 0 dX10_thing_96 rfl rfl rfl ?_
                refine gf_X10_57_0 dX10_thing_97 rfl ?_
                obtain ⟨v21, e20, h⟩ := bd h
                refine r_callV (rest := []) (T_X0_length_9 e20) (by decide) mf_X0_length rfl tw_704 tw_705 tw_703 cX_9 rfl rfl rfl (Nat.le_of_ble_eq_true rfl) dX10_thing_100 rfl ?_
                refine r_call0 ?_
                refine r_i2l dX10_thing_103 rfl ?_
                exact r_lretQ dX10_thing_104 h
              · have h := it_n c16 h
                refine r_ldc2 (v := (-2000000003)) tw_390 dX10_thing_78 rfl ?_
                exact r_lretQ dX10_thing_81 h
            · have h := it_f c12 h
              refine r_ldc2 (v := (-2000000005)) tw_614 dX10_thing_61 rfl ?_
              exact r_lretQ dX10_thing_64 h
          · have h := it_n c9 h
            refine r_ldc2 (v := (-2000000002)) tw_440 dX10_thing_43 rfl ?_
            exact r_lretQ dX10_thing_46 h
        · have h := it_f c8 h
          refine r_ldc2 (v := (-2000000001)) tw_385 dX10_thing_32 rfl ?_
          exact r_lretQ dX10_thing_35 h
def P_X0_length_8 (σ : SS) : Option Int32 :=
  some (sI σ 19)
set_option maxHeartbeats 4000000 in
set_option maxRecDepth 100000 in
theorem T_X0_length_8 {X : XE} {σ : SS} {r : Int32} (h : P_X0_length_8 σ = some r) : Mt (gX X) 0 yX0_length cX0_length 1 (some .int) [.ref (xq X 8)] σ (some (.int r)) σ := by
  refine Mt.of (own := RX0) (lv := [(0, .ref (xq X 8))]) pn_X0 rfl (Nat.le_of_ble_eq_true rfl) rfl ?_
  unfold P_X0_length_8 at h
  refine r_aload_n 0 dX0_length_0 rfl rfl rfl ?_
  refine gf_X0_15_8 dX0_length_1 rfl ?_
  exact r_iretR dX0_length_4 h
def P_X0_add_8 (a1 : Int32) (σ : SS) : Option (Int32 × SS) :=
  if (sI σ 19) < 0 then
    some (0, σ)
  else
    if (sI σ 19) < 300 then
      gI (sI σ 19) 300 <|
      some (1, (uI (stA σ 19 (sI σ 19) (a1 &&& 255)) 19 ((sI (stA σ 19 (sI σ 19) (a1 &&& 255)) 19) + 1)))
    else
      some (0, σ)
set_option maxHeartbeats 4000000 in
set_option maxRecDepth 100000 in
theorem T_X0_add_8 {X : XE} {σf : SS} {r : Int32} {σ : SS} {a1 : Int32} (h : P_X0_add_8 a1 σ = some (r, σf)) : Mt (gX X) 0 yX0_add cX0_add 2 (some .boolean) [.ref (xq X 8), .int a1] σ (some (.int r)) σf := by
  refine Mt.of (own := RX0) (lv := [(0, .ref (xq X 8)), (1, .int a1)]) pn_X0 rfl (Nat.le_of_ble_eq_true rfl) rfl ?_
  unfold P_X0_add_8 at h
  refine r_aload_n 0 dX0_add_0 rfl rfl rfl ?_
  refine gf_X0_15_8 dX0_add_1 rfl ?_
  refine r_if_lt (t := 17) dX0_add_4 (by decide) rfl (fun c1 => ?_) (fun c1 => ?_)
  · have h := it_t c1 h
    refine ric_0 dX0_add_17 rfl ?_
    exact r_zretQ (Or.inl rfl) dX0_add_18 h
  · have h := it_f c1 h
    refine r_aload_n 0 dX0_add_7 rfl rfl rfl ?_
    refine gf_X0_15_8 dX0_add_8 rfl ?_
    refine r_sipush (v := 300) dX0_add_11 (by decide) rfl ?_
    refine r_icmp_lt (t := 19) dX0_add_14 (by decide) rfl (fun c2 => ?_) (fun c2 => ?_)
    · have h := it_t c2 h
      refine r_aload_n 0 dX0_add_19 rfl rfl rfl ?_
      refine gf_X0_9_8 dX0_add_20 rfl ?_
      refine r_aload_n 0 dX0_add_23 rfl rfl rfl ?_
      refine gf_X0_15_8 dX0_add_24 rfl ?_
      refine r_iload_n 1 dX0_add_27 rfl rfl rfl ?_
      refine r_sipush (v := 255) dX0_add_28 (by decide) rfl ?_
      refine r_iand dX0_add_31 rfl ?_
      obtain ⟨hi3, h⟩ := gi h
      refine asX_35 hi3 dX0_add_32 rfl ?_
      refine r_aload_n 0 dX0_add_33 rfl rfl rfl ?_
      refine r_dup rfl dX0_add_34 rfl ?_
      refine gf_X0_15_8 dX0_add_35 rfl ?_
      refine ric_1 dX0_add_38 rfl ?_
      refine r_iadd dX0_add_39 rfl ?_
      refine pf_X0_15_8 dX0_add_40 rfl ?_
      refine ric_1 dX0_add_43 rfl ?_
      exact r_zretQ (Or.inr rfl) dX0_add_44 h
    · have h := it_f c2 h
      refine ric_0 dX0_add_17 rfl ?_
      exact r_zretQ (Or.inl rfl) dX0_add_18 h
def P_X0_addFour (a1 : Int32) (σ : SS) : Option SS :=
  b2 (P_X0_add_8 (iushr a1 24) σ) fun v2 σ3 =>
  b2 (P_X0_add_8 (iushr a1 16) σ3) fun v5 σ6 =>
  b2 (P_X0_add_8 (iushr a1 8) σ6) fun v8 σ9 =>
  b2 (P_X0_add_8 a1 σ9) fun v11 σ12 =>
  some σ12
set_option maxHeartbeats 4000000 in
set_option maxRecDepth 100000 in
theorem T_X0_addFour {X : XE} {σf : SS} {σ : SS} {a1 : Int32} (h : P_X0_addFour a1 σ = some σf) : Mt (gX X) 1 yX0_addFour cX0_addFour 2 none [.ref (xq X 8), .int a1] σ none σf := by
  refine Mt.of (own := RX0) (lv := [(0, .ref (xq X 8)), (1, .int a1)]) pn_X0 rfl (Nat.le_of_ble_eq_true rfl) rfl ?_
  unfold P_X0_addFour at h
  refine r_aload_n 0 dX0_addFour_0 rfl rfl rfl ?_
  refine r_iload_n 1 dX0_addFour_1 rfl rfl rfl ?_
  refine r_bipush (v := 24) dX0_addFour_2 (by decide) rfl ?_
  refine r_iushr dX0_addFour_4 rfl ?_
  obtain ⟨v2, σ3, e1, h⟩ := b2d h
  refine r_callV (rest := []) (T_X0_add_8 e1) (by decide) mf_X0_add rfl tw_645 tw_646 tw_702 cX_8 rfl rfl rfl (Nat.le_of_ble_eq_true rfl) dX0_addFour_5 rfl ?_
  refine r_call0 ?_
  refine r_pop rfl dX0_addFour_8 rfl ?_
  refine r_aload_n 0 dX0_addFour_9 rfl rfl rfl ?_
  refine r_iload_n 1 dX0_addFour_10 rfl rfl rfl ?_
  refine r_bipush (v := 16) dX0_addFour_11 (by decide) rfl ?_
  refine r_iushr dX0_addFour_13 rfl ?_
  obtain ⟨v5, σ6, e4, h⟩ := b2d h
  refine r_callV (rest := []) (T_X0_add_8 e4) (by decide) mf_X0_add rfl tw_645 tw_646 tw_702 cX_8 rfl rfl rfl (Nat.le_of_ble_eq_true rfl) dX0_addFour_14 rfl ?_
  refine r_call0 ?_
  refine r_pop rfl dX0_addFour_17 rfl ?_
  refine r_aload_n 0 dX0_addFour_18 rfl rfl rfl ?_
  refine r_iload_n 1 dX0_addFour_19 rfl rfl rfl ?_
  refine r_bipush (v := 8) dX0_addFour_20 (by decide) rfl ?_
  refine r_iushr dX0_addFour_22 rfl ?_
  obtain ⟨v8, σ9, e7, h⟩ := b2d h
  refine r_callV (rest := []) (T_X0_add_8 e7) (by decide) mf_X0_add rfl tw_645 tw_646 tw_702 cX_8 rfl rfl rfl (Nat.le_of_ble_eq_true rfl) dX0_addFour_23 rfl ?_
  refine r_call0 ?_
  refine r_pop rfl dX0_addFour_26 rfl ?_
  refine r_aload_n 0 dX0_addFour_27 rfl rfl rfl ?_
  refine r_iload_n 1 dX0_addFour_28 rfl rfl rfl ?_
  obtain ⟨v11, σ12, e10, h⟩ := b2d h
  refine r_callV (rest := []) (T_X0_add_8 e10) (by decide) mf_X0_add rfl tw_645 tw_646 tw_702 cX_8 rfl rfl rfl (Nat.le_of_ble_eq_true rfl) dX0_addFour_29 rfl ?_
  refine r_call0 ?_
  refine r_pop rfl dX0_addFour_32 rfl ?_
  exact r_vretS dX0_addFour_33 h
def P_X10_feed (a1 : Int32) (a2 : Int32) (a3 : Int32) (a4 : Int32) (a5 : Int32) (σ : SS) : Option (Int64 × SS) :=
  (P_X0_length_8 σ).bind fun v2 =>
  if (v2 + 20) ≤ 300 then
    (P_X0_addFour a1 σ).bind fun σ5 =>
    (P_X0_addFour a2 σ5).bind fun σ7 =>
    (P_X0_addFour a3 σ7).bind fun σ9 =>
    (P_X0_addFour a4 σ9).bind fun σ11 =>
    (P_X0_addFour a5 σ11).bind fun σ13 =>
    (P_X0_length_8 σ13).bind fun v15 =>
    some (v15.toInt64, σ13)
  else
    some ((-2000000003), σ)
set_option maxHeartbeats 4000000 in
set_option maxRecDepth 100000 in
theorem T_X10_feed {X : XE} {σf : SS} {r : Int64} {σ : SS} {a1 : Int32} {a2 : Int32} {a3 : Int32} {a4 : Int32} {a5 : Int32} (h : P_X10_feed a1 a2 a3 a4 a5 σ = some (r, σf)) : Mt (gX X) 2 yX10_feed cX10_feed 6 (some .long) [.ref (xq X 0), .int a1, .int a2, .int a3, .int a4, .int a5] σ (some (.long r)) σf := by
  refine Mt.of (own := RX10) (lv := [(0, .ref (xq X 0)), (1, .int a1), (2, .int a2), (3, .int a3), (4, .int a4), (5, .int a5)]) pn_X10 rfl (Nat.le_of_ble_eq_true rfl) rfl ?_
  unfold P_X10_feed at h
  refine r_aload_n 0 dX10_feed_0 rfl rfl rfl ?_
  refine gf_X10_53_0 dX10_feed_1 rfl ?_
  obtain ⟨v2, e1, h⟩ := bd h
  refine r_callV (rest := []) (T_X0_length_8 e1) (by decide) mf_X0_length rfl tw_704 tw_705 tw_703 cX_8 rfl rfl rfl (Nat.le_of_ble_eq_true rfl) dX10_feed_4 rfl ?_
  refine r_call0 ?_
  refine r_bipush (v := 20) dX10_feed_7 (by decide) rfl ?_
  refine r_iadd dX10_feed_9 rfl ?_
  refine r_sipush (v := 300) dX10_feed_10 (by decide) rfl ?_
  refine r_icmp_le (t := 20) dX10_feed_13 (by decide) rfl (fun c3 => ?_) (fun c3 => ?_)
  · have h := it_t c3 h
    refine r_aload_n 0 dX10_feed_20 rfl rfl rfl ?_
    refine gf_X10_53_0 dX10_feed_21 rfl ?_
    refine r_iload_n 1 dX10_feed_24 rfl rfl rfl ?_
    obtain ⟨σ5, e4, h⟩ := bd h
    refine r_callV (rest := []) (T_X0_addFour e4) (by decide) mf_X0_addFour rfl tw_712 tw_713 tw_711 cX_8 rfl rfl rfl (Nat.le_of_ble_eq_true rfl) dX10_feed_25 rfl ?_
    refine r_calln ?_
    refine r_aload_n 0 dX10_feed_28 rfl rfl rfl ?_
    refine gf_X10_53_0 dX10_feed_29 rfl ?_
    refine r_iload_n 2 dX10_feed_32 rfl rfl rfl ?_
    obtain ⟨σ7, e6, h⟩ := bd h
    refine r_callV (rest := []) (T_X0_addFour e6) (by decide) mf_X0_addFour rfl tw_712 tw_713 tw_711 cX_8 rfl rfl rfl (Nat.le_of_ble_eq_true rfl) dX10_feed_33 rfl ?_
    refine r_calln ?_
    refine r_aload_n 0 dX10_feed_36 rfl rfl rfl ?_
    refine gf_X10_53_0 dX10_feed_37 rfl ?_
    refine r_iload_n 3 dX10_feed_40 rfl rfl rfl ?_
    obtain ⟨σ9, e8, h⟩ := bd h
    refine r_callV (rest := []) (T_X0_addFour e8) (by decide) mf_X0_addFour rfl tw_712 tw_713 tw_711 cX_8 rfl rfl rfl (Nat.le_of_ble_eq_true rfl) dX10_feed_41 rfl ?_
    refine r_calln ?_
    refine r_aload_n 0 dX10_feed_44 rfl rfl rfl ?_
    refine gf_X10_53_0 dX10_feed_45 rfl ?_
    refine r_iload 4 dX10_feed_48 rfl rfl ?_
    obtain ⟨σ11, e10, h⟩ := bd h
    refine r_callV (rest := []) (T_X0_addFour e10) (by decide) mf_X0_addFour rfl tw_712 tw_713 tw_711 cX_8 rfl rfl rfl (Nat.le_of_ble_eq_true rfl) dX10_feed_50 rfl ?_
    refine r_calln ?_
    refine r_aload_n 0 dX10_feed_53 rfl rfl rfl ?_
    refine gf_X10_53_0 dX10_feed_54 rfl ?_
    refine r_iload 5 dX10_feed_57 rfl rfl ?_
    obtain ⟨σ13, e12, h⟩ := bd h
    refine r_callV (rest := []) (T_X0_addFour e12) (by decide) mf_X0_addFour rfl tw_712 tw_713 tw_711 cX_8 rfl rfl rfl (Nat.le_of_ble_eq_true rfl) dX10_feed_59 rfl ?_
    refine r_calln ?_
    refine r_aload_n 0 dX10_feed_62 rfl rfl rfl ?_
    refine gf_X10_53_0 dX10_feed_63 rfl ?_
    obtain ⟨v15, e14, h⟩ := bd h
    refine r_callV (rest := []) (T_X0_length_8 e14) (by decide) mf_X0_length rfl tw_704 tw_705 tw_703 cX_8 rfl rfl rfl (Nat.le_of_ble_eq_true rfl) dX10_feed_66 rfl ?_
    refine r_call0 ?_
    refine r_i2l dX10_feed_69 rfl ?_
    exact r_lretQ dX10_feed_70 h
  · have h := it_f c3 h
    refine r_ldc2 (v := (-2000000003)) tw_390 dX10_feed_16 rfl ?_
    exact r_lretQ dX10_feed_19 h
def P_X0_shorten_8 (a1 : Int32) (σ : SS) : Option SS :=
  if a1 < 0 then
    some σ
  else
    if (sI σ 19) ≤ a1 then
      some σ
    else
      some (uI σ 19 a1)
set_option maxHeartbeats 4000000 in
set_option maxRecDepth 100000 in
theorem T_X0_shorten_8 {X : XE} {σf : SS} {σ : SS} {a1 : Int32} (h : P_X0_shorten_8 a1 σ = some σf) : Mt (gX X) 0 yX0_shorten cX0_shorten 2 none [.ref (xq X 8), .int a1] σ none σf := by
  refine Mt.of (own := RX0) (lv := [(0, .ref (xq X 8)), (1, .int a1)]) pn_X0 rfl (Nat.le_of_ble_eq_true rfl) rfl ?_
  unfold P_X0_shorten_8 at h
  refine r_iload_n 1 dX0_shorten_0 rfl rfl rfl ?_
  refine r_if_lt (t := 17) dX0_shorten_1 (by decide) rfl (fun c1 => ?_) (fun c1 => ?_)
  · have h := it_t c1 h
    exact r_vretS dX0_shorten_17 h
  · have h := it_f c1 h
    refine r_iload_n 1 dX0_shorten_4 rfl rfl rfl ?_
    refine r_aload_n 0 dX0_shorten_5 rfl rfl rfl ?_
    refine gf_X0_15_8 dX0_shorten_6 rfl ?_
    refine r_icmp_ge (t := 17) dX0_shorten_9 (by decide) rfl (fun c2 => ?_) (fun c2 => ?_)
    · have h := it_t c2 h
      exact r_vretS dX0_shorten_17 h
    · have h := it_f c2 h
      refine r_aload_n 0 dX0_shorten_12 rfl rfl rfl ?_
      refine r_iload_n 1 dX0_shorten_13 rfl rfl rfl ?_
      refine pf_X0_15_8 dX0_shorten_14 rfl ?_
      exact r_vretS dX0_shorten_17 h
def P_X10_trim (a1 : Int32) (σ : SS) : Option (Int64 × SS) :=
  if a1 < 0 then
    some ((-2000000001), σ)
  else
    (P_X0_length_8 σ).bind fun v3 =>
    if a1 ≤ v3 then
      (P_X0_shorten_8 a1 σ).bind fun σ6 =>
      some (a1.toInt64, σ6)
    else
      some ((-2000000001), σ)
set_option maxHeartbeats 4000000 in
set_option maxRecDepth 100000 in
theorem T_X10_trim {X : XE} {σf : SS} {r : Int64} {σ : SS} {a1 : Int32} (h : P_X10_trim a1 σ = some (r, σf)) : Mt (gX X) 1 yX10_trim cX10_trim 2 (some .long) [.ref (xq X 0), .int a1] σ (some (.long r)) σf := by
  refine Mt.of (own := RX10) (lv := [(0, .ref (xq X 0)), (1, .int a1)]) pn_X10 rfl (Nat.le_of_ble_eq_true rfl) rfl ?_
  unfold P_X10_trim at h
  refine r_iload_n 1 dX10_trim_0 rfl rfl rfl ?_
  refine r_if_lt (t := 15) dX10_trim_1 (by decide) rfl (fun c1 => ?_) (fun c1 => ?_)
  · have h := it_t c1 h
    refine r_ldc2 (v := (-2000000001)) tw_385 dX10_trim_15 rfl ?_
    exact r_lretQ dX10_trim_18 h
  · have h := it_f c1 h
    refine r_iload_n 1 dX10_trim_4 rfl rfl rfl ?_
    refine r_aload_n 0 dX10_trim_5 rfl rfl rfl ?_
    refine gf_X10_53_0 dX10_trim_6 rfl ?_
    obtain ⟨v3, e2, h⟩ := bd h
    refine r_callV (rest := [.int a1]) (T_X0_length_8 e2) (by decide) mf_X0_length rfl tw_704 tw_705 tw_703 cX_8 rfl rfl rfl (Nat.le_of_ble_eq_true rfl) dX10_trim_9 rfl ?_
    refine r_call0 ?_
    refine r_icmp_le (t := 19) dX10_trim_12 (by decide) rfl (fun c4 => ?_) (fun c4 => ?_)
    · have h := it_t c4 h
      refine r_aload_n 0 dX10_trim_19 rfl rfl rfl ?_
      refine gf_X10_53_0 dX10_trim_20 rfl ?_
      refine r_iload_n 1 dX10_trim_23 rfl rfl rfl ?_
      obtain ⟨σ6, e5, h⟩ := bd h
      refine r_callV (rest := []) (T_X0_shorten_8 e5) (by decide) mf_X0_shorten rfl tw_624 tw_625 tw_719 cX_8 rfl rfl rfl (Nat.le_of_ble_eq_true rfl) dX10_trim_24 rfl ?_
      refine r_calln ?_
      refine r_iload_n 1 dX10_trim_27 rfl rfl rfl ?_
      refine r_i2l dX10_trim_28 rfl ?_
      exact r_lretQ dX10_trim_29 h
    · have h := it_f c4 h
      refine r_ldc2 (v := (-2000000001)) tw_385 dX10_trim_15 rfl ?_
      exact r_lretQ dX10_trim_18 h
def P_X6_at_36 (a1 : Int32) (σ : SS) : Option Int32 :=
  if a1 < 0 then
    some 0
  else
    if 300 ≤ a1 then
      some 0
    else
      gI a1 300 <|
      some (ldA σ 20 a1)
set_option maxHeartbeats 4000000 in
set_option maxRecDepth 100000 in
theorem T_X6_at_36 {X : XE} {σ : SS} {r : Int32} {a1 : Int32} (h : P_X6_at_36 a1 σ = some r) : Mt (gX X) 0 yX6_at cX6_at 2 (some .int) [.ref (xq X 36), .int a1] σ (some (.int r)) σ := by
  refine Mt.of (own := RX6) (lv := [(0, .ref (xq X 36)), (1, .int a1)]) pn_X6 rfl (Nat.le_of_ble_eq_true rfl) rfl ?_
  unfold P_X6_at_36 at h
  refine r_iload_n 1 dX6_at_0 rfl rfl rfl ?_
  refine r_if_lt (t := 16) dX6_at_1 (by decide) rfl (fun c1 => ?_) (fun c1 => ?_)
  · have h := it_t c1 h
    refine ric_0 dX6_at_16 rfl ?_
    exact r_iretR dX6_at_17 h
  · have h := it_f c1 h
    refine r_iload_n 1 dX6_at_4 rfl rfl rfl ?_
    refine r_aload_n 0 dX6_at_5 rfl rfl rfl ?_
    refine anX_36 dX6_at_6 rfl ?_
    refine r_icmp_ge (t := 16) dX6_at_7 (by decide) rfl (fun c2 => ?_) (fun c2 => ?_)
    · have h := it_t c2 h
      refine ric_0 dX6_at_16 rfl ?_
      exact r_iretR dX6_at_17 h
    · have h := it_f c2 h
      refine r_aload_n 0 dX6_at_10 rfl rfl rfl ?_
      refine r_iload_n 1 dX6_at_11 rfl rfl rfl ?_
      obtain ⟨hi3, h⟩ := gi h
      refine alX_36 hi3 dX6_at_12 rfl ?_
      refine r_goto (t := 17) dX6_at_13 (by decide) ?_
      exact r_iretR dX6_at_17 h
def P_X0_at_9 (a1 : Int32) (σ : SS) : Option Int32 :=
  if (sI σ 20) ≤ a1 then
    some 0
  else
    (P_X6_at_36 a1 σ).bind fun v3 =>
    some v3
set_option maxHeartbeats 4000000 in
set_option maxRecDepth 100000 in
theorem T_X0_at_9 {X : XE} {σ : SS} {r : Int32} {a1 : Int32} (h : P_X0_at_9 a1 σ = some r) : Mt (gX X) 1 yX0_at cX0_at 2 (some .int) [.ref (xq X 9), .int a1] σ (some (.int r)) σ := by
  refine Mt.of (own := RX0) (lv := [(0, .ref (xq X 9)), (1, .int a1)]) pn_X0 rfl (Nat.le_of_ble_eq_true rfl) rfl ?_
  unfold P_X0_at_9 at h
  refine r_iload_n 1 dX0_at_0 rfl rfl rfl ?_
  refine r_aload_n 0 dX0_at_1 rfl rfl rfl ?_
  refine gf_X0_15_9 dX0_at_2 rfl ?_
  refine r_icmp_ge (t := 19) dX0_at_5 (by decide) rfl (fun c1 => ?_) (fun c1 => ?_)
  · have h := it_t c1 h
    refine ric_0 dX0_at_19 rfl ?_
    exact r_iretR dX0_at_20 h
  · have h := it_f c1 h
    refine r_aload_n 0 dX0_at_8 rfl rfl rfl ?_
    refine gf_X0_9_9 dX0_at_9 rfl ?_
    refine r_iload_n 1 dX0_at_12 rfl rfl rfl ?_
    obtain ⟨v3, e2, h⟩ := bd h
    refine r_callS (As := [.ref (xq X 36), .int a1]) (rest := []) (T_X6_at_36 e2) (by decide) mf_X6_at rfl tw_446 tw_701 rfl (Nat.le_of_ble_eq_true rfl) dX0_at_13 rfl ?_
    refine r_call0 ?_
    refine r_goto (t := 20) dX0_at_16 (by decide) ?_
    exact r_iretR dX0_at_20 h
def P_X0_copy_8_9_j7 : Nat → Int32 → SS → Option SS
  | 0, _, _ => none
  | n + 1, x2, σ =>
    if (sI σ 20) ≤ x2 then
      some σ
    else
      (P_X0_at_9 x2 σ).bind fun v3 =>
      b2 (P_X0_add_8 v3 σ) fun v5 σ6 =>
      (P_X0_copy_8_9_j7 n) (x2 + 1) σ6
set_option maxHeartbeats 4000000 in
set_option maxRecDepth 100000 in
theorem T_X0_copy_8_9_j7 {X : XE} {σf : SS} : ∀ (fu : Nat) (x2 : Int32) (σ : SS), P_X0_copy_8_9_j7 fu x2 σ = some σf → V (gX X) 2 RX0 cX0_copy 3 none none σf 7 [(0, .ref (xq X 8)), (1, .ref (xq X 9)), (2, .int x2)] [] σ := by
  intro fu
  induction fu with
  | zero => intro x2 σ h; exact no0 h
  | succ n ih =>
    intro x2 σ h
    unfold P_X0_copy_8_9_j7 at h
    refine r_iload_n 2 dX0_copy_7 rfl rfl rfl ?_
    refine r_aload_n 1 dX0_copy_8 rfl rfl rfl ?_
    refine gf_X0_15_9 dX0_copy_9 rfl ?_
    refine r_icmp_ge (t := 31) dX0_copy_12 (by decide) rfl (fun c1 => ?_) (fun c1 => ?_)
    · have h := it_t c1 h
      exact r_vretS dX0_copy_31 h
    · have h := it_f c1 h
      refine r_aload_n 0 dX0_copy_15 rfl rfl rfl ?_
      refine r_aload_n 1 dX0_copy_16 rfl rfl rfl ?_
      refine r_iload_n 2 dX0_copy_17 rfl rfl rfl ?_
      obtain ⟨v3, e2, h⟩ := bd h
      refine r_callV (rest := [.ref (xq X 8)]) (T_X0_at_9 e2) (by decide) mf_X0_at rfl tw_698 tw_699 tw_697 cX_9 rfl rfl rfl (Nat.le_of_ble_eq_true rfl) dX0_copy_18 rfl ?_
      refine r_call0 ?_
      obtain ⟨v5, σ6, e4, h⟩ := b2d h
      refine r_callV (rest := []) (T_X0_add_8 e4) (by decide) mf_X0_add rfl tw_645 tw_646 tw_702 cX_8 rfl rfl rfl (Nat.le_of_ble_eq_true rfl) dX0_copy_21 rfl ?_
      refine r_call0 ?_
      refine r_pop rfl dX0_copy_24 rfl ?_
      refine r_iinc (v := (x2 + 1)) (lv' := [(2, .int (x2 + 1)), (0, .ref (xq X 8)), (1, .ref (xq X 9))]) 2 dX0_copy_25 rfl rfl (by decide) rfl rfl ?_
      refine r_goto (t := 7) dX0_copy_28 (by decide) ?_
      refine r_sub [1, 2, 0] rfl ?_
      exact ih (x2 + 1) σ6 h
def P_X0_copy_8_9 (σ : SS) : Option SS :=
  P_X0_copy_8_9_j7 FU 0 (uI σ 19 0)
set_option maxHeartbeats 4000000 in
set_option maxRecDepth 100000 in
theorem T_X0_copy_8_9 {X : XE} {σf : SS} {σ : SS} (h : P_X0_copy_8_9 σ = some σf) : Mt (gX X) 2 yX0_copy cX0_copy 3 none [.ref (xq X 8), .ref (xq X 9)] σ none σf := by
  refine Mt.of (own := RX0) (lv := [(0, .ref (xq X 8)), (1, .ref (xq X 9))]) pn_X0 rfl (Nat.le_of_ble_eq_true rfl) rfl ?_
  unfold P_X0_copy_8_9 at h
  refine r_aload_n 0 dX0_copy_0 rfl rfl rfl ?_
  refine ric_0 dX0_copy_1 rfl ?_
  refine pf_X0_15_8 dX0_copy_2 rfl ?_
  refine ric_0 dX0_copy_5 rfl ?_
  refine r_istore_n (lv' := [(2, .int 0), (0, .ref (xq X 8)), (1, .ref (xq X 9))]) dX0_copy_6 rfl (by decide) rfl rfl ?_
  refine r_sub [1, 2, 0] rfl ?_
  exact T_X0_copy_8_9_j7 FU 0 (uI σ 19 0) h
def P_X10_again (σ : SS) : Option (Int64 × SS) :=
  (P_X0_copy_8_9 σ).bind fun σ2 =>
  (P_X0_length_8 σ2).bind fun v4 =>
  some (v4.toInt64, σ2)
set_option maxHeartbeats 4000000 in
set_option maxRecDepth 100000 in
theorem T_X10_again {X : XE} {σf : SS} {r : Int64} {σ : SS} (h : P_X10_again σ = some (r, σf)) : Mt (gX X) 3 yX10_again cX10_again 1 (some .long) [.ref (xq X 0)] σ (some (.long r)) σf := by
  refine Mt.of (own := RX10) (lv := [(0, .ref (xq X 0))]) pn_X10 rfl (Nat.le_of_ble_eq_true rfl) rfl ?_
  unfold P_X10_again at h
  refine r_aload_n 0 dX10_again_0 rfl rfl rfl ?_
  refine gf_X10_53_0 dX10_again_1 rfl ?_
  refine r_aload_n 0 dX10_again_4 rfl rfl rfl ?_
  refine gf_X10_57_0 dX10_again_5 rfl ?_
  obtain ⟨σ2, e1, h⟩ := bd h
  refine r_callV (rest := []) (T_X0_copy_8_9 e1) (by decide) mf_X0_copy rfl tw_694 tw_695 tw_693 cX_8 rfl rfl rfl (Nat.le_of_ble_eq_true rfl) dX10_again_8 rfl ?_
  refine r_calln ?_
  refine r_aload_n 0 dX10_again_11 rfl rfl rfl ?_
  refine gf_X10_53_0 dX10_again_12 rfl ?_
  obtain ⟨v4, e3, h⟩ := bd h
  refine r_callV (rest := []) (T_X0_length_8 e3) (by decide) mf_X0_length rfl tw_704 tw_705 tw_703 cX_8 rfl rfl rfl (Nat.le_of_ble_eq_true rfl) dX10_again_15 rfl ?_
  refine r_call0 ?_
  refine r_i2l dX10_again_18 rfl ?_
  exact r_lretQ dX10_again_19 h
def P_X6_set_28 (a1 : Int32) (a2 : Int32) (σ : SS) : Option SS :=
  if a1 < 0 then
    some σ
  else
    if 300 ≤ a1 then
      some σ
    else
      gI a1 300 <|
      some (stA σ 14 a1 a2)
set_option maxHeartbeats 4000000 in
set_option maxRecDepth 100000 in
theorem T_X6_set_28 {X : XE} {σf : SS} {σ : SS} {a1 : Int32} {a2 : Int32} (h : P_X6_set_28 a1 a2 σ = some σf) : Mt (gX X) 0 yX6_set cX6_set 3 none [.ref (xq X 28), .int a1, .int a2] σ none σf := by
  refine Mt.of (own := RX6) (lv := [(0, .ref (xq X 28)), (1, .int a1), (2, .int a2)]) pn_X6 rfl (Nat.le_of_ble_eq_true rfl) rfl ?_
  unfold P_X6_set_28 at h
  refine r_iload_n 1 dX6_set_0 rfl rfl rfl ?_
  refine r_if_lt (t := 14) dX6_set_1 (by decide) rfl (fun c1 => ?_) (fun c1 => ?_)
  · have h := it_t c1 h
    exact r_vretS dX6_set_14 h
  · have h := it_f c1 h
    refine r_iload_n 1 dX6_set_4 rfl rfl rfl ?_
    refine r_aload_n 0 dX6_set_5 rfl rfl rfl ?_
    refine anX_28 dX6_set_6 rfl ?_
    refine r_icmp_ge (t := 14) dX6_set_7 (by decide) rfl (fun c2 => ?_) (fun c2 => ?_)
    · have h := it_t c2 h
      exact r_vretS dX6_set_14 h
    · have h := it_f c2 h
      refine r_aload_n 0 dX6_set_10 rfl rfl rfl ?_
      refine r_iload_n 1 dX6_set_11 rfl rfl rfl ?_
      refine r_iload_n 2 dX6_set_12 rfl rfl rfl ?_
      obtain ⟨hi3, h⟩ := gi h
      refine asX_28 hi3 dX6_set_13 rfl ?_
      exact r_vretS dX6_set_14 h
def P_X6_at_35 (a1 : Int32) (σ : SS) : Option Int32 :=
  if a1 < 0 then
    some 0
  else
    if 300 ≤ a1 then
      some 0
    else
      gI a1 300 <|
      some (ldA σ 19 a1)
set_option maxHeartbeats 4000000 in
set_option maxRecDepth 100000 in
theorem T_X6_at_35 {X : XE} {σ : SS} {r : Int32} {a1 : Int32} (h : P_X6_at_35 a1 σ = some r) : Mt (gX X) 0 yX6_at cX6_at 2 (some .int) [.ref (xq X 35), .int a1] σ (some (.int r)) σ := by
  refine Mt.of (own := RX6) (lv := [(0, .ref (xq X 35)), (1, .int a1)]) pn_X6 rfl (Nat.le_of_ble_eq_true rfl) rfl ?_
  unfold P_X6_at_35 at h
  refine r_iload_n 1 dX6_at_0 rfl rfl rfl ?_
  refine r_if_lt (t := 16) dX6_at_1 (by decide) rfl (fun c1 => ?_) (fun c1 => ?_)
  · have h := it_t c1 h
    refine ric_0 dX6_at_16 rfl ?_
    exact r_iretR dX6_at_17 h
  · have h := it_f c1 h
    refine r_iload_n 1 dX6_at_4 rfl rfl rfl ?_
    refine r_aload_n 0 dX6_at_5 rfl rfl rfl ?_
    refine anX_35 dX6_at_6 rfl ?_
    refine r_icmp_ge (t := 16) dX6_at_7 (by decide) rfl (fun c2 => ?_) (fun c2 => ?_)
    · have h := it_t c2 h
      refine ric_0 dX6_at_16 rfl ?_
      exact r_iretR dX6_at_17 h
    · have h := it_f c2 h
      refine r_aload_n 0 dX6_at_10 rfl rfl rfl ?_
      refine r_iload_n 1 dX6_at_11 rfl rfl rfl ?_
      obtain ⟨hi3, h⟩ := gi h
      refine alX_35 hi3 dX6_at_12 rfl ?_
      refine r_goto (t := 17) dX6_at_13 (by decide) ?_
      exact r_iretR dX6_at_17 h
def P_X0_at_8 (a1 : Int32) (σ : SS) : Option Int32 :=
  if (sI σ 19) ≤ a1 then
    some 0
  else
    (P_X6_at_35 a1 σ).bind fun v3 =>
    some v3
set_option maxHeartbeats 4000000 in
set_option maxRecDepth 100000 in
theorem T_X0_at_8 {X : XE} {σ : SS} {r : Int32} {a1 : Int32} (h : P_X0_at_8 a1 σ = some r) : Mt (gX X) 1 yX0_at cX0_at 2 (some .int) [.ref (xq X 8), .int a1] σ (some (.int r)) σ := by
  refine Mt.of (own := RX0) (lv := [(0, .ref (xq X 8)), (1, .int a1)]) pn_X0 rfl (Nat.le_of_ble_eq_true rfl) rfl ?_
  unfold P_X0_at_8 at h
  refine r_iload_n 1 dX0_at_0 rfl rfl rfl ?_
  refine r_aload_n 0 dX0_at_1 rfl rfl rfl ?_
  refine gf_X0_15_8 dX0_at_2 rfl ?_
  refine r_icmp_ge (t := 19) dX0_at_5 (by decide) rfl (fun c1 => ?_) (fun c1 => ?_)
  · have h := it_t c1 h
    refine ric_0 dX0_at_19 rfl ?_
    exact r_iretR dX0_at_20 h
  · have h := it_f c1 h
    refine r_aload_n 0 dX0_at_8 rfl rfl rfl ?_
    refine gf_X0_9_8 dX0_at_9 rfl ?_
    refine r_iload_n 1 dX0_at_12 rfl rfl rfl ?_
    obtain ⟨v3, e2, h⟩ := bd h
    refine r_callS (As := [.ref (xq X 35), .int a1]) (rest := []) (T_X6_at_35 e2) (by decide) mf_X6_at rfl tw_446 tw_701 rfl (Nat.le_of_ble_eq_true rfl) dX0_at_13 rfl ?_
    refine r_call0 ?_
    refine r_goto (t := 20) dX0_at_16 (by decide) ?_
    exact r_iretR dX0_at_20 h
def P_X5_opens (a1 : Int32) (a2 : Int32) (a3 : Int32) (σ : SS) : Option Int32 :=
  if ¬ a2 = 0 then
    if ¬ a2 = 3 then
      (P_X6_at___O a2).bind fun v4 =>
      if ¬ a3 = v4 then
        some 0
      else
        some 1
    else
      if a3 = 49 then
        some 1
      else
        if ¬ a3 = 50 then
          some 0
        else
          some 1
  else
    (P_X1_b a1 σ).bind fun v9 =>
    if ¬ a3 = (97 + v9) then
      some 0
    else
      some 1
set_option maxHeartbeats 4000000 in
set_option maxRecDepth 100000 in
theorem T_X5_opens {X : XE} {σ : SS} {r : Int32} {a1 : Int32} {a2 : Int32} {a3 : Int32} (h : P_X5_opens a1 a2 a3 σ = some r) : Mt (gX X) 1 yX5_opens cX5_opens 4 (some .boolean) [.ref (xq X 6), .int a1, .int a2, .int a3] σ (some (.int r)) σ := by
  refine Mt.of (own := RX5) (lv := [(0, .ref (xq X 6)), (1, .int a1), (2, .int a2), (3, .int a3)]) pn_X5 rfl (Nat.le_of_ble_eq_true rfl) rfl ?_
  unfold P_X5_opens at h
  refine r_iload_n 2 dX5_opens_0 rfl rfl rfl ?_
  refine r_if_ne (t := 25) dX5_opens_1 (by decide) rfl (fun c1 => ?_) (fun c1 => ?_)
  · have h := it_t c1 h
    refine r_iload_n 2 dX5_opens_25 rfl rfl rfl ?_
    refine ric_3 dX5_opens_26 rfl ?_
    refine r_icmp_ne (t := 48) dX5_opens_27 (by decide) rfl (fun c2 => ?_) (fun c2 => ?_)
    · have h := it_t c2 h
      refine r_iload_n 3 dX5_opens_48 rfl rfl rfl ?_
      refine r_getsO (fun u h => h.2.2.1) dX5_opens_49 rfl ?_
      refine r_iload_n 2 dX5_opens_52 rfl rfl rfl ?_
      obtain ⟨v4, e3, h⟩ := bd h
      refine r_callS (As := [.ref (gO (gX X)), .int a2]) (rest := [.int a3]) (T_X6_at___O e3) (by decide) mf_X6_at__ rfl tw_670 tw_750 rfl (Nat.le_of_ble_eq_true rfl) dX5_opens_53 rfl ?_
      refine r_call0 ?_
      refine r_icmp_ne (t := 63) dX5_opens_56 (by decide) rfl (fun c5 => ?_) (fun c5 => ?_)
      · have h := it_t c5 h
        refine ric_0 dX5_opens_63 rfl ?_
        exact r_zretR (Or.inl rfl) dX5_opens_64 h
      · have h := it_n c5 h
        refine ric_1 dX5_opens_59 rfl ?_
        refine r_goto (t := 64) dX5_opens_60 (by decide) ?_
        exact r_zretR (Or.inr rfl) dX5_opens_64 h
    · have h := it_n c2 h
      refine r_iload_n 3 dX5_opens_30 rfl rfl rfl ?_
      refine r_bipush (v := 49) dX5_opens_31 (by decide) rfl ?_
      refine r_icmp_eq (t := 42) dX5_opens_33 (by decide) rfl (fun c6 => ?_) (fun c6 => ?_)
      · have h := it_t c6 h
        refine ric_1 dX5_opens_42 rfl ?_
        refine r_goto (t := 47) dX5_opens_43 (by decide) ?_
        exact r_zretR (Or.inr rfl) dX5_opens_47 h
      · have h := it_f c6 h
        refine r_iload_n 3 dX5_opens_36 rfl rfl rfl ?_
        refine r_bipush (v := 50) dX5_opens_37 (by decide) rfl ?_
        refine r_icmp_ne (t := 46) dX5_opens_39 (by decide) rfl (fun c7 => ?_) (fun c7 => ?_)
        · have h := it_t c7 h
          refine ric_0 dX5_opens_46 rfl ?_
          exact r_zretR (Or.inl rfl) dX5_opens_47 h
        · have h := it_n c7 h
          refine ric_1 dX5_opens_42 rfl ?_
          refine r_goto (t := 47) dX5_opens_43 (by decide) ?_
          exact r_zretR (Or.inr rfl) dX5_opens_47 h
  · have h := it_n c1 h
    refine r_iload_n 3 dX5_opens_4 rfl rfl rfl ?_
    refine r_bipush (v := 97) dX5_opens_5 (by decide) rfl ?_
    refine r_aload_n 0 dX5_opens_7 rfl rfl rfl ?_
    refine gf_X5_30_6 dX5_opens_8 rfl ?_
    refine r_iload_n 1 dX5_opens_11 rfl rfl rfl ?_
    obtain ⟨v9, e8, h⟩ := bd h
    refine r_callV (rest := [.int 97, .int a3]) (T_X1_b e8) (by decide) mf_X1_b rfl tw_428 tw_429 tw_748 cX_1 rfl rfl rfl (Nat.le_of_ble_eq_true rfl) dX5_opens_12 rfl ?_
    refine r_call0 ?_
    refine r_iadd dX5_opens_15 rfl ?_
    refine r_icmp_ne (t := 23) dX5_opens_16 (by decide) rfl (fun c10 => ?_) (fun c10 => ?_)
    · have h := it_t c10 h
      refine ric_0 dX5_opens_23 rfl ?_
      exact r_zretR (Or.inl rfl) dX5_opens_24 h
    · have h := it_n c10 h
      refine ric_1 dX5_opens_19 rfl ?_
      refine r_goto (t := 24) dX5_opens_20 (by decide) ?_
      exact r_zretR (Or.inr rfl) dX5_opens_24 h
