def P_X11_setOf_j35 (rec : (Int32 → Int32 → Int64 → SS → Option SS)) (K27 : Int32 → Int64 → Int32 → SS → Option SS) : Nat → Int32 → Int64 → Int32 → Int32 → SS → Option SS
  | 0, _, _, _, _, _ => none
  | n + 1, x1, x5, x7, x8, σ =>
    (P_X11_upToOf x1 x7 x8 σ).bind fun v2 =>
    if x5 < v2 then
      (P_X11_firstOf x1 x7 x8 x5 σ).bind fun v5 =>
      (P_X11_waysBelow x1 x7 x8 v5 σ).bind fun v7 =>
      gI x1 16 <|
      (rec (ldA σ 1 x1) x8 v5 σ).bind fun σ10 =>
      K27 x1 (x5 - v7) (x7 - x8) σ10
    else
      (P_X11_setOf_j35 rec K27 n) x1 x5 x7 (x8 + 1) σ
set_option maxHeartbeats 4000000 in
set_option maxRecDepth 100000 in
theorem T_X11_setOf_j35 {X : XE} {e : Nat} (he : 4 ≤ e) {rec : (Int32 → Int32 → Int64 → SS → Option SS)} (hrec : ∀ (a b : Int32) (c : Int64) (σ σ1 : SS), rec a b c σ = some σ1 → Mt (gM X) e yX11_thingOf cX11_thingOf 5 none [.ref (xq X 0), .int a, .int b, .long c] σ none σ1) {σf : SS} {K27 : Int32 → Int64 → Int32 → SS → Option SS} (hK27 : ∀ (x1 : Int32) (x5 : Int64) (x7 : Int32) (σ : SS), K27 x1 x5 x7 σ = some σf → V (gM X) (e + 1) RX11 cX11_setOf 11 none none σf 27 [(0, .ref (xq X 0)), (1, .int x1), (5, .long x5), (7, .int x7)] [] σ) : ∀ (fu : Nat) (x1 : Int32) (x5 : Int64) (x7 : Int32) (x8 : Int32) (σ : SS), P_X11_setOf_j35 rec K27 fu x1 x5 x7 x8 σ = some σf → V (gM X) (e + 1) RX11 cX11_setOf 11 none none σf 35 [(0, .ref (xq X 0)), (1, .int x1), (5, .long x5), (7, .int x7), (8, .int x8)] [] σ := by
  intro fu
  induction fu with
  | zero => intro x1 x5 x7 x8 σ h; exact no0 h
  | succ n ih =>
    intro x1 x5 x7 x8 σ h
    unfold P_X11_setOf_j35 at h
    refine r_lload 2 dX11_setOf_35 rfl rfl ?_
    refine r_aload_n 0 dX11_setOf_37 rfl rfl rfl ?_
    refine r_iload_n 1 dX11_setOf_38 rfl rfl rfl ?_
    refine r_iload 3 dX11_setOf_39 rfl rfl ?_
    refine r_iload 4 dX11_setOf_41 rfl rfl ?_
    obtain ⟨v2, e1, h⟩ := bd h
    refine r_callV (rest := [.long x5]) (T_X11_upToOf e1) (by omega) mf_X11_upToOf rfl tw_1178 tw_58 tw_1176 cM_0 rfl rfl rfl (Nat.le_of_ble_eq_true rfl) dX11_setOf_43 rfl ?_
    refine r_call0 ?_
    refine r_lif_lt (t := 56) dX11_setOf_46 rfl dX11_setOf_47 (by decide) rfl (fun c3 => ?_) (fun c3 => ?_)
    · have h := it_t c3 h
      refine r_aload_n 0 dX11_setOf_56 rfl rfl rfl ?_
      refine r_iload_n 1 dX11_setOf_57 rfl rfl rfl ?_
      refine r_iload 3 dX11_setOf_58 rfl rfl ?_
      refine r_iload 4 dX11_setOf_60 rfl rfl ?_
      refine r_lload 2 dX11_setOf_62 rfl rfl ?_
      obtain ⟨v5, e4, h⟩ := bd h
      refine r_callV (rest := []) (T_X11_firstOf e4) (by omega) mf_X11_firstOf rfl tw_1235 tw_66 tw_1233 cM_0 rfl rfl rfl (Nat.le_of_ble_eq_true rfl) dX11_setOf_64 rfl ?_
      refine r_call0 ?_
      refine r_lstore (lv' := [(9, .long v5), (0, .ref (xq X 0)), (1, .int x1), (5, .long x5), (7, .int x7), (8, .int x8)]) dX11_setOf_67 (by decide) rfl rfl ?_
      refine r_lload 3 dX11_setOf_69 rfl rfl ?_
      refine r_aload_n 1 dX11_setOf_71 rfl rfl rfl ?_
      refine r_iload_n 2 dX11_setOf_72 rfl rfl rfl ?_
      refine r_iload 4 dX11_setOf_73 rfl rfl ?_
      refine r_iload 5 dX11_setOf_75 rfl rfl ?_
      refine r_lload 0 dX11_setOf_77 rfl rfl ?_
      obtain ⟨v7, e6, h⟩ := bd h
      refine r_callV (rest := [.long x5]) (T_X11_waysBelow e6) (by omega) mf_X11_waysBelow rfl tw_1168 tw_57 tw_1166 cM_0 rfl rfl rfl (Nat.le_of_ble_eq_true rfl) dX11_setOf_79 rfl ?_
      refine r_call0 ?_
      refine r_lsub dX11_setOf_82 rfl ?_
      refine r_lstore (lv' := [(5, .long (x5 - v7)), (9, .long v5), (0, .ref (xq X 0)), (1, .int x1), (7, .int x7), (8, .int x8)]) dX11_setOf_83 (by decide) rfl rfl ?_
      refine r_aload_n 2 dX11_setOf_85 rfl rfl rfl ?_
      refine r_aload_n 2 dX11_setOf_86 rfl rfl rfl ?_
      refine gf_X11_13_0 dX11_setOf_87 rfl ?_
      refine r_iload_n 3 dX11_setOf_90 rfl rfl rfl ?_
      obtain ⟨hi8, h⟩ := gi h
      refine alM_2 hi8 dX11_setOf_91 rfl ?_
      refine r_iload 5 dX11_setOf_92 rfl rfl ?_
      refine r_lload 1 dX11_setOf_94 rfl rfl ?_
      obtain ⟨σ10, e9, h⟩ := bd h
      refine r_callV (rest := []) (hrec _ _ _ _ _ e9) (by omega) mf_X11_thingOf rfl tw_1207 tw_59 tw_1205 cM_0 rfl rfl rfl (Nat.le_of_ble_eq_true rfl) dX11_setOf_96 rfl ?_
      refine r_calln ?_
      refine r_iload 4 dX11_setOf_99 rfl rfl ?_
      refine r_iload 5 dX11_setOf_101 rfl rfl ?_
      refine r_isub dX11_setOf_103 rfl ?_
      refine r_istore (lv' := [(7, .int (x7 - x8)), (5, .long (x5 - v7)), (9, .long v5), (0, .ref (xq X 0)), (1, .int x1), (8, .int x8)]) dX11_setOf_104 (by decide) rfl rfl ?_
      refine r_goto (t := 27) dX11_setOf_106 (by decide) ?_
      refine r_sub [3, 4, 1, 0] rfl ?_
      exact hK27 x1 (x5 - v7) (x7 - x8) σ10 h
    · have h := it_f c3 h
      refine r_iinc (v := (x8 + 1)) (lv' := [(8, .int (x8 + 1)), (0, .ref (xq X 0)), (1, .int x1), (5, .long x5), (7, .int x7)]) 4 dX11_setOf_50 rfl rfl (by decide) rfl rfl ?_
      refine r_goto (t := 35) dX11_setOf_53 (by decide) ?_
      refine r_sub [1, 2, 3, 4, 0] rfl ?_
      exact ih x1 x5 x7 (x8 + 1) σ h
def P_X11_setOf_j27 (rec : (Int32 → Int32 → Int64 → SS → Option SS)) : Nat → Int32 → Int64 → Int32 → SS → Option SS
  | 0, _, _, _, _ => none
  | n + 1, x1, x5, x7, σ =>
    if x7 ≤ 0 then
      gI x1 16 <|
      if ¬ (ldA σ 0 x1) = 5 then
        (P_X11_write 62 σ).bind fun σ5 =>
        some σ5
      else
        (P_X11_write 125 σ).bind fun σ7 =>
        some σ7
    else
      P_X11_setOf_j35 rec (P_X11_setOf_j27 rec n) FU x1 x5 x7 1 σ
set_option maxHeartbeats 4000000 in
set_option maxRecDepth 100000 in
theorem T_X11_setOf_j27 {X : XE} {e : Nat} (he : 4 ≤ e) {rec : (Int32 → Int32 → Int64 → SS → Option SS)} (hrec : ∀ (a b : Int32) (c : Int64) (σ σ1 : SS), rec a b c σ = some σ1 → Mt (gM X) e yX11_thingOf cX11_thingOf 5 none [.ref (xq X 0), .int a, .int b, .long c] σ none σ1) {σf : SS} : ∀ (fu : Nat) (x1 : Int32) (x5 : Int64) (x7 : Int32) (σ : SS), P_X11_setOf_j27 rec fu x1 x5 x7 σ = some σf → V (gM X) (e + 1) RX11 cX11_setOf 11 none none σf 27 [(0, .ref (xq X 0)), (1, .int x1), (5, .long x5), (7, .int x7)] [] σ := by
  intro fu
  induction fu with
  | zero => intro x1 x5 x7 σ h; exact no0 h
  | succ n ih =>
    intro x1 x5 x7 σ h
    unfold P_X11_setOf_j27 at h
    refine r_iload 3 dX11_setOf_27 rfl rfl ?_
    refine r_if_le (t := 109) dX11_setOf_29 (by decide) rfl (fun c1 => ?_) (fun c1 => ?_)
    · have h := it_t c1 h
      refine r_aload_n 0 dX11_setOf_109 rfl rfl rfl ?_
      refine r_aload_n 0 dX11_setOf_110 rfl rfl rfl ?_
      refine gf_X11_7_0 dX11_setOf_111 rfl ?_
      refine r_iload_n 1 dX11_setOf_114 rfl rfl rfl ?_
      obtain ⟨hi2, h⟩ := gi h
      refine alM_1 hi2 dX11_setOf_115 rfl ?_
      refine ric_5 dX11_setOf_116 rfl ?_
      refine r_icmp_ne (t := 125) dX11_setOf_117 (by decide) rfl (fun c3 => ?_) (fun c3 => ?_)
      · have h := it_t c3 h
        refine r_bipush (v := 62) dX11_setOf_125 (by decide) rfl ?_
        obtain ⟨σ5, e4, h⟩ := bd h
        refine r_callV (rest := []) (T_X11_write e4) (by omega) mf_X11_write rfl tw_1211 tw_60 tw_1209 cM_0 rfl rfl rfl (Nat.le_of_ble_eq_true rfl) dX11_setOf_127 rfl ?_
        refine r_calln ?_
        exact r_vretS dX11_setOf_130 h
      · have h := it_n c3 h
        refine r_bipush (v := 125) dX11_setOf_120 (by decide) rfl ?_
        refine r_goto (t := 127) dX11_setOf_122 (by decide) ?_
        obtain ⟨σ7, e6, h⟩ := bd h
        refine r_callV (rest := []) (T_X11_write e6) (by omega) mf_X11_write rfl tw_1211 tw_60 tw_1209 cM_0 rfl rfl rfl (Nat.le_of_ble_eq_true rfl) dX11_setOf_127 rfl ?_
        refine r_calln ?_
        exact r_vretS dX11_setOf_130 h
    · have h := it_f c1 h
      refine ric_1 dX11_setOf_32 rfl ?_
      refine r_istore (lv' := [(8, .int 1), (0, .ref (xq X 0)), (1, .int x1), (5, .long x5), (7, .int x7)]) dX11_setOf_33 (by decide) rfl rfl ?_
      refine r_sub [1, 2, 3, 4, 0] rfl ?_
      exact T_X11_setOf_j35 he hrec ih FU x1 x5 x7 1 σ h
def P_X11_setOf_j24 (rec : (Int32 → Int32 → Int64 → SS → Option SS)) (x1 : Int32) (x5 : Int64) (x7 : Int32) (y0 : Int32) (σ : SS) : Option SS :=
  (P_X11_write y0 σ).bind fun σ2 =>
  P_X11_setOf_j27 rec FU x1 x5 x7 σ2
set_option maxHeartbeats 4000000 in
set_option maxRecDepth 100000 in
theorem T_X11_setOf_j24 {X : XE} {e : Nat} (he : 4 ≤ e) {rec : (Int32 → Int32 → Int64 → SS → Option SS)} (hrec : ∀ (a b : Int32) (c : Int64) (σ σ1 : SS), rec a b c σ = some σ1 → Mt (gM X) e yX11_thingOf cX11_thingOf 5 none [.ref (xq X 0), .int a, .int b, .long c] σ none σ1) {σf : SS} : ∀ (x1 : Int32) (x5 : Int64) (x7 : Int32) (y0 : Int32) (σ : SS), P_X11_setOf_j24 rec x1 x5 x7 y0 σ = some σf → V (gM X) (e + 1) RX11 cX11_setOf 11 none none σf 24 [(0, .ref (xq X 0)), (1, .int x1), (5, .long x5), (7, .int x7)] [.int y0, .ref (xq X 0)] σ := by
  intro x1 x5 x7 y0 σ h
  unfold P_X11_setOf_j24 at h
  obtain ⟨σ2, e1, h⟩ := bd h
  refine r_callV (rest := []) (T_X11_write e1) (by omega) mf_X11_write rfl tw_1211 tw_60 tw_1209 cM_0 rfl rfl rfl (Nat.le_of_ble_eq_true rfl) dX11_setOf_24 rfl ?_
  refine r_calln ?_
  exact T_X11_setOf_j27 he hrec FU x1 x5 x7 σ2 h
def P_X11_setOf (rec : (Int32 → Int32 → Int64 → SS → Option SS)) (a1 : Int32) (a2 : Int32) (a3 : Int64) (σ : SS) : Option SS :=
  gI a1 16 <|
  if ¬ (ldA σ 0 a1) = 5 then
    P_X11_setOf_j24 rec a1 a3 a2 60 σ
  else
    P_X11_setOf_j24 rec a1 a3 a2 123 σ
set_option maxHeartbeats 4000000 in
set_option maxRecDepth 100000 in
theorem T_X11_setOf {X : XE} {e : Nat} (he : 4 ≤ e) {rec : (Int32 → Int32 → Int64 → SS → Option SS)} (hrec : ∀ (a b : Int32) (c : Int64) (σ σ1 : SS), rec a b c σ = some σ1 → Mt (gM X) e yX11_thingOf cX11_thingOf 5 none [.ref (xq X 0), .int a, .int b, .long c] σ none σ1) {σf : SS} {σ : SS} {a1 : Int32} {a2 : Int32} {a3 : Int64} (h : P_X11_setOf rec a1 a2 a3 σ = some σf) : Mt (gM X) (e + 1) yX11_setOf cX11_setOf 11 none [.ref (xq X 0), .int a1, .int a2, .long a3] σ none σf := by
  refine Mt.of (own := RX11) (lv := [(0, .ref (xq X 0)), (1, .int a1), (2, .int a2), (3, .long a3)]) pn_X11 rfl (Nat.le_of_ble_eq_true rfl) rfl ?_
  unfold P_X11_setOf at h
  refine r_lload_n 3 dX11_setOf_0 rfl rfl rfl ?_
  refine r_lstore (lv' := [(5, .long a3), (0, .ref (xq X 0)), (1, .int a1), (2, .int a2), (3, .long a3)]) dX11_setOf_1 (by decide) rfl rfl ?_
  refine r_iload_n 3 dX11_setOf_3 rfl rfl rfl ?_
  refine r_istore (lv' := [(7, .int a2), (5, .long a3), (0, .ref (xq X 0)), (1, .int a1), (2, .int a2), (3, .long a3)]) dX11_setOf_4 (by decide) rfl rfl ?_
  refine r_aload_n 2 dX11_setOf_6 rfl rfl rfl ?_
  refine r_aload_n 2 dX11_setOf_7 rfl rfl rfl ?_
  refine gf_X11_7_0 dX11_setOf_8 rfl ?_
  refine r_iload_n 3 dX11_setOf_11 rfl rfl rfl ?_
  obtain ⟨hi1, h⟩ := gi h
  refine alM_1 hi1 dX11_setOf_12 rfl ?_
  refine ric_5 dX11_setOf_13 rfl ?_
  refine r_icmp_ne (t := 22) dX11_setOf_14 (by decide) rfl (fun c2 => ?_) (fun c2 => ?_)
  · have h := it_t c2 h
    refine r_bipush (v := 60) dX11_setOf_22 (by decide) rfl ?_
    refine r_sub [2, 3, 1, 0] rfl ?_
    exact T_X11_setOf_j24 he hrec a1 a3 a2 60 σ h
  · have h := it_n c2 h
    refine r_bipush (v := 123) dX11_setOf_17 (by decide) rfl ?_
    refine r_goto (t := 24) dX11_setOf_19 (by decide) ?_
    refine r_sub [2, 3, 1, 0] rfl ?_
    exact T_X11_setOf_j24 he hrec a1 a3 a2 123 σ h
def P_X11_lettersOf_j81 (K17 : Int64 → Int32 → Int32 → SS → Option SS) (K47 : Int64 → Int32 → Int32 → Int32 → Int32 → SS → Option SS) (x4 : Int64) (x6 : Int32) (x7 : Int32) (x11 : Int32) (y0 : Int32) (y1 : Int32) (σ : SS) : Option SS :=
  K47 x4 x6 x7 (y1 - y0) (x11 + 1) σ
set_option maxHeartbeats 4000000 in
set_option maxRecDepth 100000 in
theorem T_X11_lettersOf_j81 {X : XE} {σf : SS} {K17 : Int64 → Int32 → Int32 → SS → Option SS} {K47 : Int64 → Int32 → Int32 → Int32 → Int32 → SS → Option SS} (hK17 : ∀ (x4 : Int64) (x6 : Int32) (x7 : Int32) (σ : SS), K17 x4 x6 x7 σ = some σf → V (gM X) 1 RX11 cX11_lettersOf 12 none none σf 17 [(0, .ref (xq X 0)), (4, .long x4), (6, .int x6), (7, .int x7)] [] σ) (hK47 : ∀ (x4 : Int64) (x6 : Int32) (x7 : Int32) (x10 : Int32) (x11 : Int32) (σ : SS), K47 x4 x6 x7 x10 x11 σ = some σf → V (gM X) 1 RX11 cX11_lettersOf 12 none none σf 47 [(0, .ref (xq X 0)), (4, .long x4), (6, .int x6), (7, .int x7), (10, .int x10), (11, .int x11)] [] σ) : ∀ (x4 : Int64) (x6 : Int32) (x7 : Int32) (x11 : Int32) (y0 : Int32) (y1 : Int32) (σ : SS), P_X11_lettersOf_j81 K17 K47 x4 x6 x7 x11 y0 y1 σ = some σf → V (gM X) 1 RX11 cX11_lettersOf 12 none none σf 81 [(0, .ref (xq X 0)), (4, .long x4), (6, .int x6), (7, .int x7), (11, .int x11)] [.int y0, .int y1] σ := by
  intro x4 x6 x7 x11 y0 y1 σ h
  unfold P_X11_lettersOf_j81 at h
  refine r_isub dX11_lettersOf_81 rfl ?_
  refine r_istore (lv' := [(10, .int (y1 - y0)), (0, .ref (xq X 0)), (4, .long x4), (6, .int x6), (7, .int x7), (11, .int x11)]) dX11_lettersOf_82 (by decide) rfl rfl ?_
  refine r_iinc (v := (x11 + 1)) (lv' := [(11, .int (x11 + 1)), (10, .int (y1 - y0)), (0, .ref (xq X 0)), (4, .long x4), (6, .int x6), (7, .int x7)]) 5 dX11_lettersOf_84 rfl rfl (by decide) rfl rfl ?_
  refine r_goto (t := 47) dX11_lettersOf_87 (by decide) ?_
  refine r_sub [2, 3, 4, 5, 1, 0] rfl ?_
  exact hK47 x4 x6 x7 (y1 - y0) (x11 + 1) σ h
def P_X11_lettersOf_j63 (K17 : Int64 → Int32 → Int32 → SS → Option SS) (K47 : Int64 → Int32 → Int32 → Int32 → Int32 → SS → Option SS) (x4 : Int64) (x6 : Int32) (x7 : Int32) (x10 : Int32) (x11 : Int32) (σ : SS) : Option SS :=
  if ¬ ((x6 >>> (x11 &&& 31)) &&& 1) = 1 then
    P_X11_lettersOf_j81 K17 K47 x4 x6 x7 x11 1 x10 σ
  else
    P_X11_lettersOf_j81 K17 K47 x4 x6 x7 x11 0 x10 σ
set_option maxHeartbeats 4000000 in
set_option maxRecDepth 100000 in
theorem T_X11_lettersOf_j63 {X : XE} {σf : SS} {K17 : Int64 → Int32 → Int32 → SS → Option SS} {K47 : Int64 → Int32 → Int32 → Int32 → Int32 → SS → Option SS} (hK17 : ∀ (x4 : Int64) (x6 : Int32) (x7 : Int32) (σ : SS), K17 x4 x6 x7 σ = some σf → V (gM X) 1 RX11 cX11_lettersOf 12 none none σf 17 [(0, .ref (xq X 0)), (4, .long x4), (6, .int x6), (7, .int x7)] [] σ) (hK47 : ∀ (x4 : Int64) (x6 : Int32) (x7 : Int32) (x10 : Int32) (x11 : Int32) (σ : SS), K47 x4 x6 x7 x10 x11 σ = some σf → V (gM X) 1 RX11 cX11_lettersOf 12 none none σf 47 [(0, .ref (xq X 0)), (4, .long x4), (6, .int x6), (7, .int x7), (10, .int x10), (11, .int x11)] [] σ) : ∀ (x4 : Int64) (x6 : Int32) (x7 : Int32) (x10 : Int32) (x11 : Int32) (σ : SS), P_X11_lettersOf_j63 K17 K47 x4 x6 x7 x10 x11 σ = some σf → V (gM X) 1 RX11 cX11_lettersOf 12 none none σf 63 [(0, .ref (xq X 0)), (4, .long x4), (6, .int x6), (7, .int x7), (10, .int x10), (11, .int x11)] [] σ := by
  intro x4 x6 x7 x10 x11 σ h
  unfold P_X11_lettersOf_j63 at h
  refine r_iload 4 dX11_lettersOf_63 rfl rfl ?_
  refine r_iload 2 dX11_lettersOf_65 rfl rfl ?_
  refine r_iload 5 dX11_lettersOf_67 rfl rfl ?_
  refine r_ishr dX11_lettersOf_69 rfl ?_
  refine ric_1 dX11_lettersOf_70 rfl ?_
  refine r_iand dX11_lettersOf_71 rfl ?_
  refine ric_1 dX11_lettersOf_72 rfl ?_
  refine r_icmp_ne (t := 80) dX11_lettersOf_73 (by decide) rfl (fun c1 => ?_) (fun c1 => ?_)
  · have h := it_t c1 h
    refine ric_1 dX11_lettersOf_80 rfl ?_
    refine r_sub [0, 1, 2, 3, 5] rfl ?_
    exact T_X11_lettersOf_j81 hK17 hK47 x4 x6 x7 x11 1 x10 σ h
  · have h := it_n c1 h
    refine ric_0 dX11_lettersOf_76 rfl ?_
    refine r_goto (t := 81) dX11_lettersOf_77 (by decide) ?_
    refine r_sub [0, 1, 2, 3, 5] rfl ?_
    exact T_X11_lettersOf_j81 hK17 hK47 x4 x6 x7 x11 0 x10 σ h
def P_X11_lettersOf_j47 (K17 : Int64 → Int32 → Int32 → SS → Option SS) : Nat → Int64 → Int32 → Int32 → Int32 → Int32 → SS → Option SS
  | 0, _, _, _, _, _, _ => none
  | n + 1, x4, x6, x7, x10, x11, σ =>
    if 0 < x10 then
      P_X11_lettersOf_j63 K17 (P_X11_lettersOf_j47 K17 n) x4 x6 x7 x10 x11 σ
    else
      if ¬ ((x6 >>> (x11 &&& 31)) &&& 1) = 1 then
        (P_X11_write (97 + x11) σ).bind fun σ4 =>
        K17 x4 (x6 ||| ((1 : Int32) <<< (x11 &&& 31))) (x7 + (-1)) σ4
      else
        P_X11_lettersOf_j63 K17 (P_X11_lettersOf_j47 K17 n) x4 x6 x7 x10 x11 σ
set_option maxHeartbeats 4000000 in
set_option maxRecDepth 100000 in
theorem T_X11_lettersOf_j47 {X : XE} {σf : SS} {K17 : Int64 → Int32 → Int32 → SS → Option SS} (hK17 : ∀ (x4 : Int64) (x6 : Int32) (x7 : Int32) (σ : SS), K17 x4 x6 x7 σ = some σf → V (gM X) 1 RX11 cX11_lettersOf 12 none none σf 17 [(0, .ref (xq X 0)), (4, .long x4), (6, .int x6), (7, .int x7)] [] σ) : ∀ (fu : Nat) (x4 : Int64) (x6 : Int32) (x7 : Int32) (x10 : Int32) (x11 : Int32) (σ : SS), P_X11_lettersOf_j47 K17 fu x4 x6 x7 x10 x11 σ = some σf → V (gM X) 1 RX11 cX11_lettersOf 12 none none σf 47 [(0, .ref (xq X 0)), (4, .long x4), (6, .int x6), (7, .int x7), (10, .int x10), (11, .int x11)] [] σ := by
  intro fu
  induction fu with
  | zero => intro x4 x6 x7 x10 x11 σ h; exact no0 h
  | succ n ih =>
    intro x4 x6 x7 x10 x11 σ h
    unfold P_X11_lettersOf_j47 at h
    refine r_iload 4 dX11_lettersOf_47 rfl rfl ?_
    refine r_if_gt (t := 63) dX11_lettersOf_49 (by decide) rfl (fun c1 => ?_) (fun c1 => ?_)
    · have h := it_t c1 h
      exact T_X11_lettersOf_j63 hK17 ih x4 x6 x7 x10 x11 σ h
    · have h := it_f c1 h
      refine r_iload 2 dX11_lettersOf_52 rfl rfl ?_
      refine r_iload 5 dX11_lettersOf_54 rfl rfl ?_
      refine r_ishr dX11_lettersOf_56 rfl ?_
      refine ric_1 dX11_lettersOf_57 rfl ?_
      refine r_iand dX11_lettersOf_58 rfl ?_
      refine ric_1 dX11_lettersOf_59 rfl ?_
      refine r_icmp_ne (t := 90) dX11_lettersOf_60 (by decide) rfl (fun c2 => ?_) (fun c2 => ?_)
      · have h := it_t c2 h
        refine r_iload 2 dX11_lettersOf_90 rfl rfl ?_
        refine ric_1 dX11_lettersOf_92 rfl ?_
        refine r_iload 5 dX11_lettersOf_93 rfl rfl ?_
        refine r_ishl dX11_lettersOf_95 rfl ?_
        refine r_ior dX11_lettersOf_96 rfl ?_
        refine r_istore (lv' := [(6, .int (x6 ||| ((1 : Int32) <<< (x11 &&& 31)))), (0, .ref (xq X 0)), (4, .long x4), (7, .int x7), (10, .int x10), (11, .int x11)]) dX11_lettersOf_97 (by decide) rfl rfl ?_
        refine r_aload_n 1 dX11_lettersOf_99 rfl rfl rfl ?_
        refine r_bipush (v := 97) dX11_lettersOf_100 (by decide) rfl ?_
        refine r_iload 5 dX11_lettersOf_102 rfl rfl ?_
        refine r_iadd dX11_lettersOf_104 rfl ?_
        obtain ⟨σ4, e3, h⟩ := bd h
        refine r_callV (rest := []) (T_X11_write e3) (by decide) mf_X11_write rfl tw_1211 tw_60 tw_1209 cM_0 rfl rfl rfl (Nat.le_of_ble_eq_true rfl) dX11_lettersOf_105 rfl ?_
        refine r_calln ?_
        refine r_iinc (v := (x7 + (-1))) (lv' := [(7, .int (x7 + (-1))), (6, .int (x6 ||| ((1 : Int32) <<< (x11 &&& 31)))), (0, .ref (xq X 0)), (4, .long x4), (10, .int x10), (11, .int x11)]) 3 dX11_lettersOf_108 rfl rfl (by decide) rfl rfl ?_
        refine r_goto (t := 17) dX11_lettersOf_111 (by decide) ?_
        refine r_sub [2, 3, 1, 0] rfl ?_
        exact hK17 x4 (x6 ||| ((1 : Int32) <<< (x11 &&& 31))) (x7 + (-1)) σ4 h
      · have h := it_n c2 h
        exact T_X11_lettersOf_j63 hK17 ih x4 x6 x7 x10 x11 σ h
def P_X11_lettersOf_j17 : Nat → Int64 → Int32 → Int32 → SS → Option SS
  | 0, _, _, _, _ => none
  | n + 1, x4, x6, x7, σ =>
    if x7 < 0 then
      some σ
    else
      (P_X11_factorial x7).bind fun v3 =>
      gN v3 <|
      gN v3 <|
      P_X11_lettersOf_j47 (P_X11_lettersOf_j17 n) FU (x4 - x4 / v3 * v3) x6 x7 ((x4 / v3).toInt32) 0 σ
set_option maxHeartbeats 4000000 in
set_option maxRecDepth 100000 in
theorem T_X11_lettersOf_j17 {X : XE} {σf : SS} : ∀ (fu : Nat) (x4 : Int64) (x6 : Int32) (x7 : Int32) (σ : SS), P_X11_lettersOf_j17 fu x4 x6 x7 σ = some σf → V (gM X) 1 RX11 cX11_lettersOf 12 none none σf 17 [(0, .ref (xq X 0)), (4, .long x4), (6, .int x6), (7, .int x7)] [] σ := by
  intro fu
  induction fu with
  | zero => intro x4 x6 x7 σ h; exact no0 h
  | succ n ih =>
    intro x4 x6 x7 σ h
    unfold P_X11_lettersOf_j17 at h
    refine r_iload 3 dX11_lettersOf_17 rfl rfl ?_
    refine r_if_lt (t := 114) dX11_lettersOf_19 (by decide) rfl (fun c1 => ?_) (fun c1 => ?_)
    · have h := it_t c1 h
      exact r_vretS dX11_lettersOf_114 h
    · have h := it_f c1 h
      refine r_iload 3 dX11_lettersOf_22 rfl rfl ?_
      obtain ⟨v3, e2, h⟩ := bd h
      refine r_callS (As := [.int x7]) (rest := []) (T_X11_factorial e2) (by decide) mf_X11_factorial rfl tw_1160 tw_1159 rfl (Nat.le_of_ble_eq_true rfl) dX11_lettersOf_24 rfl ?_
      refine r_call0 ?_
      refine r_lstore (lv' := [(8, .long v3), (0, .ref (xq X 0)), (4, .long x4), (6, .int x6), (7, .int x7)]) dX11_lettersOf_27 (by decide) rfl rfl ?_
      refine r_lload 2 dX11_lettersOf_29 rfl rfl ?_
      refine r_lload 0 dX11_lettersOf_31 rfl rfl ?_
      obtain ⟨hn4, h⟩ := gn h
      refine r_ldiv hn4 dX11_lettersOf_33 rfl ?_
      refine r_l2i dX11_lettersOf_34 rfl ?_
      refine r_istore (lv' := [(10, .int ((x4 / v3).toInt32)), (8, .long v3), (0, .ref (xq X 0)), (4, .long x4), (6, .int x6), (7, .int x7)]) dX11_lettersOf_35 (by decide) rfl rfl ?_
      refine r_lload 3 dX11_lettersOf_37 rfl rfl ?_
      refine r_lload 1 dX11_lettersOf_39 rfl rfl ?_
      obtain ⟨hn5, h⟩ := gn h
      refine r_lrem hn5 dX11_lettersOf_41 rfl ?_
      refine r_lstore (lv' := [(4, .long (x4 - x4 / v3 * v3)), (10, .int ((x4 / v3).toInt32)), (8, .long v3), (0, .ref (xq X 0)), (6, .int x6), (7, .int x7)]) dX11_lettersOf_42 (by decide) rfl rfl ?_
      refine ric_0 dX11_lettersOf_44 rfl ?_
      refine r_istore (lv' := [(11, .int 0), (4, .long (x4 - x4 / v3 * v3)), (10, .int ((x4 / v3).toInt32)), (8, .long v3), (0, .ref (xq X 0)), (6, .int x6), (7, .int x7)]) dX11_lettersOf_45 (by decide) rfl rfl ?_
      refine r_sub [4, 1, 5, 6, 2, 0] rfl ?_
      exact T_X11_lettersOf_j47 ih FU (x4 - x4 / v3 * v3) x6 x7 ((x4 / v3).toInt32) 0 σ h
def P_X11_lettersOf (a1 : Int32) (a2 : Int64) (σ : SS) : Option SS :=
  (P_X11_write 61 σ).bind fun σ2 =>
  P_X11_lettersOf_j17 FU a2 0 (a1 - 1) σ2
set_option maxHeartbeats 4000000 in
set_option maxRecDepth 100000 in
theorem T_X11_lettersOf {X : XE} {σf : SS} {σ : SS} {a1 : Int32} {a2 : Int64} (h : P_X11_lettersOf a1 a2 σ = some σf) : Mt (gM X) 1 yX11_lettersOf cX11_lettersOf 12 none [.ref (xq X 0), .int a1, .long a2] σ none σf := by
  refine Mt.of (own := RX11) (lv := [(0, .ref (xq X 0)), (1, .int a1), (2, .long a2)]) pn_X11 rfl (Nat.le_of_ble_eq_true rfl) rfl ?_
  unfold P_X11_lettersOf at h
  refine r_lload_n 2 dX11_lettersOf_0 rfl rfl rfl ?_
  refine r_lstore (lv' := [(4, .long a2), (0, .ref (xq X 0)), (1, .int a1), (2, .long a2)]) dX11_lettersOf_1 (by decide) rfl rfl ?_
  refine ric_0 dX11_lettersOf_3 rfl ?_
  refine r_istore (lv' := [(6, .int 0), (4, .long a2), (0, .ref (xq X 0)), (1, .int a1), (2, .long a2)]) dX11_lettersOf_4 (by decide) rfl rfl ?_
  refine r_aload_n 2 dX11_lettersOf_6 rfl rfl rfl ?_
  refine r_bipush (v := 61) dX11_lettersOf_7 (by decide) rfl ?_
  obtain ⟨σ2, e1, h⟩ := bd h
  refine r_callV (rest := []) (T_X11_write e1) (by decide) mf_X11_write rfl tw_1211 tw_60 tw_1209 cM_0 rfl rfl rfl (Nat.le_of_ble_eq_true rfl) dX11_lettersOf_9 rfl ?_
  refine r_calln ?_
  refine r_iload_n 3 dX11_lettersOf_12 rfl rfl rfl ?_
  refine ric_1 dX11_lettersOf_13 rfl ?_
  refine r_isub dX11_lettersOf_14 rfl ?_
  refine r_istore (lv' := [(7, .int (a1 - 1)), (6, .int 0), (4, .long a2), (0, .ref (xq X 0)), (1, .int a1), (2, .long a2)]) dX11_lettersOf_15 (by decide) rfl rfl ?_
  refine r_sub [3, 2, 1, 0] rfl ?_
  exact T_X11_lettersOf_j17 FU a2 0 (a1 - 1) σ2 h
def P_X11_rowOf_j49 (rec : (Int32 → Int32 → Int64 → SS → Option SS)) (K20 : Int32 → Int32 → Int64 → Int32 → SS → Option SS) : Nat → Int32 → Int32 → Int64 → Int32 → Int32 → Int64 → SS → Option SS
  | 0, _, _, _, _, _, _, _ => none
  | n + 1, x1, x5, x6, x8, x9, x10, σ =>
    if x6 < x10 then
      (P_X11_countOf x1 (x8 - x9) σ).bind fun v3 =>
      gN v3 <|
      (rec x5 x9 (x6 / v3) σ).bind fun σ6 =>
      gN v3 <|
      K20 x1 x5 (x6 - x6 / v3 * v3) (x8 - x9) σ6
    else
      (P_X11_countOf x5 (x9 + 1) σ).bind fun v9 =>
      (P_X11_countOf x1 (x8 - (x9 + 1)) σ).bind fun v11 =>
      (P_X11_times v9 v11).bind fun v13 =>
      (P_X11_rowOf_j49 rec K20 n) x1 x5 (x6 - x10) x8 (x9 + 1) v13 σ
set_option maxHeartbeats 4000000 in
set_option maxRecDepth 100000 in
theorem T_X11_rowOf_j49 {X : XE} {e : Nat} (he : 4 ≤ e) {rec : (Int32 → Int32 → Int64 → SS → Option SS)} (hrec : ∀ (a b : Int32) (c : Int64) (σ σ1 : SS), rec a b c σ = some σ1 → Mt (gM X) e yX11_thingOf cX11_thingOf 5 none [.ref (xq X 0), .int a, .int b, .long c] σ none σ1) {σf : SS} {K20 : Int32 → Int32 → Int64 → Int32 → SS → Option SS} (hK20 : ∀ (x1 : Int32) (x5 : Int32) (x6 : Int64) (x8 : Int32) (σ : SS), K20 x1 x5 x6 x8 σ = some σf → V (gM X) (e + 1) RX11 cX11_rowOf 14 none none σf 20 [(0, .ref (xq X 0)), (1, .int x1), (5, .int x5), (6, .long x6), (8, .int x8)] [] σ) : ∀ (fu : Nat) (x1 : Int32) (x5 : Int32) (x6 : Int64) (x8 : Int32) (x9 : Int32) (x10 : Int64) (σ : SS), P_X11_rowOf_j49 rec K20 fu x1 x5 x6 x8 x9 x10 σ = some σf → V (gM X) (e + 1) RX11 cX11_rowOf 14 none none σf 49 [(0, .ref (xq X 0)), (1, .int x1), (5, .int x5), (6, .long x6), (8, .int x8), (9, .int x9), (10, .long x10)] [] σ := by
  intro fu
  induction fu with
  | zero => intro x1 x5 x6 x8 x9 x10 σ h; exact no0 h
  | succ n ih =>
    intro x1 x5 x6 x8 x9 x10 σ h
    unfold P_X11_rowOf_j49 at h
    refine r_lload 3 dX11_rowOf_49 rfl rfl ?_
    refine r_lload 6 dX11_rowOf_51 rfl rfl ?_
    refine r_lif_lt (t := 93) dX11_rowOf_53 rfl dX11_rowOf_54 (by decide) rfl (fun c1 => ?_) (fun c1 => ?_)
    · have h := it_t c1 h
      refine r_aload_n 0 dX11_rowOf_93 rfl rfl rfl ?_
      refine r_iload_n 1 dX11_rowOf_94 rfl rfl rfl ?_
      refine r_iload 4 dX11_rowOf_95 rfl rfl ?_
      refine r_iload 5 dX11_rowOf_97 rfl rfl ?_
      refine r_isub dX11_rowOf_99 rfl ?_
      obtain ⟨v3, e2, h⟩ := bd h
      refine r_callV (rest := []) (T_X11_countOf e2) (by omega) mf_X11_countOf rfl tw_1145 tw_54 tw_1143 cM_0 rfl rfl rfl (Nat.le_of_ble_eq_true rfl) dX11_rowOf_100 rfl ?_
      refine r_call0 ?_
      refine r_lstore (lv' := [(12, .long v3), (0, .ref (xq X 0)), (1, .int x1), (5, .int x5), (6, .long x6), (8, .int x8), (9, .int x9), (10, .long x10)]) dX11_rowOf_103 (by decide) rfl rfl ?_
      refine r_aload_n 1 dX11_rowOf_105 rfl rfl rfl ?_
      refine r_iload 3 dX11_rowOf_106 rfl rfl ?_
      refine r_iload 6 dX11_rowOf_108 rfl rfl ?_
      refine r_lload 4 dX11_rowOf_110 rfl rfl ?_
      refine r_lload 0 dX11_rowOf_112 rfl rfl ?_
      obtain ⟨hn4, h⟩ := gn h
      refine r_ldiv hn4 dX11_rowOf_114 rfl ?_
      obtain ⟨σ6, e5, h⟩ := bd h
      refine r_callV (rest := []) (hrec _ _ _ _ _ e5) (by omega) mf_X11_thingOf rfl tw_1207 tw_59 tw_1205 cM_0 rfl rfl rfl (Nat.le_of_ble_eq_true rfl) dX11_rowOf_115 rfl ?_
      refine r_calln ?_
      refine r_lload 4 dX11_rowOf_118 rfl rfl ?_
      refine r_lload 0 dX11_rowOf_120 rfl rfl ?_
      obtain ⟨hn7, h⟩ := gn h
      refine r_lrem hn7 dX11_rowOf_122 rfl ?_
      refine r_lstore (lv' := [(6, .long (x6 - x6 / v3 * v3)), (12, .long v3), (0, .ref (xq X 0)), (1, .int x1), (5, .int x5), (8, .int x8), (9, .int x9), (10, .long x10)]) dX11_rowOf_123 (by decide) rfl rfl ?_
      refine r_iload 5 dX11_rowOf_125 rfl rfl ?_
      refine r_iload 6 dX11_rowOf_127 rfl rfl ?_
      refine r_isub dX11_rowOf_129 rfl ?_
      refine r_istore (lv' := [(8, .int (x8 - x9)), (6, .long (x6 - x6 / v3 * v3)), (12, .long v3), (0, .ref (xq X 0)), (1, .int x1), (5, .int x5), (9, .int x9), (10, .long x10)]) dX11_rowOf_130 (by decide) rfl rfl ?_
      refine r_goto (t := 20) dX11_rowOf_132 (by decide) ?_
      refine r_sub [3, 4, 5, 1, 0] rfl ?_
      exact hK20 x1 x5 (x6 - x6 / v3 * v3) (x8 - x9) σ6 h
    · have h := it_f c1 h
      refine r_lload 3 dX11_rowOf_57 rfl rfl ?_
      refine r_lload 6 dX11_rowOf_59 rfl rfl ?_
      refine r_lsub dX11_rowOf_61 rfl ?_
      refine r_lstore (lv' := [(6, .long (x6 - x10)), (0, .ref (xq X 0)), (1, .int x1), (5, .int x5), (8, .int x8), (9, .int x9), (10, .long x10)]) dX11_rowOf_62 (by decide) rfl rfl ?_
      refine r_iinc (v := (x9 + 1)) (lv' := [(9, .int (x9 + 1)), (6, .long (x6 - x10)), (0, .ref (xq X 0)), (1, .int x1), (5, .int x5), (8, .int x8), (10, .long x10)]) 5 dX11_rowOf_64 rfl rfl (by decide) rfl rfl ?_
      refine r_aload_n 2 dX11_rowOf_67 rfl rfl rfl ?_
      refine r_iload 4 dX11_rowOf_68 rfl rfl ?_
      refine r_iload 0 dX11_rowOf_70 rfl rfl ?_
      obtain ⟨v9, e8, h⟩ := bd h
      refine r_callV (rest := []) (T_X11_countOf e8) (by omega) mf_X11_countOf rfl tw_1145 tw_54 tw_1143 cM_0 rfl rfl rfl (Nat.le_of_ble_eq_true rfl) dX11_rowOf_72 rfl ?_
      refine r_call0 ?_
      refine r_aload_n 2 dX11_rowOf_75 rfl rfl rfl ?_
      refine r_iload_n 3 dX11_rowOf_76 rfl rfl rfl ?_
      refine r_iload 5 dX11_rowOf_77 rfl rfl ?_
      refine r_iload 0 dX11_rowOf_79 rfl rfl ?_
      refine r_isub dX11_rowOf_81 rfl ?_
      obtain ⟨v11, e10, h⟩ := bd h
      refine r_callV (rest := [.long v9]) (T_X11_countOf e10) (by omega) mf_X11_countOf rfl tw_1145 tw_54 tw_1143 cM_0 rfl rfl rfl (Nat.le_of_ble_eq_true rfl) dX11_rowOf_82 rfl ?_
      refine r_call0 ?_
      obtain ⟨v13, e12, h⟩ := bd h
      refine r_callS (As := [.long v9, .long v11]) (rest := []) (T_X11_times e12) (by omega) mf_X11_times rfl tw_1148 tw_1147 rfl (Nat.le_of_ble_eq_true rfl) dX11_rowOf_85 rfl ?_
      refine r_call0 ?_
      refine r_lstore (lv' := [(10, .long v13), (9, .int (x9 + 1)), (6, .long (x6 - x10)), (0, .ref (xq X 0)), (1, .int x1), (5, .int x5), (8, .int x8)]) dX11_rowOf_88 (by decide) rfl rfl ?_
      refine r_goto (t := 49) dX11_rowOf_90 (by decide) ?_
      refine r_sub [3, 4, 5, 2, 6, 1, 0] rfl ?_
      exact ih x1 x5 (x6 - x10) x8 (x9 + 1) v13 σ h
def P_X11_rowOf_j20 (rec : (Int32 → Int32 → Int64 → SS → Option SS)) : Nat → Int32 → Int32 → Int64 → Int32 → SS → Option SS
  | 0, _, _, _, _, _ => none
  | n + 1, x1, x5, x6, x8, σ =>
    if x8 ≤ 0 then
      (P_X11_write 93 σ).bind fun σ3 =>
      some σ3
    else
      (P_X11_countOf x5 1 σ).bind fun v5 =>
      (P_X11_countOf x1 (x8 - 1) σ).bind fun v7 =>
      (P_X11_times v5 v7).bind fun v9 =>
      P_X11_rowOf_j49 rec (P_X11_rowOf_j20 rec n) FU x1 x5 x6 x8 1 v9 σ
set_option maxHeartbeats 4000000 in
set_option maxRecDepth 100000 in
theorem T_X11_rowOf_j20 {X : XE} {e : Nat} (he : 4 ≤ e) {rec : (Int32 → Int32 → Int64 → SS → Option SS)} (hrec : ∀ (a b : Int32) (c : Int64) (σ σ1 : SS), rec a b c σ = some σ1 → Mt (gM X) e yX11_thingOf cX11_thingOf 5 none [.ref (xq X 0), .int a, .int b, .long c] σ none σ1) {σf : SS} : ∀ (fu : Nat) (x1 : Int32) (x5 : Int32) (x6 : Int64) (x8 : Int32) (σ : SS), P_X11_rowOf_j20 rec fu x1 x5 x6 x8 σ = some σf → V (gM X) (e + 1) RX11 cX11_rowOf 14 none none σf 20 [(0, .ref (xq X 0)), (1, .int x1), (5, .int x5), (6, .long x6), (8, .int x8)] [] σ := by
  intro fu
  induction fu with
  | zero => intro x1 x5 x6 x8 σ h; exact no0 h
  | succ n ih =>
    intro x1 x5 x6 x8 σ h
    unfold P_X11_rowOf_j20 at h
    refine r_iload 4 dX11_rowOf_20 rfl rfl ?_
    refine r_if_le (t := 135) dX11_rowOf_22 (by decide) rfl (fun c1 => ?_) (fun c1 => ?_)
    · have h := it_t c1 h
      refine r_aload_n 0 dX11_rowOf_135 rfl rfl rfl ?_
      refine r_bipush (v := 93) dX11_rowOf_136 (by decide) rfl ?_
      obtain ⟨σ3, e2, h⟩ := bd h
      refine r_callV (rest := []) (T_X11_write e2) (by omega) mf_X11_write rfl tw_1211 tw_60 tw_1209 cM_0 rfl rfl rfl (Nat.le_of_ble_eq_true rfl) dX11_rowOf_138 rfl ?_
      refine r_calln ?_
      exact r_vretS dX11_rowOf_141 h
    · have h := it_f c1 h
      refine ric_1 dX11_rowOf_25 rfl ?_
      refine r_istore (lv' := [(9, .int 1), (0, .ref (xq X 0)), (1, .int x1), (5, .int x5), (6, .long x6), (8, .int x8)]) dX11_rowOf_26 (by decide) rfl rfl ?_
      refine r_aload_n 1 dX11_rowOf_28 rfl rfl rfl ?_
      refine r_iload 3 dX11_rowOf_29 rfl rfl ?_
      refine ric_1 dX11_rowOf_31 rfl ?_
      obtain ⟨v5, e4, h⟩ := bd h
      refine r_callV (rest := []) (T_X11_countOf e4) (by omega) mf_X11_countOf rfl tw_1145 tw_54 tw_1143 cM_0 rfl rfl rfl (Nat.le_of_ble_eq_true rfl) dX11_rowOf_32 rfl ?_
      refine r_call0 ?_
      refine r_aload_n 1 dX11_rowOf_35 rfl rfl rfl ?_
      refine r_iload_n 2 dX11_rowOf_36 rfl rfl rfl ?_
      refine r_iload 5 dX11_rowOf_37 rfl rfl ?_
      refine ric_1 dX11_rowOf_39 rfl ?_
      refine r_isub dX11_rowOf_40 rfl ?_
      obtain ⟨v7, e6, h⟩ := bd h
      refine r_callV (rest := [.long v5]) (T_X11_countOf e6) (by omega) mf_X11_countOf rfl tw_1145 tw_54 tw_1143 cM_0 rfl rfl rfl (Nat.le_of_ble_eq_true rfl) dX11_rowOf_41 rfl ?_
      refine r_call0 ?_
      obtain ⟨v9, e8, h⟩ := bd h
      refine r_callS (As := [.long v5, .long v7]) (rest := []) (T_X11_times e8) (by omega) mf_X11_times rfl tw_1148 tw_1147 rfl (Nat.le_of_ble_eq_true rfl) dX11_rowOf_44 rfl ?_
      refine r_call0 ?_
      refine r_lstore (lv' := [(10, .long v9), (9, .int 1), (0, .ref (xq X 0)), (1, .int x1), (5, .int x5), (6, .long x6), (8, .int x8)]) dX11_rowOf_47 (by decide) rfl rfl ?_
      refine r_sub [2, 3, 4, 5, 6, 1, 0] rfl ?_
      exact T_X11_rowOf_j49 he hrec ih FU x1 x5 x6 x8 1 v9 σ h
def P_X11_rowOf (rec : (Int32 → Int32 → Int64 → SS → Option SS)) (a1 : Int32) (a2 : Int32) (a3 : Int64) (σ : SS) : Option SS :=
  gI a1 16 <|
  (P_X11_write 91 σ).bind fun σ3 =>
  P_X11_rowOf_j20 rec FU a1 (ldA σ 1 a1) a3 a2 σ3
set_option maxHeartbeats 4000000 in
set_option maxRecDepth 100000 in
theorem T_X11_rowOf {X : XE} {e : Nat} (he : 4 ≤ e) {rec : (Int32 → Int32 → Int64 → SS → Option SS)} (hrec : ∀ (a b : Int32) (c : Int64) (σ σ1 : SS), rec a b c σ = some σ1 → Mt (gM X) e yX11_thingOf cX11_thingOf 5 none [.ref (xq X 0), .int a, .int b, .long c] σ none σ1) {σf : SS} {σ : SS} {a1 : Int32} {a2 : Int32} {a3 : Int64} (h : P_X11_rowOf rec a1 a2 a3 σ = some σf) : Mt (gM X) (e + 1) yX11_rowOf cX11_rowOf 14 none [.ref (xq X 0), .int a1, .int a2, .long a3] σ none σf := by
  refine Mt.of (own := RX11) (lv := [(0, .ref (xq X 0)), (1, .int a1), (2, .int a2), (3, .long a3)]) pn_X11 rfl (Nat.le_of_ble_eq_true rfl) rfl ?_
  unfold P_X11_rowOf at h
  refine r_aload_n 0 dX11_rowOf_0 rfl rfl rfl ?_
  refine gf_X11_13_0 dX11_rowOf_1 rfl ?_
  refine r_iload_n 1 dX11_rowOf_4 rfl rfl rfl ?_
  obtain ⟨hi1, h⟩ := gi h
  refine alM_2 hi1 dX11_rowOf_5 rfl ?_
  refine r_istore (lv' := [(5, .int (ldA σ 1 a1)), (0, .ref (xq X 0)), (1, .int a1), (2, .int a2), (3, .long a3)]) dX11_rowOf_6 (by decide) rfl rfl ?_
  refine r_lload_n 4 dX11_rowOf_8 rfl rfl rfl ?_
  refine r_lstore (lv' := [(6, .long a3), (5, .int (ldA σ 1 a1)), (0, .ref (xq X 0)), (1, .int a1), (2, .int a2), (3, .long a3)]) dX11_rowOf_9 (by decide) rfl rfl ?_
  refine r_iload_n 4 dX11_rowOf_11 rfl rfl rfl ?_
  refine r_istore (lv' := [(8, .int a2), (6, .long a3), (5, .int (ldA σ 1 a1)), (0, .ref (xq X 0)), (1, .int a1), (2, .int a2), (3, .long a3)]) dX11_rowOf_12 (by decide) rfl rfl ?_
  refine r_aload_n 3 dX11_rowOf_14 rfl rfl rfl ?_
  refine r_bipush (v := 91) dX11_rowOf_15 (by decide) rfl ?_
  obtain ⟨σ3, e2, h⟩ := bd h
  refine r_callV (rest := []) (T_X11_write e2) (by omega) mf_X11_write rfl tw_1211 tw_60 tw_1209 cM_0 rfl rfl rfl (Nat.le_of_ble_eq_true rfl) dX11_rowOf_17 rfl ?_
  refine r_calln ?_
  refine r_sub [3, 4, 2, 1, 0] rfl ?_
  exact T_X11_rowOf_j20 he hrec FU a1 (ldA σ 1 a1) a3 a2 σ3 h
def P_X11_eitherOf_j28 (rec : (Int32 → Int32 → Int64 → SS → Option SS)) (x1 : Int32) (x2 : Int32) (x3 : Int64) (x5 : Int64) (y0 : Int32) (σ : SS) : Option SS :=
  (P_X11_write y0 σ).bind fun σ2 =>
  if x5 ≤ x3 then
    gI x1 16 <|
    (rec (ldA σ2 2 x1) x2 (x3 - x5) σ2).bind fun σ6 =>
    some σ6
  else
    gI x1 16 <|
    (rec (ldA σ2 1 x1) x2 x3 σ2).bind fun σ9 =>
    some σ9
set_option maxHeartbeats 4000000 in
set_option maxRecDepth 100000 in
theorem T_X11_eitherOf_j28 {X : XE} {e : Nat} (he : 4 ≤ e) {rec : (Int32 → Int32 → Int64 → SS → Option SS)} (hrec : ∀ (a b : Int32) (c : Int64) (σ σ1 : SS), rec a b c σ = some σ1 → Mt (gM X) e yX11_thingOf cX11_thingOf 5 none [.ref (xq X 0), .int a, .int b, .long c] σ none σ1) {σf : SS} : ∀ (x1 : Int32) (x2 : Int32) (x3 : Int64) (x5 : Int64) (y0 : Int32) (σ : SS), P_X11_eitherOf_j28 rec x1 x2 x3 x5 y0 σ = some σf → V (gM X) (e + 1) RX11 cX11_eitherOf 7 none none σf 28 [(0, .ref (xq X 0)), (1, .int x1), (2, .int x2), (3, .long x3), (5, .long x5)] [.int y0, .ref (xq X 0)] σ := by
  intro x1 x2 x3 x5 y0 σ h
  unfold P_X11_eitherOf_j28 at h
  obtain ⟨σ2, e1, h⟩ := bd h
  refine r_callV (rest := []) (T_X11_write e1) (by omega) mf_X11_write rfl tw_1211 tw_60 tw_1209 cM_0 rfl rfl rfl (Nat.le_of_ble_eq_true rfl) dX11_eitherOf_28 rfl ?_
  refine r_calln ?_
  refine r_lload_n 3 dX11_eitherOf_31 rfl rfl rfl ?_
  refine r_lload 4 dX11_eitherOf_32 rfl rfl ?_
  refine r_lif_ge (t := 53) dX11_eitherOf_34 rfl dX11_eitherOf_35 (by decide) rfl (fun c3 => ?_) (fun c3 => ?_)
  · have h := it_t c3 h
    refine r_aload_n 0 dX11_eitherOf_53 rfl rfl rfl ?_
    refine r_aload_n 0 dX11_eitherOf_54 rfl rfl rfl ?_
    refine gf_X11_16_0 dX11_eitherOf_55 rfl ?_
    refine r_iload_n 1 dX11_eitherOf_58 rfl rfl rfl ?_
    obtain ⟨hi4, h⟩ := gi h
    refine alM_3 hi4 dX11_eitherOf_59 rfl ?_
    refine r_iload_n 2 dX11_eitherOf_60 rfl rfl rfl ?_
    refine r_lload_n 3 dX11_eitherOf_61 rfl rfl rfl ?_
    refine r_lload 4 dX11_eitherOf_62 rfl rfl ?_
    refine r_lsub dX11_eitherOf_64 rfl ?_
    obtain ⟨σ6, e5, h⟩ := bd h
    refine r_callV (rest := []) (hrec _ _ _ _ _ e5) (by omega) mf_X11_thingOf rfl tw_1207 tw_59 tw_1205 cM_0 rfl rfl rfl (Nat.le_of_ble_eq_true rfl) dX11_eitherOf_65 rfl ?_
    refine r_calln ?_
    exact r_vretS dX11_eitherOf_68 h
  · have h := it_f c3 h
    refine r_aload_n 0 dX11_eitherOf_38 rfl rfl rfl ?_
    refine r_aload_n 0 dX11_eitherOf_39 rfl rfl rfl ?_
    refine gf_X11_13_0 dX11_eitherOf_40 rfl ?_
    refine r_iload_n 1 dX11_eitherOf_43 rfl rfl rfl ?_
    obtain ⟨hi7, h⟩ := gi h
    refine alM_2 hi7 dX11_eitherOf_44 rfl ?_
    refine r_iload_n 2 dX11_eitherOf_45 rfl rfl rfl ?_
    refine r_lload_n 3 dX11_eitherOf_46 rfl rfl rfl ?_
    obtain ⟨σ9, e8, h⟩ := bd h
    refine r_callV (rest := []) (hrec _ _ _ _ _ e8) (by omega) mf_X11_thingOf rfl tw_1207 tw_59 tw_1205 cM_0 rfl rfl rfl (Nat.le_of_ble_eq_true rfl) dX11_eitherOf_47 rfl ?_
    refine r_calln ?_
    refine r_goto (t := 68) dX11_eitherOf_50 (by decide) ?_
    exact r_vretS dX11_eitherOf_68 h
def P_X11_eitherOf (rec : (Int32 → Int32 → Int64 → SS → Option SS)) (a1 : Int32) (a2 : Int32) (a3 : Int64) (σ : SS) : Option SS :=
  gI a1 16 <|
  (P_X11_countOf (ldA σ 1 a1) a2 σ).bind fun v3 =>
  if v3 ≤ a3 then
    P_X11_eitherOf_j28 rec a1 a2 a3 v3 50 σ
  else
    P_X11_eitherOf_j28 rec a1 a2 a3 v3 49 σ
set_option maxHeartbeats 4000000 in
set_option maxRecDepth 100000 in
theorem T_X11_eitherOf {X : XE} {e : Nat} (he : 4 ≤ e) {rec : (Int32 → Int32 → Int64 → SS → Option SS)} (hrec : ∀ (a b : Int32) (c : Int64) (σ σ1 : SS), rec a b c σ = some σ1 → Mt (gM X) e yX11_thingOf cX11_thingOf 5 none [.ref (xq X 0), .int a, .int b, .long c] σ none σ1) {σf : SS} {σ : SS} {a1 : Int32} {a2 : Int32} {a3 : Int64} (h : P_X11_eitherOf rec a1 a2 a3 σ = some σf) : Mt (gM X) (e + 1) yX11_eitherOf cX11_eitherOf 7 none [.ref (xq X 0), .int a1, .int a2, .long a3] σ none σf := by
  refine Mt.of (own := RX11) (lv := [(0, .ref (xq X 0)), (1, .int a1), (2, .int a2), (3, .long a3)]) pn_X11 rfl (Nat.le_of_ble_eq_true rfl) rfl ?_
  unfold P_X11_eitherOf at h
  refine r_aload_n 0 dX11_eitherOf_0 rfl rfl rfl ?_
  refine r_aload_n 0 dX11_eitherOf_1 rfl rfl rfl ?_
  refine gf_X11_13_0 dX11_eitherOf_2 rfl ?_
  refine r_iload_n 1 dX11_eitherOf_5 rfl rfl rfl ?_
  obtain ⟨hi1, h⟩ := gi h
  refine alM_2 hi1 dX11_eitherOf_6 rfl ?_
  refine r_iload_n 2 dX11_eitherOf_7 rfl rfl rfl ?_
  obtain ⟨v3, e2, h⟩ := bd h
  refine r_callV (rest := []) (T_X11_countOf e2) (by omega) mf_X11_countOf rfl tw_1145 tw_54 tw_1143 cM_0 rfl rfl rfl (Nat.le_of_ble_eq_true rfl) dX11_eitherOf_8 rfl ?_
  refine r_call0 ?_
  refine r_lstore (lv' := [(5, .long v3), (0, .ref (xq X 0)), (1, .int a1), (2, .int a2), (3, .long a3)]) dX11_eitherOf_11 (by decide) rfl rfl ?_
  refine r_aload_n 1 dX11_eitherOf_13 rfl rfl rfl ?_
  refine r_lload_n 4 dX11_eitherOf_14 rfl rfl rfl ?_
  refine r_lload 0 dX11_eitherOf_15 rfl rfl ?_
  refine r_lif_ge (t := 26) dX11_eitherOf_17 rfl dX11_eitherOf_18 (by decide) rfl (fun c4 => ?_) (fun c4 => ?_)
  · have h := it_t c4 h
    refine r_bipush (v := 50) dX11_eitherOf_26 (by decide) rfl ?_
    refine r_sub [1, 2, 3, 4, 0] rfl ?_
    exact T_X11_eitherOf_j28 he hrec a1 a2 a3 v3 50 σ h
  · have h := it_f c4 h
    refine r_bipush (v := 49) dX11_eitherOf_21 (by decide) rfl ?_
    refine r_goto (t := 28) dX11_eitherOf_23 (by decide) ?_
    refine r_sub [1, 2, 3, 4, 0] rfl ?_
    exact T_X11_eitherOf_j28 he hrec a1 a2 a3 v3 49 σ h
def P_X11_bothOf_j41 (rec : (Int32 → Int32 → Int64 → SS → Option SS)) : Nat → Int32 → Int32 → Int32 → Int64 → Int32 → Int64 → SS → Option SS
  | 0, _, _, _, _, _, _, _ => none
  | n + 1, x2, x5, x6, x7, x9, x10, σ =>
    if x7 < x10 then
      (P_X11_write 40 σ).bind fun σ3 =>
      (P_X11_countOf x6 (x2 - x9) σ3).bind fun v5 =>
      gN v5 <|
      (rec x5 x9 (x7 / v5) σ3).bind fun σ8 =>
      (P_X11_countOf x6 (x2 - x9) σ8).bind fun v10 =>
      gN v10 <|
      (rec x6 (x2 - x9) (x7 - x7 / v10 * v10) σ8).bind fun σ13 =>
      (P_X11_write 41 σ13).bind fun σ15 =>
      some σ15
    else
      (P_X11_countOf x5 (x9 + 1) σ).bind fun v17 =>
      (P_X11_countOf x6 (x2 - (x9 + 1)) σ).bind fun v19 =>
      (P_X11_times v17 v19).bind fun v21 =>
      (P_X11_bothOf_j41 rec n) x2 x5 x6 (x7 - x10) (x9 + 1) v21 σ
set_option maxHeartbeats 4000000 in
set_option maxRecDepth 100000 in
theorem T_X11_bothOf_j41 {X : XE} {e : Nat} (he : 4 ≤ e) {rec : (Int32 → Int32 → Int64 → SS → Option SS)} (hrec : ∀ (a b : Int32) (c : Int64) (σ σ1 : SS), rec a b c σ = some σ1 → Mt (gM X) e yX11_thingOf cX11_thingOf 5 none [.ref (xq X 0), .int a, .int b, .long c] σ none σ1) {σf : SS} : ∀ (fu : Nat) (x2 : Int32) (x5 : Int32) (x6 : Int32) (x7 : Int64) (x9 : Int32) (x10 : Int64) (σ : SS), P_X11_bothOf_j41 rec fu x2 x5 x6 x7 x9 x10 σ = some σf → V (gM X) (e + 1) RX11 cX11_bothOf 12 none none σf 41 [(0, .ref (xq X 0)), (2, .int x2), (5, .int x5), (6, .int x6), (7, .long x7), (9, .int x9), (10, .long x10)] [] σ := by
  intro fu
  induction fu with
  | zero => intro x2 x5 x6 x7 x9 x10 σ h; exact no0 h
  | succ n ih =>
    intro x2 x5 x6 x7 x9 x10 σ h
    unfold P_X11_bothOf_j41 at h
    refine r_lload 4 dX11_bothOf_41 rfl rfl ?_
    refine r_lload 6 dX11_bothOf_43 rfl rfl ?_
    refine r_lif_lt (t := 85) dX11_bothOf_45 rfl dX11_bothOf_46 (by decide) rfl (fun c1 => ?_) (fun c1 => ?_)
    · have h := it_t c1 h
      refine r_aload_n 0 dX11_bothOf_85 rfl rfl rfl ?_
      refine r_bipush (v := 40) dX11_bothOf_86 (by decide) rfl ?_
      obtain ⟨σ3, e2, h⟩ := bd h
      refine r_callV (rest := []) (T_X11_write e2) (by omega) mf_X11_write rfl tw_1211 tw_60 tw_1209 cM_0 rfl rfl rfl (Nat.le_of_ble_eq_true rfl) dX11_bothOf_88 rfl ?_
      refine r_calln ?_
      refine r_aload_n 0 dX11_bothOf_91 rfl rfl rfl ?_
      refine r_iload 2 dX11_bothOf_92 rfl rfl ?_
      refine r_iload 5 dX11_bothOf_94 rfl rfl ?_
      refine r_lload 4 dX11_bothOf_96 rfl rfl ?_
      refine r_aload_n 0 dX11_bothOf_98 rfl rfl rfl ?_
      refine r_iload 3 dX11_bothOf_99 rfl rfl ?_
      refine r_iload_n 1 dX11_bothOf_101 rfl rfl rfl ?_
      refine r_iload 5 dX11_bothOf_102 rfl rfl ?_
      refine r_isub dX11_bothOf_104 rfl ?_
      obtain ⟨v5, e4, h⟩ := bd h
      refine r_callV (rest := [.long x7, .int x9, .int x5, .ref (xq X 0)]) (T_X11_countOf e4) (by omega) mf_X11_countOf rfl tw_1145 tw_54 tw_1143 cM_0 rfl rfl rfl (Nat.le_of_ble_eq_true rfl) dX11_bothOf_105 rfl ?_
      refine r_call0 ?_
      obtain ⟨hn6, h⟩ := gn h
      refine r_ldiv hn6 dX11_bothOf_108 rfl ?_
      obtain ⟨σ8, e7, h⟩ := bd h
      refine r_callV (rest := []) (hrec _ _ _ _ _ e7) (by omega) mf_X11_thingOf rfl tw_1207 tw_59 tw_1205 cM_0 rfl rfl rfl (Nat.le_of_ble_eq_true rfl) dX11_bothOf_109 rfl ?_
      refine r_calln ?_
      refine r_aload_n 0 dX11_bothOf_112 rfl rfl rfl ?_
      refine r_iload 3 dX11_bothOf_113 rfl rfl ?_
      refine r_iload_n 1 dX11_bothOf_115 rfl rfl rfl ?_
      refine r_iload 5 dX11_bothOf_116 rfl rfl ?_
      refine r_isub dX11_bothOf_118 rfl ?_
      refine r_lload 4 dX11_bothOf_119 rfl rfl ?_
      refine r_aload_n 0 dX11_bothOf_121 rfl rfl rfl ?_
      refine r_iload 3 dX11_bothOf_122 rfl rfl ?_
      refine r_iload_n 1 dX11_bothOf_124 rfl rfl rfl ?_
      refine r_iload 5 dX11_bothOf_125 rfl rfl ?_
      refine r_isub dX11_bothOf_127 rfl ?_
      obtain ⟨v10, e9, h⟩ := bd h
      refine r_callV (rest := [.long x7, .int (x2 - x9), .int x6, .ref (xq X 0)]) (T_X11_countOf e9) (by omega) mf_X11_countOf rfl tw_1145 tw_54 tw_1143 cM_0 rfl rfl rfl (Nat.le_of_ble_eq_true rfl) dX11_bothOf_128 rfl ?_
      refine r_call0 ?_
      obtain ⟨hn11, h⟩ := gn h
      refine r_lrem hn11 dX11_bothOf_131 rfl ?_
      obtain ⟨σ13, e12, h⟩ := bd h
      refine r_callV (rest := []) (hrec _ _ _ _ _ e12) (by omega) mf_X11_thingOf rfl tw_1207 tw_59 tw_1205 cM_0 rfl rfl rfl (Nat.le_of_ble_eq_true rfl) dX11_bothOf_132 rfl ?_
      refine r_calln ?_
      refine r_aload_n 0 dX11_bothOf_135 rfl rfl rfl ?_
      refine r_bipush (v := 41) dX11_bothOf_136 (by decide) rfl ?_
      obtain ⟨σ15, e14, h⟩ := bd h
      refine r_callV (rest := []) (T_X11_write e14) (by omega) mf_X11_write rfl tw_1211 tw_60 tw_1209 cM_0 rfl rfl rfl (Nat.le_of_ble_eq_true rfl) dX11_bothOf_138 rfl ?_
      refine r_calln ?_
      exact r_vretS dX11_bothOf_141 h
    · have h := it_f c1 h
      refine r_lload 4 dX11_bothOf_49 rfl rfl ?_
      refine r_lload 6 dX11_bothOf_51 rfl rfl ?_
      refine r_lsub dX11_bothOf_53 rfl ?_
      refine r_lstore (lv' := [(7, .long (x7 - x10)), (0, .ref (xq X 0)), (2, .int x2), (5, .int x5), (6, .int x6), (9, .int x9), (10, .long x10)]) dX11_bothOf_54 (by decide) rfl rfl ?_
      refine r_iinc (v := (x9 + 1)) (lv' := [(9, .int (x9 + 1)), (7, .long (x7 - x10)), (0, .ref (xq X 0)), (2, .int x2), (5, .int x5), (6, .int x6), (10, .long x10)]) 5 dX11_bothOf_56 rfl rfl (by decide) rfl rfl ?_
      refine r_aload_n 2 dX11_bothOf_59 rfl rfl rfl ?_
      refine r_iload 4 dX11_bothOf_60 rfl rfl ?_
      refine r_iload 0 dX11_bothOf_62 rfl rfl ?_
      obtain ⟨v17, e16, h⟩ := bd h
      refine r_callV (rest := []) (T_X11_countOf e16) (by omega) mf_X11_countOf rfl tw_1145 tw_54 tw_1143 cM_0 rfl rfl rfl (Nat.le_of_ble_eq_true rfl) dX11_bothOf_64 rfl ?_
      refine r_call0 ?_
      refine r_aload_n 2 dX11_bothOf_67 rfl rfl rfl ?_
      refine r_iload 5 dX11_bothOf_68 rfl rfl ?_
      refine r_iload_n 3 dX11_bothOf_70 rfl rfl rfl ?_
      refine r_iload 0 dX11_bothOf_71 rfl rfl ?_
      refine r_isub dX11_bothOf_73 rfl ?_
      obtain ⟨v19, e18, h⟩ := bd h
      refine r_callV (rest := [.long v17]) (T_X11_countOf e18) (by omega) mf_X11_countOf rfl tw_1145 tw_54 tw_1143 cM_0 rfl rfl rfl (Nat.le_of_ble_eq_true rfl) dX11_bothOf_74 rfl ?_
      refine r_call0 ?_
      obtain ⟨v21, e20, h⟩ := bd h
      refine r_callS (As := [.long v17, .long v19]) (rest := []) (T_X11_times e20) (by omega) mf_X11_times rfl tw_1148 tw_1147 rfl (Nat.le_of_ble_eq_true rfl) dX11_bothOf_77 rfl ?_
      refine r_call0 ?_
      refine r_lstore (lv' := [(10, .long v21), (9, .int (x9 + 1)), (7, .long (x7 - x10)), (0, .ref (xq X 0)), (2, .int x2), (5, .int x5), (6, .int x6)]) dX11_bothOf_80 (by decide) rfl rfl ?_
      refine r_goto (t := 41) dX11_bothOf_82 (by decide) ?_
      refine r_sub [3, 4, 5, 6, 2, 1, 0] rfl ?_
      exact ih x2 x5 x6 (x7 - x10) (x9 + 1) v21 σ h
def P_X11_bothOf (rec : (Int32 → Int32 → Int64 → SS → Option SS)) (a1 : Int32) (a2 : Int32) (a3 : Int64) (σ : SS) : Option SS :=
  gI a1 16 <|
  gI a1 16 <|
  (P_X11_countOf (ldA σ 1 a1) 0 σ).bind fun v4 =>
  (P_X11_countOf (ldA σ 2 a1) a2 σ).bind fun v6 =>
  (P_X11_times v4 v6).bind fun v8 =>
  P_X11_bothOf_j41 rec FU a2 (ldA σ 1 a1) (ldA σ 2 a1) a3 0 v8 σ
set_option maxHeartbeats 4000000 in
set_option maxRecDepth 100000 in
theorem T_X11_bothOf {X : XE} {e : Nat} (he : 4 ≤ e) {rec : (Int32 → Int32 → Int64 → SS → Option SS)} (hrec : ∀ (a b : Int32) (c : Int64) (σ σ1 : SS), rec a b c σ = some σ1 → Mt (gM X) e yX11_thingOf cX11_thingOf 5 none [.ref (xq X 0), .int a, .int b, .long c] σ none σ1) {σf : SS} {σ : SS} {a1 : Int32} {a2 : Int32} {a3 : Int64} (h : P_X11_bothOf rec a1 a2 a3 σ = some σf) : Mt (gM X) (e + 1) yX11_bothOf cX11_bothOf 12 none [.ref (xq X 0), .int a1, .int a2, .long a3] σ none σf := by
  refine Mt.of (own := RX11) (lv := [(0, .ref (xq X 0)), (1, .int a1), (2, .int a2), (3, .long a3)]) pn_X11 rfl (Nat.le_of_ble_eq_true rfl) rfl ?_
  unfold P_X11_bothOf at h
  refine r_aload_n 0 dX11_bothOf_0 rfl rfl rfl ?_
  refine gf_X11_13_0 dX11_bothOf_1 rfl ?_
  refine r_iload_n 1 dX11_bothOf_4 rfl rfl rfl ?_
  obtain ⟨hi1, h⟩ := gi h
  refine alM_2 hi1 dX11_bothOf_5 rfl ?_
  refine r_istore (lv' := [(5, .int (ldA σ 1 a1)), (0, .ref (xq X 0)), (1, .int a1), (2, .int a2), (3, .long a3)]) dX11_bothOf_6 (by decide) rfl rfl ?_
  refine r_aload_n 1 dX11_bothOf_8 rfl rfl rfl ?_
  refine gf_X11_16_0 dX11_bothOf_9 rfl ?_
  refine r_iload_n 2 dX11_bothOf_12 rfl rfl rfl ?_
  obtain ⟨hi2, h⟩ := gi h
  refine alM_3 hi2 dX11_bothOf_13 rfl ?_
  refine r_istore (lv' := [(6, .int (ldA σ 2 a1)), (5, .int (ldA σ 1 a1)), (0, .ref (xq X 0)), (1, .int a1), (2, .int a2), (3, .long a3)]) dX11_bothOf_14 (by decide) rfl rfl ?_
  refine r_lload_n 5 dX11_bothOf_16 rfl rfl rfl ?_
  refine r_lstore (lv' := [(7, .long a3), (6, .int (ldA σ 2 a1)), (5, .int (ldA σ 1 a1)), (0, .ref (xq X 0)), (1, .int a1), (2, .int a2), (3, .long a3)]) dX11_bothOf_17 (by decide) rfl rfl ?_
  refine ric_0 dX11_bothOf_19 rfl ?_
  refine r_istore (lv' := [(9, .int 0), (7, .long a3), (6, .int (ldA σ 2 a1)), (5, .int (ldA σ 1 a1)), (0, .ref (xq X 0)), (1, .int a1), (2, .int a2), (3, .long a3)]) dX11_bothOf_20 (by decide) rfl rfl ?_
  refine r_aload_n 4 dX11_bothOf_22 rfl rfl rfl ?_
  refine r_iload 3 dX11_bothOf_23 rfl rfl ?_
  refine ric_0 dX11_bothOf_25 rfl ?_
  obtain ⟨v4, e3, h⟩ := bd h
  refine r_callV (rest := []) (T_X11_countOf e3) (by omega) mf_X11_countOf rfl tw_1145 tw_54 tw_1143 cM_0 rfl rfl rfl (Nat.le_of_ble_eq_true rfl) dX11_bothOf_26 rfl ?_
  refine r_call0 ?_
  refine r_aload_n 4 dX11_bothOf_29 rfl rfl rfl ?_
  refine r_iload 2 dX11_bothOf_30 rfl rfl ?_
  refine r_iload_n 6 dX11_bothOf_32 rfl rfl rfl ?_
  obtain ⟨v6, e5, h⟩ := bd h
  refine r_callV (rest := [.long v4]) (T_X11_countOf e5) (by omega) mf_X11_countOf rfl tw_1145 tw_54 tw_1143 cM_0 rfl rfl rfl (Nat.le_of_ble_eq_true rfl) dX11_bothOf_33 rfl ?_
  refine r_call0 ?_
  obtain ⟨v8, e7, h⟩ := bd h
  refine r_callS (As := [.long v4, .long v6]) (rest := []) (T_X11_times e7) (by omega) mf_X11_times rfl tw_1148 tw_1147 rfl (Nat.le_of_ble_eq_true rfl) dX11_bothOf_36 rfl ?_
  refine r_call0 ?_
  refine r_lstore (lv' := [(10, .long v8), (9, .int 0), (7, .long a3), (6, .int (ldA σ 2 a1)), (5, .int (ldA σ 1 a1)), (0, .ref (xq X 0)), (1, .int a1), (2, .int a2), (3, .long a3)]) dX11_bothOf_39 (by decide) rfl rfl ?_
  refine r_sub [5, 7, 4, 3, 2, 1, 0] rfl ?_
  exact T_X11_bothOf_j41 he hrec FU a2 (ldA σ 1 a1) (ldA σ 2 a1) a3 0 v8 σ h
def B_X11_thingOf (rec : (Int32 → Int32 → Int64 → SS → Option SS)) (a1 : Int32) (a2 : Int32) (a3 : Int64) (σ : SS) : Option SS :=
  if (sI σ 5) ≤ 300 then
    gI a1 16 <|
    if (ldA σ 0 a1) = 0 then
      gI a1 16 <|
      (P_X11_write (97 + (ldA σ 2 a1)) σ).bind fun σ6 =>
      some σ6
    else
      if (ldA σ 0 a1) = 1 then
        (P_X11_write 46 σ).bind fun σ9 =>
        some σ9
      else
        if (ldA σ 0 a1) = 2 then
          (P_X11_bothOf rec a1 a2 a3 σ).bind fun σ12 =>
          some σ12
        else
          if (ldA σ 0 a1) = 3 then
            (P_X11_eitherOf rec a1 a2 a3 σ).bind fun σ15 =>
            some σ15
          else
            if (ldA σ 0 a1) = 4 then
              (P_X11_rowOf rec a1 a2 a3 σ).bind fun σ18 =>
              some σ18
            else
              if (ldA σ 0 a1) = 5 then
                (P_X11_setOf rec a1 a2 a3 σ).bind fun σ21 =>
                some σ21
              else
                if (ldA σ 0 a1) = 6 then
                  (P_X11_setOf rec a1 a2 a3 σ).bind fun σ24 =>
                  some σ24
                else
                  if (ldA σ 0 a1) = 7 then
                    (P_X11_write 33 σ).bind fun σ27 =>
                    gI a1 16 <|
                    (rec (ldA σ27 1 a1) a2 a3 σ27).bind fun σ30 =>
                    some σ30
                  else
                    if (ldA σ 0 a1) = 8 then
                      gI a1 16 <|
                      (P_X11_lettersOf (ldA σ 1 a1) a3 σ).bind fun σ34 =>
                      some σ34
                    else
                      (P_X11_setOf rec a1 a2 a3 σ).bind fun σ36 =>
                      some σ36
  else
    some σ
set_option maxHeartbeats 4000000 in
set_option maxRecDepth 100000 in
theorem TB_X11_thingOf {X : XE} {e : Nat} (he : 4 ≤ e) {rec : (Int32 → Int32 → Int64 → SS → Option SS)} (hrec : ∀ (a b : Int32) (c : Int64) (σ σ1 : SS), rec a b c σ = some σ1 → Mt (gM X) e yX11_thingOf cX11_thingOf 5 none [.ref (xq X 0), .int a, .int b, .long c] σ none σ1) {σf : SS} {σ : SS} {a1 : Int32} {a2 : Int32} {a3 : Int64} (h : B_X11_thingOf rec a1 a2 a3 σ = some σf) : Mt (gM X) (e + 2) yX11_thingOf cX11_thingOf 5 none [.ref (xq X 0), .int a1, .int a2, .long a3] σ none σf := by
  refine Mt.of (own := RX11) (lv := [(0, .ref (xq X 0)), (1, .int a1), (2, .int a2), (3, .long a3)]) pn_X11 rfl (Nat.le_of_ble_eq_true rfl) rfl ?_
  unfold B_X11_thingOf at h
  refine r_aload_n 0 dX11_thingOf_0 rfl rfl rfl ?_
  refine gf_X11_221_0 dX11_thingOf_1 rfl ?_
  refine r_sipush (v := 300) dX11_thingOf_4 (by decide) rfl ?_
  refine r_icmp_le (t := 11) dX11_thingOf_7 (by decide) rfl (fun c1 => ?_) (fun c1 => ?_)
  · have h := it_t c1 h
    refine r_aload_n 0 dX11_thingOf_11 rfl rfl rfl ?_
    refine gf_X11_7_0 dX11_thingOf_12 rfl ?_
    refine r_iload_n 1 dX11_thingOf_15 rfl rfl rfl ?_
    obtain ⟨hi2, h⟩ := gi h
    refine alM_1 hi2 dX11_thingOf_16 rfl ?_
    by_cases c3 : (ldA σ 0 a1) = 0
    · have h := it_t c3 h
      refine r_tableIn (t := 68) dX11_thingOf_17 (by rw [c3]; decide) (by rw [c3]; decide) (by rw [c3]; rfl) (by decide) ?_
      refine r_aload_n 0 dX11_thingOf_68 rfl rfl rfl ?_
      refine r_bipush (v := 97) dX11_thingOf_69 (by decide) rfl ?_
      refine r_aload_n 0 dX11_thingOf_71 rfl rfl rfl ?_
      refine gf_X11_16_0 dX11_thingOf_72 rfl ?_
      refine r_iload_n 1 dX11_thingOf_75 rfl rfl rfl ?_
      obtain ⟨hi4, h⟩ := gi h
      refine alM_3 hi4 dX11_thingOf_76 rfl ?_
      refine r_iadd dX11_thingOf_77 rfl ?_
      obtain ⟨σ6, e5, h⟩ := bd h
      refine r_callV (rest := []) (T_X11_write e5) (by omega) mf_X11_write rfl tw_1211 tw_60 tw_1209 cM_0 rfl rfl rfl (Nat.le_of_ble_eq_true rfl) dX11_thingOf_78 rfl ?_
      refine r_calln ?_
      refine r_goto (t := 165) dX11_thingOf_81 (by decide) ?_
      exact r_vretS dX11_thingOf_165 h
    · have h := it_f c3 h
      by_cases c7 : (ldA σ 0 a1) = 1
      · have h := it_t c7 h
        refine r_tableIn (t := 84) dX11_thingOf_17 (by rw [c7]; decide) (by rw [c7]; decide) (by rw [c7]; rfl) (by decide) ?_
        refine r_aload_n 0 dX11_thingOf_84 rfl rfl rfl ?_
        refine r_bipush (v := 46) dX11_thingOf_85 (by decide) rfl ?_
        obtain ⟨σ9, e8, h⟩ := bd h
        refine r_callV (rest := []) (T_X11_write e8) (by omega) mf_X11_write rfl tw_1211 tw_60 tw_1209 cM_0 rfl rfl rfl (Nat.le_of_ble_eq_true rfl) dX11_thingOf_87 rfl ?_
        refine r_calln ?_
        refine r_goto (t := 165) dX11_thingOf_90 (by decide) ?_
        exact r_vretS dX11_thingOf_165 h
      · have h := it_f c7 h
        by_cases c10 : (ldA σ 0 a1) = 2
        · have h := it_t c10 h
          refine r_tableIn (t := 93) dX11_thingOf_17 (by rw [c10]; decide) (by rw [c10]; decide) (by rw [c10]; rfl) (by decide) ?_
          refine r_aload_n 0 dX11_thingOf_93 rfl rfl rfl ?_
          refine r_iload_n 1 dX11_thingOf_94 rfl rfl rfl ?_
          refine r_iload_n 2 dX11_thingOf_95 rfl rfl rfl ?_
          refine r_lload_n 3 dX11_thingOf_96 rfl rfl rfl ?_
          obtain ⟨σ12, e11, h⟩ := bd h
          refine r_callV (rest := []) (T_X11_bothOf he hrec e11) (by omega) mf_X11_bothOf rfl tw_1215 tw_61 tw_1213 cM_0 rfl rfl rfl (Nat.le_of_ble_eq_true rfl) dX11_thingOf_97 rfl ?_
          refine r_calln ?_
          refine r_goto (t := 165) dX11_thingOf_100 (by decide) ?_
          exact r_vretS dX11_thingOf_165 h
        · have h := it_f c10 h
          by_cases c13 : (ldA σ 0 a1) = 3
          · have h := it_t c13 h
            refine r_tableIn (t := 103) dX11_thingOf_17 (by rw [c13]; decide) (by rw [c13]; decide) (by rw [c13]; rfl) (by decide) ?_
            refine r_aload_n 0 dX11_thingOf_103 rfl rfl rfl ?_
            refine r_iload_n 1 dX11_thingOf_104 rfl rfl rfl ?_
            refine r_iload_n 2 dX11_thingOf_105 rfl rfl rfl ?_
            refine r_lload_n 3 dX11_thingOf_106 rfl rfl rfl ?_
            obtain ⟨σ15, e14, h⟩ := bd h
            refine r_callV (rest := []) (T_X11_eitherOf he hrec e14) (by omega) mf_X11_eitherOf rfl tw_1219 tw_62 tw_1217 cM_0 rfl rfl rfl (Nat.le_of_ble_eq_true rfl) dX11_thingOf_107 rfl ?_
            refine r_calln ?_
            refine r_goto (t := 165) dX11_thingOf_110 (by decide) ?_
            exact r_vretS dX11_thingOf_165 h
          · have h := it_f c13 h
            by_cases c16 : (ldA σ 0 a1) = 4
            · have h := it_t c16 h
              refine r_tableIn (t := 113) dX11_thingOf_17 (by rw [c16]; decide) (by rw [c16]; decide) (by rw [c16]; rfl) (by decide) ?_
              refine r_aload_n 0 dX11_thingOf_113 rfl rfl rfl ?_
              refine r_iload_n 1 dX11_thingOf_114 rfl rfl rfl ?_
              refine r_iload_n 2 dX11_thingOf_115 rfl rfl rfl ?_
              refine r_lload_n 3 dX11_thingOf_116 rfl rfl rfl ?_
              obtain ⟨σ18, e17, h⟩ := bd h
              refine r_callV (rest := []) (T_X11_rowOf he hrec e17) (by omega) mf_X11_rowOf rfl tw_1223 tw_63 tw_1221 cM_0 rfl rfl rfl (Nat.le_of_ble_eq_true rfl) dX11_thingOf_117 rfl ?_
              refine r_calln ?_
              refine r_goto (t := 165) dX11_thingOf_120 (by decide) ?_
              exact r_vretS dX11_thingOf_165 h
            · have h := it_f c16 h
              by_cases c19 : (ldA σ 0 a1) = 5
              · have h := it_t c19 h
                refine r_tableIn (t := 158) dX11_thingOf_17 (by rw [c19]; decide) (by rw [c19]; decide) (by rw [c19]; rfl) (by decide) ?_
                refine r_aload_n 0 dX11_thingOf_158 rfl rfl rfl ?_
                refine r_iload_n 1 dX11_thingOf_159 rfl rfl rfl ?_
                refine r_iload_n 2 dX11_thingOf_160 rfl rfl rfl ?_
                refine r_lload_n 3 dX11_thingOf_161 rfl rfl rfl ?_
                obtain ⟨σ21, e20, h⟩ := bd h
                refine r_callV (rest := []) (T_X11_setOf he hrec e20) (by omega) mf_X11_setOf rfl tw_1231 tw_65 tw_1229 cM_0 rfl rfl rfl (Nat.le_of_ble_eq_true rfl) dX11_thingOf_162 rfl ?_
                refine r_calln ?_
                exact r_vretS dX11_thingOf_165 h
              · have h := it_f c19 h
                by_cases c22 : (ldA σ 0 a1) = 6
                · have h := it_t c22 h
                  refine r_tableIn (t := 158) dX11_thingOf_17 (by rw [c22]; decide) (by rw [c22]; decide) (by rw [c22]; rfl) (by decide) ?_
                  refine r_aload_n 0 dX11_thingOf_158 rfl rfl rfl ?_
                  refine r_iload_n 1 dX11_thingOf_159 rfl rfl rfl ?_
                  refine r_iload_n 2 dX11_thingOf_160 rfl rfl rfl ?_
                  refine r_lload_n 3 dX11_thingOf_161 rfl rfl rfl ?_
                  obtain ⟨σ24, e23, h⟩ := bd h
                  refine r_callV (rest := []) (T_X11_setOf he hrec e23) (by omega) mf_X11_setOf rfl tw_1231 tw_65 tw_1229 cM_0 rfl rfl rfl (Nat.le_of_ble_eq_true rfl) dX11_thingOf_162 rfl ?_
                  refine r_calln ?_
                  exact r_vretS dX11_thingOf_165 h
                · have h := it_f c22 h
                  by_cases c25 : (ldA σ 0 a1) = 7
                  · have h := it_t c25 h
                    refine r_tableIn (t := 123) dX11_thingOf_17 (by rw [c25]; decide) (by rw [c25]; decide) (by rw [c25]; rfl) (by decide) ?_
                    refine r_aload_n 0 dX11_thingOf_123 rfl rfl rfl ?_
                    refine r_bipush (v := 33) dX11_thingOf_124 (by decide) rfl ?_
                    obtain ⟨σ27, e26, h⟩ := bd h
                    refine r_callV (rest := []) (T_X11_write e26) (by omega) mf_X11_write rfl tw_1211 tw_60 tw_1209 cM_0 rfl rfl rfl (Nat.le_of_ble_eq_true rfl) dX11_thingOf_126 rfl ?_
                    refine r_calln ?_
                    refine r_aload_n 0 dX11_thingOf_129 rfl rfl rfl ?_
                    refine r_aload_n 0 dX11_thingOf_130 rfl rfl rfl ?_
                    refine gf_X11_13_0 dX11_thingOf_131 rfl ?_
                    refine r_iload_n 1 dX11_thingOf_134 rfl rfl rfl ?_
                    obtain ⟨hi28, h⟩ := gi h
                    refine alM_2 hi28 dX11_thingOf_135 rfl ?_
                    refine r_iload_n 2 dX11_thingOf_136 rfl rfl rfl ?_
                    refine r_lload_n 3 dX11_thingOf_137 rfl rfl rfl ?_
                    obtain ⟨σ30, e29, h⟩ := bd h
                    refine r_callV (rest := []) (hrec _ _ _ _ _ e29) (by omega) mf_X11_thingOf rfl tw_1207 tw_59 tw_1205 cM_0 rfl rfl rfl (Nat.le_of_ble_eq_true rfl) dX11_thingOf_138 rfl ?_
                    refine r_calln ?_
                    refine r_goto (t := 165) dX11_thingOf_141 (by decide) ?_
                    exact r_vretS dX11_thingOf_165 h
                  · have h := it_f c25 h
                    by_cases c31 : (ldA σ 0 a1) = 8
                    · have h := it_t c31 h
                      refine r_tableIn (t := 144) dX11_thingOf_17 (by rw [c31]; decide) (by rw [c31]; decide) (by rw [c31]; rfl) (by decide) ?_
                      refine r_aload_n 0 dX11_thingOf_144 rfl rfl rfl ?_
                      refine r_aload_n 0 dX11_thingOf_145 rfl rfl rfl ?_
                      refine gf_X11_13_0 dX11_thingOf_146 rfl ?_
                      refine r_iload_n 1 dX11_thingOf_149 rfl rfl rfl ?_
                      obtain ⟨hi32, h⟩ := gi h
                      refine alM_2 hi32 dX11_thingOf_150 rfl ?_
                      refine r_lload_n 3 dX11_thingOf_151 rfl rfl rfl ?_
                      obtain ⟨σ34, e33, h⟩ := bd h
                      refine r_callV (rest := []) (T_X11_lettersOf e33) (by omega) mf_X11_lettersOf rfl tw_1227 tw_64 tw_1225 cM_0 rfl rfl rfl (Nat.le_of_ble_eq_true rfl) dX11_thingOf_152 rfl ?_
                      refine r_calln ?_
                      refine r_goto (t := 165) dX11_thingOf_155 (by decide) ?_
                      exact r_vretS dX11_thingOf_165 h
                    · have h := it_f c31 h
                      refine r_tableOut (t := 158) dX11_thingOf_17 (by have z0 := neL c3 (z := 0) rfl; have z1 := neL c7 (z := 1) rfl; have z2 := neL c10 (z := 2) rfl; have z3 := neL c13 (z := 3) rfl; have z4 := neL c16 (z := 4) rfl; have z5 := neL c19 (z := 5) rfl; have z6 := neL c22 (z := 6) rfl; have z7 := neL c25 (z := 7) rfl; have z8 := neL c31 (z := 8) rfl; omega) (by decide) ?_
                      refine r_aload_n 0 dX11_thingOf_158 rfl rfl rfl ?_
                      refine r_iload_n 1 dX11_thingOf_159 rfl rfl rfl ?_
                      refine r_iload_n 2 dX11_thingOf_160 rfl rfl rfl ?_
                      refine r_lload_n 3 dX11_thingOf_161 rfl rfl rfl ?_
                      obtain ⟨σ36, e35, h⟩ := bd h
                      refine r_callV (rest := []) (T_X11_setOf he hrec e35) (by omega) mf_X11_setOf rfl tw_1231 tw_65 tw_1229 cM_0 rfl rfl rfl (Nat.le_of_ble_eq_true rfl) dX11_thingOf_162 rfl ?_
                      refine r_calln ?_
                      exact r_vretS dX11_thingOf_165 h
  · have h := it_f c1 h
    exact r_vretS dX11_thingOf_10 h
def P_X11_thingOf : Nat → Int32 → Int32 → Int64 → SS → Option SS
  | 0 => fun _ _ _ _ => none
  | n + 1 => B_X11_thingOf (P_X11_thingOf n)
theorem TL_X11_thingOf {X : XE} : ∀ (n : Nat) (a1 : Int32) (a2 : Int32) (a3 : Int64) (σ σf : SS) , P_X11_thingOf n a1 a2 a3 σ = some σf → Mt (gM X) (4 + 2 * n) yX11_thingOf cX11_thingOf 5 none [.ref (xq X 0), .int a1, .int a2, .long a3] σ none σf := by
  intro n
  induction n with
  | zero => intro a1 a2 a3 σ σf h; exact no0 h
  | succ n ih => intro a1 a2 a3 σ σf h; exact TB_X11_thingOf (e := 4 + 2 * n) (by omega) (fun a b c σ σ1 z => ih a b c σ σ1 z) h
theorem T_X11_thingOf {X : XE} {σ σf : SS} {a1 : Int32} {a2 : Int32} {a3 : Int64}  (n : Nat) (h : P_X11_thingOf n a1 a2 a3 σ = some σf) : Mt (gM X) (4 + 2 * n) yX11_thingOf cX11_thingOf 5 none [.ref (xq X 0), .int a1, .int a2, .long a3] σ none σf := TL_X11_thingOf n a1 a2 a3 σ σf  h
