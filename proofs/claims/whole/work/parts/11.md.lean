def P_X11_reckon_j185 (x1 : Int32) (x2 : Int32) (σ : SS) : Option (Int64 × SS) :=
  (P_X11_countSets x1 x2 σ).bind fun σ2 =>
  (P_X11_upToOf x1 x2 24 σ2).bind fun v4 =>
  some (v4, σ2)
set_option maxHeartbeats 4000000 in
set_option maxRecDepth 100000 in
theorem T_X11_reckon_j185 {X : XE} {σf : SS} {r : Int64} : ∀ (x1 : Int32) (x2 : Int32) (σ : SS), P_X11_reckon_j185 x1 x2 σ = some (r, σf) → V (gM X) 4 RX11 cX11_reckon 3 (some .long) (some (.long r)) σf 185 [(0, .ref (xq X 0)), (1, .int x1), (2, .int x2)] [] σ := by
  intro x1 x2 σ h
  unfold P_X11_reckon_j185 at h
  refine r_aload_n 0 dX11_reckon_185 rfl rfl rfl ?_
  refine r_iload_n 1 dX11_reckon_186 rfl rfl rfl ?_
  refine r_iload_n 2 dX11_reckon_187 rfl rfl rfl ?_
  obtain ⟨σ2, e1, h⟩ := bd h
  refine r_callV (rest := []) (T_X11_countSets e1) (by decide) mf_X11_countSets rfl tw_1164 tw_56 tw_1162 cM_0 rfl rfl rfl (Nat.le_of_ble_eq_true rfl) dX11_reckon_188 rfl ?_
  refine r_calln ?_
  refine r_aload_n 0 dX11_reckon_191 rfl rfl rfl ?_
  refine r_iload_n 1 dX11_reckon_192 rfl rfl rfl ?_
  refine r_iload_n 2 dX11_reckon_193 rfl rfl rfl ?_
  refine r_bipush (v := 24) dX11_reckon_194 (by decide) rfl ?_
  obtain ⟨v4, e3, h⟩ := bd h
  refine r_callV (rest := []) (T_X11_upToOf e3) (by decide) mf_X11_upToOf rfl tw_1178 tw_58 tw_1176 cM_0 rfl rfl rfl (Nat.le_of_ble_eq_true rfl) dX11_reckon_196 rfl ?_
  refine r_call0 ?_
  exact r_lretQ dX11_reckon_199 h
def P_X11_reckon (a1 : Int32) (a2 : Int32) (σ : SS) : Option (Int64 × SS) :=
  gI a1 16 <|
  if (ldA σ 0 a1) = 0 then
    gI a1 16 <|
    if ¬ a2 = (ldA σ 1 a1) then
      some (0, σ)
    else
      some (1, σ)
  else
    if (ldA σ 0 a1) = 1 then
      if ¬ a2 = 0 then
        some (0, σ)
      else
        some (1, σ)
    else
      if (ldA σ 0 a1) = 2 then
        (P_X11_countBoth a1 a2 σ).bind fun v9 =>
        some (v9, σ)
      else
        if (ldA σ 0 a1) = 3 then
          gI a1 16 <|
          (P_X11_countOf (ldA σ 1 a1) a2 σ).bind fun v13 =>
          gI a1 16 <|
          (P_X11_countOf (ldA σ 2 a1) a2 σ).bind fun v16 =>
          (P_X11_plus v13 v16).bind fun v18 =>
          some (v18, σ)
        else
          if (ldA σ 0 a1) = 4 then
            (P_X11_countRow a1 a2 σ).bind fun v21 =>
            some (v21, σ)
          else
            if (ldA σ 0 a1) = 5 then
              P_X11_reckon_j185 a1 a2 σ
            else
              if (ldA σ 0 a1) = 6 then
                P_X11_reckon_j185 a1 a2 σ
              else
                if (ldA σ 0 a1) = 7 then
                  gI a1 16 <|
                  gI a1 16 <|
                  (P_X11_isIn a2.toInt64 (((ldA σ 2 a1) / 32).toInt64) (((ldA σ 2 a1) - (ldA σ 2 a1) / 32 * 32).toInt64)).bind fun v30 =>
                  if v30 = 0 then
                    some (0, σ)
                  else
                    gI a1 16 <|
                    (P_X11_countOf (ldA σ 1 a1) a2 σ).bind fun v34 =>
                    some (v34, σ)
                else
                  if (ldA σ 0 a1) = 8 then
                    gI a1 16 <|
                    if ¬ a2 = (ldA σ 1 a1) then
                      some (0, σ)
                    else
                      (P_X11_factorial a2).bind fun v39 =>
                      some (v39, σ)
                  else
                    P_X11_reckon_j185 a1 a2 σ
set_option maxHeartbeats 4000000 in
set_option maxRecDepth 100000 in
theorem T_X11_reckon {X : XE} {σf : SS} {r : Int64} {σ : SS} {a1 : Int32} {a2 : Int32} (h : P_X11_reckon a1 a2 σ = some (r, σf)) : Mt (gM X) 4 yX11_reckon cX11_reckon 3 (some .long) [.ref (xq X 0), .int a1, .int a2] σ (some (.long r)) σf := by
  refine Mt.of (own := RX11) (lv := [(0, .ref (xq X 0)), (1, .int a1), (2, .int a2)]) pn_X11 rfl (Nat.le_of_ble_eq_true rfl) rfl ?_
  unfold P_X11_reckon at h
  refine r_aload_n 0 dX11_reckon_0 rfl rfl rfl ?_
  refine gf_X11_7_0 dX11_reckon_1 rfl ?_
  refine r_iload_n 1 dX11_reckon_4 rfl rfl rfl ?_
  obtain ⟨hi1, h⟩ := gi h
  refine alM_1 hi1 dX11_reckon_5 rfl ?_
  by_cases c2 : (ldA σ 0 a1) = 0
  · have h := it_t c2 h
    refine r_tableIn (t := 56) dX11_reckon_6 (by rw [c2]; decide) (by rw [c2]; decide) (by rw [c2]; rfl) (by decide) ?_
    refine r_iload_n 2 dX11_reckon_56 rfl rfl rfl ?_
    refine r_aload_n 0 dX11_reckon_57 rfl rfl rfl ?_
    refine gf_X11_13_0 dX11_reckon_58 rfl ?_
    refine r_iload_n 1 dX11_reckon_61 rfl rfl rfl ?_
    obtain ⟨hi3, h⟩ := gi h
    refine alM_2 hi3 dX11_reckon_62 rfl ?_
    refine r_icmp_ne (t := 70) dX11_reckon_63 (by decide) rfl (fun c4 => ?_) (fun c4 => ?_)
    · have h := it_t c4 h
      refine rlc_0 dX11_reckon_70 rfl ?_
      exact r_lretQ dX11_reckon_71 h
    · have h := it_n c4 h
      refine rlc_1 dX11_reckon_66 rfl ?_
      refine r_goto (t := 71) dX11_reckon_67 (by decide) ?_
      exact r_lretQ dX11_reckon_71 h
  · have h := it_f c2 h
    by_cases c5 : (ldA σ 0 a1) = 1
    · have h := it_t c5 h
      refine r_tableIn (t := 72) dX11_reckon_6 (by rw [c5]; decide) (by rw [c5]; decide) (by rw [c5]; rfl) (by decide) ?_
      refine r_iload_n 2 dX11_reckon_72 rfl rfl rfl ?_
      refine r_if_ne (t := 80) dX11_reckon_73 (by decide) rfl (fun c6 => ?_) (fun c6 => ?_)
      · have h := it_t c6 h
        refine rlc_0 dX11_reckon_80 rfl ?_
        exact r_lretQ dX11_reckon_81 h
      · have h := it_n c6 h
        refine rlc_1 dX11_reckon_76 rfl ?_
        refine r_goto (t := 81) dX11_reckon_77 (by decide) ?_
        exact r_lretQ dX11_reckon_81 h
    · have h := it_f c5 h
      by_cases c7 : (ldA σ 0 a1) = 2
      · have h := it_t c7 h
        refine r_tableIn (t := 82) dX11_reckon_6 (by rw [c7]; decide) (by rw [c7]; decide) (by rw [c7]; rfl) (by decide) ?_
        refine r_aload_n 0 dX11_reckon_82 rfl rfl rfl ?_
        refine r_iload_n 1 dX11_reckon_83 rfl rfl rfl ?_
        refine r_iload_n 2 dX11_reckon_84 rfl rfl rfl ?_
        obtain ⟨v9, e8, h⟩ := bd h
        refine r_callV (rest := []) (T_X11_countBoth e8) (by decide) mf_X11_countBoth rfl tw_1141 tw_53 tw_1139 cM_0 rfl rfl rfl (Nat.le_of_ble_eq_true rfl) dX11_reckon_85 rfl ?_
        refine r_call0 ?_
        exact r_lretQ dX11_reckon_88 h
      · have h := it_f c7 h
        by_cases c10 : (ldA σ 0 a1) = 3
        · have h := it_t c10 h
          refine r_tableIn (t := 89) dX11_reckon_6 (by rw [c10]; decide) (by rw [c10]; decide) (by rw [c10]; rfl) (by decide) ?_
          refine r_aload_n 0 dX11_reckon_89 rfl rfl rfl ?_
          refine r_aload_n 0 dX11_reckon_90 rfl rfl rfl ?_
          refine gf_X11_13_0 dX11_reckon_91 rfl ?_
          refine r_iload_n 1 dX11_reckon_94 rfl rfl rfl ?_
          obtain ⟨hi11, h⟩ := gi h
          refine alM_2 hi11 dX11_reckon_95 rfl ?_
          refine r_iload_n 2 dX11_reckon_96 rfl rfl rfl ?_
          obtain ⟨v13, e12, h⟩ := bd h
          refine r_callV (rest := []) (T_X11_countOf e12) (by decide) mf_X11_countOf rfl tw_1145 tw_54 tw_1143 cM_0 rfl rfl rfl (Nat.le_of_ble_eq_true rfl) dX11_reckon_97 rfl ?_
          refine r_call0 ?_
          refine r_aload_n 0 dX11_reckon_100 rfl rfl rfl ?_
          refine r_aload_n 0 dX11_reckon_101 rfl rfl rfl ?_
          refine gf_X11_16_0 dX11_reckon_102 rfl ?_
          refine r_iload_n 1 dX11_reckon_105 rfl rfl rfl ?_
          obtain ⟨hi14, h⟩ := gi h
          refine alM_3 hi14 dX11_reckon_106 rfl ?_
          refine r_iload_n 2 dX11_reckon_107 rfl rfl rfl ?_
          obtain ⟨v16, e15, h⟩ := bd h
          refine r_callV (rest := [.long v13]) (T_X11_countOf e15) (by decide) mf_X11_countOf rfl tw_1145 tw_54 tw_1143 cM_0 rfl rfl rfl (Nat.le_of_ble_eq_true rfl) dX11_reckon_108 rfl ?_
          refine r_call0 ?_
          obtain ⟨v18, e17, h⟩ := bd h
          refine r_callS (As := [.long v13, .long v16]) (rest := []) (T_X11_plus e17) (by decide) mf_X11_plus rfl tw_1153 tw_1152 rfl (Nat.le_of_ble_eq_true rfl) dX11_reckon_111 rfl ?_
          refine r_call0 ?_
          exact r_lretQ dX11_reckon_114 h
        · have h := it_f c10 h
          by_cases c19 : (ldA σ 0 a1) = 4
          · have h := it_t c19 h
            refine r_tableIn (t := 115) dX11_reckon_6 (by rw [c19]; decide) (by rw [c19]; decide) (by rw [c19]; rfl) (by decide) ?_
            refine r_aload_n 0 dX11_reckon_115 rfl rfl rfl ?_
            refine r_iload_n 1 dX11_reckon_116 rfl rfl rfl ?_
            refine r_iload_n 2 dX11_reckon_117 rfl rfl rfl ?_
            obtain ⟨v21, e20, h⟩ := bd h
            refine r_callV (rest := []) (T_X11_countRow e20) (by decide) mf_X11_countRow rfl tw_1157 tw_55 tw_1155 cM_0 rfl rfl rfl (Nat.le_of_ble_eq_true rfl) dX11_reckon_118 rfl ?_
            refine r_call0 ?_
            exact r_lretQ dX11_reckon_121 h
          · have h := it_f c19 h
            by_cases c22 : (ldA σ 0 a1) = 5
            · have h := it_t c22 h
              refine r_tableIn (t := 185) dX11_reckon_6 (by rw [c22]; decide) (by rw [c22]; decide) (by rw [c22]; rfl) (by decide) ?_
              exact T_X11_reckon_j185 a1 a2 σ h
            · have h := it_f c22 h
              by_cases c23 : (ldA σ 0 a1) = 6
              · have h := it_t c23 h
                refine r_tableIn (t := 185) dX11_reckon_6 (by rw [c23]; decide) (by rw [c23]; decide) (by rw [c23]; rfl) (by decide) ?_
                exact T_X11_reckon_j185 a1 a2 σ h
              · have h := it_f c23 h
                by_cases c24 : (ldA σ 0 a1) = 7
                · have h := it_t c24 h
                  refine r_tableIn (t := 122) dX11_reckon_6 (by rw [c24]; decide) (by rw [c24]; decide) (by rw [c24]; rfl) (by decide) ?_
                  refine r_iload_n 2 dX11_reckon_122 rfl rfl rfl ?_
                  refine r_i2l dX11_reckon_123 rfl ?_
                  refine r_aload_n 0 dX11_reckon_124 rfl rfl rfl ?_
                  refine gf_X11_16_0 dX11_reckon_125 rfl ?_
                  refine r_iload_n 1 dX11_reckon_128 rfl rfl rfl ?_
                  obtain ⟨hi25, h⟩ := gi h
                  refine alM_3 hi25 dX11_reckon_129 rfl ?_
                  refine r_bipush (v := 32) dX11_reckon_130 (by decide) rfl ?_
                  refine r_idiv (by decide) dX11_reckon_132 rfl ?_
                  refine r_i2l dX11_reckon_133 rfl ?_
                  refine r_aload_n 0 dX11_reckon_134 rfl rfl rfl ?_
                  refine gf_X11_16_0 dX11_reckon_135 rfl ?_
                  refine r_iload_n 1 dX11_reckon_138 rfl rfl rfl ?_
                  obtain ⟨hi27, h⟩ := gi h
                  refine alM_3 hi27 dX11_reckon_139 rfl ?_
                  refine r_bipush (v := 32) dX11_reckon_140 (by decide) rfl ?_
                  refine r_irem (by decide) dX11_reckon_142 rfl ?_
                  refine r_i2l dX11_reckon_143 rfl ?_
                  obtain ⟨v30, e29, h⟩ := bd h
                  refine r_callS (As := [.long a2.toInt64, .long (((ldA σ 2 a1) / 32).toInt64), .long (((ldA σ 2 a1) - (ldA σ 2 a1) / 32 * 32).toInt64)]) (rest := []) (T_X11_isIn e29) (by decide) mf_X11_isIn rfl tw_1055 tw_1054 rfl (Nat.le_of_ble_eq_true rfl) dX11_reckon_144 rfl ?_
                  refine r_call0 ?_
                  refine r_if_eq (t := 164) dX11_reckon_147 (by decide) rfl (fun c31 => ?_) (fun c31 => ?_)
                  · have h := it_t c31 h
                    refine rlc_0 dX11_reckon_164 rfl ?_
                    exact r_lretQ dX11_reckon_165 h
                  · have h := it_f c31 h
                    refine r_aload_n 0 dX11_reckon_150 rfl rfl rfl ?_
                    refine r_aload_n 0 dX11_reckon_151 rfl rfl rfl ?_
                    refine gf_X11_13_0 dX11_reckon_152 rfl ?_
                    refine r_iload_n 1 dX11_reckon_155 rfl rfl rfl ?_
                    obtain ⟨hi32, h⟩ := gi h
                    refine alM_2 hi32 dX11_reckon_156 rfl ?_
                    refine r_iload_n 2 dX11_reckon_157 rfl rfl rfl ?_
                    obtain ⟨v34, e33, h⟩ := bd h
                    refine r_callV (rest := []) (T_X11_countOf e33) (by decide) mf_X11_countOf rfl tw_1145 tw_54 tw_1143 cM_0 rfl rfl rfl (Nat.le_of_ble_eq_true rfl) dX11_reckon_158 rfl ?_
                    refine r_call0 ?_
                    refine r_goto (t := 165) dX11_reckon_161 (by decide) ?_
                    exact r_lretQ dX11_reckon_165 h
                · have h := it_f c24 h
                  by_cases c35 : (ldA σ 0 a1) = 8
                  · have h := it_t c35 h
                    refine r_tableIn (t := 166) dX11_reckon_6 (by rw [c35]; decide) (by rw [c35]; decide) (by rw [c35]; rfl) (by decide) ?_
                    refine r_iload_n 2 dX11_reckon_166 rfl rfl rfl ?_
                    refine r_aload_n 0 dX11_reckon_167 rfl rfl rfl ?_
                    refine gf_X11_13_0 dX11_reckon_168 rfl ?_
                    refine r_iload_n 1 dX11_reckon_171 rfl rfl rfl ?_
                    obtain ⟨hi36, h⟩ := gi h
                    refine alM_2 hi36 dX11_reckon_172 rfl ?_
                    refine r_icmp_ne (t := 183) dX11_reckon_173 (by decide) rfl (fun c37 => ?_) (fun c37 => ?_)
                    · have h := it_t c37 h
                      refine rlc_0 dX11_reckon_183 rfl ?_
                      exact r_lretQ dX11_reckon_184 h
                    · have h := it_n c37 h
                      refine r_iload_n 2 dX11_reckon_176 rfl rfl rfl ?_
                      obtain ⟨v39, e38, h⟩ := bd h
                      refine r_callS (As := [.int a2]) (rest := []) (T_X11_factorial e38) (by decide) mf_X11_factorial rfl tw_1160 tw_1159 rfl (Nat.le_of_ble_eq_true rfl) dX11_reckon_177 rfl ?_
                      refine r_call0 ?_
                      refine r_goto (t := 184) dX11_reckon_180 (by decide) ?_
                      exact r_lretQ dX11_reckon_184 h
                  · have h := it_f c35 h
                    refine r_tableOut (t := 185) dX11_reckon_6 (by have z0 := neL c2 (z := 0) rfl; have z1 := neL c5 (z := 1) rfl; have z2 := neL c7 (z := 2) rfl; have z3 := neL c10 (z := 3) rfl; have z4 := neL c19 (z := 4) rfl; have z5 := neL c22 (z := 5) rfl; have z6 := neL c23 (z := 6) rfl; have z7 := neL c24 (z := 7) rfl; have z8 := neL c35 (z := 8) rfl; omega) (by decide) ?_
                    exact T_X11_reckon_j185 a1 a2 σ h
def P_X11_countAll_j65 (K24 : Int32 → SS → Option SS) (K55 : Int32 → Int32 → SS → Option SS) : Nat → Int32 → Int32 → Int32 → SS → Option SS
  | 0, _, _, _, _ => none
  | n + 1, x1, x2, x3, σ =>
    (P_X11_mayCount x3 σ).bind fun v2 =>
    if ¬ v2 = 0 then
      b2 (P_X11_reckon x3 x1 σ) fun v5 σ6 =>
      gI ((25 * x3) + x1) 400 <|
      gI x3 16 <|
      K55 x1 (x2 + 1) (stZ (stL σ6 0 ((25 * x3) + x1) v5) 8 x3 1)
    else
      (P_X11_countAll_j65 K24 K55 n) x1 x2 (x3 + 1) σ
set_option maxHeartbeats 4000000 in
set_option maxRecDepth 100000 in
theorem T_X11_countAll_j65 {X : XE} {σf : SS} {K24 : Int32 → SS → Option SS} {K55 : Int32 → Int32 → SS → Option SS} (hK24 : ∀ (x1 : Int32) (σ : SS), K24 x1 σ = some σf → V (gM X) 5 RX11 cX11_countAll 4 none none σf 24 [(0, .ref (xq X 0)), (1, .int x1)] [] σ) (hK55 : ∀ (x1 : Int32) (x2 : Int32) (σ : SS), K55 x1 x2 σ = some σf → V (gM X) 5 RX11 cX11_countAll 4 none none σf 55 [(0, .ref (xq X 0)), (1, .int x1), (2, .int x2)] [] σ) : ∀ (fu : Nat) (x1 : Int32) (x2 : Int32) (x3 : Int32) (σ : SS), P_X11_countAll_j65 K24 K55 fu x1 x2 x3 σ = some σf → V (gM X) 5 RX11 cX11_countAll 4 none none σf 65 [(0, .ref (xq X 0)), (1, .int x1), (2, .int x2), (3, .int x3)] [] σ := by
  intro fu
  induction fu with
  | zero => intro x1 x2 x3 σ h; exact no0 h
  | succ n ih =>
    intro x1 x2 x3 σ h
    unfold P_X11_countAll_j65 at h
    refine r_aload_n 0 dX11_countAll_65 rfl rfl rfl ?_
    refine r_iload_n 3 dX11_countAll_66 rfl rfl rfl ?_
    obtain ⟨v2, e1, h⟩ := bd h
    refine r_callV (rest := []) (T_X11_mayCount e1) (by decide) mf_X11_mayCount rfl tw_1133 tw_51 tw_1131 cM_0 rfl rfl rfl (Nat.le_of_ble_eq_true rfl) dX11_countAll_67 rfl ?_
    refine r_call0 ?_
    refine r_if_ne (t := 79) dX11_countAll_70 (by decide) rfl (fun c3 => ?_) (fun c3 => ?_)
    · have h := it_t c3 h
      refine r_aload_n 0 dX11_countAll_79 rfl rfl rfl ?_
      refine gf_X11_35_0 dX11_countAll_80 rfl ?_
      refine r_bipush (v := 25) dX11_countAll_83 (by decide) rfl ?_
      refine r_iload_n 3 dX11_countAll_85 rfl rfl rfl ?_
      refine r_imul dX11_countAll_86 rfl ?_
      refine r_iload_n 1 dX11_countAll_87 rfl rfl rfl ?_
      refine r_iadd dX11_countAll_88 rfl ?_
      refine r_aload_n 0 dX11_countAll_89 rfl rfl rfl ?_
      refine r_iload_n 3 dX11_countAll_90 rfl rfl rfl ?_
      refine r_iload_n 1 dX11_countAll_91 rfl rfl rfl ?_
      obtain ⟨v5, σ6, e4, h⟩ := b2d h
      refine r_callV (rest := [.int ((25 * x3) + x1), .ref (xq X 9)]) (T_X11_reckon e4) (by decide) mf_X11_reckon rfl tw_1137 tw_52 tw_1135 cM_0 rfl rfl rfl (Nat.le_of_ble_eq_true rfl) dX11_countAll_92 rfl ?_
      refine r_call0 ?_
      obtain ⟨hi7, h⟩ := gi h
      refine asM_9 hi7 dX11_countAll_95 rfl ?_
      refine r_aload_n 0 dX11_countAll_96 rfl rfl rfl ?_
      refine gf_X11_42_0 dX11_countAll_97 rfl ?_
      refine r_iload_n 3 dX11_countAll_100 rfl rfl rfl ?_
      refine ric_1 dX11_countAll_101 rfl ?_
      obtain ⟨hi8, h⟩ := gi h
      refine asM_11 hi8 dX11_countAll_102 rfl ?_
      refine r_iinc (v := (x2 + 1)) (lv' := [(2, .int (x2 + 1)), (0, .ref (xq X 0)), (1, .int x1), (3, .int x3)]) 2 dX11_countAll_103 rfl rfl (by decide) rfl rfl ?_
      refine r_goto (t := 55) dX11_countAll_106 (by decide) ?_
      refine r_sub [1, 2, 0] rfl ?_
      exact hK55 x1 (x2 + 1) (stZ (stL σ6 0 ((25 * x3) + x1) v5) 8 x3 1) h
    · have h := it_n c3 h
      refine r_iinc (v := (x3 + 1)) (lv' := [(3, .int (x3 + 1)), (0, .ref (xq X 0)), (1, .int x1), (2, .int x2)]) 3 dX11_countAll_73 rfl rfl (by decide) rfl rfl ?_
      refine r_goto (t := 65) dX11_countAll_76 (by decide) ?_
      refine r_sub [1, 2, 3, 0] rfl ?_
      exact ih x1 x2 (x3 + 1) σ h
def P_X11_countAll_j55 (K24 : Int32 → SS → Option SS) : Nat → Int32 → Int32 → SS → Option SS
  | 0, _, _, _ => none
  | n + 1, x1, x2, σ =>
    if (sI σ 0) ≤ x2 then
      K24 (x1 + 1) σ
    else
      P_X11_countAll_j65 K24 (P_X11_countAll_j55 K24 n) FU x1 x2 0 σ
set_option maxHeartbeats 4000000 in
set_option maxRecDepth 100000 in
theorem T_X11_countAll_j55 {X : XE} {σf : SS} {K24 : Int32 → SS → Option SS} (hK24 : ∀ (x1 : Int32) (σ : SS), K24 x1 σ = some σf → V (gM X) 5 RX11 cX11_countAll 4 none none σf 24 [(0, .ref (xq X 0)), (1, .int x1)] [] σ) : ∀ (fu : Nat) (x1 : Int32) (x2 : Int32) (σ : SS), P_X11_countAll_j55 K24 fu x1 x2 σ = some σf → V (gM X) 5 RX11 cX11_countAll 4 none none σf 55 [(0, .ref (xq X 0)), (1, .int x1), (2, .int x2)] [] σ := by
  intro fu
  induction fu with
  | zero => intro x1 x2 σ h; exact no0 h
  | succ n ih =>
    intro x1 x2 σ h
    unfold P_X11_countAll_j55 at h
    refine r_iload_n 2 dX11_countAll_55 rfl rfl rfl ?_
    refine r_aload_n 0 dX11_countAll_56 rfl rfl rfl ?_
    refine gf_X11_95_0 dX11_countAll_57 rfl ?_
    refine r_icmp_ge (t := 109) dX11_countAll_60 (by decide) rfl (fun c1 => ?_) (fun c1 => ?_)
    · have h := it_t c1 h
      refine r_iinc (v := (x1 + 1)) (lv' := [(1, .int (x1 + 1)), (0, .ref (xq X 0)), (2, .int x2)]) 1 dX11_countAll_109 rfl rfl (by decide) rfl rfl ?_
      refine r_goto (t := 24) dX11_countAll_112 (by decide) ?_
      refine r_sub [1, 0] rfl ?_
      exact hK24 (x1 + 1) σ h
    · have h := it_f c1 h
      refine ric_0 dX11_countAll_63 rfl ?_
      refine r_istore_n (lv' := [(3, .int 0), (0, .ref (xq X 0)), (1, .int x1), (2, .int x2)]) dX11_countAll_64 rfl (by decide) rfl rfl ?_
      refine r_sub [1, 2, 3, 0] rfl ?_
      exact T_X11_countAll_j65 hK24 ih FU x1 x2 0 σ h
def P_X11_countAll_j32 (K24 : Int32 → SS → Option SS) : Nat → Int32 → Int32 → SS → Option SS
  | 0, _, _, _ => none
  | n + 1, x1, x2, σ =>
    if (sI σ 0) ≤ x2 then
      P_X11_countAll_j55 K24 FU x1 0 σ
    else
      gI x2 16 <|
      (P_X11_countAll_j32 K24 n) x1 (x2 + 1) (stZ σ 8 x2 0)
set_option maxHeartbeats 4000000 in
set_option maxRecDepth 100000 in
theorem T_X11_countAll_j32 {X : XE} {σf : SS} {K24 : Int32 → SS → Option SS} (hK24 : ∀ (x1 : Int32) (σ : SS), K24 x1 σ = some σf → V (gM X) 5 RX11 cX11_countAll 4 none none σf 24 [(0, .ref (xq X 0)), (1, .int x1)] [] σ) : ∀ (fu : Nat) (x1 : Int32) (x2 : Int32) (σ : SS), P_X11_countAll_j32 K24 fu x1 x2 σ = some σf → V (gM X) 5 RX11 cX11_countAll 4 none none σf 32 [(0, .ref (xq X 0)), (1, .int x1), (2, .int x2)] [] σ := by
  intro fu
  induction fu with
  | zero => intro x1 x2 σ h; exact no0 h
  | succ n ih =>
    intro x1 x2 σ h
    unfold P_X11_countAll_j32 at h
    refine r_iload_n 2 dX11_countAll_32 rfl rfl rfl ?_
    refine r_aload_n 0 dX11_countAll_33 rfl rfl rfl ?_
    refine gf_X11_95_0 dX11_countAll_34 rfl ?_
    refine r_icmp_ge (t := 53) dX11_countAll_37 (by decide) rfl (fun c1 => ?_) (fun c1 => ?_)
    · have h := it_t c1 h
      refine ric_0 dX11_countAll_53 rfl ?_
      refine r_istore_n (lv' := [(2, .int 0), (0, .ref (xq X 0)), (1, .int x1)]) dX11_countAll_54 rfl (by decide) rfl rfl ?_
      refine r_sub [1, 2, 0] rfl ?_
      exact T_X11_countAll_j55 hK24 FU x1 0 σ h
    · have h := it_f c1 h
      refine r_aload_n 0 dX11_countAll_40 rfl rfl rfl ?_
      refine gf_X11_42_0 dX11_countAll_41 rfl ?_
      refine r_iload_n 2 dX11_countAll_44 rfl rfl rfl ?_
      refine ric_0 dX11_countAll_45 rfl ?_
      obtain ⟨hi2, h⟩ := gi h
      refine asM_11 hi2 dX11_countAll_46 rfl ?_
      refine r_iinc (v := (x2 + 1)) (lv' := [(2, .int (x2 + 1)), (0, .ref (xq X 0)), (1, .int x1)]) 2 dX11_countAll_47 rfl rfl (by decide) rfl rfl ?_
      refine r_goto (t := 32) dX11_countAll_50 (by decide) ?_
      refine r_sub [1, 2, 0] rfl ?_
      exact ih x1 (x2 + 1) (stZ σ 8 x2 0) h
def P_X11_countAll_j24 : Nat → Int32 → SS → Option SS
  | 0, _, _ => none
  | n + 1, x1, σ =>
    if 25 ≤ x1 then
      some σ
    else
      P_X11_countAll_j32 (P_X11_countAll_j24 n) FU x1 0 σ
set_option maxHeartbeats 4000000 in
set_option maxRecDepth 100000 in
theorem T_X11_countAll_j24 {X : XE} {σf : SS} : ∀ (fu : Nat) (x1 : Int32) (σ : SS), P_X11_countAll_j24 fu x1 σ = some σf → V (gM X) 5 RX11 cX11_countAll 4 none none σf 24 [(0, .ref (xq X 0)), (1, .int x1)] [] σ := by
  intro fu
  induction fu with
  | zero => intro x1 σ h; exact no0 h
  | succ n ih =>
    intro x1 σ h
    unfold P_X11_countAll_j24 at h
    refine r_iload_n 1 dX11_countAll_24 rfl rfl rfl ?_
    refine r_bipush (v := 25) dX11_countAll_25 (by decide) rfl ?_
    refine r_icmp_ge (t := 115) dX11_countAll_27 (by decide) rfl (fun c1 => ?_) (fun c1 => ?_)
    · have h := it_t c1 h
      exact r_vretS dX11_countAll_115 h
    · have h := it_f c1 h
      refine ric_0 dX11_countAll_30 rfl ?_
      refine r_istore_n (lv' := [(2, .int 0), (0, .ref (xq X 0)), (1, .int x1)]) dX11_countAll_31 rfl (by decide) rfl rfl ?_
      refine r_sub [1, 2, 0] rfl ?_
      exact T_X11_countAll_j32 ih FU x1 0 σ h
def P_X11_countAll_j2 : Nat → Int32 → SS → Option SS
  | 0, _, _ => none
  | n + 1, x1, σ =>
    if 400 ≤ x1 then
      P_X11_countAll_j24 FU 0 σ
    else
      gI x1 400 <|
      (P_X11_countAll_j2 n) (x1 + 1) (stL σ 0 x1 0)
set_option maxHeartbeats 4000000 in
set_option maxRecDepth 100000 in
theorem T_X11_countAll_j2 {X : XE} {σf : SS} : ∀ (fu : Nat) (x1 : Int32) (σ : SS), P_X11_countAll_j2 fu x1 σ = some σf → V (gM X) 5 RX11 cX11_countAll 4 none none σf 2 [(0, .ref (xq X 0)), (1, .int x1)] [] σ := by
  intro fu
  induction fu with
  | zero => intro x1 σ h; exact no0 h
  | succ n ih =>
    intro x1 σ h
    unfold P_X11_countAll_j2 at h
    refine r_iload_n 1 dX11_countAll_2 rfl rfl rfl ?_
    refine r_sipush (v := 400) dX11_countAll_3 (by decide) rfl ?_
    refine r_icmp_ge (t := 22) dX11_countAll_6 (by decide) rfl (fun c1 => ?_) (fun c1 => ?_)
    · have h := it_t c1 h
      refine ric_0 dX11_countAll_22 rfl ?_
      refine r_istore_n (lv' := [(1, .int 0), (0, .ref (xq X 0))]) dX11_countAll_23 rfl (by decide) rfl rfl ?_
      refine r_sub [1, 0] rfl ?_
      exact T_X11_countAll_j24 FU 0 σ h
    · have h := it_f c1 h
      refine r_aload_n 0 dX11_countAll_9 rfl rfl rfl ?_
      refine gf_X11_35_0 dX11_countAll_10 rfl ?_
      refine r_iload_n 1 dX11_countAll_13 rfl rfl rfl ?_
      refine rlc_0 dX11_countAll_14 rfl ?_
      obtain ⟨hi2, h⟩ := gi h
      refine asM_9 hi2 dX11_countAll_15 rfl ?_
      refine r_iinc (v := (x1 + 1)) (lv' := [(1, .int (x1 + 1)), (0, .ref (xq X 0))]) 1 dX11_countAll_16 rfl rfl (by decide) rfl rfl ?_
      refine r_goto (t := 2) dX11_countAll_19 (by decide) ?_
      refine r_sub [1, 0] rfl ?_
      exact ih (x1 + 1) (stL σ 0 x1 0) h
def P_X11_countAll (σ : SS) : Option SS :=
  P_X11_countAll_j2 FU 0 σ
set_option maxHeartbeats 4000000 in
set_option maxRecDepth 100000 in
theorem T_X11_countAll {X : XE} {σf : SS} {σ : SS} (h : P_X11_countAll σ = some σf) : Mt (gM X) 5 yX11_countAll cX11_countAll 4 none [.ref (xq X 0)] σ none σf := by
  refine Mt.of (own := RX11) (lv := [(0, .ref (xq X 0))]) pn_X11 rfl (Nat.le_of_ble_eq_true rfl) rfl ?_
  unfold P_X11_countAll at h
  refine ric_0 dX11_countAll_0 rfl ?_
  refine r_istore_n (lv' := [(1, .int 0), (0, .ref (xq X 0))]) dX11_countAll_1 rfl (by decide) rfl rfl ?_
  refine r_sub [1, 0] rfl ?_
  exact T_X11_countAll_j2 FU 0 σ h
def P_X11_ready (σ : SS) : Option (Int64 × SS) :=
  (P_X11_faulty 1 (uI σ 1 0)).bind fun v2 =>
  if v2 < 0 then
    (P_X11_findNought (uI σ 1 0)).bind fun σ5 =>
    (P_X11_faulty 2 σ5).bind fun v7 =>
    if v7 < 0 then
      (P_X11_findNeeds σ5).bind fun σ10 =>
      (P_X11_faulty 3 σ10).bind fun v12 =>
      if v12 < 0 then
        (P_X11_countAll (uI σ10 1 1)).bind fun σ15 =>
        some (0, σ15)
      else
        (P_X11_faulty 3 σ10).bind fun v17 =>
        some ((48 + v17).toInt64, σ10)
    else
      (P_X11_faulty 2 σ5).bind fun v19 =>
      some ((32 + v19).toInt64, σ5)
  else
    (P_X11_faulty 1 (uI σ 1 0)).bind fun v21 =>
    some ((16 + v21).toInt64, (uI σ 1 0))
set_option maxHeartbeats 4000000 in
set_option maxRecDepth 100000 in
theorem T_X11_ready {X : XE} {σf : SS} {r : Int64} {σ : SS} (h : P_X11_ready σ = some (r, σf)) : Mt (gM X) 6 yX11_ready cX11_ready 1 (some .long) [.ref (xq X 0)] σ (some (.long r)) σf := by
  refine Mt.of (own := RX11) (lv := [(0, .ref (xq X 0))]) pn_X11 rfl (Nat.le_of_ble_eq_true rfl) rfl ?_
  unfold P_X11_ready at h
  refine r_aload_n 0 dX11_ready_0 rfl rfl rfl ?_
  refine ric_0 dX11_ready_1 rfl ?_
  refine pf_X11_98_0 (Or.inl rfl) dX11_ready_2 rfl ?_
  refine r_aload_n 0 dX11_ready_5 rfl rfl rfl ?_
  refine ric_1 dX11_ready_6 rfl ?_
  obtain ⟨v2, e1, h⟩ := bd h
  refine r_callV (rest := []) (T_X11_faulty e1) (by decide) mf_X11_faulty rfl tw_1094 tw_42 tw_1092 cM_0 rfl rfl rfl (Nat.le_of_ble_eq_true rfl) dX11_ready_7 rfl ?_
  refine r_call0 ?_
  refine r_if_lt (t := 23) dX11_ready_10 (by decide) rfl (fun c3 => ?_) (fun c3 => ?_)
  · have h := it_t c3 h
    refine r_aload_n 0 dX11_ready_23 rfl rfl rfl ?_
    obtain ⟨σ5, e4, h⟩ := bd h
    refine r_callV (rest := []) (T_X11_findNought e4) (by decide) mf_X11_findNought rfl tw_1109 tw_45 tw_1107 cM_0 rfl rfl rfl (Nat.le_of_ble_eq_true rfl) dX11_ready_24 rfl ?_
    refine r_calln ?_
    refine r_aload_n 0 dX11_ready_27 rfl rfl rfl ?_
    refine ric_2 dX11_ready_28 rfl ?_
    obtain ⟨v7, e6, h⟩ := bd h
    refine r_callV (rest := []) (T_X11_faulty e6) (by decide) mf_X11_faulty rfl tw_1094 tw_42 tw_1092 cM_0 rfl rfl rfl (Nat.le_of_ble_eq_true rfl) dX11_ready_29 rfl ?_
    refine r_call0 ?_
    refine r_if_lt (t := 45) dX11_ready_32 (by decide) rfl (fun c8 => ?_) (fun c8 => ?_)
    · have h := it_t c8 h
      refine r_aload_n 0 dX11_ready_45 rfl rfl rfl ?_
      obtain ⟨σ10, e9, h⟩ := bd h
      refine r_callV (rest := []) (T_X11_findNeeds e9) (by decide) mf_X11_findNeeds rfl tw_1117 tw_47 tw_1115 cM_0 rfl rfl rfl (Nat.le_of_ble_eq_true rfl) dX11_ready_46 rfl ?_
      refine r_calln ?_
      refine r_aload_n 0 dX11_ready_49 rfl rfl rfl ?_
      refine ric_3 dX11_ready_50 rfl ?_
      obtain ⟨v12, e11, h⟩ := bd h
      refine r_callV (rest := []) (T_X11_faulty e11) (by decide) mf_X11_faulty rfl tw_1094 tw_42 tw_1092 cM_0 rfl rfl rfl (Nat.le_of_ble_eq_true rfl) dX11_ready_51 rfl ?_
      refine r_call0 ?_
      refine r_if_lt (t := 67) dX11_ready_54 (by decide) rfl (fun c13 => ?_) (fun c13 => ?_)
      · have h := it_t c13 h
        refine r_aload_n 0 dX11_ready_67 rfl rfl rfl ?_
        refine ric_1 dX11_ready_68 rfl ?_
        refine pf_X11_98_0 (Or.inr rfl) dX11_ready_69 rfl ?_
        refine r_aload_n 0 dX11_ready_72 rfl rfl rfl ?_
        obtain ⟨σ15, e14, h⟩ := bd h
        refine r_callV (rest := []) (T_X11_countAll e14) (by decide) mf_X11_countAll rfl tw_1129 tw_50 tw_1127 cM_0 rfl rfl rfl (Nat.le_of_ble_eq_true rfl) dX11_ready_73 rfl ?_
        refine r_calln ?_
        refine rlc_0 dX11_ready_76 rfl ?_
        exact r_lretQ dX11_ready_77 h
      · have h := it_f c13 h
        refine r_bipush (v := 48) dX11_ready_57 (by decide) rfl ?_
        refine r_aload_n 0 dX11_ready_59 rfl rfl rfl ?_
        refine ric_3 dX11_ready_60 rfl ?_
        obtain ⟨v17, e16, h⟩ := bd h
        refine r_callV (rest := [.int 48]) (T_X11_faulty e16) (by decide) mf_X11_faulty rfl tw_1094 tw_42 tw_1092 cM_0 rfl rfl rfl (Nat.le_of_ble_eq_true rfl) dX11_ready_61 rfl ?_
        refine r_call0 ?_
        refine r_iadd dX11_ready_64 rfl ?_
        refine r_i2l dX11_ready_65 rfl ?_
        exact r_lretQ dX11_ready_66 h
    · have h := it_f c8 h
      refine r_bipush (v := 32) dX11_ready_35 (by decide) rfl ?_
      refine r_aload_n 0 dX11_ready_37 rfl rfl rfl ?_
      refine ric_2 dX11_ready_38 rfl ?_
      obtain ⟨v19, e18, h⟩ := bd h
      refine r_callV (rest := [.int 32]) (T_X11_faulty e18) (by decide) mf_X11_faulty rfl tw_1094 tw_42 tw_1092 cM_0 rfl rfl rfl (Nat.le_of_ble_eq_true rfl) dX11_ready_39 rfl ?_
      refine r_call0 ?_
      refine r_iadd dX11_ready_42 rfl ?_
      refine r_i2l dX11_ready_43 rfl ?_
      exact r_lretQ dX11_ready_44 h
  · have h := it_f c3 h
    refine r_bipush (v := 16) dX11_ready_13 (by decide) rfl ?_
    refine r_aload_n 0 dX11_ready_15 rfl rfl rfl ?_
    refine ric_1 dX11_ready_16 rfl ?_
    obtain ⟨v21, e20, h⟩ := bd h
    refine r_callV (rest := [.int 16]) (T_X11_faulty e20) (by decide) mf_X11_faulty rfl tw_1094 tw_42 tw_1092 cM_0 rfl rfl rfl (Nat.le_of_ble_eq_true rfl) dX11_ready_17 rfl ?_
    refine r_call0 ?_
    refine r_iadd dX11_ready_20 rfl ?_
    refine r_i2l dX11_ready_21 rfl ?_
    exact r_lretQ dX11_ready_22 h
def P_X11_isSize (a0 : Int32) : Option Int32 :=
  (P_X11_isIn a0.toInt64 0 24).bind fun v2 =>
  gZ v2 <|
  some v2
set_option maxHeartbeats 4000000 in
set_option maxRecDepth 100000 in
theorem T_X11_isSize {X : XE} {σ : SS} {r : Int32} {a0 : Int32} (h : P_X11_isSize a0 = some r) : Mt (gM X) 1 yX11_isSize cX11_isSize 1 (some .boolean) [.int a0] σ (some (.int r)) σ := by
  refine Mt.of (own := RX11) (lv := [(0, .int a0)]) pn_X11 rfl (Nat.le_of_ble_eq_true rfl) rfl ?_
  unfold P_X11_isSize at h
  refine r_iload_n 0 dX11_isSize_0 rfl rfl rfl ?_
  refine r_i2l dX11_isSize_1 rfl ?_
  refine rlc_0 dX11_isSize_2 rfl ?_
  refine r_ldc2 (v := 24) tw_1187 dX11_isSize_3 rfl ?_
  obtain ⟨v2, e1, h⟩ := bd h
  refine r_callS (As := [.long a0.toInt64, .long 0, .long 24]) (rest := []) (T_X11_isIn e1) (by decide) mf_X11_isIn rfl tw_1055 tw_1054 rfl (Nat.le_of_ble_eq_true rfl) dX11_isSize_6 rfl ?_
  refine r_call0 ?_
  obtain ⟨hz3, h⟩ := gz h
  exact r_zretR hz3 dX11_isSize_9 h
def P_X11_told (a0 : Int64) : Option Int64 :=
  if a0 < 10000000000000000 then
    some a0
  else
    some (-2000000004)
set_option maxHeartbeats 4000000 in
set_option maxRecDepth 100000 in
theorem T_X11_told {X : XE} {σ : SS} {r : Int64} {a0 : Int64} (h : P_X11_told a0 = some r) : Mt (gM X) 0 yX11_told cX11_told 2 (some .long) [.long a0] σ (some (.long r)) σ := by
  refine Mt.of (own := RX11) (lv := [(0, .long a0)]) pn_X11 rfl (Nat.le_of_ble_eq_true rfl) rfl ?_
  unfold P_X11_told at h
  refine r_lload_n 0 dX11_told_0 rfl rfl rfl ?_
  refine r_ldc2 (v := 10000000000000000) tw_1151 dX11_told_1 rfl ?_
  refine r_lif_lt (t := 14) dX11_told_4 rfl dX11_told_5 (by decide) rfl (fun c1 => ?_) (fun c1 => ?_)
  · have h := it_t c1 h
    refine r_lload_n 0 dX11_told_14 rfl rfl rfl ?_
    exact r_lretR dX11_told_15 h
  · have h := it_f c1 h
    refine r_ldc2 (v := (-2000000004)) tw_1191 dX11_told_8 rfl ?_
    refine r_goto (t := 15) dX11_told_11 (by decide) ?_
    exact r_lretR dX11_told_15 h
def P_X11_count (a1 : Int32) (a2 : Int32) (σ : SS) : Option Int64 :=
  (P_X11_isShape a1 σ).bind fun v2 =>
  if v2 = 0 then
    some (-2000000001)
  else
    (P_X11_isSize a2).bind fun v5 =>
    if ¬ v5 = 0 then
      if (sI σ 1) = 0 then
        some (-2000000002)
      else
        (P_X11_countOf a1 a2 σ).bind fun v9 =>
        (P_X11_told v9).bind fun v11 =>
        some v11
    else
      some (-2000000001)
set_option maxHeartbeats 4000000 in
set_option maxRecDepth 100000 in
theorem T_X11_count {X : XE} {σ : SS} {r : Int64} {a1 : Int32} {a2 : Int32} (h : P_X11_count a1 a2 σ = some r) : Mt (gM X) 2 yX11_count cX11_count 3 (some .long) [.ref (xq X 0), .int a1, .int a2] σ (some (.long r)) σ := by
  refine Mt.of (own := RX11) (lv := [(0, .ref (xq X 0)), (1, .int a1), (2, .int a2)]) pn_X11 rfl (Nat.le_of_ble_eq_true rfl) rfl ?_
  unfold P_X11_count at h
  refine r_aload_n 0 dX11_count_0 rfl rfl rfl ?_
  refine r_iload_n 1 dX11_count_1 rfl rfl rfl ?_
  obtain ⟨v2, e1, h⟩ := bd h
  refine r_callV (rest := []) (T_X11_isShape e1) (by decide) mf_X11_isShape rfl tw_1076 tw_41 tw_1074 cM_0 rfl rfl rfl (Nat.le_of_ble_eq_true rfl) dX11_count_2 rfl ?_
  refine r_call0 ?_
  refine r_if_eq (t := 15) dX11_count_5 (by decide) rfl (fun c3 => ?_) (fun c3 => ?_)
  · have h := it_t c3 h
    refine r_ldc2 (v := (-2000000001)) tw_1060 dX11_count_15 rfl ?_
    exact r_lretR dX11_count_18 h
  · have h := it_f c3 h
    refine r_iload_n 2 dX11_count_8 rfl rfl rfl ?_
    obtain ⟨v5, e4, h⟩ := bd h
    refine r_callS (As := [.int a2]) (rest := []) (T_X11_isSize e4) (by decide) mf_X11_isSize rfl tw_1185 tw_1184 rfl (Nat.le_of_ble_eq_true rfl) dX11_count_9 rfl ?_
    refine r_call0 ?_
    refine r_if_ne (t := 19) dX11_count_12 (by decide) rfl (fun c6 => ?_) (fun c6 => ?_)
    · have h := it_t c6 h
      refine r_aload_n 0 dX11_count_19 rfl rfl rfl ?_
      refine gf_X11_98_0 dX11_count_20 rfl ?_
      refine r_if_eq (t := 38) dX11_count_23 (by decide) rfl (fun c7 => ?_) (fun c7 => ?_)
      · have h := it_t c7 h
        refine r_ldc2 (v := (-2000000002)) tw_1082 dX11_count_38 rfl ?_
        exact r_lretR dX11_count_41 h
      · have h := it_f c7 h
        refine r_aload_n 0 dX11_count_26 rfl rfl rfl ?_
        refine r_iload_n 1 dX11_count_27 rfl rfl rfl ?_
        refine r_iload_n 2 dX11_count_28 rfl rfl rfl ?_
        obtain ⟨v9, e8, h⟩ := bd h
        refine r_callV (rest := []) (T_X11_countOf e8) (by decide) mf_X11_countOf rfl tw_1145 tw_54 tw_1143 cM_0 rfl rfl rfl (Nat.le_of_ble_eq_true rfl) dX11_count_29 rfl ?_
        refine r_call0 ?_
        obtain ⟨v11, e10, h⟩ := bd h
        refine r_callS (As := [.long v9]) (rest := []) (T_X11_told e10) (by decide) mf_X11_told rfl tw_1189 tw_1188 rfl (Nat.le_of_ble_eq_true rfl) dX11_count_32 rfl ?_
        refine r_call0 ?_
        refine r_goto (t := 41) dX11_count_35 (by decide) ?_
        exact r_lretR dX11_count_41 h
    · have h := it_n c6 h
      refine r_ldc2 (v := (-2000000001)) tw_1060 dX11_count_15 rfl ?_
      exact r_lretR dX11_count_18 h
def P_X11_upTo_j35 (σ : SS) : Nat → Int32 → Int32 → Int64 → Int32 → Option Int64
  | 0, _, _, _, _ => none
  | n + 1, x1, x2, x3, x5 =>
    if x2 < x5 then
      (P_X11_told x3).bind fun v3 =>
      some v3
    else
      (P_X11_countOf x1 x5 σ).bind fun v5 =>
      (P_X11_plus x3 v5).bind fun v7 =>
      (P_X11_upTo_j35 σ n) x1 x2 v7 (x5 + 1)
set_option maxHeartbeats 4000000 in
set_option maxRecDepth 100000 in
theorem T_X11_upTo_j35 {X : XE} {σ : SS} {r : Int64} : ∀ (fu : Nat) (x1 : Int32) (x2 : Int32) (x3 : Int64) (x5 : Int32), P_X11_upTo_j35 σ fu x1 x2 x3 x5 = some r → V (gM X) 2 RX11 cX11_upTo 6 (some .long) (some (.long r)) σ 35 [(0, .ref (xq X 0)), (1, .int x1), (2, .int x2), (3, .long x3), (5, .int x5)] [] σ := by
  intro fu
  induction fu with
  | zero => intro x1 x2 x3 x5 h; exact no0 h
  | succ n ih =>
    intro x1 x2 x3 x5 h
    unfold P_X11_upTo_j35 at h
    refine r_iload 4 dX11_upTo_35 rfl rfl ?_
    refine r_iload_n 2 dX11_upTo_37 rfl rfl rfl ?_
    refine r_icmp_gt (t := 59) dX11_upTo_38 (by decide) rfl (fun c1 => ?_) (fun c1 => ?_)
    · have h := it_t c1 h
      refine r_lload_n 3 dX11_upTo_59 rfl rfl rfl ?_
      obtain ⟨v3, e2, h⟩ := bd h
      refine r_callS (As := [.long x3]) (rest := []) (T_X11_told e2) (by decide) mf_X11_told rfl tw_1189 tw_1188 rfl (Nat.le_of_ble_eq_true rfl) dX11_upTo_60 rfl ?_
      refine r_call0 ?_
      exact r_lretR dX11_upTo_63 h
    · have h := it_f c1 h
      refine r_lload_n 3 dX11_upTo_41 rfl rfl rfl ?_
      refine r_aload_n 0 dX11_upTo_42 rfl rfl rfl ?_
      refine r_iload_n 1 dX11_upTo_43 rfl rfl rfl ?_
      refine r_iload 4 dX11_upTo_44 rfl rfl ?_
      obtain ⟨v5, e4, h⟩ := bd h
      refine r_callV (rest := [.long x3]) (T_X11_countOf e4) (by decide) mf_X11_countOf rfl tw_1145 tw_54 tw_1143 cM_0 rfl rfl rfl (Nat.le_of_ble_eq_true rfl) dX11_upTo_46 rfl ?_
      refine r_call0 ?_
      obtain ⟨v7, e6, h⟩ := bd h
      refine r_callS (As := [.long x3, .long v5]) (rest := []) (T_X11_plus e6) (by decide) mf_X11_plus rfl tw_1153 tw_1152 rfl (Nat.le_of_ble_eq_true rfl) dX11_upTo_49 rfl ?_
      refine r_call0 ?_
      refine r_lstore_n (lv' := [(3, .long v7), (0, .ref (xq X 0)), (1, .int x1), (2, .int x2), (5, .int x5)]) dX11_upTo_52 rfl (by decide) rfl rfl ?_
      refine r_iinc (v := (x5 + 1)) (lv' := [(5, .int (x5 + 1)), (3, .long v7), (0, .ref (xq X 0)), (1, .int x1), (2, .int x2)]) 4 dX11_upTo_53 rfl rfl (by decide) rfl rfl ?_
      refine r_goto (t := 35) dX11_upTo_56 (by decide) ?_
      refine r_sub [2, 3, 4, 1, 0] rfl ?_
      exact ih x1 x2 v7 (x5 + 1) h
def P_X11_upTo (a1 : Int32) (a2 : Int32) (σ : SS) : Option Int64 :=
  (P_X11_isShape a1 σ).bind fun v2 =>
  if v2 = 0 then
    some (-2000000001)
  else
    (P_X11_isSize a2).bind fun v5 =>
    if ¬ v5 = 0 then
      if ¬ (sI σ 1) = 0 then
        P_X11_upTo_j35 σ FU a1 a2 0 0
      else
        some (-2000000002)
    else
      some (-2000000001)
set_option maxHeartbeats 4000000 in
set_option maxRecDepth 100000 in
theorem T_X11_upTo {X : XE} {σ : SS} {r : Int64} {a1 : Int32} {a2 : Int32} (h : P_X11_upTo a1 a2 σ = some r) : Mt (gM X) 2 yX11_upTo cX11_upTo 6 (some .long) [.ref (xq X 0), .int a1, .int a2] σ (some (.long r)) σ := by
  refine Mt.of (own := RX11) (lv := [(0, .ref (xq X 0)), (1, .int a1), (2, .int a2)]) pn_X11 rfl (Nat.le_of_ble_eq_true rfl) rfl ?_
  unfold P_X11_upTo at h
  refine r_aload_n 0 dX11_upTo_0 rfl rfl rfl ?_
  refine r_iload_n 1 dX11_upTo_1 rfl rfl rfl ?_
  obtain ⟨v2, e1, h⟩ := bd h
  refine r_callV (rest := []) (T_X11_isShape e1) (by decide) mf_X11_isShape rfl tw_1076 tw_41 tw_1074 cM_0 rfl rfl rfl (Nat.le_of_ble_eq_true rfl) dX11_upTo_2 rfl ?_
  refine r_call0 ?_
  refine r_if_eq (t := 15) dX11_upTo_5 (by decide) rfl (fun c3 => ?_) (fun c3 => ?_)
  · have h := it_t c3 h
    refine r_ldc2 (v := (-2000000001)) tw_1060 dX11_upTo_15 rfl ?_
    exact r_lretR dX11_upTo_18 h
  · have h := it_f c3 h
    refine r_iload_n 2 dX11_upTo_8 rfl rfl rfl ?_
    obtain ⟨v5, e4, h⟩ := bd h
    refine r_callS (As := [.int a2]) (rest := []) (T_X11_isSize e4) (by decide) mf_X11_isSize rfl tw_1185 tw_1184 rfl (Nat.le_of_ble_eq_true rfl) dX11_upTo_9 rfl ?_
    refine r_call0 ?_
    refine r_if_ne (t := 19) dX11_upTo_12 (by decide) rfl (fun c6 => ?_) (fun c6 => ?_)
    · have h := it_t c6 h
      refine r_aload_n 0 dX11_upTo_19 rfl rfl rfl ?_
      refine gf_X11_98_0 dX11_upTo_20 rfl ?_
      refine r_if_ne (t := 30) dX11_upTo_23 (by decide) rfl (fun c7 => ?_) (fun c7 => ?_)
      · have h := it_t c7 h
        refine rlc_0 dX11_upTo_30 rfl ?_
        refine r_lstore_n (lv' := [(3, .long 0), (0, .ref (xq X 0)), (1, .int a1), (2, .int a2)]) dX11_upTo_31 rfl (by decide) rfl rfl ?_
        refine ric_0 dX11_upTo_32 rfl ?_
        refine r_istore (lv' := [(5, .int 0), (3, .long 0), (0, .ref (xq X 0)), (1, .int a1), (2, .int a2)]) dX11_upTo_33 (by decide) rfl rfl ?_
        refine r_sub [2, 3, 4, 1, 0] rfl ?_
        exact T_X11_upTo_j35 FU a1 a2 0 0 h
      · have h := it_n c7 h
        refine r_ldc2 (v := (-2000000002)) tw_1082 dX11_upTo_26 rfl ?_
        exact r_lretR dX11_upTo_29 h
    · have h := it_n c6 h
      refine r_ldc2 (v := (-2000000001)) tw_1060 dX11_upTo_15 rfl ?_
      exact r_lretR dX11_upTo_18 h
def P_X11_parts_j41 (σ : SS) : Nat → Int32 → Int32 → Int32 → Int32 → Option Int64
  | 0, _, _, _, _ => none
  | n + 1, x1, x2, x3, x4 =>
    if x3 < x4 then
      some (-2000000005)
    else
      (P_X11_countOf x1 x4 σ).bind fun v3 =>
      (P_X11_countOf x2 x4 σ).bind fun v5 =>
      if v3 = v5 then
        (P_X11_parts_j41 σ n) x1 x2 x3 (x4 + 1)
      else
        some x4.toInt64
set_option maxHeartbeats 4000000 in
set_option maxRecDepth 100000 in
theorem T_X11_parts_j41 {X : XE} {σ : SS} {r : Int64} : ∀ (fu : Nat) (x1 : Int32) (x2 : Int32) (x3 : Int32) (x4 : Int32), P_X11_parts_j41 σ fu x1 x2 x3 x4 = some r → V (gM X) 2 RX11 cX11_parts 5 (some .long) (some (.long r)) σ 41 [(0, .ref (xq X 0)), (1, .int x1), (2, .int x2), (3, .int x3), (4, .int x4)] [] σ := by
  intro fu
  induction fu with
  | zero => intro x1 x2 x3 x4 h; exact no0 h
  | succ n ih =>
    intro x1 x2 x3 x4 h
    unfold P_X11_parts_j41 at h
    refine r_iload 4 dX11_parts_41 rfl rfl ?_
    refine r_iload_n 3 dX11_parts_43 rfl rfl rfl ?_
    refine r_icmp_gt (t := 75) dX11_parts_44 (by decide) rfl (fun c1 => ?_) (fun c1 => ?_)
    · have h := it_t c1 h
      refine r_ldc2 (v := (-2000000005)) tw_1200 dX11_parts_75 rfl ?_
      exact r_lretR dX11_parts_78 h
    · have h := it_f c1 h
      refine r_aload_n 0 dX11_parts_47 rfl rfl rfl ?_
      refine r_iload_n 1 dX11_parts_48 rfl rfl rfl ?_
      refine r_iload 4 dX11_parts_49 rfl rfl ?_
      obtain ⟨v3, e2, h⟩ := bd h
      refine r_callV (rest := []) (T_X11_countOf e2) (by decide) mf_X11_countOf rfl tw_1145 tw_54 tw_1143 cM_0 rfl rfl rfl (Nat.le_of_ble_eq_true rfl) dX11_parts_51 rfl ?_
      refine r_call0 ?_
      refine r_aload_n 0 dX11_parts_54 rfl rfl rfl ?_
      refine r_iload_n 2 dX11_parts_55 rfl rfl rfl ?_
      refine r_iload 4 dX11_parts_56 rfl rfl ?_
      obtain ⟨v5, e4, h⟩ := bd h
      refine r_callV (rest := [.long v3]) (T_X11_countOf e4) (by decide) mf_X11_countOf rfl tw_1145 tw_54 tw_1143 cM_0 rfl rfl rfl (Nat.le_of_ble_eq_true rfl) dX11_parts_58 rfl ?_
      refine r_call0 ?_
      refine r_lif_eq (t := 69) dX11_parts_61 rfl dX11_parts_62 (by decide) rfl (fun c6 => ?_) (fun c6 => ?_)
      · have h := it_t c6 h
        refine r_iinc (v := (x4 + 1)) (lv' := [(4, .int (x4 + 1)), (0, .ref (xq X 0)), (1, .int x1), (2, .int x2), (3, .int x3)]) 4 dX11_parts_69 rfl rfl (by decide) rfl rfl ?_
        refine r_goto (t := 41) dX11_parts_72 (by decide) ?_
        refine r_sub [1, 2, 3, 4, 0] rfl ?_
        exact ih x1 x2 x3 (x4 + 1) h
      · have h := it_f c6 h
        refine r_iload 4 dX11_parts_65 rfl rfl ?_
        refine r_i2l dX11_parts_67 rfl ?_
        exact r_lretR dX11_parts_68 h
def P_X11_parts (a1 : Int32) (a2 : Int32) (a3 : Int32) (σ : SS) : Option Int64 :=
  (P_X11_isShape a1 σ).bind fun v2 =>
  if v2 = 0 then
    some (-2000000001)
  else
    (P_X11_isShape a2 σ).bind fun v5 =>
    if v5 = 0 then
      some (-2000000001)
    else
      (P_X11_isSize a3).bind fun v8 =>
      if ¬ v8 = 0 then
        if ¬ (sI σ 1) = 0 then
          P_X11_parts_j41 σ FU a1 a2 a3 0
        else
          some (-2000000002)
      else
        some (-2000000001)
set_option maxHeartbeats 4000000 in
set_option maxRecDepth 100000 in
theorem T_X11_parts {X : XE} {σ : SS} {r : Int64} {a1 : Int32} {a2 : Int32} {a3 : Int32} (h : P_X11_parts a1 a2 a3 σ = some r) : Mt (gM X) 2 yX11_parts cX11_parts 5 (some .long) [.ref (xq X 0), .int a1, .int a2, .int a3] σ (some (.long r)) σ := by
  refine Mt.of (own := RX11) (lv := [(0, .ref (xq X 0)), (1, .int a1), (2, .int a2), (3, .int a3)]) pn_X11 rfl (Nat.le_of_ble_eq_true rfl) rfl ?_
  unfold P_X11_parts at h
  refine r_aload_n 0 dX11_parts_0 rfl rfl rfl ?_
  refine r_iload_n 1 dX11_parts_1 rfl rfl rfl ?_
  obtain ⟨v2, e1, h⟩ := bd h
  refine r_callV (rest := []) (T_X11_isShape e1) (by decide) mf_X11_isShape rfl tw_1076 tw_41 tw_1074 cM_0 rfl rfl rfl (Nat.le_of_ble_eq_true rfl) dX11_parts_2 rfl ?_
  refine r_call0 ?_
  refine r_if_eq (t := 23) dX11_parts_5 (by decide) rfl (fun c3 => ?_) (fun c3 => ?_)
  · have h := it_t c3 h
    refine r_ldc2 (v := (-2000000001)) tw_1060 dX11_parts_23 rfl ?_
    exact r_lretR dX11_parts_26 h
  · have h := it_f c3 h
    refine r_aload_n 0 dX11_parts_8 rfl rfl rfl ?_
    refine r_iload_n 2 dX11_parts_9 rfl rfl rfl ?_
    obtain ⟨v5, e4, h⟩ := bd h
    refine r_callV (rest := []) (T_X11_isShape e4) (by decide) mf_X11_isShape rfl tw_1076 tw_41 tw_1074 cM_0 rfl rfl rfl (Nat.le_of_ble_eq_true rfl) dX11_parts_10 rfl ?_
    refine r_call0 ?_
    refine r_if_eq (t := 23) dX11_parts_13 (by decide) rfl (fun c6 => ?_) (fun c6 => ?_)
    · have h := it_t c6 h
      refine r_ldc2 (v := (-2000000001)) tw_1060 dX11_parts_23 rfl ?_
      exact r_lretR dX11_parts_26 h
    · have h := it_f c6 h
      refine r_iload_n 3 dX11_parts_16 rfl rfl rfl ?_
      obtain ⟨v8, e7, h⟩ := bd h
      refine r_callS (As := [.int a3]) (rest := []) (T_X11_isSize e7) (by decide) mf_X11_isSize rfl tw_1185 tw_1184 rfl (Nat.le_of_ble_eq_true rfl) dX11_parts_17 rfl ?_
      refine r_call0 ?_
      refine r_if_ne (t := 27) dX11_parts_20 (by decide) rfl (fun c9 => ?_) (fun c9 => ?_)
      · have h := it_t c9 h
        refine r_aload_n 0 dX11_parts_27 rfl rfl rfl ?_
        refine gf_X11_98_0 dX11_parts_28 rfl ?_
        refine r_if_ne (t := 38) dX11_parts_31 (by decide) rfl (fun c10 => ?_) (fun c10 => ?_)
        · have h := it_t c10 h
          refine ric_0 dX11_parts_38 rfl ?_
          refine r_istore (lv' := [(4, .int 0), (0, .ref (xq X 0)), (1, .int a1), (2, .int a2), (3, .int a3)]) dX11_parts_39 (by decide) rfl rfl ?_
          refine r_sub [1, 2, 3, 4, 0] rfl ?_
          exact T_X11_parts_j41 FU a1 a2 a3 0 h
        · have h := it_n c10 h
          refine r_ldc2 (v := (-2000000002)) tw_1082 dX11_parts_34 rfl ?_
          exact r_lretR dX11_parts_37 h
      · have h := it_n c9 h
        refine r_ldc2 (v := (-2000000001)) tw_1060 dX11_parts_23 rfl ?_
        exact r_lretR dX11_parts_26 h
def P_X11_write (a1 : Int32) (σ : SS) : Option SS :=
  if 300 ≤ (sI σ 5) then
    some (uI σ 5 ((sI σ 5) + 1))
  else
    gI (sI σ 5) 300 <|
    some (uI (stA σ 9 (sI σ 5) a1) 5 ((sI (stA σ 9 (sI σ 5) a1) 5) + 1))
set_option maxHeartbeats 4000000 in
set_option maxRecDepth 100000 in
theorem T_X11_write {X : XE} {σf : SS} {σ : SS} {a1 : Int32} (h : P_X11_write a1 σ = some σf) : Mt (gM X) 0 yX11_write cX11_write 2 none [.ref (xq X 0), .int a1] σ none σf := by
  refine Mt.of (own := RX11) (lv := [(0, .ref (xq X 0)), (1, .int a1)]) pn_X11 rfl (Nat.le_of_ble_eq_true rfl) rfl ?_
  unfold P_X11_write at h
  refine r_aload_n 0 dX11_write_0 rfl rfl rfl ?_
  refine gf_X11_221_0 dX11_write_1 rfl ?_
  refine r_sipush (v := 300) dX11_write_4 (by decide) rfl ?_
  refine r_icmp_ge (t := 20) dX11_write_7 (by decide) rfl (fun c1 => ?_) (fun c1 => ?_)
  · have h := it_t c1 h
    refine r_aload_n 0 dX11_write_20 rfl rfl rfl ?_
    refine r_dup rfl dX11_write_21 rfl ?_
    refine gf_X11_221_0 dX11_write_22 rfl ?_
    refine ric_1 dX11_write_25 rfl ?_
    refine r_iadd dX11_write_26 rfl ?_
    refine pf_X11_221_0 dX11_write_27 rfl ?_
    exact r_vretS dX11_write_30 h
  · have h := it_f c1 h
    refine r_aload_n 0 dX11_write_10 rfl rfl rfl ?_
    refine gf_X11_45_0 dX11_write_11 rfl ?_
    refine r_aload_n 0 dX11_write_14 rfl rfl rfl ?_
    refine gf_X11_221_0 dX11_write_15 rfl ?_
    refine r_iload_n 1 dX11_write_18 rfl rfl rfl ?_
    obtain ⟨hi2, h⟩ := gi h
    refine asM_12 hi2 dX11_write_19 rfl ?_
    refine r_aload_n 0 dX11_write_20 rfl rfl rfl ?_
    refine r_dup rfl dX11_write_21 rfl ?_
    refine gf_X11_221_0 dX11_write_22 rfl ?_
    refine ric_1 dX11_write_25 rfl ?_
    refine r_iadd dX11_write_26 rfl ?_
    refine pf_X11_221_0 dX11_write_27 rfl ?_
    exact r_vretS dX11_write_30 h
def P_X11_firstOf_j67 (σ : SS) (K18 : Int32 → Int32 → Int32 → Int64 → Int64 → Int64 → Option Int64) (x1 : Int32) (x2 : Int32) (x3 : Int32) (x4 : Int64) (x6 : Int64) (x8 : Int64) : Option Int64 :=
  K18 x1 x2 x3 x4 x6 x8
set_option maxHeartbeats 4000000 in
set_option maxRecDepth 100000 in
theorem T_X11_firstOf_j67 {X : XE} {σ : SS} {r : Int64} {K18 : Int32 → Int32 → Int32 → Int64 → Int64 → Int64 → Option Int64} (hK18 : ∀ (x1 : Int32) (x2 : Int32) (x3 : Int32) (x4 : Int64) (x6 : Int64) (x8 : Int64), K18 x1 x2 x3 x4 x6 x8 = some r → V (gM X) 3 RX11 cX11_firstOf 12 (some .long) (some (.long r)) σ 18 [(0, .ref (xq X 0)), (1, .int x1), (2, .int x2), (3, .int x3), (4, .long x4), (6, .long x6), (8, .long x8)] [] σ) : ∀ (x1 : Int32) (x2 : Int32) (x3 : Int32) (x4 : Int64) (x6 : Int64) (x8 : Int64), P_X11_firstOf_j67 σ K18 x1 x2 x3 x4 x6 x8 = some r → V (gM X) 3 RX11 cX11_firstOf 12 (some .long) (some (.long r)) σ 67 [(0, .ref (xq X 0)), (1, .int x1), (2, .int x2), (3, .int x3), (4, .long x4), (6, .long x6), (8, .long x8)] [] σ := by
  intro x1 x2 x3 x4 x6 x8 h
  unfold P_X11_firstOf_j67 at h
  refine r_goto (t := 18) dX11_firstOf_67 (by decide) ?_
  exact hK18 x1 x2 x3 x4 x6 x8 h
def P_X11_firstOf_j18 (σ : SS) : Nat → Int32 → Int32 → Int32 → Int64 → Int64 → Int64 → Option Int64
  | 0, _, _, _, _, _, _ => none
  | n + 1, x1, x2, x3, x4, x6, x8 =>
    if x8 ≤ x6 then
      some x6
    else
      (P_X11_waysBelow x1 x2 x3 (((x6 + x8) / 2) + 1) σ).bind fun v4 =>
      if v4 ≤ x4 then
        P_X11_firstOf_j67 σ (P_X11_firstOf_j18 σ n) x1 x2 x3 x4 (((x6 + x8) / 2) + 1) x8
      else
        P_X11_firstOf_j67 σ (P_X11_firstOf_j18 σ n) x1 x2 x3 x4 x6 ((x6 + x8) / 2)
set_option maxHeartbeats 4000000 in
set_option maxRecDepth 100000 in
theorem T_X11_firstOf_j18 {X : XE} {σ : SS} {r : Int64} : ∀ (fu : Nat) (x1 : Int32) (x2 : Int32) (x3 : Int32) (x4 : Int64) (x6 : Int64) (x8 : Int64), P_X11_firstOf_j18 σ fu x1 x2 x3 x4 x6 x8 = some r → V (gM X) 3 RX11 cX11_firstOf 12 (some .long) (some (.long r)) σ 18 [(0, .ref (xq X 0)), (1, .int x1), (2, .int x2), (3, .int x3), (4, .long x4), (6, .long x6), (8, .long x8)] [] σ := by
  intro fu
  induction fu with
  | zero => intro x1 x2 x3 x4 x6 x8 h; exact no0 h
  | succ n ih =>
    intro x1 x2 x3 x4 x6 x8 h
    unfold P_X11_firstOf_j18 at h
    refine r_lload 5 dX11_firstOf_18 rfl rfl ?_
    refine r_lload 6 dX11_firstOf_20 rfl rfl ?_
    refine r_lif_ge (t := 70) dX11_firstOf_22 rfl dX11_firstOf_23 (by decide) rfl (fun c1 => ?_) (fun c1 => ?_)
    · have h := it_t c1 h
      refine r_lload 5 dX11_firstOf_70 rfl rfl ?_
      exact r_lretR dX11_firstOf_72 h
    · have h := it_f c1 h
      refine r_lload 5 dX11_firstOf_26 rfl rfl ?_
      refine r_lload 6 dX11_firstOf_28 rfl rfl ?_
      refine r_ladd dX11_firstOf_30 rfl ?_
      refine r_ldc2 (v := 2) tw_1087 dX11_firstOf_31 rfl ?_
      refine r_ldiv (by decide) dX11_firstOf_34 rfl ?_
      refine r_lstore (lv' := [(10, .long ((x6 + x8) / 2)), (0, .ref (xq X 0)), (1, .int x1), (2, .int x2), (3, .int x3), (4, .long x4), (6, .long x6), (8, .long x8)]) dX11_firstOf_35 (by decide) rfl rfl ?_
      refine r_lload 5 dX11_firstOf_37 rfl rfl ?_
      refine r_aload_n 1 dX11_firstOf_39 rfl rfl rfl ?_
      refine r_iload_n 2 dX11_firstOf_40 rfl rfl rfl ?_
      refine r_iload_n 3 dX11_firstOf_41 rfl rfl rfl ?_
      refine r_iload_n 4 dX11_firstOf_42 rfl rfl rfl ?_
      refine r_lload 0 dX11_firstOf_43 rfl rfl ?_
      refine rlc_1 dX11_firstOf_45 rfl ?_
      refine r_ladd dX11_firstOf_46 rfl ?_
      obtain ⟨v4, e3, h⟩ := bd h
      refine r_callV (rest := [.long x4]) (T_X11_waysBelow e3) (by decide) mf_X11_waysBelow rfl tw_1168 tw_57 tw_1166 cM_0 rfl rfl rfl (Nat.le_of_ble_eq_true rfl) dX11_firstOf_47 rfl ?_
      refine r_call0 ?_
      refine r_lif_ge (t := 61) dX11_firstOf_50 rfl dX11_firstOf_51 (by decide) rfl (fun c5 => ?_) (fun c5 => ?_)
      · have h := it_t c5 h
        refine r_lload 0 dX11_firstOf_61 rfl rfl ?_
        refine rlc_1 dX11_firstOf_63 rfl ?_
        refine r_ladd dX11_firstOf_64 rfl ?_
        refine r_lstore (lv' := [(6, .long (((x6 + x8) / 2) + 1)), (10, .long ((x6 + x8) / 2)), (0, .ref (xq X 0)), (1, .int x1), (2, .int x2), (3, .int x3), (4, .long x4), (8, .long x8)]) dX11_firstOf_65 (by decide) rfl rfl ?_
        refine r_sub [2, 3, 4, 5, 6, 0, 7] rfl ?_
        exact T_X11_firstOf_j67 ih x1 x2 x3 x4 (((x6 + x8) / 2) + 1) x8 h
      · have h := it_f c5 h
        refine r_lload 0 dX11_firstOf_54 rfl rfl ?_
        refine r_lstore (lv' := [(8, .long ((x6 + x8) / 2)), (10, .long ((x6 + x8) / 2)), (0, .ref (xq X 0)), (1, .int x1), (2, .int x2), (3, .int x3), (4, .long x4), (6, .long x6)]) dX11_firstOf_56 (by decide) rfl rfl ?_
        refine r_goto (t := 67) dX11_firstOf_58 (by decide) ?_
        refine r_sub [2, 3, 4, 5, 6, 7, 0] rfl ?_
        exact T_X11_firstOf_j67 ih x1 x2 x3 x4 x6 ((x6 + x8) / 2) h
def P_X11_firstOf (a1 : Int32) (a2 : Int32) (a3 : Int32) (a4 : Int64) (σ : SS) : Option Int64 :=
  gI a1 16 <|
  (P_X11_countOf (ldA σ 1 a1) a3 σ).bind fun v3 =>
  P_X11_firstOf_j18 σ FU a1 a2 a3 a4 0 (v3 - 1)
set_option maxHeartbeats 4000000 in
set_option maxRecDepth 100000 in
theorem T_X11_firstOf {X : XE} {σ : SS} {r : Int64} {a1 : Int32} {a2 : Int32} {a3 : Int32} {a4 : Int64} (h : P_X11_firstOf a1 a2 a3 a4 σ = some r) : Mt (gM X) 3 yX11_firstOf cX11_firstOf 12 (some .long) [.ref (xq X 0), .int a1, .int a2, .int a3, .long a4] σ (some (.long r)) σ := by
  refine Mt.of (own := RX11) (lv := [(0, .ref (xq X 0)), (1, .int a1), (2, .int a2), (3, .int a3), (4, .long a4)]) pn_X11 rfl (Nat.le_of_ble_eq_true rfl) rfl ?_
  unfold P_X11_firstOf at h
  refine rlc_0 dX11_firstOf_0 rfl ?_
  refine r_lstore (lv' := [(6, .long 0), (0, .ref (xq X 0)), (1, .int a1), (2, .int a2), (3, .int a3), (4, .long a4)]) dX11_firstOf_1 (by decide) rfl rfl ?_
  refine r_aload_n 1 dX11_firstOf_3 rfl rfl rfl ?_
  refine r_aload_n 1 dX11_firstOf_4 rfl rfl rfl ?_
  refine gf_X11_13_0 dX11_firstOf_5 rfl ?_
  refine r_iload_n 2 dX11_firstOf_8 rfl rfl rfl ?_
  obtain ⟨hi1, h⟩ := gi h
  refine alM_2 hi1 dX11_firstOf_9 rfl ?_
  refine r_iload_n 4 dX11_firstOf_10 rfl rfl rfl ?_
  obtain ⟨v3, e2, h⟩ := bd h
  refine r_callV (rest := []) (T_X11_countOf e2) (by decide) mf_X11_countOf rfl tw_1145 tw_54 tw_1143 cM_0 rfl rfl rfl (Nat.le_of_ble_eq_true rfl) dX11_firstOf_11 rfl ?_
  refine r_call0 ?_
  refine rlc_1 dX11_firstOf_14 rfl ?_
  refine r_lsub dX11_firstOf_15 rfl ?_
  refine r_lstore (lv' := [(8, .long (v3 - 1)), (6, .long 0), (0, .ref (xq X 0)), (1, .int a1), (2, .int a2), (3, .int a3), (4, .long a4)]) dX11_firstOf_16 (by decide) rfl rfl ?_
  refine r_sub [2, 3, 4, 5, 6, 1, 0] rfl ?_
  exact T_X11_firstOf_j18 FU a1 a2 a3 a4 0 (v3 - 1) h
