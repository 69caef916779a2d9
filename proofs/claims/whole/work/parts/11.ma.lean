def P_X11_isIn (a0 : Int64) (a2 : Int64) (a4 : Int64) : Option Int32 :=
  if a0 < a2 then
    some 0
  else
    if a4 < a0 then
      some 0
    else
      some 1
set_option maxHeartbeats 4000000 in
set_option maxRecDepth 100000 in
theorem T_X11_isIn {X : XE} {σ : SS} {r : Int32} {a0 : Int64} {a2 : Int64} {a4 : Int64} (h : P_X11_isIn a0 a2 a4 = some r) : Mt (gM X) 0 yX11_isIn cX11_isIn 6 (some .boolean) [.long a0, .long a2, .long a4] σ (some (.int r)) σ := by
  refine Mt.of (own := RX11) (lv := [(0, .long a0), (2, .long a2), (4, .long a4)]) pn_X11 rfl (Nat.le_of_ble_eq_true rfl) rfl ?_
  unfold P_X11_isIn at h
  refine r_lload_n 0 dX11_isIn_0 rfl rfl rfl ?_
  refine r_lload_n 1 dX11_isIn_1 rfl rfl rfl ?_
  refine r_lif_lt (t := 17) dX11_isIn_2 rfl dX11_isIn_3 (by decide) rfl (fun c1 => ?_) (fun c1 => ?_)
  · have h := it_t c1 h
    refine ric_0 dX11_isIn_17 rfl ?_
    exact r_zretR (Or.inl rfl) dX11_isIn_18 h
  · have h := it_f c1 h
    refine r_lload_n 0 dX11_isIn_6 rfl rfl rfl ?_
    refine r_lload 2 dX11_isIn_7 rfl rfl ?_
    refine r_lif_gt (t := 17) dX11_isIn_9 rfl dX11_isIn_10 (by decide) rfl (fun c2 => ?_) (fun c2 => ?_)
    · have h := it_t c2 h
      refine ric_0 dX11_isIn_17 rfl ?_
      exact r_zretR (Or.inl rfl) dX11_isIn_18 h
    · have h := it_f c2 h
      refine ric_1 dX11_isIn_13 rfl ?_
      refine r_goto (t := 18) dX11_isIn_14 (by decide) ?_
      exact r_zretR (Or.inr rfl) dX11_isIn_18 h
def P_X11_isGood_j96 (x1 : Int32) (x2 : Int32) : Option Int32 :=
  (P_X11_isIn x1.toInt64 0 15).bind fun v2 =>
  if v2 = 0 then
    some 0
  else
    (P_X11_isIn x2.toInt64 0 15).bind fun v5 =>
    if v5 = 0 then
      some 0
    else
      some 1
set_option maxHeartbeats 4000000 in
set_option maxRecDepth 100000 in
theorem T_X11_isGood_j96 {X : XE} {σ : SS} {r : Int32} : ∀ (x1 : Int32) (x2 : Int32), P_X11_isGood_j96 x1 x2 = some r → V (gM X) 1 RX11 cX11_isGood 3 (some .boolean) (some (.int r)) σ 96 [(1, .int x1), (2, .int x2)] [] σ := by
  intro x1 x2 h
  unfold P_X11_isGood_j96 at h
  refine r_iload_n 0 dX11_isGood_96 rfl rfl rfl ?_
  refine r_i2l dX11_isGood_97 rfl ?_
  refine rlc_0 dX11_isGood_98 rfl ?_
  refine r_ldc2 (v := 15) tw_1058 dX11_isGood_99 rfl ?_
  obtain ⟨v2, e1, h⟩ := bd h
  refine r_callS (As := [.long x1.toInt64, .long 0, .long 15]) (rest := []) (T_X11_isIn e1) (by decide) mf_X11_isIn rfl tw_1055 tw_1054 rfl (Nat.le_of_ble_eq_true rfl) dX11_isGood_102 rfl ?_
  refine r_call0 ?_
  refine r_if_eq (t := 124) dX11_isGood_105 (by decide) rfl (fun c3 => ?_) (fun c3 => ?_)
  · have h := it_t c3 h
    refine ric_0 dX11_isGood_124 rfl ?_
    exact r_zretR (Or.inl rfl) dX11_isGood_125 h
  · have h := it_f c3 h
    refine r_iload_n 1 dX11_isGood_108 rfl rfl rfl ?_
    refine r_i2l dX11_isGood_109 rfl ?_
    refine rlc_0 dX11_isGood_110 rfl ?_
    refine r_ldc2 (v := 15) tw_1058 dX11_isGood_111 rfl ?_
    obtain ⟨v5, e4, h⟩ := bd h
    refine r_callS (As := [.long x2.toInt64, .long 0, .long 15]) (rest := []) (T_X11_isIn e4) (by decide) mf_X11_isIn rfl tw_1055 tw_1054 rfl (Nat.le_of_ble_eq_true rfl) dX11_isGood_114 rfl ?_
    refine r_call0 ?_
    refine r_if_eq (t := 124) dX11_isGood_117 (by decide) rfl (fun c6 => ?_) (fun c6 => ?_)
    · have h := it_t c6 h
      refine ric_0 dX11_isGood_124 rfl ?_
      exact r_zretR (Or.inl rfl) dX11_isGood_125 h
    · have h := it_f c6 h
      refine ric_1 dX11_isGood_120 rfl ?_
      refine r_goto (t := 125) dX11_isGood_121 (by decide) ?_
      exact r_zretR (Or.inr rfl) dX11_isGood_125 h
def P_X11_isGood_j126 (x1 : Int32) (x2 : Int32) : Option Int32 :=
  (P_X11_isIn x1.toInt64 0 15).bind fun v2 =>
  if v2 = 0 then
    some 0
  else
    if ¬ x2 = 0 then
      some 0
    else
      some 1
set_option maxHeartbeats 4000000 in
set_option maxRecDepth 100000 in
theorem T_X11_isGood_j126 {X : XE} {σ : SS} {r : Int32} : ∀ (x1 : Int32) (x2 : Int32), P_X11_isGood_j126 x1 x2 = some r → V (gM X) 1 RX11 cX11_isGood 3 (some .boolean) (some (.int r)) σ 126 [(1, .int x1), (2, .int x2)] [] σ := by
  intro x1 x2 h
  unfold P_X11_isGood_j126 at h
  refine r_iload_n 0 dX11_isGood_126 rfl rfl rfl ?_
  refine r_i2l dX11_isGood_127 rfl ?_
  refine rlc_0 dX11_isGood_128 rfl ?_
  refine r_ldc2 (v := 15) tw_1058 dX11_isGood_129 rfl ?_
  obtain ⟨v2, e1, h⟩ := bd h
  refine r_callS (As := [.long x1.toInt64, .long 0, .long 15]) (rest := []) (T_X11_isIn e1) (by decide) mf_X11_isIn rfl tw_1055 tw_1054 rfl (Nat.le_of_ble_eq_true rfl) dX11_isGood_132 rfl ?_
  refine r_call0 ?_
  refine r_if_eq (t := 146) dX11_isGood_135 (by decide) rfl (fun c3 => ?_) (fun c3 => ?_)
  · have h := it_t c3 h
    refine ric_0 dX11_isGood_146 rfl ?_
    exact r_zretR (Or.inl rfl) dX11_isGood_147 h
  · have h := it_f c3 h
    refine r_iload_n 1 dX11_isGood_138 rfl rfl rfl ?_
    refine r_if_ne (t := 146) dX11_isGood_139 (by decide) rfl (fun c4 => ?_) (fun c4 => ?_)
    · have h := it_t c4 h
      refine ric_0 dX11_isGood_146 rfl ?_
      exact r_zretR (Or.inl rfl) dX11_isGood_147 h
    · have h := it_n c4 h
      refine ric_1 dX11_isGood_142 rfl ?_
      refine r_goto (t := 147) dX11_isGood_143 (by decide) ?_
      exact r_zretR (Or.inr rfl) dX11_isGood_147 h
def P_X11_isGood (a0 : Int32) (a1 : Int32) (a2 : Int32) : Option Int32 :=
  if a0 = 0 then
    (P_X11_isIn a1.toInt64 1 9).bind fun v3 =>
    if v3 = 0 then
      some 0
    else
      (P_X11_isIn a2.toInt64 0 25).bind fun v6 =>
      if v6 = 0 then
        some 0
      else
        some 1
  else
    if a0 = 1 then
      if ¬ a1 = 0 then
        some 0
      else
        if ¬ a2 = 0 then
          some 0
        else
          some 1
    else
      if a0 = 2 then
        P_X11_isGood_j96 a1 a2
      else
        if a0 = 3 then
          P_X11_isGood_j96 a1 a2
        else
          if a0 = 4 then
            P_X11_isGood_j126 a1 a2
          else
            if a0 = 5 then
              P_X11_isGood_j126 a1 a2
            else
              if a0 = 6 then
                P_X11_isGood_j126 a1 a2
              else
                if a0 = 7 then
                  (P_X11_isIn a1.toInt64 0 15).bind fun v18 =>
                  if v18 = 0 then
                    some 0
                  else
                    if a2 < 0 then
                      some 0
                    else
                      if (a2 - a2 / 32 * 32) < (a2 / 32) then
                        some 0
                      else
                        if 24 < (a2 - a2 / 32 * 32) then
                          some 0
                        else
                          some 1
                else
                  if a0 = 8 then
                    (P_X11_isIn a1.toInt64 1 8).bind fun v28 =>
                    if v28 = 0 then
                      some 0
                    else
                      if ¬ a2 = 0 then
                        some 0
                      else
                        some 1
                  else
                    some 0
set_option maxHeartbeats 4000000 in
set_option maxRecDepth 100000 in
theorem T_X11_isGood {X : XE} {σ : SS} {r : Int32} {a0 : Int32} {a1 : Int32} {a2 : Int32} (h : P_X11_isGood a0 a1 a2 = some r) : Mt (gM X) 1 yX11_isGood cX11_isGood 3 (some .boolean) [.int a0, .int a1, .int a2] σ (some (.int r)) σ := by
  refine Mt.of (own := RX11) (lv := [(0, .int a0), (1, .int a1), (2, .int a2)]) pn_X11 rfl (Nat.le_of_ble_eq_true rfl) rfl ?_
  unfold P_X11_isGood at h
  refine r_iload_n 0 dX11_isGood_0 rfl rfl rfl ?_
  by_cases c1 : a0 = 0
  · have h := it_t c1 h
    refine r_tableIn (t := 52) dX11_isGood_1 (by rw [c1]; decide) (by rw [c1]; decide) (by rw [c1]; rfl) (by decide) ?_
    refine r_iload_n 1 dX11_isGood_52 rfl rfl rfl ?_
    refine r_i2l dX11_isGood_53 rfl ?_
    refine rlc_1 dX11_isGood_54 rfl ?_
    refine r_ldc2 (v := 9) tw_1053 dX11_isGood_55 rfl ?_
    obtain ⟨v3, e2, h⟩ := bd h
    refine r_callS (As := [.long a1.toInt64, .long 1, .long 9]) (rest := []) (T_X11_isIn e2) (by decide) mf_X11_isIn rfl tw_1055 tw_1054 rfl (Nat.le_of_ble_eq_true rfl) dX11_isGood_58 rfl ?_
    refine r_call0 ?_
    refine r_if_eq (t := 80) dX11_isGood_61 (by decide) rfl (fun c4 => ?_) (fun c4 => ?_)
    · have h := it_t c4 h
      refine ric_0 dX11_isGood_80 rfl ?_
      exact r_zretR (Or.inl rfl) dX11_isGood_81 h
    · have h := it_f c4 h
      refine r_iload_n 2 dX11_isGood_64 rfl rfl rfl ?_
      refine r_i2l dX11_isGood_65 rfl ?_
      refine rlc_0 dX11_isGood_66 rfl ?_
      refine r_ldc2 (v := 25) tw_1057 dX11_isGood_67 rfl ?_
      obtain ⟨v6, e5, h⟩ := bd h
      refine r_callS (As := [.long a2.toInt64, .long 0, .long 25]) (rest := []) (T_X11_isIn e5) (by decide) mf_X11_isIn rfl tw_1055 tw_1054 rfl (Nat.le_of_ble_eq_true rfl) dX11_isGood_70 rfl ?_
      refine r_call0 ?_
      refine r_if_eq (t := 80) dX11_isGood_73 (by decide) rfl (fun c7 => ?_) (fun c7 => ?_)
      · have h := it_t c7 h
        refine ric_0 dX11_isGood_80 rfl ?_
        exact r_zretR (Or.inl rfl) dX11_isGood_81 h
      · have h := it_f c7 h
        refine ric_1 dX11_isGood_76 rfl ?_
        refine r_goto (t := 81) dX11_isGood_77 (by decide) ?_
        exact r_zretR (Or.inr rfl) dX11_isGood_81 h
  · have h := it_f c1 h
    by_cases c8 : a0 = 1
    · have h := it_t c8 h
      refine r_tableIn (t := 82) dX11_isGood_1 (by rw [c8]; decide) (by rw [c8]; decide) (by rw [c8]; rfl) (by decide) ?_
      refine r_iload_n 1 dX11_isGood_82 rfl rfl rfl ?_
      refine r_if_ne (t := 94) dX11_isGood_83 (by decide) rfl (fun c9 => ?_) (fun c9 => ?_)
      · have h := it_t c9 h
        refine ric_0 dX11_isGood_94 rfl ?_
        exact r_zretR (Or.inl rfl) dX11_isGood_95 h
      · have h := it_n c9 h
        refine r_iload_n 2 dX11_isGood_86 rfl rfl rfl ?_
        refine r_if_ne (t := 94) dX11_isGood_87 (by decide) rfl (fun c10 => ?_) (fun c10 => ?_)
        · have h := it_t c10 h
          refine ric_0 dX11_isGood_94 rfl ?_
          exact r_zretR (Or.inl rfl) dX11_isGood_95 h
        · have h := it_n c10 h
          refine ric_1 dX11_isGood_90 rfl ?_
          refine r_goto (t := 95) dX11_isGood_91 (by decide) ?_
          exact r_zretR (Or.inr rfl) dX11_isGood_95 h
    · have h := it_f c8 h
      by_cases c11 : a0 = 2
      · have h := it_t c11 h
        refine r_tableIn (t := 96) dX11_isGood_1 (by rw [c11]; decide) (by rw [c11]; decide) (by rw [c11]; rfl) (by decide) ?_
        refine r_sub [1, 2] rfl ?_
        exact T_X11_isGood_j96 a1 a2 h
      · have h := it_f c11 h
        by_cases c12 : a0 = 3
        · have h := it_t c12 h
          refine r_tableIn (t := 96) dX11_isGood_1 (by rw [c12]; decide) (by rw [c12]; decide) (by rw [c12]; rfl) (by decide) ?_
          refine r_sub [1, 2] rfl ?_
          exact T_X11_isGood_j96 a1 a2 h
        · have h := it_f c12 h
          by_cases c13 : a0 = 4
          · have h := it_t c13 h
            refine r_tableIn (t := 126) dX11_isGood_1 (by rw [c13]; decide) (by rw [c13]; decide) (by rw [c13]; rfl) (by decide) ?_
            refine r_sub [1, 2] rfl ?_
            exact T_X11_isGood_j126 a1 a2 h
          · have h := it_f c13 h
            by_cases c14 : a0 = 5
            · have h := it_t c14 h
              refine r_tableIn (t := 126) dX11_isGood_1 (by rw [c14]; decide) (by rw [c14]; decide) (by rw [c14]; rfl) (by decide) ?_
              refine r_sub [1, 2] rfl ?_
              exact T_X11_isGood_j126 a1 a2 h
            · have h := it_f c14 h
              by_cases c15 : a0 = 6
              · have h := it_t c15 h
                refine r_tableIn (t := 126) dX11_isGood_1 (by rw [c15]; decide) (by rw [c15]; decide) (by rw [c15]; rfl) (by decide) ?_
                refine r_sub [1, 2] rfl ?_
                exact T_X11_isGood_j126 a1 a2 h
              · have h := it_f c15 h
                by_cases c16 : a0 = 7
                · have h := it_t c16 h
                  refine r_tableIn (t := 148) dX11_isGood_1 (by rw [c16]; decide) (by rw [c16]; decide) (by rw [c16]; rfl) (by decide) ?_
                  refine r_iload_n 1 dX11_isGood_148 rfl rfl rfl ?_
                  refine r_i2l dX11_isGood_149 rfl ?_
                  refine rlc_0 dX11_isGood_150 rfl ?_
                  refine r_ldc2 (v := 15) tw_1058 dX11_isGood_151 rfl ?_
                  obtain ⟨v18, e17, h⟩ := bd h
                  refine r_callS (As := [.long a1.toInt64, .long 0, .long 15]) (rest := []) (T_X11_isIn e17) (by decide) mf_X11_isIn rfl tw_1055 tw_1054 rfl (Nat.le_of_ble_eq_true rfl) dX11_isGood_154 rfl ?_
                  refine r_call0 ?_
                  refine r_if_eq (t := 188) dX11_isGood_157 (by decide) rfl (fun c19 => ?_) (fun c19 => ?_)
                  · have h := it_t c19 h
                    refine ric_0 dX11_isGood_188 rfl ?_
                    exact r_zretR (Or.inl rfl) dX11_isGood_189 h
                  · have h := it_f c19 h
                    refine r_iload_n 2 dX11_isGood_160 rfl rfl rfl ?_
                    refine r_if_lt (t := 188) dX11_isGood_161 (by decide) rfl (fun c20 => ?_) (fun c20 => ?_)
                    · have h := it_t c20 h
                      refine ric_0 dX11_isGood_188 rfl ?_
                      exact r_zretR (Or.inl rfl) dX11_isGood_189 h
                    · have h := it_f c20 h
                      refine r_iload_n 2 dX11_isGood_164 rfl rfl rfl ?_
                      refine r_bipush (v := 32) dX11_isGood_165 (by decide) rfl ?_
                      refine r_idiv (by decide) dX11_isGood_167 rfl ?_
                      refine r_iload_n 2 dX11_isGood_168 rfl rfl rfl ?_
                      refine r_bipush (v := 32) dX11_isGood_169 (by decide) rfl ?_
                      refine r_irem (by decide) dX11_isGood_171 rfl ?_
                      refine r_icmp_gt (t := 188) dX11_isGood_172 (by decide) rfl (fun c23 => ?_) (fun c23 => ?_)
                      · have h := it_t c23 h
                        refine ric_0 dX11_isGood_188 rfl ?_
                        exact r_zretR (Or.inl rfl) dX11_isGood_189 h
                      · have h := it_f c23 h
                        refine r_iload_n 2 dX11_isGood_175 rfl rfl rfl ?_
                        refine r_bipush (v := 32) dX11_isGood_176 (by decide) rfl ?_
                        refine r_irem (by decide) dX11_isGood_178 rfl ?_
                        refine r_bipush (v := 24) dX11_isGood_179 (by decide) rfl ?_
                        refine r_icmp_gt (t := 188) dX11_isGood_181 (by decide) rfl (fun c25 => ?_) (fun c25 => ?_)
                        · have h := it_t c25 h
                          refine ric_0 dX11_isGood_188 rfl ?_
                          exact r_zretR (Or.inl rfl) dX11_isGood_189 h
                        · have h := it_f c25 h
                          refine ric_1 dX11_isGood_184 rfl ?_
                          refine r_goto (t := 189) dX11_isGood_185 (by decide) ?_
                          exact r_zretR (Or.inr rfl) dX11_isGood_189 h
                · have h := it_f c16 h
                  by_cases c26 : a0 = 8
                  · have h := it_t c26 h
                    refine r_tableIn (t := 190) dX11_isGood_1 (by rw [c26]; decide) (by rw [c26]; decide) (by rw [c26]; rfl) (by decide) ?_
                    refine r_iload_n 1 dX11_isGood_190 rfl rfl rfl ?_
                    refine r_i2l dX11_isGood_191 rfl ?_
                    refine rlc_1 dX11_isGood_192 rfl ?_
                    refine r_ldc2 (v := 8) tw_1059 dX11_isGood_193 rfl ?_
                    obtain ⟨v28, e27, h⟩ := bd h
                    refine r_callS (As := [.long a1.toInt64, .long 1, .long 8]) (rest := []) (T_X11_isIn e27) (by decide) mf_X11_isIn rfl tw_1055 tw_1054 rfl (Nat.le_of_ble_eq_true rfl) dX11_isGood_196 rfl ?_
                    refine r_call0 ?_
                    refine r_if_eq (t := 210) dX11_isGood_199 (by decide) rfl (fun c29 => ?_) (fun c29 => ?_)
                    · have h := it_t c29 h
                      refine ric_0 dX11_isGood_210 rfl ?_
                      exact r_zretR (Or.inl rfl) dX11_isGood_211 h
                    · have h := it_f c29 h
                      refine r_iload_n 2 dX11_isGood_202 rfl rfl rfl ?_
                      refine r_if_ne (t := 210) dX11_isGood_203 (by decide) rfl (fun c30 => ?_) (fun c30 => ?_)
                      · have h := it_t c30 h
                        refine ric_0 dX11_isGood_210 rfl ?_
                        exact r_zretR (Or.inl rfl) dX11_isGood_211 h
                      · have h := it_n c30 h
                        refine ric_1 dX11_isGood_206 rfl ?_
                        refine r_goto (t := 211) dX11_isGood_207 (by decide) ?_
                        exact r_zretR (Or.inr rfl) dX11_isGood_211 h
                  · have h := it_f c26 h
                    refine r_tableOut (t := 212) dX11_isGood_1 (by have z0 := neL c1 (z := 0) rfl; have z1 := neL c8 (z := 1) rfl; have z2 := neL c11 (z := 2) rfl; have z3 := neL c12 (z := 3) rfl; have z4 := neL c13 (z := 4) rfl; have z5 := neL c14 (z := 5) rfl; have z6 := neL c15 (z := 6) rfl; have z7 := neL c16 (z := 7) rfl; have z8 := neL c26 (z := 8) rfl; omega) (by decide) ?_
                    refine ric_0 dX11_isGood_212 rfl ?_
                    exact r_zretR (Or.inl rfl) dX11_isGood_213 h
def P_X11_keep_j69 : Nat → Int32 → Int32 → SS → Option SS
  | 0, _, _, _ => none
  | n + 1, x1, x2, σ =>
    if 16 ≤ x2 then
      some (uI (uI σ 2 ((sI σ 2) + 1)) 1 0)
    else
      gI x2 16 <|
      gI ((x1 + 1) + (3 * x2)) 392 <|
      gI x2 16 <|
      gI ((x1 + 2) + (3 * x2)) 392 <|
      gI x2 16 <|
      gI ((x1 + 3) + (3 * x2)) 392 <|
      (P_X11_keep_j69 n) x1 (x2 + 1) (stA (stA (stA σ 3 ((x1 + 1) + (3 * x2)) (ldA σ 0 x2)) 3 ((x1 + 2) + (3 * x2)) (ldA (stA σ 3 ((x1 + 1) + (3 * x2)) (ldA σ 0 x2)) 1 x2)) 3 ((x1 + 3) + (3 * x2)) (ldA (stA (stA σ 3 ((x1 + 1) + (3 * x2)) (ldA σ 0 x2)) 3 ((x1 + 2) + (3 * x2)) (ldA (stA σ 3 ((x1 + 1) + (3 * x2)) (ldA σ 0 x2)) 1 x2)) 2 x2))
set_option maxHeartbeats 4000000 in
set_option maxRecDepth 100000 in
theorem T_X11_keep_j69 {X : XE} {σf : SS} : ∀ (fu : Nat) (x1 : Int32) (x2 : Int32) (σ : SS), P_X11_keep_j69 fu x1 x2 σ = some σf → V (gM X) 0 RX11 cX11_keep 3 none none σf 69 [(0, .ref (xq X 0)), (1, .int x1), (2, .int x2)] [] σ := by
  intro fu
  induction fu with
  | zero => intro x1 x2 σ h; exact no0 h
  | succ n ih =>
    intro x1 x2 σ h
    unfold P_X11_keep_j69 at h
    refine r_iload_n 2 dX11_keep_69 rfl rfl rfl ?_
    refine r_bipush (v := 16) dX11_keep_70 (by decide) rfl ?_
    refine r_icmp_ge (t := 135) dX11_keep_72 (by decide) rfl (fun c1 => ?_) (fun c1 => ?_)
    · have h := it_t c1 h
      refine r_aload_n 0 dX11_keep_135 rfl rfl rfl ?_
      refine r_dup rfl dX11_keep_136 rfl ?_
      refine gf_X11_91_0 dX11_keep_137 rfl ?_
      refine ric_1 dX11_keep_140 rfl ?_
      refine r_iadd dX11_keep_141 rfl ?_
      refine pf_X11_91_0 dX11_keep_142 rfl ?_
      refine r_aload_n 0 dX11_keep_145 rfl rfl rfl ?_
      refine ric_0 dX11_keep_146 rfl ?_
      refine pf_X11_98_0 (Or.inl rfl) dX11_keep_147 rfl ?_
      exact r_vretS dX11_keep_150 h
    · have h := it_f c1 h
      refine r_aload_n 0 dX11_keep_75 rfl rfl rfl ?_
      refine gf_X11_19_0 dX11_keep_76 rfl ?_
      refine r_iload_n 1 dX11_keep_79 rfl rfl rfl ?_
      refine ric_1 dX11_keep_80 rfl ?_
      refine r_iadd dX11_keep_81 rfl ?_
      refine ric_3 dX11_keep_82 rfl ?_
      refine r_iload_n 2 dX11_keep_83 rfl rfl rfl ?_
      refine r_imul dX11_keep_84 rfl ?_
      refine r_iadd dX11_keep_85 rfl ?_
      refine r_aload_n 0 dX11_keep_86 rfl rfl rfl ?_
      refine gf_X11_7_0 dX11_keep_87 rfl ?_
      refine r_iload_n 2 dX11_keep_90 rfl rfl rfl ?_
      obtain ⟨hi2, h⟩ := gi h
      refine alM_1 hi2 dX11_keep_91 rfl ?_
      obtain ⟨hi3, h⟩ := gi h
      refine asM_4 hi3 dX11_keep_92 rfl ?_
      refine r_aload_n 0 dX11_keep_93 rfl rfl rfl ?_
      refine gf_X11_19_0 dX11_keep_94 rfl ?_
      refine r_iload_n 1 dX11_keep_97 rfl rfl rfl ?_
      refine ric_2 dX11_keep_98 rfl ?_
      refine r_iadd dX11_keep_99 rfl ?_
      refine ric_3 dX11_keep_100 rfl ?_
      refine r_iload_n 2 dX11_keep_101 rfl rfl rfl ?_
      refine r_imul dX11_keep_102 rfl ?_
      refine r_iadd dX11_keep_103 rfl ?_
      refine r_aload_n 0 dX11_keep_104 rfl rfl rfl ?_
      refine gf_X11_13_0 dX11_keep_105 rfl ?_
      refine r_iload_n 2 dX11_keep_108 rfl rfl rfl ?_
      obtain ⟨hi4, h⟩ := gi h
      refine alM_2 hi4 dX11_keep_109 rfl ?_
      obtain ⟨hi5, h⟩ := gi h
      refine asM_4 hi5 dX11_keep_110 rfl ?_
      refine r_aload_n 0 dX11_keep_111 rfl rfl rfl ?_
      refine gf_X11_19_0 dX11_keep_112 rfl ?_
      refine r_iload_n 1 dX11_keep_115 rfl rfl rfl ?_
      refine ric_3 dX11_keep_116 rfl ?_
      refine r_iadd dX11_keep_117 rfl ?_
      refine ric_3 dX11_keep_118 rfl ?_
      refine r_iload_n 2 dX11_keep_119 rfl rfl rfl ?_
      refine r_imul dX11_keep_120 rfl ?_
      refine r_iadd dX11_keep_121 rfl ?_
      refine r_aload_n 0 dX11_keep_122 rfl rfl rfl ?_
      refine gf_X11_16_0 dX11_keep_123 rfl ?_
      refine r_iload_n 2 dX11_keep_126 rfl rfl rfl ?_
      obtain ⟨hi6, h⟩ := gi h
      refine alM_3 hi6 dX11_keep_127 rfl ?_
      obtain ⟨hi7, h⟩ := gi h
      refine asM_4 hi7 dX11_keep_128 rfl ?_
      refine r_iinc (v := (x2 + 1)) (lv' := [(2, .int (x2 + 1)), (0, .ref (xq X 0)), (1, .int x1)]) 2 dX11_keep_129 rfl rfl (by decide) rfl rfl ?_
      refine r_goto (t := 69) dX11_keep_132 (by decide) ?_
      refine r_sub [1, 2, 0] rfl ?_
      exact ih x1 (x2 + 1) (stA (stA (stA σ 3 ((x1 + 1) + (3 * x2)) (ldA σ 0 x2)) 3 ((x1 + 2) + (3 * x2)) (ldA (stA σ 3 ((x1 + 1) + (3 * x2)) (ldA σ 0 x2)) 1 x2)) 3 ((x1 + 3) + (3 * x2)) (ldA (stA (stA σ 3 ((x1 + 1) + (3 * x2)) (ldA σ 0 x2)) 3 ((x1 + 2) + (3 * x2)) (ldA (stA σ 3 ((x1 + 1) + (3 * x2)) (ldA σ 0 x2)) 1 x2)) 2 x2)) h
def P_X11_keep_j49 (σ : SS) : Option SS :=
  gI (49 * (sI σ 2)) 392 <|
  P_X11_keep_j69 FU (49 * (sI σ 2)) 0 (stA σ 3 (49 * (sI σ 2)) (sI σ 0))
set_option maxHeartbeats 4000000 in
set_option maxRecDepth 100000 in
theorem T_X11_keep_j49 {X : XE} {σf : SS} : ∀ (σ : SS), P_X11_keep_j49 σ = some σf → V (gM X) 0 RX11 cX11_keep 3 none none σf 49 [(0, .ref (xq X 0))] [] σ := by
  intro σ h
  unfold P_X11_keep_j49 at h
  refine r_bipush (v := 49) dX11_keep_49 (by decide) rfl ?_
  refine r_aload_n 0 dX11_keep_51 rfl rfl rfl ?_
  refine gf_X11_91_0 dX11_keep_52 rfl ?_
  refine r_imul dX11_keep_55 rfl ?_
  refine r_istore_n (lv' := [(1, .int (49 * (sI σ 2))), (0, .ref (xq X 0))]) dX11_keep_56 rfl (by decide) rfl rfl ?_
  refine r_aload_n 1 dX11_keep_57 rfl rfl rfl ?_
  refine gf_X11_19_0 dX11_keep_58 rfl ?_
  refine r_iload_n 0 dX11_keep_61 rfl rfl rfl ?_
  refine r_aload_n 1 dX11_keep_62 rfl rfl rfl ?_
  refine gf_X11_95_0 dX11_keep_63 rfl ?_
  obtain ⟨hi1, h⟩ := gi h
  refine asM_4 hi1 dX11_keep_66 rfl ?_
  refine ric_0 dX11_keep_67 rfl ?_
  refine r_istore_n (lv' := [(2, .int 0), (1, .int (49 * (sI σ 2))), (0, .ref (xq X 0))]) dX11_keep_68 rfl (by decide) rfl rfl ?_
  refine r_sub [2, 1, 0] rfl ?_
  exact T_X11_keep_j69 FU (49 * (sI σ 2)) 0 (stA σ 3 (49 * (sI σ 2)) (sI σ 0)) h
def P_X11_keep_j11 : Nat → Int32 → SS → Option SS
  | 0, _, _ => none
  | n + 1, x1, σ =>
    if 343 ≤ x1 then
      P_X11_keep_j49 (uI σ 2 ((sI σ 2) - 1))
    else
      gI (x1 + 49) 392 <|
      gI x1 392 <|
      (P_X11_keep_j11 n) (x1 + 1) (stA σ 3 x1 (ldA σ 3 (x1 + 49)))
set_option maxHeartbeats 4000000 in
set_option maxRecDepth 100000 in
theorem T_X11_keep_j11 {X : XE} {σf : SS} : ∀ (fu : Nat) (x1 : Int32) (σ : SS), P_X11_keep_j11 fu x1 σ = some σf → V (gM X) 0 RX11 cX11_keep 3 none none σf 11 [(0, .ref (xq X 0)), (1, .int x1)] [] σ := by
  intro fu
  induction fu with
  | zero => intro x1 σ h; exact no0 h
  | succ n ih =>
    intro x1 σ h
    unfold P_X11_keep_j11 at h
    refine r_iload_n 1 dX11_keep_11 rfl rfl rfl ?_
    refine r_sipush (v := 343) dX11_keep_12 (by decide) rfl ?_
    refine r_icmp_ge (t := 39) dX11_keep_15 (by decide) rfl (fun c1 => ?_) (fun c1 => ?_)
    · have h := it_t c1 h
      refine r_aload_n 0 dX11_keep_39 rfl rfl rfl ?_
      refine r_dup rfl dX11_keep_40 rfl ?_
      refine gf_X11_91_0 dX11_keep_41 rfl ?_
      refine ric_1 dX11_keep_44 rfl ?_
      refine r_isub dX11_keep_45 rfl ?_
      refine pf_X11_91_0 dX11_keep_46 rfl ?_
      refine r_sub [0] rfl ?_
      exact T_X11_keep_j49 (uI σ 2 ((sI σ 2) - 1)) h
    · have h := it_f c1 h
      refine r_aload_n 0 dX11_keep_18 rfl rfl rfl ?_
      refine gf_X11_19_0 dX11_keep_19 rfl ?_
      refine r_iload_n 1 dX11_keep_22 rfl rfl rfl ?_
      refine r_aload_n 0 dX11_keep_23 rfl rfl rfl ?_
      refine gf_X11_19_0 dX11_keep_24 rfl ?_
      refine r_iload_n 1 dX11_keep_27 rfl rfl rfl ?_
      refine r_bipush (v := 49) dX11_keep_28 (by decide) rfl ?_
      refine r_iadd dX11_keep_30 rfl ?_
      obtain ⟨hi2, h⟩ := gi h
      refine alM_4 hi2 dX11_keep_31 rfl ?_
      obtain ⟨hi3, h⟩ := gi h
      refine asM_4 hi3 dX11_keep_32 rfl ?_
      refine r_iinc (v := (x1 + 1)) (lv' := [(1, .int (x1 + 1)), (0, .ref (xq X 0))]) 1 dX11_keep_33 rfl rfl (by decide) rfl rfl ?_
      refine r_goto (t := 11) dX11_keep_36 (by decide) ?_
      refine r_sub [1, 0] rfl ?_
      exact ih (x1 + 1) (stA σ 3 x1 (ldA σ 3 (x1 + 49))) h
def P_X11_keep (σ : SS) : Option SS :=
  if ¬ (sI σ 2) = 8 then
    P_X11_keep_j49 σ
  else
    P_X11_keep_j11 FU 0 σ
set_option maxHeartbeats 4000000 in
set_option maxRecDepth 100000 in
theorem T_X11_keep {X : XE} {σf : SS} {σ : SS} (h : P_X11_keep σ = some σf) : Mt (gM X) 0 yX11_keep cX11_keep 3 none [.ref (xq X 0)] σ none σf := by
  refine Mt.of (own := RX11) (lv := [(0, .ref (xq X 0))]) pn_X11 rfl (Nat.le_of_ble_eq_true rfl) rfl ?_
  unfold P_X11_keep at h
  refine r_aload_n 0 dX11_keep_0 rfl rfl rfl ?_
  refine gf_X11_91_0 dX11_keep_1 rfl ?_
  refine r_bipush (v := 8) dX11_keep_4 (by decide) rfl ?_
  refine r_icmp_ne (t := 49) dX11_keep_6 (by decide) rfl (fun c1 => ?_) (fun c1 => ?_)
  · have h := it_t c1 h
    exact T_X11_keep_j49 σ h
  · have h := it_n c1 h
    refine ric_0 dX11_keep_9 rfl ?_
    refine r_istore_n (lv' := [(1, .int 0), (0, .ref (xq X 0))]) dX11_keep_10 rfl (by decide) rfl rfl ?_
    refine r_sub [1, 0] rfl ?_
    exact T_X11_keep_j11 FU 0 σ h
def P_X11_lay (a1 : Int32) (a2 : Int32) (a3 : Int32) (a4 : Int32) (σ : SS) : Option SS :=
  gI a1 16 <|
  gI a1 16 <|
  gI a1 16 <|
  some (stA (stA (stA σ 0 a1 a2) 1 a1 a3) 2 a1 a4)
set_option maxHeartbeats 4000000 in
set_option maxRecDepth 100000 in
theorem T_X11_lay {X : XE} {σf : SS} {σ : SS} {a1 : Int32} {a2 : Int32} {a3 : Int32} {a4 : Int32} (h : P_X11_lay a1 a2 a3 a4 σ = some σf) : Mt (gM X) 0 yX11_lay cX11_lay 5 none [.ref (xq X 0), .int a1, .int a2, .int a3, .int a4] σ none σf := by
  refine Mt.of (own := RX11) (lv := [(0, .ref (xq X 0)), (1, .int a1), (2, .int a2), (3, .int a3), (4, .int a4)]) pn_X11 rfl (Nat.le_of_ble_eq_true rfl) rfl ?_
  unfold P_X11_lay at h
  refine r_aload_n 0 dX11_lay_0 rfl rfl rfl ?_
  refine gf_X11_7_0 dX11_lay_1 rfl ?_
  refine r_iload_n 1 dX11_lay_4 rfl rfl rfl ?_
  refine r_iload_n 2 dX11_lay_5 rfl rfl rfl ?_
  obtain ⟨hi1, h⟩ := gi h
  refine asM_1 hi1 dX11_lay_6 rfl ?_
  refine r_aload_n 0 dX11_lay_7 rfl rfl rfl ?_
  refine gf_X11_13_0 dX11_lay_8 rfl ?_
  refine r_iload_n 1 dX11_lay_11 rfl rfl rfl ?_
  refine r_iload_n 3 dX11_lay_12 rfl rfl rfl ?_
  obtain ⟨hi2, h⟩ := gi h
  refine asM_2 hi2 dX11_lay_13 rfl ?_
  refine r_aload_n 0 dX11_lay_14 rfl rfl rfl ?_
  refine gf_X11_16_0 dX11_lay_15 rfl ?_
  refine r_iload_n 1 dX11_lay_18 rfl rfl rfl ?_
  refine r_iload 4 dX11_lay_19 rfl rfl ?_
  obtain ⟨hi3, h⟩ := gi h
  refine asM_3 hi3 dX11_lay_21 rfl ?_
  exact r_vretS dX11_lay_22 h
def P_X11_shape (a1 : Int32) (a2 : Int32) (a3 : Int32) (σ : SS) : Option (Int64 × SS) :=
  (P_X11_isGood a1 a2 a3).bind fun v2 =>
  if ¬ v2 = 0 then
    if ¬ (sI σ 0) = 16 then
      (P_X11_keep σ).bind fun σ6 =>
      (P_X11_lay (sI σ6 0) a1 a2 a3 σ6).bind fun σ8 =>
      some (((sI (uI σ8 0 ((sI σ8 0) + 1)) 0) - 1).toInt64, (uI σ8 0 ((sI σ8 0) + 1)))
    else
      some ((-2000000003), σ)
  else
    some ((-2000000001), σ)
set_option maxHeartbeats 4000000 in
set_option maxRecDepth 100000 in
theorem T_X11_shape {X : XE} {σf : SS} {r : Int64} {σ : SS} {a1 : Int32} {a2 : Int32} {a3 : Int32} (h : P_X11_shape a1 a2 a3 σ = some (r, σf)) : Mt (gM X) 2 yX11_shape cX11_shape 4 (some .long) [.ref (xq X 0), .int a1, .int a2, .int a3] σ (some (.long r)) σf := by
  refine Mt.of (own := RX11) (lv := [(0, .ref (xq X 0)), (1, .int a1), (2, .int a2), (3, .int a3)]) pn_X11 rfl (Nat.le_of_ble_eq_true rfl) rfl ?_
  unfold P_X11_shape at h
  refine r_iload_n 1 dX11_shape_0 rfl rfl rfl ?_
  refine r_iload_n 2 dX11_shape_1 rfl rfl rfl ?_
  refine r_iload_n 3 dX11_shape_2 rfl rfl rfl ?_
  obtain ⟨v2, e1, h⟩ := bd h
  refine r_callS (As := [.int a1, .int a2, .int a3]) (rest := []) (T_X11_isGood e1) (by decide) mf_X11_isGood rfl tw_1051 tw_1050 rfl (Nat.le_of_ble_eq_true rfl) dX11_shape_3 rfl ?_
  refine r_call0 ?_
  refine r_if_ne (t := 13) dX11_shape_6 (by decide) rfl (fun c3 => ?_) (fun c3 => ?_)
  · have h := it_t c3 h
    refine r_aload_n 0 dX11_shape_13 rfl rfl rfl ?_
    refine gf_X11_95_0 dX11_shape_14 rfl ?_
    refine r_bipush (v := 16) dX11_shape_17 (by decide) rfl ?_
    refine r_icmp_ne (t := 26) dX11_shape_19 (by decide) rfl (fun c4 => ?_) (fun c4 => ?_)
    · have h := it_t c4 h
      refine r_aload_n 0 dX11_shape_26 rfl rfl rfl ?_
      obtain ⟨σ6, e5, h⟩ := bd h
      refine r_callV (rest := []) (T_X11_keep e5) (by decide) mf_X11_keep rfl tw_1064 tw_39 tw_1062 cM_0 rfl rfl rfl (Nat.le_of_ble_eq_true rfl) dX11_shape_27 rfl ?_
      refine r_calln ?_
      refine r_aload_n 0 dX11_shape_30 rfl rfl rfl ?_
      refine r_aload_n 0 dX11_shape_31 rfl rfl rfl ?_
      refine gf_X11_95_0 dX11_shape_32 rfl ?_
      refine r_iload_n 1 dX11_shape_35 rfl rfl rfl ?_
      refine r_iload_n 2 dX11_shape_36 rfl rfl rfl ?_
      refine r_iload_n 3 dX11_shape_37 rfl rfl rfl ?_
      obtain ⟨σ8, e7, h⟩ := bd h
      refine r_callV (rest := []) (T_X11_lay e7) (by decide) mf_X11_lay rfl tw_1068 tw_40 tw_1066 cM_0 rfl rfl rfl (Nat.le_of_ble_eq_true rfl) dX11_shape_38 rfl ?_
      refine r_calln ?_
      refine r_aload_n 0 dX11_shape_41 rfl rfl rfl ?_
      refine r_dup rfl dX11_shape_42 rfl ?_
      refine gf_X11_95_0 dX11_shape_43 rfl ?_
      refine ric_1 dX11_shape_46 rfl ?_
      refine r_iadd dX11_shape_47 rfl ?_
      refine pf_X11_95_0 dX11_shape_48 rfl ?_
      refine r_aload_n 0 dX11_shape_51 rfl rfl rfl ?_
      refine gf_X11_95_0 dX11_shape_52 rfl ?_
      refine ric_1 dX11_shape_55 rfl ?_
      refine r_isub dX11_shape_56 rfl ?_
      refine r_i2l dX11_shape_57 rfl ?_
      exact r_lretQ dX11_shape_58 h
    · have h := it_n c4 h
      refine r_ldc2 (v := (-2000000003)) tw_1061 dX11_shape_22 rfl ?_
      exact r_lretQ dX11_shape_25 h
  · have h := it_n c3 h
    refine r_ldc2 (v := (-2000000001)) tw_1060 dX11_shape_9 rfl ?_
    exact r_lretQ dX11_shape_12 h
def P_X11_isShape (a1 : Int32) (σ : SS) : Option Int32 :=
  (P_X11_isIn a1.toInt64 0 (((sI σ 0) - 1).toInt64)).bind fun v2 =>
  gZ v2 <|
  some v2
set_option maxHeartbeats 4000000 in
set_option maxRecDepth 100000 in
theorem T_X11_isShape {X : XE} {σ : SS} {r : Int32} {a1 : Int32} (h : P_X11_isShape a1 σ = some r) : Mt (gM X) 1 yX11_isShape cX11_isShape 2 (some .boolean) [.ref (xq X 0), .int a1] σ (some (.int r)) σ := by
  refine Mt.of (own := RX11) (lv := [(0, .ref (xq X 0)), (1, .int a1)]) pn_X11 rfl (Nat.le_of_ble_eq_true rfl) rfl ?_
  unfold P_X11_isShape at h
  refine r_iload_n 1 dX11_isShape_0 rfl rfl rfl ?_
  refine r_i2l dX11_isShape_1 rfl ?_
  refine rlc_0 dX11_isShape_2 rfl ?_
  refine r_aload_n 0 dX11_isShape_3 rfl rfl rfl ?_
  refine gf_X11_95_0 dX11_isShape_4 rfl ?_
  refine ric_1 dX11_isShape_7 rfl ?_
  refine r_isub dX11_isShape_8 rfl ?_
  refine r_i2l dX11_isShape_9 rfl ?_
  obtain ⟨v2, e1, h⟩ := bd h
  refine r_callS (As := [.long a1.toInt64, .long 0, .long (((sI σ 0) - 1).toInt64)]) (rest := []) (T_X11_isIn e1) (by decide) mf_X11_isIn rfl tw_1055 tw_1054 rfl (Nat.le_of_ble_eq_true rfl) dX11_isShape_10 rfl ?_
  refine r_call0 ?_
  obtain ⟨hz3, h⟩ := gz h
  exact r_zretR hz3 dX11_isShape_13 h
def P_X11_put (a1 : Int32) (a2 : Int32) (a3 : Int32) (a4 : Int32) (σ : SS) : Option (Int64 × SS) :=
  (P_X11_isShape a1 σ).bind fun v2 =>
  if v2 = 0 then
    some ((-2000000001), σ)
  else
    (P_X11_isGood a2 a3 a4).bind fun v5 =>
    if ¬ v5 = 0 then
      (P_X11_keep σ).bind fun σ8 =>
      (P_X11_lay a1 a2 a3 a4 σ8).bind fun σ10 =>
      some (0, σ10)
    else
      some ((-2000000001), σ)
set_option maxHeartbeats 4000000 in
set_option maxRecDepth 100000 in
theorem T_X11_put {X : XE} {σf : SS} {r : Int64} {σ : SS} {a1 : Int32} {a2 : Int32} {a3 : Int32} {a4 : Int32} (h : P_X11_put a1 a2 a3 a4 σ = some (r, σf)) : Mt (gM X) 2 yX11_put cX11_put 5 (some .long) [.ref (xq X 0), .int a1, .int a2, .int a3, .int a4] σ (some (.long r)) σf := by
  refine Mt.of (own := RX11) (lv := [(0, .ref (xq X 0)), (1, .int a1), (2, .int a2), (3, .int a3), (4, .int a4)]) pn_X11 rfl (Nat.le_of_ble_eq_true rfl) rfl ?_
  unfold P_X11_put at h
  refine r_aload_n 0 dX11_put_0 rfl rfl rfl ?_
  refine r_iload_n 1 dX11_put_1 rfl rfl rfl ?_
  obtain ⟨v2, e1, h⟩ := bd h
  refine r_callV (rest := []) (T_X11_isShape e1) (by decide) mf_X11_isShape rfl tw_1076 tw_41 tw_1074 cM_0 rfl rfl rfl (Nat.le_of_ble_eq_true rfl) dX11_put_2 rfl ?_
  refine r_call0 ?_
  refine r_if_eq (t := 18) dX11_put_5 (by decide) rfl (fun c3 => ?_) (fun c3 => ?_)
  · have h := it_t c3 h
    refine r_ldc2 (v := (-2000000001)) tw_1060 dX11_put_18 rfl ?_
    exact r_lretQ dX11_put_21 h
  · have h := it_f c3 h
    refine r_iload_n 2 dX11_put_8 rfl rfl rfl ?_
    refine r_iload_n 3 dX11_put_9 rfl rfl rfl ?_
    refine r_iload 4 dX11_put_10 rfl rfl ?_
    obtain ⟨v5, e4, h⟩ := bd h
    refine r_callS (As := [.int a2, .int a3, .int a4]) (rest := []) (T_X11_isGood e4) (by decide) mf_X11_isGood rfl tw_1051 tw_1050 rfl (Nat.le_of_ble_eq_true rfl) dX11_put_12 rfl ?_
    refine r_call0 ?_
    refine r_if_ne (t := 22) dX11_put_15 (by decide) rfl (fun c6 => ?_) (fun c6 => ?_)
    · have h := it_t c6 h
      refine r_aload_n 0 dX11_put_22 rfl rfl rfl ?_
      obtain ⟨σ8, e7, h⟩ := bd h
      refine r_callV (rest := []) (T_X11_keep e7) (by decide) mf_X11_keep rfl tw_1064 tw_39 tw_1062 cM_0 rfl rfl rfl (Nat.le_of_ble_eq_true rfl) dX11_put_23 rfl ?_
      refine r_calln ?_
      refine r_aload_n 0 dX11_put_26 rfl rfl rfl ?_
      refine r_iload_n 1 dX11_put_27 rfl rfl rfl ?_
      refine r_iload_n 2 dX11_put_28 rfl rfl rfl ?_
      refine r_iload_n 3 dX11_put_29 rfl rfl rfl ?_
      refine r_iload 4 dX11_put_30 rfl rfl ?_
      obtain ⟨σ10, e9, h⟩ := bd h
      refine r_callV (rest := []) (T_X11_lay e9) (by decide) mf_X11_lay rfl tw_1068 tw_40 tw_1066 cM_0 rfl rfl rfl (Nat.le_of_ble_eq_true rfl) dX11_put_32 rfl ?_
      refine r_calln ?_
      refine rlc_0 dX11_put_35 rfl ?_
      exact r_lretQ dX11_put_36 h
    · have h := it_n c6 h
      refine r_ldc2 (v := (-2000000001)) tw_1060 dX11_put_18 rfl ?_
      exact r_lretQ dX11_put_21 h
def P_X11_undo_j41 : Nat → Int32 → Int32 → SS → Option (Int64 × SS)
  | 0, _, _, _ => none
  | n + 1, x1, x2, σ =>
    if 16 ≤ x2 then
      some ((sI (uI σ 1 0) 2).toInt64, (uI σ 1 0))
    else
      gI ((x1 + 1) + (3 * x2)) 392 <|
      gI ((x1 + 2) + (3 * x2)) 392 <|
      gI ((x1 + 3) + (3 * x2)) 392 <|
      (P_X11_lay x2 (ldA σ 3 ((x1 + 1) + (3 * x2))) (ldA σ 3 ((x1 + 2) + (3 * x2))) (ldA σ 3 ((x1 + 3) + (3 * x2))) σ).bind fun σ6 =>
      (P_X11_undo_j41 n) x1 (x2 + 1) σ6
set_option maxHeartbeats 4000000 in
set_option maxRecDepth 100000 in
theorem T_X11_undo_j41 {X : XE} {σf : SS} {r : Int64} : ∀ (fu : Nat) (x1 : Int32) (x2 : Int32) (σ : SS), P_X11_undo_j41 fu x1 x2 σ = some (r, σf) → V (gM X) 1 RX11 cX11_undo 3 (some .long) (some (.long r)) σf 41 [(0, .ref (xq X 0)), (1, .int x1), (2, .int x2)] [] σ := by
  intro fu
  induction fu with
  | zero => intro x1 x2 σ h; exact no0 h
  | succ n ih =>
    intro x1 x2 σ h
    unfold P_X11_undo_j41 at h
    refine r_iload_n 2 dX11_undo_41 rfl rfl rfl ?_
    refine r_bipush (v := 16) dX11_undo_42 (by decide) rfl ?_
    refine r_icmp_ge (t := 94) dX11_undo_44 (by decide) rfl (fun c1 => ?_) (fun c1 => ?_)
    · have h := it_t c1 h
      refine r_aload_n 0 dX11_undo_94 rfl rfl rfl ?_
      refine ric_0 dX11_undo_95 rfl ?_
      refine pf_X11_98_0 (Or.inl rfl) dX11_undo_96 rfl ?_
      refine r_aload_n 0 dX11_undo_99 rfl rfl rfl ?_
      refine gf_X11_91_0 dX11_undo_100 rfl ?_
      refine r_i2l dX11_undo_103 rfl ?_
      exact r_lretQ dX11_undo_104 h
    · have h := it_f c1 h
      refine r_aload_n 0 dX11_undo_47 rfl rfl rfl ?_
      refine r_iload_n 2 dX11_undo_48 rfl rfl rfl ?_
      refine r_aload_n 0 dX11_undo_49 rfl rfl rfl ?_
      refine gf_X11_19_0 dX11_undo_50 rfl ?_
      refine r_iload_n 1 dX11_undo_53 rfl rfl rfl ?_
      refine ric_1 dX11_undo_54 rfl ?_
      refine r_iadd dX11_undo_55 rfl ?_
      refine ric_3 dX11_undo_56 rfl ?_
      refine r_iload_n 2 dX11_undo_57 rfl rfl rfl ?_
      refine r_imul dX11_undo_58 rfl ?_
      refine r_iadd dX11_undo_59 rfl ?_
      obtain ⟨hi2, h⟩ := gi h
      refine alM_4 hi2 dX11_undo_60 rfl ?_
      refine r_aload_n 0 dX11_undo_61 rfl rfl rfl ?_
      refine gf_X11_19_0 dX11_undo_62 rfl ?_
      refine r_iload_n 1 dX11_undo_65 rfl rfl rfl ?_
      refine ric_2 dX11_undo_66 rfl ?_
      refine r_iadd dX11_undo_67 rfl ?_
      refine ric_3 dX11_undo_68 rfl ?_
      refine r_iload_n 2 dX11_undo_69 rfl rfl rfl ?_
      refine r_imul dX11_undo_70 rfl ?_
      refine r_iadd dX11_undo_71 rfl ?_
      obtain ⟨hi3, h⟩ := gi h
      refine alM_4 hi3 dX11_undo_72 rfl ?_
      refine r_aload_n 0 dX11_undo_73 rfl rfl rfl ?_
      refine gf_X11_19_0 dX11_undo_74 rfl ?_
      refine r_iload_n 1 dX11_undo_77 rfl rfl rfl ?_
      refine ric_3 dX11_undo_78 rfl ?_
      refine r_iadd dX11_undo_79 rfl ?_
      refine ric_3 dX11_undo_80 rfl ?_
      refine r_iload_n 2 dX11_undo_81 rfl rfl rfl ?_
      refine r_imul dX11_undo_82 rfl ?_
      refine r_iadd dX11_undo_83 rfl ?_
      obtain ⟨hi4, h⟩ := gi h
      refine alM_4 hi4 dX11_undo_84 rfl ?_
      obtain ⟨σ6, e5, h⟩ := bd h
      refine r_callV (rest := []) (T_X11_lay e5) (by decide) mf_X11_lay rfl tw_1068 tw_40 tw_1066 cM_0 rfl rfl rfl (Nat.le_of_ble_eq_true rfl) dX11_undo_85 rfl ?_
      refine r_calln ?_
      refine r_iinc (v := (x2 + 1)) (lv' := [(2, .int (x2 + 1)), (0, .ref (xq X 0)), (1, .int x1)]) 2 dX11_undo_88 rfl rfl (by decide) rfl rfl ?_
      refine r_goto (t := 41) dX11_undo_91 (by decide) ?_
      refine r_sub [1, 2, 0] rfl ?_
      exact ih x1 (x2 + 1) σ6 h
def P_X11_undo (σ : SS) : Option (Int64 × SS) :=
  if ¬ (sI σ 2) = 0 then
    gI (49 * (sI (uI σ 2 ((sI σ 2) - 1)) 2)) 392 <|
    P_X11_undo_j41 FU (49 * (sI (uI σ 2 ((sI σ 2) - 1)) 2)) 0 (uI (uI σ 2 ((sI σ 2) - 1)) 0 (ldA (uI σ 2 ((sI σ 2) - 1)) 3 (49 * (sI (uI σ 2 ((sI σ 2) - 1)) 2))))
  else
    some ((-2000000002), σ)
set_option maxHeartbeats 4000000 in
set_option maxRecDepth 100000 in
theorem T_X11_undo {X : XE} {σf : SS} {r : Int64} {σ : SS} (h : P_X11_undo σ = some (r, σf)) : Mt (gM X) 1 yX11_undo cX11_undo 3 (some .long) [.ref (xq X 0)] σ (some (.long r)) σf := by
  refine Mt.of (own := RX11) (lv := [(0, .ref (xq X 0))]) pn_X11 rfl (Nat.le_of_ble_eq_true rfl) rfl ?_
  unfold P_X11_undo at h
  refine r_aload_n 0 dX11_undo_0 rfl rfl rfl ?_
  refine gf_X11_91_0 dX11_undo_1 rfl ?_
  refine r_if_ne (t := 11) dX11_undo_4 (by decide) rfl (fun c1 => ?_) (fun c1 => ?_)
  · have h := it_t c1 h
    refine r_aload_n 0 dX11_undo_11 rfl rfl rfl ?_
    refine r_dup rfl dX11_undo_12 rfl ?_
    refine gf_X11_91_0 dX11_undo_13 rfl ?_
    refine ric_1 dX11_undo_16 rfl ?_
    refine r_isub dX11_undo_17 rfl ?_
    refine pf_X11_91_0 dX11_undo_18 rfl ?_
    refine r_bipush (v := 49) dX11_undo_21 (by decide) rfl ?_
    refine r_aload_n 0 dX11_undo_23 rfl rfl rfl ?_
    refine gf_X11_91_0 dX11_undo_24 rfl ?_
    refine r_imul dX11_undo_27 rfl ?_
    refine r_istore_n (lv' := [(1, .int (49 * (sI (uI σ 2 ((sI σ 2) - 1)) 2))), (0, .ref (xq X 0))]) dX11_undo_28 rfl (by decide) rfl rfl ?_
    refine r_aload_n 1 dX11_undo_29 rfl rfl rfl ?_
    refine r_aload_n 1 dX11_undo_30 rfl rfl rfl ?_
    refine gf_X11_19_0 dX11_undo_31 rfl ?_
    refine r_iload_n 0 dX11_undo_34 rfl rfl rfl ?_
    obtain ⟨hi2, h⟩ := gi h
    refine alM_4 hi2 dX11_undo_35 rfl ?_
    refine pf_X11_95_0 dX11_undo_36 rfl ?_
    refine ric_0 dX11_undo_39 rfl ?_
    refine r_istore_n (lv' := [(2, .int 0), (1, .int (49 * (sI (uI σ 2 ((sI σ 2) - 1)) 2))), (0, .ref (xq X 0))]) dX11_undo_40 rfl (by decide) rfl rfl ?_
    refine r_sub [2, 1, 0] rfl ?_
    exact T_X11_undo_j41 FU (49 * (sI (uI σ 2 ((sI σ 2) - 1)) 2)) 0 (uI (uI σ 2 ((sI σ 2) - 1)) 0 (ldA (uI σ 2 ((sI σ 2) - 1)) 3 (49 * (sI (uI σ 2 ((sI σ 2) - 1)) 2)))) h
  · have h := it_n c1 h
    refine r_ldc2 (v := (-2000000002)) tw_1082 dX11_undo_7 rfl ?_
    exact r_lretQ dX11_undo_10 h
def P_X11_about (a1 : Int32) (a2 : Int32) (σ : SS) : Option Int64 :=
  (P_X11_isShape a1 σ).bind fun v2 =>
  if v2 = 0 then
    some (-2000000001)
  else
    (P_X11_isIn a2.toInt64 0 2).bind fun v5 =>
    if ¬ v5 = 0 then
      if ¬ a2 = 0 then
        if ¬ a2 = 1 then
          gI a1 16 <|
          some ((ldA σ 2 a1).toInt64)
        else
          gI a1 16 <|
          some ((ldA σ 1 a1).toInt64)
      else
        gI a1 16 <|
        some ((ldA σ 0 a1).toInt64)
    else
      some (-2000000001)
set_option maxHeartbeats 4000000 in
set_option maxRecDepth 100000 in
theorem T_X11_about {X : XE} {σ : SS} {r : Int64} {a1 : Int32} {a2 : Int32} (h : P_X11_about a1 a2 σ = some r) : Mt (gM X) 2 yX11_about cX11_about 3 (some .long) [.ref (xq X 0), .int a1, .int a2] σ (some (.long r)) σ := by
  refine Mt.of (own := RX11) (lv := [(0, .ref (xq X 0)), (1, .int a1), (2, .int a2)]) pn_X11 rfl (Nat.le_of_ble_eq_true rfl) rfl ?_
  unfold P_X11_about at h
  refine r_aload_n 0 dX11_about_0 rfl rfl rfl ?_
  refine r_iload_n 1 dX11_about_1 rfl rfl rfl ?_
  obtain ⟨v2, e1, h⟩ := bd h
  refine r_callV (rest := []) (T_X11_isShape e1) (by decide) mf_X11_isShape rfl tw_1076 tw_41 tw_1074 cM_0 rfl rfl rfl (Nat.le_of_ble_eq_true rfl) dX11_about_2 rfl ?_
  refine r_call0 ?_
  refine r_if_eq (t := 20) dX11_about_5 (by decide) rfl (fun c3 => ?_) (fun c3 => ?_)
  · have h := it_t c3 h
    refine r_ldc2 (v := (-2000000001)) tw_1060 dX11_about_20 rfl ?_
    exact r_lretR dX11_about_23 h
  · have h := it_f c3 h
    refine r_iload_n 2 dX11_about_8 rfl rfl rfl ?_
    refine r_i2l dX11_about_9 rfl ?_
    refine rlc_0 dX11_about_10 rfl ?_
    refine r_ldc2 (v := 2) tw_1087 dX11_about_11 rfl ?_
    obtain ⟨v5, e4, h⟩ := bd h
    refine r_callS (As := [.long a2.toInt64, .long 0, .long 2]) (rest := []) (T_X11_isIn e4) (by decide) mf_X11_isIn rfl tw_1055 tw_1054 rfl (Nat.le_of_ble_eq_true rfl) dX11_about_14 rfl ?_
    refine r_call0 ?_
    refine r_if_ne (t := 24) dX11_about_17 (by decide) rfl (fun c6 => ?_) (fun c6 => ?_)
    · have h := it_t c6 h
      refine r_iload_n 2 dX11_about_24 rfl rfl rfl ?_
      refine r_if_ne (t := 38) dX11_about_25 (by decide) rfl (fun c7 => ?_) (fun c7 => ?_)
      · have h := it_t c7 h
        refine r_iload_n 2 dX11_about_38 rfl rfl rfl ?_
        refine ric_1 dX11_about_39 rfl ?_
        refine r_icmp_ne (t := 53) dX11_about_40 (by decide) rfl (fun c8 => ?_) (fun c8 => ?_)
        · have h := it_t c8 h
          refine r_aload_n 0 dX11_about_53 rfl rfl rfl ?_
          refine gf_X11_16_0 dX11_about_54 rfl ?_
          refine r_iload_n 1 dX11_about_57 rfl rfl rfl ?_
          obtain ⟨hi9, h⟩ := gi h
          refine alM_3 hi9 dX11_about_58 rfl ?_
          refine r_i2l dX11_about_59 rfl ?_
          exact r_lretR dX11_about_60 h
        · have h := it_n c8 h
          refine r_aload_n 0 dX11_about_43 rfl rfl rfl ?_
          refine gf_X11_13_0 dX11_about_44 rfl ?_
          refine r_iload_n 1 dX11_about_47 rfl rfl rfl ?_
          obtain ⟨hi10, h⟩ := gi h
          refine alM_2 hi10 dX11_about_48 rfl ?_
          refine r_i2l dX11_about_49 rfl ?_
          refine r_goto (t := 60) dX11_about_50 (by decide) ?_
          exact r_lretR dX11_about_60 h
      · have h := it_n c7 h
        refine r_aload_n 0 dX11_about_28 rfl rfl rfl ?_
        refine gf_X11_7_0 dX11_about_29 rfl ?_
        refine r_iload_n 1 dX11_about_32 rfl rfl rfl ?_
        obtain ⟨hi11, h⟩ := gi h
        refine alM_1 hi11 dX11_about_33 rfl ?_
        refine r_i2l dX11_about_34 rfl ?_
        refine r_goto (t := 60) dX11_about_35 (by decide) ?_
        exact r_lretR dX11_about_60 h
    · have h := it_n c6 h
      refine r_ldc2 (v := (-2000000001)) tw_1060 dX11_about_20 rfl ?_
      exact r_lretR dX11_about_23 h
def P_X11_hasA (a1 : Int32) (σ : SS) : Option Int32 :=
  gI a1 16 <|
  (P_X11_isIn ((ldA σ 0 a1).toInt64) 2 7).bind fun v3 =>
  gZ v3 <|
  some v3
set_option maxHeartbeats 4000000 in
set_option maxRecDepth 100000 in
theorem T_X11_hasA {X : XE} {σ : SS} {r : Int32} {a1 : Int32} (h : P_X11_hasA a1 σ = some r) : Mt (gM X) 1 yX11_hasA cX11_hasA 2 (some .boolean) [.ref (xq X 0), .int a1] σ (some (.int r)) σ := by
  refine Mt.of (own := RX11) (lv := [(0, .ref (xq X 0)), (1, .int a1)]) pn_X11 rfl (Nat.le_of_ble_eq_true rfl) rfl ?_
  unfold P_X11_hasA at h
  refine r_aload_n 0 dX11_hasA_0 rfl rfl rfl ?_
  refine gf_X11_7_0 dX11_hasA_1 rfl ?_
  refine r_iload_n 1 dX11_hasA_4 rfl rfl rfl ?_
  obtain ⟨hi1, h⟩ := gi h
  refine alM_1 hi1 dX11_hasA_5 rfl ?_
  refine r_i2l dX11_hasA_6 rfl ?_
  refine r_ldc2 (v := 2) tw_1087 dX11_hasA_7 rfl ?_
  refine r_ldc2 (v := 7) tw_1100 dX11_hasA_10 rfl ?_
  obtain ⟨v3, e2, h⟩ := bd h
  refine r_callS (As := [.long ((ldA σ 0 a1).toInt64), .long 2, .long 7]) (rest := []) (T_X11_isIn e2) (by decide) mf_X11_isIn rfl tw_1055 tw_1054 rfl (Nat.le_of_ble_eq_true rfl) dX11_hasA_13 rfl ?_
  refine r_call0 ?_
  obtain ⟨hz4, h⟩ := gz h
  exact r_zretR hz4 dX11_hasA_16 h
def P_X11_hasB (a1 : Int32) (σ : SS) : Option Int32 :=
  gI a1 16 <|
  if (ldA σ 0 a1) = 2 then
    some 1
  else
    gI a1 16 <|
    if ¬ (ldA σ 0 a1) = 3 then
      some 0
    else
      some 1
set_option maxHeartbeats 4000000 in
set_option maxRecDepth 100000 in
theorem T_X11_hasB {X : XE} {σ : SS} {r : Int32} {a1 : Int32} (h : P_X11_hasB a1 σ = some r) : Mt (gM X) 0 yX11_hasB cX11_hasB 2 (some .boolean) [.ref (xq X 0), .int a1] σ (some (.int r)) σ := by
  refine Mt.of (own := RX11) (lv := [(0, .ref (xq X 0)), (1, .int a1)]) pn_X11 rfl (Nat.le_of_ble_eq_true rfl) rfl ?_
  unfold P_X11_hasB at h
  refine r_aload_n 0 dX11_hasB_0 rfl rfl rfl ?_
  refine gf_X11_7_0 dX11_hasB_1 rfl ?_
  refine r_iload_n 1 dX11_hasB_4 rfl rfl rfl ?_
  obtain ⟨hi1, h⟩ := gi h
  refine alM_1 hi1 dX11_hasB_5 rfl ?_
  refine ric_2 dX11_hasB_6 rfl ?_
  refine r_icmp_eq (t := 20) dX11_hasB_7 (by decide) rfl (fun c2 => ?_) (fun c2 => ?_)
  · have h := it_t c2 h
    refine ric_1 dX11_hasB_20 rfl ?_
    refine r_goto (t := 25) dX11_hasB_21 (by decide) ?_
    exact r_zretR (Or.inr rfl) dX11_hasB_25 h
  · have h := it_f c2 h
    refine r_aload_n 0 dX11_hasB_10 rfl rfl rfl ?_
    refine gf_X11_7_0 dX11_hasB_11 rfl ?_
    refine r_iload_n 1 dX11_hasB_14 rfl rfl rfl ?_
    obtain ⟨hi3, h⟩ := gi h
    refine alM_1 hi3 dX11_hasB_15 rfl ?_
    refine ric_3 dX11_hasB_16 rfl ?_
    refine r_icmp_ne (t := 24) dX11_hasB_17 (by decide) rfl (fun c4 => ?_) (fun c4 => ?_)
    · have h := it_t c4 h
      refine ric_0 dX11_hasB_24 rfl ?_
      exact r_zretR (Or.inl rfl) dX11_hasB_25 h
    · have h := it_n c4 h
      refine ric_1 dX11_hasB_20 rfl ?_
      refine r_goto (t := 25) dX11_hasB_21 (by decide) ?_
      exact r_zretR (Or.inr rfl) dX11_hasB_25 h
