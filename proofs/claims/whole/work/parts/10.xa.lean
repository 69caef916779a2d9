def P_X10_isPart (a0 : Int32) : Option Int32 :=
  if a0 < 0 then
    some 0
  else
    if 16 ≤ a0 then
      some 0
    else
      some 1
set_option maxHeartbeats 4000000 in
set_option maxRecDepth 100000 in
theorem T_X10_isPart {X : XE} {σ : SS} {r : Int32} {a0 : Int32} (h : P_X10_isPart a0 = some r) : Mt (gX X) 0 yX10_isPart cX10_isPart 1 (some .boolean) [.int a0] σ (some (.int r)) σ := by
  refine Mt.of (own := RX10) (lv := [(0, .int a0)]) pn_X10 rfl (Nat.le_of_ble_eq_true rfl) rfl ?_
  unfold P_X10_isPart at h
  refine r_iload_n 0 dX10_isPart_0 rfl rfl rfl ?_
  refine r_if_lt (t := 14) dX10_isPart_1 (by decide) rfl (fun c1 => ?_) (fun c1 => ?_)
  · have h := it_t c1 h
    refine ric_0 dX10_isPart_14 rfl ?_
    exact r_zretR (Or.inl rfl) dX10_isPart_15 h
  · have h := it_f c1 h
    refine r_iload_n 0 dX10_isPart_4 rfl rfl rfl ?_
    refine r_bipush (v := 16) dX10_isPart_5 (by decide) rfl ?_
    refine r_icmp_ge (t := 14) dX10_isPart_7 (by decide) rfl (fun c2 => ?_) (fun c2 => ?_)
    · have h := it_t c2 h
      refine ric_0 dX10_isPart_14 rfl ?_
      exact r_zretR (Or.inl rfl) dX10_isPart_15 h
    · have h := it_f c2 h
      refine ric_1 dX10_isPart_10 rfl ?_
      refine r_goto (t := 15) dX10_isPart_11 (by decide) ?_
      exact r_zretR (Or.inr rfl) dX10_isPart_15 h
def P_X10_fits_j93 (x1 : Int32) (x2 : Int32) : Option Int32 :=
  (P_X10_isPart x1).bind fun v2 =>
  if v2 = 0 then
    some 0
  else
    (P_X10_isPart x2).bind fun v5 =>
    if v5 = 0 then
      some 0
    else
      some 1
set_option maxHeartbeats 4000000 in
set_option maxRecDepth 100000 in
theorem T_X10_fits_j93 {X : XE} {σ : SS} {r : Int32} : ∀ (x1 : Int32) (x2 : Int32), P_X10_fits_j93 x1 x2 = some r → V (gX X) 1 RX10 cX10_fits 3 (some .boolean) (some (.int r)) σ 93 [(1, .int x1), (2, .int x2)] [] σ := by
  intro x1 x2 h
  unfold P_X10_fits_j93 at h
  refine r_iload_n 0 dX10_fits_93 rfl rfl rfl ?_
  obtain ⟨v2, e1, h⟩ := bd h
  refine r_callS (As := [.int x1]) (rest := []) (T_X10_isPart e1) (by decide) mf_X10_isPart rfl tw_383 tw_382 rfl (Nat.le_of_ble_eq_true rfl) dX10_fits_94 rfl ?_
  refine r_call0 ?_
  refine r_if_eq (t := 111) dX10_fits_97 (by decide) rfl (fun c3 => ?_) (fun c3 => ?_)
  · have h := it_t c3 h
    refine ric_0 dX10_fits_111 rfl ?_
    exact r_zretR (Or.inl rfl) dX10_fits_112 h
  · have h := it_f c3 h
    refine r_iload_n 1 dX10_fits_100 rfl rfl rfl ?_
    obtain ⟨v5, e4, h⟩ := bd h
    refine r_callS (As := [.int x2]) (rest := []) (T_X10_isPart e4) (by decide) mf_X10_isPart rfl tw_383 tw_382 rfl (Nat.le_of_ble_eq_true rfl) dX10_fits_101 rfl ?_
    refine r_call0 ?_
    refine r_if_eq (t := 111) dX10_fits_104 (by decide) rfl (fun c6 => ?_) (fun c6 => ?_)
    · have h := it_t c6 h
      refine ric_0 dX10_fits_111 rfl ?_
      exact r_zretR (Or.inl rfl) dX10_fits_112 h
    · have h := it_f c6 h
      refine ric_1 dX10_fits_107 rfl ?_
      refine r_goto (t := 112) dX10_fits_108 (by decide) ?_
      exact r_zretR (Or.inr rfl) dX10_fits_112 h
def P_X10_fits (a0 : Int32) (a1 : Int32) (a2 : Int32) : Option Int32 :=
  if a0 = 0 then
    if a1 < 1 then
      some 0
    else
      if 9 < a1 then
        some 0
      else
        if a2 < 0 then
          some 0
        else
          if 25 < a2 then
            some 0
          else
            some 1
  else
    if a0 = 1 then
      if ¬ a1 = 0 then
        some 0
      else
        if ¬ a2 = 0 then
          some 0
        else
          some 1
    else
      if a0 = 2 then
        P_X10_fits_j93 a1 a2
      else
        if a0 = 3 then
          P_X10_fits_j93 a1 a2
        else
          if a0 = 4 then
            (P_X10_isPart a1).bind fun v13 =>
            if v13 = 0 then
              some 0
            else
              if ¬ a2 = 0 then
                some 0
              else
                some 1
          else
            if a0 = 5 then
              (P_X10_isPart a1).bind fun v18 =>
              if v18 = 0 then
                some 0
              else
                if ¬ a2 = 0 then
                  some 0
                else
                  some 1
            else
              if a0 = 6 then
                (P_X10_isPart a1).bind fun v23 =>
                if v23 = 0 then
                  some 0
                else
                  if ¬ a2 = 0 then
                    some 0
                  else
                    some 1
              else
                if a0 = 7 then
                  (P_X10_isPart a1).bind fun v28 =>
                  if v28 = 0 then
                    some 0
                  else
                    if a2 < 0 then
                      some 0
                    else
                      if 24 < (a2 &&& 31) then
                        some 0
                      else
                        if (a2 &&& 31) < (a2 >>> ((5 : Int32) &&& 31)) then
                          some 0
                        else
                          some 1
                else
                  if a0 = 8 then
                    if a1 < 1 then
                      some 0
                    else
                      if 8 < a1 then
                        some 0
                      else
                        if ¬ a2 = 0 then
                          some 0
                        else
                          some 1
                  else
                    some 0
set_option maxHeartbeats 4000000 in
set_option maxRecDepth 100000 in
theorem T_X10_fits {X : XE} {σ : SS} {r : Int32} {a0 : Int32} {a1 : Int32} {a2 : Int32} (h : P_X10_fits a0 a1 a2 = some r) : Mt (gX X) 1 yX10_fits cX10_fits 3 (some .boolean) [.int a0, .int a1, .int a2] σ (some (.int r)) σ := by
  refine Mt.of (own := RX10) (lv := [(0, .int a0), (1, .int a1), (2, .int a2)]) pn_X10 rfl (Nat.le_of_ble_eq_true rfl) rfl ?_
  unfold P_X10_fits at h
  refine r_iload_n 0 dX10_fits_0 rfl rfl rfl ?_
  by_cases c1 : a0 = 0
  · have h := it_t c1 h
    refine r_tableIn (t := 52) dX10_fits_1 (by rw [c1]; decide) (by rw [c1]; decide) (by rw [c1]; rfl) (by decide) ?_
    refine r_iload_n 1 dX10_fits_52 rfl rfl rfl ?_
    refine ric_1 dX10_fits_53 rfl ?_
    refine r_icmp_lt (t := 77) dX10_fits_54 (by decide) rfl (fun c2 => ?_) (fun c2 => ?_)
    · have h := it_t c2 h
      refine ric_0 dX10_fits_77 rfl ?_
      exact r_zretR (Or.inl rfl) dX10_fits_78 h
    · have h := it_f c2 h
      refine r_iload_n 1 dX10_fits_57 rfl rfl rfl ?_
      refine r_bipush (v := 9) dX10_fits_58 (by decide) rfl ?_
      refine r_icmp_gt (t := 77) dX10_fits_60 (by decide) rfl (fun c3 => ?_) (fun c3 => ?_)
      · have h := it_t c3 h
        refine ric_0 dX10_fits_77 rfl ?_
        exact r_zretR (Or.inl rfl) dX10_fits_78 h
      · have h := it_f c3 h
        refine r_iload_n 2 dX10_fits_63 rfl rfl rfl ?_
        refine r_if_lt (t := 77) dX10_fits_64 (by decide) rfl (fun c4 => ?_) (fun c4 => ?_)
        · have h := it_t c4 h
          refine ric_0 dX10_fits_77 rfl ?_
          exact r_zretR (Or.inl rfl) dX10_fits_78 h
        · have h := it_f c4 h
          refine r_iload_n 2 dX10_fits_67 rfl rfl rfl ?_
          refine r_bipush (v := 25) dX10_fits_68 (by decide) rfl ?_
          refine r_icmp_gt (t := 77) dX10_fits_70 (by decide) rfl (fun c5 => ?_) (fun c5 => ?_)
          · have h := it_t c5 h
            refine ric_0 dX10_fits_77 rfl ?_
            exact r_zretR (Or.inl rfl) dX10_fits_78 h
          · have h := it_f c5 h
            refine ric_1 dX10_fits_73 rfl ?_
            refine r_goto (t := 78) dX10_fits_74 (by decide) ?_
            exact r_zretR (Or.inr rfl) dX10_fits_78 h
  · have h := it_f c1 h
    by_cases c6 : a0 = 1
    · have h := it_t c6 h
      refine r_tableIn (t := 79) dX10_fits_1 (by rw [c6]; decide) (by rw [c6]; decide) (by rw [c6]; rfl) (by decide) ?_
      refine r_iload_n 1 dX10_fits_79 rfl rfl rfl ?_
      refine r_if_ne (t := 91) dX10_fits_80 (by decide) rfl (fun c7 => ?_) (fun c7 => ?_)
      · have h := it_t c7 h
        refine ric_0 dX10_fits_91 rfl ?_
        exact r_zretR (Or.inl rfl) dX10_fits_92 h
      · have h := it_n c7 h
        refine r_iload_n 2 dX10_fits_83 rfl rfl rfl ?_
        refine r_if_ne (t := 91) dX10_fits_84 (by decide) rfl (fun c8 => ?_) (fun c8 => ?_)
        · have h := it_t c8 h
          refine ric_0 dX10_fits_91 rfl ?_
          exact r_zretR (Or.inl rfl) dX10_fits_92 h
        · have h := it_n c8 h
          refine ric_1 dX10_fits_87 rfl ?_
          refine r_goto (t := 92) dX10_fits_88 (by decide) ?_
          exact r_zretR (Or.inr rfl) dX10_fits_92 h
    · have h := it_f c6 h
      by_cases c9 : a0 = 2
      · have h := it_t c9 h
        refine r_tableIn (t := 93) dX10_fits_1 (by rw [c9]; decide) (by rw [c9]; decide) (by rw [c9]; rfl) (by decide) ?_
        refine r_sub [1, 2] rfl ?_
        exact T_X10_fits_j93 a1 a2 h
      · have h := it_f c9 h
        by_cases c10 : a0 = 3
        · have h := it_t c10 h
          refine r_tableIn (t := 93) dX10_fits_1 (by rw [c10]; decide) (by rw [c10]; decide) (by rw [c10]; rfl) (by decide) ?_
          refine r_sub [1, 2] rfl ?_
          exact T_X10_fits_j93 a1 a2 h
        · have h := it_f c10 h
          by_cases c11 : a0 = 4
          · have h := it_t c11 h
            refine r_tableIn (t := 113) dX10_fits_1 (by rw [c11]; decide) (by rw [c11]; decide) (by rw [c11]; rfl) (by decide) ?_
            refine r_iload_n 1 dX10_fits_113 rfl rfl rfl ?_
            obtain ⟨v13, e12, h⟩ := bd h
            refine r_callS (As := [.int a1]) (rest := []) (T_X10_isPart e12) (by decide) mf_X10_isPart rfl tw_383 tw_382 rfl (Nat.le_of_ble_eq_true rfl) dX10_fits_114 rfl ?_
            refine r_call0 ?_
            refine r_if_eq (t := 128) dX10_fits_117 (by decide) rfl (fun c14 => ?_) (fun c14 => ?_)
            · have h := it_t c14 h
              refine ric_0 dX10_fits_128 rfl ?_
              exact r_zretR (Or.inl rfl) dX10_fits_129 h
            · have h := it_f c14 h
              refine r_iload_n 2 dX10_fits_120 rfl rfl rfl ?_
              refine r_if_ne (t := 128) dX10_fits_121 (by decide) rfl (fun c15 => ?_) (fun c15 => ?_)
              · have h := it_t c15 h
                refine ric_0 dX10_fits_128 rfl ?_
                exact r_zretR (Or.inl rfl) dX10_fits_129 h
              · have h := it_n c15 h
                refine ric_1 dX10_fits_124 rfl ?_
                refine r_goto (t := 129) dX10_fits_125 (by decide) ?_
                exact r_zretR (Or.inr rfl) dX10_fits_129 h
          · have h := it_f c11 h
            by_cases c16 : a0 = 5
            · have h := it_t c16 h
              refine r_tableIn (t := 113) dX10_fits_1 (by rw [c16]; decide) (by rw [c16]; decide) (by rw [c16]; rfl) (by decide) ?_
              refine r_iload_n 1 dX10_fits_113 rfl rfl rfl ?_
              obtain ⟨v18, e17, h⟩ := bd h
              refine r_callS (As := [.int a1]) (rest := []) (T_X10_isPart e17) (by decide) mf_X10_isPart rfl tw_383 tw_382 rfl (Nat.le_of_ble_eq_true rfl) dX10_fits_114 rfl ?_
              refine r_call0 ?_
              refine r_if_eq (t := 128) dX10_fits_117 (by decide) rfl (fun c19 => ?_) (fun c19 => ?_)
              · have h := it_t c19 h
                refine ric_0 dX10_fits_128 rfl ?_
                exact r_zretR (Or.inl rfl) dX10_fits_129 h
              · have h := it_f c19 h
                refine r_iload_n 2 dX10_fits_120 rfl rfl rfl ?_
                refine r_if_ne (t := 128) dX10_fits_121 (by decide) rfl (fun c20 => ?_) (fun c20 => ?_)
                · have h := it_t c20 h
                  refine ric_0 dX10_fits_128 rfl ?_
                  exact r_zretR (Or.inl rfl) dX10_fits_129 h
                · have h := it_n c20 h
                  refine ric_1 dX10_fits_124 rfl ?_
                  refine r_goto (t := 129) dX10_fits_125 (by decide) ?_
                  exact r_zretR (Or.inr rfl) dX10_fits_129 h
            · have h := it_f c16 h
              by_cases c21 : a0 = 6
              · have h := it_t c21 h
                refine r_tableIn (t := 113) dX10_fits_1 (by rw [c21]; decide) (by rw [c21]; decide) (by rw [c21]; rfl) (by decide) ?_
                refine r_iload_n 1 dX10_fits_113 rfl rfl rfl ?_
                obtain ⟨v23, e22, h⟩ := bd h
                refine r_callS (As := [.int a1]) (rest := []) (T_X10_isPart e22) (by decide) mf_X10_isPart rfl tw_383 tw_382 rfl (Nat.le_of_ble_eq_true rfl) dX10_fits_114 rfl ?_
                refine r_call0 ?_
                refine r_if_eq (t := 128) dX10_fits_117 (by decide) rfl (fun c24 => ?_) (fun c24 => ?_)
                · have h := it_t c24 h
                  refine ric_0 dX10_fits_128 rfl ?_
                  exact r_zretR (Or.inl rfl) dX10_fits_129 h
                · have h := it_f c24 h
                  refine r_iload_n 2 dX10_fits_120 rfl rfl rfl ?_
                  refine r_if_ne (t := 128) dX10_fits_121 (by decide) rfl (fun c25 => ?_) (fun c25 => ?_)
                  · have h := it_t c25 h
                    refine ric_0 dX10_fits_128 rfl ?_
                    exact r_zretR (Or.inl rfl) dX10_fits_129 h
                  · have h := it_n c25 h
                    refine ric_1 dX10_fits_124 rfl ?_
                    refine r_goto (t := 129) dX10_fits_125 (by decide) ?_
                    exact r_zretR (Or.inr rfl) dX10_fits_129 h
              · have h := it_f c21 h
                by_cases c26 : a0 = 7
                · have h := it_t c26 h
                  refine r_tableIn (t := 130) dX10_fits_1 (by rw [c26]; decide) (by rw [c26]; decide) (by rw [c26]; rfl) (by decide) ?_
                  refine r_iload_n 1 dX10_fits_130 rfl rfl rfl ?_
                  obtain ⟨v28, e27, h⟩ := bd h
                  refine r_callS (As := [.int a1]) (rest := []) (T_X10_isPart e27) (by decide) mf_X10_isPart rfl tw_383 tw_382 rfl (Nat.le_of_ble_eq_true rfl) dX10_fits_131 rfl ?_
                  refine r_call0 ?_
                  refine r_if_eq (t := 164) dX10_fits_134 (by decide) rfl (fun c29 => ?_) (fun c29 => ?_)
                  · have h := it_t c29 h
                    refine ric_0 dX10_fits_164 rfl ?_
                    exact r_zretR (Or.inl rfl) dX10_fits_165 h
                  · have h := it_f c29 h
                    refine r_iload_n 2 dX10_fits_137 rfl rfl rfl ?_
                    refine r_if_lt (t := 164) dX10_fits_138 (by decide) rfl (fun c30 => ?_) (fun c30 => ?_)
                    · have h := it_t c30 h
                      refine ric_0 dX10_fits_164 rfl ?_
                      exact r_zretR (Or.inl rfl) dX10_fits_165 h
                    · have h := it_f c30 h
                      refine r_iload_n 2 dX10_fits_141 rfl rfl rfl ?_
                      refine r_bipush (v := 31) dX10_fits_142 (by decide) rfl ?_
                      refine r_iand dX10_fits_144 rfl ?_
                      refine r_bipush (v := 24) dX10_fits_145 (by decide) rfl ?_
                      refine r_icmp_gt (t := 164) dX10_fits_147 (by decide) rfl (fun c31 => ?_) (fun c31 => ?_)
                      · have h := it_t c31 h
                        refine ric_0 dX10_fits_164 rfl ?_
                        exact r_zretR (Or.inl rfl) dX10_fits_165 h
                      · have h := it_f c31 h
                        refine r_iload_n 2 dX10_fits_150 rfl rfl rfl ?_
                        refine ric_5 dX10_fits_151 rfl ?_
                        refine r_ishr dX10_fits_152 rfl ?_
                        refine r_iload_n 2 dX10_fits_153 rfl rfl rfl ?_
                        refine r_bipush (v := 31) dX10_fits_154 (by decide) rfl ?_
                        refine r_iand dX10_fits_156 rfl ?_
                        refine r_icmp_gt (t := 164) dX10_fits_157 (by decide) rfl (fun c32 => ?_) (fun c32 => ?_)
                        · have h := it_t c32 h
                          refine ric_0 dX10_fits_164 rfl ?_
                          exact r_zretR (Or.inl rfl) dX10_fits_165 h
                        · have h := it_f c32 h
                          refine ric_1 dX10_fits_160 rfl ?_
                          refine r_goto (t := 165) dX10_fits_161 (by decide) ?_
                          exact r_zretR (Or.inr rfl) dX10_fits_165 h
                · have h := it_f c26 h
                  by_cases c33 : a0 = 8
                  · have h := it_t c33 h
                    refine r_tableIn (t := 166) dX10_fits_1 (by rw [c33]; decide) (by rw [c33]; decide) (by rw [c33]; rfl) (by decide) ?_
                    refine r_iload_n 1 dX10_fits_166 rfl rfl rfl ?_
                    refine ric_1 dX10_fits_167 rfl ?_
                    refine r_icmp_lt (t := 185) dX10_fits_168 (by decide) rfl (fun c34 => ?_) (fun c34 => ?_)
                    · have h := it_t c34 h
                      refine ric_0 dX10_fits_185 rfl ?_
                      exact r_zretR (Or.inl rfl) dX10_fits_186 h
                    · have h := it_f c34 h
                      refine r_iload_n 1 dX10_fits_171 rfl rfl rfl ?_
                      refine r_bipush (v := 8) dX10_fits_172 (by decide) rfl ?_
                      refine r_icmp_gt (t := 185) dX10_fits_174 (by decide) rfl (fun c35 => ?_) (fun c35 => ?_)
                      · have h := it_t c35 h
                        refine ric_0 dX10_fits_185 rfl ?_
                        exact r_zretR (Or.inl rfl) dX10_fits_186 h
                      · have h := it_f c35 h
                        refine r_iload_n 2 dX10_fits_177 rfl rfl rfl ?_
                        refine r_if_ne (t := 185) dX10_fits_178 (by decide) rfl (fun c36 => ?_) (fun c36 => ?_)
                        · have h := it_t c36 h
                          refine ric_0 dX10_fits_185 rfl ?_
                          exact r_zretR (Or.inl rfl) dX10_fits_186 h
                        · have h := it_n c36 h
                          refine ric_1 dX10_fits_181 rfl ?_
                          refine r_goto (t := 186) dX10_fits_182 (by decide) ?_
                          exact r_zretR (Or.inr rfl) dX10_fits_186 h
                  · have h := it_f c33 h
                    refine r_tableOut (t := 187) dX10_fits_1 (by have z0 := neL c1 (z := 0) rfl; have z1 := neL c6 (z := 1) rfl; have z2 := neL c9 (z := 2) rfl; have z3 := neL c10 (z := 3) rfl; have z4 := neL c11 (z := 4) rfl; have z5 := neL c16 (z := 5) rfl; have z6 := neL c21 (z := 6) rfl; have z7 := neL c26 (z := 7) rfl; have z8 := neL c33 (z := 8) rfl; omega) (by decide) ?_
                    refine ric_0 dX10_fits_187 rfl ?_
                    exact r_zretR (Or.inl rfl) dX10_fits_188 h
def P_X1_size (σ : SS) : Option Int32 :=
  some (sI σ 5)
set_option maxHeartbeats 4000000 in
set_option maxRecDepth 100000 in
theorem T_X1_size {X : XE} {σ : SS} {r : Int32} (h : P_X1_size σ = some r) : Mt (gX X) 0 yX1_size cX1_size 1 (some .int) [.ref (xq X 1)] σ (some (.int r)) σ := by
  refine Mt.of (own := RX1) (lv := [(0, .ref (xq X 1))]) pn_X1 rfl (Nat.le_of_ble_eq_true rfl) rfl ?_
  unfold P_X1_size at h
  refine r_aload_n 0 dX1_size_0 rfl rfl rfl ?_
  refine gf_X1_21_1 dX1_size_1 rfl ?_
  exact r_iretR dX1_size_4 h
def P_X2_forgetOldest_j2 : Nat → Int32 → SS → Option SS
  | 0, _, _ => none
  | n + 1, x1, σ =>
    if 8 ≤ x1 then
      some (uI σ 6 7)
    else
      gI x1 8 <|
      gI (x1 - 1) 8 <|
      gI x1 8 <|
      gI (x1 - 1) 8 <|
      gI x1 8 <|
      gI (x1 - 1) 8 <|
      gI x1 8 <|
      gI (x1 - 1) 8 <|
      (P_X2_forgetOldest_j2 n) (x1 + 1) (stA (stA (stA (stA σ 3 (x1 - 1) (ldA σ 3 x1)) 4 (x1 - 1) (ldA (stA σ 3 (x1 - 1) (ldA σ 3 x1)) 4 x1)) 5 (x1 - 1) (ldA (stA (stA σ 3 (x1 - 1) (ldA σ 3 x1)) 4 (x1 - 1) (ldA (stA σ 3 (x1 - 1) (ldA σ 3 x1)) 4 x1)) 5 x1)) 6 (x1 - 1) (ldA (stA (stA (stA σ 3 (x1 - 1) (ldA σ 3 x1)) 4 (x1 - 1) (ldA (stA σ 3 (x1 - 1) (ldA σ 3 x1)) 4 x1)) 5 (x1 - 1) (ldA (stA (stA σ 3 (x1 - 1) (ldA σ 3 x1)) 4 (x1 - 1) (ldA (stA σ 3 (x1 - 1) (ldA σ 3 x1)) 4 x1)) 5 x1)) 6 x1))
set_option maxHeartbeats 4000000 in
set_option maxRecDepth 100000 in
theorem T_X2_forgetOldest_j2 {X : XE} {σf : SS} : ∀ (fu : Nat) (x1 : Int32) (σ : SS), P_X2_forgetOldest_j2 fu x1 σ = some σf → V (gX X) 0 RX2 cX2_forgetOldest 2 none none σf 2 [(0, .ref (xq X 2)), (1, .int x1)] [] σ := by
  intro fu
  induction fu with
  | zero => intro x1 σ h; exact no0 h
  | succ n ih =>
    intro x1 σ h
    unfold P_X2_forgetOldest_j2 at h
    refine r_iload_n 1 dX2_forgetOldest_2 rfl rfl rfl ?_
    refine r_bipush (v := 8) dX2_forgetOldest_3 (by decide) rfl ?_
    refine r_icmp_ge (t := 70) dX2_forgetOldest_5 (by decide) rfl (fun c1 => ?_) (fun c1 => ?_)
    · have h := it_t c1 h
      refine r_aload_n 0 dX2_forgetOldest_70 rfl rfl rfl ?_
      refine r_bipush (v := 7) dX2_forgetOldest_71 (by decide) rfl ?_
      refine pf_X2_28_2 dX2_forgetOldest_73 rfl ?_
      exact r_vretS dX2_forgetOldest_76 h
    · have h := it_f c1 h
      refine r_aload_n 0 dX2_forgetOldest_8 rfl rfl rfl ?_
      refine gf_X2_9_2 dX2_forgetOldest_9 rfl ?_
      refine r_iload_n 1 dX2_forgetOldest_12 rfl rfl rfl ?_
      refine ric_1 dX2_forgetOldest_13 rfl ?_
      refine r_isub dX2_forgetOldest_14 rfl ?_
      refine r_aload_n 0 dX2_forgetOldest_15 rfl rfl rfl ?_
      refine gf_X2_9_2 dX2_forgetOldest_16 rfl ?_
      refine r_iload_n 1 dX2_forgetOldest_19 rfl rfl rfl ?_
      obtain ⟨hi2, h⟩ := gi h
      refine alX_14 hi2 dX2_forgetOldest_20 rfl ?_
      obtain ⟨hi3, h⟩ := gi h
      refine asX_14 hi3 dX2_forgetOldest_21 rfl ?_
      refine r_aload_n 0 dX2_forgetOldest_22 rfl rfl rfl ?_
      refine gf_X2_15_2 dX2_forgetOldest_23 rfl ?_
      refine r_iload_n 1 dX2_forgetOldest_26 rfl rfl rfl ?_
      refine ric_1 dX2_forgetOldest_27 rfl ?_
      refine r_isub dX2_forgetOldest_28 rfl ?_
      refine r_aload_n 0 dX2_forgetOldest_29 rfl rfl rfl ?_
      refine gf_X2_15_2 dX2_forgetOldest_30 rfl ?_
      refine r_iload_n 1 dX2_forgetOldest_33 rfl rfl rfl ?_
      obtain ⟨hi4, h⟩ := gi h
      refine alX_15 hi4 dX2_forgetOldest_34 rfl ?_
      obtain ⟨hi5, h⟩ := gi h
      refine asX_15 hi5 dX2_forgetOldest_35 rfl ?_
      refine r_aload_n 0 dX2_forgetOldest_36 rfl rfl rfl ?_
      refine gf_X2_18_2 dX2_forgetOldest_37 rfl ?_
      refine r_iload_n 1 dX2_forgetOldest_40 rfl rfl rfl ?_
      refine ric_1 dX2_forgetOldest_41 rfl ?_
      refine r_isub dX2_forgetOldest_42 rfl ?_
      refine r_aload_n 0 dX2_forgetOldest_43 rfl rfl rfl ?_
      refine gf_X2_18_2 dX2_forgetOldest_44 rfl ?_
      refine r_iload_n 1 dX2_forgetOldest_47 rfl rfl rfl ?_
      obtain ⟨hi6, h⟩ := gi h
      refine alX_16 hi6 dX2_forgetOldest_48 rfl ?_
      obtain ⟨hi7, h⟩ := gi h
      refine asX_16 hi7 dX2_forgetOldest_49 rfl ?_
      refine r_aload_n 0 dX2_forgetOldest_50 rfl rfl rfl ?_
      refine gf_X2_21_2 dX2_forgetOldest_51 rfl ?_
      refine r_iload_n 1 dX2_forgetOldest_54 rfl rfl rfl ?_
      refine ric_1 dX2_forgetOldest_55 rfl ?_
      refine r_isub dX2_forgetOldest_56 rfl ?_
      refine r_aload_n 0 dX2_forgetOldest_57 rfl rfl rfl ?_
      refine gf_X2_21_2 dX2_forgetOldest_58 rfl ?_
      refine r_iload_n 1 dX2_forgetOldest_61 rfl rfl rfl ?_
      obtain ⟨hi8, h⟩ := gi h
      refine alX_17 hi8 dX2_forgetOldest_62 rfl ?_
      obtain ⟨hi9, h⟩ := gi h
      refine asX_17 hi9 dX2_forgetOldest_63 rfl ?_
      refine r_iinc (v := (x1 + 1)) (lv' := [(1, .int (x1 + 1)), (0, .ref (xq X 2))]) 1 dX2_forgetOldest_64 rfl rfl (by decide) rfl rfl ?_
      refine r_goto (t := 2) dX2_forgetOldest_67 (by decide) ?_
      refine r_sub [1, 0] rfl ?_
      exact ih (x1 + 1) (stA (stA (stA (stA σ 3 (x1 - 1) (ldA σ 3 x1)) 4 (x1 - 1) (ldA (stA σ 3 (x1 - 1) (ldA σ 3 x1)) 4 x1)) 5 (x1 - 1) (ldA (stA (stA σ 3 (x1 - 1) (ldA σ 3 x1)) 4 (x1 - 1) (ldA (stA σ 3 (x1 - 1) (ldA σ 3 x1)) 4 x1)) 5 x1)) 6 (x1 - 1) (ldA (stA (stA (stA σ 3 (x1 - 1) (ldA σ 3 x1)) 4 (x1 - 1) (ldA (stA σ 3 (x1 - 1) (ldA σ 3 x1)) 4 x1)) 5 (x1 - 1) (ldA (stA (stA σ 3 (x1 - 1) (ldA σ 3 x1)) 4 (x1 - 1) (ldA (stA σ 3 (x1 - 1) (ldA σ 3 x1)) 4 x1)) 5 x1)) 6 x1)) h
def P_X2_forgetOldest (σ : SS) : Option SS :=
  P_X2_forgetOldest_j2 FU 1 σ
set_option maxHeartbeats 4000000 in
set_option maxRecDepth 100000 in
theorem T_X2_forgetOldest {X : XE} {σf : SS} {σ : SS} (h : P_X2_forgetOldest σ = some σf) : Mt (gX X) 0 yX2_forgetOldest cX2_forgetOldest 2 none [.ref (xq X 2)] σ none σf := by
  refine Mt.of (own := RX2) (lv := [(0, .ref (xq X 2))]) pn_X2 rfl (Nat.le_of_ble_eq_true rfl) rfl ?_
  unfold P_X2_forgetOldest at h
  refine ric_1 dX2_forgetOldest_0 rfl ?_
  refine r_istore_n (lv' := [(1, .int 1), (0, .ref (xq X 2))]) dX2_forgetOldest_1 rfl (by decide) rfl rfl ?_
  refine r_sub [1, 0] rfl ?_
  exact T_X2_forgetOldest_j2 FU 1 σ h
def P_X6_set_14 (a1 : Int32) (a2 : Int32) (σ : SS) : Option SS :=
  if a1 < 0 then
    some σ
  else
    if 8 ≤ a1 then
      some σ
    else
      gI a1 8 <|
      some (stA σ 3 a1 a2)
set_option maxHeartbeats 4000000 in
set_option maxRecDepth 100000 in
theorem T_X6_set_14 {X : XE} {σf : SS} {σ : SS} {a1 : Int32} {a2 : Int32} (h : P_X6_set_14 a1 a2 σ = some σf) : Mt (gX X) 0 yX6_set cX6_set 3 none [.ref (xq X 14), .int a1, .int a2] σ none σf := by
  refine Mt.of (own := RX6) (lv := [(0, .ref (xq X 14)), (1, .int a1), (2, .int a2)]) pn_X6 rfl (Nat.le_of_ble_eq_true rfl) rfl ?_
  unfold P_X6_set_14 at h
  refine r_iload_n 1 dX6_set_0 rfl rfl rfl ?_
  refine r_if_lt (t := 14) dX6_set_1 (by decide) rfl (fun c1 => ?_) (fun c1 => ?_)
  · have h := it_t c1 h
    exact r_vretS dX6_set_14 h
  · have h := it_f c1 h
    refine r_iload_n 1 dX6_set_4 rfl rfl rfl ?_
    refine r_aload_n 0 dX6_set_5 rfl rfl rfl ?_
    refine anX_14 dX6_set_6 rfl ?_
    refine r_icmp_ge (t := 14) dX6_set_7 (by decide) rfl (fun c2 => ?_) (fun c2 => ?_)
    · have h := it_t c2 h
      exact r_vretS dX6_set_14 h
    · have h := it_f c2 h
      refine r_aload_n 0 dX6_set_10 rfl rfl rfl ?_
      refine r_iload_n 1 dX6_set_11 rfl rfl rfl ?_
      refine r_iload_n 2 dX6_set_12 rfl rfl rfl ?_
      obtain ⟨hi3, h⟩ := gi h
      refine asX_14 hi3 dX6_set_13 rfl ?_
      exact r_vretS dX6_set_14 h
def P_X6_set_15 (a1 : Int32) (a2 : Int32) (σ : SS) : Option SS :=
  if a1 < 0 then
    some σ
  else
    if 8 ≤ a1 then
      some σ
    else
      gI a1 8 <|
      some (stA σ 4 a1 a2)
set_option maxHeartbeats 4000000 in
set_option maxRecDepth 100000 in
theorem T_X6_set_15 {X : XE} {σf : SS} {σ : SS} {a1 : Int32} {a2 : Int32} (h : P_X6_set_15 a1 a2 σ = some σf) : Mt (gX X) 0 yX6_set cX6_set 3 none [.ref (xq X 15), .int a1, .int a2] σ none σf := by
  refine Mt.of (own := RX6) (lv := [(0, .ref (xq X 15)), (1, .int a1), (2, .int a2)]) pn_X6 rfl (Nat.le_of_ble_eq_true rfl) rfl ?_
  unfold P_X6_set_15 at h
  refine r_iload_n 1 dX6_set_0 rfl rfl rfl ?_
  refine r_if_lt (t := 14) dX6_set_1 (by decide) rfl (fun c1 => ?_) (fun c1 => ?_)
  · have h := it_t c1 h
    exact r_vretS dX6_set_14 h
  · have h := it_f c1 h
    refine r_iload_n 1 dX6_set_4 rfl rfl rfl ?_
    refine r_aload_n 0 dX6_set_5 rfl rfl rfl ?_
    refine anX_15 dX6_set_6 rfl ?_
    refine r_icmp_ge (t := 14) dX6_set_7 (by decide) rfl (fun c2 => ?_) (fun c2 => ?_)
    · have h := it_t c2 h
      exact r_vretS dX6_set_14 h
    · have h := it_f c2 h
      refine r_aload_n 0 dX6_set_10 rfl rfl rfl ?_
      refine r_iload_n 1 dX6_set_11 rfl rfl rfl ?_
      refine r_iload_n 2 dX6_set_12 rfl rfl rfl ?_
      obtain ⟨hi3, h⟩ := gi h
      refine asX_15 hi3 dX6_set_13 rfl ?_
      exact r_vretS dX6_set_14 h
def P_X6_set_16 (a1 : Int32) (a2 : Int32) (σ : SS) : Option SS :=
  if a1 < 0 then
    some σ
  else
    if 8 ≤ a1 then
      some σ
    else
      gI a1 8 <|
      some (stA σ 5 a1 a2)
set_option maxHeartbeats 4000000 in
set_option maxRecDepth 100000 in
theorem T_X6_set_16 {X : XE} {σf : SS} {σ : SS} {a1 : Int32} {a2 : Int32} (h : P_X6_set_16 a1 a2 σ = some σf) : Mt (gX X) 0 yX6_set cX6_set 3 none [.ref (xq X 16), .int a1, .int a2] σ none σf := by
  refine Mt.of (own := RX6) (lv := [(0, .ref (xq X 16)), (1, .int a1), (2, .int a2)]) pn_X6 rfl (Nat.le_of_ble_eq_true rfl) rfl ?_
  unfold P_X6_set_16 at h
  refine r_iload_n 1 dX6_set_0 rfl rfl rfl ?_
  refine r_if_lt (t := 14) dX6_set_1 (by decide) rfl (fun c1 => ?_) (fun c1 => ?_)
  · have h := it_t c1 h
    exact r_vretS dX6_set_14 h
  · have h := it_f c1 h
    refine r_iload_n 1 dX6_set_4 rfl rfl rfl ?_
    refine r_aload_n 0 dX6_set_5 rfl rfl rfl ?_
    refine anX_16 dX6_set_6 rfl ?_
    refine r_icmp_ge (t := 14) dX6_set_7 (by decide) rfl (fun c2 => ?_) (fun c2 => ?_)
    · have h := it_t c2 h
      exact r_vretS dX6_set_14 h
    · have h := it_f c2 h
      refine r_aload_n 0 dX6_set_10 rfl rfl rfl ?_
      refine r_iload_n 1 dX6_set_11 rfl rfl rfl ?_
      refine r_iload_n 2 dX6_set_12 rfl rfl rfl ?_
      obtain ⟨hi3, h⟩ := gi h
      refine asX_16 hi3 dX6_set_13 rfl ?_
      exact r_vretS dX6_set_14 h
def P_X6_set_17 (a1 : Int32) (a2 : Int32) (σ : SS) : Option SS :=
  if a1 < 0 then
    some σ
  else
    if 8 ≤ a1 then
      some σ
    else
      gI a1 8 <|
      some (stA σ 6 a1 a2)
set_option maxHeartbeats 4000000 in
set_option maxRecDepth 100000 in
theorem T_X6_set_17 {X : XE} {σf : SS} {σ : SS} {a1 : Int32} {a2 : Int32} (h : P_X6_set_17 a1 a2 σ = some σf) : Mt (gX X) 0 yX6_set cX6_set 3 none [.ref (xq X 17), .int a1, .int a2] σ none σf := by
  refine Mt.of (own := RX6) (lv := [(0, .ref (xq X 17)), (1, .int a1), (2, .int a2)]) pn_X6 rfl (Nat.le_of_ble_eq_true rfl) rfl ?_
  unfold P_X6_set_17 at h
  refine r_iload_n 1 dX6_set_0 rfl rfl rfl ?_
  refine r_if_lt (t := 14) dX6_set_1 (by decide) rfl (fun c1 => ?_) (fun c1 => ?_)
  · have h := it_t c1 h
    exact r_vretS dX6_set_14 h
  · have h := it_f c1 h
    refine r_iload_n 1 dX6_set_4 rfl rfl rfl ?_
    refine r_aload_n 0 dX6_set_5 rfl rfl rfl ?_
    refine anX_17 dX6_set_6 rfl ?_
    refine r_icmp_ge (t := 14) dX6_set_7 (by decide) rfl (fun c2 => ?_) (fun c2 => ?_)
    · have h := it_t c2 h
      exact r_vretS dX6_set_14 h
    · have h := it_f c2 h
      refine r_aload_n 0 dX6_set_10 rfl rfl rfl ?_
      refine r_iload_n 1 dX6_set_11 rfl rfl rfl ?_
      refine r_iload_n 2 dX6_set_12 rfl rfl rfl ?_
      obtain ⟨hi3, h⟩ := gi h
      refine asX_17 hi3 dX6_set_13 rfl ?_
      exact r_vretS dX6_set_14 h
def P_X2_keep_j13 (x1 : Int32) (x2 : Int32) (x3 : Int32) (x4 : Int32) (σ : SS) : Option SS :=
  (P_X6_set_14 (sI σ 6) x1 σ).bind fun σ2 =>
  (P_X6_set_15 (sI σ2 6) x2 σ2).bind fun σ4 =>
  (P_X6_set_16 (sI σ4 6) x3 σ4).bind fun σ6 =>
  (P_X6_set_17 (sI σ6 6) x4 σ6).bind fun σ8 =>
  some (uI σ8 6 ((sI σ8 6) + 1))
set_option maxHeartbeats 4000000 in
set_option maxRecDepth 100000 in
theorem T_X2_keep_j13 {X : XE} {σf : SS} : ∀ (x1 : Int32) (x2 : Int32) (x3 : Int32) (x4 : Int32) (σ : SS), P_X2_keep_j13 x1 x2 x3 x4 σ = some σf → V (gX X) 1 RX2 cX2_keep 5 none none σf 13 [(0, .ref (xq X 2)), (1, .int x1), (2, .int x2), (3, .int x3), (4, .int x4)] [] σ := by
  intro x1 x2 x3 x4 σ h
  unfold P_X2_keep_j13 at h
  refine r_aload_n 0 dX2_keep_13 rfl rfl rfl ?_
  refine gf_X2_9_2 dX2_keep_14 rfl ?_
  refine r_aload_n 0 dX2_keep_17 rfl rfl rfl ?_
  refine gf_X2_28_2 dX2_keep_18 rfl ?_
  refine r_iload_n 1 dX2_keep_21 rfl rfl rfl ?_
  obtain ⟨σ2, e1, h⟩ := bd h
  refine r_callS (As := [.ref (xq X 14), .int (sI σ 6), .int x1]) (rest := []) (T_X6_set_14 e1) (by decide) mf_X6_set rfl tw_400 tw_399 rfl (Nat.le_of_ble_eq_true rfl) dX2_keep_22 rfl ?_
  refine r_calln ?_
  refine r_aload_n 0 dX2_keep_25 rfl rfl rfl ?_
  refine gf_X2_15_2 dX2_keep_26 rfl ?_
  refine r_aload_n 0 dX2_keep_29 rfl rfl rfl ?_
  refine gf_X2_28_2 dX2_keep_30 rfl ?_
  refine r_iload_n 2 dX2_keep_33 rfl rfl rfl ?_
  obtain ⟨σ4, e3, h⟩ := bd h
  refine r_callS (As := [.ref (xq X 15), .int (sI σ2 6), .int x2]) (rest := []) (T_X6_set_15 e3) (by decide) mf_X6_set rfl tw_400 tw_399 rfl (Nat.le_of_ble_eq_true rfl) dX2_keep_34 rfl ?_
  refine r_calln ?_
  refine r_aload_n 0 dX2_keep_37 rfl rfl rfl ?_
  refine gf_X2_18_2 dX2_keep_38 rfl ?_
  refine r_aload_n 0 dX2_keep_41 rfl rfl rfl ?_
  refine gf_X2_28_2 dX2_keep_42 rfl ?_
  refine r_iload_n 3 dX2_keep_45 rfl rfl rfl ?_
  obtain ⟨σ6, e5, h⟩ := bd h
  refine r_callS (As := [.ref (xq X 16), .int (sI σ4 6), .int x3]) (rest := []) (T_X6_set_16 e5) (by decide) mf_X6_set rfl tw_400 tw_399 rfl (Nat.le_of_ble_eq_true rfl) dX2_keep_46 rfl ?_
  refine r_calln ?_
  refine r_aload_n 0 dX2_keep_49 rfl rfl rfl ?_
  refine gf_X2_21_2 dX2_keep_50 rfl ?_
  refine r_aload_n 0 dX2_keep_53 rfl rfl rfl ?_
  refine gf_X2_28_2 dX2_keep_54 rfl ?_
  refine r_iload 4 dX2_keep_57 rfl rfl ?_
  obtain ⟨σ8, e7, h⟩ := bd h
  refine r_callS (As := [.ref (xq X 17), .int (sI σ6 6), .int x4]) (rest := []) (T_X6_set_17 e7) (by decide) mf_X6_set rfl tw_400 tw_399 rfl (Nat.le_of_ble_eq_true rfl) dX2_keep_59 rfl ?_
  refine r_calln ?_
  refine r_aload_n 0 dX2_keep_62 rfl rfl rfl ?_
  refine r_dup rfl dX2_keep_63 rfl ?_
  refine gf_X2_28_2 dX2_keep_64 rfl ?_
  refine ric_1 dX2_keep_67 rfl ?_
  refine r_iadd dX2_keep_68 rfl ?_
  refine pf_X2_28_2 dX2_keep_69 rfl ?_
  exact r_vretS dX2_keep_72 h
def P_X2_keep (a1 : Int32) (a2 : Int32) (a3 : Int32) (a4 : Int32) (σ : SS) : Option SS :=
  if (sI σ 6) < 8 then
    P_X2_keep_j13 a1 a2 a3 a4 σ
  else
    (P_X2_forgetOldest σ).bind fun σ3 =>
    P_X2_keep_j13 a1 a2 a3 a4 σ3
set_option maxHeartbeats 4000000 in
set_option maxRecDepth 100000 in
theorem T_X2_keep {X : XE} {σf : SS} {σ : SS} {a1 : Int32} {a2 : Int32} {a3 : Int32} {a4 : Int32} (h : P_X2_keep a1 a2 a3 a4 σ = some σf) : Mt (gX X) 1 yX2_keep cX2_keep 5 none [.ref (xq X 2), .int a1, .int a2, .int a3, .int a4] σ none σf := by
  refine Mt.of (own := RX2) (lv := [(0, .ref (xq X 2)), (1, .int a1), (2, .int a2), (3, .int a3), (4, .int a4)]) pn_X2 rfl (Nat.le_of_ble_eq_true rfl) rfl ?_
  unfold P_X2_keep at h
  refine r_aload_n 0 dX2_keep_0 rfl rfl rfl ?_
  refine gf_X2_28_2 dX2_keep_1 rfl ?_
  refine r_bipush (v := 8) dX2_keep_4 (by decide) rfl ?_
  refine r_icmp_lt (t := 13) dX2_keep_6 (by decide) rfl (fun c1 => ?_) (fun c1 => ?_)
  · have h := it_t c1 h
    exact T_X2_keep_j13 a1 a2 a3 a4 σ h
  · have h := it_f c1 h
    refine r_aload_n 0 dX2_keep_9 rfl rfl rfl ?_
    obtain ⟨σ3, e2, h⟩ := bd h
    refine r_callV (rest := []) (T_X2_forgetOldest e2) (by decide) mf_X2_forgetOldest rfl tw_397 tw_0 tw_395 cX_2 rfl rfl rfl (Nat.le_of_ble_eq_true rfl) dX2_keep_10 rfl ?_
    refine r_calln ?_
    exact T_X2_keep_j13 a1 a2 a3 a4 σ3 h
def P_X6_set_11 (a1 : Int32) (a2 : Int32) (σ : SS) : Option SS :=
  if a1 < 0 then
    some σ
  else
    if 16 ≤ a1 then
      some σ
    else
      gI a1 16 <|
      some (stA σ 0 a1 a2)
set_option maxHeartbeats 4000000 in
set_option maxRecDepth 100000 in
theorem T_X6_set_11 {X : XE} {σf : SS} {σ : SS} {a1 : Int32} {a2 : Int32} (h : P_X6_set_11 a1 a2 σ = some σf) : Mt (gX X) 0 yX6_set cX6_set 3 none [.ref (xq X 11), .int a1, .int a2] σ none σf := by
  refine Mt.of (own := RX6) (lv := [(0, .ref (xq X 11)), (1, .int a1), (2, .int a2)]) pn_X6 rfl (Nat.le_of_ble_eq_true rfl) rfl ?_
  unfold P_X6_set_11 at h
  refine r_iload_n 1 dX6_set_0 rfl rfl rfl ?_
  refine r_if_lt (t := 14) dX6_set_1 (by decide) rfl (fun c1 => ?_) (fun c1 => ?_)
  · have h := it_t c1 h
    exact r_vretS dX6_set_14 h
  · have h := it_f c1 h
    refine r_iload_n 1 dX6_set_4 rfl rfl rfl ?_
    refine r_aload_n 0 dX6_set_5 rfl rfl rfl ?_
    refine anX_11 dX6_set_6 rfl ?_
    refine r_icmp_ge (t := 14) dX6_set_7 (by decide) rfl (fun c2 => ?_) (fun c2 => ?_)
    · have h := it_t c2 h
      exact r_vretS dX6_set_14 h
    · have h := it_f c2 h
      refine r_aload_n 0 dX6_set_10 rfl rfl rfl ?_
      refine r_iload_n 1 dX6_set_11 rfl rfl rfl ?_
      refine r_iload_n 2 dX6_set_12 rfl rfl rfl ?_
      obtain ⟨hi3, h⟩ := gi h
      refine asX_11 hi3 dX6_set_13 rfl ?_
      exact r_vretS dX6_set_14 h
def P_X6_set_12 (a1 : Int32) (a2 : Int32) (σ : SS) : Option SS :=
  if a1 < 0 then
    some σ
  else
    if 16 ≤ a1 then
      some σ
    else
      gI a1 16 <|
      some (stA σ 1 a1 a2)
set_option maxHeartbeats 4000000 in
set_option maxRecDepth 100000 in
theorem T_X6_set_12 {X : XE} {σf : SS} {σ : SS} {a1 : Int32} {a2 : Int32} (h : P_X6_set_12 a1 a2 σ = some σf) : Mt (gX X) 0 yX6_set cX6_set 3 none [.ref (xq X 12), .int a1, .int a2] σ none σf := by
  refine Mt.of (own := RX6) (lv := [(0, .ref (xq X 12)), (1, .int a1), (2, .int a2)]) pn_X6 rfl (Nat.le_of_ble_eq_true rfl) rfl ?_
  unfold P_X6_set_12 at h
  refine r_iload_n 1 dX6_set_0 rfl rfl rfl ?_
  refine r_if_lt (t := 14) dX6_set_1 (by decide) rfl (fun c1 => ?_) (fun c1 => ?_)
  · have h := it_t c1 h
    exact r_vretS dX6_set_14 h
  · have h := it_f c1 h
    refine r_iload_n 1 dX6_set_4 rfl rfl rfl ?_
    refine r_aload_n 0 dX6_set_5 rfl rfl rfl ?_
    refine anX_12 dX6_set_6 rfl ?_
    refine r_icmp_ge (t := 14) dX6_set_7 (by decide) rfl (fun c2 => ?_) (fun c2 => ?_)
    · have h := it_t c2 h
      exact r_vretS dX6_set_14 h
    · have h := it_f c2 h
      refine r_aload_n 0 dX6_set_10 rfl rfl rfl ?_
      refine r_iload_n 1 dX6_set_11 rfl rfl rfl ?_
      refine r_iload_n 2 dX6_set_12 rfl rfl rfl ?_
      obtain ⟨hi3, h⟩ := gi h
      refine asX_12 hi3 dX6_set_13 rfl ?_
      exact r_vretS dX6_set_14 h
def P_X6_set_13 (a1 : Int32) (a2 : Int32) (σ : SS) : Option SS :=
  if a1 < 0 then
    some σ
  else
    if 16 ≤ a1 then
      some σ
    else
      gI a1 16 <|
      some (stA σ 2 a1 a2)
set_option maxHeartbeats 4000000 in
set_option maxRecDepth 100000 in
theorem T_X6_set_13 {X : XE} {σf : SS} {σ : SS} {a1 : Int32} {a2 : Int32} (h : P_X6_set_13 a1 a2 σ = some σf) : Mt (gX X) 0 yX6_set cX6_set 3 none [.ref (xq X 13), .int a1, .int a2] σ none σf := by
  refine Mt.of (own := RX6) (lv := [(0, .ref (xq X 13)), (1, .int a1), (2, .int a2)]) pn_X6 rfl (Nat.le_of_ble_eq_true rfl) rfl ?_
  unfold P_X6_set_13 at h
  refine r_iload_n 1 dX6_set_0 rfl rfl rfl ?_
  refine r_if_lt (t := 14) dX6_set_1 (by decide) rfl (fun c1 => ?_) (fun c1 => ?_)
  · have h := it_t c1 h
    exact r_vretS dX6_set_14 h
  · have h := it_f c1 h
    refine r_iload_n 1 dX6_set_4 rfl rfl rfl ?_
    refine r_aload_n 0 dX6_set_5 rfl rfl rfl ?_
    refine anX_13 dX6_set_6 rfl ?_
    refine r_icmp_ge (t := 14) dX6_set_7 (by decide) rfl (fun c2 => ?_) (fun c2 => ?_)
    · have h := it_t c2 h
      exact r_vretS dX6_set_14 h
    · have h := it_f c2 h
      refine r_aload_n 0 dX6_set_10 rfl rfl rfl ?_
      refine r_iload_n 1 dX6_set_11 rfl rfl rfl ?_
      refine r_iload_n 2 dX6_set_12 rfl rfl rfl ?_
      obtain ⟨hi3, h⟩ := gi h
      refine asX_13 hi3 dX6_set_13 rfl ?_
      exact r_vretS dX6_set_14 h
def P_X1_change (a1 : Int32) (a2 : Int32) (a3 : Int32) (a4 : Int32) (σ : SS) : Option SS :=
  (P_X6_set_11 a1 a2 σ).bind fun σ2 =>
  (P_X6_set_12 a1 a3 σ2).bind fun σ4 =>
  (P_X6_set_13 a1 a4 σ4).bind fun σ6 =>
  some σ6
set_option maxHeartbeats 4000000 in
set_option maxRecDepth 100000 in
theorem T_X1_change {X : XE} {σf : SS} {σ : SS} {a1 : Int32} {a2 : Int32} {a3 : Int32} {a4 : Int32} (h : P_X1_change a1 a2 a3 a4 σ = some σf) : Mt (gX X) 1 yX1_change cX1_change 5 none [.ref (xq X 1), .int a1, .int a2, .int a3, .int a4] σ none σf := by
  refine Mt.of (own := RX1) (lv := [(0, .ref (xq X 1)), (1, .int a1), (2, .int a2), (3, .int a3), (4, .int a4)]) pn_X1 rfl (Nat.le_of_ble_eq_true rfl) rfl ?_
  unfold P_X1_change at h
  refine r_aload_n 0 dX1_change_0 rfl rfl rfl ?_
  refine gf_X1_9_1 dX1_change_1 rfl ?_
  refine r_iload_n 1 dX1_change_4 rfl rfl rfl ?_
  refine r_iload_n 2 dX1_change_5 rfl rfl rfl ?_
  obtain ⟨σ2, e1, h⟩ := bd h
  refine r_callS (As := [.ref (xq X 11), .int a1, .int a2]) (rest := []) (T_X6_set_11 e1) (by decide) mf_X6_set rfl tw_400 tw_410 rfl (Nat.le_of_ble_eq_true rfl) dX1_change_6 rfl ?_
  refine r_calln ?_
  refine r_aload_n 0 dX1_change_9 rfl rfl rfl ?_
  refine gf_X1_15_1 dX1_change_10 rfl ?_
  refine r_iload_n 1 dX1_change_13 rfl rfl rfl ?_
  refine r_iload_n 3 dX1_change_14 rfl rfl rfl ?_
  obtain ⟨σ4, e3, h⟩ := bd h
  refine r_callS (As := [.ref (xq X 12), .int a1, .int a3]) (rest := []) (T_X6_set_12 e3) (by decide) mf_X6_set rfl tw_400 tw_410 rfl (Nat.le_of_ble_eq_true rfl) dX1_change_15 rfl ?_
  refine r_calln ?_
  refine r_aload_n 0 dX1_change_18 rfl rfl rfl ?_
  refine gf_X1_18_1 dX1_change_19 rfl ?_
  refine r_iload_n 1 dX1_change_22 rfl rfl rfl ?_
  refine r_iload 4 dX1_change_23 rfl rfl ?_
  obtain ⟨σ6, e5, h⟩ := bd h
  refine r_callS (As := [.ref (xq X 13), .int a1, .int a4]) (rest := []) (T_X6_set_13 e5) (by decide) mf_X6_set rfl tw_400 tw_410 rfl (Nat.le_of_ble_eq_true rfl) dX1_change_25 rfl ?_
  refine r_calln ?_
  exact r_vretS dX1_change_28 h
def P_X1_add (a1 : Int32) (a2 : Int32) (a3 : Int32) (σ : SS) : Option SS :=
  if 16 ≤ (sI σ 5) then
    some σ
  else
    (P_X1_change ((sI (uI σ 5 ((sI σ 5) + 1)) 5) - 1) a1 a2 a3 (uI σ 5 ((sI σ 5) + 1))).bind fun σ3 =>
    some σ3
set_option maxHeartbeats 4000000 in
set_option maxRecDepth 100000 in
theorem T_X1_add {X : XE} {σf : SS} {σ : SS} {a1 : Int32} {a2 : Int32} {a3 : Int32} (h : P_X1_add a1 a2 a3 σ = some σf) : Mt (gX X) 2 yX1_add cX1_add 4 none [.ref (xq X 1), .int a1, .int a2, .int a3] σ none σf := by
  refine Mt.of (own := RX1) (lv := [(0, .ref (xq X 1)), (1, .int a1), (2, .int a2), (3, .int a3)]) pn_X1 rfl (Nat.le_of_ble_eq_true rfl) rfl ?_
  unfold P_X1_add at h
  refine r_aload_n 0 dX1_add_0 rfl rfl rfl ?_
  refine gf_X1_21_1 dX1_add_1 rfl ?_
  refine r_bipush (v := 16) dX1_add_4 (by decide) rfl ?_
  refine r_icmp_ge (t := 32) dX1_add_6 (by decide) rfl (fun c1 => ?_) (fun c1 => ?_)
  · have h := it_t c1 h
    exact r_vretS dX1_add_32 h
  · have h := it_f c1 h
    refine r_aload_n 0 dX1_add_9 rfl rfl rfl ?_
    refine r_dup rfl dX1_add_10 rfl ?_
    refine gf_X1_21_1 dX1_add_11 rfl ?_
    refine ric_1 dX1_add_14 rfl ?_
    refine r_iadd dX1_add_15 rfl ?_
    refine pf_X1_21_1 dX1_add_16 rfl ?_
    refine r_aload_n 0 dX1_add_19 rfl rfl rfl ?_
    refine r_aload_n 0 dX1_add_20 rfl rfl rfl ?_
    refine gf_X1_21_1 dX1_add_21 rfl ?_
    refine ric_1 dX1_add_24 rfl ?_
    refine r_isub dX1_add_25 rfl ?_
    refine r_iload_n 1 dX1_add_26 rfl rfl rfl ?_
    refine r_iload_n 2 dX1_add_27 rfl rfl rfl ?_
    refine r_iload_n 3 dX1_add_28 rfl rfl rfl ?_
    obtain ⟨σ3, e2, h⟩ := bd h
    refine r_callV (rest := []) (T_X1_change e2) (by decide) mf_X1_change rfl tw_407 tw_408 tw_406 cX_1 rfl rfl rfl (Nat.le_of_ble_eq_true rfl) dX1_add_29 rfl ?_
    refine r_calln ?_
    exact r_vretS dX1_add_32 h
def P_X10_shape (a1 : Int32) (a2 : Int32) (a3 : Int32) (σ : SS) : Option (Int64 × SS) :=
  (P_X10_fits a1 a2 a3).bind fun v2 =>
  if ¬ v2 = 0 then
    (P_X1_size σ).bind fun v5 =>
    if v5 < 16 then
      (P_X1_size σ).bind fun v8 =>
      (P_X2_keep v8 (-1) 0 0 σ).bind fun σ10 =>
      (P_X1_add a1 a2 a3 σ10).bind fun σ12 =>
      some (v8.toInt64, (uI σ12 0 0))
    else
      some ((-2000000003), σ)
  else
    some ((-2000000001), σ)
set_option maxHeartbeats 4000000 in
set_option maxRecDepth 100000 in
theorem T_X10_shape {X : XE} {σf : SS} {r : Int64} {σ : SS} {a1 : Int32} {a2 : Int32} {a3 : Int32} (h : P_X10_shape a1 a2 a3 σ = some (r, σf)) : Mt (gX X) 3 yX10_shape cX10_shape 5 (some .long) [.ref (xq X 0), .int a1, .int a2, .int a3] σ (some (.long r)) σf := by
  refine Mt.of (own := RX10) (lv := [(0, .ref (xq X 0)), (1, .int a1), (2, .int a2), (3, .int a3)]) pn_X10 rfl (Nat.le_of_ble_eq_true rfl) rfl ?_
  unfold P_X10_shape at h
  refine r_iload_n 1 dX10_shape_0 rfl rfl rfl ?_
  refine r_iload_n 2 dX10_shape_1 rfl rfl rfl ?_
  refine r_iload_n 3 dX10_shape_2 rfl rfl rfl ?_
  obtain ⟨v2, e1, h⟩ := bd h
  refine r_callS (As := [.int a1, .int a2, .int a3]) (rest := []) (T_X10_fits e1) (by decide) mf_X10_fits rfl tw_380 tw_379 rfl (Nat.le_of_ble_eq_true rfl) dX10_shape_3 rfl ?_
  refine r_call0 ?_
  refine r_if_ne (t := 13) dX10_shape_6 (by decide) rfl (fun c3 => ?_) (fun c3 => ?_)
  · have h := it_t c3 h
    refine r_aload_n 0 dX10_shape_13 rfl rfl rfl ?_
    refine gf_X10_12_0 dX10_shape_14 rfl ?_
    obtain ⟨v5, e4, h⟩ := bd h
    refine r_callV (rest := []) (T_X1_size e4) (by decide) mf_X1_size rfl tw_387 tw_388 tw_386 cX_1 rfl rfl rfl (Nat.le_of_ble_eq_true rfl) dX10_shape_17 rfl ?_
    refine r_call0 ?_
    refine r_bipush (v := 16) dX10_shape_20 (by decide) rfl ?_
    refine r_icmp_lt (t := 29) dX10_shape_22 (by decide) rfl (fun c6 => ?_) (fun c6 => ?_)
    · have h := it_t c6 h
      refine r_aload_n 0 dX10_shape_29 rfl rfl rfl ?_
      refine gf_X10_12_0 dX10_shape_30 rfl ?_
      obtain ⟨v8, e7, h⟩ := bd h
      refine r_callV (rest := []) (T_X1_size e7) (by decide) mf_X1_size rfl tw_387 tw_388 tw_386 cX_1 rfl rfl rfl (Nat.le_of_ble_eq_true rfl) dX10_shape_33 rfl ?_
      refine r_call0 ?_
      refine r_istore (lv' := [(4, .int v8), (0, .ref (xq X 0)), (1, .int a1), (2, .int a2), (3, .int a3)]) dX10_shape_36 (by decide) rfl rfl ?_
      refine r_aload_n 1 dX10_shape_38 rfl rfl rfl ?_
      refine gf_X10_21_0 dX10_shape_39 rfl ?_
      refine r_iload 0 dX10_shape_42 rfl rfl ?_
      refine ric_m1 dX10_shape_44 rfl ?_
      refine ric_0 dX10_shape_45 rfl ?_
      refine ric_0 dX10_shape_46 rfl ?_
      obtain ⟨σ10, e9, h⟩ := bd h
      refine r_callV (rest := []) (T_X2_keep e9) (by decide) mf_X2_keep rfl tw_392 tw_393 tw_391 cX_2 rfl rfl rfl (Nat.le_of_ble_eq_true rfl) dX10_shape_47 rfl ?_
      refine r_calln ?_
      refine r_aload_n 1 dX10_shape_50 rfl rfl rfl ?_
      refine gf_X10_12_0 dX10_shape_51 rfl ?_
      refine r_iload_n 2 dX10_shape_54 rfl rfl rfl ?_
      refine r_iload_n 3 dX10_shape_55 rfl rfl rfl ?_
      refine r_iload_n 4 dX10_shape_56 rfl rfl rfl ?_
      obtain ⟨σ12, e11, h⟩ := bd h
      refine r_callV (rest := []) (T_X1_add e11) (by decide) mf_X1_add rfl tw_403 tw_404 tw_402 cX_1 rfl rfl rfl (Nat.le_of_ble_eq_true rfl) dX10_shape_57 rfl ?_
      refine r_calln ?_
      refine r_aload_n 1 dX10_shape_60 rfl rfl rfl ?_
      refine ric_0 dX10_shape_61 rfl ?_
      refine pf_X10_98_0 (Or.inl rfl) dX10_shape_62 rfl ?_
      refine r_iload 0 dX10_shape_65 rfl rfl ?_
      refine r_i2l dX10_shape_67 rfl ?_
      exact r_lretQ dX10_shape_68 h
    · have h := it_f c6 h
      refine r_ldc2 (v := (-2000000003)) tw_390 dX10_shape_25 rfl ?_
      exact r_lretQ dX10_shape_28 h
  · have h := it_n c3 h
    refine r_ldc2 (v := (-2000000001)) tw_385 dX10_shape_9 rfl ?_
    exact r_lretQ dX10_shape_12 h
