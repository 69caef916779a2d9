set_option maxHeartbeats 8000000 in
set_option maxRecDepth 100000 in
theorem law_loop {Inv : SS → SS → Prop} (hI : StepsOK Inv) {X Y : XE} {p : Program} {l : Launch} {e : Env} {s : State} {m : MethodId} {below : List Frame} {meth : Method} {c : Code} {b L : Nat} {xs : Nat → Int32} (hL : L ≤ 3072) (hlx : xl X = l) (hly : xl Y = l) (C0 : lw_At p s m meth c b L xs) :
    ∀ (k i : Nat) (σx σm : SS), i ≤ L + 6 → L + 7 ≤ i + k → Inv σx σm → VL X Y p l e s m b below meth c 18 [(3, .int (nI i)), (0, .ref b), (1, .ref (xq X 0)), (2, .ref (xq Y 0))] [] σx σm := by
  obtain ⟨hx, hb, hr, hml, hown, hts0, hX, hbl, hlocks, hgv⟩ := C0
  have hts : ∀ w ∈ lw_g, w.before #[Value.ref b] s = true := fun w hw => hts0 w (List.mem_filter.mp hw).1
  have hbA : ¬ (fun q : Nat => s.heap.size ≤ q) b := Nat.not_le.mpr hbl
  intro k
  induction k with
  | zero => intro i σx σm h1 h2; omega
  | succ k ih =>
    intro i σx σm hi hk hInv
    refine vl_lift (n := 19) (st' := [.int (nI i)]) (fun H locs ls hS h k => lv_iload_n hx hb dL_law_18 rfl (lv_at h 0 rfl) k) ?_
    refine vl_lift (n := 20) (st' := [.ref b, .int (nI i)]) (fun H locs ls hS h k => lv_aload_n hx hb dL_law_19 rfl (lv_at h 1 rfl) k) ?_
    refine vl_lift (n := 21) (st' := [.int (Int32.ofNat L), .int (nI i)]) (fun H locs ls hS h k => va_slen hx hb hX hbl hbA hS dL_law_20 k) ?_
    refine vl_lift (n := 23) (st' := [.int 6, .int (Int32.ofNat L), .int (nI i)]) (fun H locs ls hS h k => lv_bipush (v := 6) hx hb dL_law_21 (by decide) k) ?_
    refine vl_lift (n := 24) (st' := [.int ((Int32.ofNat L) - 6), .int (nI i)]) (fun H locs ls hS h k => lv_isub hx hb dL_law_23 k) ?_
    intro H locs ls hW h
    refine lv_icmp_gt (tgt := 662) hx hb dL_law_24 (by decide) (fun c0 => ?_) (fun c0 => ?_)
    · refine lv_iconst (v := 1) hx hb dL_law_662 (by decide) ?_
      refine va_forget (fun q hq => hW.2.2.2.2.1.2.2 q hq) ?_
      refine W.widen (k := 600000) (n := 7302250) (Nat.le_of_ble_eq_true rfl) (Nat.le_of_ble_eq_true rfl) ?_
      exact lw_ret hx hb hr hlocks dL_law_663
    · have hgo : i + 6 ≤ L := scr_go hL hi c0
      have hin0 : vp_in (nI i) L := vp_in_nI (by omega) (by omega)
      revert H locs ls
      show VL X Y p l e s m b below meth c 27 [(3, .int (nI i)), (0, .ref b), (1, .ref (xq X 0)), (2, .ref (xq Y 0))] [] σx σm
      have hnext : ∀ σx1 σm1 : SS, Inv σx1 σm1 → VL X Y p l e s m b below meth c 656 [(3, .int (nI i)), (0, .ref b), (1, .ref (xq X 0)), (2, .ref (xq Y 0))] [] σx1 σm1 := by
        intro σx1 σm1 hInv1 H locs ls hW h
        refine lv_iinc (v := nI (i + 6)) (lv' := [(3, .int (nI (i + 6))), (0, .ref b), (1, .ref (xq X 0)), (2, .ref (xq Y 0))]) hx hb dL_law_656 h (k := 0) rfl (by rw [← nI_add]; rfl) (by decide) rfl (fun ls h => ?_)
        refine lv_goto (tgt := 18) hx hb dL_law_659 (by decide) ?_
        exact ih (i + 6) σx1 σm1 (by omega) (by omega) hInv1 H locs ls hW h
      refine vl_lift (n := 28) (st' := [.ref b]) (fun H locs ls hS h k => lv_aload_n hx hb dL_law_27 rfl (lv_at h 1 rfl) k) ?_
      refine vl_lift (n := 29) (st' := [.int (nI i), .ref b]) (fun H locs ls hS h k => lv_iload_n hx hb dL_law_28 rfl (lv_at h 0 rfl) k) ?_
      refine vl_lift (n := 30) (st' := [.int (xs ((nI i)).toNatClampNeg)]) (fun H locs ls hS h k => va_sld hx hb hX hbl hbA hS hin0 dL_law_29 k) ?_
      refine vl_lift (n := 32) (st' := [.int 15, .int (xs ((nI i)).toNatClampNeg)]) (fun H locs ls hS h k => lv_bipush (v := 15) hx hb dL_law_30 (by decide) k) ?_
      refine vl_lift (n := 33) (st' := [.int ((xs ((nI i)).toNatClampNeg) &&& 15)]) (fun H locs ls hS h k => lv_iand hx hb dL_law_32 k) ?_
      by_cases c1 : ((xs ((nI i)).toNatClampNeg) &&& 15) = 0
      · refine vl_lift (n := 112) (st' := []) (fun H locs ls hS h k => lv_tableIn (tgt := 112) hx hb dL_law_33 (by rw [c1]; decide) (by rw [c1]; decide) (by rw [c1]; rfl) (by decide) k) ?_
        refine vl_lift (n := 113) (st' := [.ref (xq X 0)]) (fun H locs ls hS h k => lv_aload_n hx hb dL_law_112 rfl (lv_at h 2 rfl) k) ?_
        refine vl_lift (n := 114) (st' := [.ref b, .ref (xq X 0)]) (fun H locs ls hS h k => lv_aload_n hx hb dL_law_113 rfl (lv_at h 1 rfl) k) ?_
        refine vl_lift (n := 115) (st' := [.int (nI i), .ref b, .ref (xq X 0)]) (fun H locs ls hS h k => lv_iload_n hx hb dL_law_114 rfl (lv_at h 0 rfl) k) ?_
        refine vl_lift (n := 116) (st' := [.int 1, .int (nI i), .ref b, .ref (xq X 0)]) (fun H locs ls hS h k => lv_iconst (v := 1) hx hb dL_law_115 (by decide) k) ?_
        refine vl_lift (n := 117) (st' := [.int ((nI i) + 1), .ref b, .ref (xq X 0)]) (fun H locs ls hS h k => lv_iadd hx hb dL_law_116 k) ?_
        refine vl_lift (n := 118) (st' := [.int (xs (((nI i) + 1)).toNatClampNeg), .ref (xq X 0)]) (fun H locs ls hS h k => va_sld hx hb hX hbl hbA hS (scr_in 1 hgo hL (by decide)) dL_law_117 k) ?_
        refine vl_lift (n := 119) (st' := [.ref b, .int (xs (((nI i) + 1)).toNatClampNeg), .ref (xq X 0)]) (fun H locs ls hS h k => lv_aload_n hx hb dL_law_118 rfl (lv_at h 1 rfl) k) ?_
        refine vl_lift (n := 120) (st' := [.int (nI i), .ref b, .int (xs (((nI i) + 1)).toNatClampNeg), .ref (xq X 0)]) (fun H locs ls hS h k => lv_iload_n hx hb dL_law_119 rfl (lv_at h 0 rfl) k) ?_
        refine vl_lift (n := 121) (st' := [.int 2, .int (nI i), .ref b, .int (xs (((nI i) + 1)).toNatClampNeg), .ref (xq X 0)]) (fun H locs ls hS h k => lv_iconst (v := 2) hx hb dL_law_120 (by decide) k) ?_
        refine vl_lift (n := 122) (st' := [.int ((nI i) + 2), .ref b, .int (xs (((nI i) + 1)).toNatClampNeg), .ref (xq X 0)]) (fun H locs ls hS h k => lv_iadd hx hb dL_law_121 k) ?_
        refine vl_lift (n := 123) (st' := [.int (xs (((nI i) + 2)).toNatClampNeg), .int (xs (((nI i) + 1)).toNatClampNeg), .ref (xq X 0)]) (fun H locs ls hS h k => va_sld hx hb hX hbl hbA hS (scr_in 2 hgo hL (by decide)) dL_law_122 k) ?_
        refine vl_lift (n := 124) (st' := [.ref b, .int (xs (((nI i) + 2)).toNatClampNeg), .int (xs (((nI i) + 1)).toNatClampNeg), .ref (xq X 0)]) (fun H locs ls hS h k => lv_aload_n hx hb dL_law_123 rfl (lv_at h 1 rfl) k) ?_
        refine vl_lift (n := 125) (st' := [.int (nI i), .ref b, .int (xs (((nI i) + 2)).toNatClampNeg), .int (xs (((nI i) + 1)).toNatClampNeg), .ref (xq X 0)]) (fun H locs ls hS h k => lv_iload_n hx hb dL_law_124 rfl (lv_at h 0 rfl) k) ?_
        refine vl_lift (n := 126) (st' := [.int 3, .int (nI i), .ref b, .int (xs (((nI i) + 2)).toNatClampNeg), .int (xs (((nI i) + 1)).toNatClampNeg), .ref (xq X 0)]) (fun H locs ls hS h k => lv_iconst (v := 3) hx hb dL_law_125 (by decide) k) ?_
        refine vl_lift (n := 127) (st' := [.int ((nI i) + 3), .ref b, .int (xs (((nI i) + 2)).toNatClampNeg), .int (xs (((nI i) + 1)).toNatClampNeg), .ref (xq X 0)]) (fun H locs ls hS h k => lv_iadd hx hb dL_law_126 k) ?_
        refine vl_lift (n := 128) (st' := [.int (xs (((nI i) + 3)).toNatClampNeg), .int (xs (((nI i) + 2)).toNatClampNeg), .int (xs (((nI i) + 1)).toNatClampNeg), .ref (xq X 0)]) (fun H locs ls hS h k => va_sld hx hb hX hbl hbA hS (scr_in 3 hgo hL (by decide)) dL_law_127 k) ?_
        obtain ⟨r, σx1, σm1, ex, em, hInv1⟩ := hI.1 σx σm (xs (((nI i) + 1)).toNatClampNeg) (xs (((nI i) + 2)).toNatClampNeg) (xs (((nI i) + 3)).toNatClampNeg) hInv
        refine vl_callX (n := 131) (As := [.int (xs (((nI i) + 1)).toNatClampNeg), .int (xs (((nI i) + 2)).toNatClampNeg), .int (xs (((nI i) + 3)).toNatClampNeg)]) (rest := []) hlx hx hb hml hown hts (T_X10_shape ex) (Nat.le_of_ble_eq_true rfl) mf_X10_shape rfl tw_376 tw_377 tw_375 rfl rfl (Nat.le_of_ble_eq_true rfl) dL_law_128 rfl ?_
        refine vl_lift (n := 132) (st' := [.ref (xq Y 0), .long r]) (fun H locs ls hS h k => lv_aload_n hx hb dL_law_131 rfl (lv_at h 3 rfl) k) ?_
        refine vl_lift (n := 133) (st' := [.ref b, .ref (xq Y 0), .long r]) (fun H locs ls hS h k => lv_aload_n hx hb dL_law_132 rfl (lv_at h 1 rfl) k) ?_
        refine vl_lift (n := 134) (st' := [.int (nI i), .ref b, .ref (xq Y 0), .long r]) (fun H locs ls hS h k => lv_iload_n hx hb dL_law_133 rfl (lv_at h 0 rfl) k) ?_
        refine vl_lift (n := 135) (st' := [.int 1, .int (nI i), .ref b, .ref (xq Y 0), .long r]) (fun H locs ls hS h k => lv_iconst (v := 1) hx hb dL_law_134 (by decide) k) ?_
        refine vl_lift (n := 136) (st' := [.int ((nI i) + 1), .ref b, .ref (xq Y 0), .long r]) (fun H locs ls hS h k => lv_iadd hx hb dL_law_135 k) ?_
        refine vl_lift (n := 137) (st' := [.int (xs (((nI i) + 1)).toNatClampNeg), .ref (xq Y 0), .long r]) (fun H locs ls hS h k => va_sld hx hb hX hbl hbA hS (scr_in 1 hgo hL (by decide)) dL_law_136 k) ?_
        refine vl_lift (n := 138) (st' := [.ref b, .int (xs (((nI i) + 1)).toNatClampNeg), .ref (xq Y 0), .long r]) (fun H locs ls hS h k => lv_aload_n hx hb dL_law_137 rfl (lv_at h 1 rfl) k) ?_
        refine vl_lift (n := 139) (st' := [.int (nI i), .ref b, .int (xs (((nI i) + 1)).toNatClampNeg), .ref (xq Y 0), .long r]) (fun H locs ls hS h k => lv_iload_n hx hb dL_law_138 rfl (lv_at h 0 rfl) k) ?_
        refine vl_lift (n := 140) (st' := [.int 2, .int (nI i), .ref b, .int (xs (((nI i) + 1)).toNatClampNeg), .ref (xq Y 0), .long r]) (fun H locs ls hS h k => lv_iconst (v := 2) hx hb dL_law_139 (by decide) k) ?_
        refine vl_lift (n := 141) (st' := [.int ((nI i) + 2), .ref b, .int (xs (((nI i) + 1)).toNatClampNeg), .ref (xq Y 0), .long r]) (fun H locs ls hS h k => lv_iadd hx hb dL_law_140 k) ?_
        refine vl_lift (n := 142) (st' := [.int (xs (((nI i) + 2)).toNatClampNeg), .int (xs (((nI i) + 1)).toNatClampNeg), .ref (xq Y 0), .long r]) (fun H locs ls hS h k => va_sld hx hb hX hbl hbA hS (scr_in 2 hgo hL (by decide)) dL_law_141 k) ?_
        refine vl_lift (n := 143) (st' := [.ref b, .int (xs (((nI i) + 2)).toNatClampNeg), .int (xs (((nI i) + 1)).toNatClampNeg), .ref (xq Y 0), .long r]) (fun H locs ls hS h k => lv_aload_n hx hb dL_law_142 rfl (lv_at h 1 rfl) k) ?_
        refine vl_lift (n := 144) (st' := [.int (nI i), .ref b, .int (xs (((nI i) + 2)).toNatClampNeg), .int (xs (((nI i) + 1)).toNatClampNeg), .ref (xq Y 0), .long r]) (fun H locs ls hS h k => lv_iload_n hx hb dL_law_143 rfl (lv_at h 0 rfl) k) ?_
        refine vl_lift (n := 145) (st' := [.int 3, .int (nI i), .ref b, .int (xs (((nI i) + 2)).toNatClampNeg), .int (xs (((nI i) + 1)).toNatClampNeg), .ref (xq Y 0), .long r]) (fun H locs ls hS h k => lv_iconst (v := 3) hx hb dL_law_144 (by decide) k) ?_
        refine vl_lift (n := 146) (st' := [.int ((nI i) + 3), .ref b, .int (xs (((nI i) + 2)).toNatClampNeg), .int (xs (((nI i) + 1)).toNatClampNeg), .ref (xq Y 0), .long r]) (fun H locs ls hS h k => lv_iadd hx hb dL_law_145 k) ?_
        refine vl_lift (n := 147) (st' := [.int (xs (((nI i) + 3)).toNatClampNeg), .int (xs (((nI i) + 2)).toNatClampNeg), .int (xs (((nI i) + 1)).toNatClampNeg), .ref (xq Y 0), .long r]) (fun H locs ls hS h k => va_sld hx hb hX hbl hbA hS (scr_in 3 hgo hL (by decide)) dL_law_146 k) ?_
        refine vl_callM (n := 150) (As := [.int (xs (((nI i) + 1)).toNatClampNeg), .int (xs (((nI i) + 2)).toNatClampNeg), .int (xs (((nI i) + 3)).toNatClampNeg)]) (rest := [.long r]) hly hx hb hml hown hts (T_X11_shape em) (Nat.le_of_ble_eq_true rfl) mf_X11_shape rfl tw_1047 tw_1048 tw_1046 rfl rfl (Nat.le_of_ble_eq_true rfl) dL_law_147 rfl ?_
        refine vl_same (t := 656) hx hb dL_law_150 rfl dL_law_151 (by decide) ?_
        exact hnext σx1 σm1 hInv1
      by_cases c2 : ((xs ((nI i)).toNatClampNeg) &&& 15) = 1
      · refine vl_lift (n := 156) (st' := []) (fun H locs ls hS h k => lv_tableIn (tgt := 156) hx hb dL_law_33 (by rw [c2]; decide) (by rw [c2]; decide) (by rw [c2]; rfl) (by decide) k) ?_
        refine vl_lift (n := 157) (st' := [.ref (xq X 0)]) (fun H locs ls hS h k => lv_aload_n hx hb dL_law_156 rfl (lv_at h 2 rfl) k) ?_
        refine vl_lift (n := 158) (st' := [.ref b, .ref (xq X 0)]) (fun H locs ls hS h k => lv_aload_n hx hb dL_law_157 rfl (lv_at h 1 rfl) k) ?_
        refine vl_lift (n := 159) (st' := [.int (nI i), .ref b, .ref (xq X 0)]) (fun H locs ls hS h k => lv_iload_n hx hb dL_law_158 rfl (lv_at h 0 rfl) k) ?_
        refine vl_lift (n := 160) (st' := [.int 1, .int (nI i), .ref b, .ref (xq X 0)]) (fun H locs ls hS h k => lv_iconst (v := 1) hx hb dL_law_159 (by decide) k) ?_
        refine vl_lift (n := 161) (st' := [.int ((nI i) + 1), .ref b, .ref (xq X 0)]) (fun H locs ls hS h k => lv_iadd hx hb dL_law_160 k) ?_
        refine vl_lift (n := 162) (st' := [.int (xs (((nI i) + 1)).toNatClampNeg), .ref (xq X 0)]) (fun H locs ls hS h k => va_sld hx hb hX hbl hbA hS (scr_in 1 hgo hL (by decide)) dL_law_161 k) ?_
        refine vl_lift (n := 163) (st' := [.ref b, .int (xs (((nI i) + 1)).toNatClampNeg), .ref (xq X 0)]) (fun H locs ls hS h k => lv_aload_n hx hb dL_law_162 rfl (lv_at h 1 rfl) k) ?_
        refine vl_lift (n := 164) (st' := [.int (nI i), .ref b, .int (xs (((nI i) + 1)).toNatClampNeg), .ref (xq X 0)]) (fun H locs ls hS h k => lv_iload_n hx hb dL_law_163 rfl (lv_at h 0 rfl) k) ?_
        refine vl_lift (n := 165) (st' := [.int 2, .int (nI i), .ref b, .int (xs (((nI i) + 1)).toNatClampNeg), .ref (xq X 0)]) (fun H locs ls hS h k => lv_iconst (v := 2) hx hb dL_law_164 (by decide) k) ?_
        refine vl_lift (n := 166) (st' := [.int ((nI i) + 2), .ref b, .int (xs (((nI i) + 1)).toNatClampNeg), .ref (xq X 0)]) (fun H locs ls hS h k => lv_iadd hx hb dL_law_165 k) ?_
        refine vl_lift (n := 167) (st' := [.int (xs (((nI i) + 2)).toNatClampNeg), .int (xs (((nI i) + 1)).toNatClampNeg), .ref (xq X 0)]) (fun H locs ls hS h k => va_sld hx hb hX hbl hbA hS (scr_in 2 hgo hL (by decide)) dL_law_166 k) ?_
        refine vl_lift (n := 168) (st' := [.ref b, .int (xs (((nI i) + 2)).toNatClampNeg), .int (xs (((nI i) + 1)).toNatClampNeg), .ref (xq X 0)]) (fun H locs ls hS h k => lv_aload_n hx hb dL_law_167 rfl (lv_at h 1 rfl) k) ?_
        refine vl_lift (n := 169) (st' := [.int (nI i), .ref b, .int (xs (((nI i) + 2)).toNatClampNeg), .int (xs (((nI i) + 1)).toNatClampNeg), .ref (xq X 0)]) (fun H locs ls hS h k => lv_iload_n hx hb dL_law_168 rfl (lv_at h 0 rfl) k) ?_
        refine vl_lift (n := 170) (st' := [.int 3, .int (nI i), .ref b, .int (xs (((nI i) + 2)).toNatClampNeg), .int (xs (((nI i) + 1)).toNatClampNeg), .ref (xq X 0)]) (fun H locs ls hS h k => lv_iconst (v := 3) hx hb dL_law_169 (by decide) k) ?_
        refine vl_lift (n := 171) (st' := [.int ((nI i) + 3), .ref b, .int (xs (((nI i) + 2)).toNatClampNeg), .int (xs (((nI i) + 1)).toNatClampNeg), .ref (xq X 0)]) (fun H locs ls hS h k => lv_iadd hx hb dL_law_170 k) ?_
        refine vl_lift (n := 172) (st' := [.int (xs (((nI i) + 3)).toNatClampNeg), .int (xs (((nI i) + 2)).toNatClampNeg), .int (xs (((nI i) + 1)).toNatClampNeg), .ref (xq X 0)]) (fun H locs ls hS h k => va_sld hx hb hX hbl hbA hS (scr_in 3 hgo hL (by decide)) dL_law_171 k) ?_
        refine vl_lift (n := 173) (st' := [.ref b, .int (xs (((nI i) + 3)).toNatClampNeg), .int (xs (((nI i) + 2)).toNatClampNeg), .int (xs (((nI i) + 1)).toNatClampNeg), .ref (xq X 0)]) (fun H locs ls hS h k => lv_aload_n hx hb dL_law_172 rfl (lv_at h 1 rfl) k) ?_
        refine vl_lift (n := 174) (st' := [.int (nI i), .ref b, .int (xs (((nI i) + 3)).toNatClampNeg), .int (xs (((nI i) + 2)).toNatClampNeg), .int (xs (((nI i) + 1)).toNatClampNeg), .ref (xq X 0)]) (fun H locs ls hS h k => lv_iload_n hx hb dL_law_173 rfl (lv_at h 0 rfl) k) ?_
        refine vl_lift (n := 175) (st' := [.int 4, .int (nI i), .ref b, .int (xs (((nI i) + 3)).toNatClampNeg), .int (xs (((nI i) + 2)).toNatClampNeg), .int (xs (((nI i) + 1)).toNatClampNeg), .ref (xq X 0)]) (fun H locs ls hS h k => lv_iconst (v := 4) hx hb dL_law_174 (by decide) k) ?_
        refine vl_lift (n := 176) (st' := [.int ((nI i) + 4), .ref b, .int (xs (((nI i) + 3)).toNatClampNeg), .int (xs (((nI i) + 2)).toNatClampNeg), .int (xs (((nI i) + 1)).toNatClampNeg), .ref (xq X 0)]) (fun H locs ls hS h k => lv_iadd hx hb dL_law_175 k) ?_
        refine vl_lift (n := 177) (st' := [.int (xs (((nI i) + 4)).toNatClampNeg), .int (xs (((nI i) + 3)).toNatClampNeg), .int (xs (((nI i) + 2)).toNatClampNeg), .int (xs (((nI i) + 1)).toNatClampNeg), .ref (xq X 0)]) (fun H locs ls hS h k => va_sld hx hb hX hbl hbA hS (scr_in 4 hgo hL (by decide)) dL_law_176 k) ?_
        obtain ⟨r, σx1, σm1, ex, em, hInv1⟩ := hI.2.1 σx σm (xs (((nI i) + 1)).toNatClampNeg) (xs (((nI i) + 2)).toNatClampNeg) (xs (((nI i) + 3)).toNatClampNeg) (xs (((nI i) + 4)).toNatClampNeg) hInv
        refine vl_callX (n := 180) (As := [.int (xs (((nI i) + 1)).toNatClampNeg), .int (xs (((nI i) + 2)).toNatClampNeg), .int (xs (((nI i) + 3)).toNatClampNeg), .int (xs (((nI i) + 4)).toNatClampNeg)]) (rest := []) hlx hx hb hml hown hts (T_X10_put ex) (Nat.le_of_ble_eq_true rfl) mf_X10_put rfl tw_412 tw_413 tw_411 rfl rfl (Nat.le_of_ble_eq_true rfl) dL_law_177 rfl ?_
        refine vl_lift (n := 181) (st' := [.ref (xq Y 0), .long r]) (fun H locs ls hS h k => lv_aload_n hx hb dL_law_180 rfl (lv_at h 3 rfl) k) ?_
        refine vl_lift (n := 182) (st' := [.ref b, .ref (xq Y 0), .long r]) (fun H locs ls hS h k => lv_aload_n hx hb dL_law_181 rfl (lv_at h 1 rfl) k) ?_
        refine vl_lift (n := 183) (st' := [.int (nI i), .ref b, .ref (xq Y 0), .long r]) (fun H locs ls hS h k => lv_iload_n hx hb dL_law_182 rfl (lv_at h 0 rfl) k) ?_
        refine vl_lift (n := 184) (st' := [.int 1, .int (nI i), .ref b, .ref (xq Y 0), .long r]) (fun H locs ls hS h k => lv_iconst (v := 1) hx hb dL_law_183 (by decide) k) ?_
        refine vl_lift (n := 185) (st' := [.int ((nI i) + 1), .ref b, .ref (xq Y 0), .long r]) (fun H locs ls hS h k => lv_iadd hx hb dL_law_184 k) ?_
        refine vl_lift (n := 186) (st' := [.int (xs (((nI i) + 1)).toNatClampNeg), .ref (xq Y 0), .long r]) (fun H locs ls hS h k => va_sld hx hb hX hbl hbA hS (scr_in 1 hgo hL (by decide)) dL_law_185 k) ?_
        refine vl_lift (n := 187) (st' := [.ref b, .int (xs (((nI i) + 1)).toNatClampNeg), .ref (xq Y 0), .long r]) (fun H locs ls hS h k => lv_aload_n hx hb dL_law_186 rfl (lv_at h 1 rfl) k) ?_
        refine vl_lift (n := 188) (st' := [.int (nI i), .ref b, .int (xs (((nI i) + 1)).toNatClampNeg), .ref (xq Y 0), .long r]) (fun H locs ls hS h k => lv_iload_n hx hb dL_law_187 rfl (lv_at h 0 rfl) k) ?_
        refine vl_lift (n := 189) (st' := [.int 2, .int (nI i), .ref b, .int (xs (((nI i) + 1)).toNatClampNeg), .ref (xq Y 0), .long r]) (fun H locs ls hS h k => lv_iconst (v := 2) hx hb dL_law_188 (by decide) k) ?_
        refine vl_lift (n := 190) (st' := [.int ((nI i) + 2), .ref b, .int (xs (((nI i) + 1)).toNatClampNeg), .ref (xq Y 0), .long r]) (fun H locs ls hS h k => lv_iadd hx hb dL_law_189 k) ?_
        refine vl_lift (n := 191) (st' := [.int (xs (((nI i) + 2)).toNatClampNeg), .int (xs (((nI i) + 1)).toNatClampNeg), .ref (xq Y 0), .long r]) (fun H locs ls hS h k => va_sld hx hb hX hbl hbA hS (scr_in 2 hgo hL (by decide)) dL_law_190 k) ?_
        refine vl_lift (n := 192) (st' := [.ref b, .int (xs (((nI i) + 2)).toNatClampNeg), .int (xs (((nI i) + 1)).toNatClampNeg), .ref (xq Y 0), .long r]) (fun H locs ls hS h k => lv_aload_n hx hb dL_law_191 rfl (lv_at h 1 rfl) k) ?_
        refine vl_lift (n := 193) (st' := [.int (nI i), .ref b, .int (xs (((nI i) + 2)).toNatClampNeg), .int (xs (((nI i) + 1)).toNatClampNeg), .ref (xq Y 0), .long r]) (fun H locs ls hS h k => lv_iload_n hx hb dL_law_192 rfl (lv_at h 0 rfl) k) ?_
        refine vl_lift (n := 194) (st' := [.int 3, .int (nI i), .ref b, .int (xs (((nI i) + 2)).toNatClampNeg), .int (xs (((nI i) + 1)).toNatClampNeg), .ref (xq Y 0), .long r]) (fun H locs ls hS h k => lv_iconst (v := 3) hx hb dL_law_193 (by decide) k) ?_
        refine vl_lift (n := 195) (st' := [.int ((nI i) + 3), .ref b, .int (xs (((nI i) + 2)).toNatClampNeg), .int (xs (((nI i) + 1)).toNatClampNeg), .ref (xq Y 0), .long r]) (fun H locs ls hS h k => lv_iadd hx hb dL_law_194 k) ?_
        refine vl_lift (n := 196) (st' := [.int (xs (((nI i) + 3)).toNatClampNeg), .int (xs (((nI i) + 2)).toNatClampNeg), .int (xs (((nI i) + 1)).toNatClampNeg), .ref (xq Y 0), .long r]) (fun H locs ls hS h k => va_sld hx hb hX hbl hbA hS (scr_in 3 hgo hL (by decide)) dL_law_195 k) ?_
        refine vl_lift (n := 197) (st' := [.ref b, .int (xs (((nI i) + 3)).toNatClampNeg), .int (xs (((nI i) + 2)).toNatClampNeg), .int (xs (((nI i) + 1)).toNatClampNeg), .ref (xq Y 0), .long r]) (fun H locs ls hS h k => lv_aload_n hx hb dL_law_196 rfl (lv_at h 1 rfl) k) ?_
        refine vl_lift (n := 198) (st' := [.int (nI i), .ref b, .int (xs (((nI i) + 3)).toNatClampNeg), .int (xs (((nI i) + 2)).toNatClampNeg), .int (xs (((nI i) + 1)).toNatClampNeg), .ref (xq Y 0), .long r]) (fun H locs ls hS h k => lv_iload_n hx hb dL_law_197 rfl (lv_at h 0 rfl) k) ?_
        refine vl_lift (n := 199) (st' := [.int 4, .int (nI i), .ref b, .int (xs (((nI i) + 3)).toNatClampNeg), .int (xs (((nI i) + 2)).toNatClampNeg), .int (xs (((nI i) + 1)).toNatClampNeg), .ref (xq Y 0), .long r]) (fun H locs ls hS h k => lv_iconst (v := 4) hx hb dL_law_198 (by decide) k) ?_
        refine vl_lift (n := 200) (st' := [.int ((nI i) + 4), .ref b, .int (xs (((nI i) + 3)).toNatClampNeg), .int (xs (((nI i) + 2)).toNatClampNeg), .int (xs (((nI i) + 1)).toNatClampNeg), .ref (xq Y 0), .long r]) (fun H locs ls hS h k => lv_iadd hx hb dL_law_199 k) ?_
        refine vl_lift (n := 201) (st' := [.int (xs (((nI i) + 4)).toNatClampNeg), .int (xs (((nI i) + 3)).toNatClampNeg), .int (xs (((nI i) + 2)).toNatClampNeg), .int (xs (((nI i) + 1)).toNatClampNeg), .ref (xq Y 0), .long r]) (fun H locs ls hS h k => va_sld hx hb hX hbl hbA hS (scr_in 4 hgo hL (by decide)) dL_law_200 k) ?_
        refine vl_callM (n := 204) (As := [.int (xs (((nI i) + 1)).toNatClampNeg), .int (xs (((nI i) + 2)).toNatClampNeg), .int (xs (((nI i) + 3)).toNatClampNeg), .int (xs (((nI i) + 4)).toNatClampNeg)]) (rest := [.long r]) hly hx hb hml hown hts (T_X11_put em) (Nat.le_of_ble_eq_true rfl) mf_X11_put rfl tw_1071 tw_1072 tw_1070 rfl rfl (Nat.le_of_ble_eq_true rfl) dL_law_201 rfl ?_
        refine vl_same (t := 656) hx hb dL_law_204 rfl dL_law_205 (by decide) ?_
        exact hnext σx1 σm1 hInv1
      by_cases c3 : ((xs ((nI i)).toNatClampNeg) &&& 15) = 2
      · refine vl_lift (n := 210) (st' := []) (fun H locs ls hS h k => lv_tableIn (tgt := 210) hx hb dL_law_33 (by rw [c3]; decide) (by rw [c3]; decide) (by rw [c3]; rfl) (by decide) k) ?_
        refine vl_lift (n := 211) (st' := [.ref (xq X 0)]) (fun H locs ls hS h k => lv_aload_n hx hb dL_law_210 rfl (lv_at h 2 rfl) k) ?_
        obtain ⟨r, σx1, σm1, ex, em, hInv1⟩ := hI.2.2.1 σx σm  hInv
        refine vl_callX (n := 214) (As := []) (rest := []) hlx hx hb hml hown hts (T_X10_undo ex) (Nat.le_of_ble_eq_true rfl) mf_X10_undo rfl tw_433 tw_434 tw_432 rfl rfl (Nat.le_of_ble_eq_true rfl) dL_law_211 rfl ?_
        refine vl_lift (n := 215) (st' := [.ref (xq Y 0), .long r]) (fun H locs ls hS h k => lv_aload_n hx hb dL_law_214 rfl (lv_at h 3 rfl) k) ?_
        refine vl_callM (n := 218) (As := []) (rest := [.long r]) hly hx hb hml hown hts (T_X11_undo em) (Nat.le_of_ble_eq_true rfl) mf_X11_undo rfl tw_1079 tw_1080 tw_1078 rfl rfl (Nat.le_of_ble_eq_true rfl) dL_law_215 rfl ?_
        refine vl_same (t := 656) hx hb dL_law_218 rfl dL_law_219 (by decide) ?_
        exact hnext σx1 σm1 hInv1
      by_cases c4 : ((xs ((nI i)).toNatClampNeg) &&& 15) = 3
      · refine vl_lift (n := 224) (st' := []) (fun H locs ls hS h k => lv_tableIn (tgt := 224) hx hb dL_law_33 (by rw [c4]; decide) (by rw [c4]; decide) (by rw [c4]; rfl) (by decide) k) ?_
        refine vl_lift (n := 225) (st' := [.ref (xq X 0)]) (fun H locs ls hS h k => lv_aload_n hx hb dL_law_224 rfl (lv_at h 2 rfl) k) ?_
        refine vl_lift (n := 226) (st' := [.ref b, .ref (xq X 0)]) (fun H locs ls hS h k => lv_aload_n hx hb dL_law_225 rfl (lv_at h 1 rfl) k) ?_
        refine vl_lift (n := 227) (st' := [.int (nI i), .ref b, .ref (xq X 0)]) (fun H locs ls hS h k => lv_iload_n hx hb dL_law_226 rfl (lv_at h 0 rfl) k) ?_
        refine vl_lift (n := 228) (st' := [.int 1, .int (nI i), .ref b, .ref (xq X 0)]) (fun H locs ls hS h k => lv_iconst (v := 1) hx hb dL_law_227 (by decide) k) ?_
        refine vl_lift (n := 229) (st' := [.int ((nI i) + 1), .ref b, .ref (xq X 0)]) (fun H locs ls hS h k => lv_iadd hx hb dL_law_228 k) ?_
        refine vl_lift (n := 230) (st' := [.int (xs (((nI i) + 1)).toNatClampNeg), .ref (xq X 0)]) (fun H locs ls hS h k => va_sld hx hb hX hbl hbA hS (scr_in 1 hgo hL (by decide)) dL_law_229 k) ?_
        refine vl_lift (n := 231) (st' := [.ref b, .int (xs (((nI i) + 1)).toNatClampNeg), .ref (xq X 0)]) (fun H locs ls hS h k => lv_aload_n hx hb dL_law_230 rfl (lv_at h 1 rfl) k) ?_
        refine vl_lift (n := 232) (st' := [.int (nI i), .ref b, .int (xs (((nI i) + 1)).toNatClampNeg), .ref (xq X 0)]) (fun H locs ls hS h k => lv_iload_n hx hb dL_law_231 rfl (lv_at h 0 rfl) k) ?_
        refine vl_lift (n := 233) (st' := [.int 2, .int (nI i), .ref b, .int (xs (((nI i) + 1)).toNatClampNeg), .ref (xq X 0)]) (fun H locs ls hS h k => lv_iconst (v := 2) hx hb dL_law_232 (by decide) k) ?_
        refine vl_lift (n := 234) (st' := [.int ((nI i) + 2), .ref b, .int (xs (((nI i) + 1)).toNatClampNeg), .ref (xq X 0)]) (fun H locs ls hS h k => lv_iadd hx hb dL_law_233 k) ?_
        refine vl_lift (n := 235) (st' := [.int (xs (((nI i) + 2)).toNatClampNeg), .int (xs (((nI i) + 1)).toNatClampNeg), .ref (xq X 0)]) (fun H locs ls hS h k => va_sld hx hb hX hbl hbA hS (scr_in 2 hgo hL (by decide)) dL_law_234 k) ?_
        obtain ⟨r, ex, em⟩ := hI.2.2.2.1 σx σm (xs (((nI i) + 1)).toNatClampNeg) (xs (((nI i) + 2)).toNatClampNeg) hInv
        refine vl_callX (n := 238) (As := [.int (xs (((nI i) + 1)).toNatClampNeg), .int (xs (((nI i) + 2)).toNatClampNeg)]) (rest := []) hlx hx hb hml hown hts (T_X10_about ex) (Nat.le_of_ble_eq_true rfl) mf_X10_about rfl tw_454 tw_455 tw_453 rfl rfl (Nat.le_of_ble_eq_true rfl) dL_law_235 rfl ?_
        refine vl_lift (n := 239) (st' := [.ref (xq Y 0), .long r]) (fun H locs ls hS h k => lv_aload_n hx hb dL_law_238 rfl (lv_at h 3 rfl) k) ?_
        refine vl_lift (n := 240) (st' := [.ref b, .ref (xq Y 0), .long r]) (fun H locs ls hS h k => lv_aload_n hx hb dL_law_239 rfl (lv_at h 1 rfl) k) ?_
        refine vl_lift (n := 241) (st' := [.int (nI i), .ref b, .ref (xq Y 0), .long r]) (fun H locs ls hS h k => lv_iload_n hx hb dL_law_240 rfl (lv_at h 0 rfl) k) ?_
        refine vl_lift (n := 242) (st' := [.int 1, .int (nI i), .ref b, .ref (xq Y 0), .long r]) (fun H locs ls hS h k => lv_iconst (v := 1) hx hb dL_law_241 (by decide) k) ?_
        refine vl_lift (n := 243) (st' := [.int ((nI i) + 1), .ref b, .ref (xq Y 0), .long r]) (fun H locs ls hS h k => lv_iadd hx hb dL_law_242 k) ?_
        refine vl_lift (n := 244) (st' := [.int (xs (((nI i) + 1)).toNatClampNeg), .ref (xq Y 0), .long r]) (fun H locs ls hS h k => va_sld hx hb hX hbl hbA hS (scr_in 1 hgo hL (by decide)) dL_law_243 k) ?_
        refine vl_lift (n := 245) (st' := [.ref b, .int (xs (((nI i) + 1)).toNatClampNeg), .ref (xq Y 0), .long r]) (fun H locs ls hS h k => lv_aload_n hx hb dL_law_244 rfl (lv_at h 1 rfl) k) ?_
        refine vl_lift (n := 246) (st' := [.int (nI i), .ref b, .int (xs (((nI i) + 1)).toNatClampNeg), .ref (xq Y 0), .long r]) (fun H locs ls hS h k => lv_iload_n hx hb dL_law_245 rfl (lv_at h 0 rfl) k) ?_
        refine vl_lift (n := 247) (st' := [.int 2, .int (nI i), .ref b, .int (xs (((nI i) + 1)).toNatClampNeg), .ref (xq Y 0), .long r]) (fun H locs ls hS h k => lv_iconst (v := 2) hx hb dL_law_246 (by decide) k) ?_
        refine vl_lift (n := 248) (st' := [.int ((nI i) + 2), .ref b, .int (xs (((nI i) + 1)).toNatClampNeg), .ref (xq Y 0), .long r]) (fun H locs ls hS h k => lv_iadd hx hb dL_law_247 k) ?_
        refine vl_lift (n := 249) (st' := [.int (xs (((nI i) + 2)).toNatClampNeg), .int (xs (((nI i) + 1)).toNatClampNeg), .ref (xq Y 0), .long r]) (fun H locs ls hS h k => va_sld hx hb hX hbl hbA hS (scr_in 2 hgo hL (by decide)) dL_law_248 k) ?_
        refine vl_callM (n := 252) (As := [.int (xs (((nI i) + 1)).toNatClampNeg), .int (xs (((nI i) + 2)).toNatClampNeg)]) (rest := [.long r]) hly hx hb hml hown hts (T_X11_about em) (Nat.le_of_ble_eq_true rfl) mf_X11_about rfl tw_1084 tw_1085 tw_1083 rfl rfl (Nat.le_of_ble_eq_true rfl) dL_law_249 rfl ?_
        refine vl_same (t := 656) hx hb dL_law_252 rfl dL_law_253 (by decide) ?_
        exact hnext σx σm hInv
      by_cases c5 : ((xs ((nI i)).toNatClampNeg) &&& 15) = 4
      · refine vl_lift (n := 258) (st' := []) (fun H locs ls hS h k => lv_tableIn (tgt := 258) hx hb dL_law_33 (by rw [c5]; decide) (by rw [c5]; decide) (by rw [c5]; rfl) (by decide) k) ?_
        refine vl_lift (n := 259) (st' := [.ref (xq X 0)]) (fun H locs ls hS h k => lv_aload_n hx hb dL_law_258 rfl (lv_at h 2 rfl) k) ?_
        obtain ⟨r, σx1, σm1, ex, em, hInv1⟩ := hI.2.2.2.2.1 σx σm  hInv
        refine vl_callX (n := 262) (As := []) (rest := []) hlx hx hb hml hown hts (T_X10_ready ex) (Nat.le_of_ble_eq_true rfl) mf_X10_ready rfl tw_458 tw_459 tw_457 rfl rfl (Nat.le_of_ble_eq_true rfl) dL_law_259 rfl ?_
        refine vl_lift (n := 263) (st' := [.ref (xq Y 0), .long r]) (fun H locs ls hS h k => lv_aload_n hx hb dL_law_262 rfl (lv_at h 3 rfl) k) ?_
        refine vl_callM (n := 266) (As := []) (rest := [.long r]) hly hx hb hml hown hts (T_X11_ready em) (Nat.le_of_ble_eq_true rfl) mf_X11_ready rfl tw_1089 tw_1090 tw_1088 rfl rfl (Nat.le_of_ble_eq_true rfl) dL_law_263 rfl ?_
        refine vl_same (t := 656) hx hb dL_law_266 rfl dL_law_267 (by decide) ?_
        exact hnext σx1 σm1 hInv1
      by_cases c6 : ((xs ((nI i)).toNatClampNeg) &&& 15) = 5
      · refine vl_lift (n := 272) (st' := []) (fun H locs ls hS h k => lv_tableIn (tgt := 272) hx hb dL_law_33 (by rw [c6]; decide) (by rw [c6]; decide) (by rw [c6]; rfl) (by decide) k) ?_
        refine vl_lift (n := 273) (st' := [.ref (xq X 0)]) (fun H locs ls hS h k => lv_aload_n hx hb dL_law_272 rfl (lv_at h 2 rfl) k) ?_
        refine vl_lift (n := 274) (st' := [.ref b, .ref (xq X 0)]) (fun H locs ls hS h k => lv_aload_n hx hb dL_law_273 rfl (lv_at h 1 rfl) k) ?_
        refine vl_lift (n := 275) (st' := [.int (nI i), .ref b, .ref (xq X 0)]) (fun H locs ls hS h k => lv_iload_n hx hb dL_law_274 rfl (lv_at h 0 rfl) k) ?_
        refine vl_lift (n := 276) (st' := [.int 1, .int (nI i), .ref b, .ref (xq X 0)]) (fun H locs ls hS h k => lv_iconst (v := 1) hx hb dL_law_275 (by decide) k) ?_
        refine vl_lift (n := 277) (st' := [.int ((nI i) + 1), .ref b, .ref (xq X 0)]) (fun H locs ls hS h k => lv_iadd hx hb dL_law_276 k) ?_
        refine vl_lift (n := 278) (st' := [.int (xs (((nI i) + 1)).toNatClampNeg), .ref (xq X 0)]) (fun H locs ls hS h k => va_sld hx hb hX hbl hbA hS (scr_in 1 hgo hL (by decide)) dL_law_277 k) ?_
        refine vl_lift (n := 279) (st' := [.ref b, .int (xs (((nI i) + 1)).toNatClampNeg), .ref (xq X 0)]) (fun H locs ls hS h k => lv_aload_n hx hb dL_law_278 rfl (lv_at h 1 rfl) k) ?_
        refine vl_lift (n := 280) (st' := [.int (nI i), .ref b, .int (xs (((nI i) + 1)).toNatClampNeg), .ref (xq X 0)]) (fun H locs ls hS h k => lv_iload_n hx hb dL_law_279 rfl (lv_at h 0 rfl) k) ?_
        refine vl_lift (n := 281) (st' := [.int 2, .int (nI i), .ref b, .int (xs (((nI i) + 1)).toNatClampNeg), .ref (xq X 0)]) (fun H locs ls hS h k => lv_iconst (v := 2) hx hb dL_law_280 (by decide) k) ?_
        refine vl_lift (n := 282) (st' := [.int ((nI i) + 2), .ref b, .int (xs (((nI i) + 1)).toNatClampNeg), .ref (xq X 0)]) (fun H locs ls hS h k => lv_iadd hx hb dL_law_281 k) ?_
        refine vl_lift (n := 283) (st' := [.int (xs (((nI i) + 2)).toNatClampNeg), .int (xs (((nI i) + 1)).toNatClampNeg), .ref (xq X 0)]) (fun H locs ls hS h k => va_sld hx hb hX hbl hbA hS (scr_in 2 hgo hL (by decide)) dL_law_282 k) ?_
        obtain ⟨r, ex, em⟩ := hI.2.2.2.2.2.1 σx σm (xs (((nI i) + 1)).toNatClampNeg) (xs (((nI i) + 2)).toNatClampNeg) hInv
        refine vl_callX (n := 286) (As := [.int (xs (((nI i) + 1)).toNatClampNeg), .int (xs (((nI i) + 2)).toNatClampNeg)]) (rest := []) hlx hx hb hml hown hts (T_X10_count ex) (Nat.le_of_ble_eq_true rfl) mf_X10_count rfl tw_595 tw_596 tw_594 rfl rfl (Nat.le_of_ble_eq_true rfl) dL_law_283 rfl ?_
        refine vl_lift (n := 287) (st' := [.ref (xq Y 0), .long r]) (fun H locs ls hS h k => lv_aload_n hx hb dL_law_286 rfl (lv_at h 3 rfl) k) ?_
        refine vl_lift (n := 288) (st' := [.ref b, .ref (xq Y 0), .long r]) (fun H locs ls hS h k => lv_aload_n hx hb dL_law_287 rfl (lv_at h 1 rfl) k) ?_
        refine vl_lift (n := 289) (st' := [.int (nI i), .ref b, .ref (xq Y 0), .long r]) (fun H locs ls hS h k => lv_iload_n hx hb dL_law_288 rfl (lv_at h 0 rfl) k) ?_
        refine vl_lift (n := 290) (st' := [.int 1, .int (nI i), .ref b, .ref (xq Y 0), .long r]) (fun H locs ls hS h k => lv_iconst (v := 1) hx hb dL_law_289 (by decide) k) ?_
        refine vl_lift (n := 291) (st' := [.int ((nI i) + 1), .ref b, .ref (xq Y 0), .long r]) (fun H locs ls hS h k => lv_iadd hx hb dL_law_290 k) ?_
        refine vl_lift (n := 292) (st' := [.int (xs (((nI i) + 1)).toNatClampNeg), .ref (xq Y 0), .long r]) (fun H locs ls hS h k => va_sld hx hb hX hbl hbA hS (scr_in 1 hgo hL (by decide)) dL_law_291 k) ?_
        refine vl_lift (n := 293) (st' := [.ref b, .int (xs (((nI i) + 1)).toNatClampNeg), .ref (xq Y 0), .long r]) (fun H locs ls hS h k => lv_aload_n hx hb dL_law_292 rfl (lv_at h 1 rfl) k) ?_
        refine vl_lift (n := 294) (st' := [.int (nI i), .ref b, .int (xs (((nI i) + 1)).toNatClampNeg), .ref (xq Y 0), .long r]) (fun H locs ls hS h k => lv_iload_n hx hb dL_law_293 rfl (lv_at h 0 rfl) k) ?_
        refine vl_lift (n := 295) (st' := [.int 2, .int (nI i), .ref b, .int (xs (((nI i) + 1)).toNatClampNeg), .ref (xq Y 0), .long r]) (fun H locs ls hS h k => lv_iconst (v := 2) hx hb dL_law_294 (by decide) k) ?_
        refine vl_lift (n := 296) (st' := [.int ((nI i) + 2), .ref b, .int (xs (((nI i) + 1)).toNatClampNeg), .ref (xq Y 0), .long r]) (fun H locs ls hS h k => lv_iadd hx hb dL_law_295 k) ?_
        refine vl_lift (n := 297) (st' := [.int (xs (((nI i) + 2)).toNatClampNeg), .int (xs (((nI i) + 1)).toNatClampNeg), .ref (xq Y 0), .long r]) (fun H locs ls hS h k => va_sld hx hb hX hbl hbA hS (scr_in 2 hgo hL (by decide)) dL_law_296 k) ?_
        refine vl_callM (n := 300) (As := [.int (xs (((nI i) + 1)).toNatClampNeg), .int (xs (((nI i) + 2)).toNatClampNeg)]) (rest := [.long r]) hly hx hb hml hown hts (T_X11_count em) (Nat.le_of_ble_eq_true rfl) mf_X11_count rfl tw_1181 tw_1182 tw_1180 rfl rfl (Nat.le_of_ble_eq_true rfl) dL_law_297 rfl ?_
        refine vl_same (t := 656) hx hb dL_law_300 rfl dL_law_301 (by decide) ?_
        exact hnext σx σm hInv
      by_cases c7 : ((xs ((nI i)).toNatClampNeg) &&& 15) = 6
      · refine vl_lift (n := 306) (st' := []) (fun H locs ls hS h k => lv_tableIn (tgt := 306) hx hb dL_law_33 (by rw [c7]; decide) (by rw [c7]; decide) (by rw [c7]; rfl) (by decide) k) ?_
        refine vl_lift (n := 307) (st' := [.ref (xq X 0)]) (fun H locs ls hS h k => lv_aload_n hx hb dL_law_306 rfl (lv_at h 2 rfl) k) ?_
        refine vl_lift (n := 308) (st' := [.ref b, .ref (xq X 0)]) (fun H locs ls hS h k => lv_aload_n hx hb dL_law_307 rfl (lv_at h 1 rfl) k) ?_
        refine vl_lift (n := 309) (st' := [.int (nI i), .ref b, .ref (xq X 0)]) (fun H locs ls hS h k => lv_iload_n hx hb dL_law_308 rfl (lv_at h 0 rfl) k) ?_
        refine vl_lift (n := 310) (st' := [.int 1, .int (nI i), .ref b, .ref (xq X 0)]) (fun H locs ls hS h k => lv_iconst (v := 1) hx hb dL_law_309 (by decide) k) ?_
        refine vl_lift (n := 311) (st' := [.int ((nI i) + 1), .ref b, .ref (xq X 0)]) (fun H locs ls hS h k => lv_iadd hx hb dL_law_310 k) ?_
        refine vl_lift (n := 312) (st' := [.int (xs (((nI i) + 1)).toNatClampNeg), .ref (xq X 0)]) (fun H locs ls hS h k => va_sld hx hb hX hbl hbA hS (scr_in 1 hgo hL (by decide)) dL_law_311 k) ?_
        refine vl_lift (n := 313) (st' := [.ref b, .int (xs (((nI i) + 1)).toNatClampNeg), .ref (xq X 0)]) (fun H locs ls hS h k => lv_aload_n hx hb dL_law_312 rfl (lv_at h 1 rfl) k) ?_
        refine vl_lift (n := 314) (st' := [.int (nI i), .ref b, .int (xs (((nI i) + 1)).toNatClampNeg), .ref (xq X 0)]) (fun H locs ls hS h k => lv_iload_n hx hb dL_law_313 rfl (lv_at h 0 rfl) k) ?_
        refine vl_lift (n := 315) (st' := [.int 2, .int (nI i), .ref b, .int (xs (((nI i) + 1)).toNatClampNeg), .ref (xq X 0)]) (fun H locs ls hS h k => lv_iconst (v := 2) hx hb dL_law_314 (by decide) k) ?_
        refine vl_lift (n := 316) (st' := [.int ((nI i) + 2), .ref b, .int (xs (((nI i) + 1)).toNatClampNeg), .ref (xq X 0)]) (fun H locs ls hS h k => lv_iadd hx hb dL_law_315 k) ?_
        refine vl_lift (n := 317) (st' := [.int (xs (((nI i) + 2)).toNatClampNeg), .int (xs (((nI i) + 1)).toNatClampNeg), .ref (xq X 0)]) (fun H locs ls hS h k => va_sld hx hb hX hbl hbA hS (scr_in 2 hgo hL (by decide)) dL_law_316 k) ?_
        obtain ⟨r, ex, em⟩ := hI.2.2.2.2.2.2.1 σx σm (xs (((nI i) + 1)).toNatClampNeg) (xs (((nI i) + 2)).toNatClampNeg) hInv
        refine vl_callX (n := 320) (As := [.int (xs (((nI i) + 1)).toNatClampNeg), .int (xs (((nI i) + 2)).toNatClampNeg)]) (rest := []) hlx hx hb hml hown hts (T_X10_upTo ex) (Nat.le_of_ble_eq_true rfl) mf_X10_upTo rfl tw_606 tw_607 tw_605 rfl rfl (Nat.le_of_ble_eq_true rfl) dL_law_317 rfl ?_
        refine vl_lift (n := 321) (st' := [.ref (xq Y 0), .long r]) (fun H locs ls hS h k => lv_aload_n hx hb dL_law_320 rfl (lv_at h 3 rfl) k) ?_
        refine vl_lift (n := 322) (st' := [.ref b, .ref (xq Y 0), .long r]) (fun H locs ls hS h k => lv_aload_n hx hb dL_law_321 rfl (lv_at h 1 rfl) k) ?_
        refine vl_lift (n := 323) (st' := [.int (nI i), .ref b, .ref (xq Y 0), .long r]) (fun H locs ls hS h k => lv_iload_n hx hb dL_law_322 rfl (lv_at h 0 rfl) k) ?_
        refine vl_lift (n := 324) (st' := [.int 1, .int (nI i), .ref b, .ref (xq Y 0), .long r]) (fun H locs ls hS h k => lv_iconst (v := 1) hx hb dL_law_323 (by decide) k) ?_
        refine vl_lift (n := 325) (st' := [.int ((nI i) + 1), .ref b, .ref (xq Y 0), .long r]) (fun H locs ls hS h k => lv_iadd hx hb dL_law_324 k) ?_
        refine vl_lift (n := 326) (st' := [.int (xs (((nI i) + 1)).toNatClampNeg), .ref (xq Y 0), .long r]) (fun H locs ls hS h k => va_sld hx hb hX hbl hbA hS (scr_in 1 hgo hL (by decide)) dL_law_325 k) ?_
        refine vl_lift (n := 327) (st' := [.ref b, .int (xs (((nI i) + 1)).toNatClampNeg), .ref (xq Y 0), .long r]) (fun H locs ls hS h k => lv_aload_n hx hb dL_law_326 rfl (lv_at h 1 rfl) k) ?_
        refine vl_lift (n := 328) (st' := [.int (nI i), .ref b, .int (xs (((nI i) + 1)).toNatClampNeg), .ref (xq Y 0), .long r]) (fun H locs ls hS h k => lv_iload_n hx hb dL_law_327 rfl (lv_at h 0 rfl) k) ?_
        refine vl_lift (n := 329) (st' := [.int 2, .int (nI i), .ref b, .int (xs (((nI i) + 1)).toNatClampNeg), .ref (xq Y 0), .long r]) (fun H locs ls hS h k => lv_iconst (v := 2) hx hb dL_law_328 (by decide) k) ?_
        refine vl_lift (n := 330) (st' := [.int ((nI i) + 2), .ref b, .int (xs (((nI i) + 1)).toNatClampNeg), .ref (xq Y 0), .long r]) (fun H locs ls hS h k => lv_iadd hx hb dL_law_329 k) ?_
        refine vl_lift (n := 331) (st' := [.int (xs (((nI i) + 2)).toNatClampNeg), .int (xs (((nI i) + 1)).toNatClampNeg), .ref (xq Y 0), .long r]) (fun H locs ls hS h k => va_sld hx hb hX hbl hbA hS (scr_in 2 hgo hL (by decide)) dL_law_330 k) ?_
        refine vl_callM (n := 334) (As := [.int (xs (((nI i) + 1)).toNatClampNeg), .int (xs (((nI i) + 2)).toNatClampNeg)]) (rest := [.long r]) hly hx hb hml hown hts (T_X11_upTo em) (Nat.le_of_ble_eq_true rfl) mf_X11_upTo rfl tw_1193 tw_1194 tw_1192 rfl rfl (Nat.le_of_ble_eq_true rfl) dL_law_331 rfl ?_
        refine vl_same (t := 656) hx hb dL_law_334 rfl dL_law_335 (by decide) ?_
        exact hnext σx σm hInv
      by_cases c8 : ((xs ((nI i)).toNatClampNeg) &&& 15) = 7
      · refine vl_lift (n := 340) (st' := []) (fun H locs ls hS h k => lv_tableIn (tgt := 340) hx hb dL_law_33 (by rw [c8]; decide) (by rw [c8]; decide) (by rw [c8]; rfl) (by decide) k) ?_
        refine vl_lift (n := 341) (st' := [.ref (xq X 0)]) (fun H locs ls hS h k => lv_aload_n hx hb dL_law_340 rfl (lv_at h 2 rfl) k) ?_
        refine vl_lift (n := 342) (st' := [.ref b, .ref (xq X 0)]) (fun H locs ls hS h k => lv_aload_n hx hb dL_law_341 rfl (lv_at h 1 rfl) k) ?_
        refine vl_lift (n := 343) (st' := [.int (nI i), .ref b, .ref (xq X 0)]) (fun H locs ls hS h k => lv_iload_n hx hb dL_law_342 rfl (lv_at h 0 rfl) k) ?_
        refine vl_lift (n := 344) (st' := [.int 1, .int (nI i), .ref b, .ref (xq X 0)]) (fun H locs ls hS h k => lv_iconst (v := 1) hx hb dL_law_343 (by decide) k) ?_
        refine vl_lift (n := 345) (st' := [.int ((nI i) + 1), .ref b, .ref (xq X 0)]) (fun H locs ls hS h k => lv_iadd hx hb dL_law_344 k) ?_
        refine vl_lift (n := 346) (st' := [.int (xs (((nI i) + 1)).toNatClampNeg), .ref (xq X 0)]) (fun H locs ls hS h k => va_sld hx hb hX hbl hbA hS (scr_in 1 hgo hL (by decide)) dL_law_345 k) ?_
        refine vl_lift (n := 347) (st' := [.ref b, .int (xs (((nI i) + 1)).toNatClampNeg), .ref (xq X 0)]) (fun H locs ls hS h k => lv_aload_n hx hb dL_law_346 rfl (lv_at h 1 rfl) k) ?_
        refine vl_lift (n := 348) (st' := [.int (nI i), .ref b, .int (xs (((nI i) + 1)).toNatClampNeg), .ref (xq X 0)]) (fun H locs ls hS h k => lv_iload_n hx hb dL_law_347 rfl (lv_at h 0 rfl) k) ?_
        refine vl_lift (n := 349) (st' := [.int 2, .int (nI i), .ref b, .int (xs (((nI i) + 1)).toNatClampNeg), .ref (xq X 0)]) (fun H locs ls hS h k => lv_iconst (v := 2) hx hb dL_law_348 (by decide) k) ?_
        refine vl_lift (n := 350) (st' := [.int ((nI i) + 2), .ref b, .int (xs (((nI i) + 1)).toNatClampNeg), .ref (xq X 0)]) (fun H locs ls hS h k => lv_iadd hx hb dL_law_349 k) ?_
        refine vl_lift (n := 351) (st' := [.int (xs (((nI i) + 2)).toNatClampNeg), .int (xs (((nI i) + 1)).toNatClampNeg), .ref (xq X 0)]) (fun H locs ls hS h k => va_sld hx hb hX hbl hbA hS (scr_in 2 hgo hL (by decide)) dL_law_350 k) ?_
        refine vl_lift (n := 352) (st' := [.ref b, .int (xs (((nI i) + 2)).toNatClampNeg), .int (xs (((nI i) + 1)).toNatClampNeg), .ref (xq X 0)]) (fun H locs ls hS h k => lv_aload_n hx hb dL_law_351 rfl (lv_at h 1 rfl) k) ?_
        refine vl_lift (n := 353) (st' := [.int (nI i), .ref b, .int (xs (((nI i) + 2)).toNatClampNeg), .int (xs (((nI i) + 1)).toNatClampNeg), .ref (xq X 0)]) (fun H locs ls hS h k => lv_iload_n hx hb dL_law_352 rfl (lv_at h 0 rfl) k) ?_
        refine vl_lift (n := 354) (st' := [.int 3, .int (nI i), .ref b, .int (xs (((nI i) + 2)).toNatClampNeg), .int (xs (((nI i) + 1)).toNatClampNeg), .ref (xq X 0)]) (fun H locs ls hS h k => lv_iconst (v := 3) hx hb dL_law_353 (by decide) k) ?_
        refine vl_lift (n := 355) (st' := [.int ((nI i) + 3), .ref b, .int (xs (((nI i) + 2)).toNatClampNeg), .int (xs (((nI i) + 1)).toNatClampNeg), .ref (xq X 0)]) (fun H locs ls hS h k => lv_iadd hx hb dL_law_354 k) ?_
        refine vl_lift (n := 356) (st' := [.int (xs (((nI i) + 3)).toNatClampNeg), .int (xs (((nI i) + 2)).toNatClampNeg), .int (xs (((nI i) + 1)).toNatClampNeg), .ref (xq X 0)]) (fun H locs ls hS h k => va_sld hx hb hX hbl hbA hS (scr_in 3 hgo hL (by decide)) dL_law_355 k) ?_
        obtain ⟨r, ex, em⟩ := hI.2.2.2.2.2.2.2.1 σx σm (xs (((nI i) + 1)).toNatClampNeg) (xs (((nI i) + 2)).toNatClampNeg) (xs (((nI i) + 3)).toNatClampNeg) hInv
        refine vl_callX (n := 359) (As := [.int (xs (((nI i) + 1)).toNatClampNeg), .int (xs (((nI i) + 2)).toNatClampNeg), .int (xs (((nI i) + 3)).toNatClampNeg)]) (rest := []) hlx hx hb hml hown hts (T_X10_parts ex) (Nat.le_of_ble_eq_true rfl) mf_X10_parts rfl tw_611 tw_612 tw_610 rfl rfl (Nat.le_of_ble_eq_true rfl) dL_law_356 rfl ?_
        refine vl_lift (n := 360) (st' := [.ref (xq Y 0), .long r]) (fun H locs ls hS h k => lv_aload_n hx hb dL_law_359 rfl (lv_at h 3 rfl) k) ?_
        refine vl_lift (n := 361) (st' := [.ref b, .ref (xq Y 0), .long r]) (fun H locs ls hS h k => lv_aload_n hx hb dL_law_360 rfl (lv_at h 1 rfl) k) ?_
        refine vl_lift (n := 362) (st' := [.int (nI i), .ref b, .ref (xq Y 0), .long r]) (fun H locs ls hS h k => lv_iload_n hx hb dL_law_361 rfl (lv_at h 0 rfl) k) ?_
        refine vl_lift (n := 363) (st' := [.int 1, .int (nI i), .ref b, .ref (xq Y 0), .long r]) (fun H locs ls hS h k => lv_iconst (v := 1) hx hb dL_law_362 (by decide) k) ?_
        refine vl_lift (n := 364) (st' := [.int ((nI i) + 1), .ref b, .ref (xq Y 0), .long r]) (fun H locs ls hS h k => lv_iadd hx hb dL_law_363 k) ?_
        refine vl_lift (n := 365) (st' := [.int (xs (((nI i) + 1)).toNatClampNeg), .ref (xq Y 0), .long r]) (fun H locs ls hS h k => va_sld hx hb hX hbl hbA hS (scr_in 1 hgo hL (by decide)) dL_law_364 k) ?_
        refine vl_lift (n := 366) (st' := [.ref b, .int (xs (((nI i) + 1)).toNatClampNeg), .ref (xq Y 0), .long r]) (fun H locs ls hS h k => lv_aload_n hx hb dL_law_365 rfl (lv_at h 1 rfl) k) ?_
        refine vl_lift (n := 367) (st' := [.int (nI i), .ref b, .int (xs (((nI i) + 1)).toNatClampNeg), .ref (xq Y 0), .long r]) (fun H locs ls hS h k => lv_iload_n hx hb dL_law_366 rfl (lv_at h 0 rfl) k) ?_
        refine vl_lift (n := 368) (st' := [.int 2, .int (nI i), .ref b, .int (xs (((nI i) + 1)).toNatClampNeg), .ref (xq Y 0), .long r]) (fun H locs ls hS h k => lv_iconst (v := 2) hx hb dL_law_367 (by decide) k) ?_
        refine vl_lift (n := 369) (st' := [.int ((nI i) + 2), .ref b, .int (xs (((nI i) + 1)).toNatClampNeg), .ref (xq Y 0), .long r]) (fun H locs ls hS h k => lv_iadd hx hb dL_law_368 k) ?_
        refine vl_lift (n := 370) (st' := [.int (xs (((nI i) + 2)).toNatClampNeg), .int (xs (((nI i) + 1)).toNatClampNeg), .ref (xq Y 0), .long r]) (fun H locs ls hS h k => va_sld hx hb hX hbl hbA hS (scr_in 2 hgo hL (by decide)) dL_law_369 k) ?_
        refine vl_lift (n := 371) (st' := [.ref b, .int (xs (((nI i) + 2)).toNatClampNeg), .int (xs (((nI i) + 1)).toNatClampNeg), .ref (xq Y 0), .long r]) (fun H locs ls hS h k => lv_aload_n hx hb dL_law_370 rfl (lv_at h 1 rfl) k) ?_
        refine vl_lift (n := 372) (st' := [.int (nI i), .ref b, .int (xs (((nI i) + 2)).toNatClampNeg), .int (xs (((nI i) + 1)).toNatClampNeg), .ref (xq Y 0), .long r]) (fun H locs ls hS h k => lv_iload_n hx hb dL_law_371 rfl (lv_at h 0 rfl) k) ?_
        refine vl_lift (n := 373) (st' := [.int 3, .int (nI i), .ref b, .int (xs (((nI i) + 2)).toNatClampNeg), .int (xs (((nI i) + 1)).toNatClampNeg), .ref (xq Y 0), .long r]) (fun H locs ls hS h k => lv_iconst (v := 3) hx hb dL_law_372 (by decide) k) ?_
        refine vl_lift (n := 374) (st' := [.int ((nI i) + 3), .ref b, .int (xs (((nI i) + 2)).toNatClampNeg), .int (xs (((nI i) + 1)).toNatClampNeg), .ref (xq Y 0), .long r]) (fun H locs ls hS h k => lv_iadd hx hb dL_law_373 k) ?_
        refine vl_lift (n := 375) (st' := [.int (xs (((nI i) + 3)).toNatClampNeg), .int (xs (((nI i) + 2)).toNatClampNeg), .int (xs (((nI i) + 1)).toNatClampNeg), .ref (xq Y 0), .long r]) (fun H locs ls hS h k => va_sld hx hb hX hbl hbA hS (scr_in 3 hgo hL (by decide)) dL_law_374 k) ?_
        refine vl_callM (n := 378) (As := [.int (xs (((nI i) + 1)).toNatClampNeg), .int (xs (((nI i) + 2)).toNatClampNeg), .int (xs (((nI i) + 3)).toNatClampNeg)]) (rest := [.long r]) hly hx hb hml hown hts (T_X11_parts em) (Nat.le_of_ble_eq_true rfl) mf_X11_parts rfl tw_1197 tw_1198 tw_1196 rfl rfl (Nat.le_of_ble_eq_true rfl) dL_law_375 rfl ?_
        refine vl_same (t := 656) hx hb dL_law_378 rfl dL_law_379 (by decide) ?_
        exact hnext σx σm hInv
      by_cases c9 : ((xs ((nI i)).toNatClampNeg) &&& 15) = 8
      · refine vl_lift (n := 384) (st' := []) (fun H locs ls hS h k => lv_tableIn (tgt := 384) hx hb dL_law_33 (by rw [c9]; decide) (by rw [c9]; decide) (by rw [c9]; rfl) (by decide) k) ?_
        refine vl_lift (n := 385) (st' := [.ref (xq X 0)]) (fun H locs ls hS h k => lv_aload_n hx hb dL_law_384 rfl (lv_at h 2 rfl) k) ?_
        refine vl_lift (n := 386) (st' := [.ref b, .ref (xq X 0)]) (fun H locs ls hS h k => lv_aload_n hx hb dL_law_385 rfl (lv_at h 1 rfl) k) ?_
        refine vl_lift (n := 387) (st' := [.int (nI i), .ref b, .ref (xq X 0)]) (fun H locs ls hS h k => lv_iload_n hx hb dL_law_386 rfl (lv_at h 0 rfl) k) ?_
        refine vl_lift (n := 388) (st' := [.int 1, .int (nI i), .ref b, .ref (xq X 0)]) (fun H locs ls hS h k => lv_iconst (v := 1) hx hb dL_law_387 (by decide) k) ?_
        refine vl_lift (n := 389) (st' := [.int ((nI i) + 1), .ref b, .ref (xq X 0)]) (fun H locs ls hS h k => lv_iadd hx hb dL_law_388 k) ?_
        refine vl_lift (n := 390) (st' := [.int (xs (((nI i) + 1)).toNatClampNeg), .ref (xq X 0)]) (fun H locs ls hS h k => va_sld hx hb hX hbl hbA hS (scr_in 1 hgo hL (by decide)) dL_law_389 k) ?_
        refine vl_lift (n := 391) (st' := [.ref b, .int (xs (((nI i) + 1)).toNatClampNeg), .ref (xq X 0)]) (fun H locs ls hS h k => lv_aload_n hx hb dL_law_390 rfl (lv_at h 1 rfl) k) ?_
        refine vl_lift (n := 392) (st' := [.int (nI i), .ref b, .int (xs (((nI i) + 1)).toNatClampNeg), .ref (xq X 0)]) (fun H locs ls hS h k => lv_iload_n hx hb dL_law_391 rfl (lv_at h 0 rfl) k) ?_
        refine vl_lift (n := 393) (st' := [.int 2, .int (nI i), .ref b, .int (xs (((nI i) + 1)).toNatClampNeg), .ref (xq X 0)]) (fun H locs ls hS h k => lv_iconst (v := 2) hx hb dL_law_392 (by decide) k) ?_
        refine vl_lift (n := 394) (st' := [.int ((nI i) + 2), .ref b, .int (xs (((nI i) + 1)).toNatClampNeg), .ref (xq X 0)]) (fun H locs ls hS h k => lv_iadd hx hb dL_law_393 k) ?_
        refine vl_lift (n := 395) (st' := [.int (xs (((nI i) + 2)).toNatClampNeg), .int (xs (((nI i) + 1)).toNatClampNeg), .ref (xq X 0)]) (fun H locs ls hS h k => va_sld hx hb hX hbl hbA hS (scr_in 2 hgo hL (by decide)) dL_law_394 k) ?_
        refine vl_lift (n := 396) (st' := [.ref b, .int (xs (((nI i) + 2)).toNatClampNeg), .int (xs (((nI i) + 1)).toNatClampNeg), .ref (xq X 0)]) (fun H locs ls hS h k => lv_aload_n hx hb dL_law_395 rfl (lv_at h 1 rfl) k) ?_
        refine vl_lift (n := 397) (st' := [.int (nI i), .ref b, .int (xs (((nI i) + 2)).toNatClampNeg), .int (xs (((nI i) + 1)).toNatClampNeg), .ref (xq X 0)]) (fun H locs ls hS h k => lv_iload_n hx hb dL_law_396 rfl (lv_at h 0 rfl) k) ?_
        refine vl_lift (n := 398) (st' := [.int 3, .int (nI i), .ref b, .int (xs (((nI i) + 2)).toNatClampNeg), .int (xs (((nI i) + 1)).toNatClampNeg), .ref (xq X 0)]) (fun H locs ls hS h k => lv_iconst (v := 3) hx hb dL_law_397 (by decide) k) ?_
        refine vl_lift (n := 399) (st' := [.int ((nI i) + 3), .ref b, .int (xs (((nI i) + 2)).toNatClampNeg), .int (xs (((nI i) + 1)).toNatClampNeg), .ref (xq X 0)]) (fun H locs ls hS h k => lv_iadd hx hb dL_law_398 k) ?_
        refine vl_lift (n := 400) (st' := [.int (xs (((nI i) + 3)).toNatClampNeg), .int (xs (((nI i) + 2)).toNatClampNeg), .int (xs (((nI i) + 1)).toNatClampNeg), .ref (xq X 0)]) (fun H locs ls hS h k => va_sld hx hb hX hbl hbA hS (scr_in 3 hgo hL (by decide)) dL_law_399 k) ?_
        refine vl_lift (n := 401) (st' := [.long ((xs (((nI i) + 3)).toNatClampNeg).toInt64), .int (xs (((nI i) + 2)).toNatClampNeg), .int (xs (((nI i) + 1)).toNatClampNeg), .ref (xq X 0)]) (fun H locs ls hS h k => lv_i2l hx hb dL_law_400 rfl k) ?_
        refine vl_lift (n := 403) (st' := [.int 32, .long ((xs (((nI i) + 3)).toNatClampNeg).toInt64), .int (xs (((nI i) + 2)).toNatClampNeg), .int (xs (((nI i) + 1)).toNatClampNeg), .ref (xq X 0)]) (fun H locs ls hS h k => lv_bipush (v := 32) hx hb dL_law_401 (by decide) k) ?_
        refine vl_lift (n := 404) (st' := [.long (((xs (((nI i) + 3)).toNatClampNeg).toInt64) <<< ((32 : Int32).toInt64 &&& 63)), .int (xs (((nI i) + 2)).toNatClampNeg), .int (xs (((nI i) + 1)).toNatClampNeg), .ref (xq X 0)]) (fun H locs ls hS h k => lv_lshl hx hb dL_law_403 rfl k) ?_
        refine vl_lift (n := 405) (st' := [.ref b, .long (((xs (((nI i) + 3)).toNatClampNeg).toInt64) <<< ((32 : Int32).toInt64 &&& 63)), .int (xs (((nI i) + 2)).toNatClampNeg), .int (xs (((nI i) + 1)).toNatClampNeg), .ref (xq X 0)]) (fun H locs ls hS h k => lv_aload_n hx hb dL_law_404 rfl (lv_at h 1 rfl) k) ?_
        refine vl_lift (n := 406) (st' := [.int (nI i), .ref b, .long (((xs (((nI i) + 3)).toNatClampNeg).toInt64) <<< ((32 : Int32).toInt64 &&& 63)), .int (xs (((nI i) + 2)).toNatClampNeg), .int (xs (((nI i) + 1)).toNatClampNeg), .ref (xq X 0)]) (fun H locs ls hS h k => lv_iload_n hx hb dL_law_405 rfl (lv_at h 0 rfl) k) ?_
        refine vl_lift (n := 407) (st' := [.int 4, .int (nI i), .ref b, .long (((xs (((nI i) + 3)).toNatClampNeg).toInt64) <<< ((32 : Int32).toInt64 &&& 63)), .int (xs (((nI i) + 2)).toNatClampNeg), .int (xs (((nI i) + 1)).toNatClampNeg), .ref (xq X 0)]) (fun H locs ls hS h k => lv_iconst (v := 4) hx hb dL_law_406 (by decide) k) ?_
        refine vl_lift (n := 408) (st' := [.int ((nI i) + 4), .ref b, .long (((xs (((nI i) + 3)).toNatClampNeg).toInt64) <<< ((32 : Int32).toInt64 &&& 63)), .int (xs (((nI i) + 2)).toNatClampNeg), .int (xs (((nI i) + 1)).toNatClampNeg), .ref (xq X 0)]) (fun H locs ls hS h k => lv_iadd hx hb dL_law_407 k) ?_
        refine vl_lift (n := 409) (st' := [.int (xs (((nI i) + 4)).toNatClampNeg), .long (((xs (((nI i) + 3)).toNatClampNeg).toInt64) <<< ((32 : Int32).toInt64 &&& 63)), .int (xs (((nI i) + 2)).toNatClampNeg), .int (xs (((nI i) + 1)).toNatClampNeg), .ref (xq X 0)]) (fun H locs ls hS h k => va_sld hx hb hX hbl hbA hS (scr_in 4 hgo hL (by decide)) dL_law_408 k) ?_
        refine vl_lift (n := 410) (st' := [.long ((xs (((nI i) + 4)).toNatClampNeg).toInt64), .long (((xs (((nI i) + 3)).toNatClampNeg).toInt64) <<< ((32 : Int32).toInt64 &&& 63)), .int (xs (((nI i) + 2)).toNatClampNeg), .int (xs (((nI i) + 1)).toNatClampNeg), .ref (xq X 0)]) (fun H locs ls hS h k => lv_i2l hx hb dL_law_409 rfl k) ?_
        refine vl_lift (n := 413) (st' := [.long 4294967295, .long ((xs (((nI i) + 4)).toNatClampNeg).toInt64), .long (((xs (((nI i) + 3)).toNatClampNeg).toInt64) <<< ((32 : Int32).toInt64 &&& 63)), .int (xs (((nI i) + 2)).toNatClampNeg), .int (xs (((nI i) + 1)).toNatClampNeg), .ref (xq X 0)]) (fun H locs ls hS h k => lv_ldc2 (v := 4294967295) hx hb hown (hts _ tw_1334) dL_law_410 k) ?_
        refine vl_lift (n := 414) (st' := [.long (((xs (((nI i) + 4)).toNatClampNeg).toInt64) &&& 4294967295), .long (((xs (((nI i) + 3)).toNatClampNeg).toInt64) <<< ((32 : Int32).toInt64 &&& 63)), .int (xs (((nI i) + 2)).toNatClampNeg), .int (xs (((nI i) + 1)).toNatClampNeg), .ref (xq X 0)]) (fun H locs ls hS h k => lv_land hx hb dL_law_413 k) ?_
        refine vl_lift (n := 415) (st' := [.long ((((xs (((nI i) + 3)).toNatClampNeg).toInt64) <<< ((32 : Int32).toInt64 &&& 63)) ||| (((xs (((nI i) + 4)).toNatClampNeg).toInt64) &&& 4294967295)), .int (xs (((nI i) + 2)).toNatClampNeg), .int (xs (((nI i) + 1)).toNatClampNeg), .ref (xq X 0)]) (fun H locs ls hS h k => lv_lor hx hb dL_law_414 k) ?_
        obtain ⟨r, σx1, σm1, ex, em, hInv1⟩ := hI.2.2.2.2.2.2.2.2.1 σx σm (xs (((nI i) + 1)).toNatClampNeg) (xs (((nI i) + 2)).toNatClampNeg) ((((xs (((nI i) + 3)).toNatClampNeg).toInt64) <<< ((32 : Int32).toInt64 &&& 63)) ||| (((xs (((nI i) + 4)).toNatClampNeg).toInt64) &&& 4294967295)) hInv
        refine vl_callX (n := 418) (As := [.int (xs (((nI i) + 1)).toNatClampNeg), .int (xs (((nI i) + 2)).toNatClampNeg), .long ((((xs (((nI i) + 3)).toNatClampNeg).toInt64) <<< ((32 : Int32).toInt64 &&& 63)) ||| (((xs (((nI i) + 4)).toNatClampNeg).toInt64) &&& 4294967295))]) (rest := []) hlx hx hb hml hown hts (T_X10_thing ex) (Nat.le_of_ble_eq_true rfl) mf_X10_thing rfl tw_616 tw_617 tw_615 rfl rfl (Nat.le_of_ble_eq_true rfl) dL_law_415 rfl ?_
        refine vl_lift (n := 419) (st' := [.ref (xq Y 0), .long r]) (fun H locs ls hS h k => lv_aload_n hx hb dL_law_418 rfl (lv_at h 3 rfl) k) ?_
        refine vl_lift (n := 420) (st' := [.ref b, .ref (xq Y 0), .long r]) (fun H locs ls hS h k => lv_aload_n hx hb dL_law_419 rfl (lv_at h 1 rfl) k) ?_
        refine vl_lift (n := 421) (st' := [.int (nI i), .ref b, .ref (xq Y 0), .long r]) (fun H locs ls hS h k => lv_iload_n hx hb dL_law_420 rfl (lv_at h 0 rfl) k) ?_
        refine vl_lift (n := 422) (st' := [.int 1, .int (nI i), .ref b, .ref (xq Y 0), .long r]) (fun H locs ls hS h k => lv_iconst (v := 1) hx hb dL_law_421 (by decide) k) ?_
        refine vl_lift (n := 423) (st' := [.int ((nI i) + 1), .ref b, .ref (xq Y 0), .long r]) (fun H locs ls hS h k => lv_iadd hx hb dL_law_422 k) ?_
        refine vl_lift (n := 424) (st' := [.int (xs (((nI i) + 1)).toNatClampNeg), .ref (xq Y 0), .long r]) (fun H locs ls hS h k => va_sld hx hb hX hbl hbA hS (scr_in 1 hgo hL (by decide)) dL_law_423 k) ?_
        refine vl_lift (n := 425) (st' := [.ref b, .int (xs (((nI i) + 1)).toNatClampNeg), .ref (xq Y 0), .long r]) (fun H locs ls hS h k => lv_aload_n hx hb dL_law_424 rfl (lv_at h 1 rfl) k) ?_
        refine vl_lift (n := 426) (st' := [.int (nI i), .ref b, .int (xs (((nI i) + 1)).toNatClampNeg), .ref (xq Y 0), .long r]) (fun H locs ls hS h k => lv_iload_n hx hb dL_law_425 rfl (lv_at h 0 rfl) k) ?_
        refine vl_lift (n := 427) (st' := [.int 2, .int (nI i), .ref b, .int (xs (((nI i) + 1)).toNatClampNeg), .ref (xq Y 0), .long r]) (fun H locs ls hS h k => lv_iconst (v := 2) hx hb dL_law_426 (by decide) k) ?_
        refine vl_lift (n := 428) (st' := [.int ((nI i) + 2), .ref b, .int (xs (((nI i) + 1)).toNatClampNeg), .ref (xq Y 0), .long r]) (fun H locs ls hS h k => lv_iadd hx hb dL_law_427 k) ?_
        refine vl_lift (n := 429) (st' := [.int (xs (((nI i) + 2)).toNatClampNeg), .int (xs (((nI i) + 1)).toNatClampNeg), .ref (xq Y 0), .long r]) (fun H locs ls hS h k => va_sld hx hb hX hbl hbA hS (scr_in 2 hgo hL (by decide)) dL_law_428 k) ?_
        refine vl_lift (n := 430) (st' := [.ref b, .int (xs (((nI i) + 2)).toNatClampNeg), .int (xs (((nI i) + 1)).toNatClampNeg), .ref (xq Y 0), .long r]) (fun H locs ls hS h k => lv_aload_n hx hb dL_law_429 rfl (lv_at h 1 rfl) k) ?_
        refine vl_lift (n := 431) (st' := [.int (nI i), .ref b, .int (xs (((nI i) + 2)).toNatClampNeg), .int (xs (((nI i) + 1)).toNatClampNeg), .ref (xq Y 0), .long r]) (fun H locs ls hS h k => lv_iload_n hx hb dL_law_430 rfl (lv_at h 0 rfl) k) ?_
        refine vl_lift (n := 432) (st' := [.int 3, .int (nI i), .ref b, .int (xs (((nI i) + 2)).toNatClampNeg), .int (xs (((nI i) + 1)).toNatClampNeg), .ref (xq Y 0), .long r]) (fun H locs ls hS h k => lv_iconst (v := 3) hx hb dL_law_431 (by decide) k) ?_
        refine vl_lift (n := 433) (st' := [.int ((nI i) + 3), .ref b, .int (xs (((nI i) + 2)).toNatClampNeg), .int (xs (((nI i) + 1)).toNatClampNeg), .ref (xq Y 0), .long r]) (fun H locs ls hS h k => lv_iadd hx hb dL_law_432 k) ?_
        refine vl_lift (n := 434) (st' := [.int (xs (((nI i) + 3)).toNatClampNeg), .int (xs (((nI i) + 2)).toNatClampNeg), .int (xs (((nI i) + 1)).toNatClampNeg), .ref (xq Y 0), .long r]) (fun H locs ls hS h k => va_sld hx hb hX hbl hbA hS (scr_in 3 hgo hL (by decide)) dL_law_433 k) ?_
        refine vl_lift (n := 435) (st' := [.long ((xs (((nI i) + 3)).toNatClampNeg).toInt64), .int (xs (((nI i) + 2)).toNatClampNeg), .int (xs (((nI i) + 1)).toNatClampNeg), .ref (xq Y 0), .long r]) (fun H locs ls hS h k => lv_i2l hx hb dL_law_434 rfl k) ?_
        refine vl_lift (n := 437) (st' := [.int 32, .long ((xs (((nI i) + 3)).toNatClampNeg).toInt64), .int (xs (((nI i) + 2)).toNatClampNeg), .int (xs (((nI i) + 1)).toNatClampNeg), .ref (xq Y 0), .long r]) (fun H locs ls hS h k => lv_bipush (v := 32) hx hb dL_law_435 (by decide) k) ?_
        refine vl_lift (n := 438) (st' := [.long (((xs (((nI i) + 3)).toNatClampNeg).toInt64) <<< ((32 : Int32).toInt64 &&& 63)), .int (xs (((nI i) + 2)).toNatClampNeg), .int (xs (((nI i) + 1)).toNatClampNeg), .ref (xq Y 0), .long r]) (fun H locs ls hS h k => lv_lshl hx hb dL_law_437 rfl k) ?_
        refine vl_lift (n := 439) (st' := [.ref b, .long (((xs (((nI i) + 3)).toNatClampNeg).toInt64) <<< ((32 : Int32).toInt64 &&& 63)), .int (xs (((nI i) + 2)).toNatClampNeg), .int (xs (((nI i) + 1)).toNatClampNeg), .ref (xq Y 0), .long r]) (fun H locs ls hS h k => lv_aload_n hx hb dL_law_438 rfl (lv_at h 1 rfl) k) ?_
        refine vl_lift (n := 440) (st' := [.int (nI i), .ref b, .long (((xs (((nI i) + 3)).toNatClampNeg).toInt64) <<< ((32 : Int32).toInt64 &&& 63)), .int (xs (((nI i) + 2)).toNatClampNeg), .int (xs (((nI i) + 1)).toNatClampNeg), .ref (xq Y 0), .long r]) (fun H locs ls hS h k => lv_iload_n hx hb dL_law_439 rfl (lv_at h 0 rfl) k) ?_
        refine vl_lift (n := 441) (st' := [.int 4, .int (nI i), .ref b, .long (((xs (((nI i) + 3)).toNatClampNeg).toInt64) <<< ((32 : Int32).toInt64 &&& 63)), .int (xs (((nI i) + 2)).toNatClampNeg), .int (xs (((nI i) + 1)).toNatClampNeg), .ref (xq Y 0), .long r]) (fun H locs ls hS h k => lv_iconst (v := 4) hx hb dL_law_440 (by decide) k) ?_
        refine vl_lift (n := 442) (st' := [.int ((nI i) + 4), .ref b, .long (((xs (((nI i) + 3)).toNatClampNeg).toInt64) <<< ((32 : Int32).toInt64 &&& 63)), .int (xs (((nI i) + 2)).toNatClampNeg), .int (xs (((nI i) + 1)).toNatClampNeg), .ref (xq Y 0), .long r]) (fun H locs ls hS h k => lv_iadd hx hb dL_law_441 k) ?_
        refine vl_lift (n := 443) (st' := [.int (xs (((nI i) + 4)).toNatClampNeg), .long (((xs (((nI i) + 3)).toNatClampNeg).toInt64) <<< ((32 : Int32).toInt64 &&& 63)), .int (xs (((nI i) + 2)).toNatClampNeg), .int (xs (((nI i) + 1)).toNatClampNeg), .ref (xq Y 0), .long r]) (fun H locs ls hS h k => va_sld hx hb hX hbl hbA hS (scr_in 4 hgo hL (by decide)) dL_law_442 k) ?_
        refine vl_lift (n := 444) (st' := [.long ((xs (((nI i) + 4)).toNatClampNeg).toInt64), .long (((xs (((nI i) + 3)).toNatClampNeg).toInt64) <<< ((32 : Int32).toInt64 &&& 63)), .int (xs (((nI i) + 2)).toNatClampNeg), .int (xs (((nI i) + 1)).toNatClampNeg), .ref (xq Y 0), .long r]) (fun H locs ls hS h k => lv_i2l hx hb dL_law_443 rfl k) ?_
        refine vl_lift (n := 447) (st' := [.long 4294967295, .long ((xs (((nI i) + 4)).toNatClampNeg).toInt64), .long (((xs (((nI i) + 3)).toNatClampNeg).toInt64) <<< ((32 : Int32).toInt64 &&& 63)), .int (xs (((nI i) + 2)).toNatClampNeg), .int (xs (((nI i) + 1)).toNatClampNeg), .ref (xq Y 0), .long r]) (fun H locs ls hS h k => lv_ldc2 (v := 4294967295) hx hb hown (hts _ tw_1334) dL_law_444 k) ?_
        refine vl_lift (n := 448) (st' := [.long (((xs (((nI i) + 4)).toNatClampNeg).toInt64) &&& 4294967295), .long (((xs (((nI i) + 3)).toNatClampNeg).toInt64) <<< ((32 : Int32).toInt64 &&& 63)), .int (xs (((nI i) + 2)).toNatClampNeg), .int (xs (((nI i) + 1)).toNatClampNeg), .ref (xq Y 0), .long r]) (fun H locs ls hS h k => lv_land hx hb dL_law_447 k) ?_
        refine vl_lift (n := 449) (st' := [.long ((((xs (((nI i) + 3)).toNatClampNeg).toInt64) <<< ((32 : Int32).toInt64 &&& 63)) ||| (((xs (((nI i) + 4)).toNatClampNeg).toInt64) &&& 4294967295)), .int (xs (((nI i) + 2)).toNatClampNeg), .int (xs (((nI i) + 1)).toNatClampNeg), .ref (xq Y 0), .long r]) (fun H locs ls hS h k => lv_lor hx hb dL_law_448 k) ?_
        refine vl_callM (n := 452) (As := [.int (xs (((nI i) + 1)).toNatClampNeg), .int (xs (((nI i) + 2)).toNatClampNeg), .long ((((xs (((nI i) + 3)).toNatClampNeg).toInt64) <<< ((32 : Int32).toInt64 &&& 63)) ||| (((xs (((nI i) + 4)).toNatClampNeg).toInt64) &&& 4294967295))]) (rest := [.long r]) hly hx hb hml hown hts (T_X11_thing em) (Nat.le_of_ble_eq_true rfl) mf_X11_thing rfl tw_1202 tw_1203 tw_1201 rfl rfl (Nat.le_of_ble_eq_true rfl) dL_law_449 rfl ?_
        refine vl_same (t := 656) hx hb dL_law_452 rfl dL_law_453 (by decide) ?_
        exact hnext σx1 σm1 hInv1
      by_cases c10 : ((xs ((nI i)).toNatClampNeg) &&& 15) = 9
      · refine vl_lift (n := 458) (st' := []) (fun H locs ls hS h k => lv_tableIn (tgt := 458) hx hb dL_law_33 (by rw [c10]; decide) (by rw [c10]; decide) (by rw [c10]; rfl) (by decide) k) ?_
        refine vl_lift (n := 459) (st' := [.ref (xq X 0)]) (fun H locs ls hS h k => lv_aload_n hx hb dL_law_458 rfl (lv_at h 2 rfl) k) ?_
        refine vl_lift (n := 460) (st' := [.ref b, .ref (xq X 0)]) (fun H locs ls hS h k => lv_aload_n hx hb dL_law_459 rfl (lv_at h 1 rfl) k) ?_
        refine vl_lift (n := 461) (st' := [.int (nI i), .ref b, .ref (xq X 0)]) (fun H locs ls hS h k => lv_iload_n hx hb dL_law_460 rfl (lv_at h 0 rfl) k) ?_
        refine vl_lift (n := 462) (st' := [.int 1, .int (nI i), .ref b, .ref (xq X 0)]) (fun H locs ls hS h k => lv_iconst (v := 1) hx hb dL_law_461 (by decide) k) ?_
        refine vl_lift (n := 463) (st' := [.int ((nI i) + 1), .ref b, .ref (xq X 0)]) (fun H locs ls hS h k => lv_iadd hx hb dL_law_462 k) ?_
        refine vl_lift (n := 464) (st' := [.int (xs (((nI i) + 1)).toNatClampNeg), .ref (xq X 0)]) (fun H locs ls hS h k => va_sld hx hb hX hbl hbA hS (scr_in 1 hgo hL (by decide)) dL_law_463 k) ?_
        refine vl_lift (n := 465) (st' := [.ref b, .int (xs (((nI i) + 1)).toNatClampNeg), .ref (xq X 0)]) (fun H locs ls hS h k => lv_aload_n hx hb dL_law_464 rfl (lv_at h 1 rfl) k) ?_
        refine vl_lift (n := 466) (st' := [.int (nI i), .ref b, .int (xs (((nI i) + 1)).toNatClampNeg), .ref (xq X 0)]) (fun H locs ls hS h k => lv_iload_n hx hb dL_law_465 rfl (lv_at h 0 rfl) k) ?_
        refine vl_lift (n := 467) (st' := [.int 2, .int (nI i), .ref b, .int (xs (((nI i) + 1)).toNatClampNeg), .ref (xq X 0)]) (fun H locs ls hS h k => lv_iconst (v := 2) hx hb dL_law_466 (by decide) k) ?_
        refine vl_lift (n := 468) (st' := [.int ((nI i) + 2), .ref b, .int (xs (((nI i) + 1)).toNatClampNeg), .ref (xq X 0)]) (fun H locs ls hS h k => lv_iadd hx hb dL_law_467 k) ?_
        refine vl_lift (n := 469) (st' := [.int (xs (((nI i) + 2)).toNatClampNeg), .int (xs (((nI i) + 1)).toNatClampNeg), .ref (xq X 0)]) (fun H locs ls hS h k => va_sld hx hb hX hbl hbA hS (scr_in 2 hgo hL (by decide)) dL_law_468 k) ?_
        refine vl_lift (n := 470) (st' := [.ref b, .int (xs (((nI i) + 2)).toNatClampNeg), .int (xs (((nI i) + 1)).toNatClampNeg), .ref (xq X 0)]) (fun H locs ls hS h k => lv_aload_n hx hb dL_law_469 rfl (lv_at h 1 rfl) k) ?_
        refine vl_lift (n := 471) (st' := [.int (nI i), .ref b, .int (xs (((nI i) + 2)).toNatClampNeg), .int (xs (((nI i) + 1)).toNatClampNeg), .ref (xq X 0)]) (fun H locs ls hS h k => lv_iload_n hx hb dL_law_470 rfl (lv_at h 0 rfl) k) ?_
        refine vl_lift (n := 472) (st' := [.int 3, .int (nI i), .ref b, .int (xs (((nI i) + 2)).toNatClampNeg), .int (xs (((nI i) + 1)).toNatClampNeg), .ref (xq X 0)]) (fun H locs ls hS h k => lv_iconst (v := 3) hx hb dL_law_471 (by decide) k) ?_
        refine vl_lift (n := 473) (st' := [.int ((nI i) + 3), .ref b, .int (xs (((nI i) + 2)).toNatClampNeg), .int (xs (((nI i) + 1)).toNatClampNeg), .ref (xq X 0)]) (fun H locs ls hS h k => lv_iadd hx hb dL_law_472 k) ?_
        refine vl_lift (n := 474) (st' := [.int (xs (((nI i) + 3)).toNatClampNeg), .int (xs (((nI i) + 2)).toNatClampNeg), .int (xs (((nI i) + 1)).toNatClampNeg), .ref (xq X 0)]) (fun H locs ls hS h k => va_sld hx hb hX hbl hbA hS (scr_in 3 hgo hL (by decide)) dL_law_473 k) ?_
        refine vl_lift (n := 475) (st' := [.ref b, .int (xs (((nI i) + 3)).toNatClampNeg), .int (xs (((nI i) + 2)).toNatClampNeg), .int (xs (((nI i) + 1)).toNatClampNeg), .ref (xq X 0)]) (fun H locs ls hS h k => lv_aload_n hx hb dL_law_474 rfl (lv_at h 1 rfl) k) ?_
        refine vl_lift (n := 476) (st' := [.int (nI i), .ref b, .int (xs (((nI i) + 3)).toNatClampNeg), .int (xs (((nI i) + 2)).toNatClampNeg), .int (xs (((nI i) + 1)).toNatClampNeg), .ref (xq X 0)]) (fun H locs ls hS h k => lv_iload_n hx hb dL_law_475 rfl (lv_at h 0 rfl) k) ?_
        refine vl_lift (n := 477) (st' := [.int 4, .int (nI i), .ref b, .int (xs (((nI i) + 3)).toNatClampNeg), .int (xs (((nI i) + 2)).toNatClampNeg), .int (xs (((nI i) + 1)).toNatClampNeg), .ref (xq X 0)]) (fun H locs ls hS h k => lv_iconst (v := 4) hx hb dL_law_476 (by decide) k) ?_
        refine vl_lift (n := 478) (st' := [.int ((nI i) + 4), .ref b, .int (xs (((nI i) + 3)).toNatClampNeg), .int (xs (((nI i) + 2)).toNatClampNeg), .int (xs (((nI i) + 1)).toNatClampNeg), .ref (xq X 0)]) (fun H locs ls hS h k => lv_iadd hx hb dL_law_477 k) ?_
        refine vl_lift (n := 479) (st' := [.int (xs (((nI i) + 4)).toNatClampNeg), .int (xs (((nI i) + 3)).toNatClampNeg), .int (xs (((nI i) + 2)).toNatClampNeg), .int (xs (((nI i) + 1)).toNatClampNeg), .ref (xq X 0)]) (fun H locs ls hS h k => va_sld hx hb hX hbl hbA hS (scr_in 4 hgo hL (by decide)) dL_law_478 k) ?_
        refine vl_lift (n := 480) (st' := [.ref b, .int (xs (((nI i) + 4)).toNatClampNeg), .int (xs (((nI i) + 3)).toNatClampNeg), .int (xs (((nI i) + 2)).toNatClampNeg), .int (xs (((nI i) + 1)).toNatClampNeg), .ref (xq X 0)]) (fun H locs ls hS h k => lv_aload_n hx hb dL_law_479 rfl (lv_at h 1 rfl) k) ?_
        refine vl_lift (n := 481) (st' := [.int (nI i), .ref b, .int (xs (((nI i) + 4)).toNatClampNeg), .int (xs (((nI i) + 3)).toNatClampNeg), .int (xs (((nI i) + 2)).toNatClampNeg), .int (xs (((nI i) + 1)).toNatClampNeg), .ref (xq X 0)]) (fun H locs ls hS h k => lv_iload_n hx hb dL_law_480 rfl (lv_at h 0 rfl) k) ?_
        refine vl_lift (n := 482) (st' := [.int 5, .int (nI i), .ref b, .int (xs (((nI i) + 4)).toNatClampNeg), .int (xs (((nI i) + 3)).toNatClampNeg), .int (xs (((nI i) + 2)).toNatClampNeg), .int (xs (((nI i) + 1)).toNatClampNeg), .ref (xq X 0)]) (fun H locs ls hS h k => lv_iconst (v := 5) hx hb dL_law_481 (by decide) k) ?_
        refine vl_lift (n := 483) (st' := [.int ((nI i) + 5), .ref b, .int (xs (((nI i) + 4)).toNatClampNeg), .int (xs (((nI i) + 3)).toNatClampNeg), .int (xs (((nI i) + 2)).toNatClampNeg), .int (xs (((nI i) + 1)).toNatClampNeg), .ref (xq X 0)]) (fun H locs ls hS h k => lv_iadd hx hb dL_law_482 k) ?_
        refine vl_lift (n := 484) (st' := [.int (xs (((nI i) + 5)).toNatClampNeg), .int (xs (((nI i) + 4)).toNatClampNeg), .int (xs (((nI i) + 3)).toNatClampNeg), .int (xs (((nI i) + 2)).toNatClampNeg), .int (xs (((nI i) + 1)).toNatClampNeg), .ref (xq X 0)]) (fun H locs ls hS h k => va_sld hx hb hX hbl hbA hS (scr_in 5 hgo hL (by decide)) dL_law_483 k) ?_
        obtain ⟨r, σx1, σm1, ex, em, hInv1⟩ := hI.2.2.2.2.2.2.2.2.2.1 σx σm (xs (((nI i) + 1)).toNatClampNeg) (xs (((nI i) + 2)).toNatClampNeg) (xs (((nI i) + 3)).toNatClampNeg) (xs (((nI i) + 4)).toNatClampNeg) (xs (((nI i) + 5)).toNatClampNeg) hInv
        refine vl_callX (n := 487) (As := [.int (xs (((nI i) + 1)).toNatClampNeg), .int (xs (((nI i) + 2)).toNatClampNeg), .int (xs (((nI i) + 3)).toNatClampNeg), .int (xs (((nI i) + 4)).toNatClampNeg), .int (xs (((nI i) + 5)).toNatClampNeg)]) (rest := []) hlx hx hb hml hown hts (T_X10_feed ex) (Nat.le_of_ble_eq_true rfl) mf_X10_feed rfl tw_708 tw_709 tw_707 rfl rfl (Nat.le_of_ble_eq_true rfl) dL_law_484 rfl ?_
        refine vl_lift (n := 488) (st' := [.ref (xq Y 0), .long r]) (fun H locs ls hS h k => lv_aload_n hx hb dL_law_487 rfl (lv_at h 3 rfl) k) ?_
        refine vl_lift (n := 489) (st' := [.ref b, .ref (xq Y 0), .long r]) (fun H locs ls hS h k => lv_aload_n hx hb dL_law_488 rfl (lv_at h 1 rfl) k) ?_
        refine vl_lift (n := 490) (st' := [.int (nI i), .ref b, .ref (xq Y 0), .long r]) (fun H locs ls hS h k => lv_iload_n hx hb dL_law_489 rfl (lv_at h 0 rfl) k) ?_
        refine vl_lift (n := 491) (st' := [.int 1, .int (nI i), .ref b, .ref (xq Y 0), .long r]) (fun H locs ls hS h k => lv_iconst (v := 1) hx hb dL_law_490 (by decide) k) ?_
        refine vl_lift (n := 492) (st' := [.int ((nI i) + 1), .ref b, .ref (xq Y 0), .long r]) (fun H locs ls hS h k => lv_iadd hx hb dL_law_491 k) ?_
        refine vl_lift (n := 493) (st' := [.int (xs (((nI i) + 1)).toNatClampNeg), .ref (xq Y 0), .long r]) (fun H locs ls hS h k => va_sld hx hb hX hbl hbA hS (scr_in 1 hgo hL (by decide)) dL_law_492 k) ?_
        refine vl_lift (n := 494) (st' := [.ref b, .int (xs (((nI i) + 1)).toNatClampNeg), .ref (xq Y 0), .long r]) (fun H locs ls hS h k => lv_aload_n hx hb dL_law_493 rfl (lv_at h 1 rfl) k) ?_
        refine vl_lift (n := 495) (st' := [.int (nI i), .ref b, .int (xs (((nI i) + 1)).toNatClampNeg), .ref (xq Y 0), .long r]) (fun H locs ls hS h k => lv_iload_n hx hb dL_law_494 rfl (lv_at h 0 rfl) k) ?_
        refine vl_lift (n := 496) (st' := [.int 2, .int (nI i), .ref b, .int (xs (((nI i) + 1)).toNatClampNeg), .ref (xq Y 0), .long r]) (fun H locs ls hS h k => lv_iconst (v := 2) hx hb dL_law_495 (by decide) k) ?_
        refine vl_lift (n := 497) (st' := [.int ((nI i) + 2), .ref b, .int (xs (((nI i) + 1)).toNatClampNeg), .ref (xq Y 0), .long r]) (fun H locs ls hS h k => lv_iadd hx hb dL_law_496 k) ?_
        refine vl_lift (n := 498) (st' := [.int (xs (((nI i) + 2)).toNatClampNeg), .int (xs (((nI i) + 1)).toNatClampNeg), .ref (xq Y 0), .long r]) (fun H locs ls hS h k => va_sld hx hb hX hbl hbA hS (scr_in 2 hgo hL (by decide)) dL_law_497 k) ?_
        refine vl_lift (n := 499) (st' := [.ref b, .int (xs (((nI i) + 2)).toNatClampNeg), .int (xs (((nI i) + 1)).toNatClampNeg), .ref (xq Y 0), .long r]) (fun H locs ls hS h k => lv_aload_n hx hb dL_law_498 rfl (lv_at h 1 rfl) k) ?_
        refine vl_lift (n := 500) (st' := [.int (nI i), .ref b, .int (xs (((nI i) + 2)).toNatClampNeg), .int (xs (((nI i) + 1)).toNatClampNeg), .ref (xq Y 0), .long r]) (fun H locs ls hS h k => lv_iload_n hx hb dL_law_499 rfl (lv_at h 0 rfl) k) ?_
        refine vl_lift (n := 501) (st' := [.int 3, .int (nI i), .ref b, .int (xs (((nI i) + 2)).toNatClampNeg), .int (xs (((nI i) + 1)).toNatClampNeg), .ref (xq Y 0), .long r]) (fun H locs ls hS h k => lv_iconst (v := 3) hx hb dL_law_500 (by decide) k) ?_
        refine vl_lift (n := 502) (st' := [.int ((nI i) + 3), .ref b, .int (xs (((nI i) + 2)).toNatClampNeg), .int (xs (((nI i) + 1)).toNatClampNeg), .ref (xq Y 0), .long r]) (fun H locs ls hS h k => lv_iadd hx hb dL_law_501 k) ?_
        refine vl_lift (n := 503) (st' := [.int (xs (((nI i) + 3)).toNatClampNeg), .int (xs (((nI i) + 2)).toNatClampNeg), .int (xs (((nI i) + 1)).toNatClampNeg), .ref (xq Y 0), .long r]) (fun H locs ls hS h k => va_sld hx hb hX hbl hbA hS (scr_in 3 hgo hL (by decide)) dL_law_502 k) ?_
        refine vl_lift (n := 504) (st' := [.ref b, .int (xs (((nI i) + 3)).toNatClampNeg), .int (xs (((nI i) + 2)).toNatClampNeg), .int (xs (((nI i) + 1)).toNatClampNeg), .ref (xq Y 0), .long r]) (fun H locs ls hS h k => lv_aload_n hx hb dL_law_503 rfl (lv_at h 1 rfl) k) ?_
        refine vl_lift (n := 505) (st' := [.int (nI i), .ref b, .int (xs (((nI i) + 3)).toNatClampNeg), .int (xs (((nI i) + 2)).toNatClampNeg), .int (xs (((nI i) + 1)).toNatClampNeg), .ref (xq Y 0), .long r]) (fun H locs ls hS h k => lv_iload_n hx hb dL_law_504 rfl (lv_at h 0 rfl) k) ?_
        refine vl_lift (n := 506) (st' := [.int 4, .int (nI i), .ref b, .int (xs (((nI i) + 3)).toNatClampNeg), .int (xs (((nI i) + 2)).toNatClampNeg), .int (xs (((nI i) + 1)).toNatClampNeg), .ref (xq Y 0), .long r]) (fun H locs ls hS h k => lv_iconst (v := 4) hx hb dL_law_505 (by decide) k) ?_
        refine vl_lift (n := 507) (st' := [.int ((nI i) + 4), .ref b, .int (xs (((nI i) + 3)).toNatClampNeg), .int (xs (((nI i) + 2)).toNatClampNeg), .int (xs (((nI i) + 1)).toNatClampNeg), .ref (xq Y 0), .long r]) (fun H locs ls hS h k => lv_iadd hx hb dL_law_506 k) ?_
        refine vl_lift (n := 508) (st' := [.int (xs (((nI i) + 4)).toNatClampNeg), .int (xs (((nI i) + 3)).toNatClampNeg), .int (xs (((nI i) + 2)).toNatClampNeg), .int (xs (((nI i) + 1)).toNatClampNeg), .ref (xq Y 0), .long r]) (fun H locs ls hS h k => va_sld hx hb hX hbl hbA hS (scr_in 4 hgo hL (by decide)) dL_law_507 k) ?_
        refine vl_lift (n := 509) (st' := [.ref b, .int (xs (((nI i) + 4)).toNatClampNeg), .int (xs (((nI i) + 3)).toNatClampNeg), .int (xs (((nI i) + 2)).toNatClampNeg), .int (xs (((nI i) + 1)).toNatClampNeg), .ref (xq Y 0), .long r]) (fun H locs ls hS h k => lv_aload_n hx hb dL_law_508 rfl (lv_at h 1 rfl) k) ?_
        refine vl_lift (n := 510) (st' := [.int (nI i), .ref b, .int (xs (((nI i) + 4)).toNatClampNeg), .int (xs (((nI i) + 3)).toNatClampNeg), .int (xs (((nI i) + 2)).toNatClampNeg), .int (xs (((nI i) + 1)).toNatClampNeg), .ref (xq Y 0), .long r]) (fun H locs ls hS h k => lv_iload_n hx hb dL_law_509 rfl (lv_at h 0 rfl) k) ?_
        refine vl_lift (n := 511) (st' := [.int 5, .int (nI i), .ref b, .int (xs (((nI i) + 4)).toNatClampNeg), .int (xs (((nI i) + 3)).toNatClampNeg), .int (xs (((nI i) + 2)).toNatClampNeg), .int (xs (((nI i) + 1)).toNatClampNeg), .ref (xq Y 0), .long r]) (fun H locs ls hS h k => lv_iconst (v := 5) hx hb dL_law_510 (by decide) k) ?_
        refine vl_lift (n := 512) (st' := [.int ((nI i) + 5), .ref b, .int (xs (((nI i) + 4)).toNatClampNeg), .int (xs (((nI i) + 3)).toNatClampNeg), .int (xs (((nI i) + 2)).toNatClampNeg), .int (xs (((nI i) + 1)).toNatClampNeg), .ref (xq Y 0), .long r]) (fun H locs ls hS h k => lv_iadd hx hb dL_law_511 k) ?_
        refine vl_lift (n := 513) (st' := [.int (xs (((nI i) + 5)).toNatClampNeg), .int (xs (((nI i) + 4)).toNatClampNeg), .int (xs (((nI i) + 3)).toNatClampNeg), .int (xs (((nI i) + 2)).toNatClampNeg), .int (xs (((nI i) + 1)).toNatClampNeg), .ref (xq Y 0), .long r]) (fun H locs ls hS h k => va_sld hx hb hX hbl hbA hS (scr_in 5 hgo hL (by decide)) dL_law_512 k) ?_
        refine vl_callM (n := 516) (As := [.int (xs (((nI i) + 1)).toNatClampNeg), .int (xs (((nI i) + 2)).toNatClampNeg), .int (xs (((nI i) + 3)).toNatClampNeg), .int (xs (((nI i) + 4)).toNatClampNeg), .int (xs (((nI i) + 5)).toNatClampNeg)]) (rest := [.long r]) hly hx hb hml hown hts (T_X11_feed em) (Nat.le_of_ble_eq_true rfl) mf_X11_feed rfl tw_1238 tw_1239 tw_1237 rfl rfl (Nat.le_of_ble_eq_true rfl) dL_law_513 rfl ?_
        refine vl_same (t := 656) hx hb dL_law_516 rfl dL_law_517 (by decide) ?_
        exact hnext σx1 σm1 hInv1
      by_cases c11 : ((xs ((nI i)).toNatClampNeg) &&& 15) = 10
      · refine vl_lift (n := 522) (st' := []) (fun H locs ls hS h k => lv_tableIn (tgt := 522) hx hb dL_law_33 (by rw [c11]; decide) (by rw [c11]; decide) (by rw [c11]; rfl) (by decide) k) ?_
        refine vl_lift (n := 523) (st' := [.ref (xq X 0)]) (fun H locs ls hS h k => lv_aload_n hx hb dL_law_522 rfl (lv_at h 2 rfl) k) ?_
        refine vl_lift (n := 524) (st' := [.ref b, .ref (xq X 0)]) (fun H locs ls hS h k => lv_aload_n hx hb dL_law_523 rfl (lv_at h 1 rfl) k) ?_
        refine vl_lift (n := 525) (st' := [.int (nI i), .ref b, .ref (xq X 0)]) (fun H locs ls hS h k => lv_iload_n hx hb dL_law_524 rfl (lv_at h 0 rfl) k) ?_
        refine vl_lift (n := 526) (st' := [.int 1, .int (nI i), .ref b, .ref (xq X 0)]) (fun H locs ls hS h k => lv_iconst (v := 1) hx hb dL_law_525 (by decide) k) ?_
        refine vl_lift (n := 527) (st' := [.int ((nI i) + 1), .ref b, .ref (xq X 0)]) (fun H locs ls hS h k => lv_iadd hx hb dL_law_526 k) ?_
        refine vl_lift (n := 528) (st' := [.int (xs (((nI i) + 1)).toNatClampNeg), .ref (xq X 0)]) (fun H locs ls hS h k => va_sld hx hb hX hbl hbA hS (scr_in 1 hgo hL (by decide)) dL_law_527 k) ?_
        obtain ⟨r, σx1, σm1, ex, em, hInv1⟩ := hI.2.2.2.2.2.2.2.2.2.2.1 σx σm (xs (((nI i) + 1)).toNatClampNeg) hInv
        refine vl_callX (n := 531) (As := [.int (xs (((nI i) + 1)).toNatClampNeg)]) (rest := []) hlx hx hb hml hown hts (T_X10_trim ex) (Nat.le_of_ble_eq_true rfl) mf_X10_trim rfl tw_716 tw_717 tw_715 rfl rfl (Nat.le_of_ble_eq_true rfl) dL_law_528 rfl ?_
        refine vl_lift (n := 532) (st' := [.ref (xq Y 0), .long r]) (fun H locs ls hS h k => lv_aload_n hx hb dL_law_531 rfl (lv_at h 3 rfl) k) ?_
        refine vl_lift (n := 533) (st' := [.ref b, .ref (xq Y 0), .long r]) (fun H locs ls hS h k => lv_aload_n hx hb dL_law_532 rfl (lv_at h 1 rfl) k) ?_
        refine vl_lift (n := 534) (st' := [.int (nI i), .ref b, .ref (xq Y 0), .long r]) (fun H locs ls hS h k => lv_iload_n hx hb dL_law_533 rfl (lv_at h 0 rfl) k) ?_
        refine vl_lift (n := 535) (st' := [.int 1, .int (nI i), .ref b, .ref (xq Y 0), .long r]) (fun H locs ls hS h k => lv_iconst (v := 1) hx hb dL_law_534 (by decide) k) ?_
        refine vl_lift (n := 536) (st' := [.int ((nI i) + 1), .ref b, .ref (xq Y 0), .long r]) (fun H locs ls hS h k => lv_iadd hx hb dL_law_535 k) ?_
        refine vl_lift (n := 537) (st' := [.int (xs (((nI i) + 1)).toNatClampNeg), .ref (xq Y 0), .long r]) (fun H locs ls hS h k => va_sld hx hb hX hbl hbA hS (scr_in 1 hgo hL (by decide)) dL_law_536 k) ?_
        refine vl_callM (n := 540) (As := [.int (xs (((nI i) + 1)).toNatClampNeg)]) (rest := [.long r]) hly hx hb hml hown hts (T_X11_trim em) (Nat.le_of_ble_eq_true rfl) mf_X11_trim rfl tw_1246 tw_1247 tw_1245 rfl rfl (Nat.le_of_ble_eq_true rfl) dL_law_537 rfl ?_
        refine vl_same (t := 656) hx hb dL_law_540 rfl dL_law_541 (by decide) ?_
        exact hnext σx1 σm1 hInv1
      by_cases c12 : ((xs ((nI i)).toNatClampNeg) &&& 15) = 11
      · refine vl_lift (n := 546) (st' := []) (fun H locs ls hS h k => lv_tableIn (tgt := 546) hx hb dL_law_33 (by rw [c12]; decide) (by rw [c12]; decide) (by rw [c12]; rfl) (by decide) k) ?_
        refine vl_lift (n := 547) (st' := [.ref (xq X 0)]) (fun H locs ls hS h k => lv_aload_n hx hb dL_law_546 rfl (lv_at h 2 rfl) k) ?_
        obtain ⟨r, σx1, σm1, ex, em, hInv1⟩ := hI.2.2.2.2.2.2.2.2.2.2.2.1 σx σm  hInv
        refine vl_callX (n := 550) (As := []) (rest := []) hlx hx hb hml hown hts (T_X10_again ex) (Nat.le_of_ble_eq_true rfl) mf_X10_again rfl tw_721 tw_722 tw_720 rfl rfl (Nat.le_of_ble_eq_true rfl) dL_law_547 rfl ?_
        refine vl_lift (n := 551) (st' := [.ref (xq Y 0), .long r]) (fun H locs ls hS h k => lv_aload_n hx hb dL_law_550 rfl (lv_at h 3 rfl) k) ?_
        refine vl_callM (n := 554) (As := []) (rest := [.long r]) hly hx hb hml hown hts (T_X11_again em) (Nat.le_of_ble_eq_true rfl) mf_X11_again rfl tw_1250 tw_1251 tw_1249 rfl rfl (Nat.le_of_ble_eq_true rfl) dL_law_551 rfl ?_
        refine vl_same (t := 656) hx hb dL_law_554 rfl dL_law_555 (by decide) ?_
        exact hnext σx1 σm1 hInv1
      by_cases c13 : ((xs ((nI i)).toNatClampNeg) &&& 15) = 12
      · refine vl_lift (n := 560) (st' := []) (fun H locs ls hS h k => lv_tableIn (tgt := 560) hx hb dL_law_33 (by rw [c13]; decide) (by rw [c13]; decide) (by rw [c13]; rfl) (by decide) k) ?_
        refine vl_lift (n := 561) (st' := [.ref (xq X 0)]) (fun H locs ls hS h k => lv_aload_n hx hb dL_law_560 rfl (lv_at h 2 rfl) k) ?_
        refine vl_lift (n := 562) (st' := [.ref b, .ref (xq X 0)]) (fun H locs ls hS h k => lv_aload_n hx hb dL_law_561 rfl (lv_at h 1 rfl) k) ?_
        refine vl_lift (n := 563) (st' := [.int (nI i), .ref b, .ref (xq X 0)]) (fun H locs ls hS h k => lv_iload_n hx hb dL_law_562 rfl (lv_at h 0 rfl) k) ?_
        refine vl_lift (n := 564) (st' := [.int 1, .int (nI i), .ref b, .ref (xq X 0)]) (fun H locs ls hS h k => lv_iconst (v := 1) hx hb dL_law_563 (by decide) k) ?_
        refine vl_lift (n := 565) (st' := [.int ((nI i) + 1), .ref b, .ref (xq X 0)]) (fun H locs ls hS h k => lv_iadd hx hb dL_law_564 k) ?_
        refine vl_lift (n := 566) (st' := [.int (xs (((nI i) + 1)).toNatClampNeg), .ref (xq X 0)]) (fun H locs ls hS h k => va_sld hx hb hX hbl hbA hS (scr_in 1 hgo hL (by decide)) dL_law_565 k) ?_
        obtain ⟨r, σx1, σm1, ex, em, hInv1⟩ := hI.2.2.2.2.2.2.2.2.2.2.2.2.1 σx σm (xs (((nI i) + 1)).toNatClampNeg) hInv
        refine vl_callX (n := 569) (As := [.int (xs (((nI i) + 1)).toNatClampNeg)]) (rest := []) hlx hx hb hml hown hts (T_X10_read ex) (Nat.le_of_ble_eq_true rfl) mf_X10_read rfl tw_725 tw_726 tw_724 rfl rfl (Nat.le_of_ble_eq_true rfl) dL_law_566 rfl ?_
        refine vl_lift (n := 570) (st' := [.ref (xq Y 0), .long r]) (fun H locs ls hS h k => lv_aload_n hx hb dL_law_569 rfl (lv_at h 3 rfl) k) ?_
        refine vl_lift (n := 571) (st' := [.ref b, .ref (xq Y 0), .long r]) (fun H locs ls hS h k => lv_aload_n hx hb dL_law_570 rfl (lv_at h 1 rfl) k) ?_
        refine vl_lift (n := 572) (st' := [.int (nI i), .ref b, .ref (xq Y 0), .long r]) (fun H locs ls hS h k => lv_iload_n hx hb dL_law_571 rfl (lv_at h 0 rfl) k) ?_
        refine vl_lift (n := 573) (st' := [.int 1, .int (nI i), .ref b, .ref (xq Y 0), .long r]) (fun H locs ls hS h k => lv_iconst (v := 1) hx hb dL_law_572 (by decide) k) ?_
        refine vl_lift (n := 574) (st' := [.int ((nI i) + 1), .ref b, .ref (xq Y 0), .long r]) (fun H locs ls hS h k => lv_iadd hx hb dL_law_573 k) ?_
        refine vl_lift (n := 575) (st' := [.int (xs (((nI i) + 1)).toNatClampNeg), .ref (xq Y 0), .long r]) (fun H locs ls hS h k => va_sld hx hb hX hbl hbA hS (scr_in 1 hgo hL (by decide)) dL_law_574 k) ?_
        refine vl_callM (n := 578) (As := [.int (xs (((nI i) + 1)).toNatClampNeg)]) (rest := [.long r]) hly hx hb hml hown hts (T_X11_read em) (Nat.le_of_ble_eq_true rfl) mf_X11_read rfl tw_1254 tw_1255 tw_1253 rfl rfl (Nat.le_of_ble_eq_true rfl) dL_law_575 rfl ?_
        refine vl_same (t := 656) hx hb dL_law_578 rfl dL_law_579 (by decide) ?_
        exact hnext σx1 σm1 hInv1
      by_cases c14 : ((xs ((nI i)).toNatClampNeg) &&& 15) = 13
      · refine vl_lift (n := 584) (st' := []) (fun H locs ls hS h k => lv_tableIn (tgt := 584) hx hb dL_law_33 (by rw [c14]; decide) (by rw [c14]; decide) (by rw [c14]; rfl) (by decide) k) ?_
        refine vl_lift (n := 585) (st' := [.ref (xq X 0)]) (fun H locs ls hS h k => lv_aload_n hx hb dL_law_584 rfl (lv_at h 2 rfl) k) ?_
        refine vl_lift (n := 586) (st' := [.ref b, .ref (xq X 0)]) (fun H locs ls hS h k => lv_aload_n hx hb dL_law_585 rfl (lv_at h 1 rfl) k) ?_
        refine vl_lift (n := 587) (st' := [.int (nI i), .ref b, .ref (xq X 0)]) (fun H locs ls hS h k => lv_iload_n hx hb dL_law_586 rfl (lv_at h 0 rfl) k) ?_
        refine vl_lift (n := 588) (st' := [.int 1, .int (nI i), .ref b, .ref (xq X 0)]) (fun H locs ls hS h k => lv_iconst (v := 1) hx hb dL_law_587 (by decide) k) ?_
        refine vl_lift (n := 589) (st' := [.int ((nI i) + 1), .ref b, .ref (xq X 0)]) (fun H locs ls hS h k => lv_iadd hx hb dL_law_588 k) ?_
        refine vl_lift (n := 590) (st' := [.int (xs (((nI i) + 1)).toNatClampNeg), .ref (xq X 0)]) (fun H locs ls hS h k => va_sld hx hb hX hbl hbA hS (scr_in 1 hgo hL (by decide)) dL_law_589 k) ?_
        obtain ⟨r, ex, em⟩ := hI.2.2.2.2.2.2.2.2.2.2.2.2.2.1 σx σm (xs (((nI i) + 1)).toNatClampNeg) hInv
        refine vl_callX (n := 593) (As := [.int (xs (((nI i) + 1)).toNatClampNeg)]) (rest := []) hlx hx hb hml hown hts (T_X10_found ex) (Nat.le_of_ble_eq_true rfl) mf_X10_found rfl tw_918 tw_919 tw_917 rfl rfl (Nat.le_of_ble_eq_true rfl) dL_law_590 rfl ?_
        refine vl_lift (n := 594) (st' := [.ref (xq Y 0), .long r]) (fun H locs ls hS h k => lv_aload_n hx hb dL_law_593 rfl (lv_at h 3 rfl) k) ?_
        refine vl_lift (n := 595) (st' := [.ref b, .ref (xq Y 0), .long r]) (fun H locs ls hS h k => lv_aload_n hx hb dL_law_594 rfl (lv_at h 1 rfl) k) ?_
        refine vl_lift (n := 596) (st' := [.int (nI i), .ref b, .ref (xq Y 0), .long r]) (fun H locs ls hS h k => lv_iload_n hx hb dL_law_595 rfl (lv_at h 0 rfl) k) ?_
        refine vl_lift (n := 597) (st' := [.int 1, .int (nI i), .ref b, .ref (xq Y 0), .long r]) (fun H locs ls hS h k => lv_iconst (v := 1) hx hb dL_law_596 (by decide) k) ?_
        refine vl_lift (n := 598) (st' := [.int ((nI i) + 1), .ref b, .ref (xq Y 0), .long r]) (fun H locs ls hS h k => lv_iadd hx hb dL_law_597 k) ?_
        refine vl_lift (n := 599) (st' := [.int (xs (((nI i) + 1)).toNatClampNeg), .ref (xq Y 0), .long r]) (fun H locs ls hS h k => va_sld hx hb hX hbl hbA hS (scr_in 1 hgo hL (by decide)) dL_law_598 k) ?_
        refine vl_callM (n := 602) (As := [.int (xs (((nI i) + 1)).toNatClampNeg)]) (rest := [.long r]) hly hx hb hml hown hts (T_X11_found em) (Nat.le_of_ble_eq_true rfl) mf_X11_found rfl tw_1323 tw_1324 tw_1322 rfl rfl (Nat.le_of_ble_eq_true rfl) dL_law_599 rfl ?_
        refine vl_same (t := 656) hx hb dL_law_602 rfl dL_law_603 (by decide) ?_
        exact hnext σx σm hInv
      by_cases c15 : ((xs ((nI i)).toNatClampNeg) &&& 15) = 14
      · refine vl_lift (n := 608) (st' := []) (fun H locs ls hS h k => lv_tableIn (tgt := 608) hx hb dL_law_33 (by rw [c15]; decide) (by rw [c15]; decide) (by rw [c15]; rfl) (by decide) k) ?_
        refine vl_lift (n := 609) (st' := [.ref (xq X 0)]) (fun H locs ls hS h k => lv_aload_n hx hb dL_law_608 rfl (lv_at h 2 rfl) k) ?_
        refine vl_lift (n := 610) (st' := [.ref b, .ref (xq X 0)]) (fun H locs ls hS h k => lv_aload_n hx hb dL_law_609 rfl (lv_at h 1 rfl) k) ?_
        refine vl_lift (n := 611) (st' := [.int (nI i), .ref b, .ref (xq X 0)]) (fun H locs ls hS h k => lv_iload_n hx hb dL_law_610 rfl (lv_at h 0 rfl) k) ?_
        refine vl_lift (n := 612) (st' := [.int 1, .int (nI i), .ref b, .ref (xq X 0)]) (fun H locs ls hS h k => lv_iconst (v := 1) hx hb dL_law_611 (by decide) k) ?_
        refine vl_lift (n := 613) (st' := [.int ((nI i) + 1), .ref b, .ref (xq X 0)]) (fun H locs ls hS h k => lv_iadd hx hb dL_law_612 k) ?_
        refine vl_lift (n := 614) (st' := [.int (xs (((nI i) + 1)).toNatClampNeg), .ref (xq X 0)]) (fun H locs ls hS h k => va_sld hx hb hX hbl hbA hS (scr_in 1 hgo hL (by decide)) dL_law_613 k) ?_
        obtain ⟨r, ex, em⟩ := hI.2.2.2.2.2.2.2.2.2.2.2.2.2.2.1 σx σm (xs (((nI i) + 1)).toNatClampNeg) hInv
        refine vl_callX (n := 617) (As := [.int (xs (((nI i) + 1)).toNatClampNeg)]) (rest := []) hlx hx hb hml hown hts (T_X10_out ex) (Nat.le_of_ble_eq_true rfl) mf_X10_out rfl tw_922 tw_923 tw_921 rfl rfl (Nat.le_of_ble_eq_true rfl) dL_law_614 rfl ?_
        refine vl_lift (n := 618) (st' := [.ref (xq Y 0), .long r]) (fun H locs ls hS h k => lv_aload_n hx hb dL_law_617 rfl (lv_at h 3 rfl) k) ?_
        refine vl_lift (n := 619) (st' := [.ref b, .ref (xq Y 0), .long r]) (fun H locs ls hS h k => lv_aload_n hx hb dL_law_618 rfl (lv_at h 1 rfl) k) ?_
        refine vl_lift (n := 620) (st' := [.int (nI i), .ref b, .ref (xq Y 0), .long r]) (fun H locs ls hS h k => lv_iload_n hx hb dL_law_619 rfl (lv_at h 0 rfl) k) ?_
        refine vl_lift (n := 621) (st' := [.int 1, .int (nI i), .ref b, .ref (xq Y 0), .long r]) (fun H locs ls hS h k => lv_iconst (v := 1) hx hb dL_law_620 (by decide) k) ?_
        refine vl_lift (n := 622) (st' := [.int ((nI i) + 1), .ref b, .ref (xq Y 0), .long r]) (fun H locs ls hS h k => lv_iadd hx hb dL_law_621 k) ?_
        refine vl_lift (n := 623) (st' := [.int (xs (((nI i) + 1)).toNatClampNeg), .ref (xq Y 0), .long r]) (fun H locs ls hS h k => va_sld hx hb hX hbl hbA hS (scr_in 1 hgo hL (by decide)) dL_law_622 k) ?_
        refine vl_callM (n := 626) (As := [.int (xs (((nI i) + 1)).toNatClampNeg)]) (rest := [.long r]) hly hx hb hml hown hts (T_X11_out em) (Nat.le_of_ble_eq_true rfl) mf_X11_out rfl tw_1327 tw_1328 tw_1326 rfl rfl (Nat.le_of_ble_eq_true rfl) dL_law_623 rfl ?_
        refine vl_same (t := 656) hx hb dL_law_626 rfl dL_law_627 (by decide) ?_
        exact hnext σx σm hInv
      by_cases c16 : ((xs ((nI i)).toNatClampNeg) &&& 15) = 15
      · refine vl_lift (n := 632) (st' := []) (fun H locs ls hS h k => lv_tableIn (tgt := 632) hx hb dL_law_33 (by rw [c16]; decide) (by rw [c16]; decide) (by rw [c16]; rfl) (by decide) k) ?_
        refine vl_lift (n := 633) (st' := [.ref (xq X 0)]) (fun H locs ls hS h k => lv_aload_n hx hb dL_law_632 rfl (lv_at h 2 rfl) k) ?_
        refine vl_lift (n := 634) (st' := [.ref b, .ref (xq X 0)]) (fun H locs ls hS h k => lv_aload_n hx hb dL_law_633 rfl (lv_at h 1 rfl) k) ?_
        refine vl_lift (n := 635) (st' := [.int (nI i), .ref b, .ref (xq X 0)]) (fun H locs ls hS h k => lv_iload_n hx hb dL_law_634 rfl (lv_at h 0 rfl) k) ?_
        refine vl_lift (n := 636) (st' := [.int 1, .int (nI i), .ref b, .ref (xq X 0)]) (fun H locs ls hS h k => lv_iconst (v := 1) hx hb dL_law_635 (by decide) k) ?_
        refine vl_lift (n := 637) (st' := [.int ((nI i) + 1), .ref b, .ref (xq X 0)]) (fun H locs ls hS h k => lv_iadd hx hb dL_law_636 k) ?_
        refine vl_lift (n := 638) (st' := [.int (xs (((nI i) + 1)).toNatClampNeg), .ref (xq X 0)]) (fun H locs ls hS h k => va_sld hx hb hX hbl hbA hS (scr_in 1 hgo hL (by decide)) dL_law_637 k) ?_
        obtain ⟨r, ex, em⟩ := hI.2.2.2.2.2.2.2.2.2.2.2.2.2.2.2 σx σm (xs (((nI i) + 1)).toNatClampNeg) hInv
        refine vl_callX (n := 641) (As := [.int (xs (((nI i) + 1)).toNatClampNeg)]) (rest := []) hlx hx hb hml hown hts (T_X10_state ex) (Nat.le_of_ble_eq_true rfl) mf_X10_state rfl tw_927 tw_928 tw_926 rfl rfl (Nat.le_of_ble_eq_true rfl) dL_law_638 rfl ?_
        refine vl_lift (n := 642) (st' := [.ref (xq Y 0), .long r]) (fun H locs ls hS h k => lv_aload_n hx hb dL_law_641 rfl (lv_at h 3 rfl) k) ?_
        refine vl_lift (n := 643) (st' := [.ref b, .ref (xq Y 0), .long r]) (fun H locs ls hS h k => lv_aload_n hx hb dL_law_642 rfl (lv_at h 1 rfl) k) ?_
        refine vl_lift (n := 644) (st' := [.int (nI i), .ref b, .ref (xq Y 0), .long r]) (fun H locs ls hS h k => lv_iload_n hx hb dL_law_643 rfl (lv_at h 0 rfl) k) ?_
        refine vl_lift (n := 645) (st' := [.int 1, .int (nI i), .ref b, .ref (xq Y 0), .long r]) (fun H locs ls hS h k => lv_iconst (v := 1) hx hb dL_law_644 (by decide) k) ?_
        refine vl_lift (n := 646) (st' := [.int ((nI i) + 1), .ref b, .ref (xq Y 0), .long r]) (fun H locs ls hS h k => lv_iadd hx hb dL_law_645 k) ?_
        refine vl_lift (n := 647) (st' := [.int (xs (((nI i) + 1)).toNatClampNeg), .ref (xq Y 0), .long r]) (fun H locs ls hS h k => va_sld hx hb hX hbl hbA hS (scr_in 1 hgo hL (by decide)) dL_law_646 k) ?_
        refine vl_callM (n := 650) (As := [.int (xs (((nI i) + 1)).toNatClampNeg)]) (rest := [.long r]) hly hx hb hml hown hts (T_X11_state em) (Nat.le_of_ble_eq_true rfl) mf_X11_state rfl tw_1331 tw_1332 tw_1330 rfl rfl (Nat.le_of_ble_eq_true rfl) dL_law_647 rfl ?_
        refine vl_same (t := 656) hx hb dL_law_650 rfl dL_law_651 (by decide) ?_
        exact hnext σx σm hInv
      refine vl_lift (n := 656) (st' := []) (fun H locs ls hS h k => lv_tableOut (tgt := 656) hx hb dL_law_33 (by have z0 := neL c1 (z := 0) rfl; have z1 := neL c2 (z := 1) rfl; have z2 := neL c3 (z := 2) rfl; have z3 := neL c4 (z := 3) rfl; have z4 := neL c5 (z := 4) rfl; have z5 := neL c6 (z := 5) rfl; have z6 := neL c7 (z := 6) rfl; have z7 := neL c8 (z := 7) rfl; have z8 := neL c9 (z := 8) rfl; have z9 := neL c10 (z := 9) rfl; have z10 := neL c11 (z := 10) rfl; have z11 := neL c12 (z := 11) rfl; have z12 := neL c13 (z := 12) rfl; have z13 := neL c14 (z := 13) rfl; have z14 := neL c15 (z := 14) rfl; have z15 := neL c16 (z := 15) rfl; omega) (by decide) k) ?_
      exact hnext σx σm hInv
