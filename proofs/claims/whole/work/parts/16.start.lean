/-- a call of a constructor in any walk, whose world is the one cell b, at place q0 -/
theorem w_ctor {C : CE} {p : Program} {e : Env} {R : Room} {s : State} {m : MethodId} {args : Array Value} {below : List Frame} {meth : Method} {c : Code} {H : Heap} {locs : List Loc} {cells slots : Nat} {Q : State → Prop} {own : String} {cc : ByteArray} {nL pc : Nat} {ls : Array Slot} {A : Nat → Prop} {ws : va_W}
    {d1 mc1 ms1 b ci q0 nLy index k : Nat} {y : MethodName} {cy : ByteArray} {As rest : List Value} {fs : List Value} {Ψ : va_W → Prop} {wr : va_W} {isR : List Nat}
    (hx : p.tables.exec = Jvm.exec) (hb : c.code = cc) (hml : c.maxLocals = nL) (hown : s.vm.findClass own = some m.cls) (hts : ∀ w ∈ lw_g, w.before args s = true) (hA : ∀ q : Nat, s.heap.size ≤ q → A q) (hK : va_K (cD C) vwCl (cT C) s) (hP : va_P (cD C) vwCl ws H) (hD : va_D A ws) (hS : va_S A s.heap H locs) (hN : NWC s) (hls : ls.size = nL)
    (hl : (Cond.methodLink own index y).before args s = true)
    (hM : Ct C d1 y cy nLy (.ref b :: As) [(b, .inr (ci, fs))] mc1 ms1 Ψ) (hroom : d1 + 1 ≤ R.frames ∧ 8 + (nLy + 11) + 40 * d1 ≤ R.locals) (hmf : MF y cy nLy none k) (hk : As.length = k) (hy1 : y.name = "<init>") (hins : Cond.instanceMethod y ∈ lw_g)
    (he : ws[q0]? = some (b, .inr (ci, fs))) (hR : isR.map (fun i => ws[i]?) = wr.map some) (hnd : va_nd isR = true) (hdis : ∀ i ∈ isR, i ∉ [q0]) (hrm : (rest.map fun v => v.category).sum ≤ 8) (hce : cells + mc1 ≤ R.cells) (hsl : slots + ms1 ≤ R.slots) (dd : decode cc pc = .ok (.invokespecial index, 3))
    (K : ∀ (w1 : va_W) (H1 : Heap) (locs1 : List Loc), Ψ w1 → va_P (cD C) vwCl (wr ++ w1) H1 → va_D A (wr ++ w1) → va_S A s.heap H1 locs1 → W p (cl0 C) e R s m args below meth c H1 locs1 (cells + mc1) (slots + ms1) Q (F0 m (pc + 3) ls rest)) : W p (cl0 C) e R s m args below meth c H locs cells slots Q (F0 m pc ls (As.reverse ++ .ref b :: rest)) := by
  have hwc : [q0].map (fun i => ws[i]?) = [((b, .inr (ci, fs)) : Nat × va_E)].map some := by simp [he]
  have hPc : va_P (cD C) vwCl [(b, .inr (ci, fs))] H := hP.sub [q0] (by simp [he])
  have hDc := hD.sub (ws' := [(b, .inr (ci, fs))]) [q0] (by simp [va_nd]) hwc
  have hFc := va_free (wc := [(b, .inr (ci, fs))]) hD hS hA [q0] hwc
  have hpre : PreS s H (va_Pc (.ref b :: As) (EC C [(b, .inr (ci, fs))] H.size)) (.ref b :: As) := ⟨EC.blind, fun U hU hW => ⟨rfl, by rw [hU], by rw [hU]; exact hPc, va_K.moved hW.alike hK, hDc.weaken (fun _ _ _ _ => trivial), hN.warm hW⟩⟩
  have hrun : va_Run p (cl0 C) e R s m args below meth c H locs cells slots mc1 ms1 (F0 m pc ls (As.reverse ++ .ref b :: rest)) rest (QC C Ψ (va_A [(b, .inr (ci, fs))] H.size) (Value.ref b :: As).toArray) (va_A [(b, .inr (ci, fs))] H.size) :=
    va_runI (As := As) (rest := rest) (y := y) (Ts := lw_g) ⟨hx, hb, hml, hown, hts⟩ (hM H.size) ⟨callB_of k hts hmf.good rfl rfl rfl (hts _ hmf.2.2.1) hl hmf.2.2.2 hroom, hy1, hts _ hins⟩ hpre rfl hk hls rfl (lv_room hrm) dd ⟨hce, hsl⟩
  intro T hT X
  obtain ⟨v, st₀, t, T', L, h0, X', hL, e1, e2, ⟨⟨hv, w1, hΨ, hP1, hD1⟩, hz, hk1⟩, go⟩ := hrun T hT X
  cases hv
  rw [h0] at hz hk1
  obtain ⟨hPn, hDn⟩ := va_join (wr := wr) (w1 := w1) hP hD [q0] isR hwc hR hnd hdis hk1 hFc hP1 hD1
  obtain ⟨t2, a1, b1⟩ := K w1 T'.heap (locs ++ L) hΨ (by rw [e1]; exact hPn) hDn ⟨Nat.le_trans hS.1 (by rw [e1]; exact hz), fun q h1 h2 => by rw [e1, hk1 q (Nat.lt_of_lt_of_le h1 hS.1) (fun z => h2 (hFc q z))]; exact hS.2.1 q h1 h2, fun q hq => by
      rcases List.mem_append.mp hq with z | z
      · exact hS.2.2 q z
      · exact hFc _ (hL q z)⟩ T' rfl X'
  exact ⟨t2, go t2 a1, b1⟩
/-- the addresses of a list of cells -/
def adr (ws : va_W) : Nat → Prop := fun a => ∃ (k : Nat) (e : va_E), ws[k]? = some (a, e)
set_option maxRecDepth 100000 in
set_option maxHeartbeats 4000000 in
theorem stt_of {args : Array Value} {s : State} {G : GE} {tO tC : Nat} (hO : gO G = tO) (hC : gC G = tC) (hA : ∀ a : Nat, a < s.heap.size → ¬ gA G a) (l1 : (Cond.laysStatic "ShapeHouse" "OPENER" "[C").before args s = true) (l2 : (Cond.laysStatic "ShapeHouse" "CLOSER" "[C").before args s = true) (li : (Cond.initialized "ShapeHouse").before args s = true)
    (e1 : (Term.static "ShapeHouse" "OPENER" "[C").eval args s none [] s = some (.ref tO)) (e2 : (Term.static "ShapeHouse" "CLOSER" "[C").eval args s none [] s = some (.ref tC)) (hs : ∀ w ∈ flatC (Jvm.Cond.and given_1 narrow_1), w.before args s = true) : Stt G s s.heap := by
  subst hO hC
  refine ⟨va_Zref l1 li e1 hA, ?_, va_Zref l2 li e2 hA, ?_⟩
  · obtain ⟨t, ht, hT⟩ := va_Tof (args := args) (tm := Term.static "ShapeHouse" "OPENER" "[C") (ty := .char) (N := 9) (f := fun j => .int (chO j)) (A := gA G) (by decide) (hs _ (by decide +kernel)) (va_eqt (hs _ (by decide +kernel))) (fun j hj => by
      rcases (show j = 0 ∨ j = 1 ∨ j = 2 ∨ j = 3 ∨ j = 4 ∨ j = 5 ∨ j = 6 ∨ j = 7 ∨ j = 8 by omega) with rfl | rfl | rfl | rfl | rfl | rfl | rfl | rfl | rfl
      · exact va_eqt (t := Term.elem (Term.static "ShapeHouse" "OPENER" "[C") (.int 0)) (z := chO 0) (hs _ (by decide +kernel))
      · exact va_eqt (t := Term.elem (Term.static "ShapeHouse" "OPENER" "[C") (.int 1)) (z := chO 1) (hs _ (by decide +kernel))
      · exact va_eqt (t := Term.elem (Term.static "ShapeHouse" "OPENER" "[C") (.int 2)) (z := chO 2) (hs _ (by decide +kernel))
      · exact va_eqt (t := Term.elem (Term.static "ShapeHouse" "OPENER" "[C") (.int 3)) (z := chO 3) (hs _ (by decide +kernel))
      · exact va_eqt (t := Term.elem (Term.static "ShapeHouse" "OPENER" "[C") (.int 4)) (z := chO 4) (hs _ (by decide +kernel))
      · exact va_eqt (t := Term.elem (Term.static "ShapeHouse" "OPENER" "[C") (.int 5)) (z := chO 5) (hs _ (by decide +kernel))
      · exact va_eqt (t := Term.elem (Term.static "ShapeHouse" "OPENER" "[C") (.int 6)) (z := chO 6) (hs _ (by decide +kernel))
      · exact va_eqt (t := Term.elem (Term.static "ShapeHouse" "OPENER" "[C") (.int 7)) (z := chO 7) (hs _ (by decide +kernel))
      · exact va_eqt (t := Term.elem (Term.static "ShapeHouse" "OPENER" "[C") (.int 8)) (z := chO 8) (hs _ (by decide +kernel))
      ) hA
    cases ht.symm.trans e1
    exact hT
  · obtain ⟨t, ht, hT⟩ := va_Tof (args := args) (tm := Term.static "ShapeHouse" "CLOSER" "[C") (ty := .char) (N := 9) (f := fun j => .int (chC j)) (A := gA G) (by decide) (hs _ (by decide +kernel)) (va_eqt (hs _ (by decide +kernel))) (fun j hj => by
      rcases (show j = 0 ∨ j = 1 ∨ j = 2 ∨ j = 3 ∨ j = 4 ∨ j = 5 ∨ j = 6 ∨ j = 7 ∨ j = 8 by omega) with rfl | rfl | rfl | rfl | rfl | rfl | rfl | rfl | rfl
      · exact va_eqt (t := Term.elem (Term.static "ShapeHouse" "CLOSER" "[C") (.int 0)) (z := chC 0) (hs _ (by decide +kernel))
      · exact va_eqt (t := Term.elem (Term.static "ShapeHouse" "CLOSER" "[C") (.int 1)) (z := chC 1) (hs _ (by decide +kernel))
      · exact va_eqt (t := Term.elem (Term.static "ShapeHouse" "CLOSER" "[C") (.int 2)) (z := chC 2) (hs _ (by decide +kernel))
      · exact va_eqt (t := Term.elem (Term.static "ShapeHouse" "CLOSER" "[C") (.int 3)) (z := chC 3) (hs _ (by decide +kernel))
      · exact va_eqt (t := Term.elem (Term.static "ShapeHouse" "CLOSER" "[C") (.int 4)) (z := chC 4) (hs _ (by decide +kernel))
      · exact va_eqt (t := Term.elem (Term.static "ShapeHouse" "CLOSER" "[C") (.int 5)) (z := chC 5) (hs _ (by decide +kernel))
      · exact va_eqt (t := Term.elem (Term.static "ShapeHouse" "CLOSER" "[C") (.int 6)) (z := chC 6) (hs _ (by decide +kernel))
      · exact va_eqt (t := Term.elem (Term.static "ShapeHouse" "CLOSER" "[C") (.int 7)) (z := chC 7) (hs _ (by decide +kernel))
      · exact va_eqt (t := Term.elem (Term.static "ShapeHouse" "CLOSER" "[C") (.int 8)) (z := chC 8) (hs _ (by decide +kernel))
      ) hA
    cases ht.symm.trans e2
    exact hT
set_option maxHeartbeats 8000000 in
set_option maxRecDepth 100000 in
/-- THE LAW, from its entry, out of what is said of the pure functions -/
theorem start_of {Inv : SS → SS → Prop} (hI : StepsOK Inv) (hI0 : Inv σz σz) {p : Program} {e : Env} {s : State} {m : MethodId} {below : List Frame} {meth : Method} {c : Code} (l : Launch) {b L : Nat} {xs : Nat → Int32} (hL : L ≤ 3072) (C0 : lw_At p s m meth c b L xs) : W p l e room_1 s m #[Value.ref b] below meth c s.heap [] 0 0 (lw_Z below #[Value.ref b] s) (entryFrame m ([Value.ref b] : List Value).toArray 4) := by
  obtain ⟨hx, hb, hr, hml, hown, hts0, hX, hbl, hlocks, hgv⟩ := id C0
  have hts : ∀ w ∈ lw_g, w.before #[Value.ref b] s = true := fun w hw => hts0 w (List.mem_filter.mp hw).1
  have hs := flat_of_before _ hgv
  have hA : ∀ q : Nat, s.heap.size ≤ q → (fun q : Nat => s.heap.size ≤ q) q := fun _ h => h
  obtain ⟨c0, iS0, hKn0⟩ := u_known (C := RX0) (T := TX0) (N := 2) (n := 2) hts inX0 (hts _ tw_195)
  obtain ⟨c1, iS1, hKn1⟩ := u_known (C := RX1) (T := TX1) (N := 4) (n := 4) hts inX1 (hts _ tw_108)
  obtain ⟨c2, iS2, hKn2⟩ := u_known (C := RX2) (T := TX2) (N := 6) (n := 6) hts inX2 (hts _ tw_128)
  obtain ⟨c3, iS3, hKn3⟩ := u_known (C := RX3) (T := TX3) (N := 3) (n := 3) hts inX3 (hts _ tw_153)
  obtain ⟨c4, iS4, hKn4⟩ := u_known (C := RX4) (T := TX4) (N := 12) (n := 12) hts inX4 (hts _ tw_290)
  obtain ⟨c5, iS5, hKn5⟩ := u_known (C := RX5) (T := TX5) (N := 13) (n := 13) hts inX5 (hts _ tw_244)
  obtain ⟨c6, iS6, hKn6⟩ := u_known (C := RX8) (T := TX8) (N := 4) (n := 4) hts inX8 (hts _ tw_169)
  obtain ⟨c7, iS7, hKn7⟩ := u_known (C := RX9) (T := TX9) (N := 11) (n := 11) hts inX9 (hts _ tw_189)
  obtain ⟨c8, iS8, hKn8⟩ := u_known (C := RX10) (T := TX10) (N := 14) (n := 14) hts inX10 (hts _ tw_100)
  obtain ⟨c9, iS9, hKn9⟩ := u_known (C := RX11) (T := TX11) (N := 36) (n := 36) hts inX11 (hts _ tw_931)
  obtain ⟨dC, dI, hKc⟩ : ∃ (dC : Nat → ClassId) (dI : Nat → Nat → Nat), ∀ (k : Nat) (q : vw_C), vwCl[k]? = some q → u_Kn s q.1 q.2.1 q.2.2 (dC k) (dI k) := by
    refine ⟨fun k => if k = 0 then c0 else if k = 1 then c1 else if k = 2 then c2 else if k = 3 then c3 else if k = 4 then c4 else if k = 5 then c5 else if k = 6 then c6 else if k = 7 then c7 else if k = 8 then c8 else c9, fun k => if k = 0 then iS0 else if k = 1 then iS1 else if k = 2 then iS2 else if k = 3 then iS3 else if k = 4 then iS4 else if k = 5 then iS5 else if k = 6 then iS6 else if k = 7 then iS7 else if k = 8 then iS8 else iS9, ?_⟩
    intro k q hq
    match k, hq with
    | 0, hq => cases hq; exact hKn0
    | 1, hq => cases hq; exact hKn1
    | 2, hq => cases hq; exact hKn2
    | 3, hq => cases hq; exact hKn3
    | 4, hq => cases hq; exact hKn4
    | 5, hq => cases hq; exact hKn5
    | 6, hq => cases hq; exact hKn6
    | 7, hq => cases hq; exact hKn7
    | 8, hq => cases hq; exact hKn8
    | 9, hq => cases hq; exact hKn9
    | k + 10, hq => simp [vwCl] at hq
  obtain ⟨cI, kI, mI, fI, gI, nI⟩ := Cond.arrayClass_spec (hts _ tw_126)
  obtain ⟨cJ, kJ, mJ, fJ, gJ, nJ⟩ := Cond.arrayClass_spec (hts _ tw_187)
  obtain ⟨cZ, kZ, mZ, fZ, gZ, nZ⟩ := Cond.arrayClass_spec (hts _ tw_1045)
  have hK : va_K (dC, dI) vwCl [(cI, .int), (cJ, .long), (cZ, .boolean)] s := by
    refine ⟨hKc, fun k q h => ?_⟩
    match k, h with
    | 0, h => cases h; exact ⟨fun N z => ⟨(fun k h => by cases h), kI, gI, mI, nI⟩, fI⟩
    | 1, h => cases h; exact ⟨fun N z => ⟨(fun k h => by cases h), kJ, gJ, mJ, nJ⟩, fJ⟩
    | 2, h => cases h; exact ⟨fun N z => ⟨(fun k h => by cases h), kZ, gZ, mZ, nZ⟩, fZ⟩
    | k + 3, h => simp at h
  have hN : NWC s := ⟨⟨(va_Nw.of rfl (hts0 _ (List.mem_of_getElem? (i := 667) (by decide +kernel)))), (va_Nw.of rfl (hts0 _ (List.mem_of_getElem? (i := 676) (by decide +kernel)))), (va_Nw.of rfl (hts0 _ (List.mem_of_getElem? (i := 749) (by decide +kernel)))), (va_Nw.of rfl (hts0 _ (List.mem_of_getElem? (i := 778) (by decide +kernel)))), (va_Nw.of rfl (hts0 _ (List.mem_of_getElem? (i := 574) (by decide +kernel))))⟩, (va_Nw.of rfl (hts0 _ (List.mem_of_getElem? (i := 109) (by decide +kernel)))), (va_Nw.of rfl (hts0 _ (List.mem_of_getElem? (i := 196) (by decide +kernel)))), (va_Nw.of rfl (hts0 _ (List.mem_of_getElem? (i := 242) (by decide +kernel))))⟩
  have hlO : (Cond.laysStatic "ShapeHouse" "OPENER" "[C").before #[Value.ref b] s = true := hts0 _ (List.mem_of_getElem? (i := 668) (by decide +kernel))
  have hlC : (Cond.laysStatic "ShapeHouse" "CLOSER" "[C").before #[Value.ref b] s = true := hts0 _ (List.mem_of_getElem? (i := 677) (by decide +kernel))
  have hini : (Cond.initialized "ShapeHouse").before #[Value.ref b] s = true := hts _ tw_85
  obtain ⟨tO, cellO, htO, -, -⟩ := Term.length_spec (va_eqt (t := Term.length (Term.static "ShapeHouse" "OPENER" "[C")) (z := 9) (hs _ (by decide +kernel)))
  obtain ⟨tC, cellC, htC, -, -⟩ := Term.length_spec (va_eqt (t := Term.length (Term.static "ShapeHouse" "CLOSER" "[C")) (z := 9) (hs _ (by decide +kernel)))
  have hS : va_S (fun q : Nat => s.heap.size ≤ q) s.heap s.heap [] := va_S.rf
  have hP : va_P (dC, dI) vwCl [] s.heap := fun k q h => by simp at h
  have hD : va_D (fun q : Nat => s.heap.size ≤ q) [] := ⟨fun i j p q h => by simp at h, fun k q h => by simp at h⟩
  have hl := lv_entry ([.ref b]) (n := 4) (Nat.le_of_ble_eq_true rfl)
  rw [lg_entry_eq]
  generalize (lg_sl ([.ref b]) ++ List.replicate (4 - (lg_sl ([.ref b])).length) Slot.unset).toArray = ls at hl ⊢
  have hl : lv_has ls 4 [(0, .ref b)] := hl
  refine va_new (ci := 8) (fs := [.null, .null, .null, .null, .null, .null, .null, .null, .null, .int 0, .int 0, .int 0, .int 0, .int 0]) (C := RX10) (T := TX10) (N := 14) hx hb hts inX10 tyX10 tyX10_ok hown (hts _ tw_99) (hts _ tw_100) (hts _ tw_85) hK hP hD hS hA rfl (fun j hj => by rcases (show j = 0 ∨ j = 1 ∨ j = 2 ∨ j = 3 ∨ j = 4 ∨ j = 5 ∨ j = 6 ∨ j = 7 ∨ j = 8 ∨ j = 9 ∨ j = 10 ∨ j = 11 ∨ j = 12 ∨ j = 13 by omega) with rfl | rfl | rfl | rfl | rfl | rfl | rfl | rfl | rfl | rfl | rfl | rfl | rfl | rfl <;> rfl) (Nat.le_of_ble_eq_true rfl) (Nat.le_of_ble_eq_true rfl) dL_law_0 (fun h0 H hP hD hS => ?_)
  refine lv_dup hx hb dL_law_3 rfl ?_
  refine w_ctor (C := (l, (dC, dI), cI, cJ, cZ)) (As := []) (rest := [.ref h0]) (q0 := 0) (isR := []) (wr := []) hx hb hml hown hts hA hK hP hD hS hN hl.1 (hts _ tw_101) (Ct_X10 (h0 := h0)) ⟨Nat.le_of_ble_eq_true rfl, Nat.le_of_ble_eq_true rfl⟩ mf_X10_init rfl rfl tw_102 rfl rfl (by decide) (by decide) (Nat.le_of_ble_eq_true rfl) (Nat.le_of_ble_eq_true rfl) (Nat.le_of_ble_eq_true rfl) dL_law_4 (fun w1 H2 locs2 hw1 hP2 hD2 hS2 => ?_)
  obtain ⟨q, hq0, rfl⟩ := hw1
  subst hq0
  refine lv_astore_n (lv' := [(1, .ref (q 0)), (0, .ref b)]) hx hb dL_law_7 rfl hl (by decide) rfl (fun ls hl => ?_)
  have hP : va_P (dC, dI) vwCl (LX q cI cJ cZ σz) H2 := hP2
  have hD : va_D (fun q : Nat => s.heap.size ≤ q) (LX q cI cJ cZ σz) := hD2
  have hS : va_S (fun q : Nat => s.heap.size ≤ q) s.heap H2 locs2 := hS2
  refine va_new (ci := 9) (fs := [.int 0, .null, .null, .null, .int 0, .null, .int 0, .null, .int 0, .null, .int 0, .null, .null, .null, .null, .null, .null, .int 0, .int 0, .null, .null, .null, .null, .null, .null, .null, .null, .int 0, .int 0, .int 0, .int 0, .null, .int 0, .int 0, .int 0, .int 0]) (C := RX11) (T := TX11) (N := 36) hx hb hts inX11 tyX11 tyX11_ok hown (hts _ tw_930) (hts _ tw_931) (hts _ tw_94) hK hP hD hS hA rfl (fun j hj => by rcases (show j = 0 ∨ j = 1 ∨ j = 2 ∨ j = 3 ∨ j = 4 ∨ j = 5 ∨ j = 6 ∨ j = 7 ∨ j = 8 ∨ j = 9 ∨ j = 10 ∨ j = 11 ∨ j = 12 ∨ j = 13 ∨ j = 14 ∨ j = 15 ∨ j = 16 ∨ j = 17 ∨ j = 18 ∨ j = 19 ∨ j = 20 ∨ j = 21 ∨ j = 22 ∨ j = 23 ∨ j = 24 ∨ j = 25 ∨ j = 26 ∨ j = 27 ∨ j = 28 ∨ j = 29 ∨ j = 30 ∨ j = 31 ∨ j = 32 ∨ j = 33 ∨ j = 34 ∨ j = 35 by omega) with rfl | rfl | rfl | rfl | rfl | rfl | rfl | rfl | rfl | rfl | rfl | rfl | rfl | rfl | rfl | rfl | rfl | rfl | rfl | rfl | rfl | rfl | rfl | rfl | rfl | rfl | rfl | rfl | rfl | rfl | rfl | rfl | rfl | rfl | rfl | rfl <;> rfl) (Nat.le_of_ble_eq_true rfl) (Nat.le_of_ble_eq_true rfl) dL_law_8 (fun h1 H hP hD hS => ?_)
  refine lv_dup hx hb dL_law_11 rfl ?_
  refine w_ctor (C := (l, (dC, dI), cI, cJ, cZ)) (As := []) (rest := [.ref h1]) (q0 := 38) (isR := List.range 38) (wr := LX q cI cJ cZ σz) hx hb hml hown hts hA hK hP hD hS hN hl.1 (hts _ tw_932) (Ct_X11 (h0 := h1)) ⟨Nat.le_of_ble_eq_true rfl, Nat.le_of_ble_eq_true rfl⟩ mf_X11_init rfl rfl tw_933 rfl rfl (by decide) (by decide) (Nat.le_of_ble_eq_true rfl) (Nat.le_of_ble_eq_true rfl) (Nat.le_of_ble_eq_true rfl) dL_law_12 (fun w1 H4 locs4 hw1 hP4 hD4 hS4 => ?_)
  obtain ⟨q2, hq0, rfl⟩ := hw1
  subst hq0
  refine lv_astore_n (lv' := [(2, .ref (q2 0)), (1, .ref (q 0)), (0, .ref b)]) hx hb dL_law_15 rfl hl (by decide) rfl (fun ls hl => ?_)
  refine lv_iconst (v := 0) hx hb dL_law_16 (by decide) ?_
  refine lv_istore_n (lv' := [(3, .int 0), (2, .ref (q2 0)), (1, .ref (q 0)), (0, .ref b)]) hx hb dL_law_17 rfl hl (by decide) rfl (fun ls hl => ?_)
  have hP : va_P (dC, dI) vwCl (LX q cI cJ cZ σz ++ LM q2 cI cJ cZ σz) H4 := hP4
  have hD : va_D (fun q : Nat => s.heap.size ≤ q) (LX q cI cJ cZ σz ++ LM q2 cI cJ cZ σz) := hD4
  have hlen : (LX q cI cJ cZ σz).length = 38 := rfl
  have hPx : va_P (dC, dI) vwCl (LX q cI cJ cZ σz) H4 := fun k z hk => hP k z (by rw [List.getElem?_append_left (List.getElem?_eq_some_iff.mp hk).1]; exact hk)
  have hPm : va_P (dC, dI) vwCl (LM q2 cI cJ cZ σz) H4 := fun k z hk => hP (k + 38) z (by rw [List.getElem?_append_right (by omega), hlen, Nat.add_sub_cancel]; exact hk)
  have hxl : ∀ (k : Nat) (z : Nat × va_E), (LX q cI cJ cZ σz)[k]? = some z → (LX q cI cJ cZ σz ++ LM q2 cI cJ cZ σz)[k]? = some z := fun k z hk => by rw [List.getElem?_append_left (List.getElem?_eq_some_iff.mp hk).1]; exact hk
  have hml2 : ∀ (k : Nat) (z : Nat × va_E), (LM q2 cI cJ cZ σz)[k]? = some z → (LX q cI cJ cZ σz ++ LM q2 cI cJ cZ σz)[k + 38]? = some z := fun k z hk => by rw [List.getElem?_append_right (by omega), hlen, Nat.add_sub_cancel]; exact hk
  have hDx : va_D (adr (LX q cI cJ cZ σz)) (LX q cI cJ cZ σz) := ⟨fun i j x y h1 h2 h3 => hD.1 i j x y (hxl i x h1) (hxl j y h2) h3, fun k z hk => ⟨k, z.2, hk⟩⟩
  have hDm : va_D (adr (LM q2 cI cJ cZ σz)) (LM q2 cI cJ cZ σz) := ⟨fun i j x y h1 h2 h3 => by have := hD.1 _ _ x y (hml2 i x h1) (hml2 j y h2) h3; omega, fun k z hk => ⟨k, z.2, hk⟩⟩
  have hap : ∀ a, adr (LX q cI cJ cZ σz) a → ¬ adr (LM q2 cI cJ cZ σz) a := by
    rintro a ⟨k, e1, h1⟩ ⟨j, e2, h2⟩
    have h3 := hD.1 _ _ _ _ (hxl k _ h1) (hml2 j _ h2) rfl
    have h4 := (List.getElem?_eq_some_iff.mp h1).1
    omega
  have hax : ∀ a, adr (LX q cI cJ cZ σz) a → s.heap.size ≤ a := by
    rintro a ⟨k, e1, h1⟩
    exact hD.2 _ _ (hxl k _ h1)
  have ham : ∀ a, adr (LM q2 cI cJ cZ σz) a → s.heap.size ≤ a := by
    rintro a ⟨k, e1, h1⟩
    exact hD.2 _ _ (hml2 k _ h1)
  have hW : WL (l, (dC, dI), cI, cJ, cZ, adr (LX q cI cJ cZ σz), q, tO, tC) (l, (dC, dI), cI, cJ, cZ, adr (LM q2 cI cJ cZ σz), q2, tO, tC) σz σz s H4 locs4 := by
    refine ⟨⟨hK, hK⟩, ⟨hPx, hDx⟩, ⟨hPm, hDm⟩, ⟨hap, hax, ham⟩, hS4, ?_, ?_, hN.1⟩
    · exact stt_of rfl rfl (fun a h1 h2 => absurd (hax a h2) (Nat.not_le.mpr h1)) hlO hlC hini htO htC hs
    · exact stt_of rfl rfl (fun a h1 h2 => absurd (ham a h2) (Nat.not_le.mpr h1)) hlO hlC hini htO htC hs
  exact law_loop hI (X := (l, (dC, dI), cI, cJ, cZ, adr (LX q cI cJ cZ σz), q, tO, tC)) (Y := (l, (dC, dI), cI, cJ, cZ, adr (LM q2 cI cJ cZ σz), q2, tO, tC)) (e := e) (below := below) hL rfl rfl C0 (L + 7) 0 σz σz (by omega) (by omega) hI0 H4 locs4 ls hW (lv_sub hl [0, 3, 2, 1] rfl)
