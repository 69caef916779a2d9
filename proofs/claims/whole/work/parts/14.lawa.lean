-- ===== end of PART A; then your names; then what follows =====
/-! THE CLAIM OUT OF ONE WALK OF THE LAW'S BODY. Your part is whole_start (and what it stands on); all else here is the same for every law, but numbers. -/
def R_law : String := "ShapeHouseLaw"
def lw_P (b : Addr) (xs : List Int32) (args : Array Value) (s : State) : Prop := args = #[.ref b] ∧ s.IntsAt b xs ∧ xs.length ≤ 3072 ∧ (Jvm.Cond.and given_1 narrow_1).before args s = true
def lw_Q (_ : Array Value) (s : State) (o : Outcome) (t : State) : Prop := o = .returned (some (.int 1)) ∧ Framed s o t [] 600000 7302250
def lw_Z (below : List Frame) (a : Array Value) (s : State) : State → Prop := fun t => ∃ o, t.status = .running ∧ Ended t below o ∧ lw_Q a s o t
/-- the law's own end, with 1 on the stack, nothing written that was there before, its room as the claim has it -/
theorem lw_ret {p : Program} {l : Launch} {e : Env} {s : State} {m : MethodId} {below : List Frame} {meth : Method} {c : Code} {b : Nat} (hx : p.tables.exec = Jvm.exec) (hb : c.code = code) (hr : meth.sig.returnType = ret) (hlocks : meth.locks = false) {pc : Nat} {H : Heap} {ls : Array Slot} (hdg : decode code pc = .ok (.ireturn, 1)) : W p l e room_1 s m #[Value.ref b] below meth c H [] 600000 7302250 (lw_Z below #[Value.ref b] s) (F0 m pc ls [.int 1]) := by
  intro T hT X
  obtain ⟨fs, hret, hrun, hended, hW, hframe⟩ := X.leave (v := some (.int 1)) (hlocks := hlocks) (fun h => by rw [hr] at h; cases h)
  have hmeth' : T.vm.method? m = some meth := X.method'
  refine ⟨T.setFrames fs, ?_, .returned (some (.int 1)), hrun, hended, rfl, ⟨_, rfl⟩, hW, hframe⟩
  jvm_step X.here [X.here.top, hx, hb, hdg, hmeth', hr, ret, narrow_b1]
  (try refine ⟨rfl, ?_⟩); (try refine ⟨rfl, ?_⟩)
  first | (intro acts; rw [hret _ acts rfl rfl rfl]) | rw [hret _ _ rfl rfl rfl]
  exact Steps.refl _
/-- what holds at the law's entry: the machine, the code, the tables' words (any of lw_tbl by 'hts w (by decide +kernel)'), the script of L ints xs at the cell b, what the Statement gives of the start (any of its parts by flat_of_before) -/
def lw_At (p : Program) (s : State) (m : MethodId) (meth : Method) (c : Code) (b L : Nat) (xs : Nat → Int32) : Prop :=
  p.tables.exec = Jvm.exec ∧ c.code = code ∧ meth.sig.returnType = ret ∧ c.maxLocals = 4 ∧ s.vm.findClass R_law = some m.cls ∧ (∀ w ∈ lw_tbl, w.before #[Value.ref b] s = true) ∧ va_X b L xs s s.heap ∧ b < s.heap.size ∧ meth.locks = false ∧ (Jvm.Cond.and given_1 narrow_1).before #[Value.ref b] s = true

/-- the two worlds beside each other, in the law -/
def WL (X Y : XE) (σx σm : SS) (s : State) (H : Heap) (locs : List Loc) : Prop :=
  (va_K (xD X) vwCl (gT (gX X)) s ∧ va_K (xD Y) vwCl (gT (gM Y)) s) ∧ (va_P (xD X) vwCl (gL (gX X) σx) H ∧ va_D (xA X) (gL (gX X) σx)) ∧ (va_P (xD Y) vwCl (gL (gM Y) σm) H ∧ va_D (xA Y) (gL (gM Y) σm)) ∧ ((∀ a, xA X a → ¬ xA Y a) ∧ (∀ a, xA X a → s.heap.size ≤ a) ∧ ∀ a, xA Y a → s.heap.size ≤ a) ∧ va_S (fun q : Nat => s.heap.size ≤ q) s.heap H locs ∧ Stt (gX X) s s.heap ∧ Stt (gM Y) s s.heap ∧ NW s
def VL (X Y : XE) (p : Program) (l : Launch) (e : Env) (s : State) (m : MethodId) (b : Nat) (below : List Frame) (meth : Method) (c : Code) (pc : Nat) (lv : List (Nat × Value)) (st : List Value) (σx σm : SS) : Prop :=
  ∀ (H : Heap) (locs : List Loc) (ls : Array Slot), WL X Y σx σm s H locs → lv_has ls 4 lv → W p l e room_1 s m #[Value.ref b] below meth c H locs 60 26955 (lw_Z below #[Value.ref b] s) (F0 m pc ls st)
section RL
variable {X Y : XE} {p : Program} {e : Env} {s : State} {m : MethodId} {b : Nat} {below : List Frame} {meth : Method} {c : Code} {pc n : Nat} {lv : List (Nat × Value)} {st st' : List Value} {σx σm : SS} {l : Launch}
theorem vl_lift (hrow : ∀ (H : Heap) (locs : List Loc) (ls : Array Slot), va_S (fun q : Nat => s.heap.size ≤ q) s.heap H locs → lv_has ls 4 lv → W p l e room_1 s m #[Value.ref b] below meth c H locs 60 26955 (lw_Z below #[Value.ref b] s) (F0 m n ls st') → W p l e room_1 s m #[Value.ref b] below meth c H locs 60 26955 (lw_Z below #[Value.ref b] s) (F0 m pc ls st)) (K : VL X Y p l e s m b below meth c n lv st' σx σm) : VL X Y p l e s m b below meth c pc lv st σx σm :=
  fun H locs ls hW h => hrow H locs ls hW.2.2.2.2.1 h (K H locs ls hW h)
theorem WL.enterX {H : Heap} {locs : List Loc} {U : State} (hW : WL X Y σx σm s H locs) (hU : U.heap = H) (hw : s.WarmedH U.vm) : En (gX X) σx U := by
  obtain ⟨⟨hK, hK2⟩, ⟨hPx, hDx⟩, ⟨hPm, hDm⟩, ⟨h1, h2, h3⟩, hS, hz, hz2, hN⟩ := hW
  refine ⟨by rw [hU]; exact hPx, va_K.moved hw.alike hK, hDx, ?_, hN.warm hw⟩
  rw [hU]
  exact (hz.kept (fun a g1 g2 => hS.2.1 a g1 (Nat.not_le.mpr g1))).moved hw.alike
theorem WL.enterM {H : Heap} {locs : List Loc} {U : State} (hW : WL X Y σx σm s H locs) (hU : U.heap = H) (hw : s.WarmedH U.vm) : En (gM Y) σm U := by
  obtain ⟨⟨hK, hK2⟩, ⟨hPx, hDx⟩, ⟨hPm, hDm⟩, ⟨h1, h2, h3⟩, hS, hz, hz2, hN⟩ := hW
  refine ⟨by rw [hU]; exact hPm, va_K.moved hw.alike hK2, hDm, ?_, hN.warm hw⟩
  rw [hU]
  exact (hz2.kept (fun a g1 g2 => hS.2.1 a g1 (Nat.not_le.mpr g1))).moved hw.alike
theorem vl_callX {d1 k index nLy : Nat} {y : MethodName} {cy : ByteArray} {As rest : List Value} {r : Int64} {σ1 : SS} (hl : xl X = l) (hx : p.tables.exec = Jvm.exec) (hb : c.code = code) (hml : c.maxLocals = 4) (hown : s.vm.findClass R_law = some m.cls) (hts : ∀ w ∈ lw_g, w.before #[Value.ref b] s = true)
    (hM : Mt (gX X) d1 y cy nLy (some .long) (.ref (xq X 0) :: As) σx (some (.long r)) σ1) (hd : d1 ≤ 2000) (hmf : MF y cy nLy (some .long) k) (hk : As.length = k) (hins : Cond.instanceMethod y ∈ lw_g) (hsel : Cond.selects y.cls y y ∈ lw_g) (hlk : Cond.methodLink R_law index y ∈ lw_g) (hC : y.cls = RX10) (hst : st = As.reverse ++ .ref (xq X 0) :: rest) (hrm : (rest.map fun v => v.category).sum ≤ 8) (dd : decode code pc = .ok (.invokevirtual index, 3)) (hp : pc + 3 = n)
    (K : VL X Y p l e s m b below meth c n lv (.long r :: rest) σ1 σm) : VL X Y p l e s m b below meth c pc lv st σx σm := by
  subst hp hst hl
  intro H locs ls hW h
  have hrec := va_recv (ci := 8) hW.1.1 hW.2.1.1 rfl (cX_0 (X := X) (σ := σx))
  have hroom : (RM d1).frames + 1 ≤ room_1.frames ∧ 8 + (nLy + 11) + (RM d1).locals ≤ room_1.locals := by
    have := hmf.1
    refine ⟨?_, ?_⟩
    · show d1 + 1 ≤ 2048
      omega
    · show 8 + (nLy + 11) + 40 * d1 ≤ 84000
      omega
  have hrun := va_runV (e := e) (below := below) (meth := meth) (locs := locs) (cells := 60) (slots := 26955) (R := room_1) (g := F0 m pc ls (As.reverse ++ .ref (xq X 0) :: rest)) (As := As) (rest := rest) (y := y) (C := y.cls) (Ts := lw_g) (own := R_law) ⟨hx, hb, hml, hown, hts⟩ hM
    ⟨callB_of k hts hmf.good rfl rfl rfl (hts _ hmf.2.2.1) (hts _ hlk) hmf.2.2.2 hroom, hts _ hins, hts _ hsel⟩
    ⟨En.blind, by rw [hC]; exact hrec, fun U hU hw => ⟨rfl, hW.enterX hU hw⟩⟩ rfl hk h.1 rfl (lv_room hrm) dd ⟨Nat.le_of_ble_eq_true rfl, Nat.le_of_ble_eq_true rfl⟩
  intro T hT Z
  obtain ⟨v, st₀, t, T', L, h0, X', hL, e1, e2, ⟨⟨hv, hP1, hD1⟩, hz, hk1⟩, go⟩ := hrun T hT Z
  cases hv
  rw [h0] at hz hk1
  obtain ⟨hK, ⟨hPx, hDx⟩, ⟨hPm, hDm⟩, ⟨h1, h2, h3⟩, hS, hr⟩ := hW
  obtain ⟨t2, a1, b1⟩ := K T'.heap (locs ++ L) ls ⟨hK, ⟨by rw [e1]; exact hP1, hD1⟩, ⟨hPm.kept (fun i q hq => by rw [e1]; exact hk1 q.1 (hPm i q hq).lt (fun z => h1 _ z (hDm.2 i q hq))), hDm⟩, ⟨h1, h2, h3⟩, ⟨Nat.le_trans hS.1 (by rw [e1]; exact hz), fun q g1 g2 => by rw [e1, hk1 q (Nat.lt_of_lt_of_le g1 hS.1) (fun z => g2 (h2 q z))]; exact hS.2.1 q g1 g2, fun q hq => by
      rcases List.mem_append.mp hq with z | z
      · exact hS.2.2 q z
      · exact h2 _ (hL q z)⟩, hr⟩ h T' rfl X'
  exact ⟨t2, go t2 a1, b1⟩
theorem vl_callM {d1 k index nLy : Nat} {y : MethodName} {cy : ByteArray} {As rest : List Value} {r : Int64} {σ1 : SS} (hl : xl Y = l) (hx : p.tables.exec = Jvm.exec) (hb : c.code = code) (hml : c.maxLocals = 4) (hown : s.vm.findClass R_law = some m.cls) (hts : ∀ w ∈ lw_g, w.before #[Value.ref b] s = true)
    (hM : Mt (gM Y) d1 y cy nLy (some .long) (.ref (xq Y 0) :: As) σm (some (.long r)) σ1) (hd : d1 ≤ 2000) (hmf : MF y cy nLy (some .long) k) (hk : As.length = k) (hins : Cond.instanceMethod y ∈ lw_g) (hsel : Cond.selects y.cls y y ∈ lw_g) (hlk : Cond.methodLink R_law index y ∈ lw_g) (hC : y.cls = RX11) (hst : st = As.reverse ++ .ref (xq Y 0) :: rest) (hrm : (rest.map fun v => v.category).sum ≤ 8) (dd : decode code pc = .ok (.invokevirtual index, 3)) (hp : pc + 3 = n)
    (K : VL X Y p l e s m b below meth c n lv (.long r :: rest) σx σ1) : VL X Y p l e s m b below meth c pc lv st σx σm := by
  subst hp hst hl
  intro H locs ls hW h
  have hrec := va_recv (ci := 9) hW.1.2 hW.2.2.1.1 rfl (cM_0 (X := Y) (σ := σm))
  have hroom : (RM d1).frames + 1 ≤ room_1.frames ∧ 8 + (nLy + 11) + (RM d1).locals ≤ room_1.locals := by
    have := hmf.1
    refine ⟨?_, ?_⟩
    · show d1 + 1 ≤ 2048
      omega
    · show 8 + (nLy + 11) + 40 * d1 ≤ 84000
      omega
  have hrun := va_runV (e := e) (below := below) (meth := meth) (locs := locs) (cells := 60) (slots := 26955) (R := room_1) (g := F0 m pc ls (As.reverse ++ .ref (xq Y 0) :: rest)) (As := As) (rest := rest) (y := y) (C := y.cls) (Ts := lw_g) (own := R_law) ⟨hx, hb, hml, hown, hts⟩ hM
    ⟨callB_of k hts hmf.good rfl rfl rfl (hts _ hmf.2.2.1) (hts _ hlk) hmf.2.2.2 hroom, hts _ hins, hts _ hsel⟩
    ⟨En.blind, by rw [hC]; exact hrec, fun U hU hw => ⟨rfl, hW.enterM hU hw⟩⟩ rfl hk h.1 rfl (lv_room hrm) dd ⟨Nat.le_of_ble_eq_true rfl, Nat.le_of_ble_eq_true rfl⟩
  intro T hT Z
  obtain ⟨v, st₀, t, T', L, h0, X', hL, e1, e2, ⟨⟨hv, hP1, hD1⟩, hz, hk1⟩, go⟩ := hrun T hT Z
  cases hv
  rw [h0] at hz hk1
  obtain ⟨hK, ⟨hPx, hDx⟩, ⟨hPm, hDm⟩, ⟨h1, h2, h3⟩, hS, hr⟩ := hW
  obtain ⟨t2, a1, b1⟩ := K T'.heap (locs ++ L) ls ⟨hK, ⟨hPx.kept (fun i q hq => by rw [e1]; exact hk1 q.1 (hPx i q hq).lt (fun z => h1 _ (hDx.2 i q hq) z)), hDx⟩, ⟨by rw [e1]; exact hP1, hD1⟩, ⟨h1, h2, h3⟩, ⟨Nat.le_trans hS.1 (by rw [e1]; exact hz), fun q g1 g2 => by rw [e1, hk1 q (Nat.lt_of_lt_of_le g1 hS.1) (fun z => g2 (h3 q z))]; exact hS.2.1 q g1 g2, fun q hq => by
      rcases List.mem_append.mp hq with z | z
      · exact hS.2.2 q z
      · exact h3 _ (hL q z)⟩, hr⟩ h T' rfl X'
  exact ⟨t2, go t2 a1, b1⟩
theorem vl_same {r : Int64} {off : Int} {t pc1 : Nat} {rest : List Value} (hx : p.tables.exec = Jvm.exec) (hb : c.code = code) (dd : decode code pc = .ok (.lcmp, 1)) (h1 : pc + 1 = pc1) (d2 : decode code pc1 = .ok (.ifCond .eq off, 3)) (ht : (pc1 : Int) + off = (t : Int)) (K : VL X Y p l e s m b below meth c t lv rest σx σm) : VL X Y p l e s m b below meth c pc lv (.long r :: .long r :: rest) σx σm := by
  subst h1
  exact fun H locs ls hW h => W.lcmp hx hb dd (lv_if_eq hx hb d2 ht (fun _ => K H locs ls hW h) (fun z => absurd ((lg_cmp_eq r r).mpr rfl) z))
end RL
theorem scr_in {i L : Nat} (k : Nat) (h : i + 6 ≤ L) (hL : L ≤ 3072) (hk : k < 6) : vp_in (nI i + nI k) L := by
  rw [nI_add]
  exact vp_in_nI (by omega) (by omega)
theorem scr_go {i L : Nat} (hL : L ≤ 3072) (hi : i ≤ L + 6) (h : ¬ Int32.ofNat L - 6 < nI i) : i + 6 ≤ L := by
  rw [Int32.lt_iff_toInt_lt, nI_toInt (by omega)] at h
  have e1 : (Int32.ofNat L - 6).toInt = (L : Int) - 6 := by
    rw [Int32.toInt_sub, show (Int32.ofNat L).toInt = (L : Int) from nI_toInt (by omega)]
    have : (6 : Int32).toInt = 6 := by decide
    rw [this]
    apply Int.bmod_eq_of_le <;> omega
  omega
/-- what is left to show, of pure functions alone: each call, on states that agree, has the same answer on both sides, and they agree behind it -/
def StepsOK (Inv : SS → SS → Prop) : Prop :=
  (∀ (σx σm : SS) (a1 : Int32) (a2 : Int32) (a3 : Int32), Inv σx σm → ∃ (r : Int64) (σx1 σm1 : SS), P_X10_shape a1 a2 a3 σx = some (r, σx1) ∧ P_X11_shape a1 a2 a3 σm = some (r, σm1) ∧ Inv σx1 σm1) ∧
  (∀ (σx σm : SS) (a1 : Int32) (a2 : Int32) (a3 : Int32) (a4 : Int32), Inv σx σm → ∃ (r : Int64) (σx1 σm1 : SS), P_X10_put a1 a2 a3 a4 σx = some (r, σx1) ∧ P_X11_put a1 a2 a3 a4 σm = some (r, σm1) ∧ Inv σx1 σm1) ∧
  (∀ (σx σm : SS) , Inv σx σm → ∃ (r : Int64) (σx1 σm1 : SS), P_X10_undo σx = some (r, σx1) ∧ P_X11_undo σm = some (r, σm1) ∧ Inv σx1 σm1) ∧
  (∀ (σx σm : SS) (a1 : Int32) (a2 : Int32), Inv σx σm → ∃ r : Int64, P_X10_about a1 a2 σx = some r ∧ P_X11_about a1 a2 σm = some r) ∧
  (∀ (σx σm : SS) , Inv σx σm → ∃ (r : Int64) (σx1 σm1 : SS), P_X10_ready σx = some (r, σx1) ∧ P_X11_ready σm = some (r, σm1) ∧ Inv σx1 σm1) ∧
  (∀ (σx σm : SS) (a1 : Int32) (a2 : Int32), Inv σx σm → ∃ r : Int64, P_X10_count a1 a2 σx = some r ∧ P_X11_count a1 a2 σm = some r) ∧
  (∀ (σx σm : SS) (a1 : Int32) (a2 : Int32), Inv σx σm → ∃ r : Int64, P_X10_upTo a1 a2 σx = some r ∧ P_X11_upTo a1 a2 σm = some r) ∧
  (∀ (σx σm : SS) (a1 : Int32) (a2 : Int32) (a3 : Int32), Inv σx σm → ∃ r : Int64, P_X10_parts a1 a2 a3 σx = some r ∧ P_X11_parts a1 a2 a3 σm = some r) ∧
  (∀ (σx σm : SS) (a1 : Int32) (a2 : Int32) (a3 : Int64), Inv σx σm → ∃ (r : Int64) (σx1 σm1 : SS), P_X10_thing a1 a2 a3 σx = some (r, σx1) ∧ P_X11_thing a1 a2 a3 σm = some (r, σm1) ∧ Inv σx1 σm1) ∧
  (∀ (σx σm : SS) (a1 : Int32) (a2 : Int32) (a3 : Int32) (a4 : Int32) (a5 : Int32), Inv σx σm → ∃ (r : Int64) (σx1 σm1 : SS), P_X10_feed a1 a2 a3 a4 a5 σx = some (r, σx1) ∧ P_X11_feed a1 a2 a3 a4 a5 σm = some (r, σm1) ∧ Inv σx1 σm1) ∧
  (∀ (σx σm : SS) (a1 : Int32), Inv σx σm → ∃ (r : Int64) (σx1 σm1 : SS), P_X10_trim a1 σx = some (r, σx1) ∧ P_X11_trim a1 σm = some (r, σm1) ∧ Inv σx1 σm1) ∧
  (∀ (σx σm : SS) , Inv σx σm → ∃ (r : Int64) (σx1 σm1 : SS), P_X10_again σx = some (r, σx1) ∧ P_X11_again σm = some (r, σm1) ∧ Inv σx1 σm1) ∧
  (∀ (σx σm : SS) (a1 : Int32), Inv σx σm → ∃ (r : Int64) (σx1 σm1 : SS), P_X10_read a1 σx = some (r, σx1) ∧ P_X11_read a1 σm = some (r, σm1) ∧ Inv σx1 σm1) ∧
  (∀ (σx σm : SS) (a1 : Int32), Inv σx σm → ∃ r : Int64, P_X10_found a1 σx = some r ∧ P_X11_found a1 σm = some r) ∧
  (∀ (σx σm : SS) (a1 : Int32), Inv σx σm → ∃ r : Int64, P_X10_out a1 σx = some r ∧ P_X11_out a1 σm = some r) ∧
  (∀ (σx σm : SS) (a1 : Int32), Inv σx σm → ∃ r : Int64, P_X10_state a1 σx = some r ∧ P_X11_state a1 σm = some r)
