/-! CONSTRUCTORS: a walk with the world as a list, which grows -/
def NWC (U : State) : Prop := NW U ∧ va_Nw (.methodLinkNest "ShapeHouse" 11 ⟨"ShapeHouse$Grammar", "<init>", "()V"⟩ "ShapeHouse") U ∧ va_Nw (.methodLinkNest "ShapeHouse$Teller" 11 ⟨"ShapeHouse$Bytes", "<init>", "()V"⟩ "ShapeHouse") U ∧ va_Nw (.methodLinkNest "ShapeHouse" 52 ⟨"ShapeHouse$Bytes", "<init>", "()V"⟩ "ShapeHouse") U
theorem NWC.warm {s U : State} (hW : s.WarmedH U.vm) (h : NWC s) : NWC U := ⟨h.1.warm hW, h.2.1.warmM hW, h.2.2.1.warmM hW, h.2.2.2.warmM hW⟩
theorem NWC.same {s U : State} (e : s.vm = U.vm) (h : NWC s) : NWC U := ⟨h.1.same e, h.2.1.same rfl e, h.2.2.1.same rfl e, h.2.2.2.same rfl e⟩
/-- launch, class numbers, array classes -/
abbrev CE : Type := Launch × va_G × ClassId × ClassId × ClassId
def cl0 (C : CE) : Launch := C.1
def cD (C : CE) : va_G := C.2.1
def ccI (C : CE) : ClassId := C.2.2.1
def ccJ (C : CE) : ClassId := C.2.2.2.1
def ccZ (C : CE) : ClassId := C.2.2.2.2
def cT (C : CE) : List (ClassId × FieldType) := [(ccI C, .int), (ccJ C, .long), (ccZ C, .boolean)]
def RCm (d mc ms : Nat) : Room := { frames := d, cells := mc, slots := ms, locals := 40 * d }
def EC (C : CE) (ws : va_W) (sz : Nat) (U : State) : Prop := U.heap.size = sz ∧ va_P (cD C) vwCl ws U.heap ∧ va_K (cD C) vwCl (cT C) U ∧ va_D (fun _ => True) ws ∧ NWC U
def QC (C : CE) (Φ : va_W → Prop) (A : Nat → Prop) : Array Value → State → Outcome → State → Prop := fun _ st oc t => (oc = .returned none ∧ ∃ w, Φ w ∧ va_P (cD C) vwCl w t.heap ∧ va_D A w) ∧ va_F A st t
def Ct (C : CE) (d : Nat) (y : MethodName) (cc : ByteArray) (nL : Nat) (av : List Value) (ws : va_W) (mc ms : Nat) (Φ : va_W → Prop) : Prop :=
  ∀ sz : Nat, Met (cl0 C) y (.code y cc nL none :: lw_g) (RCm d mc ms) (va_Pc av (EC C ws sz)) (QC C Φ (va_A ws sz)) mc ms (va_A ws sz)
def VC (C : CE) (d mc ms : Nat) (own : String) (cc : ByteArray) (nL : Nat) (Φ : va_W → Prop) (A : Nat → Prop) (pc : Nat) (lv : List (Nat × Value)) (st : List Value) (ws : va_W) (cells slots : Nat) : Prop :=
  ∀ (p : Program) (e : Env) (s : State) (m : MethodId) (args : Array Value) (below : List Frame) (meth : Method) (c : Code) (H : Heap) (locs : List Loc) (ls : Array Slot), Fx own cc nL none p s m args meth c → meth.name = "<init>" → (∀ q : Nat, s.heap.size ≤ q → A q) →
    va_K (cD C) vwCl (cT C) s → va_P (cD C) vwCl ws H → va_D A ws → va_S A s.heap H locs → NWC s → lv_has ls nL lv →
    W p (cl0 C) e (RCm d mc ms) s m args below meth c H locs cells slots (MQ below (QC C Φ A) args s mc ms A) (F0 m pc ls st)
theorem Ct.of {C : CE} {d : Nat} {y : MethodName} {own : String} {cc : ByteArray} {nL mc ms : Nat} {av : List Value} {lv : List (Nat × Value)} {ws : va_W} {Φ : va_W → Prop} (hy : plainName y.cls = true) (ho : y.cls = own) (hyn : y.name = "<init>") (hle : (lg_sl av).length ≤ nL) (hlv : lv_args 0 av = lv)
    (K : ∀ A, VC C d mc ms own cc nL Φ A 0 lv [] ws 0 0) : Ct C d y cc nL av ws mc ms Φ := by
  subst ho hlv
  intro sz
  refine Met.ofW (cc := cc) (maxL := nL) (ret := none) hy rfl ?_
  intro p e s m args below meth c s₁ B hml hv
  obtain ⟨rfl, hsz, hP, hK, hD, hN⟩ := hv
  subst hsz
  have hts := atoms_spec (ws := Cond.code y cc nL none :: lw_g) B.pre
  have hl := lv_entry av (n := nL) hle
  rw [lg_entry_eq]
  exact K (va_A ws s.heap.size) p e s m _ below meth c s.heap [] _ ⟨B.exec, B.bytes, B.returns, hml, findClass_of_methodNamed B.named, B.notSynchronized, fun w hw => hts w (List.mem_cons_of_mem _ hw)⟩ ((name_of_methodNamed B.named B.method).1.trans hyn) (fun q h => Or.inr h) hK hP (hD.self) va_S.rf hN hl
section RVC
variable {C : CE} {d mc ms : Nat} {own : String} {cc : ByteArray} {nL : Nat} {Φ : va_W → Prop} {A : Nat → Prop} {pc n : Nat} {lv : List (Nat × Value)} {st : List Value} {ws : va_W} {cells slots : Nat}
theorem vz_aload {k : Fin 4} {i : Nat} {x : Nat} (j : Nat) (dd : decode cc pc = .ok (.aload_n k, 1)) (hi : (k : Nat) = i) (hj : lv[j]? = some (i, .ref x)) (hp : pc + 1 = n) (K : VC C d mc ms own cc nL Φ A n lv (.ref x :: st) ws cells slots) : VC C d mc ms own cc nL Φ A pc lv st ws cells slots := by
  subst hp
  exact fun p e s m args below meth c H locs ls hF hin hA hK hP hD hS hN h => lv_aload_n hF.1 hF.2.1 dd hi (lv_at h j hj) (K p e s m args below meth c H locs ls hF hin hA hK hP hD hS hN h)
theorem vz_aload4 {i : Nat} {x : Nat} (j : Nat) (dd : decode cc pc = .ok (.aload i, 2)) (hj : lv[j]? = some (i, .ref x)) (hp : pc + 2 = n) (K : VC C d mc ms own cc nL Φ A n lv (.ref x :: st) ws cells slots) : VC C d mc ms own cc nL Φ A pc lv st ws cells slots := by
  subst hp
  exact fun p e s m args below meth c H locs ls hF hin hA hK hP hD hS hN h => lv_aload hF.1 hF.2.1 dd (lv_at h j hj) (K p e s m args below meth c H locs ls hF hin hA hK hP hD hS hN h)
theorem vz_iconst {i : Int} {v : Int32} (dd : decode cc pc = .ok (.iconst i, 1)) (hv : Int32.ofInt i = v) (hp : pc + 1 = n) (K : VC C d mc ms own cc nL Φ A n lv (.int v :: st) ws cells slots) : VC C d mc ms own cc nL Φ A pc lv st ws cells slots := by
  subst hp
  exact fun p e s m args below meth c H locs ls hF hin hA hK hP hD hS hN h => lv_iconst hF.1 hF.2.1 dd hv (K p e s m args below meth c H locs ls hF hin hA hK hP hD hS hN h)
theorem vz_bipush {i : Int} {v : Int32} (dd : decode cc pc = .ok (.bipush i, 2)) (hv : (Int8.ofInt i).toInt32 = v) (hp : pc + 2 = n) (K : VC C d mc ms own cc nL Φ A n lv (.int v :: st) ws cells slots) : VC C d mc ms own cc nL Φ A pc lv st ws cells slots := by
  subst hp
  exact fun p e s m args below meth c H locs ls hF hin hA hK hP hD hS hN h => lv_bipush hF.1 hF.2.1 dd hv (K p e s m args below meth c H locs ls hF hin hA hK hP hD hS hN h)
theorem vz_sipush {i : Int} {v : Int32} (dd : decode cc pc = .ok (.sipush i, 3)) (hv : (Int16.ofInt i).toInt32 = v) (hp : pc + 3 = n) (K : VC C d mc ms own cc nL Φ A n lv (.int v :: st) ws cells slots) : VC C d mc ms own cc nL Φ A pc lv st ws cells slots := by
  subst hp
  exact fun p e s m args below meth c H locs ls hF hin hA hK hP hD hS hN h => lv_sipush hF.1 hF.2.1 dd hv (K p e s m args below meth c H locs ls hF hin hA hK hP hD hS hN h)
theorem vz_dup {v : Value} (hv : v.category = 1) (dd : decode cc pc = .ok (.dup, 1)) (hp : pc + 1 = n) (K : VC C d mc ms own cc nL Φ A n lv (v :: v :: st) ws cells slots) : VC C d mc ms own cc nL Φ A pc lv (v :: st) ws cells slots := by
  subst hp
  exact fun p e s m args below meth c H locs ls hF hin hA hK hP hD hS hN h => lv_dup hF.1 hF.2.1 dd hv (K p e s m args below meth c H locs ls hF hin hA hK hP hD hS hN h)
theorem vz_sub {ws' : va_W} (is : List Nat) (h1 : is.filterMap (fun i => ws[i]?) = ws') (h2 : va_nd is = true) (h3 : is.map (fun i => ws[i]?) = ws'.map some) (K : VC C d mc ms own cc nL Φ A pc lv st ws' cells slots) : VC C d mc ms own cc nL Φ A pc lv st ws cells slots :=
  fun p e s m args below meth c H locs ls hF hin hA hK hP hD hS hN h => K p e s m args below meth c H locs ls hF hin hA hK (hP.sub is h1) (hD.sub is h2 h3) hS hN h
theorem vz_get {a q0 ci k N i : Nat} {Cn : String} {T : u_T} {fs : List Value} {v : Value} (hin : ∀ w ∈ u_ws Cn T N, w ∈ lw_g) (he : ws[q0]? = some (a, .inr (ci, fs))) (hc : vwCl[ci]? = some (Cn, T, N)) (hk : k < N) (hlk : Cond.fieldLink own i (T k).1 (T k).2.1 (T k).2.2.1 ∈ lw_g) (hv : fs[k]? = some v) (dd : decode cc pc = .ok (.getfield i, 3)) (hp : pc + 3 = n) (K : VC C d mc ms own cc nL Φ A n lv (v :: st) ws cells slots) : VC C d mc ms own cc nL Φ A pc lv (.ref a :: st) ws cells slots := by
  subst hp
  exact fun p e s m args below meth c H locs ls hF hini hA hK hP hD hS hN h => va_get hF.1 hF.2.1 hF.2.2.2.2.2.2 hin hF.2.2.2.2.1 hK hP q0 he hc k hk (hF.2.2.2.2.2.2 _ hlk) (fun _ z => z) hv dd (K p e s m args below meth c H locs ls hF hini hA hK hP hD hS hN h)
theorem vz_putF {a q0 ci k N i : Nat} {Cn : String} {T : u_T} {ty0 : Nat → FieldType} {ty : FieldType} {fs : List Value} {v : Value} {ws' : va_W} (hin : ∀ w ∈ u_ws Cn T N, w ∈ lw_g) (hty : ∀ k, k < N → parseFieldDescriptor (T k).2.2.1 = some (ty0 k)) (hnm : ∀ a, a < N → ∀ b, b < N → a ≠ b → (T a).2.1 ≠ (T b).2.1) (he : ws[q0]? = some (a, .inr (ci, fs))) (hc : vwCl[ci]? = some (Cn, T, N)) (hk : k < N) (hlk : Cond.fieldLink own i (T k).1 (T k).2.1 (T k).2.2.1 ∈ lw_g) (hfin : (T k).2.2.2 = true) (hdc : (T k).1 = own) (hd : ty0 k = ty) (hn : narrow ty v = v) (hfit : fits ty v = true) (hl : k < fs.length) (hs : ws.set q0 (a, .inr (ci, fs.set k v)) = ws') (dd : decode cc pc = .ok (.putfield i, 3)) (hp : pc + 3 = n) (K : VC C d mc ms own cc nL Φ A n lv st ws' cells slots) : VC C d mc ms own cc nL Φ A pc lv (v :: .ref a :: st) ws cells slots := by
  subst hp
  subst hs
  exact fun p e s m args below meth c H locs ls hF hini hA hK hP hD hS hN h => va_putF hF.1 hF.2.1 hF.2.2.2.2.2.2 hin ty0 hty hnm hF.2.2.2.2.1 hK hP hD hS q0 he hc k hk (hF.2.2.2.2.2.2 _ hlk) (fun _ z => z) hfin hini hdc (by rw [hty k hk, hd]) hn hfit hl dd (fun H1 locs1 hP1 hD1 hS1 => K p e s m args below meth c H1 locs1 ls hF hini hA hK hP1 hD1 hS1 hN h)
theorem vz_put {a q0 ci k N i : Nat} {Cn : String} {T : u_T} {ty0 : Nat → FieldType} {ty : FieldType} {fs : List Value} {v : Value} {ws' : va_W} (hin : ∀ w ∈ u_ws Cn T N, w ∈ lw_g) (hty : ∀ k, k < N → parseFieldDescriptor (T k).2.2.1 = some (ty0 k)) (hnm : ∀ a, a < N → ∀ b, b < N → a ≠ b → (T a).2.1 ≠ (T b).2.1) (he : ws[q0]? = some (a, .inr (ci, fs))) (hc : vwCl[ci]? = some (Cn, T, N)) (hk : k < N) (hlk : Cond.fieldLink own i (T k).1 (T k).2.1 (T k).2.2.1 ∈ lw_g) (hfin : (T k).2.2.2 = false) (hd : ty0 k = ty) (hn : narrow ty v = v) (hfit : fits ty v = true) (hl : k < fs.length) (hs : ws.set q0 (a, .inr (ci, fs.set k v)) = ws') (dd : decode cc pc = .ok (.putfield i, 3)) (hp : pc + 3 = n) (K : VC C d mc ms own cc nL Φ A n lv st ws' cells slots) : VC C d mc ms own cc nL Φ A pc lv (v :: .ref a :: st) ws cells slots := by
  subst hp
  subst hs
  exact fun p e s m args below meth c H locs ls hF hini hA hK hP hD hS hN h => va_put hF.1 hF.2.1 hF.2.2.2.2.2.2 hin ty0 hty hnm hF.2.2.2.2.1 hK hP hD hS q0 he hc k hk (hF.2.2.2.2.2.2 _ hlk) (fun _ z => z) hfin (by rw [hty k hk, hd]) hn hfit hl dd (fun H1 locs1 hP1 hD1 hS1 => K p e s m args below meth c H1 locs1 ls hF hini hA hK hP1 hD1 hS1 hN h)
theorem vz_newa {atype : ArrayType} {ty : FieldType} (t0 : Nat) {cA0 : ClassId} (hw : Cond.arrayClass (newarray.typeOf atype) ∈ lw_g) (hty : newarray.typeOf atype = ty) (ht : (cT C)[t0]? = some (cA0, ty)) (hra : ∀ (U : State) (c1 c2 : ClassId), va_RA U c1 ty → va_RA U c2 ty → c1 = c2) {v : Int32} {N' : Nat} {a0 : vp_A} (ha : ∀ cA : ClassId, vp_cell cA a0 = arrV cA N' (fun _ => defaultValue ty)) (hn : ¬ v < 0) (hN : v.toNatClampNeg = N') (hby : N' * componentBytes ty ≤ 536870912) (hce : cells + 1 ≤ mc) (hsl : slots + N' ≤ ms) (dd : decode cc pc = .ok (.newarray atype, 2)) (hp : pc + 2 = n) (K : ∀ q : Nat, VC C d mc ms own cc nL Φ A n lv (.ref q :: st) (ws ++ [(q, .inl (cA0, a0))]) (cells + 1) (slots + N')) : VC C d mc ms own cc nL Φ A pc lv (.int v :: st) ws cells slots := by
  subst hp
  intro p e s m args below meth c H locs ls hF hini hA hK hP hD hS hN2 h
  refine va_newa hF.1 hF.2.1 (hF.2.2.2.2.2.2 _ hw) hty hK hP hD hS hA ha hn hN hby hce hsl dd (fun q cA H1 hK1 hP1 hD1 hS1 => ?_)
  have e1 : cA = cA0 := by
    refine hra s _ _ ?_ (hK.2 t0 _ ht).2
    have := hK1.2 (cT C).length (cA, ty) (by rw [List.getElem?_append_right (Nat.le_refl _)]; simp)
    exact this.2
  subst e1
  exact K q p e s m args below meth c H1 locs ls hF hini hA hK hP1 hD1 hS1 hN2 h
theorem vz_new {Cn : String} {T : u_T} {N ci index : Nat} {ty : Nat → FieldType} {fs : List Value} (hin : ∀ w ∈ u_ws Cn T N, w ∈ lw_g) (hty : ∀ k, k < N → parseFieldDescriptor (T k).2.2.1 = some (ty k)) (hcl : Cond.classLink own index Cn ∈ lw_g) (hinst : Cond.instantiable Cn N ∈ lw_g) (hin2 : Cond.initialized Cn ∈ lw_g) (hc : vwCl[ci]? = some (Cn, T, N)) (hfs : ∀ j, j < N → defaultValue (ty j) = vp_V fs j) (hce : cells + 1 ≤ mc) (hsl : slots + N ≤ ms) (dd : decode cc pc = .ok (.new index, 3)) (hp : pc + 3 = n) (K : ∀ q : Nat, VC C d mc ms own cc nL Φ A n lv (.ref q :: st) (ws ++ [(q, .inr (ci, fs))]) (cells + 1) (slots + N)) : VC C d mc ms own cc nL Φ A pc lv st ws cells slots := by
  subst hp
  exact fun p e s m args below meth c H locs ls hF hini hA hK hP hD hS hN h => va_new hF.1 hF.2.1 hF.2.2.2.2.2.2 hin ty hty hF.2.2.2.2.1 (hF.2.2.2.2.2.2 _ hcl) (hF.2.2.2.2.2.2 _ hinst) (hF.2.2.2.2.2.2 _ hin2) hK hP hD hS hA hc hfs hce hsl dd (fun q H1 hP1 hD1 hS1 => K q p e s m args below meth c H1 locs ls hF hini hA hK hP1 hD1 hS1 hN h)
theorem vz_obj {a i : Nat} (hlk : Cond.methodLink own i objectInit ∈ lw_g) (hins : Cond.instanceMethod objectInit ∈ lw_g) (hco : Cond.code objectInit ⟨#[0xb1]⟩ 1 none ∈ lw_g) (hd : 0 < d) (dd : decode cc pc = .ok (.invokespecial i, 3)) (hp : pc + 3 = n) (K : VC C d mc ms own cc nL Φ A n lv [] ws cells slots) : VC C d mc ms own cc nL Φ A pc lv [.ref a] ws cells slots := by
  subst hp
  intro p e s m args below meth c H locs ls hF hini hA hK hP hD hS hN h
  refine W.objInit hF.1 hF.2.1 hF.2.2.2.2.1 (hF.2.2.2.2.2.2 _ hlk) (hF.2.2.2.2.2.2 _ hins) (hF.2.2.2.2.2.2 _ hco) rfl (h.1.trans hF.2.2.2.1.symm) rfl dd hd ?_ ?_
  · show 2 * 0 + 0 + 12 ≤ 40 * d
    omega
  · exact K p e s m args below meth c H locs ls hF hini hA hK hP hD hS hN h
theorem vz_ret (dd : decode cc pc = .ok (.return_, 1)) (hΦ : Φ ws) (hc : cells = mc) (hs : slots = ms) : VC C d mc ms own cc nL Φ A pc lv [] ws cells slots := by
  subst hc hs
  exact fun p e s m args below meth c H locs ls hF hini hA hK hP hD hS hN h => W.vret hF.1 hF.2.1 hF.2.2.1 (fun t ht _ => ⟨⟨rfl, ws, hΦ, by rw [ht]; exact hP, hD⟩, hS.F ht⟩) hS.2.2 dd hF.2.2.2.2.2.1
theorem EC.blind {ws : va_W} {sz : Nat} {av : List Value} : FrameBlind (va_Pc av (EC C ws sz)) := by
  intro a U g mk q
  obtain ⟨q0, q1, q2, q3, q4, q5⟩ := q
  exact ⟨q0, q1, q2, va_K.moved (u := U) (U := U.calling g mk a) (Vm.Alike.refl U.vm) q3, q4, NWC.same (s := U) (U := U.calling g mk a) rfl q5⟩
/-- a call of a constructor whose world is the one cell b, at place q0 -/
theorem vz_ctor {d1 mc1 ms1 b ci q0 nLy index k : Nat} {y : MethodName} {cy : ByteArray} {As rest : List Value} {fs : List Value} {Ψ : va_W → Prop} {wr : va_W} {isR : List Nat} (hlk : ∀ (args : Array Value) (s : State), (∀ w ∈ lw_g, w.before args s = true) → NWC s → ((Cond.methodLink own index y).before args s = true ∨ ∃ host, (Cond.methodLinkNest own index y host).before args s = true))
    (hM : Ct C d1 y cy nLy (.ref b :: As) [(b, .inr (ci, fs))] mc1 ms1 Ψ) (hd : d1 < d) (hmf : MF y cy nLy none k) (hk : As.length = k) (hy1 : y.name = "<init>") (hins : Cond.instanceMethod y ∈ lw_g)
    (he : ws[q0]? = some (b, .inr (ci, fs))) (hR : isR.map (fun i => ws[i]?) = wr.map some) (hnd : va_nd isR = true) (hdis : ∀ i ∈ isR, i ∉ [q0]) (hst : st = As.reverse ++ .ref b :: rest) (hrm : (rest.map fun v => v.category).sum ≤ 8) (hce : cells + mc1 ≤ mc) (hsl : slots + ms1 ≤ ms) (dd : decode cc pc = .ok (.invokespecial index, 3)) (hp : pc + 3 = n)
    (K : ∀ w1, Ψ w1 → VC C d mc ms own cc nL Φ A n lv rest (wr ++ w1) (cells + mc1) (slots + ms1)) : VC C d mc ms own cc nL Φ A pc lv st ws cells slots := by
  subst hp hst
  intro p e s m args below meth c H locs ls hF hini hA hK hP hD hS hN h
  have hts := hF.2.2.2.2.2.2
  have hwc : [q0].map (fun i => ws[i]?) = [((b, .inr (ci, fs)) : Nat × va_E)].map some := by simp [he]
  have hPc : va_P (cD C) vwCl [(b, .inr (ci, fs))] H := hP.sub [q0] (by simp [he])
  have hDc := hD.sub (ws' := [(b, .inr (ci, fs))]) [q0] (by simp [va_nd]) hwc
  have hFc := va_free (wc := [(b, .inr (ci, fs))]) hD hS hA [q0] hwc
  have hpre : PreS s H (va_Pc (.ref b :: As) (EC C [(b, .inr (ci, fs))] H.size)) (.ref b :: As) := ⟨EC.blind, fun U hU hW => ⟨rfl, by rw [hU], by rw [hU]; exact hPc, va_K.moved hW.alike hK, hDc.weaken (fun _ _ _ _ => trivial), hN.warm hW⟩⟩
  have hroom : (RCm d1 mc1 ms1).frames + 1 ≤ (RCm d mc ms).frames ∧ 8 + (nLy + 11) + (RCm d1 mc1 ms1).locals ≤ (RCm d mc ms).locals := by
    refine ⟨hd, ?_⟩
    have := hmf.1
    show 8 + (nLy + 11) + 40 * d1 ≤ 40 * d
    omega
  have hrun : va_Run p (cl0 C) e (RCm d mc ms) s m args below meth c H locs cells slots mc1 ms1 (F0 m pc ls (As.reverse ++ .ref b :: rest)) rest (QC C Ψ (va_A [(b, .inr (ci, fs))] H.size) (Value.ref b :: As).toArray) (va_A [(b, .inr (ci, fs))] H.size) := by
    rcases hlk args s hts hN with hl | ⟨host, hl⟩
    · exact va_runI (As := As) (rest := rest) (y := y) (Ts := lw_g) ⟨hF.1, hF.2.1, hF.2.2.2.1, hF.2.2.2.2.1, hts⟩ (hM H.size) ⟨callB_of k hts hmf.good rfl rfl rfl (hts _ hmf.2.2.1) hl hmf.2.2.2 hroom, hy1, hts _ hins⟩ hpre rfl hk h.1 rfl (lv_room hrm) dd ⟨hce, hsl⟩
    · have hB : va_CN (RCm d mc ms) s args own index y host cy nLy none (Cond.code y cy nLy none :: lw_g) (RCm d1 mc1 ms1) mc1 ms1 k := ⟨⟨rfl, rfl, hroom.1, hroom.2, pay_in hts hmf.good, List.mem_cons_self⟩, hts _ hmf.2.1, hts _ hmf.2.2.1, ⟨hmf.2.2.2.1, hmf.2.2.2.2.1⟩, fun sig z => by
        have z2 := hmf.2.2.2.2.2
        rw [z] at z2
        exact (Option.some.inj z2).symm, hl⟩
      exact va_runIN (As := As) (rest := rest) (y := y) (Ts := lw_g) ⟨hF.1, hF.2.1, hF.2.2.2.1, hF.2.2.2.2.1, hts⟩ (hM H.size) ⟨hB, hy1, hts _ hins⟩ hpre rfl hk h.1 rfl (lv_room hrm) dd ⟨hce, hsl⟩
  intro T hT X
  obtain ⟨v, st₀, t, T', L, h0, X', hL, e1, e2, ⟨⟨hv, w1, hΨ, hP1, hD1⟩, hz, hk1⟩, go⟩ := hrun T hT X
  cases hv
  rw [h0] at hz hk1
  obtain ⟨hPn, hDn⟩ := va_join (wr := wr) (w1 := w1) hP hD [q0] isR hwc hR hnd hdis hk1 hFc hP1 hD1
  obtain ⟨t2, a1, b1⟩ := K w1 hΨ p e s m args below meth c T'.heap (locs ++ L) ls hF hini hA hK (by rw [e1]; exact hPn) hDn ⟨Nat.le_trans hS.1 (by rw [e1]; exact hz), fun q h1 h2 => by rw [e1, hk1 q (Nat.lt_of_lt_of_le h1 hS.1) (fun z => h2 (hFc q z))]; exact hS.2.1 q h1 h2, fun q hq => by
      rcases List.mem_append.mp hq with z | z
      · exact hS.2.2 q z
      · exact hFc _ (hL q z)⟩ hN h T' rfl X'
  exact ⟨t2, go t2 a1, b1⟩
end RVC
theorem ra_i (U : State) (c1 c2 : ClassId) (h1 : va_RA U c1 .int) (h2 : va_RA U c2 .int) : c1 = c2 := Option.some.inj ((show U.vm.findClass _ = some c1 from h1).symm.trans h2)
theorem ra_j (U : State) (c1 c2 : ClassId) (h1 : va_RA U c1 .long) (h2 : va_RA U c2 .long) : c1 = c2 := Option.some.inj ((show U.vm.findClass _ = some c1 from h1).symm.trans h2)
theorem ra_z (U : State) (c1 c2 : ClassId) (h1 : va_RA U c1 .boolean) (h2 : va_RA U c2 .boolean) : c1 = c2 := Option.some.inj ((show U.vm.findClass _ = some c1 from h1).symm.trans h2)
def zI : Nat → Int32 := fun _ => 0
def zL : Nat → Int64 := fun _ => 0
def σz : SS := (fun _ => 0, fun _ => 0, fun _ => zI, fun _ => zL)
