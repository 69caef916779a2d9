/-! A STATE of one side (the class's object, or the reference's): int fields, long fields, int arrays (booleans too), long arrays -/
abbrev SS : Type := (Nat → Int32) × (Nat → Int64) × (Nat → Nat → Int32) × (Nat → Nat → Int64)
def fu {α : Type} (f : Nat → α) (k : Nat) (v : α) : Nat → α := fun j => if j = k then v else f j
def sI (σ : SS) (k : Nat) : Int32 := σ.1 k
def sJ (σ : SS) (k : Nat) : Int64 := σ.2.1 k
def sA (σ : SS) (k : Nat) : Nat → Int32 := σ.2.2.1 k
def sL (σ : SS) (k : Nat) : Nat → Int64 := σ.2.2.2 k
def uI (σ : SS) (k : Nat) (v : Int32) : SS := (fu σ.1 k v, σ.2)
def uJ (σ : SS) (k : Nat) (v : Int64) : SS := (σ.1, fu σ.2.1 k v, σ.2.2)
def uA (σ : SS) (k : Nat) (f : Nat → Int32) : SS := (σ.1, σ.2.1, fu σ.2.2.1 k f, σ.2.2.2)
def uL (σ : SS) (k : Nat) (f : Nat → Int64) : SS := (σ.1, σ.2.1, σ.2.2.1, fu σ.2.2.2 k f)
/-- a place in an array, out of an int -/
def ix (i : Int32) : Nat := i.toNatClampNeg
/-- the surroundings: launch, class numbers, array classes, addresses that may change, the world of a state, the two static rows -/
abbrev GE : Type := Launch × va_G × List (ClassId × FieldType) × (Nat → Prop) × (SS → va_W) × Nat × Nat
def gl (G : GE) : Launch := G.1
def gD (G : GE) : va_G := G.2.1
def gT (G : GE) : List (ClassId × FieldType) := G.2.2.1
def gA (G : GE) : Nat → Prop := G.2.2.2.1
def gL (G : GE) : SS → va_W := G.2.2.2.2.1
def gO (G : GE) : Nat := G.2.2.2.2.2.1
def gC (G : GE) : Nat := G.2.2.2.2.2.2
def chO : Nat → Int32 := fun j => match j with
  | 1 => 46 | 2 => 40 | 4 => 91 | 5 => 123 | 6 => 60 | 7 => 33 | 8 => 61 | _ => 0
def chC : Nat → Int32 := fun j => match j with
  | 2 => 41 | 4 => 93 | 5 => 125 | 6 => 62 | _ => 0
def Stt (G : GE) (U : State) (H : Heap) : Prop :=
  va_Z "ShapeHouse" "OPENER" "[C" (.ref (gO G)) (gA G) U H ∧ va_T .char (gO G) 9 (fun j => .int (chO j)) (gA G) U H ∧ va_Z "ShapeHouse" "CLOSER" "[C" (.ref (gC G)) (gA G) U H ∧ va_T .char (gC G) 9 (fun j => .int (chC j)) (gA G) U H
theorem Stt.moved {G : GE} {u U : State} {H : Heap} (hvm : u.vm.Alike U.vm) (h : Stt G u H) : Stt G U H := ⟨h.1.moved hvm, h.2.1.moved hvm, h.2.2.1.moved hvm, h.2.2.2.moved hvm⟩
theorem Stt.kept {G : GE} {U : State} {H H1 : Heap} (h : Stt G U H) (hq : ∀ a : Nat, a < H.size → ¬ gA G a → H1[a]? = H[a]?) : Stt G U H1 := ⟨h.1.kept hq, h.2.1.kept hq, h.2.2.1.kept hq, h.2.2.2.kept hq⟩
/-- links of nest mates, which a call doesn't hand on by itself -/
def NW (U : State) : Prop := va_Nw (.fieldLinkNest "ShapeHouse$Teller" 109 "ShapeHouse" "OPENER" "[C" "ShapeHouse") U ∧ va_Nw (.fieldLinkNest "ShapeHouse$Teller" 122 "ShapeHouse" "CLOSER" "[C" "ShapeHouse") U ∧ va_Nw (.fieldLinkNest "ShapeHouse$Reader" 139 "ShapeHouse" "OPENER" "[C" "ShapeHouse") U ∧ va_Nw (.fieldLinkNest "ShapeHouse$Reader" 120 "ShapeHouse" "CLOSER" "[C" "ShapeHouse") U ∧ va_Nw (.methodLinkNest "ShapeHouse$Tally" 76 ⟨"ShapeHouse", "isSize", "(I)Z"⟩ "ShapeHouse") U
theorem NW.warm {s U : State} (hW : s.WarmedH U.vm) (h : NW s) : NW U := ⟨h.1.warmF hW, h.2.1.warmF hW, h.2.2.1.warmF hW, h.2.2.2.1.warmF hW, h.2.2.2.2.warmM hW⟩
theorem NW.same {s U : State} (e : s.vm = U.vm) (h : NW s) : NW U := ⟨h.1.same rfl e, h.2.1.same rfl e, h.2.2.1.same rfl e, h.2.2.2.1.same rfl e, h.2.2.2.2.same rfl e⟩
def RM (d : Nat) : Room := { frames := d, cells := 0, slots := 0, locals := 40 * d }
def En (G : GE) (σ : SS) (U : State) : Prop := va_P (gD G) vwCl (gL G σ) U.heap ∧ va_K (gD G) vwCl (gT G) U ∧ va_D (gA G) (gL G σ) ∧ Stt G U U.heap ∧ NW U
def QQ (G : GE) (r : Option Value) (σ' : SS) : Array Value → State → Outcome → State → Prop := fun _ st oc t => (oc = .returned r ∧ va_P (gD G) vwCl (gL G σ') t.heap ∧ va_D (gA G) (gL G σ')) ∧ va_F (gA G) st t
/-- a method's contract: called with av in the state σ it answers r and leaves σ' -/
def Mt (G : GE) (d : Nat) (y : MethodName) (cc : ByteArray) (nL : Nat) (ret : Option FieldType) (av : List Value) (σ : SS) (r : Option Value) (σ' : SS) : Prop :=
  Met (gl G) y (.code y cc nL ret :: lw_g) (RM d) (va_Pc av (En G σ)) (QQ G r σ') 0 0 (gA G)
def Fx (own : String) (cc : ByteArray) (nL : Nat) (ret : Option FieldType) (p : Program) (s : State) (m : MethodId) (args : Array Value) (meth : Method) (c : Code) : Prop :=
  p.tables.exec = Jvm.exec ∧ c.code = cc ∧ meth.sig.returnType = ret ∧ c.maxLocals = nL ∧ s.vm.findClass own = some m.cls ∧ meth.locks = false ∧ ∀ w ∈ lw_g, w.before args s = true
def Wo (G : GE) (σ : SS) (s : State) (H : Heap) (locs : List Loc) : Prop :=
  va_K (gD G) vwCl (gT G) s ∧ va_P (gD G) vwCl (gL G σ) H ∧ va_D (gA G) (gL G σ) ∧ va_S (gA G) s.heap H locs ∧ Stt G s s.heap ∧ NW s
/-- from here the method goes on to its end, with the answer rf and the state σf -/
def V (G : GE) (d : Nat) (own : String) (cc : ByteArray) (nL : Nat) (ret : Option FieldType) (rf : Option Value) (σf : SS) (pc : Nat) (lv : List (Nat × Value)) (st : List Value) (σ : SS) : Prop :=
  ∀ (p : Program) (e : Env) (s : State) (m : MethodId) (args : Array Value) (below : List Frame) (meth : Method) (c : Code) (H : Heap) (locs : List Loc) (ls : Array Slot), Fx own cc nL ret p s m args meth c → Wo G σ s H locs → lv_has ls nL lv →
    W p (gl G) e (RM d) s m args below meth c H locs 0 0 (MQ below (QQ G rf σf) args s 0 0 (gA G)) (F0 m pc ls st)
theorem Mt.of {G : GE} {d : Nat} {y : MethodName} {own : String} {cc : ByteArray} {nL : Nat} {ret : Option FieldType} {av : List Value} {lv : List (Nat × Value)} {σ : SS} {r : Option Value} {σ' : SS} (hy : plainName y.cls = true) (ho : y.cls = own) (hle : (lg_sl av).length ≤ nL) (hlv : lv_args 0 av = lv)
    (K : V G d own cc nL ret r σ' 0 lv [] σ) : Mt G d y cc nL ret av σ r σ' := by
  subst ho hlv
  refine Met.ofW (cc := cc) (maxL := nL) (ret := ret) hy rfl ?_
  intro p e s m args below meth c s₁ B hml hv
  obtain ⟨rfl, hP, hK, hD, hZ⟩ := hv
  have hts := atoms_spec (ws := Cond.code y cc nL ret :: lw_g) B.pre
  have hl := lv_entry av (n := nL) hle
  rw [lg_entry_eq]
  exact K p e s m _ below meth c s.heap [] _ ⟨B.exec, B.bytes, B.returns, hml, findClass_of_methodNamed B.named, B.notSynchronized, fun w hw => hts w (List.mem_cons_of_mem _ hw)⟩ ⟨hK, hP, hD, va_S.rf, hZ⟩ hl
section RV
variable {G : GE} {d : Nat} {own : String} {cc : ByteArray} {nL : Nat} {ret : Option FieldType} {rf : Option Value} {σf : SS} {pc n : Nat} {lv : List (Nat × Value)} {st : List Value} {σ : SS}
theorem r_sub {lv' : List (Nat × Value)} (ks : List Nat) (hl : lv_pick lv ks = lv') (K : V G d own cc nL ret rf σf pc lv' st σ) : V G d own cc nL ret rf σf pc lv st σ :=
  fun p e s m args below meth c H locs ls hF hW h => K p e s m args below meth c H locs ls hF hW (lv_sub h ks hl)
theorem r_iconst {i : Int} {v : Int32} (dd : decode cc pc = .ok (.iconst i, 1)) (hv : Int32.ofInt i = v) (hp : pc + 1 = n) (K : V G d own cc nL ret rf σf n lv (.int v :: st) σ) : V G d own cc nL ret rf σf pc lv st σ := by
  subst hp
  exact fun p e s m args below meth c H locs ls hF hW h => lv_iconst hF.1 hF.2.1 dd hv (K p e s m args below meth c H locs ls hF hW h)
theorem r_bipush {i : Int} {v : Int32} (dd : decode cc pc = .ok (.bipush i, 2)) (hv : (Int8.ofInt i).toInt32 = v) (hp : pc + 2 = n) (K : V G d own cc nL ret rf σf n lv (.int v :: st) σ) : V G d own cc nL ret rf σf pc lv st σ := by
  subst hp
  exact fun p e s m args below meth c H locs ls hF hW h => lv_bipush hF.1 hF.2.1 dd hv (K p e s m args below meth c H locs ls hF hW h)
theorem r_sipush {i : Int} {v : Int32} (dd : decode cc pc = .ok (.sipush i, 3)) (hv : (Int16.ofInt i).toInt32 = v) (hp : pc + 3 = n) (K : V G d own cc nL ret rf σf n lv (.int v :: st) σ) : V G d own cc nL ret rf σf pc lv st σ := by
  subst hp
  exact fun p e s m args below meth c H locs ls hF hW h => lv_sipush hF.1 hF.2.1 dd hv (K p e s m args below meth c H locs ls hF hW h)
theorem r_lconst {i : Fin 2} {v : Int64} (dd : decode cc pc = .ok (.lconst i, 1)) (hv : Int64.ofNat (i : Nat) = v) (hp : pc + 1 = n) (K : V G d own cc nL ret rf σf n lv (.long v :: st) σ) : V G d own cc nL ret rf σf pc lv st σ := by
  subst hp
  exact fun p e s m args below meth c H locs ls hF hW h => lv_lconst hF.1 hF.2.1 dd hv (K p e s m args below meth c H locs ls hF hW h)
theorem r_ldc2 {i : Nat} {v : Int64} (hc : Cond.constantLong own i v ∈ lw_g) (dd : decode cc pc = .ok (.ldc2_w i, 3)) (hp : pc + 3 = n) (K : V G d own cc nL ret rf σf n lv (.long v :: st) σ) : V G d own cc nL ret rf σf pc lv st σ := by
  subst hp
  exact fun p e s m args below meth c H locs ls hF hW h => lv_ldc2 hF.1 hF.2.1 hF.2.2.2.2.1 (hF.2.2.2.2.2.2 _ hc) dd (K p e s m args below meth c H locs ls hF hW h)
theorem r_ldcw {i : Nat} {v : Int32} (hc : Cond.constant own i v ∈ lw_g) (dd : decode cc pc = .ok (.ldc_w i, 3)) (hp : pc + 3 = n) (K : V G d own cc nL ret rf σf n lv (.int v :: st) σ) : V G d own cc nL ret rf σf pc lv st σ := by
  subst hp
  exact fun p e s m args below meth c H locs ls hF hW h => lv_ldcw hF.1 hF.2.1 hF.2.2.2.2.1 (hF.2.2.2.2.2.2 _ hc) dd (K p e s m args below meth c H locs ls hF hW h)
theorem r_iload_n {k : Fin 4} {i : Nat} {x : Int32} (j : Nat) (dd : decode cc pc = .ok (.iload_n k, 1)) (hi : (k : Nat) = i) (hj : lv[j]? = some (i, .int x)) (hp : pc + 1 = n) (K : V G d own cc nL ret rf σf n lv (.int x :: st) σ) : V G d own cc nL ret rf σf pc lv st σ := by
  subst hp
  exact fun p e s m args below meth c H locs ls hF hW h => lv_iload_n hF.1 hF.2.1 dd hi (lv_at h j hj) (K p e s m args below meth c H locs ls hF hW h)
theorem r_iload {i : Nat} {x : Int32} (j : Nat) (dd : decode cc pc = .ok (.iload i, 2)) (hj : lv[j]? = some (i, .int x)) (hp : pc + 2 = n) (K : V G d own cc nL ret rf σf n lv (.int x :: st) σ) : V G d own cc nL ret rf σf pc lv st σ := by
  subst hp
  exact fun p e s m args below meth c H locs ls hF hW h => lv_iload hF.1 hF.2.1 dd (lv_at h j hj) (K p e s m args below meth c H locs ls hF hW h)
theorem r_lload_n {k : Fin 4} {i : Nat} {x : Int64} (j : Nat) (dd : decode cc pc = .ok (.lload_n k, 1)) (hi : (k : Nat) = i) (hj : lv[j]? = some (i, .long x)) (hp : pc + 1 = n) (K : V G d own cc nL ret rf σf n lv (.long x :: st) σ) : V G d own cc nL ret rf σf pc lv st σ := by
  subst hp
  exact fun p e s m args below meth c H locs ls hF hW h => lv_lload_n hF.1 hF.2.1 dd hi (lv_at h j hj) (K p e s m args below meth c H locs ls hF hW h)
theorem r_lload {i : Nat} {x : Int64} (j : Nat) (dd : decode cc pc = .ok (.lload i, 2)) (hj : lv[j]? = some (i, .long x)) (hp : pc + 2 = n) (K : V G d own cc nL ret rf σf n lv (.long x :: st) σ) : V G d own cc nL ret rf σf pc lv st σ := by
  subst hp
  exact fun p e s m args below meth c H locs ls hF hW h => lv_lload hF.1 hF.2.1 dd (lv_at h j hj) (K p e s m args below meth c H locs ls hF hW h)
theorem r_aload_n {k : Fin 4} {i : Nat} {x : Nat} (j : Nat) (dd : decode cc pc = .ok (.aload_n k, 1)) (hi : (k : Nat) = i) (hj : lv[j]? = some (i, .ref x)) (hp : pc + 1 = n) (K : V G d own cc nL ret rf σf n lv (.ref x :: st) σ) : V G d own cc nL ret rf σf pc lv st σ := by
  subst hp
  exact fun p e s m args below meth c H locs ls hF hW h => lv_aload_n hF.1 hF.2.1 dd hi (lv_at h j hj) (K p e s m args below meth c H locs ls hF hW h)
theorem r_aload {i : Nat} {x : Nat} (j : Nat) (dd : decode cc pc = .ok (.aload i, 2)) (hj : lv[j]? = some (i, .ref x)) (hp : pc + 2 = n) (K : V G d own cc nL ret rf σf n lv (.ref x :: st) σ) : V G d own cc nL ret rf σf pc lv st σ := by
  subst hp
  exact fun p e s m args below meth c H locs ls hF hW h => lv_aload hF.1 hF.2.1 dd (lv_at h j hj) (K p e s m args below meth c H locs ls hF hW h)
theorem r_istore_n {k : Fin 4} {i : Nat} {x : Int32} {lv' : List (Nat × Value)} (dd : decode cc pc = .ok (.istore_n k, 1)) (hi : (k : Nat) = i) (hn : i < nL) (hl : (i, Value.int x) :: lv.filter (fun q => !(q.1 == i) && !(q.1 + 1 == i && q.2.category == 2)) = lv') (hp : pc + 1 = n) (K : V G d own cc nL ret rf σf n lv' st σ) : V G d own cc nL ret rf σf pc lv (.int x :: st) σ := by
  subst hp
  exact fun p e s m args below meth c H locs ls hF hW h => lv_istore_n hF.1 hF.2.1 dd hi h hn hl (fun ls h => K p e s m args below meth c H locs ls hF hW h)
theorem r_istore {i : Nat} {x : Int32} {lv' : List (Nat × Value)} (dd : decode cc pc = .ok (.istore i, 2)) (hn : i < nL) (hl : (i, Value.int x) :: lv.filter (fun q => !(q.1 == i) && !(q.1 + 1 == i && q.2.category == 2)) = lv') (hp : pc + 2 = n) (K : V G d own cc nL ret rf σf n lv' st σ) : V G d own cc nL ret rf σf pc lv (.int x :: st) σ := by
  subst hp
  exact fun p e s m args below meth c H locs ls hF hW h => lv_istore hF.1 hF.2.1 dd h hn hl (fun ls h => K p e s m args below meth c H locs ls hF hW h)
theorem r_lstore_n {k : Fin 4} {i : Nat} {x : Int64} {lv' : List (Nat × Value)} (dd : decode cc pc = .ok (.lstore_n k, 1)) (hi : (k : Nat) = i) (hn : i + 1 < nL) (hl : (i, Value.long x) :: lv.filter (fun q => !(q.1 == i) && (!(q.1 == i + 1) && !(q.1 + 1 == i && q.2.category == 2))) = lv') (hp : pc + 1 = n) (K : V G d own cc nL ret rf σf n lv' st σ) : V G d own cc nL ret rf σf pc lv (.long x :: st) σ := by
  subst hp
  exact fun p e s m args below meth c H locs ls hF hW h => lv_lstore_n hF.1 hF.2.1 dd hi h hn hl (fun ls h => K p e s m args below meth c H locs ls hF hW h)
theorem r_lstore {i : Nat} {x : Int64} {lv' : List (Nat × Value)} (dd : decode cc pc = .ok (.lstore i, 2)) (hn : i + 1 < nL) (hl : (i, Value.long x) :: lv.filter (fun q => !(q.1 == i) && (!(q.1 == i + 1) && !(q.1 + 1 == i && q.2.category == 2))) = lv') (hp : pc + 2 = n) (K : V G d own cc nL ret rf σf n lv' st σ) : V G d own cc nL ret rf σf pc lv (.long x :: st) σ := by
  subst hp
  exact fun p e s m args below meth c H locs ls hF hW h => lv_lstore hF.1 hF.2.1 dd h hn hl (fun ls h => K p e s m args below meth c H locs ls hF hW h)
theorem r_iinc {i : Nat} {a : Int} {x v : Int32} {lv' : List (Nat × Value)} (j : Nat) (dd : decode cc pc = .ok (.iinc i a, 3)) (hj : lv[j]? = some (i, .int x)) (hv : x + Int32.ofInt a = v) (hn : i < nL) (hl : (i, Value.int v) :: lv.filter (fun q => !(q.1 == i) && !(q.1 + 1 == i && q.2.category == 2)) = lv') (hp : pc + 3 = n) (K : V G d own cc nL ret rf σf n lv' st σ) : V G d own cc nL ret rf σf pc lv st σ := by
  subst hp
  exact fun p e s m args below meth c H locs ls hF hW h => lv_iinc hF.1 hF.2.1 dd h hj hv hn hl (fun ls h => K p e s m args below meth c H locs ls hF hW h)
theorem r_iadd {x y : Int32} (dd : decode cc pc = .ok (.iadd, 1)) (hp : pc + 1 = n) (K : V G d own cc nL ret rf σf n lv (.int (x + y) :: st) σ) : V G d own cc nL ret rf σf pc lv (.int y :: .int x :: st) σ := by
  subst hp
  exact fun p e s m args below meth c H locs ls hF hW h => lv_iadd hF.1 hF.2.1 dd (K p e s m args below meth c H locs ls hF hW h)
theorem r_isub {x y : Int32} (dd : decode cc pc = .ok (.isub, 1)) (hp : pc + 1 = n) (K : V G d own cc nL ret rf σf n lv (.int (x - y) :: st) σ) : V G d own cc nL ret rf σf pc lv (.int y :: .int x :: st) σ := by
  subst hp
  exact fun p e s m args below meth c H locs ls hF hW h => lv_isub hF.1 hF.2.1 dd (K p e s m args below meth c H locs ls hF hW h)
theorem r_imul {x y : Int32} (dd : decode cc pc = .ok (.imul, 1)) (hp : pc + 1 = n) (K : V G d own cc nL ret rf σf n lv (.int (x * y) :: st) σ) : V G d own cc nL ret rf σf pc lv (.int y :: .int x :: st) σ := by
  subst hp
  exact fun p e s m args below meth c H locs ls hF hW h => lv_imul hF.1 hF.2.1 dd (K p e s m args below meth c H locs ls hF hW h)
theorem r_iand {x y : Int32} (dd : decode cc pc = .ok (.iand, 1)) (hp : pc + 1 = n) (K : V G d own cc nL ret rf σf n lv (.int (x &&& y) :: st) σ) : V G d own cc nL ret rf σf pc lv (.int y :: .int x :: st) σ := by
  subst hp
  exact fun p e s m args below meth c H locs ls hF hW h => lv_iand hF.1 hF.2.1 dd (K p e s m args below meth c H locs ls hF hW h)
theorem r_ior {x y : Int32} (dd : decode cc pc = .ok (.ior, 1)) (hp : pc + 1 = n) (K : V G d own cc nL ret rf σf n lv (.int (x ||| y) :: st) σ) : V G d own cc nL ret rf σf pc lv (.int y :: .int x :: st) σ := by
  subst hp
  exact fun p e s m args below meth c H locs ls hF hW h => lv_ior hF.1 hF.2.1 dd (K p e s m args below meth c H locs ls hF hW h)
theorem r_ixor {x y : Int32} (dd : decode cc pc = .ok (.ixor, 1)) (hp : pc + 1 = n) (K : V G d own cc nL ret rf σf n lv (.int (x ^^^ y) :: st) σ) : V G d own cc nL ret rf σf pc lv (.int y :: .int x :: st) σ := by
  subst hp
  exact fun p e s m args below meth c H locs ls hF hW h => lv_ixor hF.1 hF.2.1 dd (K p e s m args below meth c H locs ls hF hW h)
theorem r_ishl {x y : Int32} (dd : decode cc pc = .ok (.ishl, 1)) (hp : pc + 1 = n) (K : V G d own cc nL ret rf σf n lv (.int (x <<< (y &&& 31)) :: st) σ) : V G d own cc nL ret rf σf pc lv (.int y :: .int x :: st) σ := by
  subst hp
  exact fun p e s m args below meth c H locs ls hF hW h => lv_ishl hF.1 hF.2.1 dd (K p e s m args below meth c H locs ls hF hW h)
theorem r_ishr {x y : Int32} (dd : decode cc pc = .ok (.ishr, 1)) (hp : pc + 1 = n) (K : V G d own cc nL ret rf σf n lv (.int (x >>> (y &&& 31)) :: st) σ) : V G d own cc nL ret rf σf pc lv (.int y :: .int x :: st) σ := by
  subst hp
  exact fun p e s m args below meth c H locs ls hF hW h => lv_ishr hF.1 hF.2.1 dd (K p e s m args below meth c H locs ls hF hW h)
theorem r_iushr {x y : Int32} (dd : decode cc pc = .ok (.iushr, 1)) (hp : pc + 1 = n) (K : V G d own cc nL ret rf σf n lv (.int (x.toUInt32 >>> (y.toUInt32 &&& Int32.toUInt32 31)).toInt32 :: st) σ) : V G d own cc nL ret rf σf pc lv (.int y :: .int x :: st) σ := by
  subst hp
  exact fun p e s m args below meth c H locs ls hF hW h => lv_iushr hF.1 hF.2.1 dd rfl (K p e s m args below meth c H locs ls hF hW h)
theorem r_ladd {x y : Int64} (dd : decode cc pc = .ok (.ladd, 1)) (hp : pc + 1 = n) (K : V G d own cc nL ret rf σf n lv (.long (x + y) :: st) σ) : V G d own cc nL ret rf σf pc lv (.long y :: .long x :: st) σ := by
  subst hp
  exact fun p e s m args below meth c H locs ls hF hW h => lv_ladd hF.1 hF.2.1 dd (K p e s m args below meth c H locs ls hF hW h)
theorem r_lsub {x y : Int64} (dd : decode cc pc = .ok (.lsub, 1)) (hp : pc + 1 = n) (K : V G d own cc nL ret rf σf n lv (.long (x - y) :: st) σ) : V G d own cc nL ret rf σf pc lv (.long y :: .long x :: st) σ := by
  subst hp
  exact fun p e s m args below meth c H locs ls hF hW h => lv_lsub hF.1 hF.2.1 dd (K p e s m args below meth c H locs ls hF hW h)
theorem r_lmul {x y : Int64} (dd : decode cc pc = .ok (.lmul, 1)) (hp : pc + 1 = n) (K : V G d own cc nL ret rf σf n lv (.long (x * y) :: st) σ) : V G d own cc nL ret rf σf pc lv (.long y :: .long x :: st) σ := by
  subst hp
  exact fun p e s m args below meth c H locs ls hF hW h => lv_lmul hF.1 hF.2.1 dd (K p e s m args below meth c H locs ls hF hW h)
theorem r_land {x y : Int64} (dd : decode cc pc = .ok (.land, 1)) (hp : pc + 1 = n) (K : V G d own cc nL ret rf σf n lv (.long (x &&& y) :: st) σ) : V G d own cc nL ret rf σf pc lv (.long y :: .long x :: st) σ := by
  subst hp
  exact fun p e s m args below meth c H locs ls hF hW h => lv_land hF.1 hF.2.1 dd (K p e s m args below meth c H locs ls hF hW h)
theorem r_lor {x y : Int64} (dd : decode cc pc = .ok (.lor, 1)) (hp : pc + 1 = n) (K : V G d own cc nL ret rf σf n lv (.long (x ||| y) :: st) σ) : V G d own cc nL ret rf σf pc lv (.long y :: .long x :: st) σ := by
  subst hp
  exact fun p e s m args below meth c H locs ls hF hW h => lv_lor hF.1 hF.2.1 dd (K p e s m args below meth c H locs ls hF hW h)
theorem r_lshl {x : Int64} {y : Int32} (dd : decode cc pc = .ok (.lshl, 1)) (hp : pc + 1 = n) (K : V G d own cc nL ret rf σf n lv (.long (x <<< (y.toInt64 &&& 63)) :: st) σ) : V G d own cc nL ret rf σf pc lv (.int y :: .long x :: st) σ := by
  subst hp
  exact fun p e s m args below meth c H locs ls hF hW h => lv_lshl hF.1 hF.2.1 dd rfl (K p e s m args below meth c H locs ls hF hW h)
theorem r_i2l {x : Int32} (dd : decode cc pc = .ok (.i2l, 1)) (hp : pc + 1 = n) (K : V G d own cc nL ret rf σf n lv (.long x.toInt64 :: st) σ) : V G d own cc nL ret rf σf pc lv (.int x :: st) σ := by
  subst hp
  exact fun p e s m args below meth c H locs ls hF hW h => lv_i2l hF.1 hF.2.1 dd rfl (K p e s m args below meth c H locs ls hF hW h)
theorem r_l2i {x : Int64} (dd : decode cc pc = .ok (.l2i, 1)) (hp : pc + 1 = n) (K : V G d own cc nL ret rf σf n lv (.int x.toInt32 :: st) σ) : V G d own cc nL ret rf σf pc lv (.long x :: st) σ := by
  subst hp
  exact fun p e s m args below meth c H locs ls hF hW h => lv_l2i hF.1 hF.2.1 dd rfl (K p e s m args below meth c H locs ls hF hW h)
theorem r_lcmp {x y : Int64} (dd : decode cc pc = .ok (.lcmp, 1)) (hp : pc + 1 = n) (K : V G d own cc nL ret rf σf n lv (.int (lg_cmp x y) :: st) σ) : V G d own cc nL ret rf σf pc lv (.long y :: .long x :: st) σ := by
  subst hp
  exact fun p e s m args below meth c H locs ls hF hW h => W.lcmp hF.1 hF.2.1 dd (K p e s m args below meth c H locs ls hF hW h)
theorem r_idiv {x y : Int32} (hne : ¬ y = 0) (dd : decode cc pc = .ok (.idiv, 1)) (hp : pc + 1 = n) (K : V G d own cc nL ret rf σf n lv (.int (x / y) :: st) σ) : V G d own cc nL ret rf σf pc lv (.int y :: .int x :: st) σ := by
  subst hp
  exact fun p e s m args below meth c H locs ls hF hW h => lv_idiv hF.1 hF.2.1 dd hne (K p e s m args below meth c H locs ls hF hW h)
theorem r_irem {x y : Int32} (hne : ¬ y = 0) (dd : decode cc pc = .ok (.irem, 1)) (hp : pc + 1 = n) (K : V G d own cc nL ret rf σf n lv (.int (x - x / y * y) :: st) σ) : V G d own cc nL ret rf σf pc lv (.int y :: .int x :: st) σ := by
  subst hp
  exact fun p e s m args below meth c H locs ls hF hW h => lv_irem hF.1 hF.2.1 dd hne (K p e s m args below meth c H locs ls hF hW h)
theorem r_ldiv {x y : Int64} (hne : ¬ y = 0) (dd : decode cc pc = .ok (.ldiv, 1)) (hp : pc + 1 = n) (K : V G d own cc nL ret rf σf n lv (.long (x / y) :: st) σ) : V G d own cc nL ret rf σf pc lv (.long y :: .long x :: st) σ := by
  subst hp
  exact fun p e s m args below meth c H locs ls hF hW h => lv_ldiv hF.1 hF.2.1 dd hne (K p e s m args below meth c H locs ls hF hW h)
theorem r_lrem {x y : Int64} (hne : ¬ y = 0) (dd : decode cc pc = .ok (.lrem, 1)) (hp : pc + 1 = n) (K : V G d own cc nL ret rf σf n lv (.long (x - x / y * y) :: st) σ) : V G d own cc nL ret rf σf pc lv (.long y :: .long x :: st) σ := by
  subst hp
  exact fun p e s m args below meth c H locs ls hF hW h => lv_lrem hF.1 hF.2.1 dd hne (K p e s m args below meth c H locs ls hF hW h)
theorem r_dup {v : Value} (hv : v.category = 1) (dd : decode cc pc = .ok (.dup, 1)) (hp : pc + 1 = n) (K : V G d own cc nL ret rf σf n lv (v :: v :: st) σ) : V G d own cc nL ret rf σf pc lv (v :: st) σ := by
  subst hp
  exact fun p e s m args below meth c H locs ls hF hW h => lv_dup hF.1 hF.2.1 dd hv (K p e s m args below meth c H locs ls hF hW h)
theorem r_pop {v : Value} (hv : v.category = 1) (dd : decode cc pc = .ok (.pop, 1)) (hp : pc + 1 = n) (K : V G d own cc nL ret rf σf n lv (st) σ) : V G d own cc nL ret rf σf pc lv (v :: st) σ := by
  subst hp
  exact fun p e s m args below meth c H locs ls hF hW h => lv_pop hF.1 hF.2.1 dd hv (K p e s m args below meth c H locs ls hF hW h)
theorem r_dup2_11 {v w : Value} (hv : v.category = 1) (hw : w.category = 1) (dd : decode cc pc = .ok (.dup2, 1)) (hp : pc + 1 = n) (K : V G d own cc nL ret rf σf n lv (v :: w :: v :: w :: st) σ) : V G d own cc nL ret rf σf pc lv (v :: w :: st) σ := by
  subst hp
  exact fun p e s m args below meth c H locs ls hF hW h => lv_dup2_11 hF.1 hF.2.1 dd hv hw (K p e s m args below meth c H locs ls hF hW h)
theorem r_dup2_2 {v : Value} (hv : v.category = 2) (dd : decode cc pc = .ok (.dup2, 1)) (hp : pc + 1 = n) (K : V G d own cc nL ret rf σf n lv (v :: v :: st) σ) : V G d own cc nL ret rf σf pc lv (v :: st) σ := by
  subst hp
  exact fun p e s m args below meth c H locs ls hF hW h => lv_dup2_2 hF.1 hF.2.1 dd hv (K p e s m args below meth c H locs ls hF hW h)
theorem r_if_eq {x : Int32} {off : Int} {t : Nat} (dd : decode cc pc = .ok (.ifCond .eq off, 3)) (ht : (pc : Int) + off = (t : Int)) (hp : pc + 3 = n) (Kt : x = 0 → V G d own cc nL ret rf σf t lv st σ) (Kf : ¬ (x = 0) → V G d own cc nL ret rf σf n lv st σ) : V G d own cc nL ret rf σf pc lv (.int x :: st) σ := by
  subst hp
  exact fun p e s m args below meth c H locs ls hF hW h => lv_if_eq hF.1 hF.2.1 dd ht (fun q => Kt q p e s m args below meth c H locs ls hF hW h) (fun q => Kf q p e s m args below meth c H locs ls hF hW h)
theorem r_icmp_eq {x y : Int32} {off : Int} {t : Nat} (dd : decode cc pc = .ok (.if_icmp .eq off, 3)) (ht : (pc : Int) + off = (t : Int)) (hp : pc + 3 = n) (Kt : x = y → V G d own cc nL ret rf σf t lv st σ) (Kf : ¬ (x = y) → V G d own cc nL ret rf σf n lv st σ) : V G d own cc nL ret rf σf pc lv (.int y :: .int x :: st) σ := by
  subst hp
  exact fun p e s m args below meth c H locs ls hF hW h => lv_icmp_eq hF.1 hF.2.1 dd ht (fun q => Kt q p e s m args below meth c H locs ls hF hW h) (fun q => Kf q p e s m args below meth c H locs ls hF hW h)
theorem r_if_ne {x : Int32} {off : Int} {t : Nat} (dd : decode cc pc = .ok (.ifCond .ne off, 3)) (ht : (pc : Int) + off = (t : Int)) (hp : pc + 3 = n) (Kt : ¬ x = 0 → V G d own cc nL ret rf σf t lv st σ) (Kf : x = 0 → V G d own cc nL ret rf σf n lv st σ) : V G d own cc nL ret rf σf pc lv (.int x :: st) σ := by
  subst hp
  exact fun p e s m args below meth c H locs ls hF hW h => lv_if_ne hF.1 hF.2.1 dd ht (fun q => Kt q p e s m args below meth c H locs ls hF hW h) (fun q => Kf q p e s m args below meth c H locs ls hF hW h)
theorem r_icmp_ne {x y : Int32} {off : Int} {t : Nat} (dd : decode cc pc = .ok (.if_icmp .ne off, 3)) (ht : (pc : Int) + off = (t : Int)) (hp : pc + 3 = n) (Kt : ¬ x = y → V G d own cc nL ret rf σf t lv st σ) (Kf : x = y → V G d own cc nL ret rf σf n lv st σ) : V G d own cc nL ret rf σf pc lv (.int y :: .int x :: st) σ := by
  subst hp
  exact fun p e s m args below meth c H locs ls hF hW h => lv_icmp_ne hF.1 hF.2.1 dd ht (fun q => Kt q p e s m args below meth c H locs ls hF hW h) (fun q => Kf q p e s m args below meth c H locs ls hF hW h)
theorem r_if_lt {x : Int32} {off : Int} {t : Nat} (dd : decode cc pc = .ok (.ifCond .lt off, 3)) (ht : (pc : Int) + off = (t : Int)) (hp : pc + 3 = n) (Kt : x < 0 → V G d own cc nL ret rf σf t lv st σ) (Kf : ¬ (x < 0) → V G d own cc nL ret rf σf n lv st σ) : V G d own cc nL ret rf σf pc lv (.int x :: st) σ := by
  subst hp
  exact fun p e s m args below meth c H locs ls hF hW h => lv_if_lt hF.1 hF.2.1 dd ht (fun q => Kt q p e s m args below meth c H locs ls hF hW h) (fun q => Kf q p e s m args below meth c H locs ls hF hW h)
theorem r_icmp_lt {x y : Int32} {off : Int} {t : Nat} (dd : decode cc pc = .ok (.if_icmp .lt off, 3)) (ht : (pc : Int) + off = (t : Int)) (hp : pc + 3 = n) (Kt : x < y → V G d own cc nL ret rf σf t lv st σ) (Kf : ¬ (x < y) → V G d own cc nL ret rf σf n lv st σ) : V G d own cc nL ret rf σf pc lv (.int y :: .int x :: st) σ := by
  subst hp
  exact fun p e s m args below meth c H locs ls hF hW h => lv_icmp_lt hF.1 hF.2.1 dd ht (fun q => Kt q p e s m args below meth c H locs ls hF hW h) (fun q => Kf q p e s m args below meth c H locs ls hF hW h)
theorem r_if_ge {x : Int32} {off : Int} {t : Nat} (dd : decode cc pc = .ok (.ifCond .ge off, 3)) (ht : (pc : Int) + off = (t : Int)) (hp : pc + 3 = n) (Kt : 0 ≤ x → V G d own cc nL ret rf σf t lv st σ) (Kf : ¬ (0 ≤ x) → V G d own cc nL ret rf σf n lv st σ) : V G d own cc nL ret rf σf pc lv (.int x :: st) σ := by
  subst hp
  exact fun p e s m args below meth c H locs ls hF hW h => lv_if_ge hF.1 hF.2.1 dd ht (fun q => Kt q p e s m args below meth c H locs ls hF hW h) (fun q => Kf q p e s m args below meth c H locs ls hF hW h)
theorem r_icmp_ge {x y : Int32} {off : Int} {t : Nat} (dd : decode cc pc = .ok (.if_icmp .ge off, 3)) (ht : (pc : Int) + off = (t : Int)) (hp : pc + 3 = n) (Kt : y ≤ x → V G d own cc nL ret rf σf t lv st σ) (Kf : ¬ (y ≤ x) → V G d own cc nL ret rf σf n lv st σ) : V G d own cc nL ret rf σf pc lv (.int y :: .int x :: st) σ := by
  subst hp
  exact fun p e s m args below meth c H locs ls hF hW h => lv_icmp_ge hF.1 hF.2.1 dd ht (fun q => Kt q p e s m args below meth c H locs ls hF hW h) (fun q => Kf q p e s m args below meth c H locs ls hF hW h)
theorem r_if_gt {x : Int32} {off : Int} {t : Nat} (dd : decode cc pc = .ok (.ifCond .gt off, 3)) (ht : (pc : Int) + off = (t : Int)) (hp : pc + 3 = n) (Kt : 0 < x → V G d own cc nL ret rf σf t lv st σ) (Kf : ¬ (0 < x) → V G d own cc nL ret rf σf n lv st σ) : V G d own cc nL ret rf σf pc lv (.int x :: st) σ := by
  subst hp
  exact fun p e s m args below meth c H locs ls hF hW h => lv_if_gt hF.1 hF.2.1 dd ht (fun q => Kt q p e s m args below meth c H locs ls hF hW h) (fun q => Kf q p e s m args below meth c H locs ls hF hW h)
theorem r_icmp_gt {x y : Int32} {off : Int} {t : Nat} (dd : decode cc pc = .ok (.if_icmp .gt off, 3)) (ht : (pc : Int) + off = (t : Int)) (hp : pc + 3 = n) (Kt : y < x → V G d own cc nL ret rf σf t lv st σ) (Kf : ¬ (y < x) → V G d own cc nL ret rf σf n lv st σ) : V G d own cc nL ret rf σf pc lv (.int y :: .int x :: st) σ := by
  subst hp
  exact fun p e s m args below meth c H locs ls hF hW h => lv_icmp_gt hF.1 hF.2.1 dd ht (fun q => Kt q p e s m args below meth c H locs ls hF hW h) (fun q => Kf q p e s m args below meth c H locs ls hF hW h)
theorem r_if_le {x : Int32} {off : Int} {t : Nat} (dd : decode cc pc = .ok (.ifCond .le off, 3)) (ht : (pc : Int) + off = (t : Int)) (hp : pc + 3 = n) (Kt : x ≤ 0 → V G d own cc nL ret rf σf t lv st σ) (Kf : ¬ (x ≤ 0) → V G d own cc nL ret rf σf n lv st σ) : V G d own cc nL ret rf σf pc lv (.int x :: st) σ := by
  subst hp
  exact fun p e s m args below meth c H locs ls hF hW h => lv_if_le hF.1 hF.2.1 dd ht (fun q => Kt q p e s m args below meth c H locs ls hF hW h) (fun q => Kf q p e s m args below meth c H locs ls hF hW h)
theorem r_icmp_le {x y : Int32} {off : Int} {t : Nat} (dd : decode cc pc = .ok (.if_icmp .le off, 3)) (ht : (pc : Int) + off = (t : Int)) (hp : pc + 3 = n) (Kt : x ≤ y → V G d own cc nL ret rf σf t lv st σ) (Kf : ¬ (x ≤ y) → V G d own cc nL ret rf σf n lv st σ) : V G d own cc nL ret rf σf pc lv (.int y :: .int x :: st) σ := by
  subst hp
  exact fun p e s m args below meth c H locs ls hF hW h => lv_icmp_le hF.1 hF.2.1 dd ht (fun q => Kt q p e s m args below meth c H locs ls hF hW h) (fun q => Kf q p e s m args below meth c H locs ls hF hW h)
theorem r_goto {off : Int} {t : Nat} (dd : decode cc pc = .ok (.goto off, 3)) (ht : (pc : Int) + off = (t : Int)) (K : V G d own cc nL ret rf σf t lv st σ) : V G d own cc nL ret rf σf pc lv st σ :=
  fun p e s m args below meth c H locs ls hF hW h => lv_goto hF.1 hF.2.1 dd ht (K p e s m args below meth c H locs ls hF hW h)
theorem r_tableOut {dflt lo hi : Int} {offs : Array Int} {len : Nat} {x : Int32} {t : Nat} (dd : decode cc pc = .ok (.tableswitch dflt lo hi offs, len)) (hx : x.toInt < lo ∨ hi < x.toInt) (ht : (pc : Int) + dflt = (t : Int)) (K : V G d own cc nL ret rf σf t lv st σ) : V G d own cc nL ret rf σf pc lv (.int x :: st) σ :=
  fun p e s m args below meth c H locs ls hF hW h => lv_tableOut hF.1 hF.2.1 dd hx ht (K p e s m args below meth c H locs ls hF hW h)
theorem r_tableIn {dflt lo hi : Int} {offs : Array Int} {len : Nat} {x : Int32} {off : Int} {t : Nat} (dd : decode cc pc = .ok (.tableswitch dflt lo hi offs, len)) (h1 : ¬ x.toInt < lo) (h2 : ¬ hi < x.toInt) (ho : offs[(x.toInt - lo).toNat]? = some off) (ht : (pc : Int) + off = (t : Int)) (K : V G d own cc nL ret rf σf t lv st σ) : V G d own cc nL ret rf σf pc lv (.int x :: st) σ :=
  fun p e s m args below meth c H locs ls hF hW h => lv_tableIn hF.1 hF.2.1 dd h1 h2 ho ht (K p e s m args below meth c H locs ls hF hW h)
theorem r_lookup {dflt : Int} {ps : Array (Int × Int)} {len : Nat} {x : Int32} {off : Int} {t : Nat} (dd : decode cc pc = .ok (.lookupswitch dflt ps, len)) (hq : (ps.toList.zip (ps.toList.drop 1)).all (fun (a, next) => a.1 < next.1) = true) (ho : Op.lookupswitch.offset ps.toList dflt x.toInt = off) (ht : (pc : Int) + off = (t : Int)) (K : V G d own cc nL ret rf σf t lv st σ) : V G d own cc nL ret rf σf pc lv (.int x :: st) σ :=
  fun p e s m args below meth c H locs ls hF hW h => lv_lookup hF.1 hF.2.1 dd hq ho ht (K p e s m args below meth c H locs ls hF hW h)
theorem r_get {a q0 ci k N i : Nat} {C : String} {T : u_T} {fs : List Value} {v : Value} (hin : ∀ w ∈ u_ws C T N, w ∈ lw_g) (he : (gL G σ)[q0]? = some (a, .inr (ci, fs))) (hc : vwCl[ci]? = some (C, T, N)) (hk : k < N) (hlk : Cond.fieldLink own i (T k).1 (T k).2.1 (T k).2.2.1 ∈ lw_g) (hv : fs[k]? = some v) (dd : decode cc pc = .ok (.getfield i, 3)) (hp : pc + 3 = n) (K : V G d own cc nL ret rf σf n lv (v :: st) σ) : V G d own cc nL ret rf σf pc lv (.ref a :: st) σ := by
  subst hp
  exact fun p e s m args below meth c H locs ls hF hW h => va_get hF.1 hF.2.1 hF.2.2.2.2.2.2 hin hF.2.2.2.2.1 hW.1 hW.2.1 q0 he hc k hk (hF.2.2.2.2.2.2 _ hlk) (fun _ z => z) hv dd (K p e s m args below meth c H locs ls hF hW h)
theorem r_put {a q0 ci k N i : Nat} {C : String} {T : u_T} {ty0 : Nat → FieldType} {ty : FieldType} {fs : List Value} {v : Value} {σ1 : SS} (hin : ∀ w ∈ u_ws C T N, w ∈ lw_g) (hty : ∀ k, k < N → parseFieldDescriptor (T k).2.2.1 = some (ty0 k)) (hnm : ∀ a, a < N → ∀ b, b < N → a ≠ b → (T a).2.1 ≠ (T b).2.1) (he : (gL G σ)[q0]? = some (a, .inr (ci, fs))) (hc : vwCl[ci]? = some (C, T, N)) (hk : k < N) (hlk : Cond.fieldLink own i (T k).1 (T k).2.1 (T k).2.2.1 ∈ lw_g) (hfin : (T k).2.2.2 = false) (hd : ty0 k = ty) (hn : narrow ty v = v) (hfit : fits ty v = true) (hl : k < fs.length) (hs : (gL G σ).set q0 (a, .inr (ci, fs.set k v)) = gL G σ1) (dd : decode cc pc = .ok (.putfield i, 3)) (hp : pc + 3 = n) (K : V G d own cc nL ret rf σf n lv st σ1) : V G d own cc nL ret rf σf pc lv (v :: .ref a :: st) σ := by
  subst hp
  exact fun p e s m args below meth c H locs ls hF hW h => va_put hF.1 hF.2.1 hF.2.2.2.2.2.2 hin ty0 hty hnm hF.2.2.2.2.1 hW.1 hW.2.1 hW.2.2.1 hW.2.2.2.1 q0 he hc k hk (hF.2.2.2.2.2.2 _ hlk) (fun _ z => z) hfin (by rw [hty k hk, hd]) hn hfit hl dd (fun H1 locs1 hP1 hD1 hS1 => K p e s m args below meth c H1 locs1 ls hF ⟨hW.1, by rw [← hs]; exact hP1, by rw [← hs]; exact hD1, hS1, hW.2.2.2.2⟩ h)
theorem r_iald {a q0 t0 N : Nat} {cA : ClassId} {f : Nat → Int32} {i : Int32} (he : (gL G σ)[q0]? = some (a, .inl (cA, N, .inl f))) (ht : (gT G)[t0]? = some (cA, .int)) (hi : vp_in i N) (dd : decode cc pc = .ok (.iaload, 1)) (hp : pc + 1 = n) (K : V G d own cc nL ret rf σf n lv (.int (f (ix i)) :: st) σ) : V G d own cc nL ret rf σf pc lv (.int i :: .ref a :: st) σ := by
  subst hp
  exact fun p e s m args below meth c H locs ls hF hW h => va_iald hF.1 hF.2.1 hW.1 hW.2.1 q0 t0 he ht hi dd (K p e s m args below meth c H locs ls hF hW h)
theorem r_zald {a q0 t0 N : Nat} {cA : ClassId} {f : Nat → Int32} {i : Int32} (he : (gL G σ)[q0]? = some (a, .inl (cA, N, .inl f))) (ht : (gT G)[t0]? = some (cA, .boolean)) (hi : vp_in i N) (dd : decode cc pc = .ok (.baload, 1)) (hp : pc + 1 = n) (K : V G d own cc nL ret rf σf n lv (.int (f (ix i)) :: st) σ) : V G d own cc nL ret rf σf pc lv (.int i :: .ref a :: st) σ := by
  subst hp
  exact fun p e s m args below meth c H locs ls hF hW h => va_zald hF.1 hF.2.1 hW.1 hW.2.1 q0 t0 he ht hi dd (K p e s m args below meth c H locs ls hF hW h)
theorem r_lald {a q0 t0 N : Nat} {cA : ClassId} {f : Nat → Int64} {i : Int32} (he : (gL G σ)[q0]? = some (a, .inl (cA, N, .inr (.inl f)))) (ht : (gT G)[t0]? = some (cA, .long)) (hi : vp_in i N) (dd : decode cc pc = .ok (.laload, 1)) (hp : pc + 1 = n) (K : V G d own cc nL ret rf σf n lv (.long (f (ix i)) :: st) σ) : V G d own cc nL ret rf σf pc lv (.int i :: .ref a :: st) σ := by
  subst hp
  exact fun p e s m args below meth c H locs ls hF hW h => va_lald hF.1 hF.2.1 hW.1 hW.2.1 q0 t0 he ht hi dd (K p e s m args below meth c H locs ls hF hW h)
theorem r_iast {a q0 t0 N : Nat} {cA : ClassId} {f : Nat → Int32} {i : Int32} {x : Int32} {σ1 : SS} (he : (gL G σ)[q0]? = some (a, .inl (cA, N, .inl f))) (ht : (gT G)[t0]? = some (cA, .int)) (hi : vp_in i N) (hs : (gL G σ).set q0 (a, .inl (cA, N, .inl (upd f (ix i) x))) = gL G σ1) (dd : decode cc pc = .ok (.iastore, 1)) (hp : pc + 1 = n) (K : V G d own cc nL ret rf σf n lv st σ1) : V G d own cc nL ret rf σf pc lv (.int x :: .int i :: .ref a :: st) σ := by
  subst hp
  exact fun p e s m args below meth c H locs ls hF hW h => va_iast hF.1 hF.2.1 hW.1 hW.2.1 hW.2.2.1 hW.2.2.2.1 q0 t0 he ht hi dd (fun H1 locs1 hP1 hD1 hS1 => K p e s m args below meth c H1 locs1 ls hF ⟨hW.1, by rw [← hs]; exact hP1, by rw [← hs]; exact hD1, hS1, hW.2.2.2.2⟩ h)
theorem r_zast {a q0 t0 N : Nat} {cA : ClassId} {f : Nat → Int32} {i : Int32} {x : Int32} {σ1 : SS} (he : (gL G σ)[q0]? = some (a, .inl (cA, N, .inl f))) (ht : (gT G)[t0]? = some (cA, .boolean)) (hi : vp_in i N) (hs : (gL G σ).set q0 (a, .inl (cA, N, .inl (upd f (ix i) (vp_nar .boolean x)))) = gL G σ1) (dd : decode cc pc = .ok (.bastore, 1)) (hp : pc + 1 = n) (K : V G d own cc nL ret rf σf n lv st σ1) : V G d own cc nL ret rf σf pc lv (.int x :: .int i :: .ref a :: st) σ := by
  subst hp
  exact fun p e s m args below meth c H locs ls hF hW h => va_zast hF.1 hF.2.1 hW.1 hW.2.1 hW.2.2.1 hW.2.2.2.1 q0 t0 he ht hi dd (fun H1 locs1 hP1 hD1 hS1 => K p e s m args below meth c H1 locs1 ls hF ⟨hW.1, by rw [← hs]; exact hP1, by rw [← hs]; exact hD1, hS1, hW.2.2.2.2⟩ h)
theorem r_last {a q0 t0 N : Nat} {cA : ClassId} {f : Nat → Int64} {i : Int32} {x : Int64} {σ1 : SS} (he : (gL G σ)[q0]? = some (a, .inl (cA, N, .inr (.inl f)))) (ht : (gT G)[t0]? = some (cA, .long)) (hi : vp_in i N) (hs : (gL G σ).set q0 (a, .inl (cA, N, .inr (.inl (vp_updL f (ix i) x)))) = gL G σ1) (dd : decode cc pc = .ok (.lastore, 1)) (hp : pc + 1 = n) (K : V G d own cc nL ret rf σf n lv st σ1) : V G d own cc nL ret rf σf pc lv (.long x :: .int i :: .ref a :: st) σ := by
  subst hp
  exact fun p e s m args below meth c H locs ls hF hW h => va_last hF.1 hF.2.1 hW.1 hW.2.1 hW.2.2.1 hW.2.2.2.1 q0 t0 he ht hi dd (fun H1 locs1 hP1 hD1 hS1 => K p e s m args below meth c H1 locs1 ls hF ⟨hW.1, by rw [← hs]; exact hP1, by rw [← hs]; exact hD1, hS1, hW.2.2.2.2⟩ h)
theorem r_alen {a q0 t0 : Nat} {cA : ClassId} {x : vp_A} {ty : FieldType} {v : Int32} (he : (gL G σ)[q0]? = some (a, .inl (cA, x))) (ht : (gT G)[t0]? = some (cA, ty)) (hv : Int32.ofNat x.1 = v) (dd : decode cc pc = .ok (.arraylength, 1)) (hp : pc + 1 = n) (K : V G d own cc nL ret rf σf n lv (.int v :: st) σ) : V G d own cc nL ret rf σf pc lv (.ref a :: st) σ := by
  subst hp
  exact fun p e s m args below meth c H locs ls hF hW h => va_alen hF.1 hF.2.1 hW.1 hW.2.1 q0 t0 he ht hv dd (K p e s m args below meth c H locs ls hF hW h)
theorem r_getsO {i : Nat} {host : String} (hlk : ∀ u, NW u → va_Nw (Cond.fieldLinkNest own i "ShapeHouse" "OPENER" "[C" host) u) (dd : decode cc pc = .ok (.getstatic i, 3)) (hp : pc + 3 = n) (K : V G d own cc nL ret rf σf n lv (.ref (gO G) :: st) σ) : V G d own cc nL ret rf σf pc lv st σ := by
  subst hp
  exact fun p e s m args below meth c H locs ls hF hW h => va_getsN hF.1 hF.2.1 hW.2.2.2.2.1.1 hW.2.2.2.1 hF.2.2.2.2.1 (va_Nw.use rfl (hlk _ hW.2.2.2.2.2)) (fun _ z => z) dd (K p e s m args below meth c H locs ls hF hW h)
theorem r_caldO {i : Int32} (hi : vp_in i 9) (dd : decode cc pc = .ok (.caload, 1)) (hp : pc + 1 = n) (K : V G d own cc nL ret rf σf n lv (.int (chO (ix i)) :: st) σ) : V G d own cc nL ret rf σf pc lv (.int i :: .ref (gO G) :: st) σ := by
  subst hp
  exact fun p e s m args below meth c H locs ls hF hW h => va_tc hF.1 hF.2.1 hW.2.2.2.2.1.2.1 hW.2.2.2.1 hi rfl dd (K p e s m args below meth c H locs ls hF hW h)
theorem r_alenO (dd : decode cc pc = .ok (.arraylength, 1)) (hp : pc + 1 = n) (K : V G d own cc nL ret rf σf n lv (.int 9 :: st) σ) : V G d own cc nL ret rf σf pc lv (.ref (gO G) :: st) σ := by
  subst hp
  exact fun p e s m args below meth c H locs ls hF hW h => va_tlen hF.1 hF.2.1 hW.2.2.2.2.1.2.1 hW.2.2.2.1 rfl dd (K p e s m args below meth c H locs ls hF hW h)
theorem r_getsC {i : Nat} {host : String} (hlk : ∀ u, NW u → va_Nw (Cond.fieldLinkNest own i "ShapeHouse" "CLOSER" "[C" host) u) (dd : decode cc pc = .ok (.getstatic i, 3)) (hp : pc + 3 = n) (K : V G d own cc nL ret rf σf n lv (.ref (gC G) :: st) σ) : V G d own cc nL ret rf σf pc lv st σ := by
  subst hp
  exact fun p e s m args below meth c H locs ls hF hW h => va_getsN hF.1 hF.2.1 hW.2.2.2.2.1.2.2.1 hW.2.2.2.1 hF.2.2.2.2.1 (va_Nw.use rfl (hlk _ hW.2.2.2.2.2)) (fun _ z => z) dd (K p e s m args below meth c H locs ls hF hW h)
theorem r_caldC {i : Int32} (hi : vp_in i 9) (dd : decode cc pc = .ok (.caload, 1)) (hp : pc + 1 = n) (K : V G d own cc nL ret rf σf n lv (.int (chC (ix i)) :: st) σ) : V G d own cc nL ret rf σf pc lv (.int i :: .ref (gC G) :: st) σ := by
  subst hp
  exact fun p e s m args below meth c H locs ls hF hW h => va_tc hF.1 hF.2.1 hW.2.2.2.2.1.2.2.2 hW.2.2.2.1 hi rfl dd (K p e s m args below meth c H locs ls hF hW h)
theorem r_alenC (dd : decode cc pc = .ok (.arraylength, 1)) (hp : pc + 1 = n) (K : V G d own cc nL ret rf σf n lv (.int 9 :: st) σ) : V G d own cc nL ret rf σf pc lv (.ref (gC G) :: st) σ := by
  subst hp
  exact fun p e s m args below meth c H locs ls hF hW h => va_tlen hF.1 hF.2.1 hW.2.2.2.2.1.2.2.2 hW.2.2.2.1 rfl dd (K p e s m args below meth c H locs ls hF hW h)
theorem r_iret {v : Int32} (dd : decode cc pc = .ok (.ireturn, 1)) : V G d own cc nL (some .int) (some (.int v)) σ pc lv [.int v] σ :=
  fun p e s m args below meth c H locs ls hF hW h => W.iret hF.1 hF.2.1 hF.2.2.1 (fun t ht _ => ⟨⟨rfl, by rw [ht]; exact hW.2.1, hW.2.2.1⟩, hW.2.2.2.1.F ht⟩) hW.2.2.2.1.2.2 dd hF.2.2.2.2.2.1
theorem r_zret {v : Int32} (dd : decode cc pc = .ok (.ireturn, 1)) (hn : narrow .boolean (.int v) = .int v) : V G d own cc nL (some .boolean) (some (.int v)) σ pc lv [.int v] σ :=
  fun p e s m args below meth c H locs ls hF hW h => W.zret hF.1 hF.2.1 hF.2.2.1 hn (fun t ht _ => ⟨⟨rfl, by rw [ht]; exact hW.2.1, hW.2.2.1⟩, hW.2.2.2.1.F ht⟩) hW.2.2.2.1.2.2 dd hF.2.2.2.2.2.1
theorem r_lret {v : Int64} (dd : decode cc pc = .ok (.lreturn, 1)) : V G d own cc nL (some .long) (some (.long v)) σ pc lv [.long v] σ :=
  fun p e s m args below meth c H locs ls hF hW h => W.lret hF.1 hF.2.1 hF.2.2.1 (fun t ht _ => ⟨⟨rfl, by rw [ht]; exact hW.2.1, hW.2.2.1⟩, hW.2.2.2.1.F ht⟩) hW.2.2.2.1.2.2 dd hF.2.2.2.2.2.1
theorem r_vret (dd : decode cc pc = .ok (.return_, 1)) : V G d own cc nL none none σ pc lv [] σ :=
  fun p e s m args below meth c H locs ls hF hW h => W.vret hF.1 hF.2.1 hF.2.2.1 (fun t ht _ => ⟨⟨rfl, by rw [ht]; exact hW.2.1, hW.2.2.1⟩, hW.2.2.2.1.F ht⟩) hW.2.2.2.1.2.2 dd hF.2.2.2.2.2.1
theorem r_aret {a : Nat} {nm : String} (dd : decode cc pc = .ok (.areturn, 1)) : V G d own cc nL (some (.object nm)) (some (.ref a)) σ pc lv [.ref a] σ :=
  fun p e s m args below meth c H locs ls hF hW h => W.aret hF.1 hF.2.1 hF.2.2.1 (Or.inl ⟨nm, rfl⟩) (Or.inr ⟨a, rfl⟩) (fun t ht _ => ⟨⟨rfl, by rw [ht]; exact hW.2.1, hW.2.2.1⟩, hW.2.2.2.1.F ht⟩) hW.2.2.2.1.2.2 dd hF.2.2.2.2.2.1
theorem r_lif {x y : Int64} (dd : decode cc pc = .ok (.lcmp, 1)) (K : V G d own cc nL ret rf σf (pc + 1) lv (.int (lg_cmp x y) :: st) σ) : V G d own cc nL ret rf σf pc lv (.long y :: .long x :: st) σ := r_lcmp dd rfl K
theorem r_lif_lt {x y : Int64} {off : Int} {t pc1 : Nat} (dd : decode cc pc = .ok (.lcmp, 1)) (h1 : pc + 1 = pc1) (d2 : decode cc pc1 = .ok (.ifCond .lt off, 3)) (ht : (pc1 : Int) + off = (t : Int)) (hp : pc1 + 3 = n) (Kt : x < y → V G d own cc nL ret rf σf t lv st σ) (Kf : ¬ x < y → V G d own cc nL ret rf σf n lv st σ) : V G d own cc nL ret rf σf pc lv (.long y :: .long x :: st) σ :=
  r_lcmp dd h1 (r_if_lt d2 ht hp (fun q => Kt ((lg_cmp_lt x y).mp q)) (fun q => Kf (fun z => q ((lg_cmp_lt x y).mpr z))))
theorem r_lif_ge {x y : Int64} {off : Int} {t pc1 : Nat} (dd : decode cc pc = .ok (.lcmp, 1)) (h1 : pc + 1 = pc1) (d2 : decode cc pc1 = .ok (.ifCond .ge off, 3)) (ht : (pc1 : Int) + off = (t : Int)) (hp : pc1 + 3 = n) (Kt : y ≤ x → V G d own cc nL ret rf σf t lv st σ) (Kf : ¬ y ≤ x → V G d own cc nL ret rf σf n lv st σ) : V G d own cc nL ret rf σf pc lv (.long y :: .long x :: st) σ :=
  r_lcmp dd h1 (r_if_ge d2 ht hp (fun q => Kt ((lg_cmp_ge x y).mp q)) (fun q => Kf (fun z => q ((lg_cmp_ge x y).mpr z))))
theorem r_lif_gt {x y : Int64} {off : Int} {t pc1 : Nat} (dd : decode cc pc = .ok (.lcmp, 1)) (h1 : pc + 1 = pc1) (d2 : decode cc pc1 = .ok (.ifCond .gt off, 3)) (ht : (pc1 : Int) + off = (t : Int)) (hp : pc1 + 3 = n) (Kt : y < x → V G d own cc nL ret rf σf t lv st σ) (Kf : ¬ y < x → V G d own cc nL ret rf σf n lv st σ) : V G d own cc nL ret rf σf pc lv (.long y :: .long x :: st) σ :=
  r_lcmp dd h1 (r_if_gt d2 ht hp (fun q => Kt ((lg_cmp_gt x y).mp q)) (fun q => Kf (fun z => q ((lg_cmp_gt x y).mpr z))))
theorem r_lif_le {x y : Int64} {off : Int} {t pc1 : Nat} (dd : decode cc pc = .ok (.lcmp, 1)) (h1 : pc + 1 = pc1) (d2 : decode cc pc1 = .ok (.ifCond .le off, 3)) (ht : (pc1 : Int) + off = (t : Int)) (hp : pc1 + 3 = n) (Kt : x ≤ y → V G d own cc nL ret rf σf t lv st σ) (Kf : ¬ x ≤ y → V G d own cc nL ret rf σf n lv st σ) : V G d own cc nL ret rf σf pc lv (.long y :: .long x :: st) σ :=
  r_lcmp dd h1 (r_if_le d2 ht hp (fun q => Kt ((lg_cmp_le x y).mp q)) (fun q => Kf (fun z => q ((lg_cmp_le x y).mpr z))))
theorem r_lif_eq {x y : Int64} {off : Int} {t pc1 : Nat} (dd : decode cc pc = .ok (.lcmp, 1)) (h1 : pc + 1 = pc1) (d2 : decode cc pc1 = .ok (.ifCond .eq off, 3)) (ht : (pc1 : Int) + off = (t : Int)) (hp : pc1 + 3 = n) (Kt : x = y → V G d own cc nL ret rf σf t lv st σ) (Kf : ¬ x = y → V G d own cc nL ret rf σf n lv st σ) : V G d own cc nL ret rf σf pc lv (.long y :: .long x :: st) σ :=
  r_lcmp dd h1 (r_if_eq d2 ht hp (fun q => Kt ((lg_cmp_eq x y).mp q)) (fun q => Kf (fun z => q ((lg_cmp_eq x y).mpr z))))
theorem r_lif_ne {x y : Int64} {off : Int} {t pc1 : Nat} (dd : decode cc pc = .ok (.lcmp, 1)) (h1 : pc + 1 = pc1) (d2 : decode cc pc1 = .ok (.ifCond .ne off, 3)) (ht : (pc1 : Int) + off = (t : Int)) (hp : pc1 + 3 = n) (Kt : ¬ x = y → V G d own cc nL ret rf σf t lv st σ) (Kf : x = y → V G d own cc nL ret rf σf n lv st σ) : V G d own cc nL ret rf σf pc lv (.long y :: .long x :: st) σ :=
  r_lcmp dd h1 (r_if_ne d2 ht hp (fun q => Kt (fun z => q ((lg_cmp_eq x y).mpr z))) (fun q => Kf ((lg_cmp_eq x y).mp q)))
theorem r_iretR {v r : Int32} (dd : decode cc pc = .ok (.ireturn, 1)) (h : some v = some r) : V G d own cc nL (some .int) (some (.int r)) σ pc lv [.int v] σ := by cases h; exact r_iret dd
theorem r_lretR {v r : Int64} (dd : decode cc pc = .ok (.lreturn, 1)) (h : some v = some r) : V G d own cc nL (some .long) (some (.long r)) σ pc lv [.long v] σ := by cases h; exact r_lret dd
theorem r_zretR {v r : Int32} (hb : v = 0 ∨ v = 1) (dd : decode cc pc = .ok (.ireturn, 1)) (h : some v = some r) : V G d own cc nL (some .boolean) (some (.int r)) σ pc lv [.int v] σ := by cases h; exact r_zret dd (by rcases hb with rfl | rfl <;> rfl)
theorem r_iretQ {v r : Int32} (dd : decode cc pc = .ok (.ireturn, 1)) (h : some (v, σ) = some (r, σf)) : V G d own cc nL (some .int) (some (.int r)) σf pc lv [.int v] σ := by cases h; exact r_iret dd
theorem r_lretQ {v r : Int64} (dd : decode cc pc = .ok (.lreturn, 1)) (h : some (v, σ) = some (r, σf)) : V G d own cc nL (some .long) (some (.long r)) σf pc lv [.long v] σ := by cases h; exact r_lret dd
theorem r_zretQ {v r : Int32} (hb : v = 0 ∨ v = 1) (dd : decode cc pc = .ok (.ireturn, 1)) (h : some (v, σ) = some (r, σf)) : V G d own cc nL (some .boolean) (some (.int r)) σf pc lv [.int v] σ := by cases h; exact r_zret dd (by rcases hb with rfl | rfl <;> rfl)
theorem r_vretS (dd : decode cc pc = .ok (.return_, 1)) (h : some σ = some σf) : V G d own cc nL none none σf pc lv [] σ := by cases h; exact r_vret dd
end RV
/-- what the tables say of a method -/
def MF (y : MethodName) (cc : ByteArray) (nL : Nat) (ret : Option FieldType) (k : Nat) : Prop :=
  nL ≤ 21 ∧ Cond.code y cc nL ret ∈ lw_g ∧ Cond.initialized y.cls ∈ lw_g ∧ (y.cls ≠ "java/lang/invoke/MethodHandle" ∧ y.cls ≠ "java/lang/invoke/VarHandle" ∧ (parseMethodDescriptor y.desc).map (fun d => d.parameters.length) = some k)
theorem MF.good {y : MethodName} {cc : ByteArray} {nL : Nat} {ret : Option FieldType} {k : Nat} (h : MF y cc nL ret k) : GoodIn lw_g (Cond.code y cc nL ret :: lw_g) := by
  intro w hw
  rcases List.mem_cons.mp hw with rfl | hw
  · exact ⟨h.2.1, Or.inl rfl⟩
  · exact ⟨hw, good_of_word (tbl_good w hw)⟩
theorem En.blind {G : GE} {σ : SS} {av : List Value} : FrameBlind (va_Pc av (En G σ)) := by
  intro a U g mk q
  obtain ⟨q0, q1, q2, q3, q4⟩ := q
  exact ⟨q0, q1, va_K.moved (u := U) (U := U.calling g mk a) (Vm.Alike.refl U.vm) q2, q3, q4.1.moved (U := U.calling g mk a) (Vm.Alike.refl U.vm), NW.same (s := U) (U := U.calling g mk a) rfl q4.2⟩
theorem Wo.enter {G : GE} {σ : SS} {s U : State} {H : Heap} {locs : List Loc} (hW : Wo G σ s H locs) (hU : U.heap = H) (hw : s.WarmedH U.vm) : En G σ U := by
  refine ⟨by rw [hU]; exact hW.2.1, va_K.moved hw.alike hW.1, hW.2.2.1, ?_, hW.2.2.2.2.2.warm hw⟩
  rw [hU]
  exact (hW.2.2.2.2.1.kept (fun a h1 h2 => hW.2.2.2.1.2.1 a h1 h2)).moved hw.alike
section RC
variable {G : GE} {d d1 : Nat} {own : String} {cc cy : ByteArray} {nL nLy k : Nat} {ret rety : Option FieldType} {rf r : Option Value} {σf : SS} {pc n index : Nat} {lv : List (Nat × Value)} {st rest As : List Value} {σ σ1 : SS} {y : MethodName}
theorem r_run {p : Program} {e : Env} {s : State} {m : MethodId} {args a : Array Value} {below : List Frame} {meth : Method} {c : Code} {H : Heap} {locs : List Loc} {ls : Array Slot} (hF : Fx own cc nL ret p s m args meth c) (hW : Wo G σ s H locs) (h : lv_has ls nL lv)
    (hr : va_Run p (gl G) e (RM d) s m args below meth c H locs 0 0 0 0 (F0 m pc ls st) rest (QQ G r σ1 a) (gA G)) (K : V G d own cc nL ret rf σf (pc + 3) lv (r.toList ++ rest) σ1) :
    W p (gl G) e (RM d) s m args below meth c H locs 0 0 (MQ below (QQ G rf σf) args s 0 0 (gA G)) (F0 m pc ls st) := by
  intro T hT X
  obtain ⟨v, st₀, t, T', L, h0, X', hL, e1, e2, ⟨⟨hv, hP1, hD1⟩, hz, hk⟩, go⟩ := hr T hT X
  cases hv
  rw [h0] at hz hk
  have hS := hW.2.2.2.1
  obtain ⟨t2, a1, b1⟩ := K p e s m args below meth c T'.heap (locs ++ L) ls hF ⟨hW.1, by rw [e1]; exact hP1, hD1, ⟨Nat.le_trans hS.1 (by rw [e1]; exact hz), fun q h1 h2 => by rw [e1, hk q (Nat.lt_of_lt_of_le h1 hS.1) h2]; exact hS.2.1 q h1 h2, fun q hq => by
      rcases List.mem_append.mp hq with z | z
      · exact hS.2.2 q z
      · exact hL q z⟩, hW.2.2.2.2⟩ h T' rfl X'
  exact ⟨t2, go t2 a1, b1⟩
theorem RM.le {nLy : Nat} (hd : d1 < d) (hn : nLy ≤ 21) : (RM d1).frames + 1 ≤ (RM d).frames ∧ 8 + (nLy + 11) + (RM d1).locals ≤ (RM d).locals := by
  constructor
  · exact hd
  · show 8 + (nLy + 11) + 40 * d1 ≤ 40 * d
    omega
theorem RM.ok : (0 : Nat) + 0 ≤ (RM d).cells ∧ (0 : Nat) + 0 ≤ (RM d).slots := ⟨Nat.le_refl _, Nat.le_refl _⟩
theorem r_callV {b q0 ci N : Nat} {T : u_T} {C : String} {fs : List Value} (hM : Mt G d1 y cy nLy rety (.ref b :: As) σ r σ1) (hd : d1 < d) (hmf : MF y cy nLy rety k) (hk : As.length = k) (hins : Cond.instanceMethod y ∈ lw_g) (hsel : Cond.selects y.cls y y ∈ lw_g) (hlk : Cond.methodLink own index y ∈ lw_g)
    (he : (gL G σ)[q0]? = some (b, .inr (ci, fs))) (hc : vwCl[ci]? = some (C, T, N)) (hC : y.cls = C) (hst : st = As.reverse ++ .ref b :: rest) (hrm : (rest.map fun v => v.category).sum ≤ 8) (dd : decode cc pc = .ok (.invokevirtual index, 3)) (hp : pc + 3 = n)
    (K : V G d own cc nL ret rf σf n lv (r.toList ++ rest) σ1) : V G d own cc nL ret rf σf pc lv st σ := by
  subst hp hst hC
  intro p e s m args below meth c H locs ls hF hW h
  have hts := hF.2.2.2.2.2.2
  refine r_run hF hW h (a := (Value.ref b :: As).toArray) (va_runV (As := As) (rest := rest) (y := y) (C := y.cls) (Ts := lw_g) ⟨hF.1, hF.2.1, hF.2.2.2.1, hF.2.2.2.2.1, hts⟩ hM
    ⟨callB_of k hts hmf.good rfl rfl rfl (hts _ hmf.2.2.1) (hts _ hlk) hmf.2.2.2 (RM.le hd hmf.1), hts _ hins, hts _ hsel⟩
    ⟨En.blind, va_recv hW.1 hW.2.1 hc he, fun U hU hw => ⟨rfl, hW.enter hU hw⟩⟩ rfl hk h.1 rfl (lv_room hrm) dd RM.ok) K
theorem r_callS (hM : Mt G d1 y cy nLy rety As σ r σ1) (hd : d1 < d) (hmf : MF y cy nLy rety k) (hk : As.length = k) (hsta : Cond.static y ∈ lw_g) (hlk : Cond.methodLink own index y ∈ lw_g)
    (hst : st = As.reverse ++ rest) (hrm : (rest.map fun v => v.category).sum ≤ 8) (dd : decode cc pc = .ok (.invokestatic index, 3)) (hp : pc + 3 = n)
    (K : V G d own cc nL ret rf σf n lv (r.toList ++ rest) σ1) : V G d own cc nL ret rf σf pc lv st σ := by
  subst hp hst
  intro p e s m args below meth c H locs ls hF hW h
  have hts := hF.2.2.2.2.2.2
  refine r_run hF hW h (a := As.toArray) (va_runS (As := As) (rest := rest) (y := y) (Ts := lw_g) ⟨hF.1, hF.2.1, hF.2.2.2.1, hF.2.2.2.2.1, hts⟩ hM
    ⟨callB_of k hts hmf.good rfl rfl rfl (hts _ hmf.2.2.1) (hts _ hlk) hmf.2.2.2 (RM.le hd hmf.1), hts _ hsta⟩
    ⟨En.blind, fun U hU hw => ⟨rfl, hW.enter hU hw⟩⟩ rfl hk h.1 rfl (lv_room hrm) dd RM.ok) K
theorem r_callSN {host : String} (hM : Mt G d1 y cy nLy rety As σ r σ1) (hd : d1 < d) (hmf : MF y cy nLy rety k) (hk : As.length = k) (hsta : Cond.static y ∈ lw_g) (hlk : ∀ u, NW u → va_Nw (Cond.methodLinkNest own index y host) u)
    (hst : st = As.reverse ++ rest) (hrm : (rest.map fun v => v.category).sum ≤ 8) (dd : decode cc pc = .ok (.invokestatic index, 3)) (hp : pc + 3 = n)
    (K : V G d own cc nL ret rf σf n lv (r.toList ++ rest) σ1) : V G d own cc nL ret rf σf pc lv st σ := by
  subst hp hst
  intro p e s m args below meth c H locs ls hF hW h
  have hts := hF.2.2.2.2.2.2
  have hB : va_CN (RM d) s args own index y host cy nLy rety (Cond.code y cy nLy rety :: lw_g) (RM d1) 0 0 k := ⟨⟨rfl, rfl, (RM.le hd hmf.1).1, (RM.le hd hmf.1).2, pay_in hts hmf.good, List.mem_cons_self⟩, hts _ hmf.2.1, hts _ hmf.2.2.1, ⟨hmf.2.2.2.1, hmf.2.2.2.2.1⟩, fun sig z => by
    have z2 := hmf.2.2.2.2.2
    rw [z] at z2
    exact (Option.some.inj z2).symm, va_Nw.use rfl (hlk _ hW.2.2.2.2.2)⟩
  exact r_run hF hW h (a := As.toArray) (va_runSN (As := As) (rest := rest) (y := y) (Ts := lw_g) ⟨hF.1, hF.2.1, hF.2.2.2.1, hF.2.2.2.2.1, hts⟩ hM ⟨hB, hts _ hsta, trivial⟩
    ⟨En.blind, fun U hU hw => ⟨rfl, hW.enter hU hw⟩⟩ rfl hk h.1 rfl (lv_room hrm) dd RM.ok) K
theorem r_call0 {v : Value} (K : V G d own cc nL ret rf σf n lv (v :: rest) σ1) : V G d own cc nL ret rf σf n lv ((some v).toList ++ rest) σ1 := K
theorem r_calln (K : V G d own cc nL ret rf σf n lv rest σ1) : V G d own cc nL ret rf σf n lv ((none : Option Value).toList ++ rest) σ1 := K
end RC
/-! what the pure functions are made of -/
def inb (i : Int32) (N : Nat) : Bool := decide (0 ≤ i.toInt) && decide (i.toInt < (N : Int))
def bz (v : Int32) : Bool := decide (v = 0) || decide (v = 1)
def b2 {α β γ : Type} (o : Option (α × β)) (f : α → β → Option γ) : Option γ := match o with
  | some (a, b) => f a b
  | none => none
/-- fuel of loops, levels of recursion -/
def FU : Nat := 100000
theorem it_t {α : Type} {c : Prop} [Decidable c] {a b r : α} (q : c) (h : (if c then a else b) = r) : a = r := by rwa [if_pos q] at h
theorem it_f {α : Type} {c : Prop} [Decidable c] {a b r : α} (q : ¬ c) (h : (if c then a else b) = r) : b = r := by rwa [if_neg q] at h
theorem it_n {α : Type} {c : Prop} [Decidable c] {a b r : α} (q : c) (h : (if ¬ c then a else b) = r) : b = r := by rwa [if_neg (fun z => z q)] at h
theorem gi {α : Type} {i : Int32} {N : Nat} {a : Option α} {r : α} (h : (if inb i N = true then a else none) = some r) : vp_in i N ∧ a = some r := by
  by_cases q : inb i N = true
  · rw [if_pos q] at h
    simp only [inb, Bool.and_eq_true, decide_eq_true_eq] at q
    exact ⟨vp_in_iff.mpr q, h⟩
  · rw [if_neg q] at h
    cases h
theorem gz {α : Type} {v : Int32} {a : Option α} {r : α} (h : (if bz v = true then a else none) = some r) : (v = 0 ∨ v = 1) ∧ a = some r := by
  by_cases q : bz v = true
  · rw [if_pos q] at h
    simp only [bz, Bool.or_eq_true, decide_eq_true_eq] at q
    exact ⟨q, h⟩
  · rw [if_neg q] at h
    cases h
theorem gn {α β : Type} [DecidableEq β] {v z : β} {a : Option α} {r : α} (h : (if v = z then none else a) = some r) : ¬ v = z ∧ a = some r := by
  by_cases q : v = z
  · rw [if_pos q] at h
    cases h
  · rw [if_neg q] at h
    exact ⟨q, h⟩
theorem bd {α β : Type} {o : Option α} {f : α → Option β} {r : β} (h : o.bind f = some r) : ∃ x, o = some x ∧ f x = some r := by
  cases o with
  | none => cases h
  | some x => exact ⟨x, rfl, h⟩
theorem b2d {α β γ : Type} {o : Option (α × β)} {f : α → β → Option γ} {r : γ} (h : b2 o f = some r) : ∃ x y, o = some (x, y) ∧ f x y = some r := by
  cases o with
  | none => cases h
  | some x => exact ⟨x.1, x.2, rfl, h⟩
theorem no0 {α : Type} {r : α} {P : Prop} (h : (none : Option α) = some r) : P := by cases h
theorem neL {x k : Int32} {z : Int} (h : ¬ x = k) (hz : k.toInt = z) : ¬ x.toInt = z := fun q => h (Int32.toInt_inj.mp (q.trans hz.symm))
/-! the addresses and class numbers of a side's world -/
abbrev XE : Type := Launch × va_G × ClassId × ClassId × ClassId × (Nat → Prop) × (Nat → Nat) × Nat × Nat
def xl (X : XE) : Launch := X.1
def xD (X : XE) : va_G := X.2.1
def xcI (X : XE) : ClassId := X.2.2.1
def xcJ (X : XE) : ClassId := X.2.2.2.1
def xcZ (X : XE) : ClassId := X.2.2.2.2.1
def xA (X : XE) : Nat → Prop := X.2.2.2.2.2.1
def xq (X : XE) : Nat → Nat := X.2.2.2.2.2.2.1
def xtO (X : XE) : Nat := X.2.2.2.2.2.2.2.1
def xtC (X : XE) : Nat := X.2.2.2.2.2.2.2.2
