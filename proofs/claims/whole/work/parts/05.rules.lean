theorem vp_cell_congr {cy : ClassId} {n : Nat} {f g : Nat → Int32} (h : ∀ k, k < n → f k = g k) : vp_cell cy (n, .inl f) = vp_cell cy (n, .inl g) := by
  show arrV cy n (fun j => .int (f j)) = arrV cy n (fun j => .int (g j))
  unfold arrV
  have e : (Array.ofFn (n := n) fun j => Value.int (f j.val)) = Array.ofFn (n := n) fun j => Value.int (g j.val) := congrArg _ (funext fun j => by rw [h j.val j.isLt])
  rw [e]
/-! G: the judgement of a walk over segments, and a row for each instruction -/
def TW : List Cond := lw_tbl.filter goodWord
theorem tw_in {w : Cond} (h : w ∈ lw_tbl) (hg : goodWord w = true) : w ∈ TW := List.mem_filter.mpr ⟨h, hg⟩
theorem tw_good {w : Cond} (h : w ∈ TW) : (w.onTables && w.keeps) = true ∨ ∃ ty, w = .arrayClass ty := good_of_word (List.mem_filter.mp h).2
abbrev nwA : Cond := .methodLinkNest RX3 9 yX1_init RX3
abbrev nwB : Cond := .methodLinkNest RX3 28 yX2_init RX3
abbrev nwC : Cond := .methodLinkNest RX3 35 yX0_init RX3
abbrev nwD : Cond := .methodLinkNest RX1 66 yX3_isRoom RX3
def NW (U : State) : Prop := va_Nw nwA U ∧ va_Nw nwB U ∧ va_Nw nwC U ∧ va_Nw nwD U
def KN (D : va_G) (cy : ClassId) (U : State) : Prop := va_K D vwCl [(cy, .int)] U ∧ NW U
theorem KN.warm {D : va_G} {cy : ClassId} {s U : State} (h : KN D cy s) (hW : s.WarmedH U.vm) : KN D cy U :=
  ⟨va_K.moved hW.alike h.1, va_Nw.warmM hW h.2.1, va_Nw.warmM hW h.2.2.1, va_Nw.warmM hW h.2.2.2.1, va_Nw.warmM hW h.2.2.2.2⟩
theorem KN.same {D : va_G} {cy : ClassId} {s U : State} (h : KN D cy s) (e : s.vm = U.vm) : KN D cy U :=
  ⟨va_K.moved (by rw [e]; exact Vm.Alike.refl U.vm) h.1, va_Nw.same rfl e h.2.1, va_Nw.same rfl e h.2.2.1, va_Nw.same rfl e h.2.2.2.1, va_Nw.same rfl e h.2.2.2.2⟩
def Cx (p : Program) (s : State) (m : MethodId) (args : Array Value) (meth : Method) (c : Code) (cc : ByteArray) (own : String) (nL : Nat) (ret : Option FieldType) (D : va_G) (cy : ClassId) (A : Nat → Prop) : Prop :=
  p.tables.exec = Jvm.exec ∧ c.code = cc ∧ c.maxLocals = nL ∧ s.vm.findClass own = some m.cls ∧ (∀ w ∈ TW, w.before args s = true) ∧ meth.sig.returnType = ret ∧ meth.locks = false ∧ KN D cy s ∧ (∀ q : Nat, s.heap.size ≤ q → A q)
def G (p : Program) (l : Launch) (e : Env) (R : Room) (s : State) (m : MethodId) (args : Array Value) (below : List Frame) (meth : Method) (c : Code) (nL : Nat) (D : va_G) (A : Nat → Prop) (cells slots : Nat) (Q : State → Prop) (ss : Sg) (pc : Nat) (lv : List (Nat × Value)) (st : List Value) : Prop :=
  ∀ (H : Heap) (locs : List Loc) (ls : Array Slot), PS D ss H → DS A (sg_ads ss) → va_S A s.heap H locs → lv_has ls nL lv → W p l e R s m args below meth c H locs cells slots Q (F0 m pc ls st)
/-- a field's link: instruction's index idx in a method of class own names field k of class ci -/
def FL (own : String) (idx ci k : Nat) : Prop := ∃ (C : String) (T : u_T) (N : Nat), vwCl[ci]? = some (C, T, N) ∧ (∀ w ∈ u_ws C T N, w ∈ TW) ∧ k < N ∧ (T k).1 = C ∧ Cond.fieldLink own idx C (T k).2.1 (T k).2.2.1 ∈ TW
def FP (own : String) (idx ci k : Nat) (ty : FieldType) : Prop := ∃ (C : String) (T : u_T) (N : Nat) (ty0 : Nat → FieldType), vwCl[ci]? = some (C, T, N) ∧ (∀ w ∈ u_ws C T N, w ∈ TW) ∧ k < N ∧ (T k).1 = C ∧ Cond.fieldLink own idx C (T k).2.1 (T k).2.2.1 ∈ TW ∧ (∀ j, j < N → parseFieldDescriptor (T j).2.2.1 = some (ty0 j)) ∧ (∀ a, a < N → ∀ b, b < N → a ≠ b → (T a).2.1 ≠ (T b).2.1) ∧ (T k).2.2.2 = false ∧ parseFieldDescriptor (T k).2.2.1 = some ty
/-- a call's link -/
def VL (own : String) (idx : Nat) (y : MethodName) (bytes : ByteArray) (maxL : Nat) (ret : Option FieldType) (n : Nat) : Prop := Cond.methodLink own idx y ∈ TW ∧ Cond.instanceMethod y ∈ TW ∧ Cond.selects y.cls y y ∈ TW ∧ Cond.initialized y.cls ∈ TW ∧ Cond.code y bytes maxL ret ∈ TW ∧ y.cls ≠ "java/lang/invoke/MethodHandle" ∧ y.cls ≠ "java/lang/invoke/VarHandle" ∧ (parseMethodDescriptor y.desc).map (fun d => d.parameters.length) = some n
def SL (own : String) (idx : Nat) (y : MethodName) (bytes : ByteArray) (maxL : Nat) (ret : Option FieldType) (n : Nat) : Prop := Cond.methodLink own idx y ∈ TW ∧ Cond.static y ∈ TW ∧ Cond.initialized y.cls ∈ TW ∧ Cond.code y bytes maxL ret ∈ TW ∧ y.cls ≠ "java/lang/invoke/MethodHandle" ∧ y.cls ≠ "java/lang/invoke/VarHandle" ∧ (parseMethodDescriptor y.desc).map (fun d => d.parameters.length) = some n
abbrev wdY (y : MethodName) (bytes : ByteArray) (maxL : Nat) (ret : Option FieldType) : List Cond := .code y bytes maxL ret :: TW
/-- contracts: a method that answers an int (a boolean), and one that answers nothing; the world cs becomes cs', at the same addresses -/
def preY (D : va_G) (cy : ClassId) (av : List Value) (cs : Sg) (sz : Nat) : Array Value → State → Prop := va_Pc av (fun U => U.heap.size = sz ∧ PS D cs U.heap ∧ KN D cy U ∧ DS (fun _ => True) (sg_ads cs))
def CtI (l : Launch) (y : MethodName) (bytes : ByteArray) (maxL : Nat) (rt : FieldType) (fr lo : Nat) (D : va_G) (cy : ClassId) (av : List Value) (cs cs' : Sg) (r : Int32) : Prop :=
  ∀ sz : Nat, Met l y (wdY y bytes maxL (some rt)) { frames := fr, cells := 0, slots := 0, locals := lo } (preY D cy av cs sz) (va_Qi (fun (x : Int32) (_ : Unit) => x = r) (fun _ t => PS D cs' t.heap) (SA (sg_ads cs) sz)) 0 0 (SA (sg_ads cs) sz)
def CtV (l : Launch) (y : MethodName) (bytes : ByteArray) (maxL : Nat) (fr lo : Nat) (D : va_G) (cy : ClassId) (av : List Value) (cs cs' : Sg) : Prop :=
  ∀ sz : Nat, Met l y (wdY y bytes maxL none) { frames := fr, cells := 0, slots := 0, locals := lo } (preY D cy av cs sz) (va_Qv (fun (_ : Unit) => True) (fun _ t => PS D cs' t.heap) (SA (sg_ads cs) sz)) 0 0 (SA (sg_ads cs) sz)
def QI (below : List Frame) (args : Array Value) (s : State) (D : va_G) (A : Nat → Prop) (cs' : Sg) (r : Int32) : State → Prop := MQ below (va_Qi (fun (x : Int32) (_ : Unit) => x = r) (fun _ t => PS D cs' t.heap) A) args s 0 0 A
def QV (below : List Frame) (args : Array Value) (s : State) (D : va_G) (A : Nat → Prop) (cs' : Sg) : State → Prop := MQ below (va_Qv (fun (_ : Unit) => True) (fun _ t => PS D cs' t.heap) A) args s 0 0 A
theorem preY_blind {D : va_G} {cy : ClassId} {av : List Value} {cs : Sg} {sz : Nat} : FrameBlind (preY D cy av cs sz) := by
  intro a U g mk ⟨h1, h2, h3, h4, h5⟩
  exact ⟨h1, h2, h3, h4.same rfl, h5⟩
theorem SA_ds {as : List (List Nat)} {sz : Nat} (h : DS (fun _ => True) as) : DS (SA as sz) as := ⟨h.1, fun _ ha => Or.inl ha⟩
theorem ctI_of {l : Launch} {y : MethodName} {bytes : ByteArray} {maxL : Nat} {rt : FieldType} {fr lo : Nat} {D : va_G} {cy : ClassId} {av : List Value} {cs cs' : Sg} {r : Int32} (hy : plainName y.cls = true) (hn : (lg_sl av).length ≤ maxL)
    (body : ∀ (p : Program) (e : Env) (s : State) (m : MethodId) (args : Array Value) (below : List Frame) (meth : Method) (c : Code) (A : Nat → Prop), Cx p s m args meth c bytes y.cls maxL (some rt) D cy A →
      G p l e { frames := fr, cells := 0, slots := 0, locals := lo } s m args below meth c maxL D A 0 0 (QI below args s D A cs' r) cs 0 (lv_args 0 av) []) : CtI l y bytes maxL rt fr lo D cy av cs cs' r := by
  intro sz
  refine Met.ofW (cc := bytes) (maxL := maxL) (ret := some rt) hy rfl ?_
  intro p e s m args below meth c s₁ B hml hv
  obtain ⟨rfl, hsz, hP, hK, hD0⟩ := hv
  subst hsz
  have hts := atoms_spec (ws := wdY y bytes maxL (some rt)) B.pre
  have X : Cx p s m av.toArray meth c bytes y.cls maxL (some rt) D cy (SA (sg_ads cs) s.heap.size) :=
    ⟨B.exec, B.bytes, hml, findClass_of_methodNamed B.named, fun w hw => hts w (List.mem_cons_of_mem _ hw), B.returns, B.notSynchronized, hK, fun q h => Or.inr h⟩
  have hl := lv_entry av (n := maxL) hn
  rw [lg_entry_eq]
  exact body p e s m av.toArray below meth c _ X s.heap [] _ hP (SA_ds hD0) va_S.rf hl
theorem ctV_of {l : Launch} {y : MethodName} {bytes : ByteArray} {maxL : Nat} {fr lo : Nat} {D : va_G} {cy : ClassId} {av : List Value} {cs cs' : Sg} (hy : plainName y.cls = true) (hn : (lg_sl av).length ≤ maxL)
    (body : ∀ (p : Program) (e : Env) (s : State) (m : MethodId) (args : Array Value) (below : List Frame) (meth : Method) (c : Code) (A : Nat → Prop), Cx p s m args meth c bytes y.cls maxL none D cy A →
      G p l e { frames := fr, cells := 0, slots := 0, locals := lo } s m args below meth c maxL D A 0 0 (QV below args s D A cs') cs 0 (lv_args 0 av) []) : CtV l y bytes maxL fr lo D cy av cs cs' := by
  intro sz
  refine Met.ofW (cc := bytes) (maxL := maxL) (ret := none) hy rfl ?_
  intro p e s m args below meth c s₁ B hml hv
  obtain ⟨rfl, hsz, hP, hK, hD0⟩ := hv
  subst hsz
  have hts := atoms_spec (ws := wdY y bytes maxL none) B.pre
  have X : Cx p s m av.toArray meth c bytes y.cls maxL none D cy (SA (sg_ads cs) s.heap.size) :=
    ⟨B.exec, B.bytes, hml, findClass_of_methodNamed B.named, fun w hw => hts w (List.mem_cons_of_mem _ hw), B.returns, B.notSynchronized, hK, fun q h => Or.inr h⟩
  have hl := lv_entry av (n := maxL) hn
  rw [lg_entry_eq]
  exact body p e s m av.toArray below meth c _ X s.heap [] _ hP (SA_ds hD0) va_S.rf hl
section GR
variable {p : Program} {l : Launch} {e : Env} {R : Room} {s : State} {m : MethodId} {args : Array Value} {below : List Frame} {meth : Method} {c : Code} {cc : ByteArray} {own : String} {nL : Nat} {ret : Option FieldType} {D : va_G} {cy : ClassId} {A : Nat → Prop} {cells slots : Nat} {Q : State → Prop} {ss ss' : Sg} {pc : Nat} {lv lv' : List (Nat × Value)} {st rest : List Value}

theorem g_iconst (X : Cx p s m args meth c cc own nL ret D cy A) {n : Int} {v : Int32} (hd : decode cc pc = .ok (.iconst n, 1)) (hv : Int32.ofInt n = v) (kk : G p l e R s m args below meth c nL D A cells slots Q ss (pc + 1) lv (.int v :: st)) : G p l e R s m args below meth c nL D A cells slots Q ss (pc) lv (st) := fun H locs ls hP hD hS hl => lv_iconst X.1 X.2.1 hd hv (kk H locs ls hP hD hS hl)
theorem g_bipush (X : Cx p s m args meth c cc own nL ret D cy A) {n : Int} {v : Int32} (hd : decode cc pc = .ok (.bipush n, 2)) (hv : (Int8.ofInt n).toInt32 = v) (kk : G p l e R s m args below meth c nL D A cells slots Q ss (pc + 2) lv (.int v :: st)) : G p l e R s m args below meth c nL D A cells slots Q ss (pc) lv (st) := fun H locs ls hP hD hS hl => lv_bipush X.1 X.2.1 hd hv (kk H locs ls hP hD hS hl)
theorem g_sipush (X : Cx p s m args meth c cc own nL ret D cy A) {n : Int} {v : Int32} (hd : decode cc pc = .ok (.sipush n, 3)) (hv : (Int16.ofInt n).toInt32 = v) (kk : G p l e R s m args below meth c nL D A cells slots Q ss (pc + 3) lv (.int v :: st)) : G p l e R s m args below meth c nL D A cells slots Q ss (pc) lv (st) := fun H locs ls hP hD hS hl => lv_sipush X.1 X.2.1 hd hv (kk H locs ls hP hD hS hl)
theorem g_ldc (X : Cx p s m args meth c cc own nL ret D cy A) {i : Nat} {v : Int32} (hd : decode cc pc = .ok (.ldc i, 2)) (hc : Jvm.Cond.constant own i v ∈ TW) (kk : G p l e R s m args below meth c nL D A cells slots Q ss (pc + 2) lv (.int v :: st)) : G p l e R s m args below meth c nL D A cells slots Q ss (pc) lv (st) := fun H locs ls hP hD hS hl => lv_ldc X.1 X.2.1 X.2.2.2.1 (X.2.2.2.2.1 _ hc) hd (kk H locs ls hP hD hS hl)
theorem g_iload_n (X : Cx p s m args meth c cc own nL ret D cy A) {k : Fin 4} {x : Int32} (hd : decode cc pc = .ok (.iload_n k, 1)) (q : Nat) (hq : lv[q]? = some ((k : Nat), .int x)) (kk : G p l e R s m args below meth c nL D A cells slots Q ss (pc + 1) lv (.int x :: st)) : G p l e R s m args below meth c nL D A cells slots Q ss (pc) lv (st) := fun H locs ls hP hD hS hl => lv_iload_n X.1 X.2.1 hd rfl (lv_at hl q hq) (kk H locs ls hP hD hS hl)
theorem g_iload (X : Cx p s m args meth c cc own nL ret D cy A) {i : Nat} {x : Int32} (hd : decode cc pc = .ok (.iload i, 2)) (q : Nat) (hq : lv[q]? = some (i, .int x)) (kk : G p l e R s m args below meth c nL D A cells slots Q ss (pc + 2) lv (.int x :: st)) : G p l e R s m args below meth c nL D A cells slots Q ss (pc) lv (st) := fun H locs ls hP hD hS hl => lv_iload X.1 X.2.1 hd (lv_at hl q hq) (kk H locs ls hP hD hS hl)
theorem g_istore_n (X : Cx p s m args meth c cc own nL ret D cy A) {k : Fin 4} {i : Nat} {x : Int32} (hd : decode cc pc = .ok (.istore_n k, 1)) (hk : (k : Nat) = i) (hn : Nat.blt i nL = true) (hl : (i, Value.int x) :: lv.filter (fun q => !(q.1 == i) && !(q.1 + 1 == i && q.2.category == 2)) = lv') (kk : G p l e R s m args below meth c nL D A cells slots Q ss (pc + 1) lv' (st)) : G p l e R s m args below meth c nL D A cells slots Q ss (pc) lv (.int x :: st) := fun H locs ls hP hD hS hls => lv_istore_n X.1 X.2.1 hd hk hls (Nat.le_of_ble_eq_true hn) hl (fun ls hl => (kk H locs ls hP hD hS hl))
theorem g_istore (X : Cx p s m args meth c cc own nL ret D cy A) {i : Nat} {x : Int32} (hd : decode cc pc = .ok (.istore i, 2)) (hn : Nat.blt i nL = true) (hl : (i, Value.int x) :: lv.filter (fun q => !(q.1 == i) && !(q.1 + 1 == i && q.2.category == 2)) = lv') (kk : G p l e R s m args below meth c nL D A cells slots Q ss (pc + 2) lv' (st)) : G p l e R s m args below meth c nL D A cells slots Q ss (pc) lv (.int x :: st) := fun H locs ls hP hD hS hls => lv_istore X.1 X.2.1 hd hls (Nat.le_of_ble_eq_true hn) hl (fun ls hl => (kk H locs ls hP hD hS hl))
theorem g_aload_n (X : Cx p s m args meth c cc own nL ret D cy A) {k : Fin 4} {x : Nat} (hd : decode cc pc = .ok (.aload_n k, 1)) (q : Nat) (hq : lv[q]? = some ((k : Nat), .ref x)) (kk : G p l e R s m args below meth c nL D A cells slots Q ss (pc + 1) lv (.ref x :: st)) : G p l e R s m args below meth c nL D A cells slots Q ss (pc) lv (st) := fun H locs ls hP hD hS hl => lv_aload_n X.1 X.2.1 hd rfl (lv_at hl q hq) (kk H locs ls hP hD hS hl)
theorem g_aload (X : Cx p s m args meth c cc own nL ret D cy A) {i : Nat} {x : Nat} (hd : decode cc pc = .ok (.aload i, 2)) (q : Nat) (hq : lv[q]? = some (i, .ref x)) (kk : G p l e R s m args below meth c nL D A cells slots Q ss (pc + 2) lv (.ref x :: st)) : G p l e R s m args below meth c nL D A cells slots Q ss (pc) lv (st) := fun H locs ls hP hD hS hl => lv_aload X.1 X.2.1 hd (lv_at hl q hq) (kk H locs ls hP hD hS hl)
theorem g_astore_n (X : Cx p s m args meth c cc own nL ret D cy A) {k : Fin 4} {i : Nat} {x : Nat} (hd : decode cc pc = .ok (.astore_n k, 1)) (hk : (k : Nat) = i) (hn : Nat.blt i nL = true) (hl : (i, Value.ref x) :: lv.filter (fun q => !(q.1 == i) && !(q.1 + 1 == i && q.2.category == 2)) = lv') (kk : G p l e R s m args below meth c nL D A cells slots Q ss (pc + 1) lv' (st)) : G p l e R s m args below meth c nL D A cells slots Q ss (pc) lv (.ref x :: st) := fun H locs ls hP hD hS hls => lv_astore_n X.1 X.2.1 hd hk hls (Nat.le_of_ble_eq_true hn) hl (fun ls hl => (kk H locs ls hP hD hS hl))
theorem g_astore (X : Cx p s m args meth c cc own nL ret D cy A) {i : Nat} {x : Nat} (hd : decode cc pc = .ok (.astore i, 2)) (hn : Nat.blt i nL = true) (hl : (i, Value.ref x) :: lv.filter (fun q => !(q.1 == i) && !(q.1 + 1 == i && q.2.category == 2)) = lv') (kk : G p l e R s m args below meth c nL D A cells slots Q ss (pc + 2) lv' (st)) : G p l e R s m args below meth c nL D A cells slots Q ss (pc) lv (.ref x :: st) := fun H locs ls hP hD hS hls => lv_astore X.1 X.2.1 hd hls (Nat.le_of_ble_eq_true hn) hl (fun ls hl => (kk H locs ls hP hD hS hl))
theorem g_iinc (X : Cx p s m args meth c cc own nL ret D cy A) {i : Nat} {n : Int} {x v : Int32} (hd : decode cc pc = .ok (.iinc i n, 3)) (q : Nat) (hq : lv[q]? = some (i, .int x)) (hv : x + Int32.ofInt n = v) (hn : Nat.blt i nL = true) (hl : (i, Value.int v) :: lv.filter (fun q => !(q.1 == i) && !(q.1 + 1 == i && q.2.category == 2)) = lv') (kk : G p l e R s m args below meth c nL D A cells slots Q ss (pc + 3) lv' (st)) : G p l e R s m args below meth c nL D A cells slots Q ss (pc) lv (st) := fun H locs ls hP hD hS hls => lv_iinc X.1 X.2.1 hd hls hq hv (Nat.le_of_ble_eq_true hn) hl (fun ls hl => (kk H locs ls hP hD hS hl))
theorem g_iadd (X : Cx p s m args meth c cc own nL ret D cy A) {x y v : Int32} (hd : decode cc pc = .ok (.iadd, 1)) (hv : x + y = v) (kk : G p l e R s m args below meth c nL D A cells slots Q ss (pc + 1) lv (.int v :: st)) : G p l e R s m args below meth c nL D A cells slots Q ss (pc) lv (.int y :: .int x :: st) := fun H locs ls hP hD hS hl => lv_iadd X.1 X.2.1 hd (by rw [hv]; exact (kk H locs ls hP hD hS hl))
theorem g_isub (X : Cx p s m args meth c cc own nL ret D cy A) {x y v : Int32} (hd : decode cc pc = .ok (.isub, 1)) (hv : x - y = v) (kk : G p l e R s m args below meth c nL D A cells slots Q ss (pc + 1) lv (.int v :: st)) : G p l e R s m args below meth c nL D A cells slots Q ss (pc) lv (.int y :: .int x :: st) := fun H locs ls hP hD hS hl => lv_isub X.1 X.2.1 hd (by rw [hv]; exact (kk H locs ls hP hD hS hl))
theorem g_imul (X : Cx p s m args meth c cc own nL ret D cy A) {x y v : Int32} (hd : decode cc pc = .ok (.imul, 1)) (hv : x * y = v) (kk : G p l e R s m args below meth c nL D A cells slots Q ss (pc + 1) lv (.int v :: st)) : G p l e R s m args below meth c nL D A cells slots Q ss (pc) lv (.int y :: .int x :: st) := fun H locs ls hP hD hS hl => lv_imul X.1 X.2.1 hd (by rw [hv]; exact (kk H locs ls hP hD hS hl))
theorem g_iand (X : Cx p s m args meth c cc own nL ret D cy A) {x y v : Int32} (hd : decode cc pc = .ok (.iand, 1)) (hv : x &&& y = v) (kk : G p l e R s m args below meth c nL D A cells slots Q ss (pc + 1) lv (.int v :: st)) : G p l e R s m args below meth c nL D A cells slots Q ss (pc) lv (.int y :: .int x :: st) := fun H locs ls hP hD hS hl => lv_iand X.1 X.2.1 hd (by rw [hv]; exact (kk H locs ls hP hD hS hl))
theorem g_ior (X : Cx p s m args meth c cc own nL ret D cy A) {x y v : Int32} (hd : decode cc pc = .ok (.ior, 1)) (hv : x ||| y = v) (kk : G p l e R s m args below meth c nL D A cells slots Q ss (pc + 1) lv (.int v :: st)) : G p l e R s m args below meth c nL D A cells slots Q ss (pc) lv (.int y :: .int x :: st) := fun H locs ls hP hD hS hl => lv_ior X.1 X.2.1 hd (by rw [hv]; exact (kk H locs ls hP hD hS hl))
theorem g_ixor (X : Cx p s m args meth c cc own nL ret D cy A) {x y v : Int32} (hd : decode cc pc = .ok (.ixor, 1)) (hv : x ^^^ y = v) (kk : G p l e R s m args below meth c nL D A cells slots Q ss (pc + 1) lv (.int v :: st)) : G p l e R s m args below meth c nL D A cells slots Q ss (pc) lv (.int y :: .int x :: st) := fun H locs ls hP hD hS hl => lv_ixor X.1 X.2.1 hd (by rw [hv]; exact (kk H locs ls hP hD hS hl))
theorem g_ishl (X : Cx p s m args meth c cc own nL ret D cy A) {x y v : Int32} (hd : decode cc pc = .ok (.ishl, 1)) (hv : x <<< (y &&& 31) = v) (kk : G p l e R s m args below meth c nL D A cells slots Q ss (pc + 1) lv (.int v :: st)) : G p l e R s m args below meth c nL D A cells slots Q ss (pc) lv (.int y :: .int x :: st) := fun H locs ls hP hD hS hl => lv_ishl X.1 X.2.1 hd (by rw [hv]; exact (kk H locs ls hP hD hS hl))
theorem g_ishr (X : Cx p s m args meth c cc own nL ret D cy A) {x y v : Int32} (hd : decode cc pc = .ok (.ishr, 1)) (hv : x >>> (y &&& 31) = v) (kk : G p l e R s m args below meth c nL D A cells slots Q ss (pc + 1) lv (.int v :: st)) : G p l e R s m args below meth c nL D A cells slots Q ss (pc) lv (.int y :: .int x :: st) := fun H locs ls hP hD hS hl => lv_ishr X.1 X.2.1 hd (by rw [hv]; exact (kk H locs ls hP hD hS hl))
theorem g_idiv (X : Cx p s m args meth c cc own nL ret D cy A) {x y v : Int32} (hd : decode cc pc = .ok (.idiv, 1)) (hne : ¬ y = 0) (hv : x / y = v) (kk : G p l e R s m args below meth c nL D A cells slots Q ss (pc + 1) lv (.int v :: st)) : G p l e R s m args below meth c nL D A cells slots Q ss (pc) lv (.int y :: .int x :: st) := fun H locs ls hP hD hS hl => lv_idiv X.1 X.2.1 hd hne (by rw [hv]; exact (kk H locs ls hP hD hS hl))
theorem g_irem (X : Cx p s m args meth c cc own nL ret D cy A) {x y v : Int32} (hd : decode cc pc = .ok (.irem, 1)) (hne : ¬ y = 0) (hv : x - x / y * y = v) (kk : G p l e R s m args below meth c nL D A cells slots Q ss (pc + 1) lv (.int v :: st)) : G p l e R s m args below meth c nL D A cells slots Q ss (pc) lv (.int y :: .int x :: st) := fun H locs ls hP hD hS hl => lv_irem X.1 X.2.1 hd hne (by rw [hv]; exact (kk H locs ls hP hD hS hl))
theorem g_ineg (X : Cx p s m args meth c cc own nL ret D cy A) {x v : Int32} (hd : decode cc pc = .ok (.ineg, 1)) (hv : -x = v) (kk : G p l e R s m args below meth c nL D A cells slots Q ss (pc + 1) lv (.int v :: st)) : G p l e R s m args below meth c nL D A cells slots Q ss (pc) lv (.int x :: st) := fun H locs ls hP hD hS hl => lv_ineg X.1 X.2.1 hd (by rw [hv]; exact (kk H locs ls hP hD hS hl))
theorem g_iushr (X : Cx p s m args meth c cc own nL ret D cy A) {x y v : Int32} (hd : decode cc pc = .ok (.iushr, 1)) (hv : (x.toUInt32 >>> (y.toUInt32 &&& Int32.toUInt32 31)).toInt32 = v) (kk : G p l e R s m args below meth c nL D A cells slots Q ss (pc + 1) lv (.int v :: st)) : G p l e R s m args below meth c nL D A cells slots Q ss (pc) lv (.int y :: .int x :: st) := fun H locs ls hP hD hS hl => lv_iushr X.1 X.2.1 hd hv (kk H locs ls hP hD hS hl)
theorem g_dup (X : Cx p s m args meth c cc own nL ret D cy A) {va : Value} (hd : decode cc pc = .ok (.dup, 1)) (h1 : va.category = 1) (kk : G p l e R s m args below meth c nL D A cells slots Q ss (pc + 1) lv (va :: va :: st)) : G p l e R s m args below meth c nL D A cells slots Q ss (pc) lv (va :: st) := fun H locs ls hP hD hS hl => lv_dup X.1 X.2.1 hd h1 (kk H locs ls hP hD hS hl)
theorem g_pop (X : Cx p s m args meth c cc own nL ret D cy A) {va : Value} (hd : decode cc pc = .ok (.pop, 1)) (h1 : va.category = 1) (kk : G p l e R s m args below meth c nL D A cells slots Q ss (pc + 1) lv (st)) : G p l e R s m args below meth c nL D A cells slots Q ss (pc) lv (va :: st) := fun H locs ls hP hD hS hl => lv_pop X.1 X.2.1 hd h1 (kk H locs ls hP hD hS hl)
theorem g_dup_x1 (X : Cx p s m args meth c cc own nL ret D cy A) {va vb : Value} (hd : decode cc pc = .ok (.dup_x1, 1)) (h1 : va.category = 1) (h2 : vb.category = 1) (kk : G p l e R s m args below meth c nL D A cells slots Q ss (pc + 1) lv (va :: vb :: va :: st)) : G p l e R s m args below meth c nL D A cells slots Q ss (pc) lv (va :: vb :: st) := fun H locs ls hP hD hS hl => lv_dup_x1 X.1 X.2.1 hd h1 h2 (kk H locs ls hP hD hS hl)
theorem g_dup2 (X : Cx p s m args meth c cc own nL ret D cy A) {va vb : Value} (hd : decode cc pc = .ok (.dup2, 1)) (h1 : va.category = 1) (h2 : vb.category = 1) (kk : G p l e R s m args below meth c nL D A cells slots Q ss (pc + 1) lv (va :: vb :: va :: vb :: st)) : G p l e R s m args below meth c nL D A cells slots Q ss (pc) lv (va :: vb :: st) := fun H locs ls hP hD hS hl => lv_dup2_11 X.1 X.2.1 hd h1 h2 (kk H locs ls hP hD hS hl)
theorem g_if_eq (X : Cx p s m args meth c cc own nL ret D cy A) {x : Int32} {off : Int} {tgt : Nat} (hd : decode cc pc = .ok (.ifCond .eq off, 3)) (ht : (pc : Int) + off = (tgt : Int)) (k1 : x = 0 → G p l e R s m args below meth c nL D A cells slots Q ss (tgt) lv (st)) (k2 : x ≠ 0 → G p l e R s m args below meth c nL D A cells slots Q ss (pc + 3) lv (st)) : G p l e R s m args below meth c nL D A cells slots Q ss (pc) lv (.int x :: st) := fun H locs ls hP hD hS hl => lv_if_eq X.1 X.2.1 hd ht (fun h => k1 h H locs ls hP hD hS hl) (fun h => k2 h H locs ls hP hD hS hl)
theorem g_icmp_eq (X : Cx p s m args meth c cc own nL ret D cy A) {x y : Int32} {off : Int} {tgt : Nat} (hd : decode cc pc = .ok (.if_icmp .eq off, 3)) (ht : (pc : Int) + off = (tgt : Int)) (k1 : x = y → G p l e R s m args below meth c nL D A cells slots Q ss (tgt) lv (st)) (k2 : x ≠ y → G p l e R s m args below meth c nL D A cells slots Q ss (pc + 3) lv (st)) : G p l e R s m args below meth c nL D A cells slots Q ss (pc) lv (.int y :: .int x :: st) := fun H locs ls hP hD hS hl => lv_icmp_eq X.1 X.2.1 hd ht (fun h => k1 h H locs ls hP hD hS hl) (fun h => k2 h H locs ls hP hD hS hl)
theorem g_if_ne (X : Cx p s m args meth c cc own nL ret D cy A) {x : Int32} {off : Int} {tgt : Nat} (hd : decode cc pc = .ok (.ifCond .ne off, 3)) (ht : (pc : Int) + off = (tgt : Int)) (k1 : x ≠ 0 → G p l e R s m args below meth c nL D A cells slots Q ss (tgt) lv (st)) (k2 : x = 0 → G p l e R s m args below meth c nL D A cells slots Q ss (pc + 3) lv (st)) : G p l e R s m args below meth c nL D A cells slots Q ss (pc) lv (.int x :: st) := fun H locs ls hP hD hS hl => lv_if_ne X.1 X.2.1 hd ht (fun h => k1 h H locs ls hP hD hS hl) (fun h => k2 h H locs ls hP hD hS hl)
theorem g_icmp_ne (X : Cx p s m args meth c cc own nL ret D cy A) {x y : Int32} {off : Int} {tgt : Nat} (hd : decode cc pc = .ok (.if_icmp .ne off, 3)) (ht : (pc : Int) + off = (tgt : Int)) (k1 : x ≠ y → G p l e R s m args below meth c nL D A cells slots Q ss (tgt) lv (st)) (k2 : x = y → G p l e R s m args below meth c nL D A cells slots Q ss (pc + 3) lv (st)) : G p l e R s m args below meth c nL D A cells slots Q ss (pc) lv (.int y :: .int x :: st) := fun H locs ls hP hD hS hl => lv_icmp_ne X.1 X.2.1 hd ht (fun h => k1 h H locs ls hP hD hS hl) (fun h => k2 h H locs ls hP hD hS hl)
theorem g_if_lt (X : Cx p s m args meth c cc own nL ret D cy A) {x : Int32} {off : Int} {tgt : Nat} (hd : decode cc pc = .ok (.ifCond .lt off, 3)) (ht : (pc : Int) + off = (tgt : Int)) (k1 : x < 0 → G p l e R s m args below meth c nL D A cells slots Q ss (tgt) lv (st)) (k2 : 0 ≤ x → G p l e R s m args below meth c nL D A cells slots Q ss (pc + 3) lv (st)) : G p l e R s m args below meth c nL D A cells slots Q ss (pc) lv (.int x :: st) := fun H locs ls hP hD hS hl => lv_if_lt X.1 X.2.1 hd ht (fun h => k1 h H locs ls hP hD hS hl) (fun h => k2 (Int32.not_lt.mp h) H locs ls hP hD hS hl)
theorem g_icmp_lt (X : Cx p s m args meth c cc own nL ret D cy A) {x y : Int32} {off : Int} {tgt : Nat} (hd : decode cc pc = .ok (.if_icmp .lt off, 3)) (ht : (pc : Int) + off = (tgt : Int)) (k1 : x < y → G p l e R s m args below meth c nL D A cells slots Q ss (tgt) lv (st)) (k2 : y ≤ x → G p l e R s m args below meth c nL D A cells slots Q ss (pc + 3) lv (st)) : G p l e R s m args below meth c nL D A cells slots Q ss (pc) lv (.int y :: .int x :: st) := fun H locs ls hP hD hS hl => lv_icmp_lt X.1 X.2.1 hd ht (fun h => k1 h H locs ls hP hD hS hl) (fun h => k2 (Int32.not_lt.mp h) H locs ls hP hD hS hl)
theorem g_if_ge (X : Cx p s m args meth c cc own nL ret D cy A) {x : Int32} {off : Int} {tgt : Nat} (hd : decode cc pc = .ok (.ifCond .ge off, 3)) (ht : (pc : Int) + off = (tgt : Int)) (k1 : 0 ≤ x → G p l e R s m args below meth c nL D A cells slots Q ss (tgt) lv (st)) (k2 : x < 0 → G p l e R s m args below meth c nL D A cells slots Q ss (pc + 3) lv (st)) : G p l e R s m args below meth c nL D A cells slots Q ss (pc) lv (.int x :: st) := fun H locs ls hP hD hS hl => lv_if_ge X.1 X.2.1 hd ht (fun h => k1 h H locs ls hP hD hS hl) (fun h => k2 (Int32.not_le.mp h) H locs ls hP hD hS hl)
theorem g_icmp_ge (X : Cx p s m args meth c cc own nL ret D cy A) {x y : Int32} {off : Int} {tgt : Nat} (hd : decode cc pc = .ok (.if_icmp .ge off, 3)) (ht : (pc : Int) + off = (tgt : Int)) (k1 : y ≤ x → G p l e R s m args below meth c nL D A cells slots Q ss (tgt) lv (st)) (k2 : x < y → G p l e R s m args below meth c nL D A cells slots Q ss (pc + 3) lv (st)) : G p l e R s m args below meth c nL D A cells slots Q ss (pc) lv (.int y :: .int x :: st) := fun H locs ls hP hD hS hl => lv_icmp_ge X.1 X.2.1 hd ht (fun h => k1 h H locs ls hP hD hS hl) (fun h => k2 (Int32.not_le.mp h) H locs ls hP hD hS hl)
theorem g_if_gt (X : Cx p s m args meth c cc own nL ret D cy A) {x : Int32} {off : Int} {tgt : Nat} (hd : decode cc pc = .ok (.ifCond .gt off, 3)) (ht : (pc : Int) + off = (tgt : Int)) (k1 : 0 < x → G p l e R s m args below meth c nL D A cells slots Q ss (tgt) lv (st)) (k2 : x ≤ 0 → G p l e R s m args below meth c nL D A cells slots Q ss (pc + 3) lv (st)) : G p l e R s m args below meth c nL D A cells slots Q ss (pc) lv (.int x :: st) := fun H locs ls hP hD hS hl => lv_if_gt X.1 X.2.1 hd ht (fun h => k1 h H locs ls hP hD hS hl) (fun h => k2 (Int32.not_lt.mp h) H locs ls hP hD hS hl)
theorem g_icmp_gt (X : Cx p s m args meth c cc own nL ret D cy A) {x y : Int32} {off : Int} {tgt : Nat} (hd : decode cc pc = .ok (.if_icmp .gt off, 3)) (ht : (pc : Int) + off = (tgt : Int)) (k1 : y < x → G p l e R s m args below meth c nL D A cells slots Q ss (tgt) lv (st)) (k2 : x ≤ y → G p l e R s m args below meth c nL D A cells slots Q ss (pc + 3) lv (st)) : G p l e R s m args below meth c nL D A cells slots Q ss (pc) lv (.int y :: .int x :: st) := fun H locs ls hP hD hS hl => lv_icmp_gt X.1 X.2.1 hd ht (fun h => k1 h H locs ls hP hD hS hl) (fun h => k2 (Int32.not_lt.mp h) H locs ls hP hD hS hl)
theorem g_if_le (X : Cx p s m args meth c cc own nL ret D cy A) {x : Int32} {off : Int} {tgt : Nat} (hd : decode cc pc = .ok (.ifCond .le off, 3)) (ht : (pc : Int) + off = (tgt : Int)) (k1 : x ≤ 0 → G p l e R s m args below meth c nL D A cells slots Q ss (tgt) lv (st)) (k2 : 0 < x → G p l e R s m args below meth c nL D A cells slots Q ss (pc + 3) lv (st)) : G p l e R s m args below meth c nL D A cells slots Q ss (pc) lv (.int x :: st) := fun H locs ls hP hD hS hl => lv_if_le X.1 X.2.1 hd ht (fun h => k1 h H locs ls hP hD hS hl) (fun h => k2 (Int32.not_le.mp h) H locs ls hP hD hS hl)
theorem g_icmp_le (X : Cx p s m args meth c cc own nL ret D cy A) {x y : Int32} {off : Int} {tgt : Nat} (hd : decode cc pc = .ok (.if_icmp .le off, 3)) (ht : (pc : Int) + off = (tgt : Int)) (k1 : x ≤ y → G p l e R s m args below meth c nL D A cells slots Q ss (tgt) lv (st)) (k2 : y < x → G p l e R s m args below meth c nL D A cells slots Q ss (pc + 3) lv (st)) : G p l e R s m args below meth c nL D A cells slots Q ss (pc) lv (.int y :: .int x :: st) := fun H locs ls hP hD hS hl => lv_icmp_le X.1 X.2.1 hd ht (fun h => k1 h H locs ls hP hD hS hl) (fun h => k2 (Int32.not_le.mp h) H locs ls hP hD hS hl)
theorem g_ncmp_eq (X : Cx p s m args meth c cc own nL ret D cy A) {x y : Int32} {off : Int} {tgt : Nat} (hd : decode cc pc = .ok (.if_icmp .eq off, 3)) (ht : (pc : Int) + off = (tgt : Int)) (a b : Nat) (hx : x = nI a) (hy : y = nI b) (ha : a < 2 ^ 31) (hb : b < 2 ^ 31) (k1 : a = b → G p l e R s m args below meth c nL D A cells slots Q ss (tgt) lv (st)) (k2 : a ≠ b → G p l e R s m args below meth c nL D A cells slots Q ss (pc + 3) lv (st)) : G p l e R s m args below meth c nL D A cells slots Q ss (pc) lv (.int y :: .int x :: st) := by
  subst hx hy
  exact g_icmp_eq X hd ht (fun h => k1 ((nI_eq ha hb).mp h)) (fun h => k2 ((not_congr (nI_eq ha hb)).mp h))
theorem g_ncmp_ne (X : Cx p s m args meth c cc own nL ret D cy A) {x y : Int32} {off : Int} {tgt : Nat} (hd : decode cc pc = .ok (.if_icmp .ne off, 3)) (ht : (pc : Int) + off = (tgt : Int)) (a b : Nat) (hx : x = nI a) (hy : y = nI b) (ha : a < 2 ^ 31) (hb : b < 2 ^ 31) (k1 : a ≠ b → G p l e R s m args below meth c nL D A cells slots Q ss (tgt) lv (st)) (k2 : a = b → G p l e R s m args below meth c nL D A cells slots Q ss (pc + 3) lv (st)) : G p l e R s m args below meth c nL D A cells slots Q ss (pc) lv (.int y :: .int x :: st) := by
  subst hx hy
  exact g_icmp_ne X hd ht (fun h => k1 ((not_congr (nI_eq ha hb)).mp h)) (fun h => k2 ((nI_eq ha hb).mp h))
theorem g_ncmp_lt (X : Cx p s m args meth c cc own nL ret D cy A) {x y : Int32} {off : Int} {tgt : Nat} (hd : decode cc pc = .ok (.if_icmp .lt off, 3)) (ht : (pc : Int) + off = (tgt : Int)) (a b : Nat) (hx : x = nI a) (hy : y = nI b) (ha : a < 2 ^ 31) (hb : b < 2 ^ 31) (k1 : a < b → G p l e R s m args below meth c nL D A cells slots Q ss (tgt) lv (st)) (k2 : b ≤ a → G p l e R s m args below meth c nL D A cells slots Q ss (pc + 3) lv (st)) : G p l e R s m args below meth c nL D A cells slots Q ss (pc) lv (.int y :: .int x :: st) := by
  subst hx hy
  exact g_icmp_lt X hd ht (fun h => k1 ((nI_ltI ha hb).mp h)) (fun h => k2 ((nI_leI hb ha).mp h))
theorem g_ncmp_ge (X : Cx p s m args meth c cc own nL ret D cy A) {x y : Int32} {off : Int} {tgt : Nat} (hd : decode cc pc = .ok (.if_icmp .ge off, 3)) (ht : (pc : Int) + off = (tgt : Int)) (a b : Nat) (hx : x = nI a) (hy : y = nI b) (ha : a < 2 ^ 31) (hb : b < 2 ^ 31) (k1 : b ≤ a → G p l e R s m args below meth c nL D A cells slots Q ss (tgt) lv (st)) (k2 : a < b → G p l e R s m args below meth c nL D A cells slots Q ss (pc + 3) lv (st)) : G p l e R s m args below meth c nL D A cells slots Q ss (pc) lv (.int y :: .int x :: st) := by
  subst hx hy
  exact g_icmp_ge X hd ht (fun h => k1 ((nI_leI hb ha).mp h)) (fun h => k2 ((nI_ltI ha hb).mp h))
theorem g_ncmp_gt (X : Cx p s m args meth c cc own nL ret D cy A) {x y : Int32} {off : Int} {tgt : Nat} (hd : decode cc pc = .ok (.if_icmp .gt off, 3)) (ht : (pc : Int) + off = (tgt : Int)) (a b : Nat) (hx : x = nI a) (hy : y = nI b) (ha : a < 2 ^ 31) (hb : b < 2 ^ 31) (k1 : b < a → G p l e R s m args below meth c nL D A cells slots Q ss (tgt) lv (st)) (k2 : a ≤ b → G p l e R s m args below meth c nL D A cells slots Q ss (pc + 3) lv (st)) : G p l e R s m args below meth c nL D A cells slots Q ss (pc) lv (.int y :: .int x :: st) := by
  subst hx hy
  exact g_icmp_gt X hd ht (fun h => k1 ((nI_ltI hb ha).mp h)) (fun h => k2 ((nI_leI ha hb).mp h))
theorem g_ncmp_le (X : Cx p s m args meth c cc own nL ret D cy A) {x y : Int32} {off : Int} {tgt : Nat} (hd : decode cc pc = .ok (.if_icmp .le off, 3)) (ht : (pc : Int) + off = (tgt : Int)) (a b : Nat) (hx : x = nI a) (hy : y = nI b) (ha : a < 2 ^ 31) (hb : b < 2 ^ 31) (k1 : a ≤ b → G p l e R s m args below meth c nL D A cells slots Q ss (tgt) lv (st)) (k2 : b < a → G p l e R s m args below meth c nL D A cells slots Q ss (pc + 3) lv (st)) : G p l e R s m args below meth c nL D A cells slots Q ss (pc) lv (.int y :: .int x :: st) := by
  subst hx hy
  exact g_icmp_le X hd ht (fun h => k1 ((nI_leI ha hb).mp h)) (fun h => k2 ((nI_ltI hb ha).mp h))
theorem g_bif_eq (X : Cx p s m args meth c cc own nL ret D cy A) {b : Bool} {off : Int} {tgt : Nat} (hd : decode cc pc = .ok (.ifCond .eq off, 3)) (ht : (pc : Int) + off = (tgt : Int)) (k1 : b = false → G p l e R s m args below meth c nL D A cells slots Q ss (tgt) lv (st)) (k2 : b = true → G p l e R s m args below meth c nL D A cells slots Q ss (pc + 3) lv (st)) : G p l e R s m args below meth c nL D A cells slots Q ss (pc) lv (.int (bI b) :: st) := by
  cases b
  · exact g_if_eq X hd ht (fun h => k1 rfl) (fun h => absurd rfl h)
  · exact g_if_eq X hd ht (fun h => absurd h (by decide)) (fun h => k2 rfl)
theorem g_bif_ne (X : Cx p s m args meth c cc own nL ret D cy A) {b : Bool} {off : Int} {tgt : Nat} (hd : decode cc pc = .ok (.ifCond .ne off, 3)) (ht : (pc : Int) + off = (tgt : Int)) (k1 : b = true → G p l e R s m args below meth c nL D A cells slots Q ss (tgt) lv (st)) (k2 : b = false → G p l e R s m args below meth c nL D A cells slots Q ss (pc + 3) lv (st)) : G p l e R s m args below meth c nL D A cells slots Q ss (pc) lv (.int (bI b) :: st) := by
  cases b
  · exact g_if_ne X hd ht (fun h => absurd rfl h) (fun h => k2 rfl)
  · exact g_if_ne X hd ht (fun h => k1 rfl) (fun h => absurd h (by decide))
theorem g_goto (X : Cx p s m args meth c cc own nL ret D cy A) {off : Int} {tgt : Nat} (hd : decode cc pc = .ok (.goto off, 3)) (ht : (pc : Int) + off = (tgt : Int)) (kk : G p l e R s m args below meth c nL D A cells slots Q ss (tgt) lv (st)) : G p l e R s m args below meth c nL D A cells slots Q ss (pc) lv (st) := fun H locs ls hP hD hS hl => lv_goto X.1 X.2.1 hd ht (kk H locs ls hP hD hS hl)
theorem g_tableIn (X : Cx p s m args meth c cc own nL ret D cy A) {dflt lo hi : Int} {offs : Array Int} {len : Nat} {x : Int32} {off : Int} {tgt : Nat} (hd : decode cc pc = .ok (.tableswitch dflt lo hi offs, len)) (h1 : ¬ x.toInt < lo) (h2 : ¬ hi < x.toInt) (ho : offs[(x.toInt - lo).toNat]? = some off) (ht : (pc : Int) + off = (tgt : Int)) (kk : G p l e R s m args below meth c nL D A cells slots Q ss (tgt) lv (st)) : G p l e R s m args below meth c nL D A cells slots Q ss (pc) lv (.int x :: st) := fun H locs ls hP hD hS hl => lv_tableIn X.1 X.2.1 hd h1 h2 ho ht (kk H locs ls hP hD hS hl)
theorem g_tableOut (X : Cx p s m args meth c cc own nL ret D cy A) {dflt lo hi : Int} {offs : Array Int} {len : Nat} {x : Int32} {tgt : Nat} (hd : decode cc pc = .ok (.tableswitch dflt lo hi offs, len)) (h : x.toInt < lo ∨ hi < x.toInt) (ht : (pc : Int) + dflt = (tgt : Int)) (kk : G p l e R s m args below meth c nL D A cells slots Q ss (tgt) lv (st)) : G p l e R s m args below meth c nL D A cells slots Q ss (pc) lv (.int x :: st) := fun H locs ls hP hD hS hl => lv_tableOut X.1 X.2.1 hd h ht (kk H locs ls hP hD hS hl)
theorem g_lookup (X : Cx p s m args meth c cc own nL ret D cy A) {dflt : Int} {ps : Array (Int × Int)} {len : Nat} {x : Int32} {off : Int} {tgt : Nat} (hd : decode cc pc = .ok (.lookupswitch dflt ps, len)) (hp : (ps.toList.zip (ps.toList.drop 1)).all (fun (a, next) => a.1 < next.1) = true) (ho : Op.lookupswitch.offset ps.toList dflt x.toInt = off) (ht : (pc : Int) + off = (tgt : Int)) (kk : G p l e R s m args below meth c nL D A cells slots Q ss (tgt) lv (st)) : G p l e R s m args below meth c nL D A cells slots Q ss (pc) lv (.int x :: st) := fun H locs ls hP hD hS hl => lv_lookup X.1 X.2.1 hd hp ho ht (kk H locs ls hP hD hS hl)
theorem g_get (X : Cx p s m args meth c cc own nL ret D cy A) {idx ci k : Nat} (f : FL own idx ci k) (hd : decode cc pc = .ok (.getfield idx, 3)) (i j : Nat) {w : va_W} {a : Nat} {fs : List Value} {v : Value} (hi : ss[i]? = some w) (hj : w[j]? = some (a, .inr (ci, fs))) (hv : fs[k]? = some v) (kk : G p l e R s m args below meth c nL D A cells slots Q ss (pc + 3) lv (v :: st)) : G p l e R s m args below meth c nL D A cells slots Q ss (pc) lv (.ref a :: st) := by
  intro H locs ls hP hD hS hl
  obtain ⟨C, T, N, h1, h2, h3, h4, h5⟩ := f
  obtain ⟨q0, hq, -⟩ := sg_at ss i j w _ hi hj
  exact va_get X.1 X.2.1 X.2.2.2.2.1 h2 X.2.2.2.1 X.2.2.2.2.2.2.2.1.1 hP q0 hq h1 k h3 (X.2.2.2.2.1 _ h5) (fun x hx => by rw [h4] at hx; exact hx) hv hd (kk H locs ls hP hD hS hl)
theorem g_put (X : Cx p s m args meth c cc own nL ret D cy A) {idx ci k : Nat} {ty : FieldType} (f : FP own idx ci k ty) (hd : decode cc pc = .ok (.putfield idx, 3)) (i j : Nat) {w : va_W} {a : Nat} {fs : List Value} {v : Value} (hi : ss[i]? = some w) (hj : w[j]? = some (a, .inr (ci, fs))) (hn : narrow ty v = v) (hfit : fits ty v = true) (hk : Nat.blt k fs.length = true) (hs : ss.set i (w.set j (a, .inr (ci, fs.set k v))) = ss') (kk : G p l e R s m args below meth c nL D A cells slots Q ss' (pc + 3) lv (st)) : G p l e R s m args below meth c nL D A cells slots Q ss (pc) lv (v :: .ref a :: st) := by
  intro H locs ls hP hD hS hl
  obtain ⟨C, T, N, ty0, h1, h2, h3, h4, h5, h6, h7, h8, h9⟩ := f
  obtain ⟨q0, hq, hset⟩ := sg_at ss i j w _ hi hj
  refine va_put X.1 X.2.1 X.2.2.2.2.1 h2 ty0 h6 h7 X.2.2.2.1 X.2.2.2.2.2.2.2.1.1 hP (sg_va hD) hS q0 hq h1 k h3 (X.2.2.2.2.1 _ h5) (fun x hx => by rw [h4] at hx; exact hx) h8 h9 hn hfit (Nat.le_of_ble_eq_true hk) hd (fun H1 locs1 hP1 _ hS1 => ?_)
  subst hs
  refine kk H1 locs1 ls ?_ (by rw [sg_ads_set hi hj]; exact hD) hS1 hl
  unfold PS
  rw [hset]; exact hP1
theorem g_iald (X : Cx p s m args meth c cc own nL ret D cy A) (i j : Nat) (hd : decode cc pc = .ok (.iaload, 1)) {w : va_W} {a n : Nat} {f : Nat → Int32} {x : Int32} (hi : ss[i]? = some w) (hj : w[j]? = some (a, .inl (cy, n, .inl f))) (hin : vp_in x n) (kk : G p l e R s m args below meth c nL D A cells slots Q ss (pc + 1) lv (.int (f (ix x)) :: st)) : G p l e R s m args below meth c nL D A cells slots Q ss (pc) lv (.int x :: .ref a :: st) := by
  intro H locs ls hP hD hS hl
  obtain ⟨q0, hq, -⟩ := sg_at ss i j w _ hi hj
  exact va_iald X.1 X.2.1 X.2.2.2.2.2.2.2.1.1 hP q0 0 hq rfl hin hd (kk H locs ls hP hD hS hl)
theorem g_iast (X : Cx p s m args meth c cc own nL ret D cy A) (i j : Nat) (hd : decode cc pc = .ok (.iastore, 1)) {w : va_W} {a n : Nat} {f : Nat → Int32} {x v : Int32} (hi : ss[i]? = some w) (hj : w[j]? = some (a, .inl (cy, n, .inl f))) (hin : vp_in x n) (hs : ss.set i (w.set j (a, .inl (cy, n, .inl (upd f (ix x) v)))) = ss') (kk : G p l e R s m args below meth c nL D A cells slots Q ss' (pc + 1) lv (st)) : G p l e R s m args below meth c nL D A cells slots Q ss (pc) lv (.int v :: .int x :: .ref a :: st) := by
  intro H locs ls hP hD hS hl
  obtain ⟨q0, hq, hset⟩ := sg_at ss i j w _ hi hj
  refine va_iast X.1 X.2.1 X.2.2.2.2.2.2.2.1.1 hP (sg_va hD) hS q0 0 hq rfl hin hd (fun H1 locs1 hP1 _ hS1 => ?_)
  subst hs
  refine kk H1 locs1 ls ?_ (by rw [sg_ads_set hi hj]; exact hD) hS1 hl
  unfold PS
  rw [hset]; exact hP1
theorem g_iald_n (X : Cx p s m args meth c cc own nL ret D cy A) (i j : Nat) (hd : decode cc pc = .ok (.iaload, 1)) {w : va_W} {a n : Nat} {f : Nat → Int32} {x : Int32} (k : Nat) (hx : x = nI k) (hi : ss[i]? = some w) (hj : w[j]? = some (a, .inl (cy, n, .inl f))) (hk : k < n) (hn : Nat.ble n 1000 = true) (kk : G p l e R s m args below meth c nL D A cells slots Q ss (pc + 1) lv (.int (f k) :: st)) : G p l e R s m args below meth c nL D A cells slots Q ss (pc) lv (.int x :: .ref a :: st) := by
  subst hx
  have h31 : n < 2 ^ 31 := Nat.lt_of_le_of_lt (Nat.le_of_ble_eq_true hn) (by decide)
  refine g_iald X i j hd hi hj (vp_in_nI hk h31) ?_
  rw [show ix (nI k) = k from nI_clamp (by omega)]
  exact kk
theorem g_iast_n (X : Cx p s m args meth c cc own nL ret D cy A) (i j : Nat) (hd : decode cc pc = .ok (.iastore, 1)) {w : va_W} {a n : Nat} {f : Nat → Int32} {x v : Int32} (k : Nat) (hx : x = nI k) (hi : ss[i]? = some w) (hj : w[j]? = some (a, .inl (cy, n, .inl f))) (hk : k < n) (hn : Nat.ble n 1000 = true) (hs : ss.set i (w.set j (a, .inl (cy, n, .inl (upd f k v)))) = ss') (kk : G p l e R s m args below meth c nL D A cells slots Q ss' (pc + 1) lv (st)) : G p l e R s m args below meth c nL D A cells slots Q ss (pc) lv (.int v :: .int x :: .ref a :: st) := by
  subst hx
  have h31 : n < 2 ^ 31 := Nat.lt_of_le_of_lt (Nat.le_of_ble_eq_true hn) (by decide)
  refine g_iast X i j hd hi hj (vp_in_nI hk h31) ?_ kk
  rw [show ix (nI k) = k from nI_clamp (by omega)]
  exact hs
theorem g_iret (X : Cx p s m args meth c cc own nL ret D cy A) {cs' : Sg} {r v : Int32} {rt : FieldType} (hret : ret = some rt) (hd : decode cc pc = .ok (.ireturn, 1)) (hn : narrow rt (.int v) = .int v) (hv : v = r) (hs : ss = cs') : G p l e R s m args below meth c nL D A 0 0 (QI below args s D A cs' r) ss pc lv [.int v] := by
  intro H locs ls hP hD hS hl
  subst hs hv
  exact W.zret X.1 X.2.1 (X.2.2.2.2.2.1.trans hret) hn (fun t ht hW => ⟨⟨v, (), rfl, rfl, by show PS D ss t.heap; rw [ht]; exact hP⟩, hS.F ht⟩) hS.2.2 hd X.2.2.2.2.2.2.1
theorem g_vret (X : Cx p s m args meth c cc own nL ret D cy A) {cs' : Sg} (hret : ret = none) (hd : decode cc pc = .ok (.return_, 1)) (hs : ss = cs') : G p l e R s m args below meth c nL D A 0 0 (QV below args s D A cs') ss pc lv [] := by
  intro H locs ls hP hD hS hl
  subst hs
  exact W.vret X.1 X.2.1 (X.2.2.2.2.2.1.trans hret) (fun t ht hW => ⟨⟨(), rfl, trivial, by show PS D ss t.heap; rw [ht]; exact hP⟩, hS.F ht⟩) hS.2.2 hd X.2.2.2.2.2.2.1
theorem g_lv (X : Cx p s m args meth c cc own nL ret D cy A) (ks : List Nat) (h : lv_pick lv ks = lv') (kk : G p l e R s m args below meth c nL D A cells slots Q ss (pc) lv' (st)) : G p l e R s m args below meth c nL D A cells slots Q ss (pc) lv (st) := fun H locs ls hP hD hS hl => kk H locs ls hP hD hS (lv_sub hl ks h)
theorem g_eq (X : Cx p s m args meth c cc own nL ret D cy A) (h : ss = ss') (kk : G p l e R s m args below meth c nL D A cells slots Q ss' (pc) lv (st)) : G p l e R s m args below meth c nL D A cells slots Q ss (pc) lv (st) := h ▸ kk
theorem g_top (X : Cx p s m args meth c cc own nL ret D cy A) {x y : Int32} (h : x = y) (kk : G p l e R s m args below meth c nL D A cells slots Q ss (pc) lv (.int y :: st)) : G p l e R s m args below meth c nL D A cells slots Q ss (pc) lv (.int x :: st) := h ▸ kk
theorem g_top2 (X : Cx p s m args meth c cc own nL ret D cy A) {x y : Int32} {v : Value} (h : x = y) (kk : G p l e R s m args below meth c nL D A cells slots Q ss (pc) lv (v :: .int y :: st)) : G p l e R s m args below meth c nL D A cells slots Q ss (pc) lv (v :: .int x :: st) := h ▸ kk
/-- an array's contents behind its length say nothing -/
theorem g_swap (X : Cx p s m args meth c cc own nL ret D cy A) (i j : Nat) {w : va_W} {a n : Nat} {f g : Nat → Int32} (hi : ss[i]? = some w) (hj : w[j]? = some (a, .inl (cy, n, .inl f))) (hfg : ∀ k, k < n → f k = g k) (hs : ss.set i (w.set j (a, .inl (cy, n, .inl g))) = ss') (kk : G p l e R s m args below meth c nL D A cells slots Q ss' (pc) lv (st)) : G p l e R s m args below meth c nL D A cells slots Q ss (pc) lv (st) := by
  intro H locs ls hP hD hS hl
  obtain ⟨q0, hq, hset⟩ := sg_at ss i j w _ hi hj
  subst hs
  refine kk H locs ls ?_ (by rw [sg_ads_set hi hj]; exact hD) hS hl
  unfold PS
  rw [hset]
  have he : va_at D vwCl (a, .inl (cy, n, .inl f)) H := hP q0 _ hq
  refine va_P.set hP (sg_va hD) hq ?_ (fun _ _ => rfl)
  show H[a]? = some (vp_cell cy (n, .inl g))
  have h0 : H[a]? = some (vp_cell cy (n, .inl f)) := he
  rw [h0]
  refine congrArg some ?_
  exact vp_cell_congr hfg
theorem g_callV (X : Cx p s m args meth c cc own nL ret D cy A) {y : MethodName} {bytes : ByteArray} {maxL fr lo idx n : Nat} {rt : FieldType} {b : Nat} {As : List Value} {cs cs' : Sg} {r : Int32} (ct : CtI l y bytes maxL rt fr lo D cy (.ref b :: As) cs cs' r) (vl : VL own idx y bytes maxL (some rt) n) (hd : decode cc pc = .ok (.invokevirtual idx, 3)) (is : List Nat) (i0 j0 : Nat) {w : va_W} {ci : Nat} {fs : List Value} {cl : vw_C} (hi : ss[i0]? = some w) (hj : w[j0]? = some (b, .inr (ci, fs))) (hcl : vwCl[ci]? = some cl) (hcn : cl.1 = y.cls)
    (hC : is.map (fun i => ss[i]?) = cs.map some) (hnd : sg_nd is = true) (had : sg_ads cs' = sg_ads cs) (hs : sg_put ss is cs' = ss') (hst : st = As.reverse ++ .ref b :: rest) (hn : As.length = n) (hfr : Nat.ble (fr + 1) R.frames = true) (hlo : Nat.ble (8 + (maxL + 11) + lo) R.locals = true) (hcat : Nat.ble ((rest.map fun v => v.category).sum) 8 = true) (hcel : cells ≤ R.cells ∧ slots ≤ R.slots) (kk : G p l e R s m args below meth c nL D A cells slots Q ss' (pc + 3) lv (.int r :: rest)) : G p l e R s m args below meth c nL D A cells slots Q ss (pc) lv (st) := by
  intro H locs ls hP hD hS hl
  subst hs hst
  obtain ⟨v1, v2, v3, v4, v5, v6, v7, v8⟩ := vl
  have hts := X.2.2.2.2.1
  have hK := X.2.2.2.2.2.2.2.1
  obtain ⟨q0, hq, -⟩ := sg_at ss i0 j0 w _ hi hj
  have hPc : PS D cs H := sg_sub hP is hC
  have hDc := sg_sub_ds hD is hnd hC
  have hcw : CallW R s args own y.cls idx y bytes maxL (some rt) (wdY y bytes maxL (some rt)) { frames := fr, cells := 0, slots := 0, locals := lo } 0 0 n :=
    ⟨callB_of n hts (fun w hw => (List.mem_cons.mp hw).elim (fun h => h ▸ ⟨v5, tw_good v5⟩) (fun h => ⟨h, tw_good h⟩)) rfl rfl rfl (hts _ v4) (hts _ v1) ⟨v6, v7, v8⟩ ⟨Nat.le_of_ble_eq_true hfr, Nat.le_of_ble_eq_true hlo⟩, hts _ v2, hts _ v3⟩
  refine va_calli (va_runV (As := As) (rest := rest) ⟨X.1, X.2.1, X.2.2.1, X.2.2.2.1, hts⟩ (ct H.size) hcw ⟨preY_blind, ?_, fun U hU hW => ⟨rfl, by rw [hU], by rw [hU]; exact hPc, hK.warm hW, hDc⟩⟩ rfl hn hl.1 rfl (lv_room (Nat.le_of_ble_eq_true hcat)) hd ⟨hcel.1, hcel.2⟩) hS (A1 := SA (sg_ads cs) H.size) (fun q _ h => ?_) (fun q h => ?_) (fun r1 u t H1 locs1 ht hvm hpost hB hz hk hS1 => ?_)
  · have := va_recv hK.1 hP hcl hq
    rw [hcn] at this
    exact this
  · exact h.elim (sg_part hD is hC q) (fun h => X.2.2.2.2.2.2.2.2 q (Nat.le_trans hS.1 h))
  · exact h.elim (sg_part hD is hC q) (fun h => X.2.2.2.2.2.2.2.2 q (Nat.le_trans hS.1 h))
  · subst hpost
    rw [ht] at hB
    have hlen : cs'.length = cs.length := by
      have := congrArg List.length had
      simpa [sg_ads] using this
    exact kk H1 locs1 ls (sg_join hP hD is hC hlen hk hB) (by rw [sg_put_ads is ss cs cs' hC had]; exact hD) hS1 hl
theorem g_callVv (X : Cx p s m args meth c cc own nL ret D cy A) {y : MethodName} {bytes : ByteArray} {maxL fr lo idx n : Nat} {b : Nat} {As : List Value} {cs cs' : Sg} (ct : CtV l y bytes maxL fr lo D cy (.ref b :: As) cs cs') (vl : VL own idx y bytes maxL none n) (hd : decode cc pc = .ok (.invokevirtual idx, 3)) (is : List Nat) (i0 j0 : Nat) {w : va_W} {ci : Nat} {fs : List Value} {cl : vw_C} (hi : ss[i0]? = some w) (hj : w[j0]? = some (b, .inr (ci, fs))) (hcl : vwCl[ci]? = some cl) (hcn : cl.1 = y.cls)
    (hC : is.map (fun i => ss[i]?) = cs.map some) (hnd : sg_nd is = true) (had : sg_ads cs' = sg_ads cs) (hs : sg_put ss is cs' = ss') (hst : st = As.reverse ++ .ref b :: rest) (hn : As.length = n) (hfr : Nat.ble (fr + 1) R.frames = true) (hlo : Nat.ble (8 + (maxL + 11) + lo) R.locals = true) (hcat : Nat.ble ((rest.map fun v => v.category).sum) 8 = true) (hcel : cells ≤ R.cells ∧ slots ≤ R.slots) (kk : G p l e R s m args below meth c nL D A cells slots Q ss' (pc + 3) lv (rest)) : G p l e R s m args below meth c nL D A cells slots Q ss (pc) lv (st) := by
  intro H locs ls hP hD hS hl
  subst hs hst
  obtain ⟨v1, v2, v3, v4, v5, v6, v7, v8⟩ := vl
  have hts := X.2.2.2.2.1
  have hK := X.2.2.2.2.2.2.2.1
  obtain ⟨q0, hq, -⟩ := sg_at ss i0 j0 w _ hi hj
  have hPc : PS D cs H := sg_sub hP is hC
  have hDc := sg_sub_ds hD is hnd hC
  have hcw : CallW R s args own y.cls idx y bytes maxL none (wdY y bytes maxL none) { frames := fr, cells := 0, slots := 0, locals := lo } 0 0 n :=
    ⟨callB_of n hts (fun w hw => (List.mem_cons.mp hw).elim (fun h => h ▸ ⟨v5, tw_good v5⟩) (fun h => ⟨h, tw_good h⟩)) rfl rfl rfl (hts _ v4) (hts _ v1) ⟨v6, v7, v8⟩ ⟨Nat.le_of_ble_eq_true hfr, Nat.le_of_ble_eq_true hlo⟩, hts _ v2, hts _ v3⟩
  refine va_callv (va_runV (As := As) (rest := rest) ⟨X.1, X.2.1, X.2.2.1, X.2.2.2.1, hts⟩ (ct H.size) hcw ⟨preY_blind, ?_, fun U hU hW => ⟨rfl, by rw [hU], by rw [hU]; exact hPc, hK.warm hW, hDc⟩⟩ rfl hn hl.1 rfl (lv_room (Nat.le_of_ble_eq_true hcat)) hd ⟨hcel.1, hcel.2⟩) hS (A1 := SA (sg_ads cs) H.size) (fun q _ h => ?_) (fun q h => ?_) (fun u t H1 locs1 ht hvm hpost hB hz hk hS1 => ?_)
  · have := va_recv hK.1 hP hcl hq
    rw [hcn] at this
    exact this
  · exact h.elim (sg_part hD is hC q) (fun h => X.2.2.2.2.2.2.2.2 q (Nat.le_trans hS.1 h))
  · exact h.elim (sg_part hD is hC q) (fun h => X.2.2.2.2.2.2.2.2 q (Nat.le_trans hS.1 h))
  · rw [ht] at hB
    have hlen : cs'.length = cs.length := by
      have := congrArg List.length had
      simpa [sg_ads] using this
    exact kk H1 locs1 ls (sg_join hP hD is hC hlen hk hB) (by rw [sg_put_ads is ss cs cs' hC had]; exact hD) hS1 hl
theorem g_callS (X : Cx p s m args meth c cc own nL ret D cy A) {y : MethodName} {bytes : ByteArray} {maxL fr lo idx n : Nat} {rt : FieldType} {As : List Value} {r : Int32} (ct : CtI l y bytes maxL rt fr lo D cy As [] [] r) (vl : SL own idx y bytes maxL (some rt) n) (hd : decode cc pc = .ok (.invokestatic idx, 3)) (hst : st = As.reverse ++ rest) (hn : As.length = n) (hfr : Nat.ble (fr + 1) R.frames = true) (hlo : Nat.ble (8 + (maxL + 11) + lo) R.locals = true) (hcat : Nat.ble ((rest.map fun v => v.category).sum) 8 = true) (hcel : cells ≤ R.cells ∧ slots ≤ R.slots) (kk : G p l e R s m args below meth c nL D A cells slots Q ss (pc + 3) lv (.int r :: rest)) : G p l e R s m args below meth c nL D A cells slots Q ss (pc) lv (st) := by
  intro H locs ls hP hD hS hl
  subst hst
  obtain ⟨v1, v3, v4, v5, v6, v7, v8⟩ := vl
  have hts := X.2.2.2.2.1
  have hK := X.2.2.2.2.2.2.2.1
  have hcw : CallB R s args own idx y bytes maxL (some rt) (wdY y bytes maxL (some rt)) { frames := fr, cells := 0, slots := 0, locals := lo } 0 0 n ∧ (Cond.static y).before args s = true :=
    ⟨callB_of n hts (fun w hw => (List.mem_cons.mp hw).elim (fun h => h ▸ ⟨v5, tw_good v5⟩) (fun h => ⟨h, tw_good h⟩)) rfl rfl rfl (hts _ v4) (hts _ v1) ⟨v6, v7, v8⟩ ⟨Nat.le_of_ble_eq_true hfr, Nat.le_of_ble_eq_true hlo⟩, hts _ v3⟩
  refine va_calli (va_runS (As := As) (rest := rest) ⟨X.1, X.2.1, X.2.2.1, X.2.2.2.1, hts⟩ (ct H.size) hcw ⟨preY_blind, fun U hU hW => ⟨rfl, by rw [hU], fun k q h => by simp at h, hK.warm hW, List.Pairwise.nil, fun _ _ => trivial⟩⟩ rfl hn hl.1 rfl (lv_room (Nat.le_of_ble_eq_true hcat)) hd ⟨hcel.1, hcel.2⟩) hS (A1 := SA (sg_ads []) H.size) (fun q _ h => ?_) (fun q h => ?_) (fun r1 u t H1 locs1 ht hvm hpost hB hz hk hS1 => ?_)
  · exact h.elim (fun h => by simp [sg_ads] at h) (fun h => X.2.2.2.2.2.2.2.2 q (Nat.le_trans hS.1 h))
  · exact h.elim (fun h => by simp [sg_ads] at h) (fun h => X.2.2.2.2.2.2.2.2 q (Nat.le_trans hS.1 h))
  · subst hpost
    refine kk H1 locs1 ls (va_P.kept hP (fun k q hq => hk q.1 (hP k q hq).lt ?_)) hD hS1 hl
    rintro (h | h)
    · simp [sg_ads] at h
    · exact absurd (hP k q hq).lt (by omega)
theorem g_callSN (X : Cx p s m args meth c cc own nL ret D cy A) {bytes : ByteArray} {maxL fr lo : Nat} {rt : FieldType} {As : List Value} {r : Int32} (ct : CtI l yX3_isRoom bytes maxL rt fr lo D cy As [] [] r) (hown : own = RX1) (v3 : Cond.static yX3_isRoom ∈ TW) (v4 : Cond.initialized RX3 ∈ TW) (v5 : Cond.code yX3_isRoom bytes maxL (some rt) ∈ TW) (hd : decode cc pc = .ok (.invokestatic 66, 3)) (hst : st = As.reverse ++ rest) (hn : As.length = 1) (hfr : Nat.ble (fr + 1) R.frames = true) (hlo : Nat.ble (8 + (maxL + 11) + lo) R.locals = true) (hcat : Nat.ble ((rest.map fun v => v.category).sum) 8 = true) (hcel : cells ≤ R.cells ∧ slots ≤ R.slots) (kk : G p l e R s m args below meth c nL D A cells slots Q ss (pc + 3) lv (.int r :: rest)) : G p l e R s m args below meth c nL D A cells slots Q ss (pc) lv (st) := by
  intro H locs ls hP hD hS hl
  subst hst hown
  have hts := X.2.2.2.2.1
  have hK := X.2.2.2.2.2.2.2.1
  have hcw : va_CN R s args RX1 66 yX3_isRoom RX3 bytes maxL (some rt) (wdY yX3_isRoom bytes maxL (some rt)) { frames := fr, cells := 0, slots := 0, locals := lo } 0 0 1 ∧ (Cond.static yX3_isRoom).before args s = true ∧ True :=
    ⟨va_cnB 1 hts (fun w hw => (List.mem_cons.mp hw).elim (fun h => h ▸ ⟨v5, tw_good v5⟩) (fun h => ⟨h, tw_good h⟩)) rfl rfl rfl hK.2.2.2.2 (hts _ v4) (by decide +kernel) ⟨Nat.le_of_ble_eq_true hfr, Nat.le_of_ble_eq_true hlo⟩, hts _ v3, trivial⟩
  refine va_calli (va_runSN (As := As) (rest := rest) ⟨X.1, X.2.1, X.2.2.1, X.2.2.2.1, hts⟩ (ct H.size) hcw ⟨preY_blind, fun U hU hW => ⟨rfl, by rw [hU], fun k q h => by simp at h, hK.warm hW, List.Pairwise.nil, fun _ _ => trivial⟩⟩ rfl hn hl.1 rfl (lv_room (Nat.le_of_ble_eq_true hcat)) hd ⟨hcel.1, hcel.2⟩) hS (A1 := SA (sg_ads []) H.size) (fun q _ h => ?_) (fun q h => ?_) (fun r1 u t H1 locs1 ht hvm hpost hB hz hk hS1 => ?_)
  · exact h.elim (fun h => by simp [sg_ads] at h) (fun h => X.2.2.2.2.2.2.2.2 q (Nat.le_trans hS.1 h))
  · exact h.elim (fun h => by simp [sg_ads] at h) (fun h => X.2.2.2.2.2.2.2.2 q (Nat.le_trans hS.1 h))
  · subst hpost
    refine kk H1 locs1 ls (va_P.kept hP (fun k q hq => hk q.1 (hP k q hq).lt ?_)) hD hS1 hl
    rintro (h | h)
    · simp [sg_ads] at h
    · exact absurd (hP k q hq).lt (by omega)
theorem g_mmin (X : Cx p s m args meth c cc own nL ret D cy A) {idx : Nat} {x y v : Int32} (h1 : Cond.methodLink own idx Lib.Math.min.name ∈ TW) (h2 : Cond.static Lib.Math.min.name ∈ TW) (h3 : Cond.initialized "java/lang/Math" ∈ TW) (h4 : Cond.code Lib.Math.min.name Lib.Math.min.code 2 (some .int) ∈ TW) (hd : decode cc pc = .ok (.invokestatic idx, 3)) (hfr : Nat.ble 1 R.frames = true) (hlo : Nat.ble ((st.map fun v => v.category).sum + 13) R.locals = true) (hcel : cells ≤ R.cells ∧ slots ≤ R.slots) (hv : (if y < x then y else x) = v) (kk : G p l e R s m args below meth c nL D A cells slots Q ss (pc + 3) lv (.int v :: st)) : G p l e R s m args below meth c nL D A cells slots Q ss (pc) lv (.int y :: .int x :: st) := by
  intro H locs ls hP hD hS hl
  subst hv
  exact va_mmin X.1 X.2.1 (X.2.2.1.trans hl.1.symm) X.2.2.2.1 (X.2.2.2.2.1 _ h1) (X.2.2.2.2.1 _ h2) (X.2.2.2.2.1 _ h3) (X.2.2.2.2.1 _ h4) (Nat.le_of_ble_eq_true hfr) (Nat.le_of_ble_eq_true hlo) hcel.1 hcel.2 hd (kk H locs ls hP hD hS hl)
theorem g_mmax (X : Cx p s m args meth c cc own nL ret D cy A) {idx : Nat} {x y v : Int32} (h1 : Cond.methodLink own idx Lib.Math.max.name ∈ TW) (h2 : Cond.static Lib.Math.max.name ∈ TW) (h3 : Cond.initialized "java/lang/Math" ∈ TW) (h4 : Cond.code Lib.Math.max.name Lib.Math.max.code 2 (some .int) ∈ TW) (hd : decode cc pc = .ok (.invokestatic idx, 3)) (hfr : Nat.ble 1 R.frames = true) (hlo : Nat.ble ((st.map fun v => v.category).sum + 13) R.locals = true) (hcel : cells ≤ R.cells ∧ slots ≤ R.slots) (hv : (if x < y then y else x) = v) (kk : G p l e R s m args below meth c nL D A cells slots Q ss (pc + 3) lv (.int v :: st)) : G p l e R s m args below meth c nL D A cells slots Q ss (pc) lv (.int y :: .int x :: st) := by
  intro H locs ls hP hD hS hl
  subst hv
  exact va_mmax X.1 X.2.1 (X.2.2.1.trans hl.1.symm) X.2.2.2.1 (X.2.2.2.2.1 _ h1) (X.2.2.2.2.1 _ h2) (X.2.2.2.2.1 _ h3) (X.2.2.2.2.1 _ h4) (Nat.le_of_ble_eq_true hfr) (Nat.le_of_ble_eq_true hlo) hcel.1 hcel.2 hd (kk H locs ls hP hD hS hl)
/-- the first n places of an array into another of n places -/
theorem g_copy (X : Cx p s m args meth c cc own nL ret D cy A) {idx : Nat} (h1 : Cond.methodLink own idx arraycopyName ∈ TW) (h2 : Cond.native arraycopyName ∈ TW) (h3 : Cond.static arraycopyName ∈ TW) (h4 : Cond.initialized "java/lang/System" ∈ TW) (hd : decode cc pc = .ok (.invokestatic idx, 3)) (i0 j0 i1 j1 n : Nat) {w0 w1 : va_W} {a0 a1 : Nat} {f g : Nat → Int32} {x : Int32} (hx : x = nI n) (hn : Nat.ble n 1000 = true) (hi0 : ss[i0]? = some w0) (hj0 : w0[j0]? = some (a0, .inl (cy, n, .inl f))) (hi1 : ss[i1]? = some w1) (hj1 : w1[j1]? = some (a1, .inl (cy, n, .inl g))) (hs : ss.set i1 (w1.set j1 (a1, .inl (cy, n, .inl f))) = ss') (hfr : Nat.ble 1 R.frames = true) (hlo : Nat.ble ((st.map fun v => v.category).sum + (nativeFrameWords "java/lang/System" "arraycopy" 5 + 11)) R.locals = true) (kk : G p l e R s m args below meth c nL D A cells slots Q ss' (pc + 3) lv (st)) : G p l e R s m args below meth c nL D A cells slots Q ss (pc) lv (.int x :: .int 0 :: .ref a1 :: .int 0 :: .ref a0 :: st) := by
  intro H locs ls hP hD hS hl
  subst hx
  have hn1 := Nat.le_of_ble_eq_true hn
  obtain ⟨q0, hq0, -⟩ := sg_at ss i0 j0 w0 _ hi0 hj0
  obtain ⟨q1, hq1, hset⟩ := sg_at ss i1 j1 w1 _ hi1 hj1
  have hcl : (nI n).toNatClampNeg = n := nI_clamp (by omega)
  have hc0 : (0 : Int32).toNatClampNeg = 0 := rfl
  refine va_copyi X.1 X.2.1 (X.2.2.1.trans hl.1.symm) X.2.2.2.1 (X.2.2.2.2.1 _ h1) (X.2.2.2.2.1 _ h2) (X.2.2.2.2.1 _ h3) (X.2.2.2.2.1 _ h4) X.2.2.2.2.2.2.2.1.1 hP (sg_va hD) hS q0 q1 0 0 hq0 hq1 rfl rfl rfl (by decide) (by decide) (nI_pos (by omega)) (by rw [hcl, hc0]; omega) (by rw [hcl, hc0]; omega) (fun i _ => rfl) (Nat.le_of_ble_eq_true hfr) (Nat.le_of_ble_eq_true hlo) hd (fun H1 locs1 hP1 hD1 hS1 => ?_)
  subst hs
  refine kk H1 locs1 ls ?_ (by rw [sg_ads_set hi1 hj1]; exact hD) hS1 hl
  unfold PS
  rw [hset]
  have hq1' : (ss.flatten.set q1 (a1, .inl (cy, n, .inl (va_cpy f g (0 : Int32).toNatClampNeg (0 : Int32).toNatClampNeg (nI n).toNatClampNeg))))[q1]? = some (a1, .inl (cy, n, .inl (va_cpy f g (0 : Int32).toNatClampNeg (0 : Int32).toNatClampNeg (nI n).toNatClampNeg))) := by
    rw [List.getElem?_set, if_pos rfl, if_pos (List.getElem?_eq_some_iff.mp hq1).1]
  have h5 := va_P.set (e := .inl (cy, n, .inl f)) hP1 hD1 hq1' (by
    show H1[a1]? = some (vp_cell cy (n, .inl f))
    have h0 : H1[a1]? = some (vp_cell cy (n, .inl (va_cpy f g (0 : Int32).toNatClampNeg (0 : Int32).toNatClampNeg (nI n).toNatClampNeg))) := hP1 q1 _ hq1'
    rw [h0]
    refine congrArg some (vp_cell_congr (fun k hk => ?_))
    rw [hcl, hc0, pk_cpy_in (Nat.zero_le k) (by omega)]
    simp) (fun _ _ => rfl)
  rwa [List.set_set] at h5
end GR
