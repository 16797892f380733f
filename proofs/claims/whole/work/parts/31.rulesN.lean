/-! constructors: new cells come -/
def aC (h0 : Nat) (ad : Nat → Nat) : Nat → Nat := fun j => match j with
  | 0 => h0
  | j + 1 => ad j
def CtN (l : Launch) (y : MethodName) (bytes : ByteArray) (fr lo mc ms : Nat) (D : va_G) (cy : ClassId) (ci : Nat) (fs0 : List Value) {S : Type} (Wd : Nat → S → Sg) : Prop :=
  ∀ sz h0 : Nat, Met l y (wdY y bytes 1 none) { frames := fr, cells := mc, slots := ms, locals := lo } (preY D cy [.ref h0] [[(h0, .inr (ci, fs0))]] sz) (va_Qv (fun (_ : S) => True) (fun u t => PS D (Wd h0 u) t.heap ∧ DS (SA [[h0]] sz) (sg_ads (Wd h0 u))) (SA [[h0]] sz)) mc ms (SA [[h0]] sz)
def QN (below : List Frame) (args : Array Value) (s : State) (D : va_G) (A : Nat → Prop) (mc ms : Nat) {S : Type} (Wd : Nat → S → Sg) (h0 : Nat) : State → Prop := MQ below (va_Qv (fun (_ : S) => True) (fun u t => PS D (Wd h0 u) t.heap ∧ DS A (sg_ads (Wd h0 u))) A) args s mc ms A
theorem ctN_of {l : Launch} {y : MethodName} {bytes : ByteArray} {fr lo mc ms : Nat} {D : va_G} {cy : ClassId} {ci : Nat} {fs0 : List Value} {S : Type} {Wd : Nat → S → Sg} (hy : plainName y.cls = true) (hnm : y.name = "<init>")
    (body : ∀ (p : Program) (e : Env) (s : State) (m : MethodId) (args : Array Value) (below : List Frame) (meth : Method) (c : Code) (A : Nat → Prop) (h0 : Nat), Cx p s m args meth c bytes y.cls 1 none D cy A → meth.name = "<init>" →
      G p l e { frames := fr, cells := mc, slots := ms, locals := lo } s m args below meth c 1 D A 0 0 (QN below args s D A mc ms Wd h0) [[(h0, .inr (ci, fs0))]] 0 [(0, .ref h0)] []) : CtN l y bytes fr lo mc ms D cy ci fs0 Wd := by
  intro sz h0
  refine Met.ofW (cc := bytes) (maxL := 1) (ret := none) hy rfl ?_
  intro p e s m args below meth c s₁ B hml hv
  obtain ⟨rfl, hsz, hP, hK, hD0⟩ := hv
  subst hsz
  have hts := atoms_spec (ws := wdY y bytes 1 none) B.pre
  have X : Cx p s m ([.ref h0] : List Value).toArray meth c bytes y.cls 1 none D cy (SA (sg_ads [[(h0, .inr (ci, fs0))]]) s.heap.size) :=
    ⟨B.exec, B.bytes, hml, findClass_of_methodNamed B.named, fun w hw => hts w (List.mem_cons_of_mem _ hw), B.returns, B.notSynchronized, hK, fun q h => Or.inr h⟩
  have hin : meth.name = "<init>" := (name_of_methodNamed B.named B.method).1.trans hnm
  have hl := lv_entry ([.ref h0] : List Value) (n := 1) (Nat.le_of_ble_eq_true rfl)
  rw [lg_entry_eq]
  exact body p e s m _ below meth c _ h0 X hin s.heap [] _ hP (SA_ds hD0) va_S.rf hl
theorem flat1 (ss : Sg) (x : Nat × va_E) : (ss ++ [[x]]).flatten = ss.flatten ++ [x] := by rw [List.flatten_append]; rfl
theorem ds_of {A : Nat → Prop} {ss : Sg} (h : va_D A ss.flatten) : DS A (sg_ads ss) := by
  unfold DS
  rw [sg_ads_flat]
  refine ⟨List.pairwise_iff_getElem.mpr (fun i j hi hj hij e => ?_), fun a ha => ?_⟩
  · rw [List.getElem_map, List.getElem_map] at e
    have hi' : i < ss.flatten.length := by rw [List.length_map] at hi; exact hi
    have hj' : j < ss.flatten.length := by rw [List.length_map] at hj; exact hj
    have := h.1 i j _ _ (List.getElem?_eq_getElem hi') (List.getElem?_eq_getElem hj') e
    omega
  · obtain ⟨q, hq, rfl⟩ := List.mem_map.mp ha
    obtain ⟨k, hk, e⟩ := List.getElem_of_mem hq
    exact h.2 k q (by rw [List.getElem?_eq_getElem hk, e])
set_option maxRecDepth 100000 in
theorem m_arr_i : Cond.arrayClass .int ∈ TW := tw_in (w := Cond.arrayClass .int) (List.mem_of_getElem? (i := 110) rfl) rfl
/-- a final field's link -/
def FF (own : String) (idx ci k : Nat) (ty : FieldType) : Prop := ∃ (C : String) (T : u_T) (N : Nat) (ty0 : Nat → FieldType), vwCl[ci]? = some (C, T, N) ∧ (∀ w ∈ u_ws C T N, w ∈ TW) ∧ k < N ∧ (T k).1 = own ∧ Cond.fieldLink own idx own (T k).2.1 (T k).2.2.1 ∈ TW ∧ (∀ j, j < N → parseFieldDescriptor (T j).2.2.1 = some (ty0 j)) ∧ (∀ a, a < N → ∀ b, b < N → a ≠ b → (T a).2.1 ≠ (T b).2.1) ∧ (T k).2.2.2 = true ∧ parseFieldDescriptor (T k).2.2.1 = some ty
section GRN
variable {p : Program} {l : Launch} {e : Env} {R : Room} {s : State} {m : MethodId} {args : Array Value} {below : List Frame} {meth : Method} {c : Code} {cc : ByteArray} {own : String} {nL : Nat} {ret : Option FieldType} {D : va_G} {cy : ClassId} {A : Nat → Prop} {cells slots : Nat} {Q : State → Prop} {ss ss' ss0 : Sg} {pc : Nat} {lv : List (Nat × Value)} {st rest : List Value}
theorem g_objI (X : Cx p s m args meth c cc own nL ret D cy A) {idx a : Nat} (h1 : Cond.methodLink own idx objectInit ∈ TW) (hd : decode cc pc = .ok (.invokespecial idx, 3)) (hfr : Nat.ble 1 R.frames = true) (hlo : Nat.ble 12 R.locals = true) (kk : G p l e R s m args below meth c nL D A cells slots Q ss (pc + 3) lv []) : G p l e R s m args below meth c nL D A cells slots Q ss pc lv [.ref a] := by
  intro H locs ls hP hD hS hl
  refine W.objInit X.1 X.2.1 X.2.2.2.1 (X.2.2.2.2.1 _ h1) (X.2.2.2.2.1 _ m_obj_i) (X.2.2.2.2.1 _ m_obj_c) rfl (hl.1.trans X.2.2.1.symm) rfl hd (Nat.le_of_ble_eq_true hfr) (Nat.le_of_ble_eq_true hlo) ?_
  exact kk H locs ls hP hD hS hl
theorem g_newarr (X : Cx p s m args meth c cc own nL ret D cy A) (hd : decode cc pc = .ok (.newarray .int, 2)) {v : Int32} (n : Nat) (hv : v = nI n) (hn : Nat.ble n 1000 = true) (hc : Nat.ble (cells + 1) R.cells = true) (hs : Nat.ble (slots + n) R.slots = true) (kk : ∀ q, G p l e R s m args below meth c nL D A (cells + 1) (slots + n) Q (ss ++ [[(q, .inl (cy, n, .inl zF))]]) (pc + 2) lv (.ref q :: st)) : G p l e R s m args below meth c nL D A cells slots Q ss pc lv (.int v :: st) := by
  intro H locs ls hP hD hS hl
  subst hv
  have hn := Nat.le_of_ble_eq_true hn
  have hK := X.2.2.2.2.2.2.2.1
  refine va_newa (atype := .int) (ty := .int) X.1 X.2.1 (X.2.2.2.2.1 _ m_arr_i) rfl hK.1 hP (sg_va hD) hS X.2.2.2.2.2.2.2.2 (a0 := (n, .inl zF)) (N' := n) (fun cA => rfl) (nI_pos (by omega)) (nI_clamp (by omega)) (by show n * 4 ≤ 536870912; omega) (Nat.le_of_ble_eq_true hc) (Nat.le_of_ble_eq_true hs) hd (fun q cA H1 hK1 hP1 hD1 hS1 => ?_)
  have e : cA = cy := by
    have h1 := (hK1.2 1 (cA, .int) rfl).2
    have h2 := (hK.1.2 0 (cy, .int) rfl).2
    exact Option.some.inj (h1.symm.trans h2)
  subst e
  refine kk q H1 locs ls ?_ (ds_of ?_) hS1 hl
  · unfold PS
    rw [flat1]
    exact hP1
  · rw [flat1]
    exact hD1
theorem g_new (X : Cx p s m args meth c cc own nL ret D cy A) {idx ci N : Nat} {C : String} {T : u_T} (hcl : vwCl[ci]? = some (C, T, N)) (hin : ∀ w ∈ u_ws C T N, w ∈ TW) (ty : Nat → FieldType) (hty : ∀ k, k < N → parseFieldDescriptor (T k).2.2.1 = some (ty k)) (h1 : Cond.classLink own idx C ∈ TW) (h2 : Cond.instantiable C N ∈ TW) (h3 : Cond.initialized C ∈ TW) (fs : List Value) (hfs : ∀ j, j < N → defaultValue (ty j) = vp_V fs j) (hd : decode cc pc = .ok (.new idx, 3)) (hc : Nat.ble (cells + 1) R.cells = true) (hs : Nat.ble (slots + N) R.slots = true) (kk : ∀ q, G p l e R s m args below meth c nL D A (cells + 1) (slots + N) Q (ss ++ [[(q, .inr (ci, fs))]]) (pc + 3) lv (.ref q :: st)) : G p l e R s m args below meth c nL D A cells slots Q ss pc lv st := by
  intro H locs ls hP hD hS hl
  have hts := X.2.2.2.2.1
  have hK := X.2.2.2.2.2.2.2.1
  refine va_new (ci := ci) (fs := fs) X.1 X.2.1 hts hin ty hty X.2.2.2.1 (hts _ h1) (hts _ h2) (hts _ h3) hK.1 hP (sg_va hD) hS X.2.2.2.2.2.2.2.2 hcl hfs (Nat.le_of_ble_eq_true hc) (Nat.le_of_ble_eq_true hs) hd (fun q H1 hP1 hD1 hS1 => ?_)
  refine kk q H1 locs ls ?_ (ds_of ?_) hS1 hl
  · unfold PS
    rw [flat1]
    exact hP1
  · rw [flat1]
    exact hD1
theorem g_putF (X : Cx p s m args meth c cc own nL ret D cy A) (hin9 : meth.name = "<init>") {idx ci k : Nat} {ty : FieldType} (f : FF own idx ci k ty) (hd : decode cc pc = .ok (.putfield idx, 3)) (i j : Nat) {w : va_W} {a : Nat} {fs : List Value} {v : Value} (hi : ss[i]? = some w) (hj : w[j]? = some (a, .inr (ci, fs))) (hn : narrow ty v = v) (hfit : fits ty v = true) (hk : Nat.blt k fs.length = true) (hs : ss.set i (w.set j (a, .inr (ci, fs.set k v))) = ss') (kk : G p l e R s m args below meth c nL D A cells slots Q ss' (pc + 3) lv st) : G p l e R s m args below meth c nL D A cells slots Q ss pc lv (v :: .ref a :: st) := by
  intro H locs ls hP hD hS hl
  obtain ⟨C, T, N, ty0, h1, h2, h3, h4, h5, h6, h7, h8, h9⟩ := f
  obtain ⟨q0, hq, hset⟩ := sg_at ss i j w _ hi hj
  refine va_putF X.1 X.2.1 X.2.2.2.2.1 h2 ty0 h6 h7 X.2.2.2.1 X.2.2.2.2.2.2.2.1.1 hP (sg_va hD) hS q0 hq h1 k h3 (X.2.2.2.2.1 _ h5) (fun x hx => by rw [h4] at hx; exact hx) h8 hin9 h4 h9 hn hfit (Nat.le_of_ble_eq_true hk) hd (fun H1 locs1 hP1 _ hS1 => ?_)
  subst hs
  refine kk H1 locs1 ls ?_ (by rw [sg_ads_set hi hj]; exact hD) hS1 hl
  unfold PS
  rw [hset]; exact hP1
theorem g_vretN (X : Cx p s m args meth c cc own nL ret D cy A) {S : Type} {Wd : Nat → S → Sg} {h0 : Nat} (u : S) (hret : ret = none) (hd : decode cc pc = .ok (.return_, 1)) (is : List Nat) (hnd : va_nd is = true) (hs : is.map (fun i => ss.flatten[i]?) = ((Wd h0 u).flatten).map some) : G p l e R s m args below meth c nL D A cells slots (QN below args s D A cells slots Wd h0) ss pc lv [] := by
  intro H locs ls hP hD hS hl
  have hfm : is.filterMap (fun i => ss.flatten[i]?) = (Wd h0 u).flatten := by
    have e : is.filterMap (fun i => ss.flatten[i]?) = (is.map (fun i => ss.flatten[i]?)).filterMap id := by rw [List.filterMap_map]; rfl
    rw [e, hs, List.filterMap_map]
    exact List.filterMap_some
  have hP2 : PS D (Wd h0 u) H := va_P.sub hP is hfm
  have hD2 : DS A (sg_ads (Wd h0 u)) := ds_of ((sg_va hD).sub is hnd hs)
  exact W.vret X.1 X.2.1 (X.2.2.2.2.2.1.trans hret) (fun t ht hW => ⟨⟨u, rfl, trivial, by rw [ht]; exact hP2, hD2⟩, hS.F ht⟩) hS.2.2 hd X.2.2.2.2.2.2.1
/-- behind a constructor's call: what it made stands behind the rest -/
theorem sg_joinN {q : Nat} {ei : va_E} {Wn : Sg} {H H1 : Heap} (hP : PS D (ss0 ++ [[(q, ei)]]) H) (hD : DS A (sg_ads (ss0 ++ [[(q, ei)]]))) (hA1 : ∀ x, SA [[q]] H.size x → A x) (hk : ∀ x : Nat, x < H.size → ¬ SA [[q]] H.size x → H1[x]? = H[x]?) (hP1 : PS D Wn H1) (hD1 : DS (SA [[q]] H.size) (sg_ads Wn)) : PS D (ss0 ++ Wn) H1 ∧ DS A (sg_ads (ss0 ++ Wn)) := by
  have hP0 : PS D ss0 H := fun k x hx => hP k x (by
    rw [List.flatten_append, List.getElem?_append_left (List.getElem?_eq_some_iff.mp hx).1]
    exact hx)
  have ea : ∀ w : Sg, (sg_ads (ss0 ++ w)).flatten = (sg_ads ss0).flatten ++ (sg_ads w).flatten := fun w => by
    unfold sg_ads
    rw [List.map_append, List.flatten_append]
  have hpw := hD.1
  rw [ea] at hpw
  obtain ⟨p1, -, p3⟩ := List.pairwise_append.mp hpw
  have hne : ∀ a, a ∈ (sg_ads ss0).flatten → a ≠ q := fun a ha => p3 a ha q (by simp [sg_ads])
  have hlt : ∀ a, a ∈ (sg_ads ss0).flatten → a < H.size := by
    intro a ha
    rw [sg_ads_flat] at ha
    obtain ⟨x, hx, rfl⟩ := List.mem_map.mp ha
    obtain ⟨k, hk9, e⟩ := List.getElem_of_mem hx
    exact (hP0 k x (by rw [List.getElem?_eq_getElem hk9, e])).lt
  have hno : ∀ a, a ∈ (sg_ads ss0).flatten → ¬ SA [[q]] H.size a := by
    intro a ha h
    rcases h with h | h
    · have : a = q := by simpa using h
      exact hne a ha this
    · have := hlt a ha
      omega
  have hmem : ∀ (k : Nat) (x : Nat × va_E), ss0.flatten[k]? = some x → x.1 ∈ (sg_ads ss0).flatten := by
    intro k x hx
    rw [sg_ads_flat]
    exact List.mem_map.mpr ⟨x, List.mem_of_getElem? hx, rfl⟩
  refine ⟨?_, ?_⟩
  · unfold PS
    rw [List.flatten_append]
    exact va_P.app (va_P.kept hP0 (fun k x hx => hk x.1 (hlt _ (hmem k x hx)) (hno _ (hmem k x hx)))) hP1
  · unfold DS
    rw [ea]
    refine ⟨List.pairwise_append.mpr ⟨p1, hD1.1, fun a ha b hb e => hno a ha (by rw [e]; exact hD1.2 b hb)⟩, fun a ha => ?_⟩
    rcases List.mem_append.mp ha with h | h
    · exact hD.2 a (by rw [ea]; exact List.mem_append_left _ h)
    · exact hA1 a (hD1.2 a h)
theorem g_callN (X : Cx p s m args meth c cc own nL ret D cy A) {y : MethodName} {bytes : ByteArray} {fr lo mc ms idx q ci : Nat} {fs0 : List Value} {S : Type} {Wd : Nat → S → Sg} (ct : CtN l y bytes fr lo mc ms D cy ci fs0 Wd) (hlk : Cond.methodLink own idx y ∈ TW) (hini : Cond.initialized y.cls ∈ TW) (hins : Cond.instanceMethod y ∈ TW) (hcode : Cond.code y bytes 1 none ∈ TW) (hnm : y.name = "<init>") (hyd : y.cls ≠ "java/lang/invoke/MethodHandle" ∧ y.cls ≠ "java/lang/invoke/VarHandle" ∧ (parseMethodDescriptor y.desc).map (fun d => d.parameters.length) = some 0) (hd : decode cc pc = .ok (.invokespecial idx, 3)) (ss0 : Sg) (hss : ss = ss0 ++ [[(q, .inr (ci, fs0))]]) (hfr : Nat.ble (fr + 1) R.frames = true) (hlo : Nat.ble (8 + (1 + 11) + lo) R.locals = true) (hcat : Nat.ble ((rest.map fun v => v.category).sum) 8 = true) (hc : Nat.ble (cells + mc) R.cells = true) (hs : Nat.ble (slots + ms) R.slots = true) (kk : ∀ u, G p l e R s m args below meth c nL D A (cells + mc) (slots + ms) Q (ss0 ++ Wd q u) (pc + 3) lv rest) : G p l e R s m args below meth c nL D A cells slots Q ss pc lv (.ref q :: rest) := by
  intro H locs ls hP hD hS hl
  subst hss
  have hts := X.2.2.2.2.1
  have hK := X.2.2.2.2.2.2.2.1
  have hPc : PS D [[(q, .inr (ci, fs0))]] H := fun k x hx => by
    have hk0 : k < 1 := (List.getElem?_eq_some_iff.mp hx).1
    refine hP (ss0.flatten.length + k) x ?_
    rw [List.flatten_append, List.getElem?_append_right (by omega), show ss0.flatten.length + k - ss0.flatten.length = k by omega]
    exact hx
  have hDc : DS (fun _ => True) (sg_ads [[(q, .inr (ci, fs0))]]) := ⟨List.pairwise_singleton _ _, fun _ _ => trivial⟩
  have hAs : ∀ x, SA [[q]] H.size x → A x := fun x h => h.elim (fun h => by
    have e : x = q := by simpa using h
    rw [e]
    exact hD.2 q (by simp [sg_ads])) (fun h => X.2.2.2.2.2.2.2.2 x (Nat.le_trans hS.1 h))
  have hcw : CallB R s args own idx y bytes 1 none (wdY y bytes 1 none) { frames := fr, cells := mc, slots := ms, locals := lo } mc ms 0 ∧ y.name = "<init>" ∧ (Cond.instanceMethod y).before args s = true :=
    ⟨callB_of 0 hts (fun w hw => (List.mem_cons.mp hw).elim (fun h => h ▸ ⟨hcode, tw_good hcode⟩) (fun h => ⟨h, tw_good h⟩)) rfl rfl rfl (hts _ hini) (hts _ hlk) hyd ⟨Nat.le_of_ble_eq_true hfr, Nat.le_of_ble_eq_true hlo⟩, hnm, hts _ hins⟩
  refine va_callv (va_runI (As := []) (rest := rest) ⟨X.1, X.2.1, X.2.2.1, X.2.2.2.1, hts⟩ (ct H.size q) hcw ⟨preY_blind, fun U hU hW => ⟨rfl, by rw [hU], by rw [hU]; exact hPc, hK.warm hW, hDc⟩⟩ rfl rfl hl.1 rfl (lv_room (Nat.le_of_ble_eq_true hcat)) hd ⟨Nat.le_of_ble_eq_true hc, Nat.le_of_ble_eq_true hs⟩) hS (A1 := SA [[q]] H.size) (fun x _ h => hAs x h) (fun x h => hAs x h) (fun u t H1 locs1 ht hvm hpost hB hz hk hS1 => ?_)
  rw [ht] at hB
  obtain ⟨z1, z2⟩ := sg_joinN hP hD hAs hk hB.1 hB.2
  exact kk u H1 locs1 ls z1 z2 hS1 hl
theorem g_callNN (X : Cx p s m args meth c cc own nL ret D cy A) {y : MethodName} {bytes : ByteArray} {fr lo mc ms idx q ci : Nat} {fs0 : List Value} {S : Type} {Wd : Nat → S → Sg} (ct : CtN l y bytes fr lo mc ms D cy ci fs0 Wd) (hlk : va_Nw (.methodLinkNest own idx y RX3) s) (hini : Cond.initialized y.cls ∈ TW) (hins : Cond.instanceMethod y ∈ TW) (hcode : Cond.code y bytes 1 none ∈ TW) (hnm : y.name = "<init>") (hyd : y.cls ≠ "java/lang/invoke/MethodHandle" ∧ y.cls ≠ "java/lang/invoke/VarHandle" ∧ (parseMethodDescriptor y.desc).map (fun d => d.parameters.length) = some 0) (hd : decode cc pc = .ok (.invokespecial idx, 3)) (ss0 : Sg) (hss : ss = ss0 ++ [[(q, .inr (ci, fs0))]]) (hfr : Nat.ble (fr + 1) R.frames = true) (hlo : Nat.ble (8 + (1 + 11) + lo) R.locals = true) (hcat : Nat.ble ((rest.map fun v => v.category).sum) 8 = true) (hc : Nat.ble (cells + mc) R.cells = true) (hs : Nat.ble (slots + ms) R.slots = true) (kk : ∀ u, G p l e R s m args below meth c nL D A (cells + mc) (slots + ms) Q (ss0 ++ Wd q u) (pc + 3) lv rest) : G p l e R s m args below meth c nL D A cells slots Q ss pc lv (.ref q :: rest) := by
  intro H locs ls hP hD hS hl
  subst hss
  have hts := X.2.2.2.2.1
  have hK := X.2.2.2.2.2.2.2.1
  have hPc : PS D [[(q, .inr (ci, fs0))]] H := fun k x hx => by
    have hk0 : k < 1 := (List.getElem?_eq_some_iff.mp hx).1
    refine hP (ss0.flatten.length + k) x ?_
    rw [List.flatten_append, List.getElem?_append_right (by omega), show ss0.flatten.length + k - ss0.flatten.length = k by omega]
    exact hx
  have hDc : DS (fun _ => True) (sg_ads [[(q, .inr (ci, fs0))]]) := ⟨List.pairwise_singleton _ _, fun _ _ => trivial⟩
  have hAs : ∀ x, SA [[q]] H.size x → A x := fun x h => h.elim (fun h => by
    have e : x = q := by simpa using h
    rw [e]
    exact hD.2 q (by simp [sg_ads])) (fun h => X.2.2.2.2.2.2.2.2 x (Nat.le_trans hS.1 h))
  have hcw : va_CN R s args own idx y RX3 bytes 1 none (wdY y bytes 1 none) { frames := fr, cells := mc, slots := ms, locals := lo } mc ms 0 ∧ y.name = "<init>" ∧ (Cond.instanceMethod y).before args s = true :=
    ⟨va_cnB 0 hts (fun w hw => (List.mem_cons.mp hw).elim (fun h => h ▸ ⟨hcode, tw_good hcode⟩) (fun h => ⟨h, tw_good h⟩)) rfl rfl rfl hlk (hts _ hini) hyd ⟨Nat.le_of_ble_eq_true hfr, Nat.le_of_ble_eq_true hlo⟩, hnm, hts _ hins⟩
  refine va_callv (va_runIN (As := []) (rest := rest) ⟨X.1, X.2.1, X.2.2.1, X.2.2.2.1, hts⟩ (ct H.size q) hcw ⟨preY_blind, fun U hU hW => ⟨rfl, by rw [hU], by rw [hU]; exact hPc, hK.warm hW, hDc⟩⟩ rfl rfl hl.1 rfl (lv_room (Nat.le_of_ble_eq_true hcat)) hd ⟨Nat.le_of_ble_eq_true hc, Nat.le_of_ble_eq_true hs⟩) hS (A1 := SA [[q]] H.size) (fun x _ h => hAs x h) (fun x h => hAs x h) (fun u t H1 locs1 ht hvm hpost hB hz hk hS1 => ?_)
  rw [ht] at hB
  obtain ⟨z1, z2⟩ := sg_joinN hP hD hAs hk hB.1 hB.2
  exact kk u H1 locs1 ls z1 z2 hS1 hl
end GRN
