/-! contracts that need the text of kinds, which lies in the old heap -/
def tsF (j : Nat) : Int32 := [116, 119, 115, 98, 110, 109].getD j 0
def ZZ (q t : Nat) (A : Nat → Prop) (U : State) (H : Heap) : Prop :=
  va_O "java/lang/String" q A U H ∧ va_OF "java/lang/String" "coder" "B" (.int 0) q A U H ∧ va_OF "java/lang/String" "value" "[B" (.ref t) q A U H ∧ va_T .byte t 6 (fun j => .int (tsF j)) A U H ∧ va_Z "java/lang/String" "COMPACT_STRINGS" "Z" (.int 1) A U H ∧ vk_R RX4 98 "twsbnm" q U
theorem ZZ.go {q t : Nat} {A A1 : Nat → Prop} {s U : State} {H : Heap} {locs : List Loc} (h : ZZ q t A s s.heap) (hS : va_S A s.heap H locs) (hU : U.heap = H) (hW : s.WarmedH U.vm) (hA : ∀ x, A1 x → A x) : ZZ q t A1 U U.heap := by
  obtain ⟨h1, h2, h3, h4, h5, h6⟩ := h
  rw [hU]
  exact ⟨((h1.kept hS.2.1).moved hW.alike).narrow hA, ((h2.kept hS.2.1).moved hW.alike).narrow hA, ((h3.kept hS.2.1).moved hW.alike).narrow hA, ((h4.kept hS.2.1).moved hW.alike).narrow hA, ((h5.kept hS.2.1).moved hW.alike).narrow hA, h6.warm hW⟩
theorem ZZ.same {q t : Nat} {A : Nat → Prop} {s U : State} {H : Heap} (h : ZZ q t A s H) (e : s.vm = U.vm) : ZZ q t A U H := by
  obtain ⟨h1, h2, h3, h4, h5, h6⟩ := h
  have hv : s.vm.Alike U.vm := by rw [e]; exact Vm.Alike.refl U.vm
  exact ⟨h1.moved hv, h2.moved hv, h3.moved hv, h4.moved hv, h5.moved hv, h6.same e.symm⟩
def preZ (D : va_G) (cy : ClassId) (q t : Nat) (av : List Value) (cs : Sg) (sz : Nat) : Array Value → State → Prop := va_Pc av (fun U => (U.heap.size = sz ∧ PS D cs U.heap ∧ KN D cy U ∧ DS (fun _ => True) (sg_ads cs)) ∧ ZZ q t (SA (sg_ads cs) sz) U U.heap)
theorem preZ_blind {D : va_G} {cy : ClassId} {q t : Nat} {av : List Value} {cs : Sg} {sz : Nat} : FrameBlind (preZ D cy q t av cs sz) := by
  intro a U g mk ⟨h1, ⟨h2, h3, h4, h5⟩, h6⟩
  exact ⟨h1, ⟨h2, h3, h4.same rfl, h5⟩, h6.same rfl⟩
def CtZ (l : Launch) (y : MethodName) (bytes : ByteArray) (maxL : Nat) (rt : FieldType) (fr lo : Nat) (D : va_G) (cy : ClassId) (q t : Nat) (av : List Value) (cs : Sg) {S : Type} (cs' : S → Sg) (r : Int32) : Prop :=
  ∀ sz : Nat, Met l y (wdY y bytes maxL (some rt)) { frames := fr, cells := 0, slots := 0, locals := lo } (preZ D cy q t av cs sz) (va_Qi (fun (x : Int32) (_ : S) => x = r) (fun u t => PS D (cs' u) t.heap) (SA (sg_ads cs) sz)) 0 0 (SA (sg_ads cs) sz)
theorem ctZ_of {l : Launch} {y : MethodName} {bytes : ByteArray} {maxL : Nat} {rt : FieldType} {fr lo : Nat} {D : va_G} {cy : ClassId} {q t : Nat} {av : List Value} {cs : Sg} {S : Type} {cs' : S → Sg} {r : Int32} (hy : plainName y.cls = true) (hn : (lg_sl av).length ≤ maxL)
    (body : ∀ (p : Program) (e : Env) (s : State) (m : MethodId) (args : Array Value) (below : List Frame) (meth : Method) (c : Code) (A : Nat → Prop), Cx p s m args meth c bytes y.cls maxL (some rt) D cy A → ZZ q t A s s.heap →
      G p l e { frames := fr, cells := 0, slots := 0, locals := lo } s m args below meth c maxL D A 0 0 (QIE below args s D A cs' r) cs 0 (lv_args 0 av) []) : CtZ l y bytes maxL rt fr lo D cy q t av cs cs' r := by
  intro sz
  refine Met.ofW (cc := bytes) (maxL := maxL) (ret := some rt) hy rfl ?_
  intro p e s m args below meth c s₁ B hml hv
  obtain ⟨rfl, ⟨hsz, hP, hK, hD0⟩, hZ⟩ := hv
  subst hsz
  have hts := atoms_spec (ws := wdY y bytes maxL (some rt)) B.pre
  have X : Cx p s m av.toArray meth c bytes y.cls maxL (some rt) D cy (SA (sg_ads cs) s.heap.size) :=
    ⟨B.exec, B.bytes, hml, findClass_of_methodNamed B.named, fun w hw => hts w (List.mem_cons_of_mem _ hw), B.returns, B.notSynchronized, hK, fun q h => Or.inr h⟩
  have hl := lv_entry av (n := maxL) hn
  rw [lg_entry_eq]
  exact body p e s m av.toArray below meth c _ X hZ s.heap [] _ hP (SA_ds hD0) va_S.rf hl
section GRZ
variable {p : Program} {l : Launch} {e : Env} {R : Room} {s : State} {m : MethodId} {args : Array Value} {below : List Frame} {meth : Method} {c : Code} {cc : ByteArray} {own : String} {nL : Nat} {ret : Option FieldType} {D : va_G} {cy : ClassId} {A : Nat → Prop} {cells slots : Nat} {Q : State → Prop} {ss : Sg} {pc : Nat} {lv : List (Nat × Value)} {st rest : List Value} {q t : Nat}
theorem g_callJV (X : Cx p s m args meth c cc own nL ret D cy A) (hZ : ZZ q t A s s.heap) {y : MethodName} {bytes : ByteArray} {maxL fr lo idx n : Nat} {rt : FieldType} {As : List Value} {r : Int32} (ct : CtZ l y bytes maxL rt fr lo D cy q t (.ref q :: As) [] (fun (_ : Unit) => []) r) (vl : VL own idx y bytes maxL (some rt) n) (hyc : y.cls = "java/lang/String") (hd : decode cc pc = .ok (.invokevirtual idx, 3)) (hst : st = As.reverse ++ .ref q :: rest) (hn : As.length = n) (hfr : Nat.ble (fr + 1) R.frames = true) (hlo : Nat.ble (8 + (maxL + 11) + lo) R.locals = true) (hcat : Nat.ble ((rest.map fun v => v.category).sum) 8 = true) (hcel : cells ≤ R.cells ∧ slots ≤ R.slots) (kk : G p l e R s m args below meth c nL D A cells slots Q ss (pc + 3) lv (.int r :: rest)) : G p l e R s m args below meth c nL D A cells slots Q ss pc lv st := by
  intro H locs ls hP hD hS hl
  subst hst
  obtain ⟨v1, v2, v3, v4, v5, v6, v7, v8⟩ := vl
  have hts := X.2.2.2.2.1
  have hK := X.2.2.2.2.2.2.2.1
  have hcw : CallW R s args own y.cls idx y bytes maxL (some rt) (wdY y bytes maxL (some rt)) { frames := fr, cells := 0, slots := 0, locals := lo } 0 0 n :=
    ⟨callB_of n hts (fun w hw => (List.mem_cons.mp hw).elim (fun h => h ▸ ⟨v5, tw_good v5⟩) (fun h => ⟨h, tw_good h⟩)) rfl rfl rfl (hts _ v4) (hts _ v1) ⟨v6, v7, v8⟩ ⟨Nat.le_of_ble_eq_true hfr, Nat.le_of_ble_eq_true hlo⟩, hts _ v2, hts _ v3⟩
  have hAs : ∀ x, SA (sg_ads []) H.size x → A x := fun x h => h.elim (fun h => by simp [sg_ads] at h) (fun h => X.2.2.2.2.2.2.2.2 x (Nat.le_trans hS.1 h))
  refine va_calli (va_runV (As := As) (rest := rest) ⟨X.1, X.2.1, X.2.2.1, X.2.2.2.1, hts⟩ (ct H.size) hcw ⟨preZ_blind, ?_, fun U hU hW => ⟨rfl, ⟨by rw [hU], fun k q h => by simp at h, hK.warm hW, List.Pairwise.nil, fun _ _ => trivial⟩, hZ.go hS hU hW hAs⟩⟩ rfl hn hl.1 rfl (lv_room (Nat.le_of_ble_eq_true hcat)) hd ⟨hcel.1, hcel.2⟩) hS (A1 := SA (sg_ads []) H.size) (fun q _ h => hAs q h) (fun q h => hAs q h) (fun r1 u t H1 locs1 ht hvm hpost hB hz hk hS1 => ?_)
  · obtain ⟨cell, z1, z2, z3, -⟩ := hZ.1.kept hS.2.1
    exact ⟨cell, z1, z2, by rw [hyc]; exact z3⟩
  · subst hpost
    refine kk H1 locs1 ls (va_P.kept hP (fun k q hq => hk q.1 (hP k q hq).lt ?_)) hD hS1 hl
    rintro (h | h)
    · simp [sg_ads] at h
    · exact absurd (hP k q hq).lt (by omega)
theorem g_callJS (X : Cx p s m args meth c cc own nL ret D cy A) (hZ : ZZ q t A s s.heap) {y : MethodName} {bytes : ByteArray} {maxL fr lo idx n : Nat} {rt : FieldType} {As : List Value} {r : Int32} (ct : CtZ l y bytes maxL rt fr lo D cy q t As [] (fun (_ : Unit) => []) r) (vl : SL own idx y bytes maxL (some rt) n) (hd : decode cc pc = .ok (.invokestatic idx, 3)) (hst : st = As.reverse ++ rest) (hn : As.length = n) (hfr : Nat.ble (fr + 1) R.frames = true) (hlo : Nat.ble (8 + (maxL + 11) + lo) R.locals = true) (hcat : Nat.ble ((rest.map fun v => v.category).sum) 8 = true) (hcel : cells ≤ R.cells ∧ slots ≤ R.slots) (kk : G p l e R s m args below meth c nL D A cells slots Q ss (pc + 3) lv (.int r :: rest)) : G p l e R s m args below meth c nL D A cells slots Q ss pc lv st := by
  intro H locs ls hP hD hS hl
  subst hst
  obtain ⟨v1, v3, v4, v5, v6, v7, v8⟩ := vl
  have hts := X.2.2.2.2.1
  have hK := X.2.2.2.2.2.2.2.1
  have hcw : CallB R s args own idx y bytes maxL (some rt) (wdY y bytes maxL (some rt)) { frames := fr, cells := 0, slots := 0, locals := lo } 0 0 n ∧ (Cond.static y).before args s = true :=
    ⟨callB_of n hts (fun w hw => (List.mem_cons.mp hw).elim (fun h => h ▸ ⟨v5, tw_good v5⟩) (fun h => ⟨h, tw_good h⟩)) rfl rfl rfl (hts _ v4) (hts _ v1) ⟨v6, v7, v8⟩ ⟨Nat.le_of_ble_eq_true hfr, Nat.le_of_ble_eq_true hlo⟩, hts _ v3⟩
  have hAs : ∀ x, SA (sg_ads []) H.size x → A x := fun x h => h.elim (fun h => by simp [sg_ads] at h) (fun h => X.2.2.2.2.2.2.2.2 x (Nat.le_trans hS.1 h))
  refine va_calli (va_runS (As := As) (rest := rest) ⟨X.1, X.2.1, X.2.2.1, X.2.2.2.1, hts⟩ (ct H.size) hcw ⟨preZ_blind, fun U hU hW => ⟨rfl, ⟨by rw [hU], fun k q h => by simp at h, hK.warm hW, List.Pairwise.nil, fun _ _ => trivial⟩, hZ.go hS hU hW hAs⟩⟩ rfl hn hl.1 rfl (lv_room (Nat.le_of_ble_eq_true hcat)) hd ⟨hcel.1, hcel.2⟩) hS (A1 := SA (sg_ads []) H.size) (fun q _ h => hAs q h) (fun q h => hAs q h) (fun r1 u t H1 locs1 ht hvm hpost hB hz hk hS1 => ?_)
  subst hpost
  refine kk H1 locs1 ls (va_P.kept hP (fun k q hq => hk q.1 (hP k q hq).lt ?_)) hD hS1 hl
  rintro (h | h)
  · simp [sg_ads] at h
  · exact absurd (hP k q hq).lt (by omega)
theorem g_callZE (X : Cx p s m args meth c cc own nL ret D cy A) (hZ : ZZ q t A s s.heap) {y : MethodName} {bytes : ByteArray} {maxL fr lo idx n : Nat} {rt : FieldType} {b : Nat} {As : List Value} {cs : Sg} {S : Type} {cs' : S → Sg} {ss' : S → Sg} {r : Int32} (ct : CtZ l y bytes maxL rt fr lo D cy q t (.ref b :: As) cs cs' r) (vl : VL own idx y bytes maxL (some rt) n) (hd : decode cc pc = .ok (.invokevirtual idx, 3)) (is : List Nat) (i0 j0 : Nat) {w : va_W} {ci : Nat} {fs : List Value} {cl : vw_C} (hi : ss[i0]? = some w) (hj : w[j0]? = some (b, .inr (ci, fs))) (hcl : vwCl[ci]? = some cl) (hcn : cl.1 = y.cls)
    (hC : is.map (fun i => ss[i]?) = cs.map some) (hnd : sg_nd is = true) (had : ∀ u, sg_ads (cs' u) = sg_ads cs) (hs : ∀ u, sg_put ss is (cs' u) = ss' u) (hst : st = As.reverse ++ .ref b :: rest) (hn : As.length = n) (hfr : Nat.ble (fr + 1) R.frames = true) (hlo : Nat.ble (8 + (maxL + 11) + lo) R.locals = true) (hcat : Nat.ble ((rest.map fun v => v.category).sum) 8 = true) (hcel : cells ≤ R.cells ∧ slots ≤ R.slots) (kk : ∀ u, G p l e R s m args below meth c nL D A cells slots Q (ss' u) (pc + 3) lv (.int r :: rest)) : G p l e R s m args below meth c nL D A cells slots Q ss pc lv st := by
  intro H locs ls hP hD hS hl
  subst hst
  obtain ⟨v1, v2, v3, v4, v5, v6, v7, v8⟩ := vl
  have hts := X.2.2.2.2.1
  have hK := X.2.2.2.2.2.2.2.1
  obtain ⟨q0, hq, -⟩ := sg_at ss i0 j0 w _ hi hj
  have hPc : PS D cs H := sg_sub hP is hC
  have hDc := sg_sub_ds hD is hnd hC
  have hcw : CallW R s args own y.cls idx y bytes maxL (some rt) (wdY y bytes maxL (some rt)) { frames := fr, cells := 0, slots := 0, locals := lo } 0 0 n :=
    ⟨callB_of n hts (fun w hw => (List.mem_cons.mp hw).elim (fun h => h ▸ ⟨v5, tw_good v5⟩) (fun h => ⟨h, tw_good h⟩)) rfl rfl rfl (hts _ v4) (hts _ v1) ⟨v6, v7, v8⟩ ⟨Nat.le_of_ble_eq_true hfr, Nat.le_of_ble_eq_true hlo⟩, hts _ v2, hts _ v3⟩
  have hAs : ∀ x, SA (sg_ads cs) H.size x → A x := fun x h => h.elim (sg_part hD is hC x) (fun h => X.2.2.2.2.2.2.2.2 x (Nat.le_trans hS.1 h))
  refine va_calli (va_runV (As := As) (rest := rest) ⟨X.1, X.2.1, X.2.2.1, X.2.2.2.1, hts⟩ (ct H.size) hcw ⟨preZ_blind, ?_, fun U hU hW => ⟨rfl, ⟨by rw [hU], by rw [hU]; exact hPc, hK.warm hW, hDc⟩, hZ.go hS hU hW hAs⟩⟩ rfl hn hl.1 rfl (lv_room (Nat.le_of_ble_eq_true hcat)) hd ⟨hcel.1, hcel.2⟩) hS (A1 := SA (sg_ads cs) H.size) (fun q _ h => hAs q h) (fun q h => hAs q h) (fun r1 u t H1 locs1 ht hvm hpost hB hz hk hS1 => ?_)
  · have := va_recv hK.1 hP hcl hq
    rw [hcn] at this
    exact this
  · subst hpost
    rw [ht] at hB
    have hlen : (cs' u).length = cs.length := by
      have := congrArg List.length (had u)
      simpa [sg_ads] using this
    refine kk u H1 locs1 ls ?_ ?_ hS1 hl
    · rw [← hs u]; exact sg_join hP hD is hC hlen hk hB
    · rw [← hs u, sg_put_ads is ss cs (cs' u) hC (had u)]; exact hD
theorem g_zstat (X : Cx p s m args meth c cc own nL ret D cy A) (hZ : ZZ q t A s s.heap) {idx : Nat} (hk : Cond.fieldLink own idx "java/lang/String" "COMPACT_STRINGS" "Z" ∈ TW) (hd : decode cc pc = .ok (.getstatic idx, 3)) (kk : G p l e R s m args below meth c nL D A cells slots Q ss (pc + 3) lv (.int 1 :: st)) : G p l e R s m args below meth c nL D A cells slots Q ss pc lv st :=
  fun H locs ls hP hD hS hl => va_gets X.1 X.2.1 hZ.2.2.2.2.1 hS X.2.2.2.1 (X.2.2.2.2.1 _ hk) (fun _ h => h) hd (kk H locs ls hP hD hS hl)
theorem g_zcoder (X : Cx p s m args meth c cc own nL ret D cy A) (hZ : ZZ q t A s s.heap) {idx : Nat} (hk : Cond.fieldLink own idx "java/lang/String" "coder" "B" ∈ TW) (hd : decode cc pc = .ok (.getfield idx, 3)) (kk : G p l e R s m args below meth c nL D A cells slots Q ss (pc + 3) lv (.int 0 :: st)) : G p l e R s m args below meth c nL D A cells slots Q ss pc lv (.ref q :: st) :=
  fun H locs ls hP hD hS hl => vk_getf X.1 X.2.1 hZ.2.1 hS X.2.2.2.1 (X.2.2.2.2.1 _ hk) (fun _ h => h) hd (kk H locs ls hP hD hS hl)
theorem g_zvalue (X : Cx p s m args meth c cc own nL ret D cy A) (hZ : ZZ q t A s s.heap) {idx : Nat} (hk : Cond.fieldLink own idx "java/lang/String" "value" "[B" ∈ TW) (hd : decode cc pc = .ok (.getfield idx, 3)) (kk : G p l e R s m args below meth c nL D A cells slots Q ss (pc + 3) lv (.ref t :: st)) : G p l e R s m args below meth c nL D A cells slots Q ss pc lv (.ref q :: st) :=
  fun H locs ls hP hD hS hl => vk_getf X.1 X.2.1 hZ.2.2.1 hS X.2.2.2.1 (X.2.2.2.2.1 _ hk) (fun _ h => h) hd (kk H locs ls hP hD hS hl)
theorem g_zlen (X : Cx p s m args meth c cc own nL ret D cy A) (hZ : ZZ q t A s s.heap) (hd : decode cc pc = .ok (.arraylength, 1)) (kk : G p l e R s m args below meth c nL D A cells slots Q ss (pc + 1) lv (.int 6 :: st)) : G p l e R s m args below meth c nL D A cells slots Q ss pc lv (.ref t :: st) :=
  fun H locs ls hP hD hS hl => va_tlen X.1 X.2.1 hZ.2.2.2.1 hS (v := 6) rfl hd (kk H locs ls hP hD hS hl)
theorem g_zbald (X : Cx p s m args meth c cc own nL ret D cy A) (hZ : ZZ q t A s s.heap) {i : Nat} (hi : i < 6) (hd : decode cc pc = .ok (.baload, 1)) (kk : G p l e R s m args below meth c nL D A cells slots Q ss (pc + 1) lv (.int (tsF i) :: st)) : G p l e R s m args below meth c nL D A cells slots Q ss pc lv (.int (nI i) :: .ref t :: st) :=
  fun H locs ls hP hD hS hl => va_tb X.1 X.2.1 hZ.2.2.2.1 hS (i := nI i) (v := .int (tsF i)) (vp_in_nI hi (by decide)) (congrArg (fun j => Value.int (tsF j)) (ixn (by omega))) hd (kk H locs ls hP hD hS hl)
theorem g_i2b (X : Cx p s m args meth c cc own nL ret D cy A) {x v : Int32} (hd : decode cc pc = .ok (.i2b, 1)) (hv : x.toInt8.toInt32 = v) (kk : G p l e R s m args below meth c nL D A cells slots Q ss (pc + 1) lv (.int v :: st)) : G p l e R s m args below meth c nL D A cells slots Q ss pc lv (.int x :: st) :=
  fun H locs ls hP hD hS hl => lv_i2b X.1 X.2.1 hd hv (kk H locs ls hP hD hS hl)
theorem g_zldc (X : Cx p s m args meth c cc own nL ret D cy A) (hZ : ZZ q t A s s.heap) (ho : own = RX4) (hd : decode cc pc = .ok (.ldc 98, 2)) (kk : G p l e R s m args below meth c nL D A cells slots Q ss (pc + 2) lv (.ref q :: st)) : G p l e R s m args below meth c nL D A cells slots Q ss pc lv st :=
  fun H locs ls hP hD hS hl => va_ldcS X.1 X.2.1 (own := own) X.2.2.2.1 (by rw [ho]; exact hZ.2.2.2.2.2) hd (kk H locs ls hP hD hS hl)
end GRZ
set_option maxRecDepth 100000 in
theorem fz_38 : Cond.fieldLink RJ0 38 "java/lang/String" "COMPACT_STRINGS" "Z" ∈ TW := tw_in (w := Cond.fieldLink RJ0 38 "java/lang/String" "COMPACT_STRINGS" "Z") (List.mem_of_getElem? (i := 602) rfl) rfl
set_option maxRecDepth 100000 in
theorem fz_15 : Cond.fieldLink RJ0 15 "java/lang/String" "coder" "B" ∈ TW := tw_in (w := Cond.fieldLink RJ0 15 "java/lang/String" "coder" "B") (List.mem_of_getElem? (i := 853) rfl) rfl
set_option maxRecDepth 100000 in
theorem fz_9 : Cond.fieldLink RJ0 9 "java/lang/String" "value" "[B" ∈ TW := tw_in (w := Cond.fieldLink RJ0 9 "java/lang/String" "value" "[B") (List.mem_of_getElem? (i := 854) rfl) rfl
