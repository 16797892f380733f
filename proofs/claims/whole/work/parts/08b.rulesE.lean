/-! contracts that leave some of the world open (what is only worked with): cs' is a family -/
def CtIE (l : Launch) (y : MethodName) (bytes : ByteArray) (maxL : Nat) (rt : FieldType) (fr lo : Nat) (D : va_G) (cy : ClassId) (av : List Value) (cs : Sg) {S : Type} (cs' : S → Sg) (r : Int32) : Prop :=
  ∀ sz : Nat, Met l y (wdY y bytes maxL (some rt)) { frames := fr, cells := 0, slots := 0, locals := lo } (preY D cy av cs sz) (va_Qi (fun (x : Int32) (_ : S) => x = r) (fun u t => PS D (cs' u) t.heap) (SA (sg_ads cs) sz)) 0 0 (SA (sg_ads cs) sz)
def QIE (below : List Frame) (args : Array Value) (s : State) (D : va_G) (A : Nat → Prop) {S : Type} (cs' : S → Sg) (r : Int32) : State → Prop := MQ below (va_Qi (fun (x : Int32) (_ : S) => x = r) (fun u t => PS D (cs' u) t.heap) A) args s 0 0 A
theorem ctIE_of {l : Launch} {y : MethodName} {bytes : ByteArray} {maxL : Nat} {rt : FieldType} {fr lo : Nat} {D : va_G} {cy : ClassId} {av : List Value} {cs : Sg} {S : Type} {cs' : S → Sg} {r : Int32} (hy : plainName y.cls = true) (hn : (lg_sl av).length ≤ maxL)
    (body : ∀ (p : Program) (e : Env) (s : State) (m : MethodId) (args : Array Value) (below : List Frame) (meth : Method) (c : Code) (A : Nat → Prop), Cx p s m args meth c bytes y.cls maxL (some rt) D cy A →
      G p l e { frames := fr, cells := 0, slots := 0, locals := lo } s m args below meth c maxL D A 0 0 (QIE below args s D A cs' r) cs 0 (lv_args 0 av) []) : CtIE l y bytes maxL rt fr lo D cy av cs cs' r := by
  intro sz
  refine Met.ofW (cc := bytes) (maxL := maxL) (ret := some rt) hy rfl ?_
  intro p e s m args below meth c s₁ B hml hv
  obtain ⟨rfl, hsz, hP, hK, hD0⟩ := hv
  subst hsz
  have hts := atoms_spec (ws := wdY y bytes maxL (some rt)) B.pre
  have X : Cx p s m av.toArray meth c bytes y.cls maxL (some rt) D cy (SA (sg_ads cs) s.heap.size) :=
    ⟨B.exec, B.bytes, hml, findClass_of_methodNamed B.named, fun w hw => hts w (List.mem_cons_of_mem _ hw), B.returns, B.notSynchronized, hK, fun q h => Or.inr h⟩
  have hl := lv_entry av (n := maxL) hn
  rw [lg_entry_eq]
  exact body p e s m av.toArray below meth c _ X s.heap [] _ hP (SA_ds hD0) va_S.rf hl
section GRE
variable {p : Program} {l : Launch} {e : Env} {R : Room} {s : State} {m : MethodId} {args : Array Value} {below : List Frame} {meth : Method} {c : Code} {cc : ByteArray} {own : String} {nL : Nat} {ret : Option FieldType} {D : va_G} {cy : ClassId} {A : Nat → Prop} {cells slots : Nat} {Q : State → Prop} {ss : Sg} {pc : Nat} {lv : List (Nat × Value)} {st rest : List Value}
theorem g_iretE (X : Cx p s m args meth c cc own nL ret D cy A) {S : Type} {cs' : S → Sg} {r v : Int32} {rt : FieldType} (u : S) (hret : ret = some rt) (hd : decode cc pc = .ok (.ireturn, 1)) (hn : narrow rt (.int v) = .int v) (hv : v = r) (hs : ss = cs' u) : G p l e R s m args below meth c nL D A 0 0 (QIE below args s D A cs' r) ss pc lv [.int v] := by
  intro H locs ls hP hD hS hl
  subst hs hv
  exact W.zret X.1 X.2.1 (X.2.2.2.2.2.1.trans hret) hn (fun t ht hW => ⟨⟨v, u, rfl, rfl, by show PS D (cs' u) t.heap; rw [ht]; exact hP⟩, hS.F ht⟩) hS.2.2 hd X.2.2.2.2.2.2.1
theorem g_callVE (X : Cx p s m args meth c cc own nL ret D cy A) {y : MethodName} {bytes : ByteArray} {maxL fr lo idx n : Nat} {rt : FieldType} {b : Nat} {As : List Value} {cs : Sg} {S : Type} {cs' : S → Sg} {ss' : S → Sg} {r : Int32} (ct : CtIE l y bytes maxL rt fr lo D cy (.ref b :: As) cs cs' r) (vl : VL own idx y bytes maxL (some rt) n) (hd : decode cc pc = .ok (.invokevirtual idx, 3)) (is : List Nat) (i0 j0 : Nat) {w : va_W} {ci : Nat} {fs : List Value} {cl : vw_C} (hi : ss[i0]? = some w) (hj : w[j0]? = some (b, .inr (ci, fs))) (hcl : vwCl[ci]? = some cl) (hcn : cl.1 = y.cls)
    (hC : is.map (fun i => ss[i]?) = cs.map some) (hnd : sg_nd is = true) (had : ∀ u, sg_ads (cs' u) = sg_ads cs) (hs : ∀ u, sg_put ss is (cs' u) = ss' u) (hst : st = As.reverse ++ .ref b :: rest) (hn : As.length = n) (hfr : Nat.ble (fr + 1) R.frames = true) (hlo : Nat.ble (8 + (maxL + 11) + lo) R.locals = true) (hcat : Nat.ble ((rest.map fun v => v.category).sum) 8 = true) (hcel : cells ≤ R.cells ∧ slots ≤ R.slots) (kk : ∀ u, G p l e R s m args below meth c nL D A cells slots Q (ss' u) (pc + 3) lv (.int r :: rest)) : G p l e R s m args below meth c nL D A cells slots Q ss pc lv st := by
  intro H locs ls hP hD hS hl
  subst hst
  obtain ⟨v1, v2, v3, v4, v5, v6, v7, v8⟩ := vl
  have hts := X.2.2.2.2.1
  have hK := X.2.2.2.2.2.2.2.1
  obtain ⟨q0, hq, -⟩ := sg_at ss i0 j0 w _ hi hj
  have hPc : PS D cs H := sg_sub hP is hC
  have hDc := sg_sub_ds hD is hnd hC
  have hcw : CallW R s args own y.cls idx y bytes maxL (some rt) (wdY y bytes maxL (some rt)) { frames := fr, cells := 0, slots := 0, locals := lo } 0 0 n :=
    ⟨callB_of n hts (fun w hw => (List.mem_cons.mp hw).elim (fun h => h ▸ ⟨v5, tw_good v5⟩) (fun h => ⟨h, tw_good h⟩)) rfl rfl rfl (hts _ v4) (hts _ v1) ⟨v6, v7, v8⟩ ⟨Nat.le_of_ble_eq_true hfr, Nat.le_of_ble_eq_true hlo⟩, hts _ v2, hts _ v3⟩
  refine va_calli (va_runV (As := As) (rest := rest) ⟨X.1, X.2.1, X.2.2.1, X.2.2.2.1, hts⟩ (ct H.size) hcw ⟨preY_blind, ?_, fun U hU hW => ⟨rfl, by rw [hU], by rw [hU]; exact hPc, hK.warm hW, hDc⟩⟩ rfl hn hl.1 rfl (lv_room (Nat.le_of_ble_eq_true hcat)) hd ⟨hcel.1, hcel.2⟩) hS (A1 := SA (sg_ads cs) H.size) (fun q _ h => ?_) (fun q h => ?_) (fun r1 u t H1 locs1 ht hvm hpost hB hz hk hS1 => ?_)
  · have := va_recv hK.1 hP hcl hq
    rw [hcn] at this
    exact this
  · exact h.elim (sg_part hD is hC q) (fun h => X.2.2.2.2.2.2.2.2 q (Nat.le_trans hS.1 h))
  · exact h.elim (sg_part hD is hC q) (fun h => X.2.2.2.2.2.2.2.2 q (Nat.le_trans hS.1 h))
  · subst hpost
    rw [ht] at hB
    have hlen : (cs' u).length = cs.length := by
      have := congrArg List.length (had u)
      simpa [sg_ads] using this
    refine kk u H1 locs1 ls ?_ ?_ hS1 hl
    · rw [← hs u]; exact sg_join hP hD is hC hlen hk hB
    · rw [← hs u, sg_put_ads is ss cs (cs' u) hC (had u)]; exact hD
theorem g_lvv (X : Cx p s m args meth c cc own nL ret D cy A) {lv' : List (Nat × Value)} (h : lv = lv') (kk : G p l e R s m args below meth c nL D A cells slots Q ss pc lv' st) : G p l e R s m args below meth c nL D A cells slots Q ss pc lv st := h ▸ kk
theorem g_ldc_w (X : Cx p s m args meth c cc own nL ret D cy A) {i : Nat} {v : Int32} (hd : decode cc pc = .ok (.ldc_w i, 3)) (hc : Jvm.Cond.constant own i v ∈ TW) (kk : G p l e R s m args below meth c nL D A cells slots Q ss (pc + 3) lv (.int v :: st)) : G p l e R s m args below meth c nL D A cells slots Q ss pc lv st := fun H locs ls hP hD hS hl => lv_ldcw X.1 X.2.1 X.2.2.2.1 (X.2.2.2.2.1 _ hc) hd (kk H locs ls hP hD hS hl)
end GRE
