/-! THE CLAIM OUT OF ONE WALK OF THE LAW'S BODY. Your part is whole_start (and what it stands on); all else here is the same for every law, but numbers. -/
def R_law : String := "MaynotBeSeenLaw"
def lw_P (b : Addr) (xs : List Int32) (args : Array Value) (s : State) : Prop := args = #[.ref b] ∧ s.IntsAt b xs ∧ xs.length ≤ 1536 ∧ (Jvm.Cond.and given_1 narrow_1).before args s = true
def lw_Q (_ : Array Value) (s : State) (o : Outcome) (t : State) : Prop := o = .returned (some (.int 1)) ∧ Framed s o t [] 600000 7302250
def lw_Z (below : List Frame) (a : Array Value) (s : State) : State → Prop := fun t => ∃ o, t.status = .running ∧ Ended t below o ∧ lw_Q a s o t
/-- the law's own end, with 1 on the stack, nothing written that was there before, its room as the claim has it -/
theorem lw_ret {p : Program} {l : Launch} {e : Env} {s : State} {m : MethodId} {below : List Frame} {meth : Method} {c : Code} {b : Nat} (hx : p.tables.exec = Jvm.exec) (hb : c.code = code) (hr : meth.sig.returnType = ret) (hlocks : meth.locks = false) {pc : Nat} {H : Heap} {ls : Array Slot} (hdg : decode code pc = .ok (.ireturn, 1)) : W p l e room_1 s m #[Value.ref b] below meth c H [] 600000 7302250 (lw_Z below #[Value.ref b] s) (F0 m pc ls [.int 1]) := by
  intro T hT X
  obtain ⟨fs, hret, hrun, hended, hW, hframe⟩ := X.leave (v := some (.int 1)) (hlocks := hlocks) (fun h => by rw [hr] at h; cases h)
  have hmeth' : T.vm.method? m = some meth := X.method'
  refine ⟨T.setFrames fs, ?_, .returned (some (.int 1)), hrun, hended, rfl, ⟨_, rfl⟩, hW, hframe⟩
  jvm_step X.here [X.here.top, hx, hb, hdg, hmeth', hr, ret, narrow_b1]
  (try refine ⟨rfl, ?_⟩); (try refine ⟨rfl, ?_⟩)
  first | (intro acts; rw [hret _ acts rfl rfl rfl]) | rw [hret _ _ rfl rfl rfl]
  exact Steps.refl _
/-- what holds at the law's entry: the machine, the code, the tables' words (any of lw_tbl by 'hts w (by decide +kernel)'), the script of L ints xs at the cell b, what the Statement gives of the start (any of its parts by flat_of_before) -/
def lw_At (p : Program) (s : State) (m : MethodId) (meth : Method) (c : Code) (b L : Nat) (xs : Nat → Int32) : Prop :=
  p.tables.exec = Jvm.exec ∧ c.code = code ∧ meth.sig.returnType = ret ∧ c.maxLocals = 4 ∧ s.vm.findClass R_law = some m.cls ∧ (∀ w ∈ lw_tbl, w.before #[Value.ref b] s = true) ∧ va_X b L xs s s.heap ∧ b < s.heap.size ∧ meth.locks = false ∧ (Jvm.Cond.and given_1 narrow_1).before #[Value.ref b] s = true
/-! what stays of a state -/
theorem KW_hr {k : KV} {x : Int32} (h : KW k) : KW (hrK k x) := by
  unfold hrK
  by_cases q : ooI x 0 7 = 0
  · rw [if_pos q]
    obtain ⟨r, hr, rfl⟩ := in_lt (n := 8) (by omega) (oo_0 q).1 (Int32.lt_of_le_of_lt (oo_0 q).2 (by decide))
    exact ⟨h.1, h.2.1, h.2.2.1, h.2.2.2.1, h.2.2.2.2.1, h.2.2.2.2.2.1, by show ix (nI r) < 8; rw [ixn (by omega)]; exact hr, h.2.2.2.2.2.2.2⟩
  · rw [if_neg q]; exact h
theorem KW_ts {k : KV} {x : Int32} (h : KW k) : KW (tgS k x) := by
  unfold tgS
  cases hb : tgO k x with
  | false => simpa using h
  | true =>
    rw [if_pos rfl]
    unfold tgO at hb
    rw [Bool.and_eq_true] at hb
    have hn := of_decide_eq_true hb.2
    exact ⟨h.1, h.2.1, h.2.2.1, h.2.2.2.1, h.2.2.2.2.1, h.2.2.2.2.2.1, h.2.2.2.2.2.2.1, by show kNs k + 1 ≤ 8; omega⟩
theorem KW_on {k kk : KV} {b : Bool} (h : KW k) (hk : KW kk) : KW (onK k kk b) := by
  cases b with
  | true => exact hk
  | false => exact h
theorem KW_rd {lt : Nat → Int32} : ∀ (f s i cn : Nat) (k : KV), KW k → KW (rdK lt f s i cn k).2
  | 0, _, _, _, _, h => h
  | f + 1, s, i, cn, k, h => by
    rw [rdK]
    by_cases q : lt i = 59 ∧ s + 2 ≤ i
    · rw [if_pos q]
      cases hb : obB k (lt s) (lt (s + 1)) (lt (s + 2)) with
      | true => exact KW_rd f (i + 1) (i + 1) (cn + 1) _ (KW_ob h)
      | false => exact KW_ob h
    · rw [if_neg q]
      exact KW_rd f s (i + 1) cn k h
theorem KW_hs {lt : Nat → Int32} {n : Nat} {k : KV} (h : KW k) : KW (hsK lt n k) := by
  have hr : KW (riR lt n k).2 := by
    unfold riR
    by_cases q : fuA lt n = -9
    · rw [if_pos q]; exact KW_rd n 0 0 0 k h
    · rw [if_neg q]; exact h
  unfold hsK
  by_cases q : 0 < (riR lt n k).1
  · rw [if_pos q]; exact hr
  · rw [if_neg q]; exact h
theorem KW_z : KW kZ := ⟨⟨Nat.zero_le _, fun i h => absurd h (Nat.not_lt_zero i)⟩, fun i h => absurd h (Nat.not_lt_zero i), fun i _ hi => by
    show btI 0 (nI i) = false
    rw [btI_bt _ (by omega), b_0], fun i h => absurd h (Nat.not_lt_zero i), fun i h => absurd h (Nat.not_lt_zero i), Nat.zero_le _, by decide, Nat.zero_le _⟩
theorem lc_80 {n : Nat} {x : Int32} (h : n ≤ 80) : lcN n x ≤ 80 := by
  unfold lcN
  cases hb : lcB n x with
  | false => simpa using h
  | true =>
    unfold lcB at hb
    rw [Bool.and_eq_true] at hb
    have hn := of_decide_eq_true hb.2
    rw [if_pos rfl]
    omega
theorem ro_12 {n : Nat} {x : Int32} (h : n ≤ 12) : roN n x ≤ 12 := by
  unfold roN
  cases hb : roB n x with
  | false => simpa using h
  | true =>
    unfold roB at hb
    rw [Bool.and_eq_true] at hb
    have hn := of_decide_eq_true hb.2
    rw [if_pos rfl]
    omega
theorem len_3 {i L : Nat} (hi : i ≤ 2000) (hL : L ≤ 1536) (h : nI i ≤ nI L - 3) : i + 3 ≤ L := by
  by_cases q : 3 ≤ L
  · rw [show (3 : Int32) = nI 3 from rfl, pk_sub q] at h
    have := (nI_leI (by omega) (by omega)).mp h
    omega
  · exfalso
    have h0 : (0 : Int32) ≤ nI L - 3 := Int32.le_trans (nI_pos' (by omega)) h
    rcases (show L = 0 ∨ L = 1 ∨ L = 2 by omega) with rfl | rfl | rfl <;> exact absurd h0 (by decide)
section GRL
variable {p : Program} {l : Launch} {e : Env} {R : Room} {s : State} {m : MethodId} {args : Array Value} {below : List Frame} {meth : Method} {c : Code} {cc : ByteArray} {own : String} {nL : Nat} {ret0 : Option FieldType} {D : va_G} {cy : ClassId} {A : Nat → Prop} {cells slots : Nat} {Q : State → Prop} {ss : Sg} {pc : Nat} {lv : List (Nat × Value)} {st : List Value} {b L : Nat} {xs : Nat → Int32}
theorem g_slen (X : Cx p s m args meth c cc own nL ret0 D cy A) (hX : va_X b L xs s s.heap) (hbl : b < s.heap.size) (hbA : ¬ A b) (hd : decode cc pc = .ok (.arraylength, 1)) (kk : G p l e R s m args below meth c nL D A cells slots Q ss (pc + 1) lv (.int (nI L) :: st)) : G p l e R s m args below meth c nL D A cells slots Q ss pc lv (.ref b :: st) :=
  fun H locs ls hP hD hS hl => va_slen X.1 X.2.1 hX hbl hbA hS hd (kk H locs ls hP hD hS hl)
theorem g_sld (X : Cx p s m args meth c cc own nL ret0 D cy A) (hX : va_X b L xs s s.heap) (hbl : b < s.heap.size) (hbA : ¬ A b) (hL : L ≤ 1536) {x : Int32} (j : Nat) (hx : x = nI j) (hj : j < L) (hd : decode cc pc = .ok (.iaload, 1)) (kk : G p l e R s m args below meth c nL D A cells slots Q ss (pc + 1) lv (.int (xs j) :: st)) : G p l e R s m args below meth c nL D A cells slots Q ss pc lv (.int x :: .ref b :: st) := by
  intro H locs ls hP hD hS hl
  subst hx
  refine va_sld X.1 X.2.1 hX hbl hbA hS (vp_in_nI hj (by omega)) hd ?_
  rw [show (nI j).toNatClampNeg = j from nI_clamp (by omega)]
  exact kk H locs ls hP hD hS hl
theorem g_lret (X : Cx p s m #[Value.ref b] meth c code own nL ret D cy (fun q => s.heap.size ≤ q)) (hd : decode code pc = .ok (.ireturn, 1)) (hc : cells ≤ 600000) (hs : slots ≤ 7302250) : G p l e room_1 s m #[Value.ref b] below meth c nL D (fun q => s.heap.size ≤ q) cells slots (lw_Z below #[Value.ref b] s) ss pc lv [.int 1] := by
  intro H locs ls hP hD hS hl
  refine va_forget (fun q hq => hS.2.2 q hq) ?_
  refine W.widen hc hs ?_
  exact lw_ret X.1 X.2.1 X.2.2.2.2.2.1 X.2.2.2.2.2.2.1 hd
end GRL
