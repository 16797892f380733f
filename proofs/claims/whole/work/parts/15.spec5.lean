/-! who can be given to whom -/
theorem nx_xor (a b : Nat) : nI a ^^^ nI b = nI (a ^^^ b) := by
  apply Int32.toBitVec_inj.mp
  rw [Int32.toBitVec_xor]
  show BitVec.ofNat 32 a ^^^ BitVec.ofNat 32 b = BitVec.ofNat 32 (a ^^^ b)
  apply BitVec.eq_of_getLsbD_eq
  intro i hi
  simp [BitVec.getLsbD_xor, BitVec.getLsbD_ofNat, hi, Nat.testBit_xor]
def loI (x : Int32) : Int32 := fnd (fun t => btI x (nI t)) nI 8 0
def loN (s : Nat) : Nat := if s.testBit 0 then 0 else if s.testBit 1 then 1 else if s.testBit 2 then 2 else if s.testBit 3 then 3 else if s.testBit 4 then 4 else if s.testBit 5 then 5 else if s.testBit 6 then 6 else 7
theorem lo_n : ∀ s, s < 256 → 0 < s → loI (nI s) = nI (loN s) := by decide +kernel
theorem lo_8 (s : Nat) : loN s < 8 := by
  unfold loN
  repeat' split
  all_goals omega
theorem lo_t : ∀ s, s < 256 → 0 < s → s.testBit (loN s) = true ∧ s ^^^ 2 ^ loN s < s ∧ 2 ^ loN s ≤ s := by decide +kernel
theorem lo_lt {s n : Nat} (hn : n ≤ 8) (h : s < 2 ^ n) (h0 : 0 < s) : loN s < n := by
  have h256 : s < 256 := Nat.lt_of_lt_of_le h (Nat.pow_le_pow_right (n := 2) (by omega) hn)
  have h1 := (lo_t s h256 h0).2.2
  have h2 : 2 ^ loN s < 2 ^ n := Nat.lt_of_le_of_lt h1 h
  exact (Nat.pow_lt_pow_iff_right (by omega)).mp h2
/-- who may be t's other by sight: bits of the first n -/
def auN (k : KV) (t : Nat) : Nat → Int32
  | 0 => 0
  | n + 1 => if n ≠ t ∧ mtK k t n (kHr k) = false then auN k t n ||| shl 1 (nI n) else auN k t n
def alU (k : KV) (al : Nat → Int32) : Nat → Int32 := fun t => if t < kNt k then auN k t (kNt k) else al t
/-- who is barred by the first n sets -/
def abN (k : KV) (t : Nat) : Nat → Int32
  | 0 => shl 1 (nI t)
  | n + 1 => if btI (kSe k n) (nI t) then abN k t n ||| kSe k n else abN k t n
def alV (k : KV) (al : Nat → Int32) : Nat → Int32 := fun t => if t < kNt k then allT k &&& (abN k t (kNs k) ^^^ (-1)) else al t
/-- in how many ways the things of a set can be others among themselves: a set's number out of the lesser sets' -/
def reA (al w : Nat → Int32) (j r : Nat) : Nat → Int32
  | 0 => 0
  | o + 1 => if j < o ∧ r.testBit o = true ∧ bt (al j) o = true then reA al w j r o + w (r ^^^ 2 ^ o) else reA al w j r o
theorem reA_0 (al w : Nat → Int32) (j r : Nat) : ∀ m, m ≤ j + 1 → reA al w j r m = 0
  | 0, _ => rfl
  | m + 1, h => by
    rw [reA, if_neg (fun q => absurd q.1 (by omega))]
    exact reA_0 al w j r m (by omega)
def reV (n : Nat) (al w : Nat → Int32) (s : Nat) : Int32 := reA al w (loN s) (s ^^^ 2 ^ loN s) n
def rT (n : Nat) (al w : Nat → Int32) : Nat → Nat → Int32
  | 0 => upd w 0 1
  | s + 1 => upd (rT n al w s) (s + 1) (reV n al (rT n al w s) (s + 1))
def wiT (n : Nat) (al w : Nat → Int32) : Nat → Int32 := rT n al w (2 ^ n - 1)
theorem re_c {r : Nat} {a : Int32} {o : Nat} (ho : o < 31) : (nI r &&& a) &&& shl 1 (nI o) = 0 ↔ ¬ (r.testBit o = true ∧ bt a o = true) := by
  have hr : bt (nI r) o = r.testBit o := by
    show (BitVec.ofNat 32 r).getLsbD o = _
    rw [BitVec.getLsbD_ofNat]
    simp; omega
  constructor
  · intro h ⟨h1, h2⟩
    have h3 : bt ((nI r &&& a) &&& shl 1 (nI o)) o = true := by rw [b_and, b_and, hr, h1, h2, bt_sh1 (by omega) (by omega)]; simp
    rw [h, b_0] at h3
    cases h3
  · intro h
    apply b_ext
    intro i hi
    rw [b_and, b_and, b_0, bt_sh1 (by omega) hi]
    by_cases e : i = o
    · subst e
      rw [hr]
      cases h1 : r.testBit i with
      | false => rfl
      | true =>
        cases h2 : bt a i with
        | false => rfl
        | true => exact absurd ⟨h1, h2⟩ h
    · simp [e]
theorem xor_lt {r o n : Nat} (hr : r < 2 ^ n) (ho : o < n) : r ^^^ 2 ^ o < 2 ^ n := Nat.xor_lt_two_pow hr (Nat.pow_lt_pow_right (by omega) ho)
/-- others of a thing in some way: bits of the first n -/
def otN (al w : Nat → Int32) (m t : Nat) : Nat → Int32
  | 0 => 0
  | o + 1 => if m.testBit o = true ∧ bt (al t) o = true ∧ 0 < w (m ^^^ 2 ^ o) then otN al w m t o ||| shl 1 (nI o) else otN al w m t o
def ofA (n : Nat) (w : Nat → Int32) : Int32 := w (2 ^ n - 1)
theorem m1_n : ∀ n, n ≤ 8 → shl 1 (nI n) - 1 = nI (2 ^ n - 1) := by decide +kernel
/-- all but a thing -/
def mkN (n t : Nat) : Nat := if t < n then 2 ^ n - 1 - 2 ^ t else 2 ^ n - 1
theorem mk_n : ∀ n, n ≤ 8 → ∀ t, t < 8 → (nI (2 ^ n - 1)) &&& (shl 1 (nI t) ^^^ (-1)) = nI (mkN n t) := by decide +kernel
theorem mk_lt (n t : Nat) : mkN n t < 2 ^ n := by
  have h : 2 ^ n - 1 < 2 ^ n := Nat.sub_lt (Nat.two_pow_pos n) (by decide)
  unfold mkN
  split
  · exact Nat.lt_of_le_of_lt (Nat.sub_le _ _) h
  · exact h
theorem xor_dn : ∀ r, r < 256 → ∀ o, o < 8 → r.testBit o = true → r ^^^ 2 ^ o < r := by decide +kernel
theorem reA_cong {al al2 w w2 : Nat → Int32} {j r : Nat} (hr : r < 256) (ha : al j = al2 j) (hw : ∀ c, c < r → w c = w2 c) : ∀ m, m ≤ 8 → reA al w j r m = reA al2 w2 j r m
  | 0, _ => rfl
  | m + 1, h => by
    rw [reA, reA, reA_cong hr ha hw m (by omega), ha]
    by_cases q : j < m ∧ r.testBit m = true ∧ bt (al2 j) m = true
    · rw [if_pos q, if_pos q, hw _ (xor_dn r hr m (by omega) q.2.1)]
    · rw [if_neg q, if_neg q]
theorem rT_cong {n : Nat} {al al2 w w2 : Nat → Int32} (hn : n ≤ 8) (ha : ∀ t, t < n → al t = al2 t) : ∀ s, s < 2 ^ n → ∀ c, c ≤ s → rT n al w s c = rT n al2 w2 s c
  | 0, _, c, hc => by
    have : c = 0 := by omega
    subst this
    rw [rT, rT, upd_s, upd_s]
  | s + 1, hs, c, hc => by
    have h256 : s + 1 < 256 := Nat.lt_of_lt_of_le hs (Nat.pow_le_pow_right (n := 2) (by omega) hn)
    have hl := lo_t (s + 1) h256 (by omega)
    rw [rT, rT]
    by_cases q : c = s + 1
    · subst q
      rw [upd_s, upd_s]
      exact reA_cong (by omega) (ha _ (lo_lt hn hs (by omega))) (fun c hc => rT_cong hn ha s (by omega) c (by omega)) n hn
    · rw [upd_n q, upd_n q]
      exact rT_cong hn ha s (by omega) c (by omega)
def zF : Nat → Int32 := fun _ => 0
/-- the table, whatever lay there before -/
def wyT (n : Nat) (al : Nat → Int32) : Nat → Int32 := wiT n al zF
theorem wi_wy {n : Nat} {al al2 w : Nat → Int32} (hn : n ≤ 8) (ha : ∀ t, t < n → al t = al2 t) (c : Nat) (hc : c < 2 ^ n) : wiT n al w c = wyT n al2 c := rT_cong hn ha _ (by omega) c (by omega)
theorem ot_cong {al al2 w w2 : Nat → Int32} {n m t : Nat} (hm : m < 2 ^ n) (ha : al t = al2 t) (hw : ∀ c, c < 2 ^ n → w c = w2 c) : ∀ o, o ≤ n → otN al w m t o = otN al2 w2 m t o
  | 0, _ => rfl
  | o + 1, h => by
    rw [otN, otN, ot_cong hm ha hw o (by omega), ha, hw _ (xor_lt hm (by omega))]
theorem ot_0 {al w : Nat → Int32} {m t : Nat} : otN al w m t 0 = 0 := rfl
/-- by sight; by what was together -/
def prL (k : KV) : Nat → Int32 := alU k zF
def apL (k : KV) : Nat → Int32 := alV k zF
def wyK (k : KV) (al : Nat → Int32) : Int32 := wyT (kNt k) al (2 ^ kNt k - 1)
def otK (k : KV) (al : Nat → Int32) (t : Nat) : Int32 := otN al (wyT (kNt k) al) (mkN (kNt k) t) t (kNt k)
def prA (k : KV) (w : Int32) : Int32 := if moB w then (if w = 0 then wyK k (prL k) else loI (otK k (prL k) 0)) else -2
def myA (k : KV) (t : Int32) : Int32 := if hasT k t then otK k (apL k) (ix t) else -1
theorem al_u {k : KV} {al : Nat → Int32} : ∀ t, t < kNt k → alU k al t = prL k t := fun t h => by rw [alU, if_pos h, prL, alU, if_pos h]
theorem al_v {k : KV} {al : Nat → Int32} : ∀ t, t < kNt k → alV k al t = apL k t := fun t h => by rw [alV, if_pos h, apL, alV, if_pos h]
theorem of_k {k : KV} {al al2 w : Nat → Int32} (h8 : kNt k ≤ 8) (h : ∀ t, t < kNt k → al t = al2 t) : ofA (kNt k) (wiT (kNt k) al w) = wyK k al2 := wi_wy h8 h _ (Nat.sub_lt (Nat.two_pow_pos _) (by decide))
theorem ot_k {k : KV} {al al2 w : Nat → Int32} {t : Nat} (h8 : kNt k ≤ 8) (h : ∀ t, t < kNt k → al t = al2 t) (ht : t < kNt k ∨ kNt k = 0) : otN al (wiT (kNt k) al w) (mkN (kNt k) t) t (kNt k) = otK k al2 t := by
  rcases ht with ht | ht
  · exact ot_cong (mk_lt _ _) (h t ht) (fun c hc => wi_wy h8 h c hc) _ (Nat.le_refl _)
  · unfold otK
    rw [ht]
    rfl
/-! a number against 0 -/
section GN
variable {p : Program} {l : Launch} {e : Env} {R : Room} {s : State} {m : MethodId} {args : Array Value} {below : List Frame} {meth : Method} {c : Code} {cc : ByteArray} {own : String} {nL : Nat} {ret : Option FieldType} {D : va_G} {cy : ClassId} {A : Nat → Prop} {cells slots : Nat} {Q : State → Prop} {ss : Sg} {pc : Nat} {lv : List (Nat × Value)} {st : List Value}
theorem g_nif_eq (X : Cx p s m args meth c cc own nL ret D cy A) {x : Int32} {off : Int} {tgt : Nat} (hd : decode cc pc = .ok (.ifCond .eq off, 3)) (ht : (pc : Int) + off = (tgt : Int)) (a : Nat) (hx : x = nI a) (ha : a < 2 ^ 31) (k1 : a = 0 → G p l e R s m args below meth c nL D A cells slots Q ss (tgt) lv (st)) (k2 : a ≠ 0 → G p l e R s m args below meth c nL D A cells slots Q ss (pc + 3) lv (st)) : G p l e R s m args below meth c nL D A cells slots Q ss (pc) lv (.int x :: st) := by
  subst hx
  exact g_if_eq X hd ht (fun h => k1 ((nI_eq (b := 0) ha (by decide)).mp h)) (fun h => k2 (fun q => h (by rw [q]; rfl)))
theorem g_nif_ne (X : Cx p s m args meth c cc own nL ret D cy A) {x : Int32} {off : Int} {tgt : Nat} (hd : decode cc pc = .ok (.ifCond .ne off, 3)) (ht : (pc : Int) + off = (tgt : Int)) (a : Nat) (hx : x = nI a) (ha : a < 2 ^ 31) (k1 : a ≠ 0 → G p l e R s m args below meth c nL D A cells slots Q ss (tgt) lv (st)) (k2 : a = 0 → G p l e R s m args below meth c nL D A cells slots Q ss (pc + 3) lv (st)) : G p l e R s m args below meth c nL D A cells slots Q ss (pc) lv (.int x :: st) := by
  subst hx
  exact g_if_ne X hd ht (fun h => k1 (fun q => h (by rw [q]; rfl))) (fun h => k2 ((nI_eq (b := 0) ha (by decide)).mp h))
theorem g_nif_le (X : Cx p s m args meth c cc own nL ret D cy A) {x : Int32} {off : Int} {tgt : Nat} (hd : decode cc pc = .ok (.ifCond .le off, 3)) (ht : (pc : Int) + off = (tgt : Int)) (a : Nat) (hx : x = nI a) (ha : a < 2 ^ 31) (k1 : a = 0 → G p l e R s m args below meth c nL D A cells slots Q ss (tgt) lv (st)) (k2 : 0 < a → G p l e R s m args below meth c nL D A cells slots Q ss (pc + 3) lv (st)) : G p l e R s m args below meth c nL D A cells slots Q ss (pc) lv (.int x :: st) := by
  subst hx
  exact g_if_le X hd ht (fun h => k1 (Nat.le_zero.mp ((nI_leI (b := 0) ha (by decide)).mp h))) (fun h => k2 ((nI_ltI (a := 0) (by decide) ha).mp h))
theorem g_nif_gt (X : Cx p s m args meth c cc own nL ret D cy A) {x : Int32} {off : Int} {tgt : Nat} (hd : decode cc pc = .ok (.ifCond .gt off, 3)) (ht : (pc : Int) + off = (tgt : Int)) (a : Nat) (hx : x = nI a) (ha : a < 2 ^ 31) (k1 : 0 < a → G p l e R s m args below meth c nL D A cells slots Q ss (tgt) lv (st)) (k2 : a = 0 → G p l e R s m args below meth c nL D A cells slots Q ss (pc + 3) lv (st)) : G p l e R s m args below meth c nL D A cells slots Q ss (pc) lv (.int x :: st) := by
  subst hx
  exact g_if_gt X hd ht (fun h => k1 ((nI_ltI (a := 0) (by decide) ha).mp h)) (fun h => k2 (Nat.le_zero.mp ((nI_leI (b := 0) ha (by decide)).mp h)))
end GN
/-! a text read -/
def stN (f : Int32) : Nat := if f = 99 then 3 else if f = 104 then 3 else if f = 108 then 4 else if f = 109 then 4 else if f = 111 then 4 else if f = 116 then 4 else 0
theorem st_4 (f : Int32) : stN f ≤ 4 := by
  unfold stN
  repeat' split
  all_goals omega
def fitB (f : Int32) (p : Nat) (c : Int32) : Bool :=
  if p = 0 then decide (0 < stN f) else if nI p = nI (stN f) - 1 then decide (c = 59) else if f = 116 ∧ p = 1 then decide (kdI c ≠ -9) else decide (dgI c ≠ -9)
def fuK (lt : Nat → Int32) (n : Nat) : Nat → Nat → Nat → Int32
  | 0, s, _ => if 0 < n ∧ s = n then -9 else nI n
  | f + 1, s, i => if fitB (lt s) (i - s) (lt i) then fuK lt n f (if lt i = 59 then i + 1 else s) (i + 1) else nI i
def fuA (lt : Nat → Int32) (n : Nat) : Int32 := fuK lt n n 0 0
def rdK (lt : Nat → Int32) : Nat → Nat → Nat → Nat → KV → Int32 × KV
  | 0, _, _, cn, k => (nI cn, k)
  | f + 1, s, i, cn, k =>
    if lt i = 59 ∧ s + 2 ≤ i then
      (if obB k (lt s) (lt (s + 1)) (lt (s + 2)) then rdK lt f (i + 1) (i + 1) (cn + 1) (obK k (lt s) (lt (s + 1)) (lt (s + 2))) else (-2000 - nI s, obK k (lt s) (lt (s + 1)) (lt (s + 2))))
    else rdK lt f s (i + 1) cn k
def riR (lt : Nat → Int32) (n : Nat) (k : KV) : Int32 × KV := if fuA lt n = -9 then rdK lt n 0 0 0 k else (-1000 - fuA lt n, k)
def hsK (lt : Nat → Int32) (n : Nat) (k : KV) : KV := if 0 < (riR lt n k).1 then (riR lt n k).2 else k
