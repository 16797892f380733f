/-! What a state is, and what each method answers, in plain words -/
abbrev KV : Type := Nat × (Nat → Int32) × (Nat → Int32) × Int32 × Nat × (Nat → Int32) × (Nat → Int32) × (Nat → Int32) × Nat × Nat × (Nat → Int32)
abbrev kNl (k : KV) : Nat := k.1
abbrev kOn (k : KV) : Nat → Int32 := k.2.1
abbrev kTw (k : KV) : Nat → Int32 := k.2.2.1
abbrev kHd (k : KV) : Int32 := k.2.2.2.1
abbrev kNt (k : KV) : Nat := k.2.2.2.2.1
abbrev kKi (k : KV) : Nat → Int32 := k.2.2.2.2.2.1
abbrev kRo (k : KV) : Nat → Int32 := k.2.2.2.2.2.2.1
abbrev kOt (k : KV) : Nat → Int32 := k.2.2.2.2.2.2.2.1
abbrev kHr (k : KV) : Nat := k.2.2.2.2.2.2.2.2.1
abbrev kNs (k : KV) : Nat := k.2.2.2.2.2.2.2.2.2.1
abbrev kSe (k : KV) : Nat → Int32 := k.2.2.2.2.2.2.2.2.2.2
abbrev sNl (k : KV) (v : Nat) : KV := (v, k.2)
abbrev sOn (k : KV) (v : Nat → Int32) : KV := (k.1, v, k.2.2)
abbrev sTw (k : KV) (v : Nat → Int32) : KV := (k.1, k.2.1, v, k.2.2.2)
abbrev sHd (k : KV) (v : Int32) : KV := (k.1, k.2.1, k.2.2.1, v, k.2.2.2.2)
abbrev sNt (k : KV) (v : Nat) : KV := (k.1, k.2.1, k.2.2.1, k.2.2.2.1, v, k.2.2.2.2.2)
abbrev sKi (k : KV) (v : Nat → Int32) : KV := (k.1, k.2.1, k.2.2.1, k.2.2.2.1, k.2.2.2.2.1, v, k.2.2.2.2.2.2)
abbrev sRo (k : KV) (v : Nat → Int32) : KV := (k.1, k.2.1, k.2.2.1, k.2.2.2.1, k.2.2.2.2.1, k.2.2.2.2.2.1, v, k.2.2.2.2.2.2.2)
abbrev sOt (k : KV) (v : Nat → Int32) : KV := (k.1, k.2.1, k.2.2.1, k.2.2.2.1, k.2.2.2.2.1, k.2.2.2.2.2.1, k.2.2.2.2.2.2.1, v, k.2.2.2.2.2.2.2.2)
abbrev sHr (k : KV) (v : Nat) : KV := (k.1, k.2.1, k.2.2.1, k.2.2.2.1, k.2.2.2.2.1, k.2.2.2.2.2.1, k.2.2.2.2.2.2.1, k.2.2.2.2.2.2.2.1, v, k.2.2.2.2.2.2.2.2.2)
abbrev sNs (k : KV) (v : Nat) : KV := (k.1, k.2.1, k.2.2.1, k.2.2.2.1, k.2.2.2.2.1, k.2.2.2.2.2.1, k.2.2.2.2.2.2.1, k.2.2.2.2.2.2.2.1, k.2.2.2.2.2.2.2.2.1, v, k.2.2.2.2.2.2.2.2.2.2)
abbrev sSe (k : KV) (v : Nat → Int32) : KV := (k.1, k.2.1, k.2.2.1, k.2.2.2.1, k.2.2.2.2.1, k.2.2.2.2.2.1, k.2.2.2.2.2.2.1, k.2.2.2.2.2.2.2.1, k.2.2.2.2.2.2.2.2.1, k.2.2.2.2.2.2.2.2.2.1, v)
def shl (x y : Int32) : Int32 := x <<< (y &&& 31)
def shr (x y : Int32) : Int32 := x >>> (y &&& 31)
def ushr (x y : Int32) : Int32 := (x.toUInt32 >>> (y.toUInt32 &&& Int32.toUInt32 31)).toInt32
/-- a bit -/
def btI (x y : Int32) : Bool := decide (shr x y &&& 1 = 1)
/-- rooms to which the first n lines lead from a room; through curtains or not -/
def bsN (on tw : Nat → Int32) (hd : Int32) (thr : Bool) (r : Int32) : Nat → Int32
  | 0 => 0
  | n + 1 =>
    if !thr && btI hd (nI n) then bsN on tw hd thr r n
    else if tw n = r then (if on n = r then bsN on tw hd thr r n ||| shl 1 (tw n) else bsN on tw hd thr r n) ||| shl 1 (on n)
    else if on n = r then bsN on tw hd thr r n ||| shl 1 (tw n) else bsN on tw hd thr r n
def bsF (k : KV) (thr : Bool) (r : Int32) : Int32 := bsN (kOn k) (kTw k) (kHd k) thr r (kNl k)
def joK (k : KV) : Nat → Int32 := fun r => bsN (kOn k) (kTw k) 0 true (nI r) (kNl k)
def opK (k : KV) : Nat → Int32 := fun r => bsN (kOn k) (kTw k) (kHd k) false (nI r) (kNl k)
/-- the cells of a house, of a text, of givings, of the class's own object, of the reference -/
def wHR (cy : ClassId) (ad : Nat → Nat) (k : KV) (jo op : Nat → Int32) : va_W :=
  [(ad 0, .inr (1, [.int (nI (kNl k)), .ref (ad 1), .ref (ad 2), .int (kHd k), .ref (ad 3), .ref (ad 4), .int (nI (kNt k)), .ref (ad 5), .ref (ad 6), .ref (ad 7), .int (nI (kHr k)), .int (nI (kNs k)), .ref (ad 8)])),
   (ad 1, .inl (cy, 10, .inl (kOn k))), (ad 2, .inl (cy, 10, .inl (kTw k))), (ad 3, .inl (cy, 6, .inl jo)), (ad 4, .inl (cy, 6, .inl op)), (ad 5, .inl (cy, 8, .inl (kKi k))), (ad 6, .inl (cy, 8, .inl (kRo k))), (ad 7, .inl (cy, 8, .inl (kOt k))), (ad 8, .inl (cy, 8, .inl (kSe k)))]
abbrev wH (cy : ClassId) (ad : Nat → Nat) (k : KV) : va_W := wHR cy ad k (joK k) (opK k)
def wT (cy : ClassId) (ad : Nat → Nat) (lt : Nat → Int32) (n : Nat) : va_W := [(ad 0, .inr (2, [.ref (ad 1), .int (nI n)])), (ad 1, .inl (cy, 80, .inl lt))]
def wG (cy : ClassId) (ad : Nat → Nat) (tc : Nat) (al wi : Nat → Int32) : va_W := [(ad 0, .inr (0, [.int (nI tc), .ref (ad 1), .ref (ad 2)])), (ad 1, .inl (cy, 8, .inl al)), (ad 2, .inl (cy, 256, .inl wi))]
def wX (cy : ClassId) (ad an am ak aT ag : Nat → Nat) (ik : Bool) (mc : Nat) (od mv rf : Nat → Int32) : va_W :=
  [(ad 0, .inr (3, [.ref (an 0), .ref (am 0), .ref (ak 0), .int (bI ik), .ref (aT 0), .ref (ag 0), .ref (ad 1), .ref (ad 2), .int (nI mc), .ref (ad 3)])), (ad 1, .inl (cy, 128, .inl od)), (ad 2, .inl (cy, 12, .inl mv)), (ad 3, .inl (cy, 7, .inl rf))]
abbrev MV : Type := Nat × (Nat → Int32) × Nat × (Nat → Int32) × Nat × (Nat → Int32) × (Nat → Int32) × Bool × (Nat → Int32) × (Nat → Int32) × (Nat → Int32) × (Nat → Int32)
abbrev mN (v : MV) : Nat := v.1
abbrev mLt (v : MV) : Nat → Int32 := v.2.1
abbrev mAt (v : MV) : Nat := v.2.2.1
abbrev mVa (v : MV) : Nat → Int32 := v.2.2.2.1
abbrev mIr (v : MV) : Nat := v.2.2.2.2.1
abbrev mRw (v : MV) : Nat → Int32 := v.2.2.2.2.2.1
abbrev mRf (v : MV) : Nat → Int32 := v.2.2.2.2.2.2.1
abbrev mIm (v : MV) : Bool := v.2.2.2.2.2.2.2.1
abbrev mIg (v : MV) : Nat → Int32 := v.2.2.2.2.2.2.2.2.1
abbrev mAh (v : MV) : Nat → Int32 := v.2.2.2.2.2.2.2.2.2.1
abbrev mSn (v : MV) : Nat → Int32 := v.2.2.2.2.2.2.2.2.2.2.1
abbrev mOd (v : MV) : Nat → Int32 := v.2.2.2.2.2.2.2.2.2.2.2
abbrev uN (v : MV) (x : Nat) : MV := (x, v.2)
abbrev uLt (v : MV) (x : Nat → Int32) : MV := (v.1, x, v.2.2)
abbrev uAt (v : MV) (x : Nat) : MV := (v.1, v.2.1, x, v.2.2.2)
abbrev uVa (v : MV) (x : Nat → Int32) : MV := (v.1, v.2.1, v.2.2.1, x, v.2.2.2.2)
abbrev uIr (v : MV) (x : Nat) : MV := (v.1, v.2.1, v.2.2.1, v.2.2.2.1, x, v.2.2.2.2.2)
abbrev uRw (v : MV) (x : Nat → Int32) : MV := (v.1, v.2.1, v.2.2.1, v.2.2.2.1, v.2.2.2.2.1, x, v.2.2.2.2.2.2)
abbrev uRf (v : MV) (x : Nat → Int32) : MV := (v.1, v.2.1, v.2.2.1, v.2.2.2.1, v.2.2.2.2.1, v.2.2.2.2.2.1, x, v.2.2.2.2.2.2.2)
abbrev uIm (v : MV) (x : Bool) : MV := (v.1, v.2.1, v.2.2.1, v.2.2.2.1, v.2.2.2.2.1, v.2.2.2.2.2.1, v.2.2.2.2.2.2.1, x, v.2.2.2.2.2.2.2.2)
abbrev uIg (v : MV) (x : Nat → Int32) : MV := (v.1, v.2.1, v.2.2.1, v.2.2.2.1, v.2.2.2.2.1, v.2.2.2.2.2.1, v.2.2.2.2.2.2.1, v.2.2.2.2.2.2.2.1, x, v.2.2.2.2.2.2.2.2.2)
abbrev uAh (v : MV) (x : Nat → Int32) : MV := (v.1, v.2.1, v.2.2.1, v.2.2.2.1, v.2.2.2.2.1, v.2.2.2.2.2.1, v.2.2.2.2.2.2.1, v.2.2.2.2.2.2.2.1, v.2.2.2.2.2.2.2.2.1, x, v.2.2.2.2.2.2.2.2.2.2)
abbrev uSn (v : MV) (x : Nat → Int32) : MV := (v.1, v.2.1, v.2.2.1, v.2.2.2.1, v.2.2.2.2.1, v.2.2.2.2.2.1, v.2.2.2.2.2.2.1, v.2.2.2.2.2.2.2.1, v.2.2.2.2.2.2.2.2.1, v.2.2.2.2.2.2.2.2.2.1, x, v.2.2.2.2.2.2.2.2.2.2.2)
abbrev uOd (v : MV) (x : Nat → Int32) : MV := (v.1, v.2.1, v.2.2.1, v.2.2.2.1, v.2.2.2.2.1, v.2.2.2.2.2.1, v.2.2.2.2.2.2.1, v.2.2.2.2.2.2.2.1, v.2.2.2.2.2.2.2.2.1, v.2.2.2.2.2.2.2.2.2.1, v.2.2.2.2.2.2.2.2.2.2.1, x)
def wM (cy : ClassId) (ad : Nat → Nat) (k : KV) (v : MV) : va_W :=
  [(ad 0, .inr (4, [.int (nI (kNl k)), .ref (ad 1), .ref (ad 2), .int (kHd k), .int (nI (kNt k)), .ref (ad 3), .ref (ad 4), .ref (ad 5), .int (nI (kHr k)), .int (nI (kNs k)), .ref (ad 6), .int (nI (mN v)), .ref (ad 7), .int (nI (mAt v)), .ref (ad 8), .int (nI (mIr v)), .ref (ad 9), .ref (ad 10), .int (bI (mIm v)), .ref (ad 11), .ref (ad 12), .ref (ad 13), .ref (ad 14)])),
   (ad 1, .inl (cy, 10, .inl (kOn k))), (ad 2, .inl (cy, 10, .inl (kTw k))), (ad 3, .inl (cy, 8, .inl (kKi k))), (ad 4, .inl (cy, 8, .inl (kRo k))), (ad 5, .inl (cy, 8, .inl (kOt k))), (ad 6, .inl (cy, 8, .inl (kSe k))), (ad 7, .inl (cy, 80, .inl (mLt v))), (ad 8, .inl (cy, 2, .inl (mVa v))), (ad 9, .inl (cy, 12, .inl (mRw v))), (ad 10, .inl (cy, 7, .inl (mRf v))), (ad 11, .inl (cy, 57, .inl (mIg v))), (ad 12, .inl (cy, 57, .inl (mAh v))), (ad 13, .inl (cy, 8, .inl (mSn v))), (ad 14, .inl (cy, 256, .inl (mOd v)))]
/-- what holds of a state between calls -/
def HLn (k : KV) : Prop := kNl k ≤ 10 ∧ ∀ i, i < kNl k → vp_in (kOn k i) 6 ∧ vp_in (kTw k i) 6
def HLo (k : KV) : Prop := ∀ i, i < kNl k → kOn k i < kTw k i
def HRo (k : KV) : Prop := ∀ t, t < kNt k → vp_in (kRo k t) 6
def HOt (k : KV) : Prop := ∀ t, t < kNt k → kOt k t = -9 ∨ ∃ u, u < kNt k ∧ u ≠ t ∧ kOt k t = nI u ∧ kOt k u = nI t
def HHd (k : KV) : Prop := ∀ i, kNl k ≤ i → i < 10 → btI (kHd k) (nI i) = false
def KW (k : KV) : Prop := HLn k ∧ HLo k ∧ HHd k ∧ HRo k ∧ HOt k ∧ kNt k ≤ 8 ∧ kHr k < 8 ∧ kNs k ≤ 8
theorem nar_b (b : Bool) : narrow .boolean (.int (bI b)) = .int (bI b) := by cases b <;> rfl
theorem fit_b (b : Bool) : fits .boolean (.int (bI b)) = true := by cases b <;> rfl
theorem bI_t {b : Bool} (h : b = true) : (1 : Int32) = bI b := by rw [h]; rfl
theorem bI_f {b : Bool} (h : b = false) : (0 : Int32) = bI b := by rw [h]; rfl
theorem vin {x : Int32} {n : Nat} (h : vp_in x n) (hn : n ≤ 1000) : nI (ix x) = x ∧ ix x < n := by
  obtain ⟨j, hj, rfl⟩ := vp_in_of h (by omega)
  have : ix (nI j) = j := nI_clamp (by omega)
  rw [this]
  exact ⟨rfl, hj⟩
theorem ixn {n : Nat} (h : n ≤ 1000) : ix (nI n) = n := nI_clamp (by omega)
theorem upd_s (f : Nat → Int32) (k : Nat) (x : Int32) : upd f k x k = x := if_pos rfl
theorem upd_n {f : Nat → Int32} {k j : Nat} {x : Int32} (h : j ≠ k) : upd f k x j = f j := if_neg h
/-- the first i from i0 on, of n, with P: what it tells; else -9 -/
def fnd (P : Nat → Bool) (g : Nat → Int32) : Nat → Nat → Int32
  | 0, _ => -9
  | n + 1, i => if P i then g i else fnd P g n (i + 1)
def cnt (P : Nat → Bool) : Nat → Nat
  | 0 => 0
  | n + 1 => if P n then cnt P n + 1 else cnt P n
theorem cnt_le (P : Nat → Bool) : ∀ n, cnt P n ≤ n
  | 0 => Nat.le_refl _
  | n + 1 => by
    have := cnt_le P n
    unfold cnt
    split <;> omega
def hasT (k : KV) (x : Int32) : Bool := decide (0 ≤ x ∧ x < nI (kNt k))
def hasL (k : KV) (x : Int32) : Bool := decide (0 ≤ x ∧ x < nI (kNl k))
def isRm (x : Int32) : Bool := decide (0 ≤ x ∧ x < 6)
def allT (k : KV) : Int32 := shl 1 (nI (kNt k)) - 1
theorem in_lt {x : Int32} {n : Nat} (hn : n ≤ 1000) (h0 : 0 ≤ x) (h : x < nI n) : ∃ j, j < n ∧ x = nI j := by
  obtain ⟨j, hj, rfl⟩ := nI_of (Int32.not_lt.mpr h0)
  exact ⟨j, (nI_ltI hj (by omega)).mp h, rfl⟩
theorem hasT_t {k : KV} {x : Int32} (h8 : kNt k ≤ 8) (h : hasT k x = true) : ∃ t, t < kNt k ∧ x = nI t := by
  have h := of_decide_eq_true h
  exact in_lt (by omega) h.1 h.2
theorem hasL_t {k : KV} {x : Int32} (h8 : kNl k ≤ 10) (h : hasL k x = true) : ∃ t, t < kNl k ∧ x = nI t := by
  have h := of_decide_eq_true h
  exact in_lt (by omega) h.1 h.2
theorem isRm_t {x : Int32} (h : isRm x = true) : ∃ t, t < 6 ∧ x = nI t := by
  have h := of_decide_eq_true h
  exact in_lt (n := 6) (by omega) h.1 h.2
theorem hasT_n {k : KV} {t : Nat} (h8 : kNt k ≤ 8) (h : t < kNt k) : hasT k (nI t) = true := decide_eq_true ⟨nI_pos' (by omega), nI_lt h (by omega)⟩
/-- from where a thing is seen (as the class has it) -/
def sfK (k : KV) (t h : Nat) : Int32 :=
  if kKi k t = 1 then bsF k false (kRo k t)
  else if kKi k t = 2 then (if h = 4 then shl 1 (kRo k t) ||| bsF k false (kRo k t) else bsF k false (kRo k t))
  else if kKi k t = 3 then shl 1 (kRo k t) ||| bsF k true (kRo k t)
  else if kKi k t = 4 then (if h < 6 then 0 else shl 1 (kRo k t) ||| bsF k false (kRo k t))
  else if kKi k t = 5 then shl 1 (kRo k t) ||| bsF k true (kRo k t)
  else shl 1 (kRo k t) ||| bsF k false (kRo k t)
def mtK (k : KV) (a b h : Nat) : Bool := decide (sfK k a h &&& sfK k b h ≠ 0)
def emK (k : KV) (a b : Nat) : Nat → Nat → Bool
  | 0, _ => false
  | n + 1, h => if mtK k a b h then true else emK k a b n (h + 1)
def slK (k : KV) (t h : Nat) : Bool := decide (nI t < kOt k t) && (hasT k (kOt k t) && mtK k t (ix (kOt k t)) h)
def fsK (k : KV) (h : Nat) : Int32 := fnd (fun t => slK k t h) (fun t => 10 * nI t + kOt k t) (kNt k) 0
def scK (k : KV) (h : Nat) : Nat := cnt (fun t => slK k t h) (kNt k)
def fdK (k : KV) : Int32 := fnd (fun h => decide (fsK k h ≠ -9)) nI 8 0
def ccK (k : KV) : Nat := cnt (fun t => decide (kOt k t ≠ -9)) (kNt k)
def mnI (x y : Int32) : Int32 := if y < x then y else x
def mxI (x y : Int32) : Int32 := if x < y then y else x
/-- a line more -/
def alB (k : KV) (x y : Int32) : Bool := isRm x && (isRm y && (decide (x ≠ y) && (decide (kNl k < 10) && decide (shr (joK k (ix x)) y &&& 1 = 0))))
def alF (k : KV) (x y : Int32) : KV := sNl (sTw (sOn k (upd (kOn k) (kNl k) (mnI x y))) (upd (kTw k) (kNl k) (mxI x y))) (kNl k + 1)
def alK (k : KV) (x y : Int32) : KV := if alB k x y then alF k x y else k
/-- a thing more -/
def atB (k : KV) (y : Int32) : Bool := isRm y && decide (kNt k < 8)
def atF (k : KV) (x y : Int32) : KV := sNt (sOt (sRo (sKi k (upd (kKi k) (kNt k) x)) (upd (kRo k) (kNt k) y)) (upd (kOt k) (kNt k) (-9))) (kNt k + 1)
def atK (k : KV) (x y : Int32) : KV := if atB k y then atF k x y else k
def tgK (k : KV) (x : Int32) : KV := if hasL k x then sHd k (kHd k ^^^ shl 1 x) else k
/-- others -/
def lvK (k : KV) (t : Nat) : KV := if hasT k (kOt k t) then sOt k (upd (kOt k) (ix (kOt k t)) (-9)) else k
def lvN (k : KV) (t : Nat) : Nat := if hasT k (kOt k t) then 1 else 0
def cpF (k : KV) (a b : Nat) : KV := sOt (lvK (lvK k a) b) (upd (upd (kOt (lvK (lvK k a) b)) a (nI b)) b (nI a))
def cpK (k : KV) (a b : Nat) : KV := if kOt k a = nI b then k else cpF k a b
def cpN (k : KV) (a b : Nat) : Nat := if kOt k a = nI b then 0 else lvN k a + lvN (lvK k a) b
theorem lvK_nt (k : KV) (t : Nat) : kNt (lvK k t) = kNt k := by unfold lvK; split <;> rfl
def acB (k : KV) (x y : Int32) : Bool := hasT k x && (hasT k y && decide (x ≠ y))
def acK (k : KV) (x y : Int32) : KV := if acB k x y then cpK k (ix x) (ix y) else k
def brB (k : KV) (x y : Int32) : Bool := hasT k x && isRm y
def brK (k : KV) (x y : Int32) : KV := if brB k x y then sRo k (upd (kRo k) (ix x) y) else k
def stB (x : Int32) : Bool := decide (0 ≤ x ∧ x < 8)
def stK (k : KV) (x : Int32) : KV := if stB x then sHr k (ix x) else k
def dgI (c : Int32) : Int32 := if c < 48 then -9 else if 57 < c then -9 else c - 48
def kdI (c : Int32) : Int32 := if c = 98 then 3 else if c = 109 then 5 else if c = 110 then 4 else if c = 115 then 2 else if c = 116 then 0 else if c = 119 then 1 else -9
/-- a statement obeyed -/
def obB (k : KV) (o a b : Int32) : Bool :=
  if o = 99 then hasL k (dgI a) else if o = 108 then alB k (dgI a) (dgI b) else if o = 109 then brB k (dgI a) (dgI b) else if o = 111 then acB k (dgI a) (dgI b) else if o = 116 then atB k (dgI b) else stB (dgI a)
def obK (k : KV) (o a b : Int32) : KV :=
  if o = 99 then tgK k (dgI a) else if o = 108 then alK k (dgI a) (dgI b) else if o = 109 then brK k (dgI a) (dgI b) else if o = 111 then acK k (dgI a) (dgI b) else if o = 116 then atK k (kdI a) (dgI b) else stK k (dgI a)
theorem btI_f {x y : Int32} : btI x y = false ↔ shr x y &&& 1 = 0 := by
  have h : ∀ z : Int32, z &&& 1 = 0 ∨ z &&& 1 = 1 := by
    intro z
    obtain ⟨j, hj, e⟩ := pk_andE z (m := 1) 1 rfl
    rw [e]
    rcases (show j = 0 ∨ j = 1 by omega) with rfl | rfl
    · exact Or.inl rfl
    · exact Or.inr rfl
  unfold btI
  rw [decide_eq_false_iff_not]
  rcases h (shr x y) with e | e
  · rw [e]; decide
  · rw [e]; decide
theorem btI_t {x y : Int32} : btI x y = true ↔ shr x y &&& 1 ≠ 0 := by
  have := @btI_f x y
  constructor
  · intro h e; rw [this.mpr e] at h; cases h
  · intro h
    cases hb : btI x y with
    | true => rfl
    | false => exact absurd (this.mp hb) h
theorem mmin_n (i j : Nat) (hi : i ≤ 1000) (hj : j ≤ 1000) : (if nI j < nI i then nI j else nI i) = nI (min i j) := by
  by_cases h : j < i
  · rw [if_pos (nI_lt h (by omega)), Nat.min_eq_right (by omega)]
  · rw [if_neg (nI_nlt (by omega) (by omega)), Nat.min_eq_left (by omega)]
theorem mmax_n (i j : Nat) (hi : i ≤ 1000) (hj : j ≤ 1000) : (if nI i < nI j then nI j else nI i) = nI (max i j) := by
  by_cases h : i < j
  · rw [if_pos (nI_lt h (by omega)), Nat.max_eq_right (by omega)]
  · rw [if_neg (nI_nlt (by omega) (by omega)), Nat.max_eq_left (by omega)]
/-- a line hung or not, as the class goes over its arrays -/
theorem bs_put {on tw : Nat → Int32} {hd : Int32} {thr : Bool} {n : Nat} {o : Nat → Int32} (h1 : vp_in (on n) 6) (h2 : vp_in (tw n) 6) (hc : (!thr && btI hd (nI n)) = false) (ho : ∀ r, r < 6 → o r = bsN on tw hd thr (nI r) n) (hne : on n ≠ tw n) :
    ∀ r, r < 6 → upd (upd o (ix (on n)) (o (ix (on n)) ||| shl 1 (tw n))) (ix (tw n)) (upd o (ix (on n)) (o (ix (on n)) ||| shl 1 (tw n)) (ix (tw n)) ||| shl 1 (on n)) r = bsN on tw hd thr (nI r) (n + 1) := by
  intro r hr
  obtain ⟨e1, l1⟩ := vin h1 (by omega)
  obtain ⟨e2, l2⟩ := vin h2 (by omega)
  have q1 : on n = nI r ↔ ix (on n) = r := by rw [← e1, nI_eq (by omega) (by omega), ixn (by omega)]
  have q2 : tw n = nI r ↔ ix (tw n) = r := by rw [← e2, nI_eq (by omega) (by omega), ixn (by omega)]
  have q3 : ix (on n) ≠ ix (tw n) := fun h => hne (by rw [← e1, ← e2, h])
  rw [bsN, hc]
  simp only [Bool.false_eq_true, if_false, q1, q2]
  by_cases a2 : ix (tw n) = r
  · have a1 : ¬ ix (on n) = r := fun h => q3 (h.trans a2.symm)
    rw [if_pos a2, if_neg a1, ← a2, upd_s, upd_n (Ne.symm q3), ho _ l2]
  · by_cases a1 : ix (on n) = r
    · rw [if_neg a2, if_pos a1, upd_n (Ne.symm a2), ← a1, upd_s, ho _ l1]
    · rw [if_neg a2, if_neg a1, upd_n (Ne.symm a2), upd_n (Ne.symm a1), ho _ hr]
theorem bs_skip {on tw : Nat → Int32} {hd : Int32} {thr : Bool} {n : Nat} {r : Int32} (hc : (!thr && btI hd (nI n)) = true) : bsN on tw hd thr r (n + 1) = bsN on tw hd thr r n := by
  rw [bsN, hc, if_pos rfl]
theorem bs_cong {on tw on' tw' : Nat → Int32} {hd : Int32} {thr : Bool} {r : Int32} : ∀ {n : Nat}, (∀ i, i < n → on' i = on i ∧ tw' i = tw i) → bsN on' tw' hd thr r n = bsN on tw hd thr r n
  | 0, _ => rfl
  | n + 1, h => by
    rw [bsN, bsN, bs_cong (n := n) (fun i hi => h i (by omega)), (h n (by omega)).1, (h n (by omega)).2]
theorem bs_thr {on tw : Nat → Int32} {hd hd' : Int32} {r : Int32} : ∀ {n : Nat}, bsN on tw hd true r n = bsN on tw hd' true r n
  | 0 => rfl
  | n + 1 => by
    rw [bsN, bsN, bs_thr (hd := hd) (hd' := hd') (n := n)]
    simp only [Bool.not_true, Bool.false_and]
/-- after a line more -/
theorem al_arr (thr : Bool) (hd : Int32) {k : KV} {i j : Nat} (hi : i < 6) (hj : j < 6) (hij : i ≠ j) (hb : (!thr && btI hd (nI (kNl k))) = false) : ∀ r, r < 6 →
    upd (upd (fun r => bsN (kOn k) (kTw k) hd thr (nI r) (kNl k)) i (bsN (kOn k) (kTw k) hd thr (nI i) (kNl k) ||| shl 1 (nI j))) j (upd (fun r => bsN (kOn k) (kTw k) hd thr (nI r) (kNl k)) i (bsN (kOn k) (kTw k) hd thr (nI i) (kNl k) ||| shl 1 (nI j)) j ||| shl 1 (nI i)) r
      = bsN (kOn (alF k (nI i) (nI j))) (kTw (alF k (nI i) (nI j))) hd thr (nI r) (kNl (alF k (nI i) (nI j))) := by
  intro r hr
  have e0 : ∀ x, bsN (kOn (alF k (nI i) (nI j))) (kTw (alF k (nI i) (nI j))) hd thr x (kNl k) = bsN (kOn k) (kTw k) hd thr x (kNl k) := fun x => bs_cong (fun q hq => ⟨upd_n (by omega), upd_n (by omega)⟩)
  have e1 : kOn (alF k (nI i) (nI j)) (kNl k) = nI (min i j) := (upd_s _ _ _).trans (mmin_n i j (by omega) (by omega))
  have e2 : kTw (alF k (nI i) (nI j)) (kNl k) = nI (max i j) := (upd_s _ _ _).trans (mmax_n i j (by omega) (by omega))
  have e3 : kNl (alF k (nI i) (nI j)) = kNl k + 1 := rfl
  rw [e3, bsN, hb, e0, e1, e2]
  simp only [Bool.false_eq_true, if_false]
  have q1 : nI (max i j) = nI r ↔ max i j = r := nI_eq (by omega) (by omega)
  have q2 : nI (min i j) = nI r ↔ min i j = r := nI_eq (by omega) (by omega)
  simp only [q1, q2]
  by_cases hlt : i < j
  · rw [Nat.min_eq_left (by omega), Nat.max_eq_right (by omega)]
    by_cases a2 : j = r
    · subst a2
      rw [if_pos rfl, if_neg hij, upd_s, upd_n (Ne.symm hij)]
    · by_cases a1 : i = r
      · subst a1
        rw [if_neg a2, if_pos rfl, upd_n (Ne.symm a2), upd_s]
      · rw [if_neg a2, if_neg a1, upd_n (Ne.symm a2), upd_n (Ne.symm a1)]
  · rw [Nat.min_eq_right (by omega), Nat.max_eq_left (by omega)]
    by_cases a2 : j = r
    · subst a2
      rw [if_neg hij, if_pos rfl, upd_s, upd_n (Ne.symm hij)]
    · by_cases a1 : i = r
      · subst a1
        rw [if_pos rfl, if_neg a2, upd_n (Ne.symm a2), upd_s]
      · rw [if_neg a1, if_neg a2, upd_n (Ne.symm a2), upd_n (Ne.symm a1)]
theorem if_K {α : Type} {b : Bool} {x y : α} (h : b = false) : y = (if b then x else y) := by rw [h]; rfl
theorem if_T {α : Type} {b : Bool} {x y : α} (h : b = true) : x = (if b then x else y) := by rw [h]; rfl
theorem vp_of_hasT {k : KV} {x : Int32} (h8 : kNt k ≤ 8) (h : hasT k x = true) : vp_in x 8 := by
  obtain ⟨t, ht, rfl⟩ := hasT_t h8 h
  exact vp_in_nI (by omega) (by omega)
/-! bits (out of kit/laws/BITS.to-paste) -/
def bt (x : Int32) (i : Nat) : Bool := x.toBitVec.getLsbD i
theorem b_ext {x y : Int32} (h : ∀ i, i < 32 → bt x i = bt y i) : x = y := Int32.toBitVec_inj.mp (BitVec.eq_of_getLsbD_eq (fun i hi => h i hi))
theorem b_or (x y : Int32) (i : Nat) : bt (x ||| y) i = (bt x i || bt y i) := by unfold bt; rw [Int32.toBitVec_or, BitVec.getLsbD_or]
theorem b_and (x y : Int32) (i : Nat) : bt (x &&& y) i = (bt x i && bt y i) := by unfold bt; rw [Int32.toBitVec_and, BitVec.getLsbD_and]
theorem b_xor (x y : Int32) (i : Nat) : bt (x ^^^ y) i = (bt x i ^^ bt y i) := by unfold bt; rw [Int32.toBitVec_xor, BitVec.getLsbD_xor]
theorem b_big {x : Int32} {i : Nat} (h : 32 ≤ i) : bt x i = false := BitVec.getLsbD_of_ge _ _ h
theorem b_255 (i : Nat) : bt 255 i = decide (i < 8) := by
  rcases Nat.lt_or_ge i 32 with h | h
  · exact (by decide +kernel : ∀ i, i < 32 → bt 255 i = decide (i < 8)) i h
  · rw [b_big h, decide_eq_false (by omega)]
theorem b_65535 (i : Nat) : bt 65535 i = decide (i < 16) := by
  rcases Nat.lt_or_ge i 32 with h | h
  · exact (by decide +kernel : ∀ i, i < 32 → bt 65535 i = decide (i < 16)) i h
  · rw [b_big h, decide_eq_false (by omega)]
theorem b_m1 : ∀ i, i < 32 → bt (-1) i = true := by decide +kernel
theorem b_0 (i : Nat) : bt 0 i = false := BitVec.getLsbD_zero
theorem s_l : ∀ n, n < 32 → ((nI n &&& 31).toBitVec.smod 32).toNat = n := by decide +kernel
theorem s_u : ∀ n, n < 32 → (((nI n).toUInt32 &&& Int32.toUInt32 31).toBitVec % 32).toNat = n := by decide +kernel
theorem b_shl (n : Nat) (hn : n < 32) (x : Int32) {i : Nat} (hi : i < 32) : bt (x <<< (nI n &&& 31)) i = (decide (n ≤ i) && bt x (i - n)) := by
  unfold bt
  rw [Int32.toBitVec_shiftLeft]
  show (x.toBitVec <<< ((nI n &&& 31).toBitVec.smod 32).toNat).getLsbD i = _
  rw [s_l n hn, BitVec.getLsbD_shiftLeft]
  rcases Nat.lt_or_ge i n with h | h
  · simp [h, Nat.not_le.mpr h]
  · simp [hi, h, Nat.not_lt.mpr h]
theorem b_ushr (n : Nat) (hn : n < 32) (x : Int32) (i : Nat) : bt ((x.toUInt32 >>> ((nI n).toUInt32 &&& Int32.toUInt32 31)).toInt32) i = bt x (n + i) := by
  show (x.toUInt32 >>> ((nI n).toUInt32 &&& Int32.toUInt32 31)).toBitVec.getLsbD i = x.toUInt32.toBitVec.getLsbD (n + i)
  rw [UInt32.toBitVec_shiftRight]
  show (x.toUInt32.toBitVec >>> (((nI n).toUInt32 &&& Int32.toUInt32 31).toBitVec % 32).toNat).getLsbD i = _
  rw [s_u n hn, BitVec.getLsbD_ushiftRight]
theorem b_sshr (n : Nat) (hn : n < 32) (x : Int32) {i : Nat} (hi : i < 32) : bt (x >>> (nI n &&& 31)) i = if n + i < 32 then bt x (n + i) else bt x 31 := by
  unfold bt
  rw [Int32.toBitVec_shiftRight]
  show (x.toBitVec.sshiftRight ((nI n &&& 31).toBitVec.smod 32).toNat).getLsbD i = _
  rw [s_l n hn, BitVec.getLsbD_sshiftRight, BitVec.msb_eq_getLsbD_last]
  simp [hi]
/-! the same for btI -/
theorem bt_1 : ∀ i, bt 1 i = decide (i = 0) := by
  intro i
  by_cases h : i < 32
  · revert i; decide +kernel
  · rw [b_big (by omega)]; symm; simp; omega
theorem btI_bt (x : Int32) {i : Nat} (hi : i < 32) : btI x (nI i) = bt x i := by
  have h0 : bt (shr x (nI i)) 0 = bt x i := by
    unfold shr
    rw [b_sshr i hi x (by omega), if_pos (by omega)]; rfl
  have h1 : bt (shr x (nI i) &&& 1) 0 = bt x i := by rw [b_and, bt_1, h0]; simp
  cases hb : bt x i with
  | true =>
    rw [btI_t]
    intro e
    rw [e, b_0, hb] at h1
    cases h1
  | false =>
    rw [btI_f]
    apply b_ext
    intro j hj
    rw [b_and, bt_1, b_0]
    by_cases hj0 : j = 0
    · subst hj0; rw [h0, hb]; rfl
    · simp [hj0]
theorem bt_sh1 {a i : Nat} (ha : a < 32) (hi : i < 32) : bt (shl 1 (nI a)) i = decide (i = a) := by
  unfold shl
  rw [b_shl a ha 1 hi, bt_1]
  by_cases h : i = a
  · subst h; simp
  · simp only [h, decide_false]
    by_cases h2 : a ≤ i
    · have : ¬ i - a = 0 := by omega
      simp [this]
    · simp [h2]
/-- a hung bit turned -/
theorem bt_xor (hd : Int32) {a i : Nat} (ha : a < 31) (hi : i < 31) (hne : i ≠ a) : btI (hd ^^^ shl 1 (nI a)) (nI i) = btI hd (nI i) := by
  rw [btI_bt _ (by omega), btI_bt _ (by omega), b_xor, bt_sh1 (by omega) (by omega), decide_eq_false hne, Bool.xor_false]
theorem ads_c {w w' : va_W} {r r' : Sg} (h : w'.map Prod.fst = w.map Prod.fst) (t : sg_ads r' = sg_ads r) : sg_ads (w' :: r') = sg_ads (w :: r) := by
  unfold sg_ads at t ⊢
  rw [List.map_cons, List.map_cons, h, t]
theorem ads_H (cy : ClassId) (ad : Nat → Nat) (k k' : KV) (jo op jo' op' : Nat → Int32) : (wHR cy ad k' jo' op').map Prod.fst = (wHR cy ad k jo op).map Prod.fst := rfl
theorem ads_T (cy : ClassId) (ad : Nat → Nat) (l l' : Nat → Int32) (n n' : Nat) : (wT cy ad l' n').map Prod.fst = (wT cy ad l n).map Prod.fst := rfl
theorem ads_G (cy : ClassId) (ad : Nat → Nat) (n n' : Nat) (a w a' w' : Nat → Int32) : (wG cy ad n' a' w').map Prod.fst = (wG cy ad n a w).map Prod.fst := rfl
theorem ads_X (cy : ClassId) (ad an am ak aT ag : Nat → Nat) (i i' : Bool) (n n' : Nat) (o v f o' v' f' : Nat → Int32) : (wX cy ad an am ak aT ag i' n' o' v' f').map Prod.fst = (wX cy ad an am ak aT ag i n o v f).map Prod.fst := rfl
theorem ads_M (cy : ClassId) (ad : Nat → Nat) (k k' : KV) (v v' : MV) : (wM cy ad k' v').map Prod.fst = (wM cy ad k v).map Prod.fst := rfl
