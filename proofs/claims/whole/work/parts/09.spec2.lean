/-! What the public calls answer, and what they leave -/
def ooI (v lo hi : Int32) : Int32 := if v < lo then -4 else if hi < v then -6 else 0
theorem oo_0 {v lo hi : Int32} (h : ooI v lo hi = 0) : lo ≤ v ∧ v ≤ hi := by
  unfold ooI at h
  by_cases h1 : v < lo
  · rw [if_pos h1] at h; exact absurd h (by decide)
  · rw [if_neg h1] at h
    by_cases h2 : hi < v
    · rw [if_pos h2] at h; exact absurd h (by decide)
    · exact ⟨Int32.not_lt.mp h1, Int32.not_lt.mp h2⟩
theorem oo_in {v lo hi : Int32} : vp_in (-(ooI v lo hi)) 7 := by
  unfold ooI
  by_cases h1 : v < lo
  · rw [if_pos h1]; exact vp_in_nI (n := 4) (by omega) (by omega)
  · rw [if_neg h1]
    by_cases h2 : hi < v
    · rw [if_pos h2]; exact vp_in_nI (n := 6) (by omega) (by omega)
    · rw [if_neg h2]; exact vp_in_nI (n := 0) (by omega) (by omega)
theorem rf_1 : vp_in (-(-1 : Int32)) 7 := vp_in_nI (n := 1) (by omega) (by omega)
theorem rf_2 : vp_in (-(-2 : Int32)) 7 := vp_in_nI (n := 2) (by omega) (by omega)
theorem rf_3 : vp_in (-(-3 : Int32)) 7 := vp_in_nI (n := 3) (by omega) (by omega)
theorem rf_4 : vp_in (-(-4 : Int32)) 7 := vp_in_nI (n := 4) (by omega) (by omega)
theorem rf_6 : vp_in (-(-6 : Int32)) 7 := vp_in_nI (n := 6) (by omega) (by omega)
def rfU (rf : Nat → Int32) (x : Int32) : Nat → Int32 := upd rf (ix (-x)) (rf (ix (-x)) + 1)
/-- refusals behind a call: as before, or one more of its answer -/
def rfB (b : Bool) (rf : Nat → Int32) (x : Int32) : Nat → Int32 := if b then rf else rfU rf x
def lcB (n : Nat) (c : Int32) : Bool := decide (ooI c 0 255 = 0) && decide (n < 80)
def lcA (n : Nat) (c : Int32) : Int32 := if ooI c 0 255 = 0 then (if n < 80 then nI (n + 1) else -6) else ooI c 0 255
def lcT (lt : Nat → Int32) (n : Nat) (c : Int32) : Nat → Int32 := if lcB n c then upd lt n c else lt
def lcN (n : Nat) (c : Int32) : Nat := if lcB n c then n + 1 else n
def thB (k : KV) (t w : Int32) : Bool := hasT k t && (decide (w = 0) || (decide (w = 1) || decide (w = 2)))
def thA (k : KV) (t w : Int32) : Int32 := if hasT k t then (if w = 0 then kKi k (ix t) else if w = 1 then kRo k (ix t) else if w = 2 then kOt k (ix t) else -2) else -1
def liB (k : KV) (t w : Int32) : Bool := hasL k t && (decide (w = 0) || (decide (w = 1) || decide (w = 2)))
def liA (k : KV) (t w : Int32) : Int32 := if hasL k t then (if w = 0 then kOn k (ix t) else if w = 1 then kTw k (ix t) else if w = 2 then shr (kHd k) t &&& 1 else -2) else -1
def ctA (k : KV) (t : Int32) : Int32 := if hasL k t then shr (kHd k ^^^ shl 1 t) t &&& 1 else -1
def mvA (k : KV) (t r : Int32) : Int32 := if brB k t r then kRo k (ix t) else -1
def paA (k : KV) (x y : Int32) : Int32 := if acB k x y then nI (cpN k (ix x) (ix y)) else -1
def hrA (k : KV) (v : Int32) : Int32 := if ooI v 0 7 = 0 then nI (kHr k) else ooI v 0 7
def hrK (k : KV) (v : Int32) : KV := if ooI v 0 7 = 0 then sHr k (ix v) else k
def frB (k : KV) (t h : Int32) : Bool := hasT k t && decide (ooI h 0 7 = 0)
def frA (k : KV) (t h : Int32) : Int32 := if hasT k t then (if ooI h 0 7 = 0 then sfK k (ix t) (ix h) else ooI h 0 7) else -1
def siB (h w : Int32) : Bool := decide (ooI h 0 7 = 0) && (decide (w = 0) || decide (w = 1))
def siA (k : KV) (h w : Int32) : Int32 := if ooI h 0 7 = 0 then (if w = 0 then nI (scK k (ix h)) else if w = 1 then fsK k (ix h) else -2) else ooI h 0 7
def roB (mc : Nat) (v : Int32) : Bool := decide (ooI v 0 99 = 0) && decide (mc < 12)
def roA (mc : Nat) (v : Int32) : Int32 := if ooI v 0 99 = 0 then (if mc < 12 then nI (mc + 1) else -6) else ooI v 0 99
def roM (mv : Nat → Int32) (mc : Nat) (v : Int32) : Nat → Int32 := if roB mc v then upd mv mc v else mv
def roN (mc : Nat) (v : Int32) : Nat := if roB mc v then mc + 1 else mc
def onA (k' : KV) (b : Bool) : Int32 := if b then nI (kNt k') else -3
def onK (k k' : KV) (b : Bool) : KV := if b then k' else k
def bc1 (x : Int32) : Int32 := x - (ushr x 1 &&& 1431655765)
def bc2 (x : Int32) : Int32 := (x &&& 858993459) + (ushr x 2 &&& 858993459)
def bc3 (x : Int32) : Int32 := (x + ushr x 4) &&& 252645135
def bc4 (x : Int32) : Int32 := x + ushr x 8
def bc5 (x : Int32) : Int32 := x + ushr x 16
def bcI (x : Int32) : Int32 := bc5 (bc4 (bc3 (bc2 (bc1 x)))) &&& 63
def cnA (k : KV) (n mc : Nat) (rf : Nat → Int32) (w : Int32) : Int32 :=
  if w = 0 then nI (kNt k) else if w = 1 then nI (kNl k) else if w = 2 then nI (kHr k) else if w = 3 then bcI (kHd k) else if w = 4 then nI (ccK k) else if w = 5 then nI (kNs k) else if w = 6 then nI mc else if w = 7 then nI n
  else if w < 11 then -9 else if 16 < w then -9 else rf (ix (w - 10))
theorem cn_in {w : Int32} (h1 : 11 ≤ w) (h2 : w ≤ 16) : vp_in (w - 10) 7 := by
  obtain ⟨j, hj, rfl⟩ := nI_of2 (M := 16) (n := 16) rfl (Int32.not_lt.mpr (Int32.le_trans (by decide) h1)) h2
  have h3 : 11 ≤ j := (nI_leI (a := 11) (by omega) (by omega)).mp h1
  rw [show nI j - 10 = nI (j - 10) from pk_sub (b := 10) (by omega)]
  exact vp_in_nI (by omega) (by omega)
