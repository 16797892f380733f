/-! the looking about in mind -/
theorem upd_u (f : Nat → Int32) (t : Nat) (v w : Int32) : upd (upd f t v) t w = upd f t w := by
  funext j
  unfold upd
  split <;> rfl
theorem upd_b (f : Nat → Int32) (t : Nat) (v : Int32) : upd (upd f t v) t (f t) = f := by
  funext j
  unfold upd
  split
  · next h => rw [h]
  · rfl
def snN (k : KV) (room : Int32) (h : Nat) : Nat → Int32
  | 0 => 0
  | n + 1 => snN k room h n ||| shl (shr (sfK k n h) room &&& 1) (nI n)
def snB (room h : Int32) : Bool := isRm room && decide (ooI h 0 7 = 0)
def snA (k : KV) (room h : Int32) : Int32 := if isRm room then (if ooI h 0 7 = 0 then snN k room (ix h) (kNt k) else ooI h 0 7) else -1
/-- curtains: the best of the first b -/
def cuN (k : KV) : Nat → Int32
  | 0 => -9
  | b + 1 => if (cuN k b = -9 ∨ bcI (nI b) < bcI (cuN k b)) ∧ fsK (sHd k (nI b)) (kHr k) = -9 then nI b else cuN k b
def cuA (k : KV) : Int32 := cuN k (2 ^ kNl k)
def cuF (x : Int32) : Int32 := if x = -9 then 11 else bcI x
theorem bc_lt : ∀ b, b < 1024 → bcI (nI b) < 11 := by decide +kernel
theorem shl1_n : ∀ n, n ≤ 10 → shl 1 (nI n) = nI (2 ^ n) := by decide +kernel
theorem pw_le {n : Nat} (h : n ≤ 10) : 2 ^ n ≤ 1024 := Nat.pow_le_pow_right (n := 2) (by omega) h
theorem nI_n9 {b : Nat} (h : b < 1024) : nI b ≠ -9 := by
  intro e
  have h1 : (nI b) < 0 := by rw [e]; decide
  exact absurd h1 (nI_pos (by omega))
def gvN (k : KV) (t : Nat) : Nat → Int32
  | 0 => 0
  | n + 1 => if n ≠ t ∧ kOt k n = -9 ∧ emK k t n 8 0 = false then gvN k t n ||| shl 1 (nI n) else gvN k t n
def gvA (k : KV) (t : Int32) : Int32 := if hasT k t then (if kOt k (ix t) = -9 then gvN k (ix t) (kNt k) else -3) else -1
def gvB (k : KV) (t : Int32) : Bool := hasT k t && decide (kOt k (ix t) = -9)
def clN (k : KV) (t : Nat) : Nat → Int32
  | 0 => 0
  | r + 1 => if fdK (sRo k (upd (kRo k) t (nI r))) = -9 then clN k t r ||| shl 1 (nI r) else clN k t r
def clA (k : KV) (t : Int32) : Int32 := if hasT k t then clN k (ix t) 6 else -1
def nxI (z : Int32) : Int32 := z * 1664525 + 1013904223
def dwI (z : Int32) (b : Int32) : Int32 := if 0 < b then (z &&& 2147483647) / 256 - (z &&& 2147483647) / 256 / b * b else 0
theorem dw_ex (z : Int32) (b : Nat) : ∃ r : Nat, 0 < b → b < 1000 → dwI z (nI b) = nI r ∧ r < b := by
  refine ⟨z.toBitVec.toNat % 2 ^ 31 / 256 % b, fun h0 hb => ⟨?_, Nat.mod_lt _ h0⟩⟩
  have e : z &&& 2147483647 = nI (z.toBitVec.toNat % 2 ^ 31) := pk_and z 31 rfl
  have hl : z.toBitVec.toNat % 2 ^ 31 < 2 ^ 31 := Nat.mod_lt _ (by decide)
  generalize z.toBitVec.toNat % 2 ^ 31 = w at e hl
  have hq : w / 256 < 2 ^ 31 := Nat.lt_of_le_of_lt (Nat.div_le_self _ _) hl
  unfold dwI
  rw [if_pos (show (0 : Int32) < nI b from nI_lt (a := 0) h0 (by omega)), e, show (256 : Int32) = nI 256 from rfl, pk_div hl (by decide) (by decide), pk_rem hq h0 (by omega)]
noncomputable def dwN (z : Int32) (b : Nat) : Nat := Classical.choose (dw_ex z b)
theorem dw_n (z : Int32) {b : Nat} (h0 : 0 < b) (hb : b < 1000) : dwI z (nI b) = nI (dwN z b) := (Classical.choose_spec (dw_ex z b) h0 hb).1
theorem dw_lt (z : Int32) {b : Nat} (h0 : 0 < b) (hb : b < 1000) : dwN z b < b := (Classical.choose_spec (dw_ex z b) h0 hb).2
/-- seeds: the seed, the rooms, how many, behind i steps -/
noncomputable def sdU (k : KV) (x : Int32 × (Nat → Int32) × Nat) : Int32 × (Nat → Int32) × Nat :=
  (nxI (nxI x.1), upd x.2.1 (dwN (nxI x.1) (kNt k)) (nI (dwN (nxI (nxI x.1)) 6)), if fsK (sRo k (upd x.2.1 (dwN (nxI x.1) (kNt k)) (nI (dwN (nxI (nxI x.1)) 6)))) (kHr k) = -9 then x.2.2 else x.2.2 + 1)
noncomputable def sdS (k : KV) (z : Int32) : Nat → Int32 × (Nat → Int32) × Nat
  | 0 => (z, kRo k, 0)
  | i + 1 => sdU k (sdS k z i)
theorem sdU_ro {k : KV} {x : Int32 × (Nat → Int32) × Nat} (h8 : kNt k ≤ 8) (hr : HRo (sRo k x.2.1)) : HRo (sRo k (sdU k x).2.1) := by
  intro t ht
  have ht : t < kNt k := ht
  show vp_in (upd x.2.1 _ _ t) 6
  by_cases h : t = dwN (nxI x.1) (kNt k)
  · rw [h, upd_s]; exact vp_in_nI (dw_lt _ (by omega) (by omega)) (by omega)
  · rw [upd_n h]; exact hr t ht
theorem sdS_ro {k : KV} {z : Int32} (h8 : kNt k ≤ 8) (hr : HRo k) (i : Nat) : HRo (sRo k (sdS k z i).2.1) := by
  induction i with
  | zero => exact hr
  | succ i ih => exact sdU_ro h8 ih
theorem sdU_le (k : KV) (x : Int32 × (Nat → Int32) × Nat) : (sdU k x).2.2 ≤ x.2.2 + 1 := by
  unfold sdU
  generalize fsK _ _ = q
  show (if q = -9 then x.2.2 else x.2.2 + 1) ≤ _
  split <;> omega
theorem sdS_le (k : KV) (z : Int32) (i : Nat) : (sdS k z i).2.2 ≤ i := by
  induction i with
  | zero => exact Nat.le_refl _
  | succ i ih =>
    have h := sdU_le k (sdS k z i)
    show (sdU k (sdS k z i)).2.2 ≤ i + 1
    omega
def sdB (k : KV) (n : Int32) : Bool := decide (ooI n 1 30 = 0) && decide (kNt k ≠ 0)
noncomputable def sdA (k : KV) (n z : Int32) : Int32 := if ooI n 1 30 = 0 then (if kNt k = 0 then -3 else nI (sdS k z (ix n)).2.2) else ooI n 1 30
/-- the first cure by one thing moved; whether two can -/
def fcR (k : KV) (h t : Nat) : Nat → Nat → Int32
  | 0, _ => -9
  | f + 1, r => if nI r ≠ kRo k t ∧ fsK (sRo k (upd (kRo k) t (nI r))) h = -9 then nI (10 * t + r) else fcR k h t f (r + 1)
def fcT (k : KV) (h : Nat) : Nat → Nat → Int32
  | 0, _ => -9
  | f + 1, t => if fcR k h t 6 0 = -9 then fcT k h f (t + 1) else fcR k h t 6 0
def fcK (k : KV) (h least : Nat) : Int32 := fcT k h (kNt k - least) least
def tcR (k : KV) (h t : Nat) : Nat → Nat → Bool
  | 0, _ => false
  | f + 1, r => if nI r ≠ kRo k t ∧ fcK (sRo k (upd (kRo k) t (nI r))) h (t + 1) ≠ -9 then true else tcR k h t f (r + 1)
def tcT (k : KV) (h : Nat) : Nat → Nat → Bool
  | 0, _ => false
  | f + 1, t => if tcR k h t 6 0 then true else tcT k h f (t + 1)
def tcK (k : KV) (h : Nat) : Bool := tcT k h (kNt k) 0
def moB (w : Int32) : Bool := decide (w = 0) || decide (w = 1)
def moA (k : KV) (w : Int32) : Int32 :=
  if moB w then (if fsK k (kHr k) = -9 then (if w = 0 then 0 else -9) else if w = 1 then fcK k (kHr k) 0 else if fcK k (kHr k) 0 = -9 then (if tcK k (kHr k) then 2 else -9) else 1) else -2
/-- a row of moves looked at: the first that can't be, or behind which there is a sin -/
def dvI (x : Int32) : Int32 := x / 10
def rmI (x : Int32) : Int32 := x - x / 10 * 10
def jdB (k : KV) (x : Int32) : Bool := hasT k (dvI x) && isRm (rmI x)
def jdN (k : KV) (mv : Nat → Int32) : Nat → Nat → (Nat → Int32) → Int32
  | 0, _, _ => -9
  | f + 1, i, o =>
    if jdB k (mv i) then
      (if fsK (sRo k (upd o (ix (dvI (mv i))) (rmI (mv i)))) (min i 7) = -9 then jdN k mv f (i + 1) (upd o (ix (dvI (mv i))) (rmI (mv i))) else nI i)
    else nI i
def jdA (k : KV) (mv : Nat → Int32) (n : Nat) : Int32 := jdN k mv n 0 (kRo k)
theorem jd_step {k : KV} {mv : Nat → Int32} {n j t r : Nat} {o : Nat → Int32} (hj : j < n) (h8 : kNt k ≤ 8) (ht : t < kNt k) (h6 : r < 6) (et : dvI (mv j) = nI t) (er : rmI (mv j) = nI r) :
    jdN k mv (n - j) j o = if fsK (sRo k (upd o t (nI r))) (min j 7) = -9 then jdN k mv (n - (j + 1)) (j + 1) (upd o t (nI r)) else nI j := by
  have hb : jdB k (mv j) = true := by
    rw [jdB, et, er, hasT_n h8 ht]
    exact decide_eq_true ⟨nI_pos' (by omega), nI_lt (b := 6) h6 (by omega)⟩
  rw [show n - j = (n - (j + 1)) + 1 by omega, jdN, if_pos hb, et, er, ixn (by omega)]
theorem jd_stop {k : KV} {mv : Nat → Int32} {n j : Nat} {o : Nat → Int32} (hj : j < n) (hb : jdB k (mv j) = false) : jdN k mv (n - j) j o = nI j := by
  rw [show n - j = (n - (j + 1)) + 1 by omega, jdN, if_neg (by rw [hb]; exact Bool.false_ne_true)]
def tgB (k : KV) (x : Int32) : Bool := decide (x &&& (allT k ^^^ (-1)) = 0)
def tgA (k : KV) (x : Int32) : Int32 := if tgB k x then (if kNs k < 8 then nI (kNs k + 1) else -6) else -1
def tgO (k : KV) (x : Int32) : Bool := tgB k x && decide (kNs k < 8)
def tgS (k : KV) (x : Int32) : KV := if tgO k x then sNs (sSe k (upd (kSe k) (kNs k) x)) (kNs k + 1) else k
theorem cu_skip {k : KV} {b : Nat} (hb : b < 1024) (h : ¬ bcI (nI b) < cuF (cuN k b)) : cuN k b = cuN k (b + 1) := by
  rw [cuN, if_neg]
  rintro ⟨h1, -⟩
  apply h
  unfold cuF
  rcases h1 with h1 | h1
  · rw [if_pos h1]; exact bc_lt b hb
  · split
    · exact bc_lt b hb
    · exact h1
theorem cu_sin {k : KV} {b : Nat} (h : fsK (sHd k (nI b)) (kHr k) ≠ -9) : cuN k b = cuN k (b + 1) := by
  rw [cuN, if_neg (fun q => h q.2)]
theorem cu_take {k : KV} {b : Nat} (hb : b < 1024) (h1 : bcI (nI b) < cuF (cuN k b)) (h : fsK (sHd k (nI b)) (kHr k) = -9) : nI b = cuN k (b + 1) ∧ bcI (nI b) = cuF (cuN k (b + 1)) := by
  have hx : cuN k b = -9 ∨ bcI (nI b) < bcI (cuN k b) := by
    unfold cuF at h1
    by_cases q : cuN k b = -9
    · exact Or.inl q
    · rw [if_neg q] at h1; exact Or.inr h1
  have e : cuN k (b + 1) = nI b := by rw [cuN, if_pos ⟨hx, h⟩]
  rw [e, cuF, if_neg (nI_n9 hb)]
  exact ⟨rfl, rfl⟩
theorem HRo_upd {k : KV} {t r : Nat} (h : HRo k) (hr : r < 6) : HRo (sRo k (upd (kRo k) t (nI r))) := by
  intro u hu
  show vp_in (upd (kRo k) t (nI r) u) 6
  by_cases e : u = t
  · rw [e, upd_s]; exact vp_in_nI hr (by omega)
  · rw [upd_n e]; exact h u hu
theorem upd_self (f : Nat → Int32) (t : Nat) : upd f t (f t) = f := by
  funext j
  unfold upd
  split
  · next h => rw [h]
  · rfl
