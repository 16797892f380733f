/-! the feast, a row judged -/
theorem nx_or (a b : Nat) : nI a ||| nI b = nI (a ||| b) := by
  apply Int32.toBitVec_inj.mp
  rw [Int32.toBitVec_or]
  show BitVec.ofNat 32 a ||| BitVec.ofNat 32 b = BitVec.ofNat 32 (a ||| b)
  apply BitVec.eq_of_getLsbD_eq
  intro i hi
  simp [BitVec.getLsbD_or, BitVec.getLsbD_ofNat, hi, Nat.testBit_or]
theorem allT_n {k : KV} (h : kNt k ≤ 8) : allT k = nI (2 ^ kNt k - 1) := by
  have h2 : ∀ n, n ≤ 8 → shl 1 (nI n) - 1 = nI (2 ^ n - 1) := by decide +kernel
  exact h2 _ h
theorem btI_n {c t : Nat} (ht : t < 31) : btI (nI c) (nI t) = c.testBit t := by
  rw [btI_bt _ (by omega)]
  show (BitVec.ofNat 32 c).getLsbD t = _
  rw [BitVec.getLsbD_ofNat]
  simp; omega
def roF (k : KV) (room : Int32) (c : Nat) : Nat → Int32 := fun t => if t < kNt k ∧ c.testBit t = true then room else kRo k t
def smN (od : Nat → Int32) (c : Nat) : Nat → Int32
  | 0 => 0
  | n + 1 => if c.testBit n = true then smN od c n else smN od c n + od (c ||| 2 ^ n)
def obV (k : KV) (room : Int32) (od : Nat → Int32) (c : Nat) : Int32 :=
  if fsK (sRo k (roF k room c)) (kHr k) = -9 then (if c = 2 ^ kNt k - 1 then 1 else smN od c (kNt k)) else 0
def oT (k : KV) (room : Int32) : Nat → Nat → Int32
  | 0 => fun _ => 0
  | d + 1 => upd (oT k room d) (2 ^ kNt k - 1 - d) (obV k room (oT k room d) (2 ^ kNt k - 1 - d))
theorem or_gt {c t : Nat} (h : c.testBit t = false) : c < c ||| 2 ^ t := by
  have h1 : c ≤ c ||| 2 ^ t := Nat.left_le_or
  have h2 : c ≠ c ||| 2 ^ t := by
    intro e
    have : (c ||| 2 ^ t).testBit t = true := by rw [Nat.testBit_or, Nat.testBit_two_pow_self]; simp
    rw [← e, h] at this
    cases this
  omega
theorem or_lt {c t n : Nat} (hc : c < 2 ^ n) (ht : t < n) : c ||| 2 ^ t < 2 ^ n := Nat.or_lt_two_pow hc (Nat.pow_lt_pow_right (by omega) ht)
theorem sm_cong {od od2 : Nat → Int32} {c n : Nat} (hc : c < 2 ^ n) (h : ∀ x, c < x → x < 2 ^ n → od x = od2 x) : ∀ m, m ≤ n → smN od c m = smN od2 c m
  | 0, _ => rfl
  | m + 1, hm => by
    rw [smN, smN, sm_cong hc h m (by omega)]
    cases hb : c.testBit m with
    | true => rfl
    | false => simp only [Bool.false_eq_true, if_false]; rw [h _ (or_gt hb) (or_lt hc (by omega))]
theorem ob_cong {k : KV} {room : Int32} {od od2 : Nat → Int32} {c : Nat} (hc : c < 2 ^ kNt k) (h : ∀ x, c < x → x < 2 ^ kNt k → od x = od2 x) : obV k room od c = obV k room od2 c := by
  unfold obV
  rw [sm_cong hc h _ (Nat.le_refl _)]
theorem oT_step {k : KV} {room : Int32} {od : Nat → Int32} {e : Nat} (he : e < 2 ^ kNt k) (h : ∀ c, e + 1 ≤ c → c < 2 ^ kNt k → od c = oT k room (2 ^ kNt k - (e + 1)) c) : ∀ c, e ≤ c → c < 2 ^ kNt k → upd od e (obV k room od e) c = oT k room (2 ^ kNt k - e) c := by
  intro c hc hcl
  have e1 : 2 ^ kNt k - e = (2 ^ kNt k - (e + 1)) + 1 := by omega
  have e2 : 2 ^ kNt k - 1 - (2 ^ kNt k - (e + 1)) = e := by omega
  rw [e1, oT, e2]
  by_cases q : c = e
  · subst q
    rw [upd_s, upd_s]
    exact ob_cong he (fun x h1 h2 => h x h1 h2)
  · rw [upd_n q, upd_n q]
    exact h c (by omega) hcl
def fcV (od : Nat → Int32) (n : Nat) : Int32 := if 0 < od 0 then fnd (fun t => decide (0 < od (2 ^ t))) nI n 0 else -9
theorem fnd_cong {P P' : Nat → Bool} {g : Nat → Int32} : ∀ (n i : Nat), (∀ j, i ≤ j → j < i + n → P j = P' j) → fnd P g n i = fnd P' g n i
  | 0, _, _ => rfl
  | n + 1, i, h => by
    rw [fnd, fnd, h i (Nat.le_refl _) (by omega), fnd_cong n (i + 1) (fun j h1 h2 => h j (by omega) (by omega))]
theorem fcV_cong {od od2 : Nat → Int32} {n : Nat} (h : ∀ c, c < 2 ^ n → od c = od2 c) : fcV od n = fcV od2 n := by
  unfold fcV
  rw [h 0 (Nat.two_pow_pos n), fnd_cong n 0 (P' := fun t => decide (0 < od2 (2 ^ t))) (fun j _ hj => by rw [h _ (Nat.pow_lt_pow_right (by omega) (by omega))])]
def feO (k : KV) (room w : Int32) : Bool := isRm room && (moB w && decide (kNt k ≤ 7))
def feA (k : KV) (room w : Int32) : Int32 :=
  if isRm room then (if moB w then (if kNt k ≤ 7 then (if w = 0 then oT k room (2 ^ kNt k) 0 else fcV (oT k room (2 ^ kNt k)) (kNt k)) else -3) else -2) else -1
theorem ro_end {k : KV} {room : Int32} {c : Nat} {o : Nat → Int32} (h1 : ∀ t, t < kNt k → o t = roF k room c t) (h2 : ∀ t, kNt k ≤ t → o t = kRo k t) : o = roF k room c := by
  funext t
  by_cases h : t < kNt k
  · exact h1 t h
  · rw [h2 t (by omega), roF, if_neg (fun q => h q.1)]
theorem roF_ro {k : KV} {room : Int32} {c : Nat} (hr : HRo k) (hi : vp_in room 6) : HRo (sRo k (roF k room c)) := by
  intro t ht
  show vp_in (roF k room c t) 6
  unfold roF
  split
  · exact hi
  · exact hr t ht
