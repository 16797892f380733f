/-! an image back; a feast, as the reference reckons it -/
def agA (k : KV) (i : Nat) (o w : Nat → Int32) : Prop := ∀ x, x < i → o x = kOn k x ∧ w x = kTw k x
theorem agA_s {k : KV} {i : Nat} {o w : Nat → Int32} (h : agA k i o w) : agA k (i + 1) (upd o i (kOn k i)) (upd w i (kTw k i)) := by
  intro x hx
  by_cases e : x = i
  · subst e; exact ⟨upd_s _ _ _, upd_s _ _ _⟩
  · rw [upd_n e, upd_n e]; exact h x (by omega)
def agB (k : KV) (i : Nat) (a b c d : Nat → Int32) : Prop := ∀ x, x < i → a x = kKi k x ∧ b x = kRo k x ∧ c x = kOt k x ∧ d x = kSe k x
theorem agB_s {k : KV} {i : Nat} {a b c d : Nat → Int32} (h : agB k i a b c d) : agB k (i + 1) (upd a i (kKi k i)) (upd b i (kRo k i)) (upd c i (kOt k i)) (upd d i (kSe k i)) := by
  intro x hx
  by_cases e : x = i
  · subst e; exact ⟨upd_s _ _ _, upd_s _ _ _, upd_s _ _ _, upd_s _ _ _⟩
  · rw [upd_n e, upd_n e, upd_n e, upd_n e]; exact h x (by omega)
theorem sm_all {od : Nat → Int32} {n : Nat} (hn : n ≤ 8) : ∀ m, m ≤ n → smN od (2 ^ n - 1) m = 0
  | 0, _ => rfl
  | m + 1, h => by
    have hb : (2 ^ n - 1).testBit m = true := by
      have := all_bt n hn m (by omega)
      rw [bt_nI (by omega), decide_eq_true (show m < n by omega)] at this
      exact this
    rw [smN, if_pos hb]
    exact sm_all hn m (by omega)
theorem add_0 (x : Int32) : (0 : Int32) + x = x := by rw [Int32.add_comm]; exact Int32.add_zero x
theorem ob_0 {k : KV} {room : Int32} {od : Nat → Int32} {c : Nat} (h : fsK (sRo k (roF k room c)) (kHr k) ≠ -9) : (0 : Int32) = obV k room od c := by
  rw [obV, if_neg h]
theorem ob_1 {k : KV} {room y : Int32} {od : Nat → Int32} {c : Nat} (h8 : kNt k ≤ 8) (h : fsK (sRo k (roF k room c)) (kHr k) = -9) (hy : y = (if c = 2 ^ kNt k - 1 then 1 else 0) + smN od c (kNt k)) : y = obV k room od c := by
  rw [obV, if_pos h, hy]
  by_cases e : c = 2 ^ kNt k - 1
  · rw [if_pos e, if_pos e, e, sm_all h8 _ (Nat.le_refl _)]; rfl
  · rw [if_neg e, if_neg e, add_0]
theorem fd_n9 {k : KV} {n j : Nat} (hj : j < 1000) (h : fdK k = fnd (fun h => decide (fsK k h ≠ -9)) nI (n + 1) j) (hf : fsK k j ≠ -9) : fdK k = nI j := by
  rw [h, fnd, if_pos (decide_eq_true hf)]
