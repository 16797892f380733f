/-! the reference's small words -/
def wiB (x lo hi : Int32) : Bool := decide (lo ≤ x ∧ x ≤ hi)
theorem le_m1 {x : Int32} {n : Nat} (hn : n ≤ 1000) (h0 : 0 ≤ x) : x ≤ nI n - 1 ↔ x < nI n := by
  obtain ⟨j, hj, rfl⟩ := nI_of (Int32.not_lt.mpr h0)
  cases n with
  | zero =>
    constructor
    · intro h
      exact absurd (Int32.le_trans h0 h) (by decide)
    · intro h
      exact absurd (Int32.lt_of_le_of_lt h0 h) (by decide)
  | succ n =>
    rw [nI_pred, nI_leI hj (by omega), nI_ltI hj (by omega)]
    omega
theorem wi_m1 {x : Int32} {n : Nat} (hn : n ≤ 1000) : wiB x 0 (nI n - 1) = decide (0 ≤ x ∧ x < nI n) := by
  unfold wiB
  by_cases h0 : 0 ≤ x
  · simp only [h0, true_and, le_m1 hn h0]
  · simp only [h0, false_and]
theorem wi_5 {x : Int32} : wiB x 0 5 = isRm x := by
  have h := wi_m1 (x := x) (n := 6) (by omega)
  exact h
theorem oo_b {v : Int32} (h1 : ¬ v < 0) {hi : Int32} (h2 : ¬ hi < v) : ooI v 0 hi = 0 := by rw [ooI, if_neg h1, if_neg h2]
theorem oo_l {v hi : Int32} (h1 : v < 0) : ooI v 0 hi = -4 := by rw [ooI, if_pos h1]
theorem oo_h {v hi : Int32} (h1 : ¬ v < 0) (h2 : hi < v) : ooI v 0 hi = -6 := by rw [ooI, if_neg h1, if_pos h2]
theorem m4_0 : ¬ ((-4 : Int32) = 0) := by decide
theorem m6_0 : ¬ ((-6 : Int32) = 0) := by decide
theorem wi_2 {x : Int32} (h : wiB x 0 2 = true) : x = 0 ∨ x = 1 ∨ x = 2 := by
  have h := of_decide_eq_true h
  obtain ⟨j, hj, rfl⟩ := in_lt (n := 3) (by omega) h.1 (Int32.lt_of_le_of_lt h.2 (by decide))
  rcases (show j = 0 ∨ j = 1 ∨ j = 2 by omega) with rfl | rfl | rfl
  · exact Or.inl rfl
  · exact Or.inr (Or.inl rfl)
  · exact Or.inr (Or.inr rfl)
theorem wi_2f {x : Int32} (h : wiB x 0 2 = false) : ¬ x = 0 ∧ ¬ x = 1 ∧ ¬ x = 2 := by
  refine ⟨?_, ?_, ?_⟩ <;> (intro e; rw [e] at h; exact absurd h (by decide))
theorem wi_1 {x : Int32} (h : wiB x 0 1 = true) : x = 0 ∨ x = 1 := by
  have h := of_decide_eq_true h
  obtain ⟨j, hj, rfl⟩ := in_lt (n := 2) (by omega) h.1 (Int32.lt_of_le_of_lt h.2 (by decide))
  rcases (show j = 0 ∨ j = 1 by omega) with rfl | rfl
  · exact Or.inl rfl
  · exact Or.inr rfl
theorem wi_1f {x : Int32} (h : wiB x 0 1 = false) : ¬ x = 0 ∧ ¬ x = 1 := by
  refine ⟨?_, ?_⟩ <;> (intro e; rw [e] at h; exact absurd h (by decide))
