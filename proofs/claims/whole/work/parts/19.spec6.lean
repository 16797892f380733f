/-! the reference's small words -/
def wiB (x lo hi : Int32) : Bool := decide (lo ≤ x ∧ x ≤ hi)
theorem le_m1 {x : Int32} {n : Nat} (hn : n ≤ 1000) (h0 : 0 ≤ x) : x ≤ nI n - 1 ↔ x < nI n := by
  obtain ⟨j, hj, rfl⟩ := nI_of (Int32.not_lt.mpr h0)
  cases n with
  | zero =>
    constructor
    · intro h
      exact absurd (Int32.le_trans h0 h) (by decide)
    · intro h
      exact absurd (Int32.lt_of_le_of_lt h0 h) (by decide)
  | succ n =>
    rw [nI_pred, nI_leI hj (by omega), nI_ltI hj (by omega)]
    omega
theorem wi_m1 {x : Int32} {n : Nat} (hn : n ≤ 1000) : wiB x 0 (nI n - 1) = decide (0 ≤ x ∧ x < nI n) := by
  unfold wiB
  by_cases h0 : 0 ≤ x
  · simp only [h0, true_and, le_m1 hn h0]
  · simp only [h0, false_and]
theorem wi_5 {x : Int32} : wiB x 0 5 = isRm x := by
  have h := wi_m1 (x := x) (n := 6) (by omega)
  exact h
theorem oo_b {v : Int32} (h1 : ¬ v < 0) {hi : Int32} (h2 : ¬ hi < v) : ooI v 0 hi = 0 := by rw [ooI, if_neg h1, if_neg h2]
theorem oo_l {v hi : Int32} (h1 : v < 0) : ooI v 0 hi = -4 := by rw [ooI, if_pos h1]
theorem oo_h {v hi : Int32} (h1 : ¬ v < 0) (h2 : hi < v) : ooI v 0 hi = -6 := by rw [ooI, if_neg h1, if_pos h2]
theorem m4_0 : ¬ ((-4 : Int32) = 0) := by decide
theorem m6_0 : ¬ ((-6 : Int32) = 0) := by decide
theorem wi_2 {x : Int32} (h : wiB x 0 2 = true) : x = 0 ∨ x = 1 ∨ x = 2 := by
  have h := of_decide_eq_true h
  obtain ⟨j, hj, rfl⟩ := in_lt (n := 3) (by omega) h.1 (Int32.lt_of_le_of_lt h.2 (by decide))
  rcases (show j = 0 ∨ j = 1 ∨ j = 2 by omega) with rfl | rfl | rfl
  · exact Or.inl rfl
  · exact Or.inr (Or.inl rfl)
  · exact Or.inr (Or.inr rfl)
theorem wi_2f {x : Int32} (h : wiB x 0 2 = false) : ¬ x = 0 ∧ ¬ x = 1 ∧ ¬ x = 2 := by
  refine ⟨?_, ?_, ?_⟩ <;> (intro e; rw [e] at h; exact absurd h (by decide))
theorem wi_1 {x : Int32} (h : wiB x 0 1 = true) : x = 0 ∨ x = 1 := by
  have h := of_decide_eq_true h
  obtain ⟨j, hj, rfl⟩ := in_lt (n := 2) (by omega) h.1 (Int32.lt_of_le_of_lt h.2 (by decide))
  rcases (show j = 0 ∨ j = 1 by omega) with rfl | rfl
  · exact Or.inl rfl
  · exact Or.inr rfl
theorem wi_1f {x : Int32} (h : wiB x 0 1 = false) : ¬ x = 0 ∧ ¬ x = 1 := by
  refine ⟨?_, ?_⟩ <;> (intro e; rw [e] at h; exact absurd h (by decide))
/-- what is seen, as the reference has it -/
def plK (k : KV) (t h : Nat) : Int32 :=
  if kKi k t = 1 then bsF k false (kRo k t)
  else if kKi k t = 2 then bsF k false (kRo k t) ||| (if h = 4 then shl 1 (kRo k t) else 0)
  else if kKi k t = 3 then bsF k true (kRo k t) ||| shl 1 (kRo k t)
  else if kKi k t = 4 then (if 5 < h then bsF k false (kRo k t) ||| shl 1 (kRo k t) else 0)
  else if kKi k t = 5 then bsF k true (kRo k t) ||| shl 1 (kRo k t)
  else bsF k false (kRo k t) ||| shl 1 (kRo k t)
def fwN (k : KV) (t h : Nat) : Nat → Int32
  | 0 => plK k t h
  | u + 1 => if kKi k u ≠ 5 ∧ kRo k u = kRo k t then fwN k t h u ||| plK k u h else fwN k t h u
def fwK (k : KV) (t h : Nat) : Int32 := if kKi k t = 5 then fwN k t h (kNt k) else plK k t h
theorem or_ab {a b : Int32} (h : ∀ i, i < 32 → bt b i = true → bt a i = true) : a ||| b = a := by
  apply b_ext
  intro i hi
  rw [b_or]
  cases hb : bt b i with
  | false => simp
  | true => rw [h i hi hb]; rfl
theorem bs_sub {on tw : Nat → Int32} {hd : Int32} {r : Int32} : ∀ (n i : Nat), i < 32 → bt (bsN on tw hd false r n) i = true → bt (bsN on tw hd true r n) i = true
  | 0, i, _, h => by rw [bsN, b_0] at h; cases h
  | n + 1, i, hi, h => by
    have ih := bs_sub (on := on) (tw := tw) (hd := hd) (r := r) n i hi
    rw [bsN] at h ⊢
    simp only [Bool.not_true, Bool.false_and, Bool.false_eq_true, if_false]
    by_cases c : (!false && btI hd (nI n)) = true
    · rw [if_pos c] at h
      have h2 := ih h
      split
      · split
        · rw [b_or, b_or, h2]; rfl
        · rw [b_or, h2]; rfl
      · split
        · rw [b_or, h2]; rfl
        · exact h2
    · rw [if_neg c] at h
      by_cases c1 : tw n = r
      · rw [if_pos c1] at h ⊢
        by_cases c2 : on n = r
        · rw [if_pos c2] at h ⊢
          rw [b_or, b_or] at h ⊢
          simp only [Bool.or_eq_true] at h ⊢
          rcases h with (h | h) | h
          · exact Or.inl (Or.inl (ih h))
          · exact Or.inl (Or.inr h)
          · exact Or.inr h
        · rw [if_neg c2] at h ⊢
          rw [b_or] at h ⊢
          simp only [Bool.or_eq_true] at h ⊢
          rcases h with h | h
          · exact Or.inl (ih h)
          · exact Or.inr h
      · rw [if_neg c1] at h ⊢
        by_cases c2 : on n = r
        · rw [if_pos c2] at h ⊢
          rw [b_or] at h ⊢
          simp only [Bool.or_eq_true] at h ⊢
          rcases h with h | h
          · exact Or.inl (ih h)
          · exact Or.inr h
        · rw [if_neg c2] at h ⊢
          exact ih h
theorem pl_sub {k : KV} {u h i : Nat} (hi : i < 32) (hb : bt (plK k u h) i = true) : bt (bsF k true (kRo k u) ||| shl 1 (kRo k u)) i = true := by
  have s1 : ∀ z, bt (bsF k false z) i = true → bt (bsF k true z) i = true := fun z => bs_sub _ i hi
  rw [b_or, Bool.or_eq_true]
  have o1 : bt (bsF k false (kRo k u) ||| shl 1 (kRo k u)) i = true → bt (bsF k true (kRo k u)) i = true ∨ bt (shl 1 (kRo k u)) i = true := by
    intro hb
    rw [b_or, Bool.or_eq_true] at hb
    rcases hb with hb | hb
    · exact Or.inl (s1 _ hb)
    · exact Or.inr hb
  have o2 : bt (bsF k true (kRo k u) ||| shl 1 (kRo k u)) i = true → bt (bsF k true (kRo k u)) i = true ∨ bt (shl 1 (kRo k u)) i = true := by
    intro hb
    rwa [b_or, Bool.or_eq_true] at hb
  have o3 : bt (0 : Int32) i = true → bt (bsF k true (kRo k u)) i = true ∨ bt (shl 1 (kRo k u)) i = true := by
    intro hb
    rw [b_0] at hb; cases hb
  unfold plK at hb
  by_cases h1 : kKi k u = 1
  · rw [if_pos h1] at hb; exact Or.inl (s1 _ hb)
  · rw [if_neg h1] at hb
    by_cases h2 : kKi k u = 2
    · rw [if_pos h2] at hb
      by_cases q : h = 4
      · rw [if_pos q] at hb; exact o1 hb
      · rw [if_neg q, b_or, b_0, Bool.or_false] at hb; exact Or.inl (s1 _ hb)
    · rw [if_neg h2] at hb
      by_cases h3 : kKi k u = 3
      · rw [if_pos h3] at hb; exact o2 hb
      · rw [if_neg h3] at hb
        by_cases h4 : kKi k u = 4
        · rw [if_pos h4] at hb
          by_cases q : 5 < h
          · rw [if_pos q] at hb; exact o1 hb
          · rw [if_neg q] at hb; exact o3 hb
        · rw [if_neg h4] at hb
          by_cases h5 : kKi k u = 5
          · rw [if_pos h5] at hb; exact o2 hb
          · rw [if_neg h5] at hb; exact o1 hb
theorem fw_sf {k : KV} {t h : Nat} : fwK k t h = sfK k t h := by
  have oc : ∀ a b : Int32, a ||| b = b ||| a := fun a b => Int32.or_comm a b
  unfold fwK
  by_cases h5 : kKi k t = 5
  · rw [if_pos h5]
    have hp : plK k t h = bsF k true (kRo k t) ||| shl 1 (kRo k t) := by
      unfold plK; rw [h5]; rfl
    have hs : sfK k t h = shl 1 (kRo k t) ||| bsF k true (kRo k t) := by
      unfold sfK; rw [h5]; rfl
    have hn : ∀ n, fwN k t h n = plK k t h := by
      intro n
      induction n with
      | zero => rfl
      | succ n ih =>
        rw [fwN, ih]
        split
        · next q =>
          rw [hp]
          refine or_ab (fun i hi hb => ?_)
          have := pl_sub hi hb
          rwa [q.2] at this
        · rfl
    rw [hn, hp, hs, oc]
  · rw [if_neg h5]
    unfold plK sfK
    by_cases h1 : kKi k t = 1
    · rw [if_pos h1, if_pos h1]
    · rw [if_neg h1, if_neg h1]
      by_cases h2 : kKi k t = 2
      · rw [if_pos h2, if_pos h2]
        split
        · rw [oc]
        · exact or_ab (fun i _ hb => by rw [b_0] at hb; cases hb)
      · rw [if_neg h2, if_neg h2]
        by_cases h3 : kKi k t = 3
        · rw [if_pos h3, if_pos h3, oc]
        · rw [if_neg h3, if_neg h3]
          by_cases h4 : kKi k t = 4
          · rw [if_pos h4, if_pos h4]
            by_cases h6 : h < 6
            · rw [if_pos h6, if_neg (by omega)]
            · rw [if_neg h6, if_pos (by omega), oc]
          · rw [if_neg h4, if_neg h4, if_neg h5, if_neg h5, oc]
def lkF (k : KV) (h : Nat) (sn : Nat → Int32) : Nat → Int32 := fun t => if t < kNt k then sfK k t h else sn t
