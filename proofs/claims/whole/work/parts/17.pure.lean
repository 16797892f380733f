/-! what holds of a state stays so -/
theorem KW_ro {k : KV} {t r : Nat} (h : KW k) (hr : r < 6) : KW (sRo k (upd (kRo k) t (nI r))) :=
  ⟨h.1, h.2.1, h.2.2.1, HRo_upd h.2.2.2.1 hr, h.2.2.2.2⟩
theorem KW_br {k : KV} {x y : Int32} (h : KW k) : KW (brK k x y) := by
  unfold brK
  cases hb : brB k x y with
  | false => simpa using h
  | true =>
    rw [if_pos rfl]
    simp only [brB, Bool.and_eq_true] at hb
    obtain ⟨r, hr, rfl⟩ := isRm_t hb.2
    exact KW_ro h hr
theorem KW_st {k : KV} {x : Int32} (h : KW k) : KW (stK k x) := by
  unfold stK
  cases hb : stB x with
  | false => simpa using h
  | true =>
    rw [if_pos rfl]
    have hb := of_decide_eq_true hb
    obtain ⟨r, hr, rfl⟩ := in_lt (n := 8) (by omega) hb.1 hb.2
    exact ⟨h.1, h.2.1, h.2.2.1, h.2.2.2.1, h.2.2.2.2.1, h.2.2.2.2.2.1, by show ix (nI r) < 8; rw [ixn (by omega)]; exact hr, h.2.2.2.2.2.2.2⟩
theorem KW_tg {k : KV} {x : Int32} (h : KW k) : KW (tgK k x) := by
  unfold tgK
  cases hb : hasL k x with
  | false => simpa using h
  | true =>
    rw [if_pos rfl]
    obtain ⟨j, hj, rfl⟩ := hasL_t h.1.1 hb
    have h10 := h.1.1
    refine ⟨h.1, h.2.1, fun i hi hi2 => ?_, h.2.2.2⟩
    have hi : kNl k ≤ i := hi
    show btI (kHd k ^^^ shl 1 (nI j)) (nI i) = false
    rw [bt_xor _ (by omega) (by omega) (by omega)]
    exact h.2.2.1 i hi hi2
theorem KW_at {k : KV} {x y : Int32} (h : KW k) : KW (atK k x y) := by
  unfold atK
  cases hb : atB k y with
  | false => simpa using h
  | true =>
    rw [if_pos rfl]
    simp only [atB, Bool.and_eq_true, decide_eq_true_eq] at hb
    obtain ⟨r, hr, rfl⟩ := isRm_t hb.1
    refine ⟨h.1, h.2.1, h.2.2.1, fun t ht => ?_, fun t ht => ?_, ?_, h.2.2.2.2.2.2⟩
    · have ht : t < kNt k + 1 := ht
      show vp_in (upd (kRo k) (kNt k) (nI r) t) 6
      by_cases e : t = kNt k
      · rw [e, upd_s]; exact vp_in_nI hr (by omega)
      · rw [upd_n e]; exact h.2.2.2.1 t (by omega)
    · have ht : t < kNt k + 1 := ht
      show upd (kOt k) (kNt k) (-9) t = -9 ∨ ∃ u, u < kNt k + 1 ∧ u ≠ t ∧ upd (kOt k) (kNt k) (-9) t = nI u ∧ upd (kOt k) (kNt k) (-9) u = nI t
      by_cases e : t = kNt k
      · left; rw [e, upd_s]
      · rw [upd_n e]
        rcases h.2.2.2.2.1 t (by omega) with q | ⟨u, h1, h2, h3, h4⟩
        · exact Or.inl q
        · exact Or.inr ⟨u, by omega, h2, h3, by rw [upd_n (by omega)]; exact h4⟩
    · show kNt k + 1 ≤ 8
      omega
theorem KW_al {k : KV} {x y : Int32} (h : KW k) : KW (alK k x y) := by
  unfold alK
  cases hb : alB k x y with
  | false => simpa using h
  | true =>
    rw [if_pos rfl]
    simp only [alB, Bool.and_eq_true, decide_eq_true_eq] at hb
    obtain ⟨hx, hy, hxy, h10, -⟩ := hb
    obtain ⟨i, hi, rfl⟩ := isRm_t hx
    obtain ⟨j, hj, rfl⟩ := isRm_t hy
    have hij : i ≠ j := fun e => hxy (by rw [e])
    have e1 : kOn (alF k (nI i) (nI j)) (kNl k) = nI (min i j) := (upd_s _ _ _).trans (mmin_n i j (by omega) (by omega))
    have e2 : kTw (alF k (nI i) (nI j)) (kNl k) = nI (max i j) := (upd_s _ _ _).trans (mmax_n i j (by omega) (by omega))
    have e3 : ∀ q, q ≠ kNl k → kOn (alF k (nI i) (nI j)) q = kOn k q := fun q hq => upd_n hq
    have e4 : ∀ q, q ≠ kNl k → kTw (alF k (nI i) (nI j)) q = kTw k q := fun q hq => upd_n hq
    refine ⟨⟨?_, fun q hq => ?_⟩, fun q hq => ?_, fun q hq hq2 => ?_, h.2.2.2⟩
    · show kNl k + 1 ≤ 10
      omega
    · have hq : q < kNl k + 1 := hq
      by_cases e : q = kNl k
      · rw [e, e1, e2]
        exact ⟨vp_in_nI (by omega) (by omega), vp_in_nI (by omega) (by omega)⟩
      · rw [e3 q e, e4 q e]
        exact h.1.2 q (by omega)
    · have hq : q < kNl k + 1 := hq
      by_cases e : q = kNl k
      · rw [e, e1, e2]
        exact nI_lt (by omega) (by omega)
      · rw [e3 q e, e4 q e]
        exact h.2.1 q (by omega)
    · have hq : kNl k + 1 ≤ q := hq
      exact h.2.2.1 q (by omega) hq2
theorem nI_n9' {b : Nat} (h : b < 1024) : -9 ≠ nI b := fun e => nI_n9 h e.symm
/-- others in pairs: the partner of each -/
theorem HOt_cp {k : KV} {a b : Nat} (h8 : kNt k ≤ 8) (h : HOt k) (ha : a < kNt k) (hb : b < kNt k) (hab : a ≠ b) : HOt (cpK k a b) := by
  unfold cpK
  by_cases h0 : kOt k a = nI b
  · rw [if_pos h0]; exact h
  · rw [if_neg h0]
    have lv : ∀ (q : KV) (t : Nat), kNt q ≤ 8 → (kOt q t = -9 ∨ ∃ u, u < kNt q ∧ kOt q t = nI u) → ∀ j, kOt (lvK q t) j = if kOt q t = nI j ∧ j < kNt q then -9 else kOt q j := by
      intro q t hq h1 j
      unfold lvK
      rcases h1 with e | ⟨u, hu, e⟩
      · have hf : hasT q (kOt q t) = false := by rw [e]; exact decide_eq_false (fun z => absurd z.1 (by decide))
        rw [hf, if_neg (by decide), if_neg]
        rintro ⟨z, hz⟩
        rw [e] at z
        exact nI_n9' (by omega) z
      · have ht : hasT q (kOt q t) = true := by rw [e]; exact hasT_n hq hu
        rw [if_pos ht, e, ixn (by omega)]
        show upd (kOt q) u (-9) j = _
        by_cases ej : j = u
        · subst ej; rw [upd_s, if_pos ⟨rfl, hu⟩]
        · rw [upd_n ej, if_neg]
          rintro ⟨z, hz⟩
          exact ej ((nI_eq (by omega) (by omega)).mp z).symm
    have pa : ∀ t, t < kNt k → kOt k t = -9 ∨ ∃ u, u < kNt k ∧ kOt k t = nI u := fun t ht => by
      rcases h t ht with q | ⟨u, h1, -, h3, -⟩
      · exact Or.inl q
      · exact Or.inr ⟨u, h1, h3⟩
    have f1 := lv k a h8 (pa a ha)
    have e1b : kOt (lvK k a) b = kOt k b := by rw [f1 b, if_neg (fun q => h0 q.1)]
    have n1 : kNt (lvK k a) = kNt k := lvK_nt k a
    have f2 := lv (lvK k a) b (by rw [n1]; exact h8) (by rw [e1b, n1]; exact pa b hb)
    have n2 : kNt (cpF k a b) = kNt k := by
      show kNt (lvK (lvK k a) b) = kNt k
      rw [lvK_nt, n1]
    have g : ∀ j, kOt (cpF k a b) j = if j = b then nI a else if j = a then nI b else if (kOt k a = nI j ∨ kOt k b = nI j) ∧ j < kNt k then -9 else kOt k j := by
      intro j
      show upd (upd (kOt (lvK (lvK k a) b)) a (nI b)) b (nI a) j = _
      by_cases ejb : j = b
      · rw [if_pos ejb, ejb, upd_s]
      · rw [if_neg ejb, upd_n ejb]
        by_cases eja : j = a
        · rw [if_pos eja, eja, upd_s]
        · rw [if_neg eja, upd_n eja, f2 j, e1b, n1, f1 j]
          by_cases q1 : kOt k b = nI j ∧ j < kNt k
          · rw [if_pos q1, if_pos ⟨Or.inr q1.1, q1.2⟩]
          · rw [if_neg q1]
            by_cases q2 : kOt k a = nI j ∧ j < kNt k
            · rw [if_pos q2, if_pos ⟨Or.inl q2.1, q2.2⟩]
            · rw [if_neg q2, if_neg]
              rintro ⟨z | z, hz⟩
              · exact q2 ⟨z, hz⟩
              · exact q1 ⟨z, hz⟩
    intro t ht
    rw [n2] at ht
    by_cases etb : t = b
    · subst etb
      exact Or.inr ⟨a, by rw [n2]; exact ha, hab, by rw [g, if_pos rfl], by rw [g, if_neg hab, if_pos rfl]⟩
    · by_cases eta : t = a
      · subst eta
        exact Or.inr ⟨b, by rw [n2]; exact hb, Ne.symm hab, by rw [g, if_neg hab, if_pos rfl], by rw [g, if_pos rfl]⟩
      · rw [g t, if_neg etb, if_neg eta]
        by_cases q : (kOt k a = nI t ∨ kOt k b = nI t) ∧ t < kNt k
        · rw [if_pos q]; exact Or.inl rfl
        · rw [if_neg q]
          rcases h t ht with e | ⟨w, hw, hwt, h3, h4⟩
          · exact Or.inl e
          · refine Or.inr ⟨w, by rw [n2]; exact hw, hwt, h3, ?_⟩
            have na : w ≠ a := fun e => q ⟨Or.inl (by rw [← e]; exact h4), ht⟩
            have nb : w ≠ b := fun e => q ⟨Or.inr (by rw [← e]; exact h4), ht⟩
            rw [g w, if_neg nb, if_neg na, if_neg]
            · exact h4
            · rintro ⟨z | z, -⟩
              · rcases h a ha with e | ⟨v, hv, -, e5, e6⟩
                · rw [e] at z; exact nI_n9' (by omega) z
                · rw [e5] at z
                  have : v = w := (nI_eq (by omega) (by omega)).mp z
                  subst this
                  rw [e6] at h4
                  exact eta ((nI_eq (by omega) (by omega)).mp h4).symm
              · rcases h b hb with e | ⟨v, hv, -, e5, e6⟩
                · rw [e] at z; exact nI_n9' (by omega) z
                · rw [e5] at z
                  have : v = w := (nI_eq (by omega) (by omega)).mp z
                  subst this
                  rw [e6] at h4
                  exact etb ((nI_eq (by omega) (by omega)).mp h4).symm
theorem cpK_else (k : KV) (a b : Nat) : (kNl (cpK k a b) = kNl k ∧ kOn (cpK k a b) = kOn k ∧ kTw (cpK k a b) = kTw k ∧ kHd (cpK k a b) = kHd k ∧ kNt (cpK k a b) = kNt k ∧ kRo (cpK k a b) = kRo k ∧ kHr (cpK k a b) = kHr k ∧ kNs (cpK k a b) = kNs k) := by
  unfold cpK
  split
  · exact ⟨rfl, rfl, rfl, rfl, rfl, rfl, rfl, rfl⟩
  · unfold cpF lvK
    split <;> split <;> exact ⟨rfl, rfl, rfl, rfl, rfl, rfl, rfl, rfl⟩
theorem KW_cp {k : KV} {a b : Nat} (h : KW k) (ha : a < kNt k) (hb : b < kNt k) (hab : a ≠ b) : KW (cpK k a b) := by
  have ho := HOt_cp h.2.2.2.2.2.1 h.2.2.2.2.1 ha hb hab
  obtain ⟨q1, q2, q3, q4, q5, q6, q7, q8⟩ := cpK_else k a b
  refine ⟨⟨by rw [q1]; exact h.1.1, fun i hi => ?_⟩, fun i hi => ?_, fun i hi hi2 => ?_, fun t ht => ?_, ho, by rw [q5]; exact h.2.2.2.2.2.1, by rw [q7]; exact h.2.2.2.2.2.2.1, by rw [q8]; exact h.2.2.2.2.2.2.2⟩
  · rw [q2, q3]; exact h.1.2 i (by rw [q1] at hi; exact hi)
  · rw [q2, q3]; exact h.2.1 i (by rw [q1] at hi; exact hi)
  · rw [q4]; exact h.2.2.1 i (by rw [q1] at hi; exact hi) hi2
  · rw [q6]; exact h.2.2.2.1 t (by rw [q5] at ht; exact ht)
theorem KW_ac {k : KV} {x y : Int32} (h : KW k) : KW (acK k x y) := by
  unfold acK
  cases hb : acB k x y with
  | false => simpa using h
  | true =>
    rw [if_pos rfl]
    simp only [acB, Bool.and_eq_true, decide_eq_true_eq] at hb
    obtain ⟨i, hi, rfl⟩ := hasT_t h.2.2.2.2.2.1 hb.1
    obtain ⟨j, hj, rfl⟩ := hasT_t h.2.2.2.2.2.1 hb.2.1
    have h8 := h.2.2.2.2.2.1
    rw [ixn (by omega), ixn (by omega)]
    exact KW_cp h hi hj (fun e => hb.2.2 (by rw [e]))
theorem KW_ob {k : KV} {o a b : Int32} (h : KW k) : KW (obK k o a b) := by
  unfold obK
  repeat' split
  · exact KW_tg h
  · exact KW_al h
  · exact KW_br h
  · exact KW_ac h
  · exact KW_at h
  · exact KW_st h
