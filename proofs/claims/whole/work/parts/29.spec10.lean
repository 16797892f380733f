/-! a text read, as the reference reads it -/
def isB (lt : Nat → Int32) (n a : Nat) (x : Int32) : Bool := decide (a < n ∧ lt a = x)
def isN (lt : Nat → Int32) (n a : Nat) (x : Int32) : Nat := if isB lt n a x then a + 1 else a
def dgB (lt : Nat → Int32) (n a : Nat) : Bool := decide (a < n ∧ dgI (lt a) ≠ -9)
def dgN (lt : Nat → Int32) (n a : Nat) : Nat := if dgB lt n a then a + 1 else a
def dgV (lt : Nat → Int32) (n a i : Nat) (w : Nat → Int32) : Nat → Int32 := if dgB lt n a then upd w i (dgI (lt a)) else w
def kdB (lt : Nat → Int32) (n a : Nat) : Bool := decide (a < n ∧ kdI (lt a) ≠ -9)
theorem isB_t {lt : Nat → Int32} {n a : Nat} {x : Int32} (h : isB lt n a x = true) : a < n ∧ lt a = x := of_decide_eq_true h
theorem isB_f {lt : Nat → Int32} {n a : Nat} {x : Int32} (h : isB lt n a x = false) (ha : a < n) : lt a ≠ x := fun e => of_decide_eq_false h ⟨ha, e⟩
theorem isN_t {lt : Nat → Int32} {n a : Nat} {x : Int32} (h : isB lt n a x = true) : isN lt n a x = a + 1 := if_pos h
theorem isN_f {lt : Nat → Int32} {n a : Nat} {x : Int32} (h : isB lt n a x = false) : isN lt n a x = a := if_neg (by rw [h]; decide)
theorem dgN_t {lt : Nat → Int32} {n a : Nat} (h : dgB lt n a = true) : dgN lt n a = a + 1 := if_pos h
theorem dgN_f {lt : Nat → Int32} {n a : Nat} (h : dgB lt n a = false) : dgN lt n a = a := if_neg (by rw [h]; decide)
theorem dgV_t {lt : Nat → Int32} {n a i : Nat} {w : Nat → Int32} (h : dgB lt n a = true) : dgV lt n a i w = upd w i (dgI (lt a)) := if_pos h
theorem dgV_f {lt : Nat → Int32} {n a i : Nat} {w : Nat → Int32} (h : dgB lt n a = false) : dgV lt n a i w = w := if_neg (by rw [h]; decide)
theorem dg_c {c : Int32} (h : dgI c ≠ -9) : ∃ d, d < 10 ∧ dgI c = nI d ∧ c = nI (48 + d) := by
  unfold dgI at h ⊢
  by_cases h1 : c < 48
  · rw [if_pos h1] at h; exact absurd rfl h
  · rw [if_neg h1] at h ⊢
    by_cases h2 : 57 < c
    · rw [if_pos h2] at h; exact absurd rfl h
    · rw [if_neg h2]
      obtain ⟨j, hj, rfl⟩ := in_lt (n := 58) (by omega) (Int32.le_trans (by decide) (Int32.not_lt.mp h1)) (Int32.lt_of_le_of_lt (Int32.not_lt.mp h2) (by decide))
      have h3 : 48 ≤ j := (nI_leI (a := 48) (by omega) (by omega)).mp (Int32.not_lt.mp h1)
      refine ⟨j - 48, by omega, pk_sub (b := 48) h3, by rw [show 48 + (j - 48) = j by omega]⟩
theorem dg_d {lt : Nat → Int32} {n a : Nat} (h : dgB lt n a = true) : ∃ d, d < 10 ∧ dgI (lt a) = nI d := by
  obtain ⟨d, h1, h2, -⟩ := dg_c (of_decide_eq_true h).2
  exact ⟨d, h1, h2⟩
theorem dg_59 {c : Int32} (h : dgI c ≠ -9) : c ≠ 59 := fun e => h (by rw [e]; decide)
theorem kd_59 {c : Int32} (h : kdI c ≠ -9) : c ≠ 59 := fun e => h (by rw [e]; decide)
theorem ki_kd {c : Int32} (h : kdI c ≠ -9) : 0 < c ∧ 0 ≤ kiI c ∧ kiI c = kdI c := by
  unfold kdI at h
  unfold kiI kdI
  by_cases h1 : c = 98
  · subst h1; decide
  · by_cases h2 : c = 109
    · subst h2; decide
    · by_cases h3 : c = 110
      · subst h3; decide
      · by_cases h4 : c = 115
        · subst h4; decide
        · by_cases h5 : c = 116
          · subst h5; decide
          · by_cases h6 : c = 119
            · subst h6; decide
            · rw [if_neg h1, if_neg h2, if_neg h3, if_neg h4, if_neg h5, if_neg h6] at h
              exact absurd rfl h
theorem ki_no {c : Int32} (h : ¬ 0 < c ∨ kiI c < 0) : kdI c = -9 := by
  by_cases q : kdI c = -9
  · exact q
  · obtain ⟨a, b, -⟩ := ki_kd q
    rcases h with h | h
    · exact absurd a h
    · exact absurd h (Int32.not_lt.mpr b)
/-- of a statement's body: how many letters are right, and whether it is whole -/
def stM (lt : Nat → Int32) (n a : Nat) : Nat × Bool :=
  if a < n then
    if lt a = 99 ∨ lt a = 104 then (if dgB lt n (a + 1) then (2, true) else (1, false))
    else if lt a = 116 then (if kdB lt n (a + 1) then (if dgB lt n (a + 2) then (3, true) else (2, false)) else (1, false))
    else if lt a = 108 ∨ lt a = 111 ∨ lt a = 109 then (if dgB lt n (a + 1) then (if dgB lt n (a + 2) then (3, true) else (2, false)) else (1, false))
    else (0, false)
  else (0, false)
theorem st_c {lt : Nat → Int32} {n a : Nat} (ha : a < n) (h : lt a = 99 ∨ lt a = 104) : stM lt n a = (if dgB lt n (a + 1) then (2, true) else (1, false)) := by
  rw [stM, if_pos ha, if_pos h]
theorem st_t {lt : Nat → Int32} {n a : Nat} (ha : a < n) (h : lt a = 116) : stM lt n a = (if kdB lt n (a + 1) then (if dgB lt n (a + 2) then (3, true) else (2, false)) else (1, false)) := by
  rw [stM, if_pos ha, if_neg (by rw [h]; decide), if_pos h]
theorem st_l {lt : Nat → Int32} {n a : Nat} (ha : a < n) (h : lt a = 108 ∨ lt a = 111 ∨ lt a = 109) : stM lt n a = (if dgB lt n (a + 1) then (if dgB lt n (a + 2) then (3, true) else (2, false)) else (1, false)) := by
  rw [stM, if_pos ha, if_neg (by rcases h with h | h | h <;> rw [h] <;> decide), if_neg (by rcases h with h | h | h <;> rw [h] <;> decide), if_pos h]
theorem st_0 {lt : Nat → Int32} {n a : Nat} (h : a < n → lt a ≠ 99 ∧ lt a ≠ 104 ∧ lt a ≠ 116 ∧ lt a ≠ 108 ∧ lt a ≠ 111 ∧ lt a ≠ 109) : stM lt n a = (0, false) := by
  unfold stM
  by_cases ha : a < n
  · obtain ⟨h1, h2, h3, h4, h5, h6⟩ := h ha
    rw [if_pos ha, if_neg (fun q => q.elim h1 h2), if_neg h3, if_neg (fun q => q.elim h4 (fun q => q.elim h5 h6))]
  · rw [if_neg ha]
/-- the place of the first letter that doesn't fit, step by step -/
theorem fu_go {lt : Nat → Int32} {n s i : Nat} (hi : i < n) (hf : fitB (lt s) (i - s) (lt i) = true) (h : lt i ≠ 59) : fuK lt n (n - i) s i = fuK lt n (n - (i + 1)) s (i + 1) := by
  rw [show n - i = (n - (i + 1)) + 1 by omega, fuK, if_pos hf, if_neg h]
theorem fu_no {lt : Nat → Int32} {n s i : Nat} (hi : i < n) (hf : fitB (lt s) (i - s) (lt i) = false) : fuK lt n (n - i) s i = nI i := by
  rw [show n - i = (n - (i + 1)) + 1 by omega, fuK, if_neg (by rw [hf]; decide)]
theorem fu_se {lt : Nat → Int32} {n s i : Nat} (hi : i < n) (hf : fitB (lt s) (i - s) (lt i) = true) (h : lt i = 59) : fuK lt n (n - i) s i = fuK lt n (n - (i + 1)) (i + 1) (i + 1) := by
  rw [show n - i = (n - (i + 1)) + 1 by omega, fuK, if_pos hf, if_pos h]
theorem fu_en {lt : Nat → Int32} {n s : Nat} (h : s < n) : fuK lt n (n - n) s n = nI n := by
  rw [Nat.sub_self, fuK, if_neg (fun q => by omega)]
theorem fit_0 {f c : Int32} : fitB f 0 c = decide (0 < stN f) := by rw [fitB, if_pos rfl]
theorem fit_d {f c : Int32} {p : Nat} (h0 : p ≠ 0) (h1 : nI p ≠ nI (stN f) - 1) (h2 : ¬ (f = 116 ∧ p = 1)) : fitB f p c = decide (dgI c ≠ -9) := by rw [fitB, if_neg h0, if_neg h1, if_neg h2]
theorem fit_k {c : Int32} : fitB 116 1 c = decide (kdI c ≠ -9) := by
  rw [fitB, if_neg (by decide), if_neg (by decide), if_pos ⟨rfl, rfl⟩]
theorem fit_e {f c : Int32} {p : Nat} (h0 : p ≠ 0) (h1 : nI p = nI (stN f) - 1) : fitB f p c = decide (c = 59) := by rw [fitB, if_neg h0, if_pos h1]
theorem sub_a (a p : Nat) : a + p - a = p := by omega
/-- the semicolon behind a whole body -/
theorem fu_semi {lt : Nat → Int32} {n a m : Nat} (hm : m ≠ 0) (ham : a + m ≤ n) (he : nI m = nI (stN (lt a)) - 1) : fuK lt n (n - (a + m)) a (a + m) = (if isB lt n (a + m) 59 then fuK lt n (n - (a + m + 1)) (a + m + 1) (a + m + 1) else nI (a + m)) := by
  by_cases hn : a + m < n
  · have hf : fitB (lt a) (a + m - a) (lt (a + m)) = decide (lt (a + m) = 59) := by rw [sub_a]; exact fit_e hm he
    by_cases hs : lt (a + m) = 59
    · rw [if_pos (show isB lt n (a + m) 59 = true from decide_eq_true ⟨hn, hs⟩)]
      exact fu_se hn (by rw [hf]; exact decide_eq_true hs) hs
    · rw [if_neg (show ¬ isB lt n (a + m) 59 = true from fun q => hs (of_decide_eq_true q).2)]
      exact fu_no hn (by rw [hf]; exact decide_eq_false hs)
  · have e : a + m = n := by omega
    rw [if_neg (show ¬ isB lt n (a + m) 59 = true from fun q => hn (of_decide_eq_true q).1), e]
    exact fu_en (by omega)
/-- a letter that must be a digit (or of a kind) -/
theorem fu_dg {lt : Nat → Int32} {n a p : Nat} (hp : p ≠ 0) (ham : a + p ≤ n) (he : nI p ≠ nI (stN (lt a)) - 1) (h2 : ¬ (lt a = 116 ∧ p = 1)) : fuK lt n (n - (a + p)) a (a + p) = (if dgB lt n (a + p) then fuK lt n (n - (a + p + 1)) a (a + p + 1) else nI (a + p)) := by
  by_cases hn : a + p < n
  · have hf : fitB (lt a) (a + p - a) (lt (a + p)) = decide (dgI (lt (a + p)) ≠ -9) := by rw [sub_a]; exact fit_d hp he h2
    by_cases hs : dgI (lt (a + p)) ≠ -9
    · rw [if_pos (show dgB lt n (a + p) = true from decide_eq_true ⟨hn, hs⟩)]
      exact fu_go hn (by rw [hf]; exact decide_eq_true hs) (dg_59 hs)
    · rw [if_neg (show ¬ dgB lt n (a + p) = true from fun q => hs (of_decide_eq_true q).2)]
      exact fu_no hn (by rw [hf]; exact decide_eq_false hs)
  · have e : a + p = n := by omega
    rw [if_neg (show ¬ dgB lt n (a + p) = true from fun q => hn (of_decide_eq_true q).1), e]
    exact fu_en (by omega)
theorem fu_kd {lt : Nat → Int32} {n a : Nat} (ham : a + 1 ≤ n) (h : lt a = 116) : fuK lt n (n - (a + 1)) a (a + 1) = (if kdB lt n (a + 1) then fuK lt n (n - (a + 1 + 1)) a (a + 1 + 1) else nI (a + 1)) := by
  by_cases hn : a + 1 < n
  · have hf : fitB (lt a) (a + 1 - a) (lt (a + 1)) = decide (kdI (lt (a + 1)) ≠ -9) := by rw [sub_a, h]; exact fit_k
    by_cases hs : kdI (lt (a + 1)) ≠ -9
    · rw [if_pos (show kdB lt n (a + 1) = true from decide_eq_true ⟨hn, hs⟩)]
      exact fu_go hn (by rw [hf]; exact decide_eq_true hs) (kd_59 hs)
    · rw [if_neg (show ¬ kdB lt n (a + 1) = true from fun q => hs (of_decide_eq_true q).2)]
      exact fu_no hn (by rw [hf]; exact decide_eq_false hs)
  · have e : a + 1 = n := by omega
    rw [if_neg (show ¬ kdB lt n (a + 1) = true from fun q => hn (of_decide_eq_true q).1), e]
    exact fu_en (by omega)
theorem fu_1 {lt : Nat → Int32} {n a : Nat} (ha : a < n) (h0 : 0 < stN (lt a)) (h : lt a ≠ 59) : fuK lt n (n - a) a a = fuK lt n (n - (a + 1)) a (a + 1) := fu_go ha (by rw [Nat.sub_self, fit_0]; exact decide_eq_true h0) h
theorem dgB_lt {lt : Nat → Int32} {n a : Nat} (h : dgB lt n a = true) : a < n := (of_decide_eq_true h).1
theorem kdB_lt {lt : Nat → Int32} {n a : Nat} (h : kdB lt n a = true) : a < n := (of_decide_eq_true h).1
/-- both readers come to the same place -/
theorem fu_st {lt : Nat → Int32} {n a : Nat} (han : a ≤ n) (hz : a = n → n = 0) : fuK lt n (n - a) a a = (if (stM lt n a).2 then (if isB lt n (a + (stM lt n a).1) 59 then fuK lt n (n - (a + (stM lt n a).1 + 1)) (a + (stM lt n a).1 + 1) (a + (stM lt n a).1 + 1) else nI (a + (stM lt n a).1)) else nI (a + (stM lt n a).1)) ∧ a + (stM lt n a).1 ≤ n ∧ ((stM lt n a).2 = true → stN (lt a) = (stM lt n a).1 + 1 ∧ 2 ≤ (stM lt n a).1) := by
  by_cases ha : a < n
  · by_cases h1 : lt a = 99 ∨ lt a = 104
    · have hN : stN (lt a) = 3 := by rcases h1 with h | h <;> rw [h] <;> decide
      rw [st_c ha h1, fu_1 ha (by omega) (by rcases h1 with h | h <;> rw [h] <;> decide), fu_dg (p := 1) (by decide) (by omega) (by rw [hN]; decide) (by rcases h1 with h | h <;> rw [h] <;> decide)]
      cases hd : dgB lt n (a + 1) with
      | true =>
        have := dgB_lt hd
        refine ⟨?_, by show a + 2 ≤ n; omega, fun _ => ⟨hN, by decide⟩⟩
        exact fu_semi (m := 2) (by decide) (by omega) (by rw [hN]; decide)
      | false => exact ⟨rfl, by show a + 1 ≤ n; omega, fun q => by cases q⟩
    · by_cases h2 : lt a = 116
      · have hN : stN (lt a) = 4 := by rw [h2]; decide
        rw [st_t ha h2, fu_1 ha (by omega) (by rw [h2]; decide), fu_kd (by omega) h2]
        cases hk : kdB lt n (a + 1) with
        | true =>
          have := kdB_lt hk
          have e2 := fu_dg (lt := lt) (n := n) (a := a) (p := 2) (by decide) (by omega) (by rw [hN]; decide) (fun q => absurd q.2 (by decide))
          cases hd : dgB lt n (a + 2) with
          | true =>
            have := dgB_lt hd
            refine ⟨?_, by show a + 3 ≤ n; omega, fun _ => ⟨hN, by decide⟩⟩
            rw [hd] at e2
            exact e2.trans (fu_semi (m := 3) (by decide) (by omega) (by rw [hN]; decide))
          | false =>
            rw [hd] at e2
            exact ⟨e2, by show a + 2 ≤ n; omega, fun q => by cases q⟩
        | false => exact ⟨rfl, by show a + 1 ≤ n; omega, fun q => by cases q⟩
      · by_cases h3 : lt a = 108 ∨ lt a = 111 ∨ lt a = 109
        · have hN : stN (lt a) = 4 := by rcases h3 with h | h | h <;> rw [h] <;> decide
          rw [st_l ha h3, fu_1 ha (by omega) (by rcases h3 with h | h | h <;> rw [h] <;> decide), fu_dg (p := 1) (by decide) (by omega) (by rw [hN]; decide) (fun q => h2 q.1)]
          cases hk : dgB lt n (a + 1) with
          | true =>
            have := dgB_lt hk
            have e2 := fu_dg (lt := lt) (n := n) (a := a) (p := 2) (by decide) (by omega) (by rw [hN]; decide) (fun q => absurd q.2 (by decide))
            cases hd : dgB lt n (a + 2) with
            | true =>
              have := dgB_lt hd
              refine ⟨?_, by show a + 3 ≤ n; omega, fun _ => ⟨hN, by decide⟩⟩
              rw [hd] at e2
              exact e2.trans (fu_semi (m := 3) (by decide) (by omega) (by rw [hN]; decide))
            | false =>
              rw [hd] at e2
              exact ⟨e2, by show a + 2 ≤ n; omega, fun q => by cases q⟩
          | false => exact ⟨rfl, by show a + 1 ≤ n; omega, fun q => by cases q⟩
        · have hs : stM lt n a = (0, false) := st_0 (fun _ => ⟨fun q => h1 (Or.inl q), fun q => h1 (Or.inr q), h2, fun q => h3 (Or.inl q), fun q => h3 (Or.inr (Or.inl q)), fun q => h3 (Or.inr (Or.inr q))⟩)
          have hN : stN (lt a) = 0 := by
            unfold stN
            rw [if_neg (fun q => h1 (Or.inl q)), if_neg (fun q => h1 (Or.inr q)), if_neg (fun q => h3 (Or.inl q)), if_neg (fun q => h3 (Or.inr (Or.inr q))), if_neg (fun q => h3 (Or.inr (Or.inl q))), if_neg h2]
          rw [hs]
          refine ⟨?_, han, fun q => by cases q⟩
          exact fu_no ha (by rw [Nat.sub_self, fit_0, hN]; rfl)
  · have e : a = n := by omega
    have hs : stM lt n a = (0, false) := st_0 (fun q => absurd q ha)
    rw [hs]
    refine ⟨?_, han, fun q => by cases q⟩
    have hn0 := hz e
    subst hn0
    subst e
    rfl
/-- the same for what is done -/
theorem rd_sk {lt : Nat → Int32} {n s i cn : Nat} {k : KV} (hi : i < n) (h : lt i ≠ 59) : rdK lt (n - i) s i cn k = rdK lt (n - (i + 1)) s (i + 1) cn k := by
  rw [show n - i = (n - (i + 1)) + 1 by omega, rdK, if_neg (fun q => h q.1)]
theorem rd_ob {lt : Nat → Int32} {n s i cn : Nat} {k : KV} (hi : i < n) (h : lt i = 59) (hs : s + 2 ≤ i) : rdK lt (n - i) s i cn k = (if obB k (lt s) (lt (s + 1)) (lt (s + 2)) then rdK lt (n - (i + 1)) (i + 1) (i + 1) (cn + 1) (obK k (lt s) (lt (s + 1)) (lt (s + 2))) else (-2000 - nI s, obK k (lt s) (lt (s + 1)) (lt (s + 2)))) := by
  rw [show n - i = (n - (i + 1)) + 1 by omega, rdK, if_pos ⟨h, hs⟩]
theorem st_59 {lt : Nat → Int32} {n a : Nat} (hc : (stM lt n a).2 = true) : a < n ∧ (∀ p, p < (stM lt n a).1 → lt (a + p) ≠ 59) := by
  by_cases ha : a < n
  · refine ⟨ha, ?_⟩
    by_cases h1 : lt a = 99 ∨ lt a = 104
    · rw [st_c ha h1] at hc ⊢
      cases hd : dgB lt n (a + 1) with
      | false => rw [hd] at hc; cases hc
      | true =>
        intro p hp
        have hp : p < 2 := hp
        rcases (show p = 0 ∨ p = 1 by omega) with rfl | rfl
        · show lt a ≠ 59
          rcases h1 with h | h <;> rw [h] <;> decide
        · exact dg_59 (of_decide_eq_true hd).2
    · by_cases h2 : lt a = 116
      · rw [st_t ha h2] at hc ⊢
        cases hk : kdB lt n (a + 1) with
        | false => rw [hk] at hc; cases hc
        | true =>
          rw [hk] at hc
          cases hd : dgB lt n (a + 2) with
          | false => rw [hd] at hc; cases hc
          | true =>
            intro p hp
            have hp : p < 3 := hp
            rcases (show p = 0 ∨ p = 1 ∨ p = 2 by omega) with rfl | rfl | rfl
            · show lt a ≠ 59
              rw [h2]; decide
            · exact kd_59 (of_decide_eq_true hk).2
            · exact dg_59 (of_decide_eq_true hd).2
      · by_cases h3 : lt a = 108 ∨ lt a = 111 ∨ lt a = 109
        · rw [st_l ha h3] at hc ⊢
          cases hk : dgB lt n (a + 1) with
          | false => rw [hk] at hc; cases hc
          | true =>
            rw [hk] at hc
            cases hd : dgB lt n (a + 2) with
            | false => rw [hd] at hc; cases hc
            | true =>
              intro p hp
              have hp : p < 3 := hp
              rcases (show p = 0 ∨ p = 1 ∨ p = 2 by omega) with rfl | rfl | rfl
              · show lt a ≠ 59
                rcases h3 with h | h | h <;> rw [h] <;> decide
              · exact dg_59 (of_decide_eq_true hk).2
              · exact dg_59 (of_decide_eq_true hd).2
        · rw [st_0 (fun _ => ⟨fun q => h1 (Or.inl q), fun q => h1 (Or.inr q), h2, fun q => h3 (Or.inl q), fun q => h3 (Or.inr (Or.inl q)), fun q => h3 (Or.inr (Or.inr q))⟩)] at hc
          cases hc
  · rw [st_0 (fun q => absurd q ha)] at hc
    cases hc
theorem rd_st {lt : Nat → Int32} {n a m cn : Nat} {k : KV} (hlt : a + m < n) (h59 : ∀ p, p < m → lt (a + p) ≠ 59) (hs : lt (a + m) = 59) (h2 : 2 ≤ m) : rdK lt (n - a) a a cn k = (if obB k (lt a) (lt (a + 1)) (lt (a + 2)) then rdK lt (n - (a + m + 1)) (a + m + 1) (a + m + 1) (cn + 1) (obK k (lt a) (lt (a + 1)) (lt (a + 2))) else (-2000 - nI a, obK k (lt a) (lt (a + 1)) (lt (a + 2)))) := by
  have go : ∀ p, p ≤ m → rdK lt (n - a) a a cn k = rdK lt (n - (a + p)) a (a + p) cn k := by
    intro p
    induction p with
    | zero => intro _; rfl
    | succ p ih =>
      intro hp
      rw [ih (by omega), rd_sk (by omega) (h59 p (by omega))]
      rfl
  rw [go m (Nat.le_refl _), rd_ob hlt hs (by omega)]
/-- a text that fits: at the head of a statement -/
theorem wf_st {lt : Nat → Int32} {n a : Nat} (h80 : n ≤ 80) (han : a < n) (h : fuK lt n (n - a) a a = -9) : (stM lt n a).2 = true ∧ a + (stM lt n a).1 < n ∧ lt (a + (stM lt n a).1) = 59 ∧ fuK lt n (n - (a + (stM lt n a).1 + 1)) (a + (stM lt n a).1 + 1) (a + (stM lt n a).1 + 1) = -9 := by
  obtain ⟨e, hle, -⟩ := fu_st (lt := lt) (n := n) (a := a) (by omega) (fun q => by omega)
  rw [h] at e
  cases hc : (stM lt n a).2 with
  | false => rw [hc] at e; exact absurd e (nI_n9' (by omega))
  | true =>
    rw [hc] at e
    simp only [if_true] at e
    cases hs : isB lt n (a + (stM lt n a).1) 59 with
    | false => rw [hs] at e; exact absurd e (nI_n9' (by omega))
    | true =>
      rw [hs] at e
      have hb := isB_t hs
      exact ⟨rfl, hb.1, hb.2, e.symm⟩
/-! a line that there is -/
def olF (k : KV) (lo hi : Int32) : Nat → Nat → Bool
  | 0, _ => false
  | n + 1, i => if kOn k i = lo ∧ kTw k i = hi then true else olF k lo hi n (i + 1)
theorem ol_n {k : KV} {lo hi : Int32} : ∀ n i, (olF k lo hi n i = true ↔ ∃ j, i ≤ j ∧ j < i + n ∧ kOn k j = lo ∧ kTw k j = hi)
  | 0, i => ⟨fun h => (by cases h), fun ⟨j, h1, h2, _⟩ => absurd h2 (by omega)⟩
  | n + 1, i => by
    rw [olF]
    by_cases h : kOn k i = lo ∧ kTw k i = hi
    · rw [if_pos h]
      exact ⟨fun _ => ⟨i, Nat.le_refl _, by omega, h⟩, fun _ => rfl⟩
    · rw [if_neg h, ol_n n (i + 1)]
      constructor
      · rintro ⟨j, h1, h2, h3⟩; exact ⟨j, by omega, by omega, h3⟩
      · rintro ⟨j, h1, h2, h3⟩
        refine ⟨j, ?_, by omega, h3⟩
        by_cases e : j = i
        · rw [e] at h3; exact absurd h3 h
        · omega
theorem jo_bt {k : KV} {r q : Nat} (hr : r < 6) (hq : q < 6) (hv : ∀ i, i < kNl k → vp_in (kOn k i) 6 ∧ vp_in (kTw k i) 6) : ∀ n, n ≤ kNl k → (bt (bsN (kOn k) (kTw k) 0 true (nI r) n) q = true ↔ ∃ j, j < n ∧ ((kTw k j = nI r ∧ kOn k j = nI q) ∨ (kOn k j = nI r ∧ kTw k j = nI q)))
  | 0, _ => by
    rw [bsN, b_0]
    exact ⟨fun h => (by cases h), fun ⟨j, h, _⟩ => absurd h (by omega)⟩
  | n + 1, hn => by
    have ih := jo_bt hr hq hv n (by omega)
    obtain ⟨o, ho, eo⟩ := vp_in_of (hv n (by omega)).1 (by decide)
    obtain ⟨t, ht, et⟩ := vp_in_of (hv n (by omega)).2 (by decide)
    rw [bsN]
    simp only [Bool.not_true, Bool.false_and, Bool.false_eq_true, if_false]
    have s1 : ∀ x : Nat, x < 6 → bt (shl 1 (nI x)) q = decide (q = x) := fun x hx => bt_sh1 (by omega) (by omega)
    have key : bt (if kTw k n = nI r then (if kOn k n = nI r then bsN (kOn k) (kTw k) 0 true (nI r) n ||| shl 1 (kTw k n) else bsN (kOn k) (kTw k) 0 true (nI r) n) ||| shl 1 (kOn k n) else if kOn k n = nI r then bsN (kOn k) (kTw k) 0 true (nI r) n ||| shl 1 (kTw k n) else bsN (kOn k) (kTw k) 0 true (nI r) n) q = true ↔ (bt (bsN (kOn k) (kTw k) 0 true (nI r) n) q = true ∨ (kTw k n = nI r ∧ kOn k n = nI q) ∨ (kOn k n = nI r ∧ kTw k n = nI q)) := by
      have f1 : kOn k n = nI q ↔ q = o := by rw [eo, nI_eq (by omega) (by omega)]; exact eq_comm
      have f2 : kTw k n = nI q ↔ q = t := by rw [et, nI_eq (by omega) (by omega)]; exact eq_comm
      rw [f1, f2]
      by_cases c1 : kTw k n = nI r
      · rw [if_pos c1]
        by_cases c2 : kOn k n = nI r
        · rw [if_pos c2, b_or, b_or, eo, et, s1 _ ho, s1 _ ht]
          rw [eo] at c2
          rw [et] at c1
          simp only [c1, c2, true_and, Bool.or_eq_true, decide_eq_true_eq]
          constructor
          · rintro ((h | h) | h)
            · exact Or.inl h
            · exact Or.inr (Or.inr h)
            · exact Or.inr (Or.inl h)
          · rintro (h | h | h)
            · exact Or.inl (Or.inl h)
            · exact Or.inr h
            · exact Or.inl (Or.inr h)
        · rw [if_neg c2, b_or, eo, s1 _ ho]
          rw [eo] at c2
          simp only [c1, c2, true_and, false_and, or_false, Bool.or_eq_true, decide_eq_true_eq]
      · rw [if_neg c1]
        by_cases c2 : kOn k n = nI r
        · rw [if_pos c2, b_or, et, s1 _ ht]
          rw [et] at c1
          simp only [c1, c2, true_and, false_and, false_or, Bool.or_eq_true, decide_eq_true_eq]
        · rw [if_neg c2]
          simp only [c1, c2, false_and, or_false]
    rw [key, ih]
    constructor
    · rintro (⟨j, h1, h2⟩ | h)
      · exact ⟨j, by omega, h2⟩
      · exact ⟨n, by omega, h⟩
    · rintro ⟨j, h1, h2⟩
      by_cases e : j = n
      · rw [e] at h2; exact Or.inr h2
      · exact Or.inl ⟨j, by omega, h2⟩
theorem ol_jo {k : KV} {a b : Nat} (hl : HLn k) (ho : HLo k) (ha : a < 6) (hb : b < 6) (hab : a ≠ b) : olF k (nI (min a b)) (nI (max a b)) (kNl k) 0 = btI (joK k a) (nI b) := by
  have h1 := ol_n (k := k) (lo := nI (min a b)) (hi := nI (max a b)) (kNl k) 0
  have h2 := jo_bt (k := k) (r := a) (q := b) ha hb hl.2 (kNl k) (Nat.le_refl _)
  have h3 : btI (joK k a) (nI b) = bt (joK k a) b := btI_bt _ (by omega)
  rw [h3]
  have h4 : olF k (nI (min a b)) (nI (max a b)) (kNl k) 0 = true ↔ bt (joK k a) b = true := by
    refine h1.trans (Iff.trans ?_ h2.symm)
    constructor
    · rintro ⟨j, -, hj, e1, e2⟩
      refine ⟨j, by omega, ?_⟩
      by_cases q : a < b
      · rw [Nat.min_eq_left (by omega)] at e1
        rw [Nat.max_eq_right (by omega)] at e2
        exact Or.inr ⟨e1, e2⟩
      · rw [Nat.min_eq_right (by omega)] at e1
        rw [Nat.max_eq_left (by omega)] at e2
        exact Or.inl ⟨e2, e1⟩
    · rintro ⟨j, hj, h⟩
      refine ⟨j, Nat.zero_le _, by omega, ?_⟩
      have hlt := ho j hj
      rcases h with ⟨e1, e2⟩ | ⟨e1, e2⟩
      · rw [e1, e2] at hlt
        have := (nI_ltI (by omega) (by omega)).mp hlt
        rw [Nat.min_eq_right (by omega), Nat.max_eq_left (by omega)]
        exact ⟨e2, e1⟩
      · rw [e1, e2] at hlt
        have := (nI_ltI (by omega) (by omega)).mp hlt
        rw [Nat.min_eq_left (by omega), Nat.max_eq_right (by omega)]
        exact ⟨e1, e2⟩
  cases hx : bt (joK k a) b with
  | true => exact h4.mpr hx
  | false =>
    cases hy : olF k (nI (min a b)) (nI (max a b)) (kNl k) 0 with
    | false => rfl
    | true => rw [h4.mp hy] at hx; cases hx
/-! what a statement does, by its letter -/
theorem ob_c {k : KV} {x y : Int32} : obB k 99 x y = hasL k (dgI x) ∧ obK k 99 x y = tgK k (dgI x) := ⟨if_pos rfl, if_pos rfl⟩
theorem ob_h {k : KV} {x y : Int32} : obB k 104 x y = stB (dgI x) ∧ obK k 104 x y = stK k (dgI x) := by
  unfold obB obK
  rw [if_neg (by decide), if_neg (by decide), if_neg (by decide), if_neg (by decide), if_neg (by decide), if_neg (by decide), if_neg (by decide), if_neg (by decide), if_neg (by decide), if_neg (by decide)]
  exact ⟨rfl, rfl⟩
theorem ob_t {k : KV} {x y : Int32} : obB k 116 x y = atB k (dgI y) ∧ obK k 116 x y = atK k (kdI x) (dgI y) := by
  unfold obB obK
  rw [if_neg (by decide), if_neg (by decide), if_neg (by decide), if_neg (by decide), if_pos rfl, if_neg (by decide), if_neg (by decide), if_neg (by decide), if_neg (by decide), if_pos rfl]
  exact ⟨rfl, rfl⟩
theorem ob_l {k : KV} {x y : Int32} : obB k 108 x y = alB k (dgI x) (dgI y) ∧ obK k 108 x y = alK k (dgI x) (dgI y) := by
  unfold obB obK
  rw [if_neg (by decide), if_pos rfl, if_neg (by decide), if_pos rfl]
  exact ⟨rfl, rfl⟩
theorem ob_m {k : KV} {x y : Int32} : obB k 109 x y = brB k (dgI x) (dgI y) ∧ obK k 109 x y = brK k (dgI x) (dgI y) := by
  unfold obB obK
  rw [if_neg (by decide), if_neg (by decide), if_pos rfl, if_neg (by decide), if_neg (by decide), if_pos rfl]
  exact ⟨rfl, rfl⟩
theorem ob_o {k : KV} {x y : Int32} : obB k 111 x y = acB k (dgI x) (dgI y) ∧ obK k 111 x y = acK k (dgI x) (dgI y) := by
  unfold obB obK
  rw [if_neg (by decide), if_neg (by decide), if_neg (by decide), if_pos rfl, if_neg (by decide), if_neg (by decide), if_neg (by decide), if_pos rfl]
  exact ⟨rfl, rfl⟩
theorem hasT_lt {k : KV} {d : Nat} (h8 : kNt k ≤ 8) (hd : d < 1000) (h : hasT k (nI d) = true) : d < kNt k := (nI_ltI (by omega) (by omega)).mp (of_decide_eq_true h).2
theorem isRm_lt {d : Nat} (hd : d < 1000) (h : isRm (nI d) = true) : d < 6 := (nI_ltI (b := 6) (by omega) (by omega)).mp (of_decide_eq_true h).2
theorem stB_n {d : Nat} (hd : d < 1000) : stB (nI d) = decide (d ≤ 7) := by
  unfold stB
  congr 1
  apply propext
  constructor
  · rintro ⟨-, h⟩
    have := (nI_ltI (b := 8) (by omega) (by omega)).mp h
    omega
  · intro h
    exact ⟨nI_pos' (by omega), nI_lt (b := 8) (by omega) (by omega)⟩
theorem isRm_n {d : Nat} (hd : d < 1000) : isRm (nI d) = decide (d < 6) := by
  unfold isRm
  congr 1
  apply propext
  constructor
  · rintro ⟨-, h⟩
    exact (nI_ltI (b := 6) (by omega) (by omega)).mp h
  · intro h
    exact ⟨nI_pos' (by omega), nI_lt (b := 6) (by omega) (by omega)⟩
theorem al_ol {k : KV} {a b : Nat} (hl : HLn k) (ho : HLo k) (ha : a < 6) (hb : b < 6) (hab : a ≠ b) : alB k (nI a) (nI b) = (decide (kNl k < 10) && !olF k (nI (min a b)) (nI (max a b)) (kNl k) 0) := by
  rw [ol_jo hl ho ha hb hab]
  unfold alB
  rw [isRm_n (by omega), isRm_n (by omega), decide_eq_true ha, decide_eq_true hb, decide_eq_true (show nI a ≠ nI b from fun e => hab ((nI_eq (by omega) (by omega)).mp e)), ixn (by omega)]
  simp only [Bool.true_and]
  congr 1
  cases hc : btI (joK k a) (nI b) with
  | true => exact decide_eq_false (btI_t.mp hc)
  | false => exact decide_eq_true (btI_f.mp hc)
