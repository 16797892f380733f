/-! who can be given to whom, as the reference reckons it; an image -/
def ntA (x : Int32) : Int32 := (x ^^^ (-1)) &&& (x - 1)
def ntS (c b : Int32) (x : Int32 × Int32) : Int32 × Int32 := if c < x.1 then (ushr x.1 b, x.2 + b) else x
def ntE (x : Int32 × Int32) : Int32 := x.2 + ushr x.1 1
def ntI (x : Int32) : Int32 := if 0 < ntA x then ntE (ntS 4 2 (ntS 16 4 (ntS 256 8 (ntS 65536 16 (ntA x, 1))))) else ntA x &&& 32
theorem ntS_t {c b i n : Int32} (h : c < i) : ntS c b (i, n) = (ushr i b, n + b) := if_pos h
theorem ntS_f {c b i n : Int32} (h : ¬ c < i) : ntS c b (i, n) = (i, n) := if_neg h
theorem nt_n : ∀ s, s < 256 → 0 < s → ntI (nI s) = nI (loN s) := by decide +kernel
/-- may two be each other's -/
def msF (k : KV) (p q : Nat) : Nat → Nat → Bool
  | 0, _ => true
  | n + 1, i => if btI (kSe k i) (nI p) = true ∧ btI (kSe k i) (nI q) = true then false else msF k p q n (i + 1)
def myF (k : KV) (sn : Nat → Int32) (bs : Bool) (p q : Nat) : Bool := if bs then decide (sn p &&& sn q = 0) else msF k p q (kNs k) 0
theorem ms_s {k : KV} {p q n i : Nat} (hi : i < n) (h : ¬ (btI (kSe k i) (nI p) = true ∧ btI (kSe k i) (nI q) = true)) : msF k p q (n - i) i = msF k p q (n - (i + 1)) (i + 1) := by
  rw [show n - i = (n - (i + 1)) + 1 by omega, msF, if_neg h]
theorem ms_t {k : KV} {p q n i : Nat} (hi : i < n) (h : btI (kSe k i) (nI p) = true ∧ btI (kSe k i) (nI q) = true) : msF k p q (n - i) i = false := by
  rw [show n - i = (n - (i + 1)) + 1 by omega, msF, if_pos h]
theorem ms_n {k : KV} {p q : Nat} : ∀ n i, (msF k p q n i = true ↔ ∀ j, i ≤ j → j < i + n → ¬ (btI (kSe k j) (nI p) = true ∧ btI (kSe k j) (nI q) = true))
  | 0, i => ⟨fun _ j h1 h2 => absurd h2 (by omega), fun _ => rfl⟩
  | n + 1, i => by
    rw [msF]
    by_cases h : btI (kSe k i) (nI p) = true ∧ btI (kSe k i) (nI q) = true
    · rw [if_pos h]
      constructor
      · intro e; cases e
      · intro e; exact absurd h (e i (Nat.le_refl _) (by omega))
    · rw [if_neg h, ms_n n (i + 1)]
      constructor
      · intro e j h1 h2
        by_cases q : j = i
        · rw [q]; exact h
        · exact e j (by omega) (by omega)
      · intro e j h1 h2
        exact e j (by omega) (by omega)
theorem ab_bt {k : KV} {t q : Nat} (ht : t < 32) (hq : q < 32) : ∀ n, (bt (abN k t n) q = true ↔ q = t ∨ ∃ s, s < n ∧ bt (kSe k s) t = true ∧ bt (kSe k s) q = true)
  | 0 => by
    rw [abN, bt_sh1 ht hq]
    simp
  | n + 1 => by
    have ih := ab_bt (k := k) ht hq n
    rw [abN, btI_bt _ ht]
    by_cases h : bt (kSe k n) t = true
    · rw [if_pos h, b_or, Bool.or_eq_true, ih]
      constructor
      · rintro ((e | ⟨s, h1, h2⟩) | e)
        · exact Or.inl e
        · exact Or.inr ⟨s, by omega, h2⟩
        · exact Or.inr ⟨n, by omega, h, e⟩
      · rintro (e | ⟨s, h1, h2, h3⟩)
        · exact Or.inl (Or.inl e)
        · by_cases e : s = n
          · rw [e] at h3; exact Or.inr h3
          · exact Or.inl (Or.inr ⟨s, by omega, h2, h3⟩)
    · rw [if_neg h, ih]
      constructor
      · rintro (e | ⟨s, h1, h2⟩)
        · exact Or.inl e
        · exact Or.inr ⟨s, by omega, h2⟩
      · rintro (e | ⟨s, h1, h2, h3⟩)
        · exact Or.inl e
        · by_cases e : s = n
          · rw [e] at h2; exact absurd h2 h
          · exact Or.inr ⟨s, by omega, h2, h3⟩
theorem bt_nI {m i : Nat} (hi : i < 32) : bt (nI m) i = m.testBit i := by
  show (BitVec.ofNat 32 m).getLsbD i = _
  rw [BitVec.getLsbD_ofNat]
  simp; omega
theorem all_bt : ∀ n, n ≤ 8 → ∀ i, i < 32 → bt (nI (2 ^ n - 1)) i = decide (i < n) := by decide +kernel
theorem ap_bt {k : KV} {p q : Nat} (h8 : kNt k ≤ 8) (hp : p < kNt k) (hq : q < kNt k) (hpq : p ≠ q) (sn : Nat → Int32) : myF k sn false p q = bt (apL k p) q := by
  have e : bt (apL k p) q = !bt (abN k p (kNs k)) q := by
    rw [apL, alV, if_pos hp, b_and, allT_n h8, all_bt _ h8 _ (by omega), decide_eq_true hq, bt_m1 (by omega), Bool.true_and]
  rw [e]
  show msF k p q (kNs k) 0 = _
  have h1 := ms_n (k := k) (p := p) (q := q) (kNs k) 0
  have h2 := ab_bt (k := k) (t := p) (q := q) (by omega) (by omega) (kNs k)
  cases hb : bt (abN k p (kNs k)) q with
  | true =>
    rcases h2.mp hb with q1 | ⟨s, h3, h4, h5⟩
    · exact absurd q1.symm hpq
    · cases hm : msF k p q (kNs k) 0 with
      | false => rfl
      | true => exact absurd ⟨by rw [btI_bt _ (by omega)]; exact h4, by rw [btI_bt _ (by omega)]; exact h5⟩ (h1.mp hm s (Nat.zero_le _) (by omega))
  | false =>
    refine h1.mpr (fun j _ hj hh => ?_)
    rw [btI_bt _ (by omega), btI_bt _ (by omega)] at hh
    have : bt (abN k p (kNs k)) q = true := h2.mpr (Or.inr ⟨j, by omega, hh.1, hh.2⟩)
    rw [hb] at this
    cases this
theorem au_bt {k : KV} {t : Nat} : ∀ n, n ≤ 8 → ∀ x, x < 32 → bt (auN k t n) x = decide (x < n ∧ x ≠ t ∧ mtK k t x (kHr k) = false)
  | 0, _, x, _ => by rw [auN, b_0]; simp
  | n + 1, hn, x, hx => by
    have ih := au_bt n (by omega) x hx (k := k) (t := t)
    rw [auN]
    by_cases q : n ≠ t ∧ mtK k t n (kHr k) = false
    · rw [if_pos q, b_or, bt_sh1 (by omega) hx, ih]
      by_cases e : x = n
      · subst e; simp [q.1, q.2]
      · have : x < n + 1 ↔ x < n := by omega
        simp [e, this]
    · rw [if_neg q, ih]
      by_cases e : x = n
      · subst e
        have h1 : ¬ (x < x ∧ x ≠ t ∧ mtK k t x (kHr k) = false) := fun z => absurd z.1 (Nat.lt_irrefl x)
        have h2 : ¬ (x < x + 1 ∧ x ≠ t ∧ mtK k t x (kHr k) = false) := fun z => q z.2
        rw [decide_eq_false h1, decide_eq_false h2]
      · have : x < n + 1 ↔ x < n := by omega
        simp only [this]
theorem pr_bt {k : KV} {p q : Nat} (h8 : kNt k ≤ 8) (hp : p < kNt k) (hq : q < kNt k) (hpq : p ≠ q) (sn : Nat → Int32) : myF k (lkF k (kHr k) sn) true p q = bt (prL k p) q := by
  rw [prL, alU, if_pos hp, au_bt _ h8 _ (by omega)]
  show decide (lkF k (kHr k) sn p &&& lkF k (kHr k) sn q = 0) = _
  rw [lkF_s hp, lkF_s hq]
  congr 1
  apply propext
  constructor
  · intro e; exact ⟨hq, Ne.symm hpq, mt_f e⟩
  · rintro ⟨-, -, e⟩
    have := of_decide_eq_false e
    exact Decidable.of_not_not this
/-! the table -/
theorem rT_lt {n : Nat} {al w : Nat → Int32} : ∀ m c, c ≤ m → rT n al w m c = rT n al w c c
  | 0, c, h => by
    have : c = 0 := by omega
    subst this; rfl
  | m + 1, c, h => by
    by_cases e : c = m + 1
    · rw [e]
    · rw [rT, upd_n e]
      exact rT_lt m c (by omega)
theorem wy_0 {n : Nat} {al : Nat → Int32} : wyT n al 0 = 1 := by
  unfold wyT wiT
  rw [rT_lt _ 0 (Nat.zero_le _), rT, upd_s]
theorem wy_s {n s : Nat} {al : Nat → Int32} (hn : n ≤ 8) (h0 : 0 < s) (hs : s < 2 ^ n) : wyT n al s = reA al (wyT n al) (loN s) (s ^^^ 2 ^ loN s) n := by
  have h256 : s < 256 := Nat.lt_of_lt_of_le hs (Nat.pow_le_pow_right (n := 2) (by omega) hn)
  have hl := (lo_t s h256 h0).2.1
  obtain ⟨s', rfl⟩ : ∃ s', s = s' + 1 := ⟨s - 1, by omega⟩
  have e1 : wyT n al (s' + 1) = rT n al zF (s' + 1) (s' + 1) := by
    unfold wyT wiT
    exact rT_lt _ _ (by omega)
  rw [e1, rT, upd_s]
  unfold reV
  refine reA_cong (by omega) rfl (fun c hc => ?_) n hn
  have e2 : wyT n al c = rT n al zF c c := by
    unfold wyT wiT
    exact rT_lt _ _ (by omega)
  rw [e2]
  exact rT_lt _ _ (by omega)
def pcN (s : Nat) : Nat := cnt (fun i => s.testBit i) 8
theorem pc_8 (s : Nat) : pcN s ≤ 8 := cnt_le _ _
theorem pc_0 : ∀ s, s < 256 → pcN s ≤ 0 → s = 0 := by decide +kernel
theorem pc_s : ∀ s, s < 256 → 0 < s → ∀ q, q < 8 → loN s < q → s.testBit q = true → pcN ((s ^^^ 2 ^ loN s) ^^^ 2 ^ q) + 2 ≤ pcN s := by decide +kernel
theorem tb_x : ∀ s, s < 256 → 0 < s → ∀ q, q < 8 → loN s < q → (s ^^^ 2 ^ loN s).testBit q = s.testBit q := by decide +kernel
theorem wf_and {x : Int32} {p q : Nat} (hp : p < 32) (hq : q < 32) (h : p ≠ q) (h1 : bt x p = true) (h2 : bt x q = true) : x &&& ((shl 1 (nI p) ||| shl 1 (nI q)) ^^^ (-1)) = (x ^^^ shl 1 (nI p)) ^^^ shl 1 (nI q) := b_ext (fun i hi => by
  rw [b_and, bt_m1 hi, b_or, b_xor, b_xor, bt_sh1 hp hi, bt_sh1 hq hi]
  by_cases e1 : i = p
  · subst e1; simp [h1, h]
  · by_cases e2 : i = q
    · subst e2; simp [h2, e1]
    · simp [e1, e2])
theorem wf_left {s q : Nat} (h256 : s < 256) (h0 : 0 < s) (hq : q < 8) (hl : loN s < q) (hb : s.testBit q = true) : nI s &&& ((shl 1 (nI (loN s)) ||| shl 1 (nI q)) ^^^ (-1)) = nI ((s ^^^ 2 ^ loN s) ^^^ 2 ^ q) := by
  have h8 := lo_8 s
  rw [wf_and (by omega) (by omega) (by omega) (by rw [bt_nI (by omega)]; exact (lo_t s h256 h0).1) (by rw [bt_nI (by omega)]; exact hb), shl1_n _ (by omega), shl1_n _ (by omega), nx_xor, nx_xor]
theorem mk_x : ∀ n, n ≤ 8 → ∀ t, t < n → mkN n t = (2 ^ n - 1) ^^^ 2 ^ t := by decide +kernel
theorem mk_bt : ∀ n, n ≤ 8 → ∀ t, t < 8 → ∀ q, q < 8 → (mkN n t).testBit q = decide (q < n ∧ q ≠ t) := by decide +kernel
theorem wf_all {n t q : Nat} (hn : n ≤ 8) (ht : t < n) (hq : q < n) (htq : t ≠ q) : nI (2 ^ n - 1) &&& ((shl 1 (nI t) ||| shl 1 (nI q)) ^^^ (-1)) = nI (mkN n t ^^^ 2 ^ q) := by
  rw [wf_and (by omega) (by omega) htq (by rw [all_bt n hn _ (by omega)]; exact decide_eq_true ht) (by rw [all_bt n hn _ (by omega)]; exact decide_eq_true hq), shl1_n _ (by omega), shl1_n _ (by omega), nx_xor, nx_xor, mk_x n hn t ht]
theorem ot_bt {al w : Nat → Int32} {m t : Nat} : ∀ o, o ≤ 8 → ∀ x, x < 32 → bt (otN al w m t o) x = decide (x < o ∧ m.testBit x = true ∧ bt (al t) x = true ∧ 0 < w (m ^^^ 2 ^ x))
  | 0, _, x, _ => by rw [otN, b_0]; simp
  | n + 1, hn, x, hx => by
    have ih := ot_bt n (by omega) x hx (al := al) (w := w) (m := m) (t := t)
    rw [otN]
    by_cases q : m.testBit n = true ∧ bt (al t) n = true ∧ 0 < w (m ^^^ 2 ^ n)
    · rw [if_pos q, b_or, bt_sh1 (by omega) hx, ih]
      by_cases e : x = n
      · subst e; simp [q.1, q.2.1, q.2.2]
      · have : x < n + 1 ↔ x < n := by omega
        simp [e, this]
    · rw [if_neg q, ih]
      by_cases e : x = n
      · subst e
        rw [decide_eq_false (fun z => absurd z.1 (Nat.lt_irrefl x)), decide_eq_false (fun z => q z.2)]
      · have : x < n + 1 ↔ x < n := by omega
        simp only [this]
theorem fnd_app {P : Nat → Bool} {g : Nat → Int32} {b : Nat} : ∀ a i, (∀ j, i + a ≤ j → j < i + a + b → P j = false) → fnd P g (a + b) i = fnd P g a i
  | 0, i, h => by
    rw [Nat.zero_add, fnd]
    revert i
    induction b with
    | zero => intro i _; rfl
    | succ b ih =>
      intro i h
      rw [fnd, h i (by omega) (by omega)]
      exact ih (i + 1) (fun j h1 h2 => h j (by omega) (by omega))
  | a + 1, i, h => by
    rw [show a + 1 + b = (a + b) + 1 by omega, fnd, fnd, fnd_app a (i + 1) (fun j h1 h2 => h j (by omega) (by omega))]
def prP (k : KV) (q : Nat) : Bool := decide (bt (prL k 0) q = true ∧ 0 < wyT (kNt k) (prL k) (mkN (kNt k) 0 ^^^ 2 ^ q))
theorem pr_fnd {k : KV} (h8 : kNt k ≤ 8) : loI (otK k (prL k) 0) = fnd (prP k) nI (kNt k - 1) 1 := by
  unfold loI otK
  have hb : ∀ j, j < 8 → btI (otN (prL k) (wyT (kNt k) (prL k)) (mkN (kNt k) 0) 0 (kNt k)) (nI j) = decide (j < kNt k ∧ j ≠ 0 ∧ prP k j = true) := by
    intro j hj
    rw [btI_bt _ (by omega), ot_bt _ h8 _ (by omega), mk_bt _ h8 0 (by omega) j hj]
    unfold prP
    congr 1
    apply propext
    simp only [decide_eq_true_eq]
    constructor
    · rintro ⟨a, ⟨-, b⟩, c, d⟩; exact ⟨a, b, c, d⟩
    · rintro ⟨a, b, c, d⟩; exact ⟨a, ⟨a, b⟩, c, d⟩
  rw [fnd, hb 0 (by omega), decide_eq_false (fun z => z.2.1 rfl)]
  simp only [Bool.false_eq_true, if_false]
  rw [show (7 : Nat) = (kNt k - 1) + (8 - 1 - (kNt k - 1)) by omega, fnd_app (kNt k - 1) (0 + 1) (fun j h1 h2 => by
    rw [hb j (by omega), decide_eq_false (fun z => by have := z.1; omega)])]
  refine fnd_cong _ _ (fun j h1 h2 => ?_)
  rw [hb j (by omega)]
  cases hp : prP k j with
  | true => exact decide_eq_true ⟨by omega, by omega, rfl⟩
  | false => exact decide_eq_false (fun z => by cases z.2.2)
theorem tg_0 : ∀ n, n ≤ 8 → ∀ j, j < 2 ^ n → nI j &&& (nI (2 ^ n - 1) ^^^ (-1)) = 0 := by decide +kernel
theorem pm_n : ∀ n, n ≤ 8 → (nI (2 ^ n - 1)).toBitVec.toNat = 2 ^ n - 1 := by decide +kernel
theorem wi_all {k : KV} {x : Int32} (h8 : kNt k ≤ 8) : wiB x 0 (allT k) = tgB k x := by
  unfold tgB wiB
  rw [allT_n h8]
  have hM : 2 ^ kNt k ≤ 256 := Nat.pow_le_pow_right (n := 2) (by omega) h8
  have hp : 0 < 2 ^ kNt k := Nat.two_pow_pos _
  congr 1
  apply propext
  constructor
  · rintro ⟨h0, h1⟩
    obtain ⟨j, hj, rfl⟩ := nI_of (Int32.not_lt.mpr h0)
    have := (nI_leI hj (by omega)).mp h1
    exact tg_0 _ h8 j (by omega)
  · intro h
    have e : x = x &&& nI (2 ^ kNt k - 1) := b_ext (fun i hi => by
      have := congrArg (fun z => bt z i) h
      simp only [b_and, b_0, bt_m1 hi] at this
      rw [b_and]
      cases h1 : bt x i with
      | false => rfl
      | true =>
        rw [h1] at this
        cases h2 : bt (nI (2 ^ kNt k - 1)) i with
        | true => rfl
        | false => rw [h2] at this; cases this)
    obtain ⟨j, hj, e2⟩ := pk_andE x (kNt k) (pm_n _ h8)
    rw [e, e2]
    exact ⟨nI_pos' (by omega), (nI_leI (by omega) (by omega)).mpr (by omega)⟩
/-! an image: all that is told, in 57 places -/
def imF (k : KV) : Nat → Int32 := fun j =>
  if j < 10 then kOn k j else if j < 20 then kTw k (j - 10) else if j < 28 then kKi k (j - 20) else if j < 36 then kRo k (j - 28) else if j < 44 then kOt k (j - 36) else if j < 52 then kSe k (j - 44)
  else if j = 52 then nI (kNl k) else if j = 53 then kHd k else if j = 54 then nI (kNt k) else if j = 55 then nI (kHr k) else nI (kNs k)
theorem im_on {k : KV} {i : Nat} (h : i < 10) : imF k i = kOn k i := if_pos h
theorem im_tw {k : KV} {i : Nat} (h : i < 10) : imF k (10 + i) = kTw k i := by
  unfold imF; rw [if_neg (by omega), if_pos (by omega), show 10 + i - 10 = i by omega]
theorem im_ki {k : KV} {i : Nat} (h : i < 8) : imF k (20 + i) = kKi k i := by
  unfold imF; rw [if_neg (by omega), if_neg (by omega), if_pos (by omega), show 20 + i - 20 = i by omega]
theorem im_ro {k : KV} {i : Nat} (h : i < 8) : imF k (28 + i) = kRo k i := by
  unfold imF; rw [if_neg (by omega), if_neg (by omega), if_neg (by omega), if_pos (by omega), show 28 + i - 28 = i by omega]
theorem im_ot {k : KV} {i : Nat} (h : i < 8) : imF k (36 + i) = kOt k i := by
  unfold imF; rw [if_neg (by omega), if_neg (by omega), if_neg (by omega), if_neg (by omega), if_pos (by omega), show 36 + i - 36 = i by omega]
theorem im_se {k : KV} {i : Nat} (h : i < 8) : imF k (44 + i) = kSe k i := by
  unfold imF; rw [if_neg (by omega), if_neg (by omega), if_neg (by omega), if_neg (by omega), if_neg (by omega), if_pos (by omega), show 44 + i - 44 = i by omega]
def kpA (k : KV) (i : Nat) (a : Nat → Int32) : Prop := ∀ x, x < i → a x = kOn k x ∧ a (10 + x) = kTw k x
theorem kpA_s {k : KV} {i : Nat} {a : Nat → Int32} (hi : i < 10) (h : kpA k i a) : kpA k (i + 1) (upd (upd a i (kOn k i)) (10 + i) (kTw k i)) := by
  intro x hx
  by_cases e : x = i
  · subst e
    exact ⟨by rw [upd_n (by omega), upd_s], upd_s _ _ _⟩
  · have := h x (by omega)
    exact ⟨by rw [upd_n (by omega), upd_n (by omega)]; exact this.1, by rw [upd_n (by omega), upd_n (by omega)]; exact this.2⟩
def kpB (k : KV) (i : Nat) (a : Nat → Int32) : Prop := kpA k 10 a ∧ ∀ x, x < i → a (20 + x) = kKi k x ∧ a (28 + x) = kRo k x ∧ a (36 + x) = kOt k x ∧ a (44 + x) = kSe k x
theorem kpB_s {k : KV} {i : Nat} {a : Nat → Int32} (hi : i < 8) (h : kpB k i a) : kpB k (i + 1) (upd (upd (upd (upd a (20 + i) (kKi k i)) (28 + i) (kRo k i)) (36 + i) (kOt k i)) (44 + i) (kSe k i)) := by
  refine ⟨fun x hx => ?_, fun x hx => ?_⟩
  · have := h.1 x hx
    refine ⟨?_, ?_⟩
    · rw [upd_n (by omega), upd_n (by omega), upd_n (by omega), upd_n (by omega)]; exact this.1
    · rw [upd_n (by omega), upd_n (by omega), upd_n (by omega), upd_n (by omega)]; exact this.2
  · by_cases e : x = i
    · subst e
      refine ⟨?_, ?_, ?_, ?_⟩
      · rw [upd_n (by omega), upd_n (by omega), upd_n (by omega), upd_s]
      · rw [upd_n (by omega), upd_n (by omega), upd_s]
      · rw [upd_n (by omega), upd_s]
      · rw [upd_s]
    · have := h.2 x (by omega)
      refine ⟨?_, ?_, ?_, ?_⟩
      · rw [upd_n (by omega), upd_n (by omega), upd_n (by omega), upd_n (by omega)]; exact this.1
      · rw [upd_n (by omega), upd_n (by omega), upd_n (by omega), upd_n (by omega)]; exact this.2.1
      · rw [upd_n (by omega), upd_n (by omega), upd_n (by omega), upd_n (by omega)]; exact this.2.2.1
      · rw [upd_n (by omega), upd_n (by omega), upd_n (by omega), upd_n (by omega)]; exact this.2.2.2
theorem kp_e {k : KV} {a : Nat → Int32} (h : kpB k 8 a) : ∀ j, j < 57 → upd (upd (upd (upd (upd a 52 (nI (kNl k))) 53 (kHd k)) 54 (nI (kNt k))) 55 (nI (kHr k))) 56 (nI (kNs k)) j = imF k j := by
  intro j hj
  by_cases e1 : j < 10
  · rw [upd_n (by omega), upd_n (by omega), upd_n (by omega), upd_n (by omega), upd_n (by omega), im_on e1]; exact (h.1 j e1).1
  · by_cases e2 : j < 20
    · obtain ⟨i, rfl⟩ : ∃ i, j = 10 + i := ⟨j - 10, by omega⟩
      rw [upd_n (by omega), upd_n (by omega), upd_n (by omega), upd_n (by omega), upd_n (by omega), im_tw (by omega)]; exact (h.1 i (by omega)).2
    · by_cases e3 : j < 28
      · obtain ⟨i, rfl⟩ : ∃ i, j = 20 + i := ⟨j - 20, by omega⟩
        rw [upd_n (by omega), upd_n (by omega), upd_n (by omega), upd_n (by omega), upd_n (by omega), im_ki (by omega)]; exact (h.2 i (by omega)).1
      · by_cases e4 : j < 36
        · obtain ⟨i, rfl⟩ : ∃ i, j = 28 + i := ⟨j - 28, by omega⟩
          rw [upd_n (by omega), upd_n (by omega), upd_n (by omega), upd_n (by omega), upd_n (by omega), im_ro (by omega)]; exact (h.2 i (by omega)).2.1
        · by_cases e5 : j < 44
          · obtain ⟨i, rfl⟩ : ∃ i, j = 36 + i := ⟨j - 36, by omega⟩
            rw [upd_n (by omega), upd_n (by omega), upd_n (by omega), upd_n (by omega), upd_n (by omega), im_ot (by omega)]; exact (h.2 i (by omega)).2.2.1
          · by_cases e6 : j < 52
            · obtain ⟨i, rfl⟩ : ∃ i, j = 44 + i := ⟨j - 44, by omega⟩
              rw [upd_n (by omega), upd_n (by omega), upd_n (by omega), upd_n (by omega), upd_n (by omega), im_se (by omega)]; exact (h.2 i (by omega)).2.2.2
            · rcases (show j = 52 ∨ j = 53 ∨ j = 54 ∨ j = 55 ∨ j = 56 by omega) with rfl | rfl | rfl | rfl | rfl <;> rfl
