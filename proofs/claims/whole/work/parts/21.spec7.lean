/-! sins, as the reference counts them -/
theorem cnt_mono (P : Nat → Bool) : ∀ (d i : Nat), cnt P i ≤ cnt P (i + d)
  | 0, _ => Nat.le_refl _
  | d + 1, i => by
    have h := cnt_mono P d i
    rw [show i + (d + 1) = (i + d) + 1 by omega, cnt]
    split <;> omega
theorem fnd_cnt {P : Nat → Bool} {g : Nat → Int32} {n : Nat} (hg : ∀ t, t < n → P t = true → ∃ w, 0 < w ∧ w < 100 ∧ g t = nI w) :
    ∀ d i, i + d = n → (fnd P g d i = -9 ∧ cnt P n = cnt P i) ∨ (∃ w, 0 < w ∧ w < 100 ∧ fnd P g d i = nI w ∧ cnt P i < cnt P n)
  | 0, i, h => by
    have : i = n := by omega
    subst this
    exact Or.inl ⟨rfl, rfl⟩
  | d + 1, i, h => by
    cases hp : P i with
    | true =>
      obtain ⟨w, h0, h1, e⟩ := hg i (by omega) hp
      refine Or.inr ⟨w, h0, h1, by rw [fnd, if_pos hp]; exact e, ?_⟩
      have h2 := cnt_mono P d (i + 1)
      rw [cnt, if_pos hp, show i + 1 + d = n by omega] at h2
      omega
    | false =>
      have hc : cnt P (i + 1) = cnt P i := by rw [cnt, if_neg (by rw [hp]; decide)]
      have hf : fnd P g (d + 1) i = fnd P g d (i + 1) := by rw [fnd, if_neg (by rw [hp]; decide)]
      rcases fnd_cnt hg d (i + 1) (by omega) with ⟨a, b⟩ | ⟨w, h0, h1, a, b⟩
      · exact Or.inl ⟨by rw [hf]; exact a, by rw [b, hc]⟩
      · exact Or.inr ⟨w, h0, h1, by rw [hf]; exact a, by omega⟩
theorem i_asym {x y : Int32} (h : x < y) : ¬ y < x := by
  rw [Int32.lt_iff_toInt_lt] at *
  omega
theorem ot_of {k : KV} {t : Nat} (h : HOt k) (ht : t < kNt k) (h8 : kNt k ≤ 8) (hn : ¬ kOt k t < nI t) : ∃ u, u < kNt k ∧ t < u ∧ kOt k t = nI u := by
  rcases h t ht with e | ⟨u, hu, hne, e, -⟩
  · exfalso; apply hn; rw [e]; exact Int32.not_le.mp (fun q => absurd (Int32.le_trans (nI_pos' (n := t) (by omega)) q) (by decide))
  · refine ⟨u, hu, ?_, e⟩
    rw [e] at hn
    by_cases q : u < t
    · exact absurd (nI_lt q (by omega)) hn
    · omega
theorem sl_of {k : KV} {t h : Nat} (ho : HOt k) (h8 : kNt k ≤ 8) (ht : t < kNt k) (hs : slK k t h = true) : ∃ u, u < kNt k ∧ t < u ∧ kOt k t = nI u := by
  unfold slK at hs
  rw [Bool.and_eq_true] at hs
  exact ot_of ho ht h8 (i_asym (of_decide_eq_true hs.1))
theorem sl_val {k : KV} {t u h : Nat} (h8 : kNt k ≤ 8) (hu : u < kNt k) (htu : t < u) (e : kOt k t = nI u) : slK k t h = mtK k t u h := by
  unfold slK
  rw [e, decide_eq_true (nI_lt htu (by omega)), hasT_n h8 hu, ixn (by omega)]
  rfl
theorem sl_lo {k : KV} {t h : Nat} (hn : kOt k t < nI t) : slK k t h = false := by
  unfold slK
  rw [decide_eq_false (i_asym hn)]
  rfl
def siN (k : KV) (h : Nat) : Nat := 100 * scK k h + (if fsK k h = -9 then 0 else ix (fsK k h))
theorem fs_sc {k : KV} {h : Nat} (ho : HOt k) (h8 : kNt k ≤ 8) : (fsK k h = -9 ∧ scK k h = 0) ∨ (∃ w, 0 < w ∧ w < 100 ∧ fsK k h = nI w ∧ 0 < scK k h) := by
  have := fnd_cnt (P := fun t => slK k t h) (g := fun t => 10 * nI t + kOt k t) (n := kNt k) (fun t ht hp => by
    obtain ⟨u, hu, htu, e⟩ := sl_of ho h8 ht hp
    refine ⟨10 * t + u, by omega, by omega, ?_⟩
    show 10 * nI t + kOt k t = _
    rw [e, show (10 : Int32) = nI 10 from rfl, pk_mul, nI_add]) (kNt k) 0 (by omega)
  exact this
theorem sc_8 {k : KV} {h : Nat} (h8 : kNt k ≤ 8) : scK k h ≤ 8 := Nat.le_trans (cnt_le _ _) h8
theorem si_0 {k : KV} {h : Nat} (ho : HOt k) (h8 : kNt k ≤ 8) : siN k h = 0 ↔ fsK k h = -9 := by
  unfold siN
  rcases fs_sc (h := h) ho h8 with ⟨a, b⟩ | ⟨w, h0, h1, a, b⟩
  · rw [a, b]; simp
  · rw [a, if_neg (nI_n9 (by omega))]
    constructor
    · intro q; omega
    · intro q; exact absurd q (nI_n9 (by omega))
theorem si_p {k : KV} {h : Nat} (ho : HOt k) (h8 : kNt k ≤ 8) : 0 < siN k h ↔ fsK k h ≠ -9 := by
  have := si_0 (h := h) ho h8
  constructor
  · intro q e; rw [this.mpr e] at q; omega
  · intro q
    have : siN k h ≠ 0 := fun e => q (this.mp e)
    omega
theorem si_lt {k : KV} {h : Nat} (ho : HOt k) (h8 : kNt k ≤ 8) : siN k h < 1000 := by
  unfold siN
  have := sc_8 (h := h) h8
  rcases fs_sc (h := h) ho h8 with ⟨a, b⟩ | ⟨w, h0, h1, a, b⟩
  · rw [a, b]; decide
  · rw [a, if_neg (nI_n9 (by omega)), ixn (by omega)]; omega
theorem si_d {k : KV} {h : Nat} (ho : HOt k) (h8 : kNt k ≤ 8) : siN k h / 100 = scK k h := by
  unfold siN
  rcases fs_sc (h := h) ho h8 with ⟨a, b⟩ | ⟨w, h0, h1, a, b⟩
  · rw [a, b]; decide
  · rw [a, if_neg (nI_n9 (by omega)), ixn (by omega)]; omega
theorem si_r {k : KV} {h : Nat} (ho : HOt k) (h8 : kNt k ≤ 8) (hn : siN k h ≠ 0) : nI (siN k h % 100) = fsK k h := by
  have hf : fsK k h ≠ -9 := fun e => hn ((si_0 ho h8).mpr e)
  unfold siN
  rcases fs_sc (h := h) ho h8 with ⟨a, b⟩ | ⟨w, h0, h1, a, b⟩
  · exact absurd a hf
  · rw [if_neg hf, a, ixn (by omega)]
    exact congrArg nI (by omega)
/-- the loop of the reference, from the greatest thing on down -/
def siI (k : KV) (h e m l : Nat) : Prop := e ≤ kNt k ∧ m + cnt (fun t => slK k t h) e = scK k h ∧ fnd (fun t => slK k t h) (fun t => 10 * nI t + kOt k t) (kNt k - e) e = (if m = 0 then -9 else nI l) ∧ (m = 0 → l = 0) ∧ (m ≠ 0 → 0 < l ∧ l < 100)
theorem siI_0 {k : KV} {h : Nat} : siI k h (kNt k) 0 0 := ⟨Nat.le_refl _, Nat.zero_add _, by rw [Nat.sub_self]; rfl, fun _ => rfl, fun q => absurd rfl q⟩
theorem siI_s {k : KV} {h e m l : Nat} (q : siI k h (e + 1) m l) (hs : slK k e h = false) : siI k h e m l := by
  obtain ⟨a, b, c, d⟩ := q
  refine ⟨by omega, ?_, ?_, d⟩
  · rw [cnt, if_neg (by rw [hs]; decide)] at b; exact b
  · rw [show kNt k - e = (kNt k - (e + 1)) + 1 by omega, fnd, if_neg (by rw [hs]; decide)]; exact c
theorem siI_t {k : KV} {h e m l u : Nat} (q : siI k h (e + 1) m l) (h8 : kNt k ≤ 8) (hu : u < kNt k) (heu : e < u) (eu : kOt k e = nI u) (hs : slK k e h = true) : siI k h e (m + 1) (10 * e + u) := by
  obtain ⟨a, b, c, d⟩ := q
  refine ⟨by omega, ?_, ?_, fun q => by omega, fun _ => ⟨by omega, by omega⟩⟩
  · rw [cnt, if_pos hs] at b; omega
  · rw [show kNt k - e = (kNt k - (e + 1)) + 1 by omega, fnd, if_pos hs, if_neg (by omega), eu, show (10 : Int32) = nI 10 from rfl, pk_mul, nI_add]
theorem siI_e {k : KV} {h m l : Nat} (q : siI k h 0 m l) : 100 * m + l = siN k h := by
  obtain ⟨-, b, c, d, f⟩ := q
  have b : m = scK k h := b
  have c : fsK k h = (if m = 0 then -9 else nI l) := c
  unfold siN
  rw [← b, c]
  by_cases q : m = 0
  · rw [d q, q]; rfl
  · have := f q
    rw [if_neg q, if_neg (nI_n9 (by omega)), ixn (by omega)]
theorem sub1 (n : Nat) : nI n - 1 = nI n + (-1) := by
  cases n with
  | zero => decide
  | succ n => rw [nI_pred, pk_m1]
theorem lkF_s {k : KV} {h t : Nat} {sn : Nat → Int32} (ht : t < kNt k) : lkF k h sn t = sfK k t h := if_pos ht
theorem mt_t {k : KV} {a b h : Nat} (hc : sfK k a h &&& sfK k b h ≠ 0) : mtK k a b h = true := decide_eq_true hc
theorem mt_f {k : KV} {a b h : Nat} (hc : sfK k a h &&& sfK k b h = 0) : mtK k a b h = false := decide_eq_false (fun q => q hc)
/-! others given, as the reference gives them -/
def gvT (k : KV) (a b t : Nat) : Bool := decide (t ≠ a ∧ t ≠ b ∧ (kOt k t = nI a ∨ kOt k t = nI b))
theorem cnt_or {P Q : Nat → Bool} : ∀ n, (∀ t, t < n → P t = true → Q t = false) → cnt (fun t => P t || Q t) n = cnt P n + cnt Q n
  | 0, _ => rfl
  | n + 1, h => by
    have ih := cnt_or n (fun t ht => h t (by omega))
    rw [cnt, cnt, cnt, ih]
    cases hp : P n with
    | true =>
      have hq := h n (by omega) hp
      simp only [hq, Bool.true_or, if_true]
      simp; omega
    | false =>
      cases hq : Q n with
      | true => simp; omega
      | false => simp
theorem cnt_cong {P Q : Nat → Bool} : ∀ n, (∀ t, t < n → P t = Q t) → cnt P n = cnt Q n
  | 0, _ => rfl
  | n + 1, h => by rw [cnt, cnt, cnt_cong n (fun t ht => h t (by omega)), h n (by omega)]
theorem cnt_one (u : Nat) : ∀ n, cnt (fun t => decide (t = u)) n = if u < n then 1 else 0
  | 0 => rfl
  | n + 1 => by
    rw [cnt, cnt_one u n]
    by_cases h : n = u
    · subst h; simp
    · rw [if_neg (by simpa using h)]
      by_cases q : u < n
      · rw [if_pos q, if_pos (by omega)]
      · rw [if_neg q, if_neg (by omega)]
theorem cnt_no (n : Nat) : cnt (fun _ => false) n = 0 := by
  induction n with
  | zero => rfl
  | succ n ih => rw [cnt, ih]; rfl
theorem ot_sym {k : KV} {a t : Nat} (h : HOt k) (h8 : kNt k ≤ 8) (ha : a < kNt k) (ht : t < kNt k) : kOt k t = nI a ↔ kOt k a = nI t := by
  have one : ∀ x y, x < kNt k → y < kNt k → kOt k x = nI y → kOt k y = nI x := by
    intro x y hx hy e
    rcases h x hx with q | ⟨u, hu, -, e1, e2⟩
    · rw [q] at e; exact absurd e (nI_n9' (by omega))
    · rw [e1] at e
      have := (nI_eq (by omega) (by omega)).mp e
      subst this; exact e2
  exact ⟨one t a ht ha, one a t ha ht⟩
/-- of how many a thing is the other -/
theorem cnt_ot {k : KV} {a : Nat} (h : HOt k) (h8 : kNt k ≤ 8) (ha : a < kNt k) : cnt (fun t => decide (kOt k t = nI a)) (kNt k) = lvN k a := by
  unfold lvN
  rcases h a ha with q | ⟨u, hu, -, e1, e2⟩
  · have hf : hasT k (kOt k a) = false := by rw [q]; exact decide_eq_false (fun z => absurd z.1 (by decide))
    rw [hf, cnt_cong (Q := fun _ => false) _ (fun t ht => decide_eq_false (fun e => by
      have := (ot_sym h h8 ha ht).mp e
      rw [q] at this
      exact nI_n9' (by omega) this)), cnt_no]
    rfl
  · rw [e1, hasT_n h8 hu, cnt_cong (Q := fun t => decide (t = u)) _ (fun t ht => by
      have : (kOt k t = nI a) ↔ t = u := by
        rw [ot_sym h h8 ha ht, e1, nI_eq (by omega) (by omega)]
        exact eq_comm
      simp only [this]), cnt_one, if_pos hu]
    rfl
theorem lv_ot {k : KV} {a b : Nat} (h : HOt k) (h8 : kNt k ≤ 8) (ha : a < kNt k) (hb : b < kNt k) (h0 : kOt k a ≠ nI b) : kOt (lvK k a) b = kOt k b := by
  unfold lvK
  rcases h a ha with q | ⟨u, hu, -, e1, e2⟩
  · have hf : hasT k (kOt k a) = false := by rw [q]; exact decide_eq_false (fun z => absurd z.1 (by decide))
    rw [hf]; rfl
  · rw [e1, hasT_n h8 hu, if_pos rfl, ixn (by omega)]
    exact upd_n (fun e => h0 (by rw [e1, e]))
theorem lv_n2 {k : KV} {a b : Nat} (h : HOt k) (h8 : kNt k ≤ 8) (ha : a < kNt k) (hb : b < kNt k) (h0 : kOt k a ≠ nI b) : lvN (lvK k a) b = lvN k b := by
  unfold lvN
  rw [lv_ot h h8 ha hb h0]
  unfold hasT
  rw [lvK_nt]
theorem gv_cnt {k : KV} {a b : Nat} (h : HOt k) (h8 : kNt k ≤ 8) (ha : a < kNt k) (hb : b < kNt k) (hab : a ≠ b) (h0 : kOt k a ≠ nI b) : cnt (gvT k a b) (kNt k) = cpN k a b := by
  rw [cpN, if_neg h0, lv_n2 h h8 ha hb h0, ← cnt_ot h h8 ha, ← cnt_ot h h8 hb, ← cnt_or]
  · refine cnt_cong _ (fun t ht => ?_)
    unfold gvT
    have na : kOt k a ≠ nI a := fun e => by
      rcases h a ha with q | ⟨u, hu, hne, e1, -⟩
      · rw [q] at e; exact nI_n9' (by omega) e
      · rw [e1] at e; exact hne ((nI_eq (by omega) (by omega)).mp e)
    have nb : kOt k b ≠ nI b := fun e => by
      rcases h b hb with q | ⟨u, hu, hne, e1, -⟩
      · rw [q] at e; exact nI_n9' (by omega) e
      · rw [e1] at e; exact hne ((nI_eq (by omega) (by omega)).mp e)
    have nba : kOt k b ≠ nI a := fun e => h0 ((ot_sym h h8 ha hb).mp e)
    by_cases ea : t = a
    · subst ea; simp [na, h0]
    · by_cases eb : t = b
      · subst eb; simp [nb, nba]
      · simp [ea, eb]
  · intro t ht e
    have e := of_decide_eq_true e
    refine decide_eq_false (fun e2 => hab ?_)
    rw [e] at e2
    exact (nI_eq (by omega) (by omega)).mp e2
def gvO (k : KV) (a b n : Nat) : Nat → Int32 := fun t => if t < n ∧ gvT k a b t = true then -9 else kOt k t
theorem gvO_0 (k : KV) (a b : Nat) : kOt k = gvO k a b 0 := by
  funext t
  unfold gvO
  rw [if_neg (fun q => absurd q.1 (Nat.not_lt_zero t))]
theorem gvO_n {k : KV} {a b n : Nat} : gvO k a b n n = kOt k n := if_neg (fun q => absurd q.1 (Nat.lt_irrefl n))
theorem gvO_s {k : KV} {a b n : Nat} (h : gvT k a b n = false) : gvO k a b n = gvO k a b (n + 1) := by
  funext t
  unfold gvO
  by_cases e : t = n
  · subst e; simp [h]
  · have : t < n ↔ t < n + 1 := by omega
    simp [this]
theorem gvO_t {k : KV} {a b n : Nat} (h : gvT k a b n = true) : upd (gvO k a b n) n (-9) = gvO k a b (n + 1) := by
  funext t
  by_cases e : t = n
  · subst e; rw [upd_s, gvO, if_pos ⟨by omega, h⟩]
  · rw [upd_n e]
    unfold gvO
    have : t < n ↔ t < n + 1 := by omega
    simp [this]
theorem lvK_sOt (k : KV) (t : Nat) : lvK k t = sOt k (kOt (lvK k t)) := by
  unfold lvK
  split <;> rfl
theorem lv_all {q : KV} {x : Nat} (hq : kNt q ≤ 8) (h1 : kOt q x = -9 ∨ ∃ u, u < kNt q ∧ kOt q x = nI u) (j : Nat) : kOt (lvK q x) j = if kOt q x = nI j ∧ j < kNt q then -9 else kOt q j := by
  unfold lvK
  rcases h1 with e | ⟨u, hu, e⟩
  · have hf : hasT q (kOt q x) = false := by rw [e]; exact decide_eq_false (fun z => absurd z.1 (by decide))
    rw [hf, if_neg (by decide), if_neg]
    rintro ⟨z, hz⟩
    rw [e] at z
    exact nI_n9' (by omega) z
  · have ht : hasT q (kOt q x) = true := by rw [e]; exact hasT_n hq hu
    rw [if_pos ht, e, ixn (by omega)]
    show upd (kOt q) u (-9) j = _
    by_cases ej : j = u
    · subst ej; rw [upd_s, if_pos ⟨rfl, hu⟩]
    · rw [upd_n ej, if_neg]
      rintro ⟨z, hz⟩
      exact ej ((nI_eq (by omega) (by omega)).mp z).symm
theorem gv_end {k : KV} {a b : Nat} (h : HOt k) (h8 : kNt k ≤ 8) (ha : a < kNt k) (hb : b < kNt k) (h0 : kOt k a ≠ nI b) : upd (upd (gvO k a b (kNt k)) a (nI b)) b (nI a) = kOt (cpF k a b) := by
  funext t
  show _ = upd (upd (kOt (lvK (lvK k a) b)) a (nI b)) b (nI a) t
  by_cases eb : t = b
  · rw [eb, upd_s, upd_s]
  · rw [upd_n eb, upd_n eb]
    by_cases ea : t = a
    · rw [ea, upd_s, upd_s]
    · rw [upd_n ea, upd_n ea]
      have pa : ∀ t, t < kNt k → kOt k t = -9 ∨ ∃ u, u < kNt k ∧ kOt k t = nI u := fun t ht => by
        rcases h t ht with q | ⟨u, h1, -, h3, -⟩
        · exact Or.inl q
        · exact Or.inr ⟨u, h1, h3⟩
      have e1b : kOt (lvK k a) b = kOt k b := lv_ot h h8 ha hb h0
      have n1 : kNt (lvK k a) = kNt k := lvK_nt k a
      rw [lv_all (q := lvK k a) (by rw [n1]; exact h8) (by rw [e1b, n1]; exact pa b hb) t, e1b, n1, lv_all h8 (pa a ha) t]
      unfold gvO gvT
      by_cases ht : t < kNt k
      · have s1 := ot_sym h h8 ha ht
        have s2 := ot_sym h h8 hb ht
        simp only [decide_eq_true_eq, ht, ea, eb, true_and, and_true, ne_eq, not_false_eq_true, s1, s2]
        by_cases q1 : kOt k b = nI t
        · rw [if_pos (Or.inr q1), if_pos q1]
        · rw [if_neg q1]
          by_cases q2 : kOt k a = nI t
          · rw [if_pos (Or.inl q2), if_pos q2]
          · rw [if_neg q2, if_neg (fun q => q.elim q2 q1)]
      · rw [if_neg (fun q => ht q.1), if_neg (fun q => ht q.2), if_neg (fun q => ht q.2)]
theorem cpF_sOt (k : KV) (a b : Nat) : cpF k a b = sOt k (kOt (cpF k a b)) := by
  unfold cpF
  rw [lvK_sOt (lvK k a) b, lvK_sOt k a]

/-! bits that are seen, the fewest curtains, things moved -/
theorem sn_t {k : KV} {room : Int32} {h n : Nat} (hb : btI (sfK k n h) room = true) : snN k room h n ||| shl 1 (nI n) = snN k room h (n + 1) := by
  rw [snN, of_decide_eq_true hb]
theorem sn_f {k : KV} {room : Int32} {h n : Nat} (hn : n < 32) (hb : btI (sfK k n h) room = false) : snN k room h n = snN k room h (n + 1) := by
  rw [snN, btI_f.mp hb]
  refine b_ext (fun i hi => ?_)
  unfold shl
  rw [b_or, b_shl n hn 0 hi, b_0, Bool.and_false, Bool.or_false]
theorem cu_or (k : KV) : ∀ b, b ≤ 1024 → cuN k b = -9 ∨ ∃ w, w < 1024 ∧ cuN k b = nI w
  | 0, _ => Or.inl rfl
  | b + 1, h => by
    rw [cuN]
    split
    · exact Or.inr ⟨b, by omega, rfl⟩
    · exact cu_or k b (by omega)
theorem cu_neg {k : KV} {b : Nat} (hb : b ≤ 1024) (h : cuN k b < 0) : cuN k b = -9 := by
  rcases cu_or k b hb with e | ⟨w, hw, e⟩
  · exact e
  · rw [e] at h; exact absurd h (nI_pos (by omega))
theorem cu_n9 {k : KV} {b : Nat} (h : ¬ cuN k b < 0) : cuN k b ≠ -9 := fun e => h (by rw [e]; decide)
theorem cu_sk {k : KV} {b : Nat} (h : ¬ cuN k b < 0) (h2 : ¬ bcI (nI b) < bcI (cuN k b)) : cuN k b = cuN k (b + 1) := by
  rw [cuN, if_neg]
  rintro ⟨h1 | h1, -⟩
  · exact cu_n9 h h1
  · exact h2 h1
theorem cu_tk {k : KV} {b : Nat} (h : cuN k b = -9 ∨ bcI (nI b) < bcI (cuN k b)) (h2 : fsK (sHd k (nI b)) (kHr k) = -9) : cuN k (b + 1) = nI b := by
  rw [cuN, if_pos ⟨h, h2⟩]
theorem fc_t {k : KV} {h t e : Nat} (he : e < 6) (hc : nI e ≠ kRo k t) (hf : fsK (sRo k (upd (kRo k) t (nI e))) h = -9) : fcR k h t (6 - e) e = nI (10 * t + e) := by
  rw [show 6 - e = (6 - (e + 1)) + 1 by omega, fcR, if_pos ⟨hc, hf⟩]
theorem fc_s {k : KV} {h t e : Nat} (he : e < 6) (hc : nI e = kRo k t ∨ fsK (sRo k (upd (kRo k) t (nI e))) h ≠ -9) : fcR k h t (6 - e) e = fcR k h t (6 - (e + 1)) (e + 1) := by
  rw [show 6 - e = (6 - (e + 1)) + 1 by omega, fcR, if_neg]
  rintro ⟨a, b⟩
  exact hc.elim a (fun q => q b)
theorem ft_step {k1 : KV} {h n u : Nat} {s3 : Bool} (hu : u < n) (hs : decide (fcR k1 h u 6 0 ≠ -9) = s3) : decide (fcT k1 h (n - u) u ≠ -9) = (s3 || decide (fcT k1 h (n - (u + 1)) (u + 1) ≠ -9)) := by
  rw [show n - u = (n - (u + 1)) + 1 by omega, fcT]
  by_cases q : fcR k1 h u 6 0 = -9
  · rw [if_pos q, ← hs, decide_eq_false (not_not_intro q)]; rfl
  · rw [if_neg q, ← hs, decide_eq_true q]; rfl
theorem tc_t {k : KV} {h t r : Nat} (hr : r < 6) (hc : nI r ≠ kRo k t) {s2 : Bool} (hs : decide (fcK (sRo k (upd (kRo k) t (nI r))) h (t + 1) ≠ -9) = s2) : tcR k h t (6 - r) r = (s2 || tcR k h t (6 - (r + 1)) (r + 1)) := by
  rw [show 6 - r = (6 - (r + 1)) + 1 by omega, tcR]
  by_cases q : fcK (sRo k (upd (kRo k) t (nI r))) h (t + 1) = -9
  · rw [if_neg (fun z => z.2 q), ← hs, decide_eq_false (not_not_intro q)]; rfl
  · rw [if_pos ⟨hc, q⟩, ← hs, decide_eq_true q]; rfl
theorem tc_s {k : KV} {h t r : Nat} (hr : r < 6) (hc : nI r = kRo k t) : tcR k h t (6 - r) r = tcR k h t (6 - (r + 1)) (r + 1) := by
  rw [show 6 - r = (6 - (r + 1)) + 1 by omega, tcR, if_neg (fun z => z.1 hc)]
theorem em_snoc {k : KV} {a b : Nat} : ∀ n h, emK k a b (n + 1) h = (emK k a b n h || mtK k a b (h + n))
  | 0, h => by
    rw [emK, emK, emK]
    cases mtK k a b h <;> rfl
  | n + 1, h => by
    rw [emK, em_snoc n (h + 1), emK, show h + 1 + n = h + (n + 1) by omega]
    cases mtK k a b h <;> rfl
def g1N (k : KV) (t : Nat) : Nat → Int32
  | 0 => 0
  | n + 1 => if n ≠ t ∧ kOt k n = -9 then g1N k t n ||| shl 1 (nI n) else g1N k t n
theorem g1_bt {k : KV} {t : Nat} : ∀ n, n ≤ 8 → ∀ x, x < 32 → bt (g1N k t n) x = decide (x < n ∧ x ≠ t ∧ kOt k x = -9)
  | 0, _, x, _ => by rw [g1N, b_0]; simp
  | n + 1, hn, x, hx => by
    have ih := g1_bt n (by omega) x hx (k := k) (t := t)
    rw [g1N]
    by_cases q : n ≠ t ∧ kOt k n = -9
    · rw [if_pos q, b_or, bt_sh1 (by omega) hx, ih]
      by_cases e : x = n
      · subst e; simp [q.1, q.2]
      · have : x < n + 1 ↔ x < n := by omega
        simp [e, this]
    · rw [if_neg q, ih]
      by_cases e : x = n
      · subst e
        have h1 : ¬ (x < x ∧ x ≠ t ∧ kOt k x = -9) := fun z => absurd z.1 (Nat.lt_irrefl x)
        have h2 : ¬ (x < x + 1 ∧ x ≠ t ∧ kOt k x = -9) := fun z => q z.2
        rw [decide_eq_false h1, decide_eq_false h2]
      · have : x < n + 1 ↔ x < n := by omega
        simp only [this]
theorem gv_bt {k : KV} {t : Nat} : ∀ n, n ≤ 8 → ∀ x, x < 32 → bt (gvN k t n) x = decide (x < n ∧ x ≠ t ∧ kOt k x = -9 ∧ emK k t x 8 0 = false)
  | 0, _, x, _ => by rw [gvN, b_0]; simp
  | n + 1, hn, x, hx => by
    have ih := gv_bt n (by omega) x hx (k := k) (t := t)
    rw [gvN]
    by_cases q : n ≠ t ∧ kOt k n = -9 ∧ emK k t n 8 0 = false
    · rw [if_pos q, b_or, bt_sh1 (by omega) hx, ih]
      by_cases e : x = n
      · subst e; simp [q.1, q.2.1, q.2.2]
      · have : x < n + 1 ↔ x < n := by omega
        simp [e, this]
    · rw [if_neg q, ih]
      by_cases e : x = n
      · subst e
        have h1 : ¬ (x < x ∧ x ≠ t ∧ kOt k x = -9 ∧ emK k t x 8 0 = false) := fun z => absurd z.1 (Nat.lt_irrefl x)
        have h2 : ¬ (x < x + 1 ∧ x ≠ t ∧ kOt k x = -9 ∧ emK k t x 8 0 = false) := fun z => q z.2
        rw [decide_eq_false h1, decide_eq_false h2]
      · have : x < n + 1 ↔ x < n := by omega
        simp only [this]
/-- what is left of them when the hours before h, and of hour h the things before j, were looked at -/
def gJ (k : KV) (t h j : Nat) (b : Int32) : Prop := ∀ x, x < 32 → bt b x = decide (x < kNt k ∧ x ≠ t ∧ kOt k x = -9 ∧ emK k t x h 0 = false ∧ (x < j → mtK k t x h = false))
theorem gJ_0 {k : KV} {t : Nat} (h8 : kNt k ≤ 8) : gJ k t 0 0 (g1N k t (kNt k)) := fun x hx => by
  rw [g1_bt _ h8 x hx]
  simp [emK]
theorem gJ_h {k : KV} {t h : Nat} {b : Int32} (hg : gJ k t h (kNt k) b) : gJ k t (h + 1) 0 b := fun x hx => by
  rw [hg x hx, em_snoc, Nat.zero_add]
  congr 1
  apply propext
  constructor
  · rintro ⟨a, b, c, d, e⟩
    exact ⟨a, b, c, by rw [d, e a]; rfl, fun z => absurd z (Nat.not_lt_zero x)⟩
  · rintro ⟨a, b, c, d, -⟩
    rw [Bool.or_eq_false_iff] at d
    exact ⟨a, b, c, d.1, fun _ => d.2⟩
theorem gJ_s {k : KV} {t h j : Nat} {b : Int32} (hg : gJ k t h j b) (hm : mtK k t j h = false) : gJ k t h (j + 1) b := fun x hx => by
  rw [hg x hx]
  congr 1
  apply propext
  constructor
  · rintro ⟨a, b, c, d, e⟩
    refine ⟨a, b, c, d, fun z => ?_⟩
    by_cases q : x = j
    · rw [q]; exact hm
    · exact e (by omega)
  · rintro ⟨a, b, c, d, e⟩
    exact ⟨a, b, c, d, fun z => e (by omega)⟩
theorem bt_m1 {x : Nat} (hx : x < 32) (y : Int32) : bt (y ^^^ (-1)) x = !bt y x := by
  rw [b_xor, b_m1 x hx, Bool.xor_true]
theorem gJ_t {k : KV} {t h j : Nat} {b : Int32} (hj : j < 32) (hg : gJ k t h j b) (hm : mtK k t j h = true) : gJ k t h (j + 1) (b &&& (shl 1 (nI j) ^^^ (-1))) := fun x hx => by
  rw [b_and, bt_m1 hx, bt_sh1 hj hx, hg x hx]
  by_cases q : x = j
  · subst q
    have : ¬ (x < kNt k ∧ x ≠ t ∧ kOt k x = -9 ∧ emK k t x h 0 = false ∧ (x < x + 1 → mtK k t x h = false)) := fun z => by
      have := z.2.2.2.2 (Nat.lt_succ_self x)
      rw [hm] at this; cases this
    rw [decide_eq_false this]
    simp
  · have : x < j + 1 ↔ x < j := by omega
    simp [q, this]
theorem gJ_e {k : KV} {t : Nat} {b : Int32} (h8 : kNt k ≤ 8) (hg : gJ k t 8 0 b) : b = gvN k t (kNt k) := b_ext (fun x hx => by
  rw [hg x hx, gv_bt _ h8 x hx]
  simp)
theorem mt_c {k : KV} {a b h : Nat} : mtK k a b h = decide (sfK k b h &&& sfK k a h ≠ 0) := by
  unfold mtK
  rw [show sfK k a h &&& sfK k b h = sfK k b h &&& sfK k a h from b_ext (fun i _ => by rw [b_and, b_and, Bool.and_comm])]
