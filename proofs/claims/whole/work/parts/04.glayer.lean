/-! The walk's own layer: a world is a list of segments (each a list of cells); G says 'the machine, at pc, with these locals and this stack over this world, comes to Q', whatever the heap around it is. -/
abbrev Sg : Type := List va_W
def sg_ads (ss : Sg) : List (List Nat) := ss.map (fun w => w.map Prod.fst)
def PS (D : va_G) (ss : Sg) (H : Heap) : Prop := va_P D vwCl ss.flatten H
def DS (A : Nat → Prop) (as : List (List Nat)) : Prop := as.flatten.Pairwise (fun a b => a ≠ b) ∧ ∀ a ∈ as.flatten, A a
def SA (as : List (List Nat)) (sz : Nat) : Nat → Prop := fun q => q ∈ as.flatten ∨ sz ≤ q
def bI (b : Bool) : Int32 := cond b 1 0
abbrev ix (x : Int32) : Nat := x.toNatClampNeg
theorem sg_ads_flat (ss : Sg) : (sg_ads ss).flatten = ss.flatten.map Prod.fst := by
  simp [sg_ads, List.map_flatten]
theorem sg_va {A : Nat → Prop} {ss : Sg} (h : DS A (sg_ads ss)) : va_D A ss.flatten := by
  unfold DS at h
  rw [sg_ads_flat] at h
  refine ⟨fun i j p q hp hq he => ?_, fun k q hk => h.2 _ (List.mem_map.mpr ⟨q, List.mem_of_getElem? hk, rfl⟩)⟩
  have hp' : (ss.flatten.map Prod.fst)[i]? = some p.1 := by rw [List.getElem?_map, hp]; rfl
  have hq' : (ss.flatten.map Prod.fst)[j]? = some q.1 := by rw [List.getElem?_map, hq]; rfl
  obtain ⟨hi, ei⟩ := List.getElem?_eq_some_iff.mp hp'
  obtain ⟨hj, ej⟩ := List.getElem?_eq_some_iff.mp hq'
  have hpw := List.pairwise_iff_getElem.mp h.1
  rcases Nat.lt_trichotomy i j with hlt | heq | hlt
  · exact absurd (by rw [ei, ej, he]) (hpw i j hi hj hlt)
  · exact heq
  · exact absurd (by rw [ei, ej, he]) (hpw j i hj hi hlt)
/-- the flat place of a cell, and what setting it does -/
theorem sg_at : ∀ (ss : Sg) (i j : Nat) (w : va_W) (q : Nat × va_E), ss[i]? = some w → w[j]? = some q → ∃ k : Nat, ss.flatten[k]? = some q ∧ ∀ x : Nat × va_E, (ss.set i (w.set j x)).flatten = ss.flatten.set k x
  | [], i, j, w, q, h, _ => by simp at h
  | v :: ss, 0, j, w, q, h, hj => by
    have hv : v = w := by simpa using h
    subst hv
    have hlt : j < v.length := (List.getElem?_eq_some_iff.mp hj).1
    refine ⟨j, ?_, fun x => ?_⟩
    · rw [List.flatten_cons, List.getElem?_append_left hlt]; exact hj
    · rw [List.set_cons_zero, List.flatten_cons, List.flatten_cons, List.set_append_left _ _ hlt]
  | v :: ss, i + 1, j, w, q, h, hj => by
    have h' : ss[i]? = some w := by simpa using h
    obtain ⟨k, hk, hs⟩ := sg_at ss i j w q h' hj
    refine ⟨v.length + k, ?_, fun x => ?_⟩
    · rw [List.flatten_cons, List.getElem?_append_right (by omega)]
      rw [show v.length + k - v.length = k by omega]; exact hk
    · rw [List.set_cons_succ, List.flatten_cons, List.flatten_cons, hs, List.set_append_right _ _ (by omega)]
      rw [show v.length + k - v.length = k by omega]
theorem sg_ads_set {ss : Sg} {i j a : Nat} {w : va_W} {e0 e : va_E} (h : ss[i]? = some w) (hj : w[j]? = some (a, e0)) : sg_ads (ss.set i (w.set j (a, e))) = sg_ads ss := by
  unfold sg_ads
  rw [List.map_set, List.map_set]
  have h1 : (w.map Prod.fst).set j (a, e).1 = w.map Prod.fst := by
    apply List.ext_getElem?
    intro k
    rw [List.getElem?_set, List.getElem?_map]
    by_cases hk : j = k
    · subst hk
      have hlt : j < w.length := (List.getElem?_eq_some_iff.mp hj).1
      rw [if_pos rfl, if_pos (by simpa using hlt), hj]
      rfl
    · rw [if_neg hk]
  rw [h1]
  apply List.ext_getElem?
  intro k
  rw [List.getElem?_set]
  by_cases hk : i = k
  · subst hk
    have hlt : i < ss.length := (List.getElem?_eq_some_iff.mp h).1
    rw [if_pos rfl, if_pos (by simpa using hlt), List.getElem?_map, h]
    rfl
  · rw [if_neg hk]
/-- several segments put in the place of others -/
def sg_put : Sg → List Nat → Sg → Sg
  | ss, i :: is, c :: cs => sg_put (ss.set i c) is cs
  | ss, _, _ => ss
theorem sg_put_mem : ∀ (is : List Nat) (ss cs : Sg) (w : va_W), w ∈ sg_put ss is cs → w ∈ cs ∨ ∃ i : Nat, (is.length = cs.length → i ∉ is) ∧ ss[i]? = some w
  | [], ss, cs, w, h => by
    have h' : w ∈ ss := by cases cs <;> exact h
    obtain ⟨i, hi⟩ := List.getElem?_of_mem h'
    exact Or.inr ⟨i, fun _ => List.not_mem_nil, hi⟩
  | i :: is, ss, [], w, h => by
    obtain ⟨k, hk⟩ := List.getElem?_of_mem (show w ∈ ss from h)
    exact Or.inr ⟨k, fun h => by simp at h, hk⟩
  | i :: is, ss, c :: cs, w, h => by
    rcases sg_put_mem is (ss.set i c) cs w h with h1 | ⟨k, hk, hw⟩
    · exact Or.inl (List.mem_cons_of_mem _ h1)
    · rw [List.getElem?_set] at hw
      by_cases e : i = k
      · rw [if_pos e] at hw
        by_cases hlt : i < ss.length
        · rw [if_pos hlt] at hw
          have : c = w := by simpa using hw
          exact Or.inl (by rw [this]; exact List.mem_cons_self)
        · rw [if_neg hlt] at hw; cases hw
      · rw [if_neg e] at hw
        refine Or.inr ⟨k, fun hl hm => ?_, hw⟩
        rcases List.mem_cons.mp hm with h2 | h2
        · exact e h2.symm
        · exact hk (by simpa using hl) h2
theorem sg_put_ads : ∀ (is : List Nat) (ss cs cs' : Sg), is.map (fun i => ss[i]?) = cs.map some → sg_ads cs' = sg_ads cs → sg_ads (sg_put ss is cs') = sg_ads ss := by
  intro is ss cs cs' h1 h2
  have key : ∀ (is : List Nat) (as : List (List Nat)) (t : Sg), (∀ (k i : Nat) (c : va_W), is[k]? = some i → t[k]? = some c → as[i]? = some (c.map Prod.fst)) → ∀ u : Sg, sg_ads u = as → sg_ads (sg_put u is t) = as := by
    intro is
    induction is with
    | nil => intro as t _ u hu; cases t <;> exact hu
    | cons i is ih =>
      intro as t ht u hu
      cases t with
      | nil => exact hu
      | cons c t =>
        refine ih as t (fun k i' c' hk hc => ht (k + 1) i' c' (by simpa using hk) (by simpa using hc)) (u.set i c) ?_
        have h0 := ht 0 i c (by simp) (by simp)
        rw [← hu] at h0 ⊢
        unfold sg_ads at h0 ⊢
        rw [List.map_set]
        apply List.ext_getElem?
        intro k
        rw [List.getElem?_set]
        by_cases hk : i = k
        · subst hk
          have hlt := (List.getElem?_eq_some_iff.mp h0).1
          rw [if_pos rfl, if_pos hlt, h0]
        · rw [if_neg hk]
  refine key is (sg_ads ss) cs' (fun k i c hk hc => ?_) ss rfl
  have h3 : (is.map (fun i => ss[i]?))[k]? = some (ss[i]?) := by rw [List.getElem?_map, hk]; rfl
  rw [h1, List.getElem?_map] at h3
  cases hck : cs[k]? with
  | none => rw [hck] at h3; cases h3
  | some c0 =>
    rw [hck] at h3
    have h4 : ss[i]? = some c0 := by simpa using h3.symm
    have h5 : (sg_ads cs')[k]? = some (c.map Prod.fst) := by unfold sg_ads; rw [List.getElem?_map, hc]; rfl
    rw [h2] at h5
    unfold sg_ads at h5 ⊢
    rw [List.getElem?_map, hck] at h5
    rw [List.getElem?_map, h4]
    exact h5
/-- behind a call: the caller's other segments stay, the callee's are as it left them -/
theorem sg_join {A : Nat → Prop} {D : va_G} {ss cs cs' : Sg} {H H1 : Heap} (hP : PS D ss H) (hD : DS A (sg_ads ss)) (is : List Nat) (hC : is.map (fun i => ss[i]?) = cs.map some) (hl : cs'.length = cs.length)
    (hk : ∀ q : Nat, q < H.size → ¬ SA (sg_ads cs) H.size q → H1[q]? = H[q]?) (hP1 : PS D cs' H1) : PS D (sg_put ss is cs') H1 := by
  have hlen : is.length = cs'.length := by
    have := congrArg List.length hC
    simp only [List.length_map] at this
    omega
  intro k q hq
  obtain ⟨w, hw, hqw⟩ := List.mem_flatten.mp (List.mem_of_getElem? hq)
  rcases sg_put_mem is ss cs' w hw with h1 | ⟨i, hi, hwi⟩
  · obtain ⟨k', hk'⟩ := List.getElem?_of_mem (List.mem_flatten.mpr ⟨w, h1, hqw⟩)
    exact hP1 k' q hk'
  · have hi := hi hlen
    obtain ⟨k', hk'⟩ := List.getElem?_of_mem (List.mem_flatten.mpr ⟨w, List.mem_of_getElem? hwi, hqw⟩)
    have hat := hP k' q hk'
    refine hat.kept (hk q.1 hat.lt ?_)
    rintro (hm | hm)
    · rw [sg_ads_flat] at hm
      obtain ⟨q2, hq2, he2⟩ := List.mem_map.mp hm
      obtain ⟨w2, hw2, hq2w⟩ := List.mem_flatten.mp hq2
      have hw2' : some w2 ∈ is.map (fun i => ss[i]?) := by rw [hC]; exact List.mem_map.mpr ⟨w2, hw2, rfl⟩
      obtain ⟨i2, hi2, hwi2⟩ := List.mem_map.mp hw2'
      have hne : i ≠ i2 := fun e => hi (e ▸ hi2)
      have hpw := hD.1
      rw [List.pairwise_flatten] at hpw
      have hpw2 := List.pairwise_iff_getElem.mp hpw.2
      have ha : (sg_ads ss)[i]? = some (w.map Prod.fst) := by unfold sg_ads; rw [List.getElem?_map, hwi]; rfl
      have hb : (sg_ads ss)[i2]? = some (w2.map Prod.fst) := by unfold sg_ads; rw [List.getElem?_map, hwi2]; rfl
      obtain ⟨la, ea⟩ := List.getElem?_eq_some_iff.mp ha
      obtain ⟨lb, eb⟩ := List.getElem?_eq_some_iff.mp hb
      have mq : q.1 ∈ w.map Prod.fst := List.mem_map.mpr ⟨q, hqw, rfl⟩
      have mq2 : q2.1 ∈ w2.map Prod.fst := List.mem_map.mpr ⟨q2, hq2w, rfl⟩
      rcases Nat.lt_or_ge i i2 with hlt | hge
      · exact hpw2 i i2 la lb hlt q.1 (ea ▸ mq) q2.1 (eb ▸ mq2) he2.symm
      · exact hpw2 i2 i lb la (by omega) q2.1 (eb ▸ mq2) q.1 (ea ▸ mq) he2
    · exact absurd hat.lt (by omega)
theorem sg_part {A : Nat → Prop} {ss cs : Sg} (hD : DS A (sg_ads ss)) (is : List Nat) (hC : is.map (fun i => ss[i]?) = cs.map some) : ∀ a ∈ (sg_ads cs).flatten, A a := by
  intro a ha
  rw [sg_ads_flat] at ha
  obtain ⟨q2, hq2, he2⟩ := List.mem_map.mp ha
  obtain ⟨w2, hw2, hq2w⟩ := List.mem_flatten.mp hq2
  have hw2' : some w2 ∈ is.map (fun i => ss[i]?) := by rw [hC]; exact List.mem_map.mpr ⟨w2, hw2, rfl⟩
  obtain ⟨i2, -, hwi2⟩ := List.mem_map.mp hw2'
  refine hD.2 a ?_
  rw [sg_ads_flat]
  exact List.mem_map.mpr ⟨q2, List.mem_flatten.mpr ⟨w2, List.mem_of_getElem? hwi2, hq2w⟩, he2⟩
theorem sg_sub {D : va_G} {ss cs : Sg} {H : Heap} (hP : PS D ss H) (is : List Nat) (hC : is.map (fun i => ss[i]?) = cs.map some) : PS D cs H := by
  intro k q hq
  obtain ⟨w2, hw2, hq2w⟩ := List.mem_flatten.mp (List.mem_of_getElem? hq)
  have hw2' : some w2 ∈ is.map (fun i => ss[i]?) := by rw [hC]; exact List.mem_map.mpr ⟨w2, hw2, rfl⟩
  obtain ⟨i2, -, hwi2⟩ := List.mem_map.mp hw2'
  obtain ⟨k', hk'⟩ := List.getElem?_of_mem (List.mem_flatten.mpr ⟨w2, List.mem_of_getElem? hwi2, hq2w⟩)
  exact hP k' q hk'
def sg_nd : List Nat → Bool
  | [] => true
  | i :: is => (!is.contains i) && sg_nd is
theorem sg_nd_pw : ∀ (is : List Nat), sg_nd is = true → is.Pairwise (fun a b => a ≠ b)
  | [], _ => List.Pairwise.nil
  | i :: is, h => by
    simp only [sg_nd, Bool.and_eq_true, Bool.not_eq_true', List.contains_eq_mem, decide_eq_false_iff_not] at h
    exact List.Pairwise.cons (fun b hb e => h.1 (e ▸ hb)) (sg_nd_pw is h.2)
theorem sg_sub_ds {A : Nat → Prop} {ss cs : Sg} (hD : DS A (sg_ads ss)) (is : List Nat) (hn : sg_nd is = true) (hC : is.map (fun i => ss[i]?) = cs.map some) : DS (fun _ => True) (sg_ads cs) := by
  refine ⟨?_, fun _ _ => trivial⟩
  have hpw := hD.1
  rw [List.pairwise_flatten] at hpw ⊢
  have hget : ∀ (k : Nat) (b : List Nat), (sg_ads cs)[k]? = some b → ∃ i : Nat, is[k]? = some i ∧ (sg_ads ss)[i]? = some b := by
    intro k b hk
    unfold sg_ads at hk
    rw [List.getElem?_map] at hk
    cases hck : cs[k]? with
    | none => rw [hck] at hk; cases hk
    | some c0 =>
      rw [hck] at hk
      have h3 : (cs.map some)[k]? = some (some c0) := by rw [List.getElem?_map, hck]; rfl
      rw [← hC, List.getElem?_map] at h3
      cases hik : is[k]? with
      | none => rw [hik] at h3; cases h3
      | some i =>
        rw [hik] at h3
        have h4 : ss[i]? = some c0 := by simpa using h3
        refine ⟨i, rfl, ?_⟩
        unfold sg_ads
        rw [List.getElem?_map, h4]
        exact hk
  refine ⟨fun b hb => ?_, ?_⟩
  · obtain ⟨k, hk⟩ := List.getElem?_of_mem hb
    obtain ⟨i, -, hi⟩ := hget k b hk
    exact hpw.1 b (List.mem_of_getElem? hi)
  · rw [List.pairwise_iff_getElem]
    intro x y hx hy hxy
    obtain ⟨i, hi, ei⟩ := hget x _ (List.getElem?_eq_getElem hx)
    obtain ⟨j, hj, ej⟩ := hget y _ (List.getElem?_eq_getElem hy)
    obtain ⟨lx, fx⟩ := List.getElem?_eq_some_iff.mp hi
    obtain ⟨ly, fy⟩ := List.getElem?_eq_some_iff.mp hj
    have hne : i ≠ j := by rw [← fx, ← fy]; exact List.pairwise_iff_getElem.mp (sg_nd_pw is hn) x y lx ly hxy
    obtain ⟨li, gi⟩ := List.getElem?_eq_some_iff.mp ei
    obtain ⟨lj, gj⟩ := List.getElem?_eq_some_iff.mp ej
    have hpw2 := List.pairwise_iff_getElem.mp hpw.2
    rw [← gi, ← gj]
    rcases Nat.lt_or_ge i j with hlt | hge
    · exact hpw2 i j li lj hlt
    · exact fun a ha b hb e => hpw2 j i lj li (by omega) b hb a ha e.symm
