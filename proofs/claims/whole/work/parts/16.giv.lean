set_option maxRecDepth 100000 in
set_option maxHeartbeats 4000000 in
theorem c_X0_leastOf (l : Launch) (D : va_G) (cy : ClassId) (x : Int32) : CtI l yX0_leastOf cX0_leastOf 2 .int 0 64 D cy [.int (x)] [] [] (loI x) := by
  refine ctI_of (by decide +kernel) (Nat.le_of_ble_eq_true rfl) (fun p_ e_ s_ m_ args_ below_ meth_ c_ A_ X => ?_)
  refine g_lv X (lv' := [(0, .int (x))]) [0] rfl ?_
  refine g_iconst (v := 0) (pc := 0) X dX0_leastOf_0 (by decide) ?_
  refine g_istore_n (lv' := [(1, .int (0)), (0, .int (x))]) (pc := 1) X dX0_leastOf_1 rfl rfl rfl ?_
  have L2_1 : ∀ (fu_ : Nat) (j : Nat) (hj : j ≤ 8) (hq : loI x = fnd (fun t => btI x (nI t)) nI (8 - j) j) (hm : 8 - j < fu_), G p_ l e_ { frames := 0, cells := 0, slots := 0, locals := 64 } s_ m_ args_ below_ meth_ c_ 2 D A_ 0 0 (QI below_ args_ s_ D A_ [] (loI x)) [] 2 [(0, .int (x)), (1, .int (nI j))] [] := by
    intro fu_
    induction fu_ with
    | zero => intro j hj hq hm; exact absurd hm (Nat.not_lt_zero _)
    | succ fu_ ih =>
      intro j hj hq hm
      have ih2 := ih
      clear ih
      refine g_iload_n (pc := 2) X dX0_leastOf_2 1 rfl ?_
      refine g_bipush (v := 8) (pc := 3) X dX0_leastOf_3 (by decide) ?_
      refine g_ncmp_ge (pc := 5) (tgt := 24) X dX0_leastOf_5 (by decide) j 8 rfl rfl (by omega) (by decide) (fun c5 => ?_) (fun c5 => ?_)
      · have n5 := Nat.not_lt.mpr c5
        refine g_bipush (v := (-9)) (pc := 24) X dX0_leastOf_24 (by decide) ?_
        exact g_iret (pc := 26) X rfl dX0_leastOf_26 rfl (by rw [hq, show 8 - j = 0 by omega]; rfl) rfl
      · refine g_iload_n (pc := 8) X dX0_leastOf_8 0 rfl ?_
        refine g_iload_n (pc := 9) X dX0_leastOf_9 1 rfl ?_
        refine g_ishr (v := shr x (nI j)) (pc := 10) X dX0_leastOf_10 rfl ?_
        refine g_iconst (v := 1) (pc := 11) X dX0_leastOf_11 (by decide) ?_
        refine g_iand (v := (shr x (nI j)) &&& 1) (pc := 12) X dX0_leastOf_12 rfl ?_
        refine g_if_eq (pc := 13) (tgt := 18) X dX0_leastOf_13 (by decide) (fun c13 => ?_) (fun c13 => ?_)
        · refine g_iinc (v := nI (j + 1)) (lv' := [(1, .int (nI (j + 1))), (0, .int (x))]) (pc := 18) X dX0_leastOf_18 1 rfl (nI_1 j) rfl rfl ?_
          refine g_goto (pc := 21) (tgt := 2) X dX0_leastOf_21 (by decide) ?_
          refine g_lv X (lv' := [(0, .int (x)), (1, .int (nI (j + 1)))]) [1, 0] rfl ?_
          exact ih2 (j + 1) c5 (by rw [hq, show 8 - j = (8 - (j + 1)) + 1 by omega, fnd, if_neg (by rw [btI_f.mpr c13]; decide)]) (by omega)
        · refine g_iload_n (pc := 16) X dX0_leastOf_16 1 rfl ?_
          exact g_iret (pc := 17) X rfl dX0_leastOf_17 rfl (by rw [hq, show 8 - j = (8 - (j + 1)) + 1 by omega, fnd, if_pos (btI_t.mpr c13)]) rfl
  refine g_lv X (lv' := [(0, .int (x)), (1, .int (0))]) [1, 0] rfl ?_
  exact L2_1 (8 - 0 + 1) 0 (Nat.zero_le _) rfl (Nat.lt_succ_self _)
set_option maxRecDepth 100000 in
set_option maxHeartbeats 4000000 in
theorem c_X0_ofAll (l : Launch) (D : va_G) (cy : ClassId) (ag : Nat → Nat) (tc : Nat) (al : Nat → Int32) (wi : Nat → Int32) (h8 : tc ≤ 8) : CtI l yX0_ofAll cX0_ofAll 1 .int 0 64 D cy [.ref (ag 0)] [wG cy ag tc al wi] [wG cy ag tc al wi] (ofA tc wi) := by
  have hM : 2 ^ tc ≤ 256 := Nat.pow_le_pow_right (n := 2) (by omega) h8
  have hp : 0 < 2 ^ tc := Nat.two_pow_pos _
  refine ctI_of (by decide +kernel) (Nat.le_of_ble_eq_true rfl) (fun p_ e_ s_ m_ args_ below_ meth_ c_ A_ X => ?_)
  refine g_lv X (lv' := [(0, .ref (ag 0))]) [0] rfl ?_
  refine g_aload_n (pc := 0) X dX0_ofAll_0 0 rfl ?_
  refine g_get (pc := 1) X (v := .ref (ag 2)) fl_X0_19 dX0_ofAll_1 0 0 rfl rfl rfl ?_
  refine g_iconst (v := 1) (pc := 4) X dX0_ofAll_4 (by decide) ?_
  refine g_aload_n (pc := 5) X dX0_ofAll_5 0 rfl ?_
  refine g_get (pc := 6) X (v := .int (nI tc)) fl_X0_9 dX0_ofAll_6 0 0 rfl rfl rfl ?_
  refine g_ishl (v := shl 1 (nI tc)) (pc := 9) X dX0_ofAll_9 rfl ?_
  refine g_iconst (v := 1) (pc := 10) X dX0_ofAll_10 (by decide) ?_
  refine g_isub (v := nI (2 ^ tc - 1)) (pc := 11) X dX0_ofAll_11 (m1_n tc h8) ?_
  refine g_iald_n (pc := 12) (f := wi) X 0 2 dX0_ofAll_12 (2 ^ tc - 1) rfl rfl rfl (by omega) rfl ?_
  exact g_iret (pc := 13) X rfl dX0_ofAll_13 rfl rfl rfl
set_option maxRecDepth 100000 in
set_option maxHeartbeats 4000000 in
theorem c_X0_allowUnseen (l : Launch) (D : va_G) (cy : ClassId) (ag : Nat → Nat) (tc : Nat) (al : Nat → Int32) (wi : Nat → Int32) (ah : Nat → Nat) (k : KV) (h8 : kNt k ≤ 8) (hr : HRo k) (hh : kHr k < 8) : CtV l yX0_allowUnseen cX0_allowUnseen 4 2 111 D cy [.ref (ag 0), .ref (ah 0)] [wG cy ag tc al wi, wH cy ah k] [wG cy ag (kNt k) (alU k al) wi, wH cy ah k] := by
  refine ctV_of (by decide +kernel) (Nat.le_of_ble_eq_true rfl) (fun p_ e_ s_ m_ args_ below_ meth_ c_ A_ X => ?_)
  refine g_lv X (lv' := [(0, .ref (ag 0)), (1, .ref (ah 0))]) [0, 1] rfl ?_
  refine g_aload_n (pc := 0) X dX0_allowUnseen_0 0 rfl ?_
  refine g_aload_n (pc := 1) X dX0_allowUnseen_1 1 rfl ?_
  refine g_get (pc := 2) X (v := .int (nI (kNt k))) fl_X0_22 dX0_allowUnseen_2 1 0 rfl rfl rfl ?_
  refine g_put (pc := 5) X (ss' := [wG cy ag (kNt k) al wi, wH cy ah k]) fp_X0_9 dX0_allowUnseen_5 0 0 rfl rfl rfl rfl rfl rfl ?_
  refine g_iconst (v := 0) (pc := 8) X dX0_allowUnseen_8 (by decide) ?_
  refine g_istore_n (lv' := [(2, .int (0)), (0, .ref (ag 0)), (1, .ref (ah 0))]) (pc := 9) X dX0_allowUnseen_9 rfl rfl rfl ?_
  have L10_1 : ∀ (fu_ : Nat) (t : Nat) (a : Nat → Int32) (ht : t ≤ kNt k) (h1 : ∀ u, u < t → a u = auN k u (kNt k)) (h2 : ∀ u, t ≤ u → a u = al u) (hm : 8 - t < fu_), G p_ l e_ { frames := 2, cells := 0, slots := 0, locals := 111 } s_ m_ args_ below_ meth_ c_ 4 D A_ 0 0 (QV below_ args_ s_ D A_ [wG cy ag (kNt k) (alU k al) wi, wH cy ah k]) [wG cy ag (kNt k) a wi, wH cy ah k] 10 [(0, .ref (ag 0)), (1, .ref (ah 0)), (2, .int (nI t))] [] := by
    intro fu_
    induction fu_ with
    | zero => intro t a ht h1 h2 hm; exact absurd hm (Nat.not_lt_zero _)
    | succ fu_ ih =>
      intro t a ht h1 h2 hm
      have ih10 := ih
      clear ih
      refine g_iload_n (pc := 10) X dX0_allowUnseen_10 2 rfl ?_
      refine g_aload_n (pc := 11) X dX0_allowUnseen_11 0 rfl ?_
      refine g_get (pc := 12) X (v := .int (nI (kNt k))) fl_X0_9 dX0_allowUnseen_12 0 0 rfl rfl rfl ?_
      refine g_ncmp_ge (pc := 15) (tgt := 77) X dX0_allowUnseen_15 (by decide) t (kNt k) rfl rfl (by omega) (by omega) (fun c15 => ?_) (fun c15 => ?_)
      · have n15 := Nat.not_lt.mpr c15
        refine g_swap X (ss' := [wG cy ag (kNt k) (alU k al) wi, wH cy ah k]) (g := alU k al) 0 1 rfl rfl (fun u hu => by unfold alU; by_cases e : u < kNt k; (rw [if_pos e]; exact h1 u (by omega)); (rw [if_neg e]; exact h2 u (by omega))) rfl ?_
        exact g_vret (pc := 77) X rfl dX0_allowUnseen_77 rfl
      · refine g_aload_n (pc := 18) X dX0_allowUnseen_18 0 rfl ?_
        refine g_get (pc := 19) X (v := .ref (ag 1)) fl_X0_15 dX0_allowUnseen_19 0 0 rfl rfl rfl ?_
        refine g_iload_n (pc := 22) X dX0_allowUnseen_22 2 rfl ?_
        refine g_iconst (v := 0) (pc := 23) X dX0_allowUnseen_23 (by decide) ?_
        refine g_iast_n (pc := 24) X (ss' := [wG cy ag (kNt k) (upd a t 0) wi, wH cy ah k]) 0 1 dX0_allowUnseen_24 t rfl rfl rfl (by omega) rfl rfl ?_
        refine g_iconst (v := 0) (pc := 25) X dX0_allowUnseen_25 (by decide) ?_
        refine g_istore_n (lv' := [(3, .int (0)), (0, .ref (ag 0)), (1, .ref (ah 0)), (2, .int (nI t))]) (pc := 26) X dX0_allowUnseen_26 rfl rfl rfl ?_
        have L27_2 : ∀ (fu_ : Nat) (o : Nat) (b : Nat → Int32) (ho : o ≤ kNt k) (g1 : ∀ u, u ≠ t → b u = a u) (g3 : b t = auN k t o) (hm : 8 - o < fu_), G p_ l e_ { frames := 2, cells := 0, slots := 0, locals := 111 } s_ m_ args_ below_ meth_ c_ 4 D A_ 0 0 (QV below_ args_ s_ D A_ [wG cy ag (kNt k) (alU k al) wi, wH cy ah k]) [wG cy ag (kNt k) b wi, wH cy ah k] 27 [(0, .ref (ag 0)), (1, .ref (ah 0)), (2, .int (nI t)), (3, .int (nI o))] [] := by
          intro fu_
          induction fu_ with
          | zero => intro o b ho g1 g3 hm; exact absurd hm (Nat.not_lt_zero _)
          | succ fu_ ih =>
            intro o b ho g1 g3 hm
            have ih27 := ih
            clear ih
            refine g_iload_n (pc := 27) X dX0_allowUnseen_27 3 rfl ?_
            refine g_aload_n (pc := 28) X dX0_allowUnseen_28 0 rfl ?_
            refine g_get (pc := 29) X (v := .int (nI (kNt k))) fl_X0_9 dX0_allowUnseen_29 0 0 rfl rfl rfl ?_
            refine g_ncmp_ge (pc := 32) (tgt := 71) X dX0_allowUnseen_32 (by decide) o (kNt k) rfl rfl (by omega) (by omega) (fun c32 => ?_) (fun c32 => ?_)
            · have n32 := Nat.not_lt.mpr c32
              refine g_iinc (v := nI (t + 1)) (lv' := [(2, .int (nI (t + 1))), (0, .ref (ag 0)), (1, .ref (ah 0)), (3, .int (nI o))]) (pc := 71) X dX0_allowUnseen_71 2 rfl (nI_1 t) rfl rfl ?_
              refine g_goto (pc := 74) (tgt := 10) X dX0_allowUnseen_74 (by decide) ?_
              refine g_lv X (lv' := [(0, .ref (ag 0)), (1, .ref (ah 0)), (2, .int (nI (t + 1)))]) [1, 2, 0] rfl ?_
              exact ih10 (t + 1) b c15 (fun u hu => by by_cases e : u = t; (rw [e, g3, show o = kNt k by omega]); (rw [g1 u e]; exact h1 u (by omega))) (fun u hu => by rw [g1 u (by omega)]; exact h2 u (by omega)) (by omega)
            · refine g_iload_n (pc := 35) X dX0_allowUnseen_35 3 rfl ?_
              refine g_iload_n (pc := 36) X dX0_allowUnseen_36 2 rfl ?_
              refine g_ncmp_eq (pc := 37) (tgt := 65) X dX0_allowUnseen_37 (by decide) o t rfl rfl (by omega) (by omega) (fun c37 => ?_) (fun c37 => ?_)
              · have gg1 := g1
                have gg3 : b t = auN k t (o + 1) := by rw [auN, if_neg (fun q => q.1 c37)]; exact g3
                refine g_iinc (v := nI (o + 1)) (lv' := [(3, .int (nI (o + 1))), (0, .ref (ag 0)), (1, .ref (ah 0)), (2, .int (nI t))]) (pc := 65) X dX0_allowUnseen_65 3 rfl (nI_1 o) rfl rfl ?_
                refine g_goto (pc := 68) (tgt := 27) X dX0_allowUnseen_68 (by decide) ?_
                refine g_lv X (lv' := [(0, .ref (ag 0)), (1, .ref (ah 0)), (2, .int (nI t)), (3, .int (nI (o + 1)))]) [1, 2, 3, 0] rfl ?_
                exact ih27 (o + 1) b c32 gg1 gg3 (by omega)
              · refine g_aload_n (pc := 40) X dX0_allowUnseen_40 1 rfl ?_
                refine g_iload_n (pc := 41) X dX0_allowUnseen_41 2 rfl ?_
                refine g_iload_n (pc := 42) X dX0_allowUnseen_42 3 rfl ?_
                refine g_aload_n (pc := 43) X dX0_allowUnseen_43 1 rfl ?_
                refine g_get (pc := 44) X (v := .int (nI (kHr k))) fl_X0_25 dX0_allowUnseen_44 1 0 rfl rfl rfl ?_
                refine g_callV (pc := 47) (rest := []) (ss' := [wG cy ag (kNt k) b wi, wH cy ah k]) X (c_X1_meet l D cy ah k t o (kHr k) (by first | assumption | omega) (by first | assumption | omega) (by first | assumption | omega) (by first | assumption | omega) (by first | assumption | omega)) vl_X0_28 dX0_allowUnseen_47 [1] 1 0 rfl rfl rfl rfl rfl rfl rfl rfl rfl rfl rfl rfl rfl ⟨Nat.zero_le _, Nat.zero_le _⟩ ?_
                refine g_bif_ne (pc := 50) (tgt := 65) X dX0_allowUnseen_50 (by decide) (fun c50 => ?_) (fun c50 => ?_)
                · have gg1 := g1
                  have gg3 : b t = auN k t (o + 1) := by rw [auN, if_neg (fun q => by rw [c50] at q; cases q.2)]; exact g3
                  refine g_iinc (v := nI (o + 1)) (lv' := [(3, .int (nI (o + 1))), (0, .ref (ag 0)), (1, .ref (ah 0)), (2, .int (nI t))]) (pc := 65) X dX0_allowUnseen_65 3 rfl (nI_1 o) rfl rfl ?_
                  refine g_goto (pc := 68) (tgt := 27) X dX0_allowUnseen_68 (by decide) ?_
                  refine g_lv X (lv' := [(0, .ref (ag 0)), (1, .ref (ah 0)), (2, .int (nI t)), (3, .int (nI (o + 1)))]) [1, 2, 3, 0] rfl ?_
                  exact ih27 (o + 1) b c32 gg1 gg3 (by omega)
                · have gg1 : ∀ u, u ≠ t → upd b t (b t ||| shl 1 (nI o)) u = a u := fun u h => by rw [upd_n h]; exact g1 u h
                  have gg3 : upd b t (b t ||| shl 1 (nI o)) t = auN k t (o + 1) := by rw [upd_s, auN, if_pos ⟨c37, c50⟩, g3]
                  refine g_aload_n (pc := 53) X dX0_allowUnseen_53 0 rfl ?_
                  refine g_get (pc := 54) X (v := .ref (ag 1)) fl_X0_15 dX0_allowUnseen_54 0 0 rfl rfl rfl ?_
                  refine g_iload_n (pc := 57) X dX0_allowUnseen_57 2 rfl ?_
                  refine g_dup2 (pc := 58) X dX0_allowUnseen_58 rfl rfl ?_
                  refine g_iald_n (pc := 59) (f := b) X 0 1 dX0_allowUnseen_59 t rfl rfl rfl (by omega) rfl ?_
                  refine g_iconst (v := 1) (pc := 60) X dX0_allowUnseen_60 (by decide) ?_
                  refine g_iload_n (pc := 61) X dX0_allowUnseen_61 3 rfl ?_
                  refine g_ishl (v := shl 1 (nI o)) (pc := 62) X dX0_allowUnseen_62 rfl ?_
                  refine g_ior (v := (b t) ||| (shl 1 (nI o))) (pc := 63) X dX0_allowUnseen_63 rfl ?_
                  refine g_iast_n (pc := 64) X (ss' := [wG cy ag (kNt k) (upd b t ((b t) ||| (shl 1 (nI o)))) wi, wH cy ah k]) 0 1 dX0_allowUnseen_64 t rfl rfl rfl (by omega) rfl rfl ?_
                  refine g_iinc (v := nI (o + 1)) (lv' := [(3, .int (nI (o + 1))), (0, .ref (ag 0)), (1, .ref (ah 0)), (2, .int (nI t))]) (pc := 65) X dX0_allowUnseen_65 3 rfl (nI_1 o) rfl rfl ?_
                  refine g_goto (pc := 68) (tgt := 27) X dX0_allowUnseen_68 (by decide) ?_
                  refine g_lv X (lv' := [(0, .ref (ag 0)), (1, .ref (ah 0)), (2, .int (nI t)), (3, .int (nI (o + 1)))]) [1, 2, 3, 0] rfl ?_
                  exact ih27 (o + 1) (upd b t ((b t) ||| (shl 1 (nI o)))) c32 gg1 gg3 (by omega)
        refine g_lv X (lv' := [(0, .ref (ag 0)), (1, .ref (ah 0)), (2, .int (nI t)), (3, .int (0))]) [1, 2, 3, 0] rfl ?_
        exact L27_2 (8 - 0 + 1) 0 (upd a t 0) (Nat.zero_le _) (fun u h => upd_n h) (upd_s _ _ _) (Nat.lt_succ_self _)
  refine g_lv X (lv' := [(0, .ref (ag 0)), (1, .ref (ah 0)), (2, .int (0))]) [1, 2, 0] rfl ?_
  exact L10_1 (8 - 0 + 1) 0 al (Nat.zero_le _) (fun u h => absurd h (Nat.not_lt_zero u)) (fun _ _ => rfl) (Nat.lt_succ_self _)
set_option maxRecDepth 100000 in
set_option maxHeartbeats 4000000 in
theorem c_X0_allowApart (l : Launch) (D : va_G) (cy : ClassId) (ag : Nat → Nat) (tc : Nat) (al : Nat → Int32) (wi : Nat → Int32) (ah : Nat → Nat) (k : KV) (h8 : kNt k ≤ 8) (hs : kNs k ≤ 8) : CtV l yX0_allowApart cX0_allowApart 5 1 84 D cy [.ref (ag 0), .ref (ah 0)] [wG cy ag tc al wi, wH cy ah k] [wG cy ag (kNt k) (alV k al) wi, wH cy ah k] := by
  refine ctV_of (by decide +kernel) (Nat.le_of_ble_eq_true rfl) (fun p_ e_ s_ m_ args_ below_ meth_ c_ A_ X => ?_)
  refine g_lv X (lv' := [(0, .ref (ag 0)), (1, .ref (ah 0))]) [0, 1] rfl ?_
  refine g_aload_n (pc := 0) X dX0_allowApart_0 0 rfl ?_
  refine g_aload_n (pc := 1) X dX0_allowApart_1 1 rfl ?_
  refine g_get (pc := 2) X (v := .int (nI (kNt k))) fl_X0_22 dX0_allowApart_2 1 0 rfl rfl rfl ?_
  refine g_put (pc := 5) X (ss' := [wG cy ag (kNt k) al wi, wH cy ah k]) fp_X0_9 dX0_allowApart_5 0 0 rfl rfl rfl rfl rfl rfl ?_
  refine g_iconst (v := 0) (pc := 8) X dX0_allowApart_8 (by decide) ?_
  refine g_istore_n (lv' := [(2, .int (0)), (0, .ref (ag 0)), (1, .ref (ah 0))]) (pc := 9) X dX0_allowApart_9 rfl rfl rfl ?_
  have L10_1 : ∀ (fu_ : Nat) (t : Nat) (a : Nat → Int32) (ht : t ≤ kNt k) (h1 : ∀ u, u < t → a u = alV k al u) (h2 : ∀ u, t ≤ u → a u = al u) (hm : 8 - t < fu_), G p_ l e_ { frames := 1, cells := 0, slots := 0, locals := 84 } s_ m_ args_ below_ meth_ c_ 5 D A_ 0 0 (QV below_ args_ s_ D A_ [wG cy ag (kNt k) (alV k al) wi, wH cy ah k]) [wG cy ag (kNt k) a wi, wH cy ah k] 10 [(0, .ref (ag 0)), (1, .ref (ah 0)), (2, .int (nI t))] [] := by
    intro fu_
    induction fu_ with
    | zero => intro t a ht h1 h2 hm; exact absurd hm (Nat.not_lt_zero _)
    | succ fu_ ih =>
      intro t a ht h1 h2 hm
      have ih10 := ih
      clear ih
      refine g_iload_n (pc := 10) X dX0_allowApart_10 2 rfl ?_
      refine g_aload_n (pc := 11) X dX0_allowApart_11 0 rfl ?_
      refine g_get (pc := 12) X (v := .int (nI (kNt k))) fl_X0_9 dX0_allowApart_12 0 0 rfl rfl rfl ?_
      refine g_ncmp_ge (pc := 15) (tgt := 84) X dX0_allowApart_15 (by decide) t (kNt k) rfl rfl (by omega) (by omega) (fun c15 => ?_) (fun c15 => ?_)
      · have n15 := Nat.not_lt.mpr c15
        refine g_swap X (ss' := [wG cy ag (kNt k) (alV k al) wi, wH cy ah k]) (g := alV k al) 0 1 rfl rfl (fun u hu => by by_cases e : u < kNt k; (exact h1 u (by omega)); (rw [alV, if_neg e]; exact h2 u (by omega))) rfl ?_
        exact g_vret (pc := 84) X rfl dX0_allowApart_84 rfl
      · refine g_iconst (v := 1) (pc := 18) X dX0_allowApart_18 (by decide) ?_
        refine g_iload_n (pc := 19) X dX0_allowApart_19 2 rfl ?_
        refine g_ishl (v := shl 1 (nI t)) (pc := 20) X dX0_allowApart_20 rfl ?_
        refine g_istore_n (lv' := [(3, .int (shl 1 (nI t))), (0, .ref (ag 0)), (1, .ref (ah 0)), (2, .int (nI t))]) (pc := 21) X dX0_allowApart_21 rfl rfl rfl ?_
        refine g_iconst (v := 0) (pc := 22) X dX0_allowApart_22 (by decide) ?_
        refine g_istore (lv' := [(4, .int (0)), (3, .int (shl 1 (nI t))), (0, .ref (ag 0)), (1, .ref (ah 0)), (2, .int (nI t))]) (pc := 23) X dX0_allowApart_23 rfl rfl ?_
        have L25_2 : ∀ (fu_ : Nat) (q : Nat) (hq : q ≤ kNs k) (hm : 8 - q < fu_), G p_ l e_ { frames := 1, cells := 0, slots := 0, locals := 84 } s_ m_ args_ below_ meth_ c_ 5 D A_ 0 0 (QV below_ args_ s_ D A_ [wG cy ag (kNt k) (alV k al) wi, wH cy ah k]) [wG cy ag (kNt k) a wi, wH cy ah k] 25 [(0, .ref (ag 0)), (1, .ref (ah 0)), (2, .int (nI t)), (3, .int (abN k t q)), (4, .int (nI q))] [] := by
          intro fu_
          induction fu_ with
          | zero => intro q hq hm; exact absurd hm (Nat.not_lt_zero _)
          | succ fu_ ih =>
            intro q hq hm
            have ih25 := ih
            clear ih
            refine g_iload (pc := 25) X dX0_allowApart_25 4 rfl ?_
            refine g_aload_n (pc := 27) X dX0_allowApart_27 1 rfl ?_
            refine g_get (pc := 28) X (v := .int (nI (kNs k))) fl_X0_32 dX0_allowApart_28 1 0 rfl rfl rfl ?_
            refine g_ncmp_ge (pc := 31) (tgt := 64) X dX0_allowApart_31 (by decide) q (kNs k) rfl rfl (by omega) (by omega) (fun c31 => ?_) (fun c31 => ?_)
            · have n31 := Nat.not_lt.mpr c31
              refine g_aload_n (pc := 64) X dX0_allowApart_64 0 rfl ?_
              refine g_get (pc := 65) X (v := .ref (ag 1)) fl_X0_15 dX0_allowApart_65 0 0 rfl rfl rfl ?_
              refine g_iload_n (pc := 68) X dX0_allowApart_68 2 rfl ?_
              refine g_aload_n (pc := 69) X dX0_allowApart_69 1 rfl ?_
              refine g_callV (pc := 70) (rest := [.int (nI t), .ref (ag 1)]) (ss' := [wG cy ag (kNt k) a wi, wH cy ah k]) X (c_X1_allThings l D cy ah k ) vl_X0_38 dX0_allowApart_70 [1] 1 0 rfl rfl rfl rfl rfl rfl rfl rfl rfl rfl rfl rfl rfl ⟨Nat.zero_le _, Nat.zero_le _⟩ ?_
              refine g_iload_n (pc := 73) X dX0_allowApart_73 3 rfl ?_
              refine g_iconst (v := (-1)) (pc := 74) X dX0_allowApart_74 (by decide) ?_
              refine g_ixor (v := (abN k t q) ^^^ ((-1))) (pc := 75) X dX0_allowApart_75 rfl ?_
              refine g_iand (v := (allT k) &&& ((abN k t q) ^^^ ((-1)))) (pc := 76) X dX0_allowApart_76 rfl ?_
              refine g_iast_n (pc := 77) X (ss' := [wG cy ag (kNt k) (upd a t ((allT k) &&& ((abN k t q) ^^^ ((-1))))) wi, wH cy ah k]) 0 1 dX0_allowApart_77 t rfl rfl rfl (by omega) rfl rfl ?_
              refine g_iinc (v := nI (t + 1)) (lv' := [(2, .int (nI (t + 1))), (0, .ref (ag 0)), (1, .ref (ah 0)), (3, .int (abN k t q)), (4, .int (nI q))]) (pc := 78) X dX0_allowApart_78 2 rfl (nI_1 t) rfl rfl ?_
              refine g_goto (pc := 81) (tgt := 10) X dX0_allowApart_81 (by decide) ?_
              refine g_lv X (lv' := [(0, .ref (ag 0)), (1, .ref (ah 0)), (2, .int (nI (t + 1)))]) [1, 2, 0] rfl ?_
              exact ih10 (t + 1) (upd a t ((allT k) &&& ((abN k t q) ^^^ ((-1))))) c15 (fun u hu => by by_cases e : u = t; (rw [e, upd_s, alV, if_pos c15, show q = kNs k by omega]); (rw [upd_n e]; exact h1 u (by omega))) (fun u hu => by rw [upd_n (by omega)]; exact h2 u (by omega)) (by omega)
            · refine g_aload_n (pc := 34) X dX0_allowApart_34 1 rfl ?_
              refine g_get (pc := 35) X (v := .ref (ah 8)) fl_X0_35 dX0_allowApart_35 1 0 rfl rfl rfl ?_
              refine g_iload (pc := 38) X dX0_allowApart_38 4 rfl ?_
              refine g_iald_n (pc := 40) (f := kSe k) X 1 8 dX0_allowApart_40 q rfl rfl rfl (by omega) rfl ?_
              refine g_iload_n (pc := 41) X dX0_allowApart_41 2 rfl ?_
              refine g_ishr (v := shr ((kSe k) q) (nI t)) (pc := 42) X dX0_allowApart_42 rfl ?_
              refine g_iconst (v := 1) (pc := 43) X dX0_allowApart_43 (by decide) ?_
              refine g_iand (v := (shr ((kSe k) q) (nI t)) &&& 1) (pc := 44) X dX0_allowApart_44 rfl ?_
              refine g_if_eq (pc := 45) (tgt := 58) X dX0_allowApart_45 (by decide) (fun c45 => ?_) (fun c45 => ?_)
              · have hb := btI_f.mpr c45
                have hc : abN k t q = abN k t (q + 1) := by rw [abN, if_neg (by rw [hb]; decide)]
                rw [hc]
                refine g_iinc (v := nI (q + 1)) (lv' := [(4, .int (nI (q + 1))), (0, .ref (ag 0)), (1, .ref (ah 0)), (2, .int (nI t)), (3, .int (abN k t (q + 1)))]) (pc := 58) X dX0_allowApart_58 4 rfl (nI_1 q) rfl rfl ?_
                refine g_goto (pc := 61) (tgt := 25) X dX0_allowApart_61 (by decide) ?_
                refine g_lv X (lv' := [(0, .ref (ag 0)), (1, .ref (ah 0)), (2, .int (nI t)), (3, .int (abN k t (q + 1))), (4, .int (nI (q + 1)))]) [1, 2, 3, 4, 0] rfl ?_
                exact ih25 (q + 1) c31 (by omega)
              · have hb := btI_t.mpr c45
                refine g_iload_n (pc := 48) X dX0_allowApart_48 3 rfl ?_
                refine g_aload_n (pc := 49) X dX0_allowApart_49 1 rfl ?_
                refine g_get (pc := 50) X (v := .ref (ah 8)) fl_X0_35 dX0_allowApart_50 1 0 rfl rfl rfl ?_
                refine g_iload (pc := 53) X dX0_allowApart_53 4 rfl ?_
                refine g_iald_n (pc := 55) (f := kSe k) X 1 8 dX0_allowApart_55 q rfl rfl rfl (by omega) rfl ?_
                refine g_ior (v := abN k t (q + 1)) (pc := 56) X dX0_allowApart_56 (by rw [abN, if_pos hb]) ?_
                refine g_istore_n (lv' := [(3, .int (abN k t (q + 1))), (0, .ref (ag 0)), (1, .ref (ah 0)), (2, .int (nI t)), (4, .int (nI q))]) (pc := 57) X dX0_allowApart_57 rfl rfl rfl ?_
                refine g_iinc (v := nI (q + 1)) (lv' := [(4, .int (nI (q + 1))), (3, .int (abN k t (q + 1))), (0, .ref (ag 0)), (1, .ref (ah 0)), (2, .int (nI t))]) (pc := 58) X dX0_allowApart_58 4 rfl (nI_1 q) rfl rfl ?_
                refine g_goto (pc := 61) (tgt := 25) X dX0_allowApart_61 (by decide) ?_
                refine g_lv X (lv' := [(0, .ref (ag 0)), (1, .ref (ah 0)), (2, .int (nI t)), (3, .int (abN k t (q + 1))), (4, .int (nI (q + 1)))]) [2, 3, 4, 1, 0] rfl ?_
                exact ih25 (q + 1) c31 (by omega)
        refine g_lv X (lv' := [(0, .ref (ag 0)), (1, .ref (ah 0)), (2, .int (nI t)), (3, .int (shl 1 (nI t))), (4, .int (0))]) [2, 3, 4, 1, 0] rfl ?_
        exact L25_2 (8 - 0 + 1) 0 (Nat.zero_le _) (Nat.lt_succ_self _)
  refine g_lv X (lv' := [(0, .ref (ag 0)), (1, .ref (ah 0)), (2, .int (0))]) [1, 2, 0] rfl ?_
  exact L10_1 (8 - 0 + 1) 0 al (Nat.zero_le _) (fun u h => absurd h (Nat.not_lt_zero u)) (fun _ _ => rfl) (Nat.lt_succ_self _)
set_option maxRecDepth 100000 in
set_option maxHeartbeats 4000000 in
theorem c_X0_reckon (l : Launch) (D : va_G) (cy : ClassId) (ag : Nat → Nat) (tc : Nat) (al : Nat → Int32) (wi : Nat → Int32) (h8 : tc ≤ 8) : CtV l yX0_reckon cX0_reckon 6 1 85 D cy [.ref (ag 0)] [wG cy ag tc al wi] [wG cy ag tc al (wiT tc al wi)] := by
  have hM : 2 ^ tc ≤ 256 := Nat.pow_le_pow_right (n := 2) (by omega) h8
  have hp : 0 < 2 ^ tc := Nat.two_pow_pos _
  obtain ⟨M, hMe⟩ : ∃ M, 2 ^ tc = M := ⟨_, rfl⟩
  have hM2 : M ≤ 256 := by omega
  have hp2 : 0 < M := by omega
  refine ctV_of (by decide +kernel) (Nat.le_of_ble_eq_true rfl) (fun p_ e_ s_ m_ args_ below_ meth_ c_ A_ X => ?_)
  refine g_lv X (lv' := [(0, .ref (ag 0))]) [0] rfl ?_
  refine g_aload_n (pc := 0) X dX0_reckon_0 0 rfl ?_
  refine g_get (pc := 1) X (v := .ref (ag 2)) fl_X0_19 dX0_reckon_1 0 0 rfl rfl rfl ?_
  refine g_iconst (v := 0) (pc := 4) X dX0_reckon_4 (by decide) ?_
  refine g_iconst (v := 1) (pc := 5) X dX0_reckon_5 (by decide) ?_
  refine g_iast_n (pc := 6) X (ss' := [wG cy ag tc al (upd wi 0 1)]) 0 2 dX0_reckon_6 0 rfl rfl rfl (by omega) rfl rfl ?_
  refine g_iconst (v := 1) (pc := 7) X dX0_reckon_7 (by decide) ?_
  refine g_istore_n (lv' := [(1, .int (1)), (0, .ref (ag 0))]) (pc := 8) X dX0_reckon_8 rfl rfl rfl ?_
  have L9_1 : ∀ (fu_ : Nat) (s : Nat) (hs : s + 1 ≤ M) (hm : M - s < fu_), G p_ l e_ { frames := 1, cells := 0, slots := 0, locals := 85 } s_ m_ args_ below_ meth_ c_ 6 D A_ 0 0 (QV below_ args_ s_ D A_ [wG cy ag tc al (wiT tc al wi)]) [wG cy ag tc al (rT tc al wi s)] 9 [(0, .ref (ag 0)), (1, .int (nI ((s + 1))))] [] := by
    intro fu_
    induction fu_ with
    | zero => intro s hs hm; exact absurd hm (Nat.not_lt_zero _)
    | succ fu_ ih =>
      intro s hs hm
      have ih9 := ih
      clear ih
      refine g_iload_n (pc := 9) X dX0_reckon_9 1 rfl ?_
      refine g_iconst (v := 1) (pc := 10) X dX0_reckon_10 (by decide) ?_
      refine g_aload_n (pc := 11) X dX0_reckon_11 0 rfl ?_
      refine g_get (pc := 12) X (v := .int (nI tc)) fl_X0_9 dX0_reckon_12 0 0 rfl rfl rfl ?_
      refine g_ishl (v := nI M) (pc := 15) X dX0_reckon_15 (by rw [← hMe]; exact shl1_n tc (by omega)) ?_
      refine g_ncmp_ge (pc := 16) (tgt := 99) X dX0_reckon_16 (by decide) ((s + 1)) M rfl rfl (by omega) (by omega) (fun c16 => ?_) (fun c16 => ?_)
      · have n16 := Nat.not_lt.mpr c16
        have hs2 : s = 2 ^ tc - 1 := by omega
        exact g_vret (pc := 99) X rfl dX0_reckon_99 (by rw [hs2]; rfl)
      · refine g_iload_n (pc := 19) X dX0_reckon_19 1 rfl ?_
        refine g_callS (pc := 20) (rest := []) X (c_X0_leastOf l D cy (nI ((s + 1))) ) sl_X0_42 dX0_reckon_20 rfl rfl rfl rfl rfl ⟨Nat.zero_le _, Nat.zero_le _⟩ ?_
        have hl : loN (s + 1) < tc := lo_lt h8 (by omega) (by omega)
        have hx : (s + 1) ^^^ 2 ^ loN (s + 1) < 2 ^ tc := xor_lt (by omega) hl
        refine g_top X (lo_n (s + 1) (by omega) (by omega)) ?_
        refine g_istore_n (lv' := [(2, .int (nI (loN (s + 1)))), (0, .ref (ag 0)), (1, .int (nI ((s + 1))))]) (pc := 23) X dX0_reckon_23 rfl rfl rfl ?_
        refine g_iload_n (pc := 24) X dX0_reckon_24 2 rfl ?_
        refine g_iconst (v := 1) (pc := 25) X dX0_reckon_25 (by decide) ?_
        refine g_iload_n (pc := 26) X dX0_reckon_26 0 rfl ?_
        refine g_ishl (v := nI (2 ^ loN (s + 1))) (pc := 27) X dX0_reckon_27 (shl1_n _ (by have := lo_8 (s + 1); omega)) ?_
        refine g_ixor (v := nI ((s + 1) ^^^ 2 ^ loN (s + 1))) (pc := 28) X dX0_reckon_28 (nx_xor _ _) ?_
        refine g_istore_n (lv' := [(3, .int (nI ((s + 1) ^^^ 2 ^ loN (s + 1)))), (2, .int (nI (loN (s + 1)))), (0, .ref (ag 0)), (1, .int (nI ((s + 1))))]) (pc := 29) X dX0_reckon_29 rfl rfl rfl ?_
        refine g_iconst (v := 0) (pc := 30) X dX0_reckon_30 (by decide) ?_
        refine g_istore (lv' := [(4, .int (0)), (3, .int (nI ((s + 1) ^^^ 2 ^ loN (s + 1)))), (2, .int (nI (loN (s + 1)))), (0, .ref (ag 0)), (1, .int (nI ((s + 1))))]) (pc := 31) X dX0_reckon_31 rfl rfl ?_
        refine g_lvv X (lv' := [(4, .int (reA al (rT tc al wi s) (loN (s + 1)) ((s + 1) ^^^ 2 ^ loN (s + 1)) (loN (s + 1) + 1))), (3, .int (nI ((s + 1) ^^^ 2 ^ loN (s + 1)))), (2, .int (nI (loN (s + 1)))), (0, .ref (ag 0)), (1, .int (nI ((s + 1))))]) (by rw [reA_0 _ _ _ _ _ (Nat.le_refl _)]) ?_
        refine g_iload_n (pc := 33) X dX0_reckon_33 2 rfl ?_
        refine g_iconst (v := 1) (pc := 34) X dX0_reckon_34 (by decide) ?_
        refine g_iadd (v := nI (loN (s + 1) + 1)) (pc := 35) X dX0_reckon_35 (nI_add (loN (s + 1)) 1) ?_
        refine g_istore (lv' := [(5, .int (nI (loN (s + 1) + 1))), (4, .int (reA al (rT tc al wi s) (loN (s + 1)) ((s + 1) ^^^ 2 ^ loN (s + 1)) (loN (s + 1) + 1))), (3, .int (nI ((s + 1) ^^^ 2 ^ loN (s + 1)))), (2, .int (nI (loN (s + 1)))), (0, .ref (ag 0)), (1, .int (nI ((s + 1))))]) (pc := 36) X dX0_reckon_36 rfl rfl ?_
        have L38_2 : ∀ (fu_ : Nat) (o : Nat) (ho : o ≤ tc) (hlo : loN (s + 1) < o) (hm : 8 - o < fu_), G p_ l e_ { frames := 1, cells := 0, slots := 0, locals := 85 } s_ m_ args_ below_ meth_ c_ 6 D A_ 0 0 (QV below_ args_ s_ D A_ [wG cy ag tc al (wiT tc al wi)]) [wG cy ag tc al (rT tc al wi s)] 38 [(0, .ref (ag 0)), (1, .int (nI ((s + 1)))), (2, .int (nI (loN (s + 1)))), (3, .int (nI ((s + 1) ^^^ 2 ^ loN (s + 1)))), (4, .int (reA al (rT tc al wi s) (loN (s + 1)) ((s + 1) ^^^ 2 ^ loN (s + 1)) o)), (5, .int (nI o))] [] := by
          intro fu_
          induction fu_ with
          | zero => intro o ho hlo hm; exact absurd hm (Nat.not_lt_zero _)
          | succ fu_ ih =>
            intro o ho hlo hm
            have ih38 := ih
            clear ih
            refine g_iload (pc := 38) X dX0_reckon_38 5 rfl ?_
            refine g_aload_n (pc := 40) X dX0_reckon_40 0 rfl ?_
            refine g_get (pc := 41) X (v := .int (nI tc)) fl_X0_9 dX0_reckon_41 0 0 rfl rfl rfl ?_
            refine g_ncmp_ge (pc := 44) (tgt := 85) X dX0_reckon_44 (by decide) o tc rfl rfl (by omega) (by omega) (fun c44 => ?_) (fun c44 => ?_)
            · have n44 := Nat.not_lt.mpr c44
              rw [show reA al (rT tc al wi s) (loN (s + 1)) ((s + 1) ^^^ 2 ^ loN (s + 1)) o = reV tc al (rT tc al wi s) (s + 1) by rw [show o = tc by omega]; rfl]
              refine g_aload_n (pc := 85) X dX0_reckon_85 0 rfl ?_
              refine g_get (pc := 86) X (v := .ref (ag 2)) fl_X0_19 dX0_reckon_86 0 0 rfl rfl rfl ?_
              refine g_iload_n (pc := 89) X dX0_reckon_89 1 rfl ?_
              refine g_iload (pc := 90) X dX0_reckon_90 4 rfl ?_
              refine g_iast_n (pc := 92) X (ss' := [wG cy ag tc al (upd (rT tc al wi s) ((s + 1)) (reV tc al (rT tc al wi s) (s + 1)))]) 0 2 dX0_reckon_92 ((s + 1)) rfl rfl rfl (by omega) rfl rfl ?_
              refine g_iinc (v := nI ((s + 1) + 1)) (lv' := [(1, .int (nI ((s + 1) + 1))), (0, .ref (ag 0)), (2, .int (nI (loN (s + 1)))), (3, .int (nI ((s + 1) ^^^ 2 ^ loN (s + 1)))), (4, .int (reV tc al (rT tc al wi s) (s + 1))), (5, .int (nI o))]) (pc := 93) X dX0_reckon_93 1 rfl (nI_1 ((s + 1))) rfl rfl ?_
              refine g_goto (pc := 96) (tgt := 9) X dX0_reckon_96 (by decide) ?_
              refine g_lv X (lv' := [(0, .ref (ag 0)), (1, .int (nI ((s + 1) + 1)))]) [1, 0] rfl ?_
              exact ih9 (s + 1) c16 (by omega)
            · refine g_iload_n (pc := 47) X dX0_reckon_47 3 rfl ?_
              refine g_aload_n (pc := 48) X dX0_reckon_48 0 rfl ?_
              refine g_get (pc := 49) X (v := .ref (ag 1)) fl_X0_15 dX0_reckon_49 0 0 rfl rfl rfl ?_
              refine g_iload_n (pc := 52) X dX0_reckon_52 2 rfl ?_
              refine g_iald_n (pc := 53) (f := al) X 0 1 dX0_reckon_53 (loN (s + 1)) rfl rfl rfl (by have := lo_8 (s + 1); omega) rfl ?_
              refine g_iand (v := (nI ((s + 1) ^^^ 2 ^ loN (s + 1))) &&& (al (loN (s + 1)))) (pc := 54) X dX0_reckon_54 rfl ?_
              refine g_iconst (v := 1) (pc := 55) X dX0_reckon_55 (by decide) ?_
              refine g_iload (pc := 56) X dX0_reckon_56 5 rfl ?_
              refine g_ishl (v := shl 1 (nI o)) (pc := 58) X dX0_reckon_58 rfl ?_
              refine g_iand (v := ((nI ((s + 1) ^^^ 2 ^ loN (s + 1))) &&& (al (loN (s + 1)))) &&& (shl 1 (nI o))) (pc := 59) X dX0_reckon_59 rfl ?_
              refine g_if_eq (pc := 60) (tgt := 79) X dX0_reckon_60 (by decide) (fun c60 => ?_) (fun c60 => ?_)
              · have hc60 := (re_c (by omega)).mp c60
                have he : reA al (rT tc al wi s) (loN (s + 1)) ((s + 1) ^^^ 2 ^ loN (s + 1)) o = reA al (rT tc al wi s) (loN (s + 1)) ((s + 1) ^^^ 2 ^ loN (s + 1)) (o + 1) := by rw [reA, if_neg (fun q => hc60 q.2)]
                rw [he]
                refine g_iinc (v := nI (o + 1)) (lv' := [(5, .int (nI (o + 1))), (0, .ref (ag 0)), (1, .int (nI ((s + 1)))), (2, .int (nI (loN (s + 1)))), (3, .int (nI ((s + 1) ^^^ 2 ^ loN (s + 1)))), (4, .int (reA al (rT tc al wi s) (loN (s + 1)) ((s + 1) ^^^ 2 ^ loN (s + 1)) (o + 1)))]) (pc := 79) X dX0_reckon_79 5 rfl (nI_1 o) rfl rfl ?_
                refine g_goto (pc := 82) (tgt := 38) X dX0_reckon_82 (by decide) ?_
                refine g_lv X (lv' := [(0, .ref (ag 0)), (1, .int (nI ((s + 1)))), (2, .int (nI (loN (s + 1)))), (3, .int (nI ((s + 1) ^^^ 2 ^ loN (s + 1)))), (4, .int (reA al (rT tc al wi s) (loN (s + 1)) ((s + 1) ^^^ 2 ^ loN (s + 1)) (o + 1))), (5, .int (nI (o + 1)))]) [1, 2, 3, 4, 5, 0] rfl ?_
                exact ih38 (o + 1) c44 (by omega) (by omega)
              · have hc60 := Decidable.of_not_not (fun q => c60 ((re_c (by omega)).mpr q))
                refine g_iload (pc := 63) X dX0_reckon_63 4 rfl ?_
                refine g_aload_n (pc := 65) X dX0_reckon_65 0 rfl ?_
                refine g_get (pc := 66) X (v := .ref (ag 2)) fl_X0_19 dX0_reckon_66 0 0 rfl rfl rfl ?_
                refine g_iload_n (pc := 69) X dX0_reckon_69 3 rfl ?_
                refine g_iconst (v := 1) (pc := 70) X dX0_reckon_70 (by decide) ?_
                refine g_iload (pc := 71) X dX0_reckon_71 5 rfl ?_
                refine g_ishl (v := nI (2 ^ o)) (pc := 73) X dX0_reckon_73 (shl1_n o (by omega)) ?_
                refine g_ixor (v := nI (((s + 1) ^^^ 2 ^ loN (s + 1)) ^^^ 2 ^ o)) (pc := 74) X dX0_reckon_74 (nx_xor _ _) ?_
                refine g_iald_n (pc := 75) (f := rT tc al wi s) X 0 2 dX0_reckon_75 (((s + 1) ^^^ 2 ^ loN (s + 1)) ^^^ 2 ^ o) rfl rfl rfl (by have := xor_lt hx c44; omega) rfl ?_
                refine g_iadd (v := reA al (rT tc al wi s) (loN (s + 1)) ((s + 1) ^^^ 2 ^ loN (s + 1)) (o + 1)) (pc := 76) X dX0_reckon_76 (by rw [reA, if_pos ⟨hlo, hc60⟩]) ?_
                refine g_istore (lv' := [(4, .int (reA al (rT tc al wi s) (loN (s + 1)) ((s + 1) ^^^ 2 ^ loN (s + 1)) (o + 1))), (0, .ref (ag 0)), (1, .int (nI ((s + 1)))), (2, .int (nI (loN (s + 1)))), (3, .int (nI ((s + 1) ^^^ 2 ^ loN (s + 1)))), (5, .int (nI o))]) (pc := 77) X dX0_reckon_77 rfl rfl ?_
                refine g_iinc (v := nI (o + 1)) (lv' := [(5, .int (nI (o + 1))), (4, .int (reA al (rT tc al wi s) (loN (s + 1)) ((s + 1) ^^^ 2 ^ loN (s + 1)) (o + 1))), (0, .ref (ag 0)), (1, .int (nI ((s + 1)))), (2, .int (nI (loN (s + 1)))), (3, .int (nI ((s + 1) ^^^ 2 ^ loN (s + 1))))]) (pc := 79) X dX0_reckon_79 5 rfl (nI_1 o) rfl rfl ?_
                refine g_goto (pc := 82) (tgt := 38) X dX0_reckon_82 (by decide) ?_
                refine g_lv X (lv' := [(0, .ref (ag 0)), (1, .int (nI ((s + 1)))), (2, .int (nI (loN (s + 1)))), (3, .int (nI ((s + 1) ^^^ 2 ^ loN (s + 1)))), (4, .int (reA al (rT tc al wi s) (loN (s + 1)) ((s + 1) ^^^ 2 ^ loN (s + 1)) (o + 1))), (5, .int (nI (o + 1)))]) [2, 3, 4, 5, 1, 0] rfl ?_
                exact ih38 (o + 1) c44 (by omega) (by omega)
        refine g_lv X (lv' := [(0, .ref (ag 0)), (1, .int (nI ((s + 1)))), (2, .int (nI (loN (s + 1)))), (3, .int (nI ((s + 1) ^^^ 2 ^ loN (s + 1)))), (4, .int (reA al (rT tc al wi s) (loN (s + 1)) ((s + 1) ^^^ 2 ^ loN (s + 1)) (loN (s + 1) + 1))), (5, .int (nI (loN (s + 1) + 1)))]) [4, 5, 3, 2, 1, 0] rfl ?_
        exact L38_2 (8 - (loN (s + 1) + 1) + 1) (loN (s + 1) + 1) hl (Nat.lt_succ_self _) (Nat.lt_succ_self _)
  refine g_lv X (lv' := [(0, .ref (ag 0)), (1, .int (1))]) [1, 0] rfl ?_
  exact L9_1 (M - 0 + 1) 0 hp2 (Nat.lt_succ_self _)
set_option maxRecDepth 100000 in
set_option maxHeartbeats 4000000 in
theorem c_X0_othersOf (l : Launch) (D : va_G) (cy : ClassId) (ag : Nat → Nat) (tc : Nat) (al : Nat → Int32) (wi : Nat → Int32) (t : Nat) (h8 : tc ≤ 8) (ht : t < 8) : CtI l yX0_othersOf cX0_othersOf 5 .int 0 64 D cy [.ref (ag 0), .int (nI t)] [wG cy ag tc al wi] [wG cy ag tc al wi] (otN al wi (mkN tc t) t tc) := by
  have hM : 2 ^ tc ≤ 256 := Nat.pow_le_pow_right (n := 2) (by omega) h8
  have hx := mk_lt tc t
  refine ctI_of (by decide +kernel) (Nat.le_of_ble_eq_true rfl) (fun p_ e_ s_ m_ args_ below_ meth_ c_ A_ X => ?_)
  refine g_lv X (lv' := [(0, .ref (ag 0)), (1, .int (nI t))]) [0, 1] rfl ?_
  refine g_iconst (v := 0) (pc := 0) X dX0_othersOf_0 (by decide) ?_
  refine g_istore_n (lv' := [(2, .int (0)), (0, .ref (ag 0)), (1, .int (nI t))]) (pc := 1) X dX0_othersOf_1 rfl rfl rfl ?_
  refine g_iconst (v := 1) (pc := 2) X dX0_othersOf_2 (by decide) ?_
  refine g_aload_n (pc := 3) X dX0_othersOf_3 1 rfl ?_
  refine g_get (pc := 4) X (v := .int (nI tc)) fl_X0_9 dX0_othersOf_4 0 0 rfl rfl rfl ?_
  refine g_ishl (v := shl 1 (nI tc)) (pc := 7) X dX0_othersOf_7 rfl ?_
  refine g_iconst (v := 1) (pc := 8) X dX0_othersOf_8 (by decide) ?_
  refine g_isub (v := nI (2 ^ tc - 1)) (pc := 9) X dX0_othersOf_9 (m1_n tc h8) ?_
  refine g_iconst (v := 1) (pc := 10) X dX0_othersOf_10 (by decide) ?_
  refine g_iload_n (pc := 11) X dX0_othersOf_11 2 rfl ?_
  refine g_ishl (v := shl 1 (nI t)) (pc := 12) X dX0_othersOf_12 rfl ?_
  refine g_iconst (v := (-1)) (pc := 13) X dX0_othersOf_13 (by decide) ?_
  refine g_ixor (v := (shl 1 (nI t)) ^^^ ((-1))) (pc := 14) X dX0_othersOf_14 rfl ?_
  refine g_iand (v := nI (mkN tc t)) (pc := 15) X dX0_othersOf_15 (mk_n tc h8 t ht) ?_
  refine g_istore_n (lv' := [(3, .int (nI (mkN tc t))), (2, .int (0)), (0, .ref (ag 0)), (1, .int (nI t))]) (pc := 16) X dX0_othersOf_16 rfl rfl rfl ?_
  refine g_iconst (v := 0) (pc := 17) X dX0_othersOf_17 (by decide) ?_
  refine g_istore (lv' := [(4, .int (0)), (3, .int (nI (mkN tc t))), (2, .int (0)), (0, .ref (ag 0)), (1, .int (nI t))]) (pc := 18) X dX0_othersOf_18 rfl rfl ?_
  have L20_1 : ∀ (fu_ : Nat) (o : Nat) (ho : o ≤ tc) (hm : 8 - o < fu_), G p_ l e_ { frames := 0, cells := 0, slots := 0, locals := 64 } s_ m_ args_ below_ meth_ c_ 5 D A_ 0 0 (QI below_ args_ s_ D A_ [wG cy ag tc al wi] (otN al wi (mkN tc t) t tc)) [wG cy ag tc al wi] 20 [(0, .ref (ag 0)), (1, .int (nI t)), (2, .int (otN al wi (mkN tc t) t o)), (3, .int (nI (mkN tc t))), (4, .int (nI o))] [] := by
    intro fu_
    induction fu_ with
    | zero => intro o ho hm; exact absurd hm (Nat.not_lt_zero _)
    | succ fu_ ih =>
      intro o ho hm
      have ih20 := ih
      clear ih
      refine g_iload (pc := 20) X dX0_othersOf_20 4 rfl ?_
      refine g_aload_n (pc := 22) X dX0_othersOf_22 0 rfl ?_
      refine g_get (pc := 23) X (v := .int (nI tc)) fl_X0_9 dX0_othersOf_23 0 0 rfl rfl rfl ?_
      refine g_ncmp_ge (pc := 26) (tgt := 72) X dX0_othersOf_26 (by decide) o tc rfl rfl (by omega) (by omega) (fun c26 => ?_) (fun c26 => ?_)
      · have n26 := Nat.not_lt.mpr c26
        refine g_iload_n (pc := 72) X dX0_othersOf_72 2 rfl ?_
        exact g_iret (pc := 73) X rfl dX0_othersOf_73 rfl (by rw [show o = tc by omega]) rfl
      · refine g_iload_n (pc := 29) X dX0_othersOf_29 3 rfl ?_
        refine g_aload_n (pc := 30) X dX0_othersOf_30 0 rfl ?_
        refine g_get (pc := 31) X (v := .ref (ag 1)) fl_X0_15 dX0_othersOf_31 0 0 rfl rfl rfl ?_
        refine g_iload_n (pc := 34) X dX0_othersOf_34 1 rfl ?_
        refine g_iald_n (pc := 35) (f := al) X 0 1 dX0_othersOf_35 t rfl rfl rfl (by omega) rfl ?_
        refine g_iand (v := (nI (mkN tc t)) &&& (al t)) (pc := 36) X dX0_othersOf_36 rfl ?_
        refine g_iconst (v := 1) (pc := 37) X dX0_othersOf_37 (by decide) ?_
        refine g_iload (pc := 38) X dX0_othersOf_38 4 rfl ?_
        refine g_ishl (v := shl 1 (nI o)) (pc := 40) X dX0_othersOf_40 rfl ?_
        refine g_iand (v := ((nI (mkN tc t)) &&& (al t)) &&& (shl 1 (nI o))) (pc := 41) X dX0_othersOf_41 rfl ?_
        refine g_if_eq (pc := 42) (tgt := 66) X dX0_othersOf_42 (by decide) (fun c42 => ?_) (fun c42 => ?_)
        · have hc42 := (re_c (by omega)).mp c42
          have he : otN al wi (mkN tc t) t o = otN al wi (mkN tc t) t (o + 1) := by rw [otN, if_neg (fun q => hc42 ⟨q.1, q.2.1⟩)]
          rw [he]
          refine g_iinc (v := nI (o + 1)) (lv' := [(4, .int (nI (o + 1))), (0, .ref (ag 0)), (1, .int (nI t)), (2, .int (otN al wi (mkN tc t) t (o + 1))), (3, .int (nI (mkN tc t)))]) (pc := 66) X dX0_othersOf_66 4 rfl (nI_1 o) rfl rfl ?_
          refine g_goto (pc := 69) (tgt := 20) X dX0_othersOf_69 (by decide) ?_
          refine g_lv X (lv' := [(0, .ref (ag 0)), (1, .int (nI t)), (2, .int (otN al wi (mkN tc t) t (o + 1))), (3, .int (nI (mkN tc t))), (4, .int (nI (o + 1)))]) [1, 2, 3, 4, 0] rfl ?_
          exact ih20 (o + 1) c26 (by omega)
        · have hc42 := Decidable.of_not_not (fun q => c42 ((re_c (by omega)).mpr q))
          refine g_aload_n (pc := 45) X dX0_othersOf_45 0 rfl ?_
          refine g_get (pc := 46) X (v := .ref (ag 2)) fl_X0_19 dX0_othersOf_46 0 0 rfl rfl rfl ?_
          refine g_iload_n (pc := 49) X dX0_othersOf_49 3 rfl ?_
          refine g_iconst (v := 1) (pc := 50) X dX0_othersOf_50 (by decide) ?_
          refine g_iload (pc := 51) X dX0_othersOf_51 4 rfl ?_
          refine g_ishl (v := nI (2 ^ o)) (pc := 53) X dX0_othersOf_53 (shl1_n o (by omega)) ?_
          refine g_ixor (v := nI (mkN tc t ^^^ 2 ^ o)) (pc := 54) X dX0_othersOf_54 (nx_xor _ _) ?_
          refine g_iald_n (pc := 55) (f := wi) X 0 2 dX0_othersOf_55 (mkN tc t ^^^ 2 ^ o) rfl rfl rfl (by have := xor_lt hx c26; omega) rfl ?_
          refine g_if_le (pc := 56) (tgt := 66) X dX0_othersOf_56 (by decide) (fun c56 => ?_) (fun c56 => ?_)
          · have n56 := Int32.not_lt.mpr c56
            have he : otN al wi (mkN tc t) t o = otN al wi (mkN tc t) t (o + 1) := by rw [otN, if_neg (fun q => n56 q.2.2)]
            rw [he]
            refine g_iinc (v := nI (o + 1)) (lv' := [(4, .int (nI (o + 1))), (0, .ref (ag 0)), (1, .int (nI t)), (2, .int (otN al wi (mkN tc t) t (o + 1))), (3, .int (nI (mkN tc t)))]) (pc := 66) X dX0_othersOf_66 4 rfl (nI_1 o) rfl rfl ?_
            refine g_goto (pc := 69) (tgt := 20) X dX0_othersOf_69 (by decide) ?_
            refine g_lv X (lv' := [(0, .ref (ag 0)), (1, .int (nI t)), (2, .int (otN al wi (mkN tc t) t (o + 1))), (3, .int (nI (mkN tc t))), (4, .int (nI (o + 1)))]) [1, 2, 3, 4, 0] rfl ?_
            exact ih20 (o + 1) c26 (by omega)
          · refine g_iload_n (pc := 59) X dX0_othersOf_59 2 rfl ?_
            refine g_iconst (v := 1) (pc := 60) X dX0_othersOf_60 (by decide) ?_
            refine g_iload (pc := 61) X dX0_othersOf_61 4 rfl ?_
            refine g_ishl (v := shl 1 (nI o)) (pc := 63) X dX0_othersOf_63 rfl ?_
            refine g_ior (v := otN al wi (mkN tc t) t (o + 1)) (pc := 64) X dX0_othersOf_64 (by rw [otN, if_pos ⟨hc42.1, hc42.2, c56⟩] <;> rfl) ?_
            refine g_istore_n (lv' := [(2, .int (otN al wi (mkN tc t) t (o + 1))), (0, .ref (ag 0)), (1, .int (nI t)), (3, .int (nI (mkN tc t))), (4, .int (nI o))]) (pc := 65) X dX0_othersOf_65 rfl rfl rfl ?_
            refine g_iinc (v := nI (o + 1)) (lv' := [(4, .int (nI (o + 1))), (2, .int (otN al wi (mkN tc t) t (o + 1))), (0, .ref (ag 0)), (1, .int (nI t)), (3, .int (nI (mkN tc t)))]) (pc := 66) X dX0_othersOf_66 4 rfl (nI_1 o) rfl rfl ?_
            refine g_goto (pc := 69) (tgt := 20) X dX0_othersOf_69 (by decide) ?_
            refine g_lv X (lv' := [(0, .ref (ag 0)), (1, .int (nI t)), (2, .int (otN al wi (mkN tc t) t (o + 1))), (3, .int (nI (mkN tc t))), (4, .int (nI (o + 1)))]) [2, 3, 1, 4, 0] rfl ?_
            exact ih20 (o + 1) c26 (by omega)
  refine g_lv X (lv' := [(0, .ref (ag 0)), (1, .int (nI t)), (2, .int (0)), (3, .int (nI (mkN tc t))), (4, .int (0))]) [3, 4, 2, 1, 0] rfl ?_
  exact L20_1 (8 - 0 + 1) 0 (Nat.zero_le _) (Nat.lt_succ_self _)
set_option maxRecDepth 100000 in
set_option maxHeartbeats 4000000 in
theorem c_X3_ways (l : Launch) (D : va_G) (cy : ClassId) (ax : Nat → Nat) (an : Nat → Nat) (am : Nat → Nat) (ak : Nat → Nat) (aT : Nat → Nat) (ag : Nat → Nat) (ik : Bool) (mc : Nat) (od : Nat → Int32) (mv : Nat → Int32) (rf : Nat → Int32) (k : KV) (tc : Nat) (al : Nat → Int32) (wi : Nat → Int32) (hw : KW k) : CtIE l yX3_ways cX3_ways 1 .int 2 110 D cy [.ref (ax 0)] [wX cy ax an am ak aT ag ik mc od mv rf, wH cy an k, wG cy ag tc al wi] (fun (u_ : (Nat) × (Nat → Int32) × (Nat → Int32)) => [wX cy ax an am ak aT ag ik mc od mv rf, wH cy an k, wG cy ag u_.1 u_.2.1 u_.2.2]) (wyK k (apL k)) := by
  refine ctIE_of (by decide +kernel) (Nat.le_of_ble_eq_true rfl) (fun p_ e_ s_ m_ args_ below_ meth_ c_ A_ X => ?_)
  refine g_lv X (lv' := [(0, .ref (ax 0))]) [0] rfl ?_
  refine g_aload_n (pc := 0) X dX3_ways_0 0 rfl ?_
  refine g_get (pc := 1) X (v := .ref (ag 0)) fl_X3_36 dX3_ways_1 0 0 rfl rfl rfl ?_
  refine g_aload_n (pc := 4) X dX3_ways_4 0 rfl ?_
  refine g_get (pc := 5) X (v := .ref (an 0)) fl_X3_10 dX3_ways_5 0 0 rfl rfl rfl ?_
  refine g_callVv (pc := 8) (rest := []) (ss' := [wX cy ax an am ak aT ag ik mc od mv rf, wH cy an k, wG cy ag (kNt k) (alV k al) wi]) X (c_X0_allowApart l D cy ag tc al wi an k hw.2.2.2.2.2.1 hw.2.2.2.2.2.2.2) vl_X3_174 dX3_ways_8 [2, 1] 2 0 rfl rfl rfl rfl rfl rfl (ads_c (ads_G _ _ _ _ _ _ _ _) (ads_c (ads_H _ _ _ _ _ _ _ _) rfl)) rfl rfl rfl rfl rfl rfl ⟨Nat.zero_le _, Nat.zero_le _⟩ ?_
  refine g_aload_n (pc := 11) X dX3_ways_11 0 rfl ?_
  refine g_get (pc := 12) X (v := .ref (ag 0)) fl_X3_36 dX3_ways_12 0 0 rfl rfl rfl ?_
  refine g_callVv (pc := 15) (rest := []) (ss' := [wX cy ax an am ak aT ag ik mc od mv rf, wH cy an k, wG cy ag ((kNt k)) ((alV k al)) (wiT (kNt k) (alV k al) wi)]) X (c_X0_reckon l D cy ag (kNt k) (alV k al) wi hw.2.2.2.2.2.1) vl_X3_153 dX3_ways_15 [2] 2 0 rfl rfl rfl rfl rfl rfl (ads_c (ads_G _ _ _ _ _ _ _ _) rfl) rfl rfl rfl rfl rfl rfl ⟨Nat.zero_le _, Nat.zero_le _⟩ ?_
  refine g_aload_n (pc := 18) X dX3_ways_18 0 rfl ?_
  refine g_get (pc := 19) X (v := .ref (ag 0)) fl_X3_36 dX3_ways_19 0 0 rfl rfl rfl ?_
  refine g_callV (pc := 22) (rest := []) (ss' := [wX cy ax an am ak aT ag ik mc od mv rf, wH cy an k, wG cy ag (((kNt k))) (((alV k al))) ((wiT (kNt k) (alV k al) wi))]) X (c_X0_ofAll l D cy ag ((kNt k)) ((alV k al)) (wiT (kNt k) (alV k al) wi) hw.2.2.2.2.2.1) vl_X3_156 dX3_ways_22 [2] 2 0 rfl rfl rfl rfl rfl rfl (ads_c (ads_G _ _ _ _ _ _ _ _) rfl) rfl rfl rfl rfl rfl rfl ⟨Nat.zero_le _, Nat.zero_le _⟩ ?_
  exact g_iretE (pc := 25) X (((kNt k)), ((alV k al)), (wiT (kNt k) (alV k al) wi)) rfl dX3_ways_25 rfl (of_k hw.2.2.2.2.2.1 al_v) rfl
set_option maxRecDepth 100000 in
set_option maxHeartbeats 4000000 in
theorem c_X3_may (l : Launch) (D : va_G) (cy : ClassId) (ax : Nat → Nat) (an : Nat → Nat) (am : Nat → Nat) (ak : Nat → Nat) (aT : Nat → Nat) (ag : Nat → Nat) (ik : Bool) (mc : Nat) (od : Nat → Int32) (mv : Nat → Int32) (rf : Nat → Int32) (k : KV) (tc : Nat) (al : Nat → Int32) (wi : Nat → Int32) (t : Int32) (hw : KW k) : CtIE l yX3_may cX3_may 2 .int 2 110 D cy [.ref (ax 0), .int (t)] [wX cy ax an am ak aT ag ik mc od mv rf, wH cy an k, wG cy ag tc al wi] (fun (u_ : (Nat) × (Nat → Int32) × (Nat → Int32)) => [wX cy ax an am ak aT ag ik mc od mv (rfB (hasT k t) rf (myA k t)), wH cy an k, wG cy ag u_.1 u_.2.1 u_.2.2]) (myA k t) := by
  refine ctIE_of (by decide +kernel) (Nat.le_of_ble_eq_true rfl) (fun p_ e_ s_ m_ args_ below_ meth_ c_ A_ X => ?_)
  refine g_lv X (lv' := [(0, .ref (ax 0)), (1, .int (t))]) [0, 1] rfl ?_
  refine g_aload_n (pc := 0) X dX3_may_0 0 rfl ?_
  refine g_get (pc := 1) X (v := .ref (an 0)) fl_X3_10 dX3_may_1 0 0 rfl rfl rfl ?_
  refine g_iload_n (pc := 4) X dX3_may_4 1 rfl ?_
  refine g_callV (pc := 5) (rest := []) (ss' := [wX cy ax an am ak aT ag ik mc od mv rf, wH cy an k, wG cy ag tc al wi]) X (c_X1_hasThing l D cy an k t ) vl_X3_76 dX3_may_5 [1] 1 0 rfl rfl rfl rfl rfl rfl rfl rfl rfl rfl rfl rfl rfl ⟨Nat.zero_le _, Nat.zero_le _⟩ ?_
  refine g_bif_ne (pc := 8) (tgt := 17) X dX3_may_8 (by decide) (fun c8 => ?_) (fun c8 => ?_)
  · have r8 := c8
    obtain ⟨i, hi, rfl⟩ := hasT_t hw.2.2.2.2.2.1 c8
    have ixi : ix (nI i) = i := ixn (by have := hw.2.2.2.2.2.1; omega)
    refine g_aload_n (pc := 17) X dX3_may_17 0 rfl ?_
    refine g_get (pc := 18) X (v := .ref (ag 0)) fl_X3_36 dX3_may_18 0 0 rfl rfl rfl ?_
    refine g_aload_n (pc := 21) X dX3_may_21 0 rfl ?_
    refine g_get (pc := 22) X (v := .ref (an 0)) fl_X3_10 dX3_may_22 0 0 rfl rfl rfl ?_
    refine g_callVv (pc := 25) (rest := []) (ss' := [wX cy ax an am ak aT ag ik mc od mv rf, wH cy an k, wG cy ag (kNt k) (alV k al) wi]) X (c_X0_allowApart l D cy ag tc al wi an k hw.2.2.2.2.2.1 hw.2.2.2.2.2.2.2) vl_X3_174 dX3_may_25 [2, 1] 2 0 rfl rfl rfl rfl rfl rfl (ads_c (ads_G _ _ _ _ _ _ _ _) (ads_c (ads_H _ _ _ _ _ _ _ _) rfl)) rfl rfl rfl rfl rfl rfl ⟨Nat.zero_le _, Nat.zero_le _⟩ ?_
    refine g_aload_n (pc := 28) X dX3_may_28 0 rfl ?_
    refine g_get (pc := 29) X (v := .ref (ag 0)) fl_X3_36 dX3_may_29 0 0 rfl rfl rfl ?_
    refine g_callVv (pc := 32) (rest := []) (ss' := [wX cy ax an am ak aT ag ik mc od mv rf, wH cy an k, wG cy ag ((kNt k)) ((alV k al)) (wiT (kNt k) (alV k al) wi)]) X (c_X0_reckon l D cy ag (kNt k) (alV k al) wi hw.2.2.2.2.2.1) vl_X3_153 dX3_may_32 [2] 2 0 rfl rfl rfl rfl rfl rfl (ads_c (ads_G _ _ _ _ _ _ _ _) rfl) rfl rfl rfl rfl rfl rfl ⟨Nat.zero_le _, Nat.zero_le _⟩ ?_
    refine g_aload_n (pc := 35) X dX3_may_35 0 rfl ?_
    refine g_get (pc := 36) X (v := .ref (ag 0)) fl_X3_36 dX3_may_36 0 0 rfl rfl rfl ?_
    refine g_iload_n (pc := 39) X dX3_may_39 1 rfl ?_
    refine g_callV (pc := 40) (rest := []) (ss' := [wX cy ax an am ak aT ag ik mc od mv rf, wH cy an k, wG cy ag (((kNt k))) (((alV k al))) ((wiT (kNt k) (alV k al) wi))]) X (c_X0_othersOf l D cy ag ((kNt k)) ((alV k al)) (wiT (kNt k) (alV k al) wi) i hw.2.2.2.2.2.1 (by have := hw.2.2.2.2.2.1; omega)) vl_X3_159 dX3_may_40 [2] 2 0 rfl rfl rfl rfl rfl rfl (ads_c (ads_G _ _ _ _ _ _ _ _) rfl) rfl rfl rfl rfl rfl rfl ⟨Nat.zero_le _, Nat.zero_le _⟩ ?_
    exact g_iretE (pc := 43) X (((kNt k)), ((alV k al)), (wiT (kNt k) (alV k al) wi)) rfl dX3_may_43 rfl (by rw [myA, if_pos r8, ixi]; exact ot_k hw.2.2.2.2.2.1 al_v (Or.inl hi)) (by rw [rfB, if_pos r8])
  · refine g_aload_n (pc := 11) X dX3_may_11 0 rfl ?_
    refine g_iconst (v := (-1)) (pc := 12) X dX3_may_12 (by decide) ?_
    refine g_callV (pc := 13) (rest := []) (ss' := [wX cy ax an am ak aT ag ik mc od mv (rfU rf ((-1))), wH cy an k, wG cy ag tc al wi]) X (c_X3_refuse l D cy ax an am ak aT ag ik mc od mv rf ((-1)) rf_1) vl_X3_58 dX3_may_13 [0] 0 0 rfl rfl rfl rfl rfl rfl (ads_c (ads_X _ _ _ _ _ _ _ _ _ _ _ _ _ _ _ _ _) rfl) rfl rfl rfl rfl rfl rfl ⟨Nat.zero_le _, Nat.zero_le _⟩ ?_
    exact g_iretE (pc := 16) X (tc, al, wi) rfl dX3_may_16 rfl (by simp [myA, *]) (by simp [myA, rfB, *])
set_option maxRecDepth 100000 in
set_option maxHeartbeats 4000000 in
theorem c_X3_pairings (l : Launch) (D : va_G) (cy : ClassId) (ax : Nat → Nat) (an : Nat → Nat) (am : Nat → Nat) (ak : Nat → Nat) (aT : Nat → Nat) (ag : Nat → Nat) (ik : Bool) (mc : Nat) (od : Nat → Int32) (mv : Nat → Int32) (rf : Nat → Int32) (k : KV) (tc : Nat) (al : Nat → Int32) (wi : Nat → Int32) (w : Int32) (hw : KW k) : CtIE l yX3_pairings cX3_pairings 2 .int 3 134 D cy [.ref (ax 0), .int (w)] [wX cy ax an am ak aT ag ik mc od mv rf, wH cy an k, wG cy ag tc al wi] (fun (u_ : (Nat) × (Nat → Int32) × (Nat → Int32)) => [wX cy ax an am ak aT ag ik mc od mv (rfB (moB w) rf (prA k w)), wH cy an k, wG cy ag u_.1 u_.2.1 u_.2.2]) (prA k w) := by
  refine ctIE_of (by decide +kernel) (Nat.le_of_ble_eq_true rfl) (fun p_ e_ s_ m_ args_ below_ meth_ c_ A_ X => ?_)
  refine g_lv X (lv' := [(0, .ref (ax 0)), (1, .int (w))]) [0, 1] rfl ?_
  refine g_iload_n (pc := 0) X dX3_pairings_0 1 rfl ?_
  refine g_if_eq (pc := 1) (tgt := 16) X dX3_pairings_1 (by decide) (fun c1 => ?_) (fun c1 => ?_)
  · refine g_aload_n (pc := 16) X dX3_pairings_16 0 rfl ?_
    refine g_get (pc := 17) X (v := .ref (ag 0)) fl_X3_36 dX3_pairings_17 0 0 rfl rfl rfl ?_
    refine g_aload_n (pc := 20) X dX3_pairings_20 0 rfl ?_
    refine g_get (pc := 21) X (v := .ref (an 0)) fl_X3_10 dX3_pairings_21 0 0 rfl rfl rfl ?_
    refine g_callVv (pc := 24) (rest := []) (ss' := [wX cy ax an am ak aT ag ik mc od mv rf, wH cy an k, wG cy ag (kNt k) (alU k al) wi]) X (c_X0_allowUnseen l D cy ag tc al wi an k hw.2.2.2.2.2.1 hw.2.2.2.1 hw.2.2.2.2.2.2.1) vl_X3_150 dX3_pairings_24 [2, 1] 2 0 rfl rfl rfl rfl rfl rfl (ads_c (ads_G _ _ _ _ _ _ _ _) (ads_c (ads_H _ _ _ _ _ _ _ _) rfl)) rfl rfl rfl rfl rfl rfl ⟨Nat.zero_le _, Nat.zero_le _⟩ ?_
    refine g_aload_n (pc := 27) X dX3_pairings_27 0 rfl ?_
    refine g_get (pc := 28) X (v := .ref (ag 0)) fl_X3_36 dX3_pairings_28 0 0 rfl rfl rfl ?_
    refine g_callVv (pc := 31) (rest := []) (ss' := [wX cy ax an am ak aT ag ik mc od mv rf, wH cy an k, wG cy ag ((kNt k)) ((alU k al)) (wiT (kNt k) (alU k al) wi)]) X (c_X0_reckon l D cy ag (kNt k) (alU k al) wi hw.2.2.2.2.2.1) vl_X3_153 dX3_pairings_31 [2] 2 0 rfl rfl rfl rfl rfl rfl (ads_c (ads_G _ _ _ _ _ _ _ _) rfl) rfl rfl rfl rfl rfl rfl ⟨Nat.zero_le _, Nat.zero_le _⟩ ?_
    refine g_iload_n (pc := 34) X dX3_pairings_34 1 rfl ?_
    refine g_if_ne (pc := 35) (tgt := 46) X dX3_pairings_35 (by decide) (fun c35 => ?_) (fun c35 => ?_)
    · have hv := ot_k (w := wi) (al := alU k al) (t := 0) hw.2.2.2.2.2.1 al_u (by omega)
      refine g_aload_n (pc := 46) X dX3_pairings_46 0 rfl ?_
      refine g_get (pc := 47) X (v := .ref (ag 0)) fl_X3_36 dX3_pairings_47 0 0 rfl rfl rfl ?_
      refine g_iconst (v := 0) (pc := 50) X dX3_pairings_50 (by decide) ?_
      refine g_callV (pc := 51) (rest := []) (ss' := [wX cy ax an am ak aT ag ik mc od mv rf, wH cy an k, wG cy ag (((kNt k))) (((alU k al))) ((wiT (kNt k) (alU k al) wi))]) X (c_X0_othersOf l D cy ag ((kNt k)) ((alU k al)) (wiT (kNt k) (alU k al) wi) 0 hw.2.2.2.2.2.1 (by decide)) vl_X3_159 dX3_pairings_51 [2] 2 0 rfl rfl rfl rfl rfl rfl (ads_c (ads_G _ _ _ _ _ _ _ _) rfl) rfl rfl rfl rfl rfl rfl ⟨Nat.zero_le _, Nat.zero_le _⟩ ?_
      refine g_callS (pc := 54) (rest := []) X (c_X0_leastOf l D cy (otN ((alU k al)) (wiT (kNt k) (alU k al) wi) (mkN ((kNt k)) 0) 0 ((kNt k))) ) sl_X3_162 dX3_pairings_54 rfl rfl rfl rfl rfl ⟨Nat.zero_le _, Nat.zero_le _⟩ ?_
      exact g_iretE (pc := 57) X (((kNt k)), ((alU k al)), (wiT (kNt k) (alU k al) wi)) rfl dX3_pairings_57 rfl (by first | (simp [prA, moB, *]; done) | exact absurd c1 c35 | exact absurd (c35.symm.trans c6) (by decide) | (simp [prA, moB, *]; done)) (by simp [prA, moB, rfB, *])
    · have hv := of_k (w := wi) (al := alU k al) hw.2.2.2.2.2.1 al_u
      refine g_aload_n (pc := 38) X dX3_pairings_38 0 rfl ?_
      refine g_get (pc := 39) X (v := .ref (ag 0)) fl_X3_36 dX3_pairings_39 0 0 rfl rfl rfl ?_
      refine g_callV (pc := 42) (rest := []) (ss' := [wX cy ax an am ak aT ag ik mc od mv rf, wH cy an k, wG cy ag (((kNt k))) (((alU k al))) ((wiT (kNt k) (alU k al) wi))]) X (c_X0_ofAll l D cy ag ((kNt k)) ((alU k al)) (wiT (kNt k) (alU k al) wi) hw.2.2.2.2.2.1) vl_X3_156 dX3_pairings_42 [2] 2 0 rfl rfl rfl rfl rfl rfl (ads_c (ads_G _ _ _ _ _ _ _ _) rfl) rfl rfl rfl rfl rfl rfl ⟨Nat.zero_le _, Nat.zero_le _⟩ ?_
      exact g_iretE (pc := 45) X (((kNt k)), ((alU k al)), (wiT (kNt k) (alU k al) wi)) rfl dX3_pairings_45 rfl (by first | (simp [prA, moB, *]; done) | exact absurd c1 c35 | exact absurd (c35.symm.trans c6) (by decide) | (simp [prA, moB, *]; done)) (by simp [prA, moB, rfB, *])
  · refine g_iload_n (pc := 4) X dX3_pairings_4 1 rfl ?_
    refine g_iconst (v := 1) (pc := 5) X dX3_pairings_5 (by decide) ?_
    refine g_icmp_eq (pc := 6) (tgt := 16) X dX3_pairings_6 (by decide) (fun c6 => ?_) (fun c6 => ?_)
    · refine g_aload_n (pc := 16) X dX3_pairings_16 0 rfl ?_
      refine g_get (pc := 17) X (v := .ref (ag 0)) fl_X3_36 dX3_pairings_17 0 0 rfl rfl rfl ?_
      refine g_aload_n (pc := 20) X dX3_pairings_20 0 rfl ?_
      refine g_get (pc := 21) X (v := .ref (an 0)) fl_X3_10 dX3_pairings_21 0 0 rfl rfl rfl ?_
      refine g_callVv (pc := 24) (rest := []) (ss' := [wX cy ax an am ak aT ag ik mc od mv rf, wH cy an k, wG cy ag (kNt k) (alU k al) wi]) X (c_X0_allowUnseen l D cy ag tc al wi an k hw.2.2.2.2.2.1 hw.2.2.2.1 hw.2.2.2.2.2.2.1) vl_X3_150 dX3_pairings_24 [2, 1] 2 0 rfl rfl rfl rfl rfl rfl (ads_c (ads_G _ _ _ _ _ _ _ _) (ads_c (ads_H _ _ _ _ _ _ _ _) rfl)) rfl rfl rfl rfl rfl rfl ⟨Nat.zero_le _, Nat.zero_le _⟩ ?_
      refine g_aload_n (pc := 27) X dX3_pairings_27 0 rfl ?_
      refine g_get (pc := 28) X (v := .ref (ag 0)) fl_X3_36 dX3_pairings_28 0 0 rfl rfl rfl ?_
      refine g_callVv (pc := 31) (rest := []) (ss' := [wX cy ax an am ak aT ag ik mc od mv rf, wH cy an k, wG cy ag ((kNt k)) ((alU k al)) (wiT (kNt k) (alU k al) wi)]) X (c_X0_reckon l D cy ag (kNt k) (alU k al) wi hw.2.2.2.2.2.1) vl_X3_153 dX3_pairings_31 [2] 2 0 rfl rfl rfl rfl rfl rfl (ads_c (ads_G _ _ _ _ _ _ _ _) rfl) rfl rfl rfl rfl rfl rfl ⟨Nat.zero_le _, Nat.zero_le _⟩ ?_
      refine g_iload_n (pc := 34) X dX3_pairings_34 1 rfl ?_
      refine g_if_ne (pc := 35) (tgt := 46) X dX3_pairings_35 (by decide) (fun c35 => ?_) (fun c35 => ?_)
      · have hv := ot_k (w := wi) (al := alU k al) (t := 0) hw.2.2.2.2.2.1 al_u (by omega)
        refine g_aload_n (pc := 46) X dX3_pairings_46 0 rfl ?_
        refine g_get (pc := 47) X (v := .ref (ag 0)) fl_X3_36 dX3_pairings_47 0 0 rfl rfl rfl ?_
        refine g_iconst (v := 0) (pc := 50) X dX3_pairings_50 (by decide) ?_
        refine g_callV (pc := 51) (rest := []) (ss' := [wX cy ax an am ak aT ag ik mc od mv rf, wH cy an k, wG cy ag (((kNt k))) (((alU k al))) ((wiT (kNt k) (alU k al) wi))]) X (c_X0_othersOf l D cy ag ((kNt k)) ((alU k al)) (wiT (kNt k) (alU k al) wi) 0 hw.2.2.2.2.2.1 (by decide)) vl_X3_159 dX3_pairings_51 [2] 2 0 rfl rfl rfl rfl rfl rfl (ads_c (ads_G _ _ _ _ _ _ _ _) rfl) rfl rfl rfl rfl rfl rfl ⟨Nat.zero_le _, Nat.zero_le _⟩ ?_
        refine g_callS (pc := 54) (rest := []) X (c_X0_leastOf l D cy (otN ((alU k al)) (wiT (kNt k) (alU k al) wi) (mkN ((kNt k)) 0) 0 ((kNt k))) ) sl_X3_162 dX3_pairings_54 rfl rfl rfl rfl rfl ⟨Nat.zero_le _, Nat.zero_le _⟩ ?_
        exact g_iretE (pc := 57) X (((kNt k)), ((alU k al)), (wiT (kNt k) (alU k al) wi)) rfl dX3_pairings_57 rfl (by first | (simp [prA, moB, *]; done) | exact absurd c1 c35 | exact absurd (c35.symm.trans c6) (by decide) | (simp [prA, moB, *]; done)) (by simp [prA, moB, rfB, *])
      · have hv := of_k (w := wi) (al := alU k al) hw.2.2.2.2.2.1 al_u
        refine g_aload_n (pc := 38) X dX3_pairings_38 0 rfl ?_
        refine g_get (pc := 39) X (v := .ref (ag 0)) fl_X3_36 dX3_pairings_39 0 0 rfl rfl rfl ?_
        refine g_callV (pc := 42) (rest := []) (ss' := [wX cy ax an am ak aT ag ik mc od mv rf, wH cy an k, wG cy ag (((kNt k))) (((alU k al))) ((wiT (kNt k) (alU k al) wi))]) X (c_X0_ofAll l D cy ag ((kNt k)) ((alU k al)) (wiT (kNt k) (alU k al) wi) hw.2.2.2.2.2.1) vl_X3_156 dX3_pairings_42 [2] 2 0 rfl rfl rfl rfl rfl rfl (ads_c (ads_G _ _ _ _ _ _ _ _) rfl) rfl rfl rfl rfl rfl rfl ⟨Nat.zero_le _, Nat.zero_le _⟩ ?_
        exact g_iretE (pc := 45) X (((kNt k)), ((alU k al)), (wiT (kNt k) (alU k al) wi)) rfl dX3_pairings_45 rfl (by first | (simp [prA, moB, *]; done) | exact absurd c1 c35 | exact absurd (c35.symm.trans c6) (by decide) | (simp [prA, moB, *]; done)) (by simp [prA, moB, rfB, *])
    · refine g_aload_n (pc := 9) X dX3_pairings_9 0 rfl ?_
      refine g_bipush (v := (-2)) (pc := 10) X dX3_pairings_10 (by decide) ?_
      refine g_callV (pc := 12) (rest := []) (ss' := [wX cy ax an am ak aT ag ik mc od mv (rfU rf ((-2))), wH cy an k, wG cy ag tc al wi]) X (c_X3_refuse l D cy ax an am ak aT ag ik mc od mv rf ((-2)) rf_2) vl_X3_58 dX3_pairings_12 [0] 0 0 rfl rfl rfl rfl rfl rfl (ads_c (ads_X _ _ _ _ _ _ _ _ _ _ _ _ _ _ _ _ _) rfl) rfl rfl rfl rfl rfl rfl ⟨Nat.zero_le _, Nat.zero_le _⟩ ?_
      exact g_iretE (pc := 15) X (tc, al, wi) rfl dX3_pairings_15 rfl (by first | (simp [prA, moB, *]; done) | exact absurd c1 c35 | exact absurd (c35.symm.trans c6) (by decide) | (simp [prA, moB, *]; done)) (by simp [prA, moB, rfB, *])
