set_option maxRecDepth 100000 in
set_option maxHeartbeats 4000000 in
theorem c_X3_ordersBehind (l : Launch) (D : va_G) (cy : ClassId) (ax : Nat → Nat) (an : Nat → Nat) (am : Nat → Nat) (ak : Nat → Nat) (aT : Nat → Nat) (ag : Nat → Nat) (ik : Bool) (mc : Nat) (od : Nat → Int32) (mv : Nat → Int32) (rf : Nat → Int32) (k : KV) (o0 : Nat → Int32) (c : Nat) (rm : Nat) (h7 : kNt k ≤ 7) (hr : HRo k) (hh : kHr k < 8) (hc : c < 2 ^ kNt k) (h6 : rm < 6) (ho : ∀ t, kNt k ≤ t → o0 t = kRo k t) : CtI l yX3_ordersBehind cX3_ordersBehind 5 .int 4 156 D cy [.ref (ax 0), .int (nI c), .int (nI rm)] [wX cy ax an am ak aT ag ik mc od mv rf, wH cy an k, wH cy am (sRo k o0)] [wX cy ax an am ak aT ag ik mc od mv rf, wH cy an k, wH cy am (sRo k (roF k (nI rm) c))] (obV k (nI rm) od c) := by
  have hc1 : 2 ^ kNt k ≤ 128 := Nat.pow_le_pow_right (n := 2) (by omega) h7
  refine ctI_of (by decide +kernel) (Nat.le_of_ble_eq_true rfl) (fun p_ e_ s_ m_ args_ below_ meth_ c_ A_ X => ?_)
  refine g_lv X (lv' := [(0, .ref (ax 0)), (1, .int (nI c)), (2, .int (nI rm))]) [0, 1, 2] rfl ?_
  refine g_iconst (v := 0) (pc := 0) X dX3_ordersBehind_0 (by decide) ?_
  refine g_istore_n (lv' := [(3, .int (0)), (0, .ref (ax 0)), (1, .int (nI c)), (2, .int (nI rm))]) (pc := 1) X dX3_ordersBehind_1 rfl rfl rfl ?_
  have L2_1 : ∀ (fu_ : Nat) (t : Nat) (o : Nat → Int32) (ht : t ≤ kNt k) (h1 : ∀ u, u < t → o u = roF k (nI rm) c u) (h2 : ∀ u, kNt k ≤ u → o u = kRo k u) (hm : 8 - t < fu_), G p_ l e_ { frames := 4, cells := 0, slots := 0, locals := 156 } s_ m_ args_ below_ meth_ c_ 5 D A_ 0 0 (QI below_ args_ s_ D A_ [wX cy ax an am ak aT ag ik mc od mv rf, wH cy an k, wH cy am (sRo k (roF k (nI rm) c))] (obV k (nI rm) od c)) [wX cy ax an am ak aT ag ik mc od mv rf, wH cy an k, wH cy am (sRo k o)] 2 [(0, .ref (ax 0)), (1, .int (nI c)), (2, .int (nI rm)), (3, .int (nI t))] [] := by
    intro fu_
    induction fu_ with
    | zero => intro t o ht h1 h2 hm; exact absurd hm (Nat.not_lt_zero _)
    | succ fu_ ih =>
      intro t o ht h1 h2 hm
      have ih2 := ih
      clear ih
      refine g_iload_n (pc := 2) X dX3_ordersBehind_2 3 rfl ?_
      refine g_aload_n (pc := 3) X dX3_ordersBehind_3 0 rfl ?_
      refine g_get (pc := 4) X (v := .ref (an 0)) fl_X3_10 dX3_ordersBehind_4 0 0 rfl rfl rfl ?_
      refine g_get (pc := 7) X (v := .int (nI (kNt k))) fl_X3_115 dX3_ordersBehind_7 1 0 rfl rfl rfl ?_
      refine g_ncmp_ge (pc := 10) (tgt := 49) X dX3_ordersBehind_10 (by decide) t (kNt k) rfl rfl (by omega) (by omega) (fun c10 => ?_) (fun c10 => ?_)
      · have n10 := Nat.not_lt.mpr c10
        have e : o = roF k (nI rm) c := ro_end (fun u hu => h1 u (by omega)) h2
        refine g_eq X (ss' := [wX cy ax an am ak aT ag ik mc od mv rf, wH cy an k, wH cy am (sRo k (roF k (nI rm) c))]) (by rw [e]) ?_
        refine g_aload_n (pc := 49) X dX3_ordersBehind_49 0 rfl ?_
        refine g_get (pc := 50) X (v := .ref (am 0)) fl_X3_16 dX3_ordersBehind_50 0 0 rfl rfl rfl ?_
        refine g_aload_n (pc := 53) X dX3_ordersBehind_53 0 rfl ?_
        refine g_get (pc := 54) X (v := .ref (an 0)) fl_X3_10 dX3_ordersBehind_54 0 0 rfl rfl rfl ?_
        refine g_get (pc := 57) X (v := .int (nI (kHr k))) fl_X3_112 dX3_ordersBehind_57 1 0 rfl rfl rfl ?_
        refine g_callV (pc := 60) (rest := []) (ss' := [wX cy ax an am ak aT ag ik mc od mv rf, wH cy an k, wH cy am (sRo k (roF k (nI rm) c))]) X (c_X1_firstSin l D cy am (sRo k (roF k (nI rm) c)) (kHr k) (show kNt k ≤ 8 by omega) (roF_ro hr (vp_in_nI h6 (by omega))) (by first | assumption | omega)) vl_X3_124 dX3_ordersBehind_60 [2] 2 0 rfl rfl rfl rfl rfl rfl rfl rfl rfl rfl rfl rfl rfl ⟨Nat.zero_le _, Nat.zero_le _⟩ ?_
        refine g_bipush (v := (-9)) (pc := 63) X dX3_ordersBehind_63 (by decide) ?_
        refine g_icmp_eq (pc := 65) (tgt := 70) X dX3_ordersBehind_65 (by decide) (fun c65 => ?_) (fun c65 => ?_)
        · refine g_iload_n (pc := 70) X dX3_ordersBehind_70 1 rfl ?_
          refine g_aload_n (pc := 71) X dX3_ordersBehind_71 0 rfl ?_
          refine g_get (pc := 72) X (v := .ref (an 0)) fl_X3_10 dX3_ordersBehind_72 0 0 rfl rfl rfl ?_
          refine g_callV (pc := 75) (rest := [.int (nI c)]) (ss' := [wX cy ax an am ak aT ag ik mc od mv rf, wH cy an k, wH cy am (sRo k (roF k (nI rm) c))]) X (c_X1_allThings l D cy an k ) vl_X3_165 dX3_ordersBehind_75 [1] 1 0 rfl rfl rfl rfl rfl rfl rfl rfl rfl rfl rfl rfl rfl ⟨Nat.zero_le _, Nat.zero_le _⟩ ?_
          rw [allT_n (by omega : kNt k ≤ 8)]
          refine g_ncmp_ne (pc := 78) (tgt := 83) X dX3_ordersBehind_78 (by decide) c (2 ^ kNt k - 1) rfl rfl (by omega) (by omega) (fun c78 => ?_) (fun c78 => ?_)
          · refine g_iconst (v := 0) (pc := 83) X dX3_ordersBehind_83 (by decide) ?_
            refine g_istore_n (lv' := [(3, .int (0)), (0, .ref (ax 0)), (1, .int (nI c)), (2, .int (nI rm))]) (pc := 84) X dX3_ordersBehind_84 rfl rfl rfl ?_
            refine g_iconst (v := 0) (pc := 85) X dX3_ordersBehind_85 (by decide) ?_
            refine g_istore (lv' := [(4, .int (0)), (3, .int (0)), (0, .ref (ax 0)), (1, .int (nI c)), (2, .int (nI rm))]) (pc := 86) X dX3_ordersBehind_86 rfl rfl ?_
            have L88_2 : ∀ (fu_ : Nat) (q : Nat) (hq : q ≤ kNt k) (hm : 8 - q < fu_), G p_ l e_ { frames := 4, cells := 0, slots := 0, locals := 156 } s_ m_ args_ below_ meth_ c_ 5 D A_ 0 0 (QI below_ args_ s_ D A_ [wX cy ax an am ak aT ag ik mc od mv rf, wH cy an k, wH cy am (sRo k (roF k (nI rm) c))] (obV k (nI rm) od c)) [wX cy ax an am ak aT ag ik mc od mv rf, wH cy an k, wH cy am (sRo k (roF k (nI rm) c))] 88 [(0, .ref (ax 0)), (1, .int (nI c)), (2, .int (nI rm)), (3, .int (smN od c q)), (4, .int (nI q))] [] := by
              intro fu_
              induction fu_ with
              | zero => intro q hq hm; exact absurd hm (Nat.not_lt_zero _)
              | succ fu_ ih =>
                intro q hq hm
                have ih88 := ih
                clear ih
                refine g_iload (pc := 88) X dX3_ordersBehind_88 4 rfl ?_
                refine g_aload_n (pc := 90) X dX3_ordersBehind_90 0 rfl ?_
                refine g_get (pc := 91) X (v := .ref (an 0)) fl_X3_10 dX3_ordersBehind_91 0 0 rfl rfl rfl ?_
                refine g_get (pc := 94) X (v := .int (nI (kNt k))) fl_X3_115 dX3_ordersBehind_94 1 0 rfl rfl rfl ?_
                refine g_ncmp_ge (pc := 97) (tgt := 129) X dX3_ordersBehind_97 (by decide) q (kNt k) rfl rfl (by omega) (by omega) (fun c97 => ?_) (fun c97 => ?_)
                · have n97 := Nat.not_lt.mpr c97
                  refine g_iload_n (pc := 129) X dX3_ordersBehind_129 3 rfl ?_
                  exact g_iret (pc := 130) X rfl dX3_ordersBehind_130 rfl (by rw [obV, if_pos c65, if_neg c78, show q = kNt k by omega]) rfl
                · refine g_iload_n (pc := 100) X dX3_ordersBehind_100 1 rfl ?_
                  refine g_iload (pc := 101) X dX3_ordersBehind_101 4 rfl ?_
                  refine g_ishr (v := shr (nI c) (nI q)) (pc := 103) X dX3_ordersBehind_103 rfl ?_
                  refine g_iconst (v := 1) (pc := 104) X dX3_ordersBehind_104 (by decide) ?_
                  refine g_iand (v := (shr (nI c) (nI q)) &&& 1) (pc := 105) X dX3_ordersBehind_105 rfl ?_
                  refine g_if_ne (pc := 106) (tgt := 123) X dX3_ordersBehind_106 (by decide) (fun c106 => ?_) (fun c106 => ?_)
                  · have hb : c.testBit q = true := by rw [← btI_n (by omega)]; exact btI_t.mpr c106
                    have he : smN od c q = smN od c (q + 1) := by rw [smN, if_pos hb]
                    rw [he]
                    refine g_iinc (v := nI (q + 1)) (lv' := [(4, .int (nI (q + 1))), (0, .ref (ax 0)), (1, .int (nI c)), (2, .int (nI rm)), (3, .int (smN od c (q + 1)))]) (pc := 123) X dX3_ordersBehind_123 4 rfl (nI_1 q) rfl rfl ?_
                    refine g_goto (pc := 126) (tgt := 88) X dX3_ordersBehind_126 (by decide) ?_
                    refine g_lv X (lv' := [(0, .ref (ax 0)), (1, .int (nI c)), (2, .int (nI rm)), (3, .int (smN od c (q + 1))), (4, .int (nI (q + 1)))]) [1, 2, 3, 4, 0] rfl ?_
                    exact ih88 (q + 1) c97 (by omega)
                  · have hb : c.testBit q = false := by rw [← btI_n (by omega)]; exact btI_f.mpr c106
                    refine g_iload_n (pc := 109) X dX3_ordersBehind_109 3 rfl ?_
                    refine g_aload_n (pc := 110) X dX3_ordersBehind_110 0 rfl ?_
                    refine g_get (pc := 111) X (v := .ref (ax 1)) fl_X3_40 dX3_ordersBehind_111 0 0 rfl rfl rfl ?_
                    refine g_iload_n (pc := 114) X dX3_ordersBehind_114 1 rfl ?_
                    refine g_iconst (v := 1) (pc := 115) X dX3_ordersBehind_115 (by decide) ?_
                    refine g_iload (pc := 116) X dX3_ordersBehind_116 4 rfl ?_
                    refine g_ishl (v := nI (2 ^ q)) (pc := 118) X dX3_ordersBehind_118 (shl1_n q (by omega)) ?_
                    refine g_ior (v := nI (c ||| 2 ^ q)) (pc := 119) X dX3_ordersBehind_119 (nx_or c (2 ^ q)) ?_
                    refine g_iald_n (pc := 120) (f := od) X 0 1 dX3_ordersBehind_120 (c ||| 2 ^ q) rfl rfl rfl (by have := or_lt hc c97; omega) rfl ?_
                    refine g_iadd (v := smN od c (q + 1)) (pc := 121) X dX3_ordersBehind_121 (by rw [smN, if_neg (by rw [hb]; decide)]) ?_
                    refine g_istore_n (lv' := [(3, .int (smN od c (q + 1))), (0, .ref (ax 0)), (1, .int (nI c)), (2, .int (nI rm)), (4, .int (nI q))]) (pc := 122) X dX3_ordersBehind_122 rfl rfl rfl ?_
                    refine g_iinc (v := nI (q + 1)) (lv' := [(4, .int (nI (q + 1))), (3, .int (smN od c (q + 1))), (0, .ref (ax 0)), (1, .int (nI c)), (2, .int (nI rm))]) (pc := 123) X dX3_ordersBehind_123 4 rfl (nI_1 q) rfl rfl ?_
                    refine g_goto (pc := 126) (tgt := 88) X dX3_ordersBehind_126 (by decide) ?_
                    refine g_lv X (lv' := [(0, .ref (ax 0)), (1, .int (nI c)), (2, .int (nI rm)), (3, .int (smN od c (q + 1))), (4, .int (nI (q + 1)))]) [2, 3, 4, 1, 0] rfl ?_
                    exact ih88 (q + 1) c97 (by omega)
            refine g_lv X (lv' := [(0, .ref (ax 0)), (1, .int (nI c)), (2, .int (nI rm)), (3, .int (0)), (4, .int (0))]) [2, 3, 4, 1, 0] rfl ?_
            exact L88_2 (8 - 0 + 1) 0 (Nat.zero_le _) (Nat.lt_succ_self _)
          · refine g_iconst (v := 1) (pc := 81) X dX3_ordersBehind_81 (by decide) ?_
            exact g_iret (pc := 82) X rfl dX3_ordersBehind_82 rfl (by rw [obV, if_pos c65, if_pos c78]) rfl
        · refine g_iconst (v := 0) (pc := 68) X dX3_ordersBehind_68 (by decide) ?_
          exact g_iret (pc := 69) X rfl dX3_ordersBehind_69 rfl (by rw [obV, if_neg c65]) rfl
      · refine g_aload_n (pc := 13) X dX3_ordersBehind_13 0 rfl ?_
        refine g_get (pc := 14) X (v := .ref (am 0)) fl_X3_16 dX3_ordersBehind_14 0 0 rfl rfl rfl ?_
        refine g_get (pc := 17) X (v := .ref (am 6)) fl_X3_83 dX3_ordersBehind_17 2 0 rfl rfl rfl ?_
        refine g_iload_n (pc := 20) X dX3_ordersBehind_20 3 rfl ?_
        refine g_iload_n (pc := 21) X dX3_ordersBehind_21 1 rfl ?_
        refine g_iload_n (pc := 22) X dX3_ordersBehind_22 3 rfl ?_
        refine g_ishr (v := shr (nI c) (nI t)) (pc := 23) X dX3_ordersBehind_23 rfl ?_
        refine g_iconst (v := 1) (pc := 24) X dX3_ordersBehind_24 (by decide) ?_
        refine g_iand (v := (shr (nI c) (nI t)) &&& 1) (pc := 25) X dX3_ordersBehind_25 rfl ?_
        refine g_if_eq (pc := 26) (tgt := 33) X dX3_ordersBehind_26 (by decide) (fun c26 => ?_) (fun c26 => ?_)
        · have hb : c.testBit t = false := by rw [← btI_n (by omega)]; exact btI_f.mpr c26
          have hv : roF k (nI rm) c t = kRo k t := by rw [roF, if_neg]; rintro ⟨-, h⟩; rw [hb] at h; cases h
          refine g_aload_n (pc := 33) X dX3_ordersBehind_33 0 rfl ?_
          refine g_get (pc := 34) X (v := .ref (an 0)) fl_X3_10 dX3_ordersBehind_34 0 0 rfl rfl rfl ?_
          refine g_get (pc := 37) X (v := .ref (an 6)) fl_X3_83 dX3_ordersBehind_37 1 0 rfl rfl rfl ?_
          refine g_iload_n (pc := 40) X dX3_ordersBehind_40 3 rfl ?_
          refine g_iald_n (pc := 41) (f := kRo k) X 1 6 dX3_ordersBehind_41 t rfl rfl rfl (by omega) rfl ?_
          refine g_iast_n (pc := 42) X (ss' := [wX cy ax an am ak aT ag ik mc od mv rf, wH cy an k, wH cy am (sRo k (upd o t ((kRo k) t)))]) 2 6 dX3_ordersBehind_42 t rfl rfl rfl (by omega) rfl rfl ?_
          refine g_iinc (v := nI (t + 1)) (lv' := [(3, .int (nI (t + 1))), (0, .ref (ax 0)), (1, .int (nI c)), (2, .int (nI rm))]) (pc := 43) X dX3_ordersBehind_43 3 rfl (nI_1 t) rfl rfl ?_
          refine g_goto (pc := 46) (tgt := 2) X dX3_ordersBehind_46 (by decide) ?_
          refine g_lv X (lv' := [(0, .ref (ax 0)), (1, .int (nI c)), (2, .int (nI rm)), (3, .int (nI (t + 1)))]) [1, 2, 3, 0] rfl ?_
          exact ih2 (t + 1) (upd o t ((kRo k) t)) c10 (fun u hu => by by_cases e : u = t; (rw [e, upd_s]; exact hv.symm); (rw [upd_n e]; exact h1 u (by omega))) (fun u hu => by rw [upd_n (by omega)]; exact h2 u hu) (by omega)
        · have hb : c.testBit t = true := by rw [← btI_n (by omega)]; exact btI_t.mpr c26
          have hv : roF k (nI rm) c t = nI rm := by rw [roF, if_pos ⟨c10, hb⟩]
          refine g_iload_n (pc := 29) X dX3_ordersBehind_29 2 rfl ?_
          refine g_goto (pc := 30) (tgt := 42) X dX3_ordersBehind_30 (by decide) ?_
          refine g_iast_n (pc := 42) X (ss' := [wX cy ax an am ak aT ag ik mc od mv rf, wH cy an k, wH cy am (sRo k (upd o t (nI rm)))]) 2 6 dX3_ordersBehind_42 t rfl rfl rfl (by omega) rfl rfl ?_
          refine g_iinc (v := nI (t + 1)) (lv' := [(3, .int (nI (t + 1))), (0, .ref (ax 0)), (1, .int (nI c)), (2, .int (nI rm))]) (pc := 43) X dX3_ordersBehind_43 3 rfl (nI_1 t) rfl rfl ?_
          refine g_goto (pc := 46) (tgt := 2) X dX3_ordersBehind_46 (by decide) ?_
          refine g_lv X (lv' := [(0, .ref (ax 0)), (1, .int (nI c)), (2, .int (nI rm)), (3, .int (nI (t + 1)))]) [1, 2, 3, 0] rfl ?_
          exact ih2 (t + 1) (upd o t (nI rm)) c10 (fun u hu => by by_cases e : u = t; (rw [e, upd_s]; exact hv.symm); (rw [upd_n e]; exact h1 u (by omega))) (fun u hu => by rw [upd_n (by omega)]; exact h2 u hu) (by omega)
  refine g_lv X (lv' := [(0, .ref (ax 0)), (1, .int (nI c)), (2, .int (nI rm)), (3, .int (0))]) [1, 2, 3, 0] rfl ?_
  exact L2_1 (8 - 0 + 1) 0 o0 (Nat.zero_le _) (fun u h => absurd h (Nat.not_lt_zero u)) ho (Nat.lt_succ_self _)
set_option maxRecDepth 100000 in
set_option maxHeartbeats 4000000 in
theorem c_X3_firstCarried (l : Launch) (D : va_G) (cy : ClassId) (ax : Nat → Nat) (an : Nat → Nat) (am : Nat → Nat) (ak : Nat → Nat) (aT : Nat → Nat) (ag : Nat → Nat) (ik : Bool) (mc : Nat) (od : Nat → Int32) (mv : Nat → Int32) (rf : Nat → Int32) (k : KV) (h7 : kNt k ≤ 7) : CtI l yX3_firstCarried cX3_firstCarried 2 .int 0 64 D cy [.ref (ax 0)] [wX cy ax an am ak aT ag ik mc od mv rf, wH cy an k] [wX cy ax an am ak aT ag ik mc od mv rf, wH cy an k] (fcV od (kNt k)) := by
  refine ctI_of (by decide +kernel) (Nat.le_of_ble_eq_true rfl) (fun p_ e_ s_ m_ args_ below_ meth_ c_ A_ X => ?_)
  refine g_lv X (lv' := [(0, .ref (ax 0))]) [0] rfl ?_
  refine g_aload_n (pc := 0) X dX3_firstCarried_0 0 rfl ?_
  refine g_get (pc := 1) X (v := .ref (ax 1)) fl_X3_40 dX3_firstCarried_1 0 0 rfl rfl rfl ?_
  refine g_iconst (v := 0) (pc := 4) X dX3_firstCarried_4 (by decide) ?_
  refine g_iald_n (pc := 5) (f := od) X 0 1 dX3_firstCarried_5 0 rfl rfl rfl (by omega) rfl ?_
  refine g_if_le (pc := 6) (tgt := 41) X dX3_firstCarried_6 (by decide) (fun c6 => ?_) (fun c6 => ?_)
  · have n6 := Int32.not_lt.mpr c6
    refine g_bipush (v := (-9)) (pc := 41) X dX3_firstCarried_41 (by decide) ?_
    exact g_iret (pc := 43) X rfl dX3_firstCarried_43 rfl (by first | (rw [hq, show kNt k - t = 0 by omega]; rfl) | (rw [fcV, if_neg n6]; done)) rfl
  · refine g_iconst (v := 0) (pc := 9) X dX3_firstCarried_9 (by decide) ?_
    refine g_istore_n (lv' := [(1, .int (0)), (0, .ref (ax 0))]) (pc := 10) X dX3_firstCarried_10 rfl rfl rfl ?_
    have L11_1 : ∀ (fu_ : Nat) (t : Nat) (ht : t ≤ kNt k) (hq : fcV od (kNt k) = fnd (fun t => decide (0 < od (2 ^ t))) nI (kNt k - t) t) (hm : 8 - t < fu_), G p_ l e_ { frames := 0, cells := 0, slots := 0, locals := 64 } s_ m_ args_ below_ meth_ c_ 2 D A_ 0 0 (QI below_ args_ s_ D A_ [wX cy ax an am ak aT ag ik mc od mv rf, wH cy an k] (fcV od (kNt k))) [wX cy ax an am ak aT ag ik mc od mv rf, wH cy an k] 11 [(0, .ref (ax 0)), (1, .int (nI t))] [] := by
      intro fu_
      induction fu_ with
      | zero => intro t ht hq hm; exact absurd hm (Nat.not_lt_zero _)
      | succ fu_ ih =>
        intro t ht hq hm
        have ih11 := ih
        clear ih
        refine g_iload_n (pc := 11) X dX3_firstCarried_11 1 rfl ?_
        refine g_aload_n (pc := 12) X dX3_firstCarried_12 0 rfl ?_
        refine g_get (pc := 13) X (v := .ref (an 0)) fl_X3_10 dX3_firstCarried_13 0 0 rfl rfl rfl ?_
        refine g_get (pc := 16) X (v := .int (nI (kNt k))) fl_X3_115 dX3_firstCarried_16 1 0 rfl rfl rfl ?_
        refine g_ncmp_ge (pc := 19) (tgt := 41) X dX3_firstCarried_19 (by decide) t (kNt k) rfl rfl (by omega) (by omega) (fun c19 => ?_) (fun c19 => ?_)
        · have n19 := Nat.not_lt.mpr c19
          refine g_bipush (v := (-9)) (pc := 41) X dX3_firstCarried_41 (by decide) ?_
          exact g_iret (pc := 43) X rfl dX3_firstCarried_43 rfl (by first | (rw [hq, show kNt k - t = 0 by omega]; rfl) | (rw [fcV, if_neg n6]; done)) rfl
        · refine g_aload_n (pc := 22) X dX3_firstCarried_22 0 rfl ?_
          refine g_get (pc := 23) X (v := .ref (ax 1)) fl_X3_40 dX3_firstCarried_23 0 0 rfl rfl rfl ?_
          refine g_iconst (v := 1) (pc := 26) X dX3_firstCarried_26 (by decide) ?_
          refine g_iload_n (pc := 27) X dX3_firstCarried_27 1 rfl ?_
          refine g_ishl (v := nI (2 ^ t)) (pc := 28) X dX3_firstCarried_28 (shl1_n t (by omega)) ?_
          refine g_iald_n (pc := 29) (f := od) X 0 1 dX3_firstCarried_29 (2 ^ t) rfl rfl rfl (Nat.lt_of_lt_of_le (Nat.pow_lt_pow_right (by omega) c19) (Nat.pow_le_pow_right (n := 2) (by omega) h7)) rfl ?_
          refine g_if_le (pc := 30) (tgt := 35) X dX3_firstCarried_30 (by decide) (fun c30 => ?_) (fun c30 => ?_)
          · have n30 := Int32.not_lt.mpr c30
            refine g_iinc (v := nI (t + 1)) (lv' := [(1, .int (nI (t + 1))), (0, .ref (ax 0))]) (pc := 35) X dX3_firstCarried_35 1 rfl (nI_1 t) rfl rfl ?_
            refine g_goto (pc := 38) (tgt := 11) X dX3_firstCarried_38 (by decide) ?_
            refine g_lv X (lv' := [(0, .ref (ax 0)), (1, .int (nI (t + 1)))]) [1, 0] rfl ?_
            exact ih11 (t + 1) c19 (by rw [hq, show kNt k - t = (kNt k - (t + 1)) + 1 by omega, fnd, if_neg (by simp [n30])]) (by omega)
          · refine g_iload_n (pc := 33) X dX3_firstCarried_33 1 rfl ?_
            exact g_iret (pc := 34) X rfl dX3_firstCarried_34 rfl (by rw [hq, show kNt k - t = (kNt k - (t + 1)) + 1 by omega, fnd, if_pos (by simp [c30])]) rfl
    refine g_lv X (lv' := [(0, .ref (ax 0)), (1, .int (0))]) [1, 0] rfl ?_
    exact L11_1 (8 - 0 + 1) 0 (Nat.zero_le _) (by rw [fcV, if_pos c6]; rfl) (Nat.lt_succ_self _)
set_option maxRecDepth 100000 in
set_option maxHeartbeats 4000000 in
theorem c_X3_feast (l : Launch) (D : va_G) (cy : ClassId) (ax : Nat → Nat) (an : Nat → Nat) (am : Nat → Nat) (ak : Nat → Nat) (aT : Nat → Nat) (ag : Nat → Nat) (ik : Bool) (mc : Nat) (od : Nat → Int32) (mv : Nat → Int32) (rf : Nat → Int32) (k : KV) (km : KV) (room : Int32) (w : Int32) (hw : KW k) : CtIE l yX3_feast cX3_feast 4 .int 5 180 D cy [.ref (ax 0), .int (room), .int (w)] [wX cy ax an am ak aT ag ik mc od mv rf, wH cy an k, wH cy am km] (fun (u_ : (KV) × (Nat → Int32)) => [wX cy ax an am ak aT ag ik mc u_.2 mv (rfB (feO k room w) rf (feA k room w)), wH cy an k, wH cy am u_.1]) (feA k room w) := by
  refine ctIE_of (by decide +kernel) (Nat.le_of_ble_eq_true rfl) (fun p_ e_ s_ m_ args_ below_ meth_ c_ A_ X => ?_)
  refine g_lv X (lv' := [(0, .ref (ax 0)), (1, .int (room)), (2, .int (w))]) [0, 1, 2] rfl ?_
  refine g_iload_n (pc := 0) X dX3_feast_0 1 rfl ?_
  refine g_callS (pc := 1) (rest := []) X (c_X3_isRoom l D cy room ) sl_X3_105 dX3_feast_1 rfl rfl rfl rfl rfl ⟨Nat.zero_le _, Nat.zero_le _⟩ ?_
  refine g_bif_ne (pc := 4) (tgt := 13) X dX3_feast_4 (by decide) (fun c4 => ?_) (fun c4 => ?_)
  · have r4 := c4
    obtain ⟨rm, h6, rfl⟩ := isRm_t c4
    refine g_iload_n (pc := 13) X dX3_feast_13 2 rfl ?_
    refine g_if_eq (pc := 14) (tgt := 29) X dX3_feast_14 (by decide) (fun c14 => ?_) (fun c14 => ?_)
    · refine g_aload_n (pc := 29) X dX3_feast_29 0 rfl ?_
      refine g_get (pc := 30) X (v := .ref (an 0)) fl_X3_10 dX3_feast_30 0 0 rfl rfl rfl ?_
      refine g_get (pc := 33) X (v := .int (nI (kNt k))) fl_X3_115 dX3_feast_33 1 0 rfl rfl rfl ?_
      refine g_bipush (v := 7) (pc := 36) X dX3_feast_36 (by decide) ?_
      refine g_ncmp_le (pc := 38) (tgt := 48) X dX3_feast_38 (by decide) (kNt k) 7 rfl rfl (by have := hw.2.2.2.2.2.1; omega) (by decide) (fun c38 => ?_) (fun c38 => ?_)
      · have n38 := Nat.not_lt.mpr c38
        have hc1 : 2 ^ kNt k ≤ 128 := Nat.pow_le_pow_right (n := 2) (by omega) c38
        have hp : 0 < 2 ^ kNt k := Nat.two_pow_pos _
        refine g_aload_n (pc := 48) X dX3_feast_48 0 rfl ?_
        refine g_get (pc := 49) X (v := .ref (am 0)) fl_X3_16 dX3_feast_49 0 0 rfl rfl rfl ?_
        refine g_aload_n (pc := 52) X dX3_feast_52 0 rfl ?_
        refine g_get (pc := 53) X (v := .ref (an 0)) fl_X3_10 dX3_feast_53 0 0 rfl rfl rfl ?_
        refine g_callVv (pc := 56) (rest := []) (ss' := [wX cy ax an am ak aT ag ik mc od mv rf, wH cy an k, wH cy am k]) X (c_X1_become l D cy am an km k ) vl_X3_68 dX3_feast_56 [2, 1] 2 0 rfl rfl rfl rfl rfl rfl (ads_c (ads_H _ _ _ _ _ _ _ _) (ads_c (ads_H _ _ _ _ _ _ _ _) rfl)) rfl rfl rfl rfl rfl rfl ⟨Nat.zero_le _, Nat.zero_le _⟩ ?_
        refine g_aload_n (pc := 59) X dX3_feast_59 0 rfl ?_
        refine g_get (pc := 60) X (v := .ref (an 0)) fl_X3_10 dX3_feast_60 0 0 rfl rfl rfl ?_
        refine g_callV (pc := 63) (rest := []) (ss' := [wX cy ax an am ak aT ag ik mc od mv rf, wH cy an k, wH cy am k]) X (c_X1_allThings l D cy an k ) vl_X3_165 dX3_feast_63 [1] 1 0 rfl rfl rfl rfl rfl rfl rfl rfl rfl rfl rfl rfl rfl ⟨Nat.zero_le _, Nat.zero_le _⟩ ?_
        rw [show allT k = nI (2 ^ kNt k) + (-1) by rw [allT_n (by omega : kNt k ≤ 8)]; obtain ⟨M1, hM1⟩ : ∃ M1, 2 ^ kNt k = M1 + 1 := ⟨2 ^ kNt k - 1, by omega⟩; rw [hM1, pk_m1]; rfl]
        refine g_istore_n (lv' := [(3, .int (nI (2 ^ kNt k) + (-1))), (0, .ref (ax 0)), (1, .int (nI rm)), (2, .int (w))]) (pc := 66) X dX3_feast_66 rfl rfl rfl ?_
        have L67_1 : ∀ (fu_ : Nat) (e : Nat) (od2 : Nat → Int32) (o : Nat → Int32) (he : e ≤ 2 ^ kNt k) (ho : ∀ t, kNt k ≤ t → o t = kRo k t) (htab : ∀ c, e ≤ c → c < 2 ^ kNt k → od2 c = oT k (nI rm) (2 ^ kNt k - e) c) (hm : e < fu_), G p_ l e_ { frames := 5, cells := 0, slots := 0, locals := 180 } s_ m_ args_ below_ meth_ c_ 4 D A_ 0 0 (QIE below_ args_ s_ D A_ (fun (u_ : (KV) × (Nat → Int32)) => [wX cy ax an am ak aT ag ik mc u_.2 mv (rfB (feO k (nI rm) w) rf (feA k (nI rm) w)), wH cy an k, wH cy am u_.1]) (feA k (nI rm) w)) [wX cy ax an am ak aT ag ik mc od2 mv rf, wH cy an k, wH cy am (sRo k o)] 67 [(0, .ref (ax 0)), (1, .int (nI rm)), (2, .int (w)), (3, .int (nI e + (-1)))] [] := by
          intro fu_
          induction fu_ with
          | zero => intro e od2 o he ho htab hm; exact absurd hm (Nat.not_lt_zero _)
          | succ fu_ ih =>
            intro e od2 o he ho htab hm
            have ih67 := ih
            clear ih
            refine g_iload_n (pc := 67) X dX3_feast_67 3 rfl ?_
            refine g_if_lt (pc := 68) (tgt := 89) X dX3_feast_68 (by decide) (fun c68 => ?_) (fun c68 => ?_)
            · have e0 : e = 0 := by cases e with | zero => rfl | succ e1 => exact absurd c68 (by rw [pk_m1]; exact nI_pos (by omega))
              subst e0
              have hall : ∀ c, c < 2 ^ kNt k → od2 c = oT k (nI rm) (2 ^ kNt k) c := fun c hc => htab c (Nat.zero_le c) hc
              have hv := fcV_cong hall
              refine g_iload_n (pc := 89) X dX3_feast_89 2 rfl ?_
              refine g_if_ne (pc := 90) (tgt := 102) X dX3_feast_90 (by decide) (fun c90 => ?_) (fun c90 => ?_)
              · refine g_aload_n (pc := 102) X dX3_feast_102 0 rfl ?_
                refine g_callV (pc := 103) (rest := []) (ss' := [wX cy ax an am ak aT ag ik mc od2 mv rf, wH cy an k, wH cy am (sRo k o)]) X (c_X3_firstCarried l D cy ax an am ak aT ag ik mc od2 mv rf k (by first | assumption | omega)) vl_X3_180 dX3_feast_103 [0, 1] 0 0 rfl rfl rfl rfl rfl rfl rfl rfl rfl rfl rfl rfl rfl ⟨Nat.zero_le _, Nat.zero_le _⟩ ?_
                exact g_iretE (pc := 106) X (sRo k o, od2) rfl dX3_feast_106 rfl (by first | (simp [feA, moB, *]; done) | exact absurd c14 c90 | exact absurd (c90.symm.trans c19) (by decide) | (simp [feA, moB, *]; done)) (by simp [feA, feO, moB, rfB, *])
              · refine g_aload_n (pc := 93) X dX3_feast_93 0 rfl ?_
                refine g_get (pc := 94) X (v := .ref (ax 1)) fl_X3_40 dX3_feast_94 0 0 rfl rfl rfl ?_
                refine g_iconst (v := 0) (pc := 97) X dX3_feast_97 (by decide) ?_
                refine g_iald_n (pc := 98) (f := od2) X 0 1 dX3_feast_98 0 rfl rfl rfl (by omega) rfl ?_
                refine g_goto (pc := 99) (tgt := 106) X dX3_feast_99 (by decide) ?_
                exact g_iretE (pc := 106) X (sRo k o, od2) rfl dX3_feast_106 rfl (by first | (simp [feA, moB, *]; done) | exact absurd c14 c90 | exact absurd (c90.symm.trans c19) (by decide) | (simp [feA, moB, *]; done)) (by simp [feA, feO, moB, rfB, *])
            · have n68 := Int32.not_lt.mpr c68
              obtain ⟨e1, rfl⟩ : ∃ e1, e = e1 + 1 := ⟨e - 1, by have : e ≠ 0 := fun q => absurd c68 (by rw [q]; decide); omega⟩
              rw [pk_m1]
              refine g_aload_n (pc := 71) X dX3_feast_71 0 rfl ?_
              refine g_get (pc := 72) X (v := .ref (ax 1)) fl_X3_40 dX3_feast_72 0 0 rfl rfl rfl ?_
              refine g_iload_n (pc := 75) X dX3_feast_75 3 rfl ?_
              refine g_aload_n (pc := 76) X dX3_feast_76 0 rfl ?_
              refine g_iload_n (pc := 77) X dX3_feast_77 3 rfl ?_
              refine g_iload_n (pc := 78) X dX3_feast_78 1 rfl ?_
              refine g_callV (pc := 79) (rest := [.int (nI e1), .ref (ax 1)]) (ss' := [wX cy ax an am ak aT ag ik mc od2 mv rf, wH cy an k, wH cy am (sRo k (roF k (nI rm) e1))]) X (c_X3_ordersBehind l D cy ax an am ak aT ag ik mc od2 mv rf k o e1 rm c38 hw.2.2.2.1 hw.2.2.2.2.2.2.1 (by omega) (by first | assumption | omega) ho) vl_X3_177 dX3_feast_79 [0, 1, 2] 0 0 rfl rfl rfl rfl rfl rfl (ads_c (ads_X _ _ _ _ _ _ _ _ _ _ _ _ _ _ _ _ _) (ads_c (ads_H _ _ _ _ _ _ _ _) (ads_c (ads_H _ _ _ _ _ _ _ _) rfl))) rfl rfl rfl rfl rfl rfl ⟨Nat.zero_le _, Nat.zero_le _⟩ ?_
              refine g_iast_n (pc := 82) X (ss' := [wX cy ax an am ak aT ag ik mc (upd od2 e1 (obV k (nI rm) od2 e1)) mv rf, wH cy an k, wH cy am (sRo k (roF k (nI rm) e1))]) 0 1 dX3_feast_82 e1 rfl rfl rfl (by omega) rfl rfl ?_
              refine g_iinc (v := nI e1 + (-1)) (lv' := [(3, .int (nI e1 + (-1))), (0, .ref (ax 0)), (1, .int (nI rm)), (2, .int (w))]) (pc := 83) X dX3_feast_83 3 rfl rfl rfl rfl ?_
              refine g_goto (pc := 86) (tgt := 67) X dX3_feast_86 (by decide) ?_
              refine g_lv X (lv' := [(0, .ref (ax 0)), (1, .int (nI rm)), (2, .int (w)), (3, .int (nI e1 + (-1)))]) [1, 2, 3, 0] rfl ?_
              exact ih67 e1 (upd od2 e1 (obV k (nI rm) od2 e1)) (roF k (nI rm) e1) (by omega) (fun t h => by rw [roF, if_neg (fun q => absurd q.1 (by omega))]) (oT_step (by omega) htab) (by omega)
        refine g_lv X (lv' := [(0, .ref (ax 0)), (1, .int (nI rm)), (2, .int (w)), (3, .int (nI (2 ^ kNt k) + (-1)))]) [1, 2, 3, 0] rfl ?_
        exact L67_1 (((2 ^ kNt k)) + 1) ((2 ^ kNt k)) od (kRo k) (Nat.le_refl _) (fun _ _ => rfl) (fun c h1 h2 => absurd h2 (by omega)) (Nat.lt_succ_self _)
      · have q7 : ¬ kNt k ≤ 7 := by omega
        refine g_aload_n (pc := 41) X dX3_feast_41 0 rfl ?_
        refine g_bipush (v := (-3)) (pc := 42) X dX3_feast_42 (by decide) ?_
        refine g_callV (pc := 44) (rest := []) (ss' := [wX cy ax an am ak aT ag ik mc od mv (rfU rf ((-3))), wH cy an k, wH cy am km]) X (c_X3_refuse l D cy ax an am ak aT ag ik mc od mv rf ((-3)) rf_3) vl_X3_58 dX3_feast_44 [0] 0 0 rfl rfl rfl rfl rfl rfl (ads_c (ads_X _ _ _ _ _ _ _ _ _ _ _ _ _ _ _ _ _) rfl) rfl rfl rfl rfl rfl rfl ⟨Nat.zero_le _, Nat.zero_le _⟩ ?_
        exact g_iretE (pc := 47) X (km, od) rfl dX3_feast_47 rfl (by first | (simp [feA, moB, *]; done) | exact absurd c14 c90 | exact absurd (c90.symm.trans c19) (by decide) | (simp [feA, moB, *]; done)) (by simp [feA, feO, moB, rfB, *])
    · refine g_iload_n (pc := 17) X dX3_feast_17 2 rfl ?_
      refine g_iconst (v := 1) (pc := 18) X dX3_feast_18 (by decide) ?_
      refine g_icmp_eq (pc := 19) (tgt := 29) X dX3_feast_19 (by decide) (fun c19 => ?_) (fun c19 => ?_)
      · refine g_aload_n (pc := 29) X dX3_feast_29 0 rfl ?_
        refine g_get (pc := 30) X (v := .ref (an 0)) fl_X3_10 dX3_feast_30 0 0 rfl rfl rfl ?_
        refine g_get (pc := 33) X (v := .int (nI (kNt k))) fl_X3_115 dX3_feast_33 1 0 rfl rfl rfl ?_
        refine g_bipush (v := 7) (pc := 36) X dX3_feast_36 (by decide) ?_
        refine g_ncmp_le (pc := 38) (tgt := 48) X dX3_feast_38 (by decide) (kNt k) 7 rfl rfl (by have := hw.2.2.2.2.2.1; omega) (by decide) (fun c38 => ?_) (fun c38 => ?_)
        · have n38 := Nat.not_lt.mpr c38
          have hc1 : 2 ^ kNt k ≤ 128 := Nat.pow_le_pow_right (n := 2) (by omega) c38
          have hp : 0 < 2 ^ kNt k := Nat.two_pow_pos _
          refine g_aload_n (pc := 48) X dX3_feast_48 0 rfl ?_
          refine g_get (pc := 49) X (v := .ref (am 0)) fl_X3_16 dX3_feast_49 0 0 rfl rfl rfl ?_
          refine g_aload_n (pc := 52) X dX3_feast_52 0 rfl ?_
          refine g_get (pc := 53) X (v := .ref (an 0)) fl_X3_10 dX3_feast_53 0 0 rfl rfl rfl ?_
          refine g_callVv (pc := 56) (rest := []) (ss' := [wX cy ax an am ak aT ag ik mc od mv rf, wH cy an k, wH cy am k]) X (c_X1_become l D cy am an km k ) vl_X3_68 dX3_feast_56 [2, 1] 2 0 rfl rfl rfl rfl rfl rfl (ads_c (ads_H _ _ _ _ _ _ _ _) (ads_c (ads_H _ _ _ _ _ _ _ _) rfl)) rfl rfl rfl rfl rfl rfl ⟨Nat.zero_le _, Nat.zero_le _⟩ ?_
          refine g_aload_n (pc := 59) X dX3_feast_59 0 rfl ?_
          refine g_get (pc := 60) X (v := .ref (an 0)) fl_X3_10 dX3_feast_60 0 0 rfl rfl rfl ?_
          refine g_callV (pc := 63) (rest := []) (ss' := [wX cy ax an am ak aT ag ik mc od mv rf, wH cy an k, wH cy am k]) X (c_X1_allThings l D cy an k ) vl_X3_165 dX3_feast_63 [1] 1 0 rfl rfl rfl rfl rfl rfl rfl rfl rfl rfl rfl rfl rfl ⟨Nat.zero_le _, Nat.zero_le _⟩ ?_
          rw [show allT k = nI (2 ^ kNt k) + (-1) by rw [allT_n (by omega : kNt k ≤ 8)]; obtain ⟨M1, hM1⟩ : ∃ M1, 2 ^ kNt k = M1 + 1 := ⟨2 ^ kNt k - 1, by omega⟩; rw [hM1, pk_m1]; rfl]
          refine g_istore_n (lv' := [(3, .int (nI (2 ^ kNt k) + (-1))), (0, .ref (ax 0)), (1, .int (nI rm)), (2, .int (w))]) (pc := 66) X dX3_feast_66 rfl rfl rfl ?_
          have L67_2 : ∀ (fu_ : Nat) (e : Nat) (od2 : Nat → Int32) (o : Nat → Int32) (he : e ≤ 2 ^ kNt k) (ho : ∀ t, kNt k ≤ t → o t = kRo k t) (htab : ∀ c, e ≤ c → c < 2 ^ kNt k → od2 c = oT k (nI rm) (2 ^ kNt k - e) c) (hm : e < fu_), G p_ l e_ { frames := 5, cells := 0, slots := 0, locals := 180 } s_ m_ args_ below_ meth_ c_ 4 D A_ 0 0 (QIE below_ args_ s_ D A_ (fun (u_ : (KV) × (Nat → Int32)) => [wX cy ax an am ak aT ag ik mc u_.2 mv (rfB (feO k (nI rm) w) rf (feA k (nI rm) w)), wH cy an k, wH cy am u_.1]) (feA k (nI rm) w)) [wX cy ax an am ak aT ag ik mc od2 mv rf, wH cy an k, wH cy am (sRo k o)] 67 [(0, .ref (ax 0)), (1, .int (nI rm)), (2, .int (w)), (3, .int (nI e + (-1)))] [] := by
            intro fu_
            induction fu_ with
            | zero => intro e od2 o he ho htab hm; exact absurd hm (Nat.not_lt_zero _)
            | succ fu_ ih =>
              intro e od2 o he ho htab hm
              have ih67 := ih
              clear ih
              refine g_iload_n (pc := 67) X dX3_feast_67 3 rfl ?_
              refine g_if_lt (pc := 68) (tgt := 89) X dX3_feast_68 (by decide) (fun c68 => ?_) (fun c68 => ?_)
              · have e0 : e = 0 := by cases e with | zero => rfl | succ e1 => exact absurd c68 (by rw [pk_m1]; exact nI_pos (by omega))
                subst e0
                have hall : ∀ c, c < 2 ^ kNt k → od2 c = oT k (nI rm) (2 ^ kNt k) c := fun c hc => htab c (Nat.zero_le c) hc
                have hv := fcV_cong hall
                refine g_iload_n (pc := 89) X dX3_feast_89 2 rfl ?_
                refine g_if_ne (pc := 90) (tgt := 102) X dX3_feast_90 (by decide) (fun c90 => ?_) (fun c90 => ?_)
                · refine g_aload_n (pc := 102) X dX3_feast_102 0 rfl ?_
                  refine g_callV (pc := 103) (rest := []) (ss' := [wX cy ax an am ak aT ag ik mc od2 mv rf, wH cy an k, wH cy am (sRo k o)]) X (c_X3_firstCarried l D cy ax an am ak aT ag ik mc od2 mv rf k (by first | assumption | omega)) vl_X3_180 dX3_feast_103 [0, 1] 0 0 rfl rfl rfl rfl rfl rfl rfl rfl rfl rfl rfl rfl rfl ⟨Nat.zero_le _, Nat.zero_le _⟩ ?_
                  exact g_iretE (pc := 106) X (sRo k o, od2) rfl dX3_feast_106 rfl (by first | (simp [feA, moB, *]; done) | exact absurd c14 c90 | exact absurd (c90.symm.trans c19) (by decide) | (simp [feA, moB, *]; done)) (by simp [feA, feO, moB, rfB, *])
                · refine g_aload_n (pc := 93) X dX3_feast_93 0 rfl ?_
                  refine g_get (pc := 94) X (v := .ref (ax 1)) fl_X3_40 dX3_feast_94 0 0 rfl rfl rfl ?_
                  refine g_iconst (v := 0) (pc := 97) X dX3_feast_97 (by decide) ?_
                  refine g_iald_n (pc := 98) (f := od2) X 0 1 dX3_feast_98 0 rfl rfl rfl (by omega) rfl ?_
                  refine g_goto (pc := 99) (tgt := 106) X dX3_feast_99 (by decide) ?_
                  exact g_iretE (pc := 106) X (sRo k o, od2) rfl dX3_feast_106 rfl (by first | (simp [feA, moB, *]; done) | exact absurd c14 c90 | exact absurd (c90.symm.trans c19) (by decide) | (simp [feA, moB, *]; done)) (by simp [feA, feO, moB, rfB, *])
              · have n68 := Int32.not_lt.mpr c68
                obtain ⟨e1, rfl⟩ : ∃ e1, e = e1 + 1 := ⟨e - 1, by have : e ≠ 0 := fun q => absurd c68 (by rw [q]; decide); omega⟩
                rw [pk_m1]
                refine g_aload_n (pc := 71) X dX3_feast_71 0 rfl ?_
                refine g_get (pc := 72) X (v := .ref (ax 1)) fl_X3_40 dX3_feast_72 0 0 rfl rfl rfl ?_
                refine g_iload_n (pc := 75) X dX3_feast_75 3 rfl ?_
                refine g_aload_n (pc := 76) X dX3_feast_76 0 rfl ?_
                refine g_iload_n (pc := 77) X dX3_feast_77 3 rfl ?_
                refine g_iload_n (pc := 78) X dX3_feast_78 1 rfl ?_
                refine g_callV (pc := 79) (rest := [.int (nI e1), .ref (ax 1)]) (ss' := [wX cy ax an am ak aT ag ik mc od2 mv rf, wH cy an k, wH cy am (sRo k (roF k (nI rm) e1))]) X (c_X3_ordersBehind l D cy ax an am ak aT ag ik mc od2 mv rf k o e1 rm c38 hw.2.2.2.1 hw.2.2.2.2.2.2.1 (by omega) (by first | assumption | omega) ho) vl_X3_177 dX3_feast_79 [0, 1, 2] 0 0 rfl rfl rfl rfl rfl rfl (ads_c (ads_X _ _ _ _ _ _ _ _ _ _ _ _ _ _ _ _ _) (ads_c (ads_H _ _ _ _ _ _ _ _) (ads_c (ads_H _ _ _ _ _ _ _ _) rfl))) rfl rfl rfl rfl rfl rfl ⟨Nat.zero_le _, Nat.zero_le _⟩ ?_
                refine g_iast_n (pc := 82) X (ss' := [wX cy ax an am ak aT ag ik mc (upd od2 e1 (obV k (nI rm) od2 e1)) mv rf, wH cy an k, wH cy am (sRo k (roF k (nI rm) e1))]) 0 1 dX3_feast_82 e1 rfl rfl rfl (by omega) rfl rfl ?_
                refine g_iinc (v := nI e1 + (-1)) (lv' := [(3, .int (nI e1 + (-1))), (0, .ref (ax 0)), (1, .int (nI rm)), (2, .int (w))]) (pc := 83) X dX3_feast_83 3 rfl rfl rfl rfl ?_
                refine g_goto (pc := 86) (tgt := 67) X dX3_feast_86 (by decide) ?_
                refine g_lv X (lv' := [(0, .ref (ax 0)), (1, .int (nI rm)), (2, .int (w)), (3, .int (nI e1 + (-1)))]) [1, 2, 3, 0] rfl ?_
                exact ih67 e1 (upd od2 e1 (obV k (nI rm) od2 e1)) (roF k (nI rm) e1) (by omega) (fun t h => by rw [roF, if_neg (fun q => absurd q.1 (by omega))]) (oT_step (by omega) htab) (by omega)
          refine g_lv X (lv' := [(0, .ref (ax 0)), (1, .int (nI rm)), (2, .int (w)), (3, .int (nI (2 ^ kNt k) + (-1)))]) [1, 2, 3, 0] rfl ?_
          exact L67_2 (((2 ^ kNt k)) + 1) ((2 ^ kNt k)) od (kRo k) (Nat.le_refl _) (fun _ _ => rfl) (fun c h1 h2 => absurd h2 (by omega)) (Nat.lt_succ_self _)
        · have q7 : ¬ kNt k ≤ 7 := by omega
          refine g_aload_n (pc := 41) X dX3_feast_41 0 rfl ?_
          refine g_bipush (v := (-3)) (pc := 42) X dX3_feast_42 (by decide) ?_
          refine g_callV (pc := 44) (rest := []) (ss' := [wX cy ax an am ak aT ag ik mc od mv (rfU rf ((-3))), wH cy an k, wH cy am km]) X (c_X3_refuse l D cy ax an am ak aT ag ik mc od mv rf ((-3)) rf_3) vl_X3_58 dX3_feast_44 [0] 0 0 rfl rfl rfl rfl rfl rfl (ads_c (ads_X _ _ _ _ _ _ _ _ _ _ _ _ _ _ _ _ _) rfl) rfl rfl rfl rfl rfl rfl ⟨Nat.zero_le _, Nat.zero_le _⟩ ?_
          exact g_iretE (pc := 47) X (km, od) rfl dX3_feast_47 rfl (by first | (simp [feA, moB, *]; done) | exact absurd c14 c90 | exact absurd (c90.symm.trans c19) (by decide) | (simp [feA, moB, *]; done)) (by simp [feA, feO, moB, rfB, *])
      · refine g_aload_n (pc := 22) X dX3_feast_22 0 rfl ?_
        refine g_bipush (v := (-2)) (pc := 23) X dX3_feast_23 (by decide) ?_
        refine g_callV (pc := 25) (rest := []) (ss' := [wX cy ax an am ak aT ag ik mc od mv (rfU rf ((-2))), wH cy an k, wH cy am km]) X (c_X3_refuse l D cy ax an am ak aT ag ik mc od mv rf ((-2)) rf_2) vl_X3_58 dX3_feast_25 [0] 0 0 rfl rfl rfl rfl rfl rfl (ads_c (ads_X _ _ _ _ _ _ _ _ _ _ _ _ _ _ _ _ _) rfl) rfl rfl rfl rfl rfl rfl ⟨Nat.zero_le _, Nat.zero_le _⟩ ?_
        exact g_iretE (pc := 28) X (km, od) rfl dX3_feast_28 rfl (by first | (simp [feA, moB, *]; done) | exact absurd c14 c90 | exact absurd (c90.symm.trans c19) (by decide) | (simp [feA, moB, *]; done)) (by simp [feA, feO, moB, rfB, *])
  · refine g_aload_n (pc := 7) X dX3_feast_7 0 rfl ?_
    refine g_iconst (v := (-1)) (pc := 8) X dX3_feast_8 (by decide) ?_
    refine g_callV (pc := 9) (rest := []) (ss' := [wX cy ax an am ak aT ag ik mc od mv (rfU rf ((-1))), wH cy an k, wH cy am km]) X (c_X3_refuse l D cy ax an am ak aT ag ik mc od mv rf ((-1)) rf_1) vl_X3_58 dX3_feast_9 [0] 0 0 rfl rfl rfl rfl rfl rfl (ads_c (ads_X _ _ _ _ _ _ _ _ _ _ _ _ _ _ _ _ _) rfl) rfl rfl rfl rfl rfl rfl ⟨Nat.zero_le _, Nat.zero_le _⟩ ?_
    exact g_iretE (pc := 12) X (km, od) rfl dX3_feast_12 rfl (by first | (simp [feA, moB, *]; done) | exact absurd c14 c90 | exact absurd (c90.symm.trans c19) (by decide) | (simp [feA, moB, *]; done)) (by simp [feA, feO, moB, rfB, *])
set_option maxRecDepth 100000 in
set_option maxHeartbeats 4000000 in
theorem c_X3_firstBadMove (l : Launch) (D : va_G) (cy : ClassId) (ax : Nat → Nat) (an : Nat → Nat) (am : Nat → Nat) (ak : Nat → Nat) (aT : Nat → Nat) (ag : Nat → Nat) (ik : Bool) (mc : Nat) (od : Nat → Int32) (mv : Nat → Int32) (rf : Nat → Int32) (k : KV) (km : KV) (hw : KW k) (hm : mc ≤ 12) : CtIE l yX3_firstBadMove cX3_firstBadMove 4 .int 4 156 D cy [.ref (ax 0)] [wX cy ax an am ak aT ag ik mc od mv rf, wH cy an k, wH cy am km] (fun (u_ : (KV)) => [wX cy ax an am ak aT ag ik mc od mv rf, wH cy an k, wH cy am u_]) (jdA k mv mc) := by
  have h8 := hw.2.2.2.2.2.1
  refine ctIE_of (by decide +kernel) (Nat.le_of_ble_eq_true rfl) (fun p_ e_ s_ m_ args_ below_ meth_ c_ A_ X => ?_)
  refine g_lv X (lv' := [(0, .ref (ax 0))]) [0] rfl ?_
  refine g_aload_n (pc := 0) X dX3_firstBadMove_0 0 rfl ?_
  refine g_get (pc := 1) X (v := .ref (am 0)) fl_X3_16 dX3_firstBadMove_1 0 0 rfl rfl rfl ?_
  refine g_aload_n (pc := 4) X dX3_firstBadMove_4 0 rfl ?_
  refine g_get (pc := 5) X (v := .ref (an 0)) fl_X3_10 dX3_firstBadMove_5 0 0 rfl rfl rfl ?_
  refine g_callVv (pc := 8) (rest := []) (ss' := [wX cy ax an am ak aT ag ik mc od mv rf, wH cy an k, wH cy am k]) X (c_X1_become l D cy am an km k ) vl_X3_68 dX3_firstBadMove_8 [2, 1] 2 0 rfl rfl rfl rfl rfl rfl (ads_c (ads_H _ _ _ _ _ _ _ _) (ads_c (ads_H _ _ _ _ _ _ _ _) rfl)) rfl rfl rfl rfl rfl rfl ⟨Nat.zero_le _, Nat.zero_le _⟩ ?_
  refine g_iconst (v := 0) (pc := 11) X dX3_firstBadMove_11 (by decide) ?_
  refine g_istore_n (lv' := [(1, .int (0)), (0, .ref (ax 0))]) (pc := 12) X dX3_firstBadMove_12 rfl rfl rfl ?_
  have L13_1 : ∀ (fu_ : Nat) (j : Nat) (o : Nat → Int32) (hj : j ≤ mc) (hro : HRo (sRo k o)) (hq : jdA k mv mc = jdN k mv (mc - j) j o) (hm : mc - j < fu_), G p_ l e_ { frames := 4, cells := 0, slots := 0, locals := 156 } s_ m_ args_ below_ meth_ c_ 4 D A_ 0 0 (QIE below_ args_ s_ D A_ (fun (u_ : (KV)) => [wX cy ax an am ak aT ag ik mc od mv rf, wH cy an k, wH cy am u_]) (jdA k mv mc)) [wX cy ax an am ak aT ag ik mc od mv rf, wH cy an k, wH cy am (sRo k o)] 13 [(0, .ref (ax 0)), (1, .int (nI j))] [] := by
    intro fu_
    induction fu_ with
    | zero => intro j o hj hro hq hm; exact absurd hm (Nat.not_lt_zero _)
    | succ fu_ ih =>
      intro j o hj hro hq hm
      have ih13 := ih
      clear ih
      refine g_iload_n (pc := 13) X dX3_firstBadMove_13 1 rfl ?_
      refine g_aload_n (pc := 14) X dX3_firstBadMove_14 0 rfl ?_
      refine g_get (pc := 15) X (v := .int (nI mc)) fl_X3_47 dX3_firstBadMove_15 0 0 rfl rfl rfl ?_
      refine g_ncmp_ge (pc := 18) (tgt := 97) X dX3_firstBadMove_18 (by decide) j mc rfl rfl (by omega) (by omega) (fun c18 => ?_) (fun c18 => ?_)
      · have n18 := Nat.not_lt.mpr c18
        refine g_bipush (v := (-9)) (pc := 97) X dX3_firstBadMove_97 (by decide) ?_
        exact g_iretE (pc := 99) X (sRo k o) rfl dX3_firstBadMove_99 rfl (by rw [hq, show mc - j = 0 by omega]; rfl) rfl
      · refine g_aload_n (pc := 21) X dX3_firstBadMove_21 0 rfl ?_
        refine g_get (pc := 22) X (v := .ref (ax 2)) fl_X3_44 dX3_firstBadMove_22 0 0 rfl rfl rfl ?_
        refine g_iload_n (pc := 25) X dX3_firstBadMove_25 1 rfl ?_
        refine g_iald_n (pc := 26) (f := mv) X 0 2 dX3_firstBadMove_26 j rfl rfl rfl (by omega) rfl ?_
        refine g_bipush (v := 10) (pc := 27) X dX3_firstBadMove_27 (by decide) ?_
        refine g_idiv (v := dvI (mv j)) (pc := 29) X dX3_firstBadMove_29 (by decide) rfl ?_
        refine g_istore_n (lv' := [(2, .int (dvI (mv j))), (0, .ref (ax 0)), (1, .int (nI j))]) (pc := 30) X dX3_firstBadMove_30 rfl rfl rfl ?_
        refine g_aload_n (pc := 31) X dX3_firstBadMove_31 1 rfl ?_
        refine g_get (pc := 32) X (v := .ref (ax 2)) fl_X3_44 dX3_firstBadMove_32 0 0 rfl rfl rfl ?_
        refine g_iload_n (pc := 35) X dX3_firstBadMove_35 2 rfl ?_
        refine g_iald_n (pc := 36) (f := mv) X 0 2 dX3_firstBadMove_36 j rfl rfl rfl (by omega) rfl ?_
        refine g_bipush (v := 10) (pc := 37) X dX3_firstBadMove_37 (by decide) ?_
        refine g_irem (v := rmI (mv j)) (pc := 39) X dX3_firstBadMove_39 (by decide) rfl ?_
        refine g_istore_n (lv' := [(3, .int (rmI (mv j))), (2, .int (dvI (mv j))), (0, .ref (ax 0)), (1, .int (nI j))]) (pc := 40) X dX3_firstBadMove_40 rfl rfl rfl ?_
        refine g_aload_n (pc := 41) X dX3_firstBadMove_41 2 rfl ?_
        refine g_get (pc := 42) X (v := .ref (am 0)) fl_X3_16 dX3_firstBadMove_42 0 0 rfl rfl rfl ?_
        refine g_iload_n (pc := 45) X dX3_firstBadMove_45 1 rfl ?_
        refine g_callV (pc := 46) (rest := []) (ss' := [wX cy ax an am ak aT ag ik mc od mv rf, wH cy an k, wH cy am (sRo k o)]) X (c_X1_hasThing l D cy am (sRo k o) (dvI (mv j)) ) vl_X3_76 dX3_firstBadMove_46 [2] 2 0 rfl rfl rfl rfl rfl rfl rfl rfl rfl rfl rfl rfl rfl ⟨Nat.zero_le _, Nat.zero_le _⟩ ?_
        refine g_bif_eq (pc := 49) (tgt := 59) X dX3_firstBadMove_49 (by decide) (fun c49 => ?_) (fun c49 => ?_)
        · have cb : jdB k (mv j) = false := by rw [jdB, show hasT k (dvI (mv j)) = false from c49]; rfl
          refine g_iload_n (pc := 59) X dX3_firstBadMove_59 3 rfl ?_
          exact g_iretE (pc := 60) X (sRo k o) rfl dX3_firstBadMove_60 rfl (by rw [hq, jd_stop c18 cb]) rfl
        · obtain ⟨t, ht, et⟩ := hasT_t (k := sRo k o) h8 c49
          rw [et]
          refine g_iload_n (pc := 52) X dX3_firstBadMove_52 0 rfl ?_
          refine g_callS (pc := 53) (rest := []) X (c_X3_isRoom l D cy (rmI (mv j)) ) sl_X3_105 dX3_firstBadMove_53 rfl rfl rfl rfl rfl ⟨Nat.zero_le _, Nat.zero_le _⟩ ?_
          refine g_bif_ne (pc := 56) (tgt := 61) X dX3_firstBadMove_56 (by decide) (fun c56 => ?_) (fun c56 => ?_)
          · obtain ⟨rr, hrr, er⟩ := isRm_t c56
            rw [er]
            refine g_aload_n (pc := 61) X dX3_firstBadMove_61 2 rfl ?_
            refine g_get (pc := 62) X (v := .ref (am 0)) fl_X3_16 dX3_firstBadMove_62 0 0 rfl rfl rfl ?_
            refine g_get (pc := 65) X (v := .ref (am 6)) fl_X3_83 dX3_firstBadMove_65 2 0 rfl rfl rfl ?_
            refine g_iload_n (pc := 68) X dX3_firstBadMove_68 1 rfl ?_
            refine g_iload_n (pc := 69) X dX3_firstBadMove_69 0 rfl ?_
            refine g_iast_n (pc := 70) X (ss' := [wX cy ax an am ak aT ag ik mc od mv rf, wH cy an k, wH cy am (sRo k (upd o t (nI rr)))]) 2 6 dX3_firstBadMove_70 t rfl rfl rfl (Nat.lt_of_lt_of_le ht h8) rfl rfl ?_
            refine g_aload_n (pc := 71) X dX3_firstBadMove_71 2 rfl ?_
            refine g_get (pc := 72) X (v := .ref (am 0)) fl_X3_16 dX3_firstBadMove_72 0 0 rfl rfl rfl ?_
            refine g_iload_n (pc := 75) X dX3_firstBadMove_75 3 rfl ?_
            refine g_bipush (v := 7) (pc := 76) X dX3_firstBadMove_76 (by decide) ?_
            refine g_mmin (pc := 78) (v := nI (min j 7)) X ml_X3_195 m_min_s ini_Math m_min_c dX3_firstBadMove_78 rfl rfl ⟨Nat.zero_le _, Nat.zero_le _⟩ (mmin_n j 7 (by omega) (by omega)) ?_
            refine g_callV (pc := 81) (rest := []) (ss' := [wX cy ax an am ak aT ag ik mc od mv rf, wH cy an k, wH cy am (sRo k (upd o t (nI rr)))]) X (c_X1_firstSin l D cy am (sRo k (upd o t (nI rr))) (min j 7) h8 (HRo_upd (k := sRo k o) hro hrr) (by omega)) vl_X3_124 dX3_firstBadMove_81 [2] 2 0 rfl rfl rfl rfl rfl rfl rfl rfl rfl rfl rfl rfl rfl ⟨Nat.zero_le _, Nat.zero_le _⟩ ?_
            refine g_bipush (v := (-9)) (pc := 84) X dX3_firstBadMove_84 (by decide) ?_
            refine g_icmp_eq (pc := 86) (tgt := 91) X dX3_firstBadMove_86 (by decide) (fun c86 => ?_) (fun c86 => ?_)
            · refine g_iinc (v := nI (j + 1)) (lv' := [(1, .int (nI (j + 1))), (3, .int (nI rr)), (2, .int (nI t)), (0, .ref (ax 0))]) (pc := 91) X dX3_firstBadMove_91 3 rfl (nI_1 j) rfl rfl ?_
              refine g_goto (pc := 94) (tgt := 13) X dX3_firstBadMove_94 (by decide) ?_
              refine g_lv X (lv' := [(0, .ref (ax 0)), (1, .int (nI (j + 1)))]) [3, 0] rfl ?_
              exact ih13 (j + 1) (upd o t (nI rr)) c18 (HRo_upd (k := sRo k o) hro hrr) (by rw [hq, jd_step c18 h8 ht hrr et er, if_pos c86]) (by omega)
            · refine g_iload_n (pc := 89) X dX3_firstBadMove_89 3 rfl ?_
              exact g_iretE (pc := 90) X (sRo k (upd o t (nI rr))) rfl dX3_firstBadMove_90 rfl (by rw [hq, jd_step c18 h8 ht hrr et er, if_neg c86]) rfl
          · have cb : jdB k (mv j) = false := by rw [jdB, c56, Bool.and_false]
            refine g_iload_n (pc := 59) X dX3_firstBadMove_59 3 rfl ?_
            exact g_iretE (pc := 60) X (sRo k o) rfl dX3_firstBadMove_60 rfl (by rw [hq, jd_stop c18 cb]) rfl
  refine g_lv X (lv' := [(0, .ref (ax 0)), (1, .int (0))]) [1, 0] rfl ?_
  exact L13_1 (mc - 0 + 1) 0 (kRo k) (Nat.zero_le _) hw.2.2.2.1 rfl (Nat.lt_succ_self _)
set_option maxRecDepth 100000 in
set_option maxHeartbeats 4000000 in
theorem c_X3_judge (l : Launch) (D : va_G) (cy : ClassId) (ax : Nat → Nat) (an : Nat → Nat) (am : Nat → Nat) (ak : Nat → Nat) (aT : Nat → Nat) (ag : Nat → Nat) (ik : Bool) (mc : Nat) (od : Nat → Int32) (mv : Nat → Int32) (rf : Nat → Int32) (k : KV) (km : KV) (hw : KW k) (hm : mc ≤ 12) : CtIE l yX3_judge cX3_judge 2 .int 5 179 D cy [.ref (ax 0)] [wX cy ax an am ak aT ag ik mc od mv rf, wH cy an k, wH cy am km] (fun (u_ : (KV)) => [wX cy ax an am ak aT ag ik 0 od mv rf, wH cy an k, wH cy am u_]) (jdA k mv mc) := by
  refine ctIE_of (by decide +kernel) (Nat.le_of_ble_eq_true rfl) (fun p_ e_ s_ m_ args_ below_ meth_ c_ A_ X => ?_)
  refine g_lv X (lv' := [(0, .ref (ax 0))]) [0] rfl ?_
  refine g_aload_n (pc := 0) X dX3_judge_0 0 rfl ?_
  refine g_callVE (pc := 1) (rest := []) (ss' := fun (u_ : (KV)) => [wX cy ax an am ak aT ag ik mc od mv rf, wH cy an k, wH cy am u_]) X (c_X3_firstBadMove l D cy ax an am ak aT ag ik mc od mv rf k km (by first | assumption | omega) (by first | assumption | omega)) vl_X3_183 dX3_judge_1 [0, 1, 2] 0 0 rfl rfl rfl rfl rfl rfl (fun _ => (ads_c (ads_X _ _ _ _ _ _ _ _ _ _ _ _ _ _ _ _ _) (ads_c (ads_H _ _ _ _ _ _ _ _) (ads_c (ads_H _ _ _ _ _ _ _ _) rfl)))) (fun _ => rfl) rfl rfl rfl rfl rfl ⟨Nat.zero_le _, Nat.zero_le _⟩ ?_
  rintro xm_1_1
  refine g_eq X (ss' := [wX cy ax an am ak aT ag ik mc od mv rf, wH cy an k, wH cy am xm_1_1]) rfl ?_
  refine g_istore_n (lv' := [(1, .int (jdA k mv mc)), (0, .ref (ax 0))]) (pc := 4) X dX3_judge_4 rfl rfl rfl ?_
  refine g_aload_n (pc := 5) X dX3_judge_5 1 rfl ?_
  refine g_iconst (v := 0) (pc := 6) X dX3_judge_6 (by decide) ?_
  refine g_put (pc := 7) X (ss' := [wX cy ax an am ak aT ag ik 0 od mv rf, wH cy an k, wH cy am xm_1_1]) fp_X3_47 dX3_judge_7 0 0 rfl rfl rfl rfl rfl rfl ?_
  refine g_iload_n (pc := 10) X dX3_judge_10 0 rfl ?_
  exact g_iretE (pc := 11) X (xm_1_1) rfl dX3_judge_11 rfl rfl rfl
