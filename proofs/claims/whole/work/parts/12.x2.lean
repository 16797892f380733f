set_option maxRecDepth 100000 in
set_option maxHeartbeats 4000000 in
theorem c_J6_bitCount_0f7a4 (l : Launch) (D : va_G) (cy : ClassId) (x : Int32) : CtI l yJ6_bitCount_0f7a4 cJ6_bitCount_0f7a4 1 .int 0 64 D cy [.int (x)] [] [] (bcI x) := by
  refine ctI_of (by decide +kernel) (Nat.le_of_ble_eq_true rfl) (fun p_ e_ s_ m_ args_ below_ meth_ c_ A_ X => ?_)
  refine g_lv X (lv' := [(0, .int (x))]) [0] rfl ?_
  refine g_iload_n (pc := 0) X dJ6_bitCount_0f7a4_0 0 rfl ?_
  refine g_iload_n (pc := 1) X dJ6_bitCount_0f7a4_1 0 rfl ?_
  refine g_iconst (v := 1) (pc := 2) X dJ6_bitCount_0f7a4_2 (by decide) ?_
  refine g_iushr (v := ushr x 1) (pc := 3) X dJ6_bitCount_0f7a4_3 rfl ?_
  refine g_ldc_w (v := 1431655765) (pc := 4) X dJ6_bitCount_0f7a4_4 kc_J6_265 ?_
  refine g_iand (v := (ushr x 1) &&& 1431655765) (pc := 7) X dJ6_bitCount_0f7a4_7 rfl ?_
  refine g_isub (v := bc1 x) (pc := 8) X dJ6_bitCount_0f7a4_8 rfl ?_
  refine g_istore_n (lv' := [(0, .int (bc1 x))]) (pc := 9) X dJ6_bitCount_0f7a4_9 rfl rfl rfl ?_
  refine g_iload_n (pc := 10) X dJ6_bitCount_0f7a4_10 0 rfl ?_
  refine g_ldc_w (v := 858993459) (pc := 11) X dJ6_bitCount_0f7a4_11 kc_J6_266 ?_
  refine g_iand (v := (bc1 x) &&& 858993459) (pc := 14) X dJ6_bitCount_0f7a4_14 rfl ?_
  refine g_iload_n (pc := 15) X dJ6_bitCount_0f7a4_15 0 rfl ?_
  refine g_iconst (v := 2) (pc := 16) X dJ6_bitCount_0f7a4_16 (by decide) ?_
  refine g_iushr (v := ushr (bc1 x) 2) (pc := 17) X dJ6_bitCount_0f7a4_17 rfl ?_
  refine g_ldc_w (v := 858993459) (pc := 18) X dJ6_bitCount_0f7a4_18 kc_J6_266 ?_
  refine g_iand (v := (ushr (bc1 x) 2) &&& 858993459) (pc := 21) X dJ6_bitCount_0f7a4_21 rfl ?_
  refine g_iadd (v := bc2 (bc1 x)) (pc := 22) X dJ6_bitCount_0f7a4_22 rfl ?_
  refine g_istore_n (lv' := [(0, .int (bc2 (bc1 x)))]) (pc := 23) X dJ6_bitCount_0f7a4_23 rfl rfl rfl ?_
  refine g_iload_n (pc := 24) X dJ6_bitCount_0f7a4_24 0 rfl ?_
  refine g_iload_n (pc := 25) X dJ6_bitCount_0f7a4_25 0 rfl ?_
  refine g_iconst (v := 4) (pc := 26) X dJ6_bitCount_0f7a4_26 (by decide) ?_
  refine g_iushr (v := ushr (bc2 (bc1 x)) 4) (pc := 27) X dJ6_bitCount_0f7a4_27 rfl ?_
  refine g_iadd (v := (bc2 (bc1 x)) + (ushr (bc2 (bc1 x)) 4)) (pc := 28) X dJ6_bitCount_0f7a4_28 rfl ?_
  refine g_ldc_w (v := 252645135) (pc := 29) X dJ6_bitCount_0f7a4_29 kc_J6_267 ?_
  refine g_iand (v := bc3 (bc2 (bc1 x))) (pc := 32) X dJ6_bitCount_0f7a4_32 rfl ?_
  refine g_istore_n (lv' := [(0, .int (bc3 (bc2 (bc1 x))))]) (pc := 33) X dJ6_bitCount_0f7a4_33 rfl rfl rfl ?_
  refine g_iload_n (pc := 34) X dJ6_bitCount_0f7a4_34 0 rfl ?_
  refine g_iload_n (pc := 35) X dJ6_bitCount_0f7a4_35 0 rfl ?_
  refine g_bipush (v := 8) (pc := 36) X dJ6_bitCount_0f7a4_36 (by decide) ?_
  refine g_iushr (v := ushr (bc3 (bc2 (bc1 x))) 8) (pc := 38) X dJ6_bitCount_0f7a4_38 rfl ?_
  refine g_iadd (v := bc4 (bc3 (bc2 (bc1 x)))) (pc := 39) X dJ6_bitCount_0f7a4_39 rfl ?_
  refine g_istore_n (lv' := [(0, .int (bc4 (bc3 (bc2 (bc1 x)))))]) (pc := 40) X dJ6_bitCount_0f7a4_40 rfl rfl rfl ?_
  refine g_iload_n (pc := 41) X dJ6_bitCount_0f7a4_41 0 rfl ?_
  refine g_iload_n (pc := 42) X dJ6_bitCount_0f7a4_42 0 rfl ?_
  refine g_bipush (v := 16) (pc := 43) X dJ6_bitCount_0f7a4_43 (by decide) ?_
  refine g_iushr (v := ushr (bc4 (bc3 (bc2 (bc1 x)))) 16) (pc := 45) X dJ6_bitCount_0f7a4_45 rfl ?_
  refine g_iadd (v := bc5 (bc4 (bc3 (bc2 (bc1 x))))) (pc := 46) X dJ6_bitCount_0f7a4_46 rfl ?_
  refine g_istore_n (lv' := [(0, .int (bc5 (bc4 (bc3 (bc2 (bc1 x))))))]) (pc := 47) X dJ6_bitCount_0f7a4_47 rfl rfl rfl ?_
  refine g_iload_n (pc := 48) X dJ6_bitCount_0f7a4_48 0 rfl ?_
  refine g_bipush (v := 63) (pc := 49) X dJ6_bitCount_0f7a4_49 (by decide) ?_
  refine g_iand (v := bcI x) (pc := 51) X dJ6_bitCount_0f7a4_51 rfl ?_
  exact g_iret (pc := 52) X rfl dJ6_bitCount_0f7a4_52 rfl rfl rfl
set_option maxRecDepth 100000 in
set_option maxHeartbeats 4000000 in
theorem c_X3_seen (l : Launch) (D : va_G) (cy : ClassId) (ax : Nat → Nat) (an : Nat → Nat) (am : Nat → Nat) (ak : Nat → Nat) (aT : Nat → Nat) (ag : Nat → Nat) (ik : Bool) (mc : Nat) (od : Nat → Int32) (mv : Nat → Int32) (rf : Nat → Int32) (k : KV) (room : Int32) (h : Int32) (hw : KW k) : CtI l yX3_seen cX3_seen 6 .int 1 88 D cy [.ref (ax 0), .int (room), .int (h)] [wX cy ax an am ak aT ag ik mc od mv rf, wH cy an k] [wX cy ax an am ak aT ag ik mc od mv (rfB (snB room h) rf (snA k room h)), wH cy an k] (snA k room h) := by
  refine ctI_of (by decide +kernel) (Nat.le_of_ble_eq_true rfl) (fun p_ e_ s_ m_ args_ below_ meth_ c_ A_ X => ?_)
  refine g_lv X (lv' := [(0, .ref (ax 0)), (1, .int (room)), (2, .int (h))]) [0, 1, 2] rfl ?_
  refine g_iload_n (pc := 0) X dX3_seen_0 1 rfl ?_
  refine g_callS (pc := 1) (rest := []) X (c_X3_isRoom l D cy room ) sl_X3_105 dX3_seen_1 rfl rfl rfl rfl rfl ⟨Nat.zero_le _, Nat.zero_le _⟩ ?_
  refine g_bif_ne (pc := 4) (tgt := 13) X dX3_seen_4 (by decide) (fun c4 => ?_) (fun c4 => ?_)
  · refine g_iload_n (pc := 13) X dX3_seen_13 2 rfl ?_
    refine g_iconst (v := 0) (pc := 14) X dX3_seen_14 (by decide) ?_
    refine g_bipush (v := 7) (pc := 15) X dX3_seen_15 (by decide) ?_
    refine g_callS (pc := 17) (rest := []) X (c_X3_outOf l D cy h 0 7 ) sl_X3_54 dX3_seen_17 rfl rfl rfl rfl rfl ⟨Nat.zero_le _, Nat.zero_le _⟩ ?_
    refine g_istore_n (lv' := [(3, .int (ooI h 0 7)), (0, .ref (ax 0)), (1, .int (room)), (2, .int (h))]) (pc := 20) X dX3_seen_20 rfl rfl rfl ?_
    refine g_iload_n (pc := 21) X dX3_seen_21 0 rfl ?_
    refine g_if_eq (pc := 22) (tgt := 31) X dX3_seen_22 (by decide) (fun c22 => ?_) (fun c22 => ?_)
    · have r22 := c22
      obtain ⟨i, hi, rfl⟩ := in_lt (n := 8) (by omega) (oo_0 c22).1 (Int32.lt_of_le_of_lt (oo_0 c22).2 (by decide))
      have ixi : ix (nI i) = i := ixn (by omega)
      refine g_iconst (v := 0) (pc := 31) X dX3_seen_31 (by decide) ?_
      refine g_istore (lv' := [(4, .int (0)), (3, .int (ooI (nI i) 0 7)), (0, .ref (ax 0)), (1, .int (room)), (2, .int (nI i))]) (pc := 32) X dX3_seen_32 rfl rfl ?_
      refine g_iconst (v := 0) (pc := 34) X dX3_seen_34 (by decide) ?_
      refine g_istore (lv' := [(5, .int (0)), (4, .int (0)), (3, .int (ooI (nI i) 0 7)), (0, .ref (ax 0)), (1, .int (room)), (2, .int (nI i))]) (pc := 35) X dX3_seen_35 rfl rfl ?_
      have L37_1 : ∀ (fu_ : Nat) (j : Nat) (hj : j ≤ kNt k) (hm : kNt k - j < fu_), G p_ l e_ { frames := 1, cells := 0, slots := 0, locals := 88 } s_ m_ args_ below_ meth_ c_ 6 D A_ 0 0 (QI below_ args_ s_ D A_ [wX cy ax an am ak aT ag ik mc od mv (rfB (snB room (nI i)) rf (snA k room (nI i))), wH cy an k] (snA k room (nI i))) [wX cy ax an am ak aT ag ik mc od mv rf, wH cy an k] 37 [(0, .ref (ax 0)), (1, .int (room)), (2, .int (nI i)), (4, .int (snN k room i j)), (5, .int (nI j))] [] := by
        intro fu_
        induction fu_ with
        | zero => intro j hj hm; exact absurd hm (Nat.not_lt_zero _)
        | succ fu_ ih =>
          intro j hj hm
          have ih37 := ih
          clear ih
          refine g_iload (pc := 37) X dX3_seen_37 4 rfl ?_
          refine g_aload_n (pc := 39) X dX3_seen_39 0 rfl ?_
          refine g_get (pc := 40) X (v := .ref (an 0)) fl_X3_10 dX3_seen_40 0 0 rfl rfl rfl ?_
          refine g_get (pc := 43) X (v := .int (nI (kNt k))) fl_X3_115 dX3_seen_43 1 0 rfl rfl rfl ?_
          refine g_ncmp_ge (pc := 46) (tgt := 77) X dX3_seen_46 (by decide) j (kNt k) rfl rfl (by have := hw.2.2.2.2.2.1; omega) (by have := hw.2.2.2.2.2.1; omega) (fun c46 => ?_) (fun c46 => ?_)
          · have n46 := Nat.not_lt.mpr c46
            refine g_iload (pc := 77) X dX3_seen_77 3 rfl ?_
            have ej : j = kNt k := by omega
            exact g_iret (pc := 79) X rfl dX3_seen_79 rfl (by simp [snA, *]) (by simp [snA, snB, rfB, *])
          · refine g_iload (pc := 49) X dX3_seen_49 3 rfl ?_
            refine g_aload_n (pc := 51) X dX3_seen_51 0 rfl ?_
            refine g_get (pc := 52) X (v := .ref (an 0)) fl_X3_10 dX3_seen_52 0 0 rfl rfl rfl ?_
            refine g_iload (pc := 55) X dX3_seen_55 4 rfl ?_
            refine g_iload_n (pc := 57) X dX3_seen_57 2 rfl ?_
            refine g_callV (pc := 58) (rest := [.int (snN k room i j)]) (ss' := [wX cy ax an am ak aT ag ik mc od mv rf, wH cy an k]) X (c_X1_seenFrom l D cy an k j i (by first | assumption | omega) hw.2.2.2.2.2.1 hw.2.2.2.1 hi) vl_X3_118 dX3_seen_58 [1] 1 0 rfl rfl rfl rfl rfl rfl rfl rfl rfl rfl rfl rfl rfl ⟨Nat.zero_le _, Nat.zero_le _⟩ ?_
            refine g_iload_n (pc := 61) X dX3_seen_61 1 rfl ?_
            refine g_ishr (v := shr (sfK k j i) room) (pc := 62) X dX3_seen_62 rfl ?_
            refine g_iconst (v := 1) (pc := 63) X dX3_seen_63 (by decide) ?_
            refine g_iand (v := (shr (sfK k j i) room) &&& 1) (pc := 64) X dX3_seen_64 rfl ?_
            refine g_iload (pc := 65) X dX3_seen_65 4 rfl ?_
            refine g_ishl (v := shl ((shr (sfK k j i) room) &&& 1) (nI j)) (pc := 67) X dX3_seen_67 rfl ?_
            refine g_ior (v := snN k room i (j + 1)) (pc := 68) X dX3_seen_68 rfl ?_
            refine g_istore (lv' := [(4, .int (snN k room i (j + 1))), (0, .ref (ax 0)), (1, .int (room)), (2, .int (nI i)), (5, .int (nI j))]) (pc := 69) X dX3_seen_69 rfl rfl ?_
            refine g_iinc (v := nI (j + 1)) (lv' := [(5, .int (nI (j + 1))), (4, .int (snN k room i (j + 1))), (0, .ref (ax 0)), (1, .int (room)), (2, .int (nI i))]) (pc := 71) X dX3_seen_71 4 rfl (nI_1 j) rfl rfl ?_
            refine g_goto (pc := 74) (tgt := 37) X dX3_seen_74 (by decide) ?_
            refine g_lv X (lv' := [(0, .ref (ax 0)), (1, .int (room)), (2, .int (nI i)), (4, .int (snN k room i (j + 1))), (5, .int (nI (j + 1)))]) [2, 3, 4, 1, 0] rfl ?_
            exact ih37 (j + 1) c46 (by omega)
      refine g_lv X (lv' := [(0, .ref (ax 0)), (1, .int (room)), (2, .int (nI i)), (4, .int (0)), (5, .int (0))]) [3, 4, 5, 1, 0] rfl ?_
      exact L37_1 (kNt k - 0 + 1) 0 (Nat.zero_le _) (Nat.lt_succ_self _)
    · refine g_aload_n (pc := 25) X dX3_seen_25 1 rfl ?_
      refine g_iload_n (pc := 26) X dX3_seen_26 0 rfl ?_
      refine g_callV (pc := 27) (rest := []) (ss' := [wX cy ax an am ak aT ag ik mc od mv (rfU rf (ooI h 0 7)), wH cy an k]) X (c_X3_refuse l D cy ax an am ak aT ag ik mc od mv rf (ooI h 0 7) oo_in) vl_X3_58 dX3_seen_27 [0] 0 0 rfl rfl rfl rfl rfl rfl (ads_c (ads_X _ _ _ _ _ _ _ _ _ _ _ _ _ _ _ _ _) rfl) rfl rfl rfl rfl rfl rfl ⟨Nat.zero_le _, Nat.zero_le _⟩ ?_
      exact g_iret (pc := 30) X rfl dX3_seen_30 rfl (by simp [snA, *]) (by simp [snA, snB, rfB, *])
  · refine g_aload_n (pc := 7) X dX3_seen_7 0 rfl ?_
    refine g_iconst (v := (-1)) (pc := 8) X dX3_seen_8 (by decide) ?_
    refine g_callV (pc := 9) (rest := []) (ss' := [wX cy ax an am ak aT ag ik mc od mv (rfU rf ((-1))), wH cy an k]) X (c_X3_refuse l D cy ax an am ak aT ag ik mc od mv rf ((-1)) rf_1) vl_X3_58 dX3_seen_9 [0] 0 0 rfl rfl rfl rfl rfl rfl (ads_c (ads_X _ _ _ _ _ _ _ _ _ _ _ _ _ _ _ _ _) rfl) rfl rfl rfl rfl rfl rfl ⟨Nat.zero_le _, Nat.zero_le _⟩ ?_
    exact g_iret (pc := 12) X rfl dX3_seen_12 rfl (by simp [snA, *]) (by simp [snA, snB, rfB, *])
set_option maxRecDepth 100000 in
set_option maxHeartbeats 4000000 in
theorem c_X3_count (l : Launch) (D : va_G) (cy : ClassId) (ax : Nat → Nat) (an : Nat → Nat) (am : Nat → Nat) (ak : Nat → Nat) (aT : Nat → Nat) (ag : Nat → Nat) (ik : Bool) (mc : Nat) (od : Nat → Int32) (mv : Nat → Int32) (rf : Nat → Int32) (k : KV) (lt : Nat → Int32) (n : Nat) (w : Int32) (hw : KW k) : CtI l yX3_count cX3_count 2 .int 1 86 D cy [.ref (ax 0), .int (w)] [wX cy ax an am ak aT ag ik mc od mv rf, wH cy an k, wT cy aT lt n] [wX cy ax an am ak aT ag ik mc od mv rf, wH cy an k, wT cy aT lt n] (cnA k n mc rf w) := by
  refine ctI_of (by decide +kernel) (Nat.le_of_ble_eq_true rfl) (fun p_ e_ s_ m_ args_ below_ meth_ c_ A_ X => ?_)
  refine g_lv X (lv' := [(0, .ref (ax 0)), (1, .int (w))]) [0, 1] rfl ?_
  refine g_iload_n (pc := 0) X dX3_count_0 1 rfl ?_
  by_cases e1_0 : w = (0 : Int32)
  · refine g_top X e1_0 ?_
    refine g_tableIn (pc := 1) (off := 47) (tgt := 48) X dX3_count_1 (by decide) (by decide) (by decide) (by decide) ?_
    refine g_aload_n (pc := 48) X dX3_count_48 0 rfl ?_
    refine g_get (pc := 49) X (v := .ref (an 0)) fl_X3_10 dX3_count_49 0 0 rfl rfl rfl ?_
    refine g_get (pc := 52) X (v := .int (nI (kNt k))) fl_X3_115 dX3_count_52 1 0 rfl rfl rfl ?_
    exact g_iret (pc := 55) X rfl dX3_count_55 rfl (by simp [cnA, *]) rfl
  by_cases e1_1 : w = (1 : Int32)
  · refine g_top X e1_1 ?_
    refine g_tableIn (pc := 1) (off := 55) (tgt := 56) X dX3_count_1 (by decide) (by decide) (by decide) (by decide) ?_
    refine g_aload_n (pc := 56) X dX3_count_56 0 rfl ?_
    refine g_get (pc := 57) X (v := .ref (an 0)) fl_X3_10 dX3_count_57 0 0 rfl rfl rfl ?_
    refine g_get (pc := 60) X (v := .int (nI (kNl k))) fl_X3_131 dX3_count_60 1 0 rfl rfl rfl ?_
    exact g_iret (pc := 63) X rfl dX3_count_63 rfl (by simp [cnA, *]) rfl
  by_cases e1_2 : w = (2 : Int32)
  · refine g_top X e1_2 ?_
    refine g_tableIn (pc := 1) (off := 63) (tgt := 64) X dX3_count_1 (by decide) (by decide) (by decide) (by decide) ?_
    refine g_aload_n (pc := 64) X dX3_count_64 0 rfl ?_
    refine g_get (pc := 65) X (v := .ref (an 0)) fl_X3_10 dX3_count_65 0 0 rfl rfl rfl ?_
    refine g_get (pc := 68) X (v := .int (nI (kHr k))) fl_X3_112 dX3_count_68 1 0 rfl rfl rfl ?_
    exact g_iret (pc := 71) X rfl dX3_count_71 rfl (by simp [cnA, *]) rfl
  by_cases e1_3 : w = (3 : Int32)
  · refine g_top X e1_3 ?_
    refine g_tableIn (pc := 1) (off := 71) (tgt := 72) X dX3_count_1 (by decide) (by decide) (by decide) (by decide) ?_
    refine g_aload_n (pc := 72) X dX3_count_72 0 rfl ?_
    refine g_get (pc := 73) X (v := .ref (an 0)) fl_X3_10 dX3_count_73 0 0 rfl rfl rfl ?_
    refine g_get (pc := 76) X (v := .int (kHd k)) fl_X3_98 dX3_count_76 1 0 rfl rfl rfl ?_
    refine g_callS (pc := 79) (rest := []) X (c_J6_bitCount_0f7a4 l D cy (kHd k) ) sl_X3_134 dX3_count_79 rfl rfl rfl rfl rfl ⟨Nat.zero_le _, Nat.zero_le _⟩ ?_
    exact g_iret (pc := 82) X rfl dX3_count_82 rfl (by simp [cnA, *]) rfl
  by_cases e1_4 : w = (4 : Int32)
  · refine g_top X e1_4 ?_
    refine g_tableIn (pc := 1) (off := 82) (tgt := 83) X dX3_count_1 (by decide) (by decide) (by decide) (by decide) ?_
    refine g_aload_n (pc := 83) X dX3_count_83 0 rfl ?_
    refine g_get (pc := 84) X (v := .ref (an 0)) fl_X3_10 dX3_count_84 0 0 rfl rfl rfl ?_
    refine g_callV (pc := 87) (rest := []) (ss' := [wX cy ax an am ak aT ag ik mc od mv rf, wH cy an k, wT cy aT lt n]) X (c_X1_coupledCount l D cy an k hw.2.2.2.2.2.1) vl_X3_192 dX3_count_87 [1] 1 0 rfl rfl rfl rfl rfl rfl rfl rfl rfl rfl rfl rfl rfl ⟨Nat.zero_le _, Nat.zero_le _⟩ ?_
    exact g_iret (pc := 90) X rfl dX3_count_90 rfl (by simp [cnA, *]) rfl
  by_cases e1_5 : w = (5 : Int32)
  · refine g_top X e1_5 ?_
    refine g_tableIn (pc := 1) (off := 90) (tgt := 91) X dX3_count_1 (by decide) (by decide) (by decide) (by decide) ?_
    refine g_aload_n (pc := 91) X dX3_count_91 0 rfl ?_
    refine g_get (pc := 92) X (v := .ref (an 0)) fl_X3_10 dX3_count_92 0 0 rfl rfl rfl ?_
    refine g_get (pc := 95) X (v := .int (nI (kNs k))) fl_X3_168 dX3_count_95 1 0 rfl rfl rfl ?_
    exact g_iret (pc := 98) X rfl dX3_count_98 rfl (by simp [cnA, *]) rfl
  by_cases e1_6 : w = (6 : Int32)
  · refine g_top X e1_6 ?_
    refine g_tableIn (pc := 1) (off := 98) (tgt := 99) X dX3_count_1 (by decide) (by decide) (by decide) (by decide) ?_
    refine g_aload_n (pc := 99) X dX3_count_99 0 rfl ?_
    refine g_get (pc := 100) X (v := .int (nI mc)) fl_X3_47 dX3_count_100 0 0 rfl rfl rfl ?_
    exact g_iret (pc := 103) X rfl dX3_count_103 rfl (by simp [cnA, *]) rfl
  by_cases e1_7 : w = (7 : Int32)
  · refine g_top X e1_7 ?_
    refine g_tableIn (pc := 1) (off := 103) (tgt := 104) X dX3_count_1 (by decide) (by decide) (by decide) (by decide) ?_
    refine g_aload_n (pc := 104) X dX3_count_104 0 rfl ?_
    refine g_get (pc := 105) X (v := .ref (aT 0)) fl_X3_29 dX3_count_105 0 0 rfl rfl rfl ?_
    refine g_get (pc := 108) X (v := .int (nI n)) fl_X3_62 dX3_count_108 2 0 rfl rfl rfl ?_
    exact g_iret (pc := 111) X rfl dX3_count_111 rfl (by simp [cnA, *]) rfl
  have f1_0 := lv_neT (a := 0) e1_0 (by decide)
  have f1_1 := lv_neT (a := 1) e1_1 (by decide)
  have f1_2 := lv_neT (a := 2) e1_2 (by decide)
  have f1_3 := lv_neT (a := 3) e1_3 (by decide)
  have f1_4 := lv_neT (a := 4) e1_4 (by decide)
  have f1_5 := lv_neT (a := 5) e1_5 (by decide)
  have f1_6 := lv_neT (a := 6) e1_6 (by decide)
  have f1_7 := lv_neT (a := 7) e1_7 (by decide)
  refine g_tableOut (pc := 1) (tgt := 112) X dX3_count_1 (by omega) (by decide) ?_
  refine g_iload_n (pc := 112) X dX3_count_112 1 rfl ?_
  refine g_bipush (v := 11) (pc := 113) X dX3_count_113 (by decide) ?_
  refine g_icmp_lt (pc := 115) (tgt := 136) X dX3_count_115 (by decide) (fun c115 => ?_) (fun c115 => ?_)
  · refine g_bipush (v := (-9)) (pc := 136) X dX3_count_136 (by decide) ?_
    exact g_iret (pc := 138) X rfl dX3_count_138 rfl (by simp [cnA, *]) rfl
  · have n115 := Int32.not_lt.mpr c115
    refine g_iload_n (pc := 118) X dX3_count_118 1 rfl ?_
    refine g_bipush (v := 16) (pc := 119) X dX3_count_119 (by decide) ?_
    refine g_icmp_gt (pc := 121) (tgt := 136) X dX3_count_121 (by decide) (fun c121 => ?_) (fun c121 => ?_)
    · refine g_bipush (v := (-9)) (pc := 136) X dX3_count_136 (by decide) ?_
      exact g_iret (pc := 138) X rfl dX3_count_138 rfl (by simp [cnA, *]) rfl
    · have n121 := Int32.not_lt.mpr c121
      refine g_aload_n (pc := 124) X dX3_count_124 0 rfl ?_
      refine g_get (pc := 125) X (v := .ref (ax 3)) fl_X3_51 dX3_count_125 0 0 rfl rfl rfl ?_
      refine g_iload_n (pc := 128) X dX3_count_128 1 rfl ?_
      refine g_bipush (v := 10) (pc := 129) X dX3_count_129 (by decide) ?_
      refine g_isub (v := w - 10) (pc := 131) X dX3_count_131 rfl ?_
      refine g_iald (pc := 132) (f := rf) X 0 3 dX3_count_132 rfl rfl (cn_in c115 c121) ?_
      refine g_goto (pc := 133) (tgt := 138) X dX3_count_133 (by decide) ?_
      exact g_iret (pc := 138) X rfl dX3_count_138 rfl (by simp [cnA, *]) rfl
set_option maxRecDepth 100000 in
set_option maxHeartbeats 4000000 in
theorem c_X3_curtains (l : Launch) (D : va_G) (cy : ClassId) (ax : Nat → Nat) (an : Nat → Nat) (am : Nat → Nat) (ak : Nat → Nat) (aT : Nat → Nat) (ag : Nat → Nat) (ik : Bool) (mc : Nat) (od : Nat → Int32) (mv : Nat → Int32) (rf : Nat → Int32) (k : KV) (km : KV) (hw : KW k) : CtIE l yX3_curtains cX3_curtains 5 .int 4 156 D cy [.ref (ax 0)] [wX cy ax an am ak aT ag ik mc od mv rf, wH cy an k, wH cy am km] (fun (u_ : (KV)) => [wX cy ax an am ak aT ag ik mc od mv rf, wH cy an k, wH cy am u_]) (cuA k) := by
  obtain ⟨M, hM⟩ : ∃ M, M = 2 ^ kNl k := ⟨_, rfl⟩
  have hM10 : M ≤ 1024 := hM ▸ pw_le hw.1.1
  refine ctIE_of (by decide +kernel) (Nat.le_of_ble_eq_true rfl) (fun p_ e_ s_ m_ args_ below_ meth_ c_ A_ X => ?_)
  refine g_lv X (lv' := [(0, .ref (ax 0))]) [0] rfl ?_
  refine g_aload_n (pc := 0) X dX3_curtains_0 0 rfl ?_
  refine g_get (pc := 1) X (v := .ref (am 0)) fl_X3_16 dX3_curtains_1 0 0 rfl rfl rfl ?_
  refine g_aload_n (pc := 4) X dX3_curtains_4 0 rfl ?_
  refine g_get (pc := 5) X (v := .ref (an 0)) fl_X3_10 dX3_curtains_5 0 0 rfl rfl rfl ?_
  refine g_callVv (pc := 8) (rest := []) (ss' := [wX cy ax an am ak aT ag ik mc od mv rf, wH cy an k, wH cy am k]) X (c_X1_become l D cy am an km k ) vl_X3_68 dX3_curtains_8 [2, 1] 2 0 rfl rfl rfl rfl rfl rfl (ads_c (ads_H _ _ _ _ _ _ _ _) (ads_c (ads_H _ _ _ _ _ _ _ _) rfl)) rfl rfl rfl rfl rfl rfl ⟨Nat.zero_le _, Nat.zero_le _⟩ ?_
  refine g_bipush (v := (-9)) (pc := 11) X dX3_curtains_11 (by decide) ?_
  refine g_istore_n (lv' := [(1, .int ((-9))), (0, .ref (ax 0))]) (pc := 13) X dX3_curtains_13 rfl rfl rfl ?_
  refine g_bipush (v := 11) (pc := 14) X dX3_curtains_14 (by decide) ?_
  refine g_istore_n (lv' := [(2, .int (11)), (1, .int ((-9))), (0, .ref (ax 0))]) (pc := 16) X dX3_curtains_16 rfl rfl rfl ?_
  refine g_iconst (v := 0) (pc := 17) X dX3_curtains_17 (by decide) ?_
  refine g_istore_n (lv' := [(3, .int (0)), (2, .int (11)), (1, .int ((-9))), (0, .ref (ax 0))]) (pc := 18) X dX3_curtains_18 rfl rfl rfl ?_
  have L19_1 : ∀ (fu_ : Nat) (b : Nat) (y : Int32) (hb : b ≤ M) (hm : M - b < fu_), G p_ l e_ { frames := 4, cells := 0, slots := 0, locals := 156 } s_ m_ args_ below_ meth_ c_ 5 D A_ 0 0 (QIE below_ args_ s_ D A_ (fun (u_ : (KV)) => [wX cy ax an am ak aT ag ik mc od mv rf, wH cy an k, wH cy am u_]) (cuA k)) [wX cy ax an am ak aT ag ik mc od mv rf, wH cy an k, wH cy am (sHd k y)] 19 [(0, .ref (ax 0)), (1, .int (cuN k b)), (2, .int (cuF (cuN k b))), (3, .int (nI b))] [] := by
    intro fu_
    induction fu_ with
    | zero => intro b y hb hm; exact absurd hm (Nat.not_lt_zero _)
    | succ fu_ ih =>
      intro b y hb hm
      have ih19 := ih
      clear ih
      refine g_iload_n (pc := 19) X dX3_curtains_19 3 rfl ?_
      refine g_iconst (v := 1) (pc := 20) X dX3_curtains_20 (by decide) ?_
      refine g_aload_n (pc := 21) X dX3_curtains_21 0 rfl ?_
      refine g_get (pc := 22) X (v := .ref (an 0)) fl_X3_10 dX3_curtains_22 0 0 rfl rfl rfl ?_
      refine g_get (pc := 25) X (v := .int (nI (kNl k))) fl_X3_131 dX3_curtains_25 1 0 rfl rfl rfl ?_
      refine g_ishl (v := nI M) (pc := 28) X dX3_curtains_28 (by rw [hM]; exact shl1_n _ hw.1.1) ?_
      refine g_ncmp_ge (pc := 29) (tgt := 82) X dX3_curtains_29 (by decide) b M rfl rfl (by omega) (by omega) (fun c29 => ?_) (fun c29 => ?_)
      · have n29 := Nat.not_lt.mpr c29
        refine g_iload_n (pc := 82) X dX3_curtains_82 1 rfl ?_
        exact g_iretE (pc := 83) X (sHd k y) rfl dX3_curtains_83 rfl (by rw [cuA, ← hM, show b = M by omega]) rfl
      · refine g_iload_n (pc := 32) X dX3_curtains_32 3 rfl ?_
        refine g_callS (pc := 33) (rest := []) X (c_J6_bitCount_0f7a4 l D cy (nI b) ) sl_X3_134 dX3_curtains_33 rfl rfl rfl rfl rfl ⟨Nat.zero_le _, Nat.zero_le _⟩ ?_
        refine g_istore (lv' := [(4, .int (bcI (nI b))), (0, .ref (ax 0)), (1, .int (cuN k b)), (2, .int (cuF (cuN k b))), (3, .int (nI b))]) (pc := 36) X dX3_curtains_36 rfl rfl ?_
        refine g_iload (pc := 38) X dX3_curtains_38 0 rfl ?_
        refine g_iload_n (pc := 40) X dX3_curtains_40 3 rfl ?_
        refine g_icmp_ge (pc := 41) (tgt := 76) X dX3_curtains_41 (by decide) (fun c41 => ?_) (fun c41 => ?_)
        · have n41 := Int32.not_lt.mpr c41
          have hc := cu_skip (k := k) (b := b) (by omega) n41
          rw [hc]
          refine g_iinc (v := nI (b + 1)) (lv' := [(3, .int (nI (b + 1))), (4, .int (bcI (nI b))), (0, .ref (ax 0)), (1, .int (cuN k (b + 1))), (2, .int (cuF (cuN k (b + 1))))]) (pc := 76) X dX3_curtains_76 4 rfl (nI_1 b) rfl rfl ?_
          refine g_goto (pc := 79) (tgt := 19) X dX3_curtains_79 (by decide) ?_
          refine g_lv X (lv' := [(0, .ref (ax 0)), (1, .int (cuN k (b + 1))), (2, .int (cuF (cuN k (b + 1)))), (3, .int (nI (b + 1)))]) [2, 3, 4, 0] rfl ?_
          exact ih19 (b + 1) y c29 (by omega)
        · refine g_aload_n (pc := 44) X dX3_curtains_44 1 rfl ?_
          refine g_get (pc := 45) X (v := .ref (am 0)) fl_X3_16 dX3_curtains_45 0 0 rfl rfl rfl ?_
          refine g_iload_n (pc := 48) X dX3_curtains_48 4 rfl ?_
          refine g_callVv (pc := 49) (rest := []) (ss' := [wX cy ax an am ak aT ag ik mc od mv rf, wH cy an k, wH cy am (sHd k ((nI b)))]) X (c_X1_hang l D cy am (sHd k y) (nI b) hw.1 hw.2.1) vl_X3_101 dX3_curtains_49 [2] 2 0 rfl rfl rfl rfl rfl rfl (ads_c (ads_H _ _ _ _ _ _ _ _) rfl) rfl rfl rfl rfl rfl rfl ⟨Nat.zero_le _, Nat.zero_le _⟩ ?_
          refine g_aload_n (pc := 52) X dX3_curtains_52 1 rfl ?_
          refine g_get (pc := 53) X (v := .ref (am 0)) fl_X3_16 dX3_curtains_53 0 0 rfl rfl rfl ?_
          refine g_aload_n (pc := 56) X dX3_curtains_56 1 rfl ?_
          refine g_get (pc := 57) X (v := .ref (an 0)) fl_X3_10 dX3_curtains_57 0 0 rfl rfl rfl ?_
          refine g_get (pc := 60) X (v := .int (nI (kHr k))) fl_X3_112 dX3_curtains_60 1 0 rfl rfl rfl ?_
          refine g_callV (pc := 63) (rest := []) (ss' := [wX cy ax an am ak aT ag ik mc od mv rf, wH cy an k, wH cy am (sHd k ((nI b)))]) X (c_X1_firstSin l D cy am (sHd k ((nI b))) (kHr k) hw.2.2.2.2.2.1 hw.2.2.2.1 hw.2.2.2.2.2.2.1) vl_X3_124 dX3_curtains_63 [2] 2 0 rfl rfl rfl rfl rfl rfl rfl rfl rfl rfl rfl rfl rfl ⟨Nat.zero_le _, Nat.zero_le _⟩ ?_
          refine g_bipush (v := (-9)) (pc := 66) X dX3_curtains_66 (by decide) ?_
          refine g_icmp_ne (pc := 68) (tgt := 76) X dX3_curtains_68 (by decide) (fun c68 => ?_) (fun c68 => ?_)
          · have hc := cu_sin c68
            rw [hc]
            refine g_iinc (v := nI (b + 1)) (lv' := [(3, .int (nI (b + 1))), (4, .int (bcI (nI b))), (0, .ref (ax 0)), (1, .int (cuN k (b + 1))), (2, .int (cuF (cuN k (b + 1))))]) (pc := 76) X dX3_curtains_76 4 rfl (nI_1 b) rfl rfl ?_
            refine g_goto (pc := 79) (tgt := 19) X dX3_curtains_79 (by decide) ?_
            refine g_lv X (lv' := [(0, .ref (ax 0)), (1, .int (cuN k (b + 1))), (2, .int (cuF (cuN k (b + 1)))), (3, .int (nI (b + 1)))]) [2, 3, 4, 0] rfl ?_
            exact ih19 (b + 1) ((nI b)) c29 (by omega)
          · have hc := cu_take (by omega) c41 c68
            refine g_iload_n (pc := 71) X dX3_curtains_71 4 rfl ?_
            refine g_istore_n (lv' := [(1, .int (nI b)), (4, .int (bcI (nI b))), (0, .ref (ax 0)), (2, .int (cuF (cuN k b))), (3, .int (nI b))]) (pc := 72) X dX3_curtains_72 rfl rfl rfl ?_
            refine g_iload (pc := 73) X dX3_curtains_73 1 rfl ?_
            refine g_istore_n (lv' := [(2, .int (bcI (nI b))), (1, .int (nI b)), (4, .int (bcI (nI b))), (0, .ref (ax 0)), (3, .int (nI b))]) (pc := 75) X dX3_curtains_75 rfl rfl rfl ?_
            refine g_lvv X (lv' := [(2, .int (cuF (cuN k (b + 1)))), (1, .int (cuN k (b + 1))), (4, .int (bcI (nI b))), (0, .ref (ax 0)), (3, .int (nI b))]) (by rw [← hc.2, ← hc.1]) ?_
            refine g_iinc (v := nI (b + 1)) (lv' := [(3, .int (nI (b + 1))), (2, .int (cuF (cuN k (b + 1)))), (1, .int (cuN k (b + 1))), (4, .int (bcI (nI b))), (0, .ref (ax 0))]) (pc := 76) X dX3_curtains_76 4 rfl (nI_1 b) rfl rfl ?_
            refine g_goto (pc := 79) (tgt := 19) X dX3_curtains_79 (by decide) ?_
            refine g_lv X (lv' := [(0, .ref (ax 0)), (1, .int (cuN k (b + 1))), (2, .int (cuF (cuN k (b + 1)))), (3, .int (nI (b + 1)))]) [4, 2, 1, 0] rfl ?_
            exact ih19 (b + 1) ((nI b)) c29 (by omega)
  refine g_lv X (lv' := [(0, .ref (ax 0)), (1, .int ((-9))), (2, .int (11)), (3, .int (0))]) [3, 2, 1, 0] rfl ?_
  exact L19_1 (M - 0 + 1) 0 (kHd k) (Nat.zero_le _) (Nat.lt_succ_self _)
set_option maxRecDepth 100000 in
set_option maxHeartbeats 4000000 in
theorem c_X3_given (l : Launch) (D : va_G) (cy : ClassId) (ax : Nat → Nat) (an : Nat → Nat) (am : Nat → Nat) (ak : Nat → Nat) (aT : Nat → Nat) (ag : Nat → Nat) (ik : Bool) (mc : Nat) (od : Nat → Int32) (mv : Nat → Int32) (rf : Nat → Int32) (k : KV) (t : Int32) (hw : KW k) : CtI l yX3_given cX3_given 4 .int 3 134 D cy [.ref (ax 0), .int (t)] [wX cy ax an am ak aT ag ik mc od mv rf, wH cy an k] [wX cy ax an am ak aT ag ik mc od mv (rfB (gvB k t) rf (gvA k t)), wH cy an k] (gvA k t) := by
  refine ctI_of (by decide +kernel) (Nat.le_of_ble_eq_true rfl) (fun p_ e_ s_ m_ args_ below_ meth_ c_ A_ X => ?_)
  refine g_lv X (lv' := [(0, .ref (ax 0)), (1, .int (t))]) [0, 1] rfl ?_
  refine g_aload_n (pc := 0) X dX3_given_0 0 rfl ?_
  refine g_get (pc := 1) X (v := .ref (an 0)) fl_X3_10 dX3_given_1 0 0 rfl rfl rfl ?_
  refine g_iload_n (pc := 4) X dX3_given_4 1 rfl ?_
  refine g_callV (pc := 5) (rest := []) (ss' := [wX cy ax an am ak aT ag ik mc od mv rf, wH cy an k]) X (c_X1_hasThing l D cy an k t ) vl_X3_76 dX3_given_5 [1] 1 0 rfl rfl rfl rfl rfl rfl rfl rfl rfl rfl rfl rfl rfl ⟨Nat.zero_le _, Nat.zero_le _⟩ ?_
  refine g_bif_ne (pc := 8) (tgt := 17) X dX3_given_8 (by decide) (fun c8 => ?_) (fun c8 => ?_)
  · have r8 := c8
    obtain ⟨i, hi, rfl⟩ := hasT_t hw.2.2.2.2.2.1 c8
    have ixi : ix (nI i) = i := ixn (by have := hw.2.2.2.2.2.1; omega)
    refine g_aload_n (pc := 17) X dX3_given_17 0 rfl ?_
    refine g_get (pc := 18) X (v := .ref (an 0)) fl_X3_10 dX3_given_18 0 0 rfl rfl rfl ?_
    refine g_get (pc := 21) X (v := .ref (an 7)) fl_X3_86 dX3_given_21 1 0 rfl rfl rfl ?_
    refine g_iload_n (pc := 24) X dX3_given_24 1 rfl ?_
    refine g_iald_n (pc := 25) (f := kOt k) X 1 7 dX3_given_25 i rfl rfl rfl (by have := hw.2.2.2.2.2.1; omega) rfl ?_
    refine g_bipush (v := (-9)) (pc := 26) X dX3_given_26 (by decide) ?_
    refine g_icmp_eq (pc := 28) (tgt := 38) X dX3_given_28 (by decide) (fun c28 => ?_) (fun c28 => ?_)
    · refine g_iconst (v := 0) (pc := 38) X dX3_given_38 (by decide) ?_
      refine g_istore_n (lv' := [(2, .int (0)), (0, .ref (ax 0)), (1, .int (nI i))]) (pc := 39) X dX3_given_39 rfl rfl rfl ?_
      refine g_iconst (v := 0) (pc := 40) X dX3_given_40 (by decide) ?_
      refine g_istore_n (lv' := [(3, .int (0)), (2, .int (0)), (0, .ref (ax 0)), (1, .int (nI i))]) (pc := 41) X dX3_given_41 rfl rfl rfl ?_
      have L42_1 : ∀ (fu_ : Nat) (j : Nat) (hj : j ≤ kNt k) (hm : kNt k - j < fu_), G p_ l e_ { frames := 3, cells := 0, slots := 0, locals := 134 } s_ m_ args_ below_ meth_ c_ 4 D A_ 0 0 (QI below_ args_ s_ D A_ [wX cy ax an am ak aT ag ik mc od mv (rfB (gvB k (nI i)) rf (gvA k (nI i))), wH cy an k] (gvA k (nI i))) [wX cy ax an am ak aT ag ik mc od mv rf, wH cy an k] 42 [(0, .ref (ax 0)), (1, .int (nI i)), (2, .int (gvN k i j)), (3, .int (nI j))] [] := by
        intro fu_
        induction fu_ with
        | zero => intro j hj hm; exact absurd hm (Nat.not_lt_zero _)
        | succ fu_ ih =>
          intro j hj hm
          have ih42 := ih
          clear ih
          refine g_iload_n (pc := 42) X dX3_given_42 3 rfl ?_
          refine g_aload_n (pc := 43) X dX3_given_43 0 rfl ?_
          refine g_get (pc := 44) X (v := .ref (an 0)) fl_X3_10 dX3_given_44 0 0 rfl rfl rfl ?_
          refine g_get (pc := 47) X (v := .int (nI (kNt k))) fl_X3_115 dX3_given_47 1 0 rfl rfl rfl ?_
          refine g_ncmp_ge (pc := 50) (tgt := 96) X dX3_given_50 (by decide) j (kNt k) rfl rfl (by have := hw.2.2.2.2.2.1; omega) (by have := hw.2.2.2.2.2.1; omega) (fun c50 => ?_) (fun c50 => ?_)
          · have n50 := Nat.not_lt.mpr c50
            refine g_iload_n (pc := 96) X dX3_given_96 2 rfl ?_
            have ej : j = kNt k := by omega
            exact g_iret (pc := 97) X rfl dX3_given_97 rfl (by simp [gvA, *]) (by simp [gvA, gvB, rfB, *])
          · refine g_iload_n (pc := 53) X dX3_given_53 3 rfl ?_
            refine g_iload_n (pc := 54) X dX3_given_54 1 rfl ?_
            refine g_ncmp_eq (pc := 55) (tgt := 90) X dX3_given_55 (by decide) j i rfl rfl (by have := hw.2.2.2.2.2.1; omega) (by have := hw.2.2.2.2.2.1; omega) (fun c55 => ?_) (fun c55 => ?_)
            · have hc : gvN k i j = gvN k i (j + 1) := by rw [gvN, if_neg]; rintro ⟨h1, h2, h3⟩; first | exact h1 c55 | exact c69 h2 | (rw [c81] at h3; cases h3)
              rw [hc]
              refine g_iinc (v := nI (j + 1)) (lv' := [(3, .int (nI (j + 1))), (0, .ref (ax 0)), (1, .int (nI i)), (2, .int (gvN k i (j + 1)))]) (pc := 90) X dX3_given_90 3 rfl (nI_1 j) rfl rfl ?_
              refine g_goto (pc := 93) (tgt := 42) X dX3_given_93 (by decide) ?_
              refine g_lv X (lv' := [(0, .ref (ax 0)), (1, .int (nI i)), (2, .int (gvN k i (j + 1))), (3, .int (nI (j + 1)))]) [1, 2, 3, 0] rfl ?_
              exact ih42 (j + 1) c50 (by omega)
            · refine g_aload_n (pc := 58) X dX3_given_58 0 rfl ?_
              refine g_get (pc := 59) X (v := .ref (an 0)) fl_X3_10 dX3_given_59 0 0 rfl rfl rfl ?_
              refine g_get (pc := 62) X (v := .ref (an 7)) fl_X3_86 dX3_given_62 1 0 rfl rfl rfl ?_
              refine g_iload_n (pc := 65) X dX3_given_65 3 rfl ?_
              refine g_iald_n (pc := 66) (f := kOt k) X 1 7 dX3_given_66 j rfl rfl rfl (by have := hw.2.2.2.2.2.1; omega) rfl ?_
              refine g_bipush (v := (-9)) (pc := 67) X dX3_given_67 (by decide) ?_
              refine g_icmp_ne (pc := 69) (tgt := 90) X dX3_given_69 (by decide) (fun c69 => ?_) (fun c69 => ?_)
              · have hc : gvN k i j = gvN k i (j + 1) := by rw [gvN, if_neg]; rintro ⟨h1, h2, h3⟩; first | exact h1 c55 | exact c69 h2 | (rw [c81] at h3; cases h3)
                rw [hc]
                refine g_iinc (v := nI (j + 1)) (lv' := [(3, .int (nI (j + 1))), (0, .ref (ax 0)), (1, .int (nI i)), (2, .int (gvN k i (j + 1)))]) (pc := 90) X dX3_given_90 3 rfl (nI_1 j) rfl rfl ?_
                refine g_goto (pc := 93) (tgt := 42) X dX3_given_93 (by decide) ?_
                refine g_lv X (lv' := [(0, .ref (ax 0)), (1, .int (nI i)), (2, .int (gvN k i (j + 1))), (3, .int (nI (j + 1)))]) [1, 2, 3, 0] rfl ?_
                exact ih42 (j + 1) c50 (by omega)
              · refine g_aload_n (pc := 72) X dX3_given_72 0 rfl ?_
                refine g_get (pc := 73) X (v := .ref (an 0)) fl_X3_10 dX3_given_73 0 0 rfl rfl rfl ?_
                refine g_iload_n (pc := 76) X dX3_given_76 1 rfl ?_
                refine g_iload_n (pc := 77) X dX3_given_77 3 rfl ?_
                refine g_callV (pc := 78) (rest := []) (ss' := [wX cy ax an am ak aT ag ik mc od mv rf, wH cy an k]) X (c_X1_everMeet l D cy an k i j (by first | assumption | omega) (by first | assumption | omega) hw.2.2.2.2.2.1 hw.2.2.2.1) vl_X3_146 dX3_given_78 [1] 1 0 rfl rfl rfl rfl rfl rfl rfl rfl rfl rfl rfl rfl rfl ⟨Nat.zero_le _, Nat.zero_le _⟩ ?_
                refine g_bif_ne (pc := 81) (tgt := 90) X dX3_given_81 (by decide) (fun c81 => ?_) (fun c81 => ?_)
                · have hc : gvN k i j = gvN k i (j + 1) := by rw [gvN, if_neg]; rintro ⟨h1, h2, h3⟩; first | exact h1 c55 | exact c69 h2 | (rw [c81] at h3; cases h3)
                  rw [hc]
                  refine g_iinc (v := nI (j + 1)) (lv' := [(3, .int (nI (j + 1))), (0, .ref (ax 0)), (1, .int (nI i)), (2, .int (gvN k i (j + 1)))]) (pc := 90) X dX3_given_90 3 rfl (nI_1 j) rfl rfl ?_
                  refine g_goto (pc := 93) (tgt := 42) X dX3_given_93 (by decide) ?_
                  refine g_lv X (lv' := [(0, .ref (ax 0)), (1, .int (nI i)), (2, .int (gvN k i (j + 1))), (3, .int (nI (j + 1)))]) [1, 2, 3, 0] rfl ?_
                  exact ih42 (j + 1) c50 (by omega)
                · refine g_iload_n (pc := 84) X dX3_given_84 2 rfl ?_
                  refine g_iconst (v := 1) (pc := 85) X dX3_given_85 (by decide) ?_
                  refine g_iload_n (pc := 86) X dX3_given_86 3 rfl ?_
                  refine g_ishl (v := shl 1 (nI j)) (pc := 87) X dX3_given_87 rfl ?_
                  refine g_ior (v := gvN k i (j + 1)) (pc := 88) X dX3_given_88 (by rw [gvN, if_pos ⟨c55, c69, c81⟩] <;> rfl) ?_
                  refine g_istore_n (lv' := [(2, .int (gvN k i (j + 1))), (0, .ref (ax 0)), (1, .int (nI i)), (3, .int (nI j))]) (pc := 89) X dX3_given_89 rfl rfl rfl ?_
                  refine g_iinc (v := nI (j + 1)) (lv' := [(3, .int (nI (j + 1))), (2, .int (gvN k i (j + 1))), (0, .ref (ax 0)), (1, .int (nI i))]) (pc := 90) X dX3_given_90 3 rfl (nI_1 j) rfl rfl ?_
                  refine g_goto (pc := 93) (tgt := 42) X dX3_given_93 (by decide) ?_
                  refine g_lv X (lv' := [(0, .ref (ax 0)), (1, .int (nI i)), (2, .int (gvN k i (j + 1))), (3, .int (nI (j + 1)))]) [2, 3, 1, 0] rfl ?_
                  exact ih42 (j + 1) c50 (by omega)
      refine g_lv X (lv' := [(0, .ref (ax 0)), (1, .int (nI i)), (2, .int (0)), (3, .int (0))]) [2, 3, 1, 0] rfl ?_
      exact L42_1 (kNt k - 0 + 1) 0 (Nat.zero_le _) (Nat.lt_succ_self _)
    · refine g_aload_n (pc := 31) X dX3_given_31 0 rfl ?_
      refine g_bipush (v := (-3)) (pc := 32) X dX3_given_32 (by decide) ?_
      refine g_callV (pc := 34) (rest := []) (ss' := [wX cy ax an am ak aT ag ik mc od mv (rfU rf ((-3))), wH cy an k]) X (c_X3_refuse l D cy ax an am ak aT ag ik mc od mv rf ((-3)) rf_3) vl_X3_58 dX3_given_34 [0] 0 0 rfl rfl rfl rfl rfl rfl (ads_c (ads_X _ _ _ _ _ _ _ _ _ _ _ _ _ _ _ _ _) rfl) rfl rfl rfl rfl rfl rfl ⟨Nat.zero_le _, Nat.zero_le _⟩ ?_
      exact g_iret (pc := 37) X rfl dX3_given_37 rfl (by simp [gvA, *]) (by simp [gvA, gvB, rfB, *])
  · refine g_aload_n (pc := 11) X dX3_given_11 0 rfl ?_
    refine g_iconst (v := (-1)) (pc := 12) X dX3_given_12 (by decide) ?_
    refine g_callV (pc := 13) (rest := []) (ss' := [wX cy ax an am ak aT ag ik mc od mv (rfU rf ((-1))), wH cy an k]) X (c_X3_refuse l D cy ax an am ak aT ag ik mc od mv rf ((-1)) rf_1) vl_X3_58 dX3_given_13 [0] 0 0 rfl rfl rfl rfl rfl rfl (ads_c (ads_X _ _ _ _ _ _ _ _ _ _ _ _ _ _ _ _ _) rfl) rfl rfl rfl rfl rfl rfl ⟨Nat.zero_le _, Nat.zero_le _⟩ ?_
    exact g_iret (pc := 16) X rfl dX3_given_16 rfl (by simp [gvA, *]) (by simp [gvA, gvB, rfB, *])
set_option maxRecDepth 100000 in
set_option maxHeartbeats 4000000 in
theorem c_X3_clean (l : Launch) (D : va_G) (cy : ClassId) (ax : Nat → Nat) (an : Nat → Nat) (am : Nat → Nat) (ak : Nat → Nat) (aT : Nat → Nat) (ag : Nat → Nat) (ik : Bool) (mc : Nat) (od : Nat → Int32) (mv : Nat → Int32) (rf : Nat → Int32) (k : KV) (km : KV) (t : Int32) (hw : KW k) : CtIE l yX3_clean cX3_clean 4 .int 5 177 D cy [.ref (ax 0), .int (t)] [wX cy ax an am ak aT ag ik mc od mv rf, wH cy an k, wH cy am km] (fun (u_ : (KV)) => [wX cy ax an am ak aT ag ik mc od mv (rfB (hasT k t) rf (clA k t)), wH cy an k, wH cy am u_]) (clA k t) := by
  refine ctIE_of (by decide +kernel) (Nat.le_of_ble_eq_true rfl) (fun p_ e_ s_ m_ args_ below_ meth_ c_ A_ X => ?_)
  refine g_lv X (lv' := [(0, .ref (ax 0)), (1, .int (t))]) [0, 1] rfl ?_
  refine g_aload_n (pc := 0) X dX3_clean_0 0 rfl ?_
  refine g_get (pc := 1) X (v := .ref (an 0)) fl_X3_10 dX3_clean_1 0 0 rfl rfl rfl ?_
  refine g_iload_n (pc := 4) X dX3_clean_4 1 rfl ?_
  refine g_callV (pc := 5) (rest := []) (ss' := [wX cy ax an am ak aT ag ik mc od mv rf, wH cy an k, wH cy am km]) X (c_X1_hasThing l D cy an k t ) vl_X3_76 dX3_clean_5 [1] 1 0 rfl rfl rfl rfl rfl rfl rfl rfl rfl rfl rfl rfl rfl ⟨Nat.zero_le _, Nat.zero_le _⟩ ?_
  refine g_bif_ne (pc := 8) (tgt := 17) X dX3_clean_8 (by decide) (fun c8 => ?_) (fun c8 => ?_)
  · have r8 := c8
    obtain ⟨i, hi, rfl⟩ := hasT_t hw.2.2.2.2.2.1 c8
    have ixi : ix (nI i) = i := ixn (by have := hw.2.2.2.2.2.1; omega)
    refine g_aload_n (pc := 17) X dX3_clean_17 0 rfl ?_
    refine g_get (pc := 18) X (v := .ref (am 0)) fl_X3_16 dX3_clean_18 0 0 rfl rfl rfl ?_
    refine g_aload_n (pc := 21) X dX3_clean_21 0 rfl ?_
    refine g_get (pc := 22) X (v := .ref (an 0)) fl_X3_10 dX3_clean_22 0 0 rfl rfl rfl ?_
    refine g_callVv (pc := 25) (rest := []) (ss' := [wX cy ax an am ak aT ag ik mc od mv rf, wH cy an k, wH cy am k]) X (c_X1_become l D cy am an km k ) vl_X3_68 dX3_clean_25 [2, 1] 2 0 rfl rfl rfl rfl rfl rfl (ads_c (ads_H _ _ _ _ _ _ _ _) (ads_c (ads_H _ _ _ _ _ _ _ _) rfl)) rfl rfl rfl rfl rfl rfl ⟨Nat.zero_le _, Nat.zero_le _⟩ ?_
    refine g_iconst (v := 0) (pc := 28) X dX3_clean_28 (by decide) ?_
    refine g_istore_n (lv' := [(2, .int (0)), (0, .ref (ax 0)), (1, .int (nI i))]) (pc := 29) X dX3_clean_29 rfl rfl rfl ?_
    refine g_iconst (v := 0) (pc := 30) X dX3_clean_30 (by decide) ?_
    refine g_istore_n (lv' := [(3, .int (0)), (2, .int (0)), (0, .ref (ax 0)), (1, .int (nI i))]) (pc := 31) X dX3_clean_31 rfl rfl rfl ?_
    have L32_1 : ∀ (fu_ : Nat) (r : Nat) (o : Nat → Int32) (hr6 : r ≤ 6) (ho : ∀ v, upd o i v = upd (kRo k) i v) (hm : 6 - r < fu_), G p_ l e_ { frames := 5, cells := 0, slots := 0, locals := 177 } s_ m_ args_ below_ meth_ c_ 4 D A_ 0 0 (QIE below_ args_ s_ D A_ (fun (u_ : (KV)) => [wX cy ax an am ak aT ag ik mc od mv (rfB (hasT k (nI i)) rf (clA k (nI i))), wH cy an k, wH cy am u_]) (clA k (nI i))) [wX cy ax an am ak aT ag ik mc od mv rf, wH cy an k, wH cy am (sRo k o)] 32 [(0, .ref (ax 0)), (1, .int (nI i)), (2, .int (clN k i r)), (3, .int (nI r))] [] := by
      intro fu_
      induction fu_ with
      | zero => intro r o hr6 ho hm; exact absurd hm (Nat.not_lt_zero _)
      | succ fu_ ih =>
        intro r o hr6 ho hm
        have ih32 := ih
        clear ih
        refine g_iload_n (pc := 32) X dX3_clean_32 3 rfl ?_
        refine g_bipush (v := 6) (pc := 33) X dX3_clean_33 (by decide) ?_
        refine g_ncmp_ge (pc := 35) (tgt := 72) X dX3_clean_35 (by decide) r 6 rfl rfl (by omega) (by decide) (fun c35 => ?_) (fun c35 => ?_)
        · have n35 := Nat.not_lt.mpr c35
          refine g_iload_n (pc := 72) X dX3_clean_72 2 rfl ?_
          have er : r = 6 := by omega
          exact g_iretE (pc := 73) X (sRo k o) rfl dX3_clean_73 rfl (by simp [clA, *]) (by simp [clA, rfB, *])
        · refine g_aload_n (pc := 38) X dX3_clean_38 0 rfl ?_
          refine g_get (pc := 39) X (v := .ref (am 0)) fl_X3_16 dX3_clean_39 0 0 rfl rfl rfl ?_
          refine g_get (pc := 42) X (v := .ref (am 6)) fl_X3_83 dX3_clean_42 2 0 rfl rfl rfl ?_
          refine g_iload_n (pc := 45) X dX3_clean_45 1 rfl ?_
          refine g_iload_n (pc := 46) X dX3_clean_46 3 rfl ?_
          refine g_iast_n (pc := 47) X (ss' := [wX cy ax an am ak aT ag ik mc od mv rf, wH cy an k, wH cy am (sRo k (upd o i (nI r)))]) 2 6 dX3_clean_47 i rfl rfl rfl (by have := hw.2.2.2.2.2.1; omega) rfl rfl ?_
          refine g_eq X (ss' := [wX cy ax an am ak aT ag ik mc od mv rf, wH cy an k, wH cy am (sRo k (upd (kRo k) i (nI r)))]) (by rw [ho]) ?_
          refine g_aload_n (pc := 48) X dX3_clean_48 0 rfl ?_
          refine g_get (pc := 49) X (v := .ref (am 0)) fl_X3_16 dX3_clean_49 0 0 rfl rfl rfl ?_
          refine g_callV (pc := 52) (rest := []) (ss' := [wX cy ax an am ak aT ag ik mc od mv rf, wH cy an k, wH cy am (sRo k (upd (kRo k) i (nI r)))]) X (c_X1_firstSinfulHour l D cy am (sRo k (upd (kRo k) i (nI r))) hw.2.2.2.2.2.1 (HRo_upd hw.2.2.2.1 c35)) vl_X3_127 dX3_clean_52 [2] 2 0 rfl rfl rfl rfl rfl rfl rfl rfl rfl rfl rfl rfl rfl ⟨Nat.zero_le _, Nat.zero_le _⟩ ?_
          refine g_bipush (v := (-9)) (pc := 55) X dX3_clean_55 (by decide) ?_
          refine g_icmp_ne (pc := 57) (tgt := 66) X dX3_clean_57 (by decide) (fun c57 => ?_) (fun c57 => ?_)
          · have hc : clN k i r = clN k i (r + 1) := by rw [clN, if_neg c57]
            rw [hc]
            refine g_iinc (v := nI (r + 1)) (lv' := [(3, .int (nI (r + 1))), (0, .ref (ax 0)), (1, .int (nI i)), (2, .int (clN k i (r + 1)))]) (pc := 66) X dX3_clean_66 3 rfl (nI_1 r) rfl rfl ?_
            refine g_goto (pc := 69) (tgt := 32) X dX3_clean_69 (by decide) ?_
            refine g_lv X (lv' := [(0, .ref (ax 0)), (1, .int (nI i)), (2, .int (clN k i (r + 1))), (3, .int (nI (r + 1)))]) [1, 2, 3, 0] rfl ?_
            exact ih32 (r + 1) (upd (kRo k) i (nI r)) c35 (fun v => upd_u _ _ _ _) (by omega)
          · refine g_iload_n (pc := 60) X dX3_clean_60 2 rfl ?_
            refine g_iconst (v := 1) (pc := 61) X dX3_clean_61 (by decide) ?_
            refine g_iload_n (pc := 62) X dX3_clean_62 3 rfl ?_
            refine g_ishl (v := shl 1 (nI r)) (pc := 63) X dX3_clean_63 rfl ?_
            refine g_ior (v := clN k i (r + 1)) (pc := 64) X dX3_clean_64 (by rw [clN, if_pos c57] <;> rfl) ?_
            refine g_istore_n (lv' := [(2, .int (clN k i (r + 1))), (0, .ref (ax 0)), (1, .int (nI i)), (3, .int (nI r))]) (pc := 65) X dX3_clean_65 rfl rfl rfl ?_
            refine g_iinc (v := nI (r + 1)) (lv' := [(3, .int (nI (r + 1))), (2, .int (clN k i (r + 1))), (0, .ref (ax 0)), (1, .int (nI i))]) (pc := 66) X dX3_clean_66 3 rfl (nI_1 r) rfl rfl ?_
            refine g_goto (pc := 69) (tgt := 32) X dX3_clean_69 (by decide) ?_
            refine g_lv X (lv' := [(0, .ref (ax 0)), (1, .int (nI i)), (2, .int (clN k i (r + 1))), (3, .int (nI (r + 1)))]) [2, 3, 1, 0] rfl ?_
            exact ih32 (r + 1) (upd (kRo k) i (nI r)) c35 (fun v => upd_u _ _ _ _) (by omega)
    refine g_lv X (lv' := [(0, .ref (ax 0)), (1, .int (nI i)), (2, .int (0)), (3, .int (0))]) [2, 3, 1, 0] rfl ?_
    exact L32_1 (6 - 0 + 1) 0 (kRo k) (Nat.zero_le _) (fun _ => rfl) (Nat.lt_succ_self _)
  · refine g_aload_n (pc := 11) X dX3_clean_11 0 rfl ?_
    refine g_iconst (v := (-1)) (pc := 12) X dX3_clean_12 (by decide) ?_
    refine g_callV (pc := 13) (rest := []) (ss' := [wX cy ax an am ak aT ag ik mc od mv (rfU rf ((-1))), wH cy an k, wH cy am km]) X (c_X3_refuse l D cy ax an am ak aT ag ik mc od mv rf ((-1)) rf_1) vl_X3_58 dX3_clean_13 [0] 0 0 rfl rfl rfl rfl rfl rfl (ads_c (ads_X _ _ _ _ _ _ _ _ _ _ _ _ _ _ _ _ _) rfl) rfl rfl rfl rfl rfl rfl ⟨Nat.zero_le _, Nat.zero_le _⟩ ?_
    exact g_iretE (pc := 16) X (km) rfl dX3_clean_16 rfl (by simp [clA, *]) (by simp [clA, rfB, *])
set_option maxRecDepth 100000 in
set_option maxHeartbeats 4000000 in
theorem c_X3_nextSeed (l : Launch) (D : va_G) (cy : ClassId) (x : Int32) : CtI l yX3_nextSeed cX3_nextSeed 1 .int 0 64 D cy [.int (x)] [] [] (nxI x) := by
  refine ctI_of (by decide +kernel) (Nat.le_of_ble_eq_true rfl) (fun p_ e_ s_ m_ args_ below_ meth_ c_ A_ X => ?_)
  refine g_lv X (lv' := [(0, .int (x))]) [0] rfl ?_
  refine g_iload_n (pc := 0) X dX3_nextSeed_0 0 rfl ?_
  refine g_ldc (v := 1664525) (pc := 1) X dX3_nextSeed_1 kc_X3_200 ?_
  refine g_imul (v := x * 1664525) (pc := 3) X dX3_nextSeed_3 rfl ?_
  refine g_ldc (v := 1013904223) (pc := 4) X dX3_nextSeed_4 kc_X3_201 ?_
  refine g_iadd (v := nxI x) (pc := 6) X dX3_nextSeed_6 rfl ?_
  exact g_iret (pc := 7) X rfl dX3_nextSeed_7 rfl rfl rfl
set_option maxRecDepth 100000 in
set_option maxHeartbeats 4000000 in
theorem c_X3_draw (l : Launch) (D : va_G) (cy : ClassId) (x : Int32) (b : Nat) (h0 : 0 < b) (hb : b < 1000) : CtI l yX3_draw cX3_draw 2 .int 0 64 D cy [.int (x), .int (nI b)] [] [] (nI (dwN x b)) := by
  refine ctI_of (by decide +kernel) (Nat.le_of_ble_eq_true rfl) (fun p_ e_ s_ m_ args_ below_ meth_ c_ A_ X => ?_)
  refine g_lv X (lv' := [(0, .int (x)), (1, .int (nI b))]) [0, 1] rfl ?_
  refine g_iload_n (pc := 0) X dX3_draw_0 1 rfl ?_
  refine g_if_le (pc := 1) (tgt := 17) X dX3_draw_1 (by decide) (fun c1 => by exact absurd c1 (nI_nle h0 (by omega))) (fun c1 => ?_)
  refine g_iload_n (pc := 4) X dX3_draw_4 0 rfl ?_
  refine g_ldc (v := 2147483647) (pc := 5) X dX3_draw_5 kc_X3_202 ?_
  refine g_iand (v := x &&& 2147483647) (pc := 7) X dX3_draw_7 rfl ?_
  refine g_sipush (v := 256) (pc := 8) X dX3_draw_8 (by decide) ?_
  refine g_idiv (v := (x &&& 2147483647) / 256) (pc := 11) X dX3_draw_11 (by decide) rfl ?_
  refine g_iload_n (pc := 12) X dX3_draw_12 1 rfl ?_
  refine g_irem (v := nI (dwN x b)) (pc := 13) X dX3_draw_13 (nI_ne0 h0 (by omega)) (by have q := dw_n x h0 hb; unfold dwI at q; rw [if_pos (show (0 : Int32) < nI b from nI_lt (a := 0) h0 (by omega))] at q; exact q) ?_
  refine g_goto (pc := 14) (tgt := 18) X dX3_draw_14 (by decide) ?_
  exact g_iret (pc := 18) X rfl dX3_draw_18 rfl rfl rfl
set_option maxRecDepth 100000 in
set_option maxHeartbeats 4000000 in
theorem c_X3_seeds (l : Launch) (D : va_G) (cy : ClassId) (ax : Nat → Nat) (an : Nat → Nat) (am : Nat → Nat) (ak : Nat → Nat) (aT : Nat → Nat) (ag : Nat → Nat) (ik : Bool) (mc : Nat) (od : Nat → Int32) (mv : Nat → Int32) (rf : Nat → Int32) (k : KV) (km : KV) (q : Int32) (z : Int32) (hw : KW k) : CtIE l yX3_seeds cX3_seeds 8 .int 4 156 D cy [.ref (ax 0), .int (q), .int (z)] [wX cy ax an am ak aT ag ik mc od mv rf, wH cy an k, wH cy am km] (fun (u_ : (KV)) => [wX cy ax an am ak aT ag ik mc od mv (rfB (sdB k q) rf (sdA k q z)), wH cy an k, wH cy am u_]) (sdA k q z) := by
  have h8 := hw.2.2.2.2.2.1
  refine ctIE_of (by decide +kernel) (Nat.le_of_ble_eq_true rfl) (fun p_ e_ s_ m_ args_ below_ meth_ c_ A_ X => ?_)
  refine g_lv X (lv' := [(0, .ref (ax 0)), (1, .int (q)), (2, .int (z))]) [0, 1, 2] rfl ?_
  refine g_iload_n (pc := 0) X dX3_seeds_0 1 rfl ?_
  refine g_iconst (v := 1) (pc := 1) X dX3_seeds_1 (by decide) ?_
  refine g_bipush (v := 30) (pc := 2) X dX3_seeds_2 (by decide) ?_
  refine g_callS (pc := 4) (rest := []) X (c_X3_outOf l D cy q 1 30 ) sl_X3_54 dX3_seeds_4 rfl rfl rfl rfl rfl ⟨Nat.zero_le _, Nat.zero_le _⟩ ?_
  refine g_istore_n (lv' := [(3, .int (ooI q 1 30)), (0, .ref (ax 0)), (1, .int (q)), (2, .int (z))]) (pc := 7) X dX3_seeds_7 rfl rfl rfl ?_
  refine g_iload_n (pc := 8) X dX3_seeds_8 0 rfl ?_
  refine g_if_eq (pc := 9) (tgt := 18) X dX3_seeds_9 (by decide) (fun c9 => ?_) (fun c9 => ?_)
  · have r9 := c9
    obtain ⟨i, hi, rfl⟩ := in_lt (n := 31) (by omega) (Int32.le_trans (by decide) (oo_0 c9).1) (Int32.lt_of_le_of_lt (oo_0 c9).2 (by decide))
    have ixi : ix (nI i) = i := ixn (by omega)
    refine g_aload_n (pc := 18) X dX3_seeds_18 1 rfl ?_
    refine g_get (pc := 19) X (v := .ref (an 0)) fl_X3_10 dX3_seeds_19 0 0 rfl rfl rfl ?_
    refine g_get (pc := 22) X (v := .int (nI (kNt k))) fl_X3_115 dX3_seeds_22 1 0 rfl rfl rfl ?_
    refine g_if_ne (pc := 25) (tgt := 35) X dX3_seeds_25 (by decide) (fun c25 => ?_) (fun c25 => ?_)
    · have n25 : kNt k ≠ 0 := fun e => c25 (by rw [e]; rfl)
      have h0 : 0 < kNt k := Nat.pos_of_ne_zero n25
      refine g_aload_n (pc := 35) X dX3_seeds_35 1 rfl ?_
      refine g_get (pc := 36) X (v := .ref (am 0)) fl_X3_16 dX3_seeds_36 0 0 rfl rfl rfl ?_
      refine g_aload_n (pc := 39) X dX3_seeds_39 1 rfl ?_
      refine g_get (pc := 40) X (v := .ref (an 0)) fl_X3_10 dX3_seeds_40 0 0 rfl rfl rfl ?_
      refine g_callVv (pc := 43) (rest := []) (ss' := [wX cy ax an am ak aT ag ik mc od mv rf, wH cy an k, wH cy am k]) X (c_X1_become l D cy am an km k ) vl_X3_68 dX3_seeds_43 [2, 1] 2 0 rfl rfl rfl rfl rfl rfl (ads_c (ads_H _ _ _ _ _ _ _ _) (ads_c (ads_H _ _ _ _ _ _ _ _) rfl)) rfl rfl rfl rfl rfl rfl ⟨Nat.zero_le _, Nat.zero_le _⟩ ?_
      refine g_iconst (v := 0) (pc := 46) X dX3_seeds_46 (by decide) ?_
      refine g_istore (lv' := [(4, .int (0)), (3, .int (ooI (nI i) 1 30)), (0, .ref (ax 0)), (1, .int (nI i)), (2, .int (z))]) (pc := 47) X dX3_seeds_47 rfl rfl ?_
      refine g_iload_n (pc := 49) X dX3_seeds_49 4 rfl ?_
      refine g_istore (lv' := [(5, .int (z)), (4, .int (0)), (3, .int (ooI (nI i) 1 30)), (0, .ref (ax 0)), (1, .int (nI i)), (2, .int (z))]) (pc := 50) X dX3_seeds_50 rfl rfl ?_
      refine g_iconst (v := 0) (pc := 52) X dX3_seeds_52 (by decide) ?_
      refine g_istore (lv' := [(6, .int (0)), (5, .int (z)), (4, .int (0)), (3, .int (ooI (nI i) 1 30)), (0, .ref (ax 0)), (1, .int (nI i)), (2, .int (z))]) (pc := 53) X dX3_seeds_53 rfl rfl ?_
      have L55_1 : ∀ (fu_ : Nat) (j : Nat) (hj : j ≤ i) (hm : i - j < fu_), G p_ l e_ { frames := 4, cells := 0, slots := 0, locals := 156 } s_ m_ args_ below_ meth_ c_ 8 D A_ 0 0 (QIE below_ args_ s_ D A_ (fun (u_ : (KV)) => [wX cy ax an am ak aT ag ik mc od mv (rfB (sdB k (nI i)) rf (sdA k (nI i) z)), wH cy an k, wH cy am u_]) (sdA k (nI i) z)) [wX cy ax an am ak aT ag ik mc od mv rf, wH cy an k, wH cy am (sRo k ((sdS k z j).2.1))] 55 [(0, .ref (ax 0)), (1, .int (nI i)), (4, .int (nI ((sdS k z j).2.2))), (5, .int ((sdS k z j).1)), (6, .int (nI j))] [] := by
        intro fu_
        induction fu_ with
        | zero => intro j hj hm; exact absurd hm (Nat.not_lt_zero _)
        | succ fu_ ih =>
          intro j hj hm
          have ih55 := ih
          clear ih
          refine g_iload (pc := 55) X dX3_seeds_55 4 rfl ?_
          refine g_iload_n (pc := 57) X dX3_seeds_57 1 rfl ?_
          refine g_ncmp_ge (pc := 58) (tgt := 134) X dX3_seeds_58 (by decide) j i rfl rfl (by omega) (by omega) (fun c58 => ?_) (fun c58 => ?_)
          · have n58 := Nat.not_lt.mpr c58
            refine g_iload (pc := 134) X dX3_seeds_134 2 rfl ?_
            have ej : j = i := by omega
            exact g_iretE (pc := 136) X (sRo k ((sdS k z j).2.1)) rfl dX3_seeds_136 rfl (by simp [sdA, *]) (by simp [sdA, sdB, rfB, *])
          · refine g_iload (pc := 61) X dX3_seeds_61 3 rfl ?_
            refine g_callS (pc := 63) (rest := []) X (c_X3_nextSeed l D cy ((sdS k z j).1) ) sl_X3_186 dX3_seeds_63 rfl rfl rfl rfl rfl ⟨Nat.zero_le _, Nat.zero_le _⟩ ?_
            refine g_istore (lv' := [(5, .int (nxI ((sdS k z j).1))), (0, .ref (ax 0)), (1, .int (nI i)), (4, .int (nI ((sdS k z j).2.2))), (6, .int (nI j))]) (pc := 66) X dX3_seeds_66 rfl rfl ?_
            refine g_iload (pc := 68) X dX3_seeds_68 0 rfl ?_
            refine g_aload_n (pc := 70) X dX3_seeds_70 1 rfl ?_
            refine g_get (pc := 71) X (v := .ref (an 0)) fl_X3_10 dX3_seeds_71 0 0 rfl rfl rfl ?_
            refine g_get (pc := 74) X (v := .int (nI (kNt k))) fl_X3_115 dX3_seeds_74 1 0 rfl rfl rfl ?_
            refine g_callS (pc := 77) (rest := []) X (c_X3_draw l D cy (nxI ((sdS k z j).1)) (kNt k) h0 (by omega)) sl_X3_189 dX3_seeds_77 rfl rfl rfl rfl rfl ⟨Nat.zero_le _, Nat.zero_le _⟩ ?_
            refine g_istore (lv' := [(7, .int (nI (dwN (nxI ((sdS k z j).1)) (kNt k)))), (5, .int (nxI ((sdS k z j).1))), (0, .ref (ax 0)), (1, .int (nI i)), (4, .int (nI ((sdS k z j).2.2))), (6, .int (nI j))]) (pc := 80) X dX3_seeds_80 rfl rfl ?_
            refine g_iload (pc := 82) X dX3_seeds_82 1 rfl ?_
            refine g_callS (pc := 84) (rest := []) X (c_X3_nextSeed l D cy (nxI ((sdS k z j).1)) ) sl_X3_186 dX3_seeds_84 rfl rfl rfl rfl rfl ⟨Nat.zero_le _, Nat.zero_le _⟩ ?_
            refine g_istore (lv' := [(5, .int (nxI (nxI ((sdS k z j).1)))), (7, .int (nI (dwN (nxI ((sdS k z j).1)) (kNt k)))), (0, .ref (ax 0)), (1, .int (nI i)), (4, .int (nI ((sdS k z j).2.2))), (6, .int (nI j))]) (pc := 87) X dX3_seeds_87 rfl rfl ?_
            refine g_aload_n (pc := 89) X dX3_seeds_89 2 rfl ?_
            refine g_get (pc := 90) X (v := .ref (am 0)) fl_X3_16 dX3_seeds_90 0 0 rfl rfl rfl ?_
            refine g_get (pc := 93) X (v := .ref (am 6)) fl_X3_83 dX3_seeds_93 2 0 rfl rfl rfl ?_
            refine g_iload (pc := 96) X dX3_seeds_96 1 rfl ?_
            refine g_iload (pc := 98) X dX3_seeds_98 0 rfl ?_
            refine g_bipush (v := 6) (pc := 100) X dX3_seeds_100 (by decide) ?_
            refine g_callS (pc := 102) (rest := [.int (nI (dwN (nxI ((sdS k z j).1)) (kNt k))), .ref (am 6)]) X (c_X3_draw l D cy (nxI (nxI ((sdS k z j).1))) 6 (by decide) (by decide)) sl_X3_189 dX3_seeds_102 rfl rfl rfl rfl rfl ⟨Nat.zero_le _, Nat.zero_le _⟩ ?_
            refine g_iast_n (pc := 105) X (ss' := [wX cy ax an am ak aT ag ik mc od mv rf, wH cy an k, wH cy am (sRo k (upd ((sdS k z j).2.1) (dwN (nxI ((sdS k z j).1)) (kNt k)) (nI (dwN (nxI (nxI ((sdS k z j).1))) 6))))]) 2 6 dX3_seeds_105 (dwN (nxI ((sdS k z j).1)) (kNt k)) rfl rfl rfl (by have := dw_lt (nxI (sdS k z j).1) h0 (by omega); omega) rfl rfl ?_
            refine g_aload_n (pc := 106) X dX3_seeds_106 2 rfl ?_
            refine g_get (pc := 107) X (v := .ref (am 0)) fl_X3_16 dX3_seeds_107 0 0 rfl rfl rfl ?_
            refine g_aload_n (pc := 110) X dX3_seeds_110 2 rfl ?_
            refine g_get (pc := 111) X (v := .ref (an 0)) fl_X3_10 dX3_seeds_111 0 0 rfl rfl rfl ?_
            refine g_get (pc := 114) X (v := .int (nI (kHr k))) fl_X3_112 dX3_seeds_114 1 0 rfl rfl rfl ?_
            refine g_callV (pc := 117) (rest := []) (ss' := [wX cy ax an am ak aT ag ik mc od mv rf, wH cy an k, wH cy am (sRo k (upd ((sdS k z j).2.1) (dwN (nxI ((sdS k z j).1)) (kNt k)) (nI (dwN (nxI (nxI ((sdS k z j).1))) 6))))]) X (c_X1_firstSin l D cy am (sRo k (upd ((sdS k z j).2.1) (dwN (nxI ((sdS k z j).1)) (kNt k)) (nI (dwN (nxI (nxI ((sdS k z j).1))) 6)))) (kHr k) hw.2.2.2.2.2.1 (sdS_ro h8 hw.2.2.2.1 (j + 1)) hw.2.2.2.2.2.2.1) vl_X3_124 dX3_seeds_117 [2] 2 0 rfl rfl rfl rfl rfl rfl rfl rfl rfl rfl rfl rfl rfl ⟨Nat.zero_le _, Nat.zero_le _⟩ ?_
            refine g_bipush (v := (-9)) (pc := 120) X dX3_seeds_120 (by decide) ?_
            refine g_icmp_eq (pc := 122) (tgt := 128) X dX3_seeds_122 (by decide) (fun c122 => ?_) (fun c122 => ?_)
            · have hc : (sdS k z j).2.2 = (sdS k z (j + 1)).2.2 := (if_pos c122).symm
              rw [hc]
              refine g_iinc (v := nI (j + 1)) (lv' := [(6, .int (nI (j + 1))), (5, .int (nxI (nxI ((sdS k z j).1)))), (7, .int (nI (dwN (nxI ((sdS k z j).1)) (kNt k)))), (0, .ref (ax 0)), (1, .int (nI i)), (4, .int (nI ((sdS k z (j + 1)).2.2)))]) (pc := 128) X dX3_seeds_128 5 rfl (nI_1 j) rfl rfl ?_
              refine g_goto (pc := 131) (tgt := 55) X dX3_seeds_131 (by decide) ?_
              refine g_lv X (lv' := [(0, .ref (ax 0)), (1, .int (nI i)), (4, .int (nI ((sdS k z (j + 1)).2.2))), (5, .int (nxI (nxI ((sdS k z j).1)))), (6, .int (nI (j + 1)))]) [3, 4, 5, 1, 0] rfl ?_
              exact ih55 (j + 1) c58 (by omega)
            · refine g_iinc (v := nI ((sdS k z (j + 1)).2.2)) (lv' := [(4, .int (nI ((sdS k z (j + 1)).2.2))), (5, .int (nxI (nxI ((sdS k z j).1)))), (7, .int (nI (dwN (nxI ((sdS k z j).1)) (kNt k)))), (0, .ref (ax 0)), (1, .int (nI i)), (6, .int (nI j))]) (pc := 125) X dX3_seeds_125 4 rfl (by show _ = nI (sdU k (sdS k z j)).2.2; rw [show (sdU k (sdS k z j)).2.2 = (sdS k z j).2.2 + 1 from if_neg c122]; exact nI_1 _) rfl rfl ?_
              refine g_iinc (v := nI (j + 1)) (lv' := [(6, .int (nI (j + 1))), (4, .int (nI ((sdS k z (j + 1)).2.2))), (5, .int (nxI (nxI ((sdS k z j).1)))), (7, .int (nI (dwN (nxI ((sdS k z j).1)) (kNt k)))), (0, .ref (ax 0)), (1, .int (nI i))]) (pc := 128) X dX3_seeds_128 5 rfl (nI_1 j) rfl rfl ?_
              refine g_goto (pc := 131) (tgt := 55) X dX3_seeds_131 (by decide) ?_
              refine g_lv X (lv' := [(0, .ref (ax 0)), (1, .int (nI i)), (4, .int (nI ((sdS k z (j + 1)).2.2))), (5, .int (nxI (nxI ((sdS k z j).1)))), (6, .int (nI (j + 1)))]) [4, 5, 1, 2, 0] rfl ?_
              exact ih55 (j + 1) c58 (by omega)
      refine g_lv X (lv' := [(0, .ref (ax 0)), (1, .int (nI i)), (4, .int (0)), (5, .int (z)), (6, .int (0))]) [4, 5, 2, 1, 0] rfl ?_
      exact L55_1 (i - 0 + 1) 0 (Nat.zero_le _) (Nat.lt_succ_self _)
    · have n25 : kNt k = 0 := (nI_eq (b := 0) (by omega) (by omega)).mp c25
      refine g_aload_n (pc := 28) X dX3_seeds_28 1 rfl ?_
      refine g_bipush (v := (-3)) (pc := 29) X dX3_seeds_29 (by decide) ?_
      refine g_callV (pc := 31) (rest := []) (ss' := [wX cy ax an am ak aT ag ik mc od mv (rfU rf ((-3))), wH cy an k, wH cy am km]) X (c_X3_refuse l D cy ax an am ak aT ag ik mc od mv rf ((-3)) rf_3) vl_X3_58 dX3_seeds_31 [0] 0 0 rfl rfl rfl rfl rfl rfl (ads_c (ads_X _ _ _ _ _ _ _ _ _ _ _ _ _ _ _ _ _) rfl) rfl rfl rfl rfl rfl rfl ⟨Nat.zero_le _, Nat.zero_le _⟩ ?_
      exact g_iretE (pc := 34) X (km) rfl dX3_seeds_34 rfl (by simp [sdA, *]) (by simp [sdA, sdB, rfB, *])
  · refine g_aload_n (pc := 12) X dX3_seeds_12 1 rfl ?_
    refine g_iload_n (pc := 13) X dX3_seeds_13 0 rfl ?_
    refine g_callV (pc := 14) (rest := []) (ss' := [wX cy ax an am ak aT ag ik mc od mv (rfU rf (ooI q 1 30)), wH cy an k, wH cy am km]) X (c_X3_refuse l D cy ax an am ak aT ag ik mc od mv rf (ooI q 1 30) oo_in) vl_X3_58 dX3_seeds_14 [0] 0 0 rfl rfl rfl rfl rfl rfl (ads_c (ads_X _ _ _ _ _ _ _ _ _ _ _ _ _ _ _ _ _) rfl) rfl rfl rfl rfl rfl rfl ⟨Nat.zero_le _, Nat.zero_le _⟩ ?_
    exact g_iretE (pc := 17) X (km) rfl dX3_seeds_17 rfl (by simp [sdA, *]) (by simp [sdA, sdB, rfB, *])
set_option maxRecDepth 100000 in
set_option maxHeartbeats 4000000 in
theorem c_X3_together (l : Launch) (D : va_G) (cy : ClassId) (ax : Nat → Nat) (an : Nat → Nat) (am : Nat → Nat) (ak : Nat → Nat) (aT : Nat → Nat) (ag : Nat → Nat) (ik : Bool) (mc : Nat) (od : Nat → Int32) (mv : Nat → Int32) (rf : Nat → Int32) (k : KV) (x : Int32) (hw : KW k) : CtI l yX3_together cX3_together 2 .int 1 85 D cy [.ref (ax 0), .int (x)] [wX cy ax an am ak aT ag ik mc od mv rf, wH cy an k] [wX cy ax an am ak aT ag ik mc od mv (rfB (tgO k x) rf (tgA k x)), wH cy an (tgS k x)] (tgA k x) := by
  have h8 := hw.2.2.2.2.2.2.2
  refine ctI_of (by decide +kernel) (Nat.le_of_ble_eq_true rfl) (fun p_ e_ s_ m_ args_ below_ meth_ c_ A_ X => ?_)
  refine g_lv X (lv' := [(0, .ref (ax 0)), (1, .int (x))]) [0, 1] rfl ?_
  refine g_iload_n (pc := 0) X dX3_together_0 1 rfl ?_
  refine g_aload_n (pc := 1) X dX3_together_1 0 rfl ?_
  refine g_get (pc := 2) X (v := .ref (an 0)) fl_X3_10 dX3_together_2 0 0 rfl rfl rfl ?_
  refine g_callV (pc := 5) (rest := [.int (x)]) (ss' := [wX cy ax an am ak aT ag ik mc od mv rf, wH cy an k]) X (c_X1_allThings l D cy an k ) vl_X3_165 dX3_together_5 [1] 1 0 rfl rfl rfl rfl rfl rfl rfl rfl rfl rfl rfl rfl rfl ⟨Nat.zero_le _, Nat.zero_le _⟩ ?_
  refine g_iconst (v := (-1)) (pc := 8) X dX3_together_8 (by decide) ?_
  refine g_ixor (v := (allT k) ^^^ ((-1))) (pc := 9) X dX3_together_9 rfl ?_
  refine g_iand (v := x &&& ((allT k) ^^^ ((-1)))) (pc := 10) X dX3_together_10 rfl ?_
  refine g_if_eq (pc := 11) (tgt := 20) X dX3_together_11 (by decide) (fun c11 => ?_) (fun c11 => ?_)
  · have hb : tgB k x = true := decide_eq_true c11
    refine g_aload_n (pc := 20) X dX3_together_20 0 rfl ?_
    refine g_get (pc := 21) X (v := .ref (an 0)) fl_X3_10 dX3_together_21 0 0 rfl rfl rfl ?_
    refine g_get (pc := 24) X (v := .int (nI (kNs k))) fl_X3_168 dX3_together_24 1 0 rfl rfl rfl ?_
    refine g_bipush (v := 8) (pc := 27) X dX3_together_27 (by decide) ?_
    refine g_ncmp_lt (pc := 29) (tgt := 39) X dX3_together_29 (by decide) (kNs k) 8 rfl rfl (by omega) (by decide) (fun c29 => ?_) (fun c29 => ?_)
    · refine g_aload_n (pc := 39) X dX3_together_39 0 rfl ?_
      refine g_get (pc := 40) X (v := .ref (an 0)) fl_X3_10 dX3_together_40 0 0 rfl rfl rfl ?_
      refine g_get (pc := 43) X (v := .ref (an 8)) fl_X3_171 dX3_together_43 1 0 rfl rfl rfl ?_
      refine g_aload_n (pc := 46) X dX3_together_46 0 rfl ?_
      refine g_get (pc := 47) X (v := .ref (an 0)) fl_X3_10 dX3_together_47 0 0 rfl rfl rfl ?_
      refine g_get (pc := 50) X (v := .int (nI (kNs k))) fl_X3_168 dX3_together_50 1 0 rfl rfl rfl ?_
      refine g_iload_n (pc := 53) X dX3_together_53 1 rfl ?_
      refine g_iast_n (pc := 54) X (ss' := [wX cy ax an am ak aT ag ik mc od mv rf, wH cy an (sSe k (upd (kSe k) (kNs k) x))]) 1 8 dX3_together_54 (kNs k) rfl rfl rfl (by omega) rfl rfl ?_
      refine g_aload_n (pc := 55) X dX3_together_55 0 rfl ?_
      refine g_get (pc := 56) X (v := .ref (an 0)) fl_X3_10 dX3_together_56 0 0 rfl rfl rfl ?_
      refine g_dup (pc := 59) X dX3_together_59 rfl ?_
      refine g_get (pc := 60) X (v := .int (nI (kNs k))) fl_X3_168 dX3_together_60 1 0 rfl rfl rfl ?_
      refine g_iconst (v := 1) (pc := 63) X dX3_together_63 (by decide) ?_
      refine g_iadd (v := nI (kNs k + 1)) (pc := 64) X dX3_together_64 (nI_add (kNs k) 1) ?_
      refine g_put (pc := 65) X (ss' := [wX cy ax an am ak aT ag ik mc od mv rf, wH cy an (sSe (sNs k (kNs k + 1)) (upd (kSe k) (kNs k) x))]) fp_X3_168 dX3_together_65 1 0 rfl rfl rfl rfl rfl rfl ?_
      refine g_aload_n (pc := 68) X dX3_together_68 0 rfl ?_
      refine g_get (pc := 69) X (v := .ref (an 0)) fl_X3_10 dX3_together_69 0 0 rfl rfl rfl ?_
      refine g_get (pc := 72) X (v := .int (nI (kNs k + 1))) fl_X3_168 dX3_together_72 1 0 rfl rfl rfl ?_
      exact g_iret (pc := 75) X rfl dX3_together_75 rfl (by simp [tgA, *]) (by simp [tgA, tgO, tgS, rfB, *])
    · have n29 := Nat.not_lt.mpr c29
      refine g_aload_n (pc := 32) X dX3_together_32 0 rfl ?_
      refine g_bipush (v := (-6)) (pc := 33) X dX3_together_33 (by decide) ?_
      refine g_callV (pc := 35) (rest := []) (ss' := [wX cy ax an am ak aT ag ik mc od mv (rfU rf ((-6))), wH cy an k]) X (c_X3_refuse l D cy ax an am ak aT ag ik mc od mv rf ((-6)) rf_6) vl_X3_58 dX3_together_35 [0] 0 0 rfl rfl rfl rfl rfl rfl (ads_c (ads_X _ _ _ _ _ _ _ _ _ _ _ _ _ _ _ _ _) rfl) rfl rfl rfl rfl rfl rfl ⟨Nat.zero_le _, Nat.zero_le _⟩ ?_
      exact g_iret (pc := 38) X rfl dX3_together_38 rfl (by simp [tgA, *]) (by simp [tgA, tgO, tgS, rfB, *])
  · have hb : tgB k x = false := decide_eq_false c11
    refine g_aload_n (pc := 14) X dX3_together_14 0 rfl ?_
    refine g_iconst (v := (-1)) (pc := 15) X dX3_together_15 (by decide) ?_
    refine g_callV (pc := 16) (rest := []) (ss' := [wX cy ax an am ak aT ag ik mc od mv (rfU rf ((-1))), wH cy an k]) X (c_X3_refuse l D cy ax an am ak aT ag ik mc od mv rf ((-1)) rf_1) vl_X3_58 dX3_together_16 [0] 0 0 rfl rfl rfl rfl rfl rfl (ads_c (ads_X _ _ _ _ _ _ _ _ _ _ _ _ _ _ _ _ _) rfl) rfl rfl rfl rfl rfl rfl ⟨Nat.zero_le _, Nat.zero_le _⟩ ?_
    exact g_iret (pc := 19) X rfl dX3_together_19 rfl (by simp [tgA, *]) (by simp [tgA, tgO, tgS, rfB, *])
set_option maxRecDepth 100000 in
set_option maxHeartbeats 4000000 in
theorem c_X3_firstCure (l : Launch) (D : va_G) (cy : ClassId) (ax : Nat → Nat) (an : Nat → Nat) (am : Nat → Nat) (ak : Nat → Nat) (aT : Nat → Nat) (ag : Nat → Nat) (ik : Bool) (mc : Nat) (od : Nat → Int32) (mv : Nat → Int32) (rf : Nat → Int32) (k : KV) (km : KV) (s : Nat) (h8 : kNt km ≤ 8) (hr : HRo km) (hh : kHr k < 8) (hs : s ≤ 8) : CtI l yX3_firstCure cX3_firstCure 6 .int 4 156 D cy [.ref (ax 0), .int (nI s)] [wX cy ax an am ak aT ag ik mc od mv rf, wH cy an k, wH cy am km] [wX cy ax an am ak aT ag ik mc od mv rf, wH cy an k, wH cy am km] (fcK km (kHr k) s) := by
  refine ctI_of (by decide +kernel) (Nat.le_of_ble_eq_true rfl) (fun p_ e_ s_ m_ args_ below_ meth_ c_ A_ X => ?_)
  refine g_lv X (lv' := [(0, .ref (ax 0)), (1, .int (nI s))]) [0, 1] rfl ?_
  refine g_iload_n (pc := 0) X dX3_firstCure_0 1 rfl ?_
  refine g_istore_n (lv' := [(2, .int (nI s)), (0, .ref (ax 0)), (1, .int (nI s))]) (pc := 1) X dX3_firstCure_1 rfl rfl rfl ?_
  have L2_1 : ∀ (fu_ : Nat) (t : Nat) (ht : t ≤ 8) (hq : fcK km (kHr k) s = fcT km (kHr k) (kNt km - t) t) (hm : 8 - t < fu_), G p_ l e_ { frames := 4, cells := 0, slots := 0, locals := 156 } s_ m_ args_ below_ meth_ c_ 6 D A_ 0 0 (QI below_ args_ s_ D A_ [wX cy ax an am ak aT ag ik mc od mv rf, wH cy an k, wH cy am km] (fcK km (kHr k) s)) [wX cy ax an am ak aT ag ik mc od mv rf, wH cy an k, wH cy am km] 2 [(0, .ref (ax 0)), (1, .int (nI s)), (2, .int (nI t))] [] := by
    intro fu_
    induction fu_ with
    | zero => intro t ht hq hm; exact absurd hm (Nat.not_lt_zero _)
    | succ fu_ ih =>
      intro t ht hq hm
      have ih2 := ih
      clear ih
      refine g_iload_n (pc := 2) X dX3_firstCure_2 2 rfl ?_
      refine g_aload_n (pc := 3) X dX3_firstCure_3 0 rfl ?_
      refine g_get (pc := 4) X (v := .ref (am 0)) fl_X3_16 dX3_firstCure_4 0 0 rfl rfl rfl ?_
      refine g_get (pc := 7) X (v := .int (nI (kNt km))) fl_X3_115 dX3_firstCure_7 2 0 rfl rfl rfl ?_
      refine g_ncmp_ge (pc := 10) (tgt := 111) X dX3_firstCure_10 (by decide) t (kNt km) rfl rfl (by omega) (by omega) (fun c10 => ?_) (fun c10 => ?_)
      · have n10 := Nat.not_lt.mpr c10
        refine g_bipush (v := (-9)) (pc := 111) X dX3_firstCure_111 (by decide) ?_
        exact g_iret (pc := 113) X rfl dX3_firstCure_113 rfl (by rw [hq, show kNt km - t = 0 by omega]; rfl) rfl
      · refine g_aload_n (pc := 13) X dX3_firstCure_13 0 rfl ?_
        refine g_get (pc := 14) X (v := .ref (am 0)) fl_X3_16 dX3_firstCure_14 0 0 rfl rfl rfl ?_
        refine g_get (pc := 17) X (v := .ref (am 6)) fl_X3_83 dX3_firstCure_17 2 0 rfl rfl rfl ?_
        refine g_iload_n (pc := 20) X dX3_firstCure_20 2 rfl ?_
        refine g_iald_n (pc := 21) (f := kRo km) X 2 6 dX3_firstCure_21 t rfl rfl rfl (by omega) rfl ?_
        refine g_istore_n (lv' := [(3, .int ((kRo km) t)), (0, .ref (ax 0)), (1, .int (nI s)), (2, .int (nI t))]) (pc := 22) X dX3_firstCure_22 rfl rfl rfl ?_
        refine g_iconst (v := 0) (pc := 23) X dX3_firstCure_23 (by decide) ?_
        refine g_istore (lv' := [(4, .int (0)), (3, .int ((kRo km) t)), (0, .ref (ax 0)), (1, .int (nI s)), (2, .int (nI t))]) (pc := 24) X dX3_firstCure_24 rfl rfl ?_
        have L26_2 : ∀ (fu_ : Nat) (r : Nat) (hr6 : r ≤ 6) (hr2 : fcR km (kHr k) t 6 0 = fcR km (kHr k) t (6 - r) r) (hm : 6 - r < fu_), G p_ l e_ { frames := 4, cells := 0, slots := 0, locals := 156 } s_ m_ args_ below_ meth_ c_ 6 D A_ 0 0 (QI below_ args_ s_ D A_ [wX cy ax an am ak aT ag ik mc od mv rf, wH cy an k, wH cy am km] (fcK km (kHr k) s)) [wX cy ax an am ak aT ag ik mc od mv rf, wH cy an k, wH cy am km] 26 [(0, .ref (ax 0)), (1, .int (nI s)), (2, .int (nI t)), (3, .int ((kRo km) t)), (4, .int (nI r))] [] := by
          intro fu_
          induction fu_ with
          | zero => intro r hr6 hr2 hm; exact absurd hm (Nat.not_lt_zero _)
          | succ fu_ ih =>
            intro r hr6 hr2 hm
            have ih26 := ih
            clear ih
            refine g_iload (pc := 26) X dX3_firstCure_26 4 rfl ?_
            refine g_bipush (v := 6) (pc := 28) X dX3_firstCure_28 (by decide) ?_
            refine g_ncmp_ge (pc := 30) (tgt := 105) X dX3_firstCure_30 (by decide) r 6 rfl rfl (by omega) (by decide) (fun c30 => ?_) (fun c30 => ?_)
            · have n30 := Nat.not_lt.mpr c30
              refine g_iinc (v := nI (t + 1)) (lv' := [(2, .int (nI (t + 1))), (0, .ref (ax 0)), (1, .int (nI s)), (3, .int ((kRo km) t)), (4, .int (nI r))]) (pc := 105) X dX3_firstCure_105 2 rfl (nI_1 t) rfl rfl ?_
              refine g_goto (pc := 108) (tgt := 2) X dX3_firstCure_108 (by decide) ?_
              refine g_lv X (lv' := [(0, .ref (ax 0)), (1, .int (nI s)), (2, .int (nI (t + 1)))]) [1, 2, 0] rfl ?_
              exact ih2 (t + 1) (by omega) (by rw [hq, show kNt km - t = (kNt km - (t + 1)) + 1 by omega, fcT, if_pos (by rw [hr2, show 6 - r = 0 by omega]; rfl)]) (by omega)
            · refine g_aload_n (pc := 33) X dX3_firstCure_33 0 rfl ?_
              refine g_get (pc := 34) X (v := .ref (am 0)) fl_X3_16 dX3_firstCure_34 0 0 rfl rfl rfl ?_
              refine g_get (pc := 37) X (v := .ref (am 6)) fl_X3_83 dX3_firstCure_37 2 0 rfl rfl rfl ?_
              refine g_iload_n (pc := 40) X dX3_firstCure_40 2 rfl ?_
              refine g_iload (pc := 41) X dX3_firstCure_41 4 rfl ?_
              refine g_iast_n (pc := 43) X (ss' := [wX cy ax an am ak aT ag ik mc od mv rf, wH cy an k, wH cy am (sRo km (upd (kRo km) t (nI r)))]) 2 6 dX3_firstCure_43 t rfl rfl rfl (by omega) rfl rfl ?_
              refine g_iload (pc := 44) X dX3_firstCure_44 4 rfl ?_
              refine g_iload_n (pc := 46) X dX3_firstCure_46 3 rfl ?_
              refine g_icmp_eq (pc := 47) (tgt := 73) X dX3_firstCure_47 (by decide) (fun c47 => ?_) (fun c47 => ?_)
              · refine g_iconst (v := 0) (pc := 73) X dX3_firstCure_73 (by decide) ?_
                refine g_istore (lv' := [(5, .int (0)), (0, .ref (ax 0)), (1, .int (nI s)), (2, .int (nI t)), (3, .int ((kRo km) t)), (4, .int (nI r))]) (pc := 74) X dX3_firstCure_74 rfl rfl ?_
                refine g_aload_n (pc := 76) X dX3_firstCure_76 1 rfl ?_
                refine g_get (pc := 77) X (v := .ref (am 0)) fl_X3_16 dX3_firstCure_77 0 0 rfl rfl rfl ?_
                refine g_get (pc := 80) X (v := .ref (am 6)) fl_X3_83 dX3_firstCure_80 2 0 rfl rfl rfl ?_
                refine g_iload_n (pc := 83) X dX3_firstCure_83 3 rfl ?_
                refine g_iload_n (pc := 84) X dX3_firstCure_84 4 rfl ?_
                refine g_iast_n (pc := 85) X (ss' := [wX cy ax an am ak aT ag ik mc od mv rf, wH cy an k, wH cy am (sRo km (upd (upd (kRo km) t (nI r)) t ((kRo km) t)))]) 2 6 dX3_firstCure_85 t rfl rfl rfl (by omega) rfl rfl ?_
                refine g_eq X (ss' := [wX cy ax an am ak aT ag ik mc od mv rf, wH cy an k, wH cy am km]) (by rw [upd_u, upd_self] <;> rfl) ?_
                refine g_iload (pc := 86) X dX3_firstCure_86 0 rfl ?_
                refine g_if_eq (pc := 88) (tgt := 99) X dX3_firstCure_88 (by decide) (fun c88 => ?_) (fun c88 => by exact absurd c88 (by decide))
                refine g_iinc (v := nI (r + 1)) (lv' := [(4, .int (nI (r + 1))), (5, .int (0)), (0, .ref (ax 0)), (1, .int (nI s)), (2, .int (nI t)), (3, .int ((kRo km) t))]) (pc := 99) X dX3_firstCure_99 5 rfl (nI_1 r) rfl rfl ?_
                refine g_goto (pc := 102) (tgt := 26) X dX3_firstCure_102 (by decide) ?_
                refine g_lv X (lv' := [(0, .ref (ax 0)), (1, .int (nI s)), (2, .int (nI t)), (3, .int ((kRo km) t)), (4, .int (nI (r + 1)))]) [2, 3, 4, 5, 0] rfl ?_
                exact ih26 (r + 1) (by omega) (by rw [hr2, show 6 - r = (6 - (r + 1)) + 1 by omega, fcR, if_neg]; first | (rintro ⟨h1, -⟩; exact h1 c47) | (rintro ⟨-, h2⟩; exact c66 h2)) (by omega)
              · refine g_aload_n (pc := 50) X dX3_firstCure_50 0 rfl ?_
                refine g_get (pc := 51) X (v := .ref (am 0)) fl_X3_16 dX3_firstCure_51 0 0 rfl rfl rfl ?_
                refine g_aload_n (pc := 54) X dX3_firstCure_54 0 rfl ?_
                refine g_get (pc := 55) X (v := .ref (an 0)) fl_X3_10 dX3_firstCure_55 0 0 rfl rfl rfl ?_
                refine g_get (pc := 58) X (v := .int (nI (kHr k))) fl_X3_112 dX3_firstCure_58 1 0 rfl rfl rfl ?_
                refine g_callV (pc := 61) (rest := []) (ss' := [wX cy ax an am ak aT ag ik mc od mv rf, wH cy an k, wH cy am (sRo km (upd (kRo km) t (nI r)))]) X (c_X1_firstSin l D cy am (sRo km (upd (kRo km) t (nI r))) (kHr k) (by first | assumption | omega) (HRo_upd hr c30) (by first | assumption | omega)) vl_X3_124 dX3_firstCure_61 [2] 2 0 rfl rfl rfl rfl rfl rfl rfl rfl rfl rfl rfl rfl rfl ⟨Nat.zero_le _, Nat.zero_le _⟩ ?_
                refine g_bipush (v := (-9)) (pc := 64) X dX3_firstCure_64 (by decide) ?_
                refine g_icmp_ne (pc := 66) (tgt := 73) X dX3_firstCure_66 (by decide) (fun c66 => ?_) (fun c66 => ?_)
                · refine g_iconst (v := 0) (pc := 73) X dX3_firstCure_73 (by decide) ?_
                  refine g_istore (lv' := [(5, .int (0)), (0, .ref (ax 0)), (1, .int (nI s)), (2, .int (nI t)), (3, .int ((kRo km) t)), (4, .int (nI r))]) (pc := 74) X dX3_firstCure_74 rfl rfl ?_
                  refine g_aload_n (pc := 76) X dX3_firstCure_76 1 rfl ?_
                  refine g_get (pc := 77) X (v := .ref (am 0)) fl_X3_16 dX3_firstCure_77 0 0 rfl rfl rfl ?_
                  refine g_get (pc := 80) X (v := .ref (am 6)) fl_X3_83 dX3_firstCure_80 2 0 rfl rfl rfl ?_
                  refine g_iload_n (pc := 83) X dX3_firstCure_83 3 rfl ?_
                  refine g_iload_n (pc := 84) X dX3_firstCure_84 4 rfl ?_
                  refine g_iast_n (pc := 85) X (ss' := [wX cy ax an am ak aT ag ik mc od mv rf, wH cy an k, wH cy am (sRo km (upd (upd (kRo km) t (nI r)) t ((kRo km) t)))]) 2 6 dX3_firstCure_85 t rfl rfl rfl (by omega) rfl rfl ?_
                  refine g_eq X (ss' := [wX cy ax an am ak aT ag ik mc od mv rf, wH cy an k, wH cy am km]) (by rw [upd_u, upd_self] <;> rfl) ?_
                  refine g_iload (pc := 86) X dX3_firstCure_86 0 rfl ?_
                  refine g_if_eq (pc := 88) (tgt := 99) X dX3_firstCure_88 (by decide) (fun c88 => ?_) (fun c88 => by exact absurd c88 (by decide))
                  refine g_iinc (v := nI (r + 1)) (lv' := [(4, .int (nI (r + 1))), (5, .int (0)), (0, .ref (ax 0)), (1, .int (nI s)), (2, .int (nI t)), (3, .int ((kRo km) t))]) (pc := 99) X dX3_firstCure_99 5 rfl (nI_1 r) rfl rfl ?_
                  refine g_goto (pc := 102) (tgt := 26) X dX3_firstCure_102 (by decide) ?_
                  refine g_lv X (lv' := [(0, .ref (ax 0)), (1, .int (nI s)), (2, .int (nI t)), (3, .int ((kRo km) t)), (4, .int (nI (r + 1)))]) [2, 3, 4, 5, 0] rfl ?_
                  exact ih26 (r + 1) (by omega) (by rw [hr2, show 6 - r = (6 - (r + 1)) + 1 by omega, fcR, if_neg]; first | (rintro ⟨h1, -⟩; exact h1 c47) | (rintro ⟨-, h2⟩; exact c66 h2)) (by omega)
                · refine g_iconst (v := 1) (pc := 69) X dX3_firstCure_69 (by decide) ?_
                  refine g_goto (pc := 70) (tgt := 74) X dX3_firstCure_70 (by decide) ?_
                  refine g_istore (lv' := [(5, .int (1)), (0, .ref (ax 0)), (1, .int (nI s)), (2, .int (nI t)), (3, .int ((kRo km) t)), (4, .int (nI r))]) (pc := 74) X dX3_firstCure_74 rfl rfl ?_
                  refine g_aload_n (pc := 76) X dX3_firstCure_76 1 rfl ?_
                  refine g_get (pc := 77) X (v := .ref (am 0)) fl_X3_16 dX3_firstCure_77 0 0 rfl rfl rfl ?_
                  refine g_get (pc := 80) X (v := .ref (am 6)) fl_X3_83 dX3_firstCure_80 2 0 rfl rfl rfl ?_
                  refine g_iload_n (pc := 83) X dX3_firstCure_83 3 rfl ?_
                  refine g_iload_n (pc := 84) X dX3_firstCure_84 4 rfl ?_
                  refine g_iast_n (pc := 85) X (ss' := [wX cy ax an am ak aT ag ik mc od mv rf, wH cy an k, wH cy am (sRo km (upd (upd (kRo km) t (nI r)) t ((kRo km) t)))]) 2 6 dX3_firstCure_85 t rfl rfl rfl (by omega) rfl rfl ?_
                  refine g_eq X (ss' := [wX cy ax an am ak aT ag ik mc od mv rf, wH cy an k, wH cy am km]) (by rw [upd_u, upd_self] <;> rfl) ?_
                  refine g_iload (pc := 86) X dX3_firstCure_86 0 rfl ?_
                  refine g_if_eq (pc := 88) (tgt := 99) X dX3_firstCure_88 (by decide) (fun c88 => by exact absurd c88 (by decide)) (fun c88 => ?_)
                  refine g_bipush (v := 10) (pc := 91) X dX3_firstCure_91 (by decide) ?_
                  refine g_iload_n (pc := 93) X dX3_firstCure_93 3 rfl ?_
                  refine g_imul (v := nI (10 * t)) (pc := 94) X dX3_firstCure_94 (pk_mul 10 t) ?_
                  refine g_iload (pc := 95) X dX3_firstCure_95 5 rfl ?_
                  refine g_iadd (v := nI (10 * t + r)) (pc := 97) X dX3_firstCure_97 (nI_add (10 * t) r) ?_
                  have hv : fcR km (kHr k) t 6 0 = nI (10 * t + r) := by rw [hr2, show 6 - r = (6 - (r + 1)) + 1 by omega, fcR, if_pos ⟨c47, c66⟩]
                  exact g_iret (pc := 98) X rfl dX3_firstCure_98 rfl (by rw [hq, show kNt km - t = (kNt km - (t + 1)) + 1 by omega, fcT, if_neg (by rw [hv]; exact nI_n9 (by omega)), hv]) rfl
        refine g_lv X (lv' := [(0, .ref (ax 0)), (1, .int (nI s)), (2, .int (nI t)), (3, .int ((kRo km) t)), (4, .int (0))]) [2, 3, 4, 1, 0] rfl ?_
        exact L26_2 (6 - 0 + 1) 0 (Nat.zero_le _) rfl (Nat.lt_succ_self _)
  refine g_lv X (lv' := [(0, .ref (ax 0)), (1, .int (nI s)), (2, .int (nI s))]) [1, 2, 0] rfl ?_
  exact L2_1 (8 - s + 1) s hs rfl (Nat.lt_succ_self _)
set_option maxRecDepth 100000 in
set_option maxHeartbeats 4000000 in
theorem c_X3_twoCure (l : Launch) (D : va_G) (cy : ClassId) (ax : Nat → Nat) (an : Nat → Nat) (am : Nat → Nat) (ak : Nat → Nat) (aT : Nat → Nat) (ag : Nat → Nat) (ik : Bool) (mc : Nat) (od : Nat → Int32) (mv : Nat → Int32) (rf : Nat → Int32) (k : KV) (km : KV) (h8 : kNt km ≤ 8) (hr : HRo km) (hh : kHr k < 8) : CtI l yX3_twoCure cX3_twoCure 5 .boolean 5 181 D cy [.ref (ax 0)] [wX cy ax an am ak aT ag ik mc od mv rf, wH cy an k, wH cy am km] [wX cy ax an am ak aT ag ik mc od mv rf, wH cy an k, wH cy am km] (bI (tcK km (kHr k))) := by
  refine ctI_of (by decide +kernel) (Nat.le_of_ble_eq_true rfl) (fun p_ e_ s_ m_ args_ below_ meth_ c_ A_ X => ?_)
  refine g_lv X (lv' := [(0, .ref (ax 0))]) [0] rfl ?_
  refine g_iconst (v := 0) (pc := 0) X dX3_twoCure_0 (by decide) ?_
  refine g_istore_n (lv' := [(1, .int (0)), (0, .ref (ax 0))]) (pc := 1) X dX3_twoCure_1 rfl rfl rfl ?_
  have L2_1 : ∀ (fu_ : Nat) (t : Nat) (ht : t ≤ kNt km) (hq : tcK km (kHr k) = tcT km (kHr k) (kNt km - t) t) (hm : 8 - t < fu_), G p_ l e_ { frames := 5, cells := 0, slots := 0, locals := 181 } s_ m_ args_ below_ meth_ c_ 5 D A_ 0 0 (QI below_ args_ s_ D A_ [wX cy ax an am ak aT ag ik mc od mv rf, wH cy an k, wH cy am km] (bI (tcK km (kHr k)))) [wX cy ax an am ak aT ag ik mc od mv rf, wH cy an k, wH cy am km] 2 [(0, .ref (ax 0)), (1, .int (nI t))] [] := by
    intro fu_
    induction fu_ with
    | zero => intro t ht hq hm; exact absurd hm (Nat.not_lt_zero _)
    | succ fu_ ih =>
      intro t ht hq hm
      have ih2 := ih
      clear ih
      refine g_iload_n (pc := 2) X dX3_twoCure_2 1 rfl ?_
      refine g_aload_n (pc := 3) X dX3_twoCure_3 0 rfl ?_
      refine g_get (pc := 4) X (v := .ref (am 0)) fl_X3_16 dX3_twoCure_4 0 0 rfl rfl rfl ?_
      refine g_get (pc := 7) X (v := .int (nI (kNt km))) fl_X3_115 dX3_twoCure_7 2 0 rfl rfl rfl ?_
      refine g_ncmp_ge (pc := 10) (tgt := 94) X dX3_twoCure_10 (by decide) t (kNt km) rfl rfl (by omega) (by omega) (fun c10 => ?_) (fun c10 => ?_)
      · have n10 := Nat.not_lt.mpr c10
        refine g_iconst (v := 0) (pc := 94) X dX3_twoCure_94 (by decide) ?_
        exact g_iret (pc := 95) X rfl dX3_twoCure_95 rfl (bI_f (by rw [hq, show kNt km - t = 0 by omega]; rfl)) rfl
      · refine g_aload_n (pc := 13) X dX3_twoCure_13 0 rfl ?_
        refine g_get (pc := 14) X (v := .ref (am 0)) fl_X3_16 dX3_twoCure_14 0 0 rfl rfl rfl ?_
        refine g_get (pc := 17) X (v := .ref (am 6)) fl_X3_83 dX3_twoCure_17 2 0 rfl rfl rfl ?_
        refine g_iload_n (pc := 20) X dX3_twoCure_20 1 rfl ?_
        refine g_iald_n (pc := 21) (f := kRo km) X 2 6 dX3_twoCure_21 t rfl rfl rfl (by omega) rfl ?_
        refine g_istore_n (lv' := [(2, .int ((kRo km) t)), (0, .ref (ax 0)), (1, .int (nI t))]) (pc := 22) X dX3_twoCure_22 rfl rfl rfl ?_
        refine g_iconst (v := 0) (pc := 23) X dX3_twoCure_23 (by decide) ?_
        refine g_istore_n (lv' := [(3, .int (0)), (2, .int ((kRo km) t)), (0, .ref (ax 0)), (1, .int (nI t))]) (pc := 24) X dX3_twoCure_24 rfl rfl rfl ?_
        have L25_2 : ∀ (fu_ : Nat) (r : Nat) (hr6 : r ≤ 6) (hr2 : tcR km (kHr k) t 6 0 = tcR km (kHr k) t (6 - r) r) (hm : 6 - r < fu_), G p_ l e_ { frames := 5, cells := 0, slots := 0, locals := 181 } s_ m_ args_ below_ meth_ c_ 5 D A_ 0 0 (QI below_ args_ s_ D A_ [wX cy ax an am ak aT ag ik mc od mv rf, wH cy an k, wH cy am km] (bI (tcK km (kHr k)))) [wX cy ax an am ak aT ag ik mc od mv rf, wH cy an k, wH cy am km] 25 [(0, .ref (ax 0)), (1, .int (nI t)), (2, .int ((kRo km) t)), (3, .int (nI r))] [] := by
          intro fu_
          induction fu_ with
          | zero => intro r hr6 hr2 hm; exact absurd hm (Nat.not_lt_zero _)
          | succ fu_ ih =>
            intro r hr6 hr2 hm
            have ih25 := ih
            clear ih
            refine g_iload_n (pc := 25) X dX3_twoCure_25 3 rfl ?_
            refine g_bipush (v := 6) (pc := 26) X dX3_twoCure_26 (by decide) ?_
            refine g_ncmp_ge (pc := 28) (tgt := 88) X dX3_twoCure_28 (by decide) r 6 rfl rfl (by omega) (by decide) (fun c28 => ?_) (fun c28 => ?_)
            · have n28 := Nat.not_lt.mpr c28
              refine g_iinc (v := nI (t + 1)) (lv' := [(1, .int (nI (t + 1))), (0, .ref (ax 0)), (2, .int ((kRo km) t)), (3, .int (nI r))]) (pc := 88) X dX3_twoCure_88 1 rfl (nI_1 t) rfl rfl ?_
              refine g_goto (pc := 91) (tgt := 2) X dX3_twoCure_91 (by decide) ?_
              refine g_lv X (lv' := [(0, .ref (ax 0)), (1, .int (nI (t + 1)))]) [1, 0] rfl ?_
              exact ih2 (t + 1) (by omega) (by rw [hq, show kNt km - t = (kNt km - (t + 1)) + 1 by omega, tcT, if_neg (by rw [hr2, show 6 - r = 0 by omega]; exact Bool.false_ne_true)]) (by omega)
            · refine g_aload_n (pc := 31) X dX3_twoCure_31 0 rfl ?_
              refine g_get (pc := 32) X (v := .ref (am 0)) fl_X3_16 dX3_twoCure_32 0 0 rfl rfl rfl ?_
              refine g_get (pc := 35) X (v := .ref (am 6)) fl_X3_83 dX3_twoCure_35 2 0 rfl rfl rfl ?_
              refine g_iload_n (pc := 38) X dX3_twoCure_38 1 rfl ?_
              refine g_iload_n (pc := 39) X dX3_twoCure_39 3 rfl ?_
              refine g_iast_n (pc := 40) X (ss' := [wX cy ax an am ak aT ag ik mc od mv rf, wH cy an k, wH cy am (sRo km (upd (kRo km) t (nI r)))]) 2 6 dX3_twoCure_40 t rfl rfl rfl (by omega) rfl rfl ?_
              refine g_iload_n (pc := 41) X dX3_twoCure_41 3 rfl ?_
              refine g_iload_n (pc := 42) X dX3_twoCure_42 2 rfl ?_
              refine g_icmp_eq (pc := 43) (tgt := 62) X dX3_twoCure_43 (by decide) (fun c43 => ?_) (fun c43 => ?_)
              · refine g_iconst (v := 0) (pc := 62) X dX3_twoCure_62 (by decide) ?_
                refine g_istore (lv' := [(4, .int (0)), (0, .ref (ax 0)), (1, .int (nI t)), (2, .int ((kRo km) t)), (3, .int (nI r))]) (pc := 63) X dX3_twoCure_63 rfl rfl ?_
                refine g_aload_n (pc := 65) X dX3_twoCure_65 1 rfl ?_
                refine g_get (pc := 66) X (v := .ref (am 0)) fl_X3_16 dX3_twoCure_66 0 0 rfl rfl rfl ?_
                refine g_get (pc := 69) X (v := .ref (am 6)) fl_X3_83 dX3_twoCure_69 2 0 rfl rfl rfl ?_
                refine g_iload_n (pc := 72) X dX3_twoCure_72 2 rfl ?_
                refine g_iload_n (pc := 73) X dX3_twoCure_73 3 rfl ?_
                refine g_iast_n (pc := 74) X (ss' := [wX cy ax an am ak aT ag ik mc od mv rf, wH cy an k, wH cy am (sRo km (upd (upd (kRo km) t (nI r)) t ((kRo km) t)))]) 2 6 dX3_twoCure_74 t rfl rfl rfl (by omega) rfl rfl ?_
                refine g_eq X (ss' := [wX cy ax an am ak aT ag ik mc od mv rf, wH cy an k, wH cy am km]) (by rw [upd_u, upd_self] <;> rfl) ?_
                refine g_iload (pc := 75) X dX3_twoCure_75 0 rfl ?_
                refine g_if_eq (pc := 77) (tgt := 82) X dX3_twoCure_77 (by decide) (fun c77 => ?_) (fun c77 => by exact absurd c77 (by decide))
                refine g_iinc (v := nI (r + 1)) (lv' := [(3, .int (nI (r + 1))), (4, .int (0)), (0, .ref (ax 0)), (1, .int (nI t)), (2, .int ((kRo km) t))]) (pc := 82) X dX3_twoCure_82 4 rfl (nI_1 r) rfl rfl ?_
                refine g_goto (pc := 85) (tgt := 25) X dX3_twoCure_85 (by decide) ?_
                refine g_lv X (lv' := [(0, .ref (ax 0)), (1, .int (nI t)), (2, .int ((kRo km) t)), (3, .int (nI (r + 1)))]) [2, 3, 4, 0] rfl ?_
                exact ih25 (r + 1) (by omega) (by rw [hr2, show 6 - r = (6 - (r + 1)) + 1 by omega, tcR, if_neg]; first | (rintro ⟨h1, -⟩; exact h1 c43) | (rintro ⟨-, h2⟩; exact h2 c55)) (by omega)
              · refine g_aload_n (pc := 46) X dX3_twoCure_46 0 rfl ?_
                refine g_iload_n (pc := 47) X dX3_twoCure_47 1 rfl ?_
                refine g_iconst (v := 1) (pc := 48) X dX3_twoCure_48 (by decide) ?_
                refine g_iadd (v := nI (t + 1)) (pc := 49) X dX3_twoCure_49 (nI_add t 1) ?_
                refine g_callV (pc := 50) (rest := []) (ss' := [wX cy ax an am ak aT ag ik mc od mv rf, wH cy an k, wH cy am (sRo km (upd (kRo km) t (nI r)))]) X (c_X3_firstCure l D cy ax an am ak aT ag ik mc od mv rf k (sRo km (upd (kRo km) t (nI r))) (t + 1) (by first | assumption | omega) (HRo_upd hr c28) (by first | assumption | omega) (by first | assumption | omega)) vl_X3_139 dX3_twoCure_50 [0, 1, 2] 0 0 rfl rfl rfl rfl rfl rfl rfl rfl rfl rfl rfl rfl rfl ⟨Nat.zero_le _, Nat.zero_le _⟩ ?_
                refine g_bipush (v := (-9)) (pc := 53) X dX3_twoCure_53 (by decide) ?_
                refine g_icmp_eq (pc := 55) (tgt := 62) X dX3_twoCure_55 (by decide) (fun c55 => ?_) (fun c55 => ?_)
                · refine g_iconst (v := 0) (pc := 62) X dX3_twoCure_62 (by decide) ?_
                  refine g_istore (lv' := [(4, .int (0)), (0, .ref (ax 0)), (1, .int (nI t)), (2, .int ((kRo km) t)), (3, .int (nI r))]) (pc := 63) X dX3_twoCure_63 rfl rfl ?_
                  refine g_aload_n (pc := 65) X dX3_twoCure_65 1 rfl ?_
                  refine g_get (pc := 66) X (v := .ref (am 0)) fl_X3_16 dX3_twoCure_66 0 0 rfl rfl rfl ?_
                  refine g_get (pc := 69) X (v := .ref (am 6)) fl_X3_83 dX3_twoCure_69 2 0 rfl rfl rfl ?_
                  refine g_iload_n (pc := 72) X dX3_twoCure_72 2 rfl ?_
                  refine g_iload_n (pc := 73) X dX3_twoCure_73 3 rfl ?_
                  refine g_iast_n (pc := 74) X (ss' := [wX cy ax an am ak aT ag ik mc od mv rf, wH cy an k, wH cy am (sRo km (upd (upd (kRo km) t (nI r)) t ((kRo km) t)))]) 2 6 dX3_twoCure_74 t rfl rfl rfl (by omega) rfl rfl ?_
                  refine g_eq X (ss' := [wX cy ax an am ak aT ag ik mc od mv rf, wH cy an k, wH cy am km]) (by rw [upd_u, upd_self] <;> rfl) ?_
                  refine g_iload (pc := 75) X dX3_twoCure_75 0 rfl ?_
                  refine g_if_eq (pc := 77) (tgt := 82) X dX3_twoCure_77 (by decide) (fun c77 => ?_) (fun c77 => by exact absurd c77 (by decide))
                  refine g_iinc (v := nI (r + 1)) (lv' := [(3, .int (nI (r + 1))), (4, .int (0)), (0, .ref (ax 0)), (1, .int (nI t)), (2, .int ((kRo km) t))]) (pc := 82) X dX3_twoCure_82 4 rfl (nI_1 r) rfl rfl ?_
                  refine g_goto (pc := 85) (tgt := 25) X dX3_twoCure_85 (by decide) ?_
                  refine g_lv X (lv' := [(0, .ref (ax 0)), (1, .int (nI t)), (2, .int ((kRo km) t)), (3, .int (nI (r + 1)))]) [2, 3, 4, 0] rfl ?_
                  exact ih25 (r + 1) (by omega) (by rw [hr2, show 6 - r = (6 - (r + 1)) + 1 by omega, tcR, if_neg]; first | (rintro ⟨h1, -⟩; exact h1 c43) | (rintro ⟨-, h2⟩; exact h2 c55)) (by omega)
                · refine g_iconst (v := 1) (pc := 58) X dX3_twoCure_58 (by decide) ?_
                  refine g_goto (pc := 59) (tgt := 63) X dX3_twoCure_59 (by decide) ?_
                  refine g_istore (lv' := [(4, .int (1)), (0, .ref (ax 0)), (1, .int (nI t)), (2, .int ((kRo km) t)), (3, .int (nI r))]) (pc := 63) X dX3_twoCure_63 rfl rfl ?_
                  refine g_aload_n (pc := 65) X dX3_twoCure_65 1 rfl ?_
                  refine g_get (pc := 66) X (v := .ref (am 0)) fl_X3_16 dX3_twoCure_66 0 0 rfl rfl rfl ?_
                  refine g_get (pc := 69) X (v := .ref (am 6)) fl_X3_83 dX3_twoCure_69 2 0 rfl rfl rfl ?_
                  refine g_iload_n (pc := 72) X dX3_twoCure_72 2 rfl ?_
                  refine g_iload_n (pc := 73) X dX3_twoCure_73 3 rfl ?_
                  refine g_iast_n (pc := 74) X (ss' := [wX cy ax an am ak aT ag ik mc od mv rf, wH cy an k, wH cy am (sRo km (upd (upd (kRo km) t (nI r)) t ((kRo km) t)))]) 2 6 dX3_twoCure_74 t rfl rfl rfl (by omega) rfl rfl ?_
                  refine g_eq X (ss' := [wX cy ax an am ak aT ag ik mc od mv rf, wH cy an k, wH cy am km]) (by rw [upd_u, upd_self] <;> rfl) ?_
                  refine g_iload (pc := 75) X dX3_twoCure_75 0 rfl ?_
                  refine g_if_eq (pc := 77) (tgt := 82) X dX3_twoCure_77 (by decide) (fun c77 => by exact absurd c77 (by decide)) (fun c77 => ?_)
                  refine g_iconst (v := 1) (pc := 80) X dX3_twoCure_80 (by decide) ?_
                  exact g_iret (pc := 81) X rfl dX3_twoCure_81 rfl (bI_t (by rw [hq, show kNt km - t = (kNt km - (t + 1)) + 1 by omega, tcT, if_pos]; rw [hr2, show 6 - r = (6 - (r + 1)) + 1 by omega, tcR, if_pos ⟨c43, c55⟩])) rfl
        refine g_lv X (lv' := [(0, .ref (ax 0)), (1, .int (nI t)), (2, .int ((kRo km) t)), (3, .int (0))]) [2, 3, 1, 0] rfl ?_
        exact L25_2 (6 - 0 + 1) 0 (Nat.zero_le _) rfl (Nat.lt_succ_self _)
  refine g_lv X (lv' := [(0, .ref (ax 0)), (1, .int (0))]) [1, 0] rfl ?_
  exact L2_1 (8 - 0 + 1) 0 (Nat.zero_le _) rfl (Nat.lt_succ_self _)
set_option maxRecDepth 100000 in
set_option maxHeartbeats 4000000 in
theorem c_X3_moved (l : Launch) (D : va_G) (cy : ClassId) (ax : Nat → Nat) (an : Nat → Nat) (am : Nat → Nat) (ak : Nat → Nat) (aT : Nat → Nat) (ag : Nat → Nat) (ik : Bool) (mc : Nat) (od : Nat → Int32) (mv : Nat → Int32) (rf : Nat → Int32) (k : KV) (km : KV) (w : Int32) (hw : KW k) : CtIE l yX3_moved cX3_moved 3 .int 6 205 D cy [.ref (ax 0), .int (w)] [wX cy ax an am ak aT ag ik mc od mv rf, wH cy an k, wH cy am km] (fun (u_ : (KV)) => [wX cy ax an am ak aT ag ik mc od mv (rfB (moB w) rf (moA k w)), wH cy an k, wH cy am u_]) (moA k w) := by
  refine ctIE_of (by decide +kernel) (Nat.le_of_ble_eq_true rfl) (fun p_ e_ s_ m_ args_ below_ meth_ c_ A_ X => ?_)
  refine g_lv X (lv' := [(0, .ref (ax 0)), (1, .int (w))]) [0, 1] rfl ?_
  refine g_iload_n (pc := 0) X dX3_moved_0 1 rfl ?_
  refine g_if_eq (pc := 1) (tgt := 16) X dX3_moved_1 (by decide) (fun c1 => ?_) (fun c1 => ?_)
  · refine g_aload_n (pc := 16) X dX3_moved_16 0 rfl ?_
    refine g_get (pc := 17) X (v := .ref (an 0)) fl_X3_10 dX3_moved_17 0 0 rfl rfl rfl ?_
    refine g_aload_n (pc := 20) X dX3_moved_20 0 rfl ?_
    refine g_get (pc := 21) X (v := .ref (an 0)) fl_X3_10 dX3_moved_21 0 0 rfl rfl rfl ?_
    refine g_get (pc := 24) X (v := .int (nI (kHr k))) fl_X3_112 dX3_moved_24 1 0 rfl rfl rfl ?_
    refine g_callV (pc := 27) (rest := []) (ss' := [wX cy ax an am ak aT ag ik mc od mv rf, wH cy an k, wH cy am km]) X (c_X1_firstSin l D cy an k (kHr k) hw.2.2.2.2.2.1 hw.2.2.2.1 hw.2.2.2.2.2.2.1) vl_X3_124 dX3_moved_27 [1] 1 0 rfl rfl rfl rfl rfl rfl rfl rfl rfl rfl rfl rfl rfl ⟨Nat.zero_le _, Nat.zero_le _⟩ ?_
    refine g_bipush (v := (-9)) (pc := 30) X dX3_moved_30 (by decide) ?_
    refine g_icmp_ne (pc := 32) (tgt := 46) X dX3_moved_32 (by decide) (fun c32 => ?_) (fun c32 => ?_)
    · refine g_aload_n (pc := 46) X dX3_moved_46 0 rfl ?_
      refine g_get (pc := 47) X (v := .ref (am 0)) fl_X3_16 dX3_moved_47 0 0 rfl rfl rfl ?_
      refine g_aload_n (pc := 50) X dX3_moved_50 0 rfl ?_
      refine g_get (pc := 51) X (v := .ref (an 0)) fl_X3_10 dX3_moved_51 0 0 rfl rfl rfl ?_
      refine g_callVv (pc := 54) (rest := []) (ss' := [wX cy ax an am ak aT ag ik mc od mv rf, wH cy an k, wH cy am k]) X (c_X1_become l D cy am an km k ) vl_X3_68 dX3_moved_54 [2, 1] 2 0 rfl rfl rfl rfl rfl rfl (ads_c (ads_H _ _ _ _ _ _ _ _) (ads_c (ads_H _ _ _ _ _ _ _ _) rfl)) rfl rfl rfl rfl rfl rfl ⟨Nat.zero_le _, Nat.zero_le _⟩ ?_
      refine g_aload_n (pc := 57) X dX3_moved_57 0 rfl ?_
      refine g_iconst (v := 0) (pc := 58) X dX3_moved_58 (by decide) ?_
      refine g_callV (pc := 59) (rest := []) (ss' := [wX cy ax an am ak aT ag ik mc od mv rf, wH cy an k, wH cy am k]) X (c_X3_firstCure l D cy ax an am ak aT ag ik mc od mv rf k k 0 hw.2.2.2.2.2.1 hw.2.2.2.1 hw.2.2.2.2.2.2.1 (Nat.zero_le _)) vl_X3_139 dX3_moved_59 [0, 1, 2] 0 0 rfl rfl rfl rfl rfl rfl rfl rfl rfl rfl rfl rfl rfl ⟨Nat.zero_le _, Nat.zero_le _⟩ ?_
      refine g_istore_n (lv' := [(2, .int (fcK k (kHr k) 0)), (0, .ref (ax 0)), (1, .int (w))]) (pc := 62) X dX3_moved_62 rfl rfl rfl ?_
      refine g_iload_n (pc := 63) X dX3_moved_63 2 rfl ?_
      refine g_iconst (v := 1) (pc := 64) X dX3_moved_64 (by decide) ?_
      refine g_icmp_ne (pc := 65) (tgt := 70) X dX3_moved_65 (by decide) (fun c65 => ?_) (fun c65 => ?_)
      · refine g_iload_n (pc := 70) X dX3_moved_70 0 rfl ?_
        refine g_bipush (v := (-9)) (pc := 71) X dX3_moved_71 (by decide) ?_
        refine g_icmp_eq (pc := 73) (tgt := 78) X dX3_moved_73 (by decide) (fun c73 => ?_) (fun c73 => ?_)
        · refine g_aload_n (pc := 78) X dX3_moved_78 1 rfl ?_
          refine g_callV (pc := 79) (rest := []) (ss' := [wX cy ax an am ak aT ag ik mc od mv rf, wH cy an k, wH cy am k]) X (c_X3_twoCure l D cy ax an am ak aT ag ik mc od mv rf k k hw.2.2.2.2.2.1 hw.2.2.2.1 hw.2.2.2.2.2.2.1) vl_X3_142 dX3_moved_79 [0, 1, 2] 0 0 rfl rfl rfl rfl rfl rfl rfl rfl rfl rfl rfl rfl rfl ⟨Nat.zero_le _, Nat.zero_le _⟩ ?_
          refine g_bif_eq (pc := 82) (tgt := 89) X dX3_moved_82 (by decide) (fun c82 => ?_) (fun c82 => ?_)
          · refine g_bipush (v := (-9)) (pc := 89) X dX3_moved_89 (by decide) ?_
            exact g_iretE (pc := 91) X (k) rfl dX3_moved_91 rfl (by first | (simp [moA, moB, *]; done) | exact absurd (c1.symm.trans c65) (by decide) | exact absurd c1 c36 | exact absurd c36 c1 | exact absurd c6 c65 | (simp [moA, moB, *]; done)) (by simp [moA, moB, rfB, *])
          · refine g_iconst (v := 2) (pc := 85) X dX3_moved_85 (by decide) ?_
            refine g_goto (pc := 86) (tgt := 91) X dX3_moved_86 (by decide) ?_
            exact g_iretE (pc := 91) X (k) rfl dX3_moved_91 rfl (by first | (simp [moA, moB, *]; done) | exact absurd (c1.symm.trans c65) (by decide) | exact absurd c1 c36 | exact absurd c36 c1 | exact absurd c6 c65 | (simp [moA, moB, *]; done)) (by simp [moA, moB, rfB, *])
        · refine g_iconst (v := 1) (pc := 76) X dX3_moved_76 (by decide) ?_
          exact g_iretE (pc := 77) X (k) rfl dX3_moved_77 rfl (by first | (simp [moA, moB, *]; done) | exact absurd (c1.symm.trans c65) (by decide) | exact absurd c1 c36 | exact absurd c36 c1 | exact absurd c6 c65 | (simp [moA, moB, *]; done)) (by simp [moA, moB, rfB, *])
      · refine g_iload_n (pc := 68) X dX3_moved_68 0 rfl ?_
        exact g_iretE (pc := 69) X (k) rfl dX3_moved_69 rfl (by first | (simp [moA, moB, *]; done) | exact absurd (c1.symm.trans c65) (by decide) | exact absurd c1 c36 | exact absurd c36 c1 | exact absurd c6 c65 | (simp [moA, moB, *]; done)) (by simp [moA, moB, rfB, *])
    · refine g_iload_n (pc := 35) X dX3_moved_35 1 rfl ?_
      refine g_if_ne (pc := 36) (tgt := 43) X dX3_moved_36 (by decide) (fun c36 => ?_) (fun c36 => ?_)
      · refine g_bipush (v := (-9)) (pc := 43) X dX3_moved_43 (by decide) ?_
        exact g_iretE (pc := 45) X (km) rfl dX3_moved_45 rfl (by first | (simp [moA, moB, *]; done) | exact absurd (c1.symm.trans c65) (by decide) | exact absurd c1 c36 | exact absurd c36 c1 | exact absurd c6 c65 | (simp [moA, moB, *]; done)) (by simp [moA, moB, rfB, *])
      · refine g_iconst (v := 0) (pc := 39) X dX3_moved_39 (by decide) ?_
        refine g_goto (pc := 40) (tgt := 45) X dX3_moved_40 (by decide) ?_
        exact g_iretE (pc := 45) X (km) rfl dX3_moved_45 rfl (by first | (simp [moA, moB, *]; done) | exact absurd (c1.symm.trans c65) (by decide) | exact absurd c1 c36 | exact absurd c36 c1 | exact absurd c6 c65 | (simp [moA, moB, *]; done)) (by simp [moA, moB, rfB, *])
  · refine g_iload_n (pc := 4) X dX3_moved_4 1 rfl ?_
    refine g_iconst (v := 1) (pc := 5) X dX3_moved_5 (by decide) ?_
    refine g_icmp_eq (pc := 6) (tgt := 16) X dX3_moved_6 (by decide) (fun c6 => ?_) (fun c6 => ?_)
    · refine g_aload_n (pc := 16) X dX3_moved_16 0 rfl ?_
      refine g_get (pc := 17) X (v := .ref (an 0)) fl_X3_10 dX3_moved_17 0 0 rfl rfl rfl ?_
      refine g_aload_n (pc := 20) X dX3_moved_20 0 rfl ?_
      refine g_get (pc := 21) X (v := .ref (an 0)) fl_X3_10 dX3_moved_21 0 0 rfl rfl rfl ?_
      refine g_get (pc := 24) X (v := .int (nI (kHr k))) fl_X3_112 dX3_moved_24 1 0 rfl rfl rfl ?_
      refine g_callV (pc := 27) (rest := []) (ss' := [wX cy ax an am ak aT ag ik mc od mv rf, wH cy an k, wH cy am km]) X (c_X1_firstSin l D cy an k (kHr k) hw.2.2.2.2.2.1 hw.2.2.2.1 hw.2.2.2.2.2.2.1) vl_X3_124 dX3_moved_27 [1] 1 0 rfl rfl rfl rfl rfl rfl rfl rfl rfl rfl rfl rfl rfl ⟨Nat.zero_le _, Nat.zero_le _⟩ ?_
      refine g_bipush (v := (-9)) (pc := 30) X dX3_moved_30 (by decide) ?_
      refine g_icmp_ne (pc := 32) (tgt := 46) X dX3_moved_32 (by decide) (fun c32 => ?_) (fun c32 => ?_)
      · refine g_aload_n (pc := 46) X dX3_moved_46 0 rfl ?_
        refine g_get (pc := 47) X (v := .ref (am 0)) fl_X3_16 dX3_moved_47 0 0 rfl rfl rfl ?_
        refine g_aload_n (pc := 50) X dX3_moved_50 0 rfl ?_
        refine g_get (pc := 51) X (v := .ref (an 0)) fl_X3_10 dX3_moved_51 0 0 rfl rfl rfl ?_
        refine g_callVv (pc := 54) (rest := []) (ss' := [wX cy ax an am ak aT ag ik mc od mv rf, wH cy an k, wH cy am k]) X (c_X1_become l D cy am an km k ) vl_X3_68 dX3_moved_54 [2, 1] 2 0 rfl rfl rfl rfl rfl rfl (ads_c (ads_H _ _ _ _ _ _ _ _) (ads_c (ads_H _ _ _ _ _ _ _ _) rfl)) rfl rfl rfl rfl rfl rfl ⟨Nat.zero_le _, Nat.zero_le _⟩ ?_
        refine g_aload_n (pc := 57) X dX3_moved_57 0 rfl ?_
        refine g_iconst (v := 0) (pc := 58) X dX3_moved_58 (by decide) ?_
        refine g_callV (pc := 59) (rest := []) (ss' := [wX cy ax an am ak aT ag ik mc od mv rf, wH cy an k, wH cy am k]) X (c_X3_firstCure l D cy ax an am ak aT ag ik mc od mv rf k k 0 hw.2.2.2.2.2.1 hw.2.2.2.1 hw.2.2.2.2.2.2.1 (Nat.zero_le _)) vl_X3_139 dX3_moved_59 [0, 1, 2] 0 0 rfl rfl rfl rfl rfl rfl rfl rfl rfl rfl rfl rfl rfl ⟨Nat.zero_le _, Nat.zero_le _⟩ ?_
        refine g_istore_n (lv' := [(2, .int (fcK k (kHr k) 0)), (0, .ref (ax 0)), (1, .int (w))]) (pc := 62) X dX3_moved_62 rfl rfl rfl ?_
        refine g_iload_n (pc := 63) X dX3_moved_63 2 rfl ?_
        refine g_iconst (v := 1) (pc := 64) X dX3_moved_64 (by decide) ?_
        refine g_icmp_ne (pc := 65) (tgt := 70) X dX3_moved_65 (by decide) (fun c65 => ?_) (fun c65 => ?_)
        · refine g_iload_n (pc := 70) X dX3_moved_70 0 rfl ?_
          refine g_bipush (v := (-9)) (pc := 71) X dX3_moved_71 (by decide) ?_
          refine g_icmp_eq (pc := 73) (tgt := 78) X dX3_moved_73 (by decide) (fun c73 => ?_) (fun c73 => ?_)
          · refine g_aload_n (pc := 78) X dX3_moved_78 1 rfl ?_
            refine g_callV (pc := 79) (rest := []) (ss' := [wX cy ax an am ak aT ag ik mc od mv rf, wH cy an k, wH cy am k]) X (c_X3_twoCure l D cy ax an am ak aT ag ik mc od mv rf k k hw.2.2.2.2.2.1 hw.2.2.2.1 hw.2.2.2.2.2.2.1) vl_X3_142 dX3_moved_79 [0, 1, 2] 0 0 rfl rfl rfl rfl rfl rfl rfl rfl rfl rfl rfl rfl rfl ⟨Nat.zero_le _, Nat.zero_le _⟩ ?_
            refine g_bif_eq (pc := 82) (tgt := 89) X dX3_moved_82 (by decide) (fun c82 => ?_) (fun c82 => ?_)
            · refine g_bipush (v := (-9)) (pc := 89) X dX3_moved_89 (by decide) ?_
              exact g_iretE (pc := 91) X (k) rfl dX3_moved_91 rfl (by first | (simp [moA, moB, *]; done) | exact absurd (c1.symm.trans c65) (by decide) | exact absurd c1 c36 | exact absurd c36 c1 | exact absurd c6 c65 | (simp [moA, moB, *]; done)) (by simp [moA, moB, rfB, *])
            · refine g_iconst (v := 2) (pc := 85) X dX3_moved_85 (by decide) ?_
              refine g_goto (pc := 86) (tgt := 91) X dX3_moved_86 (by decide) ?_
              exact g_iretE (pc := 91) X (k) rfl dX3_moved_91 rfl (by first | (simp [moA, moB, *]; done) | exact absurd (c1.symm.trans c65) (by decide) | exact absurd c1 c36 | exact absurd c36 c1 | exact absurd c6 c65 | (simp [moA, moB, *]; done)) (by simp [moA, moB, rfB, *])
          · refine g_iconst (v := 1) (pc := 76) X dX3_moved_76 (by decide) ?_
            exact g_iretE (pc := 77) X (k) rfl dX3_moved_77 rfl (by first | (simp [moA, moB, *]; done) | exact absurd (c1.symm.trans c65) (by decide) | exact absurd c1 c36 | exact absurd c36 c1 | exact absurd c6 c65 | (simp [moA, moB, *]; done)) (by simp [moA, moB, rfB, *])
        · refine g_iload_n (pc := 68) X dX3_moved_68 0 rfl ?_
          exact g_iretE (pc := 69) X (k) rfl dX3_moved_69 rfl (by first | (simp [moA, moB, *]; done) | exact absurd (c1.symm.trans c65) (by decide) | exact absurd c1 c36 | exact absurd c36 c1 | exact absurd c6 c65 | (simp [moA, moB, *]; done)) (by simp [moA, moB, rfB, *])
      · refine g_iload_n (pc := 35) X dX3_moved_35 1 rfl ?_
        refine g_if_ne (pc := 36) (tgt := 43) X dX3_moved_36 (by decide) (fun c36 => ?_) (fun c36 => ?_)
        · refine g_bipush (v := (-9)) (pc := 43) X dX3_moved_43 (by decide) ?_
          exact g_iretE (pc := 45) X (km) rfl dX3_moved_45 rfl (by first | (simp [moA, moB, *]; done) | exact absurd (c1.symm.trans c65) (by decide) | exact absurd c1 c36 | exact absurd c36 c1 | exact absurd c6 c65 | (simp [moA, moB, *]; done)) (by simp [moA, moB, rfB, *])
        · refine g_iconst (v := 0) (pc := 39) X dX3_moved_39 (by decide) ?_
          refine g_goto (pc := 40) (tgt := 45) X dX3_moved_40 (by decide) ?_
          exact g_iretE (pc := 45) X (km) rfl dX3_moved_45 rfl (by first | (simp [moA, moB, *]; done) | exact absurd (c1.symm.trans c65) (by decide) | exact absurd c1 c36 | exact absurd c36 c1 | exact absurd c6 c65 | (simp [moA, moB, *]; done)) (by simp [moA, moB, rfB, *])
    · refine g_aload_n (pc := 9) X dX3_moved_9 0 rfl ?_
      refine g_bipush (v := (-2)) (pc := 10) X dX3_moved_10 (by decide) ?_
      refine g_callV (pc := 12) (rest := []) (ss' := [wX cy ax an am ak aT ag ik mc od mv (rfU rf ((-2))), wH cy an k, wH cy am km]) X (c_X3_refuse l D cy ax an am ak aT ag ik mc od mv rf ((-2)) rf_2) vl_X3_58 dX3_moved_12 [0] 0 0 rfl rfl rfl rfl rfl rfl (ads_c (ads_X _ _ _ _ _ _ _ _ _ _ _ _ _ _ _ _ _) rfl) rfl rfl rfl rfl rfl rfl ⟨Nat.zero_le _, Nat.zero_le _⟩ ?_
      exact g_iretE (pc := 15) X (km) rfl dX3_moved_15 rfl (by first | (simp [moA, moB, *]; done) | exact absurd (c1.symm.trans c65) (by decide) | exact absurd c1 c36 | exact absurd c36 c1 | exact absurd c6 c65 | (simp [moA, moB, *]; done)) (by simp [moA, moB, rfB, *])
