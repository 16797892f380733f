set_option maxRecDepth 100000 in
set_option maxHeartbeats 4000000 in
theorem c_X3_outOf (l : Launch) (D : va_G) (cy : ClassId) (v : Int32) (lo : Int32) (hi : Int32) : CtI l yX3_outOf cX3_outOf 3 .int 0 64 D cy [.int (v), .int (lo), .int (hi)] [] [] (ooI v lo hi) := by
  refine ctI_of (by decide +kernel) (Nat.le_of_ble_eq_true rfl) (fun p_ e_ s_ m_ args_ below_ meth_ c_ A_ X => ?_)
  refine g_lv X (lv' := [(0, .int (v)), (1, .int (lo)), (2, .int (hi))]) [0, 1, 2] rfl ?_
  refine g_iload_n (pc := 0) X dX3_outOf_0 0 rfl ?_
  refine g_iload_n (pc := 1) X dX3_outOf_1 1 rfl ?_
  refine g_icmp_ge (pc := 2) (tgt := 8) X dX3_outOf_2 (by decide) (fun c2 => ?_) (fun c2 => ?_)
  · have n2 := Int32.not_lt.mpr c2
    refine g_iload_n (pc := 8) X dX3_outOf_8 0 rfl ?_
    refine g_iload_n (pc := 9) X dX3_outOf_9 2 rfl ?_
    refine g_icmp_le (pc := 10) (tgt := 18) X dX3_outOf_10 (by decide) (fun c10 => ?_) (fun c10 => ?_)
    · have n10 := Int32.not_lt.mpr c10
      refine g_iconst (v := 0) (pc := 18) X dX3_outOf_18 (by decide) ?_
      exact g_iret (pc := 19) X rfl dX3_outOf_19 rfl (by simp [ooI, *]) rfl
    · refine g_bipush (v := (-6)) (pc := 13) X dX3_outOf_13 (by decide) ?_
      refine g_goto (pc := 15) (tgt := 19) X dX3_outOf_15 (by decide) ?_
      exact g_iret (pc := 19) X rfl dX3_outOf_19 rfl (by simp [ooI, *]) rfl
  · refine g_bipush (v := (-4)) (pc := 5) X dX3_outOf_5 (by decide) ?_
    exact g_iret (pc := 7) X rfl dX3_outOf_7 rfl (by simp [ooI, *]) rfl
set_option maxRecDepth 100000 in
set_option maxHeartbeats 4000000 in
theorem c_X3_refuse (l : Launch) (D : va_G) (cy : ClassId) (ax : Nat → Nat) (an : Nat → Nat) (am : Nat → Nat) (ak : Nat → Nat) (aT : Nat → Nat) (ag : Nat → Nat) (ik : Bool) (mc : Nat) (od : Nat → Int32) (mv : Nat → Int32) (rf : Nat → Int32) (x : Int32) (hx : vp_in (-x) 7) : CtI l yX3_refuse cX3_refuse 2 .int 0 64 D cy [.ref (ax 0), .int (x)] [wX cy ax an am ak aT ag ik mc od mv rf] [wX cy ax an am ak aT ag ik mc od mv (rfU rf x)] (x) := by
  refine ctI_of (by decide +kernel) (Nat.le_of_ble_eq_true rfl) (fun p_ e_ s_ m_ args_ below_ meth_ c_ A_ X => ?_)
  refine g_lv X (lv' := [(0, .ref (ax 0)), (1, .int (x))]) [0, 1] rfl ?_
  refine g_aload_n (pc := 0) X dX3_refuse_0 0 rfl ?_
  refine g_get (pc := 1) X (v := .ref (ax 3)) fl_X3_51 dX3_refuse_1 0 0 rfl rfl rfl ?_
  refine g_iload_n (pc := 4) X dX3_refuse_4 1 rfl ?_
  refine g_ineg (v := -x) (pc := 5) X dX3_refuse_5 rfl ?_
  refine g_dup2 (pc := 6) X dX3_refuse_6 rfl rfl ?_
  refine g_iald (pc := 7) (f := rf) X 0 3 dX3_refuse_7 rfl rfl hx ?_
  refine g_iconst (v := 1) (pc := 8) X dX3_refuse_8 (by decide) ?_
  refine g_iadd (v := (rf (ix (-x))) + 1) (pc := 9) X dX3_refuse_9 rfl ?_
  refine g_iast (pc := 10) X (ss' := [wX cy ax an am ak aT ag ik mc od mv (upd rf (ix (-x)) ((rf (ix (-x))) + 1))]) 0 3 dX3_refuse_10 rfl rfl hx rfl ?_
  refine g_iload_n (pc := 11) X dX3_refuse_11 1 rfl ?_
  exact g_iret (pc := 12) X rfl dX3_refuse_12 rfl rfl rfl
set_option maxRecDepth 100000 in
set_option maxHeartbeats 4000000 in
theorem c_X2_put (l : Launch) (D : va_G) (cy : ClassId) (aT : Nat → Nat) (lt : Nat → Int32) (n : Nat) (c : Int32) (hn : n < 80) : CtI l yX2_put cX2_put 2 .int 0 64 D cy [.ref (aT 0), .int (c)] [wT cy aT lt n] [wT cy aT (upd lt n c) (n + 1)] (nI (n + 1)) := by
  refine ctI_of (by decide +kernel) (Nat.le_of_ble_eq_true rfl) (fun p_ e_ s_ m_ args_ below_ meth_ c_ A_ X => ?_)
  refine g_lv X (lv' := [(0, .ref (aT 0)), (1, .int (c))]) [0, 1] rfl ?_
  refine g_aload_n (pc := 0) X dX2_put_0 0 rfl ?_
  refine g_get (pc := 1) X (v := .ref (aT 1)) fl_X2_9 dX2_put_1 0 0 rfl rfl rfl ?_
  refine g_aload_n (pc := 4) X dX2_put_4 0 rfl ?_
  refine g_get (pc := 5) X (v := .int (nI n)) fl_X2_15 dX2_put_5 0 0 rfl rfl rfl ?_
  refine g_iload_n (pc := 8) X dX2_put_8 1 rfl ?_
  refine g_iast_n (pc := 9) X (ss' := [wT cy aT (upd lt n c) n]) 0 1 dX2_put_9 n rfl rfl rfl (by omega) rfl rfl ?_
  refine g_aload_n (pc := 10) X dX2_put_10 0 rfl ?_
  refine g_dup (pc := 11) X dX2_put_11 rfl ?_
  refine g_get (pc := 12) X (v := .int (nI n)) fl_X2_15 dX2_put_12 0 0 rfl rfl rfl ?_
  refine g_iconst (v := 1) (pc := 15) X dX2_put_15 (by decide) ?_
  refine g_iadd (v := nI (n + 1)) (pc := 16) X dX2_put_16 (nI_add n 1) ?_
  refine g_put (pc := 17) X (ss' := [wT cy aT (upd lt n c) (n + 1)]) fp_X2_15 dX2_put_17 0 0 rfl rfl rfl rfl rfl rfl ?_
  refine g_aload_n (pc := 20) X dX2_put_20 0 rfl ?_
  refine g_get (pc := 21) X (v := .int (nI (n + 1))) fl_X2_15 dX2_put_21 0 0 rfl rfl rfl ?_
  exact g_iret (pc := 24) X rfl dX2_put_24 rfl rfl rfl
set_option maxRecDepth 100000 in
set_option maxHeartbeats 4000000 in
theorem c_X3_letter (l : Launch) (D : va_G) (cy : ClassId) (ax : Nat → Nat) (an : Nat → Nat) (am : Nat → Nat) (ak : Nat → Nat) (aT : Nat → Nat) (ag : Nat → Nat) (ik : Bool) (mc : Nat) (od : Nat → Int32) (mv : Nat → Int32) (rf : Nat → Int32) (lt : Nat → Int32) (n : Nat) (c : Int32) (hn : n ≤ 80) : CtI l yX3_letter cX3_letter 3 .int 1 86 D cy [.ref (ax 0), .int (c)] [wX cy ax an am ak aT ag ik mc od mv rf, wT cy aT lt n] [wX cy ax an am ak aT ag ik mc od mv (rfB (lcB n c) rf (lcA n c)), wT cy aT (lcT lt n c) (lcN n c)] (lcA n c) := by
  refine ctI_of (by decide +kernel) (Nat.le_of_ble_eq_true rfl) (fun p_ e_ s_ m_ args_ below_ meth_ c_ A_ X => ?_)
  refine g_lv X (lv' := [(0, .ref (ax 0)), (1, .int (c))]) [0, 1] rfl ?_
  refine g_iload_n (pc := 0) X dX3_letter_0 1 rfl ?_
  refine g_iconst (v := 0) (pc := 1) X dX3_letter_1 (by decide) ?_
  refine g_sipush (v := 255) (pc := 2) X dX3_letter_2 (by decide) ?_
  refine g_callS (pc := 5) (rest := []) X (c_X3_outOf l D cy c 0 255 ) sl_X3_54 dX3_letter_5 rfl rfl rfl rfl rfl ⟨Nat.zero_le _, Nat.zero_le _⟩ ?_
  refine g_istore_n (lv' := [(2, .int (ooI c 0 255)), (0, .ref (ax 0)), (1, .int (c))]) (pc := 8) X dX3_letter_8 rfl rfl rfl ?_
  refine g_iload_n (pc := 9) X dX3_letter_9 0 rfl ?_
  refine g_if_eq (pc := 10) (tgt := 19) X dX3_letter_10 (by decide) (fun c10 => ?_) (fun c10 => ?_)
  · refine g_aload_n (pc := 19) X dX3_letter_19 1 rfl ?_
    refine g_get (pc := 20) X (v := .ref (aT 0)) fl_X3_29 dX3_letter_20 0 0 rfl rfl rfl ?_
    refine g_get (pc := 23) X (v := .int (nI n)) fl_X3_62 dX3_letter_23 1 0 rfl rfl rfl ?_
    refine g_bipush (v := 80) (pc := 26) X dX3_letter_26 (by decide) ?_
    refine g_ncmp_lt (pc := 28) (tgt := 38) X dX3_letter_28 (by decide) n 80 rfl rfl (by omega) (by decide) (fun c28 => ?_) (fun c28 => ?_)
    · refine g_aload_n (pc := 38) X dX3_letter_38 1 rfl ?_
      refine g_get (pc := 39) X (v := .ref (aT 0)) fl_X3_29 dX3_letter_39 0 0 rfl rfl rfl ?_
      refine g_iload_n (pc := 42) X dX3_letter_42 2 rfl ?_
      refine g_callV (pc := 43) (rest := []) (ss' := [wX cy ax an am ak aT ag ik mc od mv rf, wT cy aT (upd lt n c) (n + 1)]) X (c_X2_put l D cy aT lt n c (by first | assumption | omega)) vl_X3_65 dX3_letter_43 [1] 1 0 rfl rfl rfl rfl rfl rfl (ads_c (ads_T _ _ _ _ _ _) rfl) rfl rfl rfl rfl rfl rfl ⟨Nat.zero_le _, Nat.zero_le _⟩ ?_
      exact g_iret (pc := 46) X rfl dX3_letter_46 rfl (by simp [lcA, *]) (by simp [lcA, lcB, rfB, lcT, lcN, *])
    · have n28 := Nat.not_lt.mpr c28
      refine g_aload_n (pc := 31) X dX3_letter_31 1 rfl ?_
      refine g_bipush (v := (-6)) (pc := 32) X dX3_letter_32 (by decide) ?_
      refine g_callV (pc := 34) (rest := []) (ss' := [wX cy ax an am ak aT ag ik mc od mv (rfU rf ((-6))), wT cy aT lt n]) X (c_X3_refuse l D cy ax an am ak aT ag ik mc od mv rf ((-6)) rf_6) vl_X3_58 dX3_letter_34 [0] 0 0 rfl rfl rfl rfl rfl rfl (ads_c (ads_X _ _ _ _ _ _ _ _ _ _ _ _ _ _ _ _ _) rfl) rfl rfl rfl rfl rfl rfl ⟨Nat.zero_le _, Nat.zero_le _⟩ ?_
      exact g_iret (pc := 37) X rfl dX3_letter_37 rfl (by simp [lcA, *]) (by simp [lcA, lcB, rfB, lcT, lcN, *])
  · refine g_aload_n (pc := 13) X dX3_letter_13 1 rfl ?_
    refine g_iload_n (pc := 14) X dX3_letter_14 0 rfl ?_
    refine g_callV (pc := 15) (rest := []) (ss' := [wX cy ax an am ak aT ag ik mc od mv (rfU rf (ooI c 0 255)), wT cy aT lt n]) X (c_X3_refuse l D cy ax an am ak aT ag ik mc od mv rf (ooI c 0 255) oo_in) vl_X3_58 dX3_letter_15 [0] 0 0 rfl rfl rfl rfl rfl rfl (ads_c (ads_X _ _ _ _ _ _ _ _ _ _ _ _ _ _ _ _ _) rfl) rfl rfl rfl rfl rfl rfl ⟨Nat.zero_le _, Nat.zero_le _⟩ ?_
    exact g_iret (pc := 18) X rfl dX3_letter_18 rfl (by simp [lcA, *]) (by simp [lcA, lcB, rfB, lcT, lcN, *])
set_option maxRecDepth 100000 in
set_option maxHeartbeats 4000000 in
theorem c_X3_thing (l : Launch) (D : va_G) (cy : ClassId) (ax : Nat → Nat) (an : Nat → Nat) (am : Nat → Nat) (ak : Nat → Nat) (aT : Nat → Nat) (ag : Nat → Nat) (ik : Bool) (mc : Nat) (od : Nat → Int32) (mv : Nat → Int32) (rf : Nat → Int32) (k : KV) (t : Int32) (w : Int32) (hw : KW k) : CtI l yX3_thing cX3_thing 3 .int 1 85 D cy [.ref (ax 0), .int (t), .int (w)] [wX cy ax an am ak aT ag ik mc od mv rf, wH cy an k] [wX cy ax an am ak aT ag ik mc od mv (rfB (thB k t w) rf (thA k t w)), wH cy an k] (thA k t w) := by
  refine ctI_of (by decide +kernel) (Nat.le_of_ble_eq_true rfl) (fun p_ e_ s_ m_ args_ below_ meth_ c_ A_ X => ?_)
  refine g_lv X (lv' := [(0, .ref (ax 0)), (1, .int (t)), (2, .int (w))]) [0, 1, 2] rfl ?_
  refine g_aload_n (pc := 0) X dX3_thing_0 0 rfl ?_
  refine g_get (pc := 1) X (v := .ref (an 0)) fl_X3_10 dX3_thing_1 0 0 rfl rfl rfl ?_
  refine g_iload_n (pc := 4) X dX3_thing_4 1 rfl ?_
  refine g_callV (pc := 5) (rest := []) (ss' := [wX cy ax an am ak aT ag ik mc od mv rf, wH cy an k]) X (c_X1_hasThing l D cy an k t ) vl_X3_76 dX3_thing_5 [1] 1 0 rfl rfl rfl rfl rfl rfl rfl rfl rfl rfl rfl rfl rfl ⟨Nat.zero_le _, Nat.zero_le _⟩ ?_
  refine g_bif_ne (pc := 8) (tgt := 17) X dX3_thing_8 (by decide) (fun c8 => ?_) (fun c8 => ?_)
  · have r8 := c8
    obtain ⟨i, hi, rfl⟩ := hasT_t hw.2.2.2.2.2.1 c8
    have ixi : ix (nI i) = i := ixn (by have := hw.2.2.2.2.2.1; omega)
    refine g_iload_n (pc := 17) X dX3_thing_17 2 rfl ?_
    by_cases e18_0 : w = (0 : Int32)
    · refine g_top X e18_0 ?_
      refine g_tableIn (pc := 18) (off := 26) (tgt := 44) X dX3_thing_18 (by decide) (by decide) (by decide) (by decide) ?_
      refine g_aload_n (pc := 44) X dX3_thing_44 0 rfl ?_
      refine g_get (pc := 45) X (v := .ref (an 0)) fl_X3_10 dX3_thing_45 0 0 rfl rfl rfl ?_
      refine g_get (pc := 48) X (v := .ref (an 5)) fl_X3_80 dX3_thing_48 1 0 rfl rfl rfl ?_
      refine g_iload_n (pc := 51) X dX3_thing_51 1 rfl ?_
      refine g_iald_n (pc := 52) (f := kKi k) X 1 5 dX3_thing_52 i rfl rfl rfl (by have := hw.2.2.2.2.2.1; omega) rfl ?_
      exact g_iret (pc := 53) X rfl dX3_thing_53 rfl (by simp [thA, *]) (by simp [thA, thB, rfB, *])
    by_cases e18_1 : w = (1 : Int32)
    · refine g_top X e18_1 ?_
      refine g_tableIn (pc := 18) (off := 36) (tgt := 54) X dX3_thing_18 (by decide) (by decide) (by decide) (by decide) ?_
      refine g_aload_n (pc := 54) X dX3_thing_54 0 rfl ?_
      refine g_get (pc := 55) X (v := .ref (an 0)) fl_X3_10 dX3_thing_55 0 0 rfl rfl rfl ?_
      refine g_get (pc := 58) X (v := .ref (an 6)) fl_X3_83 dX3_thing_58 1 0 rfl rfl rfl ?_
      refine g_iload_n (pc := 61) X dX3_thing_61 1 rfl ?_
      refine g_iald_n (pc := 62) (f := kRo k) X 1 6 dX3_thing_62 i rfl rfl rfl (by have := hw.2.2.2.2.2.1; omega) rfl ?_
      exact g_iret (pc := 63) X rfl dX3_thing_63 rfl (by simp [thA, *]) (by simp [thA, thB, rfB, *])
    by_cases e18_2 : w = (2 : Int32)
    · refine g_top X e18_2 ?_
      refine g_tableIn (pc := 18) (off := 46) (tgt := 64) X dX3_thing_18 (by decide) (by decide) (by decide) (by decide) ?_
      refine g_aload_n (pc := 64) X dX3_thing_64 0 rfl ?_
      refine g_get (pc := 65) X (v := .ref (an 0)) fl_X3_10 dX3_thing_65 0 0 rfl rfl rfl ?_
      refine g_get (pc := 68) X (v := .ref (an 7)) fl_X3_86 dX3_thing_68 1 0 rfl rfl rfl ?_
      refine g_iload_n (pc := 71) X dX3_thing_71 1 rfl ?_
      refine g_iald_n (pc := 72) (f := kOt k) X 1 7 dX3_thing_72 i rfl rfl rfl (by have := hw.2.2.2.2.2.1; omega) rfl ?_
      exact g_iret (pc := 73) X rfl dX3_thing_73 rfl (by simp [thA, *]) (by simp [thA, thB, rfB, *])
    have f18_0 := lv_neT (a := 0) e18_0 (by decide)
    have f18_1 := lv_neT (a := 1) e18_1 (by decide)
    have f18_2 := lv_neT (a := 2) e18_2 (by decide)
    refine g_tableOut (pc := 18) (tgt := 74) X dX3_thing_18 (by omega) (by decide) ?_
    refine g_aload_n (pc := 74) X dX3_thing_74 0 rfl ?_
    refine g_bipush (v := (-2)) (pc := 75) X dX3_thing_75 (by decide) ?_
    refine g_callV (pc := 77) (rest := []) (ss' := [wX cy ax an am ak aT ag ik mc od mv (rfU rf ((-2))), wH cy an k]) X (c_X3_refuse l D cy ax an am ak aT ag ik mc od mv rf ((-2)) rf_2) vl_X3_58 dX3_thing_77 [0] 0 0 rfl rfl rfl rfl rfl rfl (ads_c (ads_X _ _ _ _ _ _ _ _ _ _ _ _ _ _ _ _ _) rfl) rfl rfl rfl rfl rfl rfl ⟨Nat.zero_le _, Nat.zero_le _⟩ ?_
    exact g_iret (pc := 80) X rfl dX3_thing_80 rfl (by simp [thA, *]) (by simp [thA, thB, rfB, *])
  · refine g_aload_n (pc := 11) X dX3_thing_11 0 rfl ?_
    refine g_iconst (v := (-1)) (pc := 12) X dX3_thing_12 (by decide) ?_
    refine g_callV (pc := 13) (rest := []) (ss' := [wX cy ax an am ak aT ag ik mc od mv (rfU rf ((-1))), wH cy an k]) X (c_X3_refuse l D cy ax an am ak aT ag ik mc od mv rf ((-1)) rf_1) vl_X3_58 dX3_thing_13 [0] 0 0 rfl rfl rfl rfl rfl rfl (ads_c (ads_X _ _ _ _ _ _ _ _ _ _ _ _ _ _ _ _ _) rfl) rfl rfl rfl rfl rfl rfl ⟨Nat.zero_le _, Nat.zero_le _⟩ ?_
    exact g_iret (pc := 16) X rfl dX3_thing_16 rfl (by simp [thA, *]) (by simp [thA, thB, rfB, *])
set_option maxRecDepth 100000 in
set_option maxHeartbeats 4000000 in
theorem c_X3_line (l : Launch) (D : va_G) (cy : ClassId) (ax : Nat → Nat) (an : Nat → Nat) (am : Nat → Nat) (ak : Nat → Nat) (aT : Nat → Nat) (ag : Nat → Nat) (ik : Bool) (mc : Nat) (od : Nat → Int32) (mv : Nat → Int32) (rf : Nat → Int32) (k : KV) (t : Int32) (w : Int32) (hw : KW k) : CtI l yX3_line cX3_line 3 .int 1 85 D cy [.ref (ax 0), .int (t), .int (w)] [wX cy ax an am ak aT ag ik mc od mv rf, wH cy an k] [wX cy ax an am ak aT ag ik mc od mv (rfB (liB k t w) rf (liA k t w)), wH cy an k] (liA k t w) := by
  refine ctI_of (by decide +kernel) (Nat.le_of_ble_eq_true rfl) (fun p_ e_ s_ m_ args_ below_ meth_ c_ A_ X => ?_)
  refine g_lv X (lv' := [(0, .ref (ax 0)), (1, .int (t)), (2, .int (w))]) [0, 1, 2] rfl ?_
  refine g_aload_n (pc := 0) X dX3_line_0 0 rfl ?_
  refine g_get (pc := 1) X (v := .ref (an 0)) fl_X3_10 dX3_line_1 0 0 rfl rfl rfl ?_
  refine g_iload_n (pc := 4) X dX3_line_4 1 rfl ?_
  refine g_callV (pc := 5) (rest := []) (ss' := [wX cy ax an am ak aT ag ik mc od mv rf, wH cy an k]) X (c_X1_hasLine l D cy an k t ) vl_X3_89 dX3_line_5 [1] 1 0 rfl rfl rfl rfl rfl rfl rfl rfl rfl rfl rfl rfl rfl ⟨Nat.zero_le _, Nat.zero_le _⟩ ?_
  refine g_bif_ne (pc := 8) (tgt := 17) X dX3_line_8 (by decide) (fun c8 => ?_) (fun c8 => ?_)
  · have r8 := c8
    obtain ⟨i, hi, rfl⟩ := hasL_t hw.1.1 c8
    have ixi : ix (nI i) = i := ixn (by have := hw.1.1; omega)
    refine g_iload_n (pc := 17) X dX3_line_17 2 rfl ?_
    by_cases e18_0 : w = (0 : Int32)
    · refine g_top X e18_0 ?_
      refine g_tableIn (pc := 18) (off := 26) (tgt := 44) X dX3_line_18 (by decide) (by decide) (by decide) (by decide) ?_
      refine g_aload_n (pc := 44) X dX3_line_44 0 rfl ?_
      refine g_get (pc := 45) X (v := .ref (an 0)) fl_X3_10 dX3_line_45 0 0 rfl rfl rfl ?_
      refine g_get (pc := 48) X (v := .ref (an 1)) fl_X3_92 dX3_line_48 1 0 rfl rfl rfl ?_
      refine g_iload_n (pc := 51) X dX3_line_51 1 rfl ?_
      refine g_iald_n (pc := 52) (f := kOn k) X 1 1 dX3_line_52 i rfl rfl rfl (by have := hw.1.1; omega) rfl ?_
      exact g_iret (pc := 53) X rfl dX3_line_53 rfl (by simp [liA, *]) (by simp [liA, liB, rfB, *])
    by_cases e18_1 : w = (1 : Int32)
    · refine g_top X e18_1 ?_
      refine g_tableIn (pc := 18) (off := 36) (tgt := 54) X dX3_line_18 (by decide) (by decide) (by decide) (by decide) ?_
      refine g_aload_n (pc := 54) X dX3_line_54 0 rfl ?_
      refine g_get (pc := 55) X (v := .ref (an 0)) fl_X3_10 dX3_line_55 0 0 rfl rfl rfl ?_
      refine g_get (pc := 58) X (v := .ref (an 2)) fl_X3_95 dX3_line_58 1 0 rfl rfl rfl ?_
      refine g_iload_n (pc := 61) X dX3_line_61 1 rfl ?_
      refine g_iald_n (pc := 62) (f := kTw k) X 1 2 dX3_line_62 i rfl rfl rfl (by have := hw.1.1; omega) rfl ?_
      exact g_iret (pc := 63) X rfl dX3_line_63 rfl (by simp [liA, *]) (by simp [liA, liB, rfB, *])
    by_cases e18_2 : w = (2 : Int32)
    · refine g_top X e18_2 ?_
      refine g_tableIn (pc := 18) (off := 46) (tgt := 64) X dX3_line_18 (by decide) (by decide) (by decide) (by decide) ?_
      refine g_aload_n (pc := 64) X dX3_line_64 0 rfl ?_
      refine g_get (pc := 65) X (v := .ref (an 0)) fl_X3_10 dX3_line_65 0 0 rfl rfl rfl ?_
      refine g_get (pc := 68) X (v := .int (kHd k)) fl_X3_98 dX3_line_68 1 0 rfl rfl rfl ?_
      refine g_iload_n (pc := 71) X dX3_line_71 1 rfl ?_
      refine g_ishr (v := shr (kHd k) (nI i)) (pc := 72) X dX3_line_72 rfl ?_
      refine g_iconst (v := 1) (pc := 73) X dX3_line_73 (by decide) ?_
      refine g_iand (v := (shr (kHd k) (nI i)) &&& 1) (pc := 74) X dX3_line_74 rfl ?_
      exact g_iret (pc := 75) X rfl dX3_line_75 rfl (by simp [liA, *]) (by simp [liA, liB, rfB, *])
    have f18_0 := lv_neT (a := 0) e18_0 (by decide)
    have f18_1 := lv_neT (a := 1) e18_1 (by decide)
    have f18_2 := lv_neT (a := 2) e18_2 (by decide)
    refine g_tableOut (pc := 18) (tgt := 76) X dX3_line_18 (by omega) (by decide) ?_
    refine g_aload_n (pc := 76) X dX3_line_76 0 rfl ?_
    refine g_bipush (v := (-2)) (pc := 77) X dX3_line_77 (by decide) ?_
    refine g_callV (pc := 79) (rest := []) (ss' := [wX cy ax an am ak aT ag ik mc od mv (rfU rf ((-2))), wH cy an k]) X (c_X3_refuse l D cy ax an am ak aT ag ik mc od mv rf ((-2)) rf_2) vl_X3_58 dX3_line_79 [0] 0 0 rfl rfl rfl rfl rfl rfl (ads_c (ads_X _ _ _ _ _ _ _ _ _ _ _ _ _ _ _ _ _) rfl) rfl rfl rfl rfl rfl rfl ⟨Nat.zero_le _, Nat.zero_le _⟩ ?_
    exact g_iret (pc := 82) X rfl dX3_line_82 rfl (by simp [liA, *]) (by simp [liA, liB, rfB, *])
  · refine g_aload_n (pc := 11) X dX3_line_11 0 rfl ?_
    refine g_iconst (v := (-1)) (pc := 12) X dX3_line_12 (by decide) ?_
    refine g_callV (pc := 13) (rest := []) (ss' := [wX cy ax an am ak aT ag ik mc od mv (rfU rf ((-1))), wH cy an k]) X (c_X3_refuse l D cy ax an am ak aT ag ik mc od mv rf ((-1)) rf_1) vl_X3_58 dX3_line_13 [0] 0 0 rfl rfl rfl rfl rfl rfl (ads_c (ads_X _ _ _ _ _ _ _ _ _ _ _ _ _ _ _ _ _) rfl) rfl rfl rfl rfl rfl rfl ⟨Nat.zero_le _, Nat.zero_le _⟩ ?_
    exact g_iret (pc := 16) X rfl dX3_line_16 rfl (by simp [liA, *]) (by simp [liA, liB, rfB, *])
set_option maxRecDepth 100000 in
set_option maxHeartbeats 4000000 in
theorem c_X3_curtain (l : Launch) (D : va_G) (cy : ClassId) (ax : Nat → Nat) (an : Nat → Nat) (am : Nat → Nat) (ak : Nat → Nat) (aT : Nat → Nat) (ag : Nat → Nat) (ik : Bool) (mc : Nat) (od : Nat → Int32) (mv : Nat → Int32) (rf : Nat → Int32) (k : KV) (t : Int32) (hw : KW k) : CtI l yX3_curtain cX3_curtain 2 .int 1 86 D cy [.ref (ax 0), .int (t)] [wX cy ax an am ak aT ag ik mc od mv rf, wH cy an k] [wX cy ax an am ak aT ag ik mc od mv (rfB (hasL k t) rf (ctA k t)), wH cy an (tgK k t)] (ctA k t) := by
  refine ctI_of (by decide +kernel) (Nat.le_of_ble_eq_true rfl) (fun p_ e_ s_ m_ args_ below_ meth_ c_ A_ X => ?_)
  refine g_lv X (lv' := [(0, .ref (ax 0)), (1, .int (t))]) [0, 1] rfl ?_
  refine g_aload_n (pc := 0) X dX3_curtain_0 0 rfl ?_
  refine g_get (pc := 1) X (v := .ref (an 0)) fl_X3_10 dX3_curtain_1 0 0 rfl rfl rfl ?_
  refine g_iload_n (pc := 4) X dX3_curtain_4 1 rfl ?_
  refine g_callV (pc := 5) (rest := []) (ss' := [wX cy ax an am ak aT ag ik mc od mv rf, wH cy an k]) X (c_X1_hasLine l D cy an k t ) vl_X3_89 dX3_curtain_5 [1] 1 0 rfl rfl rfl rfl rfl rfl rfl rfl rfl rfl rfl rfl rfl ⟨Nat.zero_le _, Nat.zero_le _⟩ ?_
  refine g_bif_ne (pc := 8) (tgt := 17) X dX3_curtain_8 (by decide) (fun c8 => ?_) (fun c8 => ?_)
  · refine g_aload_n (pc := 17) X dX3_curtain_17 0 rfl ?_
    refine g_get (pc := 18) X (v := .ref (an 0)) fl_X3_10 dX3_curtain_18 0 0 rfl rfl rfl ?_
    refine g_aload_n (pc := 21) X dX3_curtain_21 0 rfl ?_
    refine g_get (pc := 22) X (v := .ref (an 0)) fl_X3_10 dX3_curtain_22 0 0 rfl rfl rfl ?_
    refine g_get (pc := 25) X (v := .int (kHd k)) fl_X3_98 dX3_curtain_25 1 0 rfl rfl rfl ?_
    refine g_iconst (v := 1) (pc := 28) X dX3_curtain_28 (by decide) ?_
    refine g_iload_n (pc := 29) X dX3_curtain_29 1 rfl ?_
    refine g_ishl (v := shl 1 t) (pc := 30) X dX3_curtain_30 rfl ?_
    refine g_ixor (v := (kHd k) ^^^ (shl 1 t)) (pc := 31) X dX3_curtain_31 rfl ?_
    refine g_callVv (pc := 32) (rest := []) (ss' := [wX cy ax an am ak aT ag ik mc od mv rf, wH cy an (sHd k (((kHd k) ^^^ (shl 1 t))))]) X (c_X1_hang l D cy an k ((kHd k) ^^^ (shl 1 t)) hw.1 hw.2.1) vl_X3_101 dX3_curtain_32 [1] 1 0 rfl rfl rfl rfl rfl rfl (ads_c (ads_H _ _ _ _ _ _ _ _) rfl) rfl rfl rfl rfl rfl rfl ⟨Nat.zero_le _, Nat.zero_le _⟩ ?_
    refine g_aload_n (pc := 35) X dX3_curtain_35 0 rfl ?_
    refine g_get (pc := 36) X (v := .ref (an 0)) fl_X3_10 dX3_curtain_36 0 0 rfl rfl rfl ?_
    refine g_get (pc := 39) X (v := .int (((kHd k) ^^^ (shl 1 t)))) fl_X3_98 dX3_curtain_39 1 0 rfl rfl rfl ?_
    refine g_iload_n (pc := 42) X dX3_curtain_42 1 rfl ?_
    refine g_ishr (v := shr (((kHd k) ^^^ (shl 1 t))) t) (pc := 43) X dX3_curtain_43 rfl ?_
    refine g_iconst (v := 1) (pc := 44) X dX3_curtain_44 (by decide) ?_
    refine g_iand (v := (shr (((kHd k) ^^^ (shl 1 t))) t) &&& 1) (pc := 45) X dX3_curtain_45 rfl ?_
    exact g_iret (pc := 46) X rfl dX3_curtain_46 rfl (by simp [ctA, *]) (by simp [ctA, rfB, tgK, *])
  · refine g_aload_n (pc := 11) X dX3_curtain_11 0 rfl ?_
    refine g_iconst (v := (-1)) (pc := 12) X dX3_curtain_12 (by decide) ?_
    refine g_callV (pc := 13) (rest := []) (ss' := [wX cy ax an am ak aT ag ik mc od mv (rfU rf ((-1))), wH cy an k]) X (c_X3_refuse l D cy ax an am ak aT ag ik mc od mv rf ((-1)) rf_1) vl_X3_58 dX3_curtain_13 [0] 0 0 rfl rfl rfl rfl rfl rfl (ads_c (ads_X _ _ _ _ _ _ _ _ _ _ _ _ _ _ _ _ _) rfl) rfl rfl rfl rfl rfl rfl ⟨Nat.zero_le _, Nat.zero_le _⟩ ?_
    exact g_iret (pc := 16) X rfl dX3_curtain_16 rfl (by simp [ctA, *]) (by simp [ctA, rfB, tgK, *])
set_option maxRecDepth 100000 in
set_option maxHeartbeats 4000000 in
theorem c_X3_move (l : Launch) (D : va_G) (cy : ClassId) (ax : Nat → Nat) (an : Nat → Nat) (am : Nat → Nat) (ak : Nat → Nat) (aT : Nat → Nat) (ag : Nat → Nat) (ik : Bool) (mc : Nat) (od : Nat → Int32) (mv : Nat → Int32) (rf : Nat → Int32) (k : KV) (t : Int32) (r : Int32) (hw : KW k) : CtI l yX3_move cX3_move 4 .int 1 85 D cy [.ref (ax 0), .int (t), .int (r)] [wX cy ax an am ak aT ag ik mc od mv rf, wH cy an k] [wX cy ax an am ak aT ag ik mc od mv (rfB (brB k t r) rf (mvA k t r)), wH cy an (brK k t r)] (mvA k t r) := by
  refine ctI_of (by decide +kernel) (Nat.le_of_ble_eq_true rfl) (fun p_ e_ s_ m_ args_ below_ meth_ c_ A_ X => ?_)
  refine g_lv X (lv' := [(0, .ref (ax 0)), (1, .int (t)), (2, .int (r))]) [0, 1, 2] rfl ?_
  refine g_aload_n (pc := 0) X dX3_move_0 0 rfl ?_
  refine g_get (pc := 1) X (v := .ref (an 0)) fl_X3_10 dX3_move_1 0 0 rfl rfl rfl ?_
  refine g_iload_n (pc := 4) X dX3_move_4 1 rfl ?_
  refine g_callV (pc := 5) (rest := []) (ss' := [wX cy ax an am ak aT ag ik mc od mv rf, wH cy an k]) X (c_X1_hasThing l D cy an k t ) vl_X3_76 dX3_move_5 [1] 1 0 rfl rfl rfl rfl rfl rfl rfl rfl rfl rfl rfl rfl rfl ⟨Nat.zero_le _, Nat.zero_le _⟩ ?_
  refine g_bif_eq (pc := 8) (tgt := 18) X dX3_move_8 (by decide) (fun c8 => ?_) (fun c8 => ?_)
  · refine g_aload_n (pc := 18) X dX3_move_18 0 rfl ?_
    refine g_iconst (v := (-1)) (pc := 19) X dX3_move_19 (by decide) ?_
    refine g_callV (pc := 20) (rest := []) (ss' := [wX cy ax an am ak aT ag ik mc od mv (rfU rf ((-1))), wH cy an k]) X (c_X3_refuse l D cy ax an am ak aT ag ik mc od mv rf ((-1)) rf_1) vl_X3_58 dX3_move_20 [0] 0 0 rfl rfl rfl rfl rfl rfl (ads_c (ads_X _ _ _ _ _ _ _ _ _ _ _ _ _ _ _ _ _) rfl) rfl rfl rfl rfl rfl rfl ⟨Nat.zero_le _, Nat.zero_le _⟩ ?_
    exact g_iret (pc := 23) X rfl dX3_move_23 rfl (by simp [mvA, brB, *]) (by simp [mvA, brB, rfB, brK, *])
  · have r8 := c8
    obtain ⟨i, hi, rfl⟩ := hasT_t hw.2.2.2.2.2.1 c8
    have ixi : ix (nI i) = i := ixn (by have := hw.2.2.2.2.2.1; omega)
    refine g_iload_n (pc := 11) X dX3_move_11 2 rfl ?_
    refine g_callS (pc := 12) (rest := []) X (c_X3_isRoom l D cy r ) sl_X3_105 dX3_move_12 rfl rfl rfl rfl rfl ⟨Nat.zero_le _, Nat.zero_le _⟩ ?_
    refine g_bif_ne (pc := 15) (tgt := 24) X dX3_move_15 (by decide) (fun c15 => ?_) (fun c15 => ?_)
    · refine g_aload_n (pc := 24) X dX3_move_24 0 rfl ?_
      refine g_get (pc := 25) X (v := .ref (an 0)) fl_X3_10 dX3_move_25 0 0 rfl rfl rfl ?_
      refine g_get (pc := 28) X (v := .ref (an 6)) fl_X3_83 dX3_move_28 1 0 rfl rfl rfl ?_
      refine g_iload_n (pc := 31) X dX3_move_31 1 rfl ?_
      refine g_iald_n (pc := 32) (f := kRo k) X 1 6 dX3_move_32 i rfl rfl rfl (by have := hw.2.2.2.2.2.1; omega) rfl ?_
      refine g_istore_n (lv' := [(3, .int ((kRo k) i)), (0, .ref (ax 0)), (1, .int (nI i)), (2, .int (r))]) (pc := 33) X dX3_move_33 rfl rfl rfl ?_
      refine g_aload_n (pc := 34) X dX3_move_34 1 rfl ?_
      refine g_get (pc := 35) X (v := .ref (an 0)) fl_X3_10 dX3_move_35 0 0 rfl rfl rfl ?_
      refine g_get (pc := 38) X (v := .ref (an 6)) fl_X3_83 dX3_move_38 1 0 rfl rfl rfl ?_
      refine g_iload_n (pc := 41) X dX3_move_41 2 rfl ?_
      refine g_iload_n (pc := 42) X dX3_move_42 3 rfl ?_
      refine g_iast_n (pc := 43) X (ss' := [wX cy ax an am ak aT ag ik mc od mv rf, wH cy an (sRo k (upd (kRo k) i r))]) 1 6 dX3_move_43 i rfl rfl rfl (by have := hw.2.2.2.2.2.1; omega) rfl rfl ?_
      refine g_iload_n (pc := 44) X dX3_move_44 0 rfl ?_
      exact g_iret (pc := 45) X rfl dX3_move_45 rfl (by simp [mvA, brB, *]) (by simp [mvA, brB, rfB, brK, *])
    · refine g_aload_n (pc := 18) X dX3_move_18 0 rfl ?_
      refine g_iconst (v := (-1)) (pc := 19) X dX3_move_19 (by decide) ?_
      refine g_callV (pc := 20) (rest := []) (ss' := [wX cy ax an am ak aT ag ik mc od mv (rfU rf ((-1))), wH cy an k]) X (c_X3_refuse l D cy ax an am ak aT ag ik mc od mv rf ((-1)) rf_1) vl_X3_58 dX3_move_20 [0] 0 0 rfl rfl rfl rfl rfl rfl (ads_c (ads_X _ _ _ _ _ _ _ _ _ _ _ _ _ _ _ _ _) rfl) rfl rfl rfl rfl rfl rfl ⟨Nat.zero_le _, Nat.zero_le _⟩ ?_
      exact g_iret (pc := 23) X rfl dX3_move_23 rfl (by simp [mvA, brB, *]) (by simp [mvA, brB, rfB, brK, *])
set_option maxRecDepth 100000 in
set_option maxHeartbeats 4000000 in
theorem c_X3_pair (l : Launch) (D : va_G) (cy : ClassId) (ax : Nat → Nat) (an : Nat → Nat) (am : Nat → Nat) (ak : Nat → Nat) (aT : Nat → Nat) (ag : Nat → Nat) (ik : Bool) (mc : Nat) (od : Nat → Int32) (mv : Nat → Int32) (rf : Nat → Int32) (k : KV) (x : Int32) (y : Int32) (hw : KW k) : CtI l yX3_pair cX3_pair 3 .int 3 130 D cy [.ref (ax 0), .int (x), .int (y)] [wX cy ax an am ak aT ag ik mc od mv rf, wH cy an k] [wX cy ax an am ak aT ag ik mc od mv (rfB (acB k x y) rf (paA k x y)), wH cy an (acK k x y)] (paA k x y) := by
  refine ctI_of (by decide +kernel) (Nat.le_of_ble_eq_true rfl) (fun p_ e_ s_ m_ args_ below_ meth_ c_ A_ X => ?_)
  refine g_lv X (lv' := [(0, .ref (ax 0)), (1, .int (x)), (2, .int (y))]) [0, 1, 2] rfl ?_
  refine g_aload_n (pc := 0) X dX3_pair_0 0 rfl ?_
  refine g_get (pc := 1) X (v := .ref (an 0)) fl_X3_10 dX3_pair_1 0 0 rfl rfl rfl ?_
  refine g_iload_n (pc := 4) X dX3_pair_4 1 rfl ?_
  refine g_callV (pc := 5) (rest := []) (ss' := [wX cy ax an am ak aT ag ik mc od mv rf, wH cy an k]) X (c_X1_hasThing l D cy an k x ) vl_X3_76 dX3_pair_5 [1] 1 0 rfl rfl rfl rfl rfl rfl rfl rfl rfl rfl rfl rfl rfl ⟨Nat.zero_le _, Nat.zero_le _⟩ ?_
  refine g_bif_eq (pc := 8) (tgt := 27) X dX3_pair_8 (by decide) (fun c8 => ?_) (fun c8 => ?_)
  · refine g_aload_n (pc := 27) X dX3_pair_27 0 rfl ?_
    refine g_iconst (v := (-1)) (pc := 28) X dX3_pair_28 (by decide) ?_
    refine g_callV (pc := 29) (rest := []) (ss' := [wX cy ax an am ak aT ag ik mc od mv (rfU rf ((-1))), wH cy an k]) X (c_X3_refuse l D cy ax an am ak aT ag ik mc od mv rf ((-1)) rf_1) vl_X3_58 dX3_pair_29 [0] 0 0 rfl rfl rfl rfl rfl rfl (ads_c (ads_X _ _ _ _ _ _ _ _ _ _ _ _ _ _ _ _ _) rfl) rfl rfl rfl rfl rfl rfl ⟨Nat.zero_le _, Nat.zero_le _⟩ ?_
    exact g_iret (pc := 32) X rfl dX3_pair_32 rfl (by simp [paA, acB, *]) (by simp [paA, acB, rfB, acK, *])
  · have r8 := c8
    obtain ⟨i, hi, rfl⟩ := hasT_t hw.2.2.2.2.2.1 c8
    have ixi : ix (nI i) = i := ixn (by have := hw.2.2.2.2.2.1; omega)
    refine g_aload_n (pc := 11) X dX3_pair_11 0 rfl ?_
    refine g_get (pc := 12) X (v := .ref (an 0)) fl_X3_10 dX3_pair_12 0 0 rfl rfl rfl ?_
    refine g_iload_n (pc := 15) X dX3_pair_15 2 rfl ?_
    refine g_callV (pc := 16) (rest := []) (ss' := [wX cy ax an am ak aT ag ik mc od mv rf, wH cy an k]) X (c_X1_hasThing l D cy an k y ) vl_X3_76 dX3_pair_16 [1] 1 0 rfl rfl rfl rfl rfl rfl rfl rfl rfl rfl rfl rfl rfl ⟨Nat.zero_le _, Nat.zero_le _⟩ ?_
    refine g_bif_eq (pc := 19) (tgt := 27) X dX3_pair_19 (by decide) (fun c19 => ?_) (fun c19 => ?_)
    · refine g_aload_n (pc := 27) X dX3_pair_27 0 rfl ?_
      refine g_iconst (v := (-1)) (pc := 28) X dX3_pair_28 (by decide) ?_
      refine g_callV (pc := 29) (rest := []) (ss' := [wX cy ax an am ak aT ag ik mc od mv (rfU rf ((-1))), wH cy an k]) X (c_X3_refuse l D cy ax an am ak aT ag ik mc od mv rf ((-1)) rf_1) vl_X3_58 dX3_pair_29 [0] 0 0 rfl rfl rfl rfl rfl rfl (ads_c (ads_X _ _ _ _ _ _ _ _ _ _ _ _ _ _ _ _ _) rfl) rfl rfl rfl rfl rfl rfl ⟨Nat.zero_le _, Nat.zero_le _⟩ ?_
      exact g_iret (pc := 32) X rfl dX3_pair_32 rfl (by simp [paA, acB, *]) (by simp [paA, acB, rfB, acK, *])
    · have r19 := c19
      obtain ⟨j, hj, rfl⟩ := hasT_t hw.2.2.2.2.2.1 c19
      have ixj : ix (nI j) = j := ixn (by have := hw.2.2.2.2.2.1; omega)
      refine g_iload_n (pc := 22) X dX3_pair_22 1 rfl ?_
      refine g_iload_n (pc := 23) X dX3_pair_23 2 rfl ?_
      refine g_ncmp_ne (pc := 24) (tgt := 33) X dX3_pair_24 (by decide) i j rfl rfl (by have := hw.2.2.2.2.2.1; omega) (by have := hw.2.2.2.2.2.1; omega) (fun c24 => ?_) (fun c24 => ?_)
      · have h8 := hw.2.2.2.2.2.1
        have hB : acB k (nI i) (nI j) = true := by simp only [acB, r8, r19, Bool.true_and, decide_eq_true (show nI i ≠ nI j from fun h => c24 ((nI_eq (by omega) (by omega)).mp h))]
        refine g_aload_n (pc := 33) X dX3_pair_33 0 rfl ?_
        refine g_get (pc := 34) X (v := .ref (an 0)) fl_X3_10 dX3_pair_34 0 0 rfl rfl rfl ?_
        refine g_iload_n (pc := 37) X dX3_pair_37 1 rfl ?_
        refine g_iload_n (pc := 38) X dX3_pair_38 2 rfl ?_
        refine g_callV (pc := 39) (rest := []) (ss' := [wX cy ax an am ak aT ag ik mc od mv rf, wH cy an (cpK k i j)]) X (c_X1_couple l D cy an k i j (by have := hw.2.2.2.2.2.1; omega) (by have := hw.2.2.2.2.2.1; omega) hw.2.2.2.2.2.1) vl_X3_108 dX3_pair_39 [1] 1 0 rfl rfl rfl rfl rfl rfl (ads_c (ads_H _ _ _ _ _ _ _ _) rfl) rfl rfl rfl rfl rfl rfl ⟨Nat.zero_le _, Nat.zero_le _⟩ ?_
        generalize hqk39_1 : cpK k i j = k39_1
        subst hqk39_1
        exact g_iret (pc := 42) X rfl dX3_pair_42 rfl (by rw [paA, if_pos hB, ixi, ixj]) (by rw [rfB, if_pos hB, acK, if_pos hB, ixi, ixj])
      · refine g_aload_n (pc := 27) X dX3_pair_27 0 rfl ?_
        refine g_iconst (v := (-1)) (pc := 28) X dX3_pair_28 (by decide) ?_
        refine g_callV (pc := 29) (rest := []) (ss' := [wX cy ax an am ak aT ag ik mc od mv (rfU rf ((-1))), wH cy an k]) X (c_X3_refuse l D cy ax an am ak aT ag ik mc od mv rf ((-1)) rf_1) vl_X3_58 dX3_pair_29 [0] 0 0 rfl rfl rfl rfl rfl rfl (ads_c (ads_X _ _ _ _ _ _ _ _ _ _ _ _ _ _ _ _ _) rfl) rfl rfl rfl rfl rfl rfl ⟨Nat.zero_le _, Nat.zero_le _⟩ ?_
        exact g_iret (pc := 32) X rfl dX3_pair_32 rfl (by simp [paA, acB, *]) (by simp [paA, acB, rfB, acK, *])
set_option maxRecDepth 100000 in
set_option maxHeartbeats 4000000 in
theorem c_X3_hour (l : Launch) (D : va_G) (cy : ClassId) (ax : Nat → Nat) (an : Nat → Nat) (am : Nat → Nat) (ak : Nat → Nat) (aT : Nat → Nat) (ag : Nat → Nat) (ik : Bool) (mc : Nat) (od : Nat → Int32) (mv : Nat → Int32) (rf : Nat → Int32) (k : KV) (v : Int32) (hw : KW k) : CtI l yX3_hour cX3_hour 4 .int 1 86 D cy [.ref (ax 0), .int (v)] [wX cy ax an am ak aT ag ik mc od mv rf, wH cy an k] [wX cy ax an am ak aT ag ik mc od mv (rfB (decide (ooI v 0 7 = 0)) rf (hrA k v)), wH cy an (hrK k v)] (hrA k v) := by
  refine ctI_of (by decide +kernel) (Nat.le_of_ble_eq_true rfl) (fun p_ e_ s_ m_ args_ below_ meth_ c_ A_ X => ?_)
  refine g_lv X (lv' := [(0, .ref (ax 0)), (1, .int (v))]) [0, 1] rfl ?_
  refine g_iload_n (pc := 0) X dX3_hour_0 1 rfl ?_
  refine g_iconst (v := 0) (pc := 1) X dX3_hour_1 (by decide) ?_
  refine g_bipush (v := 7) (pc := 2) X dX3_hour_2 (by decide) ?_
  refine g_callS (pc := 4) (rest := []) X (c_X3_outOf l D cy v 0 7 ) sl_X3_54 dX3_hour_4 rfl rfl rfl rfl rfl ⟨Nat.zero_le _, Nat.zero_le _⟩ ?_
  refine g_istore_n (lv' := [(2, .int (ooI v 0 7)), (0, .ref (ax 0)), (1, .int (v))]) (pc := 7) X dX3_hour_7 rfl rfl rfl ?_
  refine g_iload_n (pc := 8) X dX3_hour_8 0 rfl ?_
  refine g_if_eq (pc := 9) (tgt := 18) X dX3_hour_9 (by decide) (fun c9 => ?_) (fun c9 => ?_)
  · have r9 := c9
    obtain ⟨i, hi, rfl⟩ := in_lt (n := 8) (by omega) (oo_0 c9).1 (Int32.lt_of_le_of_lt (oo_0 c9).2 (by decide))
    have ixi : ix (nI i) = i := ixn (by omega)
    refine g_aload_n (pc := 18) X dX3_hour_18 1 rfl ?_
    refine g_get (pc := 19) X (v := .ref (an 0)) fl_X3_10 dX3_hour_19 0 0 rfl rfl rfl ?_
    refine g_get (pc := 22) X (v := .int (nI (kHr k))) fl_X3_112 dX3_hour_22 1 0 rfl rfl rfl ?_
    refine g_istore_n (lv' := [(3, .int (nI (kHr k))), (2, .int (ooI (nI i) 0 7)), (0, .ref (ax 0)), (1, .int (nI i))]) (pc := 25) X dX3_hour_25 rfl rfl rfl ?_
    refine g_aload_n (pc := 26) X dX3_hour_26 2 rfl ?_
    refine g_get (pc := 27) X (v := .ref (an 0)) fl_X3_10 dX3_hour_27 0 0 rfl rfl rfl ?_
    refine g_iload_n (pc := 30) X dX3_hour_30 3 rfl ?_
    refine g_put (pc := 31) X (ss' := [wX cy ax an am ak aT ag ik mc od mv rf, wH cy an (sHr k i)]) fp_X3_112 dX3_hour_31 1 0 rfl rfl rfl rfl rfl rfl ?_
    refine g_iload_n (pc := 34) X dX3_hour_34 0 rfl ?_
    exact g_iret (pc := 35) X rfl dX3_hour_35 rfl (by simp [hrA, *]) (by simp [hrA, rfB, hrK, *])
  · refine g_aload_n (pc := 12) X dX3_hour_12 1 rfl ?_
    refine g_iload_n (pc := 13) X dX3_hour_13 0 rfl ?_
    refine g_callV (pc := 14) (rest := []) (ss' := [wX cy ax an am ak aT ag ik mc od mv (rfU rf (ooI v 0 7)), wH cy an k]) X (c_X3_refuse l D cy ax an am ak aT ag ik mc od mv rf (ooI v 0 7) oo_in) vl_X3_58 dX3_hour_14 [0] 0 0 rfl rfl rfl rfl rfl rfl (ads_c (ads_X _ _ _ _ _ _ _ _ _ _ _ _ _ _ _ _ _) rfl) rfl rfl rfl rfl rfl rfl ⟨Nat.zero_le _, Nat.zero_le _⟩ ?_
    exact g_iret (pc := 17) X rfl dX3_hour_17 rfl (by simp [hrA, *]) (by simp [hrA, rfB, hrK, *])
set_option maxRecDepth 100000 in
set_option maxHeartbeats 4000000 in
theorem c_X3_from (l : Launch) (D : va_G) (cy : ClassId) (ax : Nat → Nat) (an : Nat → Nat) (am : Nat → Nat) (ak : Nat → Nat) (aT : Nat → Nat) (ag : Nat → Nat) (ik : Bool) (mc : Nat) (od : Nat → Int32) (mv : Nat → Int32) (rf : Nat → Int32) (k : KV) (t : Int32) (h : Int32) (hw : KW k) : CtI l yX3_from cX3_from 4 .int 1 88 D cy [.ref (ax 0), .int (t), .int (h)] [wX cy ax an am ak aT ag ik mc od mv rf, wH cy an k] [wX cy ax an am ak aT ag ik mc od mv (rfB (frB k t h) rf (frA k t h)), wH cy an k] (frA k t h) := by
  refine ctI_of (by decide +kernel) (Nat.le_of_ble_eq_true rfl) (fun p_ e_ s_ m_ args_ below_ meth_ c_ A_ X => ?_)
  refine g_lv X (lv' := [(0, .ref (ax 0)), (1, .int (t)), (2, .int (h))]) [0, 1, 2] rfl ?_
  refine g_aload_n (pc := 0) X dX3_from_0 0 rfl ?_
  refine g_get (pc := 1) X (v := .ref (an 0)) fl_X3_10 dX3_from_1 0 0 rfl rfl rfl ?_
  refine g_iload_n (pc := 4) X dX3_from_4 1 rfl ?_
  refine g_callV (pc := 5) (rest := []) (ss' := [wX cy ax an am ak aT ag ik mc od mv rf, wH cy an k]) X (c_X1_hasThing l D cy an k t ) vl_X3_76 dX3_from_5 [1] 1 0 rfl rfl rfl rfl rfl rfl rfl rfl rfl rfl rfl rfl rfl ⟨Nat.zero_le _, Nat.zero_le _⟩ ?_
  refine g_bif_ne (pc := 8) (tgt := 17) X dX3_from_8 (by decide) (fun c8 => ?_) (fun c8 => ?_)
  · have r8 := c8
    obtain ⟨i, hi, rfl⟩ := hasT_t hw.2.2.2.2.2.1 c8
    have ixi : ix (nI i) = i := ixn (by have := hw.2.2.2.2.2.1; omega)
    refine g_iload_n (pc := 17) X dX3_from_17 2 rfl ?_
    refine g_iconst (v := 0) (pc := 18) X dX3_from_18 (by decide) ?_
    refine g_bipush (v := 7) (pc := 19) X dX3_from_19 (by decide) ?_
    refine g_callS (pc := 21) (rest := []) X (c_X3_outOf l D cy h 0 7 ) sl_X3_54 dX3_from_21 rfl rfl rfl rfl rfl ⟨Nat.zero_le _, Nat.zero_le _⟩ ?_
    refine g_istore_n (lv' := [(3, .int (ooI h 0 7)), (0, .ref (ax 0)), (1, .int (nI i)), (2, .int (h))]) (pc := 24) X dX3_from_24 rfl rfl rfl ?_
    refine g_iload_n (pc := 25) X dX3_from_25 0 rfl ?_
    refine g_if_eq (pc := 26) (tgt := 35) X dX3_from_26 (by decide) (fun c26 => ?_) (fun c26 => ?_)
    · have r26 := c26
      obtain ⟨j, hj, rfl⟩ := in_lt (n := 8) (by omega) (oo_0 c26).1 (Int32.lt_of_le_of_lt (oo_0 c26).2 (by decide))
      have ixj : ix (nI j) = j := ixn (by omega)
      refine g_aload_n (pc := 35) X dX3_from_35 1 rfl ?_
      refine g_get (pc := 36) X (v := .ref (an 0)) fl_X3_10 dX3_from_36 0 0 rfl rfl rfl ?_
      refine g_iload_n (pc := 39) X dX3_from_39 2 rfl ?_
      refine g_iload_n (pc := 40) X dX3_from_40 3 rfl ?_
      refine g_callV (pc := 41) (rest := []) (ss' := [wX cy ax an am ak aT ag ik mc od mv rf, wH cy an k]) X (c_X1_seenFrom l D cy an k i j (by first | assumption | omega) hw.2.2.2.2.2.1 hw.2.2.2.1 (by first | assumption | omega)) vl_X3_118 dX3_from_41 [1] 1 0 rfl rfl rfl rfl rfl rfl rfl rfl rfl rfl rfl rfl rfl ⟨Nat.zero_le _, Nat.zero_le _⟩ ?_
      exact g_iret (pc := 44) X rfl dX3_from_44 rfl (by simp [frA, *]) (by simp [frA, frB, rfB, *])
    · refine g_aload_n (pc := 29) X dX3_from_29 1 rfl ?_
      refine g_iload_n (pc := 30) X dX3_from_30 0 rfl ?_
      refine g_callV (pc := 31) (rest := []) (ss' := [wX cy ax an am ak aT ag ik mc od mv (rfU rf (ooI h 0 7)), wH cy an k]) X (c_X3_refuse l D cy ax an am ak aT ag ik mc od mv rf (ooI h 0 7) oo_in) vl_X3_58 dX3_from_31 [0] 0 0 rfl rfl rfl rfl rfl rfl (ads_c (ads_X _ _ _ _ _ _ _ _ _ _ _ _ _ _ _ _ _) rfl) rfl rfl rfl rfl rfl rfl ⟨Nat.zero_le _, Nat.zero_le _⟩ ?_
      exact g_iret (pc := 34) X rfl dX3_from_34 rfl (by simp [frA, *]) (by simp [frA, frB, rfB, *])
  · refine g_aload_n (pc := 11) X dX3_from_11 0 rfl ?_
    refine g_iconst (v := (-1)) (pc := 12) X dX3_from_12 (by decide) ?_
    refine g_callV (pc := 13) (rest := []) (ss' := [wX cy ax an am ak aT ag ik mc od mv (rfU rf ((-1))), wH cy an k]) X (c_X3_refuse l D cy ax an am ak aT ag ik mc od mv rf ((-1)) rf_1) vl_X3_58 dX3_from_13 [0] 0 0 rfl rfl rfl rfl rfl rfl (ads_c (ads_X _ _ _ _ _ _ _ _ _ _ _ _ _ _ _ _ _) rfl) rfl rfl rfl rfl rfl rfl ⟨Nat.zero_le _, Nat.zero_le _⟩ ?_
    exact g_iret (pc := 16) X rfl dX3_from_16 rfl (by simp [frA, *]) (by simp [frA, frB, rfB, *])
set_option maxRecDepth 100000 in
set_option maxHeartbeats 4000000 in
theorem c_X3_sins (l : Launch) (D : va_G) (cy : ClassId) (ax : Nat → Nat) (an : Nat → Nat) (am : Nat → Nat) (ak : Nat → Nat) (aT : Nat → Nat) (ag : Nat → Nat) (ik : Bool) (mc : Nat) (od : Nat → Int32) (mv : Nat → Int32) (rf : Nat → Int32) (k : KV) (h : Int32) (w : Int32) (hw : KW k) : CtI l yX3_sins cX3_sins 4 .int 4 157 D cy [.ref (ax 0), .int (h), .int (w)] [wX cy ax an am ak aT ag ik mc od mv rf, wH cy an k] [wX cy ax an am ak aT ag ik mc od mv (rfB (siB h w) rf (siA k h w)), wH cy an k] (siA k h w) := by
  refine ctI_of (by decide +kernel) (Nat.le_of_ble_eq_true rfl) (fun p_ e_ s_ m_ args_ below_ meth_ c_ A_ X => ?_)
  refine g_lv X (lv' := [(0, .ref (ax 0)), (1, .int (h)), (2, .int (w))]) [0, 1, 2] rfl ?_
  refine g_iload_n (pc := 0) X dX3_sins_0 1 rfl ?_
  refine g_iconst (v := 0) (pc := 1) X dX3_sins_1 (by decide) ?_
  refine g_bipush (v := 7) (pc := 2) X dX3_sins_2 (by decide) ?_
  refine g_callS (pc := 4) (rest := []) X (c_X3_outOf l D cy h 0 7 ) sl_X3_54 dX3_sins_4 rfl rfl rfl rfl rfl ⟨Nat.zero_le _, Nat.zero_le _⟩ ?_
  refine g_istore_n (lv' := [(3, .int (ooI h 0 7)), (0, .ref (ax 0)), (1, .int (h)), (2, .int (w))]) (pc := 7) X dX3_sins_7 rfl rfl rfl ?_
  refine g_iload_n (pc := 8) X dX3_sins_8 0 rfl ?_
  refine g_if_eq (pc := 9) (tgt := 18) X dX3_sins_9 (by decide) (fun c9 => ?_) (fun c9 => ?_)
  · have r9 := c9
    obtain ⟨j, hj, rfl⟩ := in_lt (n := 8) (by omega) (oo_0 c9).1 (Int32.lt_of_le_of_lt (oo_0 c9).2 (by decide))
    have ixj : ix (nI j) = j := ixn (by omega)
    refine g_iload_n (pc := 18) X dX3_sins_18 3 rfl ?_
    by_cases e19_0 : w = (0 : Int32)
    · refine g_top X e19_0 ?_
      refine g_lookup (pc := 19) (off := 25) (tgt := 44) X dX3_sins_19 (by decide) (by decide) (by decide) ?_
      refine g_aload_n (pc := 44) X dX3_sins_44 1 rfl ?_
      refine g_get (pc := 45) X (v := .ref (an 0)) fl_X3_10 dX3_sins_45 0 0 rfl rfl rfl ?_
      refine g_iload_n (pc := 48) X dX3_sins_48 2 rfl ?_
      refine g_callV (pc := 49) (rest := []) (ss' := [wX cy ax an am ak aT ag ik mc od mv rf, wH cy an k]) X (c_X1_sinCount l D cy an k j hw.2.2.2.2.2.1 hw.2.2.2.1 (by first | assumption | omega)) vl_X3_121 dX3_sins_49 [1] 1 0 rfl rfl rfl rfl rfl rfl rfl rfl rfl rfl rfl rfl rfl ⟨Nat.zero_le _, Nat.zero_le _⟩ ?_
      exact g_iret (pc := 52) X rfl dX3_sins_52 rfl (by simp [siA, *]) (by simp [siA, siB, rfB, *])
    by_cases e19_1 : w = (1 : Int32)
    · refine g_top X e19_1 ?_
      refine g_lookup (pc := 19) (off := 34) (tgt := 53) X dX3_sins_19 (by decide) (by decide) (by decide) ?_
      refine g_aload_n (pc := 53) X dX3_sins_53 1 rfl ?_
      refine g_get (pc := 54) X (v := .ref (an 0)) fl_X3_10 dX3_sins_54 0 0 rfl rfl rfl ?_
      refine g_iload_n (pc := 57) X dX3_sins_57 2 rfl ?_
      refine g_callV (pc := 58) (rest := []) (ss' := [wX cy ax an am ak aT ag ik mc od mv rf, wH cy an k]) X (c_X1_firstSin l D cy an k j hw.2.2.2.2.2.1 hw.2.2.2.1 (by first | assumption | omega)) vl_X3_124 dX3_sins_58 [1] 1 0 rfl rfl rfl rfl rfl rfl rfl rfl rfl rfl rfl rfl rfl ⟨Nat.zero_le _, Nat.zero_le _⟩ ?_
      exact g_iret (pc := 61) X rfl dX3_sins_61 rfl (by simp [siA, *]) (by simp [siA, siB, rfB, *])
    refine g_lookup (pc := 19) (off := 43) (tgt := 62) X dX3_sins_19 (by decide) ((lv_osw e19_0 (by decide)).trans ((lv_osw e19_1 (by decide)).trans (rfl))) (by decide) ?_
    refine g_aload_n (pc := 62) X dX3_sins_62 1 rfl ?_
    refine g_bipush (v := (-2)) (pc := 63) X dX3_sins_63 (by decide) ?_
    refine g_callV (pc := 65) (rest := []) (ss' := [wX cy ax an am ak aT ag ik mc od mv (rfU rf ((-2))), wH cy an k]) X (c_X3_refuse l D cy ax an am ak aT ag ik mc od mv rf ((-2)) rf_2) vl_X3_58 dX3_sins_65 [0] 0 0 rfl rfl rfl rfl rfl rfl (ads_c (ads_X _ _ _ _ _ _ _ _ _ _ _ _ _ _ _ _ _) rfl) rfl rfl rfl rfl rfl rfl ⟨Nat.zero_le _, Nat.zero_le _⟩ ?_
    exact g_iret (pc := 68) X rfl dX3_sins_68 rfl (by simp [siA, *]) (by simp [siA, siB, rfB, *])
  · refine g_aload_n (pc := 12) X dX3_sins_12 1 rfl ?_
    refine g_iload_n (pc := 13) X dX3_sins_13 0 rfl ?_
    refine g_callV (pc := 14) (rest := []) (ss' := [wX cy ax an am ak aT ag ik mc od mv (rfU rf (ooI h 0 7)), wH cy an k]) X (c_X3_refuse l D cy ax an am ak aT ag ik mc od mv rf (ooI h 0 7) oo_in) vl_X3_58 dX3_sins_14 [0] 0 0 rfl rfl rfl rfl rfl rfl (ads_c (ads_X _ _ _ _ _ _ _ _ _ _ _ _ _ _ _ _ _) rfl) rfl rfl rfl rfl rfl rfl ⟨Nat.zero_le _, Nat.zero_le _⟩ ?_
    exact g_iret (pc := 17) X rfl dX3_sins_17 rfl (by simp [siA, *]) (by simp [siA, siB, rfB, *])
set_option maxRecDepth 100000 in
set_option maxHeartbeats 4000000 in
theorem c_X3_day (l : Launch) (D : va_G) (cy : ClassId) (ax : Nat → Nat) (an : Nat → Nat) (am : Nat → Nat) (ak : Nat → Nat) (aT : Nat → Nat) (ag : Nat → Nat) (ik : Bool) (mc : Nat) (od : Nat → Int32) (mv : Nat → Int32) (rf : Nat → Int32) (k : KV) (hw : KW k) : CtI l yX3_day cX3_day 1 .int 5 177 D cy [.ref (ax 0)] [wX cy ax an am ak aT ag ik mc od mv rf, wH cy an k] [wX cy ax an am ak aT ag ik mc od mv rf, wH cy an k] (fdK k) := by
  refine ctI_of (by decide +kernel) (Nat.le_of_ble_eq_true rfl) (fun p_ e_ s_ m_ args_ below_ meth_ c_ A_ X => ?_)
  refine g_lv X (lv' := [(0, .ref (ax 0))]) [0] rfl ?_
  refine g_aload_n (pc := 0) X dX3_day_0 0 rfl ?_
  refine g_get (pc := 1) X (v := .ref (an 0)) fl_X3_10 dX3_day_1 0 0 rfl rfl rfl ?_
  refine g_callV (pc := 4) (rest := []) (ss' := [wX cy ax an am ak aT ag ik mc od mv rf, wH cy an k]) X (c_X1_firstSinfulHour l D cy an k hw.2.2.2.2.2.1 hw.2.2.2.1) vl_X3_127 dX3_day_4 [1] 1 0 rfl rfl rfl rfl rfl rfl rfl rfl rfl rfl rfl rfl rfl ⟨Nat.zero_le _, Nat.zero_le _⟩ ?_
  exact g_iret (pc := 7) X rfl dX3_day_7 rfl rfl rfl
set_option maxRecDepth 100000 in
set_option maxHeartbeats 4000000 in
theorem c_X3_row (l : Launch) (D : va_G) (cy : ClassId) (ax : Nat → Nat) (an : Nat → Nat) (am : Nat → Nat) (ak : Nat → Nat) (aT : Nat → Nat) (ag : Nat → Nat) (ik : Bool) (mc : Nat) (od : Nat → Int32) (mv : Nat → Int32) (rf : Nat → Int32) (v : Int32) (hm : mc ≤ 12) : CtI l yX3_row cX3_row 3 .int 1 86 D cy [.ref (ax 0), .int (v)] [wX cy ax an am ak aT ag ik mc od mv rf] [wX cy ax an am ak aT ag ik (roN mc v) od (roM mv mc v) (rfB (roB mc v) rf (roA mc v))] (roA mc v) := by
  refine ctI_of (by decide +kernel) (Nat.le_of_ble_eq_true rfl) (fun p_ e_ s_ m_ args_ below_ meth_ c_ A_ X => ?_)
  refine g_lv X (lv' := [(0, .ref (ax 0)), (1, .int (v))]) [0, 1] rfl ?_
  refine g_iload_n (pc := 0) X dX3_row_0 1 rfl ?_
  refine g_iconst (v := 0) (pc := 1) X dX3_row_1 (by decide) ?_
  refine g_bipush (v := 99) (pc := 2) X dX3_row_2 (by decide) ?_
  refine g_callS (pc := 4) (rest := []) X (c_X3_outOf l D cy v 0 99 ) sl_X3_54 dX3_row_4 rfl rfl rfl rfl rfl ⟨Nat.zero_le _, Nat.zero_le _⟩ ?_
  refine g_istore_n (lv' := [(2, .int (ooI v 0 99)), (0, .ref (ax 0)), (1, .int (v))]) (pc := 7) X dX3_row_7 rfl rfl rfl ?_
  refine g_iload_n (pc := 8) X dX3_row_8 0 rfl ?_
  refine g_if_eq (pc := 9) (tgt := 18) X dX3_row_9 (by decide) (fun c9 => ?_) (fun c9 => ?_)
  · refine g_aload_n (pc := 18) X dX3_row_18 1 rfl ?_
    refine g_get (pc := 19) X (v := .int (nI mc)) fl_X3_47 dX3_row_19 0 0 rfl rfl rfl ?_
    refine g_bipush (v := 12) (pc := 22) X dX3_row_22 (by decide) ?_
    refine g_ncmp_lt (pc := 24) (tgt := 34) X dX3_row_24 (by decide) mc 12 rfl rfl (by omega) (by decide) (fun c24 => ?_) (fun c24 => ?_)
    · refine g_aload_n (pc := 34) X dX3_row_34 1 rfl ?_
      refine g_get (pc := 35) X (v := .ref (ax 2)) fl_X3_44 dX3_row_35 0 0 rfl rfl rfl ?_
      refine g_aload_n (pc := 38) X dX3_row_38 1 rfl ?_
      refine g_get (pc := 39) X (v := .int (nI mc)) fl_X3_47 dX3_row_39 0 0 rfl rfl rfl ?_
      refine g_iload_n (pc := 42) X dX3_row_42 2 rfl ?_
      refine g_iast_n (pc := 43) X (ss' := [wX cy ax an am ak aT ag ik mc od (upd mv mc v) rf]) 0 2 dX3_row_43 mc rfl rfl rfl (by omega) rfl rfl ?_
      refine g_aload_n (pc := 44) X dX3_row_44 1 rfl ?_
      refine g_dup (pc := 45) X dX3_row_45 rfl ?_
      refine g_get (pc := 46) X (v := .int (nI mc)) fl_X3_47 dX3_row_46 0 0 rfl rfl rfl ?_
      refine g_iconst (v := 1) (pc := 49) X dX3_row_49 (by decide) ?_
      refine g_iadd (v := nI (mc + 1)) (pc := 50) X dX3_row_50 (nI_add mc 1) ?_
      refine g_put (pc := 51) X (ss' := [wX cy ax an am ak aT ag ik (mc + 1) od (upd mv mc v) rf]) fp_X3_47 dX3_row_51 0 0 rfl rfl rfl rfl rfl rfl ?_
      refine g_aload_n (pc := 54) X dX3_row_54 1 rfl ?_
      refine g_get (pc := 55) X (v := .int (nI (mc + 1))) fl_X3_47 dX3_row_55 0 0 rfl rfl rfl ?_
      exact g_iret (pc := 58) X rfl dX3_row_58 rfl (by simp [roA, *]) (by simp [roA, roB, rfB, roM, roN, *])
    · have n24 := Nat.not_lt.mpr c24
      refine g_aload_n (pc := 27) X dX3_row_27 1 rfl ?_
      refine g_bipush (v := (-6)) (pc := 28) X dX3_row_28 (by decide) ?_
      refine g_callV (pc := 30) (rest := []) (ss' := [wX cy ax an am ak aT ag ik mc od mv (rfU rf ((-6)))]) X (c_X3_refuse l D cy ax an am ak aT ag ik mc od mv rf ((-6)) rf_6) vl_X3_58 dX3_row_30 [0] 0 0 rfl rfl rfl rfl rfl rfl (ads_c (ads_X _ _ _ _ _ _ _ _ _ _ _ _ _ _ _ _ _) rfl) rfl rfl rfl rfl rfl rfl ⟨Nat.zero_le _, Nat.zero_le _⟩ ?_
      exact g_iret (pc := 33) X rfl dX3_row_33 rfl (by simp [roA, *]) (by simp [roA, roB, rfB, roM, roN, *])
  · refine g_aload_n (pc := 12) X dX3_row_12 1 rfl ?_
    refine g_iload_n (pc := 13) X dX3_row_13 0 rfl ?_
    refine g_callV (pc := 14) (rest := []) (ss' := [wX cy ax an am ak aT ag ik mc od mv (rfU rf (ooI v 0 99))]) X (c_X3_refuse l D cy ax an am ak aT ag ik mc od mv rf (ooI v 0 99) oo_in) vl_X3_58 dX3_row_14 [0] 0 0 rfl rfl rfl rfl rfl rfl (ads_c (ads_X _ _ _ _ _ _ _ _ _ _ _ _ _ _ _ _ _) rfl) rfl rfl rfl rfl rfl rfl ⟨Nat.zero_le _, Nat.zero_le _⟩ ?_
    exact g_iret (pc := 17) X rfl dX3_row_17 rfl (by simp [roA, *]) (by simp [roA, roB, rfB, roM, roN, *])
set_option maxRecDepth 100000 in
set_option maxHeartbeats 4000000 in
theorem c_X3_image (l : Launch) (D : va_G) (cy : ClassId) (ax : Nat → Nat) (an : Nat → Nat) (am : Nat → Nat) (ak : Nat → Nat) (aT : Nat → Nat) (ag : Nat → Nat) (ik : Bool) (mc : Nat) (od : Nat → Int32) (mv : Nat → Int32) (rf : Nat → Int32) (k : KV) (kk : KV) : CtI l yX3_image cX3_image 1 .int 3 117 D cy [.ref (ax 0)] [wX cy ax an am ak aT ag ik mc od mv rf, wH cy an k, wH cy ak kk] [wX cy ax an am ak aT ag true mc od mv rf, wH cy an k, wH cy ak k] (nI (kNt k)) := by
  refine ctI_of (by decide +kernel) (Nat.le_of_ble_eq_true rfl) (fun p_ e_ s_ m_ args_ below_ meth_ c_ A_ X => ?_)
  refine g_lv X (lv' := [(0, .ref (ax 0))]) [0] rfl ?_
  refine g_aload_n (pc := 0) X dX3_image_0 0 rfl ?_
  refine g_get (pc := 1) X (v := .ref (ak 0)) fl_X3_19 dX3_image_1 0 0 rfl rfl rfl ?_
  refine g_aload_n (pc := 4) X dX3_image_4 0 rfl ?_
  refine g_get (pc := 5) X (v := .ref (an 0)) fl_X3_10 dX3_image_5 0 0 rfl rfl rfl ?_
  refine g_callVv (pc := 8) (rest := []) (ss' := [wX cy ax an am ak aT ag ik mc od mv rf, wH cy an k, wH cy ak k]) X (c_X1_become l D cy ak an kk k ) vl_X3_68 dX3_image_8 [2, 1] 2 0 rfl rfl rfl rfl rfl rfl (ads_c (ads_H _ _ _ _ _ _ _ _) (ads_c (ads_H _ _ _ _ _ _ _ _) rfl)) rfl rfl rfl rfl rfl rfl ⟨Nat.zero_le _, Nat.zero_le _⟩ ?_
  refine g_aload_n (pc := 11) X dX3_image_11 0 rfl ?_
  refine g_iconst (v := 1) (pc := 12) X dX3_image_12 (by decide) ?_
  refine g_put (pc := 13) X (ss' := [wX cy ax an am ak aT ag true mc od mv rf, wH cy an k, wH cy ak k]) fp_X3_22 dX3_image_13 0 0 rfl rfl rfl rfl rfl rfl ?_
  refine g_aload_n (pc := 16) X dX3_image_16 0 rfl ?_
  refine g_get (pc := 17) X (v := .ref (an 0)) fl_X3_10 dX3_image_17 0 0 rfl rfl rfl ?_
  refine g_get (pc := 20) X (v := .int (nI (kNt k))) fl_X3_115 dX3_image_20 1 0 rfl rfl rfl ?_
  exact g_iret (pc := 23) X rfl dX3_image_23 rfl rfl rfl
set_option maxRecDepth 100000 in
set_option maxHeartbeats 4000000 in
theorem c_X3_on (l : Launch) (D : va_G) (cy : ClassId) (ax : Nat → Nat) (an : Nat → Nat) (am : Nat → Nat) (ak : Nat → Nat) (aT : Nat → Nat) (ag : Nat → Nat) (ik : Bool) (mc : Nat) (od : Nat → Int32) (mv : Nat → Int32) (rf : Nat → Int32) (k : KV) (kk : KV) : CtI l yX3_on cX3_on 1 .int 3 117 D cy [.ref (ax 0)] [wX cy ax an am ak aT ag ik mc od mv rf, wH cy an k, wH cy ak kk] [wX cy ax an am ak aT ag ik mc od mv (rfB ik rf (onA kk ik)), wH cy an (onK k kk ik), wH cy ak kk] (onA kk ik) := by
  refine ctI_of (by decide +kernel) (Nat.le_of_ble_eq_true rfl) (fun p_ e_ s_ m_ args_ below_ meth_ c_ A_ X => ?_)
  refine g_lv X (lv' := [(0, .ref (ax 0))]) [0] rfl ?_
  refine g_aload_n (pc := 0) X dX3_on_0 0 rfl ?_
  refine g_get (pc := 1) X (v := .int (bI (ik))) fl_X3_22 dX3_on_1 0 0 rfl rfl rfl ?_
  refine g_bif_ne (pc := 4) (tgt := 14) X dX3_on_4 (by decide) (fun c4 => ?_) (fun c4 => ?_)
  · refine g_aload_n (pc := 14) X dX3_on_14 0 rfl ?_
    refine g_get (pc := 15) X (v := .ref (an 0)) fl_X3_10 dX3_on_15 0 0 rfl rfl rfl ?_
    refine g_aload_n (pc := 18) X dX3_on_18 0 rfl ?_
    refine g_get (pc := 19) X (v := .ref (ak 0)) fl_X3_19 dX3_on_19 0 0 rfl rfl rfl ?_
    refine g_callVv (pc := 22) (rest := []) (ss' := [wX cy ax an am ak aT ag ik mc od mv rf, wH cy an kk, wH cy ak kk]) X (c_X1_become l D cy an ak k kk ) vl_X3_68 dX3_on_22 [1, 2] 1 0 rfl rfl rfl rfl rfl rfl (ads_c (ads_H _ _ _ _ _ _ _ _) (ads_c (ads_H _ _ _ _ _ _ _ _) rfl)) rfl rfl rfl rfl rfl rfl ⟨Nat.zero_le _, Nat.zero_le _⟩ ?_
    refine g_aload_n (pc := 25) X dX3_on_25 0 rfl ?_
    refine g_get (pc := 26) X (v := .ref (an 0)) fl_X3_10 dX3_on_26 0 0 rfl rfl rfl ?_
    refine g_get (pc := 29) X (v := .int (nI (kNt kk))) fl_X3_115 dX3_on_29 1 0 rfl rfl rfl ?_
    exact g_iret (pc := 32) X rfl dX3_on_32 rfl (by simp [onA, *]) (by simp [onA, onK, rfB, *])
  · refine g_aload_n (pc := 7) X dX3_on_7 0 rfl ?_
    refine g_bipush (v := (-3)) (pc := 8) X dX3_on_8 (by decide) ?_
    refine g_callV (pc := 10) (rest := []) (ss' := [wX cy ax an am ak aT ag ik mc od mv (rfU rf ((-3))), wH cy an k, wH cy ak kk]) X (c_X3_refuse l D cy ax an am ak aT ag ik mc od mv rf ((-3)) rf_3) vl_X3_58 dX3_on_10 [0] 0 0 rfl rfl rfl rfl rfl rfl (ads_c (ads_X _ _ _ _ _ _ _ _ _ _ _ _ _ _ _ _ _) rfl) rfl rfl rfl rfl rfl rfl ⟨Nat.zero_le _, Nat.zero_le _⟩ ?_
    exact g_iret (pc := 13) X rfl dX3_on_13 rfl (by simp [onA, *]) (by simp [onA, onK, rfB, *])
