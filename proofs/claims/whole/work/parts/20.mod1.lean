set_option maxRecDepth 100000 in
set_option maxHeartbeats 4000000 in
theorem c_X4_within (l : Launch) (D : va_G) (cy : ClassId) (x : Int32) (lo : Int32) (hi : Int32) : CtI l yX4_within cX4_within 3 .boolean 0 64 D cy [.int (x), .int (lo), .int (hi)] [] [] (bI (wiB x lo hi)) := by
  refine ctI_of (by decide +kernel) (Nat.le_of_ble_eq_true rfl) (fun p_ e_ s_ m_ args_ below_ meth_ c_ A_ X => ?_)
  refine g_lv X (lv' := [(0, .int (x)), (1, .int (lo)), (2, .int (hi))]) [0, 1, 2] rfl ?_
  refine g_iload_n (pc := 0) X dX4_within_0 0 rfl ?_
  refine g_iload_n (pc := 1) X dX4_within_1 1 rfl ?_
  refine g_icmp_lt (pc := 2) (tgt := 14) X dX4_within_2 (by decide) (fun c2 => ?_) (fun c2 => ?_)
  · refine g_iconst (v := 0) (pc := 14) X dX4_within_14 (by decide) ?_
    exact g_iret (pc := 15) X rfl dX4_within_15 rfl (by first | exact bI_t (decide_eq_true ⟨c2, c7⟩) | exact bI_f (decide_eq_false (fun h => absurd h.2 (Int32.not_le.mpr c7))) | exact bI_f (decide_eq_false (fun h => absurd h.1 (Int32.not_le.mpr c2))) | done) rfl
  · have n2 := Int32.not_lt.mpr c2
    refine g_iload_n (pc := 5) X dX4_within_5 0 rfl ?_
    refine g_iload_n (pc := 6) X dX4_within_6 2 rfl ?_
    refine g_icmp_gt (pc := 7) (tgt := 14) X dX4_within_7 (by decide) (fun c7 => ?_) (fun c7 => ?_)
    · refine g_iconst (v := 0) (pc := 14) X dX4_within_14 (by decide) ?_
      exact g_iret (pc := 15) X rfl dX4_within_15 rfl (by first | exact bI_t (decide_eq_true ⟨c2, c7⟩) | exact bI_f (decide_eq_false (fun h => absurd h.2 (Int32.not_le.mpr c7))) | exact bI_f (decide_eq_false (fun h => absurd h.1 (Int32.not_le.mpr c2))) | done) rfl
    · have n7 := Int32.not_lt.mpr c7
      refine g_iconst (v := 1) (pc := 10) X dX4_within_10 (by decide) ?_
      refine g_goto (pc := 11) (tgt := 15) X dX4_within_11 (by decide) ?_
      exact g_iret (pc := 15) X rfl dX4_within_15 rfl (by first | exact bI_t (decide_eq_true ⟨c2, c7⟩) | exact bI_f (decide_eq_false (fun h => absurd h.2 (Int32.not_le.mpr c7))) | exact bI_f (decide_eq_false (fun h => absurd h.1 (Int32.not_le.mpr c2))) | done) rfl
set_option maxRecDepth 100000 in
set_option maxHeartbeats 4000000 in
theorem c_X4_has (l : Launch) (D : va_G) (cy : ClassId) (x : Int32) (y : Int32) : CtI l yX4_has cX4_has 2 .boolean 0 64 D cy [.int (x), .int (y)] [] [] (bI (btI x y)) := by
  refine ctI_of (by decide +kernel) (Nat.le_of_ble_eq_true rfl) (fun p_ e_ s_ m_ args_ below_ meth_ c_ A_ X => ?_)
  refine g_lv X (lv' := [(0, .int (x)), (1, .int (y))]) [0, 1] rfl ?_
  refine g_iload_n (pc := 0) X dX4_has_0 0 rfl ?_
  refine g_iload_n (pc := 1) X dX4_has_1 1 rfl ?_
  refine g_ishr (v := shr x y) (pc := 2) X dX4_has_2 rfl ?_
  refine g_iconst (v := 1) (pc := 3) X dX4_has_3 (by decide) ?_
  refine g_iand (v := (shr x y) &&& 1) (pc := 4) X dX4_has_4 rfl ?_
  refine g_iconst (v := 1) (pc := 5) X dX4_has_5 (by decide) ?_
  refine g_icmp_ne (pc := 6) (tgt := 13) X dX4_has_6 (by decide) (fun c6 => ?_) (fun c6 => ?_)
  · refine g_iconst (v := 0) (pc := 13) X dX4_has_13 (by decide) ?_
    exact g_iret (pc := 14) X rfl dX4_has_14 rfl (by first | exact bI_t (decide_eq_true c6) | exact bI_f (decide_eq_false c6) | done) rfl
  · refine g_iconst (v := 1) (pc := 9) X dX4_has_9 (by decide) ?_
    refine g_goto (pc := 10) (tgt := 14) X dX4_has_10 (by decide) ?_
    exact g_iret (pc := 14) X rfl dX4_has_14 rfl (by first | exact bI_t (decide_eq_true c6) | exact bI_f (decide_eq_false c6) | done) rfl
set_option maxRecDepth 100000 in
set_option maxHeartbeats 4000000 in
theorem c_X4_isRoom (l : Launch) (D : va_G) (cy : ClassId) (x : Int32) : CtI l yX4_isRoom cX4_isRoom 1 .boolean 1 86 D cy [.int (x)] [] [] (bI (isRm x)) := by
  refine ctI_of (by decide +kernel) (Nat.le_of_ble_eq_true rfl) (fun p_ e_ s_ m_ args_ below_ meth_ c_ A_ X => ?_)
  refine g_lv X (lv' := [(0, .int (x))]) [0] rfl ?_
  refine g_iload_n (pc := 0) X dX4_isRoom_0 0 rfl ?_
  refine g_iconst (v := 0) (pc := 1) X dX4_isRoom_1 (by decide) ?_
  refine g_iconst (v := 5) (pc := 2) X dX4_isRoom_2 (by decide) ?_
  refine g_callS (pc := 3) (rest := []) X (c_X4_within l D cy x 0 5 ) sl_X4_56 dX4_isRoom_3 rfl rfl rfl rfl rfl ⟨Nat.zero_le _, Nat.zero_le _⟩ ?_
  exact g_iret (pc := 6) X rfl dX4_isRoom_6 (nar_b _) (by rw [← wi_5]) rfl
set_option maxRecDepth 100000 in
set_option maxHeartbeats 4000000 in
theorem c_X4_isThing (l : Launch) (D : va_G) (cy : ClassId) (ay : Nat → Nat) (k : KV) (v : MV) (x : Int32) (h8 : kNt k ≤ 8) : CtI l yX4_isThing cX4_isThing 2 .boolean 1 86 D cy [.ref (ay 0), .int (x)] [wM cy ay k v] [wM cy ay k v] (bI (hasT k x)) := by
  refine ctI_of (by decide +kernel) (Nat.le_of_ble_eq_true rfl) (fun p_ e_ s_ m_ args_ below_ meth_ c_ A_ X => ?_)
  refine g_lv X (lv' := [(0, .ref (ay 0)), (1, .int (x))]) [0, 1] rfl ?_
  refine g_iload_n (pc := 0) X dX4_isThing_0 1 rfl ?_
  refine g_iconst (v := 0) (pc := 1) X dX4_isThing_1 (by decide) ?_
  refine g_aload_n (pc := 2) X dX4_isThing_2 0 rfl ?_
  refine g_get (pc := 3) X (v := .int (nI (kNt k))) fl_X4_52 dX4_isThing_3 0 0 rfl rfl rfl ?_
  refine g_iconst (v := 1) (pc := 6) X dX4_isThing_6 (by decide) ?_
  refine g_isub (v := nI (kNt k) - 1) (pc := 7) X dX4_isThing_7 rfl ?_
  refine g_callS (pc := 8) (rest := []) X (c_X4_within l D cy x 0 (nI (kNt k) - 1) ) sl_X4_56 dX4_isThing_8 rfl rfl rfl rfl rfl ⟨Nat.zero_le _, Nat.zero_le _⟩ ?_
  exact g_iret (pc := 11) X rfl dX4_isThing_11 (nar_b _) (by rw [wi_m1 (by omega)]; rfl) rfl
set_option maxRecDepth 100000 in
set_option maxHeartbeats 4000000 in
theorem c_X4_isLine (l : Launch) (D : va_G) (cy : ClassId) (ay : Nat → Nat) (k : KV) (v : MV) (x : Int32) (h10 : kNl k ≤ 10) : CtI l yX4_isLine cX4_isLine 2 .boolean 1 86 D cy [.ref (ay 0), .int (x)] [wM cy ay k v] [wM cy ay k v] (bI (hasL k x)) := by
  refine ctI_of (by decide +kernel) (Nat.le_of_ble_eq_true rfl) (fun p_ e_ s_ m_ args_ below_ meth_ c_ A_ X => ?_)
  refine g_lv X (lv' := [(0, .ref (ay 0)), (1, .int (x))]) [0, 1] rfl ?_
  refine g_iload_n (pc := 0) X dX4_isLine_0 1 rfl ?_
  refine g_iconst (v := 0) (pc := 1) X dX4_isLine_1 (by decide) ?_
  refine g_aload_n (pc := 2) X dX4_isLine_2 0 rfl ?_
  refine g_get (pc := 3) X (v := .int (nI (kNl k))) fl_X4_60 dX4_isLine_3 0 0 rfl rfl rfl ?_
  refine g_iconst (v := 1) (pc := 6) X dX4_isLine_6 (by decide) ?_
  refine g_isub (v := nI (kNl k) - 1) (pc := 7) X dX4_isLine_7 rfl ?_
  refine g_callS (pc := 8) (rest := []) X (c_X4_within l D cy x 0 (nI (kNl k) - 1) ) sl_X4_56 dX4_isLine_8 rfl rfl rfl rfl rfl ⟨Nat.zero_le _, Nat.zero_le _⟩ ?_
  exact g_iret (pc := 11) X rfl dX4_isLine_11 (nar_b _) (by rw [wi_m1 (by omega)]; rfl) rfl
set_option maxRecDepth 100000 in
set_option maxHeartbeats 4000000 in
theorem c_X4_no (l : Launch) (D : va_G) (cy : ClassId) (ay : Nat → Nat) (k : KV) (v : MV) (x : Int32) (hx : vp_in (-x) 7) : CtI l yX4_no cX4_no 2 .int 0 64 D cy [.ref (ay 0), .int (x)] [wM cy ay k v] [wM cy ay k (uRf v (rfU (mRf v) x))] (x) := by
  refine ctI_of (by decide +kernel) (Nat.le_of_ble_eq_true rfl) (fun p_ e_ s_ m_ args_ below_ meth_ c_ A_ X => ?_)
  refine g_lv X (lv' := [(0, .ref (ay 0)), (1, .int (x))]) [0, 1] rfl ?_
  refine g_aload_n (pc := 0) X dX4_no_0 0 rfl ?_
  refine g_get (pc := 1) X (v := .ref (ay 10)) fl_X4_37 dX4_no_1 0 0 rfl rfl rfl ?_
  refine g_iload_n (pc := 4) X dX4_no_4 1 rfl ?_
  refine g_ineg (v := -x) (pc := 5) X dX4_no_5 rfl ?_
  refine g_dup2 (pc := 6) X dX4_no_6 rfl rfl ?_
  refine g_iald (pc := 7) (f := mRf v) X 0 10 dX4_no_7 rfl rfl hx ?_
  refine g_iconst (v := 1) (pc := 8) X dX4_no_8 (by decide) ?_
  refine g_iadd (v := ((mRf v) (ix (-x))) + 1) (pc := 9) X dX4_no_9 rfl ?_
  refine g_iast (pc := 10) X (ss' := [wM cy ay k (uRf v (upd (mRf v) (ix (-x)) (((mRf v) (ix (-x))) + 1)))]) 0 10 dX4_no_10 rfl rfl hx rfl ?_
  refine g_iload_n (pc := 11) X dX4_no_11 1 rfl ?_
  exact g_iret (pc := 12) X rfl dX4_no_12 rfl rfl rfl
set_option maxRecDepth 100000 in
set_option maxHeartbeats 4000000 in
theorem c_X4_letter (l : Launch) (D : va_G) (cy : ClassId) (ay : Nat → Nat) (k : KV) (v : MV) (x : Int32) (h80 : mN v ≤ 80) : CtI l yX4_letter cX4_letter 2 .int 1 85 D cy [.ref (ay 0), .int (x)] [wM cy ay k v] [wM cy ay k (uRf (uLt (uN v (lcN (mN v) x)) (lcT (mLt v) (mN v) x)) (rfB (lcB (mN v) x) (mRf v) (lcA (mN v) x)))] (lcA (mN v) x) := by
  refine ctI_of (by decide +kernel) (Nat.le_of_ble_eq_true rfl) (fun p_ e_ s_ m_ args_ below_ meth_ c_ A_ X => ?_)
  refine g_lv X (lv' := [(0, .ref (ay 0)), (1, .int (x))]) [0, 1] rfl ?_
  refine g_iload_n (pc := 0) X dX4_letter_0 1 rfl ?_
  refine g_if_ge (pc := 1) (tgt := 11) X dX4_letter_1 (by decide) (fun c1 => ?_) (fun c1 => ?_)
  · have n1 := Int32.not_lt.mpr c1
    refine g_iload_n (pc := 11) X dX4_letter_11 1 rfl ?_
    refine g_sipush (v := 255) (pc := 12) X dX4_letter_12 (by decide) ?_
    refine g_icmp_gt (pc := 15) (tgt := 27) X dX4_letter_15 (by decide) (fun c15 => ?_) (fun c15 => ?_)
    · have oo := oo_h n1 c15
      refine g_aload_n (pc := 27) X dX4_letter_27 0 rfl ?_
      refine g_bipush (v := (-6)) (pc := 28) X dX4_letter_28 (by decide) ?_
      refine g_callV (pc := 30) (rest := []) (ss' := [wM cy ay k (uRf v (rfU (mRf v) ((-6))))]) X (c_X4_no l D cy ay k v ((-6)) rf_6) vl_X4_63 dX4_letter_30 [0] 0 0 rfl rfl rfl rfl rfl rfl (ads_c (ads_M _ _ _ _ _ _) rfl) rfl rfl rfl rfl rfl rfl ⟨Nat.zero_le _, Nat.zero_le _⟩ ?_
      exact g_iret (pc := 33) X rfl dX4_letter_33 rfl (by simp [lcA, *]) (by simp [lcA, lcB, rfB, lcT, lcN, *])
    · have n15 := Int32.not_lt.mpr c15
      have oo := oo_b n1 n15
      refine g_aload_n (pc := 18) X dX4_letter_18 0 rfl ?_
      refine g_get (pc := 19) X (v := .int (nI (mN v))) fl_X4_67 dX4_letter_19 0 0 rfl rfl rfl ?_
      refine g_bipush (v := 80) (pc := 22) X dX4_letter_22 (by decide) ?_
      refine g_ncmp_ne (pc := 24) (tgt := 34) X dX4_letter_24 (by decide) (mN v) 80 rfl rfl (by omega) (by decide) (fun c24 => ?_) (fun c24 => ?_)
      · have n24 : mN v < 80 := by omega
        clear c24
        refine g_aload_n (pc := 34) X dX4_letter_34 0 rfl ?_
        refine g_get (pc := 35) X (v := .ref (ay 7)) fl_X4_28 dX4_letter_35 0 0 rfl rfl rfl ?_
        refine g_aload_n (pc := 38) X dX4_letter_38 0 rfl ?_
        refine g_dup (pc := 39) X dX4_letter_39 rfl ?_
        refine g_get (pc := 40) X (v := .int (nI (mN v))) fl_X4_67 dX4_letter_40 0 0 rfl rfl rfl ?_
        refine g_dup_x1 (pc := 43) X dX4_letter_43 rfl rfl ?_
        refine g_iconst (v := 1) (pc := 44) X dX4_letter_44 (by decide) ?_
        refine g_iadd (v := nI (mN v + 1)) (pc := 45) X dX4_letter_45 (nI_add (mN v) 1) ?_
        refine g_put (pc := 46) X (ss' := [wM cy ay k (uN v (mN v + 1))]) fp_X4_67 dX4_letter_46 0 0 rfl rfl rfl rfl rfl rfl ?_
        refine g_iload_n (pc := 49) X dX4_letter_49 1 rfl ?_
        refine g_iast_n (pc := 50) X (ss' := [wM cy ay k (uLt (uN v (mN v + 1)) (upd (mLt v) (mN v) x))]) 0 7 dX4_letter_50 (mN v) rfl rfl rfl (by omega) rfl rfl ?_
        refine g_aload_n (pc := 51) X dX4_letter_51 0 rfl ?_
        refine g_get (pc := 52) X (v := .int (nI (mN v + 1))) fl_X4_67 dX4_letter_52 0 0 rfl rfl rfl ?_
        exact g_iret (pc := 55) X rfl dX4_letter_55 rfl (by simp [lcA, *]) (by simp [lcA, lcB, rfB, lcT, lcN, *])
      · have n24 : ¬ mN v < 80 := by omega
        clear c24
        refine g_aload_n (pc := 27) X dX4_letter_27 0 rfl ?_
        refine g_bipush (v := (-6)) (pc := 28) X dX4_letter_28 (by decide) ?_
        refine g_callV (pc := 30) (rest := []) (ss' := [wM cy ay k (uRf v (rfU (mRf v) ((-6))))]) X (c_X4_no l D cy ay k v ((-6)) rf_6) vl_X4_63 dX4_letter_30 [0] 0 0 rfl rfl rfl rfl rfl rfl (ads_c (ads_M _ _ _ _ _ _) rfl) rfl rfl rfl rfl rfl rfl ⟨Nat.zero_le _, Nat.zero_le _⟩ ?_
        exact g_iret (pc := 33) X rfl dX4_letter_33 rfl (by simp [lcA, *]) (by simp [lcA, lcB, rfB, lcT, lcN, *])
  · have oo := oo_l (hi := 255) c1
    refine g_aload_n (pc := 4) X dX4_letter_4 0 rfl ?_
    refine g_bipush (v := (-4)) (pc := 5) X dX4_letter_5 (by decide) ?_
    refine g_callV (pc := 7) (rest := []) (ss' := [wM cy ay k (uRf v (rfU (mRf v) ((-4))))]) X (c_X4_no l D cy ay k v ((-4)) rf_4) vl_X4_63 dX4_letter_7 [0] 0 0 rfl rfl rfl rfl rfl rfl (ads_c (ads_M _ _ _ _ _ _) rfl) rfl rfl rfl rfl rfl rfl ⟨Nat.zero_le _, Nat.zero_le _⟩ ?_
    exact g_iret (pc := 10) X rfl dX4_letter_10 rfl (by simp [lcA, *]) (by simp [lcA, lcB, rfB, lcT, lcN, *])
set_option maxRecDepth 100000 in
set_option maxHeartbeats 4000000 in
theorem c_X4_thing (l : Launch) (D : va_G) (cy : ClassId) (ay : Nat → Nat) (k : KV) (v : MV) (t : Int32) (w : Int32) (hw : KW k) : CtI l yX4_thing cX4_thing 3 .int 2 107 D cy [.ref (ay 0), .int (t), .int (w)] [wM cy ay k v] [wM cy ay k (uRf v (rfB (thB k t w) (mRf v) (thA k t w)))] (thA k t w) := by
  refine ctI_of (by decide +kernel) (Nat.le_of_ble_eq_true rfl) (fun p_ e_ s_ m_ args_ below_ meth_ c_ A_ X => ?_)
  refine g_lv X (lv' := [(0, .ref (ay 0)), (1, .int (t)), (2, .int (w))]) [0, 1, 2] rfl ?_
  refine g_aload_n (pc := 0) X dX4_thing_0 0 rfl ?_
  refine g_iload_n (pc := 1) X dX4_thing_1 1 rfl ?_
  refine g_callV (pc := 2) (rest := []) (ss' := [wM cy ay k v]) X (c_X4_isThing l D cy ay k v t hw.2.2.2.2.2.1) vl_X4_112 dX4_thing_2 [0] 0 0 rfl rfl rfl rfl rfl rfl rfl rfl rfl rfl rfl rfl rfl ⟨Nat.zero_le _, Nat.zero_le _⟩ ?_
  refine g_bif_ne (pc := 5) (tgt := 14) X dX4_thing_5 (by decide) (fun c5 => ?_) (fun c5 => ?_)
  · have r5 := c5
    obtain ⟨i, hi, rfl⟩ := hasT_t hw.2.2.2.2.2.1 c5
    have ixi : ix (nI i) = i := ixn (by have := hw.2.2.2.2.2.1; omega)
    refine g_iload_n (pc := 14) X dX4_thing_14 2 rfl ?_
    refine g_iconst (v := 0) (pc := 15) X dX4_thing_15 (by decide) ?_
    refine g_iconst (v := 2) (pc := 16) X dX4_thing_16 (by decide) ?_
    refine g_callS (pc := 17) (rest := []) X (c_X4_within l D cy w 0 2 ) sl_X4_56 dX4_thing_17 rfl rfl rfl rfl rfl ⟨Nat.zero_le _, Nat.zero_le _⟩ ?_
    refine g_bif_ne (pc := 20) (tgt := 30) X dX4_thing_20 (by decide) (fun c20 => ?_) (fun c20 => ?_)
    · have w3 := wi_2 c20
      refine g_iload_n (pc := 30) X dX4_thing_30 2 rfl ?_
      refine g_if_ne (pc := 31) (tgt := 43) X dX4_thing_31 (by decide) (fun c31 => ?_) (fun c31 => ?_)
      · refine g_iload_n (pc := 43) X dX4_thing_43 2 rfl ?_
        refine g_iconst (v := 1) (pc := 44) X dX4_thing_44 (by decide) ?_
        refine g_icmp_ne (pc := 45) (tgt := 57) X dX4_thing_45 (by decide) (fun c45 => ?_) (fun c45 => ?_)
        · refine g_aload_n (pc := 57) X dX4_thing_57 0 rfl ?_
          refine g_get (pc := 58) X (v := .ref (ay 5)) fl_X4_22 dX4_thing_58 0 0 rfl rfl rfl ?_
          refine g_iload_n (pc := 61) X dX4_thing_61 1 rfl ?_
          refine g_iald_n (pc := 62) (f := kOt k) X 0 5 dX4_thing_62 i rfl rfl rfl (by have := hw.2.2.2.2.2.1; omega) rfl ?_
          exact g_iret (pc := 63) X rfl dX4_thing_63 rfl (by first | (simp [thA, *]; done) | (rcases w3 with w3 | w3 | w3 <;> first | exact absurd w3 c31 | exact absurd w3 c45 | (simp [thA, *]; done)) | done) (by first | (simp [thA, thB, rfB, *]; done) | (simp [thA, thB, rfB, *]; rfl) | (rcases w3 with w3 | w3 | w3 <;> first | exact absurd w3 c31 | exact absurd w3 c45 | (simp [thA, thB, rfB, *]; done)) | done)
        · refine g_aload_n (pc := 48) X dX4_thing_48 0 rfl ?_
          refine g_get (pc := 49) X (v := .ref (ay 4)) fl_X4_19 dX4_thing_49 0 0 rfl rfl rfl ?_
          refine g_iload_n (pc := 52) X dX4_thing_52 1 rfl ?_
          refine g_iald_n (pc := 53) (f := kRo k) X 0 4 dX4_thing_53 i rfl rfl rfl (by have := hw.2.2.2.2.2.1; omega) rfl ?_
          refine g_goto (pc := 54) (tgt := 63) X dX4_thing_54 (by decide) ?_
          exact g_iret (pc := 63) X rfl dX4_thing_63 rfl (by first | (simp [thA, *]; done) | (rcases w3 with w3 | w3 | w3 <;> first | exact absurd w3 c31 | exact absurd w3 c45 | (simp [thA, *]; done)) | done) (by first | (simp [thA, thB, rfB, *]; done) | (simp [thA, thB, rfB, *]; rfl) | (rcases w3 with w3 | w3 | w3 <;> first | exact absurd w3 c31 | exact absurd w3 c45 | (simp [thA, thB, rfB, *]; done)) | done)
      · refine g_aload_n (pc := 34) X dX4_thing_34 0 rfl ?_
        refine g_get (pc := 35) X (v := .ref (ay 3)) fl_X4_16 dX4_thing_35 0 0 rfl rfl rfl ?_
        refine g_iload_n (pc := 38) X dX4_thing_38 1 rfl ?_
        refine g_iald_n (pc := 39) (f := kKi k) X 0 3 dX4_thing_39 i rfl rfl rfl (by have := hw.2.2.2.2.2.1; omega) rfl ?_
        refine g_goto (pc := 40) (tgt := 63) X dX4_thing_40 (by decide) ?_
        exact g_iret (pc := 63) X rfl dX4_thing_63 rfl (by first | (simp [thA, *]; done) | (rcases w3 with w3 | w3 | w3 <;> first | exact absurd w3 c31 | exact absurd w3 c45 | (simp [thA, *]; done)) | done) (by first | (simp [thA, thB, rfB, *]; done) | (simp [thA, thB, rfB, *]; rfl) | (rcases w3 with w3 | w3 | w3 <;> first | exact absurd w3 c31 | exact absurd w3 c45 | (simp [thA, thB, rfB, *]; done)) | done)
    · have w3 := wi_2f c20
      refine g_aload_n (pc := 23) X dX4_thing_23 0 rfl ?_
      refine g_bipush (v := (-2)) (pc := 24) X dX4_thing_24 (by decide) ?_
      refine g_callV (pc := 26) (rest := []) (ss' := [wM cy ay k (uRf v (rfU (mRf v) ((-2))))]) X (c_X4_no l D cy ay k v ((-2)) rf_2) vl_X4_63 dX4_thing_26 [0] 0 0 rfl rfl rfl rfl rfl rfl (ads_c (ads_M _ _ _ _ _ _) rfl) rfl rfl rfl rfl rfl rfl ⟨Nat.zero_le _, Nat.zero_le _⟩ ?_
      exact g_iret (pc := 29) X rfl dX4_thing_29 rfl (by first | (simp [thA, *]; done) | (rcases w3 with w3 | w3 | w3 <;> first | exact absurd w3 c31 | exact absurd w3 c45 | (simp [thA, *]; done)) | done) (by first | (simp [thA, thB, rfB, *]; done) | (simp [thA, thB, rfB, *]; rfl) | (rcases w3 with w3 | w3 | w3 <;> first | exact absurd w3 c31 | exact absurd w3 c45 | (simp [thA, thB, rfB, *]; done)) | done)
  · refine g_aload_n (pc := 8) X dX4_thing_8 0 rfl ?_
    refine g_iconst (v := (-1)) (pc := 9) X dX4_thing_9 (by decide) ?_
    refine g_callV (pc := 10) (rest := []) (ss' := [wM cy ay k (uRf v (rfU (mRf v) ((-1))))]) X (c_X4_no l D cy ay k v ((-1)) rf_1) vl_X4_63 dX4_thing_10 [0] 0 0 rfl rfl rfl rfl rfl rfl (ads_c (ads_M _ _ _ _ _ _) rfl) rfl rfl rfl rfl rfl rfl ⟨Nat.zero_le _, Nat.zero_le _⟩ ?_
    exact g_iret (pc := 13) X rfl dX4_thing_13 rfl (by first | (simp [thA, *]; done) | (rcases w3 with w3 | w3 | w3 <;> first | exact absurd w3 c31 | exact absurd w3 c45 | (simp [thA, *]; done)) | done) (by first | (simp [thA, thB, rfB, *]; done) | (simp [thA, thB, rfB, *]; rfl) | (rcases w3 with w3 | w3 | w3 <;> first | exact absurd w3 c31 | exact absurd w3 c45 | (simp [thA, thB, rfB, *]; done)) | done)
set_option maxRecDepth 100000 in
set_option maxHeartbeats 4000000 in
theorem c_X4_line (l : Launch) (D : va_G) (cy : ClassId) (ay : Nat → Nat) (k : KV) (v : MV) (t : Int32) (w : Int32) (hw : KW k) : CtI l yX4_line cX4_line 3 .int 2 107 D cy [.ref (ay 0), .int (t), .int (w)] [wM cy ay k v] [wM cy ay k (uRf v (rfB (liB k t w) (mRf v) (liA k t w)))] (liA k t w) := by
  refine ctI_of (by decide +kernel) (Nat.le_of_ble_eq_true rfl) (fun p_ e_ s_ m_ args_ below_ meth_ c_ A_ X => ?_)
  refine g_lv X (lv' := [(0, .ref (ay 0)), (1, .int (t)), (2, .int (w))]) [0, 1, 2] rfl ?_
  refine g_aload_n (pc := 0) X dX4_line_0 0 rfl ?_
  refine g_iload_n (pc := 1) X dX4_line_1 1 rfl ?_
  refine g_callV (pc := 2) (rest := []) (ss' := [wM cy ay k v]) X (c_X4_isLine l D cy ay k v t hw.1.1) vl_X4_89 dX4_line_2 [0] 0 0 rfl rfl rfl rfl rfl rfl rfl rfl rfl rfl rfl rfl rfl ⟨Nat.zero_le _, Nat.zero_le _⟩ ?_
  refine g_bif_ne (pc := 5) (tgt := 14) X dX4_line_5 (by decide) (fun c5 => ?_) (fun c5 => ?_)
  · have r5 := c5
    obtain ⟨i, hi, rfl⟩ := hasL_t hw.1.1 c5
    have ixi : ix (nI i) = i := ixn (by have := hw.1.1; omega)
    refine g_iload_n (pc := 14) X dX4_line_14 2 rfl ?_
    refine g_iconst (v := 0) (pc := 15) X dX4_line_15 (by decide) ?_
    refine g_iconst (v := 2) (pc := 16) X dX4_line_16 (by decide) ?_
    refine g_callS (pc := 17) (rest := []) X (c_X4_within l D cy w 0 2 ) sl_X4_56 dX4_line_17 rfl rfl rfl rfl rfl ⟨Nat.zero_le _, Nat.zero_le _⟩ ?_
    refine g_bif_ne (pc := 20) (tgt := 30) X dX4_line_20 (by decide) (fun c20 => ?_) (fun c20 => ?_)
    · have w3 := wi_2 c20
      refine g_iload_n (pc := 30) X dX4_line_30 2 rfl ?_
      refine g_if_ne (pc := 31) (tgt := 43) X dX4_line_31 (by decide) (fun c31 => ?_) (fun c31 => ?_)
      · refine g_iload_n (pc := 43) X dX4_line_43 2 rfl ?_
        refine g_iconst (v := 1) (pc := 44) X dX4_line_44 (by decide) ?_
        refine g_icmp_ne (pc := 45) (tgt := 57) X dX4_line_45 (by decide) (fun c45 => ?_) (fun c45 => ?_)
        · refine g_aload_n (pc := 57) X dX4_line_57 0 rfl ?_
          refine g_get (pc := 58) X (v := .int (kHd k)) fl_X4_92 dX4_line_58 0 0 rfl rfl rfl ?_
          refine g_iload_n (pc := 61) X dX4_line_61 1 rfl ?_
          refine g_ishr (v := shr (kHd k) (nI i)) (pc := 62) X dX4_line_62 rfl ?_
          refine g_iconst (v := 1) (pc := 63) X dX4_line_63 (by decide) ?_
          refine g_iand (v := (shr (kHd k) (nI i)) &&& 1) (pc := 64) X dX4_line_64 rfl ?_
          exact g_iret (pc := 65) X rfl dX4_line_65 rfl (by first | (simp [liA, *]; done) | (rcases w3 with w3 | w3 | w3 <;> first | exact absurd w3 c31 | exact absurd w3 c45 | (simp [liA, *]; done)) | done) (by first | (simp [liA, liB, rfB, *]; done) | (simp [liA, liB, rfB, *]; rfl) | (rcases w3 with w3 | w3 | w3 <;> first | exact absurd w3 c31 | exact absurd w3 c45 | (simp [liA, liB, rfB, *]; done)) | done)
        · refine g_aload_n (pc := 48) X dX4_line_48 0 rfl ?_
          refine g_get (pc := 49) X (v := .ref (ay 2)) fl_X4_13 dX4_line_49 0 0 rfl rfl rfl ?_
          refine g_iload_n (pc := 52) X dX4_line_52 1 rfl ?_
          refine g_iald_n (pc := 53) (f := kTw k) X 0 2 dX4_line_53 i rfl rfl rfl (by have := hw.1.1; omega) rfl ?_
          refine g_goto (pc := 54) (tgt := 65) X dX4_line_54 (by decide) ?_
          exact g_iret (pc := 65) X rfl dX4_line_65 rfl (by first | (simp [liA, *]; done) | (rcases w3 with w3 | w3 | w3 <;> first | exact absurd w3 c31 | exact absurd w3 c45 | (simp [liA, *]; done)) | done) (by first | (simp [liA, liB, rfB, *]; done) | (simp [liA, liB, rfB, *]; rfl) | (rcases w3 with w3 | w3 | w3 <;> first | exact absurd w3 c31 | exact absurd w3 c45 | (simp [liA, liB, rfB, *]; done)) | done)
      · refine g_aload_n (pc := 34) X dX4_line_34 0 rfl ?_
        refine g_get (pc := 35) X (v := .ref (ay 1)) fl_X4_7 dX4_line_35 0 0 rfl rfl rfl ?_
        refine g_iload_n (pc := 38) X dX4_line_38 1 rfl ?_
        refine g_iald_n (pc := 39) (f := kOn k) X 0 1 dX4_line_39 i rfl rfl rfl (by have := hw.1.1; omega) rfl ?_
        refine g_goto (pc := 40) (tgt := 65) X dX4_line_40 (by decide) ?_
        exact g_iret (pc := 65) X rfl dX4_line_65 rfl (by first | (simp [liA, *]; done) | (rcases w3 with w3 | w3 | w3 <;> first | exact absurd w3 c31 | exact absurd w3 c45 | (simp [liA, *]; done)) | done) (by first | (simp [liA, liB, rfB, *]; done) | (simp [liA, liB, rfB, *]; rfl) | (rcases w3 with w3 | w3 | w3 <;> first | exact absurd w3 c31 | exact absurd w3 c45 | (simp [liA, liB, rfB, *]; done)) | done)
    · have w3 := wi_2f c20
      refine g_aload_n (pc := 23) X dX4_line_23 0 rfl ?_
      refine g_bipush (v := (-2)) (pc := 24) X dX4_line_24 (by decide) ?_
      refine g_callV (pc := 26) (rest := []) (ss' := [wM cy ay k (uRf v (rfU (mRf v) ((-2))))]) X (c_X4_no l D cy ay k v ((-2)) rf_2) vl_X4_63 dX4_line_26 [0] 0 0 rfl rfl rfl rfl rfl rfl (ads_c (ads_M _ _ _ _ _ _) rfl) rfl rfl rfl rfl rfl rfl ⟨Nat.zero_le _, Nat.zero_le _⟩ ?_
      exact g_iret (pc := 29) X rfl dX4_line_29 rfl (by first | (simp [liA, *]; done) | (rcases w3 with w3 | w3 | w3 <;> first | exact absurd w3 c31 | exact absurd w3 c45 | (simp [liA, *]; done)) | done) (by first | (simp [liA, liB, rfB, *]; done) | (simp [liA, liB, rfB, *]; rfl) | (rcases w3 with w3 | w3 | w3 <;> first | exact absurd w3 c31 | exact absurd w3 c45 | (simp [liA, liB, rfB, *]; done)) | done)
  · refine g_aload_n (pc := 8) X dX4_line_8 0 rfl ?_
    refine g_iconst (v := (-1)) (pc := 9) X dX4_line_9 (by decide) ?_
    refine g_callV (pc := 10) (rest := []) (ss' := [wM cy ay k (uRf v (rfU (mRf v) ((-1))))]) X (c_X4_no l D cy ay k v ((-1)) rf_1) vl_X4_63 dX4_line_10 [0] 0 0 rfl rfl rfl rfl rfl rfl (ads_c (ads_M _ _ _ _ _ _) rfl) rfl rfl rfl rfl rfl rfl ⟨Nat.zero_le _, Nat.zero_le _⟩ ?_
    exact g_iret (pc := 13) X rfl dX4_line_13 rfl (by first | (simp [liA, *]; done) | (rcases w3 with w3 | w3 | w3 <;> first | exact absurd w3 c31 | exact absurd w3 c45 | (simp [liA, *]; done)) | done) (by first | (simp [liA, liB, rfB, *]; done) | (simp [liA, liB, rfB, *]; rfl) | (rcases w3 with w3 | w3 | w3 <;> first | exact absurd w3 c31 | exact absurd w3 c45 | (simp [liA, liB, rfB, *]; done)) | done)
set_option maxRecDepth 100000 in
set_option maxHeartbeats 4000000 in
theorem c_X4_curtain (l : Launch) (D : va_G) (cy : ClassId) (ay : Nat → Nat) (k : KV) (v : MV) (t : Int32) (hw : KW k) : CtI l yX4_curtain cX4_curtain 2 .int 2 107 D cy [.ref (ay 0), .int (t)] [wM cy ay k v] [wM cy ay (tgK k t) (uRf v (rfB (hasL k t) (mRf v) (ctA k t)))] (ctA k t) := by
  refine ctI_of (by decide +kernel) (Nat.le_of_ble_eq_true rfl) (fun p_ e_ s_ m_ args_ below_ meth_ c_ A_ X => ?_)
  refine g_lv X (lv' := [(0, .ref (ay 0)), (1, .int (t))]) [0, 1] rfl ?_
  refine g_aload_n (pc := 0) X dX4_curtain_0 0 rfl ?_
  refine g_iload_n (pc := 1) X dX4_curtain_1 1 rfl ?_
  refine g_callV (pc := 2) (rest := []) (ss' := [wM cy ay k v]) X (c_X4_isLine l D cy ay k v t hw.1.1) vl_X4_89 dX4_curtain_2 [0] 0 0 rfl rfl rfl rfl rfl rfl rfl rfl rfl rfl rfl rfl rfl ⟨Nat.zero_le _, Nat.zero_le _⟩ ?_
  refine g_bif_ne (pc := 5) (tgt := 14) X dX4_curtain_5 (by decide) (fun c5 => ?_) (fun c5 => ?_)
  · refine g_aload_n (pc := 14) X dX4_curtain_14 0 rfl ?_
    refine g_dup (pc := 15) X dX4_curtain_15 rfl ?_
    refine g_get (pc := 16) X (v := .int (kHd k)) fl_X4_92 dX4_curtain_16 0 0 rfl rfl rfl ?_
    refine g_iconst (v := 1) (pc := 19) X dX4_curtain_19 (by decide) ?_
    refine g_iload_n (pc := 20) X dX4_curtain_20 1 rfl ?_
    refine g_ishl (v := shl 1 t) (pc := 21) X dX4_curtain_21 rfl ?_
    refine g_ixor (v := (kHd k) ^^^ (shl 1 t)) (pc := 22) X dX4_curtain_22 rfl ?_
    refine g_put (pc := 23) X (ss' := [wM cy ay (sHd k ((kHd k) ^^^ (shl 1 t))) v]) fp_X4_92 dX4_curtain_23 0 0 rfl rfl rfl rfl rfl rfl ?_
    refine g_aload_n (pc := 26) X dX4_curtain_26 0 rfl ?_
    refine g_get (pc := 27) X (v := .int ((kHd k) ^^^ (shl 1 t))) fl_X4_92 dX4_curtain_27 0 0 rfl rfl rfl ?_
    refine g_iload_n (pc := 30) X dX4_curtain_30 1 rfl ?_
    refine g_ishr (v := shr ((kHd k) ^^^ (shl 1 t)) t) (pc := 31) X dX4_curtain_31 rfl ?_
    refine g_iconst (v := 1) (pc := 32) X dX4_curtain_32 (by decide) ?_
    refine g_iand (v := (shr ((kHd k) ^^^ (shl 1 t)) t) &&& 1) (pc := 33) X dX4_curtain_33 rfl ?_
    exact g_iret (pc := 34) X rfl dX4_curtain_34 rfl (by simp [ctA, *]) (by first | (simp [ctA, rfB, tgK, *]; done) | (simp [ctA, rfB, tgK, *]; rfl))
  · refine g_aload_n (pc := 8) X dX4_curtain_8 0 rfl ?_
    refine g_iconst (v := (-1)) (pc := 9) X dX4_curtain_9 (by decide) ?_
    refine g_callV (pc := 10) (rest := []) (ss' := [wM cy ay k (uRf v (rfU (mRf v) ((-1))))]) X (c_X4_no l D cy ay k v ((-1)) rf_1) vl_X4_63 dX4_curtain_10 [0] 0 0 rfl rfl rfl rfl rfl rfl (ads_c (ads_M _ _ _ _ _ _) rfl) rfl rfl rfl rfl rfl rfl ⟨Nat.zero_le _, Nat.zero_le _⟩ ?_
    exact g_iret (pc := 13) X rfl dX4_curtain_13 rfl (by simp [ctA, *]) (by first | (simp [ctA, rfB, tgK, *]; done) | (simp [ctA, rfB, tgK, *]; rfl))
set_option maxRecDepth 100000 in
set_option maxHeartbeats 4000000 in
theorem c_X4_move (l : Launch) (D : va_G) (cy : ClassId) (ay : Nat → Nat) (k : KV) (v : MV) (t : Int32) (r : Int32) (hw : KW k) : CtI l yX4_move cX4_move 4 .int 2 107 D cy [.ref (ay 0), .int (t), .int (r)] [wM cy ay k v] [wM cy ay (brK k t r) (uRf v (rfB (brB k t r) (mRf v) (mvA k t r)))] (mvA k t r) := by
  refine ctI_of (by decide +kernel) (Nat.le_of_ble_eq_true rfl) (fun p_ e_ s_ m_ args_ below_ meth_ c_ A_ X => ?_)
  refine g_lv X (lv' := [(0, .ref (ay 0)), (1, .int (t)), (2, .int (r))]) [0, 1, 2] rfl ?_
  refine g_aload_n (pc := 0) X dX4_move_0 0 rfl ?_
  refine g_iload_n (pc := 1) X dX4_move_1 1 rfl ?_
  refine g_callV (pc := 2) (rest := []) (ss' := [wM cy ay k v]) X (c_X4_isThing l D cy ay k v t hw.2.2.2.2.2.1) vl_X4_112 dX4_move_2 [0] 0 0 rfl rfl rfl rfl rfl rfl rfl rfl rfl rfl rfl rfl rfl ⟨Nat.zero_le _, Nat.zero_le _⟩ ?_
  refine g_bif_eq (pc := 5) (tgt := 15) X dX4_move_5 (by decide) (fun c5 => ?_) (fun c5 => ?_)
  · refine g_aload_n (pc := 15) X dX4_move_15 0 rfl ?_
    refine g_iconst (v := (-1)) (pc := 16) X dX4_move_16 (by decide) ?_
    refine g_callV (pc := 17) (rest := []) (ss' := [wM cy ay k (uRf v (rfU (mRf v) ((-1))))]) X (c_X4_no l D cy ay k v ((-1)) rf_1) vl_X4_63 dX4_move_17 [0] 0 0 rfl rfl rfl rfl rfl rfl (ads_c (ads_M _ _ _ _ _ _) rfl) rfl rfl rfl rfl rfl rfl ⟨Nat.zero_le _, Nat.zero_le _⟩ ?_
    exact g_iret (pc := 20) X rfl dX4_move_20 rfl (by simp [mvA, brB, *]) (by first | (simp [mvA, brB, rfB, brK, *]; done) | (simp [mvA, brB, rfB, brK, *]; rfl))
  · have r5 := c5
    obtain ⟨i, hi, rfl⟩ := hasT_t hw.2.2.2.2.2.1 c5
    have ixi : ix (nI i) = i := ixn (by have := hw.2.2.2.2.2.1; omega)
    refine g_iload_n (pc := 8) X dX4_move_8 2 rfl ?_
    refine g_callS (pc := 9) (rest := []) X (c_X4_isRoom l D cy r ) sl_X4_105 dX4_move_9 rfl rfl rfl rfl rfl ⟨Nat.zero_le _, Nat.zero_le _⟩ ?_
    refine g_bif_ne (pc := 12) (tgt := 21) X dX4_move_12 (by decide) (fun c12 => ?_) (fun c12 => ?_)
    · refine g_aload_n (pc := 21) X dX4_move_21 0 rfl ?_
      refine g_get (pc := 22) X (v := .ref (ay 4)) fl_X4_19 dX4_move_22 0 0 rfl rfl rfl ?_
      refine g_iload_n (pc := 25) X dX4_move_25 1 rfl ?_
      refine g_iald_n (pc := 26) (f := kRo k) X 0 4 dX4_move_26 i rfl rfl rfl (by have := hw.2.2.2.2.2.1; omega) rfl ?_
      refine g_istore_n (lv' := [(3, .int ((kRo k) i)), (0, .ref (ay 0)), (1, .int (nI i)), (2, .int (r))]) (pc := 27) X dX4_move_27 rfl rfl rfl ?_
      refine g_aload_n (pc := 28) X dX4_move_28 1 rfl ?_
      refine g_get (pc := 29) X (v := .ref (ay 4)) fl_X4_19 dX4_move_29 0 0 rfl rfl rfl ?_
      refine g_iload_n (pc := 32) X dX4_move_32 2 rfl ?_
      refine g_iload_n (pc := 33) X dX4_move_33 3 rfl ?_
      refine g_iast_n (pc := 34) X (ss' := [wM cy ay (sRo k (upd (kRo k) i r)) v]) 0 4 dX4_move_34 i rfl rfl rfl (by have := hw.2.2.2.2.2.1; omega) rfl rfl ?_
      refine g_iload_n (pc := 35) X dX4_move_35 0 rfl ?_
      exact g_iret (pc := 36) X rfl dX4_move_36 rfl (by simp [mvA, brB, *]) (by first | (simp [mvA, brB, rfB, brK, *]; done) | (simp [mvA, brB, rfB, brK, *]; rfl))
    · refine g_aload_n (pc := 15) X dX4_move_15 0 rfl ?_
      refine g_iconst (v := (-1)) (pc := 16) X dX4_move_16 (by decide) ?_
      refine g_callV (pc := 17) (rest := []) (ss' := [wM cy ay k (uRf v (rfU (mRf v) ((-1))))]) X (c_X4_no l D cy ay k v ((-1)) rf_1) vl_X4_63 dX4_move_17 [0] 0 0 rfl rfl rfl rfl rfl rfl (ads_c (ads_M _ _ _ _ _ _) rfl) rfl rfl rfl rfl rfl rfl ⟨Nat.zero_le _, Nat.zero_le _⟩ ?_
      exact g_iret (pc := 20) X rfl dX4_move_20 rfl (by simp [mvA, brB, *]) (by first | (simp [mvA, brB, rfB, brK, *]; done) | (simp [mvA, brB, rfB, brK, *]; rfl))
set_option maxRecDepth 100000 in
set_option maxHeartbeats 4000000 in
theorem c_X4_hour (l : Launch) (D : va_G) (cy : ClassId) (ay : Nat → Nat) (k : KV) (v : MV) (x : Int32) (hw : KW k) : CtI l yX4_hour cX4_hour 3 .int 1 85 D cy [.ref (ay 0), .int (x)] [wM cy ay k v] [wM cy ay (hrK k x) (uRf v (rfB (decide (ooI x 0 7 = 0)) (mRf v) (hrA k x)))] (hrA k x) := by
  refine ctI_of (by decide +kernel) (Nat.le_of_ble_eq_true rfl) (fun p_ e_ s_ m_ args_ below_ meth_ c_ A_ X => ?_)
  refine g_lv X (lv' := [(0, .ref (ay 0)), (1, .int (x))]) [0, 1] rfl ?_
  refine g_iload_n (pc := 0) X dX4_hour_0 1 rfl ?_
  refine g_if_ge (pc := 1) (tgt := 11) X dX4_hour_1 (by decide) (fun c1 => ?_) (fun c1 => ?_)
  · have n1 := Int32.not_lt.mpr c1
    refine g_iload_n (pc := 11) X dX4_hour_11 1 rfl ?_
    refine g_bipush (v := 7) (pc := 12) X dX4_hour_12 (by decide) ?_
    refine g_icmp_le (pc := 14) (tgt := 24) X dX4_hour_14 (by decide) (fun c14 => ?_) (fun c14 => ?_)
    · have n14 := Int32.not_lt.mpr c14
      have oo := oo_b n1 n14
      obtain ⟨i, hi, rfl⟩ := in_lt (n := 8) (by omega) c1 (Int32.lt_of_le_of_lt c14 (by decide))
      have ixi : ix (nI i) = i := ixn (by omega)
      refine g_aload_n (pc := 24) X dX4_hour_24 0 rfl ?_
      refine g_get (pc := 25) X (v := .int (nI (kHr k))) fl_X4_95 dX4_hour_25 0 0 rfl rfl rfl ?_
      refine g_istore_n (lv' := [(2, .int (nI (kHr k))), (0, .ref (ay 0)), (1, .int (nI i))]) (pc := 28) X dX4_hour_28 rfl rfl rfl ?_
      refine g_aload_n (pc := 29) X dX4_hour_29 1 rfl ?_
      refine g_iload_n (pc := 30) X dX4_hour_30 2 rfl ?_
      refine g_put (pc := 31) X (ss' := [wM cy ay (sHr k i) v]) fp_X4_95 dX4_hour_31 0 0 rfl rfl rfl rfl rfl rfl ?_
      refine g_iload_n (pc := 34) X dX4_hour_34 0 rfl ?_
      exact g_iret (pc := 35) X rfl dX4_hour_35 rfl (by simp [hrA, *]) (by first | (simp [hrA, rfB, hrK, *]; done) | (simp [hrA, rfB, hrK, *]; rfl))
    · have oo := oo_h n1 c14
      refine g_aload_n (pc := 17) X dX4_hour_17 0 rfl ?_
      refine g_bipush (v := (-6)) (pc := 18) X dX4_hour_18 (by decide) ?_
      refine g_callV (pc := 20) (rest := []) (ss' := [wM cy ay k (uRf v (rfU (mRf v) ((-6))))]) X (c_X4_no l D cy ay k v ((-6)) rf_6) vl_X4_63 dX4_hour_20 [0] 0 0 rfl rfl rfl rfl rfl rfl (ads_c (ads_M _ _ _ _ _ _) rfl) rfl rfl rfl rfl rfl rfl ⟨Nat.zero_le _, Nat.zero_le _⟩ ?_
      exact g_iret (pc := 23) X rfl dX4_hour_23 rfl (by simp [hrA, *]) (by first | (simp [hrA, rfB, hrK, *]; done) | (simp [hrA, rfB, hrK, *]; rfl))
  · have oo := oo_l (hi := 7) c1
    refine g_aload_n (pc := 4) X dX4_hour_4 0 rfl ?_
    refine g_bipush (v := (-4)) (pc := 5) X dX4_hour_5 (by decide) ?_
    refine g_callV (pc := 7) (rest := []) (ss' := [wM cy ay k (uRf v (rfU (mRf v) ((-4))))]) X (c_X4_no l D cy ay k v ((-4)) rf_4) vl_X4_63 dX4_hour_7 [0] 0 0 rfl rfl rfl rfl rfl rfl (ads_c (ads_M _ _ _ _ _ _) rfl) rfl rfl rfl rfl rfl rfl ⟨Nat.zero_le _, Nat.zero_le _⟩ ?_
    exact g_iret (pc := 10) X rfl dX4_hour_10 rfl (by simp [hrA, *]) (by first | (simp [hrA, rfB, hrK, *]; done) | (simp [hrA, rfB, hrK, *]; rfl))
set_option maxRecDepth 100000 in
set_option maxHeartbeats 4000000 in
theorem c_X4_beside (l : Launch) (D : va_G) (cy : ClassId) (ay : Nat → Nat) (k : KV) (v : MV) (r : Int32) (thr : Bool) (h10 : kNl k ≤ 10) : CtI l yX4_beside cX4_beside 5 .int 1 85 D cy [.ref (ay 0), .int (r), .int (bI (thr))] [wM cy ay k v] [wM cy ay k v] (bsF k thr r) := by
  refine ctI_of (by decide +kernel) (Nat.le_of_ble_eq_true rfl) (fun p_ e_ s_ m_ args_ below_ meth_ c_ A_ X => ?_)
  refine g_lv X (lv' := [(0, .ref (ay 0)), (1, .int (r)), (2, .int (bI (thr)))]) [0, 1, 2] rfl ?_
  refine g_iconst (v := 0) (pc := 0) X dX4_beside_0 (by decide) ?_
  refine g_istore_n (lv' := [(3, .int (0)), (0, .ref (ay 0)), (1, .int (r)), (2, .int (bI (thr)))]) (pc := 1) X dX4_beside_1 rfl rfl rfl ?_
  refine g_iconst (v := 0) (pc := 2) X dX4_beside_2 (by decide) ?_
  refine g_istore (lv' := [(4, .int (0)), (3, .int (0)), (0, .ref (ay 0)), (1, .int (r)), (2, .int (bI (thr)))]) (pc := 3) X dX4_beside_3 rfl rfl ?_
  have L5_1 : ∀ (fu_ : Nat) (j : Nat) (hj : j ≤ kNl k) (hm : 11 - j < fu_), G p_ l e_ { frames := 1, cells := 0, slots := 0, locals := 85 } s_ m_ args_ below_ meth_ c_ 5 D A_ 0 0 (QI below_ args_ s_ D A_ [wM cy ay k v] (bsF k thr r)) [wM cy ay k v] 5 [(0, .ref (ay 0)), (1, .int (r)), (2, .int (bI (thr))), (3, .int (bsN (kOn k) (kTw k) (kHd k) thr r (j))), (4, .int (nI j))] [] := by
    intro fu_
    induction fu_ with
    | zero => intro j hj hm; exact absurd hm (Nat.not_lt_zero _)
    | succ fu_ ih =>
      intro j hj hm
      have ih5 := ih
      clear ih
      refine g_iload (pc := 5) X dX4_beside_5 4 rfl ?_
      refine g_aload_n (pc := 7) X dX4_beside_7 0 rfl ?_
      refine g_get (pc := 8) X (v := .int (nI (kNl k))) fl_X4_60 dX4_beside_8 0 0 rfl rfl rfl ?_
      refine g_ncmp_ge (pc := 11) (tgt := 85) X dX4_beside_11 (by decide) j (kNl k) rfl rfl (by omega) (by omega) (fun c11 => ?_) (fun c11 => ?_)
      · have n11 := Nat.not_lt.mpr c11
        refine g_iload_n (pc := 85) X dX4_beside_85 3 rfl ?_
        exact g_iret (pc := 86) X rfl dX4_beside_86 rfl (by rw [show j = kNl k by omega]; rfl) rfl
      · refine g_iload_n (pc := 14) X dX4_beside_14 2 rfl ?_
        refine g_bif_ne (pc := 15) (tgt := 33) X dX4_beside_15 (by decide) (fun c15 => ?_) (fun c15 => ?_)
        · refine g_aload_n (pc := 33) X dX4_beside_33 0 rfl ?_
          refine g_get (pc := 34) X (v := .ref (ay 1)) fl_X4_7 dX4_beside_34 0 0 rfl rfl rfl ?_
          refine g_iload (pc := 37) X dX4_beside_37 4 rfl ?_
          refine g_iald_n (pc := 39) (f := kOn k) X 0 1 dX4_beside_39 j rfl rfl rfl (by omega) rfl ?_
          refine g_iload_n (pc := 40) X dX4_beside_40 1 rfl ?_
          refine g_icmp_ne (pc := 41) (tgt := 56) X dX4_beside_41 (by decide) (fun c41 => ?_) (fun c41 => ?_)
          · refine g_aload_n (pc := 56) X dX4_beside_56 0 rfl ?_
            refine g_get (pc := 57) X (v := .ref (ay 2)) fl_X4_13 dX4_beside_57 0 0 rfl rfl rfl ?_
            refine g_iload (pc := 60) X dX4_beside_60 4 rfl ?_
            refine g_iald_n (pc := 62) (f := kTw k) X 0 2 dX4_beside_62 j rfl rfl rfl (by omega) rfl ?_
            refine g_iload_n (pc := 63) X dX4_beside_63 1 rfl ?_
            refine g_icmp_ne (pc := 64) (tgt := 79) X dX4_beside_64 (by decide) (fun c64 => ?_) (fun c64 => ?_)
            · refine g_lvv X (lv' := [(0, .ref (ay 0)), (1, .int (r)), (2, .int (bI (thr))), (3, .int (bsN (kOn k) (kTw k) (kHd k) thr r (j + 1))), (4, .int (nI j))]) (by rw [show bsN (kOn k) (kTw k) (kHd k) thr r (j + 1) = bsN (kOn k) (kTw k) (kHd k) thr r (j) by simp [bsN, *]]) ?_
              refine g_iinc (v := nI (j + 1)) (lv' := [(4, .int (nI (j + 1))), (0, .ref (ay 0)), (1, .int (r)), (2, .int (bI (thr))), (3, .int (bsN (kOn k) (kTw k) (kHd k) thr r (j + 1)))]) (pc := 79) X dX4_beside_79 4 rfl (nI_1 j) rfl rfl ?_
              refine g_goto (pc := 82) (tgt := 5) X dX4_beside_82 (by decide) ?_
              refine g_lv X (lv' := [(0, .ref (ay 0)), (1, .int (r)), (2, .int (bI (thr))), (3, .int (bsN (kOn k) (kTw k) (kHd k) thr r (j + 1))), (4, .int (nI (j + 1)))]) [1, 2, 3, 4, 0] rfl ?_
              exact ih5 (j + 1) c11 (by omega)
            · refine g_iload_n (pc := 67) X dX4_beside_67 3 rfl ?_
              refine g_iconst (v := 1) (pc := 68) X dX4_beside_68 (by decide) ?_
              refine g_aload_n (pc := 69) X dX4_beside_69 0 rfl ?_
              refine g_get (pc := 70) X (v := .ref (ay 1)) fl_X4_7 dX4_beside_70 0 0 rfl rfl rfl ?_
              refine g_iload (pc := 73) X dX4_beside_73 4 rfl ?_
              refine g_iald_n (pc := 75) (f := kOn k) X 0 1 dX4_beside_75 j rfl rfl rfl (by omega) rfl ?_
              refine g_ishl (v := shl 1 (kOn k j)) (pc := 76) X dX4_beside_76 rfl ?_
              refine g_ior (v := (bsN (kOn k) (kTw k) (kHd k) thr r (j)) ||| (shl 1 (kOn k j))) (pc := 77) X dX4_beside_77 rfl ?_
              refine g_istore_n (lv' := [(3, .int ((bsN (kOn k) (kTw k) (kHd k) thr r (j)) ||| (shl 1 (kOn k j)))), (0, .ref (ay 0)), (1, .int (r)), (2, .int (bI (thr))), (4, .int (nI j))]) (pc := 78) X dX4_beside_78 rfl rfl rfl ?_
              refine g_lvv X (lv' := [(3, .int (bsN (kOn k) (kTw k) (kHd k) thr r (j + 1))), (0, .ref (ay 0)), (1, .int (r)), (2, .int (bI (thr))), (4, .int (nI j))]) (by rw [show bsN (kOn k) (kTw k) (kHd k) thr r (j + 1) = (bsN (kOn k) (kTw k) (kHd k) thr r (j)) ||| (shl 1 (kOn k j)) by simp [bsN, *]]) ?_
              refine g_iinc (v := nI (j + 1)) (lv' := [(4, .int (nI (j + 1))), (3, .int (bsN (kOn k) (kTw k) (kHd k) thr r (j + 1))), (0, .ref (ay 0)), (1, .int (r)), (2, .int (bI (thr)))]) (pc := 79) X dX4_beside_79 4 rfl (nI_1 j) rfl rfl ?_
              refine g_goto (pc := 82) (tgt := 5) X dX4_beside_82 (by decide) ?_
              refine g_lv X (lv' := [(0, .ref (ay 0)), (1, .int (r)), (2, .int (bI (thr))), (3, .int (bsN (kOn k) (kTw k) (kHd k) thr r (j + 1))), (4, .int (nI (j + 1)))]) [2, 3, 4, 1, 0] rfl ?_
              exact ih5 (j + 1) c11 (by omega)
          · refine g_iload_n (pc := 44) X dX4_beside_44 3 rfl ?_
            refine g_iconst (v := 1) (pc := 45) X dX4_beside_45 (by decide) ?_
            refine g_aload_n (pc := 46) X dX4_beside_46 0 rfl ?_
            refine g_get (pc := 47) X (v := .ref (ay 2)) fl_X4_13 dX4_beside_47 0 0 rfl rfl rfl ?_
            refine g_iload (pc := 50) X dX4_beside_50 4 rfl ?_
            refine g_iald_n (pc := 52) (f := kTw k) X 0 2 dX4_beside_52 j rfl rfl rfl (by omega) rfl ?_
            refine g_ishl (v := shl 1 (kTw k j)) (pc := 53) X dX4_beside_53 rfl ?_
            refine g_ior (v := (bsN (kOn k) (kTw k) (kHd k) thr r (j)) ||| (shl 1 (kTw k j))) (pc := 54) X dX4_beside_54 rfl ?_
            refine g_istore_n (lv' := [(3, .int ((bsN (kOn k) (kTw k) (kHd k) thr r (j)) ||| (shl 1 (kTw k j)))), (0, .ref (ay 0)), (1, .int (r)), (2, .int (bI (thr))), (4, .int (nI j))]) (pc := 55) X dX4_beside_55 rfl rfl rfl ?_
            refine g_aload_n (pc := 56) X dX4_beside_56 1 rfl ?_
            refine g_get (pc := 57) X (v := .ref (ay 2)) fl_X4_13 dX4_beside_57 0 0 rfl rfl rfl ?_
            refine g_iload (pc := 60) X dX4_beside_60 4 rfl ?_
            refine g_iald_n (pc := 62) (f := kTw k) X 0 2 dX4_beside_62 j rfl rfl rfl (by omega) rfl ?_
            refine g_iload_n (pc := 63) X dX4_beside_63 2 rfl ?_
            refine g_icmp_ne (pc := 64) (tgt := 79) X dX4_beside_64 (by decide) (fun c64 => ?_) (fun c64 => ?_)
            · refine g_lvv X (lv' := [(3, .int (bsN (kOn k) (kTw k) (kHd k) thr r (j + 1))), (0, .ref (ay 0)), (1, .int (r)), (2, .int (bI (thr))), (4, .int (nI j))]) (by rw [show bsN (kOn k) (kTw k) (kHd k) thr r (j + 1) = (bsN (kOn k) (kTw k) (kHd k) thr r (j)) ||| (shl 1 (kTw k j)) by simp [bsN, *]]) ?_
              refine g_iinc (v := nI (j + 1)) (lv' := [(4, .int (nI (j + 1))), (3, .int (bsN (kOn k) (kTw k) (kHd k) thr r (j + 1))), (0, .ref (ay 0)), (1, .int (r)), (2, .int (bI (thr)))]) (pc := 79) X dX4_beside_79 4 rfl (nI_1 j) rfl rfl ?_
              refine g_goto (pc := 82) (tgt := 5) X dX4_beside_82 (by decide) ?_
              refine g_lv X (lv' := [(0, .ref (ay 0)), (1, .int (r)), (2, .int (bI (thr))), (3, .int (bsN (kOn k) (kTw k) (kHd k) thr r (j + 1))), (4, .int (nI (j + 1)))]) [2, 3, 4, 1, 0] rfl ?_
              exact ih5 (j + 1) c11 (by omega)
            · refine g_iload_n (pc := 67) X dX4_beside_67 0 rfl ?_
              refine g_iconst (v := 1) (pc := 68) X dX4_beside_68 (by decide) ?_
              refine g_aload_n (pc := 69) X dX4_beside_69 1 rfl ?_
              refine g_get (pc := 70) X (v := .ref (ay 1)) fl_X4_7 dX4_beside_70 0 0 rfl rfl rfl ?_
              refine g_iload (pc := 73) X dX4_beside_73 4 rfl ?_
              refine g_iald_n (pc := 75) (f := kOn k) X 0 1 dX4_beside_75 j rfl rfl rfl (by omega) rfl ?_
              refine g_ishl (v := shl 1 (kOn k j)) (pc := 76) X dX4_beside_76 rfl ?_
              refine g_ior (v := ((bsN (kOn k) (kTw k) (kHd k) thr r (j)) ||| (shl 1 (kTw k j))) ||| (shl 1 (kOn k j))) (pc := 77) X dX4_beside_77 rfl ?_
              refine g_istore_n (lv' := [(3, .int (((bsN (kOn k) (kTw k) (kHd k) thr r (j)) ||| (shl 1 (kTw k j))) ||| (shl 1 (kOn k j)))), (0, .ref (ay 0)), (1, .int (r)), (2, .int (bI (thr))), (4, .int (nI j))]) (pc := 78) X dX4_beside_78 rfl rfl rfl ?_
              refine g_lvv X (lv' := [(3, .int (bsN (kOn k) (kTw k) (kHd k) thr r (j + 1))), (0, .ref (ay 0)), (1, .int (r)), (2, .int (bI (thr))), (4, .int (nI j))]) (by rw [show bsN (kOn k) (kTw k) (kHd k) thr r (j + 1) = ((bsN (kOn k) (kTw k) (kHd k) thr r (j)) ||| (shl 1 (kTw k j))) ||| (shl 1 (kOn k j)) by simp [bsN, *]]) ?_
              refine g_iinc (v := nI (j + 1)) (lv' := [(4, .int (nI (j + 1))), (3, .int (bsN (kOn k) (kTw k) (kHd k) thr r (j + 1))), (0, .ref (ay 0)), (1, .int (r)), (2, .int (bI (thr)))]) (pc := 79) X dX4_beside_79 4 rfl (nI_1 j) rfl rfl ?_
              refine g_goto (pc := 82) (tgt := 5) X dX4_beside_82 (by decide) ?_
              refine g_lv X (lv' := [(0, .ref (ay 0)), (1, .int (r)), (2, .int (bI (thr))), (3, .int (bsN (kOn k) (kTw k) (kHd k) thr r (j + 1))), (4, .int (nI (j + 1)))]) [2, 3, 4, 1, 0] rfl ?_
              exact ih5 (j + 1) c11 (by omega)
        · refine g_aload_n (pc := 18) X dX4_beside_18 0 rfl ?_
          refine g_get (pc := 19) X (v := .int (kHd k)) fl_X4_92 dX4_beside_19 0 0 rfl rfl rfl ?_
          refine g_iload (pc := 22) X dX4_beside_22 4 rfl ?_
          refine g_callS (pc := 24) (rest := []) X (c_X4_has l D cy (kHd k) (nI j) ) sl_X4_129 dX4_beside_24 rfl rfl rfl rfl rfl ⟨Nat.zero_le _, Nat.zero_le _⟩ ?_
          refine g_bif_eq (pc := 27) (tgt := 33) X dX4_beside_27 (by decide) (fun c27 => ?_) (fun c27 => ?_)
          · refine g_aload_n (pc := 33) X dX4_beside_33 0 rfl ?_
            refine g_get (pc := 34) X (v := .ref (ay 1)) fl_X4_7 dX4_beside_34 0 0 rfl rfl rfl ?_
            refine g_iload (pc := 37) X dX4_beside_37 4 rfl ?_
            refine g_iald_n (pc := 39) (f := kOn k) X 0 1 dX4_beside_39 j rfl rfl rfl (by omega) rfl ?_
            refine g_iload_n (pc := 40) X dX4_beside_40 1 rfl ?_
            refine g_icmp_ne (pc := 41) (tgt := 56) X dX4_beside_41 (by decide) (fun c41 => ?_) (fun c41 => ?_)
            · refine g_aload_n (pc := 56) X dX4_beside_56 0 rfl ?_
              refine g_get (pc := 57) X (v := .ref (ay 2)) fl_X4_13 dX4_beside_57 0 0 rfl rfl rfl ?_
              refine g_iload (pc := 60) X dX4_beside_60 4 rfl ?_
              refine g_iald_n (pc := 62) (f := kTw k) X 0 2 dX4_beside_62 j rfl rfl rfl (by omega) rfl ?_
              refine g_iload_n (pc := 63) X dX4_beside_63 1 rfl ?_
              refine g_icmp_ne (pc := 64) (tgt := 79) X dX4_beside_64 (by decide) (fun c64 => ?_) (fun c64 => ?_)
              · refine g_lvv X (lv' := [(0, .ref (ay 0)), (1, .int (r)), (2, .int (bI (thr))), (3, .int (bsN (kOn k) (kTw k) (kHd k) thr r (j + 1))), (4, .int (nI j))]) (by rw [show bsN (kOn k) (kTw k) (kHd k) thr r (j + 1) = bsN (kOn k) (kTw k) (kHd k) thr r (j) by simp [bsN, *]]) ?_
                refine g_iinc (v := nI (j + 1)) (lv' := [(4, .int (nI (j + 1))), (0, .ref (ay 0)), (1, .int (r)), (2, .int (bI (thr))), (3, .int (bsN (kOn k) (kTw k) (kHd k) thr r (j + 1)))]) (pc := 79) X dX4_beside_79 4 rfl (nI_1 j) rfl rfl ?_
                refine g_goto (pc := 82) (tgt := 5) X dX4_beside_82 (by decide) ?_
                refine g_lv X (lv' := [(0, .ref (ay 0)), (1, .int (r)), (2, .int (bI (thr))), (3, .int (bsN (kOn k) (kTw k) (kHd k) thr r (j + 1))), (4, .int (nI (j + 1)))]) [1, 2, 3, 4, 0] rfl ?_
                exact ih5 (j + 1) c11 (by omega)
              · refine g_iload_n (pc := 67) X dX4_beside_67 3 rfl ?_
                refine g_iconst (v := 1) (pc := 68) X dX4_beside_68 (by decide) ?_
                refine g_aload_n (pc := 69) X dX4_beside_69 0 rfl ?_
                refine g_get (pc := 70) X (v := .ref (ay 1)) fl_X4_7 dX4_beside_70 0 0 rfl rfl rfl ?_
                refine g_iload (pc := 73) X dX4_beside_73 4 rfl ?_
                refine g_iald_n (pc := 75) (f := kOn k) X 0 1 dX4_beside_75 j rfl rfl rfl (by omega) rfl ?_
                refine g_ishl (v := shl 1 (kOn k j)) (pc := 76) X dX4_beside_76 rfl ?_
                refine g_ior (v := (bsN (kOn k) (kTw k) (kHd k) thr r (j)) ||| (shl 1 (kOn k j))) (pc := 77) X dX4_beside_77 rfl ?_
                refine g_istore_n (lv' := [(3, .int ((bsN (kOn k) (kTw k) (kHd k) thr r (j)) ||| (shl 1 (kOn k j)))), (0, .ref (ay 0)), (1, .int (r)), (2, .int (bI (thr))), (4, .int (nI j))]) (pc := 78) X dX4_beside_78 rfl rfl rfl ?_
                refine g_lvv X (lv' := [(3, .int (bsN (kOn k) (kTw k) (kHd k) thr r (j + 1))), (0, .ref (ay 0)), (1, .int (r)), (2, .int (bI (thr))), (4, .int (nI j))]) (by rw [show bsN (kOn k) (kTw k) (kHd k) thr r (j + 1) = (bsN (kOn k) (kTw k) (kHd k) thr r (j)) ||| (shl 1 (kOn k j)) by simp [bsN, *]]) ?_
                refine g_iinc (v := nI (j + 1)) (lv' := [(4, .int (nI (j + 1))), (3, .int (bsN (kOn k) (kTw k) (kHd k) thr r (j + 1))), (0, .ref (ay 0)), (1, .int (r)), (2, .int (bI (thr)))]) (pc := 79) X dX4_beside_79 4 rfl (nI_1 j) rfl rfl ?_
                refine g_goto (pc := 82) (tgt := 5) X dX4_beside_82 (by decide) ?_
                refine g_lv X (lv' := [(0, .ref (ay 0)), (1, .int (r)), (2, .int (bI (thr))), (3, .int (bsN (kOn k) (kTw k) (kHd k) thr r (j + 1))), (4, .int (nI (j + 1)))]) [2, 3, 4, 1, 0] rfl ?_
                exact ih5 (j + 1) c11 (by omega)
            · refine g_iload_n (pc := 44) X dX4_beside_44 3 rfl ?_
              refine g_iconst (v := 1) (pc := 45) X dX4_beside_45 (by decide) ?_
              refine g_aload_n (pc := 46) X dX4_beside_46 0 rfl ?_
              refine g_get (pc := 47) X (v := .ref (ay 2)) fl_X4_13 dX4_beside_47 0 0 rfl rfl rfl ?_
              refine g_iload (pc := 50) X dX4_beside_50 4 rfl ?_
              refine g_iald_n (pc := 52) (f := kTw k) X 0 2 dX4_beside_52 j rfl rfl rfl (by omega) rfl ?_
              refine g_ishl (v := shl 1 (kTw k j)) (pc := 53) X dX4_beside_53 rfl ?_
              refine g_ior (v := (bsN (kOn k) (kTw k) (kHd k) thr r (j)) ||| (shl 1 (kTw k j))) (pc := 54) X dX4_beside_54 rfl ?_
              refine g_istore_n (lv' := [(3, .int ((bsN (kOn k) (kTw k) (kHd k) thr r (j)) ||| (shl 1 (kTw k j)))), (0, .ref (ay 0)), (1, .int (r)), (2, .int (bI (thr))), (4, .int (nI j))]) (pc := 55) X dX4_beside_55 rfl rfl rfl ?_
              refine g_aload_n (pc := 56) X dX4_beside_56 1 rfl ?_
              refine g_get (pc := 57) X (v := .ref (ay 2)) fl_X4_13 dX4_beside_57 0 0 rfl rfl rfl ?_
              refine g_iload (pc := 60) X dX4_beside_60 4 rfl ?_
              refine g_iald_n (pc := 62) (f := kTw k) X 0 2 dX4_beside_62 j rfl rfl rfl (by omega) rfl ?_
              refine g_iload_n (pc := 63) X dX4_beside_63 2 rfl ?_
              refine g_icmp_ne (pc := 64) (tgt := 79) X dX4_beside_64 (by decide) (fun c64 => ?_) (fun c64 => ?_)
              · refine g_lvv X (lv' := [(3, .int (bsN (kOn k) (kTw k) (kHd k) thr r (j + 1))), (0, .ref (ay 0)), (1, .int (r)), (2, .int (bI (thr))), (4, .int (nI j))]) (by rw [show bsN (kOn k) (kTw k) (kHd k) thr r (j + 1) = (bsN (kOn k) (kTw k) (kHd k) thr r (j)) ||| (shl 1 (kTw k j)) by simp [bsN, *]]) ?_
                refine g_iinc (v := nI (j + 1)) (lv' := [(4, .int (nI (j + 1))), (3, .int (bsN (kOn k) (kTw k) (kHd k) thr r (j + 1))), (0, .ref (ay 0)), (1, .int (r)), (2, .int (bI (thr)))]) (pc := 79) X dX4_beside_79 4 rfl (nI_1 j) rfl rfl ?_
                refine g_goto (pc := 82) (tgt := 5) X dX4_beside_82 (by decide) ?_
                refine g_lv X (lv' := [(0, .ref (ay 0)), (1, .int (r)), (2, .int (bI (thr))), (3, .int (bsN (kOn k) (kTw k) (kHd k) thr r (j + 1))), (4, .int (nI (j + 1)))]) [2, 3, 4, 1, 0] rfl ?_
                exact ih5 (j + 1) c11 (by omega)
              · refine g_iload_n (pc := 67) X dX4_beside_67 0 rfl ?_
                refine g_iconst (v := 1) (pc := 68) X dX4_beside_68 (by decide) ?_
                refine g_aload_n (pc := 69) X dX4_beside_69 1 rfl ?_
                refine g_get (pc := 70) X (v := .ref (ay 1)) fl_X4_7 dX4_beside_70 0 0 rfl rfl rfl ?_
                refine g_iload (pc := 73) X dX4_beside_73 4 rfl ?_
                refine g_iald_n (pc := 75) (f := kOn k) X 0 1 dX4_beside_75 j rfl rfl rfl (by omega) rfl ?_
                refine g_ishl (v := shl 1 (kOn k j)) (pc := 76) X dX4_beside_76 rfl ?_
                refine g_ior (v := ((bsN (kOn k) (kTw k) (kHd k) thr r (j)) ||| (shl 1 (kTw k j))) ||| (shl 1 (kOn k j))) (pc := 77) X dX4_beside_77 rfl ?_
                refine g_istore_n (lv' := [(3, .int (((bsN (kOn k) (kTw k) (kHd k) thr r (j)) ||| (shl 1 (kTw k j))) ||| (shl 1 (kOn k j)))), (0, .ref (ay 0)), (1, .int (r)), (2, .int (bI (thr))), (4, .int (nI j))]) (pc := 78) X dX4_beside_78 rfl rfl rfl ?_
                refine g_lvv X (lv' := [(3, .int (bsN (kOn k) (kTw k) (kHd k) thr r (j + 1))), (0, .ref (ay 0)), (1, .int (r)), (2, .int (bI (thr))), (4, .int (nI j))]) (by rw [show bsN (kOn k) (kTw k) (kHd k) thr r (j + 1) = ((bsN (kOn k) (kTw k) (kHd k) thr r (j)) ||| (shl 1 (kTw k j))) ||| (shl 1 (kOn k j)) by simp [bsN, *]]) ?_
                refine g_iinc (v := nI (j + 1)) (lv' := [(4, .int (nI (j + 1))), (3, .int (bsN (kOn k) (kTw k) (kHd k) thr r (j + 1))), (0, .ref (ay 0)), (1, .int (r)), (2, .int (bI (thr)))]) (pc := 79) X dX4_beside_79 4 rfl (nI_1 j) rfl rfl ?_
                refine g_goto (pc := 82) (tgt := 5) X dX4_beside_82 (by decide) ?_
                refine g_lv X (lv' := [(0, .ref (ay 0)), (1, .int (r)), (2, .int (bI (thr))), (3, .int (bsN (kOn k) (kTw k) (kHd k) thr r (j + 1))), (4, .int (nI (j + 1)))]) [2, 3, 4, 1, 0] rfl ?_
                exact ih5 (j + 1) c11 (by omega)
          · refine g_goto (pc := 30) (tgt := 79) X dX4_beside_30 (by decide) ?_
            refine g_lvv X (lv' := [(0, .ref (ay 0)), (1, .int (r)), (2, .int (bI (thr))), (3, .int (bsN (kOn k) (kTw k) (kHd k) thr r (j + 1))), (4, .int (nI j))]) (by rw [show bsN (kOn k) (kTw k) (kHd k) thr r (j + 1) = bsN (kOn k) (kTw k) (kHd k) thr r (j) by simp [bsN, *]]) ?_
            refine g_iinc (v := nI (j + 1)) (lv' := [(4, .int (nI (j + 1))), (0, .ref (ay 0)), (1, .int (r)), (2, .int (bI (thr))), (3, .int (bsN (kOn k) (kTw k) (kHd k) thr r (j + 1)))]) (pc := 79) X dX4_beside_79 4 rfl (nI_1 j) rfl rfl ?_
            refine g_goto (pc := 82) (tgt := 5) X dX4_beside_82 (by decide) ?_
            refine g_lv X (lv' := [(0, .ref (ay 0)), (1, .int (r)), (2, .int (bI (thr))), (3, .int (bsN (kOn k) (kTw k) (kHd k) thr r (j + 1))), (4, .int (nI (j + 1)))]) [1, 2, 3, 4, 0] rfl ?_
            exact ih5 (j + 1) c11 (by omega)
  refine g_lv X (lv' := [(0, .ref (ay 0)), (1, .int (r)), (2, .int (bI (thr))), (3, .int (0)), (4, .int (0))]) [2, 3, 4, 1, 0] rfl ?_
  exact L5_1 (11 - 0 + 1) 0 (Nat.zero_le _) (Nat.lt_succ_self _)
set_option maxRecDepth 100000 in
set_option maxHeartbeats 4000000 in
theorem c_X4_plain (l : Launch) (D : va_G) (cy : ClassId) (ay : Nat → Nat) (k : KV) (v : MV) (t : Nat) (h : Nat) (ht : t < kNt k) (h8 : kNt k ≤ 8) (h10 : kNl k ≤ 10) (hh : h < 8) : CtI l yX4_plain cX4_plain 4 .int 2 109 D cy [.ref (ay 0), .int (nI t), .int (nI h)] [wM cy ay k v] [wM cy ay k v] (plK k t h) := by
  refine ctI_of (by decide +kernel) (Nat.le_of_ble_eq_true rfl) (fun p_ e_ s_ m_ args_ below_ meth_ c_ A_ X => ?_)
  refine g_lv X (lv' := [(0, .ref (ay 0)), (1, .int (nI t)), (2, .int (nI h))]) [0, 1, 2] rfl ?_
  refine g_aload_n (pc := 0) X dX4_plain_0 0 rfl ?_
  refine g_get (pc := 1) X (v := .ref (ay 4)) fl_X4_19 dX4_plain_1 0 0 rfl rfl rfl ?_
  refine g_iload_n (pc := 4) X dX4_plain_4 1 rfl ?_
  refine g_iald_n (pc := 5) (f := kRo k) X 0 4 dX4_plain_5 t rfl rfl rfl (by omega) rfl ?_
  refine g_istore_n (lv' := [(3, .int ((kRo k) t)), (0, .ref (ay 0)), (1, .int (nI t)), (2, .int (nI h))]) (pc := 6) X dX4_plain_6 rfl rfl rfl ?_
  refine g_aload_n (pc := 7) X dX4_plain_7 1 rfl ?_
  refine g_get (pc := 8) X (v := .ref (ay 3)) fl_X4_16 dX4_plain_8 0 0 rfl rfl rfl ?_
  refine g_iload_n (pc := 11) X dX4_plain_11 2 rfl ?_
  refine g_iald_n (pc := 12) (f := kKi k) X 0 3 dX4_plain_12 t rfl rfl rfl (by omega) rfl ?_
  by_cases e13_1 : (kKi k) t = (1 : Int32)
  · refine g_top X e13_1 ?_
    refine g_tableIn (pc := 13) (off := 35) (tgt := 48) X dX4_plain_13 (by decide) (by decide) (by decide) (by decide) ?_
    refine g_aload_n (pc := 48) X dX4_plain_48 1 rfl ?_
    refine g_iload_n (pc := 49) X dX4_plain_49 0 rfl ?_
    refine g_iconst (v := 0) (pc := 50) X dX4_plain_50 (by decide) ?_
    refine g_callV (pc := 51) (rest := []) (ss' := [wM cy ay k v]) X (c_X4_beside l D cy ay k v ((kRo k) t) false (by first | assumption | omega)) vl_X4_132 dX4_plain_51 [0] 0 0 rfl rfl rfl rfl rfl rfl rfl rfl rfl rfl rfl rfl rfl ⟨Nat.zero_le _, Nat.zero_le _⟩ ?_
    exact g_iret (pc := 54) X rfl dX4_plain_54 rfl (by simp only [plK, *, if_true, if_false]; first | done | rfl | (simp; done) | (simp; omega)) rfl
  by_cases e13_2 : (kKi k) t = (2 : Int32)
  · refine g_top X e13_2 ?_
    refine g_tableIn (pc := 13) (off := 42) (tgt := 55) X dX4_plain_13 (by decide) (by decide) (by decide) (by decide) ?_
    refine g_aload_n (pc := 55) X dX4_plain_55 1 rfl ?_
    refine g_iload_n (pc := 56) X dX4_plain_56 0 rfl ?_
    refine g_iconst (v := 0) (pc := 57) X dX4_plain_57 (by decide) ?_
    refine g_callV (pc := 58) (rest := []) (ss' := [wM cy ay k v]) X (c_X4_beside l D cy ay k v ((kRo k) t) false (by first | assumption | omega)) vl_X4_132 dX4_plain_58 [0] 0 0 rfl rfl rfl rfl rfl rfl rfl rfl rfl rfl rfl rfl rfl ⟨Nat.zero_le _, Nat.zero_le _⟩ ?_
    refine g_iload_n (pc := 61) X dX4_plain_61 3 rfl ?_
    refine g_iconst (v := 4) (pc := 62) X dX4_plain_62 (by decide) ?_
    refine g_ncmp_ne (pc := 63) (tgt := 72) X dX4_plain_63 (by decide) h 4 rfl rfl (by omega) (by decide) (fun c63 => ?_) (fun c63 => ?_)
    · refine g_iconst (v := 0) (pc := 72) X dX4_plain_72 (by decide) ?_
      refine g_ior (v := (bsF k false ((kRo k) t)) ||| 0) (pc := 73) X dX4_plain_73 rfl ?_
      exact g_iret (pc := 74) X rfl dX4_plain_74 rfl (by simp only [plK, *, if_true, if_false]; first | done | rfl | (simp; done) | (simp; omega)) rfl
    · refine g_iconst (v := 1) (pc := 66) X dX4_plain_66 (by decide) ?_
      refine g_iload_n (pc := 67) X dX4_plain_67 0 rfl ?_
      refine g_ishl (v := shl 1 ((kRo k) t)) (pc := 68) X dX4_plain_68 rfl ?_
      refine g_goto (pc := 69) (tgt := 73) X dX4_plain_69 (by decide) ?_
      refine g_ior (v := (bsF k false ((kRo k) t)) ||| (shl 1 ((kRo k) t))) (pc := 73) X dX4_plain_73 rfl ?_
      exact g_iret (pc := 74) X rfl dX4_plain_74 rfl (by simp only [plK, *, if_true, if_false]; first | done | rfl | (simp; done) | (simp; omega)) rfl
  by_cases e13_3 : (kKi k) t = (3 : Int32)
  · refine g_top X e13_3 ?_
    refine g_tableIn (pc := 13) (off := 62) (tgt := 75) X dX4_plain_13 (by decide) (by decide) (by decide) (by decide) ?_
    refine g_aload_n (pc := 75) X dX4_plain_75 1 rfl ?_
    refine g_iload_n (pc := 76) X dX4_plain_76 0 rfl ?_
    refine g_iconst (v := 1) (pc := 77) X dX4_plain_77 (by decide) ?_
    refine g_callV (pc := 78) (rest := []) (ss' := [wM cy ay k v]) X (c_X4_beside l D cy ay k v ((kRo k) t) true (by first | assumption | omega)) vl_X4_132 dX4_plain_78 [0] 0 0 rfl rfl rfl rfl rfl rfl rfl rfl rfl rfl rfl rfl rfl ⟨Nat.zero_le _, Nat.zero_le _⟩ ?_
    refine g_iconst (v := 1) (pc := 81) X dX4_plain_81 (by decide) ?_
    refine g_iload_n (pc := 82) X dX4_plain_82 0 rfl ?_
    refine g_ishl (v := shl 1 ((kRo k) t)) (pc := 83) X dX4_plain_83 rfl ?_
    refine g_ior (v := (bsF k true ((kRo k) t)) ||| (shl 1 ((kRo k) t))) (pc := 84) X dX4_plain_84 rfl ?_
    exact g_iret (pc := 85) X rfl dX4_plain_85 rfl (by simp only [plK, *, if_true, if_false]; first | done | rfl | (simp; done) | (simp; omega)) rfl
  by_cases e13_4 : (kKi k) t = (4 : Int32)
  · refine g_top X e13_4 ?_
    refine g_tableIn (pc := 13) (off := 73) (tgt := 86) X dX4_plain_13 (by decide) (by decide) (by decide) (by decide) ?_
    refine g_iload_n (pc := 86) X dX4_plain_86 3 rfl ?_
    refine g_iconst (v := 5) (pc := 87) X dX4_plain_87 (by decide) ?_
    refine g_ncmp_le (pc := 88) (tgt := 104) X dX4_plain_88 (by decide) h 5 rfl rfl (by omega) (by decide) (fun c88 => ?_) (fun c88 => ?_)
    · have n88 := Nat.not_lt.mpr c88
      refine g_iconst (v := 0) (pc := 104) X dX4_plain_104 (by decide) ?_
      exact g_iret (pc := 105) X rfl dX4_plain_105 rfl (by simp only [plK, *, if_true, if_false]; first | done | rfl | (simp; done) | (simp; omega)) rfl
    · refine g_aload_n (pc := 91) X dX4_plain_91 1 rfl ?_
      refine g_iload_n (pc := 92) X dX4_plain_92 0 rfl ?_
      refine g_iconst (v := 0) (pc := 93) X dX4_plain_93 (by decide) ?_
      refine g_callV (pc := 94) (rest := []) (ss' := [wM cy ay k v]) X (c_X4_beside l D cy ay k v ((kRo k) t) false (by first | assumption | omega)) vl_X4_132 dX4_plain_94 [0] 0 0 rfl rfl rfl rfl rfl rfl rfl rfl rfl rfl rfl rfl rfl ⟨Nat.zero_le _, Nat.zero_le _⟩ ?_
      refine g_iconst (v := 1) (pc := 97) X dX4_plain_97 (by decide) ?_
      refine g_iload_n (pc := 98) X dX4_plain_98 0 rfl ?_
      refine g_ishl (v := shl 1 ((kRo k) t)) (pc := 99) X dX4_plain_99 rfl ?_
      refine g_ior (v := (bsF k false ((kRo k) t)) ||| (shl 1 ((kRo k) t))) (pc := 100) X dX4_plain_100 rfl ?_
      refine g_goto (pc := 101) (tgt := 105) X dX4_plain_101 (by decide) ?_
      exact g_iret (pc := 105) X rfl dX4_plain_105 rfl (by simp only [plK, *, if_true, if_false]; first | done | rfl | (simp; done) | (simp; omega)) rfl
  by_cases e13_5 : (kKi k) t = (5 : Int32)
  · refine g_top X e13_5 ?_
    refine g_tableIn (pc := 13) (off := 62) (tgt := 75) X dX4_plain_13 (by decide) (by decide) (by decide) (by decide) ?_
    refine g_aload_n (pc := 75) X dX4_plain_75 1 rfl ?_
    refine g_iload_n (pc := 76) X dX4_plain_76 0 rfl ?_
    refine g_iconst (v := 1) (pc := 77) X dX4_plain_77 (by decide) ?_
    refine g_callV (pc := 78) (rest := []) (ss' := [wM cy ay k v]) X (c_X4_beside l D cy ay k v ((kRo k) t) true (by first | assumption | omega)) vl_X4_132 dX4_plain_78 [0] 0 0 rfl rfl rfl rfl rfl rfl rfl rfl rfl rfl rfl rfl rfl ⟨Nat.zero_le _, Nat.zero_le _⟩ ?_
    refine g_iconst (v := 1) (pc := 81) X dX4_plain_81 (by decide) ?_
    refine g_iload_n (pc := 82) X dX4_plain_82 0 rfl ?_
    refine g_ishl (v := shl 1 ((kRo k) t)) (pc := 83) X dX4_plain_83 rfl ?_
    refine g_ior (v := (bsF k true ((kRo k) t)) ||| (shl 1 ((kRo k) t))) (pc := 84) X dX4_plain_84 rfl ?_
    exact g_iret (pc := 85) X rfl dX4_plain_85 rfl (by simp only [plK, *, if_true, if_false]; first | done | rfl | (simp; done) | (simp; omega)) rfl
  have f13_1 := lv_neT (a := 1) e13_1 (by decide)
  have f13_2 := lv_neT (a := 2) e13_2 (by decide)
  have f13_3 := lv_neT (a := 3) e13_3 (by decide)
  have f13_4 := lv_neT (a := 4) e13_4 (by decide)
  have f13_5 := lv_neT (a := 5) e13_5 (by decide)
  refine g_tableOut (pc := 13) (tgt := 106) X dX4_plain_13 (by omega) (by decide) ?_
  refine g_aload_n (pc := 106) X dX4_plain_106 1 rfl ?_
  refine g_iload_n (pc := 107) X dX4_plain_107 0 rfl ?_
  refine g_iconst (v := 0) (pc := 108) X dX4_plain_108 (by decide) ?_
  refine g_callV (pc := 109) (rest := []) (ss' := [wM cy ay k v]) X (c_X4_beside l D cy ay k v ((kRo k) t) false (by first | assumption | omega)) vl_X4_132 dX4_plain_109 [0] 0 0 rfl rfl rfl rfl rfl rfl rfl rfl rfl rfl rfl rfl rfl ⟨Nat.zero_le _, Nat.zero_le _⟩ ?_
  refine g_iconst (v := 1) (pc := 112) X dX4_plain_112 (by decide) ?_
  refine g_iload_n (pc := 113) X dX4_plain_113 0 rfl ?_
  refine g_ishl (v := shl 1 ((kRo k) t)) (pc := 114) X dX4_plain_114 rfl ?_
  refine g_ior (v := (bsF k false ((kRo k) t)) ||| (shl 1 ((kRo k) t))) (pc := 115) X dX4_plain_115 rfl ?_
  exact g_iret (pc := 116) X rfl dX4_plain_116 rfl (by simp only [plK, *, if_true, if_false]; first | done | rfl | (simp; done) | (simp; omega)) rfl
set_option maxRecDepth 100000 in
set_option maxHeartbeats 4000000 in
theorem c_X4_fromWhere (l : Launch) (D : va_G) (cy : ClassId) (ay : Nat → Nat) (k : KV) (v : MV) (t : Nat) (h : Nat) (ht : t < kNt k) (h8 : kNt k ≤ 8) (h10 : kNl k ≤ 10) (hh : h < 8) : CtI l yX4_fromWhere cX4_fromWhere 5 .int 3 132 D cy [.ref (ay 0), .int (nI t), .int (nI h)] [wM cy ay k v] [wM cy ay k v] (sfK k t h) := by
  refine ctI_of (by decide +kernel) (Nat.le_of_ble_eq_true rfl) (fun p_ e_ s_ m_ args_ below_ meth_ c_ A_ X => ?_)
  refine g_lv X (lv' := [(0, .ref (ay 0)), (1, .int (nI t)), (2, .int (nI h))]) [0, 1, 2] rfl ?_
  refine g_aload_n (pc := 0) X dX4_fromWhere_0 0 rfl ?_
  refine g_iload_n (pc := 1) X dX4_fromWhere_1 1 rfl ?_
  refine g_iload_n (pc := 2) X dX4_fromWhere_2 2 rfl ?_
  refine g_callV (pc := 3) (rest := []) (ss' := [wM cy ay k v]) X (c_X4_plain l D cy ay k v t h (by first | assumption | omega) (by first | assumption | omega) (by first | assumption | omega) (by first | assumption | omega)) vl_X4_136 dX4_fromWhere_3 [0] 0 0 rfl rfl rfl rfl rfl rfl rfl rfl rfl rfl rfl rfl rfl ⟨Nat.zero_le _, Nat.zero_le _⟩ ?_
  refine g_istore_n (lv' := [(3, .int (plK k t h)), (0, .ref (ay 0)), (1, .int (nI t)), (2, .int (nI h))]) (pc := 6) X dX4_fromWhere_6 rfl rfl rfl ?_
  refine g_aload_n (pc := 7) X dX4_fromWhere_7 1 rfl ?_
  refine g_get (pc := 8) X (v := .ref (ay 3)) fl_X4_16 dX4_fromWhere_8 0 0 rfl rfl rfl ?_
  refine g_iload_n (pc := 11) X dX4_fromWhere_11 2 rfl ?_
  refine g_iald_n (pc := 12) (f := kKi k) X 0 3 dX4_fromWhere_12 t rfl rfl rfl (by omega) rfl ?_
  refine g_iconst (v := 5) (pc := 13) X dX4_fromWhere_13 (by decide) ?_
  refine g_icmp_ne (pc := 14) (tgt := 72) X dX4_fromWhere_14 (by decide) (fun c14 => ?_) (fun c14 => ?_)
  · refine g_iload_n (pc := 72) X dX4_fromWhere_72 0 rfl ?_
    exact g_iret (pc := 73) X rfl dX4_fromWhere_73 rfl (by first | (rw [← fw_sf, fwK, if_pos c14, show u = kNt k by omega]; done) | (rw [← fw_sf, fwK, if_neg c14]; done) | done) rfl
  · refine g_iconst (v := 0) (pc := 17) X dX4_fromWhere_17 (by decide) ?_
    refine g_istore (lv' := [(4, .int (0)), (3, .int (plK k t h)), (0, .ref (ay 0)), (1, .int (nI t)), (2, .int (nI h))]) (pc := 18) X dX4_fromWhere_18 rfl rfl ?_
    have L20_1 : ∀ (fu_ : Nat) (u : Nat) (hu : u ≤ kNt k) (hm : 8 - u < fu_), G p_ l e_ { frames := 3, cells := 0, slots := 0, locals := 132 } s_ m_ args_ below_ meth_ c_ 5 D A_ 0 0 (QI below_ args_ s_ D A_ [wM cy ay k v] (sfK k t h)) [wM cy ay k v] 20 [(0, .ref (ay 0)), (1, .int (nI t)), (2, .int (nI h)), (3, .int (fwN k t h u)), (4, .int (nI u))] [] := by
      intro fu_
      induction fu_ with
      | zero => intro u hu hm; exact absurd hm (Nat.not_lt_zero _)
      | succ fu_ ih =>
        intro u hu hm
        have ih20 := ih
        clear ih
        refine g_iload (pc := 20) X dX4_fromWhere_20 4 rfl ?_
        refine g_aload_n (pc := 22) X dX4_fromWhere_22 0 rfl ?_
        refine g_get (pc := 23) X (v := .int (nI (kNt k))) fl_X4_52 dX4_fromWhere_23 0 0 rfl rfl rfl ?_
        refine g_ncmp_ge (pc := 26) (tgt := 72) X dX4_fromWhere_26 (by decide) u (kNt k) rfl rfl (by omega) (by omega) (fun c26 => ?_) (fun c26 => ?_)
        · have n26 := Nat.not_lt.mpr c26
          refine g_iload_n (pc := 72) X dX4_fromWhere_72 3 rfl ?_
          exact g_iret (pc := 73) X rfl dX4_fromWhere_73 rfl (by first | (rw [← fw_sf, fwK, if_pos c14, show u = kNt k by omega]; done) | (rw [← fw_sf, fwK, if_neg c14]; done) | done) rfl
        · refine g_aload_n (pc := 29) X dX4_fromWhere_29 0 rfl ?_
          refine g_get (pc := 30) X (v := .ref (ay 3)) fl_X4_16 dX4_fromWhere_30 0 0 rfl rfl rfl ?_
          refine g_iload (pc := 33) X dX4_fromWhere_33 4 rfl ?_
          refine g_iald_n (pc := 35) (f := kKi k) X 0 3 dX4_fromWhere_35 u rfl rfl rfl (by omega) rfl ?_
          refine g_iconst (v := 5) (pc := 36) X dX4_fromWhere_36 (by decide) ?_
          refine g_icmp_eq (pc := 37) (tgt := 66) X dX4_fromWhere_37 (by decide) (fun c37 => ?_) (fun c37 => ?_)
          · have hc : fwN k t h u = fwN k t h (u + 1) := by rw [fwN, if_neg]; rintro ⟨h1, h2⟩; first | exact h1 c37 | exact c53 h2 | done
            rw [hc]
            refine g_iinc (v := nI (u + 1)) (lv' := [(4, .int (nI (u + 1))), (0, .ref (ay 0)), (1, .int (nI t)), (2, .int (nI h)), (3, .int (fwN k t h (u + 1)))]) (pc := 66) X dX4_fromWhere_66 4 rfl (nI_1 u) rfl rfl ?_
            refine g_goto (pc := 69) (tgt := 20) X dX4_fromWhere_69 (by decide) ?_
            refine g_lv X (lv' := [(0, .ref (ay 0)), (1, .int (nI t)), (2, .int (nI h)), (3, .int (fwN k t h (u + 1))), (4, .int (nI (u + 1)))]) [1, 2, 3, 4, 0] rfl ?_
            exact ih20 (u + 1) c26 (by omega)
          · refine g_aload_n (pc := 40) X dX4_fromWhere_40 0 rfl ?_
            refine g_get (pc := 41) X (v := .ref (ay 4)) fl_X4_19 dX4_fromWhere_41 0 0 rfl rfl rfl ?_
            refine g_iload (pc := 44) X dX4_fromWhere_44 4 rfl ?_
            refine g_iald_n (pc := 46) (f := kRo k) X 0 4 dX4_fromWhere_46 u rfl rfl rfl (by omega) rfl ?_
            refine g_aload_n (pc := 47) X dX4_fromWhere_47 0 rfl ?_
            refine g_get (pc := 48) X (v := .ref (ay 4)) fl_X4_19 dX4_fromWhere_48 0 0 rfl rfl rfl ?_
            refine g_iload_n (pc := 51) X dX4_fromWhere_51 1 rfl ?_
            refine g_iald_n (pc := 52) (f := kRo k) X 0 4 dX4_fromWhere_52 t rfl rfl rfl (by omega) rfl ?_
            refine g_icmp_ne (pc := 53) (tgt := 66) X dX4_fromWhere_53 (by decide) (fun c53 => ?_) (fun c53 => ?_)
            · have hc : fwN k t h u = fwN k t h (u + 1) := by rw [fwN, if_neg]; rintro ⟨h1, h2⟩; first | exact h1 c37 | exact c53 h2 | done
              rw [hc]
              refine g_iinc (v := nI (u + 1)) (lv' := [(4, .int (nI (u + 1))), (0, .ref (ay 0)), (1, .int (nI t)), (2, .int (nI h)), (3, .int (fwN k t h (u + 1)))]) (pc := 66) X dX4_fromWhere_66 4 rfl (nI_1 u) rfl rfl ?_
              refine g_goto (pc := 69) (tgt := 20) X dX4_fromWhere_69 (by decide) ?_
              refine g_lv X (lv' := [(0, .ref (ay 0)), (1, .int (nI t)), (2, .int (nI h)), (3, .int (fwN k t h (u + 1))), (4, .int (nI (u + 1)))]) [1, 2, 3, 4, 0] rfl ?_
              exact ih20 (u + 1) c26 (by omega)
            · refine g_iload_n (pc := 56) X dX4_fromWhere_56 3 rfl ?_
              refine g_aload_n (pc := 57) X dX4_fromWhere_57 0 rfl ?_
              refine g_iload (pc := 58) X dX4_fromWhere_58 4 rfl ?_
              refine g_iload_n (pc := 60) X dX4_fromWhere_60 2 rfl ?_
              refine g_callV (pc := 61) (rest := [.int (fwN k t h u)]) (ss' := [wM cy ay k v]) X (c_X4_plain l D cy ay k v u h (by first | assumption | omega) (by first | assumption | omega) (by first | assumption | omega) (by first | assumption | omega)) vl_X4_136 dX4_fromWhere_61 [0] 0 0 rfl rfl rfl rfl rfl rfl rfl rfl rfl rfl rfl rfl rfl ⟨Nat.zero_le _, Nat.zero_le _⟩ ?_
              refine g_ior (v := fwN k t h (u + 1)) (pc := 64) X dX4_fromWhere_64 (by rw [fwN, if_pos ⟨c37, c53⟩]) ?_
              refine g_istore_n (lv' := [(3, .int (fwN k t h (u + 1))), (0, .ref (ay 0)), (1, .int (nI t)), (2, .int (nI h)), (4, .int (nI u))]) (pc := 65) X dX4_fromWhere_65 rfl rfl rfl ?_
              refine g_iinc (v := nI (u + 1)) (lv' := [(4, .int (nI (u + 1))), (3, .int (fwN k t h (u + 1))), (0, .ref (ay 0)), (1, .int (nI t)), (2, .int (nI h))]) (pc := 66) X dX4_fromWhere_66 4 rfl (nI_1 u) rfl rfl ?_
              refine g_goto (pc := 69) (tgt := 20) X dX4_fromWhere_69 (by decide) ?_
              refine g_lv X (lv' := [(0, .ref (ay 0)), (1, .int (nI t)), (2, .int (nI h)), (3, .int (fwN k t h (u + 1))), (4, .int (nI (u + 1)))]) [2, 3, 4, 1, 0] rfl ?_
              exact ih20 (u + 1) c26 (by omega)
    refine g_lv X (lv' := [(0, .ref (ay 0)), (1, .int (nI t)), (2, .int (nI h)), (3, .int (plK k t h)), (4, .int (0))]) [2, 3, 4, 1, 0] rfl ?_
    exact L20_1 (8 - 0 + 1) 0 (Nat.zero_le _) (Nat.lt_succ_self _)
set_option maxRecDepth 100000 in
set_option maxHeartbeats 4000000 in
theorem c_X4_look (l : Launch) (D : va_G) (cy : ClassId) (ay : Nat → Nat) (k : KV) (v : MV) (h : Nat) (h8 : kNt k ≤ 8) (h10 : kNl k ≤ 10) (hh : h < 8) : CtV l yX4_look cX4_look 3 4 156 D cy [.ref (ay 0), .int (nI h)] [wM cy ay k v] [wM cy ay k (uSn v (lkF k h (mSn v)))] := by
  refine ctV_of (by decide +kernel) (Nat.le_of_ble_eq_true rfl) (fun p_ e_ s_ m_ args_ below_ meth_ c_ A_ X => ?_)
  refine g_lv X (lv' := [(0, .ref (ay 0)), (1, .int (nI h))]) [0, 1] rfl ?_
  refine g_iconst (v := 0) (pc := 0) X dX4_look_0 (by decide) ?_
  refine g_istore_n (lv' := [(2, .int (0)), (0, .ref (ay 0)), (1, .int (nI h))]) (pc := 1) X dX4_look_1 rfl rfl rfl ?_
  have L2_1 : ∀ (fu_ : Nat) (t : Nat) (sn : Nat → Int32) (ht : t ≤ kNt k) (h1 : ∀ u, u < t → sn u = sfK k u h) (h2 : ∀ u, t ≤ u → sn u = mSn v u) (hm : 8 - t < fu_), G p_ l e_ { frames := 4, cells := 0, slots := 0, locals := 156 } s_ m_ args_ below_ meth_ c_ 3 D A_ 0 0 (QV below_ args_ s_ D A_ [wM cy ay k (uSn v (lkF k h (mSn v)))]) [wM cy ay k (uSn v sn)] 2 [(0, .ref (ay 0)), (1, .int (nI h)), (2, .int (nI t))] [] := by
    intro fu_
    induction fu_ with
    | zero => intro t sn ht h1 h2 hm; exact absurd hm (Nat.not_lt_zero _)
    | succ fu_ ih =>
      intro t sn ht h1 h2 hm
      have ih2 := ih
      clear ih
      refine g_iload_n (pc := 2) X dX4_look_2 2 rfl ?_
      refine g_aload_n (pc := 3) X dX4_look_3 0 rfl ?_
      refine g_get (pc := 4) X (v := .int (nI (kNt k))) fl_X4_52 dX4_look_4 0 0 rfl rfl rfl ?_
      refine g_ncmp_ge (pc := 7) (tgt := 28) X dX4_look_7 (by decide) t (kNt k) rfl rfl (by omega) (by omega) (fun c7 => ?_) (fun c7 => ?_)
      · have n7 := Nat.not_lt.mpr c7
        refine g_swap X (ss' := [wM cy ay k (uSn v (lkF k h (mSn v)))]) (g := lkF k h (mSn v)) 0 13 rfl rfl (fun u hu => by unfold lkF; by_cases e : u < kNt k; (rw [if_pos e]; exact h1 u (by omega)); (rw [if_neg e]; exact h2 u (by omega))) rfl ?_
        exact g_vret (pc := 28) X rfl dX4_look_28 rfl
      · refine g_aload_n (pc := 10) X dX4_look_10 0 rfl ?_
        refine g_get (pc := 11) X (v := .ref (ay 13)) fl_X4_46 dX4_look_11 0 0 rfl rfl rfl ?_
        refine g_iload_n (pc := 14) X dX4_look_14 2 rfl ?_
        refine g_aload_n (pc := 15) X dX4_look_15 0 rfl ?_
        refine g_iload_n (pc := 16) X dX4_look_16 2 rfl ?_
        refine g_iload_n (pc := 17) X dX4_look_17 1 rfl ?_
        refine g_callV (pc := 18) (rest := [.int (nI t), .ref (ay 13)]) (ss' := [wM cy ay k (uSn v sn)]) X (c_X4_fromWhere l D cy ay k (uSn v sn) t h (by first | assumption | omega) (by first | assumption | omega) (by first | assumption | omega) (by first | assumption | omega)) vl_X4_139 dX4_look_18 [0] 0 0 rfl rfl rfl rfl rfl rfl rfl rfl rfl rfl rfl rfl rfl ⟨Nat.zero_le _, Nat.zero_le _⟩ ?_
        refine g_iast_n (pc := 21) X (ss' := [wM cy ay k (uSn v (upd sn t (sfK k t h)))]) 0 13 dX4_look_21 t rfl rfl rfl (by omega) rfl rfl ?_
        refine g_iinc (v := nI (t + 1)) (lv' := [(2, .int (nI (t + 1))), (0, .ref (ay 0)), (1, .int (nI h))]) (pc := 22) X dX4_look_22 2 rfl (nI_1 t) rfl rfl ?_
        refine g_goto (pc := 25) (tgt := 2) X dX4_look_25 (by decide) ?_
        refine g_lv X (lv' := [(0, .ref (ay 0)), (1, .int (nI h)), (2, .int (nI (t + 1)))]) [1, 2, 0] rfl ?_
        exact ih2 (t + 1) (upd sn t (sfK k t h)) c7 (fun u hu => by by_cases e : u = t; (rw [e, upd_s]); (rw [upd_n e]; exact h1 u (by omega))) (fun u hu => by rw [upd_n (by omega)]; exact h2 u (by omega)) (by omega)
  refine g_lv X (lv' := [(0, .ref (ay 0)), (1, .int (nI h)), (2, .int (0))]) [1, 2, 0] rfl ?_
  exact L2_1 (8 - 0 + 1) 0 (mSn v) (Nat.zero_le _) (fun u h => absurd h (Nat.not_lt_zero u)) (fun _ _ => rfl) (Nat.lt_succ_self _)
