set_option maxRecDepth 100000 in
set_option maxHeartbeats 4000000 in
theorem c_X1_hasThing (l : Launch) (D : va_G) (cy : ClassId) (ad : Nat → Nat) (k : KV) (x : Int32) : CtI l yX1_hasThing cX1_hasThing 2 .boolean 0 64 D cy [.ref (ad 0), .int (x)] [wH cy ad k] [wH cy ad k] (bI (hasT k x)) := by
  refine ctI_of (by decide +kernel) (Nat.le_of_ble_eq_true rfl) (fun p_ e_ s_ m_ args_ below_ meth_ c_ A_ X => ?_)
  refine g_lv X (lv' := [(0, .ref (ad 0)), (1, .int (x))]) [0, 1] rfl ?_
  refine g_iload_n (pc := 0) X dX1_hasThing_0 1 rfl ?_
  refine g_if_lt (pc := 1) (tgt := 16) X dX1_hasThing_1 (by decide) (fun c1 => ?_) (fun c1 => ?_)
  · refine g_iconst (v := 0) (pc := 16) X dX1_hasThing_16 (by decide) ?_
    exact g_iret (pc := 17) X rfl dX1_hasThing_17 rfl (by first | exact bI_t (decide_eq_true ⟨c1, c9⟩) | exact bI_f (decide_eq_false (fun h => absurd h.2 (Int32.not_lt.mpr c9))) | exact bI_f (decide_eq_false (fun h => absurd h.1 (Int32.not_le.mpr c1)))) rfl
  · have n1 := Int32.not_lt.mpr c1
    refine g_iload_n (pc := 4) X dX1_hasThing_4 1 rfl ?_
    refine g_aload_n (pc := 5) X dX1_hasThing_5 0 rfl ?_
    refine g_get (pc := 6) X (v := .int (nI (kNt k))) fl_X1_31 dX1_hasThing_6 0 0 rfl rfl rfl ?_
    refine g_icmp_ge (pc := 9) (tgt := 16) X dX1_hasThing_9 (by decide) (fun c9 => ?_) (fun c9 => ?_)
    · have n9 := Int32.not_lt.mpr c9
      refine g_iconst (v := 0) (pc := 16) X dX1_hasThing_16 (by decide) ?_
      exact g_iret (pc := 17) X rfl dX1_hasThing_17 rfl (by first | exact bI_t (decide_eq_true ⟨c1, c9⟩) | exact bI_f (decide_eq_false (fun h => absurd h.2 (Int32.not_lt.mpr c9))) | exact bI_f (decide_eq_false (fun h => absurd h.1 (Int32.not_le.mpr c1)))) rfl
    · refine g_iconst (v := 1) (pc := 12) X dX1_hasThing_12 (by decide) ?_
      refine g_goto (pc := 13) (tgt := 17) X dX1_hasThing_13 (by decide) ?_
      exact g_iret (pc := 17) X rfl dX1_hasThing_17 rfl (by first | exact bI_t (decide_eq_true ⟨c1, c9⟩) | exact bI_f (decide_eq_false (fun h => absurd h.2 (Int32.not_lt.mpr c9))) | exact bI_f (decide_eq_false (fun h => absurd h.1 (Int32.not_le.mpr c1)))) rfl
set_option maxRecDepth 100000 in
set_option maxHeartbeats 4000000 in
theorem c_X1_hasLine (l : Launch) (D : va_G) (cy : ClassId) (ad : Nat → Nat) (k : KV) (x : Int32) : CtI l yX1_hasLine cX1_hasLine 2 .boolean 0 64 D cy [.ref (ad 0), .int (x)] [wH cy ad k] [wH cy ad k] (bI (hasL k x)) := by
  refine ctI_of (by decide +kernel) (Nat.le_of_ble_eq_true rfl) (fun p_ e_ s_ m_ args_ below_ meth_ c_ A_ X => ?_)
  refine g_lv X (lv' := [(0, .ref (ad 0)), (1, .int (x))]) [0, 1] rfl ?_
  refine g_iload_n (pc := 0) X dX1_hasLine_0 1 rfl ?_
  refine g_if_lt (pc := 1) (tgt := 16) X dX1_hasLine_1 (by decide) (fun c1 => ?_) (fun c1 => ?_)
  · refine g_iconst (v := 0) (pc := 16) X dX1_hasLine_16 (by decide) ?_
    exact g_iret (pc := 17) X rfl dX1_hasLine_17 rfl (by first | exact bI_t (decide_eq_true ⟨c1, c9⟩) | exact bI_f (decide_eq_false (fun h => absurd h.2 (Int32.not_lt.mpr c9))) | exact bI_f (decide_eq_false (fun h => absurd h.1 (Int32.not_le.mpr c1)))) rfl
  · have n1 := Int32.not_lt.mpr c1
    refine g_iload_n (pc := 4) X dX1_hasLine_4 1 rfl ?_
    refine g_aload_n (pc := 5) X dX1_hasLine_5 0 rfl ?_
    refine g_get (pc := 6) X (v := .int (nI (kNl k))) fl_X1_9 dX1_hasLine_6 0 0 rfl rfl rfl ?_
    refine g_icmp_ge (pc := 9) (tgt := 16) X dX1_hasLine_9 (by decide) (fun c9 => ?_) (fun c9 => ?_)
    · have n9 := Int32.not_lt.mpr c9
      refine g_iconst (v := 0) (pc := 16) X dX1_hasLine_16 (by decide) ?_
      exact g_iret (pc := 17) X rfl dX1_hasLine_17 rfl (by first | exact bI_t (decide_eq_true ⟨c1, c9⟩) | exact bI_f (decide_eq_false (fun h => absurd h.2 (Int32.not_lt.mpr c9))) | exact bI_f (decide_eq_false (fun h => absurd h.1 (Int32.not_le.mpr c1)))) rfl
    · refine g_iconst (v := 1) (pc := 12) X dX1_hasLine_12 (by decide) ?_
      refine g_goto (pc := 13) (tgt := 17) X dX1_hasLine_13 (by decide) ?_
      exact g_iret (pc := 17) X rfl dX1_hasLine_17 rfl (by first | exact bI_t (decide_eq_true ⟨c1, c9⟩) | exact bI_f (decide_eq_false (fun h => absurd h.2 (Int32.not_lt.mpr c9))) | exact bI_f (decide_eq_false (fun h => absurd h.1 (Int32.not_le.mpr c1)))) rfl
set_option maxRecDepth 100000 in
set_option maxHeartbeats 4000000 in
theorem c_X3_isRoom (l : Launch) (D : va_G) (cy : ClassId) (x : Int32) : CtI l yX3_isRoom cX3_isRoom 1 .boolean 0 64 D cy [.int (x)] [] [] (bI (isRm x)) := by
  refine ctI_of (by decide +kernel) (Nat.le_of_ble_eq_true rfl) (fun p_ e_ s_ m_ args_ below_ meth_ c_ A_ X => ?_)
  refine g_lv X (lv' := [(0, .int (x))]) [0] rfl ?_
  refine g_iload_n (pc := 0) X dX3_isRoom_0 0 rfl ?_
  refine g_if_lt (pc := 1) (tgt := 14) X dX3_isRoom_1 (by decide) (fun c1 => ?_) (fun c1 => ?_)
  · refine g_iconst (v := 0) (pc := 14) X dX3_isRoom_14 (by decide) ?_
    exact g_iret (pc := 15) X rfl dX3_isRoom_15 rfl (by first | exact bI_t (decide_eq_true ⟨c1, c7⟩) | exact bI_f (decide_eq_false (fun h => absurd h.2 (Int32.not_lt.mpr c7))) | exact bI_f (decide_eq_false (fun h => absurd h.1 (Int32.not_le.mpr c1)))) rfl
  · have n1 := Int32.not_lt.mpr c1
    refine g_iload_n (pc := 4) X dX3_isRoom_4 0 rfl ?_
    refine g_bipush (v := 6) (pc := 5) X dX3_isRoom_5 (by decide) ?_
    refine g_icmp_ge (pc := 7) (tgt := 14) X dX3_isRoom_7 (by decide) (fun c7 => ?_) (fun c7 => ?_)
    · have n7 := Int32.not_lt.mpr c7
      refine g_iconst (v := 0) (pc := 14) X dX3_isRoom_14 (by decide) ?_
      exact g_iret (pc := 15) X rfl dX3_isRoom_15 rfl (by first | exact bI_t (decide_eq_true ⟨c1, c7⟩) | exact bI_f (decide_eq_false (fun h => absurd h.2 (Int32.not_lt.mpr c7))) | exact bI_f (decide_eq_false (fun h => absurd h.1 (Int32.not_le.mpr c1)))) rfl
    · refine g_iconst (v := 1) (pc := 10) X dX3_isRoom_10 (by decide) ?_
      refine g_goto (pc := 11) (tgt := 15) X dX3_isRoom_11 (by decide) ?_
      exact g_iret (pc := 15) X rfl dX3_isRoom_15 rfl (by first | exact bI_t (decide_eq_true ⟨c1, c7⟩) | exact bI_f (decide_eq_false (fun h => absurd h.2 (Int32.not_lt.mpr c7))) | exact bI_f (decide_eq_false (fun h => absurd h.1 (Int32.not_le.mpr c1)))) rfl
set_option maxRecDepth 100000 in
set_option maxHeartbeats 4000000 in
theorem c_X2_digit (l : Launch) (D : va_G) (cy : ClassId) (x : Int32) : CtI l yX2_digit cX2_digit 1 .int 0 64 D cy [.int (x)] [] [] (dgI x) := by
  refine ctI_of (by decide +kernel) (Nat.le_of_ble_eq_true rfl) (fun p_ e_ s_ m_ args_ below_ meth_ c_ A_ X => ?_)
  refine g_lv X (lv' := [(0, .int (x))]) [0] rfl ?_
  refine g_iload_n (pc := 0) X dX2_digit_0 0 rfl ?_
  refine g_bipush (v := 48) (pc := 1) X dX2_digit_1 (by decide) ?_
  refine g_icmp_lt (pc := 3) (tgt := 19) X dX2_digit_3 (by decide) (fun c3 => ?_) (fun c3 => ?_)
  · refine g_bipush (v := (-9)) (pc := 19) X dX2_digit_19 (by decide) ?_
    exact g_iret (pc := 21) X rfl dX2_digit_21 rfl (by first | (rw [dgI, if_pos c3]; done) | (rw [dgI, if_neg (Int32.not_lt.mpr c3), if_pos c9]; done) | (rw [dgI, if_neg (Int32.not_lt.mpr c3), if_neg (Int32.not_lt.mpr c9)]; done)) rfl
  · have n3 := Int32.not_lt.mpr c3
    refine g_iload_n (pc := 6) X dX2_digit_6 0 rfl ?_
    refine g_bipush (v := 57) (pc := 7) X dX2_digit_7 (by decide) ?_
    refine g_icmp_gt (pc := 9) (tgt := 19) X dX2_digit_9 (by decide) (fun c9 => ?_) (fun c9 => ?_)
    · refine g_bipush (v := (-9)) (pc := 19) X dX2_digit_19 (by decide) ?_
      exact g_iret (pc := 21) X rfl dX2_digit_21 rfl (by first | (rw [dgI, if_pos c3]; done) | (rw [dgI, if_neg (Int32.not_lt.mpr c3), if_pos c9]; done) | (rw [dgI, if_neg (Int32.not_lt.mpr c3), if_neg (Int32.not_lt.mpr c9)]; done)) rfl
    · have n9 := Int32.not_lt.mpr c9
      refine g_iload_n (pc := 12) X dX2_digit_12 0 rfl ?_
      refine g_bipush (v := 48) (pc := 13) X dX2_digit_13 (by decide) ?_
      refine g_isub (v := x - 48) (pc := 15) X dX2_digit_15 rfl ?_
      refine g_goto (pc := 16) (tgt := 21) X dX2_digit_16 (by decide) ?_
      exact g_iret (pc := 21) X rfl dX2_digit_21 rfl (by first | (rw [dgI, if_pos c3]; done) | (rw [dgI, if_neg (Int32.not_lt.mpr c3), if_pos c9]; done) | (rw [dgI, if_neg (Int32.not_lt.mpr c3), if_neg (Int32.not_lt.mpr c9)]; done)) rfl
set_option maxRecDepth 100000 in
set_option maxHeartbeats 4000000 in
theorem c_X2_kind (l : Launch) (D : va_G) (cy : ClassId) (x : Int32) : CtI l yX2_kind cX2_kind 1 .int 0 64 D cy [.int (x)] [] [] (kdI x) := by
  refine ctI_of (by decide +kernel) (Nat.le_of_ble_eq_true rfl) (fun p_ e_ s_ m_ args_ below_ meth_ c_ A_ X => ?_)
  refine g_lv X (lv' := [(0, .int (x))]) [0] rfl ?_
  refine g_iload_n (pc := 0) X dX2_kind_0 0 rfl ?_
  by_cases e1_98 : x = (98 : Int32)
  · refine g_top X e1_98 ?_
    refine g_lookup (pc := 1) (off := 65) (tgt := 66) X dX2_kind_1 (by decide) (by decide) (by decide) ?_
    refine g_iconst (v := 3) (pc := 66) X dX2_kind_66 (by decide) ?_
    exact g_iret (pc := 67) X rfl dX2_kind_67 rfl (by subst_vars; simp only [kdI, *, if_true, if_false]; first | done | rfl | decide) rfl
  by_cases e1_109 : x = (109 : Int32)
  · refine g_top X e1_109 ?_
    refine g_lookup (pc := 1) (off := 69) (tgt := 70) X dX2_kind_1 (by decide) (by decide) (by decide) ?_
    refine g_iconst (v := 5) (pc := 70) X dX2_kind_70 (by decide) ?_
    exact g_iret (pc := 71) X rfl dX2_kind_71 rfl (by subst_vars; simp only [kdI, *, if_true, if_false]; first | done | rfl | decide) rfl
  by_cases e1_110 : x = (110 : Int32)
  · refine g_top X e1_110 ?_
    refine g_lookup (pc := 1) (off := 67) (tgt := 68) X dX2_kind_1 (by decide) (by decide) (by decide) ?_
    refine g_iconst (v := 4) (pc := 68) X dX2_kind_68 (by decide) ?_
    exact g_iret (pc := 69) X rfl dX2_kind_69 rfl (by subst_vars; simp only [kdI, *, if_true, if_false]; first | done | rfl | decide) rfl
  by_cases e1_115 : x = (115 : Int32)
  · refine g_top X e1_115 ?_
    refine g_lookup (pc := 1) (off := 63) (tgt := 64) X dX2_kind_1 (by decide) (by decide) (by decide) ?_
    refine g_iconst (v := 2) (pc := 64) X dX2_kind_64 (by decide) ?_
    exact g_iret (pc := 65) X rfl dX2_kind_65 rfl (by subst_vars; simp only [kdI, *, if_true, if_false]; first | done | rfl | decide) rfl
  by_cases e1_116 : x = (116 : Int32)
  · refine g_top X e1_116 ?_
    refine g_lookup (pc := 1) (off := 59) (tgt := 60) X dX2_kind_1 (by decide) (by decide) (by decide) ?_
    refine g_iconst (v := 0) (pc := 60) X dX2_kind_60 (by decide) ?_
    exact g_iret (pc := 61) X rfl dX2_kind_61 rfl (by subst_vars; simp only [kdI, *, if_true, if_false]; first | done | rfl | decide) rfl
  by_cases e1_119 : x = (119 : Int32)
  · refine g_top X e1_119 ?_
    refine g_lookup (pc := 1) (off := 61) (tgt := 62) X dX2_kind_1 (by decide) (by decide) (by decide) ?_
    refine g_iconst (v := 1) (pc := 62) X dX2_kind_62 (by decide) ?_
    exact g_iret (pc := 63) X rfl dX2_kind_63 rfl (by subst_vars; simp only [kdI, *, if_true, if_false]; first | done | rfl | decide) rfl
  refine g_lookup (pc := 1) (off := 71) (tgt := 72) X dX2_kind_1 (by decide) ((lv_osw e1_98 (by decide)).trans ((lv_osw e1_109 (by decide)).trans ((lv_osw e1_110 (by decide)).trans ((lv_osw e1_115 (by decide)).trans ((lv_osw e1_116 (by decide)).trans ((lv_osw e1_119 (by decide)).trans (rfl))))))) (by decide) ?_
  refine g_bipush (v := (-9)) (pc := 72) X dX2_kind_72 (by decide) ?_
  exact g_iret (pc := 74) X rfl dX2_kind_74 rfl (by subst_vars; simp only [kdI, *, if_true, if_false]; first | done | rfl | decide) rfl
set_option maxRecDepth 100000 in
set_option maxHeartbeats 4000000 in
theorem c_X1_allThings (l : Launch) (D : va_G) (cy : ClassId) (ad : Nat → Nat) (k : KV) : CtI l yX1_allThings cX1_allThings 1 .int 0 64 D cy [.ref (ad 0)] [wH cy ad k] [wH cy ad k] (allT k) := by
  refine ctI_of (by decide +kernel) (Nat.le_of_ble_eq_true rfl) (fun p_ e_ s_ m_ args_ below_ meth_ c_ A_ X => ?_)
  refine g_lv X (lv' := [(0, .ref (ad 0))]) [0] rfl ?_
  refine g_iconst (v := 1) (pc := 0) X dX1_allThings_0 (by decide) ?_
  refine g_aload_n (pc := 1) X dX1_allThings_1 0 rfl ?_
  refine g_get (pc := 2) X (v := .int (nI (kNt k))) fl_X1_31 dX1_allThings_2 0 0 rfl rfl rfl ?_
  refine g_ishl (v := shl 1 (nI (kNt k))) (pc := 5) X dX1_allThings_5 rfl ?_
  refine g_iconst (v := 1) (pc := 6) X dX1_allThings_6 (by decide) ?_
  refine g_isub (v := allT k) (pc := 7) X dX1_allThings_7 rfl ?_
  exact g_iret (pc := 8) X rfl dX1_allThings_8 rfl rfl rfl
set_option maxRecDepth 100000 in
set_option maxHeartbeats 4000000 in
theorem c_X1_coupledCount (l : Launch) (D : va_G) (cy : ClassId) (ad : Nat → Nat) (k : KV) (h8 : kNt k ≤ 8) : CtI l yX1_coupledCount cX1_coupledCount 3 .int 0 64 D cy [.ref (ad 0)] [wH cy ad k] [wH cy ad k] (nI (ccK k)) := by
  refine ctI_of (by decide +kernel) (Nat.le_of_ble_eq_true rfl) (fun p_ e_ s_ m_ args_ below_ meth_ c_ A_ X => ?_)
  refine g_lv X (lv' := [(0, .ref (ad 0))]) [0] rfl ?_
  refine g_iconst (v := 0) (pc := 0) X dX1_coupledCount_0 (by decide) ?_
  refine g_istore_n (lv' := [(1, .int (0)), (0, .ref (ad 0))]) (pc := 1) X dX1_coupledCount_1 rfl rfl rfl ?_
  refine g_iconst (v := 0) (pc := 2) X dX1_coupledCount_2 (by decide) ?_
  refine g_istore_n (lv' := [(2, .int (0)), (1, .int (0)), (0, .ref (ad 0))]) (pc := 3) X dX1_coupledCount_3 rfl rfl rfl ?_
  have L4_1 : ∀ (fu_ : Nat) (j : Nat) (hj : j ≤ kNt k) (hm : kNt k - j < fu_), G p_ l e_ { frames := 0, cells := 0, slots := 0, locals := 64 } s_ m_ args_ below_ meth_ c_ 3 D A_ 0 0 (QI below_ args_ s_ D A_ [wH cy ad k] (nI (ccK k))) [wH cy ad k] 4 [(0, .ref (ad 0)), (1, .int (nI (cnt (fun t => decide (kOt k t ≠ -9)) j))), (2, .int (nI j))] [] := by
    intro fu_
    induction fu_ with
    | zero => intro j hj hm; exact absurd hm (Nat.not_lt_zero _)
    | succ fu_ ih =>
      intro j hj hm
      have ih4 := ih
      clear ih
      refine g_iload_n (pc := 4) X dX1_coupledCount_4 2 rfl ?_
      refine g_aload_n (pc := 5) X dX1_coupledCount_5 0 rfl ?_
      refine g_get (pc := 6) X (v := .int (nI (kNt k))) fl_X1_31 dX1_coupledCount_6 0 0 rfl rfl rfl ?_
      refine g_ncmp_ge (pc := 9) (tgt := 32) X dX1_coupledCount_9 (by decide) j (kNt k) rfl rfl (by omega) (by omega) (fun c9 => ?_) (fun c9 => ?_)
      · have n9 := Nat.not_lt.mpr c9
        have hj2 : j = kNt k := by omega
        rw [hj2]
        refine g_iload_n (pc := 32) X dX1_coupledCount_32 1 rfl ?_
        exact g_iret (pc := 33) X rfl dX1_coupledCount_33 rfl rfl rfl
      · refine g_aload_n (pc := 12) X dX1_coupledCount_12 0 rfl ?_
        refine g_get (pc := 13) X (v := .ref (ad 7)) fl_X1_40 dX1_coupledCount_13 0 0 rfl rfl rfl ?_
        refine g_iload_n (pc := 16) X dX1_coupledCount_16 2 rfl ?_
        refine g_iald_n (pc := 17) (f := kOt k) X 0 7 dX1_coupledCount_17 j rfl rfl rfl (by omega) rfl ?_
        refine g_bipush (v := (-9)) (pc := 18) X dX1_coupledCount_18 (by decide) ?_
        refine g_icmp_eq (pc := 20) (tgt := 26) X dX1_coupledCount_20 (by decide) (fun c20 => ?_) (fun c20 => ?_)
        · have hc : cnt (fun t => decide (kOt k t ≠ -9)) j = cnt (fun t => decide (kOt k t ≠ -9)) (j + 1) := by rw [cnt, if_neg (by simp [c20])]
          rw [hc]
          refine g_iinc (v := nI (j + 1)) (lv' := [(2, .int (nI (j + 1))), (0, .ref (ad 0)), (1, .int (nI (cnt (fun t => decide (kOt k t ≠ -9)) (j + 1))))]) (pc := 26) X dX1_coupledCount_26 2 rfl (nI_1 j) rfl rfl ?_
          refine g_goto (pc := 29) (tgt := 4) X dX1_coupledCount_29 (by decide) ?_
          refine g_lv X (lv' := [(0, .ref (ad 0)), (1, .int (nI (cnt (fun t => decide (kOt k t ≠ -9)) (j + 1)))), (2, .int (nI (j + 1)))]) [1, 2, 0] rfl ?_
          exact ih4 (j + 1) c9 (by omega)
        · refine g_iinc (v := nI (cnt (fun t => decide (kOt k t ≠ -9)) (j + 1))) (lv' := [(1, .int (nI (cnt (fun t => decide (kOt k t ≠ -9)) (j + 1)))), (0, .ref (ad 0)), (2, .int (nI j))]) (pc := 23) X dX1_coupledCount_23 1 rfl (by rw [cnt, if_pos (decide_eq_true c20)]; exact nI_1 _) rfl rfl ?_
          refine g_iinc (v := nI (j + 1)) (lv' := [(2, .int (nI (j + 1))), (1, .int (nI (cnt (fun t => decide (kOt k t ≠ -9)) (j + 1)))), (0, .ref (ad 0))]) (pc := 26) X dX1_coupledCount_26 2 rfl (nI_1 j) rfl rfl ?_
          refine g_goto (pc := 29) (tgt := 4) X dX1_coupledCount_29 (by decide) ?_
          refine g_lv X (lv' := [(0, .ref (ad 0)), (1, .int (nI (cnt (fun t => decide (kOt k t ≠ -9)) (j + 1)))), (2, .int (nI (j + 1)))]) [2, 1, 0] rfl ?_
          exact ih4 (j + 1) c9 (by omega)
  refine g_lv X (lv' := [(0, .ref (ad 0)), (1, .int (0)), (2, .int (0))]) [2, 1, 0] rfl ?_
  exact L4_1 (kNt k - 0 + 1) 0 (Nat.zero_le _) (Nat.lt_succ_self _)
set_option maxRecDepth 100000 in
set_option maxHeartbeats 4000000 in
theorem c_X1_leave (l : Launch) (D : va_G) (cy : ClassId) (ad : Nat → Nat) (k : KV) (t : Nat) (ht : t < 8) (h8 : kNt k ≤ 8) : CtI l yX1_leave cX1_leave 3 .int 1 85 D cy [.ref (ad 0), .int (nI t)] [wH cy ad k] [wH cy ad (lvK k t)] (nI (lvN k t)) := by
  refine ctI_of (by decide +kernel) (Nat.le_of_ble_eq_true rfl) (fun p_ e_ s_ m_ args_ below_ meth_ c_ A_ X => ?_)
  refine g_lv X (lv' := [(0, .ref (ad 0)), (1, .int (nI t))]) [0, 1] rfl ?_
  refine g_aload_n (pc := 0) X dX1_leave_0 0 rfl ?_
  refine g_get (pc := 1) X (v := .ref (ad 7)) fl_X1_40 dX1_leave_1 0 0 rfl rfl rfl ?_
  refine g_iload_n (pc := 4) X dX1_leave_4 1 rfl ?_
  refine g_iald_n (pc := 5) (f := kOt k) X 0 7 dX1_leave_5 t rfl rfl rfl (by omega) rfl ?_
  refine g_istore_n (lv' := [(2, .int ((kOt k) t)), (0, .ref (ad 0)), (1, .int (nI t))]) (pc := 6) X dX1_leave_6 rfl rfl rfl ?_
  refine g_aload_n (pc := 7) X dX1_leave_7 1 rfl ?_
  refine g_iload_n (pc := 8) X dX1_leave_8 0 rfl ?_
  refine g_callV (pc := 9) (rest := []) (ss' := [wH cy ad k]) X (c_X1_hasThing l D cy ad k ((kOt k) t) ) vl_X1_62 dX1_leave_9 [0] 0 0 rfl rfl rfl rfl rfl rfl rfl rfl rfl rfl rfl rfl rfl ⟨Nat.zero_le _, Nat.zero_le _⟩ ?_
  refine g_bif_ne (pc := 12) (tgt := 17) X dX1_leave_12 (by decide) (fun c12 => ?_) (fun c12 => ?_)
  · refine g_aload_n (pc := 17) X dX1_leave_17 1 rfl ?_
    refine g_get (pc := 18) X (v := .ref (ad 7)) fl_X1_40 dX1_leave_18 0 0 rfl rfl rfl ?_
    refine g_iload_n (pc := 21) X dX1_leave_21 0 rfl ?_
    refine g_bipush (v := (-9)) (pc := 22) X dX1_leave_22 (by decide) ?_
    refine g_iast (pc := 24) X (ss' := [wH cy ad (sOt k (upd (kOt k) (ix ((kOt k) t)) ((-9))))]) 0 7 dX1_leave_24 rfl rfl (vp_of_hasT h8 c12) rfl ?_
    refine g_iconst (v := 1) (pc := 25) X dX1_leave_25 (by decide) ?_
    exact g_iret (pc := 26) X rfl dX1_leave_26 rfl (by rw [lvN, if_pos c12] <;> rfl) (by rw [lvK, if_pos c12] <;> rfl)
  · refine g_iconst (v := 0) (pc := 15) X dX1_leave_15 (by decide) ?_
    exact g_iret (pc := 16) X rfl dX1_leave_16 rfl (by rw [lvN, if_neg (by rw [c12]; decide)] <;> rfl) (by rw [lvK, if_neg (by rw [c12]; decide)])
set_option maxRecDepth 100000 in
set_option maxHeartbeats 4000000 in
theorem c_X1_couple (l : Launch) (D : va_G) (cy : ClassId) (ad : Nat → Nat) (k : KV) (a : Nat) (b : Nat) (ha : a < 8) (hb : b < 8) (h8 : kNt k ≤ 8) : CtI l yX1_couple cX1_couple 4 .int 2 107 D cy [.ref (ad 0), .int (nI a), .int (nI b)] [wH cy ad k] [wH cy ad (cpK k a b)] (nI (cpN k a b)) := by
  refine ctI_of (by decide +kernel) (Nat.le_of_ble_eq_true rfl) (fun p_ e_ s_ m_ args_ below_ meth_ c_ A_ X => ?_)
  refine g_lv X (lv' := [(0, .ref (ad 0)), (1, .int (nI a)), (2, .int (nI b))]) [0, 1, 2] rfl ?_
  refine g_aload_n (pc := 0) X dX1_couple_0 0 rfl ?_
  refine g_get (pc := 1) X (v := .ref (ad 7)) fl_X1_40 dX1_couple_1 0 0 rfl rfl rfl ?_
  refine g_iload_n (pc := 4) X dX1_couple_4 1 rfl ?_
  refine g_iald_n (pc := 5) (f := kOt k) X 0 7 dX1_couple_5 a rfl rfl rfl (by omega) rfl ?_
  refine g_iload_n (pc := 6) X dX1_couple_6 2 rfl ?_
  refine g_icmp_ne (pc := 7) (tgt := 12) X dX1_couple_7 (by decide) (fun c7 => ?_) (fun c7 => ?_)
  · refine g_aload_n (pc := 12) X dX1_couple_12 0 rfl ?_
    refine g_iload_n (pc := 13) X dX1_couple_13 1 rfl ?_
    refine g_callV (pc := 14) (rest := []) (ss' := [wH cy ad (lvK k a)]) X (c_X1_leave l D cy ad k a (by first | assumption | omega) (by first | assumption | omega)) vl_X1_58 dX1_couple_14 [0] 0 0 rfl rfl rfl rfl rfl rfl (ads_c (ads_H _ _ _ _ _ _ _ _) rfl) rfl rfl rfl rfl rfl rfl ⟨Nat.zero_le _, Nat.zero_le _⟩ ?_
    generalize hqk14_1 : lvK k a = k14_1
    have n14 : kNt k14_1 = kNt k := by rw [← hqk14_1, lvK_nt]
    refine g_aload_n (pc := 17) X dX1_couple_17 0 rfl ?_
    refine g_iload_n (pc := 18) X dX1_couple_18 2 rfl ?_
    refine g_callV (pc := 19) (rest := [.int (nI (lvN k a))]) (ss' := [wH cy ad (lvK k14_1 b)]) X (c_X1_leave l D cy ad k14_1 b (by first | assumption | omega) (by rw [← hqk14_1, lvK_nt]; exact h8)) vl_X1_58 dX1_couple_19 [0] 0 0 rfl rfl rfl rfl rfl rfl (ads_c (ads_H _ _ _ _ _ _ _ _) rfl) rfl rfl rfl rfl rfl rfl ⟨Nat.zero_le _, Nat.zero_le _⟩ ?_
    generalize hqk19_2 : lvK k14_1 b = k19_2
    have n19 : kNt k19_2 = kNt k := by rw [← hqk19_2, lvK_nt, n14]
    refine g_iadd (v := nI (lvN k a + lvN k14_1 b)) (pc := 22) X dX1_couple_22 (nI_add (lvN k a) (lvN k14_1 b)) ?_
    refine g_istore_n (lv' := [(3, .int (nI (lvN k a + lvN k14_1 b))), (0, .ref (ad 0)), (1, .int (nI a)), (2, .int (nI b))]) (pc := 23) X dX1_couple_23 rfl rfl rfl ?_
    refine g_aload_n (pc := 24) X dX1_couple_24 1 rfl ?_
    refine g_get (pc := 25) X (v := .ref (ad 7)) fl_X1_40 dX1_couple_25 0 0 rfl rfl rfl ?_
    refine g_iload_n (pc := 28) X dX1_couple_28 2 rfl ?_
    refine g_iload_n (pc := 29) X dX1_couple_29 3 rfl ?_
    refine g_iast_n (pc := 30) X (ss' := [wH cy ad (sOt k19_2 (upd (kOt k19_2) a (nI b)))]) 0 7 dX1_couple_30 a rfl rfl rfl (by omega) rfl rfl ?_
    refine g_aload_n (pc := 31) X dX1_couple_31 1 rfl ?_
    refine g_get (pc := 32) X (v := .ref (ad 7)) fl_X1_40 dX1_couple_32 0 0 rfl rfl rfl ?_
    refine g_iload_n (pc := 35) X dX1_couple_35 3 rfl ?_
    refine g_iload_n (pc := 36) X dX1_couple_36 2 rfl ?_
    refine g_iast_n (pc := 37) X (ss' := [wH cy ad (sOt k19_2 (upd (upd (kOt k19_2) a (nI b)) b (nI a)))]) 0 7 dX1_couple_37 b rfl rfl rfl (by omega) rfl rfl ?_
    refine g_iload_n (pc := 38) X dX1_couple_38 0 rfl ?_
    subst hqk19_2
    subst hqk14_1
    exact g_iret (pc := 39) X rfl dX1_couple_39 rfl (by rw [cpN, if_neg c7]) (by rw [cpK, if_neg c7]; rfl)
  · refine g_iconst (v := 0) (pc := 10) X dX1_couple_10 (by decide) ?_
    exact g_iret (pc := 11) X rfl dX1_couple_11 rfl (by rw [cpN, if_pos c7] <;> rfl) (by rw [cpK, if_pos c7])
set_option maxRecDepth 100000 in
set_option maxHeartbeats 4000000 in
theorem c_X1_addLine (l : Launch) (D : va_G) (cy : ClassId) (ad : Nat → Nat) (k : KV) (x : Int32) (y : Int32) (hl : kNl k ≤ 10) (hh : kNl k < 10 → btI (kHd k) (nI (kNl k)) = false) : CtI l yX1_addLine cX1_addLine 3 .boolean 2 96 D cy [.ref (ad 0), .int (x), .int (y)] [wH cy ad k] [wH cy ad (alK k x y)] (bI (alB k x y)) := by
  refine ctI_of (by decide +kernel) (Nat.le_of_ble_eq_true rfl) (fun p_ e_ s_ m_ args_ below_ meth_ c_ A_ X => ?_)
  refine g_lv X (lv' := [(0, .ref (ad 0)), (1, .int (x)), (2, .int (y))]) [0, 1, 2] rfl ?_
  refine g_iload_n (pc := 0) X dX1_addLine_0 1 rfl ?_
  refine g_callSN (pc := 1) (rest := []) X (c_X3_isRoom l D cy x ) rfl ms_X3_isRoom ini_X3 mc_X3_isRoom dX1_addLine_1 rfl rfl rfl rfl rfl ⟨Nat.zero_le _, Nat.zero_le _⟩ ?_
  refine g_bif_eq (pc := 4) (tgt := 28) X dX1_addLine_4 (by decide) (fun c4 => ?_) (fun c4 => ?_)
  · refine g_iconst (v := 0) (pc := 28) X dX1_addLine_28 (by decide) ?_
    exact g_iret (pc := 29) X rfl dX1_addLine_29 rfl (bI_f (by first | (simp [alB, c4]; done) | (simp [alB, c11]; done) | (simp [alB, c4]; done) | (simp [alB, n25]; done))) (congrArg (fun q => [wH cy ad q]) (if_K (by first | (simp [alB, c4]; done) | (simp [alB, c11]; done) | (simp [alB, c4]; done) | (simp [alB, n25]; done))))
  · have rx := c4
    obtain ⟨i, hi, rfl⟩ := isRm_t c4
    refine g_iload_n (pc := 7) X dX1_addLine_7 2 rfl ?_
    refine g_callSN (pc := 8) (rest := []) X (c_X3_isRoom l D cy y ) rfl ms_X3_isRoom ini_X3 mc_X3_isRoom dX1_addLine_8 rfl rfl rfl rfl rfl ⟨Nat.zero_le _, Nat.zero_le _⟩ ?_
    refine g_bif_eq (pc := 11) (tgt := 28) X dX1_addLine_11 (by decide) (fun c11 => ?_) (fun c11 => ?_)
    · refine g_iconst (v := 0) (pc := 28) X dX1_addLine_28 (by decide) ?_
      exact g_iret (pc := 29) X rfl dX1_addLine_29 rfl (bI_f (by first | (simp [alB, c4]; done) | (simp [alB, c11]; done) | (simp [alB, c4]; done) | (simp [alB, n25]; done))) (congrArg (fun q => [wH cy ad q]) (if_K (by first | (simp [alB, c4]; done) | (simp [alB, c11]; done) | (simp [alB, c4]; done) | (simp [alB, n25]; done))))
    · have ry := c11
      obtain ⟨j, hj, rfl⟩ := isRm_t c11
      refine g_iload_n (pc := 14) X dX1_addLine_14 1 rfl ?_
      refine g_iload_n (pc := 15) X dX1_addLine_15 2 rfl ?_
      refine g_ncmp_eq (pc := 16) (tgt := 28) X dX1_addLine_16 (by decide) i j rfl rfl (by omega) (by omega) (fun c16 => ?_) (fun c16 => ?_)
      · subst c16
        refine g_iconst (v := 0) (pc := 28) X dX1_addLine_28 (by decide) ?_
        exact g_iret (pc := 29) X rfl dX1_addLine_29 rfl (bI_f (by first | (simp [alB, c4]; done) | (simp [alB, c11]; done) | (simp [alB, c4]; done) | (simp [alB, n25]; done))) (congrArg (fun q => [wH cy ad q]) (if_K (by first | (simp [alB, c4]; done) | (simp [alB, c11]; done) | (simp [alB, c4]; done) | (simp [alB, n25]; done))))
      · refine g_aload_n (pc := 19) X dX1_addLine_19 0 rfl ?_
        refine g_get (pc := 20) X (v := .int (nI (kNl k))) fl_X1_9 dX1_addLine_20 0 0 rfl rfl rfl ?_
        refine g_bipush (v := 10) (pc := 23) X dX1_addLine_23 (by decide) ?_
        refine g_ncmp_lt (pc := 25) (tgt := 30) X dX1_addLine_25 (by decide) (kNl k) 10 rfl rfl (by omega) (by decide) (fun c25 => ?_) (fun c25 => ?_)
        · refine g_aload_n (pc := 30) X dX1_addLine_30 0 rfl ?_
          refine g_get (pc := 31) X (v := .ref (ad 3)) fl_X1_25 dX1_addLine_31 0 0 rfl rfl rfl ?_
          refine g_iload_n (pc := 34) X dX1_addLine_34 1 rfl ?_
          refine g_iald_n (pc := 35) (f := joK k) X 0 3 dX1_addLine_35 i rfl rfl rfl (by omega) rfl ?_
          refine g_iload_n (pc := 36) X dX1_addLine_36 2 rfl ?_
          refine g_ishr (v := shr ((joK k) i) (nI j)) (pc := 37) X dX1_addLine_37 rfl ?_
          refine g_iconst (v := 1) (pc := 38) X dX1_addLine_38 (by decide) ?_
          refine g_iand (v := (shr ((joK k) i) (nI j)) &&& 1) (pc := 39) X dX1_addLine_39 rfl ?_
          refine g_if_eq (pc := 40) (tgt := 45) X dX1_addLine_40 (by decide) (fun c40 => ?_) (fun c40 => ?_)
          · have hB : alB k (nI i) (nI j) = true := by
              have e : ix (nI i) = i := ixn (by omega)
              simp only [alB, rx, ry, e, Bool.true_and]
              simp only [decide_eq_true (show nI i ≠ nI j from fun h => c16 ((nI_eq (by omega) (by omega)).mp h)), decide_eq_true c25, decide_eq_true c40, Bool.true_and]
            refine g_aload_n (pc := 45) X dX1_addLine_45 0 rfl ?_
            refine g_get (pc := 46) X (v := .ref (ad 1)) fl_X1_15 dX1_addLine_46 0 0 rfl rfl rfl ?_
            refine g_aload_n (pc := 49) X dX1_addLine_49 0 rfl ?_
            refine g_get (pc := 50) X (v := .int (nI (kNl k))) fl_X1_9 dX1_addLine_50 0 0 rfl rfl rfl ?_
            refine g_iload_n (pc := 53) X dX1_addLine_53 1 rfl ?_
            refine g_iload_n (pc := 54) X dX1_addLine_54 2 rfl ?_
            refine g_mmin (pc := 55) (v := nI (min i j)) X ml_X1_69 m_min_s ini_Math m_min_c dX1_addLine_55 rfl rfl ⟨Nat.zero_le _, Nat.zero_le _⟩ (mmin_n i j (by omega) (by omega)) ?_
            refine g_iast_n (pc := 58) X (ss' := [wHR cy ad (sOn k (upd (kOn k) (kNl k) (nI (min i j)))) (joK k) (opK k)]) 0 1 dX1_addLine_58 (kNl k) rfl rfl rfl (by omega) rfl rfl ?_
            refine g_aload_n (pc := 59) X dX1_addLine_59 0 rfl ?_
            refine g_get (pc := 60) X (v := .ref (ad 2)) fl_X1_19 dX1_addLine_60 0 0 rfl rfl rfl ?_
            refine g_aload_n (pc := 63) X dX1_addLine_63 0 rfl ?_
            refine g_get (pc := 64) X (v := .int (nI (kNl k))) fl_X1_9 dX1_addLine_64 0 0 rfl rfl rfl ?_
            refine g_iload_n (pc := 67) X dX1_addLine_67 1 rfl ?_
            refine g_iload_n (pc := 68) X dX1_addLine_68 2 rfl ?_
            refine g_mmax (pc := 69) (v := nI (max i j)) X ml_X1_75 m_max_s ini_Math m_max_c dX1_addLine_69 rfl rfl ⟨Nat.zero_le _, Nat.zero_le _⟩ (mmax_n i j (by omega) (by omega)) ?_
            refine g_iast_n (pc := 72) X (ss' := [wHR cy ad (sTw (sOn k (upd (kOn k) (kNl k) (nI (min i j)))) (upd (kTw k) (kNl k) (nI (max i j)))) (joK k) (opK k)]) 0 2 dX1_addLine_72 (kNl k) rfl rfl rfl (by omega) rfl rfl ?_
            refine g_aload_n (pc := 73) X dX1_addLine_73 0 rfl ?_
            refine g_dup (pc := 74) X dX1_addLine_74 rfl ?_
            refine g_get (pc := 75) X (v := .int (nI (kNl k))) fl_X1_9 dX1_addLine_75 0 0 rfl rfl rfl ?_
            refine g_iconst (v := 1) (pc := 78) X dX1_addLine_78 (by decide) ?_
            refine g_iadd (v := nI (kNl k + 1)) (pc := 79) X dX1_addLine_79 (nI_add (kNl k) 1) ?_
            refine g_put (pc := 80) X (ss' := [wHR cy ad (sTw (sOn (sNl k (kNl k + 1)) (upd (kOn k) (kNl k) (nI (min i j)))) (upd (kTw k) (kNl k) (nI (max i j)))) (joK k) (opK k)]) fp_X1_9 dX1_addLine_80 0 0 rfl rfl rfl rfl rfl rfl ?_
            refine g_aload_n (pc := 83) X dX1_addLine_83 0 rfl ?_
            refine g_get (pc := 84) X (v := .ref (ad 3)) fl_X1_25 dX1_addLine_84 0 0 rfl rfl rfl ?_
            refine g_iload_n (pc := 87) X dX1_addLine_87 1 rfl ?_
            refine g_dup2 (pc := 88) X dX1_addLine_88 rfl rfl ?_
            refine g_iald_n (pc := 89) (f := joK k) X 0 3 dX1_addLine_89 i rfl rfl rfl (by omega) rfl ?_
            refine g_iconst (v := 1) (pc := 90) X dX1_addLine_90 (by decide) ?_
            refine g_iload_n (pc := 91) X dX1_addLine_91 2 rfl ?_
            refine g_ishl (v := shl 1 (nI j)) (pc := 92) X dX1_addLine_92 rfl ?_
            refine g_ior (v := ((joK k) i) ||| (shl 1 (nI j))) (pc := 93) X dX1_addLine_93 rfl ?_
            refine g_iast_n (pc := 94) X (ss' := [wHR cy ad (sTw (sOn (sNl k (kNl k + 1)) (upd (kOn k) (kNl k) (nI (min i j)))) (upd (kTw k) (kNl k) (nI (max i j)))) (upd (joK k) i (((joK k) i) ||| (shl 1 (nI j)))) (opK k)]) 0 3 dX1_addLine_94 i rfl rfl rfl (by omega) rfl rfl ?_
            refine g_aload_n (pc := 95) X dX1_addLine_95 0 rfl ?_
            refine g_get (pc := 96) X (v := .ref (ad 3)) fl_X1_25 dX1_addLine_96 0 0 rfl rfl rfl ?_
            refine g_iload_n (pc := 99) X dX1_addLine_99 2 rfl ?_
            refine g_dup2 (pc := 100) X dX1_addLine_100 rfl rfl ?_
            refine g_iald_n (pc := 101) (f := upd (joK k) i (((joK k) i) ||| (shl 1 (nI j)))) X 0 3 dX1_addLine_101 j rfl rfl rfl (by omega) rfl ?_
            refine g_iconst (v := 1) (pc := 102) X dX1_addLine_102 (by decide) ?_
            refine g_iload_n (pc := 103) X dX1_addLine_103 1 rfl ?_
            refine g_ishl (v := shl 1 (nI i)) (pc := 104) X dX1_addLine_104 rfl ?_
            refine g_ior (v := ((upd (joK k) i (((joK k) i) ||| (shl 1 (nI j)))) j) ||| (shl 1 (nI i))) (pc := 105) X dX1_addLine_105 rfl ?_
            refine g_iast_n (pc := 106) X (ss' := [wHR cy ad (sTw (sOn (sNl k (kNl k + 1)) (upd (kOn k) (kNl k) (nI (min i j)))) (upd (kTw k) (kNl k) (nI (max i j)))) (upd (upd (joK k) i (((joK k) i) ||| (shl 1 (nI j)))) j (((upd (joK k) i (((joK k) i) ||| (shl 1 (nI j)))) j) ||| (shl 1 (nI i)))) (opK k)]) 0 3 dX1_addLine_106 j rfl rfl rfl (by omega) rfl rfl ?_
            refine g_aload_n (pc := 107) X dX1_addLine_107 0 rfl ?_
            refine g_get (pc := 108) X (v := .ref (ad 4)) fl_X1_28 dX1_addLine_108 0 0 rfl rfl rfl ?_
            refine g_iload_n (pc := 111) X dX1_addLine_111 1 rfl ?_
            refine g_dup2 (pc := 112) X dX1_addLine_112 rfl rfl ?_
            refine g_iald_n (pc := 113) (f := opK k) X 0 4 dX1_addLine_113 i rfl rfl rfl (by omega) rfl ?_
            refine g_iconst (v := 1) (pc := 114) X dX1_addLine_114 (by decide) ?_
            refine g_iload_n (pc := 115) X dX1_addLine_115 2 rfl ?_
            refine g_ishl (v := shl 1 (nI j)) (pc := 116) X dX1_addLine_116 rfl ?_
            refine g_ior (v := ((opK k) i) ||| (shl 1 (nI j))) (pc := 117) X dX1_addLine_117 rfl ?_
            refine g_iast_n (pc := 118) X (ss' := [wHR cy ad (sTw (sOn (sNl k (kNl k + 1)) (upd (kOn k) (kNl k) (nI (min i j)))) (upd (kTw k) (kNl k) (nI (max i j)))) (upd (upd (joK k) i (((joK k) i) ||| (shl 1 (nI j)))) j (((upd (joK k) i (((joK k) i) ||| (shl 1 (nI j)))) j) ||| (shl 1 (nI i)))) (upd (opK k) i (((opK k) i) ||| (shl 1 (nI j))))]) 0 4 dX1_addLine_118 i rfl rfl rfl (by omega) rfl rfl ?_
            refine g_aload_n (pc := 119) X dX1_addLine_119 0 rfl ?_
            refine g_get (pc := 120) X (v := .ref (ad 4)) fl_X1_28 dX1_addLine_120 0 0 rfl rfl rfl ?_
            refine g_iload_n (pc := 123) X dX1_addLine_123 2 rfl ?_
            refine g_dup2 (pc := 124) X dX1_addLine_124 rfl rfl ?_
            refine g_iald_n (pc := 125) (f := upd (opK k) i (((opK k) i) ||| (shl 1 (nI j)))) X 0 4 dX1_addLine_125 j rfl rfl rfl (by omega) rfl ?_
            refine g_iconst (v := 1) (pc := 126) X dX1_addLine_126 (by decide) ?_
            refine g_iload_n (pc := 127) X dX1_addLine_127 1 rfl ?_
            refine g_ishl (v := shl 1 (nI i)) (pc := 128) X dX1_addLine_128 rfl ?_
            refine g_ior (v := ((upd (opK k) i (((opK k) i) ||| (shl 1 (nI j)))) j) ||| (shl 1 (nI i))) (pc := 129) X dX1_addLine_129 rfl ?_
            refine g_iast_n (pc := 130) X (ss' := [wHR cy ad (sTw (sOn (sNl k (kNl k + 1)) (upd (kOn k) (kNl k) (nI (min i j)))) (upd (kTw k) (kNl k) (nI (max i j)))) (upd (upd (joK k) i (((joK k) i) ||| (shl 1 (nI j)))) j (((upd (joK k) i (((joK k) i) ||| (shl 1 (nI j)))) j) ||| (shl 1 (nI i)))) (upd (upd (opK k) i (((opK k) i) ||| (shl 1 (nI j)))) j (((upd (opK k) i (((opK k) i) ||| (shl 1 (nI j)))) j) ||| (shl 1 (nI i))))]) 0 4 dX1_addLine_130 j rfl rfl rfl (by omega) rfl rfl ?_
            refine g_swap X (ss' := [wHR cy ad _ (joK (alF k (nI i) (nI j))) _]) (g := joK (alF k (nI i) (nI j))) 0 3 rfl rfl (al_arr true 0 hi hj c16 rfl) rfl ?_
            refine g_swap X (ss' := [wHR cy ad _ _ (opK (alF k (nI i) (nI j)))]) (g := opK (alF k (nI i) (nI j))) 0 4 rfl rfl (al_arr false (kHd k) hi hj c16 (hh c25)) rfl ?_
            refine g_iconst (v := 1) (pc := 131) X dX1_addLine_131 (by decide) ?_
            exact g_iret (pc := 132) X rfl dX1_addLine_132 rfl (bI_t hB) (by rw [alK, if_pos hB, alF, show mnI (nI i) (nI j) = nI (min i j) from mmin_n i j (by omega) (by omega), show mxI (nI i) (nI j) = nI (max i j) from mmax_n i j (by omega) (by omega)] <;> rfl)
          · have hF : alB k (nI i) (nI j) = false := by
              have e : ix (nI i) = i := ixn (by omega)
              simp only [alB, e, decide_eq_false c40, Bool.and_false]
            refine g_iconst (v := 0) (pc := 43) X dX1_addLine_43 (by decide) ?_
            exact g_iret (pc := 44) X rfl dX1_addLine_44 rfl (bI_f hF) (congrArg (fun q => [wH cy ad q]) (if_K hF))
        · have n25 := Nat.not_lt.mpr c25
          have n25 : ¬ kNl k < 10 := Nat.not_lt.mpr c25
          refine g_iconst (v := 0) (pc := 28) X dX1_addLine_28 (by decide) ?_
          exact g_iret (pc := 29) X rfl dX1_addLine_29 rfl (bI_f (by first | (simp [alB, c4]; done) | (simp [alB, c11]; done) | (simp [alB, c4]; done) | (simp [alB, n25]; done))) (congrArg (fun q => [wH cy ad q]) (if_K (by first | (simp [alB, c4]; done) | (simp [alB, c11]; done) | (simp [alB, c4]; done) | (simp [alB, n25]; done))))
set_option maxRecDepth 100000 in
set_option maxHeartbeats 4000000 in
theorem c_X1_addThing (l : Launch) (D : va_G) (cy : ClassId) (ad : Nat → Nat) (k : KV) (x : Int32) (y : Int32) (h8 : kNt k ≤ 8) : CtI l yX1_addThing cX1_addThing 3 .boolean 1 84 D cy [.ref (ad 0), .int (x), .int (y)] [wH cy ad k] [wH cy ad (atK k x y)] (bI (atB k y)) := by
  refine ctI_of (by decide +kernel) (Nat.le_of_ble_eq_true rfl) (fun p_ e_ s_ m_ args_ below_ meth_ c_ A_ X => ?_)
  refine g_lv X (lv' := [(0, .ref (ad 0)), (1, .int (x)), (2, .int (y))]) [0, 1, 2] rfl ?_
  refine g_iload_n (pc := 0) X dX1_addThing_0 2 rfl ?_
  refine g_callSN (pc := 1) (rest := []) X (c_X3_isRoom l D cy y ) rfl ms_X3_isRoom ini_X3 mc_X3_isRoom dX1_addThing_1 rfl rfl rfl rfl rfl ⟨Nat.zero_le _, Nat.zero_le _⟩ ?_
  refine g_bif_eq (pc := 4) (tgt := 16) X dX1_addThing_4 (by decide) (fun c4 => ?_) (fun c4 => ?_)
  · refine g_iconst (v := 0) (pc := 16) X dX1_addThing_16 (by decide) ?_
    exact g_iret (pc := 17) X rfl dX1_addThing_17 rfl (bI_f (by first | (simp [atB, c4]; done) | (simp [atB, n13]; done))) (congrArg (fun q => [wH cy ad q]) (if_K (by first | (simp [atB, c4]; done) | (simp [atB, n13]; done))))
  · refine g_aload_n (pc := 7) X dX1_addThing_7 0 rfl ?_
    refine g_get (pc := 8) X (v := .int (nI (kNt k))) fl_X1_31 dX1_addThing_8 0 0 rfl rfl rfl ?_
    refine g_bipush (v := 8) (pc := 11) X dX1_addThing_11 (by decide) ?_
    refine g_ncmp_lt (pc := 13) (tgt := 18) X dX1_addThing_13 (by decide) (kNt k) 8 rfl rfl (by omega) (by decide) (fun c13 => ?_) (fun c13 => ?_)
    · have hB : atB k y = true := by rw [atB, c4, decide_eq_true c13]; rfl
      refine g_aload_n (pc := 18) X dX1_addThing_18 0 rfl ?_
      refine g_get (pc := 19) X (v := .ref (ad 5)) fl_X1_34 dX1_addThing_19 0 0 rfl rfl rfl ?_
      refine g_aload_n (pc := 22) X dX1_addThing_22 0 rfl ?_
      refine g_get (pc := 23) X (v := .int (nI (kNt k))) fl_X1_31 dX1_addThing_23 0 0 rfl rfl rfl ?_
      refine g_iload_n (pc := 26) X dX1_addThing_26 1 rfl ?_
      refine g_iast_n (pc := 27) X (ss' := [wH cy ad (sKi k (upd (kKi k) (kNt k) x))]) 0 5 dX1_addThing_27 (kNt k) rfl rfl rfl (by omega) rfl rfl ?_
      refine g_aload_n (pc := 28) X dX1_addThing_28 0 rfl ?_
      refine g_get (pc := 29) X (v := .ref (ad 6)) fl_X1_37 dX1_addThing_29 0 0 rfl rfl rfl ?_
      refine g_aload_n (pc := 32) X dX1_addThing_32 0 rfl ?_
      refine g_get (pc := 33) X (v := .int (nI (kNt k))) fl_X1_31 dX1_addThing_33 0 0 rfl rfl rfl ?_
      refine g_iload_n (pc := 36) X dX1_addThing_36 2 rfl ?_
      refine g_iast_n (pc := 37) X (ss' := [wH cy ad (sRo (sKi k (upd (kKi k) (kNt k) x)) (upd (kRo k) (kNt k) y))]) 0 6 dX1_addThing_37 (kNt k) rfl rfl rfl (by omega) rfl rfl ?_
      refine g_aload_n (pc := 38) X dX1_addThing_38 0 rfl ?_
      refine g_get (pc := 39) X (v := .ref (ad 7)) fl_X1_40 dX1_addThing_39 0 0 rfl rfl rfl ?_
      refine g_aload_n (pc := 42) X dX1_addThing_42 0 rfl ?_
      refine g_get (pc := 43) X (v := .int (nI (kNt k))) fl_X1_31 dX1_addThing_43 0 0 rfl rfl rfl ?_
      refine g_bipush (v := (-9)) (pc := 46) X dX1_addThing_46 (by decide) ?_
      refine g_iast_n (pc := 48) X (ss' := [wH cy ad (sOt (sRo (sKi k (upd (kKi k) (kNt k) x)) (upd (kRo k) (kNt k) y)) (upd (kOt k) (kNt k) ((-9))))]) 0 7 dX1_addThing_48 (kNt k) rfl rfl rfl (by omega) rfl rfl ?_
      refine g_aload_n (pc := 49) X dX1_addThing_49 0 rfl ?_
      refine g_dup (pc := 50) X dX1_addThing_50 rfl ?_
      refine g_get (pc := 51) X (v := .int (nI (kNt k))) fl_X1_31 dX1_addThing_51 0 0 rfl rfl rfl ?_
      refine g_iconst (v := 1) (pc := 54) X dX1_addThing_54 (by decide) ?_
      refine g_iadd (v := nI (kNt k + 1)) (pc := 55) X dX1_addThing_55 (nI_add (kNt k) 1) ?_
      refine g_put (pc := 56) X (ss' := [wH cy ad (sOt (sRo (sKi (sNt k (kNt k + 1)) (upd (kKi k) (kNt k) x)) (upd (kRo k) (kNt k) y)) (upd (kOt k) (kNt k) ((-9))))]) fp_X1_31 dX1_addThing_56 0 0 rfl rfl rfl rfl rfl rfl ?_
      refine g_iconst (v := 1) (pc := 59) X dX1_addThing_59 (by decide) ?_
      exact g_iret (pc := 60) X rfl dX1_addThing_60 rfl (bI_t hB) (by rw [atK, if_pos hB]; rfl)
    · have n13 := Nat.not_lt.mpr c13
      have n13 : ¬ kNt k < 8 := Nat.not_lt.mpr c13
      refine g_iconst (v := 0) (pc := 16) X dX1_addThing_16 (by decide) ?_
      exact g_iret (pc := 17) X rfl dX1_addThing_17 rfl (bI_f (by first | (simp [atB, c4]; done) | (simp [atB, n13]; done))) (congrArg (fun q => [wH cy ad q]) (if_K (by first | (simp [atB, c4]; done) | (simp [atB, n13]; done))))
set_option maxRecDepth 100000 in
set_option maxHeartbeats 4000000 in
theorem c_X1_hang (l : Launch) (D : va_G) (cy : ClassId) (ad : Nat → Nat) (k : KV) (x : Int32) (hl : HLn k) (ho : HLo k) : CtV l yX1_hang cX1_hang 3 0 64 D cy [.ref (ad 0), .int (x)] [wH cy ad k] [wH cy ad (sHd k x)] := by
  refine ctV_of (by decide +kernel) (Nat.le_of_ble_eq_true rfl) (fun p_ e_ s_ m_ args_ below_ meth_ c_ A_ X => ?_)
  refine g_lv X (lv' := [(0, .ref (ad 0)), (1, .int (x))]) [0, 1] rfl ?_
  refine g_aload_n (pc := 0) X dX1_hang_0 0 rfl ?_
  refine g_iload_n (pc := 1) X dX1_hang_1 1 rfl ?_
  refine g_put (pc := 2) X (ss' := [wHR cy ad (sHd k x) (joK (sHd k x)) (opK k)]) fp_X1_22 dX1_hang_2 0 0 rfl rfl rfl rfl rfl rfl ?_
  refine g_iconst (v := 0) (pc := 5) X dX1_hang_5 (by decide) ?_
  refine g_istore_n (lv' := [(2, .int (0)), (0, .ref (ad 0)), (1, .int (x))]) (pc := 6) X dX1_hang_6 rfl rfl rfl ?_
  have L7_1 : ∀ (fu_ : Nat) (j : Nat) (o : Nat → Int32) (hj : j ≤ 6) (h0 : ∀ r, r < j → o r = 0) (hm : 6 - j < fu_), G p_ l e_ { frames := 0, cells := 0, slots := 0, locals := 64 } s_ m_ args_ below_ meth_ c_ 3 D A_ 0 0 (QV below_ args_ s_ D A_ [wH cy ad (sHd k x)]) [wHR cy ad (sHd k x) (joK k) o] 7 [(0, .ref (ad 0)), (1, .int (x)), (2, .int (nI j))] [] := by
    intro fu_
    induction fu_ with
    | zero => intro j o hj h0 hm; exact absurd hm (Nat.not_lt_zero _)
    | succ fu_ ih =>
      intro j o hj h0 hm
      have ih7 := ih
      clear ih
      refine g_iload_n (pc := 7) X dX1_hang_7 2 rfl ?_
      refine g_bipush (v := 6) (pc := 8) X dX1_hang_8 (by decide) ?_
      refine g_ncmp_ge (pc := 10) (tgt := 26) X dX1_hang_10 (by decide) j 6 rfl rfl (by omega) (by decide) (fun c10 => ?_) (fun c10 => ?_)
      · have n10 := Nat.not_lt.mpr c10
        refine g_iconst (v := 0) (pc := 26) X dX1_hang_26 (by decide) ?_
        refine g_istore_n (lv' := [(2, .int (0)), (0, .ref (ad 0)), (1, .int (x))]) (pc := 27) X dX1_hang_27 rfl rfl rfl ?_
        have L28_2 : ∀ (fu_ : Nat) (i : Nat) (o2 : Nat → Int32) (hi : i ≤ kNl k) (hq : ∀ r, r < 6 → o2 r = bsN (kOn k) (kTw k) x false (nI r) i) (hm : kNl k - i < fu_), G p_ l e_ { frames := 0, cells := 0, slots := 0, locals := 64 } s_ m_ args_ below_ meth_ c_ 3 D A_ 0 0 (QV below_ args_ s_ D A_ [wH cy ad (sHd k x)]) [wHR cy ad (sHd k x) (joK k) o2] 28 [(0, .ref (ad 0)), (1, .int (x)), (2, .int (nI i))] [] := by
          intro fu_
          induction fu_ with
          | zero => intro i o2 hi hq hm; exact absurd hm (Nat.not_lt_zero _)
          | succ fu_ ih =>
            intro i o2 hi hq hm
            have ih28 := ih
            clear ih
            refine g_iload_n (pc := 28) X dX1_hang_28 2 rfl ?_
            refine g_aload_n (pc := 29) X dX1_hang_29 0 rfl ?_
            refine g_get (pc := 30) X (v := .int (nI (kNl k))) fl_X1_9 dX1_hang_30 0 0 rfl rfl rfl ?_
            refine g_ncmp_ge (pc := 33) (tgt := 94) X dX1_hang_33 (by decide) i (kNl k) rfl rfl (by have := hl.1; omega) (by have := hl.1; omega) (fun c33 => ?_) (fun c33 => ?_)
            · have n33 := Nat.not_lt.mpr c33
              have hi2 : i = kNl k := by omega
              rw [hi2] at hq
              refine g_swap X (ss' := [wH cy ad (sHd k x)]) (g := opK (sHd k x)) 0 4 rfl rfl hq rfl ?_
              exact g_vret (pc := 94) X rfl dX1_hang_94 rfl
            · refine g_iload_n (pc := 36) X dX1_hang_36 1 rfl ?_
              refine g_iload_n (pc := 37) X dX1_hang_37 2 rfl ?_
              refine g_ishr (v := shr x (nI i)) (pc := 38) X dX1_hang_38 rfl ?_
              refine g_iconst (v := 1) (pc := 39) X dX1_hang_39 (by decide) ?_
              refine g_iand (v := (shr x (nI i)) &&& 1) (pc := 40) X dX1_hang_40 rfl ?_
              refine g_if_ne (pc := 41) (tgt := 88) X dX1_hang_41 (by decide) (fun c41 => ?_) (fun c41 => ?_)
              · have hb : (!false && btI x (nI i)) = true := by rw [btI_t.mpr c41]; rfl
                have h88 : ∀ r, r < 6 → o2 r = bsN (kOn k) (kTw k) x false (nI r) (i + 1) := fun r h => by rw [bs_skip hb]; exact hq r h
                refine g_iinc (v := nI (i + 1)) (lv' := [(2, .int (nI (i + 1))), (0, .ref (ad 0)), (1, .int (x))]) (pc := 88) X dX1_hang_88 2 rfl (nI_1 i) rfl rfl ?_
                refine g_goto (pc := 91) (tgt := 28) X dX1_hang_91 (by decide) ?_
                refine g_lv X (lv' := [(0, .ref (ad 0)), (1, .int (x)), (2, .int (nI (i + 1)))]) [1, 2, 0] rfl ?_
                exact ih28 (i + 1) o2 c33 h88 (by omega)
              · have hb : (!false && btI x (nI i)) = false := by rw [btI_f.mpr c41]; rfl
                have h88 := bs_put (hl.2 i c33).1 (hl.2 i c33).2 hb hq (fun h => absurd (ho i c33) (by rw [h]; exact fun q => Int32.lt_irrefl q))
                refine g_aload_n (pc := 44) X dX1_hang_44 0 rfl ?_
                refine g_get (pc := 45) X (v := .ref (ad 4)) fl_X1_28 dX1_hang_45 0 0 rfl rfl rfl ?_
                refine g_aload_n (pc := 48) X dX1_hang_48 0 rfl ?_
                refine g_get (pc := 49) X (v := .ref (ad 1)) fl_X1_15 dX1_hang_49 0 0 rfl rfl rfl ?_
                refine g_iload_n (pc := 52) X dX1_hang_52 2 rfl ?_
                refine g_iald_n (pc := 53) (f := kOn k) X 0 1 dX1_hang_53 i rfl rfl rfl (by have := hl.1; omega) rfl ?_
                refine g_dup2 (pc := 54) X dX1_hang_54 rfl rfl ?_
                refine g_iald (pc := 55) (f := o2) X 0 4 dX1_hang_55 rfl rfl ((hl.2 i c33).1) ?_
                refine g_iconst (v := 1) (pc := 56) X dX1_hang_56 (by decide) ?_
                refine g_aload_n (pc := 57) X dX1_hang_57 0 rfl ?_
                refine g_get (pc := 58) X (v := .ref (ad 2)) fl_X1_19 dX1_hang_58 0 0 rfl rfl rfl ?_
                refine g_iload_n (pc := 61) X dX1_hang_61 2 rfl ?_
                refine g_iald_n (pc := 62) (f := kTw k) X 0 2 dX1_hang_62 i rfl rfl rfl (by have := hl.1; omega) rfl ?_
                refine g_ishl (v := shl 1 ((kTw k) i)) (pc := 63) X dX1_hang_63 rfl ?_
                refine g_ior (v := (o2 (ix ((kOn k) i))) ||| (shl 1 ((kTw k) i))) (pc := 64) X dX1_hang_64 rfl ?_
                refine g_iast (pc := 65) X (ss' := [wHR cy ad (sHd k x) (joK k) (upd o2 (ix ((kOn k) i)) ((o2 (ix ((kOn k) i))) ||| (shl 1 ((kTw k) i))))]) 0 4 dX1_hang_65 rfl rfl ((hl.2 i c33).1) rfl ?_
                refine g_aload_n (pc := 66) X dX1_hang_66 0 rfl ?_
                refine g_get (pc := 67) X (v := .ref (ad 4)) fl_X1_28 dX1_hang_67 0 0 rfl rfl rfl ?_
                refine g_aload_n (pc := 70) X dX1_hang_70 0 rfl ?_
                refine g_get (pc := 71) X (v := .ref (ad 2)) fl_X1_19 dX1_hang_71 0 0 rfl rfl rfl ?_
                refine g_iload_n (pc := 74) X dX1_hang_74 2 rfl ?_
                refine g_iald_n (pc := 75) (f := kTw k) X 0 2 dX1_hang_75 i rfl rfl rfl (by have := hl.1; omega) rfl ?_
                refine g_dup2 (pc := 76) X dX1_hang_76 rfl rfl ?_
                refine g_iald (pc := 77) (f := upd o2 (ix ((kOn k) i)) ((o2 (ix ((kOn k) i))) ||| (shl 1 ((kTw k) i)))) X 0 4 dX1_hang_77 rfl rfl ((hl.2 i c33).2) ?_
                refine g_iconst (v := 1) (pc := 78) X dX1_hang_78 (by decide) ?_
                refine g_aload_n (pc := 79) X dX1_hang_79 0 rfl ?_
                refine g_get (pc := 80) X (v := .ref (ad 1)) fl_X1_15 dX1_hang_80 0 0 rfl rfl rfl ?_
                refine g_iload_n (pc := 83) X dX1_hang_83 2 rfl ?_
                refine g_iald_n (pc := 84) (f := kOn k) X 0 1 dX1_hang_84 i rfl rfl rfl (by have := hl.1; omega) rfl ?_
                refine g_ishl (v := shl 1 ((kOn k) i)) (pc := 85) X dX1_hang_85 rfl ?_
                refine g_ior (v := ((upd o2 (ix ((kOn k) i)) ((o2 (ix ((kOn k) i))) ||| (shl 1 ((kTw k) i)))) (ix ((kTw k) i))) ||| (shl 1 ((kOn k) i))) (pc := 86) X dX1_hang_86 rfl ?_
                refine g_iast (pc := 87) X (ss' := [wHR cy ad (sHd k x) (joK k) (upd (upd o2 (ix ((kOn k) i)) ((o2 (ix ((kOn k) i))) ||| (shl 1 ((kTw k) i)))) (ix ((kTw k) i)) (((upd o2 (ix ((kOn k) i)) ((o2 (ix ((kOn k) i))) ||| (shl 1 ((kTw k) i)))) (ix ((kTw k) i))) ||| (shl 1 ((kOn k) i))))]) 0 4 dX1_hang_87 rfl rfl ((hl.2 i c33).2) rfl ?_
                refine g_iinc (v := nI (i + 1)) (lv' := [(2, .int (nI (i + 1))), (0, .ref (ad 0)), (1, .int (x))]) (pc := 88) X dX1_hang_88 2 rfl (nI_1 i) rfl rfl ?_
                refine g_goto (pc := 91) (tgt := 28) X dX1_hang_91 (by decide) ?_
                refine g_lv X (lv' := [(0, .ref (ad 0)), (1, .int (x)), (2, .int (nI (i + 1)))]) [1, 2, 0] rfl ?_
                exact ih28 (i + 1) (upd (upd o2 (ix ((kOn k) i)) ((o2 (ix ((kOn k) i))) ||| (shl 1 ((kTw k) i)))) (ix ((kTw k) i)) (((upd o2 (ix ((kOn k) i)) ((o2 (ix ((kOn k) i))) ||| (shl 1 ((kTw k) i)))) (ix ((kTw k) i))) ||| (shl 1 ((kOn k) i)))) c33 h88 (by omega)
        refine g_lv X (lv' := [(0, .ref (ad 0)), (1, .int (x)), (2, .int (0))]) [1, 2, 0] rfl ?_
        exact L28_2 (kNl k - 0 + 1) 0 o (Nat.zero_le _) (fun r h => h0 r (by omega)) (Nat.lt_succ_self _)
      · refine g_aload_n (pc := 13) X dX1_hang_13 0 rfl ?_
        refine g_get (pc := 14) X (v := .ref (ad 4)) fl_X1_28 dX1_hang_14 0 0 rfl rfl rfl ?_
        refine g_iload_n (pc := 17) X dX1_hang_17 2 rfl ?_
        refine g_iconst (v := 0) (pc := 18) X dX1_hang_18 (by decide) ?_
        refine g_iast_n (pc := 19) X (ss' := [wHR cy ad (sHd k x) (joK k) (upd o j 0)]) 0 4 dX1_hang_19 j rfl rfl rfl (by omega) rfl rfl ?_
        refine g_iinc (v := nI (j + 1)) (lv' := [(2, .int (nI (j + 1))), (0, .ref (ad 0)), (1, .int (x))]) (pc := 20) X dX1_hang_20 2 rfl (nI_1 j) rfl rfl ?_
        refine g_goto (pc := 23) (tgt := 7) X dX1_hang_23 (by decide) ?_
        refine g_lv X (lv' := [(0, .ref (ad 0)), (1, .int (x)), (2, .int (nI (j + 1)))]) [1, 2, 0] rfl ?_
        exact ih7 (j + 1) (upd o j 0) c10 (fun r h => by by_cases e : r = j; (rw [e]; exact upd_s _ _ _); (rw [upd_n e]; exact h0 r (by omega))) (by omega)
  refine g_lv X (lv' := [(0, .ref (ad 0)), (1, .int (x)), (2, .int (0))]) [1, 2, 0] rfl ?_
  exact L7_1 (6 - 0 + 1) 0 (opK k) (Nat.zero_le _) (fun r h => absurd h (Nat.not_lt_zero r)) (Nat.lt_succ_self _)
set_option maxRecDepth 100000 in
set_option maxHeartbeats 4000000 in
theorem c_X1_toggle (l : Launch) (D : va_G) (cy : ClassId) (ad : Nat → Nat) (k : KV) (x : Int32) (hl : HLn k) (ho : HLo k) : CtI l yX1_toggle cX1_toggle 2 .boolean 1 86 D cy [.ref (ad 0), .int (x)] [wH cy ad k] [wH cy ad (tgK k x)] (bI (hasL k x)) := by
  refine ctI_of (by decide +kernel) (Nat.le_of_ble_eq_true rfl) (fun p_ e_ s_ m_ args_ below_ meth_ c_ A_ X => ?_)
  refine g_lv X (lv' := [(0, .ref (ad 0)), (1, .int (x))]) [0, 1] rfl ?_
  refine g_aload_n (pc := 0) X dX1_toggle_0 0 rfl ?_
  refine g_iload_n (pc := 1) X dX1_toggle_1 1 rfl ?_
  refine g_callV (pc := 2) (rest := []) (ss' := [wH cy ad k]) X (c_X1_hasLine l D cy ad k x ) vl_X1_105 dX1_toggle_2 [0] 0 0 rfl rfl rfl rfl rfl rfl rfl rfl rfl rfl rfl rfl rfl ⟨Nat.zero_le _, Nat.zero_le _⟩ ?_
  refine g_bif_ne (pc := 5) (tgt := 10) X dX1_toggle_5 (by decide) (fun c5 => ?_) (fun c5 => ?_)
  · refine g_aload_n (pc := 10) X dX1_toggle_10 0 rfl ?_
    refine g_aload_n (pc := 11) X dX1_toggle_11 0 rfl ?_
    refine g_get (pc := 12) X (v := .int (kHd k)) fl_X1_22 dX1_toggle_12 0 0 rfl rfl rfl ?_
    refine g_iconst (v := 1) (pc := 15) X dX1_toggle_15 (by decide) ?_
    refine g_iload_n (pc := 16) X dX1_toggle_16 1 rfl ?_
    refine g_ishl (v := shl 1 x) (pc := 17) X dX1_toggle_17 rfl ?_
    refine g_ixor (v := (kHd k) ^^^ (shl 1 x)) (pc := 18) X dX1_toggle_18 rfl ?_
    refine g_callVv (pc := 19) (rest := []) (ss' := [wH cy ad (sHd k (((kHd k) ^^^ (shl 1 x))))]) X (c_X1_hang l D cy ad k ((kHd k) ^^^ (shl 1 x)) (by first | assumption | omega) (by first | assumption | omega)) vl_X1_108 dX1_toggle_19 [0] 0 0 rfl rfl rfl rfl rfl rfl (ads_c (ads_H _ _ _ _ _ _ _ _) rfl) rfl rfl rfl rfl rfl rfl ⟨Nat.zero_le _, Nat.zero_le _⟩ ?_
    refine g_iconst (v := 1) (pc := 22) X dX1_toggle_22 (by decide) ?_
    exact g_iret (pc := 23) X rfl dX1_toggle_23 rfl (bI_t c5) (by rw [tgK, if_pos c5])
  · refine g_iconst (v := 0) (pc := 8) X dX1_toggle_8 (by decide) ?_
    exact g_iret (pc := 9) X rfl dX1_toggle_9 rfl (bI_f c5) (congrArg (fun q => [wH cy ad q]) (if_K c5))
set_option maxRecDepth 100000 in
set_option maxHeartbeats 4000000 in
theorem c_X1_acquaint (l : Launch) (D : va_G) (cy : ClassId) (ad : Nat → Nat) (k : KV) (x : Int32) (y : Int32) (h8 : kNt k ≤ 8) : CtI l yX1_acquaint cX1_acquaint 3 .boolean 3 130 D cy [.ref (ad 0), .int (x), .int (y)] [wH cy ad k] [wH cy ad (acK k x y)] (bI (acB k x y)) := by
  refine ctI_of (by decide +kernel) (Nat.le_of_ble_eq_true rfl) (fun p_ e_ s_ m_ args_ below_ meth_ c_ A_ X => ?_)
  refine g_lv X (lv' := [(0, .ref (ad 0)), (1, .int (x)), (2, .int (y))]) [0, 1, 2] rfl ?_
  refine g_aload_n (pc := 0) X dX1_acquaint_0 0 rfl ?_
  refine g_iload_n (pc := 1) X dX1_acquaint_1 1 rfl ?_
  refine g_callV (pc := 2) (rest := []) (ss' := [wH cy ad k]) X (c_X1_hasThing l D cy ad k x ) vl_X1_62 dX1_acquaint_2 [0] 0 0 rfl rfl rfl rfl rfl rfl rfl rfl rfl rfl rfl rfl rfl ⟨Nat.zero_le _, Nat.zero_le _⟩ ?_
  refine g_bif_eq (pc := 5) (tgt := 21) X dX1_acquaint_5 (by decide) (fun c5 => ?_) (fun c5 => ?_)
  · refine g_iconst (v := 0) (pc := 21) X dX1_acquaint_21 (by decide) ?_
    exact g_iret (pc := 22) X rfl dX1_acquaint_22 rfl (bI_f (by first | (simp [acB, c5]; done) | (simp [acB, c13]; done) | (simp [acB, c5]; done))) (congrArg (fun q => [wH cy ad q]) (if_K (by first | (simp [acB, c5]; done) | (simp [acB, c13]; done) | (simp [acB, c5]; done))))
  · have rx := c5
    obtain ⟨i, hi, rfl⟩ := hasT_t h8 c5
    refine g_aload_n (pc := 8) X dX1_acquaint_8 0 rfl ?_
    refine g_iload_n (pc := 9) X dX1_acquaint_9 2 rfl ?_
    refine g_callV (pc := 10) (rest := []) (ss' := [wH cy ad k]) X (c_X1_hasThing l D cy ad k y ) vl_X1_62 dX1_acquaint_10 [0] 0 0 rfl rfl rfl rfl rfl rfl rfl rfl rfl rfl rfl rfl rfl ⟨Nat.zero_le _, Nat.zero_le _⟩ ?_
    refine g_bif_eq (pc := 13) (tgt := 21) X dX1_acquaint_13 (by decide) (fun c13 => ?_) (fun c13 => ?_)
    · refine g_iconst (v := 0) (pc := 21) X dX1_acquaint_21 (by decide) ?_
      exact g_iret (pc := 22) X rfl dX1_acquaint_22 rfl (bI_f (by first | (simp [acB, c5]; done) | (simp [acB, c13]; done) | (simp [acB, c5]; done))) (congrArg (fun q => [wH cy ad q]) (if_K (by first | (simp [acB, c5]; done) | (simp [acB, c13]; done) | (simp [acB, c5]; done))))
    · have ry := c13
      obtain ⟨j, hj, rfl⟩ := hasT_t h8 c13
      refine g_iload_n (pc := 16) X dX1_acquaint_16 1 rfl ?_
      refine g_iload_n (pc := 17) X dX1_acquaint_17 2 rfl ?_
      refine g_ncmp_ne (pc := 18) (tgt := 23) X dX1_acquaint_18 (by decide) i j rfl rfl (by omega) (by omega) (fun c18 => ?_) (fun c18 => ?_)
      · have hB : acB k (nI i) (nI j) = true := by simp only [acB, rx, ry, Bool.true_and, decide_eq_true (show nI i ≠ nI j from fun h => c18 ((nI_eq (by omega) (by omega)).mp h))]
        refine g_aload_n (pc := 23) X dX1_acquaint_23 0 rfl ?_
        refine g_iload_n (pc := 24) X dX1_acquaint_24 1 rfl ?_
        refine g_iload_n (pc := 25) X dX1_acquaint_25 2 rfl ?_
        refine g_callV (pc := 26) (rest := []) (ss' := [wH cy ad (cpK k i j)]) X (c_X1_couple l D cy ad k i j (by first | assumption | omega) (by first | assumption | omega) (by first | assumption | omega)) vl_X1_112 dX1_acquaint_26 [0] 0 0 rfl rfl rfl rfl rfl rfl (ads_c (ads_H _ _ _ _ _ _ _ _) rfl) rfl rfl rfl rfl rfl rfl ⟨Nat.zero_le _, Nat.zero_le _⟩ ?_
        generalize hqk26_1 : cpK k i j = k26_1
        refine g_pop (pc := 29) X dX1_acquaint_29 rfl ?_
        refine g_iconst (v := 1) (pc := 30) X dX1_acquaint_30 (by decide) ?_
        subst hqk26_1
        exact g_iret (pc := 31) X rfl dX1_acquaint_31 rfl (bI_t hB) (by rw [acK, if_pos hB, ixn (by omega), ixn (by omega)])
      · subst c18
        refine g_iconst (v := 0) (pc := 21) X dX1_acquaint_21 (by decide) ?_
        exact g_iret (pc := 22) X rfl dX1_acquaint_22 rfl (bI_f (by first | (simp [acB, c5]; done) | (simp [acB, c13]; done) | (simp [acB, c5]; done))) (congrArg (fun q => [wH cy ad q]) (if_K (by first | (simp [acB, c5]; done) | (simp [acB, c13]; done) | (simp [acB, c5]; done))))
set_option maxRecDepth 100000 in
set_option maxHeartbeats 4000000 in
theorem c_X1_bring (l : Launch) (D : va_G) (cy : ClassId) (ad : Nat → Nat) (k : KV) (x : Int32) (y : Int32) (h8 : kNt k ≤ 8) : CtI l yX1_bring cX1_bring 3 .boolean 1 85 D cy [.ref (ad 0), .int (x), .int (y)] [wH cy ad k] [wH cy ad (brK k x y)] (bI (brB k x y)) := by
  refine ctI_of (by decide +kernel) (Nat.le_of_ble_eq_true rfl) (fun p_ e_ s_ m_ args_ below_ meth_ c_ A_ X => ?_)
  refine g_lv X (lv' := [(0, .ref (ad 0)), (1, .int (x)), (2, .int (y))]) [0, 1, 2] rfl ?_
  refine g_aload_n (pc := 0) X dX1_bring_0 0 rfl ?_
  refine g_iload_n (pc := 1) X dX1_bring_1 1 rfl ?_
  refine g_callV (pc := 2) (rest := []) (ss' := [wH cy ad k]) X (c_X1_hasThing l D cy ad k x ) vl_X1_62 dX1_bring_2 [0] 0 0 rfl rfl rfl rfl rfl rfl rfl rfl rfl rfl rfl rfl rfl ⟨Nat.zero_le _, Nat.zero_le _⟩ ?_
  refine g_bif_eq (pc := 5) (tgt := 15) X dX1_bring_5 (by decide) (fun c5 => ?_) (fun c5 => ?_)
  · refine g_iconst (v := 0) (pc := 15) X dX1_bring_15 (by decide) ?_
    exact g_iret (pc := 16) X rfl dX1_bring_16 rfl (bI_f (by first | (simp [brB, c5]; done) | (simp [brB, c12]; done))) (congrArg (fun q => [wH cy ad q]) (if_K (by first | (simp [brB, c5]; done) | (simp [brB, c12]; done))))
  · have rx := c5
    obtain ⟨i, hi, rfl⟩ := hasT_t h8 c5
    refine g_iload_n (pc := 8) X dX1_bring_8 2 rfl ?_
    refine g_callSN (pc := 9) (rest := []) X (c_X3_isRoom l D cy y ) rfl ms_X3_isRoom ini_X3 mc_X3_isRoom dX1_bring_9 rfl rfl rfl rfl rfl ⟨Nat.zero_le _, Nat.zero_le _⟩ ?_
    refine g_bif_ne (pc := 12) (tgt := 17) X dX1_bring_12 (by decide) (fun c12 => ?_) (fun c12 => ?_)
    · have hB : brB k (nI i) y = true := by rw [brB, rx, c12]; rfl
      refine g_aload_n (pc := 17) X dX1_bring_17 0 rfl ?_
      refine g_get (pc := 18) X (v := .ref (ad 6)) fl_X1_37 dX1_bring_18 0 0 rfl rfl rfl ?_
      refine g_iload_n (pc := 21) X dX1_bring_21 1 rfl ?_
      refine g_iload_n (pc := 22) X dX1_bring_22 2 rfl ?_
      refine g_iast_n (pc := 23) X (ss' := [wH cy ad (sRo k (upd (kRo k) i y))]) 0 6 dX1_bring_23 i rfl rfl rfl (by omega) rfl rfl ?_
      refine g_iconst (v := 1) (pc := 24) X dX1_bring_24 (by decide) ?_
      exact g_iret (pc := 25) X rfl dX1_bring_25 rfl (bI_t hB) (by rw [brK, if_pos hB, ixn (by omega)] <;> rfl)
    · refine g_iconst (v := 0) (pc := 15) X dX1_bring_15 (by decide) ?_
      exact g_iret (pc := 16) X rfl dX1_bring_16 rfl (bI_f (by first | (simp [brB, c5]; done) | (simp [brB, c12]; done))) (congrArg (fun q => [wH cy ad q]) (if_K (by first | (simp [brB, c5]; done) | (simp [brB, c12]; done))))
set_option maxRecDepth 100000 in
set_option maxHeartbeats 4000000 in
theorem c_X1_strike (l : Launch) (D : va_G) (cy : ClassId) (ad : Nat → Nat) (k : KV) (x : Int32) : CtI l yX1_strike cX1_strike 2 .boolean 0 64 D cy [.ref (ad 0), .int (x)] [wH cy ad k] [wH cy ad (stK k x)] (bI (stB x)) := by
  refine ctI_of (by decide +kernel) (Nat.le_of_ble_eq_true rfl) (fun p_ e_ s_ m_ args_ below_ meth_ c_ A_ X => ?_)
  refine g_lv X (lv' := [(0, .ref (ad 0)), (1, .int (x))]) [0, 1] rfl ?_
  refine g_iload_n (pc := 0) X dX1_strike_0 1 rfl ?_
  refine g_if_lt (pc := 1) (tgt := 10) X dX1_strike_1 (by decide) (fun c1 => ?_) (fun c1 => ?_)
  · refine g_iconst (v := 0) (pc := 10) X dX1_strike_10 (by decide) ?_
    exact g_iret (pc := 11) X rfl dX1_strike_11 rfl (by first | exact bI_f (decide_eq_false (fun h => absurd h.2 (Int32.not_lt.mpr c7))) | exact bI_f (decide_eq_false (fun h => absurd h.1 (Int32.not_le.mpr c1)))) (congrArg (fun q => [wH cy ad q]) (if_K (by first | exact (decide_eq_false (fun h => absurd h.2 (Int32.not_lt.mpr c7))) | exact (decide_eq_false (fun h => absurd h.1 (Int32.not_le.mpr c1))))))
  · have n1 := Int32.not_lt.mpr c1
    refine g_iload_n (pc := 4) X dX1_strike_4 1 rfl ?_
    refine g_bipush (v := 8) (pc := 5) X dX1_strike_5 (by decide) ?_
    refine g_icmp_lt (pc := 7) (tgt := 12) X dX1_strike_7 (by decide) (fun c7 => ?_) (fun c7 => ?_)
    · have hB : stB x = true := decide_eq_true ⟨c1, c7⟩
      obtain ⟨i, hi, rfl⟩ := in_lt (n := 8) (by omega) c1 c7
      refine g_aload_n (pc := 12) X dX1_strike_12 0 rfl ?_
      refine g_iload_n (pc := 13) X dX1_strike_13 1 rfl ?_
      refine g_put (pc := 14) X (ss' := [wH cy ad (sHr k i)]) fp_X1_43 dX1_strike_14 0 0 rfl rfl rfl rfl rfl rfl ?_
      refine g_iconst (v := 1) (pc := 17) X dX1_strike_17 (by decide) ?_
      exact g_iret (pc := 18) X rfl dX1_strike_18 rfl (bI_t hB) (by rw [stK, if_pos hB, ixn (by omega)] <;> rfl)
    · have n7 := Int32.not_lt.mpr c7
      refine g_iconst (v := 0) (pc := 10) X dX1_strike_10 (by decide) ?_
      exact g_iret (pc := 11) X rfl dX1_strike_11 rfl (by first | exact bI_f (decide_eq_false (fun h => absurd h.2 (Int32.not_lt.mpr c7))) | exact bI_f (decide_eq_false (fun h => absurd h.1 (Int32.not_le.mpr c1)))) (congrArg (fun q => [wH cy ad q]) (if_K (by first | exact (decide_eq_false (fun h => absurd h.2 (Int32.not_lt.mpr c7))) | exact (decide_eq_false (fun h => absurd h.1 (Int32.not_le.mpr c1))))))
set_option maxRecDepth 100000 in
set_option maxHeartbeats 4000000 in
theorem c_X1_seenFrom (l : Launch) (D : va_G) (cy : ClassId) (ad : Nat → Nat) (k : KV) (t : Nat) (h : Nat) (ht : t < kNt k) (h8 : kNt k ≤ 8) (hr : HRo k) (hh : h < 8) : CtI l yX1_seenFrom cX1_seenFrom 5 .int 0 64 D cy [.ref (ad 0), .int (nI t), .int (nI h)] [wH cy ad k] [wH cy ad k] (sfK k t h) := by
  have eR : nI (ix (kRo k t)) = kRo k t := (vin (hr t ht) (by omega)).1
  refine ctI_of (by decide +kernel) (Nat.le_of_ble_eq_true rfl) (fun p_ e_ s_ m_ args_ below_ meth_ c_ A_ X => ?_)
  refine g_lv X (lv' := [(0, .ref (ad 0)), (1, .int (nI t)), (2, .int (nI h))]) [0, 1, 2] rfl ?_
  refine g_aload_n (pc := 0) X dX1_seenFrom_0 0 rfl ?_
  refine g_get (pc := 1) X (v := .ref (ad 6)) fl_X1_37 dX1_seenFrom_1 0 0 rfl rfl rfl ?_
  refine g_iload_n (pc := 4) X dX1_seenFrom_4 1 rfl ?_
  refine g_iald_n (pc := 5) (f := kRo k) X 0 6 dX1_seenFrom_5 t rfl rfl rfl (by omega) rfl ?_
  refine g_istore_n (lv' := [(3, .int ((kRo k) t)), (0, .ref (ad 0)), (1, .int (nI t)), (2, .int (nI h))]) (pc := 6) X dX1_seenFrom_6 rfl rfl rfl ?_
  refine g_iconst (v := 1) (pc := 7) X dX1_seenFrom_7 (by decide) ?_
  refine g_iload_n (pc := 8) X dX1_seenFrom_8 0 rfl ?_
  refine g_ishl (v := shl 1 (kRo k t)) (pc := 9) X dX1_seenFrom_9 rfl ?_
  refine g_istore (lv' := [(4, .int (shl 1 (kRo k t))), (3, .int ((kRo k) t)), (0, .ref (ad 0)), (1, .int (nI t)), (2, .int (nI h))]) (pc := 10) X dX1_seenFrom_10 rfl rfl ?_
  refine g_aload_n (pc := 12) X dX1_seenFrom_12 2 rfl ?_
  refine g_get (pc := 13) X (v := .ref (ad 5)) fl_X1_34 dX1_seenFrom_13 0 0 rfl rfl rfl ?_
  refine g_iload_n (pc := 16) X dX1_seenFrom_16 3 rfl ?_
  refine g_iald_n (pc := 17) (f := kKi k) X 0 5 dX1_seenFrom_17 t rfl rfl rfl (by omega) rfl ?_
  by_cases e18_1 : (kKi k) t = (1 : Int32)
  · refine g_top X e18_1 ?_
    refine g_tableIn (pc := 18) (off := 34) (tgt := 52) X dX1_seenFrom_18 (by decide) (by decide) (by decide) (by decide) ?_
    refine g_aload_n (pc := 52) X dX1_seenFrom_52 2 rfl ?_
    refine g_get (pc := 53) X (v := .ref (ad 4)) fl_X1_28 dX1_seenFrom_53 0 0 rfl rfl rfl ?_
    refine g_iload_n (pc := 56) X dX1_seenFrom_56 1 rfl ?_
    refine g_iald (pc := 57) (f := opK k) X 0 4 dX1_seenFrom_57 rfl rfl (hr t ht) ?_
    refine g_top X (x := (opK k) (ix ((kRo k) t))) (y := bsF k false (kRo k t)) (by show bsN _ _ _ _ (nI (ix (kRo k t))) _ = _; rw [eR]; rfl) ?_
    exact g_iret (pc := 58) X rfl dX1_seenFrom_58 rfl (by simp only [sfK, *, if_true, if_false]; first | done | rfl | (simp; done) | (simp; omega)) rfl
  by_cases e18_2 : (kKi k) t = (2 : Int32)
  · refine g_top X e18_2 ?_
    refine g_tableIn (pc := 18) (off := 41) (tgt := 59) X dX1_seenFrom_18 (by decide) (by decide) (by decide) (by decide) ?_
    refine g_iload_n (pc := 59) X dX1_seenFrom_59 4 rfl ?_
    refine g_iconst (v := 4) (pc := 60) X dX1_seenFrom_60 (by decide) ?_
    refine g_ncmp_ne (pc := 61) (tgt := 76) X dX1_seenFrom_61 (by decide) h 4 rfl rfl (by omega) (by decide) (fun c61 => ?_) (fun c61 => ?_)
    · refine g_aload_n (pc := 76) X dX1_seenFrom_76 2 rfl ?_
      refine g_get (pc := 77) X (v := .ref (ad 4)) fl_X1_28 dX1_seenFrom_77 0 0 rfl rfl rfl ?_
      refine g_iload_n (pc := 80) X dX1_seenFrom_80 1 rfl ?_
      refine g_iald (pc := 81) (f := opK k) X 0 4 dX1_seenFrom_81 rfl rfl (hr t ht) ?_
      refine g_top X (x := (opK k) (ix ((kRo k) t))) (y := bsF k false (kRo k t)) (by show bsN _ _ _ _ (nI (ix (kRo k t))) _ = _; rw [eR]; rfl) ?_
      exact g_iret (pc := 82) X rfl dX1_seenFrom_82 rfl (by simp only [sfK, *, if_true, if_false]; first | done | rfl | (simp; done) | (simp; omega)) rfl
    · refine g_iload (pc := 64) X dX1_seenFrom_64 0 rfl ?_
      refine g_aload_n (pc := 66) X dX1_seenFrom_66 2 rfl ?_
      refine g_get (pc := 67) X (v := .ref (ad 4)) fl_X1_28 dX1_seenFrom_67 0 0 rfl rfl rfl ?_
      refine g_iload_n (pc := 70) X dX1_seenFrom_70 1 rfl ?_
      refine g_iald (pc := 71) (f := opK k) X 0 4 dX1_seenFrom_71 rfl rfl (hr t ht) ?_
      refine g_top X (x := (opK k) (ix ((kRo k) t))) (y := bsF k false (kRo k t)) (by show bsN _ _ _ _ (nI (ix (kRo k t))) _ = _; rw [eR]; rfl) ?_
      refine g_ior (v := (shl 1 (kRo k t)) ||| (bsF k false (kRo k t))) (pc := 72) X dX1_seenFrom_72 rfl ?_
      refine g_goto (pc := 73) (tgt := 82) X dX1_seenFrom_73 (by decide) ?_
      exact g_iret (pc := 82) X rfl dX1_seenFrom_82 rfl (by simp only [sfK, *, if_true, if_false]; first | done | rfl | (simp; done) | (simp; omega)) rfl
  by_cases e18_3 : (kKi k) t = (3 : Int32)
  · refine g_top X e18_3 ?_
    refine g_tableIn (pc := 18) (off := 85) (tgt := 103) X dX1_seenFrom_18 (by decide) (by decide) (by decide) (by decide) ?_
    refine g_iload (pc := 103) X dX1_seenFrom_103 0 rfl ?_
    refine g_aload_n (pc := 105) X dX1_seenFrom_105 2 rfl ?_
    refine g_get (pc := 106) X (v := .ref (ad 3)) fl_X1_25 dX1_seenFrom_106 0 0 rfl rfl rfl ?_
    refine g_iload_n (pc := 109) X dX1_seenFrom_109 1 rfl ?_
    refine g_iald (pc := 110) (f := joK k) X 0 3 dX1_seenFrom_110 rfl rfl (hr t ht) ?_
    refine g_top X (x := (joK k) (ix ((kRo k) t))) (y := bsF k true (kRo k t)) (by show bsN _ _ _ _ (nI (ix (kRo k t))) _ = _; rw [eR]; exact bs_thr) ?_
    refine g_ior (v := (shl 1 (kRo k t)) ||| (bsF k true (kRo k t))) (pc := 111) X dX1_seenFrom_111 rfl ?_
    exact g_iret (pc := 112) X rfl dX1_seenFrom_112 rfl (by simp only [sfK, *, if_true, if_false]; first | done | rfl | (simp; done) | (simp; omega)) rfl
  by_cases e18_4 : (kKi k) t = (4 : Int32)
  · refine g_top X e18_4 ?_
    refine g_tableIn (pc := 18) (off := 65) (tgt := 83) X dX1_seenFrom_18 (by decide) (by decide) (by decide) (by decide) ?_
    refine g_iload_n (pc := 83) X dX1_seenFrom_83 4 rfl ?_
    refine g_bipush (v := 6) (pc := 84) X dX1_seenFrom_84 (by decide) ?_
    refine g_ncmp_lt (pc := 86) (tgt := 101) X dX1_seenFrom_86 (by decide) h 6 rfl rfl (by omega) (by decide) (fun c86 => ?_) (fun c86 => ?_)
    · refine g_iconst (v := 0) (pc := 101) X dX1_seenFrom_101 (by decide) ?_
      exact g_iret (pc := 102) X rfl dX1_seenFrom_102 rfl (by simp only [sfK, *, if_true, if_false]; first | done | rfl | (simp; done) | (simp; omega)) rfl
    · have n86 := Nat.not_lt.mpr c86
      refine g_iload (pc := 89) X dX1_seenFrom_89 0 rfl ?_
      refine g_aload_n (pc := 91) X dX1_seenFrom_91 2 rfl ?_
      refine g_get (pc := 92) X (v := .ref (ad 4)) fl_X1_28 dX1_seenFrom_92 0 0 rfl rfl rfl ?_
      refine g_iload_n (pc := 95) X dX1_seenFrom_95 1 rfl ?_
      refine g_iald (pc := 96) (f := opK k) X 0 4 dX1_seenFrom_96 rfl rfl (hr t ht) ?_
      refine g_top X (x := (opK k) (ix ((kRo k) t))) (y := bsF k false (kRo k t)) (by show bsN _ _ _ _ (nI (ix (kRo k t))) _ = _; rw [eR]; rfl) ?_
      refine g_ior (v := (shl 1 (kRo k t)) ||| (bsF k false (kRo k t))) (pc := 97) X dX1_seenFrom_97 rfl ?_
      refine g_goto (pc := 98) (tgt := 102) X dX1_seenFrom_98 (by decide) ?_
      exact g_iret (pc := 102) X rfl dX1_seenFrom_102 rfl (by simp only [sfK, *, if_true, if_false]; first | done | rfl | (simp; done) | (simp; omega)) rfl
  by_cases e18_5 : (kKi k) t = (5 : Int32)
  · refine g_top X e18_5 ?_
    refine g_tableIn (pc := 18) (off := 85) (tgt := 103) X dX1_seenFrom_18 (by decide) (by decide) (by decide) (by decide) ?_
    refine g_iload (pc := 103) X dX1_seenFrom_103 0 rfl ?_
    refine g_aload_n (pc := 105) X dX1_seenFrom_105 2 rfl ?_
    refine g_get (pc := 106) X (v := .ref (ad 3)) fl_X1_25 dX1_seenFrom_106 0 0 rfl rfl rfl ?_
    refine g_iload_n (pc := 109) X dX1_seenFrom_109 1 rfl ?_
    refine g_iald (pc := 110) (f := joK k) X 0 3 dX1_seenFrom_110 rfl rfl (hr t ht) ?_
    refine g_top X (x := (joK k) (ix ((kRo k) t))) (y := bsF k true (kRo k t)) (by show bsN _ _ _ _ (nI (ix (kRo k t))) _ = _; rw [eR]; exact bs_thr) ?_
    refine g_ior (v := (shl 1 (kRo k t)) ||| (bsF k true (kRo k t))) (pc := 111) X dX1_seenFrom_111 rfl ?_
    exact g_iret (pc := 112) X rfl dX1_seenFrom_112 rfl (by simp only [sfK, *, if_true, if_false]; first | done | rfl | (simp; done) | (simp; omega)) rfl
  have f18_1 := lv_neT (a := 1) e18_1 (by decide)
  have f18_2 := lv_neT (a := 2) e18_2 (by decide)
  have f18_3 := lv_neT (a := 3) e18_3 (by decide)
  have f18_4 := lv_neT (a := 4) e18_4 (by decide)
  have f18_5 := lv_neT (a := 5) e18_5 (by decide)
  refine g_tableOut (pc := 18) (tgt := 113) X dX1_seenFrom_18 (by omega) (by decide) ?_
  refine g_iload (pc := 113) X dX1_seenFrom_113 0 rfl ?_
  refine g_aload_n (pc := 115) X dX1_seenFrom_115 2 rfl ?_
  refine g_get (pc := 116) X (v := .ref (ad 4)) fl_X1_28 dX1_seenFrom_116 0 0 rfl rfl rfl ?_
  refine g_iload_n (pc := 119) X dX1_seenFrom_119 1 rfl ?_
  refine g_iald (pc := 120) (f := opK k) X 0 4 dX1_seenFrom_120 rfl rfl (hr t ht) ?_
  refine g_top X (x := (opK k) (ix ((kRo k) t))) (y := bsF k false (kRo k t)) (by show bsN _ _ _ _ (nI (ix (kRo k t))) _ = _; rw [eR]; rfl) ?_
  refine g_ior (v := (shl 1 (kRo k t)) ||| (bsF k false (kRo k t))) (pc := 121) X dX1_seenFrom_121 rfl ?_
  exact g_iret (pc := 122) X rfl dX1_seenFrom_122 rfl (by simp only [sfK, *, if_true, if_false]; first | done | rfl | (simp; done) | (simp; omega)) rfl
set_option maxRecDepth 100000 in
set_option maxHeartbeats 4000000 in
theorem c_X1_meet (l : Launch) (D : va_G) (cy : ClassId) (ad : Nat → Nat) (k : KV) (a : Nat) (b : Nat) (h : Nat) (ha : a < kNt k) (hb : b < kNt k) (h8 : kNt k ≤ 8) (hr : HRo k) (hh : h < 8) : CtI l yX1_meet cX1_meet 4 .boolean 1 88 D cy [.ref (ad 0), .int (nI a), .int (nI b), .int (nI h)] [wH cy ad k] [wH cy ad k] (bI (mtK k a b h)) := by
  refine ctI_of (by decide +kernel) (Nat.le_of_ble_eq_true rfl) (fun p_ e_ s_ m_ args_ below_ meth_ c_ A_ X => ?_)
  refine g_lv X (lv' := [(0, .ref (ad 0)), (1, .int (nI a)), (2, .int (nI b)), (3, .int (nI h))]) [0, 1, 2, 3] rfl ?_
  refine g_aload_n (pc := 0) X dX1_meet_0 0 rfl ?_
  refine g_iload_n (pc := 1) X dX1_meet_1 1 rfl ?_
  refine g_iload_n (pc := 2) X dX1_meet_2 3 rfl ?_
  refine g_callV (pc := 3) (rest := []) (ss' := [wH cy ad k]) X (c_X1_seenFrom l D cy ad k a h (by first | assumption | omega) (by first | assumption | omega) (by first | assumption | omega) (by first | assumption | omega)) vl_X1_115 dX1_meet_3 [0] 0 0 rfl rfl rfl rfl rfl rfl rfl rfl rfl rfl rfl rfl rfl ⟨Nat.zero_le _, Nat.zero_le _⟩ ?_
  refine g_aload_n (pc := 6) X dX1_meet_6 0 rfl ?_
  refine g_iload_n (pc := 7) X dX1_meet_7 2 rfl ?_
  refine g_iload_n (pc := 8) X dX1_meet_8 3 rfl ?_
  refine g_callV (pc := 9) (rest := [.int (sfK k a h)]) (ss' := [wH cy ad k]) X (c_X1_seenFrom l D cy ad k b h (by first | assumption | omega) (by first | assumption | omega) (by first | assumption | omega) (by first | assumption | omega)) vl_X1_115 dX1_meet_9 [0] 0 0 rfl rfl rfl rfl rfl rfl rfl rfl rfl rfl rfl rfl rfl ⟨Nat.zero_le _, Nat.zero_le _⟩ ?_
  refine g_iand (v := (sfK k a h) &&& (sfK k b h)) (pc := 12) X dX1_meet_12 rfl ?_
  refine g_if_eq (pc := 13) (tgt := 20) X dX1_meet_13 (by decide) (fun c13 => ?_) (fun c13 => ?_)
  · refine g_iconst (v := 0) (pc := 20) X dX1_meet_20 (by decide) ?_
    exact g_iret (pc := 21) X rfl dX1_meet_21 rfl (by first | exact bI_t (decide_eq_true c13) | exact bI_f (decide_eq_false (not_not_intro c13))) rfl
  · refine g_iconst (v := 1) (pc := 16) X dX1_meet_16 (by decide) ?_
    refine g_goto (pc := 17) (tgt := 21) X dX1_meet_17 (by decide) ?_
    exact g_iret (pc := 21) X rfl dX1_meet_21 rfl (by first | exact bI_t (decide_eq_true c13) | exact bI_f (decide_eq_false (not_not_intro c13))) rfl
set_option maxRecDepth 100000 in
set_option maxHeartbeats 4000000 in
theorem c_X1_everMeet (l : Launch) (D : va_G) (cy : ClassId) (ad : Nat → Nat) (k : KV) (a : Nat) (b : Nat) (ha : a < kNt k) (hb : b < kNt k) (h8 : kNt k ≤ 8) (hr : HRo k) : CtI l yX1_everMeet cX1_everMeet 4 .boolean 2 111 D cy [.ref (ad 0), .int (nI a), .int (nI b)] [wH cy ad k] [wH cy ad k] (bI (emK k a b 8 0)) := by
  refine ctI_of (by decide +kernel) (Nat.le_of_ble_eq_true rfl) (fun p_ e_ s_ m_ args_ below_ meth_ c_ A_ X => ?_)
  refine g_lv X (lv' := [(0, .ref (ad 0)), (1, .int (nI a)), (2, .int (nI b))]) [0, 1, 2] rfl ?_
  refine g_iconst (v := 0) (pc := 0) X dX1_everMeet_0 (by decide) ?_
  refine g_istore_n (lv' := [(3, .int (0)), (0, .ref (ad 0)), (1, .int (nI a)), (2, .int (nI b))]) (pc := 1) X dX1_everMeet_1 rfl rfl rfl ?_
  have L2_1 : ∀ (fu_ : Nat) (j : Nat) (hj : j ≤ 8) (hq : emK k a b 8 0 = emK k a b (8 - j) j) (hm : 8 - j < fu_), G p_ l e_ { frames := 2, cells := 0, slots := 0, locals := 111 } s_ m_ args_ below_ meth_ c_ 4 D A_ 0 0 (QI below_ args_ s_ D A_ [wH cy ad k] (bI (emK k a b 8 0))) [wH cy ad k] 2 [(0, .ref (ad 0)), (1, .int (nI a)), (2, .int (nI b)), (3, .int (nI j))] [] := by
    intro fu_
    induction fu_ with
    | zero => intro j hj hq hm; exact absurd hm (Nat.not_lt_zero _)
    | succ fu_ ih =>
      intro j hj hq hm
      have ih2 := ih
      clear ih
      refine g_iload_n (pc := 2) X dX1_everMeet_2 3 rfl ?_
      refine g_bipush (v := 8) (pc := 3) X dX1_everMeet_3 (by decide) ?_
      refine g_ncmp_ge (pc := 5) (tgt := 26) X dX1_everMeet_5 (by decide) j 8 rfl rfl (by omega) (by decide) (fun c5 => ?_) (fun c5 => ?_)
      · have n5 := Nat.not_lt.mpr c5
        refine g_iconst (v := 0) (pc := 26) X dX1_everMeet_26 (by decide) ?_
        exact g_iret (pc := 27) X rfl dX1_everMeet_27 rfl (by rw [hq, show j = 8 by omega]; rfl) rfl
      · refine g_aload_n (pc := 8) X dX1_everMeet_8 0 rfl ?_
        refine g_iload_n (pc := 9) X dX1_everMeet_9 1 rfl ?_
        refine g_iload_n (pc := 10) X dX1_everMeet_10 2 rfl ?_
        refine g_iload_n (pc := 11) X dX1_everMeet_11 3 rfl ?_
        refine g_callV (pc := 12) (rest := []) (ss' := [wH cy ad k]) X (c_X1_meet l D cy ad k a b j (by first | assumption | omega) (by first | assumption | omega) (by first | assumption | omega) (by first | assumption | omega) (by first | assumption | omega)) vl_X1_118 dX1_everMeet_12 [0] 0 0 rfl rfl rfl rfl rfl rfl rfl rfl rfl rfl rfl rfl rfl ⟨Nat.zero_le _, Nat.zero_le _⟩ ?_
        refine g_bif_eq (pc := 15) (tgt := 20) X dX1_everMeet_15 (by decide) (fun c15 => ?_) (fun c15 => ?_)
        · refine g_iinc (v := nI (j + 1)) (lv' := [(3, .int (nI (j + 1))), (0, .ref (ad 0)), (1, .int (nI a)), (2, .int (nI b))]) (pc := 20) X dX1_everMeet_20 3 rfl (nI_1 j) rfl rfl ?_
          refine g_goto (pc := 23) (tgt := 2) X dX1_everMeet_23 (by decide) ?_
          refine g_lv X (lv' := [(0, .ref (ad 0)), (1, .int (nI a)), (2, .int (nI b)), (3, .int (nI (j + 1)))]) [1, 2, 3, 0] rfl ?_
          exact ih2 (j + 1) c5 (by rw [hq, show 8 - j = (8 - (j + 1)) + 1 by omega, emK, if_neg (by rw [c15]; decide)]) (by omega)
        · refine g_iconst (v := 1) (pc := 18) X dX1_everMeet_18 (by decide) ?_
          exact g_iret (pc := 19) X rfl dX1_everMeet_19 rfl (by rw [hq, show 8 - j = (8 - (j + 1)) + 1 by omega, emK, if_pos c15]; rfl) rfl
  refine g_lv X (lv' := [(0, .ref (ad 0)), (1, .int (nI a)), (2, .int (nI b)), (3, .int (0))]) [1, 2, 3, 0] rfl ?_
  exact L2_1 (8 - 0 + 1) 0 (Nat.zero_le _) rfl (Nat.lt_succ_self _)
set_option maxRecDepth 100000 in
set_option maxHeartbeats 4000000 in
theorem c_X1_sinsAsLesser (l : Launch) (D : va_G) (cy : ClassId) (ad : Nat → Nat) (k : KV) (t : Nat) (h : Nat) (ht : t < kNt k) (h8 : kNt k ≤ 8) (hr : HRo k) (hh : h < 8) : CtI l yX1_sinsAsLesser cX1_sinsAsLesser 4 .boolean 2 111 D cy [.ref (ad 0), .int (nI t), .int (nI h)] [wH cy ad k] [wH cy ad k] (bI (slK k t h)) := by
  refine ctI_of (by decide +kernel) (Nat.le_of_ble_eq_true rfl) (fun p_ e_ s_ m_ args_ below_ meth_ c_ A_ X => ?_)
  refine g_lv X (lv' := [(0, .ref (ad 0)), (1, .int (nI t)), (2, .int (nI h))]) [0, 1, 2] rfl ?_
  refine g_aload_n (pc := 0) X dX1_sinsAsLesser_0 0 rfl ?_
  refine g_get (pc := 1) X (v := .ref (ad 7)) fl_X1_40 dX1_sinsAsLesser_1 0 0 rfl rfl rfl ?_
  refine g_iload_n (pc := 4) X dX1_sinsAsLesser_4 1 rfl ?_
  refine g_iald_n (pc := 5) (f := kOt k) X 0 7 dX1_sinsAsLesser_5 t rfl rfl rfl (by omega) rfl ?_
  refine g_istore_n (lv' := [(3, .int ((kOt k) t)), (0, .ref (ad 0)), (1, .int (nI t)), (2, .int (nI h))]) (pc := 6) X dX1_sinsAsLesser_6 rfl rfl rfl ?_
  refine g_iload_n (pc := 7) X dX1_sinsAsLesser_7 0 rfl ?_
  refine g_iload_n (pc := 8) X dX1_sinsAsLesser_8 2 rfl ?_
  refine g_icmp_le (pc := 9) (tgt := 34) X dX1_sinsAsLesser_9 (by decide) (fun c9 => ?_) (fun c9 => ?_)
  · have n9 := Int32.not_lt.mpr c9
    refine g_iconst (v := 0) (pc := 34) X dX1_sinsAsLesser_34 (by decide) ?_
    exact g_iret (pc := 35) X rfl dX1_sinsAsLesser_35 rfl (by first | exact bI_t (by rw [slK, decide_eq_true c9, c17, ixu, c27]; rfl) | exact bI_f (by rw [slK, decide_eq_true c9, c17, ixu, c27]; rfl) | exact bI_f (by rw [slK, c17, Bool.false_and, Bool.and_false]) | exact bI_f (by rw [slK, decide_eq_false (Int32.not_lt.mpr c9), Bool.false_and])) rfl
  · refine g_aload_n (pc := 12) X dX1_sinsAsLesser_12 1 rfl ?_
    refine g_iload_n (pc := 13) X dX1_sinsAsLesser_13 0 rfl ?_
    refine g_callV (pc := 14) (rest := []) (ss' := [wH cy ad k]) X (c_X1_hasThing l D cy ad k ((kOt k) t) ) vl_X1_62 dX1_sinsAsLesser_14 [0] 0 0 rfl rfl rfl rfl rfl rfl rfl rfl rfl rfl rfl rfl rfl ⟨Nat.zero_le _, Nat.zero_le _⟩ ?_
    refine g_bif_eq (pc := 17) (tgt := 34) X dX1_sinsAsLesser_17 (by decide) (fun c17 => ?_) (fun c17 => ?_)
    · refine g_iconst (v := 0) (pc := 34) X dX1_sinsAsLesser_34 (by decide) ?_
      exact g_iret (pc := 35) X rfl dX1_sinsAsLesser_35 rfl (by first | exact bI_t (by rw [slK, decide_eq_true c9, c17, ixu, c27]; rfl) | exact bI_f (by rw [slK, decide_eq_true c9, c17, ixu, c27]; rfl) | exact bI_f (by rw [slK, c17, Bool.false_and, Bool.and_false]) | exact bI_f (by rw [slK, decide_eq_false (Int32.not_lt.mpr c9), Bool.false_and])) rfl
    · obtain ⟨u, hu, eu⟩ := hasT_t h8 c17
      have ixu : ix (kOt k t) = u := by rw [eu]; exact ixn (by omega)
      rw [eu]
      refine g_aload_n (pc := 20) X dX1_sinsAsLesser_20 1 rfl ?_
      refine g_iload_n (pc := 21) X dX1_sinsAsLesser_21 2 rfl ?_
      refine g_iload_n (pc := 22) X dX1_sinsAsLesser_22 0 rfl ?_
      refine g_iload_n (pc := 23) X dX1_sinsAsLesser_23 3 rfl ?_
      refine g_callV (pc := 24) (rest := []) (ss' := [wH cy ad k]) X (c_X1_meet l D cy ad k t u h (by first | assumption | omega) (by first | assumption | omega) (by first | assumption | omega) (by first | assumption | omega) (by first | assumption | omega)) vl_X1_118 dX1_sinsAsLesser_24 [0] 0 0 rfl rfl rfl rfl rfl rfl rfl rfl rfl rfl rfl rfl rfl ⟨Nat.zero_le _, Nat.zero_le _⟩ ?_
      refine g_bif_eq (pc := 27) (tgt := 34) X dX1_sinsAsLesser_27 (by decide) (fun c27 => ?_) (fun c27 => ?_)
      · refine g_iconst (v := 0) (pc := 34) X dX1_sinsAsLesser_34 (by decide) ?_
        exact g_iret (pc := 35) X rfl dX1_sinsAsLesser_35 rfl (by first | exact bI_t (by rw [slK, decide_eq_true c9, c17, ixu, c27]; rfl) | exact bI_f (by rw [slK, decide_eq_true c9, c17, ixu, c27]; rfl) | exact bI_f (by rw [slK, c17, Bool.false_and, Bool.and_false]) | exact bI_f (by rw [slK, decide_eq_false (Int32.not_lt.mpr c9), Bool.false_and])) rfl
      · refine g_iconst (v := 1) (pc := 30) X dX1_sinsAsLesser_30 (by decide) ?_
        refine g_goto (pc := 31) (tgt := 35) X dX1_sinsAsLesser_31 (by decide) ?_
        exact g_iret (pc := 35) X rfl dX1_sinsAsLesser_35 rfl (by first | exact bI_t (by rw [slK, decide_eq_true c9, c17, ixu, c27]; rfl) | exact bI_f (by rw [slK, decide_eq_true c9, c17, ixu, c27]; rfl) | exact bI_f (by rw [slK, c17, Bool.false_and, Bool.and_false]) | exact bI_f (by rw [slK, decide_eq_false (Int32.not_lt.mpr c9), Bool.false_and])) rfl
set_option maxRecDepth 100000 in
set_option maxHeartbeats 4000000 in
theorem c_X1_firstSin (l : Launch) (D : va_G) (cy : ClassId) (ad : Nat → Nat) (k : KV) (h : Nat) (h8 : kNt k ≤ 8) (hr : HRo k) (hh : h < 8) : CtI l yX1_firstSin cX1_firstSin 3 .int 3 134 D cy [.ref (ad 0), .int (nI h)] [wH cy ad k] [wH cy ad k] (fsK k h) := by
  refine ctI_of (by decide +kernel) (Nat.le_of_ble_eq_true rfl) (fun p_ e_ s_ m_ args_ below_ meth_ c_ A_ X => ?_)
  refine g_lv X (lv' := [(0, .ref (ad 0)), (1, .int (nI h))]) [0, 1] rfl ?_
  refine g_iconst (v := 0) (pc := 0) X dX1_firstSin_0 (by decide) ?_
  refine g_istore_n (lv' := [(2, .int (0)), (0, .ref (ad 0)), (1, .int (nI h))]) (pc := 1) X dX1_firstSin_1 rfl rfl rfl ?_
  have L2_1 : ∀ (fu_ : Nat) (j : Nat) (hj : j ≤ kNt k) (hq : fsK k h = fnd (fun t => slK k t h) (fun t => 10 * nI t + kOt k t) (kNt k - j) j) (hm : kNt k - j < fu_), G p_ l e_ { frames := 3, cells := 0, slots := 0, locals := 134 } s_ m_ args_ below_ meth_ c_ 3 D A_ 0 0 (QI below_ args_ s_ D A_ [wH cy ad k] (fsK k h)) [wH cy ad k] 2 [(0, .ref (ad 0)), (1, .int (nI h)), (2, .int (nI j))] [] := by
    intro fu_
    induction fu_ with
    | zero => intro j hj hq hm; exact absurd hm (Nat.not_lt_zero _)
    | succ fu_ ih =>
      intro j hj hq hm
      have ih2 := ih
      clear ih
      refine g_iload_n (pc := 2) X dX1_firstSin_2 2 rfl ?_
      refine g_aload_n (pc := 3) X dX1_firstSin_3 0 rfl ?_
      refine g_get (pc := 4) X (v := .int (nI (kNt k))) fl_X1_31 dX1_firstSin_4 0 0 rfl rfl rfl ?_
      refine g_ncmp_ge (pc := 7) (tgt := 37) X dX1_firstSin_7 (by decide) j (kNt k) rfl rfl (by omega) (by omega) (fun c7 => ?_) (fun c7 => ?_)
      · have n7 := Nat.not_lt.mpr c7
        refine g_bipush (v := (-9)) (pc := 37) X dX1_firstSin_37 (by decide) ?_
        exact g_iret (pc := 39) X rfl dX1_firstSin_39 rfl (by rw [hq, show kNt k - j = 0 by omega]; rfl) rfl
      · refine g_aload_n (pc := 10) X dX1_firstSin_10 0 rfl ?_
        refine g_iload_n (pc := 11) X dX1_firstSin_11 2 rfl ?_
        refine g_iload_n (pc := 12) X dX1_firstSin_12 1 rfl ?_
        refine g_callV (pc := 13) (rest := []) (ss' := [wH cy ad k]) X (c_X1_sinsAsLesser l D cy ad k j h (by first | assumption | omega) (by first | assumption | omega) (by first | assumption | omega) (by first | assumption | omega)) vl_X1_122 dX1_firstSin_13 [0] 0 0 rfl rfl rfl rfl rfl rfl rfl rfl rfl rfl rfl rfl rfl ⟨Nat.zero_le _, Nat.zero_le _⟩ ?_
        refine g_bif_eq (pc := 16) (tgt := 31) X dX1_firstSin_16 (by decide) (fun c16 => ?_) (fun c16 => ?_)
        · refine g_iinc (v := nI (j + 1)) (lv' := [(2, .int (nI (j + 1))), (0, .ref (ad 0)), (1, .int (nI h))]) (pc := 31) X dX1_firstSin_31 2 rfl (nI_1 j) rfl rfl ?_
          refine g_goto (pc := 34) (tgt := 2) X dX1_firstSin_34 (by decide) ?_
          refine g_lv X (lv' := [(0, .ref (ad 0)), (1, .int (nI h)), (2, .int (nI (j + 1)))]) [1, 2, 0] rfl ?_
          exact ih2 (j + 1) c7 (by rw [hq, show kNt k - j = (kNt k - (j + 1)) + 1 by omega, fnd, if_neg (by rw [c16]; decide)]) (by omega)
        · refine g_bipush (v := 10) (pc := 19) X dX1_firstSin_19 (by decide) ?_
          refine g_iload_n (pc := 21) X dX1_firstSin_21 2 rfl ?_
          refine g_imul (v := 10 * nI j) (pc := 22) X dX1_firstSin_22 rfl ?_
          refine g_aload_n (pc := 23) X dX1_firstSin_23 0 rfl ?_
          refine g_get (pc := 24) X (v := .ref (ad 7)) fl_X1_40 dX1_firstSin_24 0 0 rfl rfl rfl ?_
          refine g_iload_n (pc := 27) X dX1_firstSin_27 2 rfl ?_
          refine g_iald_n (pc := 28) (f := kOt k) X 0 7 dX1_firstSin_28 j rfl rfl rfl (by omega) rfl ?_
          refine g_iadd (v := (10 * nI j) + ((kOt k) j)) (pc := 29) X dX1_firstSin_29 rfl ?_
          exact g_iret (pc := 30) X rfl dX1_firstSin_30 rfl (by rw [hq, show kNt k - j = (kNt k - (j + 1)) + 1 by omega, fnd, if_pos c16]) rfl
  refine g_lv X (lv' := [(0, .ref (ad 0)), (1, .int (nI h)), (2, .int (0))]) [1, 2, 0] rfl ?_
  exact L2_1 (kNt k - 0 + 1) 0 (Nat.zero_le _) rfl (Nat.lt_succ_self _)
set_option maxRecDepth 100000 in
set_option maxHeartbeats 4000000 in
theorem c_X1_sinCount (l : Launch) (D : va_G) (cy : ClassId) (ad : Nat → Nat) (k : KV) (h : Nat) (h8 : kNt k ≤ 8) (hr : HRo k) (hh : h < 8) : CtI l yX1_sinCount cX1_sinCount 4 .int 3 134 D cy [.ref (ad 0), .int (nI h)] [wH cy ad k] [wH cy ad k] (nI (scK k h)) := by
  refine ctI_of (by decide +kernel) (Nat.le_of_ble_eq_true rfl) (fun p_ e_ s_ m_ args_ below_ meth_ c_ A_ X => ?_)
  refine g_lv X (lv' := [(0, .ref (ad 0)), (1, .int (nI h))]) [0, 1] rfl ?_
  refine g_iconst (v := 0) (pc := 0) X dX1_sinCount_0 (by decide) ?_
  refine g_istore_n (lv' := [(2, .int (0)), (0, .ref (ad 0)), (1, .int (nI h))]) (pc := 1) X dX1_sinCount_1 rfl rfl rfl ?_
  refine g_iconst (v := 0) (pc := 2) X dX1_sinCount_2 (by decide) ?_
  refine g_istore_n (lv' := [(3, .int (0)), (2, .int (0)), (0, .ref (ad 0)), (1, .int (nI h))]) (pc := 3) X dX1_sinCount_3 rfl rfl rfl ?_
  have L4_1 : ∀ (fu_ : Nat) (j : Nat) (hj : j ≤ kNt k) (hm : kNt k - j < fu_), G p_ l e_ { frames := 3, cells := 0, slots := 0, locals := 134 } s_ m_ args_ below_ meth_ c_ 4 D A_ 0 0 (QI below_ args_ s_ D A_ [wH cy ad k] (nI (scK k h))) [wH cy ad k] 4 [(0, .ref (ad 0)), (1, .int (nI h)), (2, .int (nI (cnt (fun t => slK k t h) j))), (3, .int (nI j))] [] := by
    intro fu_
    induction fu_ with
    | zero => intro j hj hm; exact absurd hm (Nat.not_lt_zero _)
    | succ fu_ ih =>
      intro j hj hm
      have ih4 := ih
      clear ih
      refine g_iload_n (pc := 4) X dX1_sinCount_4 3 rfl ?_
      refine g_aload_n (pc := 5) X dX1_sinCount_5 0 rfl ?_
      refine g_get (pc := 6) X (v := .int (nI (kNt k))) fl_X1_31 dX1_sinCount_6 0 0 rfl rfl rfl ?_
      refine g_ncmp_ge (pc := 9) (tgt := 30) X dX1_sinCount_9 (by decide) j (kNt k) rfl rfl (by omega) (by omega) (fun c9 => ?_) (fun c9 => ?_)
      · have n9 := Nat.not_lt.mpr c9
        rw [show j = kNt k by omega]
        refine g_iload_n (pc := 30) X dX1_sinCount_30 2 rfl ?_
        exact g_iret (pc := 31) X rfl dX1_sinCount_31 rfl rfl rfl
      · refine g_aload_n (pc := 12) X dX1_sinCount_12 0 rfl ?_
        refine g_iload_n (pc := 13) X dX1_sinCount_13 3 rfl ?_
        refine g_iload_n (pc := 14) X dX1_sinCount_14 1 rfl ?_
        refine g_callV (pc := 15) (rest := []) (ss' := [wH cy ad k]) X (c_X1_sinsAsLesser l D cy ad k j h (by first | assumption | omega) (by first | assumption | omega) (by first | assumption | omega) (by first | assumption | omega)) vl_X1_122 dX1_sinCount_15 [0] 0 0 rfl rfl rfl rfl rfl rfl rfl rfl rfl rfl rfl rfl rfl ⟨Nat.zero_le _, Nat.zero_le _⟩ ?_
        refine g_bif_eq (pc := 18) (tgt := 24) X dX1_sinCount_18 (by decide) (fun c18 => ?_) (fun c18 => ?_)
        · have hc : cnt (fun t => slK k t h) j = cnt (fun t => slK k t h) (j + 1) := by rw [cnt, if_neg (by rw [c18]; decide)]
          rw [hc]
          refine g_iinc (v := nI (j + 1)) (lv' := [(3, .int (nI (j + 1))), (0, .ref (ad 0)), (1, .int (nI h)), (2, .int (nI (cnt (fun t => slK k t h) (j + 1))))]) (pc := 24) X dX1_sinCount_24 3 rfl (nI_1 j) rfl rfl ?_
          refine g_goto (pc := 27) (tgt := 4) X dX1_sinCount_27 (by decide) ?_
          refine g_lv X (lv' := [(0, .ref (ad 0)), (1, .int (nI h)), (2, .int (nI (cnt (fun t => slK k t h) (j + 1)))), (3, .int (nI (j + 1)))]) [1, 2, 3, 0] rfl ?_
          exact ih4 (j + 1) c9 (by omega)
        · refine g_iinc (v := nI (cnt (fun t => slK k t h) (j + 1))) (lv' := [(2, .int (nI (cnt (fun t => slK k t h) (j + 1)))), (0, .ref (ad 0)), (1, .int (nI h)), (3, .int (nI j))]) (pc := 21) X dX1_sinCount_21 2 rfl (by rw [cnt, if_pos c18]; exact nI_1 _) rfl rfl ?_
          refine g_iinc (v := nI (j + 1)) (lv' := [(3, .int (nI (j + 1))), (2, .int (nI (cnt (fun t => slK k t h) (j + 1)))), (0, .ref (ad 0)), (1, .int (nI h))]) (pc := 24) X dX1_sinCount_24 3 rfl (nI_1 j) rfl rfl ?_
          refine g_goto (pc := 27) (tgt := 4) X dX1_sinCount_27 (by decide) ?_
          refine g_lv X (lv' := [(0, .ref (ad 0)), (1, .int (nI h)), (2, .int (nI (cnt (fun t => slK k t h) (j + 1)))), (3, .int (nI (j + 1)))]) [2, 3, 1, 0] rfl ?_
          exact ih4 (j + 1) c9 (by omega)
  refine g_lv X (lv' := [(0, .ref (ad 0)), (1, .int (nI h)), (2, .int (0)), (3, .int (0))]) [2, 3, 1, 0] rfl ?_
  exact L4_1 (kNt k - 0 + 1) 0 (Nat.zero_le _) (Nat.lt_succ_self _)
set_option maxRecDepth 100000 in
set_option maxHeartbeats 4000000 in
theorem c_X1_firstSinfulHour (l : Launch) (D : va_G) (cy : ClassId) (ad : Nat → Nat) (k : KV) (h8 : kNt k ≤ 8) (hr : HRo k) : CtI l yX1_firstSinfulHour cX1_firstSinfulHour 2 .int 4 156 D cy [.ref (ad 0)] [wH cy ad k] [wH cy ad k] (fdK k) := by
  refine ctI_of (by decide +kernel) (Nat.le_of_ble_eq_true rfl) (fun p_ e_ s_ m_ args_ below_ meth_ c_ A_ X => ?_)
  refine g_lv X (lv' := [(0, .ref (ad 0))]) [0] rfl ?_
  refine g_iconst (v := 0) (pc := 0) X dX1_firstSinfulHour_0 (by decide) ?_
  refine g_istore_n (lv' := [(1, .int (0)), (0, .ref (ad 0))]) (pc := 1) X dX1_firstSinfulHour_1 rfl rfl rfl ?_
  have L2_1 : ∀ (fu_ : Nat) (j : Nat) (hj : j ≤ 8) (hq : fdK k = fnd (fun h => decide (fsK k h ≠ -9)) nI (8 - j) j) (hm : 8 - j < fu_), G p_ l e_ { frames := 4, cells := 0, slots := 0, locals := 156 } s_ m_ args_ below_ meth_ c_ 2 D A_ 0 0 (QI below_ args_ s_ D A_ [wH cy ad k] (fdK k)) [wH cy ad k] 2 [(0, .ref (ad 0)), (1, .int (nI j))] [] := by
    intro fu_
    induction fu_ with
    | zero => intro j hj hq hm; exact absurd hm (Nat.not_lt_zero _)
    | succ fu_ ih =>
      intro j hj hq hm
      have ih2 := ih
      clear ih
      refine g_iload_n (pc := 2) X dX1_firstSinfulHour_2 1 rfl ?_
      refine g_bipush (v := 8) (pc := 3) X dX1_firstSinfulHour_3 (by decide) ?_
      refine g_ncmp_ge (pc := 5) (tgt := 26) X dX1_firstSinfulHour_5 (by decide) j 8 rfl rfl (by omega) (by decide) (fun c5 => ?_) (fun c5 => ?_)
      · have n5 := Nat.not_lt.mpr c5
        refine g_bipush (v := (-9)) (pc := 26) X dX1_firstSinfulHour_26 (by decide) ?_
        exact g_iret (pc := 28) X rfl dX1_firstSinfulHour_28 rfl (by rw [hq, show 8 - j = 0 by omega]; rfl) rfl
      · refine g_aload_n (pc := 8) X dX1_firstSinfulHour_8 0 rfl ?_
        refine g_iload_n (pc := 9) X dX1_firstSinfulHour_9 1 rfl ?_
        refine g_callV (pc := 10) (rest := []) (ss' := [wH cy ad k]) X (c_X1_firstSin l D cy ad k j (by first | assumption | omega) (by first | assumption | omega) (by first | assumption | omega)) vl_X1_125 dX1_firstSinfulHour_10 [0] 0 0 rfl rfl rfl rfl rfl rfl rfl rfl rfl rfl rfl rfl rfl ⟨Nat.zero_le _, Nat.zero_le _⟩ ?_
        refine g_bipush (v := (-9)) (pc := 13) X dX1_firstSinfulHour_13 (by decide) ?_
        refine g_icmp_eq (pc := 15) (tgt := 20) X dX1_firstSinfulHour_15 (by decide) (fun c15 => ?_) (fun c15 => ?_)
        · refine g_iinc (v := nI (j + 1)) (lv' := [(1, .int (nI (j + 1))), (0, .ref (ad 0))]) (pc := 20) X dX1_firstSinfulHour_20 1 rfl (nI_1 j) rfl rfl ?_
          refine g_goto (pc := 23) (tgt := 2) X dX1_firstSinfulHour_23 (by decide) ?_
          refine g_lv X (lv' := [(0, .ref (ad 0)), (1, .int (nI (j + 1)))]) [1, 0] rfl ?_
          exact ih2 (j + 1) c5 (by rw [hq, show 8 - j = (8 - (j + 1)) + 1 by omega, fnd, if_neg (by simp [c15])]) (by omega)
        · refine g_iload_n (pc := 18) X dX1_firstSinfulHour_18 1 rfl ?_
          exact g_iret (pc := 19) X rfl dX1_firstSinfulHour_19 rfl (by rw [hq, show 8 - j = (8 - (j + 1)) + 1 by omega, fnd, if_pos (decide_eq_true c15)]) rfl
  refine g_lv X (lv' := [(0, .ref (ad 0)), (1, .int (0))]) [1, 0] rfl ?_
  exact L2_1 (8 - 0 + 1) 0 (Nat.zero_le _) rfl (Nat.lt_succ_self _)
set_option maxRecDepth 100000 in
set_option maxHeartbeats 4000000 in
theorem c_X1_become (l : Launch) (D : va_G) (cy : ClassId) (a1 : Nat → Nat) (a2 : Nat → Nat) (k1 : KV) (k2 : KV) : CtV l yX1_become cX1_become 2 2 96 D cy [.ref (a1 0), .ref (a2 0)] [wH cy a1 k1, wH cy a2 k2] [wH cy a1 k2, wH cy a2 k2] := by
  refine ctV_of (by decide +kernel) (Nat.le_of_ble_eq_true rfl) (fun p_ e_ s_ m_ args_ below_ meth_ c_ A_ X => ?_)
  refine g_lv X (lv' := [(0, .ref (a1 0)), (1, .ref (a2 0))]) [0, 1] rfl ?_
  refine g_aload_n (pc := 0) X dX1_become_0 0 rfl ?_
  refine g_aload_n (pc := 1) X dX1_become_1 1 rfl ?_
  refine g_get (pc := 2) X (v := .int (nI (kNl k2))) fl_X1_9 dX1_become_2 1 0 rfl rfl rfl ?_
  refine g_put (pc := 5) X (ss' := [wHR cy a1 (sNl k1 (kNl k2)) (joK k1) (opK k1), wH cy a2 k2]) fp_X1_9 dX1_become_5 0 0 rfl rfl rfl rfl rfl rfl ?_
  refine g_aload_n (pc := 8) X dX1_become_8 0 rfl ?_
  refine g_aload_n (pc := 9) X dX1_become_9 1 rfl ?_
  refine g_get (pc := 10) X (v := .int (kHd k2)) fl_X1_22 dX1_become_10 1 0 rfl rfl rfl ?_
  refine g_put (pc := 13) X (ss' := [wHR cy a1 (sHd (sNl k1 (kNl k2)) (kHd k2)) (joK k1) (opK k1), wH cy a2 k2]) fp_X1_22 dX1_become_13 0 0 rfl rfl rfl rfl rfl rfl ?_
  refine g_aload_n (pc := 16) X dX1_become_16 0 rfl ?_
  refine g_aload_n (pc := 17) X dX1_become_17 1 rfl ?_
  refine g_get (pc := 18) X (v := .int (nI (kNt k2))) fl_X1_31 dX1_become_18 1 0 rfl rfl rfl ?_
  refine g_put (pc := 21) X (ss' := [wHR cy a1 (sNt (sHd (sNl k1 (kNl k2)) (kHd k2)) (kNt k2)) (joK k1) (opK k1), wH cy a2 k2]) fp_X1_31 dX1_become_21 0 0 rfl rfl rfl rfl rfl rfl ?_
  refine g_aload_n (pc := 24) X dX1_become_24 0 rfl ?_
  refine g_aload_n (pc := 25) X dX1_become_25 1 rfl ?_
  refine g_get (pc := 26) X (v := .int (nI (kHr k2))) fl_X1_43 dX1_become_26 1 0 rfl rfl rfl ?_
  refine g_put (pc := 29) X (ss' := [wHR cy a1 (sHr (sNt (sHd (sNl k1 (kNl k2)) (kHd k2)) (kNt k2)) (kHr k2)) (joK k1) (opK k1), wH cy a2 k2]) fp_X1_43 dX1_become_29 0 0 rfl rfl rfl rfl rfl rfl ?_
  refine g_aload_n (pc := 32) X dX1_become_32 0 rfl ?_
  refine g_aload_n (pc := 33) X dX1_become_33 1 rfl ?_
  refine g_get (pc := 34) X (v := .int (nI (kNs k2))) fl_X1_46 dX1_become_34 1 0 rfl rfl rfl ?_
  refine g_put (pc := 37) X (ss' := [wHR cy a1 (sNs (sHr (sNt (sHd (sNl k1 (kNl k2)) (kHd k2)) (kNt k2)) (kHr k2)) (kNs k2)) (joK k1) (opK k1), wH cy a2 k2]) fp_X1_46 dX1_become_37 0 0 rfl rfl rfl rfl rfl rfl ?_
  refine g_aload_n (pc := 40) X dX1_become_40 1 rfl ?_
  refine g_get (pc := 41) X (v := .ref (a2 1)) fl_X1_15 dX1_become_41 1 0 rfl rfl rfl ?_
  refine g_iconst (v := 0) (pc := 44) X dX1_become_44 (by decide) ?_
  refine g_aload_n (pc := 45) X dX1_become_45 0 rfl ?_
  refine g_get (pc := 46) X (v := .ref (a1 1)) fl_X1_15 dX1_become_46 0 0 rfl rfl rfl ?_
  refine g_iconst (v := 0) (pc := 49) X dX1_become_49 (by decide) ?_
  refine g_bipush (v := 10) (pc := 50) X dX1_become_50 (by decide) ?_
  refine g_copy (pc := 52) X (ss' := [wHR cy a1 (sNs (sHr (sNt (sHd (sOn (sNl k1 (kNl k2)) (kOn k2)) (kHd k2)) (kNt k2)) (kHr k2)) (kNs k2)) (joK k1) (opK k1), wH cy a2 k2]) ml_X1_52 m_copy_n m_copy_s ini_System dX1_become_52 1 1 0 1 10 rfl rfl rfl rfl rfl rfl rfl rfl rfl ?_
  refine g_aload_n (pc := 55) X dX1_become_55 1 rfl ?_
  refine g_get (pc := 56) X (v := .ref (a2 2)) fl_X1_19 dX1_become_56 1 0 rfl rfl rfl ?_
  refine g_iconst (v := 0) (pc := 59) X dX1_become_59 (by decide) ?_
  refine g_aload_n (pc := 60) X dX1_become_60 0 rfl ?_
  refine g_get (pc := 61) X (v := .ref (a1 2)) fl_X1_19 dX1_become_61 0 0 rfl rfl rfl ?_
  refine g_iconst (v := 0) (pc := 64) X dX1_become_64 (by decide) ?_
  refine g_bipush (v := 10) (pc := 65) X dX1_become_65 (by decide) ?_
  refine g_copy (pc := 67) X (ss' := [wHR cy a1 (sNs (sHr (sNt (sHd (sTw (sOn (sNl k1 (kNl k2)) (kOn k2)) (kTw k2)) (kHd k2)) (kNt k2)) (kHr k2)) (kNs k2)) (joK k1) (opK k1), wH cy a2 k2]) ml_X1_52 m_copy_n m_copy_s ini_System dX1_become_67 1 2 0 2 10 rfl rfl rfl rfl rfl rfl rfl rfl rfl ?_
  refine g_aload_n (pc := 70) X dX1_become_70 1 rfl ?_
  refine g_get (pc := 71) X (v := .ref (a2 3)) fl_X1_25 dX1_become_71 1 0 rfl rfl rfl ?_
  refine g_iconst (v := 0) (pc := 74) X dX1_become_74 (by decide) ?_
  refine g_aload_n (pc := 75) X dX1_become_75 0 rfl ?_
  refine g_get (pc := 76) X (v := .ref (a1 3)) fl_X1_25 dX1_become_76 0 0 rfl rfl rfl ?_
  refine g_iconst (v := 0) (pc := 79) X dX1_become_79 (by decide) ?_
  refine g_bipush (v := 6) (pc := 80) X dX1_become_80 (by decide) ?_
  refine g_copy (pc := 82) X (ss' := [wHR cy a1 (sNs (sHr (sNt (sHd (sTw (sOn (sNl k1 (kNl k2)) (kOn k2)) (kTw k2)) (kHd k2)) (kNt k2)) (kHr k2)) (kNs k2)) (joK k2) (opK k1), wH cy a2 k2]) ml_X1_52 m_copy_n m_copy_s ini_System dX1_become_82 1 3 0 3 6 rfl rfl rfl rfl rfl rfl rfl rfl rfl ?_
  refine g_aload_n (pc := 85) X dX1_become_85 1 rfl ?_
  refine g_get (pc := 86) X (v := .ref (a2 4)) fl_X1_28 dX1_become_86 1 0 rfl rfl rfl ?_
  refine g_iconst (v := 0) (pc := 89) X dX1_become_89 (by decide) ?_
  refine g_aload_n (pc := 90) X dX1_become_90 0 rfl ?_
  refine g_get (pc := 91) X (v := .ref (a1 4)) fl_X1_28 dX1_become_91 0 0 rfl rfl rfl ?_
  refine g_iconst (v := 0) (pc := 94) X dX1_become_94 (by decide) ?_
  refine g_bipush (v := 6) (pc := 95) X dX1_become_95 (by decide) ?_
  refine g_copy (pc := 97) X (ss' := [wHR cy a1 (sNs (sHr (sNt (sHd (sTw (sOn (sNl k1 (kNl k2)) (kOn k2)) (kTw k2)) (kHd k2)) (kNt k2)) (kHr k2)) (kNs k2)) (joK k2) (opK k2), wH cy a2 k2]) ml_X1_52 m_copy_n m_copy_s ini_System dX1_become_97 1 4 0 4 6 rfl rfl rfl rfl rfl rfl rfl rfl rfl ?_
  refine g_aload_n (pc := 100) X dX1_become_100 1 rfl ?_
  refine g_get (pc := 101) X (v := .ref (a2 5)) fl_X1_34 dX1_become_101 1 0 rfl rfl rfl ?_
  refine g_iconst (v := 0) (pc := 104) X dX1_become_104 (by decide) ?_
  refine g_aload_n (pc := 105) X dX1_become_105 0 rfl ?_
  refine g_get (pc := 106) X (v := .ref (a1 5)) fl_X1_34 dX1_become_106 0 0 rfl rfl rfl ?_
  refine g_iconst (v := 0) (pc := 109) X dX1_become_109 (by decide) ?_
  refine g_bipush (v := 8) (pc := 110) X dX1_become_110 (by decide) ?_
  refine g_copy (pc := 112) X (ss' := [wHR cy a1 (sNs (sHr (sKi (sNt (sHd (sTw (sOn (sNl k1 (kNl k2)) (kOn k2)) (kTw k2)) (kHd k2)) (kNt k2)) (kKi k2)) (kHr k2)) (kNs k2)) (joK k2) (opK k2), wH cy a2 k2]) ml_X1_52 m_copy_n m_copy_s ini_System dX1_become_112 1 5 0 5 8 rfl rfl rfl rfl rfl rfl rfl rfl rfl ?_
  refine g_aload_n (pc := 115) X dX1_become_115 1 rfl ?_
  refine g_get (pc := 116) X (v := .ref (a2 6)) fl_X1_37 dX1_become_116 1 0 rfl rfl rfl ?_
  refine g_iconst (v := 0) (pc := 119) X dX1_become_119 (by decide) ?_
  refine g_aload_n (pc := 120) X dX1_become_120 0 rfl ?_
  refine g_get (pc := 121) X (v := .ref (a1 6)) fl_X1_37 dX1_become_121 0 0 rfl rfl rfl ?_
  refine g_iconst (v := 0) (pc := 124) X dX1_become_124 (by decide) ?_
  refine g_bipush (v := 8) (pc := 125) X dX1_become_125 (by decide) ?_
  refine g_copy (pc := 127) X (ss' := [wHR cy a1 (sNs (sHr (sRo (sKi (sNt (sHd (sTw (sOn (sNl k1 (kNl k2)) (kOn k2)) (kTw k2)) (kHd k2)) (kNt k2)) (kKi k2)) (kRo k2)) (kHr k2)) (kNs k2)) (joK k2) (opK k2), wH cy a2 k2]) ml_X1_52 m_copy_n m_copy_s ini_System dX1_become_127 1 6 0 6 8 rfl rfl rfl rfl rfl rfl rfl rfl rfl ?_
  refine g_aload_n (pc := 130) X dX1_become_130 1 rfl ?_
  refine g_get (pc := 131) X (v := .ref (a2 7)) fl_X1_40 dX1_become_131 1 0 rfl rfl rfl ?_
  refine g_iconst (v := 0) (pc := 134) X dX1_become_134 (by decide) ?_
  refine g_aload_n (pc := 135) X dX1_become_135 0 rfl ?_
  refine g_get (pc := 136) X (v := .ref (a1 7)) fl_X1_40 dX1_become_136 0 0 rfl rfl rfl ?_
  refine g_iconst (v := 0) (pc := 139) X dX1_become_139 (by decide) ?_
  refine g_bipush (v := 8) (pc := 140) X dX1_become_140 (by decide) ?_
  refine g_copy (pc := 142) X (ss' := [wHR cy a1 (sNs (sHr (sOt (sRo (sKi (sNt (sHd (sTw (sOn (sNl k1 (kNl k2)) (kOn k2)) (kTw k2)) (kHd k2)) (kNt k2)) (kKi k2)) (kRo k2)) (kOt k2)) (kHr k2)) (kNs k2)) (joK k2) (opK k2), wH cy a2 k2]) ml_X1_52 m_copy_n m_copy_s ini_System dX1_become_142 1 7 0 7 8 rfl rfl rfl rfl rfl rfl rfl rfl rfl ?_
  refine g_aload_n (pc := 145) X dX1_become_145 1 rfl ?_
  refine g_get (pc := 146) X (v := .ref (a2 8)) fl_X1_49 dX1_become_146 1 0 rfl rfl rfl ?_
  refine g_iconst (v := 0) (pc := 149) X dX1_become_149 (by decide) ?_
  refine g_aload_n (pc := 150) X dX1_become_150 0 rfl ?_
  refine g_get (pc := 151) X (v := .ref (a1 8)) fl_X1_49 dX1_become_151 0 0 rfl rfl rfl ?_
  refine g_iconst (v := 0) (pc := 154) X dX1_become_154 (by decide) ?_
  refine g_bipush (v := 8) (pc := 155) X dX1_become_155 (by decide) ?_
  refine g_copy (pc := 157) X (ss' := [wHR cy a1 (sSe (sNs (sHr (sOt (sRo (sKi (sNt (sHd (sTw (sOn (sNl k1 (kNl k2)) (kOn k2)) (kTw k2)) (kHd k2)) (kNt k2)) (kKi k2)) (kRo k2)) (kOt k2)) (kHr k2)) (kNs k2)) (kSe k2)) (joK k2) (opK k2), wH cy a2 k2]) ml_X1_52 m_copy_n m_copy_s ini_System dX1_become_157 1 8 0 8 8 rfl rfl rfl rfl rfl rfl rfl rfl rfl ?_
  exact g_vret (pc := 160) X rfl dX1_become_160 rfl
set_option maxRecDepth 100000 in
set_option maxHeartbeats 4000000 in
theorem c_X1_obey (l : Launch) (D : va_G) (cy : ClassId) (ad : Nat → Nat) (k : KV) (o : Int32) (a : Int32) (b : Int32) (hw : KW k) : CtI l yX1_obey cX1_obey 4 .boolean 4 152 D cy [.ref (ad 0), .int (o), .int (a), .int (b)] [wH cy ad k] [wH cy ad (obK k o a b)] (bI (obB k o a b)) := by
  refine ctI_of (by decide +kernel) (Nat.le_of_ble_eq_true rfl) (fun p_ e_ s_ m_ args_ below_ meth_ c_ A_ X => ?_)
  refine g_lv X (lv' := [(0, .ref (ad 0)), (1, .int (o)), (2, .int (a)), (3, .int (b))]) [0, 1, 2, 3] rfl ?_
  refine g_iload_n (pc := 0) X dX1_obey_0 1 rfl ?_
  by_cases e1_99 : o = (99 : Int32)
  · refine g_top X e1_99 ?_
    refine g_lookup (pc := 1) (off := 64) (tgt := 65) X dX1_obey_1 (by decide) (by decide) (by decide) ?_
    refine g_aload_n (pc := 65) X dX1_obey_65 0 rfl ?_
    refine g_iload_n (pc := 66) X dX1_obey_66 2 rfl ?_
    refine g_callS (pc := 67) (rest := [.ref (ad 0)]) X (c_X2_digit l D cy a ) sl_X1_78 dX1_obey_67 rfl rfl rfl rfl rfl ⟨Nat.zero_le _, Nat.zero_le _⟩ ?_
    refine g_callV (pc := 70) (rest := []) (ss' := [wH cy ad (tgK k (dgI a))]) X (c_X1_toggle l D cy ad k (dgI a) hw.1 hw.2.1) vl_X1_87 dX1_obey_70 [0] 0 0 rfl rfl rfl rfl rfl rfl (ads_c (ads_H _ _ _ _ _ _ _ _) rfl) rfl rfl rfl rfl rfl rfl ⟨Nat.zero_le _, Nat.zero_le _⟩ ?_
    generalize hqk70_1 : tgK k (dgI a) = k70_1
    subst hqk70_1
    exact g_iret (pc := 73) X rfl dX1_obey_73 (nar_b _) (by rw [obB, if_pos e1_99]) (by rw [obK, if_pos e1_99])
  by_cases e1_108 : o = (108 : Int32)
  · refine g_top X e1_108 ?_
    refine g_lookup (pc := 1) (off := 51) (tgt := 52) X dX1_obey_1 (by decide) (by decide) (by decide) ?_
    refine g_aload_n (pc := 52) X dX1_obey_52 0 rfl ?_
    refine g_iload_n (pc := 53) X dX1_obey_53 2 rfl ?_
    refine g_callS (pc := 54) (rest := [.ref (ad 0)]) X (c_X2_digit l D cy a ) sl_X1_78 dX1_obey_54 rfl rfl rfl rfl rfl ⟨Nat.zero_le _, Nat.zero_le _⟩ ?_
    refine g_iload_n (pc := 57) X dX1_obey_57 3 rfl ?_
    refine g_callS (pc := 58) (rest := [.int (dgI a), .ref (ad 0)]) X (c_X2_digit l D cy b ) sl_X1_78 dX1_obey_58 rfl rfl rfl rfl rfl ⟨Nat.zero_le _, Nat.zero_le _⟩ ?_
    refine g_callV (pc := 61) (rest := []) (ss' := [wH cy ad (alK k (dgI a) (dgI b))]) X (c_X1_addLine l D cy ad k (dgI a) (dgI b) hw.1.1 (fun h => hw.2.2.1 _ (Nat.le_refl _) h)) vl_X1_83 dX1_obey_61 [0] 0 0 rfl rfl rfl rfl rfl rfl (ads_c (ads_H _ _ _ _ _ _ _ _) rfl) rfl rfl rfl rfl rfl rfl ⟨Nat.zero_le _, Nat.zero_le _⟩ ?_
    generalize hqk61_2 : alK k (dgI a) (dgI b) = k61_2
    subst hqk61_2
    exact g_iret (pc := 64) X rfl dX1_obey_64 (nar_b _) (by rw [obB, if_neg (by rw [e1_108]; decide), if_pos e1_108]) (by rw [obK, if_neg (by rw [e1_108]; decide), if_pos e1_108])
  by_cases e1_109 : o = (109 : Int32)
  · refine g_top X e1_109 ?_
    refine g_lookup (pc := 1) (off := 99) (tgt := 100) X dX1_obey_1 (by decide) (by decide) (by decide) ?_
    refine g_aload_n (pc := 100) X dX1_obey_100 0 rfl ?_
    refine g_iload_n (pc := 101) X dX1_obey_101 2 rfl ?_
    refine g_callS (pc := 102) (rest := [.ref (ad 0)]) X (c_X2_digit l D cy a ) sl_X1_78 dX1_obey_102 rfl rfl rfl rfl rfl ⟨Nat.zero_le _, Nat.zero_le _⟩ ?_
    refine g_iload_n (pc := 105) X dX1_obey_105 3 rfl ?_
    refine g_callS (pc := 106) (rest := [.int (dgI a), .ref (ad 0)]) X (c_X2_digit l D cy b ) sl_X1_78 dX1_obey_106 rfl rfl rfl rfl rfl ⟨Nat.zero_le _, Nat.zero_le _⟩ ?_
    refine g_callV (pc := 109) (rest := []) (ss' := [wH cy ad (brK k (dgI a) (dgI b))]) X (c_X1_bring l D cy ad k (dgI a) (dgI b) hw.2.2.2.2.2.1) vl_X1_99 dX1_obey_109 [0] 0 0 rfl rfl rfl rfl rfl rfl (ads_c (ads_H _ _ _ _ _ _ _ _) rfl) rfl rfl rfl rfl rfl rfl ⟨Nat.zero_le _, Nat.zero_le _⟩ ?_
    generalize hqk109_3 : brK k (dgI a) (dgI b) = k109_3
    subst hqk109_3
    exact g_iret (pc := 112) X rfl dX1_obey_112 (nar_b _) (by rw [obB, if_neg (by rw [e1_109]; decide), if_neg (by rw [e1_109]; decide), if_pos e1_109]) (by rw [obK, if_neg (by rw [e1_109]; decide), if_neg (by rw [e1_109]; decide), if_pos e1_109])
  by_cases e1_111 : o = (111 : Int32)
  · refine g_top X e1_111 ?_
    refine g_lookup (pc := 1) (off := 86) (tgt := 87) X dX1_obey_1 (by decide) (by decide) (by decide) ?_
    refine g_aload_n (pc := 87) X dX1_obey_87 0 rfl ?_
    refine g_iload_n (pc := 88) X dX1_obey_88 2 rfl ?_
    refine g_callS (pc := 89) (rest := [.ref (ad 0)]) X (c_X2_digit l D cy a ) sl_X1_78 dX1_obey_89 rfl rfl rfl rfl rfl ⟨Nat.zero_le _, Nat.zero_le _⟩ ?_
    refine g_iload_n (pc := 92) X dX1_obey_92 3 rfl ?_
    refine g_callS (pc := 93) (rest := [.int (dgI a), .ref (ad 0)]) X (c_X2_digit l D cy b ) sl_X1_78 dX1_obey_93 rfl rfl rfl rfl rfl ⟨Nat.zero_le _, Nat.zero_le _⟩ ?_
    refine g_callV (pc := 96) (rest := []) (ss' := [wH cy ad (acK k (dgI a) (dgI b))]) X (c_X1_acquaint l D cy ad k (dgI a) (dgI b) hw.2.2.2.2.2.1) vl_X1_96 dX1_obey_96 [0] 0 0 rfl rfl rfl rfl rfl rfl (ads_c (ads_H _ _ _ _ _ _ _ _) rfl) rfl rfl rfl rfl rfl rfl ⟨Nat.zero_le _, Nat.zero_le _⟩ ?_
    generalize hqk96_4 : acK k (dgI a) (dgI b) = k96_4
    subst hqk96_4
    exact g_iret (pc := 99) X rfl dX1_obey_99 (nar_b _) (by rw [obB, if_neg (by rw [e1_111]; decide), if_neg (by rw [e1_111]; decide), if_neg (by rw [e1_111]; decide), if_pos e1_111]) (by rw [obK, if_neg (by rw [e1_111]; decide), if_neg (by rw [e1_111]; decide), if_neg (by rw [e1_111]; decide), if_pos e1_111])
  by_cases e1_116 : o = (116 : Int32)
  · refine g_top X e1_116 ?_
    refine g_lookup (pc := 1) (off := 73) (tgt := 74) X dX1_obey_1 (by decide) (by decide) (by decide) ?_
    refine g_aload_n (pc := 74) X dX1_obey_74 0 rfl ?_
    refine g_iload_n (pc := 75) X dX1_obey_75 2 rfl ?_
    refine g_callS (pc := 76) (rest := [.ref (ad 0)]) X (c_X2_kind l D cy a ) sl_X1_90 dX1_obey_76 rfl rfl rfl rfl rfl ⟨Nat.zero_le _, Nat.zero_le _⟩ ?_
    refine g_iload_n (pc := 79) X dX1_obey_79 3 rfl ?_
    refine g_callS (pc := 80) (rest := [.int (kdI a), .ref (ad 0)]) X (c_X2_digit l D cy b ) sl_X1_78 dX1_obey_80 rfl rfl rfl rfl rfl ⟨Nat.zero_le _, Nat.zero_le _⟩ ?_
    refine g_callV (pc := 83) (rest := []) (ss' := [wH cy ad (atK k (kdI a) (dgI b))]) X (c_X1_addThing l D cy ad k (kdI a) (dgI b) hw.2.2.2.2.2.1) vl_X1_93 dX1_obey_83 [0] 0 0 rfl rfl rfl rfl rfl rfl (ads_c (ads_H _ _ _ _ _ _ _ _) rfl) rfl rfl rfl rfl rfl rfl ⟨Nat.zero_le _, Nat.zero_le _⟩ ?_
    generalize hqk83_5 : atK k (kdI a) (dgI b) = k83_5
    subst hqk83_5
    exact g_iret (pc := 86) X rfl dX1_obey_86 (nar_b _) (by rw [obB, if_neg (by rw [e1_116]; decide), if_neg (by rw [e1_116]; decide), if_neg (by rw [e1_116]; decide), if_neg (by rw [e1_116]; decide), if_pos e1_116]) (by rw [obK, if_neg (by rw [e1_116]; decide), if_neg (by rw [e1_116]; decide), if_neg (by rw [e1_116]; decide), if_neg (by rw [e1_116]; decide), if_pos e1_116])
  refine g_lookup (pc := 1) (off := 112) (tgt := 113) X dX1_obey_1 (by decide) ((lv_osw e1_99 (by decide)).trans ((lv_osw e1_108 (by decide)).trans ((lv_osw e1_109 (by decide)).trans ((lv_osw e1_111 (by decide)).trans ((lv_osw e1_116 (by decide)).trans (rfl)))))) (by decide) ?_
  refine g_aload_n (pc := 113) X dX1_obey_113 0 rfl ?_
  refine g_iload_n (pc := 114) X dX1_obey_114 2 rfl ?_
  refine g_callS (pc := 115) (rest := [.ref (ad 0)]) X (c_X2_digit l D cy a ) sl_X1_78 dX1_obey_115 rfl rfl rfl rfl rfl ⟨Nat.zero_le _, Nat.zero_le _⟩ ?_
  refine g_callV (pc := 118) (rest := []) (ss' := [wH cy ad (stK k (dgI a))]) X (c_X1_strike l D cy ad k (dgI a) ) vl_X1_102 dX1_obey_118 [0] 0 0 rfl rfl rfl rfl rfl rfl (ads_c (ads_H _ _ _ _ _ _ _ _) rfl) rfl rfl rfl rfl rfl rfl ⟨Nat.zero_le _, Nat.zero_le _⟩ ?_
  generalize hqk118_6 : stK k (dgI a) = k118_6
  subst hqk118_6
  exact g_iret (pc := 121) X rfl dX1_obey_121 (nar_b _) (by rw [obB, if_neg e1_99, if_neg e1_108, if_neg e1_109, if_neg e1_111, if_neg e1_116]) (by rw [obK, if_neg e1_99, if_neg e1_108, if_neg e1_109, if_neg e1_111, if_neg e1_116])
