/-! the JDK's indexOf over the text of kinds -/
def kiI (c : Int32) : Int32 := if c = 116 then 0 else if c = 119 then 1 else if c = 115 then 2 else if c = 98 then 3 else if c = 110 then 4 else if c = 109 then 5 else -1
theorem ts_b8 : ∀ n, n < 256 → ∀ i, i < 6 → (tsF i = (nI n).toInt8.toInt32 ↔ tsF i = nI n) := by decide +kernel
theorem ts_b {x : Int32} {i : Nat} (hi : i < 6) (h0 : 0 ≤ x) (h1 : x ≤ 255) : tsF i = x.toInt8.toInt32 ↔ tsF i = x := by
  obtain ⟨n, hn, rfl⟩ := in_lt (n := 256) (by omega) h0 (Int32.lt_of_le_of_lt h1 (by decide))
  exact ts_b8 n hn i hi
theorem ki_f {x : Int32} {i : Nat} (hi : i < 6) (h : tsF i = x) : kiI x = nI i := by
  subst h
  have : ∀ i, i < 6 → kiI (tsF i) = nI i := by decide +kernel
  exact this i hi
theorem ki_n {x : Int32} (h : ∀ j, j < 6 → tsF j ≠ x) : kiI x = -1 := by
  unfold kiI
  rw [if_neg (fun e => h 0 (by omega) e.symm), if_neg (fun e => h 1 (by omega) e.symm), if_neg (fun e => h 2 (by omega) e.symm), if_neg (fun e => h 3 (by omega) e.symm), if_neg (fun e => h 4 (by omega) e.symm), if_neg (fun e => h 5 (by omega) e.symm)]
theorem ki_out {x : Int32} (h : ¬ (0 ≤ x ∧ x ≤ 255)) : kiI x = -1 := ki_n (fun j hj e => h (by
  subst e
  have : ∀ j, j < 6 → 0 ≤ tsF j ∧ tsF j ≤ 255 := by decide +kernel
  exact this j hj))
set_option maxRecDepth 100000 in
set_option maxHeartbeats 4000000 in
theorem c_J1_canEncode_9a6ad (l : Launch) (D : va_G) (cy : ClassId) (x : Int32) : CtI l yJ1_canEncode_9a6ad cJ1_canEncode_9a6ad 1 .boolean 0 64 D cy [.int (x)] [] [] (bI (wiB x 0 255)) := by
  refine ctI_of (by decide +kernel) (Nat.le_of_ble_eq_true rfl) (fun p_ e_ s_ m_ args_ below_ meth_ c_ A_ X => ?_)
  refine g_lv X (lv' := [(0, .int (x))]) [0] rfl ?_
  refine g_iload_n (pc := 0) X dJ1_canEncode_9a6ad_0 0 rfl ?_
  refine g_if_lt (pc := 1) (tgt := 15) X dJ1_canEncode_9a6ad_1 (by decide) (fun c1 => ?_) (fun c1 => ?_)
  · refine g_iconst (v := 0) (pc := 15) X dJ1_canEncode_9a6ad_15 (by decide) ?_
    exact g_iret (pc := 16) X rfl dJ1_canEncode_9a6ad_16 rfl (by first | exact bI_t (decide_eq_true ⟨c1, c8⟩) | exact bI_f (decide_eq_false (fun h => absurd h.2 (Int32.not_le.mpr c8))) | exact bI_f (decide_eq_false (fun h => absurd h.1 (Int32.not_le.mpr c1))) | done) rfl
  · have n1 := Int32.not_lt.mpr c1
    refine g_iload_n (pc := 4) X dJ1_canEncode_9a6ad_4 0 rfl ?_
    refine g_sipush (v := 255) (pc := 5) X dJ1_canEncode_9a6ad_5 (by decide) ?_
    refine g_icmp_gt (pc := 8) (tgt := 15) X dJ1_canEncode_9a6ad_8 (by decide) (fun c8 => ?_) (fun c8 => ?_)
    · refine g_iconst (v := 0) (pc := 15) X dJ1_canEncode_9a6ad_15 (by decide) ?_
      exact g_iret (pc := 16) X rfl dJ1_canEncode_9a6ad_16 rfl (by first | exact bI_t (decide_eq_true ⟨c1, c8⟩) | exact bI_f (decide_eq_false (fun h => absurd h.2 (Int32.not_le.mpr c8))) | exact bI_f (decide_eq_false (fun h => absurd h.1 (Int32.not_le.mpr c1))) | done) rfl
    · have n8 := Int32.not_lt.mpr c8
      refine g_iconst (v := 1) (pc := 11) X dJ1_canEncode_9a6ad_11 (by decide) ?_
      refine g_goto (pc := 12) (tgt := 16) X dJ1_canEncode_9a6ad_12 (by decide) ?_
      exact g_iret (pc := 16) X rfl dJ1_canEncode_9a6ad_16 rfl (by first | exact bI_t (decide_eq_true ⟨c1, c8⟩) | exact bI_f (decide_eq_false (fun h => absurd h.2 (Int32.not_le.mpr c8))) | exact bI_f (decide_eq_false (fun h => absurd h.1 (Int32.not_le.mpr c1))) | done) rfl
set_option maxRecDepth 100000 in
set_option maxHeartbeats 4000000 in
theorem c_J0_coder_7d493 (l : Launch) (D : va_G) (cy : ClassId) (q_ t_ : Nat) : CtZ l yJ0_coder_7d493 cJ0_coder_7d493 1 .byte 0 64 D cy q_ t_ [.ref (q_)] [] (fun (u_ : (Unit)) => []) (0) := by
  refine ctZ_of (by decide +kernel) (Nat.le_of_ble_eq_true rfl) (fun p_ e_ s_ m_ args_ below_ meth_ c_ A_ X hZ => ?_)
  refine g_lv X (lv' := [(0, .ref (q_))]) [0] rfl ?_
  refine g_zstat (pc := 0) X hZ fz_38 dJ0_coder_7d493_0 ?_
  refine g_if_eq (pc := 3) (tgt := 13) X dJ0_coder_7d493_3 (by decide) (fun c3 => by exact absurd c3 (by decide)) (fun c3 => ?_)
  refine g_aload_n (pc := 6) X dJ0_coder_7d493_6 0 rfl ?_
  refine g_zcoder (pc := 7) X hZ fz_15 dJ0_coder_7d493_7 ?_
  refine g_goto (pc := 10) (tgt := 14) X dJ0_coder_7d493_10 (by decide) ?_
  exact g_iretE (pc := 14) X (()) rfl dJ0_coder_7d493_14 rfl rfl rfl
set_option maxRecDepth 100000 in
set_option maxHeartbeats 4000000 in
theorem c_J0_isLatin1_aae02 (l : Launch) (D : va_G) (cy : ClassId) (q_ t_ : Nat) : CtZ l yJ0_isLatin1_aae02 cJ0_isLatin1_aae02 1 .boolean 0 64 D cy q_ t_ [.ref (q_)] [] (fun (u_ : (Unit)) => []) (1) := by
  refine ctZ_of (by decide +kernel) (Nat.le_of_ble_eq_true rfl) (fun p_ e_ s_ m_ args_ below_ meth_ c_ A_ X hZ => ?_)
  refine g_lv X (lv' := [(0, .ref (q_))]) [0] rfl ?_
  refine g_zstat (pc := 0) X hZ fz_38 dJ0_isLatin1_aae02_0 ?_
  refine g_if_eq (pc := 3) (tgt := 17) X dJ0_isLatin1_aae02_3 (by decide) (fun c3 => by exact absurd c3 (by decide)) (fun c3 => ?_)
  refine g_aload_n (pc := 6) X dJ0_isLatin1_aae02_6 0 rfl ?_
  refine g_zcoder (pc := 7) X hZ fz_15 dJ0_isLatin1_aae02_7 ?_
  refine g_if_ne (pc := 10) (tgt := 17) X dJ0_isLatin1_aae02_10 (by decide) (fun c10 => by exact absurd rfl c10) (fun c10 => ?_)
  refine g_iconst (v := 1) (pc := 13) X dJ0_isLatin1_aae02_13 (by decide) ?_
  refine g_goto (pc := 14) (tgt := 18) X dJ0_isLatin1_aae02_14 (by decide) ?_
  exact g_iretE (pc := 18) X (()) rfl dJ0_isLatin1_aae02_18 rfl rfl rfl
set_option maxRecDepth 100000 in
set_option maxHeartbeats 4000000 in
theorem c_J0_length_8abf5 (l : Launch) (D : va_G) (cy : ClassId) (q_ t_ : Nat) : CtZ l yJ0_length_8abf5 cJ0_length_8abf5 1 .int 1 84 D cy q_ t_ [.ref (q_)] [] (fun (u_ : (Unit)) => []) (6) := by
  refine ctZ_of (by decide +kernel) (Nat.le_of_ble_eq_true rfl) (fun p_ e_ s_ m_ args_ below_ meth_ c_ A_ X hZ => ?_)
  refine g_lv X (lv' := [(0, .ref (q_))]) [0] rfl ?_
  refine g_aload_n (pc := 0) X dJ0_length_8abf5_0 0 rfl ?_
  refine g_zvalue (pc := 1) X hZ fz_9 dJ0_length_8abf5_1 ?_
  refine g_zlen (pc := 4) X hZ dJ0_length_8abf5_4 ?_
  refine g_aload_n (pc := 5) X dJ0_length_8abf5_5 0 rfl ?_
  refine g_callJV (pc := 6) (rest := [.int (6)]) X hZ (c_J0_coder_7d493 l D cy q_ t_  ) vl_J0_335 rfl dJ0_length_8abf5_6 rfl rfl rfl rfl rfl ⟨Nat.zero_le _, Nat.zero_le _⟩ ?_
  refine g_ishr (v := 6) (pc := 9) X dJ0_length_8abf5_9 (by decide) ?_
  exact g_iretE (pc := 10) X (()) rfl dJ0_length_8abf5_10 rfl rfl rfl
set_option maxRecDepth 100000 in
set_option maxHeartbeats 4000000 in
theorem c_J1_indexOfChar_4cfef (l : Launch) (D : va_G) (cy : ClassId) (q_ t_ : Nat) (x : Int32) (hx0 : 0 ≤ x) (hx1 : x ≤ 255) : CtZ l yJ1_indexOfChar_4cfef cJ1_indexOfChar_4cfef 6 .int 0 64 D cy q_ t_ [.ref (t_), .int (x), .int (0), .int (6)] [] (fun (u_ : (Unit)) => []) (kiI x) := by
  refine ctZ_of (by decide +kernel) (Nat.le_of_ble_eq_true rfl) (fun p_ e_ s_ m_ args_ below_ meth_ c_ A_ X hZ => ?_)
  refine g_lv X (lv' := [(0, .ref (t_)), (1, .int (x)), (2, .int (0)), (3, .int (6))]) [0, 1, 2, 3] rfl ?_
  refine g_iload_n (pc := 0) X dJ1_indexOfChar_4cfef_0 1 rfl ?_
  refine g_i2b (pc := 1) (v := x.toInt8.toInt32) X dJ1_indexOfChar_4cfef_1 rfl ?_
  refine g_istore (lv' := [(4, .int (x.toInt8.toInt32)), (0, .ref (t_)), (1, .int (x)), (2, .int (0)), (3, .int (6))]) (pc := 2) X dJ1_indexOfChar_4cfef_2 rfl rfl ?_
  refine g_iload_n (pc := 4) X dJ1_indexOfChar_4cfef_4 3 rfl ?_
  refine g_istore (lv' := [(5, .int (0)), (4, .int (x.toInt8.toInt32)), (0, .ref (t_)), (1, .int (x)), (2, .int (0)), (3, .int (6))]) (pc := 5) X dJ1_indexOfChar_4cfef_5 rfl rfl ?_
  have L7_1 : ∀ (fu_ : Nat) (i : Nat) (hi : i ≤ 6) (hn : ∀ j, j < i → tsF j ≠ x) (hm : 6 - i < fu_), G p_ l e_ { frames := 0, cells := 0, slots := 0, locals := 64 } s_ m_ args_ below_ meth_ c_ 6 D A_ 0 0 (QIE below_ args_ s_ D A_ (fun (u_ : (Unit)) => []) (kiI x)) [] 7 [(0, .ref (t_)), (1, .int (x)), (2, .int (0)), (3, .int (6)), (4, .int (x.toInt8.toInt32)), (5, .int (nI i))] [] := by
    intro fu_
    induction fu_ with
    | zero => intro i hi hn hm; exact absurd hm (Nat.not_lt_zero _)
    | succ fu_ ih =>
      intro i hi hn hm
      have ih7 := ih
      clear ih
      refine g_iload (pc := 7) X dJ1_indexOfChar_4cfef_7 5 rfl ?_
      refine g_iload_n (pc := 9) X dJ1_indexOfChar_4cfef_9 3 rfl ?_
      refine g_ncmp_ge (pc := 10) (tgt := 31) X dJ1_indexOfChar_4cfef_10 (by decide) i 6 rfl rfl (by omega) (by decide) (fun c10 => ?_) (fun c10 => ?_)
      · have n10 := Nat.not_lt.mpr c10
        refine g_iconst (v := (-1)) (pc := 31) X dJ1_indexOfChar_4cfef_31 (by decide) ?_
        exact g_iretE (pc := 32) X (()) rfl dJ1_indexOfChar_4cfef_32 rfl ((ki_n (fun j hj => hn j (by omega))).symm) rfl
      · refine g_aload_n (pc := 13) X dJ1_indexOfChar_4cfef_13 0 rfl ?_
        refine g_iload (pc := 14) X dJ1_indexOfChar_4cfef_14 5 rfl ?_
        refine g_zbald (pc := 16) X hZ (by omega) dJ1_indexOfChar_4cfef_16 ?_
        refine g_iload (pc := 17) X dJ1_indexOfChar_4cfef_17 4 rfl ?_
        refine g_icmp_ne (pc := 19) (tgt := 25) X dJ1_indexOfChar_4cfef_19 (by decide) (fun c19 => ?_) (fun c19 => ?_)
        · refine g_iinc (v := nI (i + 1)) (lv' := [(5, .int (nI (i + 1))), (0, .ref (t_)), (1, .int (x)), (2, .int (0)), (3, .int (6)), (4, .int (x.toInt8.toInt32))]) (pc := 25) X dJ1_indexOfChar_4cfef_25 5 rfl (nI_1 i) rfl rfl ?_
          refine g_goto (pc := 28) (tgt := 7) X dJ1_indexOfChar_4cfef_28 (by decide) ?_
          refine g_lv X (lv' := [(0, .ref (t_)), (1, .int (x)), (2, .int (0)), (3, .int (6)), (4, .int (x.toInt8.toInt32)), (5, .int (nI (i + 1)))]) [1, 2, 3, 4, 5, 0] rfl ?_
          exact ih7 (i + 1) c10 (fun j hj => by by_cases e : j = i; (rw [e]; exact fun z => c19 ((ts_b c10 hx0 hx1).mpr z)); (exact hn j (by omega))) (by omega)
        · refine g_iload (pc := 22) X dJ1_indexOfChar_4cfef_22 5 rfl ?_
          exact g_iretE (pc := 24) X (()) rfl dJ1_indexOfChar_4cfef_24 rfl ((ki_f c10 ((ts_b c10 hx0 hx1).mp c19)).symm) rfl
  refine g_lv X (lv' := [(0, .ref (t_)), (1, .int (x)), (2, .int (0)), (3, .int (6)), (4, .int (x.toInt8.toInt32)), (5, .int (0))]) [2, 3, 4, 5, 1, 0] rfl ?_
  exact L7_1 (6 - 0 + 1) 0 (Nat.zero_le _) (fun j h => absurd h (Nat.not_lt_zero j)) (Nat.lt_succ_self _)
set_option maxRecDepth 100000 in
set_option maxHeartbeats 4000000 in
theorem c_J1_indexOf_4cfef (l : Launch) (D : va_G) (cy : ClassId) (q_ t_ : Nat) (x : Int32) : CtZ l yJ1_indexOf_4cfef cJ1_indexOf_4cfef 4 .int 2 96 D cy q_ t_ [.ref (t_), .int (x), .int (0), .int (6)] [] (fun (u_ : (Unit)) => []) (kiI x) := by
  refine ctZ_of (by decide +kernel) (Nat.le_of_ble_eq_true rfl) (fun p_ e_ s_ m_ args_ below_ meth_ c_ A_ X hZ => ?_)
  refine g_lv X (lv' := [(0, .ref (t_)), (1, .int (x)), (2, .int (0)), (3, .int (6))]) [0, 1, 2, 3] rfl ?_
  refine g_iload_n (pc := 0) X dJ1_indexOf_4cfef_0 1 rfl ?_
  refine g_callS (pc := 1) (rest := []) X (c_J1_canEncode_9a6ad l D cy x ) sl_J1_88 dJ1_indexOf_4cfef_1 rfl rfl rfl rfl rfl ⟨Nat.zero_le _, Nat.zero_le _⟩ ?_
  refine g_bif_ne (pc := 4) (tgt := 9) X dJ1_indexOf_4cfef_4 (by decide) (fun c4 => ?_) (fun c4 => ?_)
  · have hq : 0 ≤ x ∧ x ≤ 255 := of_decide_eq_true c4
    refine g_iload_n (pc := 9) X dJ1_indexOf_4cfef_9 2 rfl ?_
    refine g_iconst (v := 0) (pc := 10) X dJ1_indexOf_4cfef_10 (by decide) ?_
    refine g_mmax (pc := 11) (v := 0) X ml_J1_92 m_max_s ini_Math m_max_c dJ1_indexOf_4cfef_11 rfl rfl ⟨Nat.zero_le _, Nat.zero_le _⟩ rfl ?_
    refine g_istore_n (lv' := [(2, .int (0)), (0, .ref (t_)), (1, .int (x)), (3, .int (6))]) (pc := 14) X dJ1_indexOf_4cfef_14 rfl rfl rfl ?_
    refine g_iload_n (pc := 15) X dJ1_indexOf_4cfef_15 3 rfl ?_
    refine g_aload_n (pc := 16) X dJ1_indexOf_4cfef_16 1 rfl ?_
    refine g_zlen (pc := 17) X hZ dJ1_indexOf_4cfef_17 ?_
    refine g_mmin (pc := 18) (v := 6) X ml_J1_38 m_min_s ini_Math m_min_c dJ1_indexOf_4cfef_18 rfl rfl ⟨Nat.zero_le _, Nat.zero_le _⟩ rfl ?_
    refine g_istore_n (lv' := [(3, .int (6)), (2, .int (0)), (0, .ref (t_)), (1, .int (x))]) (pc := 21) X dJ1_indexOf_4cfef_21 rfl rfl rfl ?_
    refine g_iload_n (pc := 22) X dJ1_indexOf_4cfef_22 1 rfl ?_
    refine g_iload_n (pc := 23) X dJ1_indexOf_4cfef_23 0 rfl ?_
    refine g_ncmp_lt (pc := 24) (tgt := 29) X dJ1_indexOf_4cfef_24 (by decide) 0 6 rfl rfl (by decide) (by decide) (fun c24 => ?_) (fun c24 => by exact absurd c24 (by decide))
    refine g_aload_n (pc := 29) X dJ1_indexOf_4cfef_29 2 rfl ?_
    refine g_iload_n (pc := 30) X dJ1_indexOf_4cfef_30 3 rfl ?_
    refine g_iload_n (pc := 31) X dJ1_indexOf_4cfef_31 1 rfl ?_
    refine g_iload_n (pc := 32) X dJ1_indexOf_4cfef_32 0 rfl ?_
    refine g_callJS (pc := 33) (rest := []) X hZ (c_J1_indexOfChar_4cfef l D cy q_ t_ x hq.1 hq.2) sl_J1_95 dJ1_indexOf_4cfef_33 rfl rfl rfl rfl rfl ⟨Nat.zero_le _, Nat.zero_le _⟩ ?_
    exact g_iretE (pc := 36) X (()) rfl dJ1_indexOf_4cfef_36 rfl rfl rfl
  · have hq : ¬ (0 ≤ x ∧ x ≤ 255) := of_decide_eq_false c4
    refine g_iconst (v := (-1)) (pc := 7) X dJ1_indexOf_4cfef_7 (by decide) ?_
    exact g_iretE (pc := 8) X (()) rfl dJ1_indexOf_4cfef_8 rfl ((ki_out hq).symm) rfl
set_option maxRecDepth 100000 in
set_option maxHeartbeats 4000000 in
theorem c_J0_indexOf_7cf53 (l : Launch) (D : va_G) (cy : ClassId) (q_ t_ : Nat) (x : Int32) : CtZ l yJ0_indexOf_7cf53 cJ0_indexOf_7cf53 3 .int 3 119 D cy q_ t_ [.ref (q_), .int (x), .int (0)] [] (fun (u_ : (Unit)) => []) (kiI x) := by
  refine ctZ_of (by decide +kernel) (Nat.le_of_ble_eq_true rfl) (fun p_ e_ s_ m_ args_ below_ meth_ c_ A_ X hZ => ?_)
  refine g_lv X (lv' := [(0, .ref (q_)), (1, .int (x)), (2, .int (0))]) [0, 1, 2] rfl ?_
  refine g_aload_n (pc := 0) X dJ0_indexOf_7cf53_0 0 rfl ?_
  refine g_callJV (pc := 1) (rest := []) X hZ (c_J0_isLatin1_aae02 l D cy q_ t_  ) vl_J0_492 rfl dJ0_indexOf_7cf53_1 rfl rfl rfl rfl rfl ⟨Nat.zero_le _, Nat.zero_le _⟩ ?_
  refine g_if_eq (pc := 4) (tgt := 23) X dJ0_indexOf_7cf53_4 (by decide) (fun c4 => by exact absurd c4 (by decide)) (fun c4 => ?_)
  refine g_aload_n (pc := 7) X dJ0_indexOf_7cf53_7 0 rfl ?_
  refine g_zvalue (pc := 8) X hZ fz_9 dJ0_indexOf_7cf53_8 ?_
  refine g_iload_n (pc := 11) X dJ0_indexOf_7cf53_11 1 rfl ?_
  refine g_iload_n (pc := 12) X dJ0_indexOf_7cf53_12 2 rfl ?_
  refine g_aload_n (pc := 13) X dJ0_indexOf_7cf53_13 0 rfl ?_
  refine g_callJV (pc := 14) (rest := [.int (0), .int (x), .ref (t_)]) X hZ (c_J0_length_8abf5 l D cy q_ t_  ) vl_J0_505 rfl dJ0_indexOf_7cf53_14 rfl rfl rfl rfl rfl ⟨Nat.zero_le _, Nat.zero_le _⟩ ?_
  refine g_callJS (pc := 17) (rest := []) X hZ (c_J1_indexOf_4cfef l D cy q_ t_ x ) sl_J0_637 dJ0_indexOf_7cf53_17 rfl rfl rfl rfl rfl ⟨Nat.zero_le _, Nat.zero_le _⟩ ?_
  refine g_goto (pc := 20) (tgt := 36) X dJ0_indexOf_7cf53_20 (by decide) ?_
  exact g_iretE (pc := 36) X (()) rfl dJ0_indexOf_7cf53_36 rfl rfl rfl
set_option maxRecDepth 100000 in
set_option maxHeartbeats 4000000 in
theorem c_J0_indexOf_0f7a4 (l : Launch) (D : va_G) (cy : ClassId) (q_ t_ : Nat) (x : Int32) : CtZ l yJ0_indexOf_0f7a4 cJ0_indexOf_0f7a4 2 .int 4 141 D cy q_ t_ [.ref (q_), .int (x)] [] (fun (u_ : (Unit)) => []) (kiI x) := by
  refine ctZ_of (by decide +kernel) (Nat.le_of_ble_eq_true rfl) (fun p_ e_ s_ m_ args_ below_ meth_ c_ A_ X hZ => ?_)
  refine g_lv X (lv' := [(0, .ref (q_)), (1, .int (x))]) [0, 1] rfl ?_
  refine g_aload_n (pc := 0) X dJ0_indexOf_0f7a4_0 0 rfl ?_
  refine g_iload_n (pc := 1) X dJ0_indexOf_0f7a4_1 1 rfl ?_
  refine g_iconst (v := 0) (pc := 2) X dJ0_indexOf_0f7a4_2 (by decide) ?_
  refine g_callJV (pc := 3) (rest := []) X hZ (c_J0_indexOf_7cf53 l D cy q_ t_ x ) vl_J0_633 rfl dJ0_indexOf_0f7a4_3 rfl rfl rfl rfl rfl ⟨Nat.zero_le _, Nat.zero_le _⟩ ?_
  exact g_iretE (pc := 6) X (()) rfl dJ0_indexOf_0f7a4_6 rfl rfl rfl
