/-! the reference's reader -/
theorem dg_in {c : Int32} (h1 : ¬ c < 48) (h2 : ¬ 57 < c) : dgI c ≠ -9 ∧ dgI c = c - 48 := by
  have e : dgI c = c - 48 := by rw [dgI, if_neg h1, if_neg h2]
  refine ⟨?_, e⟩
  obtain ⟨j, hj, rfl⟩ := in_lt (n := 58) (by omega) (Int32.le_trans (by decide) (Int32.not_lt.mp h1)) (Int32.lt_of_le_of_lt (Int32.not_lt.mp h2) (by decide))
  have h3 : 48 ≤ j := (nI_leI (a := 48) (by omega) (by omega)).mp (Int32.not_lt.mp h1)
  rw [e, show (48 : Int32) = nI 48 from rfl, pk_sub h3]
  exact nI_n9 (by omega)
theorem ki_yes {c : Int32} (h : 0 ≤ kiI c) : kdI c ≠ -9 ∧ kiI c = kdI c := by
  by_cases q : kdI c = -9
  · exfalso
    have : kiI c = -1 := ki_n (fun j hj e => by
      subst e
      have : ∀ j, j < 6 → kdI (tsF j) ≠ -9 := by decide +kernel
      exact this j hj q)
    rw [this] at h
    exact absurd h (by decide)
  · exact ⟨q, (ki_kd q).2.2⟩
theorem ng_1 : ∀ x, x < 1000 → ¬ (0 : Int32) < -1000 - nI x := by decide +kernel
theorem ng_2 : ∀ x, x < 1000 → ¬ (0 : Int32) < -2000 - nI x := by decide +kernel
set_option maxRecDepth 100000 in
set_option maxHeartbeats 4000000 in
theorem c_X4_is (l : Launch) (D : va_G) (cy : ClassId) (ay : Nat → Nat) (k : KV) (v : MV) (lt : Nat → Int32) (n : Nat) (a : Nat) (x : Int32) (ha : a ≤ n) (h80 : n ≤ 80) : CtI l yX4_is cX4_is 2 .boolean 0 64 D cy [.ref (ay 0), .int (x)] [wM cy ay k (uAt (uLt (uN v n) lt) a)] [wM cy ay k (uAt (uLt (uN v n) lt) (isN lt n a x))] (bI (isB lt n a x)) := by
  refine ctI_of (by decide +kernel) (Nat.le_of_ble_eq_true rfl) (fun p_ e_ s_ m_ args_ below_ meth_ c_ A_ X => ?_)
  refine g_lv X (lv' := [(0, .ref (ay 0)), (1, .int (x))]) [0, 1] rfl ?_
  refine g_aload_n (pc := 0) X dX4_is_0 0 rfl ?_
  refine g_get (pc := 1) X (v := .int (nI a)) fl_X4_70 dX4_is_1 0 0 rfl rfl rfl ?_
  refine g_aload_n (pc := 4) X dX4_is_4 0 rfl ?_
  refine g_get (pc := 5) X (v := .int (nI n)) fl_X4_67 dX4_is_5 0 0 rfl rfl rfl ?_
  refine g_ncmp_eq (pc := 8) (tgt := 24) X dX4_is_8 (by decide) a n rfl rfl (by omega) (by omega) (fun c8 => ?_) (fun c8 => ?_)
  · have hb : isB lt n a x = false := decide_eq_false (fun q => by omega)
    refine g_iconst (v := 0) (pc := 24) X dX4_is_24 (by decide) ?_
    exact g_iret (pc := 25) X rfl dX4_is_25 rfl (by first | exact bI_t hb | exact bI_f hb) (by first | (rw [isN_t hb]; done) | (rw [isN_f hb]; done))
  · refine g_aload_n (pc := 11) X dX4_is_11 0 rfl ?_
    refine g_get (pc := 12) X (v := .ref (ay 7)) fl_X4_28 dX4_is_12 0 0 rfl rfl rfl ?_
    refine g_aload_n (pc := 15) X dX4_is_15 0 rfl ?_
    refine g_get (pc := 16) X (v := .int (nI a)) fl_X4_70 dX4_is_16 0 0 rfl rfl rfl ?_
    refine g_iald_n (pc := 19) (f := lt) X 0 7 dX4_is_19 a rfl rfl rfl (by omega) rfl ?_
    refine g_iload_n (pc := 20) X dX4_is_20 1 rfl ?_
    refine g_icmp_eq (pc := 21) (tgt := 26) X dX4_is_21 (by decide) (fun c21 => ?_) (fun c21 => ?_)
    · have hb : isB lt n a x = true := decide_eq_true ⟨by omega, c21⟩
      refine g_aload_n (pc := 26) X dX4_is_26 0 rfl ?_
      refine g_dup (pc := 27) X dX4_is_27 rfl ?_
      refine g_get (pc := 28) X (v := .int (nI a)) fl_X4_70 dX4_is_28 0 0 rfl rfl rfl ?_
      refine g_iconst (v := 1) (pc := 31) X dX4_is_31 (by decide) ?_
      refine g_iadd (v := nI (a + 1)) (pc := 32) X dX4_is_32 (nI_add a 1) ?_
      refine g_put (pc := 33) X (ss' := [wM cy ay k (uAt (uLt (uN v n) lt) (a + 1))]) fp_X4_70 dX4_is_33 0 0 rfl rfl rfl rfl rfl rfl ?_
      refine g_iconst (v := 1) (pc := 36) X dX4_is_36 (by decide) ?_
      exact g_iret (pc := 37) X rfl dX4_is_37 rfl (by first | exact bI_t hb | exact bI_f hb) (by first | (rw [isN_t hb]; done) | (rw [isN_f hb]; done))
    · have hb : isB lt n a x = false := decide_eq_false (fun q => c21 q.2)
      refine g_iconst (v := 0) (pc := 24) X dX4_is_24 (by decide) ?_
      exact g_iret (pc := 25) X rfl dX4_is_25 rfl (by first | exact bI_t hb | exact bI_f hb) (by first | (rw [isN_t hb]; done) | (rw [isN_f hb]; done))
set_option maxRecDepth 100000 in
set_option maxHeartbeats 4000000 in
theorem c_X4_digit (l : Launch) (D : va_G) (cy : ClassId) (ay : Nat → Nat) (k : KV) (v : MV) (lt : Nat → Int32) (n : Nat) (a : Nat) (w : Nat → Int32) (i : Nat) (ha : a ≤ n) (h80 : n ≤ 80) (hi : i < 2) : CtI l yX4_digit cX4_digit 2 .boolean 0 64 D cy [.ref (ay 0), .int (nI i)] [wM cy ay k (uVa (uAt (uLt (uN v n) lt) a) w)] [wM cy ay k (uVa (uAt (uLt (uN v n) lt) (dgN lt n a)) (dgV lt n a i w))] (bI (dgB lt n a)) := by
  refine ctI_of (by decide +kernel) (Nat.le_of_ble_eq_true rfl) (fun p_ e_ s_ m_ args_ below_ meth_ c_ A_ X => ?_)
  refine g_lv X (lv' := [(0, .ref (ay 0)), (1, .int (nI i))]) [0, 1] rfl ?_
  refine g_aload_n (pc := 0) X dX4_digit_0 0 rfl ?_
  refine g_get (pc := 1) X (v := .int (nI a)) fl_X4_70 dX4_digit_1 0 0 rfl rfl rfl ?_
  refine g_aload_n (pc := 4) X dX4_digit_4 0 rfl ?_
  refine g_get (pc := 5) X (v := .int (nI n)) fl_X4_67 dX4_digit_5 0 0 rfl rfl rfl ?_
  refine g_ncmp_eq (pc := 8) (tgt := 39) X dX4_digit_8 (by decide) a n rfl rfl (by omega) (by omega) (fun c8 => ?_) (fun c8 => ?_)
  · have hb : dgB lt n a = false := decide_eq_false (fun q => by omega)
    refine g_iconst (v := 0) (pc := 39) X dX4_digit_39 (by decide) ?_
    exact g_iret (pc := 40) X rfl dX4_digit_40 rfl (by first | exact bI_t hb | exact bI_f hb) (by first | (rw [dgN_t hb, dgV_t hb]; done) | (rw [dgN_f hb, dgV_f hb]; done))
  · refine g_aload_n (pc := 11) X dX4_digit_11 0 rfl ?_
    refine g_get (pc := 12) X (v := .ref (ay 7)) fl_X4_28 dX4_digit_12 0 0 rfl rfl rfl ?_
    refine g_aload_n (pc := 15) X dX4_digit_15 0 rfl ?_
    refine g_get (pc := 16) X (v := .int (nI a)) fl_X4_70 dX4_digit_16 0 0 rfl rfl rfl ?_
    refine g_iald_n (pc := 19) (f := lt) X 0 7 dX4_digit_19 a rfl rfl rfl (by omega) rfl ?_
    refine g_bipush (v := 48) (pc := 20) X dX4_digit_20 (by decide) ?_
    refine g_icmp_lt (pc := 22) (tgt := 39) X dX4_digit_22 (by decide) (fun c22 => ?_) (fun c22 => ?_)
    · have hb : dgB lt n a = false := decide_eq_false (fun q => q.2 (if_pos c22))
      refine g_iconst (v := 0) (pc := 39) X dX4_digit_39 (by decide) ?_
      exact g_iret (pc := 40) X rfl dX4_digit_40 rfl (by first | exact bI_t hb | exact bI_f hb) (by first | (rw [dgN_t hb, dgV_t hb]; done) | (rw [dgN_f hb, dgV_f hb]; done))
    · have n22 := Int32.not_lt.mpr c22
      refine g_aload_n (pc := 25) X dX4_digit_25 0 rfl ?_
      refine g_get (pc := 26) X (v := .ref (ay 7)) fl_X4_28 dX4_digit_26 0 0 rfl rfl rfl ?_
      refine g_aload_n (pc := 29) X dX4_digit_29 0 rfl ?_
      refine g_get (pc := 30) X (v := .int (nI a)) fl_X4_70 dX4_digit_30 0 0 rfl rfl rfl ?_
      refine g_iald_n (pc := 33) (f := lt) X 0 7 dX4_digit_33 a rfl rfl rfl (by omega) rfl ?_
      refine g_bipush (v := 57) (pc := 34) X dX4_digit_34 (by decide) ?_
      refine g_icmp_le (pc := 36) (tgt := 41) X dX4_digit_36 (by decide) (fun c36 => ?_) (fun c36 => ?_)
      · have n36 := Int32.not_lt.mpr c36
        have hb : dgB lt n a = true := decide_eq_true ⟨by omega, (dg_in n22 n36).1⟩
        refine g_aload_n (pc := 41) X dX4_digit_41 0 rfl ?_
        refine g_get (pc := 42) X (v := .ref (ay 8)) fl_X4_31 dX4_digit_42 0 0 rfl rfl rfl ?_
        refine g_iload_n (pc := 45) X dX4_digit_45 1 rfl ?_
        refine g_aload_n (pc := 46) X dX4_digit_46 0 rfl ?_
        refine g_get (pc := 47) X (v := .ref (ay 7)) fl_X4_28 dX4_digit_47 0 0 rfl rfl rfl ?_
        refine g_aload_n (pc := 50) X dX4_digit_50 0 rfl ?_
        refine g_dup (pc := 51) X dX4_digit_51 rfl ?_
        refine g_get (pc := 52) X (v := .int (nI a)) fl_X4_70 dX4_digit_52 0 0 rfl rfl rfl ?_
        refine g_dup_x1 (pc := 55) X dX4_digit_55 rfl rfl ?_
        refine g_iconst (v := 1) (pc := 56) X dX4_digit_56 (by decide) ?_
        refine g_iadd (v := nI (a + 1)) (pc := 57) X dX4_digit_57 (nI_add a 1) ?_
        refine g_put (pc := 58) X (ss' := [wM cy ay k (uVa (uAt (uLt (uN v n) lt) (a + 1)) w)]) fp_X4_70 dX4_digit_58 0 0 rfl rfl rfl rfl rfl rfl ?_
        refine g_iald_n (pc := 61) (f := lt) X 0 7 dX4_digit_61 a rfl rfl rfl (by omega) rfl ?_
        refine g_bipush (v := 48) (pc := 62) X dX4_digit_62 (by decide) ?_
        refine g_isub (v := dgI (lt a)) (pc := 64) X dX4_digit_64 ((dg_in n22 n36).2.symm) ?_
        refine g_iast_n (pc := 65) X (ss' := [wM cy ay k (uVa (uAt (uLt (uN v n) lt) (a + 1)) (upd w i (dgI (lt a))))]) 0 8 dX4_digit_65 i rfl rfl rfl (by omega) rfl rfl ?_
        refine g_iconst (v := 1) (pc := 66) X dX4_digit_66 (by decide) ?_
        exact g_iret (pc := 67) X rfl dX4_digit_67 rfl (by first | exact bI_t hb | exact bI_f hb) (by first | (rw [dgN_t hb, dgV_t hb]; done) | (rw [dgN_f hb, dgV_f hb]; done))
      · have hb : dgB lt n a = false := decide_eq_false (fun q => q.2 (by rw [dgI, if_neg n22, if_pos c36]))
        refine g_iconst (v := 0) (pc := 39) X dX4_digit_39 (by decide) ?_
        exact g_iret (pc := 40) X rfl dX4_digit_40 rfl (by first | exact bI_t hb | exact bI_f hb) (by first | (rw [dgN_t hb, dgV_t hb]; done) | (rw [dgN_f hb, dgV_f hb]; done))
set_option maxRecDepth 100000 in
set_option maxHeartbeats 4000000 in
theorem c_X4_isOld (l : Launch) (D : va_G) (cy : ClassId) (ay : Nat → Nat) (k : KV) (v : MV) (x : Nat) (y : Nat) (hx : x ≤ 1000) (hy : y ≤ 1000) (h10 : kNl k ≤ 10) : CtI l yX4_isOld cX4_isOld 4 .boolean 2 96 D cy [.ref (ay 0), .int (nI x), .int (nI y)] [wM cy ay k v] [wM cy ay k v] (bI (olF k (nI (min x y)) (nI (max x y)) (kNl k) 0)) := by
  refine ctI_of (by decide +kernel) (Nat.le_of_ble_eq_true rfl) (fun p_ e_ s_ m_ args_ below_ meth_ c_ A_ X => ?_)
  refine g_lv X (lv' := [(0, .ref (ay 0)), (1, .int (nI x)), (2, .int (nI y))]) [0, 1, 2] rfl ?_
  refine g_iconst (v := 0) (pc := 0) X dX4_isOld_0 (by decide) ?_
  refine g_istore_n (lv' := [(3, .int (0)), (0, .ref (ay 0)), (1, .int (nI x)), (2, .int (nI y))]) (pc := 1) X dX4_isOld_1 rfl rfl rfl ?_
  have L2_1 : ∀ (fu_ : Nat) (i : Nat) (hi : i ≤ kNl k) (hq : olF k (nI (min x y)) (nI (max x y)) (kNl k) 0 = olF k (nI (min x y)) (nI (max x y)) (kNl k - i) i) (hm : 11 - i < fu_), G p_ l e_ { frames := 2, cells := 0, slots := 0, locals := 96 } s_ m_ args_ below_ meth_ c_ 4 D A_ 0 0 (QI below_ args_ s_ D A_ [wM cy ay k v] (bI (olF k (nI (min x y)) (nI (max x y)) (kNl k) 0))) [wM cy ay k v] 2 [(0, .ref (ay 0)), (1, .int (nI x)), (2, .int (nI y)), (3, .int (nI i))] [] := by
    intro fu_
    induction fu_ with
    | zero => intro i hi hq hm; exact absurd hm (Nat.not_lt_zero _)
    | succ fu_ ih =>
      intro i hi hq hm
      have ih2 := ih
      clear ih
      refine g_iload_n (pc := 2) X dX4_isOld_2 3 rfl ?_
      refine g_aload_n (pc := 3) X dX4_isOld_3 0 rfl ?_
      refine g_get (pc := 4) X (v := .int (nI (kNl k))) fl_X4_60 dX4_isOld_4 0 0 rfl rfl rfl ?_
      refine g_ncmp_ge (pc := 7) (tgt := 46) X dX4_isOld_7 (by decide) i (kNl k) rfl rfl (by omega) (by omega) (fun c7 => ?_) (fun c7 => ?_)
      · have n7 := Nat.not_lt.mpr c7
        refine g_iconst (v := 0) (pc := 46) X dX4_isOld_46 (by decide) ?_
        exact g_iret (pc := 47) X rfl dX4_isOld_47 rfl (bI_f (by rw [hq, show kNl k - i = 0 by omega]; rfl)) rfl
      · refine g_aload_n (pc := 10) X dX4_isOld_10 0 rfl ?_
        refine g_get (pc := 11) X (v := .ref (ay 1)) fl_X4_7 dX4_isOld_11 0 0 rfl rfl rfl ?_
        refine g_iload_n (pc := 14) X dX4_isOld_14 3 rfl ?_
        refine g_iald_n (pc := 15) (f := kOn k) X 0 1 dX4_isOld_15 i rfl rfl rfl (by omega) rfl ?_
        refine g_iload_n (pc := 16) X dX4_isOld_16 1 rfl ?_
        refine g_iload_n (pc := 17) X dX4_isOld_17 2 rfl ?_
        refine g_mmin (pc := 18) (v := nI (min x y)) X ml_X4_73 m_min_s ini_Math m_min_c dX4_isOld_18 rfl rfl ⟨Nat.zero_le _, Nat.zero_le _⟩ (mmin_n x y hx hy) ?_
        refine g_icmp_ne (pc := 21) (tgt := 40) X dX4_isOld_21 (by decide) (fun c21 => ?_) (fun c21 => ?_)
        · refine g_iinc (v := nI (i + 1)) (lv' := [(3, .int (nI (i + 1))), (0, .ref (ay 0)), (1, .int (nI x)), (2, .int (nI y))]) (pc := 40) X dX4_isOld_40 3 rfl (nI_1 i) rfl rfl ?_
          refine g_goto (pc := 43) (tgt := 2) X dX4_isOld_43 (by decide) ?_
          refine g_lv X (lv' := [(0, .ref (ay 0)), (1, .int (nI x)), (2, .int (nI y)), (3, .int (nI (i + 1)))]) [1, 2, 3, 0] rfl ?_
          exact ih2 (i + 1) c7 (by rw [hq, show kNl k - i = (kNl k - (i + 1)) + 1 by omega, olF, if_neg]; first | exact fun z => c21 z.1 | exact fun z => c35 z.2) (by omega)
        · refine g_aload_n (pc := 24) X dX4_isOld_24 0 rfl ?_
          refine g_get (pc := 25) X (v := .ref (ay 2)) fl_X4_13 dX4_isOld_25 0 0 rfl rfl rfl ?_
          refine g_iload_n (pc := 28) X dX4_isOld_28 3 rfl ?_
          refine g_iald_n (pc := 29) (f := kTw k) X 0 2 dX4_isOld_29 i rfl rfl rfl (by omega) rfl ?_
          refine g_iload_n (pc := 30) X dX4_isOld_30 1 rfl ?_
          refine g_iload_n (pc := 31) X dX4_isOld_31 2 rfl ?_
          refine g_mmax (pc := 32) (v := nI (max x y)) X ml_X4_79 m_max_s ini_Math m_max_c dX4_isOld_32 rfl rfl ⟨Nat.zero_le _, Nat.zero_le _⟩ (mmax_n x y hx hy) ?_
          refine g_icmp_ne (pc := 35) (tgt := 40) X dX4_isOld_35 (by decide) (fun c35 => ?_) (fun c35 => ?_)
          · refine g_iinc (v := nI (i + 1)) (lv' := [(3, .int (nI (i + 1))), (0, .ref (ay 0)), (1, .int (nI x)), (2, .int (nI y))]) (pc := 40) X dX4_isOld_40 3 rfl (nI_1 i) rfl rfl ?_
            refine g_goto (pc := 43) (tgt := 2) X dX4_isOld_43 (by decide) ?_
            refine g_lv X (lv' := [(0, .ref (ay 0)), (1, .int (nI x)), (2, .int (nI y)), (3, .int (nI (i + 1)))]) [1, 2, 3, 0] rfl ?_
            exact ih2 (i + 1) c7 (by rw [hq, show kNl k - i = (kNl k - (i + 1)) + 1 by omega, olF, if_neg]; first | exact fun z => c21 z.1 | exact fun z => c35 z.2) (by omega)
          · refine g_iconst (v := 1) (pc := 38) X dX4_isOld_38 (by decide) ?_
            exact g_iret (pc := 39) X rfl dX4_isOld_39 rfl (bI_t (by rw [hq, show kNl k - i = (kNl k - (i + 1)) + 1 by omega, olF, if_pos ⟨c21, c35⟩])) rfl
  refine g_lv X (lv' := [(0, .ref (ay 0)), (1, .int (nI x)), (2, .int (nI y)), (3, .int (0))]) [1, 2, 3, 0] rfl ?_
  exact L2_1 (11 - 0 + 1) 0 (Nat.zero_le _) rfl (Nat.lt_succ_self _)
set_option maxRecDepth 100000 in
set_option maxHeartbeats 4000000 in
theorem c_X4_statement_0 (l : Launch) (D : va_G) (cy : ClassId) (q_ t_ : Nat) (ay : Nat → Nat) (k : KV) (v : MV) (lt : Nat → Int32) (n : Nat) (a : Nat) (w : Nat → Int32) (ha : a ≤ n) (h80 : n ≤ 80) : CtZ l yX4_statement cX4_statement 6 .int 5 162 D cy q_ t_ [.ref (ay 0), .int (0)] [wM cy ay k (uVa (uAt (uLt (uN v n) lt) a) w)] (fun (u_ : (Nat → Int32)) => [wM cy ay k (uVa (uAt (uLt (uN v n) lt) (a + (stM lt n a).1)) u_)]) (if (stM lt n a).2 then 1 else -1) := by
  refine ctZ_of (by decide +kernel) (Nat.le_of_ble_eq_true rfl) (fun p_ e_ s_ m_ args_ below_ meth_ c_ A_ X hZ => ?_)
  refine g_lv X (lv' := [(0, .ref (ay 0)), (1, .int (0))]) [0, 1] rfl ?_
  refine g_aload_n (pc := 0) X dX4_statement_0 0 rfl ?_
  refine g_bipush (v := 99) (pc := 1) X dX4_statement_1 (by decide) ?_
  refine g_callV (pc := 3) (rest := []) (ss' := [wM cy ay k (uVa (uAt (uLt (uN v n) lt) (isN lt n a 99)) w)]) X (c_X4_is l D cy ay k (uVa (uAt (uLt (uN v n) lt) a) w) lt n a 99 (by first | assumption | omega) (by first | assumption | omega)) vl_X4_82 dX4_statement_3 [0] 0 0 rfl rfl rfl rfl rfl rfl (ads_c (ads_M _ _ _ _ _ _) rfl) rfl rfl rfl rfl rfl rfl ⟨Nat.zero_le _, Nat.zero_le _⟩ ?_
  refine g_bif_eq (pc := 6) (tgt := 59) X dX4_statement_6 (by decide) (fun c6 => ?_) (fun c6 => ?_)
  · refine g_eq X (ss' := [wM cy ay k (uVa (uAt (uLt (uN v n) lt) a) w)]) (by rw [isN_f c6]) ?_
    refine g_aload_n (pc := 59) X dX4_statement_59 0 rfl ?_
    refine g_bipush (v := 104) (pc := 60) X dX4_statement_60 (by decide) ?_
    refine g_callV (pc := 62) (rest := []) (ss' := [wM cy ay k (uVa (uAt (uLt (uN v n) lt) (isN lt n a 104)) w)]) X (c_X4_is l D cy ay k (uVa (uAt (uLt (uN v n) lt) a) w) lt n a 104 (by first | assumption | omega) (by first | assumption | omega)) vl_X4_82 dX4_statement_62 [0] 0 0 rfl rfl rfl rfl rfl rfl (ads_c (ads_M _ _ _ _ _ _) rfl) rfl rfl rfl rfl rfl rfl ⟨Nat.zero_le _, Nat.zero_le _⟩ ?_
    refine g_bif_eq (pc := 65) (tgt := 109) X dX4_statement_65 (by decide) (fun c65 => ?_) (fun c65 => ?_)
    · refine g_eq X (ss' := [wM cy ay k (uVa (uAt (uLt (uN v n) lt) a) w)]) (by rw [isN_f c65]) ?_
      refine g_aload_n (pc := 109) X dX4_statement_109 0 rfl ?_
      refine g_bipush (v := 116) (pc := 110) X dX4_statement_110 (by decide) ?_
      refine g_callV (pc := 112) (rest := []) (ss' := [wM cy ay k (uVa (uAt (uLt (uN v n) lt) (isN lt n a 116)) w)]) X (c_X4_is l D cy ay k (uVa (uAt (uLt (uN v n) lt) a) w) lt n a 116 (by first | assumption | omega) (by first | assumption | omega)) vl_X4_82 dX4_statement_112 [0] 0 0 rfl rfl rfl rfl rfl rfl (ads_c (ads_M _ _ _ _ _ _) rfl) rfl rfl rfl rfl rfl rfl ⟨Nat.zero_le _, Nat.zero_le _⟩ ?_
      refine g_bif_eq (pc := 115) (tgt := 258) X dX4_statement_115 (by decide) (fun c115 => ?_) (fun c115 => ?_)
      · refine g_eq X (ss' := [wM cy ay k (uVa (uAt (uLt (uN v n) lt) a) w)]) (by rw [isN_f c115]) ?_
        refine g_aload_n (pc := 258) X dX4_statement_258 0 rfl ?_
        refine g_bipush (v := 108) (pc := 259) X dX4_statement_259 (by decide) ?_
        refine g_callV (pc := 261) (rest := []) (ss' := [wM cy ay k (uVa (uAt (uLt (uN v n) lt) (isN lt n a 108)) w)]) X (c_X4_is l D cy ay k (uVa (uAt (uLt (uN v n) lt) a) w) lt n a 108 (by first | assumption | omega) (by first | assumption | omega)) vl_X4_82 dX4_statement_261 [0] 0 0 rfl rfl rfl rfl rfl rfl (ads_c (ads_M _ _ _ _ _ _) rfl) rfl rfl rfl rfl rfl rfl ⟨Nat.zero_le _, Nat.zero_le _⟩ ?_
        refine g_istore_n (lv' := [(2, .int (bI (isB lt n a 108))), (0, .ref (ay 0)), (1, .int (0))]) (pc := 264) X dX4_statement_264 rfl rfl rfl ?_
        refine g_iload_n (pc := 265) X dX4_statement_265 0 rfl ?_
        refine g_bif_ne (pc := 266) (tgt := 282) X dX4_statement_266 (by decide) (fun c266 => ?_) (fun c266 => ?_)
        · refine g_eq X (ss' := [wM cy ay k (uVa (uAt (uLt (uN v n) lt) (a + 1)) w)]) (by rw [isN_t c266]) ?_
          obtain ⟨f266a, f266b⟩ := isB_t c266
          refine g_lvv X (lv' := [(2, .int (1)), (0, .ref (ay 0)), (1, .int (0))]) (by rw [c266] <;> rfl) ?_
          have fl : a < n ∧ (lt a = 108 ∨ lt a = 111 ∨ lt a = 109) := ⟨f266a, Or.inl f266b⟩
          refine g_iconst (v := 0) (pc := 282) X dX4_statement_282 (by decide) ?_
          refine g_istore_n (lv' := [(3, .int (0)), (2, .int (1)), (0, .ref (ay 0)), (1, .int (0))]) (pc := 283) X dX4_statement_283 rfl rfl rfl ?_
          refine g_iload_n (pc := 284) X dX4_statement_284 1 rfl ?_
          refine g_if_ne (pc := 285) (tgt := 303) X dX4_statement_285 (by decide) (fun c285 => ?_) (fun c285 => by exact absurd c285 (by decide))
          refine g_aload_n (pc := 303) X dX4_statement_303 2 rfl ?_
          refine g_iconst (v := 0) (pc := 304) X dX4_statement_304 (by decide) ?_
          refine g_callV (pc := 305) (rest := []) (ss' := [wM cy ay k (uVa (uAt (uLt (uN v n) lt) (dgN lt n (a + 1))) (dgV lt n (a + 1) 0 w))]) X (c_X4_digit l D cy ay k (uVa (uAt (uLt (uN v n) lt) (a + 1)) w) lt n (a + 1) w 0 (by omega) (by first | assumption | omega) (by first | assumption | omega)) vl_X4_86 dX4_statement_305 [0] 0 0 rfl rfl rfl rfl rfl rfl (ads_c (ads_M _ _ _ _ _ _) rfl) rfl rfl rfl rfl rfl rfl ⟨Nat.zero_le _, Nat.zero_le _⟩ ?_
          refine g_bif_eq (pc := 308) (tgt := 319) X dX4_statement_308 (by decide) (fun c308 => ?_) (fun c308 => ?_)
          · refine g_eq X (ss' := [wM cy ay k (uVa (uAt (uLt (uN v n) lt) (a + 1)) w)]) (by rw [dgN_f c308, dgV_f c308]) ?_
            have hS : stM lt n a = (1, false) := by rw [st_l fl.1 fl.2, if_neg (by rw [c308]; decide)]
            refine g_iconst (v := (-1)) (pc := 319) X dX4_statement_319 (by decide) ?_
            exact g_iretE (pc := 320) X (w) rfl dX4_statement_320 rfl (by first | (rw [hS]; done) | (rw [hS]; rfl)) (by first | (rw [hS]; done) | (rw [hS]; rfl))
          · refine g_eq X (ss' := [wM cy ay k (uVa (uAt (uLt (uN v n) lt) (a + 1 + 1)) (upd w 0 (dgI (lt (a + 1)))))]) (by rw [dgN_t c308, dgV_t c308]) ?_
            obtain ⟨d0, hd0, ed0⟩ := dg_d c308
            refine g_aload_n (pc := 311) X dX4_statement_311 2 rfl ?_
            refine g_iconst (v := 1) (pc := 312) X dX4_statement_312 (by decide) ?_
            refine g_callV (pc := 313) (rest := []) (ss' := [wM cy ay k (uVa (uAt (uLt (uN v n) lt) (dgN lt n (a + 1 + 1))) (dgV lt n (a + 1 + 1) 1 (upd w 0 (dgI (lt (a + 1))))))]) X (c_X4_digit l D cy ay k (uVa (uAt (uLt (uN v n) lt) (a + 1 + 1)) (upd w 0 (dgI (lt (a + 1))))) lt n (a + 1 + 1) (upd w 0 (dgI (lt (a + 1)))) 1 (by have := dgB_lt c308; omega) (by first | assumption | omega) (by first | assumption | omega)) vl_X4_86 dX4_statement_313 [0] 0 0 rfl rfl rfl rfl rfl rfl (ads_c (ads_M _ _ _ _ _ _) rfl) rfl rfl rfl rfl rfl rfl ⟨Nat.zero_le _, Nat.zero_le _⟩ ?_
            refine g_bif_ne (pc := 316) (tgt := 321) X dX4_statement_316 (by decide) (fun c316 => ?_) (fun c316 => ?_)
            · refine g_eq X (ss' := [wM cy ay k (uVa (uAt (uLt (uN v n) lt) (a + 1 + 1 + 1)) (upd (upd w 0 (dgI (lt (a + 1)))) 1 (dgI (lt (a + 1 + 1)))))]) (by rw [dgN_t c316, dgV_t c316]) ?_
              have hS : stM lt n a = (3, true) := by rw [st_l fl.1 fl.2, if_pos c308, if_pos (show dgB lt n (a + 2) = true from c316)]
              obtain ⟨d1, hd1, ed1⟩ := dg_d c316
              have hO : obB k (lt a) (lt (a + 1)) (lt (a + 2)) = alB k (nI d0) (nI d1) ∧ obK k (lt a) (lt (a + 1)) (lt (a + 2)) = alK k (nI d0) (nI d1) := by rw [f266b, ← ed0, ← ed1]; exact ob_l
              refine g_iload_n (pc := 321) X dX4_statement_321 3 rfl ?_
              refine g_if_ne (pc := 322) (tgt := 327) X dX4_statement_322 (by decide) (fun c322 => by exact absurd c322 (by decide)) (fun c322 => ?_)
              refine g_iconst (v := 1) (pc := 325) X dX4_statement_325 (by decide) ?_
              exact g_iretE (pc := 326) X (upd (upd w 0 (dgI (lt (a + 1)))) 1 (dgI (lt (a + 1 + 1)))) rfl dX4_statement_326 rfl (by first | (rw [hS]; done) | (rw [hS]; rfl)) (by first | (rw [hS]; done) | (rw [hS]; rfl))
            · refine g_eq X (ss' := [wM cy ay k (uVa (uAt (uLt (uN v n) lt) (a + 1 + 1)) (upd w 0 (dgI (lt (a + 1)))))]) (by rw [dgN_f c316, dgV_f c316]) ?_
              have hS : stM lt n a = (2, false) := by rw [st_l fl.1 fl.2, if_pos c308, if_neg (show ¬ dgB lt n (a + 2) = true from by rw [show dgB lt n (a + 2) = false from c316]; decide)]
              refine g_iconst (v := (-1)) (pc := 319) X dX4_statement_319 (by decide) ?_
              exact g_iretE (pc := 320) X (upd w 0 (dgI (lt (a + 1)))) rfl dX4_statement_320 rfl (by first | (rw [hS]; done) | (rw [hS]; rfl)) (by first | (rw [hS]; done) | (rw [hS]; rfl))
        · refine g_eq X (ss' := [wM cy ay k (uVa (uAt (uLt (uN v n) lt) a) w)]) (by rw [isN_f c266]) ?_
          refine g_lvv X (lv' := [(2, .int (0)), (0, .ref (ay 0)), (1, .int (0))]) (by rw [c266] <;> rfl) ?_
          refine g_aload_n (pc := 269) X dX4_statement_269 1 rfl ?_
          refine g_bipush (v := 111) (pc := 270) X dX4_statement_270 (by decide) ?_
          refine g_callV (pc := 272) (rest := []) (ss' := [wM cy ay k (uVa (uAt (uLt (uN v n) lt) (isN lt n a 111)) w)]) X (c_X4_is l D cy ay k (uVa (uAt (uLt (uN v n) lt) a) w) lt n a 111 (by first | assumption | omega) (by first | assumption | omega)) vl_X4_82 dX4_statement_272 [0] 0 0 rfl rfl rfl rfl rfl rfl (ads_c (ads_M _ _ _ _ _ _) rfl) rfl rfl rfl rfl rfl rfl ⟨Nat.zero_le _, Nat.zero_le _⟩ ?_
          refine g_bif_eq (pc := 275) (tgt := 282) X dX4_statement_275 (by decide) (fun c275 => ?_) (fun c275 => ?_)
          · refine g_eq X (ss' := [wM cy ay k (uVa (uAt (uLt (uN v n) lt) a) w)]) (by rw [isN_f c275]) ?_
            refine g_iconst (v := 0) (pc := 282) X dX4_statement_282 (by decide) ?_
            refine g_istore_n (lv' := [(3, .int (0)), (2, .int (0)), (0, .ref (ay 0)), (1, .int (0))]) (pc := 283) X dX4_statement_283 rfl rfl rfl ?_
            refine g_iload_n (pc := 284) X dX4_statement_284 1 rfl ?_
            refine g_if_ne (pc := 285) (tgt := 303) X dX4_statement_285 (by decide) (fun c285 => by exact absurd c285 (by decide)) (fun c285 => ?_)
            refine g_iload_n (pc := 288) X dX4_statement_288 0 rfl ?_
            refine g_if_ne (pc := 289) (tgt := 303) X dX4_statement_289 (by decide) (fun c289 => by exact absurd c289 (by decide)) (fun c289 => ?_)
            refine g_aload_n (pc := 292) X dX4_statement_292 2 rfl ?_
            refine g_bipush (v := 109) (pc := 293) X dX4_statement_293 (by decide) ?_
            refine g_callV (pc := 295) (rest := []) (ss' := [wM cy ay k (uVa (uAt (uLt (uN v n) lt) (isN lt n a 109)) w)]) X (c_X4_is l D cy ay k (uVa (uAt (uLt (uN v n) lt) a) w) lt n a 109 (by first | assumption | omega) (by first | assumption | omega)) vl_X4_82 dX4_statement_295 [0] 0 0 rfl rfl rfl rfl rfl rfl (ads_c (ads_M _ _ _ _ _ _) rfl) rfl rfl rfl rfl rfl rfl ⟨Nat.zero_le _, Nat.zero_le _⟩ ?_
            refine g_bif_ne (pc := 298) (tgt := 303) X dX4_statement_298 (by decide) (fun c298 => ?_) (fun c298 => ?_)
            · refine g_eq X (ss' := [wM cy ay k (uVa (uAt (uLt (uN v n) lt) (a + 1)) w)]) (by rw [isN_t c298]) ?_
              obtain ⟨f298a, f298b⟩ := isB_t c298
              have fl : a < n ∧ (lt a = 108 ∨ lt a = 111 ∨ lt a = 109) := ⟨f298a, Or.inr (Or.inr f298b)⟩
              refine g_aload_n (pc := 303) X dX4_statement_303 2 rfl ?_
              refine g_iconst (v := 0) (pc := 304) X dX4_statement_304 (by decide) ?_
              refine g_callV (pc := 305) (rest := []) (ss' := [wM cy ay k (uVa (uAt (uLt (uN v n) lt) (dgN lt n (a + 1))) (dgV lt n (a + 1) 0 w))]) X (c_X4_digit l D cy ay k (uVa (uAt (uLt (uN v n) lt) (a + 1)) w) lt n (a + 1) w 0 (by omega) (by first | assumption | omega) (by first | assumption | omega)) vl_X4_86 dX4_statement_305 [0] 0 0 rfl rfl rfl rfl rfl rfl (ads_c (ads_M _ _ _ _ _ _) rfl) rfl rfl rfl rfl rfl rfl ⟨Nat.zero_le _, Nat.zero_le _⟩ ?_
              refine g_bif_eq (pc := 308) (tgt := 319) X dX4_statement_308 (by decide) (fun c308 => ?_) (fun c308 => ?_)
              · refine g_eq X (ss' := [wM cy ay k (uVa (uAt (uLt (uN v n) lt) (a + 1)) w)]) (by rw [dgN_f c308, dgV_f c308]) ?_
                have hS : stM lt n a = (1, false) := by rw [st_l fl.1 fl.2, if_neg (by rw [c308]; decide)]
                refine g_iconst (v := (-1)) (pc := 319) X dX4_statement_319 (by decide) ?_
                exact g_iretE (pc := 320) X (w) rfl dX4_statement_320 rfl (by first | (rw [hS]; done) | (rw [hS]; rfl)) (by first | (rw [hS]; done) | (rw [hS]; rfl))
              · refine g_eq X (ss' := [wM cy ay k (uVa (uAt (uLt (uN v n) lt) (a + 1 + 1)) (upd w 0 (dgI (lt (a + 1)))))]) (by rw [dgN_t c308, dgV_t c308]) ?_
                obtain ⟨d0, hd0, ed0⟩ := dg_d c308
                refine g_aload_n (pc := 311) X dX4_statement_311 2 rfl ?_
                refine g_iconst (v := 1) (pc := 312) X dX4_statement_312 (by decide) ?_
                refine g_callV (pc := 313) (rest := []) (ss' := [wM cy ay k (uVa (uAt (uLt (uN v n) lt) (dgN lt n (a + 1 + 1))) (dgV lt n (a + 1 + 1) 1 (upd w 0 (dgI (lt (a + 1))))))]) X (c_X4_digit l D cy ay k (uVa (uAt (uLt (uN v n) lt) (a + 1 + 1)) (upd w 0 (dgI (lt (a + 1))))) lt n (a + 1 + 1) (upd w 0 (dgI (lt (a + 1)))) 1 (by have := dgB_lt c308; omega) (by first | assumption | omega) (by first | assumption | omega)) vl_X4_86 dX4_statement_313 [0] 0 0 rfl rfl rfl rfl rfl rfl (ads_c (ads_M _ _ _ _ _ _) rfl) rfl rfl rfl rfl rfl rfl ⟨Nat.zero_le _, Nat.zero_le _⟩ ?_
                refine g_bif_ne (pc := 316) (tgt := 321) X dX4_statement_316 (by decide) (fun c316 => ?_) (fun c316 => ?_)
                · refine g_eq X (ss' := [wM cy ay k (uVa (uAt (uLt (uN v n) lt) (a + 1 + 1 + 1)) (upd (upd w 0 (dgI (lt (a + 1)))) 1 (dgI (lt (a + 1 + 1)))))]) (by rw [dgN_t c316, dgV_t c316]) ?_
                  have hS : stM lt n a = (3, true) := by rw [st_l fl.1 fl.2, if_pos c308, if_pos (show dgB lt n (a + 2) = true from c316)]
                  obtain ⟨d1, hd1, ed1⟩ := dg_d c316
                  have hO : obB k (lt a) (lt (a + 1)) (lt (a + 2)) = brB k (nI d0) (nI d1) ∧ obK k (lt a) (lt (a + 1)) (lt (a + 2)) = brK k (nI d0) (nI d1) := by rw [f298b, ← ed0, ← ed1]; exact ob_m
                  refine g_iload_n (pc := 321) X dX4_statement_321 3 rfl ?_
                  refine g_if_ne (pc := 322) (tgt := 327) X dX4_statement_322 (by decide) (fun c322 => by exact absurd c322 (by decide)) (fun c322 => ?_)
                  refine g_iconst (v := 1) (pc := 325) X dX4_statement_325 (by decide) ?_
                  exact g_iretE (pc := 326) X (upd (upd w 0 (dgI (lt (a + 1)))) 1 (dgI (lt (a + 1 + 1)))) rfl dX4_statement_326 rfl (by first | (rw [hS]; done) | (rw [hS]; rfl)) (by first | (rw [hS]; done) | (rw [hS]; rfl))
                · refine g_eq X (ss' := [wM cy ay k (uVa (uAt (uLt (uN v n) lt) (a + 1 + 1)) (upd w 0 (dgI (lt (a + 1)))))]) (by rw [dgN_f c316, dgV_f c316]) ?_
                  have hS : stM lt n a = (2, false) := by rw [st_l fl.1 fl.2, if_pos c308, if_neg (show ¬ dgB lt n (a + 2) = true from by rw [show dgB lt n (a + 2) = false from c316]; decide)]
                  refine g_iconst (v := (-1)) (pc := 319) X dX4_statement_319 (by decide) ?_
                  exact g_iretE (pc := 320) X (upd w 0 (dgI (lt (a + 1)))) rfl dX4_statement_320 rfl (by first | (rw [hS]; done) | (rw [hS]; rfl)) (by first | (rw [hS]; done) | (rw [hS]; rfl))
            · refine g_eq X (ss' := [wM cy ay k (uVa (uAt (uLt (uN v n) lt) a) w)]) (by rw [isN_f c298]) ?_
              have hS : stM lt n a = (0, false) := by rw [st_0 (fun h => ⟨isB_f c6 h, isB_f c65 h, isB_f c115 h, isB_f c266 h, isB_f c275 h, isB_f c298 h⟩)]
              refine g_iconst (v := (-1)) (pc := 301) X dX4_statement_301 (by decide) ?_
              exact g_iretE (pc := 302) X (w) rfl dX4_statement_302 rfl (by first | (rw [hS]; done) | (rw [hS]; rfl)) (by first | (rw [hS]; done) | (rw [hS]; rfl))
          · refine g_eq X (ss' := [wM cy ay k (uVa (uAt (uLt (uN v n) lt) (a + 1)) w)]) (by rw [isN_t c275]) ?_
            obtain ⟨f275a, f275b⟩ := isB_t c275
            have fl : a < n ∧ (lt a = 108 ∨ lt a = 111 ∨ lt a = 109) := ⟨f275a, Or.inr (Or.inl f275b)⟩
            refine g_iconst (v := 1) (pc := 278) X dX4_statement_278 (by decide) ?_
            refine g_goto (pc := 279) (tgt := 283) X dX4_statement_279 (by decide) ?_
            refine g_istore_n (lv' := [(3, .int (1)), (2, .int (0)), (0, .ref (ay 0)), (1, .int (0))]) (pc := 283) X dX4_statement_283 rfl rfl rfl ?_
            refine g_iload_n (pc := 284) X dX4_statement_284 1 rfl ?_
            refine g_if_ne (pc := 285) (tgt := 303) X dX4_statement_285 (by decide) (fun c285 => by exact absurd c285 (by decide)) (fun c285 => ?_)
            refine g_iload_n (pc := 288) X dX4_statement_288 0 rfl ?_
            refine g_if_ne (pc := 289) (tgt := 303) X dX4_statement_289 (by decide) (fun c289 => ?_) (fun c289 => by exact absurd c289 (by decide))
            refine g_aload_n (pc := 303) X dX4_statement_303 2 rfl ?_
            refine g_iconst (v := 0) (pc := 304) X dX4_statement_304 (by decide) ?_
            refine g_callV (pc := 305) (rest := []) (ss' := [wM cy ay k (uVa (uAt (uLt (uN v n) lt) (dgN lt n (a + 1))) (dgV lt n (a + 1) 0 w))]) X (c_X4_digit l D cy ay k (uVa (uAt (uLt (uN v n) lt) (a + 1)) w) lt n (a + 1) w 0 (by omega) (by first | assumption | omega) (by first | assumption | omega)) vl_X4_86 dX4_statement_305 [0] 0 0 rfl rfl rfl rfl rfl rfl (ads_c (ads_M _ _ _ _ _ _) rfl) rfl rfl rfl rfl rfl rfl ⟨Nat.zero_le _, Nat.zero_le _⟩ ?_
            refine g_bif_eq (pc := 308) (tgt := 319) X dX4_statement_308 (by decide) (fun c308 => ?_) (fun c308 => ?_)
            · refine g_eq X (ss' := [wM cy ay k (uVa (uAt (uLt (uN v n) lt) (a + 1)) w)]) (by rw [dgN_f c308, dgV_f c308]) ?_
              have hS : stM lt n a = (1, false) := by rw [st_l fl.1 fl.2, if_neg (by rw [c308]; decide)]
              refine g_iconst (v := (-1)) (pc := 319) X dX4_statement_319 (by decide) ?_
              exact g_iretE (pc := 320) X (w) rfl dX4_statement_320 rfl (by first | (rw [hS]; done) | (rw [hS]; rfl)) (by first | (rw [hS]; done) | (rw [hS]; rfl))
            · refine g_eq X (ss' := [wM cy ay k (uVa (uAt (uLt (uN v n) lt) (a + 1 + 1)) (upd w 0 (dgI (lt (a + 1)))))]) (by rw [dgN_t c308, dgV_t c308]) ?_
              obtain ⟨d0, hd0, ed0⟩ := dg_d c308
              refine g_aload_n (pc := 311) X dX4_statement_311 2 rfl ?_
              refine g_iconst (v := 1) (pc := 312) X dX4_statement_312 (by decide) ?_
              refine g_callV (pc := 313) (rest := []) (ss' := [wM cy ay k (uVa (uAt (uLt (uN v n) lt) (dgN lt n (a + 1 + 1))) (dgV lt n (a + 1 + 1) 1 (upd w 0 (dgI (lt (a + 1))))))]) X (c_X4_digit l D cy ay k (uVa (uAt (uLt (uN v n) lt) (a + 1 + 1)) (upd w 0 (dgI (lt (a + 1))))) lt n (a + 1 + 1) (upd w 0 (dgI (lt (a + 1)))) 1 (by have := dgB_lt c308; omega) (by first | assumption | omega) (by first | assumption | omega)) vl_X4_86 dX4_statement_313 [0] 0 0 rfl rfl rfl rfl rfl rfl (ads_c (ads_M _ _ _ _ _ _) rfl) rfl rfl rfl rfl rfl rfl ⟨Nat.zero_le _, Nat.zero_le _⟩ ?_
              refine g_bif_ne (pc := 316) (tgt := 321) X dX4_statement_316 (by decide) (fun c316 => ?_) (fun c316 => ?_)
              · refine g_eq X (ss' := [wM cy ay k (uVa (uAt (uLt (uN v n) lt) (a + 1 + 1 + 1)) (upd (upd w 0 (dgI (lt (a + 1)))) 1 (dgI (lt (a + 1 + 1)))))]) (by rw [dgN_t c316, dgV_t c316]) ?_
                have hS : stM lt n a = (3, true) := by rw [st_l fl.1 fl.2, if_pos c308, if_pos (show dgB lt n (a + 2) = true from c316)]
                obtain ⟨d1, hd1, ed1⟩ := dg_d c316
                have hO : obB k (lt a) (lt (a + 1)) (lt (a + 2)) = acB k (nI d0) (nI d1) ∧ obK k (lt a) (lt (a + 1)) (lt (a + 2)) = acK k (nI d0) (nI d1) := by rw [f275b, ← ed0, ← ed1]; exact ob_o
                refine g_iload_n (pc := 321) X dX4_statement_321 3 rfl ?_
                refine g_if_ne (pc := 322) (tgt := 327) X dX4_statement_322 (by decide) (fun c322 => by exact absurd c322 (by decide)) (fun c322 => ?_)
                refine g_iconst (v := 1) (pc := 325) X dX4_statement_325 (by decide) ?_
                exact g_iretE (pc := 326) X (upd (upd w 0 (dgI (lt (a + 1)))) 1 (dgI (lt (a + 1 + 1)))) rfl dX4_statement_326 rfl (by first | (rw [hS]; done) | (rw [hS]; rfl)) (by first | (rw [hS]; done) | (rw [hS]; rfl))
              · refine g_eq X (ss' := [wM cy ay k (uVa (uAt (uLt (uN v n) lt) (a + 1 + 1)) (upd w 0 (dgI (lt (a + 1)))))]) (by rw [dgN_f c316, dgV_f c316]) ?_
                have hS : stM lt n a = (2, false) := by rw [st_l fl.1 fl.2, if_pos c308, if_neg (show ¬ dgB lt n (a + 2) = true from by rw [show dgB lt n (a + 2) = false from c316]; decide)]
                refine g_iconst (v := (-1)) (pc := 319) X dX4_statement_319 (by decide) ?_
                exact g_iretE (pc := 320) X (upd w 0 (dgI (lt (a + 1)))) rfl dX4_statement_320 rfl (by first | (rw [hS]; done) | (rw [hS]; rfl)) (by first | (rw [hS]; done) | (rw [hS]; rfl))
      · refine g_eq X (ss' := [wM cy ay k (uVa (uAt (uLt (uN v n) lt) (a + 1)) w)]) (by rw [isN_t c115]) ?_
        obtain ⟨f115a, f115b⟩ := isB_t c115
        refine g_aload_n (pc := 118) X dX4_statement_118 0 rfl ?_
        refine g_get (pc := 119) X (v := .int (nI (a + 1))) fl_X4_70 dX4_statement_119 0 0 rfl rfl rfl ?_
        refine g_aload_n (pc := 122) X dX4_statement_122 0 rfl ?_
        refine g_get (pc := 123) X (v := .int (nI n)) fl_X4_67 dX4_statement_123 0 0 rfl rfl rfl ?_
        refine g_ncmp_ge (pc := 126) (tgt := 158) X dX4_statement_126 (by decide) (a + 1) n rfl rfl (by omega) (by omega) (fun c126 => ?_) (fun c126 => ?_)
        · have n126 := Nat.not_lt.mpr c126
          have hK : kdB lt n (a + 1) = false := decide_eq_false (fun q => by omega)
          have hS : stM lt n a = (1, false) := by rw [st_t f115a f115b, if_neg (by rw [hK]; decide)]
          refine g_iconst (v := (-1)) (pc := 158) X dX4_statement_158 (by decide) ?_
          refine g_istore_n (lv' := [(2, .int ((-1))), (0, .ref (ay 0)), (1, .int (0))]) (pc := 159) X dX4_statement_159 rfl rfl rfl ?_
          refine g_iload_n (pc := 160) X dX4_statement_160 0 rfl ?_
          refine g_if_ge (pc := 161) (tgt := 166) X dX4_statement_161 (by decide) (fun c161 => by exact absurd c161 (by decide)) (fun c161 => ?_)
          refine g_iconst (v := (-1)) (pc := 164) X dX4_statement_164 (by decide) ?_
          exact g_iretE (pc := 165) X (w) rfl dX4_statement_165 rfl (by first | (rw [hS]; done) | (rw [hS]; rfl)) (by first | (rw [hS]; done) | (rw [hS]; rfl))
        · refine g_aload_n (pc := 129) X dX4_statement_129 0 rfl ?_
          refine g_get (pc := 130) X (v := .ref (ay 7)) fl_X4_28 dX4_statement_130 0 0 rfl rfl rfl ?_
          refine g_aload_n (pc := 133) X dX4_statement_133 0 rfl ?_
          refine g_get (pc := 134) X (v := .int (nI (a + 1))) fl_X4_70 dX4_statement_134 0 0 rfl rfl rfl ?_
          refine g_iald_n (pc := 137) (f := lt) X 0 7 dX4_statement_137 (a + 1) rfl rfl rfl (by omega) rfl ?_
          refine g_if_le (pc := 138) (tgt := 158) X dX4_statement_138 (by decide) (fun c138 => ?_) (fun c138 => ?_)
          · have n138 := Int32.not_lt.mpr c138
            have hK : kdB lt n (a + 1) = false := decide_eq_false (fun q => q.2 (ki_no (Or.inl n138)))
            have hS : stM lt n a = (1, false) := by rw [st_t f115a f115b, if_neg (by rw [hK]; decide)]
            refine g_iconst (v := (-1)) (pc := 158) X dX4_statement_158 (by decide) ?_
            refine g_istore_n (lv' := [(2, .int ((-1))), (0, .ref (ay 0)), (1, .int (0))]) (pc := 159) X dX4_statement_159 rfl rfl rfl ?_
            refine g_iload_n (pc := 160) X dX4_statement_160 0 rfl ?_
            refine g_if_ge (pc := 161) (tgt := 166) X dX4_statement_161 (by decide) (fun c161 => by exact absurd c161 (by decide)) (fun c161 => ?_)
            refine g_iconst (v := (-1)) (pc := 164) X dX4_statement_164 (by decide) ?_
            exact g_iretE (pc := 165) X (w) rfl dX4_statement_165 rfl (by first | (rw [hS]; done) | (rw [hS]; rfl)) (by first | (rw [hS]; done) | (rw [hS]; rfl))
          · refine g_zldc (pc := 141) X hZ rfl dX4_statement_141 ?_
            refine g_aload_n (pc := 143) X dX4_statement_143 0 rfl ?_
            refine g_get (pc := 144) X (v := .ref (ay 7)) fl_X4_28 dX4_statement_144 0 0 rfl rfl rfl ?_
            refine g_aload_n (pc := 147) X dX4_statement_147 0 rfl ?_
            refine g_get (pc := 148) X (v := .int (nI (a + 1))) fl_X4_70 dX4_statement_148 0 0 rfl rfl rfl ?_
            refine g_iald_n (pc := 151) (f := lt) X 0 7 dX4_statement_151 (a + 1) rfl rfl rfl (by omega) rfl ?_
            refine g_callJV (pc := 152) (rest := []) X hZ (c_J0_indexOf_0f7a4 l D cy q_ t_ (lt (a + 1)) ) vl_X4_100 rfl dX4_statement_152 rfl rfl rfl rfl rfl ⟨Nat.zero_le _, Nat.zero_le _⟩ ?_
            refine g_goto (pc := 155) (tgt := 159) X dX4_statement_155 (by decide) ?_
            refine g_istore_n (lv' := [(2, .int (kiI (lt (a + 1)))), (0, .ref (ay 0)), (1, .int (0))]) (pc := 159) X dX4_statement_159 rfl rfl rfl ?_
            refine g_iload_n (pc := 160) X dX4_statement_160 0 rfl ?_
            refine g_if_ge (pc := 161) (tgt := 166) X dX4_statement_161 (by decide) (fun c161 => ?_) (fun c161 => ?_)
            · have n161 := Int32.not_lt.mpr c161
              obtain ⟨hk9, hkd⟩ := ki_yes c161
              have hK : kdB lt n (a + 1) = true := decide_eq_true ⟨by omega, hk9⟩
              rw [hkd]
              refine g_aload_n (pc := 166) X dX4_statement_166 1 rfl ?_
              refine g_dup (pc := 167) X dX4_statement_167 rfl ?_
              refine g_get (pc := 168) X (v := .int (nI (a + 1))) fl_X4_70 dX4_statement_168 0 0 rfl rfl rfl ?_
              refine g_iconst (v := 1) (pc := 171) X dX4_statement_171 (by decide) ?_
              refine g_iadd (v := nI (a + 1 + 1)) (pc := 172) X dX4_statement_172 (nI_add (a + 1) 1) ?_
              refine g_put (pc := 173) X (ss' := [wM cy ay k (uVa (uAt (uLt (uN v n) lt) (a + 1 + 1)) w)]) fp_X4_70 dX4_statement_173 0 0 rfl rfl rfl rfl rfl rfl ?_
              refine g_aload_n (pc := 176) X dX4_statement_176 1 rfl ?_
              refine g_iconst (v := 0) (pc := 177) X dX4_statement_177 (by decide) ?_
              refine g_callV (pc := 178) (rest := []) (ss' := [wM cy ay k (uVa (uAt (uLt (uN v n) lt) (dgN lt n (a + 1 + 1))) (dgV lt n (a + 1 + 1) 0 w))]) X (c_X4_digit l D cy ay k (uVa (uAt (uLt (uN v n) lt) (a + 1 + 1)) w) lt n (a + 1 + 1) w 0 (by omega) (by first | assumption | omega) (by first | assumption | omega)) vl_X4_86 dX4_statement_178 [0] 0 0 rfl rfl rfl rfl rfl rfl (ads_c (ads_M _ _ _ _ _ _) rfl) rfl rfl rfl rfl rfl rfl ⟨Nat.zero_le _, Nat.zero_le _⟩ ?_
              refine g_bif_ne (pc := 181) (tgt := 186) X dX4_statement_181 (by decide) (fun c181 => ?_) (fun c181 => ?_)
              · refine g_eq X (ss' := [wM cy ay k (uVa (uAt (uLt (uN v n) lt) (a + 1 + 1 + 1)) (upd w 0 (dgI (lt (a + 1 + 1)))))]) (by rw [dgN_t c181, dgV_t c181]) ?_
                have hS : stM lt n a = (3, true) := by rw [st_t f115a f115b, if_pos hK, if_pos (show dgB lt n (a + 2) = true from c181)]
                obtain ⟨d0, hd0, ed0⟩ := dg_d c181
                have hO : obB k (lt a) (lt (a + 1)) (lt (a + 2)) = atB k (nI d0) ∧ obK k (lt a) (lt (a + 1)) (lt (a + 2)) = atK k (kdI (lt (a + 1))) (nI d0) := by rw [f115b, ← ed0]; exact ob_t
                refine g_iload_n (pc := 186) X dX4_statement_186 2 rfl ?_
                refine g_if_ne (pc := 187) (tgt := 192) X dX4_statement_187 (by decide) (fun c187 => by exact absurd c187 (by decide)) (fun c187 => ?_)
                refine g_iconst (v := 1) (pc := 190) X dX4_statement_190 (by decide) ?_
                exact g_iretE (pc := 191) X (upd w 0 (dgI (lt (a + 1 + 1)))) rfl dX4_statement_191 rfl (by first | (rw [hS]; done) | (rw [hS]; rfl)) (by first | (rw [hS]; done) | (rw [hS]; rfl))
              · refine g_eq X (ss' := [wM cy ay k (uVa (uAt (uLt (uN v n) lt) (a + 1 + 1)) w)]) (by rw [dgN_f c181, dgV_f c181]) ?_
                have hS : stM lt n a = (2, false) := by rw [st_t f115a f115b, if_pos hK, if_neg (show ¬ dgB lt n (a + 2) = true from by rw [show dgB lt n (a + 2) = false from c181]; decide)]
                refine g_iconst (v := (-1)) (pc := 184) X dX4_statement_184 (by decide) ?_
                exact g_iretE (pc := 185) X (w) rfl dX4_statement_185 rfl (by first | (rw [hS]; done) | (rw [hS]; rfl)) (by first | (rw [hS]; done) | (rw [hS]; rfl))
            · have hK : kdB lt n (a + 1) = false := decide_eq_false (fun q => q.2 (ki_no (Or.inr c161)))
              have hS : stM lt n a = (1, false) := by rw [st_t f115a f115b, if_neg (by rw [hK]; decide)]
              refine g_iconst (v := (-1)) (pc := 164) X dX4_statement_164 (by decide) ?_
              exact g_iretE (pc := 165) X (w) rfl dX4_statement_165 rfl (by first | (rw [hS]; done) | (rw [hS]; rfl)) (by first | (rw [hS]; done) | (rw [hS]; rfl))
    · refine g_eq X (ss' := [wM cy ay k (uVa (uAt (uLt (uN v n) lt) (a + 1)) w)]) (by rw [isN_t c65]) ?_
      obtain ⟨f65a, f65b⟩ := isB_t c65
      refine g_aload_n (pc := 68) X dX4_statement_68 0 rfl ?_
      refine g_iconst (v := 0) (pc := 69) X dX4_statement_69 (by decide) ?_
      refine g_callV (pc := 70) (rest := []) (ss' := [wM cy ay k (uVa (uAt (uLt (uN v n) lt) (dgN lt n (a + 1))) (dgV lt n (a + 1) 0 w))]) X (c_X4_digit l D cy ay k (uVa (uAt (uLt (uN v n) lt) (a + 1)) w) lt n (a + 1) w 0 (by omega) (by first | assumption | omega) (by first | assumption | omega)) vl_X4_86 dX4_statement_70 [0] 0 0 rfl rfl rfl rfl rfl rfl (ads_c (ads_M _ _ _ _ _ _) rfl) rfl rfl rfl rfl rfl rfl ⟨Nat.zero_le _, Nat.zero_le _⟩ ?_
      refine g_bif_ne (pc := 73) (tgt := 78) X dX4_statement_73 (by decide) (fun c73 => ?_) (fun c73 => ?_)
      · refine g_eq X (ss' := [wM cy ay k (uVa (uAt (uLt (uN v n) lt) (a + 1 + 1)) (upd w 0 (dgI (lt (a + 1)))))]) (by rw [dgN_t c73, dgV_t c73]) ?_
        have hS : stM lt n a = (2, true) := by rw [st_c f65a (Or.inr f65b), if_pos c73]
        obtain ⟨d0, hd0, ed0⟩ := dg_d c73
        have hO : obB k (lt a) (lt (a + 1)) (lt (a + 2)) = stB (nI d0) ∧ obK k (lt a) (lt (a + 1)) (lt (a + 2)) = stK k (nI d0) := by rw [f65b, ← ed0]; exact ob_h
        refine g_iload_n (pc := 78) X dX4_statement_78 1 rfl ?_
        refine g_if_ne (pc := 79) (tgt := 84) X dX4_statement_79 (by decide) (fun c79 => by exact absurd c79 (by decide)) (fun c79 => ?_)
        refine g_iconst (v := 1) (pc := 82) X dX4_statement_82 (by decide) ?_
        exact g_iretE (pc := 83) X (upd w 0 (dgI (lt (a + 1)))) rfl dX4_statement_83 rfl (by first | (rw [hS]; done) | (rw [hS]; rfl)) (by first | (rw [hS]; done) | (rw [hS]; rfl))
      · refine g_eq X (ss' := [wM cy ay k (uVa (uAt (uLt (uN v n) lt) (a + 1)) w)]) (by rw [dgN_f c73, dgV_f c73]) ?_
        have hS : stM lt n a = (1, false) := by rw [st_c f65a (Or.inr f65b), if_neg (by rw [c73]; decide)]
        refine g_iconst (v := (-1)) (pc := 76) X dX4_statement_76 (by decide) ?_
        exact g_iretE (pc := 77) X (w) rfl dX4_statement_77 rfl (by first | (rw [hS]; done) | (rw [hS]; rfl)) (by first | (rw [hS]; done) | (rw [hS]; rfl))
  · refine g_eq X (ss' := [wM cy ay k (uVa (uAt (uLt (uN v n) lt) (a + 1)) w)]) (by rw [isN_t c6]) ?_
    obtain ⟨f6a, f6b⟩ := isB_t c6
    refine g_aload_n (pc := 9) X dX4_statement_9 0 rfl ?_
    refine g_iconst (v := 0) (pc := 10) X dX4_statement_10 (by decide) ?_
    refine g_callV (pc := 11) (rest := []) (ss' := [wM cy ay k (uVa (uAt (uLt (uN v n) lt) (dgN lt n (a + 1))) (dgV lt n (a + 1) 0 w))]) X (c_X4_digit l D cy ay k (uVa (uAt (uLt (uN v n) lt) (a + 1)) w) lt n (a + 1) w 0 (by omega) (by first | assumption | omega) (by first | assumption | omega)) vl_X4_86 dX4_statement_11 [0] 0 0 rfl rfl rfl rfl rfl rfl (ads_c (ads_M _ _ _ _ _ _) rfl) rfl rfl rfl rfl rfl rfl ⟨Nat.zero_le _, Nat.zero_le _⟩ ?_
    refine g_bif_ne (pc := 14) (tgt := 19) X dX4_statement_14 (by decide) (fun c14 => ?_) (fun c14 => ?_)
    · refine g_eq X (ss' := [wM cy ay k (uVa (uAt (uLt (uN v n) lt) (a + 1 + 1)) (upd w 0 (dgI (lt (a + 1)))))]) (by rw [dgN_t c14, dgV_t c14]) ?_
      have hS : stM lt n a = (2, true) := by rw [st_c f6a (Or.inl f6b), if_pos c14]
      obtain ⟨d0, hd0, ed0⟩ := dg_d c14
      have hO : obB k (lt a) (lt (a + 1)) (lt (a + 2)) = hasL k (nI d0) ∧ obK k (lt a) (lt (a + 1)) (lt (a + 2)) = tgK k (nI d0) := by rw [f6b, ← ed0]; exact ob_c
      refine g_iload_n (pc := 19) X dX4_statement_19 1 rfl ?_
      refine g_if_ne (pc := 20) (tgt := 25) X dX4_statement_20 (by decide) (fun c20 => by exact absurd c20 (by decide)) (fun c20 => ?_)
      refine g_iconst (v := 1) (pc := 23) X dX4_statement_23 (by decide) ?_
      exact g_iretE (pc := 24) X (upd w 0 (dgI (lt (a + 1)))) rfl dX4_statement_24 rfl (by first | (rw [hS]; done) | (rw [hS]; rfl)) (by first | (rw [hS]; done) | (rw [hS]; rfl))
    · refine g_eq X (ss' := [wM cy ay k (uVa (uAt (uLt (uN v n) lt) (a + 1)) w)]) (by rw [dgN_f c14, dgV_f c14]) ?_
      have hS : stM lt n a = (1, false) := by rw [st_c f6a (Or.inl f6b), if_neg (by rw [c14]; decide)]
      refine g_iconst (v := (-1)) (pc := 17) X dX4_statement_17 (by decide) ?_
      exact g_iretE (pc := 18) X (w) rfl dX4_statement_18 rfl (by first | (rw [hS]; done) | (rw [hS]; rfl)) (by first | (rw [hS]; done) | (rw [hS]; rfl))
set_option maxRecDepth 100000 in
set_option maxHeartbeats 4000000 in
theorem c_X4_statement_1 (l : Launch) (D : va_G) (cy : ClassId) (q_ t_ : Nat) (ay : Nat → Nat) (k : KV) (v : MV) (lt : Nat → Int32) (n : Nat) (a : Nat) (w : Nat → Int32) (ha : a ≤ n) (h80 : n ≤ 80) (hw : KW k) (hc : (stM lt n a).2 = true) : CtZ l yX4_statement cX4_statement 6 .int 5 162 D cy q_ t_ [.ref (ay 0), .int (1)] [wM cy ay k (uVa (uAt (uLt (uN v n) lt) a) w)] (fun (u_ : (Nat → Int32)) => [wM cy ay (obK k (lt a) (lt (a + 1)) (lt (a + 2))) (uVa (uAt (uLt (uN v n) lt) (a + (stM lt n a).1)) u_)]) (if obB k (lt a) (lt (a + 1)) (lt (a + 2)) then 1 else 0) := by
  have h8 := hw.2.2.2.2.2.1
  have h10 := hw.1.1
  refine ctZ_of (by decide +kernel) (Nat.le_of_ble_eq_true rfl) (fun p_ e_ s_ m_ args_ below_ meth_ c_ A_ X hZ => ?_)
  refine g_lv X (lv' := [(0, .ref (ay 0)), (1, .int (1))]) [0, 1] rfl ?_
  refine g_aload_n (pc := 0) X dX4_statement_0 0 rfl ?_
  refine g_bipush (v := 99) (pc := 1) X dX4_statement_1 (by decide) ?_
  refine g_callV (pc := 3) (rest := []) (ss' := [wM cy ay k (uVa (uAt (uLt (uN v n) lt) (isN lt n a 99)) w)]) X (c_X4_is l D cy ay k (uVa (uAt (uLt (uN v n) lt) a) w) lt n a 99 (by first | assumption | omega) (by first | assumption | omega)) vl_X4_82 dX4_statement_3 [0] 0 0 rfl rfl rfl rfl rfl rfl (ads_c (ads_M _ _ _ _ _ _) rfl) rfl rfl rfl rfl rfl rfl ⟨Nat.zero_le _, Nat.zero_le _⟩ ?_
  refine g_bif_eq (pc := 6) (tgt := 59) X dX4_statement_6 (by decide) (fun c6 => ?_) (fun c6 => ?_)
  · refine g_eq X (ss' := [wM cy ay k (uVa (uAt (uLt (uN v n) lt) a) w)]) (by rw [isN_f c6]) ?_
    refine g_aload_n (pc := 59) X dX4_statement_59 0 rfl ?_
    refine g_bipush (v := 104) (pc := 60) X dX4_statement_60 (by decide) ?_
    refine g_callV (pc := 62) (rest := []) (ss' := [wM cy ay k (uVa (uAt (uLt (uN v n) lt) (isN lt n a 104)) w)]) X (c_X4_is l D cy ay k (uVa (uAt (uLt (uN v n) lt) a) w) lt n a 104 (by first | assumption | omega) (by first | assumption | omega)) vl_X4_82 dX4_statement_62 [0] 0 0 rfl rfl rfl rfl rfl rfl (ads_c (ads_M _ _ _ _ _ _) rfl) rfl rfl rfl rfl rfl rfl ⟨Nat.zero_le _, Nat.zero_le _⟩ ?_
    refine g_bif_eq (pc := 65) (tgt := 109) X dX4_statement_65 (by decide) (fun c65 => ?_) (fun c65 => ?_)
    · refine g_eq X (ss' := [wM cy ay k (uVa (uAt (uLt (uN v n) lt) a) w)]) (by rw [isN_f c65]) ?_
      refine g_aload_n (pc := 109) X dX4_statement_109 0 rfl ?_
      refine g_bipush (v := 116) (pc := 110) X dX4_statement_110 (by decide) ?_
      refine g_callV (pc := 112) (rest := []) (ss' := [wM cy ay k (uVa (uAt (uLt (uN v n) lt) (isN lt n a 116)) w)]) X (c_X4_is l D cy ay k (uVa (uAt (uLt (uN v n) lt) a) w) lt n a 116 (by first | assumption | omega) (by first | assumption | omega)) vl_X4_82 dX4_statement_112 [0] 0 0 rfl rfl rfl rfl rfl rfl (ads_c (ads_M _ _ _ _ _ _) rfl) rfl rfl rfl rfl rfl rfl ⟨Nat.zero_le _, Nat.zero_le _⟩ ?_
      refine g_bif_eq (pc := 115) (tgt := 258) X dX4_statement_115 (by decide) (fun c115 => ?_) (fun c115 => ?_)
      · refine g_eq X (ss' := [wM cy ay k (uVa (uAt (uLt (uN v n) lt) a) w)]) (by rw [isN_f c115]) ?_
        refine g_aload_n (pc := 258) X dX4_statement_258 0 rfl ?_
        refine g_bipush (v := 108) (pc := 259) X dX4_statement_259 (by decide) ?_
        refine g_callV (pc := 261) (rest := []) (ss' := [wM cy ay k (uVa (uAt (uLt (uN v n) lt) (isN lt n a 108)) w)]) X (c_X4_is l D cy ay k (uVa (uAt (uLt (uN v n) lt) a) w) lt n a 108 (by first | assumption | omega) (by first | assumption | omega)) vl_X4_82 dX4_statement_261 [0] 0 0 rfl rfl rfl rfl rfl rfl (ads_c (ads_M _ _ _ _ _ _) rfl) rfl rfl rfl rfl rfl rfl ⟨Nat.zero_le _, Nat.zero_le _⟩ ?_
        refine g_istore_n (lv' := [(2, .int (bI (isB lt n a 108))), (0, .ref (ay 0)), (1, .int (1))]) (pc := 264) X dX4_statement_264 rfl rfl rfl ?_
        refine g_iload_n (pc := 265) X dX4_statement_265 0 rfl ?_
        refine g_bif_ne (pc := 266) (tgt := 282) X dX4_statement_266 (by decide) (fun c266 => ?_) (fun c266 => ?_)
        · refine g_eq X (ss' := [wM cy ay k (uVa (uAt (uLt (uN v n) lt) (a + 1)) w)]) (by rw [isN_t c266]) ?_
          obtain ⟨f266a, f266b⟩ := isB_t c266
          refine g_lvv X (lv' := [(2, .int (1)), (0, .ref (ay 0)), (1, .int (1))]) (by rw [c266] <;> rfl) ?_
          have fl : a < n ∧ (lt a = 108 ∨ lt a = 111 ∨ lt a = 109) := ⟨f266a, Or.inl f266b⟩
          refine g_iconst (v := 0) (pc := 282) X dX4_statement_282 (by decide) ?_
          refine g_istore_n (lv' := [(3, .int (0)), (2, .int (1)), (0, .ref (ay 0)), (1, .int (1))]) (pc := 283) X dX4_statement_283 rfl rfl rfl ?_
          refine g_iload_n (pc := 284) X dX4_statement_284 1 rfl ?_
          refine g_if_ne (pc := 285) (tgt := 303) X dX4_statement_285 (by decide) (fun c285 => ?_) (fun c285 => by exact absurd c285 (by decide))
          refine g_aload_n (pc := 303) X dX4_statement_303 2 rfl ?_
          refine g_iconst (v := 0) (pc := 304) X dX4_statement_304 (by decide) ?_
          refine g_callV (pc := 305) (rest := []) (ss' := [wM cy ay k (uVa (uAt (uLt (uN v n) lt) (dgN lt n (a + 1))) (dgV lt n (a + 1) 0 w))]) X (c_X4_digit l D cy ay k (uVa (uAt (uLt (uN v n) lt) (a + 1)) w) lt n (a + 1) w 0 (by omega) (by first | assumption | omega) (by first | assumption | omega)) vl_X4_86 dX4_statement_305 [0] 0 0 rfl rfl rfl rfl rfl rfl (ads_c (ads_M _ _ _ _ _ _) rfl) rfl rfl rfl rfl rfl rfl ⟨Nat.zero_le _, Nat.zero_le _⟩ ?_
          refine g_bif_eq (pc := 308) (tgt := 319) X dX4_statement_308 (by decide) (fun c308 => ?_) (fun c308 => ?_)
          · exact absurd hc (by rw [st_l fl.1 fl.2, if_neg (by rw [c308]; decide)]; decide)
          · refine g_eq X (ss' := [wM cy ay k (uVa (uAt (uLt (uN v n) lt) (a + 1 + 1)) (upd w 0 (dgI (lt (a + 1)))))]) (by rw [dgN_t c308, dgV_t c308]) ?_
            obtain ⟨d0, hd0, ed0⟩ := dg_d c308
            refine g_aload_n (pc := 311) X dX4_statement_311 2 rfl ?_
            refine g_iconst (v := 1) (pc := 312) X dX4_statement_312 (by decide) ?_
            refine g_callV (pc := 313) (rest := []) (ss' := [wM cy ay k (uVa (uAt (uLt (uN v n) lt) (dgN lt n (a + 1 + 1))) (dgV lt n (a + 1 + 1) 1 (upd w 0 (dgI (lt (a + 1))))))]) X (c_X4_digit l D cy ay k (uVa (uAt (uLt (uN v n) lt) (a + 1 + 1)) (upd w 0 (dgI (lt (a + 1))))) lt n (a + 1 + 1) (upd w 0 (dgI (lt (a + 1)))) 1 (by have := dgB_lt c308; omega) (by first | assumption | omega) (by first | assumption | omega)) vl_X4_86 dX4_statement_313 [0] 0 0 rfl rfl rfl rfl rfl rfl (ads_c (ads_M _ _ _ _ _ _) rfl) rfl rfl rfl rfl rfl rfl ⟨Nat.zero_le _, Nat.zero_le _⟩ ?_
            refine g_bif_ne (pc := 316) (tgt := 321) X dX4_statement_316 (by decide) (fun c316 => ?_) (fun c316 => ?_)
            · refine g_eq X (ss' := [wM cy ay k (uVa (uAt (uLt (uN v n) lt) (a + 1 + 1 + 1)) (upd (upd w 0 (dgI (lt (a + 1)))) 1 (dgI (lt (a + 1 + 1)))))]) (by rw [dgN_t c316, dgV_t c316]) ?_
              have hS : stM lt n a = (3, true) := by rw [st_l fl.1 fl.2, if_pos c308, if_pos (show dgB lt n (a + 2) = true from c316)]
              obtain ⟨d1, hd1, ed1⟩ := dg_d c316
              have hO : obB k (lt a) (lt (a + 1)) (lt (a + 2)) = alB k (nI d0) (nI d1) ∧ obK k (lt a) (lt (a + 1)) (lt (a + 2)) = alK k (nI d0) (nI d1) := by rw [f266b, ← ed0, ← ed1]; exact ob_l
              refine g_iload_n (pc := 321) X dX4_statement_321 3 rfl ?_
              refine g_if_ne (pc := 322) (tgt := 327) X dX4_statement_322 (by decide) (fun c322 => ?_) (fun c322 => by exact absurd c322 (by decide))
              refine g_aload_n (pc := 327) X dX4_statement_327 2 rfl ?_
              refine g_get (pc := 328) X (v := .ref (ay 8)) fl_X4_31 dX4_statement_328 0 0 rfl rfl rfl ?_
              refine g_iconst (v := 0) (pc := 331) X dX4_statement_331 (by decide) ?_
              refine g_iald_n (pc := 332) (f := upd (upd w 0 (dgI (lt (a + 1)))) 1 (dgI (lt (a + 1 + 1)))) X 0 8 dX4_statement_332 0 rfl rfl rfl (by omega) rfl ?_
              refine g_top X (x := (upd (upd w 0 (dgI (lt (a + 1)))) 1 (dgI (lt (a + 1 + 1)))) 0) (y := nI d0) (by rw [upd_n (by decide), upd_s, ed0]) ?_
              refine g_istore (lv' := [(4, .int (nI d0)), (3, .int (0)), (2, .int (1)), (0, .ref (ay 0)), (1, .int (1))]) (pc := 333) X dX4_statement_333 rfl rfl ?_
              refine g_aload_n (pc := 335) X dX4_statement_335 3 rfl ?_
              refine g_get (pc := 336) X (v := .ref (ay 8)) fl_X4_31 dX4_statement_336 0 0 rfl rfl rfl ?_
              refine g_iconst (v := 1) (pc := 339) X dX4_statement_339 (by decide) ?_
              refine g_iald_n (pc := 340) (f := upd (upd w 0 (dgI (lt (a + 1)))) 1 (dgI (lt (a + 1 + 1)))) X 0 8 dX4_statement_340 1 rfl rfl rfl (by omega) rfl ?_
              refine g_top X (x := (upd (upd w 0 (dgI (lt (a + 1)))) 1 (dgI (lt (a + 1 + 1)))) 1) (y := nI d1) (by rw [upd_s, ed1]) ?_
              refine g_istore (lv' := [(5, .int (nI d1)), (4, .int (nI d0)), (3, .int (0)), (2, .int (1)), (0, .ref (ay 0)), (1, .int (1))]) (pc := 341) X dX4_statement_341 rfl rfl ?_
              refine g_iload_n (pc := 343) X dX4_statement_343 3 rfl ?_
              refine g_if_eq (pc := 344) (tgt := 433) X dX4_statement_344 (by decide) (fun c344 => by exact absurd c344 (by decide)) (fun c344 => ?_)
              refine g_iload (pc := 347) X dX4_statement_347 1 rfl ?_
              refine g_callS (pc := 349) (rest := []) X (c_X4_isRoom l D cy (nI d0) ) sl_X4_105 dX4_statement_349 rfl rfl rfl rfl rfl ⟨Nat.zero_le _, Nat.zero_le _⟩ ?_
              refine g_bif_eq (pc := 352) (tgt := 390) X dX4_statement_352 (by decide) (fun c352 => ?_) (fun c352 => ?_)
              · have hAB : alB k (nI d0) (nI d1) = false := by rw [alB, c352]; rfl
                refine g_iconst (v := 0) (pc := 390) X dX4_statement_390 (by decide) ?_
                exact g_iretE (pc := 391) X (upd (upd w 0 (dgI (lt (a + 1)))) 1 (dgI (lt (a + 1 + 1)))) rfl dX4_statement_391 rfl (by first | (rw [hO.1, hAB]; done) | (rw [hO.1, hAB]; rfl)) (by first | (rw [hO.2, alK, if_neg (by rw [hAB]; decide), hS]; done) | (rw [hO.2, alK, if_neg (by rw [hAB]; decide), hS]; rfl))
              · have h6a := isRm_lt (by omega) c352
                refine g_iload (pc := 355) X dX4_statement_355 0 rfl ?_
                refine g_callS (pc := 357) (rest := []) X (c_X4_isRoom l D cy (nI d1) ) sl_X4_105 dX4_statement_357 rfl rfl rfl rfl rfl ⟨Nat.zero_le _, Nat.zero_le _⟩ ?_
                refine g_bif_eq (pc := 360) (tgt := 390) X dX4_statement_360 (by decide) (fun c360 => ?_) (fun c360 => ?_)
                · have hAB : alB k (nI d0) (nI d1) = false := by rw [alB, c360, Bool.false_and, Bool.and_false]
                  refine g_iconst (v := 0) (pc := 390) X dX4_statement_390 (by decide) ?_
                  exact g_iretE (pc := 391) X (upd (upd w 0 (dgI (lt (a + 1)))) 1 (dgI (lt (a + 1 + 1)))) rfl dX4_statement_391 rfl (by first | (rw [hO.1, hAB]; done) | (rw [hO.1, hAB]; rfl)) (by first | (rw [hO.2, alK, if_neg (by rw [hAB]; decide), hS]; done) | (rw [hO.2, alK, if_neg (by rw [hAB]; decide), hS]; rfl))
                · have h6b := isRm_lt (by omega) c360
                  refine g_iload (pc := 363) X dX4_statement_363 1 rfl ?_
                  refine g_iload (pc := 365) X dX4_statement_365 0 rfl ?_
                  refine g_ncmp_eq (pc := 367) (tgt := 390) X dX4_statement_367 (by decide) d0 d1 rfl rfl (by omega) (by omega) (fun c367 => ?_) (fun c367 => ?_)
                  · have hAB : alB k (nI d0) (nI d1) = false := by rw [alB, decide_eq_false (show ¬ nI d0 ≠ nI d1 from fun q => q (by rw [c367])), Bool.false_and, Bool.and_false, Bool.and_false]
                    refine g_iconst (v := 0) (pc := 390) X dX4_statement_390 (by decide) ?_
                    exact g_iretE (pc := 391) X (upd (upd w 0 (dgI (lt (a + 1)))) 1 (dgI (lt (a + 1 + 1)))) rfl dX4_statement_391 rfl (by first | (rw [hO.1, hAB]; done) | (rw [hO.1, hAB]; rfl)) (by first | (rw [hO.2, alK, if_neg (by rw [hAB]; decide), hS]; done) | (rw [hO.2, alK, if_neg (by rw [hAB]; decide), hS]; rfl))
                  · refine g_aload_n (pc := 370) X dX4_statement_370 4 rfl ?_
                    refine g_iload (pc := 371) X dX4_statement_371 1 rfl ?_
                    refine g_iload (pc := 373) X dX4_statement_373 0 rfl ?_
                    refine g_callV (pc := 375) (rest := []) (ss' := [wM cy ay k (uVa (uAt (uLt (uN v n) lt) (a + 1 + 1 + 1)) (upd (upd w 0 (dgI (lt (a + 1)))) 1 (dgI (lt (a + 1 + 1)))))]) X (c_X4_isOld l D cy ay k (uVa (uAt (uLt (uN v n) lt) (a + 1 + 1 + 1)) (upd (upd w 0 (dgI (lt (a + 1)))) 1 (dgI (lt (a + 1 + 1))))) d0 d1 (by omega) (by omega) hw.1.1) vl_X4_108 dX4_statement_375 [0] 0 0 rfl rfl rfl rfl rfl rfl rfl rfl rfl rfl rfl rfl rfl ⟨Nat.zero_le _, Nat.zero_le _⟩ ?_
                    refine g_bif_ne (pc := 378) (tgt := 390) X dX4_statement_378 (by decide) (fun c378 => ?_) (fun c378 => ?_)
                    · have hAB : alB k (nI d0) (nI d1) = false := by rw [al_ol hw.1 hw.2.1 h6a h6b c367, c378, Bool.not_true, Bool.and_false]
                      refine g_iconst (v := 0) (pc := 390) X dX4_statement_390 (by decide) ?_
                      exact g_iretE (pc := 391) X (upd (upd w 0 (dgI (lt (a + 1)))) 1 (dgI (lt (a + 1 + 1)))) rfl dX4_statement_391 rfl (by first | (rw [hO.1, hAB]; done) | (rw [hO.1, hAB]; rfl)) (by first | (rw [hO.2, alK, if_neg (by rw [hAB]; decide), hS]; done) | (rw [hO.2, alK, if_neg (by rw [hAB]; decide), hS]; rfl))
                    · refine g_aload_n (pc := 381) X dX4_statement_381 4 rfl ?_
                      refine g_get (pc := 382) X (v := .int (nI (kNl k))) fl_X4_60 dX4_statement_382 0 0 rfl rfl rfl ?_
                      refine g_bipush (v := 10) (pc := 385) X dX4_statement_385 (by decide) ?_
                      refine g_ncmp_ne (pc := 387) (tgt := 392) X dX4_statement_387 (by decide) (kNl k) 10 rfl rfl (by omega) (by decide) (fun c387 => ?_) (fun c387 => ?_)
                      · have hAB : alB k (nI d0) (nI d1) = true := by rw [al_ol hw.1 hw.2.1 h6a h6b c367, decide_eq_true (show kNl k < 10 by omega), c378]; rfl
                        refine g_aload_n (pc := 392) X dX4_statement_392 4 rfl ?_
                        refine g_get (pc := 393) X (v := .ref (ay 1)) fl_X4_7 dX4_statement_393 0 0 rfl rfl rfl ?_
                        refine g_aload_n (pc := 396) X dX4_statement_396 4 rfl ?_
                        refine g_get (pc := 397) X (v := .int (nI (kNl k))) fl_X4_60 dX4_statement_397 0 0 rfl rfl rfl ?_
                        refine g_iload (pc := 400) X dX4_statement_400 1 rfl ?_
                        refine g_iload (pc := 402) X dX4_statement_402 0 rfl ?_
                        refine g_mmin (pc := 404) (v := nI (min d0 d1)) X ml_X4_73 m_min_s ini_Math m_min_c dX4_statement_404 rfl rfl ⟨Nat.zero_le _, Nat.zero_le _⟩ (mmin_n d0 d1 (by omega) (by omega)) ?_
                        refine g_iast_n (pc := 407) X (ss' := [wM cy ay (sOn k (upd (kOn k) (kNl k) (nI (min d0 d1)))) (uVa (uAt (uLt (uN v n) lt) (a + 1 + 1 + 1)) (upd (upd w 0 (dgI (lt (a + 1)))) 1 (dgI (lt (a + 1 + 1)))))]) 0 1 dX4_statement_407 (kNl k) rfl rfl rfl (by omega) rfl rfl ?_
                        refine g_aload_n (pc := 408) X dX4_statement_408 4 rfl ?_
                        refine g_get (pc := 409) X (v := .ref (ay 2)) fl_X4_13 dX4_statement_409 0 0 rfl rfl rfl ?_
                        refine g_aload_n (pc := 412) X dX4_statement_412 4 rfl ?_
                        refine g_dup (pc := 413) X dX4_statement_413 rfl ?_
                        refine g_get (pc := 414) X (v := .int (nI (kNl k))) fl_X4_60 dX4_statement_414 0 0 rfl rfl rfl ?_
                        refine g_dup_x1 (pc := 417) X dX4_statement_417 rfl rfl ?_
                        refine g_iconst (v := 1) (pc := 418) X dX4_statement_418 (by decide) ?_
                        refine g_iadd (v := nI (kNl k + 1)) (pc := 419) X dX4_statement_419 (nI_add (kNl k) 1) ?_
                        refine g_put (pc := 420) X (ss' := [wM cy ay (sOn (sNl k (kNl k + 1)) (upd (kOn k) (kNl k) (nI (min d0 d1)))) (uVa (uAt (uLt (uN v n) lt) (a + 1 + 1 + 1)) (upd (upd w 0 (dgI (lt (a + 1)))) 1 (dgI (lt (a + 1 + 1)))))]) fp_X4_60 dX4_statement_420 0 0 rfl rfl rfl rfl rfl rfl ?_
                        refine g_iload (pc := 423) X dX4_statement_423 1 rfl ?_
                        refine g_iload (pc := 425) X dX4_statement_425 0 rfl ?_
                        refine g_mmax (pc := 427) (v := nI (max d0 d1)) X ml_X4_79 m_max_s ini_Math m_max_c dX4_statement_427 rfl rfl ⟨Nat.zero_le _, Nat.zero_le _⟩ (mmax_n d0 d1 (by omega) (by omega)) ?_
                        refine g_iast_n (pc := 430) X (ss' := [wM cy ay (sTw (sOn (sNl k (kNl k + 1)) (upd (kOn k) (kNl k) (nI (min d0 d1)))) (upd (kTw k) (kNl k) (nI (max d0 d1)))) (uVa (uAt (uLt (uN v n) lt) (a + 1 + 1 + 1)) (upd (upd w 0 (dgI (lt (a + 1)))) 1 (dgI (lt (a + 1 + 1)))))]) 0 2 dX4_statement_430 (kNl k) rfl rfl rfl (by omega) rfl rfl ?_
                        refine g_iconst (v := 1) (pc := 431) X dX4_statement_431 (by decide) ?_
                        exact g_iretE (pc := 432) X (upd (upd w 0 (dgI (lt (a + 1)))) 1 (dgI (lt (a + 1 + 1)))) rfl dX4_statement_432 rfl (by first | (rw [hO.1, hAB]; done) | (rw [hO.1, hAB]; rfl)) (by first | (rw [hO.2, alK, if_pos hAB, hS, alF, show mnI (nI d0) (nI d1) = nI (min d0 d1) from mmin_n d0 d1 (by omega) (by omega), show mxI (nI d0) (nI d1) = nI (max d0 d1) from mmax_n d0 d1 (by omega) (by omega)]; done) | (rw [hO.2, alK, if_pos hAB, hS, alF, show mnI (nI d0) (nI d1) = nI (min d0 d1) from mmin_n d0 d1 (by omega) (by omega), show mxI (nI d0) (nI d1) = nI (max d0 d1) from mmax_n d0 d1 (by omega) (by omega)]; rfl))
                      · have hAB : alB k (nI d0) (nI d1) = false := by rw [al_ol hw.1 hw.2.1 h6a h6b c367, decide_eq_false (show ¬ kNl k < 10 by omega)]; rfl
                        refine g_iconst (v := 0) (pc := 390) X dX4_statement_390 (by decide) ?_
                        exact g_iretE (pc := 391) X (upd (upd w 0 (dgI (lt (a + 1)))) 1 (dgI (lt (a + 1 + 1)))) rfl dX4_statement_391 rfl (by first | (rw [hO.1, hAB]; done) | (rw [hO.1, hAB]; rfl)) (by first | (rw [hO.2, alK, if_neg (by rw [hAB]; decide), hS]; done) | (rw [hO.2, alK, if_neg (by rw [hAB]; decide), hS]; rfl))
            · exact absurd hc (by rw [st_l fl.1 fl.2, if_pos c308, if_neg (show ¬ dgB lt n (a + 2) = true from by rw [show dgB lt n (a + 2) = false from c316]; decide)]; decide)
        · refine g_eq X (ss' := [wM cy ay k (uVa (uAt (uLt (uN v n) lt) a) w)]) (by rw [isN_f c266]) ?_
          refine g_lvv X (lv' := [(2, .int (0)), (0, .ref (ay 0)), (1, .int (1))]) (by rw [c266] <;> rfl) ?_
          refine g_aload_n (pc := 269) X dX4_statement_269 1 rfl ?_
          refine g_bipush (v := 111) (pc := 270) X dX4_statement_270 (by decide) ?_
          refine g_callV (pc := 272) (rest := []) (ss' := [wM cy ay k (uVa (uAt (uLt (uN v n) lt) (isN lt n a 111)) w)]) X (c_X4_is l D cy ay k (uVa (uAt (uLt (uN v n) lt) a) w) lt n a 111 (by first | assumption | omega) (by first | assumption | omega)) vl_X4_82 dX4_statement_272 [0] 0 0 rfl rfl rfl rfl rfl rfl (ads_c (ads_M _ _ _ _ _ _) rfl) rfl rfl rfl rfl rfl rfl ⟨Nat.zero_le _, Nat.zero_le _⟩ ?_
          refine g_bif_eq (pc := 275) (tgt := 282) X dX4_statement_275 (by decide) (fun c275 => ?_) (fun c275 => ?_)
          · refine g_eq X (ss' := [wM cy ay k (uVa (uAt (uLt (uN v n) lt) a) w)]) (by rw [isN_f c275]) ?_
            refine g_iconst (v := 0) (pc := 282) X dX4_statement_282 (by decide) ?_
            refine g_istore_n (lv' := [(3, .int (0)), (2, .int (0)), (0, .ref (ay 0)), (1, .int (1))]) (pc := 283) X dX4_statement_283 rfl rfl rfl ?_
            refine g_iload_n (pc := 284) X dX4_statement_284 1 rfl ?_
            refine g_if_ne (pc := 285) (tgt := 303) X dX4_statement_285 (by decide) (fun c285 => by exact absurd c285 (by decide)) (fun c285 => ?_)
            refine g_iload_n (pc := 288) X dX4_statement_288 0 rfl ?_
            refine g_if_ne (pc := 289) (tgt := 303) X dX4_statement_289 (by decide) (fun c289 => by exact absurd c289 (by decide)) (fun c289 => ?_)
            refine g_aload_n (pc := 292) X dX4_statement_292 2 rfl ?_
            refine g_bipush (v := 109) (pc := 293) X dX4_statement_293 (by decide) ?_
            refine g_callV (pc := 295) (rest := []) (ss' := [wM cy ay k (uVa (uAt (uLt (uN v n) lt) (isN lt n a 109)) w)]) X (c_X4_is l D cy ay k (uVa (uAt (uLt (uN v n) lt) a) w) lt n a 109 (by first | assumption | omega) (by first | assumption | omega)) vl_X4_82 dX4_statement_295 [0] 0 0 rfl rfl rfl rfl rfl rfl (ads_c (ads_M _ _ _ _ _ _) rfl) rfl rfl rfl rfl rfl rfl ⟨Nat.zero_le _, Nat.zero_le _⟩ ?_
            refine g_bif_ne (pc := 298) (tgt := 303) X dX4_statement_298 (by decide) (fun c298 => ?_) (fun c298 => ?_)
            · refine g_eq X (ss' := [wM cy ay k (uVa (uAt (uLt (uN v n) lt) (a + 1)) w)]) (by rw [isN_t c298]) ?_
              obtain ⟨f298a, f298b⟩ := isB_t c298
              have fl : a < n ∧ (lt a = 108 ∨ lt a = 111 ∨ lt a = 109) := ⟨f298a, Or.inr (Or.inr f298b)⟩
              refine g_aload_n (pc := 303) X dX4_statement_303 2 rfl ?_
              refine g_iconst (v := 0) (pc := 304) X dX4_statement_304 (by decide) ?_
              refine g_callV (pc := 305) (rest := []) (ss' := [wM cy ay k (uVa (uAt (uLt (uN v n) lt) (dgN lt n (a + 1))) (dgV lt n (a + 1) 0 w))]) X (c_X4_digit l D cy ay k (uVa (uAt (uLt (uN v n) lt) (a + 1)) w) lt n (a + 1) w 0 (by omega) (by first | assumption | omega) (by first | assumption | omega)) vl_X4_86 dX4_statement_305 [0] 0 0 rfl rfl rfl rfl rfl rfl (ads_c (ads_M _ _ _ _ _ _) rfl) rfl rfl rfl rfl rfl rfl ⟨Nat.zero_le _, Nat.zero_le _⟩ ?_
              refine g_bif_eq (pc := 308) (tgt := 319) X dX4_statement_308 (by decide) (fun c308 => ?_) (fun c308 => ?_)
              · exact absurd hc (by rw [st_l fl.1 fl.2, if_neg (by rw [c308]; decide)]; decide)
              · refine g_eq X (ss' := [wM cy ay k (uVa (uAt (uLt (uN v n) lt) (a + 1 + 1)) (upd w 0 (dgI (lt (a + 1)))))]) (by rw [dgN_t c308, dgV_t c308]) ?_
                obtain ⟨d0, hd0, ed0⟩ := dg_d c308
                refine g_aload_n (pc := 311) X dX4_statement_311 2 rfl ?_
                refine g_iconst (v := 1) (pc := 312) X dX4_statement_312 (by decide) ?_
                refine g_callV (pc := 313) (rest := []) (ss' := [wM cy ay k (uVa (uAt (uLt (uN v n) lt) (dgN lt n (a + 1 + 1))) (dgV lt n (a + 1 + 1) 1 (upd w 0 (dgI (lt (a + 1))))))]) X (c_X4_digit l D cy ay k (uVa (uAt (uLt (uN v n) lt) (a + 1 + 1)) (upd w 0 (dgI (lt (a + 1))))) lt n (a + 1 + 1) (upd w 0 (dgI (lt (a + 1)))) 1 (by have := dgB_lt c308; omega) (by first | assumption | omega) (by first | assumption | omega)) vl_X4_86 dX4_statement_313 [0] 0 0 rfl rfl rfl rfl rfl rfl (ads_c (ads_M _ _ _ _ _ _) rfl) rfl rfl rfl rfl rfl rfl ⟨Nat.zero_le _, Nat.zero_le _⟩ ?_
                refine g_bif_ne (pc := 316) (tgt := 321) X dX4_statement_316 (by decide) (fun c316 => ?_) (fun c316 => ?_)
                · refine g_eq X (ss' := [wM cy ay k (uVa (uAt (uLt (uN v n) lt) (a + 1 + 1 + 1)) (upd (upd w 0 (dgI (lt (a + 1)))) 1 (dgI (lt (a + 1 + 1)))))]) (by rw [dgN_t c316, dgV_t c316]) ?_
                  have hS : stM lt n a = (3, true) := by rw [st_l fl.1 fl.2, if_pos c308, if_pos (show dgB lt n (a + 2) = true from c316)]
                  obtain ⟨d1, hd1, ed1⟩ := dg_d c316
                  have hO : obB k (lt a) (lt (a + 1)) (lt (a + 2)) = brB k (nI d0) (nI d1) ∧ obK k (lt a) (lt (a + 1)) (lt (a + 2)) = brK k (nI d0) (nI d1) := by rw [f298b, ← ed0, ← ed1]; exact ob_m
                  refine g_iload_n (pc := 321) X dX4_statement_321 3 rfl ?_
                  refine g_if_ne (pc := 322) (tgt := 327) X dX4_statement_322 (by decide) (fun c322 => ?_) (fun c322 => by exact absurd c322 (by decide))
                  refine g_aload_n (pc := 327) X dX4_statement_327 2 rfl ?_
                  refine g_get (pc := 328) X (v := .ref (ay 8)) fl_X4_31 dX4_statement_328 0 0 rfl rfl rfl ?_
                  refine g_iconst (v := 0) (pc := 331) X dX4_statement_331 (by decide) ?_
                  refine g_iald_n (pc := 332) (f := upd (upd w 0 (dgI (lt (a + 1)))) 1 (dgI (lt (a + 1 + 1)))) X 0 8 dX4_statement_332 0 rfl rfl rfl (by omega) rfl ?_
                  refine g_top X (x := (upd (upd w 0 (dgI (lt (a + 1)))) 1 (dgI (lt (a + 1 + 1)))) 0) (y := nI d0) (by rw [upd_n (by decide), upd_s, ed0]) ?_
                  refine g_istore (lv' := [(4, .int (nI d0)), (3, .int (0)), (2, .int (0)), (0, .ref (ay 0)), (1, .int (1))]) (pc := 333) X dX4_statement_333 rfl rfl ?_
                  refine g_aload_n (pc := 335) X dX4_statement_335 3 rfl ?_
                  refine g_get (pc := 336) X (v := .ref (ay 8)) fl_X4_31 dX4_statement_336 0 0 rfl rfl rfl ?_
                  refine g_iconst (v := 1) (pc := 339) X dX4_statement_339 (by decide) ?_
                  refine g_iald_n (pc := 340) (f := upd (upd w 0 (dgI (lt (a + 1)))) 1 (dgI (lt (a + 1 + 1)))) X 0 8 dX4_statement_340 1 rfl rfl rfl (by omega) rfl ?_
                  refine g_top X (x := (upd (upd w 0 (dgI (lt (a + 1)))) 1 (dgI (lt (a + 1 + 1)))) 1) (y := nI d1) (by rw [upd_s, ed1]) ?_
                  refine g_istore (lv' := [(5, .int (nI d1)), (4, .int (nI d0)), (3, .int (0)), (2, .int (0)), (0, .ref (ay 0)), (1, .int (1))]) (pc := 341) X dX4_statement_341 rfl rfl ?_
                  refine g_iload_n (pc := 343) X dX4_statement_343 3 rfl ?_
                  refine g_if_eq (pc := 344) (tgt := 433) X dX4_statement_344 (by decide) (fun c344 => ?_) (fun c344 => by exact absurd c344 (by decide))
                  refine g_aload_n (pc := 433) X dX4_statement_433 4 rfl ?_
                  refine g_iload (pc := 434) X dX4_statement_434 1 rfl ?_
                  refine g_callV (pc := 436) (rest := []) (ss' := [wM cy ay k (uVa (uAt (uLt (uN v n) lt) (a + 1 + 1 + 1)) (upd (upd w 0 (dgI (lt (a + 1)))) 1 (dgI (lt (a + 1 + 1)))))]) X (c_X4_isThing l D cy ay k (uVa (uAt (uLt (uN v n) lt) (a + 1 + 1 + 1)) (upd (upd w 0 (dgI (lt (a + 1)))) 1 (dgI (lt (a + 1 + 1))))) (nI d0) h8) vl_X4_112 dX4_statement_436 [0] 0 0 rfl rfl rfl rfl rfl rfl rfl rfl rfl rfl rfl rfl rfl ⟨Nat.zero_le _, Nat.zero_le _⟩ ?_
                  refine g_bif_ne (pc := 439) (tgt := 444) X dX4_statement_439 (by decide) (fun c439 => ?_) (fun c439 => ?_)
                  · refine g_iload_n (pc := 444) X dX4_statement_444 2 rfl ?_
                    refine g_if_eq (pc := 445) (tgt := 477) X dX4_statement_445 (by decide) (fun c445 => ?_) (fun c445 => by exact absurd c445 (by decide))
                    refine g_iload (pc := 477) X dX4_statement_477 0 rfl ?_
                    refine g_callS (pc := 479) (rest := []) X (c_X4_isRoom l D cy (nI d1) ) sl_X4_105 dX4_statement_479 rfl rfl rfl rfl rfl ⟨Nat.zero_le _, Nat.zero_le _⟩ ?_
                    refine g_bif_ne (pc := 482) (tgt := 487) X dX4_statement_482 (by decide) (fun c482 => ?_) (fun c482 => ?_)
                    · have hAB : brB k (nI d0) (nI d1) = true := by rw [brB, c439, c482]; rfl
                      refine g_aload_n (pc := 487) X dX4_statement_487 4 rfl ?_
                      refine g_get (pc := 488) X (v := .ref (ay 4)) fl_X4_19 dX4_statement_488 0 0 rfl rfl rfl ?_
                      refine g_iload (pc := 491) X dX4_statement_491 1 rfl ?_
                      refine g_iload (pc := 493) X dX4_statement_493 0 rfl ?_
                      refine g_iast_n (pc := 495) X (ss' := [wM cy ay (sRo k (upd (kRo k) d0 (nI d1))) (uVa (uAt (uLt (uN v n) lt) (a + 1 + 1 + 1)) (upd (upd w 0 (dgI (lt (a + 1)))) 1 (dgI (lt (a + 1 + 1)))))]) 0 4 dX4_statement_495 d0 rfl rfl rfl (by have := hasT_lt h8 (by omega) c439; omega) rfl rfl ?_
                      refine g_iconst (v := 1) (pc := 496) X dX4_statement_496 (by decide) ?_
                      exact g_iretE (pc := 497) X (upd (upd w 0 (dgI (lt (a + 1)))) 1 (dgI (lt (a + 1 + 1)))) rfl dX4_statement_497 rfl (by first | (rw [hO.1, hAB]; done) | (rw [hO.1, hAB]; rfl)) (by first | (rw [hO.2, brK, if_pos hAB, ixn (by omega), hS]; done) | (rw [hO.2, brK, if_pos hAB, ixn (by omega), hS]; rfl))
                    · have hAB : brB k (nI d0) (nI d1) = false := by rw [brB, c482, Bool.and_false]
                      refine g_iconst (v := 0) (pc := 485) X dX4_statement_485 (by decide) ?_
                      exact g_iretE (pc := 486) X (upd (upd w 0 (dgI (lt (a + 1)))) 1 (dgI (lt (a + 1 + 1)))) rfl dX4_statement_486 rfl (by first | (rw [hO.1, hAB]; done) | (rw [hO.1, hAB]; rfl)) (by first | (rw [hO.2, brK, if_neg (by rw [hAB]; decide), hS]; done) | (rw [hO.2, brK, if_neg (by rw [hAB]; decide), hS]; rfl))
                  · have hAB : brB k (nI d0) (nI d1) = false := by rw [brB, c439]; rfl
                    refine g_iconst (v := 0) (pc := 442) X dX4_statement_442 (by decide) ?_
                    exact g_iretE (pc := 443) X (upd (upd w 0 (dgI (lt (a + 1)))) 1 (dgI (lt (a + 1 + 1)))) rfl dX4_statement_443 rfl (by first | (rw [hO.1, hAB]; done) | (rw [hO.1, hAB]; rfl)) (by first | (rw [hO.2, acK, if_neg (by rw [hAB]; decide), hS]; done) | (rw [hO.2, acK, if_neg (by rw [hAB]; decide), hS]; rfl) | (rw [hO.2, brK, if_neg (by rw [hAB]; decide), hS]; done) | (rw [hO.2, brK, if_neg (by rw [hAB]; decide), hS]; rfl))
                · exact absurd hc (by rw [st_l fl.1 fl.2, if_pos c308, if_neg (show ¬ dgB lt n (a + 2) = true from by rw [show dgB lt n (a + 2) = false from c316]; decide)]; decide)
            · exact absurd hc (by rw [st_0 (fun h => ⟨isB_f c6 h, isB_f c65 h, isB_f c115 h, isB_f c266 h, isB_f c275 h, isB_f c298 h⟩)]; decide)
          · refine g_eq X (ss' := [wM cy ay k (uVa (uAt (uLt (uN v n) lt) (a + 1)) w)]) (by rw [isN_t c275]) ?_
            obtain ⟨f275a, f275b⟩ := isB_t c275
            have fl : a < n ∧ (lt a = 108 ∨ lt a = 111 ∨ lt a = 109) := ⟨f275a, Or.inr (Or.inl f275b)⟩
            refine g_iconst (v := 1) (pc := 278) X dX4_statement_278 (by decide) ?_
            refine g_goto (pc := 279) (tgt := 283) X dX4_statement_279 (by decide) ?_
            refine g_istore_n (lv' := [(3, .int (1)), (2, .int (0)), (0, .ref (ay 0)), (1, .int (1))]) (pc := 283) X dX4_statement_283 rfl rfl rfl ?_
            refine g_iload_n (pc := 284) X dX4_statement_284 1 rfl ?_
            refine g_if_ne (pc := 285) (tgt := 303) X dX4_statement_285 (by decide) (fun c285 => by exact absurd c285 (by decide)) (fun c285 => ?_)
            refine g_iload_n (pc := 288) X dX4_statement_288 0 rfl ?_
            refine g_if_ne (pc := 289) (tgt := 303) X dX4_statement_289 (by decide) (fun c289 => ?_) (fun c289 => by exact absurd c289 (by decide))
            refine g_aload_n (pc := 303) X dX4_statement_303 2 rfl ?_
            refine g_iconst (v := 0) (pc := 304) X dX4_statement_304 (by decide) ?_
            refine g_callV (pc := 305) (rest := []) (ss' := [wM cy ay k (uVa (uAt (uLt (uN v n) lt) (dgN lt n (a + 1))) (dgV lt n (a + 1) 0 w))]) X (c_X4_digit l D cy ay k (uVa (uAt (uLt (uN v n) lt) (a + 1)) w) lt n (a + 1) w 0 (by omega) (by first | assumption | omega) (by first | assumption | omega)) vl_X4_86 dX4_statement_305 [0] 0 0 rfl rfl rfl rfl rfl rfl (ads_c (ads_M _ _ _ _ _ _) rfl) rfl rfl rfl rfl rfl rfl ⟨Nat.zero_le _, Nat.zero_le _⟩ ?_
            refine g_bif_eq (pc := 308) (tgt := 319) X dX4_statement_308 (by decide) (fun c308 => ?_) (fun c308 => ?_)
            · exact absurd hc (by rw [st_l fl.1 fl.2, if_neg (by rw [c308]; decide)]; decide)
            · refine g_eq X (ss' := [wM cy ay k (uVa (uAt (uLt (uN v n) lt) (a + 1 + 1)) (upd w 0 (dgI (lt (a + 1)))))]) (by rw [dgN_t c308, dgV_t c308]) ?_
              obtain ⟨d0, hd0, ed0⟩ := dg_d c308
              refine g_aload_n (pc := 311) X dX4_statement_311 2 rfl ?_
              refine g_iconst (v := 1) (pc := 312) X dX4_statement_312 (by decide) ?_
              refine g_callV (pc := 313) (rest := []) (ss' := [wM cy ay k (uVa (uAt (uLt (uN v n) lt) (dgN lt n (a + 1 + 1))) (dgV lt n (a + 1 + 1) 1 (upd w 0 (dgI (lt (a + 1))))))]) X (c_X4_digit l D cy ay k (uVa (uAt (uLt (uN v n) lt) (a + 1 + 1)) (upd w 0 (dgI (lt (a + 1))))) lt n (a + 1 + 1) (upd w 0 (dgI (lt (a + 1)))) 1 (by have := dgB_lt c308; omega) (by first | assumption | omega) (by first | assumption | omega)) vl_X4_86 dX4_statement_313 [0] 0 0 rfl rfl rfl rfl rfl rfl (ads_c (ads_M _ _ _ _ _ _) rfl) rfl rfl rfl rfl rfl rfl ⟨Nat.zero_le _, Nat.zero_le _⟩ ?_
              refine g_bif_ne (pc := 316) (tgt := 321) X dX4_statement_316 (by decide) (fun c316 => ?_) (fun c316 => ?_)
              · refine g_eq X (ss' := [wM cy ay k (uVa (uAt (uLt (uN v n) lt) (a + 1 + 1 + 1)) (upd (upd w 0 (dgI (lt (a + 1)))) 1 (dgI (lt (a + 1 + 1)))))]) (by rw [dgN_t c316, dgV_t c316]) ?_
                have hS : stM lt n a = (3, true) := by rw [st_l fl.1 fl.2, if_pos c308, if_pos (show dgB lt n (a + 2) = true from c316)]
                obtain ⟨d1, hd1, ed1⟩ := dg_d c316
                have hO : obB k (lt a) (lt (a + 1)) (lt (a + 2)) = acB k (nI d0) (nI d1) ∧ obK k (lt a) (lt (a + 1)) (lt (a + 2)) = acK k (nI d0) (nI d1) := by rw [f275b, ← ed0, ← ed1]; exact ob_o
                refine g_iload_n (pc := 321) X dX4_statement_321 3 rfl ?_
                refine g_if_ne (pc := 322) (tgt := 327) X dX4_statement_322 (by decide) (fun c322 => ?_) (fun c322 => by exact absurd c322 (by decide))
                refine g_aload_n (pc := 327) X dX4_statement_327 2 rfl ?_
                refine g_get (pc := 328) X (v := .ref (ay 8)) fl_X4_31 dX4_statement_328 0 0 rfl rfl rfl ?_
                refine g_iconst (v := 0) (pc := 331) X dX4_statement_331 (by decide) ?_
                refine g_iald_n (pc := 332) (f := upd (upd w 0 (dgI (lt (a + 1)))) 1 (dgI (lt (a + 1 + 1)))) X 0 8 dX4_statement_332 0 rfl rfl rfl (by omega) rfl ?_
                refine g_top X (x := (upd (upd w 0 (dgI (lt (a + 1)))) 1 (dgI (lt (a + 1 + 1)))) 0) (y := nI d0) (by rw [upd_n (by decide), upd_s, ed0]) ?_
                refine g_istore (lv' := [(4, .int (nI d0)), (3, .int (1)), (2, .int (0)), (0, .ref (ay 0)), (1, .int (1))]) (pc := 333) X dX4_statement_333 rfl rfl ?_
                refine g_aload_n (pc := 335) X dX4_statement_335 3 rfl ?_
                refine g_get (pc := 336) X (v := .ref (ay 8)) fl_X4_31 dX4_statement_336 0 0 rfl rfl rfl ?_
                refine g_iconst (v := 1) (pc := 339) X dX4_statement_339 (by decide) ?_
                refine g_iald_n (pc := 340) (f := upd (upd w 0 (dgI (lt (a + 1)))) 1 (dgI (lt (a + 1 + 1)))) X 0 8 dX4_statement_340 1 rfl rfl rfl (by omega) rfl ?_
                refine g_top X (x := (upd (upd w 0 (dgI (lt (a + 1)))) 1 (dgI (lt (a + 1 + 1)))) 1) (y := nI d1) (by rw [upd_s, ed1]) ?_
                refine g_istore (lv' := [(5, .int (nI d1)), (4, .int (nI d0)), (3, .int (1)), (2, .int (0)), (0, .ref (ay 0)), (1, .int (1))]) (pc := 341) X dX4_statement_341 rfl rfl ?_
                refine g_iload_n (pc := 343) X dX4_statement_343 3 rfl ?_
                refine g_if_eq (pc := 344) (tgt := 433) X dX4_statement_344 (by decide) (fun c344 => ?_) (fun c344 => by exact absurd c344 (by decide))
                refine g_aload_n (pc := 433) X dX4_statement_433 4 rfl ?_
                refine g_iload (pc := 434) X dX4_statement_434 1 rfl ?_
                refine g_callV (pc := 436) (rest := []) (ss' := [wM cy ay k (uVa (uAt (uLt (uN v n) lt) (a + 1 + 1 + 1)) (upd (upd w 0 (dgI (lt (a + 1)))) 1 (dgI (lt (a + 1 + 1)))))]) X (c_X4_isThing l D cy ay k (uVa (uAt (uLt (uN v n) lt) (a + 1 + 1 + 1)) (upd (upd w 0 (dgI (lt (a + 1)))) 1 (dgI (lt (a + 1 + 1))))) (nI d0) h8) vl_X4_112 dX4_statement_436 [0] 0 0 rfl rfl rfl rfl rfl rfl rfl rfl rfl rfl rfl rfl rfl ⟨Nat.zero_le _, Nat.zero_le _⟩ ?_
                refine g_bif_ne (pc := 439) (tgt := 444) X dX4_statement_439 (by decide) (fun c439 => ?_) (fun c439 => ?_)
                · refine g_iload_n (pc := 444) X dX4_statement_444 2 rfl ?_
                  refine g_if_eq (pc := 445) (tgt := 477) X dX4_statement_445 (by decide) (fun c445 => by exact absurd c445 (by decide)) (fun c445 => ?_)
                  refine g_aload_n (pc := 448) X dX4_statement_448 4 rfl ?_
                  refine g_iload (pc := 449) X dX4_statement_449 0 rfl ?_
                  refine g_callV (pc := 451) (rest := []) (ss' := [wM cy ay k (uVa (uAt (uLt (uN v n) lt) (a + 1 + 1 + 1)) (upd (upd w 0 (dgI (lt (a + 1)))) 1 (dgI (lt (a + 1 + 1)))))]) X (c_X4_isThing l D cy ay k (uVa (uAt (uLt (uN v n) lt) (a + 1 + 1 + 1)) (upd (upd w 0 (dgI (lt (a + 1)))) 1 (dgI (lt (a + 1 + 1))))) (nI d1) h8) vl_X4_112 dX4_statement_451 [0] 0 0 rfl rfl rfl rfl rfl rfl rfl rfl rfl rfl rfl rfl rfl ⟨Nat.zero_le _, Nat.zero_le _⟩ ?_
                  refine g_bif_eq (pc := 454) (tgt := 464) X dX4_statement_454 (by decide) (fun c454 => ?_) (fun c454 => ?_)
                  · have hAB : acB k (nI d0) (nI d1) = false := by rw [acB, c454, Bool.false_and, Bool.and_false]
                    refine g_iconst (v := 0) (pc := 464) X dX4_statement_464 (by decide) ?_
                    exact g_iretE (pc := 465) X (upd (upd w 0 (dgI (lt (a + 1)))) 1 (dgI (lt (a + 1 + 1)))) rfl dX4_statement_465 rfl (by first | (rw [hO.1, hAB]; done) | (rw [hO.1, hAB]; rfl)) (by first | (rw [hO.2, acK, if_neg (by rw [hAB]; decide), hS]; done) | (rw [hO.2, acK, if_neg (by rw [hAB]; decide), hS]; rfl))
                  · refine g_iload (pc := 457) X dX4_statement_457 1 rfl ?_
                    refine g_iload (pc := 459) X dX4_statement_459 0 rfl ?_
                    refine g_ncmp_ne (pc := 461) (tgt := 466) X dX4_statement_461 (by decide) d0 d1 rfl rfl (by omega) (by omega) (fun c461 => ?_) (fun c461 => ?_)
                    · have hAB : acB k (nI d0) (nI d1) = true := by rw [acB, c439, c454, decide_eq_true (show nI d0 ≠ nI d1 from fun q => c461 ((nI_eq (by omega) (by omega)).mp q))]; rfl
                      refine g_aload_n (pc := 466) X dX4_statement_466 4 rfl ?_
                      refine g_iload (pc := 467) X dX4_statement_467 1 rfl ?_
                      refine g_iload (pc := 469) X dX4_statement_469 0 rfl ?_
                      refine g_callV (pc := 471) (rest := []) (ss' := [wM cy ay (cpK k d0 d1) (uVa (uAt (uLt (uN v n) lt) (a + 1 + 1 + 1)) (upd (upd w 0 (dgI (lt (a + 1)))) 1 (dgI (lt (a + 1 + 1)))))]) X (c_X4_give l D cy ay k (uVa (uAt (uLt (uN v n) lt) (a + 1 + 1 + 1)) (upd (upd w 0 (dgI (lt (a + 1)))) 1 (dgI (lt (a + 1 + 1))))) d0 d1 (hasT_lt h8 (by omega) c439) (hasT_lt h8 (by omega) c454) c461 h8 hw.2.2.2.2.1) vl_X4_115 dX4_statement_471 [0] 0 0 rfl rfl rfl rfl rfl rfl (ads_c (ads_M _ _ _ _ _ _) rfl) rfl rfl rfl rfl rfl rfl ⟨Nat.zero_le _, Nat.zero_le _⟩ ?_
                      generalize hqk471_1 : cpK k d0 d1 = k471_1
                      refine g_pop (pc := 474) X dX4_statement_474 rfl ?_
                      refine g_iconst (v := 1) (pc := 475) X dX4_statement_475 (by decide) ?_
                      subst hqk471_1
                      exact g_iretE (pc := 476) X (upd (upd w 0 (dgI (lt (a + 1)))) 1 (dgI (lt (a + 1 + 1)))) rfl dX4_statement_476 rfl (by first | (rw [hO.1, hAB]; done) | (rw [hO.1, hAB]; rfl)) (by first | (rw [hO.2, acK, if_pos hAB, ixn (by omega), ixn (by omega), hS]; done) | (rw [hO.2, acK, if_pos hAB, ixn (by omega), ixn (by omega), hS]; rfl))
                    · have hAB : acB k (nI d0) (nI d1) = false := by rw [acB, decide_eq_false (show ¬ nI d0 ≠ nI d1 from fun q => q (by rw [c461])), Bool.and_false, Bool.and_false]
                      refine g_iconst (v := 0) (pc := 464) X dX4_statement_464 (by decide) ?_
                      exact g_iretE (pc := 465) X (upd (upd w 0 (dgI (lt (a + 1)))) 1 (dgI (lt (a + 1 + 1)))) rfl dX4_statement_465 rfl (by first | (rw [hO.1, hAB]; done) | (rw [hO.1, hAB]; rfl)) (by first | (rw [hO.2, acK, if_neg (by rw [hAB]; decide), hS]; done) | (rw [hO.2, acK, if_neg (by rw [hAB]; decide), hS]; rfl))
                · have hAB : acB k (nI d0) (nI d1) = false := by rw [acB, c439]; rfl
                  refine g_iconst (v := 0) (pc := 442) X dX4_statement_442 (by decide) ?_
                  exact g_iretE (pc := 443) X (upd (upd w 0 (dgI (lt (a + 1)))) 1 (dgI (lt (a + 1 + 1)))) rfl dX4_statement_443 rfl (by first | (rw [hO.1, hAB]; done) | (rw [hO.1, hAB]; rfl)) (by first | (rw [hO.2, acK, if_neg (by rw [hAB]; decide), hS]; done) | (rw [hO.2, acK, if_neg (by rw [hAB]; decide), hS]; rfl) | (rw [hO.2, brK, if_neg (by rw [hAB]; decide), hS]; done) | (rw [hO.2, brK, if_neg (by rw [hAB]; decide), hS]; rfl))
              · exact absurd hc (by rw [st_l fl.1 fl.2, if_pos c308, if_neg (show ¬ dgB lt n (a + 2) = true from by rw [show dgB lt n (a + 2) = false from c316]; decide)]; decide)
      · refine g_eq X (ss' := [wM cy ay k (uVa (uAt (uLt (uN v n) lt) (a + 1)) w)]) (by rw [isN_t c115]) ?_
        obtain ⟨f115a, f115b⟩ := isB_t c115
        refine g_aload_n (pc := 118) X dX4_statement_118 0 rfl ?_
        refine g_get (pc := 119) X (v := .int (nI (a + 1))) fl_X4_70 dX4_statement_119 0 0 rfl rfl rfl ?_
        refine g_aload_n (pc := 122) X dX4_statement_122 0 rfl ?_
        refine g_get (pc := 123) X (v := .int (nI n)) fl_X4_67 dX4_statement_123 0 0 rfl rfl rfl ?_
        refine g_ncmp_ge (pc := 126) (tgt := 158) X dX4_statement_126 (by decide) (a + 1) n rfl rfl (by omega) (by omega) (fun c126 => ?_) (fun c126 => ?_)
        · have n126 := Nat.not_lt.mpr c126
          have hK : kdB lt n (a + 1) = false := decide_eq_false (fun q => by omega)
          exact absurd hc (by rw [st_t f115a f115b, if_neg (by rw [hK]; decide)]; decide)
        · refine g_aload_n (pc := 129) X dX4_statement_129 0 rfl ?_
          refine g_get (pc := 130) X (v := .ref (ay 7)) fl_X4_28 dX4_statement_130 0 0 rfl rfl rfl ?_
          refine g_aload_n (pc := 133) X dX4_statement_133 0 rfl ?_
          refine g_get (pc := 134) X (v := .int (nI (a + 1))) fl_X4_70 dX4_statement_134 0 0 rfl rfl rfl ?_
          refine g_iald_n (pc := 137) (f := lt) X 0 7 dX4_statement_137 (a + 1) rfl rfl rfl (by omega) rfl ?_
          refine g_if_le (pc := 138) (tgt := 158) X dX4_statement_138 (by decide) (fun c138 => ?_) (fun c138 => ?_)
          · have n138 := Int32.not_lt.mpr c138
            have hK : kdB lt n (a + 1) = false := decide_eq_false (fun q => q.2 (ki_no (Or.inl n138)))
            exact absurd hc (by rw [st_t f115a f115b, if_neg (by rw [hK]; decide)]; decide)
          · refine g_zldc (pc := 141) X hZ rfl dX4_statement_141 ?_
            refine g_aload_n (pc := 143) X dX4_statement_143 0 rfl ?_
            refine g_get (pc := 144) X (v := .ref (ay 7)) fl_X4_28 dX4_statement_144 0 0 rfl rfl rfl ?_
            refine g_aload_n (pc := 147) X dX4_statement_147 0 rfl ?_
            refine g_get (pc := 148) X (v := .int (nI (a + 1))) fl_X4_70 dX4_statement_148 0 0 rfl rfl rfl ?_
            refine g_iald_n (pc := 151) (f := lt) X 0 7 dX4_statement_151 (a + 1) rfl rfl rfl (by omega) rfl ?_
            refine g_callJV (pc := 152) (rest := []) X hZ (c_J0_indexOf_0f7a4 l D cy q_ t_ (lt (a + 1)) ) vl_X4_100 rfl dX4_statement_152 rfl rfl rfl rfl rfl ⟨Nat.zero_le _, Nat.zero_le _⟩ ?_
            refine g_goto (pc := 155) (tgt := 159) X dX4_statement_155 (by decide) ?_
            refine g_istore_n (lv' := [(2, .int (kiI (lt (a + 1)))), (0, .ref (ay 0)), (1, .int (1))]) (pc := 159) X dX4_statement_159 rfl rfl rfl ?_
            refine g_iload_n (pc := 160) X dX4_statement_160 0 rfl ?_
            refine g_if_ge (pc := 161) (tgt := 166) X dX4_statement_161 (by decide) (fun c161 => ?_) (fun c161 => ?_)
            · have n161 := Int32.not_lt.mpr c161
              obtain ⟨hk9, hkd⟩ := ki_yes c161
              have hK : kdB lt n (a + 1) = true := decide_eq_true ⟨by omega, hk9⟩
              rw [hkd]
              refine g_aload_n (pc := 166) X dX4_statement_166 1 rfl ?_
              refine g_dup (pc := 167) X dX4_statement_167 rfl ?_
              refine g_get (pc := 168) X (v := .int (nI (a + 1))) fl_X4_70 dX4_statement_168 0 0 rfl rfl rfl ?_
              refine g_iconst (v := 1) (pc := 171) X dX4_statement_171 (by decide) ?_
              refine g_iadd (v := nI (a + 1 + 1)) (pc := 172) X dX4_statement_172 (nI_add (a + 1) 1) ?_
              refine g_put (pc := 173) X (ss' := [wM cy ay k (uVa (uAt (uLt (uN v n) lt) (a + 1 + 1)) w)]) fp_X4_70 dX4_statement_173 0 0 rfl rfl rfl rfl rfl rfl ?_
              refine g_aload_n (pc := 176) X dX4_statement_176 1 rfl ?_
              refine g_iconst (v := 0) (pc := 177) X dX4_statement_177 (by decide) ?_
              refine g_callV (pc := 178) (rest := []) (ss' := [wM cy ay k (uVa (uAt (uLt (uN v n) lt) (dgN lt n (a + 1 + 1))) (dgV lt n (a + 1 + 1) 0 w))]) X (c_X4_digit l D cy ay k (uVa (uAt (uLt (uN v n) lt) (a + 1 + 1)) w) lt n (a + 1 + 1) w 0 (by omega) (by first | assumption | omega) (by first | assumption | omega)) vl_X4_86 dX4_statement_178 [0] 0 0 rfl rfl rfl rfl rfl rfl (ads_c (ads_M _ _ _ _ _ _) rfl) rfl rfl rfl rfl rfl rfl ⟨Nat.zero_le _, Nat.zero_le _⟩ ?_
              refine g_bif_ne (pc := 181) (tgt := 186) X dX4_statement_181 (by decide) (fun c181 => ?_) (fun c181 => ?_)
              · refine g_eq X (ss' := [wM cy ay k (uVa (uAt (uLt (uN v n) lt) (a + 1 + 1 + 1)) (upd w 0 (dgI (lt (a + 1 + 1)))))]) (by rw [dgN_t c181, dgV_t c181]) ?_
                have hS : stM lt n a = (3, true) := by rw [st_t f115a f115b, if_pos hK, if_pos (show dgB lt n (a + 2) = true from c181)]
                obtain ⟨d0, hd0, ed0⟩ := dg_d c181
                have hO : obB k (lt a) (lt (a + 1)) (lt (a + 2)) = atB k (nI d0) ∧ obK k (lt a) (lt (a + 1)) (lt (a + 2)) = atK k (kdI (lt (a + 1))) (nI d0) := by rw [f115b, ← ed0]; exact ob_t
                refine g_iload_n (pc := 186) X dX4_statement_186 2 rfl ?_
                refine g_if_ne (pc := 187) (tgt := 192) X dX4_statement_187 (by decide) (fun c187 => ?_) (fun c187 => by exact absurd c187 (by decide))
                refine g_aload_n (pc := 192) X dX4_statement_192 1 rfl ?_
                refine g_get (pc := 193) X (v := .ref (ay 8)) fl_X4_31 dX4_statement_193 0 0 rfl rfl rfl ?_
                refine g_iconst (v := 0) (pc := 196) X dX4_statement_196 (by decide) ?_
                refine g_iald_n (pc := 197) (f := upd w 0 (dgI (lt (a + 1 + 1)))) X 0 8 dX4_statement_197 0 rfl rfl rfl (by omega) rfl ?_
                refine g_top X (x := (upd w 0 (dgI (lt (a + 1 + 1)))) 0) (y := nI d0) (by rw [upd_s, ed0]) ?_
                refine g_iconst (v := 5) (pc := 198) X dX4_statement_198 (by decide) ?_
                refine g_ncmp_gt (pc := 199) (tgt := 211) X dX4_statement_199 (by decide) d0 5 rfl rfl (by omega) (by decide) (fun c199 => ?_) (fun c199 => ?_)
                · have hAB : atB k (nI d0) = false := by rw [atB, isRm_n (by omega), decide_eq_false (show ¬ d0 < 6 by omega)]; rfl
                  refine g_iconst (v := 0) (pc := 211) X dX4_statement_211 (by decide) ?_
                  exact g_iretE (pc := 212) X (upd w 0 (dgI (lt (a + 1 + 1)))) rfl dX4_statement_212 rfl (by first | (rw [hO.1, hAB]; done) | (rw [hO.1, hAB]; rfl)) (by first | (rw [hO.2, atK, if_neg (by rw [hAB]; decide), hS]; done) | (rw [hO.2, atK, if_neg (by rw [hAB]; decide), hS]; rfl))
                · have n199 := Nat.not_lt.mpr c199
                  refine g_aload_n (pc := 202) X dX4_statement_202 1 rfl ?_
                  refine g_get (pc := 203) X (v := .int (nI (kNt k))) fl_X4_52 dX4_statement_203 0 0 rfl rfl rfl ?_
                  refine g_bipush (v := 8) (pc := 206) X dX4_statement_206 (by decide) ?_
                  refine g_ncmp_ne (pc := 208) (tgt := 213) X dX4_statement_208 (by decide) (kNt k) 8 rfl rfl (by omega) (by decide) (fun c208 => ?_) (fun c208 => ?_)
                  · have hAB : atB k (nI d0) = true := by rw [atB, isRm_n (by omega), decide_eq_true (show d0 < 6 by omega), decide_eq_true (show kNt k < 8 by omega)]; rfl
                    refine g_aload_n (pc := 213) X dX4_statement_213 1 rfl ?_
                    refine g_get (pc := 214) X (v := .ref (ay 3)) fl_X4_16 dX4_statement_214 0 0 rfl rfl rfl ?_
                    refine g_aload_n (pc := 217) X dX4_statement_217 1 rfl ?_
                    refine g_get (pc := 218) X (v := .int (nI (kNt k))) fl_X4_52 dX4_statement_218 0 0 rfl rfl rfl ?_
                    refine g_iload_n (pc := 221) X dX4_statement_221 0 rfl ?_
                    refine g_iast_n (pc := 222) X (ss' := [wM cy ay (sKi k (upd (kKi k) (kNt k) (kdI (lt (a + 1))))) (uVa (uAt (uLt (uN v n) lt) (a + 1 + 1 + 1)) (upd w 0 (dgI (lt (a + 1 + 1)))))]) 0 3 dX4_statement_222 (kNt k) rfl rfl rfl (by omega) rfl rfl ?_
                    refine g_aload_n (pc := 223) X dX4_statement_223 1 rfl ?_
                    refine g_get (pc := 224) X (v := .ref (ay 4)) fl_X4_19 dX4_statement_224 0 0 rfl rfl rfl ?_
                    refine g_aload_n (pc := 227) X dX4_statement_227 1 rfl ?_
                    refine g_get (pc := 228) X (v := .int (nI (kNt k))) fl_X4_52 dX4_statement_228 0 0 rfl rfl rfl ?_
                    refine g_aload_n (pc := 231) X dX4_statement_231 1 rfl ?_
                    refine g_get (pc := 232) X (v := .ref (ay 8)) fl_X4_31 dX4_statement_232 0 0 rfl rfl rfl ?_
                    refine g_iconst (v := 0) (pc := 235) X dX4_statement_235 (by decide) ?_
                    refine g_iald_n (pc := 236) (f := upd w 0 (dgI (lt (a + 1 + 1)))) X 0 8 dX4_statement_236 0 rfl rfl rfl (by omega) rfl ?_
                    refine g_top X (x := (upd w 0 (dgI (lt (a + 1 + 1)))) 0) (y := nI d0) (by rw [upd_s, ed0]) ?_
                    refine g_iast_n (pc := 237) X (ss' := [wM cy ay (sRo (sKi k (upd (kKi k) (kNt k) (kdI (lt (a + 1))))) (upd (kRo k) (kNt k) (nI d0))) (uVa (uAt (uLt (uN v n) lt) (a + 1 + 1 + 1)) (upd w 0 (dgI (lt (a + 1 + 1)))))]) 0 4 dX4_statement_237 (kNt k) rfl rfl rfl (by omega) rfl rfl ?_
                    refine g_aload_n (pc := 238) X dX4_statement_238 1 rfl ?_
                    refine g_get (pc := 239) X (v := .ref (ay 5)) fl_X4_22 dX4_statement_239 0 0 rfl rfl rfl ?_
                    refine g_aload_n (pc := 242) X dX4_statement_242 1 rfl ?_
                    refine g_dup (pc := 243) X dX4_statement_243 rfl ?_
                    refine g_get (pc := 244) X (v := .int (nI (kNt k))) fl_X4_52 dX4_statement_244 0 0 rfl rfl rfl ?_
                    refine g_dup_x1 (pc := 247) X dX4_statement_247 rfl rfl ?_
                    refine g_iconst (v := 1) (pc := 248) X dX4_statement_248 (by decide) ?_
                    refine g_iadd (v := nI (kNt k + 1)) (pc := 249) X dX4_statement_249 (nI_add (kNt k) 1) ?_
                    refine g_put (pc := 250) X (ss' := [wM cy ay (sRo (sKi (sNt k (kNt k + 1)) (upd (kKi k) (kNt k) (kdI (lt (a + 1))))) (upd (kRo k) (kNt k) (nI d0))) (uVa (uAt (uLt (uN v n) lt) (a + 1 + 1 + 1)) (upd w 0 (dgI (lt (a + 1 + 1)))))]) fp_X4_52 dX4_statement_250 0 0 rfl rfl rfl rfl rfl rfl ?_
                    refine g_bipush (v := (-9)) (pc := 253) X dX4_statement_253 (by decide) ?_
                    refine g_iast_n (pc := 255) X (ss' := [wM cy ay (sOt (sRo (sKi (sNt k (kNt k + 1)) (upd (kKi k) (kNt k) (kdI (lt (a + 1))))) (upd (kRo k) (kNt k) (nI d0))) (upd (kOt k) (kNt k) ((-9)))) (uVa (uAt (uLt (uN v n) lt) (a + 1 + 1 + 1)) (upd w 0 (dgI (lt (a + 1 + 1)))))]) 0 5 dX4_statement_255 (kNt k) rfl rfl rfl (by omega) rfl rfl ?_
                    refine g_iconst (v := 1) (pc := 256) X dX4_statement_256 (by decide) ?_
                    exact g_iretE (pc := 257) X (upd w 0 (dgI (lt (a + 1 + 1)))) rfl dX4_statement_257 rfl (by first | (rw [hO.1, hAB]; done) | (rw [hO.1, hAB]; rfl)) (by first | (rw [hO.2, atK, if_pos hAB, hS]; done) | (rw [hO.2, atK, if_pos hAB, hS]; rfl))
                  · have hAB : atB k (nI d0) = false := by rw [atB, decide_eq_false (show ¬ kNt k < 8 by omega), Bool.and_false]
                    refine g_iconst (v := 0) (pc := 211) X dX4_statement_211 (by decide) ?_
                    exact g_iretE (pc := 212) X (upd w 0 (dgI (lt (a + 1 + 1)))) rfl dX4_statement_212 rfl (by first | (rw [hO.1, hAB]; done) | (rw [hO.1, hAB]; rfl)) (by first | (rw [hO.2, atK, if_neg (by rw [hAB]; decide), hS]; done) | (rw [hO.2, atK, if_neg (by rw [hAB]; decide), hS]; rfl))
              · exact absurd hc (by rw [st_t f115a f115b, if_pos hK, if_neg (show ¬ dgB lt n (a + 2) = true from by rw [show dgB lt n (a + 2) = false from c181]; decide)]; decide)
            · have hK : kdB lt n (a + 1) = false := decide_eq_false (fun q => q.2 (ki_no (Or.inr c161)))
              exact absurd hc (by rw [st_t f115a f115b, if_neg (by rw [hK]; decide)]; decide)
    · refine g_eq X (ss' := [wM cy ay k (uVa (uAt (uLt (uN v n) lt) (a + 1)) w)]) (by rw [isN_t c65]) ?_
      obtain ⟨f65a, f65b⟩ := isB_t c65
      refine g_aload_n (pc := 68) X dX4_statement_68 0 rfl ?_
      refine g_iconst (v := 0) (pc := 69) X dX4_statement_69 (by decide) ?_
      refine g_callV (pc := 70) (rest := []) (ss' := [wM cy ay k (uVa (uAt (uLt (uN v n) lt) (dgN lt n (a + 1))) (dgV lt n (a + 1) 0 w))]) X (c_X4_digit l D cy ay k (uVa (uAt (uLt (uN v n) lt) (a + 1)) w) lt n (a + 1) w 0 (by omega) (by first | assumption | omega) (by first | assumption | omega)) vl_X4_86 dX4_statement_70 [0] 0 0 rfl rfl rfl rfl rfl rfl (ads_c (ads_M _ _ _ _ _ _) rfl) rfl rfl rfl rfl rfl rfl ⟨Nat.zero_le _, Nat.zero_le _⟩ ?_
      refine g_bif_ne (pc := 73) (tgt := 78) X dX4_statement_73 (by decide) (fun c73 => ?_) (fun c73 => ?_)
      · refine g_eq X (ss' := [wM cy ay k (uVa (uAt (uLt (uN v n) lt) (a + 1 + 1)) (upd w 0 (dgI (lt (a + 1)))))]) (by rw [dgN_t c73, dgV_t c73]) ?_
        have hS : stM lt n a = (2, true) := by rw [st_c f65a (Or.inr f65b), if_pos c73]
        obtain ⟨d0, hd0, ed0⟩ := dg_d c73
        have hO : obB k (lt a) (lt (a + 1)) (lt (a + 2)) = stB (nI d0) ∧ obK k (lt a) (lt (a + 1)) (lt (a + 2)) = stK k (nI d0) := by rw [f65b, ← ed0]; exact ob_h
        refine g_iload_n (pc := 78) X dX4_statement_78 1 rfl ?_
        refine g_if_ne (pc := 79) (tgt := 84) X dX4_statement_79 (by decide) (fun c79 => ?_) (fun c79 => by exact absurd c79 (by decide))
        refine g_aload_n (pc := 84) X dX4_statement_84 0 rfl ?_
        refine g_get (pc := 85) X (v := .ref (ay 8)) fl_X4_31 dX4_statement_85 0 0 rfl rfl rfl ?_
        refine g_iconst (v := 0) (pc := 88) X dX4_statement_88 (by decide) ?_
        refine g_iald_n (pc := 89) (f := upd w 0 (dgI (lt (a + 1)))) X 0 8 dX4_statement_89 0 rfl rfl rfl (by omega) rfl ?_
        refine g_top X (x := (upd w 0 (dgI (lt (a + 1)))) 0) (y := nI d0) (by rw [upd_s, ed0]) ?_
        refine g_bipush (v := 7) (pc := 90) X dX4_statement_90 (by decide) ?_
        refine g_ncmp_le (pc := 92) (tgt := 97) X dX4_statement_92 (by decide) d0 7 rfl rfl (by omega) (by decide) (fun c92 => ?_) (fun c92 => ?_)
        · have n92 := Nat.not_lt.mpr c92
          have hAB : stB (nI d0) = true := by rw [stB_n (by omega)]; exact decide_eq_true c92
          refine g_aload_n (pc := 97) X dX4_statement_97 0 rfl ?_
          refine g_aload_n (pc := 98) X dX4_statement_98 0 rfl ?_
          refine g_get (pc := 99) X (v := .ref (ay 8)) fl_X4_31 dX4_statement_99 0 0 rfl rfl rfl ?_
          refine g_iconst (v := 0) (pc := 102) X dX4_statement_102 (by decide) ?_
          refine g_iald_n (pc := 103) (f := upd w 0 (dgI (lt (a + 1)))) X 0 8 dX4_statement_103 0 rfl rfl rfl (by omega) rfl ?_
          refine g_top X (x := (upd w 0 (dgI (lt (a + 1)))) 0) (y := nI d0) (by rw [upd_s, ed0]) ?_
          refine g_put (pc := 104) X (ss' := [wM cy ay (sHr k d0) (uVa (uAt (uLt (uN v n) lt) (a + 1 + 1)) (upd w 0 (dgI (lt (a + 1)))))]) fp_X4_95 dX4_statement_104 0 0 rfl rfl rfl rfl rfl rfl ?_
          refine g_iconst (v := 1) (pc := 107) X dX4_statement_107 (by decide) ?_
          exact g_iretE (pc := 108) X (upd w 0 (dgI (lt (a + 1)))) rfl dX4_statement_108 rfl (by first | (rw [hO.1, hAB]; done) | (rw [hO.1, hAB]; rfl)) (by first | (rw [hO.2, stK, if_pos hAB, ixn (by omega), hS]; done) | (rw [hO.2, stK, if_pos hAB, ixn (by omega), hS]; rfl))
        · have hAB : stB (nI d0) = false := by rw [stB_n (by omega)]; exact decide_eq_false (by omega)
          refine g_iconst (v := 0) (pc := 95) X dX4_statement_95 (by decide) ?_
          exact g_iretE (pc := 96) X (upd w 0 (dgI (lt (a + 1)))) rfl dX4_statement_96 rfl (by first | (rw [hO.1, hAB]; done) | (rw [hO.1, hAB]; rfl)) (by first | (rw [hO.2, stK, if_neg (by rw [hAB]; decide), hS]; done) | (rw [hO.2, stK, if_neg (by rw [hAB]; decide), hS]; rfl))
      · exact absurd hc (by rw [st_c f65a (Or.inr f65b), if_neg (by rw [c73]; decide)]; decide)
  · refine g_eq X (ss' := [wM cy ay k (uVa (uAt (uLt (uN v n) lt) (a + 1)) w)]) (by rw [isN_t c6]) ?_
    obtain ⟨f6a, f6b⟩ := isB_t c6
    refine g_aload_n (pc := 9) X dX4_statement_9 0 rfl ?_
    refine g_iconst (v := 0) (pc := 10) X dX4_statement_10 (by decide) ?_
    refine g_callV (pc := 11) (rest := []) (ss' := [wM cy ay k (uVa (uAt (uLt (uN v n) lt) (dgN lt n (a + 1))) (dgV lt n (a + 1) 0 w))]) X (c_X4_digit l D cy ay k (uVa (uAt (uLt (uN v n) lt) (a + 1)) w) lt n (a + 1) w 0 (by omega) (by first | assumption | omega) (by first | assumption | omega)) vl_X4_86 dX4_statement_11 [0] 0 0 rfl rfl rfl rfl rfl rfl (ads_c (ads_M _ _ _ _ _ _) rfl) rfl rfl rfl rfl rfl rfl ⟨Nat.zero_le _, Nat.zero_le _⟩ ?_
    refine g_bif_ne (pc := 14) (tgt := 19) X dX4_statement_14 (by decide) (fun c14 => ?_) (fun c14 => ?_)
    · refine g_eq X (ss' := [wM cy ay k (uVa (uAt (uLt (uN v n) lt) (a + 1 + 1)) (upd w 0 (dgI (lt (a + 1)))))]) (by rw [dgN_t c14, dgV_t c14]) ?_
      have hS : stM lt n a = (2, true) := by rw [st_c f6a (Or.inl f6b), if_pos c14]
      obtain ⟨d0, hd0, ed0⟩ := dg_d c14
      have hO : obB k (lt a) (lt (a + 1)) (lt (a + 2)) = hasL k (nI d0) ∧ obK k (lt a) (lt (a + 1)) (lt (a + 2)) = tgK k (nI d0) := by rw [f6b, ← ed0]; exact ob_c
      refine g_iload_n (pc := 19) X dX4_statement_19 1 rfl ?_
      refine g_if_ne (pc := 20) (tgt := 25) X dX4_statement_20 (by decide) (fun c20 => ?_) (fun c20 => by exact absurd c20 (by decide))
      refine g_aload_n (pc := 25) X dX4_statement_25 0 rfl ?_
      refine g_aload_n (pc := 26) X dX4_statement_26 0 rfl ?_
      refine g_get (pc := 27) X (v := .ref (ay 8)) fl_X4_31 dX4_statement_27 0 0 rfl rfl rfl ?_
      refine g_iconst (v := 0) (pc := 30) X dX4_statement_30 (by decide) ?_
      refine g_iald_n (pc := 31) (f := upd w 0 (dgI (lt (a + 1)))) X 0 8 dX4_statement_31 0 rfl rfl rfl (by omega) rfl ?_
      refine g_top X (x := (upd w 0 (dgI (lt (a + 1)))) 0) (y := nI d0) (by rw [upd_s, ed0]) ?_
      refine g_callV (pc := 32) (rest := []) (ss' := [wM cy ay k (uVa (uAt (uLt (uN v n) lt) (a + 1 + 1)) (upd w 0 (dgI (lt (a + 1)))))]) X (c_X4_isLine l D cy ay k (uVa (uAt (uLt (uN v n) lt) (a + 1 + 1)) (upd w 0 (dgI (lt (a + 1))))) (nI d0) hw.1.1) vl_X4_89 dX4_statement_32 [0] 0 0 rfl rfl rfl rfl rfl rfl rfl rfl rfl rfl rfl rfl rfl ⟨Nat.zero_le _, Nat.zero_le _⟩ ?_
      refine g_bif_ne (pc := 35) (tgt := 40) X dX4_statement_35 (by decide) (fun c35 => ?_) (fun c35 => ?_)
      · have hAB := c35
        refine g_aload_n (pc := 40) X dX4_statement_40 0 rfl ?_
        refine g_dup (pc := 41) X dX4_statement_41 rfl ?_
        refine g_get (pc := 42) X (v := .int (kHd k)) fl_X4_92 dX4_statement_42 0 0 rfl rfl rfl ?_
        refine g_iconst (v := 1) (pc := 45) X dX4_statement_45 (by decide) ?_
        refine g_aload_n (pc := 46) X dX4_statement_46 0 rfl ?_
        refine g_get (pc := 47) X (v := .ref (ay 8)) fl_X4_31 dX4_statement_47 0 0 rfl rfl rfl ?_
        refine g_iconst (v := 0) (pc := 50) X dX4_statement_50 (by decide) ?_
        refine g_iald_n (pc := 51) (f := upd w 0 (dgI (lt (a + 1)))) X 0 8 dX4_statement_51 0 rfl rfl rfl (by omega) rfl ?_
        refine g_top X (x := (upd w 0 (dgI (lt (a + 1)))) 0) (y := nI d0) (by rw [upd_s, ed0]) ?_
        refine g_ishl (v := shl 1 (nI d0)) (pc := 52) X dX4_statement_52 rfl ?_
        refine g_ixor (v := (kHd k) ^^^ (shl 1 (nI d0))) (pc := 53) X dX4_statement_53 rfl ?_
        refine g_put (pc := 54) X (ss' := [wM cy ay (sHd k ((kHd k) ^^^ (shl 1 (nI d0)))) (uVa (uAt (uLt (uN v n) lt) (a + 1 + 1)) (upd w 0 (dgI (lt (a + 1)))))]) fp_X4_92 dX4_statement_54 0 0 rfl rfl rfl rfl rfl rfl ?_
        refine g_iconst (v := 1) (pc := 57) X dX4_statement_57 (by decide) ?_
        exact g_iretE (pc := 58) X (upd w 0 (dgI (lt (a + 1)))) rfl dX4_statement_58 rfl (by first | (rw [hO.1, hAB]; done) | (rw [hO.1, hAB]; rfl)) (by first | (rw [hO.2, tgK, if_pos hAB, hS]; done) | (rw [hO.2, tgK, if_pos hAB, hS]; rfl))
      · have hAB := c35
        refine g_iconst (v := 0) (pc := 38) X dX4_statement_38 (by decide) ?_
        exact g_iretE (pc := 39) X (upd w 0 (dgI (lt (a + 1)))) rfl dX4_statement_39 rfl (by first | (rw [hO.1, hAB]; done) | (rw [hO.1, hAB]; rfl)) (by first | (rw [hO.2, tgK, if_neg (by rw [hAB]; decide), hS]; done) | (rw [hO.2, tgK, if_neg (by rw [hAB]; decide), hS]; rfl))
    · exact absurd hc (by rw [st_c f6a (Or.inl f6b), if_neg (by rw [c14]; decide)]; decide)
set_option maxRecDepth 100000 in
set_option maxHeartbeats 4000000 in
theorem c_X4_house (l : Launch) (D : va_G) (cy : ClassId) (q_ t_ : Nat) (ay : Nat → Nat) (k : KV) (v : MV) (h80 : mN v ≤ 80) (hw : KW k) : CtZ l yX4_house cX4_house 4 .int 6 187 D cy q_ t_ [.ref (ay 0)] [wM cy ay k v] (fun (u_ : (Nat) × (Nat → Int32) × (Nat → Int32)) => [wM cy ay (hsK (mLt v) (mN v) k) (uAh (uVa (uAt (uN v 0) u_.1) u_.2.1) u_.2.2)]) ((riR (mLt v) (mN v) k).1) := by
  refine ctZ_of (by decide +kernel) (Nat.le_of_ble_eq_true rfl) (fun p_ e_ s_ m_ args_ below_ meth_ c_ A_ X hZ => ?_)
  refine g_lv X (lv' := [(0, .ref (ay 0))]) [0] rfl ?_
  refine g_aload_n (pc := 0) X dX4_house_0 0 rfl ?_
  refine g_iconst (v := 0) (pc := 1) X dX4_house_1 (by decide) ?_
  refine g_put (pc := 2) X (ss' := [wM cy ay k (uAt v 0)]) fp_X4_70 dX4_house_2 0 0 rfl rfl rfl rfl rfl rfl ?_
  refine g_iconst (v := 1) (pc := 5) X dX4_house_5 (by decide) ?_
  refine g_istore_n (lv' := [(1, .int (1)), (0, .ref (ay 0))]) (pc := 6) X dX4_house_6 rfl rfl rfl ?_
  have L7_1 : ∀ (fu_ : Nat) (a : Nat) (w : Nat → Int32) (ha : a ≤ mN v) (hq : fuA (mLt v) (mN v) = fuK (mLt v) (mN v) (mN v - (a)) (a) (a)) (hz : a = mN v → mN v = 0) (hm : mN v - a < fu_), G p_ l e_ { frames := 6, cells := 0, slots := 0, locals := 187 } s_ m_ args_ below_ meth_ c_ 4 D A_ 0 0 (QIE below_ args_ s_ D A_ (fun (u_ : (Nat) × (Nat → Int32) × (Nat → Int32)) => [wM cy ay (hsK (mLt v) (mN v) k) (uAh (uVa (uAt (uN v 0) u_.1) u_.2.1) u_.2.2)]) ((riR (mLt v) (mN v) k).1)) [wM cy ay k (uVa (uAt v a) w)] 7 [(0, .ref (ay 0)), (1, .int (1))] [] := by
    intro fu_
    induction fu_ with
    | zero => intro a w ha hq hz hm; exact absurd hm (Nat.not_lt_zero _)
    | succ fu_ ih =>
      intro a w ha hq hz hm
      have ih7 := ih
      clear ih
      refine g_iload_n (pc := 7) X dX4_house_7 1 rfl ?_
      refine g_if_eq (pc := 8) (tgt := 53) X dX4_house_8 (by decide) (fun c8 => by exact absurd c8 (by decide)) (fun c8 => ?_)
      refine g_aload_n (pc := 11) X dX4_house_11 0 rfl ?_
      refine g_iconst (v := 0) (pc := 12) X dX4_house_12 (by decide) ?_
      refine g_callZE (pc := 13) (rest := []) (ss' := fun (u_ : (Nat → Int32)) => [wM cy ay k (uVa (uAt (uLt (uN v ((mN v))) ((mLt v))) (a + (stM (mLt v) (mN v) a).1)) u_)]) X hZ (c_X4_statement_0 l D cy q_ t_ ay k (uVa (uAt v a) w) (mLt v) (mN v) a w ha h80) vl_X4_118 dX4_house_13 [0] 0 0 rfl rfl rfl rfl rfl rfl (fun _ => (ads_c (ads_M _ _ _ _ _ _) rfl)) (fun _ => rfl) rfl rfl rfl rfl rfl ⟨Nat.zero_le _, Nat.zero_le _⟩ ?_
      rintro xw_13_1
      refine g_eq X (ss' := [wM cy ay k (uVa (uAt (uLt (uN v ((mN v))) ((mLt v))) (a + (stM (mLt v) (mN v) a).1)) xw_13_1)]) rfl ?_
      obtain ⟨hf1, hf2, hf3⟩ := fu_st (lt := mLt v) ha hz
      refine g_iconst (v := 1) (pc := 16) X dX4_house_16 (by decide) ?_
      refine g_icmp_ne (pc := 17) (tgt := 33) X dX4_house_17 (by decide) (fun c17 => ?_) (fun c17 => ?_)
      · have hs9 : (stM (mLt v) (mN v) a).2 = false := by cases e9 : (stM (mLt v) (mN v) a).2 <;> first | rfl | exact absurd (if_pos e9) c17
        have hfu : fuA (mLt v) (mN v) = nI (a + (stM (mLt v) (mN v) a).1) := by rw [hq, hf1, if_neg (by rw [hs9]; decide)]
        refine g_iconst (v := 0) (pc := 33) X dX4_house_33 (by decide) ?_
        refine g_istore_n (lv' := [(1, .int (0)), (0, .ref (ay 0))]) (pc := 34) X dX4_house_34 rfl rfl rfl ?_
        refine g_iload_n (pc := 35) X dX4_house_35 0 rfl ?_
        refine g_if_eq (pc := 36) (tgt := 7) X dX4_house_36 (by decide) (fun c36 => ?_) (fun c36 => by exact absurd c36 (by decide))
        refine g_iload_n (pc := 7) X dX4_house_7 0 rfl ?_
        refine g_if_eq (pc := 8) (tgt := 53) X dX4_house_8 (by decide) (fun c8 => ?_) (fun c8 => by exact absurd c8 (by decide))
        refine g_iload_n (pc := 53) X dX4_house_53 0 rfl ?_
        refine g_if_ne (pc := 54) (tgt := 71) X dX4_house_54 (by decide) (fun c54 => by exact absurd c54 (by decide)) (fun c54 => ?_)
        refine g_aload_n (pc := 57) X dX4_house_57 1 rfl ?_
        refine g_iconst (v := 0) (pc := 58) X dX4_house_58 (by decide) ?_
        refine g_put (pc := 59) X (ss' := [wM cy ay k (uVa (uAt (uLt (uN v 0) ((mLt v))) (a + (stM (mLt v) (mN v) a).1)) xw_13_1)]) fp_X4_67 dX4_house_59 0 0 rfl rfl rfl rfl rfl rfl ?_
        refine g_sipush (v := (-1000)) (pc := 62) X dX4_house_62 (by decide) ?_
        refine g_aload_n (pc := 65) X dX4_house_65 1 rfl ?_
        refine g_get (pc := 66) X (v := .int (nI (a + (stM (mLt v) (mN v) a).1))) fl_X4_70 dX4_house_66 0 0 rfl rfl rfl ?_
        refine g_isub (v := ((-1000)) - (nI (a + (stM (mLt v) (mN v) a).1))) (pc := 69) X dX4_house_69 rfl ?_
        have hri : riR (mLt v) (mN v) k = (-1000 - nI (a + (stM (mLt v) (mN v) a).1), k) := by rw [riR, if_neg (by rw [hfu]; exact nI_n9 (by omega)), hfu]
        exact g_iretE (pc := 70) X (a + (stM (mLt v) (mN v) a).1, xw_13_1, mAh v) rfl dX4_house_70 rfl (by rw [hri]) (by rw [hsK, hri, if_neg (ng_1 _ (by omega))])
      · have hs9 : (stM (mLt v) (mN v) a).2 = true := by cases e9 : (stM (mLt v) (mN v) a).2 <;> first | rfl | exact absurd (c17.symm.trans (if_neg (by rw [e9]; decide))) (by decide)
        refine g_aload_n (pc := 20) X dX4_house_20 0 rfl ?_
        refine g_bipush (v := 59) (pc := 21) X dX4_house_21 (by decide) ?_
        refine g_callV (pc := 23) (rest := []) (ss' := [wM cy ay k (uVa (uAt (uLt (uN v (((mN v)))) (((mLt v)))) (isN ((mLt v)) ((mN v)) (a + (stM (mLt v) (mN v) a).1) 59)) xw_13_1)]) X (c_X4_is l D cy ay k (uVa (uAt (uLt (uN v ((mN v))) ((mLt v))) (a + (stM (mLt v) (mN v) a).1)) xw_13_1) ((mLt v)) ((mN v)) (a + (stM (mLt v) (mN v) a).1) 59 hf2 h80) vl_X4_82 dX4_house_23 [0] 0 0 rfl rfl rfl rfl rfl rfl (ads_c (ads_M _ _ _ _ _ _) rfl) rfl rfl rfl rfl rfl rfl ⟨Nat.zero_le _, Nat.zero_le _⟩ ?_
        refine g_bif_eq (pc := 26) (tgt := 33) X dX4_house_26 (by decide) (fun c26 => ?_) (fun c26 => ?_)
        · refine g_eq X (ss' := [wM cy ay k (uVa (uAt (uLt (uN v (((mN v)))) (((mLt v)))) (a + (stM (mLt v) (mN v) a).1)) xw_13_1)]) (by rw [isN_f c26]) ?_
          have hfu : fuA (mLt v) (mN v) = nI (a + (stM (mLt v) (mN v) a).1) := by rw [hq, hf1, if_pos hs9, if_neg (by rw [c26]; decide)]
          refine g_iconst (v := 0) (pc := 33) X dX4_house_33 (by decide) ?_
          refine g_istore_n (lv' := [(1, .int (0)), (0, .ref (ay 0))]) (pc := 34) X dX4_house_34 rfl rfl rfl ?_
          refine g_iload_n (pc := 35) X dX4_house_35 0 rfl ?_
          refine g_if_eq (pc := 36) (tgt := 7) X dX4_house_36 (by decide) (fun c36 => ?_) (fun c36 => by exact absurd c36 (by decide))
          refine g_iload_n (pc := 7) X dX4_house_7 0 rfl ?_
          refine g_if_eq (pc := 8) (tgt := 53) X dX4_house_8 (by decide) (fun c8 => ?_) (fun c8 => by exact absurd c8 (by decide))
          refine g_iload_n (pc := 53) X dX4_house_53 0 rfl ?_
          refine g_if_ne (pc := 54) (tgt := 71) X dX4_house_54 (by decide) (fun c54 => by exact absurd c54 (by decide)) (fun c54 => ?_)
          refine g_aload_n (pc := 57) X dX4_house_57 1 rfl ?_
          refine g_iconst (v := 0) (pc := 58) X dX4_house_58 (by decide) ?_
          refine g_put (pc := 59) X (ss' := [wM cy ay k (uVa (uAt (uLt (uN v 0) (((mLt v)))) (a + (stM (mLt v) (mN v) a).1)) xw_13_1)]) fp_X4_67 dX4_house_59 0 0 rfl rfl rfl rfl rfl rfl ?_
          refine g_sipush (v := (-1000)) (pc := 62) X dX4_house_62 (by decide) ?_
          refine g_aload_n (pc := 65) X dX4_house_65 1 rfl ?_
          refine g_get (pc := 66) X (v := .int (nI (a + (stM (mLt v) (mN v) a).1))) fl_X4_70 dX4_house_66 0 0 rfl rfl rfl ?_
          refine g_isub (v := ((-1000)) - (nI (a + (stM (mLt v) (mN v) a).1))) (pc := 69) X dX4_house_69 rfl ?_
          have hri : riR (mLt v) (mN v) k = (-1000 - nI (a + (stM (mLt v) (mN v) a).1), k) := by rw [riR, if_neg (by rw [hfu]; exact nI_n9 (by omega)), hfu]
          exact g_iretE (pc := 70) X (a + (stM (mLt v) (mN v) a).1, xw_13_1, mAh v) rfl dX4_house_70 rfl (by rw [hri]) (by rw [hsK, hri, if_neg (ng_1 _ (by omega))])
        · refine g_eq X (ss' := [wM cy ay k (uVa (uAt (uLt (uN v (((mN v)))) (((mLt v)))) (a + (stM (mLt v) (mN v) a).1 + 1)) xw_13_1)]) (by rw [isN_t c26]) ?_
          have hb9 := isB_t c26
          have hb8 := hb9.1
          have hq9 : fuA (mLt v) (mN v) = fuK (mLt v) (mN v) (mN v - (a + (stM (mLt v) (mN v) a).1 + 1)) (a + (stM (mLt v) (mN v) a).1 + 1) (a + (stM (mLt v) (mN v) a).1 + 1) := by rw [hq, hf1, if_pos hs9, if_pos c26]
          refine g_iconst (v := 1) (pc := 29) X dX4_house_29 (by decide) ?_
          refine g_goto (pc := 30) (tgt := 34) X dX4_house_30 (by decide) ?_
          refine g_istore_n (lv' := [(1, .int (1)), (0, .ref (ay 0))]) (pc := 34) X dX4_house_34 rfl rfl rfl ?_
          refine g_iload_n (pc := 35) X dX4_house_35 0 rfl ?_
          refine g_if_eq (pc := 36) (tgt := 7) X dX4_house_36 (by decide) (fun c36 => by exact absurd c36 (by decide)) (fun c36 => ?_)
          refine g_aload_n (pc := 39) X dX4_house_39 1 rfl ?_
          refine g_get (pc := 40) X (v := .int (nI (a + (stM (mLt v) (mN v) a).1 + 1))) fl_X4_70 dX4_house_40 0 0 rfl rfl rfl ?_
          refine g_aload_n (pc := 43) X dX4_house_43 1 rfl ?_
          refine g_get (pc := 44) X (v := .int (nI (((mN v))))) fl_X4_67 dX4_house_44 0 0 rfl rfl rfl ?_
          refine g_ncmp_ne (pc := 47) (tgt := 7) X dX4_house_47 (by decide) (a + (stM (mLt v) (mN v) a).1 + 1) (((mN v))) rfl rfl (by omega) (by omega) (fun c47 => ?_) (fun c47 => ?_)
          · refine g_lv X (lv' := [(0, .ref (ay 0)), (1, .int (1))]) [1, 0] rfl ?_
            exact ih7 (a + (stM (mLt v) (mN v) a).1 + 1) xw_13_1 (by omega) hq9 (fun q => absurd q c47) (by omega)
          · have hn0 : 0 < mN v := by omega
            have hfu : fuA (mLt v) (mN v) = -9 := by rw [hq9, c47, Nat.sub_self, fuK, if_pos ⟨hn0, rfl⟩]
            have hri : riR (mLt v) (mN v) k = rdK (mLt v) (mN v - 0) 0 0 0 k := by rw [riR, if_pos hfu]; rfl
            have hw0 : fuK (mLt v) (mN v) (mN v - 0) 0 0 = -9 := hfu
            refine g_goto (pc := 50) (tgt := 53) X dX4_house_50 (by decide) ?_
            refine g_iload_n (pc := 53) X dX4_house_53 0 rfl ?_
            refine g_if_ne (pc := 54) (tgt := 71) X dX4_house_54 (by decide) (fun c54 => ?_) (fun c54 => by exact absurd c54 (by decide))
            refine g_aload_n (pc := 71) X dX4_house_71 1 rfl ?_
            refine g_aload_n (pc := 72) X dX4_house_72 1 rfl ?_
            refine g_get (pc := 73) X (v := .ref (ay 12)) fl_X4_43 dX4_house_73 0 0 rfl rfl rfl ?_
            refine g_callVv (pc := 76) (rest := []) (ss' := [wM cy ay k (uAh (uVa (uAt (uLt (uN v (((mN v)))) (((mLt v)))) (a + (stM (mLt v) (mN v) a).1 + 1)) xw_13_1) (imF k))]) X (c_X4_keeph l D cy ay k (uVa (uAt (uLt (uN v (((mN v)))) (((mLt v)))) (a + (stM (mLt v) (mN v) a).1 + 1)) xw_13_1) ) vl_X4_122 dX4_house_76 [0] 0 0 rfl rfl rfl rfl rfl rfl (ads_c (ads_M _ _ _ _ _ _) rfl) rfl rfl rfl rfl rfl rfl ⟨Nat.zero_le _, Nat.zero_le _⟩ ?_
            refine g_aload_n (pc := 79) X dX4_house_79 1 rfl ?_
            refine g_iconst (v := 0) (pc := 80) X dX4_house_80 (by decide) ?_
            refine g_put (pc := 81) X (ss' := [wM cy ay k (uAh (uVa (uAt (uLt (uN v (((mN v)))) (((mLt v)))) 0) xw_13_1) (imF k))]) fp_X4_70 dX4_house_81 0 0 rfl rfl rfl rfl rfl rfl ?_
            refine g_iconst (v := 0) (pc := 84) X dX4_house_84 (by decide) ?_
            refine g_istore_n (lv' := [(2, .int (0)), (1, .int (1)), (0, .ref (ay 0))]) (pc := 85) X dX4_house_85 rfl rfl rfl ?_
            have L86_2 : ∀ (fu_ : Nat) (a : Nat) (cn : Nat) (kv : KV) (w : Nat → Int32) (ha : a ≤ mN v) (hkv : KW kv) (hq : riR (mLt v) (mN v) k = rdK (mLt v) (mN v - a) a a cn kv) (hwf : a < mN v → fuK (mLt v) (mN v) (mN v - (a)) (a) (a) = -9) (hcn : cn ≤ a) (hc1 : a = 0 ∨ 0 < cn) (hm : mN v - a < fu_), G p_ l e_ { frames := 6, cells := 0, slots := 0, locals := 187 } s_ m_ args_ below_ meth_ c_ 4 D A_ 0 0 (QIE below_ args_ s_ D A_ (fun (u_ : (Nat) × (Nat → Int32) × (Nat → Int32)) => [wM cy ay (hsK (mLt v) (mN v) k) (uAh (uVa (uAt (uN v 0) u_.1) u_.2.1) u_.2.2)]) ((riR (mLt v) (mN v) k).1)) [wM cy ay kv (uAh (uVa (uAt v a) w) (imF k))] 86 [(0, .ref (ay 0)), (2, .int (nI cn))] [] := by
              intro fu_
              induction fu_ with
              | zero => intro a cn kv w ha hkv hq hwf hcn hc1 hm; exact absurd hm (Nat.not_lt_zero _)
              | succ fu_ ih =>
                intro a cn kv w ha hkv hq hwf hcn hc1 hm
                have ih86 := ih
                clear ih
                refine g_aload_n (pc := 86) X dX4_house_86 0 rfl ?_
                refine g_get (pc := 87) X (v := .int (nI a)) fl_X4_70 dX4_house_87 0 0 rfl rfl rfl ?_
                refine g_aload_n (pc := 90) X dX4_house_90 0 rfl ?_
                refine g_get (pc := 91) X (v := .int (nI (mN v))) fl_X4_67 dX4_house_91 0 0 rfl rfl rfl ?_
                refine g_ncmp_ge (pc := 94) (tgt := 142) X dX4_house_94 (by decide) a (mN v) rfl rfl (by omega) (by omega) (fun c94 => ?_) (fun c94 => ?_)
                · have n94 := Nat.not_lt.mpr c94
                  refine g_aload_n (pc := 142) X dX4_house_142 0 rfl ?_
                  refine g_iconst (v := 0) (pc := 143) X dX4_house_143 (by decide) ?_
                  refine g_put (pc := 144) X (ss' := [wM cy ay kv (uAh (uVa (uAt (uN v 0) a) w) (imF k))]) fp_X4_67 dX4_house_144 0 0 rfl rfl rfl rfl rfl rfl ?_
                  refine g_iload_n (pc := 147) X dX4_house_147 1 rfl ?_
                  have hend : riR (mLt v) (mN v) k = (nI cn, kv) := by rw [hq, show mN v - a = 0 by omega]; rfl
                  have hcp : 0 < cn := by omega
                  exact g_iretE (pc := 148) X (a, w, imF k) rfl dX4_house_148 rfl (by rw [hend]) (by rw [hsK, hend, if_pos (show (0 : Int32) < nI cn from nI_lt (a := 0) hcp (by omega))])
                · obtain ⟨hs1, hs2, hs3, hs4⟩ := wf_st h80 c94 (hwf c94)
                  have hrd := rd_st (cn := cn) (k := kv) hs2 (st_59 hs1).2 hs3 ((fu_st (lt := mLt v) (n := mN v) (a := a) ha (fun q => by omega)).2.2 hs1).2
                  refine g_aload_n (pc := 97) X dX4_house_97 0 rfl ?_
                  refine g_get (pc := 98) X (v := .int (nI a)) fl_X4_70 dX4_house_98 0 0 rfl rfl rfl ?_
                  refine g_istore_n (lv' := [(3, .int (nI a)), (0, .ref (ay 0)), (2, .int (nI cn))]) (pc := 101) X dX4_house_101 rfl rfl rfl ?_
                  refine g_aload_n (pc := 102) X dX4_house_102 1 rfl ?_
                  refine g_iconst (v := 1) (pc := 103) X dX4_house_103 (by decide) ?_
                  refine g_callZE (pc := 104) (rest := []) (ss' := fun (u_ : (Nat → Int32)) => [wM cy ay (obK kv ((mLt v) a) ((mLt v) (a + 1)) ((mLt v) (a + 2))) (uAh (uVa (uAt (uLt (uN v ((mN v))) ((mLt v))) (a + (stM (mLt v) (mN v) a).1)) u_) (imF k))]) X hZ (c_X4_statement_1 l D cy q_ t_ ay kv (uAh (uVa (uAt v a) w) (imF k)) (mLt v) (mN v) a w ha h80 hkv hs1) vl_X4_118 dX4_house_104 [0] 0 0 rfl rfl rfl rfl rfl rfl (fun _ => (ads_c (ads_M _ _ _ _ _ _) rfl)) (fun _ => rfl) rfl rfl rfl rfl rfl ⟨Nat.zero_le _, Nat.zero_le _⟩ ?_
                  rintro xw_104_2
                  refine g_eq X (ss' := [wM cy ay (obK kv ((mLt v) a) ((mLt v) (a + 1)) ((mLt v) (a + 2))) (uAh (uVa (uAt (uLt (uN v ((mN v))) ((mLt v))) (a + (stM (mLt v) (mN v) a).1)) xw_104_2) (imF k))]) rfl ?_
                  refine g_if_ne (pc := 107) (tgt := 129) X dX4_house_107 (by decide) (fun c107 => ?_) (fun c107 => ?_)
                  · have hob : obB kv (mLt v a) (mLt v (a + 1)) (mLt v (a + 2)) = true := by cases e9 : obB kv (mLt v a) (mLt v (a + 1)) (mLt v (a + 2)) <;> first | rfl | exact absurd (if_neg (by rw [e9]; decide)) c107
                    refine g_aload_n (pc := 129) X dX4_house_129 1 rfl ?_
                    refine g_bipush (v := 59) (pc := 130) X dX4_house_130 (by decide) ?_
                    refine g_callV (pc := 132) (rest := []) (ss' := [wM cy ay (obK kv ((mLt v) a) ((mLt v) (a + 1)) ((mLt v) (a + 2))) (uAh (uVa (uAt (uLt (uN v (((mN v)))) (((mLt v)))) (isN ((mLt v)) ((mN v)) (a + (stM (mLt v) (mN v) a).1) 59)) xw_104_2) (imF k))]) X (c_X4_is l D cy ay (obK kv ((mLt v) a) ((mLt v) (a + 1)) ((mLt v) (a + 2))) (uAh (uVa (uAt (uLt (uN v ((mN v))) ((mLt v))) (a + (stM (mLt v) (mN v) a).1)) xw_104_2) (imF k)) ((mLt v)) ((mN v)) (a + (stM (mLt v) (mN v) a).1) 59 (by omega) h80) vl_X4_82 dX4_house_132 [0] 0 0 rfl rfl rfl rfl rfl rfl (ads_c (ads_M _ _ _ _ _ _) rfl) rfl rfl rfl rfl rfl rfl ⟨Nat.zero_le _, Nat.zero_le _⟩ ?_
                    refine g_pop (pc := 135) X dX4_house_135 rfl ?_
                    refine g_eq X (ss' := [wM cy ay (obK kv ((mLt v) a) ((mLt v) (a + 1)) ((mLt v) (a + 2))) (uAh (uVa (uAt (uLt (uN v (((mN v)))) (((mLt v)))) (a + (stM (mLt v) (mN v) a).1 + 1)) xw_104_2) (imF k))]) (by rw [isN_t (decide_eq_true ⟨hs2, hs3⟩)]) ?_
                    refine g_iinc (v := nI (cn + 1)) (lv' := [(2, .int (nI (cn + 1))), (3, .int (nI a)), (0, .ref (ay 0))]) (pc := 136) X dX4_house_136 2 rfl (nI_1 cn) rfl rfl ?_
                    refine g_goto (pc := 139) (tgt := 86) X dX4_house_139 (by decide) ?_
                    refine g_lv X (lv' := [(0, .ref (ay 0)), (2, .int (nI (cn + 1)))]) [2, 0] rfl ?_
                    exact ih86 (a + (stM (mLt v) (mN v) a).1 + 1) (cn + 1) (obK kv ((mLt v) a) ((mLt v) (a + 1)) ((mLt v) (a + 2))) xw_104_2 (by omega) (KW_ob hkv) (by rw [hq, hrd, if_pos hob]) (fun _ => hs4) (by omega) (Or.inr (Nat.succ_pos _)) (by omega)
                  · have hob : obB kv (mLt v a) (mLt v (a + 1)) (mLt v (a + 2)) = false := by cases e9 : obB kv (mLt v a) (mLt v (a + 1)) (mLt v (a + 2)) <;> first | rfl | exact absurd ((if_pos e9).symm.trans c107) (by decide)
                    refine g_aload_n (pc := 110) X dX4_house_110 1 rfl ?_
                    refine g_aload_n (pc := 111) X dX4_house_111 1 rfl ?_
                    refine g_get (pc := 112) X (v := .ref (ay 12)) fl_X4_43 dX4_house_112 0 0 rfl rfl rfl ?_
                    refine g_callVv (pc := 115) (rest := []) (ss' := [wM cy ay k (uAh (uVa (uAt (uLt (uN v ((mN v))) ((mLt v))) (a + (stM (mLt v) (mN v) a).1)) xw_104_2) (imF k))]) X (c_X4_againh l D cy ay (obK kv ((mLt v) a) ((mLt v) (a + 1)) ((mLt v) (a + 2))) (uAh (uVa (uAt (uLt (uN v ((mN v))) ((mLt v))) (a + (stM (mLt v) (mN v) a).1)) xw_104_2) (imF k)) k (fun _ _ => rfl)) vl_X4_126 dX4_house_115 [0] 0 0 rfl rfl rfl rfl rfl rfl (ads_c (ads_M _ _ _ _ _ _) rfl) rfl rfl rfl rfl rfl rfl ⟨Nat.zero_le _, Nat.zero_le _⟩ ?_
                    refine g_aload_n (pc := 118) X dX4_house_118 1 rfl ?_
                    refine g_iconst (v := 0) (pc := 119) X dX4_house_119 (by decide) ?_
                    refine g_put (pc := 120) X (ss' := [wM cy ay k (uAh (uVa (uAt (uLt (uN v 0) ((mLt v))) (a + (stM (mLt v) (mN v) a).1)) xw_104_2) (imF k))]) fp_X4_67 dX4_house_120 0 0 rfl rfl rfl rfl rfl rfl ?_
                    refine g_sipush (v := (-2000)) (pc := 123) X dX4_house_123 (by decide) ?_
                    refine g_iload_n (pc := 126) X dX4_house_126 0 rfl ?_
                    refine g_isub (v := ((-2000)) - (nI a)) (pc := 127) X dX4_house_127 rfl ?_
                    have hri9 : riR (mLt v) (mN v) k = (-2000 - nI a, obK kv (mLt v a) (mLt v (a + 1)) (mLt v (a + 2))) := by rw [hq, hrd, if_neg (by rw [hob]; decide)]
                    exact g_iretE (pc := 128) X (a + (stM (mLt v) (mN v) a).1, xw_104_2, imF k) rfl dX4_house_128 rfl (by rw [hri9]) (by rw [hsK, hri9, if_neg (ng_2 _ (by omega))])
            refine g_lv X (lv' := [(0, .ref (ay 0)), (2, .int (0))]) [2, 0] rfl ?_
            exact L86_2 (mN v - 0 + 1) 0 0 k xw_13_1 (Nat.zero_le _) hw hri (fun _ => hw0) (Nat.le_refl _) (Or.inl rfl) (Nat.lt_succ_self _)
  refine g_lv X (lv' := [(0, .ref (ay 0)), (1, .int (1))]) [1, 0] rfl ?_
  exact L7_1 (mN v - 0 + 1) 0 (mVa v) (Nat.zero_le _) rfl (fun q => q.symm) (Nat.lt_succ_self _)
