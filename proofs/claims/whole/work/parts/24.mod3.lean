theorem wf_all0 {n q : Nat} (hn : n ≤ 8) (hq : q < n) (h0 : 0 ≠ q) : nI (2 ^ n - 1) &&& ((1 ||| shl 1 (nI q)) ^^^ (-1)) = nI (mkN n 0 ^^^ 2 ^ q) := by
  have h := wf_all (t := 0) hn (show 0 < n by omega) hq h0
  have e : shl 1 (nI 0) = 1 := by decide
  rw [e] at h
  exact h
set_option maxRecDepth 100000 in
set_option maxHeartbeats 4000000 in
theorem c_J6_numberOfTrailingZeros_0f7a4 (l : Launch) (D : va_G) (cy : ClassId) (x : Int32) : CtI l yJ6_numberOfTrailingZeros_0f7a4 cJ6_numberOfTrailingZeros_0f7a4 2 .int 0 64 D cy [.int (x)] [] [] (ntI x) := by
  refine ctI_of (by decide +kernel) (Nat.le_of_ble_eq_true rfl) (fun p_ e_ s_ m_ args_ below_ meth_ c_ A_ X => ?_)
  refine g_lv X (lv' := [(0, .int (x))]) [0] rfl ?_
  refine g_iload_n (pc := 0) X dJ6_numberOfTrailingZeros_0f7a4_0 0 rfl ?_
  refine g_iconst (v := (-1)) (pc := 1) X dJ6_numberOfTrailingZeros_0f7a4_1 (by decide) ?_
  refine g_ixor (v := x ^^^ ((-1))) (pc := 2) X dJ6_numberOfTrailingZeros_0f7a4_2 rfl ?_
  refine g_iload_n (pc := 3) X dJ6_numberOfTrailingZeros_0f7a4_3 0 rfl ?_
  refine g_iconst (v := 1) (pc := 4) X dJ6_numberOfTrailingZeros_0f7a4_4 (by decide) ?_
  refine g_isub (v := x - 1) (pc := 5) X dJ6_numberOfTrailingZeros_0f7a4_5 rfl ?_
  refine g_iand (v := ntA x) (pc := 6) X dJ6_numberOfTrailingZeros_0f7a4_6 rfl ?_
  refine g_istore_n (lv' := [(0, .int (ntA x))]) (pc := 7) X dJ6_numberOfTrailingZeros_0f7a4_7 rfl rfl rfl ?_
  refine g_iload_n (pc := 8) X dJ6_numberOfTrailingZeros_0f7a4_8 0 rfl ?_
  refine g_if_gt (pc := 9) (tgt := 17) X dJ6_numberOfTrailingZeros_0f7a4_9 (by decide) (fun c9 => ?_) (fun c9 => ?_)
  · refine g_iconst (v := 1) (pc := 17) X dJ6_numberOfTrailingZeros_0f7a4_17 (by decide) ?_
    refine g_istore_n (lv' := [(1, .int (1)), (0, .int (ntA x))]) (pc := 18) X dJ6_numberOfTrailingZeros_0f7a4_18 rfl rfl rfl ?_
    refine g_iload_n (pc := 19) X dJ6_numberOfTrailingZeros_0f7a4_19 1 rfl ?_
    refine g_ldc_w (v := 65536) (pc := 20) X dJ6_numberOfTrailingZeros_0f7a4_20 kc_J6_264 ?_
    refine g_icmp_le (pc := 23) (tgt := 34) X dJ6_numberOfTrailingZeros_0f7a4_23 (by decide) (fun c23 => ?_) (fun c23 => ?_)
    · have n23 := Int32.not_lt.mpr c23
      refine g_iload_n (pc := 34) X dJ6_numberOfTrailingZeros_0f7a4_34 1 rfl ?_
      refine g_sipush (v := 256) (pc := 35) X dJ6_numberOfTrailingZeros_0f7a4_35 (by decide) ?_
      refine g_icmp_le (pc := 38) (tgt := 49) X dJ6_numberOfTrailingZeros_0f7a4_38 (by decide) (fun c38 => ?_) (fun c38 => ?_)
      · have n38 := Int32.not_lt.mpr c38
        refine g_iload_n (pc := 49) X dJ6_numberOfTrailingZeros_0f7a4_49 1 rfl ?_
        refine g_bipush (v := 16) (pc := 50) X dJ6_numberOfTrailingZeros_0f7a4_50 (by decide) ?_
        refine g_icmp_le (pc := 52) (tgt := 62) X dJ6_numberOfTrailingZeros_0f7a4_52 (by decide) (fun c52 => ?_) (fun c52 => ?_)
        · have n52 := Int32.not_lt.mpr c52
          refine g_iload_n (pc := 62) X dJ6_numberOfTrailingZeros_0f7a4_62 1 rfl ?_
          refine g_iconst (v := 4) (pc := 63) X dJ6_numberOfTrailingZeros_0f7a4_63 (by decide) ?_
          refine g_icmp_le (pc := 64) (tgt := 74) X dJ6_numberOfTrailingZeros_0f7a4_64 (by decide) (fun c64 => ?_) (fun c64 => ?_)
          · have n64 := Int32.not_lt.mpr c64
            refine g_iload_n (pc := 74) X dJ6_numberOfTrailingZeros_0f7a4_74 0 rfl ?_
            refine g_iload_n (pc := 75) X dJ6_numberOfTrailingZeros_0f7a4_75 1 rfl ?_
            refine g_iconst (v := 1) (pc := 76) X dJ6_numberOfTrailingZeros_0f7a4_76 (by decide) ?_
            refine g_iushr (v := ushr (ntA x) 1) (pc := 77) X dJ6_numberOfTrailingZeros_0f7a4_77 rfl ?_
            refine g_iadd (v := 1 + (ushr (ntA x) 1)) (pc := 78) X dJ6_numberOfTrailingZeros_0f7a4_78 rfl ?_
            exact g_iret (pc := 79) X rfl dJ6_numberOfTrailingZeros_0f7a4_79 rfl (by first | (rw [ntI, if_neg n9]; done) | (rw [ntI, if_pos c9]; simp only [ntS_t, ntS_f, *, not_false_eq_true]; rfl) | done) rfl
          · refine g_iinc (v := 1 + (2)) (lv' := [(1, .int (1 + (2))), (0, .int (ntA x))]) (pc := 67) X dJ6_numberOfTrailingZeros_0f7a4_67 0 rfl rfl rfl rfl ?_
            refine g_iload_n (pc := 70) X dJ6_numberOfTrailingZeros_0f7a4_70 1 rfl ?_
            refine g_iconst (v := 2) (pc := 71) X dJ6_numberOfTrailingZeros_0f7a4_71 (by decide) ?_
            refine g_iushr (v := ushr (ntA x) 2) (pc := 72) X dJ6_numberOfTrailingZeros_0f7a4_72 rfl ?_
            refine g_istore_n (lv' := [(0, .int (ushr (ntA x) 2)), (1, .int (1 + (2)))]) (pc := 73) X dJ6_numberOfTrailingZeros_0f7a4_73 rfl rfl rfl ?_
            refine g_iload_n (pc := 74) X dJ6_numberOfTrailingZeros_0f7a4_74 1 rfl ?_
            refine g_iload_n (pc := 75) X dJ6_numberOfTrailingZeros_0f7a4_75 0 rfl ?_
            refine g_iconst (v := 1) (pc := 76) X dJ6_numberOfTrailingZeros_0f7a4_76 (by decide) ?_
            refine g_iushr (v := ushr (ushr (ntA x) 2) 1) (pc := 77) X dJ6_numberOfTrailingZeros_0f7a4_77 rfl ?_
            refine g_iadd (v := (1 + (2)) + (ushr (ushr (ntA x) 2) 1)) (pc := 78) X dJ6_numberOfTrailingZeros_0f7a4_78 rfl ?_
            exact g_iret (pc := 79) X rfl dJ6_numberOfTrailingZeros_0f7a4_79 rfl (by first | (rw [ntI, if_neg n9]; done) | (rw [ntI, if_pos c9]; simp only [ntS_t, ntS_f, *, not_false_eq_true]; rfl) | done) rfl
        · refine g_iinc (v := 1 + (4)) (lv' := [(1, .int (1 + (4))), (0, .int (ntA x))]) (pc := 55) X dJ6_numberOfTrailingZeros_0f7a4_55 0 rfl rfl rfl rfl ?_
          refine g_iload_n (pc := 58) X dJ6_numberOfTrailingZeros_0f7a4_58 1 rfl ?_
          refine g_iconst (v := 4) (pc := 59) X dJ6_numberOfTrailingZeros_0f7a4_59 (by decide) ?_
          refine g_iushr (v := ushr (ntA x) 4) (pc := 60) X dJ6_numberOfTrailingZeros_0f7a4_60 rfl ?_
          refine g_istore_n (lv' := [(0, .int (ushr (ntA x) 4)), (1, .int (1 + (4)))]) (pc := 61) X dJ6_numberOfTrailingZeros_0f7a4_61 rfl rfl rfl ?_
          refine g_iload_n (pc := 62) X dJ6_numberOfTrailingZeros_0f7a4_62 0 rfl ?_
          refine g_iconst (v := 4) (pc := 63) X dJ6_numberOfTrailingZeros_0f7a4_63 (by decide) ?_
          refine g_icmp_le (pc := 64) (tgt := 74) X dJ6_numberOfTrailingZeros_0f7a4_64 (by decide) (fun c64 => ?_) (fun c64 => ?_)
          · have n64 := Int32.not_lt.mpr c64
            refine g_iload_n (pc := 74) X dJ6_numberOfTrailingZeros_0f7a4_74 1 rfl ?_
            refine g_iload_n (pc := 75) X dJ6_numberOfTrailingZeros_0f7a4_75 0 rfl ?_
            refine g_iconst (v := 1) (pc := 76) X dJ6_numberOfTrailingZeros_0f7a4_76 (by decide) ?_
            refine g_iushr (v := ushr (ushr (ntA x) 4) 1) (pc := 77) X dJ6_numberOfTrailingZeros_0f7a4_77 rfl ?_
            refine g_iadd (v := (1 + (4)) + (ushr (ushr (ntA x) 4) 1)) (pc := 78) X dJ6_numberOfTrailingZeros_0f7a4_78 rfl ?_
            exact g_iret (pc := 79) X rfl dJ6_numberOfTrailingZeros_0f7a4_79 rfl (by first | (rw [ntI, if_neg n9]; done) | (rw [ntI, if_pos c9]; simp only [ntS_t, ntS_f, *, not_false_eq_true]; rfl) | done) rfl
          · refine g_iinc (v := 1 + (4) + (2)) (lv' := [(1, .int (1 + (4) + (2))), (0, .int (ushr (ntA x) 4))]) (pc := 67) X dJ6_numberOfTrailingZeros_0f7a4_67 1 rfl rfl rfl rfl ?_
            refine g_iload_n (pc := 70) X dJ6_numberOfTrailingZeros_0f7a4_70 1 rfl ?_
            refine g_iconst (v := 2) (pc := 71) X dJ6_numberOfTrailingZeros_0f7a4_71 (by decide) ?_
            refine g_iushr (v := ushr (ushr (ntA x) 4) 2) (pc := 72) X dJ6_numberOfTrailingZeros_0f7a4_72 rfl ?_
            refine g_istore_n (lv' := [(0, .int (ushr (ushr (ntA x) 4) 2)), (1, .int (1 + (4) + (2)))]) (pc := 73) X dJ6_numberOfTrailingZeros_0f7a4_73 rfl rfl rfl ?_
            refine g_iload_n (pc := 74) X dJ6_numberOfTrailingZeros_0f7a4_74 1 rfl ?_
            refine g_iload_n (pc := 75) X dJ6_numberOfTrailingZeros_0f7a4_75 0 rfl ?_
            refine g_iconst (v := 1) (pc := 76) X dJ6_numberOfTrailingZeros_0f7a4_76 (by decide) ?_
            refine g_iushr (v := ushr (ushr (ushr (ntA x) 4) 2) 1) (pc := 77) X dJ6_numberOfTrailingZeros_0f7a4_77 rfl ?_
            refine g_iadd (v := (1 + (4) + (2)) + (ushr (ushr (ushr (ntA x) 4) 2) 1)) (pc := 78) X dJ6_numberOfTrailingZeros_0f7a4_78 rfl ?_
            exact g_iret (pc := 79) X rfl dJ6_numberOfTrailingZeros_0f7a4_79 rfl (by first | (rw [ntI, if_neg n9]; done) | (rw [ntI, if_pos c9]; simp only [ntS_t, ntS_f, *, not_false_eq_true]; rfl) | done) rfl
      · refine g_iinc (v := 1 + (8)) (lv' := [(1, .int (1 + (8))), (0, .int (ntA x))]) (pc := 41) X dJ6_numberOfTrailingZeros_0f7a4_41 0 rfl rfl rfl rfl ?_
        refine g_iload_n (pc := 44) X dJ6_numberOfTrailingZeros_0f7a4_44 1 rfl ?_
        refine g_bipush (v := 8) (pc := 45) X dJ6_numberOfTrailingZeros_0f7a4_45 (by decide) ?_
        refine g_iushr (v := ushr (ntA x) 8) (pc := 47) X dJ6_numberOfTrailingZeros_0f7a4_47 rfl ?_
        refine g_istore_n (lv' := [(0, .int (ushr (ntA x) 8)), (1, .int (1 + (8)))]) (pc := 48) X dJ6_numberOfTrailingZeros_0f7a4_48 rfl rfl rfl ?_
        refine g_iload_n (pc := 49) X dJ6_numberOfTrailingZeros_0f7a4_49 0 rfl ?_
        refine g_bipush (v := 16) (pc := 50) X dJ6_numberOfTrailingZeros_0f7a4_50 (by decide) ?_
        refine g_icmp_le (pc := 52) (tgt := 62) X dJ6_numberOfTrailingZeros_0f7a4_52 (by decide) (fun c52 => ?_) (fun c52 => ?_)
        · have n52 := Int32.not_lt.mpr c52
          refine g_iload_n (pc := 62) X dJ6_numberOfTrailingZeros_0f7a4_62 0 rfl ?_
          refine g_iconst (v := 4) (pc := 63) X dJ6_numberOfTrailingZeros_0f7a4_63 (by decide) ?_
          refine g_icmp_le (pc := 64) (tgt := 74) X dJ6_numberOfTrailingZeros_0f7a4_64 (by decide) (fun c64 => ?_) (fun c64 => ?_)
          · have n64 := Int32.not_lt.mpr c64
            refine g_iload_n (pc := 74) X dJ6_numberOfTrailingZeros_0f7a4_74 1 rfl ?_
            refine g_iload_n (pc := 75) X dJ6_numberOfTrailingZeros_0f7a4_75 0 rfl ?_
            refine g_iconst (v := 1) (pc := 76) X dJ6_numberOfTrailingZeros_0f7a4_76 (by decide) ?_
            refine g_iushr (v := ushr (ushr (ntA x) 8) 1) (pc := 77) X dJ6_numberOfTrailingZeros_0f7a4_77 rfl ?_
            refine g_iadd (v := (1 + (8)) + (ushr (ushr (ntA x) 8) 1)) (pc := 78) X dJ6_numberOfTrailingZeros_0f7a4_78 rfl ?_
            exact g_iret (pc := 79) X rfl dJ6_numberOfTrailingZeros_0f7a4_79 rfl (by first | (rw [ntI, if_neg n9]; done) | (rw [ntI, if_pos c9]; simp only [ntS_t, ntS_f, *, not_false_eq_true]; rfl) | done) rfl
          · refine g_iinc (v := 1 + (8) + (2)) (lv' := [(1, .int (1 + (8) + (2))), (0, .int (ushr (ntA x) 8))]) (pc := 67) X dJ6_numberOfTrailingZeros_0f7a4_67 1 rfl rfl rfl rfl ?_
            refine g_iload_n (pc := 70) X dJ6_numberOfTrailingZeros_0f7a4_70 1 rfl ?_
            refine g_iconst (v := 2) (pc := 71) X dJ6_numberOfTrailingZeros_0f7a4_71 (by decide) ?_
            refine g_iushr (v := ushr (ushr (ntA x) 8) 2) (pc := 72) X dJ6_numberOfTrailingZeros_0f7a4_72 rfl ?_
            refine g_istore_n (lv' := [(0, .int (ushr (ushr (ntA x) 8) 2)), (1, .int (1 + (8) + (2)))]) (pc := 73) X dJ6_numberOfTrailingZeros_0f7a4_73 rfl rfl rfl ?_
            refine g_iload_n (pc := 74) X dJ6_numberOfTrailingZeros_0f7a4_74 1 rfl ?_
            refine g_iload_n (pc := 75) X dJ6_numberOfTrailingZeros_0f7a4_75 0 rfl ?_
            refine g_iconst (v := 1) (pc := 76) X dJ6_numberOfTrailingZeros_0f7a4_76 (by decide) ?_
            refine g_iushr (v := ushr (ushr (ushr (ntA x) 8) 2) 1) (pc := 77) X dJ6_numberOfTrailingZeros_0f7a4_77 rfl ?_
            refine g_iadd (v := (1 + (8) + (2)) + (ushr (ushr (ushr (ntA x) 8) 2) 1)) (pc := 78) X dJ6_numberOfTrailingZeros_0f7a4_78 rfl ?_
            exact g_iret (pc := 79) X rfl dJ6_numberOfTrailingZeros_0f7a4_79 rfl (by first | (rw [ntI, if_neg n9]; done) | (rw [ntI, if_pos c9]; simp only [ntS_t, ntS_f, *, not_false_eq_true]; rfl) | done) rfl
        · refine g_iinc (v := 1 + (8) + (4)) (lv' := [(1, .int (1 + (8) + (4))), (0, .int (ushr (ntA x) 8))]) (pc := 55) X dJ6_numberOfTrailingZeros_0f7a4_55 1 rfl rfl rfl rfl ?_
          refine g_iload_n (pc := 58) X dJ6_numberOfTrailingZeros_0f7a4_58 1 rfl ?_
          refine g_iconst (v := 4) (pc := 59) X dJ6_numberOfTrailingZeros_0f7a4_59 (by decide) ?_
          refine g_iushr (v := ushr (ushr (ntA x) 8) 4) (pc := 60) X dJ6_numberOfTrailingZeros_0f7a4_60 rfl ?_
          refine g_istore_n (lv' := [(0, .int (ushr (ushr (ntA x) 8) 4)), (1, .int (1 + (8) + (4)))]) (pc := 61) X dJ6_numberOfTrailingZeros_0f7a4_61 rfl rfl rfl ?_
          refine g_iload_n (pc := 62) X dJ6_numberOfTrailingZeros_0f7a4_62 0 rfl ?_
          refine g_iconst (v := 4) (pc := 63) X dJ6_numberOfTrailingZeros_0f7a4_63 (by decide) ?_
          refine g_icmp_le (pc := 64) (tgt := 74) X dJ6_numberOfTrailingZeros_0f7a4_64 (by decide) (fun c64 => ?_) (fun c64 => ?_)
          · have n64 := Int32.not_lt.mpr c64
            refine g_iload_n (pc := 74) X dJ6_numberOfTrailingZeros_0f7a4_74 1 rfl ?_
            refine g_iload_n (pc := 75) X dJ6_numberOfTrailingZeros_0f7a4_75 0 rfl ?_
            refine g_iconst (v := 1) (pc := 76) X dJ6_numberOfTrailingZeros_0f7a4_76 (by decide) ?_
            refine g_iushr (v := ushr (ushr (ushr (ntA x) 8) 4) 1) (pc := 77) X dJ6_numberOfTrailingZeros_0f7a4_77 rfl ?_
            refine g_iadd (v := (1 + (8) + (4)) + (ushr (ushr (ushr (ntA x) 8) 4) 1)) (pc := 78) X dJ6_numberOfTrailingZeros_0f7a4_78 rfl ?_
            exact g_iret (pc := 79) X rfl dJ6_numberOfTrailingZeros_0f7a4_79 rfl (by first | (rw [ntI, if_neg n9]; done) | (rw [ntI, if_pos c9]; simp only [ntS_t, ntS_f, *, not_false_eq_true]; rfl) | done) rfl
          · refine g_iinc (v := 1 + (8) + (4) + (2)) (lv' := [(1, .int (1 + (8) + (4) + (2))), (0, .int (ushr (ushr (ntA x) 8) 4))]) (pc := 67) X dJ6_numberOfTrailingZeros_0f7a4_67 1 rfl rfl rfl rfl ?_
            refine g_iload_n (pc := 70) X dJ6_numberOfTrailingZeros_0f7a4_70 1 rfl ?_
            refine g_iconst (v := 2) (pc := 71) X dJ6_numberOfTrailingZeros_0f7a4_71 (by decide) ?_
            refine g_iushr (v := ushr (ushr (ushr (ntA x) 8) 4) 2) (pc := 72) X dJ6_numberOfTrailingZeros_0f7a4_72 rfl ?_
            refine g_istore_n (lv' := [(0, .int (ushr (ushr (ushr (ntA x) 8) 4) 2)), (1, .int (1 + (8) + (4) + (2)))]) (pc := 73) X dJ6_numberOfTrailingZeros_0f7a4_73 rfl rfl rfl ?_
            refine g_iload_n (pc := 74) X dJ6_numberOfTrailingZeros_0f7a4_74 1 rfl ?_
            refine g_iload_n (pc := 75) X dJ6_numberOfTrailingZeros_0f7a4_75 0 rfl ?_
            refine g_iconst (v := 1) (pc := 76) X dJ6_numberOfTrailingZeros_0f7a4_76 (by decide) ?_
            refine g_iushr (v := ushr (ushr (ushr (ushr (ntA x) 8) 4) 2) 1) (pc := 77) X dJ6_numberOfTrailingZeros_0f7a4_77 rfl ?_
            refine g_iadd (v := (1 + (8) + (4) + (2)) + (ushr (ushr (ushr (ushr (ntA x) 8) 4) 2) 1)) (pc := 78) X dJ6_numberOfTrailingZeros_0f7a4_78 rfl ?_
            exact g_iret (pc := 79) X rfl dJ6_numberOfTrailingZeros_0f7a4_79 rfl (by first | (rw [ntI, if_neg n9]; done) | (rw [ntI, if_pos c9]; simp only [ntS_t, ntS_f, *, not_false_eq_true]; rfl) | done) rfl
    · refine g_iinc (v := 1 + (16)) (lv' := [(1, .int (1 + (16))), (0, .int (ntA x))]) (pc := 26) X dJ6_numberOfTrailingZeros_0f7a4_26 0 rfl rfl rfl rfl ?_
      refine g_iload_n (pc := 29) X dJ6_numberOfTrailingZeros_0f7a4_29 1 rfl ?_
      refine g_bipush (v := 16) (pc := 30) X dJ6_numberOfTrailingZeros_0f7a4_30 (by decide) ?_
      refine g_iushr (v := ushr (ntA x) 16) (pc := 32) X dJ6_numberOfTrailingZeros_0f7a4_32 rfl ?_
      refine g_istore_n (lv' := [(0, .int (ushr (ntA x) 16)), (1, .int (1 + (16)))]) (pc := 33) X dJ6_numberOfTrailingZeros_0f7a4_33 rfl rfl rfl ?_
      refine g_iload_n (pc := 34) X dJ6_numberOfTrailingZeros_0f7a4_34 0 rfl ?_
      refine g_sipush (v := 256) (pc := 35) X dJ6_numberOfTrailingZeros_0f7a4_35 (by decide) ?_
      refine g_icmp_le (pc := 38) (tgt := 49) X dJ6_numberOfTrailingZeros_0f7a4_38 (by decide) (fun c38 => ?_) (fun c38 => ?_)
      · have n38 := Int32.not_lt.mpr c38
        refine g_iload_n (pc := 49) X dJ6_numberOfTrailingZeros_0f7a4_49 0 rfl ?_
        refine g_bipush (v := 16) (pc := 50) X dJ6_numberOfTrailingZeros_0f7a4_50 (by decide) ?_
        refine g_icmp_le (pc := 52) (tgt := 62) X dJ6_numberOfTrailingZeros_0f7a4_52 (by decide) (fun c52 => ?_) (fun c52 => ?_)
        · have n52 := Int32.not_lt.mpr c52
          refine g_iload_n (pc := 62) X dJ6_numberOfTrailingZeros_0f7a4_62 0 rfl ?_
          refine g_iconst (v := 4) (pc := 63) X dJ6_numberOfTrailingZeros_0f7a4_63 (by decide) ?_
          refine g_icmp_le (pc := 64) (tgt := 74) X dJ6_numberOfTrailingZeros_0f7a4_64 (by decide) (fun c64 => ?_) (fun c64 => ?_)
          · have n64 := Int32.not_lt.mpr c64
            refine g_iload_n (pc := 74) X dJ6_numberOfTrailingZeros_0f7a4_74 1 rfl ?_
            refine g_iload_n (pc := 75) X dJ6_numberOfTrailingZeros_0f7a4_75 0 rfl ?_
            refine g_iconst (v := 1) (pc := 76) X dJ6_numberOfTrailingZeros_0f7a4_76 (by decide) ?_
            refine g_iushr (v := ushr (ushr (ntA x) 16) 1) (pc := 77) X dJ6_numberOfTrailingZeros_0f7a4_77 rfl ?_
            refine g_iadd (v := (1 + (16)) + (ushr (ushr (ntA x) 16) 1)) (pc := 78) X dJ6_numberOfTrailingZeros_0f7a4_78 rfl ?_
            exact g_iret (pc := 79) X rfl dJ6_numberOfTrailingZeros_0f7a4_79 rfl (by first | (rw [ntI, if_neg n9]; done) | (rw [ntI, if_pos c9]; simp only [ntS_t, ntS_f, *, not_false_eq_true]; rfl) | done) rfl
          · refine g_iinc (v := 1 + (16) + (2)) (lv' := [(1, .int (1 + (16) + (2))), (0, .int (ushr (ntA x) 16))]) (pc := 67) X dJ6_numberOfTrailingZeros_0f7a4_67 1 rfl rfl rfl rfl ?_
            refine g_iload_n (pc := 70) X dJ6_numberOfTrailingZeros_0f7a4_70 1 rfl ?_
            refine g_iconst (v := 2) (pc := 71) X dJ6_numberOfTrailingZeros_0f7a4_71 (by decide) ?_
            refine g_iushr (v := ushr (ushr (ntA x) 16) 2) (pc := 72) X dJ6_numberOfTrailingZeros_0f7a4_72 rfl ?_
            refine g_istore_n (lv' := [(0, .int (ushr (ushr (ntA x) 16) 2)), (1, .int (1 + (16) + (2)))]) (pc := 73) X dJ6_numberOfTrailingZeros_0f7a4_73 rfl rfl rfl ?_
            refine g_iload_n (pc := 74) X dJ6_numberOfTrailingZeros_0f7a4_74 1 rfl ?_
            refine g_iload_n (pc := 75) X dJ6_numberOfTrailingZeros_0f7a4_75 0 rfl ?_
            refine g_iconst (v := 1) (pc := 76) X dJ6_numberOfTrailingZeros_0f7a4_76 (by decide) ?_
            refine g_iushr (v := ushr (ushr (ushr (ntA x) 16) 2) 1) (pc := 77) X dJ6_numberOfTrailingZeros_0f7a4_77 rfl ?_
            refine g_iadd (v := (1 + (16) + (2)) + (ushr (ushr (ushr (ntA x) 16) 2) 1)) (pc := 78) X dJ6_numberOfTrailingZeros_0f7a4_78 rfl ?_
            exact g_iret (pc := 79) X rfl dJ6_numberOfTrailingZeros_0f7a4_79 rfl (by first | (rw [ntI, if_neg n9]; done) | (rw [ntI, if_pos c9]; simp only [ntS_t, ntS_f, *, not_false_eq_true]; rfl) | done) rfl
        · refine g_iinc (v := 1 + (16) + (4)) (lv' := [(1, .int (1 + (16) + (4))), (0, .int (ushr (ntA x) 16))]) (pc := 55) X dJ6_numberOfTrailingZeros_0f7a4_55 1 rfl rfl rfl rfl ?_
          refine g_iload_n (pc := 58) X dJ6_numberOfTrailingZeros_0f7a4_58 1 rfl ?_
          refine g_iconst (v := 4) (pc := 59) X dJ6_numberOfTrailingZeros_0f7a4_59 (by decide) ?_
          refine g_iushr (v := ushr (ushr (ntA x) 16) 4) (pc := 60) X dJ6_numberOfTrailingZeros_0f7a4_60 rfl ?_
          refine g_istore_n (lv' := [(0, .int (ushr (ushr (ntA x) 16) 4)), (1, .int (1 + (16) + (4)))]) (pc := 61) X dJ6_numberOfTrailingZeros_0f7a4_61 rfl rfl rfl ?_
          refine g_iload_n (pc := 62) X dJ6_numberOfTrailingZeros_0f7a4_62 0 rfl ?_
          refine g_iconst (v := 4) (pc := 63) X dJ6_numberOfTrailingZeros_0f7a4_63 (by decide) ?_
          refine g_icmp_le (pc := 64) (tgt := 74) X dJ6_numberOfTrailingZeros_0f7a4_64 (by decide) (fun c64 => ?_) (fun c64 => ?_)
          · have n64 := Int32.not_lt.mpr c64
            refine g_iload_n (pc := 74) X dJ6_numberOfTrailingZeros_0f7a4_74 1 rfl ?_
            refine g_iload_n (pc := 75) X dJ6_numberOfTrailingZeros_0f7a4_75 0 rfl ?_
            refine g_iconst (v := 1) (pc := 76) X dJ6_numberOfTrailingZeros_0f7a4_76 (by decide) ?_
            refine g_iushr (v := ushr (ushr (ushr (ntA x) 16) 4) 1) (pc := 77) X dJ6_numberOfTrailingZeros_0f7a4_77 rfl ?_
            refine g_iadd (v := (1 + (16) + (4)) + (ushr (ushr (ushr (ntA x) 16) 4) 1)) (pc := 78) X dJ6_numberOfTrailingZeros_0f7a4_78 rfl ?_
            exact g_iret (pc := 79) X rfl dJ6_numberOfTrailingZeros_0f7a4_79 rfl (by first | (rw [ntI, if_neg n9]; done) | (rw [ntI, if_pos c9]; simp only [ntS_t, ntS_f, *, not_false_eq_true]; rfl) | done) rfl
          · refine g_iinc (v := 1 + (16) + (4) + (2)) (lv' := [(1, .int (1 + (16) + (4) + (2))), (0, .int (ushr (ushr (ntA x) 16) 4))]) (pc := 67) X dJ6_numberOfTrailingZeros_0f7a4_67 1 rfl rfl rfl rfl ?_
            refine g_iload_n (pc := 70) X dJ6_numberOfTrailingZeros_0f7a4_70 1 rfl ?_
            refine g_iconst (v := 2) (pc := 71) X dJ6_numberOfTrailingZeros_0f7a4_71 (by decide) ?_
            refine g_iushr (v := ushr (ushr (ushr (ntA x) 16) 4) 2) (pc := 72) X dJ6_numberOfTrailingZeros_0f7a4_72 rfl ?_
            refine g_istore_n (lv' := [(0, .int (ushr (ushr (ushr (ntA x) 16) 4) 2)), (1, .int (1 + (16) + (4) + (2)))]) (pc := 73) X dJ6_numberOfTrailingZeros_0f7a4_73 rfl rfl rfl ?_
            refine g_iload_n (pc := 74) X dJ6_numberOfTrailingZeros_0f7a4_74 1 rfl ?_
            refine g_iload_n (pc := 75) X dJ6_numberOfTrailingZeros_0f7a4_75 0 rfl ?_
            refine g_iconst (v := 1) (pc := 76) X dJ6_numberOfTrailingZeros_0f7a4_76 (by decide) ?_
            refine g_iushr (v := ushr (ushr (ushr (ushr (ntA x) 16) 4) 2) 1) (pc := 77) X dJ6_numberOfTrailingZeros_0f7a4_77 rfl ?_
            refine g_iadd (v := (1 + (16) + (4) + (2)) + (ushr (ushr (ushr (ushr (ntA x) 16) 4) 2) 1)) (pc := 78) X dJ6_numberOfTrailingZeros_0f7a4_78 rfl ?_
            exact g_iret (pc := 79) X rfl dJ6_numberOfTrailingZeros_0f7a4_79 rfl (by first | (rw [ntI, if_neg n9]; done) | (rw [ntI, if_pos c9]; simp only [ntS_t, ntS_f, *, not_false_eq_true]; rfl) | done) rfl
      · refine g_iinc (v := 1 + (16) + (8)) (lv' := [(1, .int (1 + (16) + (8))), (0, .int (ushr (ntA x) 16))]) (pc := 41) X dJ6_numberOfTrailingZeros_0f7a4_41 1 rfl rfl rfl rfl ?_
        refine g_iload_n (pc := 44) X dJ6_numberOfTrailingZeros_0f7a4_44 1 rfl ?_
        refine g_bipush (v := 8) (pc := 45) X dJ6_numberOfTrailingZeros_0f7a4_45 (by decide) ?_
        refine g_iushr (v := ushr (ushr (ntA x) 16) 8) (pc := 47) X dJ6_numberOfTrailingZeros_0f7a4_47 rfl ?_
        refine g_istore_n (lv' := [(0, .int (ushr (ushr (ntA x) 16) 8)), (1, .int (1 + (16) + (8)))]) (pc := 48) X dJ6_numberOfTrailingZeros_0f7a4_48 rfl rfl rfl ?_
        refine g_iload_n (pc := 49) X dJ6_numberOfTrailingZeros_0f7a4_49 0 rfl ?_
        refine g_bipush (v := 16) (pc := 50) X dJ6_numberOfTrailingZeros_0f7a4_50 (by decide) ?_
        refine g_icmp_le (pc := 52) (tgt := 62) X dJ6_numberOfTrailingZeros_0f7a4_52 (by decide) (fun c52 => ?_) (fun c52 => ?_)
        · have n52 := Int32.not_lt.mpr c52
          refine g_iload_n (pc := 62) X dJ6_numberOfTrailingZeros_0f7a4_62 0 rfl ?_
          refine g_iconst (v := 4) (pc := 63) X dJ6_numberOfTrailingZeros_0f7a4_63 (by decide) ?_
          refine g_icmp_le (pc := 64) (tgt := 74) X dJ6_numberOfTrailingZeros_0f7a4_64 (by decide) (fun c64 => ?_) (fun c64 => ?_)
          · have n64 := Int32.not_lt.mpr c64
            refine g_iload_n (pc := 74) X dJ6_numberOfTrailingZeros_0f7a4_74 1 rfl ?_
            refine g_iload_n (pc := 75) X dJ6_numberOfTrailingZeros_0f7a4_75 0 rfl ?_
            refine g_iconst (v := 1) (pc := 76) X dJ6_numberOfTrailingZeros_0f7a4_76 (by decide) ?_
            refine g_iushr (v := ushr (ushr (ushr (ntA x) 16) 8) 1) (pc := 77) X dJ6_numberOfTrailingZeros_0f7a4_77 rfl ?_
            refine g_iadd (v := (1 + (16) + (8)) + (ushr (ushr (ushr (ntA x) 16) 8) 1)) (pc := 78) X dJ6_numberOfTrailingZeros_0f7a4_78 rfl ?_
            exact g_iret (pc := 79) X rfl dJ6_numberOfTrailingZeros_0f7a4_79 rfl (by first | (rw [ntI, if_neg n9]; done) | (rw [ntI, if_pos c9]; simp only [ntS_t, ntS_f, *, not_false_eq_true]; rfl) | done) rfl
          · refine g_iinc (v := 1 + (16) + (8) + (2)) (lv' := [(1, .int (1 + (16) + (8) + (2))), (0, .int (ushr (ushr (ntA x) 16) 8))]) (pc := 67) X dJ6_numberOfTrailingZeros_0f7a4_67 1 rfl rfl rfl rfl ?_
            refine g_iload_n (pc := 70) X dJ6_numberOfTrailingZeros_0f7a4_70 1 rfl ?_
            refine g_iconst (v := 2) (pc := 71) X dJ6_numberOfTrailingZeros_0f7a4_71 (by decide) ?_
            refine g_iushr (v := ushr (ushr (ushr (ntA x) 16) 8) 2) (pc := 72) X dJ6_numberOfTrailingZeros_0f7a4_72 rfl ?_
            refine g_istore_n (lv' := [(0, .int (ushr (ushr (ushr (ntA x) 16) 8) 2)), (1, .int (1 + (16) + (8) + (2)))]) (pc := 73) X dJ6_numberOfTrailingZeros_0f7a4_73 rfl rfl rfl ?_
            refine g_iload_n (pc := 74) X dJ6_numberOfTrailingZeros_0f7a4_74 1 rfl ?_
            refine g_iload_n (pc := 75) X dJ6_numberOfTrailingZeros_0f7a4_75 0 rfl ?_
            refine g_iconst (v := 1) (pc := 76) X dJ6_numberOfTrailingZeros_0f7a4_76 (by decide) ?_
            refine g_iushr (v := ushr (ushr (ushr (ushr (ntA x) 16) 8) 2) 1) (pc := 77) X dJ6_numberOfTrailingZeros_0f7a4_77 rfl ?_
            refine g_iadd (v := (1 + (16) + (8) + (2)) + (ushr (ushr (ushr (ushr (ntA x) 16) 8) 2) 1)) (pc := 78) X dJ6_numberOfTrailingZeros_0f7a4_78 rfl ?_
            exact g_iret (pc := 79) X rfl dJ6_numberOfTrailingZeros_0f7a4_79 rfl (by first | (rw [ntI, if_neg n9]; done) | (rw [ntI, if_pos c9]; simp only [ntS_t, ntS_f, *, not_false_eq_true]; rfl) | done) rfl
        · refine g_iinc (v := 1 + (16) + (8) + (4)) (lv' := [(1, .int (1 + (16) + (8) + (4))), (0, .int (ushr (ushr (ntA x) 16) 8))]) (pc := 55) X dJ6_numberOfTrailingZeros_0f7a4_55 1 rfl rfl rfl rfl ?_
          refine g_iload_n (pc := 58) X dJ6_numberOfTrailingZeros_0f7a4_58 1 rfl ?_
          refine g_iconst (v := 4) (pc := 59) X dJ6_numberOfTrailingZeros_0f7a4_59 (by decide) ?_
          refine g_iushr (v := ushr (ushr (ushr (ntA x) 16) 8) 4) (pc := 60) X dJ6_numberOfTrailingZeros_0f7a4_60 rfl ?_
          refine g_istore_n (lv' := [(0, .int (ushr (ushr (ushr (ntA x) 16) 8) 4)), (1, .int (1 + (16) + (8) + (4)))]) (pc := 61) X dJ6_numberOfTrailingZeros_0f7a4_61 rfl rfl rfl ?_
          refine g_iload_n (pc := 62) X dJ6_numberOfTrailingZeros_0f7a4_62 0 rfl ?_
          refine g_iconst (v := 4) (pc := 63) X dJ6_numberOfTrailingZeros_0f7a4_63 (by decide) ?_
          refine g_icmp_le (pc := 64) (tgt := 74) X dJ6_numberOfTrailingZeros_0f7a4_64 (by decide) (fun c64 => ?_) (fun c64 => ?_)
          · have n64 := Int32.not_lt.mpr c64
            refine g_iload_n (pc := 74) X dJ6_numberOfTrailingZeros_0f7a4_74 1 rfl ?_
            refine g_iload_n (pc := 75) X dJ6_numberOfTrailingZeros_0f7a4_75 0 rfl ?_
            refine g_iconst (v := 1) (pc := 76) X dJ6_numberOfTrailingZeros_0f7a4_76 (by decide) ?_
            refine g_iushr (v := ushr (ushr (ushr (ushr (ntA x) 16) 8) 4) 1) (pc := 77) X dJ6_numberOfTrailingZeros_0f7a4_77 rfl ?_
            refine g_iadd (v := (1 + (16) + (8) + (4)) + (ushr (ushr (ushr (ushr (ntA x) 16) 8) 4) 1)) (pc := 78) X dJ6_numberOfTrailingZeros_0f7a4_78 rfl ?_
            exact g_iret (pc := 79) X rfl dJ6_numberOfTrailingZeros_0f7a4_79 rfl (by first | (rw [ntI, if_neg n9]; done) | (rw [ntI, if_pos c9]; simp only [ntS_t, ntS_f, *, not_false_eq_true]; rfl) | done) rfl
          · refine g_iinc (v := 1 + (16) + (8) + (4) + (2)) (lv' := [(1, .int (1 + (16) + (8) + (4) + (2))), (0, .int (ushr (ushr (ushr (ntA x) 16) 8) 4))]) (pc := 67) X dJ6_numberOfTrailingZeros_0f7a4_67 1 rfl rfl rfl rfl ?_
            refine g_iload_n (pc := 70) X dJ6_numberOfTrailingZeros_0f7a4_70 1 rfl ?_
            refine g_iconst (v := 2) (pc := 71) X dJ6_numberOfTrailingZeros_0f7a4_71 (by decide) ?_
            refine g_iushr (v := ushr (ushr (ushr (ushr (ntA x) 16) 8) 4) 2) (pc := 72) X dJ6_numberOfTrailingZeros_0f7a4_72 rfl ?_
            refine g_istore_n (lv' := [(0, .int (ushr (ushr (ushr (ushr (ntA x) 16) 8) 4) 2)), (1, .int (1 + (16) + (8) + (4) + (2)))]) (pc := 73) X dJ6_numberOfTrailingZeros_0f7a4_73 rfl rfl rfl ?_
            refine g_iload_n (pc := 74) X dJ6_numberOfTrailingZeros_0f7a4_74 1 rfl ?_
            refine g_iload_n (pc := 75) X dJ6_numberOfTrailingZeros_0f7a4_75 0 rfl ?_
            refine g_iconst (v := 1) (pc := 76) X dJ6_numberOfTrailingZeros_0f7a4_76 (by decide) ?_
            refine g_iushr (v := ushr (ushr (ushr (ushr (ushr (ntA x) 16) 8) 4) 2) 1) (pc := 77) X dJ6_numberOfTrailingZeros_0f7a4_77 rfl ?_
            refine g_iadd (v := (1 + (16) + (8) + (4) + (2)) + (ushr (ushr (ushr (ushr (ushr (ntA x) 16) 8) 4) 2) 1)) (pc := 78) X dJ6_numberOfTrailingZeros_0f7a4_78 rfl ?_
            exact g_iret (pc := 79) X rfl dJ6_numberOfTrailingZeros_0f7a4_79 rfl (by first | (rw [ntI, if_neg n9]; done) | (rw [ntI, if_pos c9]; simp only [ntS_t, ntS_f, *, not_false_eq_true]; rfl) | done) rfl
  · have n9 := Int32.not_lt.mpr c9
    refine g_iload_n (pc := 12) X dJ6_numberOfTrailingZeros_0f7a4_12 0 rfl ?_
    refine g_bipush (v := 32) (pc := 13) X dJ6_numberOfTrailingZeros_0f7a4_13 (by decide) ?_
    refine g_iand (v := (ntA x) &&& 32) (pc := 15) X dJ6_numberOfTrailingZeros_0f7a4_15 rfl ?_
    exact g_iret (pc := 16) X rfl dJ6_numberOfTrailingZeros_0f7a4_16 rfl (by first | (rw [ntI, if_neg n9]; done) | (rw [ntI, if_pos c9]; simp only [ntS_t, ntS_f, *, not_false_eq_true]; rfl) | done) rfl
set_option maxRecDepth 100000 in
set_option maxHeartbeats 4000000 in
theorem c_X4_mayBe (l : Launch) (D : va_G) (cy : ClassId) (ay : Nat → Nat) (k : KV) (v : MV) (p : Nat) (q : Nat) (bs : Bool) (hp : p < 8) (hq : q < 8) (hsz : kNs k ≤ 8) : CtI l yX4_mayBe cX4_mayBe 5 .boolean 1 85 D cy [.ref (ay 0), .int (nI p), .int (nI q), .int (bI (bs))] [wM cy ay k v] [wM cy ay k v] (bI (myF k (mSn v) bs p q)) := by
  refine ctI_of (by decide +kernel) (Nat.le_of_ble_eq_true rfl) (fun p_ e_ s_ m_ args_ below_ meth_ c_ A_ X => ?_)
  refine g_lv X (lv' := [(0, .ref (ay 0)), (1, .int (nI p)), (2, .int (nI q)), (3, .int (bI (bs)))]) [0, 1, 2, 3] rfl ?_
  refine g_iload_n (pc := 0) X dX4_mayBe_0 3 rfl ?_
  refine g_bif_eq (pc := 1) (tgt := 26) X dX4_mayBe_1 (by decide) (fun c1 => ?_) (fun c1 => ?_)
  · refine g_iconst (v := 0) (pc := 26) X dX4_mayBe_26 (by decide) ?_
    refine g_istore (lv' := [(4, .int (0)), (0, .ref (ay 0)), (1, .int (nI p)), (2, .int (nI q)), (3, .int (bI (bs)))]) (pc := 27) X dX4_mayBe_27 rfl rfl ?_
    have L29_1 : ∀ (fu_ : Nat) (i : Nat) (hi : i ≤ kNs k) (hm2 : myF k (mSn v) bs p q = msF k p q (kNs k - i) i) (hm : 9 - i < fu_), G p_ l e_ { frames := 1, cells := 0, slots := 0, locals := 85 } s_ m_ args_ below_ meth_ c_ 5 D A_ 0 0 (QI below_ args_ s_ D A_ [wM cy ay k v] (bI (myF k (mSn v) bs p q))) [wM cy ay k v] 29 [(0, .ref (ay 0)), (1, .int (nI p)), (2, .int (nI q)), (3, .int (bI (bs))), (4, .int (nI i))] [] := by
      intro fu_
      induction fu_ with
      | zero => intro i hi hm2 hm; exact absurd hm (Nat.not_lt_zero _)
      | succ fu_ ih =>
        intro i hi hm2 hm
        have ih29 := ih
        clear ih
        refine g_iload (pc := 29) X dX4_mayBe_29 4 rfl ?_
        refine g_aload_n (pc := 31) X dX4_mayBe_31 0 rfl ?_
        refine g_get (pc := 32) X (v := .int (nI (kNs k))) fl_X4_162 dX4_mayBe_32 0 0 rfl rfl rfl ?_
        refine g_ncmp_ge (pc := 35) (tgt := 74) X dX4_mayBe_35 (by decide) i (kNs k) rfl rfl (by omega) (by omega) (fun c35 => ?_) (fun c35 => ?_)
        · have n35 := Nat.not_lt.mpr c35
          refine g_iconst (v := 1) (pc := 74) X dX4_mayBe_74 (by decide) ?_
          exact g_iret (pc := 75) X rfl dX4_mayBe_75 rfl (bI_t (by rw [hm2, show kNs k - i = 0 by omega]; rfl)) rfl
        · refine g_aload_n (pc := 38) X dX4_mayBe_38 0 rfl ?_
          refine g_get (pc := 39) X (v := .ref (ay 6)) fl_X4_25 dX4_mayBe_39 0 0 rfl rfl rfl ?_
          refine g_iload (pc := 42) X dX4_mayBe_42 4 rfl ?_
          refine g_iald_n (pc := 44) (f := kSe k) X 0 6 dX4_mayBe_44 i rfl rfl rfl (by omega) rfl ?_
          refine g_iload_n (pc := 45) X dX4_mayBe_45 1 rfl ?_
          refine g_callS (pc := 46) (rest := []) X (c_X4_has l D cy ((kSe k) i) (nI p) ) sl_X4_129 dX4_mayBe_46 rfl rfl rfl rfl rfl ⟨Nat.zero_le _, Nat.zero_le _⟩ ?_
          refine g_bif_eq (pc := 49) (tgt := 68) X dX4_mayBe_49 (by decide) (fun c49 => ?_) (fun c49 => ?_)
          · have hm3 := hm2.trans (ms_s c35 (fun z => by rw [c49] at z; cases z.1))
            refine g_iinc (v := nI (i + 1)) (lv' := [(4, .int (nI (i + 1))), (0, .ref (ay 0)), (1, .int (nI p)), (2, .int (nI q)), (3, .int (bI (bs)))]) (pc := 68) X dX4_mayBe_68 4 rfl (nI_1 i) rfl rfl ?_
            refine g_goto (pc := 71) (tgt := 29) X dX4_mayBe_71 (by decide) ?_
            refine g_lv X (lv' := [(0, .ref (ay 0)), (1, .int (nI p)), (2, .int (nI q)), (3, .int (bI (bs))), (4, .int (nI (i + 1)))]) [1, 2, 3, 4, 0] rfl ?_
            exact ih29 (i + 1) c35 hm3 (by omega)
          · refine g_aload_n (pc := 52) X dX4_mayBe_52 0 rfl ?_
            refine g_get (pc := 53) X (v := .ref (ay 6)) fl_X4_25 dX4_mayBe_53 0 0 rfl rfl rfl ?_
            refine g_iload (pc := 56) X dX4_mayBe_56 4 rfl ?_
            refine g_iald_n (pc := 58) (f := kSe k) X 0 6 dX4_mayBe_58 i rfl rfl rfl (by omega) rfl ?_
            refine g_iload_n (pc := 59) X dX4_mayBe_59 2 rfl ?_
            refine g_callS (pc := 60) (rest := []) X (c_X4_has l D cy ((kSe k) i) (nI q) ) sl_X4_129 dX4_mayBe_60 rfl rfl rfl rfl rfl ⟨Nat.zero_le _, Nat.zero_le _⟩ ?_
            refine g_bif_eq (pc := 63) (tgt := 68) X dX4_mayBe_63 (by decide) (fun c63 => ?_) (fun c63 => ?_)
            · have hm3 := hm2.trans (ms_s c35 (fun z => by rw [c63] at z; cases z.2))
              refine g_iinc (v := nI (i + 1)) (lv' := [(4, .int (nI (i + 1))), (0, .ref (ay 0)), (1, .int (nI p)), (2, .int (nI q)), (3, .int (bI (bs)))]) (pc := 68) X dX4_mayBe_68 4 rfl (nI_1 i) rfl rfl ?_
              refine g_goto (pc := 71) (tgt := 29) X dX4_mayBe_71 (by decide) ?_
              refine g_lv X (lv' := [(0, .ref (ay 0)), (1, .int (nI p)), (2, .int (nI q)), (3, .int (bI (bs))), (4, .int (nI (i + 1)))]) [1, 2, 3, 4, 0] rfl ?_
              exact ih29 (i + 1) c35 hm3 (by omega)
            · refine g_iconst (v := 0) (pc := 66) X dX4_mayBe_66 (by decide) ?_
              exact g_iret (pc := 67) X rfl dX4_mayBe_67 rfl (bI_f (by rw [hm2, ms_t c35 ⟨c49, c63⟩])) rfl
    refine g_lv X (lv' := [(0, .ref (ay 0)), (1, .int (nI p)), (2, .int (nI q)), (3, .int (bI (bs))), (4, .int (0))]) [1, 2, 3, 4, 0] rfl ?_
    exact L29_1 (9 - 0 + 1) 0 (Nat.zero_le _) (by rw [c1]; rfl) (Nat.lt_succ_self _)
  · refine g_aload_n (pc := 4) X dX4_mayBe_4 0 rfl ?_
    refine g_get (pc := 5) X (v := .ref (ay 13)) fl_X4_46 dX4_mayBe_5 0 0 rfl rfl rfl ?_
    refine g_iload_n (pc := 8) X dX4_mayBe_8 1 rfl ?_
    refine g_iald_n (pc := 9) (f := mSn v) X 0 13 dX4_mayBe_9 p rfl rfl rfl (by omega) rfl ?_
    refine g_aload_n (pc := 10) X dX4_mayBe_10 0 rfl ?_
    refine g_get (pc := 11) X (v := .ref (ay 13)) fl_X4_46 dX4_mayBe_11 0 0 rfl rfl rfl ?_
    refine g_iload_n (pc := 14) X dX4_mayBe_14 2 rfl ?_
    refine g_iald_n (pc := 15) (f := mSn v) X 0 13 dX4_mayBe_15 q rfl rfl rfl (by omega) rfl ?_
    refine g_iand (v := ((mSn v) p) &&& ((mSn v) q)) (pc := 16) X dX4_mayBe_16 rfl ?_
    refine g_if_ne (pc := 17) (tgt := 24) X dX4_mayBe_17 (by decide) (fun c17 => ?_) (fun c17 => ?_)
    · refine g_iconst (v := 0) (pc := 24) X dX4_mayBe_24 (by decide) ?_
      exact g_iret (pc := 25) X rfl dX4_mayBe_25 rfl (by first | exact bI_t (by rw [c1]; exact decide_eq_true c17) | exact bI_f (by rw [c1]; exact decide_eq_false c17) | done) rfl
    · refine g_iconst (v := 1) (pc := 20) X dX4_mayBe_20 (by decide) ?_
      refine g_goto (pc := 21) (tgt := 25) X dX4_mayBe_21 (by decide) ?_
      exact g_iret (pc := 25) X rfl dX4_mayBe_25 rfl (by first | exact bI_t (by rw [c1]; exact decide_eq_true c17) | exact bI_f (by rw [c1]; exact decide_eq_false c17) | done) rfl
set_option maxRecDepth 100000 in
set_option maxHeartbeats 4000000 in
theorem c_X4_waysFor_0 (l : Launch) (D : va_G) (cy : ClassId) (ay : Nat → Nat) (k : KV) (v : MV) (s : Nat) (bs : Bool) (al : Nat → Int32) (h8 : kNt k ≤ 8) (hsz : kNs k ≤ 8) (hs : s < 2 ^ kNt k) (hd : pcN s ≤ 0) (ha : ∀ p q, p < q → q < kNt k → myF k (mSn v) bs p q = bt (al p) q) : CtI l yX4_waysFor cX4_waysFor 6 .int 2 109 D cy [.ref (ay 0), .int (nI s), .int (bI (bs))] [wM cy ay k v] [wM cy ay k v] (wyT (kNt k) al s) := by
  have hM : 2 ^ kNt k ≤ 256 := Nat.pow_le_pow_right (n := 2) (by omega) h8
  refine ctI_of (by decide +kernel) (Nat.le_of_ble_eq_true rfl) (fun p_ e_ s_ m_ args_ below_ meth_ c_ A_ X => ?_)
  refine g_lv X (lv' := [(0, .ref (ay 0)), (1, .int (nI s)), (2, .int (bI (bs)))]) [0, 1, 2] rfl ?_
  refine g_iload_n (pc := 0) X dX4_waysFor_0 1 rfl ?_
  refine g_nif_ne (pc := 1) (tgt := 6) X dX4_waysFor_1 (by decide) s rfl (by omega) (fun c1 => by exact absurd (pc_0 s (by omega) hd) c1) (fun c1 => ?_)
  refine g_iconst (v := 1) (pc := 4) X dX4_waysFor_4 (by decide) ?_
  exact g_iret (pc := 5) X rfl dX4_waysFor_5 rfl (by rw [c1, wy_0]) rfl
set_option maxRecDepth 100000 in
set_option maxHeartbeats 4000000 in
theorem c_X4_waysFor_1 (l : Launch) (D : va_G) (cy : ClassId) (ay : Nat → Nat) (k : KV) (v : MV) (s : Nat) (bs : Bool) (al : Nat → Int32) (h8 : kNt k ≤ 8) (hsz : kNs k ≤ 8) (hs : s < 2 ^ kNt k) (hd : pcN s ≤ 2) (ha : ∀ p q, p < q → q < kNt k → myF k (mSn v) bs p q = bt (al p) q) : CtI l yX4_waysFor cX4_waysFor 6 .int 3 134 D cy [.ref (ay 0), .int (nI s), .int (bI (bs))] [wM cy ay k v] [wM cy ay k v] (wyT (kNt k) al s) := by
  have hM : 2 ^ kNt k ≤ 256 := Nat.pow_le_pow_right (n := 2) (by omega) h8
  refine ctI_of (by decide +kernel) (Nat.le_of_ble_eq_true rfl) (fun p_ e_ s_ m_ args_ below_ meth_ c_ A_ X => ?_)
  refine g_lv X (lv' := [(0, .ref (ay 0)), (1, .int (nI s)), (2, .int (bI (bs)))]) [0, 1, 2] rfl ?_
  refine g_iload_n (pc := 0) X dX4_waysFor_0 1 rfl ?_
  refine g_nif_ne (pc := 1) (tgt := 6) X dX4_waysFor_1 (by decide) s rfl (by omega) (fun c1 => ?_) (fun c1 => ?_)
  · refine g_iload_n (pc := 6) X dX4_waysFor_6 1 rfl ?_
    refine g_callS (pc := 7) (rest := []) X (c_J6_numberOfTrailingZeros_0f7a4 l D cy (nI s) ) sl_X4_165 dX4_waysFor_7 rfl rfl rfl rfl rfl ⟨Nat.zero_le _, Nat.zero_le _⟩ ?_
    have h0 : 0 < s := Nat.pos_of_ne_zero c1
    have hl : loN s < kNt k := lo_lt h8 hs h0
    have hx : s ^^^ 2 ^ loN s < 2 ^ kNt k := xor_lt hs hl
    refine g_top X (nt_n s (by omega) h0) ?_
    refine g_istore_n (lv' := [(3, .int (nI (loN s))), (0, .ref (ay 0)), (1, .int (nI s)), (2, .int (bI (bs)))]) (pc := 10) X dX4_waysFor_10 rfl rfl rfl ?_
    refine g_iconst (v := 0) (pc := 11) X dX4_waysFor_11 (by decide) ?_
    refine g_istore (lv' := [(4, .int (0)), (3, .int (nI (loN s))), (0, .ref (ay 0)), (1, .int (nI s)), (2, .int (bI (bs)))]) (pc := 12) X dX4_waysFor_12 rfl rfl ?_
    refine g_iload_n (pc := 14) X dX4_waysFor_14 1 rfl ?_
    refine g_iconst (v := 1) (pc := 15) X dX4_waysFor_15 (by decide) ?_
    refine g_iadd (v := nI (loN s + 1)) (pc := 16) X dX4_waysFor_16 (nI_add (loN s) 1) ?_
    refine g_istore (lv' := [(5, .int (nI (loN s + 1))), (4, .int (0)), (3, .int (nI (loN s))), (0, .ref (ay 0)), (1, .int (nI s)), (2, .int (bI (bs)))]) (pc := 17) X dX4_waysFor_17 rfl rfl ?_
    refine g_lvv X (lv' := [(5, .int (nI (loN s + 1))), (4, .int (reA al (wyT (kNt k) al) (loN s) (s ^^^ 2 ^ loN s) (loN s + 1))), (3, .int (nI (loN s))), (0, .ref (ay 0)), (1, .int (nI s)), (2, .int (bI (bs)))]) (by rw [reA_0 _ _ _ _ _ (Nat.le_refl _)]) ?_
    have L19_1 : ∀ (fu_ : Nat) (q : Nat) (hq : q ≤ kNt k) (hlo : loN s < q) (hm : 9 - q < fu_), G p_ l e_ { frames := 3, cells := 0, slots := 0, locals := 134 } s_ m_ args_ below_ meth_ c_ 6 D A_ 0 0 (QI below_ args_ s_ D A_ [wM cy ay k v] (wyT (kNt k) al s)) [wM cy ay k v] 19 [(0, .ref (ay 0)), (1, .int (nI s)), (2, .int (bI (bs))), (3, .int (nI (loN s))), (4, .int (reA al (wyT (kNt k) al) (loN s) (s ^^^ 2 ^ loN s) q)), (5, .int (nI q))] [] := by
      intro fu_
      induction fu_ with
      | zero => intro q hq hlo hm; exact absurd hm (Nat.not_lt_zero _)
      | succ fu_ ih =>
        intro q hq hlo hm
        have ih19 := ih
        clear ih
        refine g_iload (pc := 19) X dX4_waysFor_19 5 rfl ?_
        refine g_aload_n (pc := 21) X dX4_waysFor_21 0 rfl ?_
        refine g_get (pc := 22) X (v := .int (nI (kNt k))) fl_X4_52 dX4_waysFor_22 0 0 rfl rfl rfl ?_
        refine g_ncmp_ge (pc := 25) (tgt := 76) X dX4_waysFor_25 (by decide) q (kNt k) rfl rfl (by omega) (by omega) (fun c25 => ?_) (fun c25 => ?_)
        · have n25 := Nat.not_lt.mpr c25
          refine g_iload (pc := 76) X dX4_waysFor_76 4 rfl ?_
          exact g_iret (pc := 78) X rfl dX4_waysFor_78 rfl (by rw [wy_s h8 h0 hs, show q = kNt k by omega]) rfl
        · refine g_iload_n (pc := 28) X dX4_waysFor_28 1 rfl ?_
          refine g_iload (pc := 29) X dX4_waysFor_29 5 rfl ?_
          refine g_callS (pc := 31) (rest := []) X (c_X4_has l D cy (nI s) (nI q) ) sl_X4_129 dX4_waysFor_31 rfl rfl rfl rfl rfl ⟨Nat.zero_le _, Nat.zero_le _⟩ ?_
          refine g_bif_eq (pc := 34) (tgt := 70) X dX4_waysFor_34 (by decide) (fun c34 => ?_) (fun c34 => ?_)
          · have hb : s.testBit q = false := by rw [← btI_n (by omega)]; exact c34
            have he : reA al (wyT (kNt k) al) (loN s) (s ^^^ 2 ^ loN s) q = reA al (wyT (kNt k) al) (loN s) (s ^^^ 2 ^ loN s) (q + 1) := by rw [reA, if_neg (fun z => by rw [tb_x s (by omega) h0 q (by omega) hlo, hb] at z; cases z.2.1)]
            rw [he]
            refine g_iinc (v := nI (q + 1)) (lv' := [(5, .int (nI (q + 1))), (0, .ref (ay 0)), (1, .int (nI s)), (2, .int (bI (bs))), (3, .int (nI (loN s))), (4, .int (reA al (wyT (kNt k) al) (loN s) (s ^^^ 2 ^ loN s) (q + 1)))]) (pc := 70) X dX4_waysFor_70 5 rfl (nI_1 q) rfl rfl ?_
            refine g_goto (pc := 73) (tgt := 19) X dX4_waysFor_73 (by decide) ?_
            refine g_lv X (lv' := [(0, .ref (ay 0)), (1, .int (nI s)), (2, .int (bI (bs))), (3, .int (nI (loN s))), (4, .int (reA al (wyT (kNt k) al) (loN s) (s ^^^ 2 ^ loN s) (q + 1))), (5, .int (nI (q + 1)))]) [1, 2, 3, 4, 5, 0] rfl ?_
            exact ih19 (q + 1) c25 (by omega) (by omega)
          · have hb : s.testBit q = true := by rw [← btI_n (by omega)]; exact c34
            refine g_aload_n (pc := 37) X dX4_waysFor_37 0 rfl ?_
            refine g_iload_n (pc := 38) X dX4_waysFor_38 3 rfl ?_
            refine g_iload (pc := 39) X dX4_waysFor_39 5 rfl ?_
            refine g_iload_n (pc := 41) X dX4_waysFor_41 2 rfl ?_
            refine g_callV (pc := 42) (rest := []) (ss' := [wM cy ay k v]) X (c_X4_mayBe l D cy ay k v (loN s) q bs (by omega) (by omega) (by first | assumption | omega)) vl_X4_168 dX4_waysFor_42 [0] 0 0 rfl rfl rfl rfl rfl rfl rfl rfl rfl rfl rfl rfl rfl ⟨Nat.zero_le _, Nat.zero_le _⟩ ?_
            refine g_bif_eq (pc := 45) (tgt := 70) X dX4_waysFor_45 (by decide) (fun c45 => ?_) (fun c45 => ?_)
            · have hm9 := (ha (loN s) q hlo c25).symm.trans c45
              have he : reA al (wyT (kNt k) al) (loN s) (s ^^^ 2 ^ loN s) q = reA al (wyT (kNt k) al) (loN s) (s ^^^ 2 ^ loN s) (q + 1) := by rw [reA, if_neg (fun z => by rw [hm9] at z; cases z.2.2)]
              rw [he]
              refine g_iinc (v := nI (q + 1)) (lv' := [(5, .int (nI (q + 1))), (0, .ref (ay 0)), (1, .int (nI s)), (2, .int (bI (bs))), (3, .int (nI (loN s))), (4, .int (reA al (wyT (kNt k) al) (loN s) (s ^^^ 2 ^ loN s) (q + 1)))]) (pc := 70) X dX4_waysFor_70 5 rfl (nI_1 q) rfl rfl ?_
              refine g_goto (pc := 73) (tgt := 19) X dX4_waysFor_73 (by decide) ?_
              refine g_lv X (lv' := [(0, .ref (ay 0)), (1, .int (nI s)), (2, .int (bI (bs))), (3, .int (nI (loN s))), (4, .int (reA al (wyT (kNt k) al) (loN s) (s ^^^ 2 ^ loN s) (q + 1))), (5, .int (nI (q + 1)))]) [1, 2, 3, 4, 5, 0] rfl ?_
              exact ih19 (q + 1) c25 (by omega) (by omega)
            · have hm9 := (ha (loN s) q hlo c25).symm.trans c45
              refine g_iload (pc := 48) X dX4_waysFor_48 4 rfl ?_
              refine g_aload_n (pc := 50) X dX4_waysFor_50 0 rfl ?_
              refine g_iload_n (pc := 51) X dX4_waysFor_51 1 rfl ?_
              refine g_iconst (v := 1) (pc := 52) X dX4_waysFor_52 (by decide) ?_
              refine g_iload_n (pc := 53) X dX4_waysFor_53 3 rfl ?_
              refine g_ishl (v := shl 1 (nI (loN s))) (pc := 54) X dX4_waysFor_54 rfl ?_
              refine g_iconst (v := 1) (pc := 55) X dX4_waysFor_55 (by decide) ?_
              refine g_iload (pc := 56) X dX4_waysFor_56 5 rfl ?_
              refine g_ishl (v := shl 1 (nI q)) (pc := 58) X dX4_waysFor_58 rfl ?_
              refine g_ior (v := (shl 1 (nI (loN s))) ||| (shl 1 (nI q))) (pc := 59) X dX4_waysFor_59 rfl ?_
              refine g_iconst (v := (-1)) (pc := 60) X dX4_waysFor_60 (by decide) ?_
              refine g_ixor (v := ((shl 1 (nI (loN s))) ||| (shl 1 (nI q))) ^^^ ((-1))) (pc := 61) X dX4_waysFor_61 rfl ?_
              refine g_iand (v := nI ((s ^^^ 2 ^ loN s) ^^^ 2 ^ q)) (pc := 62) X dX4_waysFor_62 (wf_left (by omega) h0 (by omega) hlo hb) ?_
              refine g_iload_n (pc := 63) X dX4_waysFor_63 2 rfl ?_
              refine g_callV (pc := 64) (rest := [.int (reA al (wyT (kNt k) al) (loN s) (s ^^^ 2 ^ loN s) q)]) (ss' := [wM cy ay k v]) X (c_X4_waysFor_0 l D cy ay k v ((s ^^^ 2 ^ loN s) ^^^ 2 ^ q) bs al (by first | assumption | omega) (by first | assumption | omega) (xor_lt hx c25) (by have := pc_s s (by omega) h0 q (by omega) hlo hb; omega) ha) vl_X4_172 dX4_waysFor_64 [0] 0 0 rfl rfl rfl rfl rfl rfl rfl rfl rfl rfl rfl rfl rfl ⟨Nat.zero_le _, Nat.zero_le _⟩ ?_
              refine g_iadd (v := reA al (wyT (kNt k) al) (loN s) (s ^^^ 2 ^ loN s) (q + 1)) (pc := 67) X dX4_waysFor_67 (by rw [reA, if_pos ⟨hlo, (tb_x s (by omega) h0 q (by omega) hlo).trans hb, hm9⟩]) ?_
              refine g_istore (lv' := [(4, .int (reA al (wyT (kNt k) al) (loN s) (s ^^^ 2 ^ loN s) (q + 1))), (0, .ref (ay 0)), (1, .int (nI s)), (2, .int (bI (bs))), (3, .int (nI (loN s))), (5, .int (nI q))]) (pc := 68) X dX4_waysFor_68 rfl rfl ?_
              refine g_iinc (v := nI (q + 1)) (lv' := [(5, .int (nI (q + 1))), (4, .int (reA al (wyT (kNt k) al) (loN s) (s ^^^ 2 ^ loN s) (q + 1))), (0, .ref (ay 0)), (1, .int (nI s)), (2, .int (bI (bs))), (3, .int (nI (loN s)))]) (pc := 70) X dX4_waysFor_70 5 rfl (nI_1 q) rfl rfl ?_
              refine g_goto (pc := 73) (tgt := 19) X dX4_waysFor_73 (by decide) ?_
              refine g_lv X (lv' := [(0, .ref (ay 0)), (1, .int (nI s)), (2, .int (bI (bs))), (3, .int (nI (loN s))), (4, .int (reA al (wyT (kNt k) al) (loN s) (s ^^^ 2 ^ loN s) (q + 1))), (5, .int (nI (q + 1)))]) [2, 3, 4, 5, 1, 0] rfl ?_
              exact ih19 (q + 1) c25 (by omega) (by omega)
    refine g_lv X (lv' := [(0, .ref (ay 0)), (1, .int (nI s)), (2, .int (bI (bs))), (3, .int (nI (loN s))), (4, .int (reA al (wyT (kNt k) al) (loN s) (s ^^^ 2 ^ loN s) (loN s + 1))), (5, .int (nI (loN s + 1)))]) [3, 4, 5, 2, 1, 0] rfl ?_
    exact L19_1 (9 - (loN s + 1) + 1) (loN s + 1) hl (Nat.lt_succ_self _) (Nat.lt_succ_self _)
  · refine g_iconst (v := 1) (pc := 4) X dX4_waysFor_4 (by decide) ?_
    exact g_iret (pc := 5) X rfl dX4_waysFor_5 rfl (by rw [c1, wy_0]) rfl
set_option maxRecDepth 100000 in
set_option maxHeartbeats 4000000 in
theorem c_X4_waysFor_2 (l : Launch) (D : va_G) (cy : ClassId) (ay : Nat → Nat) (k : KV) (v : MV) (s : Nat) (bs : Bool) (al : Nat → Int32) (h8 : kNt k ≤ 8) (hsz : kNs k ≤ 8) (hs : s < 2 ^ kNt k) (hd : pcN s ≤ 4) (ha : ∀ p q, p < q → q < kNt k → myF k (mSn v) bs p q = bt (al p) q) : CtI l yX4_waysFor cX4_waysFor 6 .int 4 159 D cy [.ref (ay 0), .int (nI s), .int (bI (bs))] [wM cy ay k v] [wM cy ay k v] (wyT (kNt k) al s) := by
  have hM : 2 ^ kNt k ≤ 256 := Nat.pow_le_pow_right (n := 2) (by omega) h8
  refine ctI_of (by decide +kernel) (Nat.le_of_ble_eq_true rfl) (fun p_ e_ s_ m_ args_ below_ meth_ c_ A_ X => ?_)
  refine g_lv X (lv' := [(0, .ref (ay 0)), (1, .int (nI s)), (2, .int (bI (bs)))]) [0, 1, 2] rfl ?_
  refine g_iload_n (pc := 0) X dX4_waysFor_0 1 rfl ?_
  refine g_nif_ne (pc := 1) (tgt := 6) X dX4_waysFor_1 (by decide) s rfl (by omega) (fun c1 => ?_) (fun c1 => ?_)
  · refine g_iload_n (pc := 6) X dX4_waysFor_6 1 rfl ?_
    refine g_callS (pc := 7) (rest := []) X (c_J6_numberOfTrailingZeros_0f7a4 l D cy (nI s) ) sl_X4_165 dX4_waysFor_7 rfl rfl rfl rfl rfl ⟨Nat.zero_le _, Nat.zero_le _⟩ ?_
    have h0 : 0 < s := Nat.pos_of_ne_zero c1
    have hl : loN s < kNt k := lo_lt h8 hs h0
    have hx : s ^^^ 2 ^ loN s < 2 ^ kNt k := xor_lt hs hl
    refine g_top X (nt_n s (by omega) h0) ?_
    refine g_istore_n (lv' := [(3, .int (nI (loN s))), (0, .ref (ay 0)), (1, .int (nI s)), (2, .int (bI (bs)))]) (pc := 10) X dX4_waysFor_10 rfl rfl rfl ?_
    refine g_iconst (v := 0) (pc := 11) X dX4_waysFor_11 (by decide) ?_
    refine g_istore (lv' := [(4, .int (0)), (3, .int (nI (loN s))), (0, .ref (ay 0)), (1, .int (nI s)), (2, .int (bI (bs)))]) (pc := 12) X dX4_waysFor_12 rfl rfl ?_
    refine g_iload_n (pc := 14) X dX4_waysFor_14 1 rfl ?_
    refine g_iconst (v := 1) (pc := 15) X dX4_waysFor_15 (by decide) ?_
    refine g_iadd (v := nI (loN s + 1)) (pc := 16) X dX4_waysFor_16 (nI_add (loN s) 1) ?_
    refine g_istore (lv' := [(5, .int (nI (loN s + 1))), (4, .int (0)), (3, .int (nI (loN s))), (0, .ref (ay 0)), (1, .int (nI s)), (2, .int (bI (bs)))]) (pc := 17) X dX4_waysFor_17 rfl rfl ?_
    refine g_lvv X (lv' := [(5, .int (nI (loN s + 1))), (4, .int (reA al (wyT (kNt k) al) (loN s) (s ^^^ 2 ^ loN s) (loN s + 1))), (3, .int (nI (loN s))), (0, .ref (ay 0)), (1, .int (nI s)), (2, .int (bI (bs)))]) (by rw [reA_0 _ _ _ _ _ (Nat.le_refl _)]) ?_
    have L19_1 : ∀ (fu_ : Nat) (q : Nat) (hq : q ≤ kNt k) (hlo : loN s < q) (hm : 9 - q < fu_), G p_ l e_ { frames := 4, cells := 0, slots := 0, locals := 159 } s_ m_ args_ below_ meth_ c_ 6 D A_ 0 0 (QI below_ args_ s_ D A_ [wM cy ay k v] (wyT (kNt k) al s)) [wM cy ay k v] 19 [(0, .ref (ay 0)), (1, .int (nI s)), (2, .int (bI (bs))), (3, .int (nI (loN s))), (4, .int (reA al (wyT (kNt k) al) (loN s) (s ^^^ 2 ^ loN s) q)), (5, .int (nI q))] [] := by
      intro fu_
      induction fu_ with
      | zero => intro q hq hlo hm; exact absurd hm (Nat.not_lt_zero _)
      | succ fu_ ih =>
        intro q hq hlo hm
        have ih19 := ih
        clear ih
        refine g_iload (pc := 19) X dX4_waysFor_19 5 rfl ?_
        refine g_aload_n (pc := 21) X dX4_waysFor_21 0 rfl ?_
        refine g_get (pc := 22) X (v := .int (nI (kNt k))) fl_X4_52 dX4_waysFor_22 0 0 rfl rfl rfl ?_
        refine g_ncmp_ge (pc := 25) (tgt := 76) X dX4_waysFor_25 (by decide) q (kNt k) rfl rfl (by omega) (by omega) (fun c25 => ?_) (fun c25 => ?_)
        · have n25 := Nat.not_lt.mpr c25
          refine g_iload (pc := 76) X dX4_waysFor_76 4 rfl ?_
          exact g_iret (pc := 78) X rfl dX4_waysFor_78 rfl (by rw [wy_s h8 h0 hs, show q = kNt k by omega]) rfl
        · refine g_iload_n (pc := 28) X dX4_waysFor_28 1 rfl ?_
          refine g_iload (pc := 29) X dX4_waysFor_29 5 rfl ?_
          refine g_callS (pc := 31) (rest := []) X (c_X4_has l D cy (nI s) (nI q) ) sl_X4_129 dX4_waysFor_31 rfl rfl rfl rfl rfl ⟨Nat.zero_le _, Nat.zero_le _⟩ ?_
          refine g_bif_eq (pc := 34) (tgt := 70) X dX4_waysFor_34 (by decide) (fun c34 => ?_) (fun c34 => ?_)
          · have hb : s.testBit q = false := by rw [← btI_n (by omega)]; exact c34
            have he : reA al (wyT (kNt k) al) (loN s) (s ^^^ 2 ^ loN s) q = reA al (wyT (kNt k) al) (loN s) (s ^^^ 2 ^ loN s) (q + 1) := by rw [reA, if_neg (fun z => by rw [tb_x s (by omega) h0 q (by omega) hlo, hb] at z; cases z.2.1)]
            rw [he]
            refine g_iinc (v := nI (q + 1)) (lv' := [(5, .int (nI (q + 1))), (0, .ref (ay 0)), (1, .int (nI s)), (2, .int (bI (bs))), (3, .int (nI (loN s))), (4, .int (reA al (wyT (kNt k) al) (loN s) (s ^^^ 2 ^ loN s) (q + 1)))]) (pc := 70) X dX4_waysFor_70 5 rfl (nI_1 q) rfl rfl ?_
            refine g_goto (pc := 73) (tgt := 19) X dX4_waysFor_73 (by decide) ?_
            refine g_lv X (lv' := [(0, .ref (ay 0)), (1, .int (nI s)), (2, .int (bI (bs))), (3, .int (nI (loN s))), (4, .int (reA al (wyT (kNt k) al) (loN s) (s ^^^ 2 ^ loN s) (q + 1))), (5, .int (nI (q + 1)))]) [1, 2, 3, 4, 5, 0] rfl ?_
            exact ih19 (q + 1) c25 (by omega) (by omega)
          · have hb : s.testBit q = true := by rw [← btI_n (by omega)]; exact c34
            refine g_aload_n (pc := 37) X dX4_waysFor_37 0 rfl ?_
            refine g_iload_n (pc := 38) X dX4_waysFor_38 3 rfl ?_
            refine g_iload (pc := 39) X dX4_waysFor_39 5 rfl ?_
            refine g_iload_n (pc := 41) X dX4_waysFor_41 2 rfl ?_
            refine g_callV (pc := 42) (rest := []) (ss' := [wM cy ay k v]) X (c_X4_mayBe l D cy ay k v (loN s) q bs (by omega) (by omega) (by first | assumption | omega)) vl_X4_168 dX4_waysFor_42 [0] 0 0 rfl rfl rfl rfl rfl rfl rfl rfl rfl rfl rfl rfl rfl ⟨Nat.zero_le _, Nat.zero_le _⟩ ?_
            refine g_bif_eq (pc := 45) (tgt := 70) X dX4_waysFor_45 (by decide) (fun c45 => ?_) (fun c45 => ?_)
            · have hm9 := (ha (loN s) q hlo c25).symm.trans c45
              have he : reA al (wyT (kNt k) al) (loN s) (s ^^^ 2 ^ loN s) q = reA al (wyT (kNt k) al) (loN s) (s ^^^ 2 ^ loN s) (q + 1) := by rw [reA, if_neg (fun z => by rw [hm9] at z; cases z.2.2)]
              rw [he]
              refine g_iinc (v := nI (q + 1)) (lv' := [(5, .int (nI (q + 1))), (0, .ref (ay 0)), (1, .int (nI s)), (2, .int (bI (bs))), (3, .int (nI (loN s))), (4, .int (reA al (wyT (kNt k) al) (loN s) (s ^^^ 2 ^ loN s) (q + 1)))]) (pc := 70) X dX4_waysFor_70 5 rfl (nI_1 q) rfl rfl ?_
              refine g_goto (pc := 73) (tgt := 19) X dX4_waysFor_73 (by decide) ?_
              refine g_lv X (lv' := [(0, .ref (ay 0)), (1, .int (nI s)), (2, .int (bI (bs))), (3, .int (nI (loN s))), (4, .int (reA al (wyT (kNt k) al) (loN s) (s ^^^ 2 ^ loN s) (q + 1))), (5, .int (nI (q + 1)))]) [1, 2, 3, 4, 5, 0] rfl ?_
              exact ih19 (q + 1) c25 (by omega) (by omega)
            · have hm9 := (ha (loN s) q hlo c25).symm.trans c45
              refine g_iload (pc := 48) X dX4_waysFor_48 4 rfl ?_
              refine g_aload_n (pc := 50) X dX4_waysFor_50 0 rfl ?_
              refine g_iload_n (pc := 51) X dX4_waysFor_51 1 rfl ?_
              refine g_iconst (v := 1) (pc := 52) X dX4_waysFor_52 (by decide) ?_
              refine g_iload_n (pc := 53) X dX4_waysFor_53 3 rfl ?_
              refine g_ishl (v := shl 1 (nI (loN s))) (pc := 54) X dX4_waysFor_54 rfl ?_
              refine g_iconst (v := 1) (pc := 55) X dX4_waysFor_55 (by decide) ?_
              refine g_iload (pc := 56) X dX4_waysFor_56 5 rfl ?_
              refine g_ishl (v := shl 1 (nI q)) (pc := 58) X dX4_waysFor_58 rfl ?_
              refine g_ior (v := (shl 1 (nI (loN s))) ||| (shl 1 (nI q))) (pc := 59) X dX4_waysFor_59 rfl ?_
              refine g_iconst (v := (-1)) (pc := 60) X dX4_waysFor_60 (by decide) ?_
              refine g_ixor (v := ((shl 1 (nI (loN s))) ||| (shl 1 (nI q))) ^^^ ((-1))) (pc := 61) X dX4_waysFor_61 rfl ?_
              refine g_iand (v := nI ((s ^^^ 2 ^ loN s) ^^^ 2 ^ q)) (pc := 62) X dX4_waysFor_62 (wf_left (by omega) h0 (by omega) hlo hb) ?_
              refine g_iload_n (pc := 63) X dX4_waysFor_63 2 rfl ?_
              refine g_callV (pc := 64) (rest := [.int (reA al (wyT (kNt k) al) (loN s) (s ^^^ 2 ^ loN s) q)]) (ss' := [wM cy ay k v]) X (c_X4_waysFor_1 l D cy ay k v ((s ^^^ 2 ^ loN s) ^^^ 2 ^ q) bs al (by first | assumption | omega) (by first | assumption | omega) (xor_lt hx c25) (by have := pc_s s (by omega) h0 q (by omega) hlo hb; omega) ha) vl_X4_172 dX4_waysFor_64 [0] 0 0 rfl rfl rfl rfl rfl rfl rfl rfl rfl rfl rfl rfl rfl ⟨Nat.zero_le _, Nat.zero_le _⟩ ?_
              refine g_iadd (v := reA al (wyT (kNt k) al) (loN s) (s ^^^ 2 ^ loN s) (q + 1)) (pc := 67) X dX4_waysFor_67 (by rw [reA, if_pos ⟨hlo, (tb_x s (by omega) h0 q (by omega) hlo).trans hb, hm9⟩]) ?_
              refine g_istore (lv' := [(4, .int (reA al (wyT (kNt k) al) (loN s) (s ^^^ 2 ^ loN s) (q + 1))), (0, .ref (ay 0)), (1, .int (nI s)), (2, .int (bI (bs))), (3, .int (nI (loN s))), (5, .int (nI q))]) (pc := 68) X dX4_waysFor_68 rfl rfl ?_
              refine g_iinc (v := nI (q + 1)) (lv' := [(5, .int (nI (q + 1))), (4, .int (reA al (wyT (kNt k) al) (loN s) (s ^^^ 2 ^ loN s) (q + 1))), (0, .ref (ay 0)), (1, .int (nI s)), (2, .int (bI (bs))), (3, .int (nI (loN s)))]) (pc := 70) X dX4_waysFor_70 5 rfl (nI_1 q) rfl rfl ?_
              refine g_goto (pc := 73) (tgt := 19) X dX4_waysFor_73 (by decide) ?_
              refine g_lv X (lv' := [(0, .ref (ay 0)), (1, .int (nI s)), (2, .int (bI (bs))), (3, .int (nI (loN s))), (4, .int (reA al (wyT (kNt k) al) (loN s) (s ^^^ 2 ^ loN s) (q + 1))), (5, .int (nI (q + 1)))]) [2, 3, 4, 5, 1, 0] rfl ?_
              exact ih19 (q + 1) c25 (by omega) (by omega)
    refine g_lv X (lv' := [(0, .ref (ay 0)), (1, .int (nI s)), (2, .int (bI (bs))), (3, .int (nI (loN s))), (4, .int (reA al (wyT (kNt k) al) (loN s) (s ^^^ 2 ^ loN s) (loN s + 1))), (5, .int (nI (loN s + 1)))]) [3, 4, 5, 2, 1, 0] rfl ?_
    exact L19_1 (9 - (loN s + 1) + 1) (loN s + 1) hl (Nat.lt_succ_self _) (Nat.lt_succ_self _)
  · refine g_iconst (v := 1) (pc := 4) X dX4_waysFor_4 (by decide) ?_
    exact g_iret (pc := 5) X rfl dX4_waysFor_5 rfl (by rw [c1, wy_0]) rfl
set_option maxRecDepth 100000 in
set_option maxHeartbeats 4000000 in
theorem c_X4_waysFor_3 (l : Launch) (D : va_G) (cy : ClassId) (ay : Nat → Nat) (k : KV) (v : MV) (s : Nat) (bs : Bool) (al : Nat → Int32) (h8 : kNt k ≤ 8) (hsz : kNs k ≤ 8) (hs : s < 2 ^ kNt k) (hd : pcN s ≤ 6) (ha : ∀ p q, p < q → q < kNt k → myF k (mSn v) bs p q = bt (al p) q) : CtI l yX4_waysFor cX4_waysFor 6 .int 5 184 D cy [.ref (ay 0), .int (nI s), .int (bI (bs))] [wM cy ay k v] [wM cy ay k v] (wyT (kNt k) al s) := by
  have hM : 2 ^ kNt k ≤ 256 := Nat.pow_le_pow_right (n := 2) (by omega) h8
  refine ctI_of (by decide +kernel) (Nat.le_of_ble_eq_true rfl) (fun p_ e_ s_ m_ args_ below_ meth_ c_ A_ X => ?_)
  refine g_lv X (lv' := [(0, .ref (ay 0)), (1, .int (nI s)), (2, .int (bI (bs)))]) [0, 1, 2] rfl ?_
  refine g_iload_n (pc := 0) X dX4_waysFor_0 1 rfl ?_
  refine g_nif_ne (pc := 1) (tgt := 6) X dX4_waysFor_1 (by decide) s rfl (by omega) (fun c1 => ?_) (fun c1 => ?_)
  · refine g_iload_n (pc := 6) X dX4_waysFor_6 1 rfl ?_
    refine g_callS (pc := 7) (rest := []) X (c_J6_numberOfTrailingZeros_0f7a4 l D cy (nI s) ) sl_X4_165 dX4_waysFor_7 rfl rfl rfl rfl rfl ⟨Nat.zero_le _, Nat.zero_le _⟩ ?_
    have h0 : 0 < s := Nat.pos_of_ne_zero c1
    have hl : loN s < kNt k := lo_lt h8 hs h0
    have hx : s ^^^ 2 ^ loN s < 2 ^ kNt k := xor_lt hs hl
    refine g_top X (nt_n s (by omega) h0) ?_
    refine g_istore_n (lv' := [(3, .int (nI (loN s))), (0, .ref (ay 0)), (1, .int (nI s)), (2, .int (bI (bs)))]) (pc := 10) X dX4_waysFor_10 rfl rfl rfl ?_
    refine g_iconst (v := 0) (pc := 11) X dX4_waysFor_11 (by decide) ?_
    refine g_istore (lv' := [(4, .int (0)), (3, .int (nI (loN s))), (0, .ref (ay 0)), (1, .int (nI s)), (2, .int (bI (bs)))]) (pc := 12) X dX4_waysFor_12 rfl rfl ?_
    refine g_iload_n (pc := 14) X dX4_waysFor_14 1 rfl ?_
    refine g_iconst (v := 1) (pc := 15) X dX4_waysFor_15 (by decide) ?_
    refine g_iadd (v := nI (loN s + 1)) (pc := 16) X dX4_waysFor_16 (nI_add (loN s) 1) ?_
    refine g_istore (lv' := [(5, .int (nI (loN s + 1))), (4, .int (0)), (3, .int (nI (loN s))), (0, .ref (ay 0)), (1, .int (nI s)), (2, .int (bI (bs)))]) (pc := 17) X dX4_waysFor_17 rfl rfl ?_
    refine g_lvv X (lv' := [(5, .int (nI (loN s + 1))), (4, .int (reA al (wyT (kNt k) al) (loN s) (s ^^^ 2 ^ loN s) (loN s + 1))), (3, .int (nI (loN s))), (0, .ref (ay 0)), (1, .int (nI s)), (2, .int (bI (bs)))]) (by rw [reA_0 _ _ _ _ _ (Nat.le_refl _)]) ?_
    have L19_1 : ∀ (fu_ : Nat) (q : Nat) (hq : q ≤ kNt k) (hlo : loN s < q) (hm : 9 - q < fu_), G p_ l e_ { frames := 5, cells := 0, slots := 0, locals := 184 } s_ m_ args_ below_ meth_ c_ 6 D A_ 0 0 (QI below_ args_ s_ D A_ [wM cy ay k v] (wyT (kNt k) al s)) [wM cy ay k v] 19 [(0, .ref (ay 0)), (1, .int (nI s)), (2, .int (bI (bs))), (3, .int (nI (loN s))), (4, .int (reA al (wyT (kNt k) al) (loN s) (s ^^^ 2 ^ loN s) q)), (5, .int (nI q))] [] := by
      intro fu_
      induction fu_ with
      | zero => intro q hq hlo hm; exact absurd hm (Nat.not_lt_zero _)
      | succ fu_ ih =>
        intro q hq hlo hm
        have ih19 := ih
        clear ih
        refine g_iload (pc := 19) X dX4_waysFor_19 5 rfl ?_
        refine g_aload_n (pc := 21) X dX4_waysFor_21 0 rfl ?_
        refine g_get (pc := 22) X (v := .int (nI (kNt k))) fl_X4_52 dX4_waysFor_22 0 0 rfl rfl rfl ?_
        refine g_ncmp_ge (pc := 25) (tgt := 76) X dX4_waysFor_25 (by decide) q (kNt k) rfl rfl (by omega) (by omega) (fun c25 => ?_) (fun c25 => ?_)
        · have n25 := Nat.not_lt.mpr c25
          refine g_iload (pc := 76) X dX4_waysFor_76 4 rfl ?_
          exact g_iret (pc := 78) X rfl dX4_waysFor_78 rfl (by rw [wy_s h8 h0 hs, show q = kNt k by omega]) rfl
        · refine g_iload_n (pc := 28) X dX4_waysFor_28 1 rfl ?_
          refine g_iload (pc := 29) X dX4_waysFor_29 5 rfl ?_
          refine g_callS (pc := 31) (rest := []) X (c_X4_has l D cy (nI s) (nI q) ) sl_X4_129 dX4_waysFor_31 rfl rfl rfl rfl rfl ⟨Nat.zero_le _, Nat.zero_le _⟩ ?_
          refine g_bif_eq (pc := 34) (tgt := 70) X dX4_waysFor_34 (by decide) (fun c34 => ?_) (fun c34 => ?_)
          · have hb : s.testBit q = false := by rw [← btI_n (by omega)]; exact c34
            have he : reA al (wyT (kNt k) al) (loN s) (s ^^^ 2 ^ loN s) q = reA al (wyT (kNt k) al) (loN s) (s ^^^ 2 ^ loN s) (q + 1) := by rw [reA, if_neg (fun z => by rw [tb_x s (by omega) h0 q (by omega) hlo, hb] at z; cases z.2.1)]
            rw [he]
            refine g_iinc (v := nI (q + 1)) (lv' := [(5, .int (nI (q + 1))), (0, .ref (ay 0)), (1, .int (nI s)), (2, .int (bI (bs))), (3, .int (nI (loN s))), (4, .int (reA al (wyT (kNt k) al) (loN s) (s ^^^ 2 ^ loN s) (q + 1)))]) (pc := 70) X dX4_waysFor_70 5 rfl (nI_1 q) rfl rfl ?_
            refine g_goto (pc := 73) (tgt := 19) X dX4_waysFor_73 (by decide) ?_
            refine g_lv X (lv' := [(0, .ref (ay 0)), (1, .int (nI s)), (2, .int (bI (bs))), (3, .int (nI (loN s))), (4, .int (reA al (wyT (kNt k) al) (loN s) (s ^^^ 2 ^ loN s) (q + 1))), (5, .int (nI (q + 1)))]) [1, 2, 3, 4, 5, 0] rfl ?_
            exact ih19 (q + 1) c25 (by omega) (by omega)
          · have hb : s.testBit q = true := by rw [← btI_n (by omega)]; exact c34
            refine g_aload_n (pc := 37) X dX4_waysFor_37 0 rfl ?_
            refine g_iload_n (pc := 38) X dX4_waysFor_38 3 rfl ?_
            refine g_iload (pc := 39) X dX4_waysFor_39 5 rfl ?_
            refine g_iload_n (pc := 41) X dX4_waysFor_41 2 rfl ?_
            refine g_callV (pc := 42) (rest := []) (ss' := [wM cy ay k v]) X (c_X4_mayBe l D cy ay k v (loN s) q bs (by omega) (by omega) (by first | assumption | omega)) vl_X4_168 dX4_waysFor_42 [0] 0 0 rfl rfl rfl rfl rfl rfl rfl rfl rfl rfl rfl rfl rfl ⟨Nat.zero_le _, Nat.zero_le _⟩ ?_
            refine g_bif_eq (pc := 45) (tgt := 70) X dX4_waysFor_45 (by decide) (fun c45 => ?_) (fun c45 => ?_)
            · have hm9 := (ha (loN s) q hlo c25).symm.trans c45
              have he : reA al (wyT (kNt k) al) (loN s) (s ^^^ 2 ^ loN s) q = reA al (wyT (kNt k) al) (loN s) (s ^^^ 2 ^ loN s) (q + 1) := by rw [reA, if_neg (fun z => by rw [hm9] at z; cases z.2.2)]
              rw [he]
              refine g_iinc (v := nI (q + 1)) (lv' := [(5, .int (nI (q + 1))), (0, .ref (ay 0)), (1, .int (nI s)), (2, .int (bI (bs))), (3, .int (nI (loN s))), (4, .int (reA al (wyT (kNt k) al) (loN s) (s ^^^ 2 ^ loN s) (q + 1)))]) (pc := 70) X dX4_waysFor_70 5 rfl (nI_1 q) rfl rfl ?_
              refine g_goto (pc := 73) (tgt := 19) X dX4_waysFor_73 (by decide) ?_
              refine g_lv X (lv' := [(0, .ref (ay 0)), (1, .int (nI s)), (2, .int (bI (bs))), (3, .int (nI (loN s))), (4, .int (reA al (wyT (kNt k) al) (loN s) (s ^^^ 2 ^ loN s) (q + 1))), (5, .int (nI (q + 1)))]) [1, 2, 3, 4, 5, 0] rfl ?_
              exact ih19 (q + 1) c25 (by omega) (by omega)
            · have hm9 := (ha (loN s) q hlo c25).symm.trans c45
              refine g_iload (pc := 48) X dX4_waysFor_48 4 rfl ?_
              refine g_aload_n (pc := 50) X dX4_waysFor_50 0 rfl ?_
              refine g_iload_n (pc := 51) X dX4_waysFor_51 1 rfl ?_
              refine g_iconst (v := 1) (pc := 52) X dX4_waysFor_52 (by decide) ?_
              refine g_iload_n (pc := 53) X dX4_waysFor_53 3 rfl ?_
              refine g_ishl (v := shl 1 (nI (loN s))) (pc := 54) X dX4_waysFor_54 rfl ?_
              refine g_iconst (v := 1) (pc := 55) X dX4_waysFor_55 (by decide) ?_
              refine g_iload (pc := 56) X dX4_waysFor_56 5 rfl ?_
              refine g_ishl (v := shl 1 (nI q)) (pc := 58) X dX4_waysFor_58 rfl ?_
              refine g_ior (v := (shl 1 (nI (loN s))) ||| (shl 1 (nI q))) (pc := 59) X dX4_waysFor_59 rfl ?_
              refine g_iconst (v := (-1)) (pc := 60) X dX4_waysFor_60 (by decide) ?_
              refine g_ixor (v := ((shl 1 (nI (loN s))) ||| (shl 1 (nI q))) ^^^ ((-1))) (pc := 61) X dX4_waysFor_61 rfl ?_
              refine g_iand (v := nI ((s ^^^ 2 ^ loN s) ^^^ 2 ^ q)) (pc := 62) X dX4_waysFor_62 (wf_left (by omega) h0 (by omega) hlo hb) ?_
              refine g_iload_n (pc := 63) X dX4_waysFor_63 2 rfl ?_
              refine g_callV (pc := 64) (rest := [.int (reA al (wyT (kNt k) al) (loN s) (s ^^^ 2 ^ loN s) q)]) (ss' := [wM cy ay k v]) X (c_X4_waysFor_2 l D cy ay k v ((s ^^^ 2 ^ loN s) ^^^ 2 ^ q) bs al (by first | assumption | omega) (by first | assumption | omega) (xor_lt hx c25) (by have := pc_s s (by omega) h0 q (by omega) hlo hb; omega) ha) vl_X4_172 dX4_waysFor_64 [0] 0 0 rfl rfl rfl rfl rfl rfl rfl rfl rfl rfl rfl rfl rfl ⟨Nat.zero_le _, Nat.zero_le _⟩ ?_
              refine g_iadd (v := reA al (wyT (kNt k) al) (loN s) (s ^^^ 2 ^ loN s) (q + 1)) (pc := 67) X dX4_waysFor_67 (by rw [reA, if_pos ⟨hlo, (tb_x s (by omega) h0 q (by omega) hlo).trans hb, hm9⟩]) ?_
              refine g_istore (lv' := [(4, .int (reA al (wyT (kNt k) al) (loN s) (s ^^^ 2 ^ loN s) (q + 1))), (0, .ref (ay 0)), (1, .int (nI s)), (2, .int (bI (bs))), (3, .int (nI (loN s))), (5, .int (nI q))]) (pc := 68) X dX4_waysFor_68 rfl rfl ?_
              refine g_iinc (v := nI (q + 1)) (lv' := [(5, .int (nI (q + 1))), (4, .int (reA al (wyT (kNt k) al) (loN s) (s ^^^ 2 ^ loN s) (q + 1))), (0, .ref (ay 0)), (1, .int (nI s)), (2, .int (bI (bs))), (3, .int (nI (loN s)))]) (pc := 70) X dX4_waysFor_70 5 rfl (nI_1 q) rfl rfl ?_
              refine g_goto (pc := 73) (tgt := 19) X dX4_waysFor_73 (by decide) ?_
              refine g_lv X (lv' := [(0, .ref (ay 0)), (1, .int (nI s)), (2, .int (bI (bs))), (3, .int (nI (loN s))), (4, .int (reA al (wyT (kNt k) al) (loN s) (s ^^^ 2 ^ loN s) (q + 1))), (5, .int (nI (q + 1)))]) [2, 3, 4, 5, 1, 0] rfl ?_
              exact ih19 (q + 1) c25 (by omega) (by omega)
    refine g_lv X (lv' := [(0, .ref (ay 0)), (1, .int (nI s)), (2, .int (bI (bs))), (3, .int (nI (loN s))), (4, .int (reA al (wyT (kNt k) al) (loN s) (s ^^^ 2 ^ loN s) (loN s + 1))), (5, .int (nI (loN s + 1)))]) [3, 4, 5, 2, 1, 0] rfl ?_
    exact L19_1 (9 - (loN s + 1) + 1) (loN s + 1) hl (Nat.lt_succ_self _) (Nat.lt_succ_self _)
  · refine g_iconst (v := 1) (pc := 4) X dX4_waysFor_4 (by decide) ?_
    exact g_iret (pc := 5) X rfl dX4_waysFor_5 rfl (by rw [c1, wy_0]) rfl
set_option maxRecDepth 100000 in
set_option maxHeartbeats 4000000 in
theorem c_X4_waysFor_4 (l : Launch) (D : va_G) (cy : ClassId) (ay : Nat → Nat) (k : KV) (v : MV) (s : Nat) (bs : Bool) (al : Nat → Int32) (h8 : kNt k ≤ 8) (hsz : kNs k ≤ 8) (hs : s < 2 ^ kNt k) (hd : pcN s ≤ 8) (ha : ∀ p q, p < q → q < kNt k → myF k (mSn v) bs p q = bt (al p) q) : CtI l yX4_waysFor cX4_waysFor 6 .int 6 209 D cy [.ref (ay 0), .int (nI s), .int (bI (bs))] [wM cy ay k v] [wM cy ay k v] (wyT (kNt k) al s) := by
  have hM : 2 ^ kNt k ≤ 256 := Nat.pow_le_pow_right (n := 2) (by omega) h8
  refine ctI_of (by decide +kernel) (Nat.le_of_ble_eq_true rfl) (fun p_ e_ s_ m_ args_ below_ meth_ c_ A_ X => ?_)
  refine g_lv X (lv' := [(0, .ref (ay 0)), (1, .int (nI s)), (2, .int (bI (bs)))]) [0, 1, 2] rfl ?_
  refine g_iload_n (pc := 0) X dX4_waysFor_0 1 rfl ?_
  refine g_nif_ne (pc := 1) (tgt := 6) X dX4_waysFor_1 (by decide) s rfl (by omega) (fun c1 => ?_) (fun c1 => ?_)
  · refine g_iload_n (pc := 6) X dX4_waysFor_6 1 rfl ?_
    refine g_callS (pc := 7) (rest := []) X (c_J6_numberOfTrailingZeros_0f7a4 l D cy (nI s) ) sl_X4_165 dX4_waysFor_7 rfl rfl rfl rfl rfl ⟨Nat.zero_le _, Nat.zero_le _⟩ ?_
    have h0 : 0 < s := Nat.pos_of_ne_zero c1
    have hl : loN s < kNt k := lo_lt h8 hs h0
    have hx : s ^^^ 2 ^ loN s < 2 ^ kNt k := xor_lt hs hl
    refine g_top X (nt_n s (by omega) h0) ?_
    refine g_istore_n (lv' := [(3, .int (nI (loN s))), (0, .ref (ay 0)), (1, .int (nI s)), (2, .int (bI (bs)))]) (pc := 10) X dX4_waysFor_10 rfl rfl rfl ?_
    refine g_iconst (v := 0) (pc := 11) X dX4_waysFor_11 (by decide) ?_
    refine g_istore (lv' := [(4, .int (0)), (3, .int (nI (loN s))), (0, .ref (ay 0)), (1, .int (nI s)), (2, .int (bI (bs)))]) (pc := 12) X dX4_waysFor_12 rfl rfl ?_
    refine g_iload_n (pc := 14) X dX4_waysFor_14 1 rfl ?_
    refine g_iconst (v := 1) (pc := 15) X dX4_waysFor_15 (by decide) ?_
    refine g_iadd (v := nI (loN s + 1)) (pc := 16) X dX4_waysFor_16 (nI_add (loN s) 1) ?_
    refine g_istore (lv' := [(5, .int (nI (loN s + 1))), (4, .int (0)), (3, .int (nI (loN s))), (0, .ref (ay 0)), (1, .int (nI s)), (2, .int (bI (bs)))]) (pc := 17) X dX4_waysFor_17 rfl rfl ?_
    refine g_lvv X (lv' := [(5, .int (nI (loN s + 1))), (4, .int (reA al (wyT (kNt k) al) (loN s) (s ^^^ 2 ^ loN s) (loN s + 1))), (3, .int (nI (loN s))), (0, .ref (ay 0)), (1, .int (nI s)), (2, .int (bI (bs)))]) (by rw [reA_0 _ _ _ _ _ (Nat.le_refl _)]) ?_
    have L19_1 : ∀ (fu_ : Nat) (q : Nat) (hq : q ≤ kNt k) (hlo : loN s < q) (hm : 9 - q < fu_), G p_ l e_ { frames := 6, cells := 0, slots := 0, locals := 209 } s_ m_ args_ below_ meth_ c_ 6 D A_ 0 0 (QI below_ args_ s_ D A_ [wM cy ay k v] (wyT (kNt k) al s)) [wM cy ay k v] 19 [(0, .ref (ay 0)), (1, .int (nI s)), (2, .int (bI (bs))), (3, .int (nI (loN s))), (4, .int (reA al (wyT (kNt k) al) (loN s) (s ^^^ 2 ^ loN s) q)), (5, .int (nI q))] [] := by
      intro fu_
      induction fu_ with
      | zero => intro q hq hlo hm; exact absurd hm (Nat.not_lt_zero _)
      | succ fu_ ih =>
        intro q hq hlo hm
        have ih19 := ih
        clear ih
        refine g_iload (pc := 19) X dX4_waysFor_19 5 rfl ?_
        refine g_aload_n (pc := 21) X dX4_waysFor_21 0 rfl ?_
        refine g_get (pc := 22) X (v := .int (nI (kNt k))) fl_X4_52 dX4_waysFor_22 0 0 rfl rfl rfl ?_
        refine g_ncmp_ge (pc := 25) (tgt := 76) X dX4_waysFor_25 (by decide) q (kNt k) rfl rfl (by omega) (by omega) (fun c25 => ?_) (fun c25 => ?_)
        · have n25 := Nat.not_lt.mpr c25
          refine g_iload (pc := 76) X dX4_waysFor_76 4 rfl ?_
          exact g_iret (pc := 78) X rfl dX4_waysFor_78 rfl (by rw [wy_s h8 h0 hs, show q = kNt k by omega]) rfl
        · refine g_iload_n (pc := 28) X dX4_waysFor_28 1 rfl ?_
          refine g_iload (pc := 29) X dX4_waysFor_29 5 rfl ?_
          refine g_callS (pc := 31) (rest := []) X (c_X4_has l D cy (nI s) (nI q) ) sl_X4_129 dX4_waysFor_31 rfl rfl rfl rfl rfl ⟨Nat.zero_le _, Nat.zero_le _⟩ ?_
          refine g_bif_eq (pc := 34) (tgt := 70) X dX4_waysFor_34 (by decide) (fun c34 => ?_) (fun c34 => ?_)
          · have hb : s.testBit q = false := by rw [← btI_n (by omega)]; exact c34
            have he : reA al (wyT (kNt k) al) (loN s) (s ^^^ 2 ^ loN s) q = reA al (wyT (kNt k) al) (loN s) (s ^^^ 2 ^ loN s) (q + 1) := by rw [reA, if_neg (fun z => by rw [tb_x s (by omega) h0 q (by omega) hlo, hb] at z; cases z.2.1)]
            rw [he]
            refine g_iinc (v := nI (q + 1)) (lv' := [(5, .int (nI (q + 1))), (0, .ref (ay 0)), (1, .int (nI s)), (2, .int (bI (bs))), (3, .int (nI (loN s))), (4, .int (reA al (wyT (kNt k) al) (loN s) (s ^^^ 2 ^ loN s) (q + 1)))]) (pc := 70) X dX4_waysFor_70 5 rfl (nI_1 q) rfl rfl ?_
            refine g_goto (pc := 73) (tgt := 19) X dX4_waysFor_73 (by decide) ?_
            refine g_lv X (lv' := [(0, .ref (ay 0)), (1, .int (nI s)), (2, .int (bI (bs))), (3, .int (nI (loN s))), (4, .int (reA al (wyT (kNt k) al) (loN s) (s ^^^ 2 ^ loN s) (q + 1))), (5, .int (nI (q + 1)))]) [1, 2, 3, 4, 5, 0] rfl ?_
            exact ih19 (q + 1) c25 (by omega) (by omega)
          · have hb : s.testBit q = true := by rw [← btI_n (by omega)]; exact c34
            refine g_aload_n (pc := 37) X dX4_waysFor_37 0 rfl ?_
            refine g_iload_n (pc := 38) X dX4_waysFor_38 3 rfl ?_
            refine g_iload (pc := 39) X dX4_waysFor_39 5 rfl ?_
            refine g_iload_n (pc := 41) X dX4_waysFor_41 2 rfl ?_
            refine g_callV (pc := 42) (rest := []) (ss' := [wM cy ay k v]) X (c_X4_mayBe l D cy ay k v (loN s) q bs (by omega) (by omega) (by first | assumption | omega)) vl_X4_168 dX4_waysFor_42 [0] 0 0 rfl rfl rfl rfl rfl rfl rfl rfl rfl rfl rfl rfl rfl ⟨Nat.zero_le _, Nat.zero_le _⟩ ?_
            refine g_bif_eq (pc := 45) (tgt := 70) X dX4_waysFor_45 (by decide) (fun c45 => ?_) (fun c45 => ?_)
            · have hm9 := (ha (loN s) q hlo c25).symm.trans c45
              have he : reA al (wyT (kNt k) al) (loN s) (s ^^^ 2 ^ loN s) q = reA al (wyT (kNt k) al) (loN s) (s ^^^ 2 ^ loN s) (q + 1) := by rw [reA, if_neg (fun z => by rw [hm9] at z; cases z.2.2)]
              rw [he]
              refine g_iinc (v := nI (q + 1)) (lv' := [(5, .int (nI (q + 1))), (0, .ref (ay 0)), (1, .int (nI s)), (2, .int (bI (bs))), (3, .int (nI (loN s))), (4, .int (reA al (wyT (kNt k) al) (loN s) (s ^^^ 2 ^ loN s) (q + 1)))]) (pc := 70) X dX4_waysFor_70 5 rfl (nI_1 q) rfl rfl ?_
              refine g_goto (pc := 73) (tgt := 19) X dX4_waysFor_73 (by decide) ?_
              refine g_lv X (lv' := [(0, .ref (ay 0)), (1, .int (nI s)), (2, .int (bI (bs))), (3, .int (nI (loN s))), (4, .int (reA al (wyT (kNt k) al) (loN s) (s ^^^ 2 ^ loN s) (q + 1))), (5, .int (nI (q + 1)))]) [1, 2, 3, 4, 5, 0] rfl ?_
              exact ih19 (q + 1) c25 (by omega) (by omega)
            · have hm9 := (ha (loN s) q hlo c25).symm.trans c45
              refine g_iload (pc := 48) X dX4_waysFor_48 4 rfl ?_
              refine g_aload_n (pc := 50) X dX4_waysFor_50 0 rfl ?_
              refine g_iload_n (pc := 51) X dX4_waysFor_51 1 rfl ?_
              refine g_iconst (v := 1) (pc := 52) X dX4_waysFor_52 (by decide) ?_
              refine g_iload_n (pc := 53) X dX4_waysFor_53 3 rfl ?_
              refine g_ishl (v := shl 1 (nI (loN s))) (pc := 54) X dX4_waysFor_54 rfl ?_
              refine g_iconst (v := 1) (pc := 55) X dX4_waysFor_55 (by decide) ?_
              refine g_iload (pc := 56) X dX4_waysFor_56 5 rfl ?_
              refine g_ishl (v := shl 1 (nI q)) (pc := 58) X dX4_waysFor_58 rfl ?_
              refine g_ior (v := (shl 1 (nI (loN s))) ||| (shl 1 (nI q))) (pc := 59) X dX4_waysFor_59 rfl ?_
              refine g_iconst (v := (-1)) (pc := 60) X dX4_waysFor_60 (by decide) ?_
              refine g_ixor (v := ((shl 1 (nI (loN s))) ||| (shl 1 (nI q))) ^^^ ((-1))) (pc := 61) X dX4_waysFor_61 rfl ?_
              refine g_iand (v := nI ((s ^^^ 2 ^ loN s) ^^^ 2 ^ q)) (pc := 62) X dX4_waysFor_62 (wf_left (by omega) h0 (by omega) hlo hb) ?_
              refine g_iload_n (pc := 63) X dX4_waysFor_63 2 rfl ?_
              refine g_callV (pc := 64) (rest := [.int (reA al (wyT (kNt k) al) (loN s) (s ^^^ 2 ^ loN s) q)]) (ss' := [wM cy ay k v]) X (c_X4_waysFor_3 l D cy ay k v ((s ^^^ 2 ^ loN s) ^^^ 2 ^ q) bs al (by first | assumption | omega) (by first | assumption | omega) (xor_lt hx c25) (by have := pc_s s (by omega) h0 q (by omega) hlo hb; omega) ha) vl_X4_172 dX4_waysFor_64 [0] 0 0 rfl rfl rfl rfl rfl rfl rfl rfl rfl rfl rfl rfl rfl ⟨Nat.zero_le _, Nat.zero_le _⟩ ?_
              refine g_iadd (v := reA al (wyT (kNt k) al) (loN s) (s ^^^ 2 ^ loN s) (q + 1)) (pc := 67) X dX4_waysFor_67 (by rw [reA, if_pos ⟨hlo, (tb_x s (by omega) h0 q (by omega) hlo).trans hb, hm9⟩]) ?_
              refine g_istore (lv' := [(4, .int (reA al (wyT (kNt k) al) (loN s) (s ^^^ 2 ^ loN s) (q + 1))), (0, .ref (ay 0)), (1, .int (nI s)), (2, .int (bI (bs))), (3, .int (nI (loN s))), (5, .int (nI q))]) (pc := 68) X dX4_waysFor_68 rfl rfl ?_
              refine g_iinc (v := nI (q + 1)) (lv' := [(5, .int (nI (q + 1))), (4, .int (reA al (wyT (kNt k) al) (loN s) (s ^^^ 2 ^ loN s) (q + 1))), (0, .ref (ay 0)), (1, .int (nI s)), (2, .int (bI (bs))), (3, .int (nI (loN s)))]) (pc := 70) X dX4_waysFor_70 5 rfl (nI_1 q) rfl rfl ?_
              refine g_goto (pc := 73) (tgt := 19) X dX4_waysFor_73 (by decide) ?_
              refine g_lv X (lv' := [(0, .ref (ay 0)), (1, .int (nI s)), (2, .int (bI (bs))), (3, .int (nI (loN s))), (4, .int (reA al (wyT (kNt k) al) (loN s) (s ^^^ 2 ^ loN s) (q + 1))), (5, .int (nI (q + 1)))]) [2, 3, 4, 5, 1, 0] rfl ?_
              exact ih19 (q + 1) c25 (by omega) (by omega)
    refine g_lv X (lv' := [(0, .ref (ay 0)), (1, .int (nI s)), (2, .int (bI (bs))), (3, .int (nI (loN s))), (4, .int (reA al (wyT (kNt k) al) (loN s) (s ^^^ 2 ^ loN s) (loN s + 1))), (5, .int (nI (loN s + 1)))]) [3, 4, 5, 2, 1, 0] rfl ?_
    exact L19_1 (9 - (loN s + 1) + 1) (loN s + 1) hl (Nat.lt_succ_self _) (Nat.lt_succ_self _)
  · refine g_iconst (v := 1) (pc := 4) X dX4_waysFor_4 (by decide) ?_
    exact g_iret (pc := 5) X rfl dX4_waysFor_5 rfl (by rw [c1, wy_0]) rfl
set_option maxRecDepth 100000 in
set_option maxHeartbeats 4000000 in
theorem c_X4_all (l : Launch) (D : va_G) (cy : ClassId) (ay : Nat → Nat) (k : KV) (v : MV) : CtI l yX4_all cX4_all 1 .int 0 64 D cy [.ref (ay 0)] [wM cy ay k v] [wM cy ay k v] (allT k) := by
  refine ctI_of (by decide +kernel) (Nat.le_of_ble_eq_true rfl) (fun p_ e_ s_ m_ args_ below_ meth_ c_ A_ X => ?_)
  refine g_lv X (lv' := [(0, .ref (ay 0))]) [0] rfl ?_
  refine g_iconst (v := 1) (pc := 0) X dX4_all_0 (by decide) ?_
  refine g_aload_n (pc := 1) X dX4_all_1 0 rfl ?_
  refine g_get (pc := 2) X (v := .int (nI (kNt k))) fl_X4_52 dX4_all_2 0 0 rfl rfl rfl ?_
  refine g_ishl (v := shl 1 (nI (kNt k))) (pc := 5) X dX4_all_5 rfl ?_
  refine g_iconst (v := 1) (pc := 6) X dX4_all_6 (by decide) ?_
  refine g_isub (v := allT k) (pc := 7) X dX4_all_7 rfl ?_
  exact g_iret (pc := 8) X rfl dX4_all_8 rfl rfl rfl
set_option maxRecDepth 100000 in
set_option maxHeartbeats 4000000 in
theorem c_X4_ways (l : Launch) (D : va_G) (cy : ClassId) (ay : Nat → Nat) (k : KV) (v : MV) (hw : KW k) : CtI l yX4_ways cX4_ways 1 .int 7 234 D cy [.ref (ay 0)] [wM cy ay k v] [wM cy ay k v] (wyK k (apL k)) := by
  have h8 := hw.2.2.2.2.2.1
  have hM : 2 ^ kNt k ≤ 256 := Nat.pow_le_pow_right (n := 2) (by omega) h8
  have hp0 : 0 < 2 ^ kNt k := Nat.two_pow_pos _
  refine ctI_of (by decide +kernel) (Nat.le_of_ble_eq_true rfl) (fun p_ e_ s_ m_ args_ below_ meth_ c_ A_ X => ?_)
  refine g_lv X (lv' := [(0, .ref (ay 0))]) [0] rfl ?_
  refine g_aload_n (pc := 0) X dX4_ways_0 0 rfl ?_
  refine g_aload_n (pc := 1) X dX4_ways_1 0 rfl ?_
  refine g_callV (pc := 2) (rest := [.ref (ay 0)]) (ss' := [wM cy ay k v]) X (c_X4_all l D cy ay k v ) vl_X4_175 dX4_ways_2 [0] 0 0 rfl rfl rfl rfl rfl rfl rfl rfl rfl rfl rfl rfl rfl ⟨Nat.zero_le _, Nat.zero_le _⟩ ?_
  refine g_top X (allT_n h8) ?_
  refine g_iconst (v := 0) (pc := 5) X dX4_ways_5 (by decide) ?_
  refine g_callV (pc := 6) (rest := []) (ss' := [wM cy ay k v]) X (c_X4_waysFor_4 l D cy ay k v (2 ^ kNt k - 1) false (apL k) h8 hw.2.2.2.2.2.2.2 (by omega) (pc_8 _) (fun p q h1 h2 => ap_bt h8 (by omega) h2 (by omega) _)) vl_X4_172 dX4_ways_6 [0] 0 0 rfl rfl rfl rfl rfl rfl rfl rfl rfl rfl rfl rfl rfl ⟨Nat.zero_le _, Nat.zero_le _⟩ ?_
  exact g_iret (pc := 9) X rfl dX4_ways_9 rfl rfl rfl
set_option maxRecDepth 100000 in
set_option maxHeartbeats 4000000 in
theorem c_X4_may (l : Launch) (D : va_G) (cy : ClassId) (ay : Nat → Nat) (k : KV) (v : MV) (t : Int32) (hw : KW k) : CtI l yX4_may cX4_may 4 .int 7 234 D cy [.ref (ay 0), .int (t)] [wM cy ay k v] [wM cy ay k (uRf v (rfB (hasT k t) (mRf v) (myA k t)))] (myA k t) := by
  have h8 := hw.2.2.2.2.2.1
  have hM : 2 ^ kNt k ≤ 256 := Nat.pow_le_pow_right (n := 2) (by omega) h8
  have hp0 : 0 < 2 ^ kNt k := Nat.two_pow_pos _
  refine ctI_of (by decide +kernel) (Nat.le_of_ble_eq_true rfl) (fun p_ e_ s_ m_ args_ below_ meth_ c_ A_ X => ?_)
  refine g_lv X (lv' := [(0, .ref (ay 0)), (1, .int (t))]) [0, 1] rfl ?_
  refine g_aload_n (pc := 0) X dX4_may_0 0 rfl ?_
  refine g_iload_n (pc := 1) X dX4_may_1 1 rfl ?_
  refine g_callV (pc := 2) (rest := []) (ss' := [wM cy ay k v]) X (c_X4_isThing l D cy ay k v t h8) vl_X4_112 dX4_may_2 [0] 0 0 rfl rfl rfl rfl rfl rfl rfl rfl rfl rfl rfl rfl rfl ⟨Nat.zero_le _, Nat.zero_le _⟩ ?_
  refine g_bif_ne (pc := 5) (tgt := 14) X dX4_may_5 (by decide) (fun c5 => ?_) (fun c5 => ?_)
  · have r5 := c5
    obtain ⟨i, hi, rfl⟩ := hasT_t hw.2.2.2.2.2.1 c5
    have ixi : ix (nI i) = i := ixn (by have := hw.2.2.2.2.2.1; omega)
    refine g_iconst (v := 0) (pc := 14) X dX4_may_14 (by decide) ?_
    refine g_istore_n (lv' := [(2, .int (0)), (0, .ref (ay 0)), (1, .int (nI i))]) (pc := 15) X dX4_may_15 rfl rfl rfl ?_
    refine g_iconst (v := 0) (pc := 16) X dX4_may_16 (by decide) ?_
    refine g_istore_n (lv' := [(3, .int (0)), (2, .int (0)), (0, .ref (ay 0)), (1, .int (nI i))]) (pc := 17) X dX4_may_17 rfl rfl rfl ?_
    have L18_1 : ∀ (fu_ : Nat) (q : Nat) (hq : q ≤ kNt k) (hm : 9 - q < fu_), G p_ l e_ { frames := 7, cells := 0, slots := 0, locals := 234 } s_ m_ args_ below_ meth_ c_ 4 D A_ 0 0 (QI below_ args_ s_ D A_ [wM cy ay k (uRf v (rfB (hasT k (nI i)) (mRf v) (myA k (nI i))))] (myA k (nI i))) [wM cy ay k v] 18 [(0, .ref (ay 0)), (1, .int (nI i)), (2, .int (otN (apL k) (wyT (kNt k) (apL k)) (mkN (kNt k) i) i q)), (3, .int (nI q))] [] := by
      intro fu_
      induction fu_ with
      | zero => intro q hq hm; exact absurd hm (Nat.not_lt_zero _)
      | succ fu_ ih =>
        intro q hq hm
        have ih18 := ih
        clear ih
        refine g_iload_n (pc := 18) X dX4_may_18 3 rfl ?_
        refine g_aload_n (pc := 19) X dX4_may_19 0 rfl ?_
        refine g_get (pc := 20) X (v := .int (nI (kNt k))) fl_X4_52 dX4_may_20 0 0 rfl rfl rfl ?_
        refine g_ncmp_ge (pc := 23) (tgt := 75) X dX4_may_23 (by decide) q (kNt k) rfl rfl (by omega) (by omega) (fun c23 => ?_) (fun c23 => ?_)
        · have n23 := Nat.not_lt.mpr c23
          refine g_iload_n (pc := 75) X dX4_may_75 2 rfl ?_
          have eq : q = kNt k := by omega
          exact g_iret (pc := 76) X rfl dX4_may_76 rfl (by first | (rw [myA, if_pos r5, ixi, eq]; rfl) | (simp [myA, *]; done)) (by first | (simp [myA, rfB, *]; done) | (simp [myA, rfB, *]; rfl))
        · refine g_iload_n (pc := 26) X dX4_may_26 3 rfl ?_
          refine g_iload_n (pc := 27) X dX4_may_27 1 rfl ?_
          refine g_ncmp_eq (pc := 28) (tgt := 69) X dX4_may_28 (by decide) q i rfl rfl (by omega) (by omega) (fun c28 => ?_) (fun c28 => ?_)
          · have hc : otN (apL k) (wyT (kNt k) (apL k)) (mkN (kNt k) i) i q = otN (apL k) (wyT (kNt k) (apL k)) (mkN (kNt k) i) i (q + 1) := by rw [otN, if_neg (fun z => by rw [mk_bt _ h8 i (by omega) q (by omega), c28] at z; exact absurd (of_decide_eq_true z.1).2 (fun y => y rfl))]
            rw [hc]
            refine g_iinc (v := nI (q + 1)) (lv' := [(3, .int (nI (q + 1))), (0, .ref (ay 0)), (1, .int (nI i)), (2, .int (otN (apL k) (wyT (kNt k) (apL k)) (mkN (kNt k) i) i (q + 1)))]) (pc := 69) X dX4_may_69 3 rfl (nI_1 q) rfl rfl ?_
            refine g_goto (pc := 72) (tgt := 18) X dX4_may_72 (by decide) ?_
            refine g_lv X (lv' := [(0, .ref (ay 0)), (1, .int (nI i)), (2, .int (otN (apL k) (wyT (kNt k) (apL k)) (mkN (kNt k) i) i (q + 1))), (3, .int (nI (q + 1)))]) [1, 2, 3, 0] rfl ?_
            exact ih18 (q + 1) c23 (by omega)
          · refine g_aload_n (pc := 31) X dX4_may_31 0 rfl ?_
            refine g_iload_n (pc := 32) X dX4_may_32 1 rfl ?_
            refine g_iload_n (pc := 33) X dX4_may_33 3 rfl ?_
            refine g_iconst (v := 0) (pc := 34) X dX4_may_34 (by decide) ?_
            refine g_callV (pc := 35) (rest := []) (ss' := [wM cy ay k v]) X (c_X4_mayBe l D cy ay k v i q false (by have := hw.2.2.2.2.2.1; omega) (by omega) hw.2.2.2.2.2.2.2) vl_X4_168 dX4_may_35 [0] 0 0 rfl rfl rfl rfl rfl rfl rfl rfl rfl rfl rfl rfl rfl ⟨Nat.zero_le _, Nat.zero_le _⟩ ?_
            refine g_bif_eq (pc := 38) (tgt := 69) X dX4_may_38 (by decide) (fun c38 => ?_) (fun c38 => ?_)
            · have hm9 := (ap_bt h8 hi c23 (Ne.symm c28) (mSn v)).symm.trans c38
              have hc : otN (apL k) (wyT (kNt k) (apL k)) (mkN (kNt k) i) i q = otN (apL k) (wyT (kNt k) (apL k)) (mkN (kNt k) i) i (q + 1) := by rw [otN, if_neg (fun z => by rw [hm9] at z; cases z.2.1)]
              rw [hc]
              refine g_iinc (v := nI (q + 1)) (lv' := [(3, .int (nI (q + 1))), (0, .ref (ay 0)), (1, .int (nI i)), (2, .int (otN (apL k) (wyT (kNt k) (apL k)) (mkN (kNt k) i) i (q + 1)))]) (pc := 69) X dX4_may_69 3 rfl (nI_1 q) rfl rfl ?_
              refine g_goto (pc := 72) (tgt := 18) X dX4_may_72 (by decide) ?_
              refine g_lv X (lv' := [(0, .ref (ay 0)), (1, .int (nI i)), (2, .int (otN (apL k) (wyT (kNt k) (apL k)) (mkN (kNt k) i) i (q + 1))), (3, .int (nI (q + 1)))]) [1, 2, 3, 0] rfl ?_
              exact ih18 (q + 1) c23 (by omega)
            · have hm9 := (ap_bt h8 hi c23 (Ne.symm c28) (mSn v)).symm.trans c38
              refine g_aload_n (pc := 41) X dX4_may_41 0 rfl ?_
              refine g_aload_n (pc := 42) X dX4_may_42 0 rfl ?_
              refine g_callV (pc := 43) (rest := [.ref (ay 0)]) (ss' := [wM cy ay k v]) X (c_X4_all l D cy ay k v ) vl_X4_175 dX4_may_43 [0] 0 0 rfl rfl rfl rfl rfl rfl rfl rfl rfl rfl rfl rfl rfl ⟨Nat.zero_le _, Nat.zero_le _⟩ ?_
              refine g_top X (allT_n h8) ?_
              refine g_iconst (v := 1) (pc := 46) X dX4_may_46 (by decide) ?_
              refine g_iload_n (pc := 47) X dX4_may_47 1 rfl ?_
              refine g_ishl (v := shl 1 (nI i)) (pc := 48) X dX4_may_48 rfl ?_
              refine g_iconst (v := 1) (pc := 49) X dX4_may_49 (by decide) ?_
              refine g_iload_n (pc := 50) X dX4_may_50 3 rfl ?_
              refine g_ishl (v := shl 1 (nI q)) (pc := 51) X dX4_may_51 rfl ?_
              refine g_ior (v := (shl 1 (nI i)) ||| (shl 1 (nI q))) (pc := 52) X dX4_may_52 rfl ?_
              refine g_iconst (v := (-1)) (pc := 53) X dX4_may_53 (by decide) ?_
              refine g_ixor (v := ((shl 1 (nI i)) ||| (shl 1 (nI q))) ^^^ ((-1))) (pc := 54) X dX4_may_54 rfl ?_
              refine g_iand (v := nI (mkN (kNt k) i ^^^ 2 ^ q)) (pc := 55) X dX4_may_55 (wf_all h8 hi c23 (Ne.symm c28)) ?_
              refine g_iconst (v := 0) (pc := 56) X dX4_may_56 (by decide) ?_
              refine g_callV (pc := 57) (rest := []) (ss' := [wM cy ay k v]) X (c_X4_waysFor_4 l D cy ay k v (mkN (kNt k) i ^^^ 2 ^ q) false (apL k) h8 hw.2.2.2.2.2.2.2 (xor_lt (mk_lt _ _) c23) (pc_8 _) (fun p q h1 h2 => ap_bt h8 (by omega) h2 (by omega) _)) vl_X4_172 dX4_may_57 [0] 0 0 rfl rfl rfl rfl rfl rfl rfl rfl rfl rfl rfl rfl rfl ⟨Nat.zero_le _, Nat.zero_le _⟩ ?_
              refine g_if_le (pc := 60) (tgt := 69) X dX4_may_60 (by decide) (fun c60 => ?_) (fun c60 => ?_)
              · have n60 := Int32.not_lt.mpr c60
                have hc : otN (apL k) (wyT (kNt k) (apL k)) (mkN (kNt k) i) i q = otN (apL k) (wyT (kNt k) (apL k)) (mkN (kNt k) i) i (q + 1) := by rw [otN, if_neg (fun z => n60 z.2.2)]
                rw [hc]
                refine g_iinc (v := nI (q + 1)) (lv' := [(3, .int (nI (q + 1))), (0, .ref (ay 0)), (1, .int (nI i)), (2, .int (otN (apL k) (wyT (kNt k) (apL k)) (mkN (kNt k) i) i (q + 1)))]) (pc := 69) X dX4_may_69 3 rfl (nI_1 q) rfl rfl ?_
                refine g_goto (pc := 72) (tgt := 18) X dX4_may_72 (by decide) ?_
                refine g_lv X (lv' := [(0, .ref (ay 0)), (1, .int (nI i)), (2, .int (otN (apL k) (wyT (kNt k) (apL k)) (mkN (kNt k) i) i (q + 1))), (3, .int (nI (q + 1)))]) [1, 2, 3, 0] rfl ?_
                exact ih18 (q + 1) c23 (by omega)
              · refine g_iload_n (pc := 63) X dX4_may_63 2 rfl ?_
                refine g_iconst (v := 1) (pc := 64) X dX4_may_64 (by decide) ?_
                refine g_iload_n (pc := 65) X dX4_may_65 3 rfl ?_
                refine g_ishl (v := shl 1 (nI q)) (pc := 66) X dX4_may_66 rfl ?_
                refine g_ior (v := otN (apL k) (wyT (kNt k) (apL k)) (mkN (kNt k) i) i (q + 1)) (pc := 67) X dX4_may_67 (by rw [otN, if_pos ⟨by rw [mk_bt _ h8 i (by omega) q (by omega)]; exact decide_eq_true ⟨c23, c28⟩, hm9, c60⟩]) ?_
                refine g_istore_n (lv' := [(2, .int (otN (apL k) (wyT (kNt k) (apL k)) (mkN (kNt k) i) i (q + 1))), (0, .ref (ay 0)), (1, .int (nI i)), (3, .int (nI q))]) (pc := 68) X dX4_may_68 rfl rfl rfl ?_
                refine g_iinc (v := nI (q + 1)) (lv' := [(3, .int (nI (q + 1))), (2, .int (otN (apL k) (wyT (kNt k) (apL k)) (mkN (kNt k) i) i (q + 1))), (0, .ref (ay 0)), (1, .int (nI i))]) (pc := 69) X dX4_may_69 3 rfl (nI_1 q) rfl rfl ?_
                refine g_goto (pc := 72) (tgt := 18) X dX4_may_72 (by decide) ?_
                refine g_lv X (lv' := [(0, .ref (ay 0)), (1, .int (nI i)), (2, .int (otN (apL k) (wyT (kNt k) (apL k)) (mkN (kNt k) i) i (q + 1))), (3, .int (nI (q + 1)))]) [2, 3, 1, 0] rfl ?_
                exact ih18 (q + 1) c23 (by omega)
    refine g_lv X (lv' := [(0, .ref (ay 0)), (1, .int (nI i)), (2, .int (0)), (3, .int (0))]) [2, 3, 1, 0] rfl ?_
    exact L18_1 (9 - 0 + 1) 0 (Nat.zero_le _) (Nat.lt_succ_self _)
  · refine g_aload_n (pc := 8) X dX4_may_8 0 rfl ?_
    refine g_iconst (v := (-1)) (pc := 9) X dX4_may_9 (by decide) ?_
    refine g_callV (pc := 10) (rest := []) (ss' := [wM cy ay k (uRf v (rfU (mRf v) ((-1))))]) X (c_X4_no l D cy ay k v ((-1)) rf_1) vl_X4_63 dX4_may_10 [0] 0 0 rfl rfl rfl rfl rfl rfl (ads_c (ads_M _ _ _ _ _ _) rfl) rfl rfl rfl rfl rfl rfl ⟨Nat.zero_le _, Nat.zero_le _⟩ ?_
    exact g_iret (pc := 13) X rfl dX4_may_13 rfl (by first | (rw [myA, if_pos r5, ixi, eq]; rfl) | (simp [myA, *]; done)) (by first | (simp [myA, rfB, *]; done) | (simp [myA, rfB, *]; rfl))
set_option maxRecDepth 100000 in
set_option maxHeartbeats 4000000 in
theorem c_X4_pairings (l : Launch) (D : va_G) (cy : ClassId) (ay : Nat → Nat) (k : KV) (v : MV) (w : Int32) (hw : KW k) : CtIE l yX4_pairings cX4_pairings 3 .int 7 234 D cy [.ref (ay 0), .int (w)] [wM cy ay k v] (fun (u_ : (Nat → Int32)) => [wM cy ay k (uSn (uRf v (rfB (moB w) (mRf v) (prA k w))) u_)]) (prA k w) := by
  have h8 := hw.2.2.2.2.2.1
  have hM : 2 ^ kNt k ≤ 256 := Nat.pow_le_pow_right (n := 2) (by omega) h8
  have hp0 : 0 < 2 ^ kNt k := Nat.two_pow_pos _
  refine ctIE_of (by decide +kernel) (Nat.le_of_ble_eq_true rfl) (fun p_ e_ s_ m_ args_ below_ meth_ c_ A_ X => ?_)
  refine g_lv X (lv' := [(0, .ref (ay 0)), (1, .int (w))]) [0, 1] rfl ?_
  refine g_iload_n (pc := 0) X dX4_pairings_0 1 rfl ?_
  refine g_iconst (v := 0) (pc := 1) X dX4_pairings_1 (by decide) ?_
  refine g_iconst (v := 1) (pc := 2) X dX4_pairings_2 (by decide) ?_
  refine g_callS (pc := 3) (rest := []) X (c_X4_within l D cy w 0 1 ) sl_X4_56 dX4_pairings_3 rfl rfl rfl rfl rfl ⟨Nat.zero_le _, Nat.zero_le _⟩ ?_
  refine g_bif_ne (pc := 6) (tgt := 16) X dX4_pairings_6 (by decide) (fun c6 => ?_) (fun c6 => ?_)
  · have w3 := wi_1 c6
    refine g_aload_n (pc := 16) X dX4_pairings_16 0 rfl ?_
    refine g_aload_n (pc := 17) X dX4_pairings_17 0 rfl ?_
    refine g_get (pc := 18) X (v := .int (nI (kHr k))) fl_X4_95 dX4_pairings_18 0 0 rfl rfl rfl ?_
    refine g_callVv (pc := 21) (rest := []) (ss' := [wM cy ay k (uSn v (lkF k (kHr k) (mSn v)))]) X (c_X4_look l D cy ay k v (kHr k) h8 hw.1.1 hw.2.2.2.2.2.2.1) vl_X4_142 dX4_pairings_21 [0] 0 0 rfl rfl rfl rfl rfl rfl (ads_c (ads_M _ _ _ _ _ _) rfl) rfl rfl rfl rfl rfl rfl ⟨Nat.zero_le _, Nat.zero_le _⟩ ?_
    refine g_iload_n (pc := 24) X dX4_pairings_24 1 rfl ?_
    refine g_if_ne (pc := 25) (tgt := 38) X dX4_pairings_25 (by decide) (fun c25 => ?_) (fun c25 => ?_)
    · refine g_iconst (v := 1) (pc := 38) X dX4_pairings_38 (by decide) ?_
      refine g_istore_n (lv' := [(2, .int (1)), (0, .ref (ay 0)), (1, .int (w))]) (pc := 39) X dX4_pairings_39 rfl rfl rfl ?_
      have L40_1 : ∀ (fu_ : Nat) (q : Nat) (hq0 : 1 ≤ q) (hq9 : q ≤ 9) (hq : loI (otK k (prL k) 0) = fnd (prP k) nI (kNt k - q) q) (hm : 9 - q < fu_), G p_ l e_ { frames := 7, cells := 0, slots := 0, locals := 234 } s_ m_ args_ below_ meth_ c_ 3 D A_ 0 0 (QIE below_ args_ s_ D A_ (fun (u_ : (Nat → Int32)) => [wM cy ay k (uSn (uRf v (rfB (moB w) (mRf v) (prA k w))) u_)]) (prA k w)) [wM cy ay k (uSn v (lkF k (kHr k) (mSn v)))] 40 [(0, .ref (ay 0)), (1, .int (w)), (2, .int (nI q))] [] := by
        intro fu_
        induction fu_ with
        | zero => intro q hq0 hq9 hq hm; exact absurd hm (Nat.not_lt_zero _)
        | succ fu_ ih =>
          intro q hq0 hq9 hq hm
          have ih40 := ih
          clear ih
          refine g_iload_n (pc := 40) X dX4_pairings_40 2 rfl ?_
          refine g_aload_n (pc := 41) X dX4_pairings_41 0 rfl ?_
          refine g_get (pc := 42) X (v := .int (nI (kNt k))) fl_X4_52 dX4_pairings_42 0 0 rfl rfl rfl ?_
          refine g_ncmp_ge (pc := 45) (tgt := 86) X dX4_pairings_45 (by decide) q (kNt k) rfl rfl (by omega) (by omega) (fun c45 => ?_) (fun c45 => ?_)
          · have n45 := Nat.not_lt.mpr c45
            refine g_bipush (v := (-9)) (pc := 86) X dX4_pairings_86 (by decide) ?_
            exact g_iretE (pc := 88) X (lkF k (kHr k) (mSn v)) rfl dX4_pairings_88 rfl (by rw [prA, if_pos (show moB w = true by rw [w3.resolve_left c25]; rfl), if_neg c25, hq, show kNt k - q = 0 by omega]; rfl) (by first | (rw [rfB, if_pos (show moB w = true by rcases w3 with w3 | w3 <;> rw [w3] <;> rfl)]; done) | first | (simp [prA, moB, rfB, *]; done) | (simp [prA, moB, rfB, *]; rfl))
          · refine g_aload_n (pc := 48) X dX4_pairings_48 0 rfl ?_
            refine g_iconst (v := 0) (pc := 49) X dX4_pairings_49 (by decide) ?_
            refine g_iload_n (pc := 50) X dX4_pairings_50 2 rfl ?_
            refine g_iconst (v := 1) (pc := 51) X dX4_pairings_51 (by decide) ?_
            refine g_callV (pc := 52) (rest := []) (ss' := [wM cy ay k (uSn v (lkF k (kHr k) (mSn v)))]) X (c_X4_mayBe l D cy ay k (uSn v (lkF k (kHr k) (mSn v))) 0 q true (by decide) (by omega) hw.2.2.2.2.2.2.2) vl_X4_168 dX4_pairings_52 [0] 0 0 rfl rfl rfl rfl rfl rfl rfl rfl rfl rfl rfl rfl rfl ⟨Nat.zero_le _, Nat.zero_le _⟩ ?_
            refine g_bif_eq (pc := 55) (tgt := 80) X dX4_pairings_55 (by decide) (fun c55 => ?_) (fun c55 => ?_)
            · have hm9 := (pr_bt h8 (show 0 < kNt k by omega) c45 (show 0 ≠ q by omega) (mSn v)).symm.trans c55
              have hpf : prP k q = false := decide_eq_false (fun z => by rw [hm9] at z; cases z.1)
              refine g_iinc (v := nI (q + 1)) (lv' := [(2, .int (nI (q + 1))), (0, .ref (ay 0)), (1, .int (w))]) (pc := 80) X dX4_pairings_80 2 rfl (nI_1 q) rfl rfl ?_
              refine g_goto (pc := 83) (tgt := 40) X dX4_pairings_83 (by decide) ?_
              refine g_lv X (lv' := [(0, .ref (ay 0)), (1, .int (w)), (2, .int (nI (q + 1)))]) [1, 2, 0] rfl ?_
              exact ih40 (q + 1) (by omega) (by omega) (by rw [hq, show kNt k - q = (kNt k - (q + 1)) + 1 by omega, fnd, if_neg (by rw [hpf]; exact Bool.false_ne_true)]) (by omega)
            · have hm9 := (pr_bt h8 (show 0 < kNt k by omega) c45 (show 0 ≠ q by omega) (mSn v)).symm.trans c55
              refine g_aload_n (pc := 58) X dX4_pairings_58 0 rfl ?_
              refine g_aload_n (pc := 59) X dX4_pairings_59 0 rfl ?_
              refine g_callV (pc := 60) (rest := [.ref (ay 0)]) (ss' := [wM cy ay k (uSn v (lkF k (kHr k) (mSn v)))]) X (c_X4_all l D cy ay k (uSn v (lkF k (kHr k) (mSn v))) ) vl_X4_175 dX4_pairings_60 [0] 0 0 rfl rfl rfl rfl rfl rfl rfl rfl rfl rfl rfl rfl rfl ⟨Nat.zero_le _, Nat.zero_le _⟩ ?_
              refine g_top X (allT_n h8) ?_
              refine g_iconst (v := 1) (pc := 63) X dX4_pairings_63 (by decide) ?_
              refine g_iconst (v := 1) (pc := 64) X dX4_pairings_64 (by decide) ?_
              refine g_iload_n (pc := 65) X dX4_pairings_65 2 rfl ?_
              refine g_ishl (v := shl 1 (nI q)) (pc := 66) X dX4_pairings_66 rfl ?_
              refine g_ior (v := 1 ||| (shl 1 (nI q))) (pc := 67) X dX4_pairings_67 rfl ?_
              refine g_iconst (v := (-1)) (pc := 68) X dX4_pairings_68 (by decide) ?_
              refine g_ixor (v := (1 ||| (shl 1 (nI q))) ^^^ ((-1))) (pc := 69) X dX4_pairings_69 rfl ?_
              refine g_iand (v := nI (mkN (kNt k) 0 ^^^ 2 ^ q)) (pc := 70) X dX4_pairings_70 (wf_all0 h8 c45 (show 0 ≠ q by omega)) ?_
              refine g_iconst (v := 1) (pc := 71) X dX4_pairings_71 (by decide) ?_
              refine g_callV (pc := 72) (rest := []) (ss' := [wM cy ay k (uSn v (lkF k (kHr k) (mSn v)))]) X (c_X4_waysFor_4 l D cy ay k (uSn v (lkF k (kHr k) (mSn v))) (mkN (kNt k) 0 ^^^ 2 ^ q) true (prL k) h8 hw.2.2.2.2.2.2.2 (xor_lt (mk_lt _ _) c45) (pc_8 _) (fun p q h1 h2 => pr_bt h8 (by omega) h2 (by omega) _)) vl_X4_172 dX4_pairings_72 [0] 0 0 rfl rfl rfl rfl rfl rfl rfl rfl rfl rfl rfl rfl rfl ⟨Nat.zero_le _, Nat.zero_le _⟩ ?_
              refine g_if_le (pc := 75) (tgt := 80) X dX4_pairings_75 (by decide) (fun c75 => ?_) (fun c75 => ?_)
              · have n75 := Int32.not_lt.mpr c75
                have hpf : prP k q = false := decide_eq_false (fun z => n75 z.2)
                refine g_iinc (v := nI (q + 1)) (lv' := [(2, .int (nI (q + 1))), (0, .ref (ay 0)), (1, .int (w))]) (pc := 80) X dX4_pairings_80 2 rfl (nI_1 q) rfl rfl ?_
                refine g_goto (pc := 83) (tgt := 40) X dX4_pairings_83 (by decide) ?_
                refine g_lv X (lv' := [(0, .ref (ay 0)), (1, .int (w)), (2, .int (nI (q + 1)))]) [1, 2, 0] rfl ?_
                exact ih40 (q + 1) (by omega) (by omega) (by rw [hq, show kNt k - q = (kNt k - (q + 1)) + 1 by omega, fnd, if_neg (by rw [hpf]; exact Bool.false_ne_true)]) (by omega)
              · have hpt : prP k q = true := decide_eq_true ⟨hm9, c75⟩
                refine g_iload_n (pc := 78) X dX4_pairings_78 2 rfl ?_
                exact g_iretE (pc := 79) X (lkF k (kHr k) (mSn v)) rfl dX4_pairings_79 rfl (by rw [prA, if_pos (show moB w = true by rw [w3.resolve_left c25]; rfl), if_neg c25, hq, show kNt k - q = (kNt k - (q + 1)) + 1 by omega, fnd, if_pos hpt]) (by first | (rw [rfB, if_pos (show moB w = true by rcases w3 with w3 | w3 <;> rw [w3] <;> rfl)]; done) | first | (simp [prA, moB, rfB, *]; done) | (simp [prA, moB, rfB, *]; rfl))
      refine g_lv X (lv' := [(0, .ref (ay 0)), (1, .int (w)), (2, .int (1))]) [1, 2, 0] rfl ?_
      exact L40_1 (9 - 1 + 1) 1 (Nat.le_refl _) (by decide) (pr_fnd h8) (Nat.lt_succ_self _)
    · refine g_aload_n (pc := 28) X dX4_pairings_28 0 rfl ?_
      refine g_aload_n (pc := 29) X dX4_pairings_29 0 rfl ?_
      refine g_callV (pc := 30) (rest := [.ref (ay 0)]) (ss' := [wM cy ay k (uSn v (lkF k (kHr k) (mSn v)))]) X (c_X4_all l D cy ay k (uSn v (lkF k (kHr k) (mSn v))) ) vl_X4_175 dX4_pairings_30 [0] 0 0 rfl rfl rfl rfl rfl rfl rfl rfl rfl rfl rfl rfl rfl ⟨Nat.zero_le _, Nat.zero_le _⟩ ?_
      refine g_top X (allT_n h8) ?_
      refine g_iconst (v := 1) (pc := 33) X dX4_pairings_33 (by decide) ?_
      refine g_callV (pc := 34) (rest := []) (ss' := [wM cy ay k (uSn v (lkF k (kHr k) (mSn v)))]) X (c_X4_waysFor_4 l D cy ay k (uSn v (lkF k (kHr k) (mSn v))) (2 ^ kNt k - 1) true (prL k) h8 hw.2.2.2.2.2.2.2 (by omega) (pc_8 _) (fun p q h1 h2 => pr_bt h8 (by omega) h2 (by omega) _)) vl_X4_172 dX4_pairings_34 [0] 0 0 rfl rfl rfl rfl rfl rfl rfl rfl rfl rfl rfl rfl rfl ⟨Nat.zero_le _, Nat.zero_le _⟩ ?_
      exact g_iretE (pc := 37) X (lkF k (kHr k) (mSn v)) rfl dX4_pairings_37 rfl (by rw [prA, if_pos (show moB w = true by rw [c25]; rfl), if_pos c25]; rfl) (by first | (rw [rfB, if_pos (show moB w = true by rcases w3 with w3 | w3 <;> rw [w3] <;> rfl)]; done) | first | (simp [prA, moB, rfB, *]; done) | (simp [prA, moB, rfB, *]; rfl))
  · have w3 := wi_1f c6
    refine g_aload_n (pc := 9) X dX4_pairings_9 0 rfl ?_
    refine g_bipush (v := (-2)) (pc := 10) X dX4_pairings_10 (by decide) ?_
    refine g_callV (pc := 12) (rest := []) (ss' := [wM cy ay k (uRf v (rfU (mRf v) ((-2))))]) X (c_X4_no l D cy ay k v ((-2)) rf_2) vl_X4_63 dX4_pairings_12 [0] 0 0 rfl rfl rfl rfl rfl rfl (ads_c (ads_M _ _ _ _ _ _) rfl) rfl rfl rfl rfl rfl rfl ⟨Nat.zero_le _, Nat.zero_le _⟩ ?_
    exact g_iretE (pc := 15) X (mSn v) rfl dX4_pairings_15 rfl (by first | (simp [prA, moB, *]; done) | done) (by first | (rw [rfB, if_pos (show moB w = true by rcases w3 with w3 | w3 <;> rw [w3] <;> rfl)]; done) | first | (simp [prA, moB, rfB, *]; done) | (simp [prA, moB, rfB, *]; rfl))
set_option maxRecDepth 100000 in
set_option maxHeartbeats 4000000 in
theorem c_X4_together (l : Launch) (D : va_G) (cy : ClassId) (ay : Nat → Nat) (k : KV) (v : MV) (x : Int32) (hw : KW k) : CtI l yX4_together cX4_together 2 .int 1 86 D cy [.ref (ay 0), .int (x)] [wM cy ay k v] [wM cy ay (tgS k x) (uRf v (rfB (tgO k x) (mRf v) (tgA k x)))] (tgA k x) := by
  have h8 := hw.2.2.2.2.2.1
  have hsz := hw.2.2.2.2.2.2.2
  refine ctI_of (by decide +kernel) (Nat.le_of_ble_eq_true rfl) (fun p_ e_ s_ m_ args_ below_ meth_ c_ A_ X => ?_)
  refine g_lv X (lv' := [(0, .ref (ay 0)), (1, .int (x))]) [0, 1] rfl ?_
  refine g_iload_n (pc := 0) X dX4_together_0 1 rfl ?_
  refine g_iconst (v := 0) (pc := 1) X dX4_together_1 (by decide) ?_
  refine g_aload_n (pc := 2) X dX4_together_2 0 rfl ?_
  refine g_callV (pc := 3) (rest := [.int (0), .int (x)]) (ss' := [wM cy ay k v]) X (c_X4_all l D cy ay k v ) vl_X4_175 dX4_together_3 [0] 0 0 rfl rfl rfl rfl rfl rfl rfl rfl rfl rfl rfl rfl rfl ⟨Nat.zero_le _, Nat.zero_le _⟩ ?_
  refine g_callS (pc := 6) (rest := []) X (c_X4_within l D cy x 0 (allT k) ) sl_X4_56 dX4_together_6 rfl rfl rfl rfl rfl ⟨Nat.zero_le _, Nat.zero_le _⟩ ?_
  refine g_bif_ne (pc := 9) (tgt := 18) X dX4_together_9 (by decide) (fun c9 => ?_) (fun c9 => ?_)
  · have hb := (wi_all h8).symm.trans c9
    refine g_aload_n (pc := 18) X dX4_together_18 0 rfl ?_
    refine g_get (pc := 19) X (v := .int (nI (kNs k))) fl_X4_162 dX4_together_19 0 0 rfl rfl rfl ?_
    refine g_bipush (v := 8) (pc := 22) X dX4_together_22 (by decide) ?_
    refine g_ncmp_ne (pc := 24) (tgt := 34) X dX4_together_24 (by decide) (kNs k) 8 rfl rfl (by omega) (by decide) (fun c24 => ?_) (fun c24 => ?_)
    · have n24 : kNs k < 8 := by omega
      clear c24
      refine g_aload_n (pc := 34) X dX4_together_34 0 rfl ?_
      refine g_get (pc := 35) X (v := .ref (ay 6)) fl_X4_25 dX4_together_35 0 0 rfl rfl rfl ?_
      refine g_aload_n (pc := 38) X dX4_together_38 0 rfl ?_
      refine g_dup (pc := 39) X dX4_together_39 rfl ?_
      refine g_get (pc := 40) X (v := .int (nI (kNs k))) fl_X4_162 dX4_together_40 0 0 rfl rfl rfl ?_
      refine g_dup_x1 (pc := 43) X dX4_together_43 rfl rfl ?_
      refine g_iconst (v := 1) (pc := 44) X dX4_together_44 (by decide) ?_
      refine g_iadd (v := nI (kNs k + 1)) (pc := 45) X dX4_together_45 (nI_add (kNs k) 1) ?_
      refine g_put (pc := 46) X (ss' := [wM cy ay (sNs k (kNs k + 1)) v]) fp_X4_162 dX4_together_46 0 0 rfl rfl rfl rfl rfl rfl ?_
      refine g_iload_n (pc := 49) X dX4_together_49 1 rfl ?_
      refine g_iast_n (pc := 50) X (ss' := [wM cy ay (sSe (sNs k (kNs k + 1)) (upd (kSe k) (kNs k) x)) v]) 0 6 dX4_together_50 (kNs k) rfl rfl rfl (by omega) rfl rfl ?_
      refine g_aload_n (pc := 51) X dX4_together_51 0 rfl ?_
      refine g_get (pc := 52) X (v := .int (nI (kNs k + 1))) fl_X4_162 dX4_together_52 0 0 rfl rfl rfl ?_
      exact g_iret (pc := 55) X rfl dX4_together_55 rfl (by simp [tgA, *]) (by first | (simp [tgA, tgO, tgS, rfB, *]; done) | (simp [tgA, tgO, tgS, rfB, *]; rfl))
    · have n24 : ¬ kNs k < 8 := by omega
      clear c24
      refine g_aload_n (pc := 27) X dX4_together_27 0 rfl ?_
      refine g_bipush (v := (-6)) (pc := 28) X dX4_together_28 (by decide) ?_
      refine g_callV (pc := 30) (rest := []) (ss' := [wM cy ay k (uRf v (rfU (mRf v) ((-6))))]) X (c_X4_no l D cy ay k v ((-6)) rf_6) vl_X4_63 dX4_together_30 [0] 0 0 rfl rfl rfl rfl rfl rfl (ads_c (ads_M _ _ _ _ _ _) rfl) rfl rfl rfl rfl rfl rfl ⟨Nat.zero_le _, Nat.zero_le _⟩ ?_
      exact g_iret (pc := 33) X rfl dX4_together_33 rfl (by simp [tgA, *]) (by first | (simp [tgA, tgO, tgS, rfB, *]; done) | (simp [tgA, tgO, tgS, rfB, *]; rfl))
  · have hb := (wi_all h8).symm.trans c9
    refine g_aload_n (pc := 12) X dX4_together_12 0 rfl ?_
    refine g_iconst (v := (-1)) (pc := 13) X dX4_together_13 (by decide) ?_
    refine g_callV (pc := 14) (rest := []) (ss' := [wM cy ay k (uRf v (rfU (mRf v) ((-1))))]) X (c_X4_no l D cy ay k v ((-1)) rf_1) vl_X4_63 dX4_together_14 [0] 0 0 rfl rfl rfl rfl rfl rfl (ads_c (ads_M _ _ _ _ _ _) rfl) rfl rfl rfl rfl rfl rfl ⟨Nat.zero_le _, Nat.zero_le _⟩ ?_
    exact g_iret (pc := 17) X rfl dX4_together_17 rfl (by simp [tgA, *]) (by first | (simp [tgA, tgO, tgS, rfB, *]; done) | (simp [tgA, tgO, tgS, rfB, *]; rfl))
