set_option maxRecDepth 100000 in
set_option maxHeartbeats 4000000 in
theorem c_X2_statementLength (l : Launch) (D : va_G) (cy : ClassId) (x : Int32) : CtI l yX2_statementLength cX2_statementLength 1 .int 0 64 D cy [.int (x)] [] [] (nI (stN x)) := by
  refine ctI_of (by decide +kernel) (Nat.le_of_ble_eq_true rfl) (fun p_ e_ s_ m_ args_ below_ meth_ c_ A_ X => ?_)
  refine g_lv X (lv' := [(0, .int (x))]) [0] rfl ?_
  refine g_iload_n (pc := 0) X dX2_statementLength_0 0 rfl ?_
  by_cases e1_99 : x = (99 : Int32)
  · refine g_top X e1_99 ?_
    refine g_tableIn (pc := 1) (off := 89) (tgt := 90) X dX2_statementLength_1 (by decide) (by decide) (by decide) (by decide) ?_
    refine g_iconst (v := 3) (pc := 90) X dX2_statementLength_90 (by decide) ?_
    exact g_iret (pc := 91) X rfl dX2_statementLength_91 rfl (by subst_vars; simp only [stN, *, if_true, if_false]; first | done | rfl | decide) rfl
  by_cases e1_104 : x = (104 : Int32)
  · refine g_top X e1_104 ?_
    refine g_tableIn (pc := 1) (off := 89) (tgt := 90) X dX2_statementLength_1 (by decide) (by decide) (by decide) (by decide) ?_
    refine g_iconst (v := 3) (pc := 90) X dX2_statementLength_90 (by decide) ?_
    exact g_iret (pc := 91) X rfl dX2_statementLength_91 rfl (by subst_vars; simp only [stN, *, if_true, if_false]; first | done | rfl | decide) rfl
  by_cases e1_108 : x = (108 : Int32)
  · refine g_top X e1_108 ?_
    refine g_tableIn (pc := 1) (off := 87) (tgt := 88) X dX2_statementLength_1 (by decide) (by decide) (by decide) (by decide) ?_
    refine g_iconst (v := 4) (pc := 88) X dX2_statementLength_88 (by decide) ?_
    exact g_iret (pc := 89) X rfl dX2_statementLength_89 rfl (by subst_vars; simp only [stN, *, if_true, if_false]; first | done | rfl | decide) rfl
  by_cases e1_109 : x = (109 : Int32)
  · refine g_top X e1_109 ?_
    refine g_tableIn (pc := 1) (off := 87) (tgt := 88) X dX2_statementLength_1 (by decide) (by decide) (by decide) (by decide) ?_
    refine g_iconst (v := 4) (pc := 88) X dX2_statementLength_88 (by decide) ?_
    exact g_iret (pc := 89) X rfl dX2_statementLength_89 rfl (by subst_vars; simp only [stN, *, if_true, if_false]; first | done | rfl | decide) rfl
  by_cases e1_111 : x = (111 : Int32)
  · refine g_top X e1_111 ?_
    refine g_tableIn (pc := 1) (off := 87) (tgt := 88) X dX2_statementLength_1 (by decide) (by decide) (by decide) (by decide) ?_
    refine g_iconst (v := 4) (pc := 88) X dX2_statementLength_88 (by decide) ?_
    exact g_iret (pc := 89) X rfl dX2_statementLength_89 rfl (by subst_vars; simp only [stN, *, if_true, if_false]; first | done | rfl | decide) rfl
  by_cases e1_116 : x = (116 : Int32)
  · refine g_top X e1_116 ?_
    refine g_tableIn (pc := 1) (off := 87) (tgt := 88) X dX2_statementLength_1 (by decide) (by decide) (by decide) (by decide) ?_
    refine g_iconst (v := 4) (pc := 88) X dX2_statementLength_88 (by decide) ?_
    exact g_iret (pc := 89) X rfl dX2_statementLength_89 rfl (by subst_vars; simp only [stN, *, if_true, if_false]; first | done | rfl | decide) rfl
  have f1_99 := lv_neT (a := 99) e1_99 (by decide)
  have f1_104 := lv_neT (a := 104) e1_104 (by decide)
  have f1_108 := lv_neT (a := 108) e1_108 (by decide)
  have f1_109 := lv_neT (a := 109) e1_109 (by decide)
  have f1_111 := lv_neT (a := 111) e1_111 (by decide)
  have f1_116 := lv_neT (a := 116) e1_116 (by decide)
  by_cases hr1 : x.toInt < 99 ∨ 116 < x.toInt
  · refine g_tableOut (pc := 1) (tgt := 92) X dX2_statementLength_1 hr1 (by decide) ?_
    refine g_iconst (v := 0) (pc := 92) X dX2_statementLength_92 (by decide) ?_
    exact g_iret (pc := 93) X rfl dX2_statementLength_93 rfl (by subst_vars; simp only [stN, *, if_true, if_false]; first | done | rfl | decide) rfl
  · have tb1 : ∀ q, q < 18 → q ≠ 0 → q ≠ 5 → q ≠ 9 → q ≠ 10 → q ≠ 12 → q ≠ 17 → ((#[89, 91, 91, 91, 91, 89, 91, 91, 91, 87, 87, 91, 87, 91, 91, 91, 91, 87] : Array Int))[q]? = some 91 := by
      intro q hq
      rcases (show q = 0 ∨ q = 1 ∨ q = 2 ∨ q = 3 ∨ q = 4 ∨ q = 5 ∨ q = 6 ∨ q = 7 ∨ q = 8 ∨ q = 9 ∨ q = 10 ∨ q = 11 ∨ q = 12 ∨ q = 13 ∨ q = 14 ∨ q = 15 ∨ q = 16 ∨ q = 17 by omega) with rfl | rfl | rfl | rfl | rfl | rfl | rfl | rfl | rfl | rfl | rfl | rfl | rfl | rfl | rfl | rfl | rfl | rfl
      all_goals (intros; first | rfl | contradiction)
    refine g_tableIn (pc := 1) (off := 91) (tgt := 92) X dX2_statementLength_1 (by omega) (by omega) (tb1 _ (by omega) (by omega) (by omega) (by omega) (by omega) (by omega) (by omega)) (by decide) ?_
    refine g_iconst (v := 0) (pc := 92) X dX2_statementLength_92 (by decide) ?_
    exact g_iret (pc := 93) X rfl dX2_statementLength_93 rfl (by subst_vars; simp only [stN, *, if_true, if_false]; first | done | rfl | decide) rfl
set_option maxRecDepth 100000 in
set_option maxHeartbeats 4000000 in
theorem c_X2_fits (l : Launch) (D : va_G) (cy : ClassId) (f : Int32) (q : Nat) (x : Int32) (hq : q < 1000) : CtI l yX2_fits cX2_fits 4 .boolean 1 84 D cy [.int (f), .int (nI q), .int (x)] [] [] (bI (fitB f q x)) := by
  have h4 := st_4 f
  refine ctI_of (by decide +kernel) (Nat.le_of_ble_eq_true rfl) (fun p_ e_ s_ m_ args_ below_ meth_ c_ A_ X => ?_)
  refine g_lv X (lv' := [(0, .int (f)), (1, .int (nI q)), (2, .int (x))]) [0, 1, 2] rfl ?_
  refine g_iload_n (pc := 0) X dX2_fits_0 0 rfl ?_
  refine g_callS (pc := 1) (rest := []) X (c_X2_statementLength l D cy f ) sl_X2_32 dX2_fits_1 rfl rfl rfl rfl rfl ⟨Nat.zero_le _, Nat.zero_le _⟩ ?_
  refine g_istore_n (lv' := [(3, .int (nI (stN f))), (0, .int (f)), (1, .int (nI q)), (2, .int (x))]) (pc := 4) X dX2_fits_4 rfl rfl rfl ?_
  refine g_iload_n (pc := 5) X dX2_fits_5 2 rfl ?_
  refine g_nif_ne (pc := 6) (tgt := 19) X dX2_fits_6 (by decide) q rfl (by omega) (fun c6 => ?_) (fun c6 => ?_)
  · refine g_iload_n (pc := 19) X dX2_fits_19 2 rfl ?_
    refine g_iload_n (pc := 20) X dX2_fits_20 0 rfl ?_
    refine g_iconst (v := 1) (pc := 21) X dX2_fits_21 (by decide) ?_
    refine g_isub (v := nI (stN f) - 1) (pc := 22) X dX2_fits_22 rfl ?_
    refine g_icmp_ne (pc := 23) (tgt := 38) X dX2_fits_23 (by decide) (fun c23 => ?_) (fun c23 => ?_)
    · refine g_iload_n (pc := 38) X dX2_fits_38 1 rfl ?_
      refine g_bipush (v := 116) (pc := 39) X dX2_fits_39 (by decide) ?_
      refine g_icmp_ne (pc := 41) (tgt := 66) X dX2_fits_41 (by decide) (fun c41 => ?_) (fun c41 => ?_)
      · refine g_iload_n (pc := 66) X dX2_fits_66 3 rfl ?_
        refine g_callS (pc := 67) (rest := []) X (c_X2_digit l D cy x ) sl_X2_39 dX2_fits_67 rfl rfl rfl rfl rfl ⟨Nat.zero_le _, Nat.zero_le _⟩ ?_
        refine g_bipush (v := (-9)) (pc := 70) X dX2_fits_70 (by decide) ?_
        refine g_icmp_eq (pc := 72) (tgt := 79) X dX2_fits_72 (by decide) (fun c72 => ?_) (fun c72 => ?_)
        · refine g_iconst (v := 0) (pc := 79) X dX2_fits_79 (by decide) ?_
          exact g_iret (pc := 80) X rfl dX2_fits_80 rfl (by first | exact bI_t (by rw [fitB, if_neg c6, if_neg c23, if_pos ⟨c41, c46⟩]; exact decide_eq_true c55) | exact bI_f (by rw [fitB, if_neg c6, if_neg c23, if_pos ⟨c41, c46⟩]; exact decide_eq_false (by first | exact c55 | exact not_not_intro c55 | omega)) | exact bI_t (by rw [fitB, if_neg c6, if_neg c23, if_neg (fun q => c46 q.2)]; exact decide_eq_true c72) | exact bI_f (by rw [fitB, if_neg c6, if_neg c23, if_neg (fun q => c46 q.2)]; exact decide_eq_false (by first | exact c72 | exact not_not_intro c72 | omega)) | exact bI_t (by rw [fitB, if_neg c6, if_neg c23, if_neg (fun q => c41 q.1)]; exact decide_eq_true c72) | exact bI_f (by rw [fitB, if_neg c6, if_neg c23, if_neg (fun q => c41 q.1)]; exact decide_eq_false (by first | exact c72 | exact not_not_intro c72 | omega)) | exact bI_t (by rw [fitB, if_neg c6, if_pos c23]; exact decide_eq_true c29) | exact bI_f (by rw [fitB, if_neg c6, if_pos c23]; exact decide_eq_false (by first | exact c29 | exact not_not_intro c29 | omega)) | exact bI_t (by rw [fitB, if_pos c6]; exact decide_eq_true c10) | exact bI_f (by rw [fitB, if_pos c6]; exact decide_eq_false (by first | exact c10 | exact not_not_intro c10 | omega)) | done) rfl
        · refine g_iconst (v := 1) (pc := 75) X dX2_fits_75 (by decide) ?_
          refine g_goto (pc := 76) (tgt := 80) X dX2_fits_76 (by decide) ?_
          exact g_iret (pc := 80) X rfl dX2_fits_80 rfl (by first | exact bI_t (by rw [fitB, if_neg c6, if_neg c23, if_pos ⟨c41, c46⟩]; exact decide_eq_true c55) | exact bI_f (by rw [fitB, if_neg c6, if_neg c23, if_pos ⟨c41, c46⟩]; exact decide_eq_false (by first | exact c55 | exact not_not_intro c55 | omega)) | exact bI_t (by rw [fitB, if_neg c6, if_neg c23, if_neg (fun q => c46 q.2)]; exact decide_eq_true c72) | exact bI_f (by rw [fitB, if_neg c6, if_neg c23, if_neg (fun q => c46 q.2)]; exact decide_eq_false (by first | exact c72 | exact not_not_intro c72 | omega)) | exact bI_t (by rw [fitB, if_neg c6, if_neg c23, if_neg (fun q => c41 q.1)]; exact decide_eq_true c72) | exact bI_f (by rw [fitB, if_neg c6, if_neg c23, if_neg (fun q => c41 q.1)]; exact decide_eq_false (by first | exact c72 | exact not_not_intro c72 | omega)) | exact bI_t (by rw [fitB, if_neg c6, if_pos c23]; exact decide_eq_true c29) | exact bI_f (by rw [fitB, if_neg c6, if_pos c23]; exact decide_eq_false (by first | exact c29 | exact not_not_intro c29 | omega)) | exact bI_t (by rw [fitB, if_pos c6]; exact decide_eq_true c10) | exact bI_f (by rw [fitB, if_pos c6]; exact decide_eq_false (by first | exact c10 | exact not_not_intro c10 | omega)) | done) rfl
      · refine g_iload_n (pc := 44) X dX2_fits_44 2 rfl ?_
        refine g_iconst (v := 1) (pc := 45) X dX2_fits_45 (by decide) ?_
        refine g_ncmp_ne (pc := 46) (tgt := 66) X dX2_fits_46 (by decide) q 1 rfl rfl (by omega) (by decide) (fun c46 => ?_) (fun c46 => ?_)
        · refine g_iload_n (pc := 66) X dX2_fits_66 3 rfl ?_
          refine g_callS (pc := 67) (rest := []) X (c_X2_digit l D cy x ) sl_X2_39 dX2_fits_67 rfl rfl rfl rfl rfl ⟨Nat.zero_le _, Nat.zero_le _⟩ ?_
          refine g_bipush (v := (-9)) (pc := 70) X dX2_fits_70 (by decide) ?_
          refine g_icmp_eq (pc := 72) (tgt := 79) X dX2_fits_72 (by decide) (fun c72 => ?_) (fun c72 => ?_)
          · refine g_iconst (v := 0) (pc := 79) X dX2_fits_79 (by decide) ?_
            exact g_iret (pc := 80) X rfl dX2_fits_80 rfl (by first | exact bI_t (by rw [fitB, if_neg c6, if_neg c23, if_pos ⟨c41, c46⟩]; exact decide_eq_true c55) | exact bI_f (by rw [fitB, if_neg c6, if_neg c23, if_pos ⟨c41, c46⟩]; exact decide_eq_false (by first | exact c55 | exact not_not_intro c55 | omega)) | exact bI_t (by rw [fitB, if_neg c6, if_neg c23, if_neg (fun q => c46 q.2)]; exact decide_eq_true c72) | exact bI_f (by rw [fitB, if_neg c6, if_neg c23, if_neg (fun q => c46 q.2)]; exact decide_eq_false (by first | exact c72 | exact not_not_intro c72 | omega)) | exact bI_t (by rw [fitB, if_neg c6, if_neg c23, if_neg (fun q => c41 q.1)]; exact decide_eq_true c72) | exact bI_f (by rw [fitB, if_neg c6, if_neg c23, if_neg (fun q => c41 q.1)]; exact decide_eq_false (by first | exact c72 | exact not_not_intro c72 | omega)) | exact bI_t (by rw [fitB, if_neg c6, if_pos c23]; exact decide_eq_true c29) | exact bI_f (by rw [fitB, if_neg c6, if_pos c23]; exact decide_eq_false (by first | exact c29 | exact not_not_intro c29 | omega)) | exact bI_t (by rw [fitB, if_pos c6]; exact decide_eq_true c10) | exact bI_f (by rw [fitB, if_pos c6]; exact decide_eq_false (by first | exact c10 | exact not_not_intro c10 | omega)) | done) rfl
          · refine g_iconst (v := 1) (pc := 75) X dX2_fits_75 (by decide) ?_
            refine g_goto (pc := 76) (tgt := 80) X dX2_fits_76 (by decide) ?_
            exact g_iret (pc := 80) X rfl dX2_fits_80 rfl (by first | exact bI_t (by rw [fitB, if_neg c6, if_neg c23, if_pos ⟨c41, c46⟩]; exact decide_eq_true c55) | exact bI_f (by rw [fitB, if_neg c6, if_neg c23, if_pos ⟨c41, c46⟩]; exact decide_eq_false (by first | exact c55 | exact not_not_intro c55 | omega)) | exact bI_t (by rw [fitB, if_neg c6, if_neg c23, if_neg (fun q => c46 q.2)]; exact decide_eq_true c72) | exact bI_f (by rw [fitB, if_neg c6, if_neg c23, if_neg (fun q => c46 q.2)]; exact decide_eq_false (by first | exact c72 | exact not_not_intro c72 | omega)) | exact bI_t (by rw [fitB, if_neg c6, if_neg c23, if_neg (fun q => c41 q.1)]; exact decide_eq_true c72) | exact bI_f (by rw [fitB, if_neg c6, if_neg c23, if_neg (fun q => c41 q.1)]; exact decide_eq_false (by first | exact c72 | exact not_not_intro c72 | omega)) | exact bI_t (by rw [fitB, if_neg c6, if_pos c23]; exact decide_eq_true c29) | exact bI_f (by rw [fitB, if_neg c6, if_pos c23]; exact decide_eq_false (by first | exact c29 | exact not_not_intro c29 | omega)) | exact bI_t (by rw [fitB, if_pos c6]; exact decide_eq_true c10) | exact bI_f (by rw [fitB, if_pos c6]; exact decide_eq_false (by first | exact c10 | exact not_not_intro c10 | omega)) | done) rfl
        · refine g_iload_n (pc := 49) X dX2_fits_49 3 rfl ?_
          refine g_callS (pc := 50) (rest := []) X (c_X2_kind l D cy x ) sl_X2_36 dX2_fits_50 rfl rfl rfl rfl rfl ⟨Nat.zero_le _, Nat.zero_le _⟩ ?_
          refine g_bipush (v := (-9)) (pc := 53) X dX2_fits_53 (by decide) ?_
          refine g_icmp_eq (pc := 55) (tgt := 62) X dX2_fits_55 (by decide) (fun c55 => ?_) (fun c55 => ?_)
          · refine g_iconst (v := 0) (pc := 62) X dX2_fits_62 (by decide) ?_
            refine g_goto (pc := 63) (tgt := 80) X dX2_fits_63 (by decide) ?_
            exact g_iret (pc := 80) X rfl dX2_fits_80 rfl (by first | exact bI_t (by rw [fitB, if_neg c6, if_neg c23, if_pos ⟨c41, c46⟩]; exact decide_eq_true c55) | exact bI_f (by rw [fitB, if_neg c6, if_neg c23, if_pos ⟨c41, c46⟩]; exact decide_eq_false (by first | exact c55 | exact not_not_intro c55 | omega)) | exact bI_t (by rw [fitB, if_neg c6, if_neg c23, if_neg (fun q => c46 q.2)]; exact decide_eq_true c72) | exact bI_f (by rw [fitB, if_neg c6, if_neg c23, if_neg (fun q => c46 q.2)]; exact decide_eq_false (by first | exact c72 | exact not_not_intro c72 | omega)) | exact bI_t (by rw [fitB, if_neg c6, if_neg c23, if_neg (fun q => c41 q.1)]; exact decide_eq_true c72) | exact bI_f (by rw [fitB, if_neg c6, if_neg c23, if_neg (fun q => c41 q.1)]; exact decide_eq_false (by first | exact c72 | exact not_not_intro c72 | omega)) | exact bI_t (by rw [fitB, if_neg c6, if_pos c23]; exact decide_eq_true c29) | exact bI_f (by rw [fitB, if_neg c6, if_pos c23]; exact decide_eq_false (by first | exact c29 | exact not_not_intro c29 | omega)) | exact bI_t (by rw [fitB, if_pos c6]; exact decide_eq_true c10) | exact bI_f (by rw [fitB, if_pos c6]; exact decide_eq_false (by first | exact c10 | exact not_not_intro c10 | omega)) | done) rfl
          · refine g_iconst (v := 1) (pc := 58) X dX2_fits_58 (by decide) ?_
            refine g_goto (pc := 59) (tgt := 80) X dX2_fits_59 (by decide) ?_
            exact g_iret (pc := 80) X rfl dX2_fits_80 rfl (by first | exact bI_t (by rw [fitB, if_neg c6, if_neg c23, if_pos ⟨c41, c46⟩]; exact decide_eq_true c55) | exact bI_f (by rw [fitB, if_neg c6, if_neg c23, if_pos ⟨c41, c46⟩]; exact decide_eq_false (by first | exact c55 | exact not_not_intro c55 | omega)) | exact bI_t (by rw [fitB, if_neg c6, if_neg c23, if_neg (fun q => c46 q.2)]; exact decide_eq_true c72) | exact bI_f (by rw [fitB, if_neg c6, if_neg c23, if_neg (fun q => c46 q.2)]; exact decide_eq_false (by first | exact c72 | exact not_not_intro c72 | omega)) | exact bI_t (by rw [fitB, if_neg c6, if_neg c23, if_neg (fun q => c41 q.1)]; exact decide_eq_true c72) | exact bI_f (by rw [fitB, if_neg c6, if_neg c23, if_neg (fun q => c41 q.1)]; exact decide_eq_false (by first | exact c72 | exact not_not_intro c72 | omega)) | exact bI_t (by rw [fitB, if_neg c6, if_pos c23]; exact decide_eq_true c29) | exact bI_f (by rw [fitB, if_neg c6, if_pos c23]; exact decide_eq_false (by first | exact c29 | exact not_not_intro c29 | omega)) | exact bI_t (by rw [fitB, if_pos c6]; exact decide_eq_true c10) | exact bI_f (by rw [fitB, if_pos c6]; exact decide_eq_false (by first | exact c10 | exact not_not_intro c10 | omega)) | done) rfl
    · refine g_iload_n (pc := 26) X dX2_fits_26 3 rfl ?_
      refine g_bipush (v := 59) (pc := 27) X dX2_fits_27 (by decide) ?_
      refine g_icmp_ne (pc := 29) (tgt := 36) X dX2_fits_29 (by decide) (fun c29 => ?_) (fun c29 => ?_)
      · refine g_iconst (v := 0) (pc := 36) X dX2_fits_36 (by decide) ?_
        exact g_iret (pc := 37) X rfl dX2_fits_37 rfl (by first | exact bI_t (by rw [fitB, if_neg c6, if_neg c23, if_pos ⟨c41, c46⟩]; exact decide_eq_true c55) | exact bI_f (by rw [fitB, if_neg c6, if_neg c23, if_pos ⟨c41, c46⟩]; exact decide_eq_false (by first | exact c55 | exact not_not_intro c55 | omega)) | exact bI_t (by rw [fitB, if_neg c6, if_neg c23, if_neg (fun q => c46 q.2)]; exact decide_eq_true c72) | exact bI_f (by rw [fitB, if_neg c6, if_neg c23, if_neg (fun q => c46 q.2)]; exact decide_eq_false (by first | exact c72 | exact not_not_intro c72 | omega)) | exact bI_t (by rw [fitB, if_neg c6, if_neg c23, if_neg (fun q => c41 q.1)]; exact decide_eq_true c72) | exact bI_f (by rw [fitB, if_neg c6, if_neg c23, if_neg (fun q => c41 q.1)]; exact decide_eq_false (by first | exact c72 | exact not_not_intro c72 | omega)) | exact bI_t (by rw [fitB, if_neg c6, if_pos c23]; exact decide_eq_true c29) | exact bI_f (by rw [fitB, if_neg c6, if_pos c23]; exact decide_eq_false (by first | exact c29 | exact not_not_intro c29 | omega)) | exact bI_t (by rw [fitB, if_pos c6]; exact decide_eq_true c10) | exact bI_f (by rw [fitB, if_pos c6]; exact decide_eq_false (by first | exact c10 | exact not_not_intro c10 | omega)) | done) rfl
      · refine g_iconst (v := 1) (pc := 32) X dX2_fits_32 (by decide) ?_
        refine g_goto (pc := 33) (tgt := 37) X dX2_fits_33 (by decide) ?_
        exact g_iret (pc := 37) X rfl dX2_fits_37 rfl (by first | exact bI_t (by rw [fitB, if_neg c6, if_neg c23, if_pos ⟨c41, c46⟩]; exact decide_eq_true c55) | exact bI_f (by rw [fitB, if_neg c6, if_neg c23, if_pos ⟨c41, c46⟩]; exact decide_eq_false (by first | exact c55 | exact not_not_intro c55 | omega)) | exact bI_t (by rw [fitB, if_neg c6, if_neg c23, if_neg (fun q => c46 q.2)]; exact decide_eq_true c72) | exact bI_f (by rw [fitB, if_neg c6, if_neg c23, if_neg (fun q => c46 q.2)]; exact decide_eq_false (by first | exact c72 | exact not_not_intro c72 | omega)) | exact bI_t (by rw [fitB, if_neg c6, if_neg c23, if_neg (fun q => c41 q.1)]; exact decide_eq_true c72) | exact bI_f (by rw [fitB, if_neg c6, if_neg c23, if_neg (fun q => c41 q.1)]; exact decide_eq_false (by first | exact c72 | exact not_not_intro c72 | omega)) | exact bI_t (by rw [fitB, if_neg c6, if_pos c23]; exact decide_eq_true c29) | exact bI_f (by rw [fitB, if_neg c6, if_pos c23]; exact decide_eq_false (by first | exact c29 | exact not_not_intro c29 | omega)) | exact bI_t (by rw [fitB, if_pos c6]; exact decide_eq_true c10) | exact bI_f (by rw [fitB, if_pos c6]; exact decide_eq_false (by first | exact c10 | exact not_not_intro c10 | omega)) | done) rfl
  · refine g_iload_n (pc := 9) X dX2_fits_9 0 rfl ?_
    refine g_nif_le (pc := 10) (tgt := 17) X dX2_fits_10 (by decide) (stN f) rfl (by omega) (fun c10 => ?_) (fun c10 => ?_)
    · refine g_iconst (v := 0) (pc := 17) X dX2_fits_17 (by decide) ?_
      exact g_iret (pc := 18) X rfl dX2_fits_18 rfl (by first | exact bI_t (by rw [fitB, if_neg c6, if_neg c23, if_pos ⟨c41, c46⟩]; exact decide_eq_true c55) | exact bI_f (by rw [fitB, if_neg c6, if_neg c23, if_pos ⟨c41, c46⟩]; exact decide_eq_false (by first | exact c55 | exact not_not_intro c55 | omega)) | exact bI_t (by rw [fitB, if_neg c6, if_neg c23, if_neg (fun q => c46 q.2)]; exact decide_eq_true c72) | exact bI_f (by rw [fitB, if_neg c6, if_neg c23, if_neg (fun q => c46 q.2)]; exact decide_eq_false (by first | exact c72 | exact not_not_intro c72 | omega)) | exact bI_t (by rw [fitB, if_neg c6, if_neg c23, if_neg (fun q => c41 q.1)]; exact decide_eq_true c72) | exact bI_f (by rw [fitB, if_neg c6, if_neg c23, if_neg (fun q => c41 q.1)]; exact decide_eq_false (by first | exact c72 | exact not_not_intro c72 | omega)) | exact bI_t (by rw [fitB, if_neg c6, if_pos c23]; exact decide_eq_true c29) | exact bI_f (by rw [fitB, if_neg c6, if_pos c23]; exact decide_eq_false (by first | exact c29 | exact not_not_intro c29 | omega)) | exact bI_t (by rw [fitB, if_pos c6]; exact decide_eq_true c10) | exact bI_f (by rw [fitB, if_pos c6]; exact decide_eq_false (by first | exact c10 | exact not_not_intro c10 | omega)) | done) rfl
    · refine g_iconst (v := 1) (pc := 13) X dX2_fits_13 (by decide) ?_
      refine g_goto (pc := 14) (tgt := 18) X dX2_fits_14 (by decide) ?_
      exact g_iret (pc := 18) X rfl dX2_fits_18 rfl (by first | exact bI_t (by rw [fitB, if_neg c6, if_neg c23, if_pos ⟨c41, c46⟩]; exact decide_eq_true c55) | exact bI_f (by rw [fitB, if_neg c6, if_neg c23, if_pos ⟨c41, c46⟩]; exact decide_eq_false (by first | exact c55 | exact not_not_intro c55 | omega)) | exact bI_t (by rw [fitB, if_neg c6, if_neg c23, if_neg (fun q => c46 q.2)]; exact decide_eq_true c72) | exact bI_f (by rw [fitB, if_neg c6, if_neg c23, if_neg (fun q => c46 q.2)]; exact decide_eq_false (by first | exact c72 | exact not_not_intro c72 | omega)) | exact bI_t (by rw [fitB, if_neg c6, if_neg c23, if_neg (fun q => c41 q.1)]; exact decide_eq_true c72) | exact bI_f (by rw [fitB, if_neg c6, if_neg c23, if_neg (fun q => c41 q.1)]; exact decide_eq_false (by first | exact c72 | exact not_not_intro c72 | omega)) | exact bI_t (by rw [fitB, if_neg c6, if_pos c23]; exact decide_eq_true c29) | exact bI_f (by rw [fitB, if_neg c6, if_pos c23]; exact decide_eq_false (by first | exact c29 | exact not_not_intro c29 | omega)) | exact bI_t (by rw [fitB, if_pos c6]; exact decide_eq_true c10) | exact bI_f (by rw [fitB, if_pos c6]; exact decide_eq_false (by first | exact c10 | exact not_not_intro c10 | omega)) | done) rfl
set_option maxRecDepth 100000 in
set_option maxHeartbeats 4000000 in
theorem c_X2_firstUnfit (l : Launch) (D : va_G) (cy : ClassId) (aT : Nat → Nat) (lt : Nat → Int32) (n : Nat) (h80 : n ≤ 80) : CtI l yX2_firstUnfit cX2_firstUnfit 3 .int 2 107 D cy [.ref (aT 0)] [wT cy aT lt n] [wT cy aT lt n] (fuA lt n) := by
  refine ctI_of (by decide +kernel) (Nat.le_of_ble_eq_true rfl) (fun p_ e_ s_ m_ args_ below_ meth_ c_ A_ X => ?_)
  refine g_lv X (lv' := [(0, .ref (aT 0))]) [0] rfl ?_
  refine g_iconst (v := 0) (pc := 0) X dX2_firstUnfit_0 (by decide) ?_
  refine g_istore_n (lv' := [(1, .int (0)), (0, .ref (aT 0))]) (pc := 1) X dX2_firstUnfit_1 rfl rfl rfl ?_
  refine g_iconst (v := 0) (pc := 2) X dX2_firstUnfit_2 (by decide) ?_
  refine g_istore_n (lv' := [(2, .int (0)), (1, .int (0)), (0, .ref (aT 0))]) (pc := 3) X dX2_firstUnfit_3 rfl rfl rfl ?_
  have L4_1 : ∀ (fu_ : Nat) (s : Nat) (i : Nat) (hs : s ≤ i) (hi : i ≤ n) (hq : fuA lt n = fuK lt n (n - i) s i) (hm : n - i < fu_), G p_ l e_ { frames := 2, cells := 0, slots := 0, locals := 107 } s_ m_ args_ below_ meth_ c_ 3 D A_ 0 0 (QI below_ args_ s_ D A_ [wT cy aT lt n] (fuA lt n)) [wT cy aT lt n] 4 [(0, .ref (aT 0)), (1, .int (nI s)), (2, .int (nI i))] [] := by
    intro fu_
    induction fu_ with
    | zero => intro s i hs hi hq hm; exact absurd hm (Nat.not_lt_zero _)
    | succ fu_ ih =>
      intro s i hs hi hq hm
      have ih4 := ih
      clear ih
      refine g_iload_n (pc := 4) X dX2_firstUnfit_4 2 rfl ?_
      refine g_aload_n (pc := 5) X dX2_firstUnfit_5 0 rfl ?_
      refine g_get (pc := 6) X (v := .int (nI n)) fl_X2_15 dX2_firstUnfit_6 0 0 rfl rfl rfl ?_
      refine g_ncmp_ge (pc := 9) (tgt := 56) X dX2_firstUnfit_9 (by decide) i n rfl rfl (by omega) (by omega) (fun c9 => ?_) (fun c9 => ?_)
      · have n9 := Nat.not_lt.mpr c9
        refine g_aload_n (pc := 56) X dX2_firstUnfit_56 0 rfl ?_
        refine g_get (pc := 57) X (v := .int (nI n)) fl_X2_15 dX2_firstUnfit_57 0 0 rfl rfl rfl ?_
        refine g_nif_le (pc := 60) (tgt := 76) X dX2_firstUnfit_60 (by decide) n rfl (by omega) (fun c60 => ?_) (fun c60 => ?_)
        · refine g_aload_n (pc := 76) X dX2_firstUnfit_76 0 rfl ?_
          refine g_get (pc := 77) X (v := .int (nI n)) fl_X2_15 dX2_firstUnfit_77 0 0 rfl rfl rfl ?_
          exact g_iret (pc := 80) X rfl dX2_firstUnfit_80 rfl (by rw [hq, show n - i = 0 by omega, fuK]; first | (rw [if_pos ⟨c60, c68⟩]; done) | (rw [if_neg (fun q => c68 q.2)]; done) | (rw [if_neg (by omega)]; done)) rfl
        · refine g_iload_n (pc := 63) X dX2_firstUnfit_63 1 rfl ?_
          refine g_aload_n (pc := 64) X dX2_firstUnfit_64 0 rfl ?_
          refine g_get (pc := 65) X (v := .int (nI n)) fl_X2_15 dX2_firstUnfit_65 0 0 rfl rfl rfl ?_
          refine g_ncmp_ne (pc := 68) (tgt := 76) X dX2_firstUnfit_68 (by decide) s n rfl rfl (by omega) (by omega) (fun c68 => ?_) (fun c68 => ?_)
          · refine g_aload_n (pc := 76) X dX2_firstUnfit_76 0 rfl ?_
            refine g_get (pc := 77) X (v := .int (nI n)) fl_X2_15 dX2_firstUnfit_77 0 0 rfl rfl rfl ?_
            exact g_iret (pc := 80) X rfl dX2_firstUnfit_80 rfl (by rw [hq, show n - i = 0 by omega, fuK]; first | (rw [if_pos ⟨c60, c68⟩]; done) | (rw [if_neg (fun q => c68 q.2)]; done) | (rw [if_neg (by omega)]; done)) rfl
          · refine g_bipush (v := (-9)) (pc := 71) X dX2_firstUnfit_71 (by decide) ?_
            refine g_goto (pc := 73) (tgt := 80) X dX2_firstUnfit_73 (by decide) ?_
            exact g_iret (pc := 80) X rfl dX2_firstUnfit_80 rfl (by rw [hq, show n - i = 0 by omega, fuK]; first | (rw [if_pos ⟨c60, c68⟩]; done) | (rw [if_neg (fun q => c68 q.2)]; done) | (rw [if_neg (by omega)]; done)) rfl
      · refine g_aload_n (pc := 12) X dX2_firstUnfit_12 0 rfl ?_
        refine g_get (pc := 13) X (v := .ref (aT 1)) fl_X2_9 dX2_firstUnfit_13 0 0 rfl rfl rfl ?_
        refine g_iload_n (pc := 16) X dX2_firstUnfit_16 1 rfl ?_
        refine g_iald_n (pc := 17) (f := lt) X 0 1 dX2_firstUnfit_17 s rfl rfl rfl (by omega) rfl ?_
        refine g_iload_n (pc := 18) X dX2_firstUnfit_18 2 rfl ?_
        refine g_iload_n (pc := 19) X dX2_firstUnfit_19 1 rfl ?_
        refine g_isub (v := nI (i - s)) (pc := 20) X dX2_firstUnfit_20 (pk_sub (a := i) (b := s) (by omega)) ?_
        refine g_aload_n (pc := 21) X dX2_firstUnfit_21 0 rfl ?_
        refine g_get (pc := 22) X (v := .ref (aT 1)) fl_X2_9 dX2_firstUnfit_22 0 0 rfl rfl rfl ?_
        refine g_iload_n (pc := 25) X dX2_firstUnfit_25 2 rfl ?_
        refine g_iald_n (pc := 26) (f := lt) X 0 1 dX2_firstUnfit_26 i rfl rfl rfl (by omega) rfl ?_
        refine g_callS (pc := 27) (rest := []) X (c_X2_fits l D cy (lt s) (i - s) (lt i) (by first | assumption | omega)) sl_X2_29 dX2_firstUnfit_27 rfl rfl rfl rfl rfl ⟨Nat.zero_le _, Nat.zero_le _⟩ ?_
        refine g_bif_ne (pc := 30) (tgt := 35) X dX2_firstUnfit_30 (by decide) (fun c30 => ?_) (fun c30 => ?_)
        · refine g_aload_n (pc := 35) X dX2_firstUnfit_35 0 rfl ?_
          refine g_get (pc := 36) X (v := .ref (aT 1)) fl_X2_9 dX2_firstUnfit_36 0 0 rfl rfl rfl ?_
          refine g_iload_n (pc := 39) X dX2_firstUnfit_39 2 rfl ?_
          refine g_iald_n (pc := 40) (f := lt) X 0 1 dX2_firstUnfit_40 i rfl rfl rfl (by omega) rfl ?_
          refine g_bipush (v := 59) (pc := 41) X dX2_firstUnfit_41 (by decide) ?_
          refine g_icmp_ne (pc := 43) (tgt := 50) X dX2_firstUnfit_43 (by decide) (fun c43 => ?_) (fun c43 => ?_)
          · refine g_iinc (v := nI (i + 1)) (lv' := [(2, .int (nI (i + 1))), (0, .ref (aT 0)), (1, .int (nI s))]) (pc := 50) X dX2_firstUnfit_50 2 rfl (nI_1 i) rfl rfl ?_
            refine g_goto (pc := 53) (tgt := 4) X dX2_firstUnfit_53 (by decide) ?_
            refine g_lv X (lv' := [(0, .ref (aT 0)), (1, .int (nI s)), (2, .int (nI (i + 1)))]) [1, 2, 0] rfl ?_
            exact ih4 s (i + 1) (by omega) c9 (by rw [hq, show n - i = (n - (i + 1)) + 1 by omega, fuK, if_pos c30]; first | rw [if_pos c43] | rw [if_neg c43]) (by omega)
          · refine g_iload_n (pc := 46) X dX2_firstUnfit_46 2 rfl ?_
            refine g_iconst (v := 1) (pc := 47) X dX2_firstUnfit_47 (by decide) ?_
            refine g_iadd (v := nI (i + 1)) (pc := 48) X dX2_firstUnfit_48 (nI_add i 1) ?_
            refine g_istore_n (lv' := [(1, .int (nI (i + 1))), (0, .ref (aT 0)), (2, .int (nI i))]) (pc := 49) X dX2_firstUnfit_49 rfl rfl rfl ?_
            refine g_iinc (v := nI (i + 1)) (lv' := [(2, .int (nI (i + 1))), (1, .int (nI (i + 1))), (0, .ref (aT 0))]) (pc := 50) X dX2_firstUnfit_50 2 rfl (nI_1 i) rfl rfl ?_
            refine g_goto (pc := 53) (tgt := 4) X dX2_firstUnfit_53 (by decide) ?_
            refine g_lv X (lv' := [(0, .ref (aT 0)), (1, .int (nI (i + 1))), (2, .int (nI (i + 1)))]) [2, 1, 0] rfl ?_
            exact ih4 (i + 1) (i + 1) (by omega) c9 (by rw [hq, show n - i = (n - (i + 1)) + 1 by omega, fuK, if_pos c30]; first | rw [if_pos c43] | rw [if_neg c43]) (by omega)
        · refine g_iload_n (pc := 33) X dX2_firstUnfit_33 2 rfl ?_
          exact g_iret (pc := 34) X rfl dX2_firstUnfit_34 rfl (by rw [hq, show n - i = (n - (i + 1)) + 1 by omega, fuK, if_neg (by rw [c30]; decide)]) rfl
  refine g_lv X (lv' := [(0, .ref (aT 0)), (1, .int (0)), (2, .int (0))]) [2, 1, 0] rfl ?_
  exact L4_1 (n - 0 + 1) 0 0 (Nat.le_refl _) (Nat.zero_le _) rfl (Nat.lt_succ_self _)
set_option maxRecDepth 100000 in
set_option maxHeartbeats 4000000 in
theorem c_X2_readInto (l : Launch) (D : va_G) (cy : ClassId) (aT : Nat → Nat) (lt : Nat → Int32) (n : Nat) (ah : Nat → Nat) (k : KV) (h80 : n ≤ 80) (hw : KW k) : CtI l yX2_readInto cX2_readInto 6 .int 5 175 D cy [.ref (aT 0), .ref (ah 0)] [wT cy aT lt n, wH cy ah k] [wT cy aT lt n, wH cy ah ((riR lt n k).2)] ((riR lt n k).1) := by
  refine ctI_of (by decide +kernel) (Nat.le_of_ble_eq_true rfl) (fun p_ e_ s_ m_ args_ below_ meth_ c_ A_ X => ?_)
  refine g_lv X (lv' := [(0, .ref (aT 0)), (1, .ref (ah 0))]) [0, 1] rfl ?_
  refine g_aload_n (pc := 0) X dX2_readInto_0 0 rfl ?_
  refine g_callV (pc := 1) (rest := []) (ss' := [wT cy aT lt n, wH cy ah k]) X (c_X2_firstUnfit l D cy aT lt n (by first | assumption | omega)) vl_X2_19 dX2_readInto_1 [0] 0 0 rfl rfl rfl rfl rfl rfl rfl rfl rfl rfl rfl rfl rfl ⟨Nat.zero_le _, Nat.zero_le _⟩ ?_
  refine g_istore_n (lv' := [(2, .int (fuA lt n)), (0, .ref (aT 0)), (1, .ref (ah 0))]) (pc := 4) X dX2_readInto_4 rfl rfl rfl ?_
  refine g_iload_n (pc := 5) X dX2_readInto_5 0 rfl ?_
  refine g_bipush (v := (-9)) (pc := 6) X dX2_readInto_6 (by decide) ?_
  refine g_icmp_eq (pc := 8) (tgt := 17) X dX2_readInto_8 (by decide) (fun c8 => ?_) (fun c8 => ?_)
  · have hri : riR lt n k = rdK lt n 0 0 0 k := by rw [riR, if_pos c8]
    refine g_iconst (v := 0) (pc := 17) X dX2_readInto_17 (by decide) ?_
    refine g_istore_n (lv' := [(3, .int (0)), (2, .int (fuA lt n)), (0, .ref (aT 0)), (1, .ref (ah 0))]) (pc := 18) X dX2_readInto_18 rfl rfl rfl ?_
    refine g_iconst (v := 0) (pc := 19) X dX2_readInto_19 (by decide) ?_
    refine g_istore (lv' := [(4, .int (0)), (3, .int (0)), (2, .int (fuA lt n)), (0, .ref (aT 0)), (1, .ref (ah 0))]) (pc := 20) X dX2_readInto_20 rfl rfl ?_
    refine g_iconst (v := 0) (pc := 22) X dX2_readInto_22 (by decide) ?_
    refine g_istore (lv' := [(5, .int (0)), (4, .int (0)), (3, .int (0)), (2, .int (fuA lt n)), (0, .ref (aT 0)), (1, .ref (ah 0))]) (pc := 23) X dX2_readInto_23 rfl rfl ?_
    have L25_1 : ∀ (fu_ : Nat) (s : Nat) (i : Nat) (cn : Nat) (kv : KV) (hs : s ≤ i) (hi : i ≤ n) (hcn : cn ≤ i) (hkv : KW kv) (hq : riR lt n k = rdK lt (n - i) s i cn kv) (hm : n - i < fu_), G p_ l e_ { frames := 5, cells := 0, slots := 0, locals := 175 } s_ m_ args_ below_ meth_ c_ 6 D A_ 0 0 (QI below_ args_ s_ D A_ [wT cy aT lt n, wH cy ah ((riR lt n k).2)] ((riR lt n k).1)) [wT cy aT lt n, wH cy ah kv] 25 [(0, .ref (aT 0)), (1, .ref (ah 0)), (3, .int (nI cn)), (4, .int (nI s)), (5, .int (nI i))] [] := by
      intro fu_
      induction fu_ with
      | zero => intro s i cn kv hs hi hcn hkv hq hm; exact absurd hm (Nat.not_lt_zero _)
      | succ fu_ ih =>
        intro s i cn kv hs hi hcn hkv hq hm
        have ih25 := ih
        clear ih
        refine g_iload (pc := 25) X dX2_readInto_25 4 rfl ?_
        refine g_aload_n (pc := 27) X dX2_readInto_27 0 rfl ?_
        refine g_get (pc := 28) X (v := .int (nI n)) fl_X2_15 dX2_readInto_28 0 0 rfl rfl rfl ?_
        refine g_ncmp_ge (pc := 31) (tgt := 109) X dX2_readInto_31 (by decide) i n rfl rfl (by omega) (by omega) (fun c31 => ?_) (fun c31 => ?_)
        · have n31 := Nat.not_lt.mpr c31
          refine g_iload_n (pc := 109) X dX2_readInto_109 2 rfl ?_
          exact g_iret (pc := 110) X rfl dX2_readInto_110 rfl (by rw [hq, show n - i = 0 by omega]; rfl) (by rw [hq, show n - i = 0 by omega]; rfl)
        · refine g_aload_n (pc := 34) X dX2_readInto_34 0 rfl ?_
          refine g_get (pc := 35) X (v := .ref (aT 1)) fl_X2_9 dX2_readInto_35 0 0 rfl rfl rfl ?_
          refine g_iload (pc := 38) X dX2_readInto_38 4 rfl ?_
          refine g_iald_n (pc := 40) (f := lt) X 0 1 dX2_readInto_40 i rfl rfl rfl (by omega) rfl ?_
          refine g_bipush (v := 59) (pc := 41) X dX2_readInto_41 (by decide) ?_
          refine g_icmp_ne (pc := 43) (tgt := 103) X dX2_readInto_43 (by decide) (fun c43 => ?_) (fun c43 => ?_)
          · have hs43 : riR lt n k = rdK lt (n - (i + 1)) s (i + 1) cn kv := by rw [hq, show n - i = (n - (i + 1)) + 1 by omega, rdK, if_neg (fun q => c43 q.1)]
            refine g_iinc (v := nI (i + 1)) (lv' := [(5, .int (nI (i + 1))), (0, .ref (aT 0)), (1, .ref (ah 0)), (3, .int (nI cn)), (4, .int (nI s))]) (pc := 103) X dX2_readInto_103 4 rfl (nI_1 i) rfl rfl ?_
            refine g_goto (pc := 106) (tgt := 25) X dX2_readInto_106 (by decide) ?_
            refine g_lv X (lv' := [(0, .ref (aT 0)), (1, .ref (ah 0)), (3, .int (nI cn)), (4, .int (nI s)), (5, .int (nI (i + 1)))]) [1, 2, 3, 4, 0] rfl ?_
            exact ih25 s (i + 1) cn kv (by omega) c31 (by omega) (by first | exact hw81 | exact hkv | done) hs43 (by omega)
          · refine g_iload (pc := 46) X dX2_readInto_46 4 rfl ?_
            refine g_iload (pc := 48) X dX2_readInto_48 3 rfl ?_
            refine g_iconst (v := 2) (pc := 50) X dX2_readInto_50 (by decide) ?_
            refine g_iadd (v := nI (s + 2)) (pc := 51) X dX2_readInto_51 (nI_add s 2) ?_
            refine g_ncmp_lt (pc := 52) (tgt := 103) X dX2_readInto_52 (by decide) i (s + 2) rfl rfl (by omega) (by omega) (fun c52 => ?_) (fun c52 => ?_)
            · have hs43 : riR lt n k = rdK lt (n - (i + 1)) s (i + 1) cn kv := by rw [hq, show n - i = (n - (i + 1)) + 1 by omega, rdK, if_neg (fun q => absurd q.2 (by omega))]
              refine g_iinc (v := nI (i + 1)) (lv' := [(5, .int (nI (i + 1))), (0, .ref (aT 0)), (1, .ref (ah 0)), (3, .int (nI cn)), (4, .int (nI s))]) (pc := 103) X dX2_readInto_103 4 rfl (nI_1 i) rfl rfl ?_
              refine g_goto (pc := 106) (tgt := 25) X dX2_readInto_106 (by decide) ?_
              refine g_lv X (lv' := [(0, .ref (aT 0)), (1, .ref (ah 0)), (3, .int (nI cn)), (4, .int (nI s)), (5, .int (nI (i + 1)))]) [1, 2, 3, 4, 0] rfl ?_
              exact ih25 s (i + 1) cn kv (by omega) c31 (by omega) (by first | exact hw81 | exact hkv | done) hs43 (by omega)
            · have n52 := Nat.not_lt.mpr c52
              refine g_aload_n (pc := 55) X dX2_readInto_55 1 rfl ?_
              refine g_aload_n (pc := 56) X dX2_readInto_56 0 rfl ?_
              refine g_get (pc := 57) X (v := .ref (aT 1)) fl_X2_9 dX2_readInto_57 0 0 rfl rfl rfl ?_
              refine g_iload (pc := 60) X dX2_readInto_60 3 rfl ?_
              refine g_iald_n (pc := 62) (f := lt) X 0 1 dX2_readInto_62 s rfl rfl rfl (by omega) rfl ?_
              refine g_aload_n (pc := 63) X dX2_readInto_63 0 rfl ?_
              refine g_get (pc := 64) X (v := .ref (aT 1)) fl_X2_9 dX2_readInto_64 0 0 rfl rfl rfl ?_
              refine g_iload (pc := 67) X dX2_readInto_67 3 rfl ?_
              refine g_iconst (v := 1) (pc := 69) X dX2_readInto_69 (by decide) ?_
              refine g_iadd (v := nI (s + 1)) (pc := 70) X dX2_readInto_70 (nI_add s 1) ?_
              refine g_iald_n (pc := 71) (f := lt) X 0 1 dX2_readInto_71 (s + 1) rfl rfl rfl (by omega) rfl ?_
              refine g_aload_n (pc := 72) X dX2_readInto_72 0 rfl ?_
              refine g_get (pc := 73) X (v := .ref (aT 1)) fl_X2_9 dX2_readInto_73 0 0 rfl rfl rfl ?_
              refine g_iload (pc := 76) X dX2_readInto_76 3 rfl ?_
              refine g_iconst (v := 2) (pc := 78) X dX2_readInto_78 (by decide) ?_
              refine g_iadd (v := nI (s + 2)) (pc := 79) X dX2_readInto_79 (nI_add s 2) ?_
              refine g_iald_n (pc := 80) (f := lt) X 0 1 dX2_readInto_80 (s + 2) rfl rfl rfl (by omega) rfl ?_
              refine g_callV (pc := 81) (rest := []) (ss' := [wT cy aT lt n, wH cy ah (obK kv (lt s) (lt (s + 1)) (lt (s + 2)))]) X (c_X1_obey l D cy ah kv (lt s) (lt (s + 1)) (lt (s + 2)) hkv) vl_X2_23 dX2_readInto_81 [1] 1 0 rfl rfl rfl rfl rfl rfl (ads_c (ads_H _ _ _ _ _ _ _ _) rfl) rfl rfl rfl rfl rfl rfl ⟨Nat.zero_le _, Nat.zero_le _⟩ ?_
              generalize hqk81_1 : obK kv (lt s) (lt (s + 1)) (lt (s + 2)) = k81_1
              have hw81 : KW k81_1 := hqk81_1 ▸ KW_ob hkv
              refine g_bif_ne (pc := 84) (tgt := 94) X dX2_readInto_84 (by decide) (fun c84 => ?_) (fun c84 => ?_)
              · have hs43 : riR lt n k = rdK lt (n - (i + 1)) (i + 1) (i + 1) (cn + 1) k81_1 := by rw [hq, show n - i = (n - (i + 1)) + 1 by omega, rdK, if_pos ⟨c43, by omega⟩, if_pos c84, hqk81_1]
                refine g_iinc (v := nI (cn + 1)) (lv' := [(3, .int (nI (cn + 1))), (0, .ref (aT 0)), (1, .ref (ah 0)), (4, .int (nI s)), (5, .int (nI i))]) (pc := 94) X dX2_readInto_94 2 rfl (nI_1 cn) rfl rfl ?_
                refine g_iload (pc := 97) X dX2_readInto_97 4 rfl ?_
                refine g_iconst (v := 1) (pc := 99) X dX2_readInto_99 (by decide) ?_
                refine g_iadd (v := nI (i + 1)) (pc := 100) X dX2_readInto_100 (nI_add i 1) ?_
                refine g_istore (lv' := [(4, .int (nI (i + 1))), (3, .int (nI (cn + 1))), (0, .ref (aT 0)), (1, .ref (ah 0)), (5, .int (nI i))]) (pc := 101) X dX2_readInto_101 rfl rfl ?_
                refine g_iinc (v := nI (i + 1)) (lv' := [(5, .int (nI (i + 1))), (4, .int (nI (i + 1))), (3, .int (nI (cn + 1))), (0, .ref (aT 0)), (1, .ref (ah 0))]) (pc := 103) X dX2_readInto_103 4 rfl (nI_1 i) rfl rfl ?_
                refine g_goto (pc := 106) (tgt := 25) X dX2_readInto_106 (by decide) ?_
                refine g_lv X (lv' := [(0, .ref (aT 0)), (1, .ref (ah 0)), (3, .int (nI (cn + 1))), (4, .int (nI (i + 1))), (5, .int (nI (i + 1)))]) [3, 4, 2, 1, 0] rfl ?_
                exact ih25 (i + 1) (i + 1) (cn + 1) k81_1 (by omega) c31 (by omega) (by first | exact hw81 | exact hkv | done) hs43 (by omega)
              · have hs43 : riR lt n k = (-2000 - nI s, k81_1) := by rw [hq, show n - i = (n - (i + 1)) + 1 by omega, rdK, if_pos ⟨c43, by omega⟩, if_neg (by rw [c84]; decide), hqk81_1]
                refine g_sipush (v := (-2000)) (pc := 87) X dX2_readInto_87 (by decide) ?_
                refine g_iload (pc := 90) X dX2_readInto_90 3 rfl ?_
                refine g_isub (v := ((-2000)) - (nI s)) (pc := 92) X dX2_readInto_92 rfl ?_
                subst hqk81_1
                exact g_iret (pc := 93) X rfl dX2_readInto_93 rfl (by rw [hs43]) (by rw [hs43])
    refine g_lv X (lv' := [(0, .ref (aT 0)), (1, .ref (ah 0)), (3, .int (0)), (4, .int (0)), (5, .int (0))]) [4, 5, 2, 1, 0] rfl ?_
    exact L25_1 (n - 0 + 1) 0 0 0 k (Nat.le_refl _) (Nat.zero_le _) (Nat.le_refl _) hw hri (Nat.lt_succ_self _)
  · have hri : riR lt n k = (-1000 - fuA lt n, k) := by rw [riR, if_neg c8]
    refine g_sipush (v := (-1000)) (pc := 11) X dX2_readInto_11 (by decide) ?_
    refine g_iload_n (pc := 14) X dX2_readInto_14 0 rfl ?_
    refine g_isub (v := ((-1000)) - (fuA lt n)) (pc := 15) X dX2_readInto_15 rfl ?_
    exact g_iret (pc := 16) X rfl dX2_readInto_16 rfl (by rw [hri]) (by rw [hri])
set_option maxRecDepth 100000 in
set_option maxHeartbeats 4000000 in
theorem c_X3_house (l : Launch) (D : va_G) (cy : ClassId) (ax : Nat → Nat) (an : Nat → Nat) (am : Nat → Nat) (ak : Nat → Nat) (aT : Nat → Nat) (ag : Nat → Nat) (ik : Bool) (mc : Nat) (od : Nat → Int32) (mv : Nat → Int32) (rf : Nat → Int32) (k : KV) (km : KV) (lt : Nat → Int32) (n : Nat) (h80 : n ≤ 80) (hw : KW k) : CtIE l yX3_house cX3_house 2 .int 6 200 D cy [.ref (ax 0)] [wX cy ax an am ak aT ag ik mc od mv rf, wH cy an k, wH cy am km, wT cy aT lt n] (fun (u_ : (KV)) => [wX cy ax an am ak aT ag ik mc od mv rf, wH cy an (hsK lt n k), wH cy am u_, wT cy aT lt 0]) ((riR lt n k).1) := by
  refine ctIE_of (by decide +kernel) (Nat.le_of_ble_eq_true rfl) (fun p_ e_ s_ m_ args_ below_ meth_ c_ A_ X => ?_)
  refine g_lv X (lv' := [(0, .ref (ax 0))]) [0] rfl ?_
  refine g_aload_n (pc := 0) X dX3_house_0 0 rfl ?_
  refine g_get (pc := 1) X (v := .ref (am 0)) fl_X3_16 dX3_house_1 0 0 rfl rfl rfl ?_
  refine g_aload_n (pc := 4) X dX3_house_4 0 rfl ?_
  refine g_get (pc := 5) X (v := .ref (an 0)) fl_X3_10 dX3_house_5 0 0 rfl rfl rfl ?_
  refine g_callVv (pc := 8) (rest := []) (ss' := [wX cy ax an am ak aT ag ik mc od mv rf, wH cy an k, wH cy am k, wT cy aT lt n]) X (c_X1_become l D cy am an km k ) vl_X3_68 dX3_house_8 [2, 1] 2 0 rfl rfl rfl rfl rfl rfl (ads_c (ads_H _ _ _ _ _ _ _ _) (ads_c (ads_H _ _ _ _ _ _ _ _) rfl)) rfl rfl rfl rfl rfl rfl ⟨Nat.zero_le _, Nat.zero_le _⟩ ?_
  refine g_aload_n (pc := 11) X dX3_house_11 0 rfl ?_
  refine g_get (pc := 12) X (v := .ref (aT 0)) fl_X3_29 dX3_house_12 0 0 rfl rfl rfl ?_
  refine g_aload_n (pc := 15) X dX3_house_15 0 rfl ?_
  refine g_get (pc := 16) X (v := .ref (am 0)) fl_X3_16 dX3_house_16 0 0 rfl rfl rfl ?_
  refine g_callV (pc := 19) (rest := []) (ss' := [wX cy ax an am ak aT ag ik mc od mv rf, wH cy an k, wH cy am ((riR lt n k).2), wT cy aT lt n]) X (c_X2_readInto l D cy aT lt n am k (by first | assumption | omega) (by first | assumption | omega)) vl_X3_72 dX3_house_19 [3, 2] 3 0 rfl rfl rfl rfl rfl rfl (ads_c (ads_T _ _ _ _ _ _) (ads_c (ads_H _ _ _ _ _ _ _ _) rfl)) rfl rfl rfl rfl rfl rfl ⟨Nat.zero_le _, Nat.zero_le _⟩ ?_
  refine g_istore_n (lv' := [(1, .int ((riR lt n k).1)), (0, .ref (ax 0))]) (pc := 22) X dX3_house_22 rfl rfl rfl ?_
  refine g_iload_n (pc := 23) X dX3_house_23 0 rfl ?_
  refine g_if_le (pc := 24) (tgt := 38) X dX3_house_24 (by decide) (fun c24 => ?_) (fun c24 => ?_)
  · have n24 := Int32.not_lt.mpr c24
    refine g_aload_n (pc := 38) X dX3_house_38 1 rfl ?_
    refine g_get (pc := 39) X (v := .ref (aT 0)) fl_X3_29 dX3_house_39 0 0 rfl rfl rfl ?_
    refine g_iconst (v := 0) (pc := 42) X dX3_house_42 (by decide) ?_
    refine g_put (pc := 43) X (ss' := [wX cy ax an am ak aT ag ik mc od mv rf, wH cy an k, wH cy am ((riR lt n k).2), wT cy aT lt 0]) fp_X3_62 dX3_house_43 3 0 rfl rfl rfl rfl rfl rfl ?_
    refine g_iload_n (pc := 46) X dX3_house_46 0 rfl ?_
    exact g_iretE (pc := 47) X ((riR lt n k).2) rfl dX3_house_47 rfl rfl (by first | rw [hsK, if_pos c24] | rw [hsK, if_neg n24] | done)
  · refine g_aload_n (pc := 27) X dX3_house_27 1 rfl ?_
    refine g_get (pc := 28) X (v := .ref (an 0)) fl_X3_10 dX3_house_28 0 0 rfl rfl rfl ?_
    refine g_aload_n (pc := 31) X dX3_house_31 1 rfl ?_
    refine g_get (pc := 32) X (v := .ref (am 0)) fl_X3_16 dX3_house_32 0 0 rfl rfl rfl ?_
    refine g_callVv (pc := 35) (rest := []) (ss' := [wX cy ax an am ak aT ag ik mc od mv rf, wH cy an ((riR lt n k).2), wH cy am ((riR lt n k).2), wT cy aT lt n]) X (c_X1_become l D cy an am k ((riR lt n k).2) ) vl_X3_68 dX3_house_35 [1, 2] 1 0 rfl rfl rfl rfl rfl rfl (ads_c (ads_H _ _ _ _ _ _ _ _) (ads_c (ads_H _ _ _ _ _ _ _ _) rfl)) rfl rfl rfl rfl rfl rfl ⟨Nat.zero_le _, Nat.zero_le _⟩ ?_
    refine g_aload_n (pc := 38) X dX3_house_38 1 rfl ?_
    refine g_get (pc := 39) X (v := .ref (aT 0)) fl_X3_29 dX3_house_39 0 0 rfl rfl rfl ?_
    refine g_iconst (v := 0) (pc := 42) X dX3_house_42 (by decide) ?_
    refine g_put (pc := 43) X (ss' := [wX cy ax an am ak aT ag ik mc od mv rf, wH cy an ((riR lt n k).2), wH cy am ((riR lt n k).2), wT cy aT lt 0]) fp_X3_62 dX3_house_43 3 0 rfl rfl rfl rfl rfl rfl ?_
    refine g_iload_n (pc := 46) X dX3_house_46 0 rfl ?_
    exact g_iretE (pc := 47) X ((riR lt n k).2) rfl dX3_house_47 rfl rfl (by first | rw [hsK, if_pos c24] | rw [hsK, if_neg n24] | done)
