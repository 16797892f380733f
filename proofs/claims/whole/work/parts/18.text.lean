set_option maxRecDepth 100000 in
set_option maxHeartbeats 4000000 in
theorem c_X2_statementLength (l : Launch) (D : va_G) (cy : ClassId) (x : Int32) : CtI l yX2_statementLength cX2_statementLength 1 .int 0 64 D cy [.int (x)] [] [] (nI (stN x)) := by
  refine ctI_of (by decide +kernel) (Nat.le_of_ble_eq_true rfl) (fun p_ e_ s_ m_ args_ below_ meth_ c_ A_ X => ?_)
  refine g_lv X (lv' := [(0, .int (x))]) [0] rfl ?_
  refine g_iload_n (pc := 0) X dX2_statementLength_0 0 rfl ?_
  by_cases e1_99 : x = (99 : Int32)
  · refine g_top X e1_99 ?_
    refine g_tableIn (pc := 1) (off := 89) (tgt := 90) X dX2_statementLength_1 (by decide) (by decide) (by decide) (by decide) ?_
    refine g_iconst (v := 3) (pc := 90) X dX2_statementLength_90 (by decide) ?_
    exact g_iret (pc := 91) X rfl dX2_statementLength_91 rfl (by subst_vars; simp only [stN, *, if_true, if_false]; first | done | rfl | decide) rfl
  by_cases e1_104 : x = (104 : Int32)
  · refine g_top X e1_104 ?_
    refine g_tableIn (pc := 1) (off := 89) (tgt := 90) X dX2_statementLength_1 (by decide) (by decide) (by decide) (by decide) ?_
    refine g_iconst (v := 3) (pc := 90) X dX2_statementLength_90 (by decide) ?_
    exact g_iret (pc := 91) X rfl dX2_statementLength_91 rfl (by subst_vars; simp only [stN, *, if_true, if_false]; first | done | rfl | decide) rfl
  by_cases e1_108 : x = (108 : Int32)
  · refine g_top X e1_108 ?_
    refine g_tableIn (pc := 1) (off := 87) (tgt := 88) X dX2_statementLength_1 (by decide) (by decide) (by decide) (by decide) ?_
    refine g_iconst (v := 4) (pc := 88) X dX2_statementLength_88 (by decide) ?_
    exact g_iret (pc := 89) X rfl dX2_statementLength_89 rfl (by subst_vars; simp only [stN, *, if_true, if_false]; first | done | rfl | decide) rfl
  by_cases e1_109 : x = (109 : Int32)
  · refine g_top X e1_109 ?_
    refine g_tableIn (pc := 1) (off := 87) (tgt := 88) X dX2_statementLength_1 (by decide) (by decide) (by decide) (by decide) ?_
    refine g_iconst (v := 4) (pc := 88) X dX2_statementLength_88 (by decide) ?_
    exact g_iret (pc := 89) X rfl dX2_statementLength_89 rfl (by subst_vars; simp only [stN, *, if_true, if_false]; first | done | rfl | decide) rfl
  by_cases e1_111 : x = (111 : Int32)
  · refine g_top X e1_111 ?_
    refine g_tableIn (pc := 1) (off := 87) (tgt := 88) X dX2_statementLength_1 (by decide) (by decide) (by decide) (by decide) ?_
    refine g_iconst (v := 4) (pc := 88) X dX2_statementLength_88 (by decide) ?_
    exact g_iret (pc := 89) X rfl dX2_statementLength_89 rfl (by subst_vars; simp only [stN, *, if_true, if_false]; first | done | rfl | decide) rfl
  by_cases e1_116 : x = (116 : Int32)
  · refine g_top X e1_116 ?_
    refine g_tableIn (pc := 1) (off := 87) (tgt := 88) X dX2_statementLength_1 (by decide) (by decide) (by decide) (by decide) ?_
    refine g_iconst (v := 4) (pc := 88) X dX2_statementLength_88 (by decide) ?_
    exact g_iret (pc := 89) X rfl dX2_statementLength_89 rfl (by subst_vars; simp only [stN, *, if_true, if_false]; first | done | rfl | decide) rfl
  have f1_99 := lv_neT (a := 99) e1_99 (by decide)
  have f1_104 := lv_neT (a := 104) e1_104 (by decide)
  have f1_108 := lv_neT (a := 108) e1_108 (by decide)
  have f1_109 := lv_neT (a := 109) e1_109 (by decide)
  have f1_111 := lv_neT (a := 111) e1_111 (by decide)
  have f1_116 := lv_neT (a := 116) e1_116 (by decide)
  by_cases hr1 : x.toInt < 99 ∨ 116 < x.toInt
  · refine g_tableOut (pc := 1) (tgt := 92) X dX2_statementLength_1 hr1 (by decide) ?_
    refine g_iconst (v := 0) (pc := 92) X dX2_statementLength_92 (by decide) ?_
    exact g_iret (pc := 93) X rfl dX2_statementLength_93 rfl (by subst_vars; simp only [stN, *, if_true, if_false]; first | done | rfl | decide) rfl
  · have tb1 : ∀ q, q < 18 → q ≠ 0 → q ≠ 5 → q ≠ 9 → q ≠ 10 → q ≠ 12 → q ≠ 17 → ((#[89, 91, 91, 91, 91, 89, 91, 91, 91, 87, 87, 91, 87, 91, 91, 91, 91, 87] : Array Int))[q]? = some 91 := by
      intro q hq
      rcases (show q = 0 ∨ q = 1 ∨ q = 2 ∨ q = 3 ∨ q = 4 ∨ q = 5 ∨ q = 6 ∨ q = 7 ∨ q = 8 ∨ q = 9 ∨ q = 10 ∨ q = 11 ∨ q = 12 ∨ q = 13 ∨ q = 14 ∨ q = 15 ∨ q = 16 ∨ q = 17 by omega) with rfl | rfl | rfl | rfl | rfl | rfl | rfl | rfl | rfl | rfl | rfl | rfl | rfl | rfl | rfl | rfl | rfl | rfl
      all_goals (intros; first | rfl | contradiction)
    refine g_tableIn (pc := 1) (off := 91) (tgt := 92) X dX2_statementLength_1 (by omega) (by omega) (tb1 _ (by omega) (by omega) (by omega) (by omega) (by omega) (by omega) (by omega)) (by decide) ?_
    refine g_iconst (v := 0) (pc := 92) X dX2_statementLength_92 (by decide) ?_
    exact g_iret (pc := 93) X rfl dX2_statementLength_93 rfl (by subst_vars; simp only [stN, *, if_true, if_false]; first | done | rfl | decide) rfl
set_option maxRecDepth 100000 in
set_option maxHeartbeats 4000000 in
theorem c_X2_fits (l : Launch) (D : va_G) (cy : ClassId) (f : Int32) (q : Nat) (x : Int32) (hq : q < 1000) : CtI l yX2_fits cX2_fits 4 .boolean 1 84 D cy [.int (f), .int (nI q), .int (x)] [] [] (bI (fitB f q x)) := by
  have h4 := st_4 f
  refine ctI_of (by decide +kernel) (Nat.le_of_ble_eq_true rfl) (fun p_ e_ s_ m_ args_ below_ meth_ c_ A_ X => ?_)
  refine g_lv X (lv' := [(0, .int (f)), (1, .int (nI q)), (2, .int (x))]) [0, 1, 2] rfl ?_
  refine g_iload_n (pc := 0) X dX2_fits_0 0 rfl ?_
  refine g_callS (pc := 1) (rest := []) X (c_X2_statementLength l D cy f ) sl_X2_32 dX2_fits_1 rfl rfl rfl rfl rfl ⟨Nat.zero_le _, Nat.zero_le _⟩ ?_
  refine g_istore_n (lv' := [(3, .int (nI (stN f))), (0, .int (f)), (1, .int (nI q)), (2, .int (x))]) (pc := 4) X dX2_fits_4 rfl rfl rfl ?_
  refine g_iload_n (pc := 5) X dX2_fits_5 2 rfl ?_
  refine g_nif_ne (pc := 6) (tgt := 19) X dX2_fits_6 (by decide) q rfl (by omega) (fun c6 => ?_) (fun c6 => ?_)
  · refine g_iload_n (pc := 19) X dX2_fits_19 2 rfl ?_
    refine g_iload_n (pc := 20) X dX2_fits_20 0 rfl ?_
    refine g_iconst (v := 1) (pc := 21) X dX2_fits_21 (by decide) ?_
    refine g_isub (v := nI (stN f) - 1) (pc := 22) X dX2_fits_22 rfl ?_
    refine g_icmp_ne (pc := 23) (tgt := 38) X dX2_fits_23 (by decide) (fun c23 => ?_) (fun c23 => ?_)
    · refine g_iload_n (pc := 38) X dX2_fits_38 1 rfl ?_
      refine g_bipush (v := 116) (pc := 39) X dX2_fits_39 (by decide) ?_
      refine g_icmp_ne (pc := 41) (tgt := 66) X dX2_fits_41 (by decide) (fun c41 => ?_) (fun c41 => ?_)
      · refine g_iload_n (pc := 66) X dX2_fits_66 3 rfl ?_
        refine g_callS (pc := 67) (rest := []) X (c_X2_digit l D cy x ) sl_X2_39 dX2_fits_67 rfl rfl rfl rfl rfl ⟨Nat.zero_le _, Nat.zero_le _⟩ ?_
        refine g_bipush (v := (-9)) (pc := 70) X dX2_fits_70 (by decide) ?_
        refine g_icmp_eq (pc := 72) (tgt := 79) X dX2_fits_72 (by decide) (fun c72 => ?_) (fun c72 => ?_)
        · refine g_iconst (v := 0) (pc := 79) X dX2_fits_79 (by decide) ?_
          exact g_iret (pc := 80) X rfl dX2_fits_80 rfl (by first | exact bI_t (by rw [fitB, if_neg c6, if_neg c23, if_pos ⟨c41, c46⟩]; exact decide_eq_true c55) | exact bI_f (by rw [fitB, if_neg c6, if_neg c23, if_pos ⟨c41, c46⟩]; exact decide_eq_false (by first | exact c55 | exact not_not_intro c55 | omega)) | exact bI_t (by rw [fitB, if_neg c6, if_neg c23, if_neg (fun q => c46 q.2)]; exact decide_eq_true c72) | exact bI_f (by rw [fitB, if_neg c6, if_neg c23, if_neg (fun q => c46 q.2)]; exact decide_eq_false (by first | exact c72 | exact not_not_intro c72 | omega)) | exact bI_t (by rw [fitB, if_neg c6, if_neg c23, if_neg (fun q => c41 q.1)]; exact decide_eq_true c72) | exact bI_f (by rw [fitB, if_neg c6, if_neg c23, if_neg (fun q => c41 q.1)]; exact decide_eq_false (by first | exact c72 | exact not_not_intro c72 | omega)) | exact bI_t (by rw [fitB, if_neg c6, if_pos c23]; exact decide_eq_true c29) | exact bI_f (by rw [fitB, if_neg c6, if_pos c23]; exact decide_eq_false (by first | exact c29 | exact not_not_intro c29 | omega)) | exact bI_t (by rw [fitB, if_pos c6]; exact decide_eq_true c10) | exact bI_f (by rw [fitB, if_pos c6]; exact decide_eq_false (by first | exact c10 | exact not_not_intro c10 | omega)) | done) rfl
        · refine g_iconst (v := 1) (pc := 75) X dX2_fits_75 (by decide) ?_
          refine g_goto (pc := 76) (tgt := 80) X dX2_fits_76 (by decide) ?_
          exact g_iret (pc := 80) X rfl dX2_fits_80 rfl (by first | exact bI_t (by rw [fitB, if_neg c6, if_neg c23, if_pos ⟨c41, c46⟩]; exact decide_eq_true c55) | exact bI_f (by rw [fitB, if_neg c6, if_neg c23, if_pos ⟨c41, c46⟩]; exact decide_eq_false (by first | exact c55 | exact not_not_intro c55 | omega)) | exact bI_t (by rw [fitB, if_neg c6, if_neg c23, if_neg (fun q => c46 q.2)]; exact decide_eq_true c72) | exact bI_f (by rw [fitB, if_neg c6, if_neg c23, if_neg (fun q => c46 q.2)]; exact decide_eq_false (by first | exact c72 | exact not_not_intro c72 | omega)) | exact bI_t (by rw [fitB, if_neg c6, if_neg c23, if_neg (fun q => c41 q.1)]; exact decide_eq_true c72) | exact bI_f (by rw [fitB, if_neg c6, if_neg c23, if_neg (fun q => c41 q.1)]; exact decide_eq_false (by first | exact c72 | exact not_not_intro c72 | omega)) | exact bI_t (by rw [fitB, if_neg c6, if_pos c23]; exact decide_eq_true c29) | exact bI_f (by rw [fitB, if_neg c6, if_pos c23]; exact decide_eq_false (by first | exact c29 | exact not_not_intro c29 | omega)) | exact bI_t (by rw [fitB, if_pos c6]; exact decide_eq_true c10) | exact bI_f (by rw [fitB, if_pos c6]; exact decide_eq_false (by first | exact c10 | exact not_not_intro c10 | omega)) | done) rfl
      · refine g_iload_n (pc := 44) X dX2_fits_44 2 rfl ?_
        refine g_iconst (v := 1) (pc := 45) X dX2_fits_45 (by decide) ?_
        refine g_ncmp_ne (pc := 46) (tgt := 66) X dX2_fits_46 (by decide) q 1 rfl rfl (by omega) (by decide) (fun c46 => ?_) (fun c46 => ?_)
        · refine g_iload_n (pc := 66) X dX2_fits_66 3 rfl ?_
          refine g_callS (pc := 67) (rest := []) X (c_X2_digit l D cy x ) sl_X2_39 dX2_fits_67 rfl rfl rfl rfl rfl ⟨Nat.zero_le _, Nat.zero_le _⟩ ?_
          refine g_bipush (v := (-9)) (pc := 70) X dX2_fits_70 (by decide) ?_
          refine g_icmp_eq (pc := 72) (tgt := 79) X dX2_fits_72 (by decide) (fun c72 => ?_) (fun c72 => ?_)
          · refine g_iconst (v := 0) (pc := 79) X dX2_fits_79 (by decide) ?_
            exact g_iret (pc := 80) X rfl dX2_fits_80 rfl (by first | exact bI_t (by rw [fitB, if_neg c6, if_neg c23, if_pos ⟨c41, c46⟩]; exact decide_eq_true c55) | exact bI_f (by rw [fitB, if_neg c6, if_neg c23, if_pos ⟨c41, c46⟩]; exact decide_eq_false (by first | exact c55 | exact not_not_intro c55 | omega)) | exact bI_t (by rw [fitB, if_neg c6, if_neg c23, if_neg (fun q => c46 q.2)]; exact decide_eq_true c72) | exact bI_f (by rw [fitB, if_neg c6, if_neg c23, if_neg (fun q => c46 q.2)]; exact decide_eq_false (by first | exact c72 | exact not_not_intro c72 | omega)) | exact bI_t (by rw [fitB, if_neg c6, if_neg c23, if_neg (fun q => c41 q.1)]; exact decide_eq_true c72) | exact bI_f (by rw [fitB, if_neg c6, if_neg c23, if_neg (fun q => c41 q.1)]; exact decide_eq_false (by first | exact c72 | exact not_not_intro c72 | omega)) | exact bI_t (by rw [fitB, if_neg c6, if_pos c23]; exact decide_eq_true c29) | exact bI_f (by rw [fitB, if_neg c6, if_pos c23]; exact decide_eq_false (by first | exact c29 | exact not_not_intro c29 | omega)) | exact bI_t (by rw [fitB, if_pos c6]; exact decide_eq_true c10) | exact bI_f (by rw [fitB, if_pos c6]; exact decide_eq_false (by first | exact c10 | exact not_not_intro c10 | omega)) | done) rfl
          · refine g_iconst (v := 1) (pc := 75) X dX2_fits_75 (by decide) ?_
            refine g_goto (pc := 76) (tgt := 80) X dX2_fits_76 (by decide) ?_
            exact g_iret (pc := 80) X rfl dX2_fits_80 rfl (by first | exact bI_t (by rw [fitB, if_neg c6, if_neg c23, if_pos ⟨c41, c46⟩]; exact decide_eq_true c55) | exact bI_f (by rw [fitB, if_neg c6, if_neg c23, if_pos ⟨c41, c46⟩]; exact decide_eq_false (by first | exact c55 | exact not_not_intro c55 | omega)) | exact bI_t (by rw [fitB, if_neg c6, if_neg c23, if_neg (fun q => c46 q.2)]; exact decide_eq_true c72) | exact bI_f (by rw [fitB, if_neg c6, if_neg c23, if_neg (fun q => c46 q.2)]; exact decide_eq_false (by first | exact c72 | exact not_not_intro c72 | omega)) | exact bI_t (by rw [fitB, if_neg c6, if_neg c23, if_neg (fun q => c41 q.1)]; exact decide_eq_true c72) | exact bI_f (by rw [fitB, if_neg c6, if_neg c23, if_neg (fun q => c41 q.1)]; exact decide_eq_false (by first | exact c72 | exact not_not_intro c72 | omega)) | exact bI_t (by rw [fitB, if_neg c6, if_pos c23]; exact decide_eq_true c29) | exact bI_f (by rw [fitB, if_neg c6, if_pos c23]; exact decide_eq_false (by first | exact c29 | exact not_not_intro c29 | omega)) | exact bI_t (by rw [fitB, if_pos c6]; exact decide_eq_true c10) | exact bI_f (by rw [fitB, if_pos c6]; exact decide_eq_false (by first | exact c10 | exact not_not_intro c10 | omega)) | done) rfl
        · refine g_iload_n (pc := 49) X dX2_fits_49 3 rfl ?_
          refine g_callS (pc := 50) (rest := []) X (c_X2_kind l D cy x ) sl_X2_36 dX2_fits_50 rfl rfl rfl rfl rfl ⟨Nat.zero_le _, Nat.zero_le _⟩ ?_
          refine g_bipush (v := (-9)) (pc := 53) X dX2_fits_53 (by decide) ?_
          refine g_icmp_eq (pc := 55) (tgt := 62) X dX2_fits_55 (by decide) (fun c55 => ?_) (fun c55 => ?_)
          · refine g_iconst (v := 0) (pc := 62) X dX2_fits_62 (by decide) ?_
            refine g_goto (pc := 63) (tgt := 80) X dX2_fits_63 (by decide) ?_
            exact g_iret (pc := 80) X rfl dX2_fits_80 rfl (by first | exact bI_t (by rw [fitB, if_neg c6, if_neg c23, if_pos ⟨c41, c46⟩]; exact decide_eq_true c55) | exact bI_f (by rw [fitB, if_neg c6, if_neg c23, if_pos ⟨c41, c46⟩]; exact decide_eq_false (by first | exact c55 | exact not_not_intro c55 | omega)) | exact bI_t (by rw [fitB, if_neg c6, if_neg c23, if_neg (fun q => c46 q.2)]; exact decide_eq_true c72) | exact bI_f (by rw [fitB, if_neg c6, if_neg c23, if_neg (fun q => c46 q.2)]; exact decide_eq_false (by first | exact c72 | exact not_not_intro c72 | omega)) | exact bI_t (by rw [fitB, if_neg c6, if_neg c23, if_neg (fun q => c41 q.1)]; exact decide_eq_true c72) | exact bI_f (by rw [fitB, if_neg c6, if_neg c23, if_neg (fun q => c41 q.1)]; exact decide_eq_false (by first | exact c72 | exact not_not_intro c72 | omega)) | exact bI_t (by rw [fitB, if_neg c6, if_pos c23]; exact decide_eq_true c29) | exact bI_f (by rw [fitB, if_neg c6, if_pos c23]; exact decide_eq_false (by first | exact c29 | exact not_not_intro c29 | omega)) | exact bI_t (by rw [fitB, if_pos c6]; exact decide_eq_true c10) | exact bI_f (by rw [fitB, if_pos c6]; exact decide_eq_false (by first | exact c10 | exact not_not_intro c10 | omega)) | done) rfl
          · refine g_iconst (v := 1) (pc := 58) X dX2_fits_58 (by decide) ?_
            refine g_goto (pc := 59) (tgt := 80) X dX2_fits_59 (by decide) ?_
            exact g_iret (pc := 80) X rfl dX2_fits_80 rfl (by first | exact bI_t (by rw [fitB, if_neg c6, if_neg c23, if_pos ⟨c41, c46⟩]; exact decide_eq_true c55) | exact bI_f (by rw [fitB, if_neg c6, if_neg c23, if_pos ⟨c41, c46⟩]; exact decide_eq_false (by first | exact c55 | exact not_not_intro c55 | omega)) | exact bI_t (by rw [fitB, if_neg c6, if_neg c23, if_neg (fun q => c46 q.2)]; exact decide_eq_true c72) | exact bI_f (by rw [fitB, if_neg c6, if_neg c23, if_neg (fun q => c46 q.2)]; exact decide_eq_false (by first | exact c72 | exact not_not_intro c72 | omega)) | exact bI_t (by rw [fitB, if_neg c6, if_neg c23, if_neg (fun q => c41 q.1)]; exact decide_eq_true c72) | exact bI_f (by rw [fitB, if_neg c6, if_neg c23, if_neg (fun q => c41 q.1)]; exact decide_eq_false (by first | exact c72 | exact not_not_intro c72 | omega)) | exact bI_t (by rw [fitB, if_neg c6, if_pos c23]; exact decide_eq_true c29) | exact bI_f (by rw [fitB, if_neg c6, if_pos c23]; exact decide_eq_false (by first | exact c29 | exact not_not_intro c29 | omega)) | exact bI_t (by rw [fitB, if_pos c6]; exact decide_eq_true c10) | exact bI_f (by rw [fitB, if_pos c6]; exact decide_eq_false (by first | exact c10 | exact not_not_intro c10 | omega)) | done) rfl
    · refine g_iload_n (pc := 26) X dX2_fits_26 3 rfl ?_
      refine g_bipush (v := 59) (pc := 27) X dX2_fits_27 (by decide) ?_
      refine g_icmp_ne (pc := 29) (tgt := 36) X dX2_fits_29 (by decide) (fun c29 => ?_) (fun c29 => ?_)
      · refine g_iconst (v := 0) (pc := 36) X dX2_fits_36 (by decide) ?_
        exact g_iret (pc := 37) X rfl dX2_fits_37 rfl (by first | exact bI_t (by rw [fitB, if_neg c6, if_neg c23, if_pos ⟨c41, c46⟩]; exact decide_eq_true c55) | exact bI_f (by rw [fitB, if_neg c6, if_neg c23, if_pos ⟨c41, c46⟩]; exact decide_eq_false (by first | exact c55 | exact not_not_intro c55 | omega)) | exact bI_t (by rw [fitB, if_neg c6, if_neg c23, if_neg (fun q => c46 q.2)]; exact decide_eq_true c72) | exact bI_f (by rw [fitB, if_neg c6, if_neg c23, if_neg (fun q => c46 q.2)]; exact decide_eq_false (by first | exact c72 | exact not_not_intro c72 | omega)) | exact bI_t (by rw [fitB, if_neg c6, if_neg c23, if_neg (fun q => c41 q.1)]; exact decide_eq_true c72) | exact bI_f (by rw [fitB, if_neg c6, if_neg c23, if_neg (fun q => c41 q.1)]; exact decide_eq_false (by first | exact c72 | exact not_not_intro c72 | omega)) | exact bI_t (by rw [fitB, if_neg c6, if_pos c23]; exact decide_eq_true c29) | exact bI_f (by rw [fitB, if_neg c6, if_pos c23]; exact decide_eq_false (by first | exact c29 | exact not_not_intro c29 | omega)) | exact bI_t (by rw [fitB, if_pos c6]; exact decide_eq_true c10) | exact bI_f (by rw [fitB, if_pos c6]; exact decide_eq_false (by first | exact c10 | exact not_not_intro c10 | omega)) | done) rfl
      · refine g_iconst (v := 1) (pc := 32) X dX2_fits_32 (by decide) ?_
        refine g_goto (pc := 33) (tgt := 37) X dX2_fits_33 (by decide) ?_
        exact g_iret (pc := 37) X rfl dX2_fits_37 rfl (by first | exact bI_t (by rw [fitB, if_neg c6, if_neg c23, if_pos ⟨c41, c46⟩]; exact decide_eq_true c55) | exact bI_f (by rw [fitB, if_neg c6, if_neg c23, if_pos ⟨c41, c46⟩]; exact decide_eq_false (by first | exact c55 | exact not_not_intro c55 | omega)) | exact bI_t (by rw [fitB, if_neg c6, if_neg c23, if_neg (fun q => c46 q.2)]; exact decide_eq_true c72) | exact bI_f (by rw [fitB, if_neg c6, if_neg c23, if_neg (fun q => c46 q.2)]; exact decide_eq_false (by first | exact c72 | exact not_not_intro c72 | omega)) | exact bI_t (by rw [fitB, if_neg c6, if_neg c23, if_neg (fun q => c41 q.1)]; exact decide_eq_true c72) | exact bI_f (by rw [fitB, if_neg c6, if_neg c23, if_neg (fun q => c41 q.1)]; exact decide_eq_false (by first | exact c72 | exact not_not_intro c72 | omega)) | exact bI_t (by rw [fitB, if_neg c6, if_pos c23]; exact decide_eq_true c29) | exact bI_f (by rw [fitB, if_neg c6, if_pos c23]; exact decide_eq_false (by first | exact c29 | exact not_not_intro c29 | omega)) | exact bI_t (by rw [fitB, if_pos c6]; exact decide_eq_true c10) | exact bI_f (by rw [fitB, if_pos c6]; exact decide_eq_false (by first | exact c10 | exact not_not_intro c10 | omega)) | done) rfl
  · refine g_iload_n (pc := 9) X dX2_fits_9 0 rfl ?_
    refine g_nif_le (pc := 10) (tgt := 17) X dX2_fits_10 (by decide) (stN f) rfl (by omega) (fun c10 => ?_) (fun c10 => ?_)
    · refine g_iconst (v := 0) (pc := 17) X dX2_fits_17 (by decide) ?_
      exact g_iret (pc := 18) X rfl dX2_fits_18 rfl (by first | exact bI_t (by rw [fitB, if_neg c6, if_neg c23, if_pos ⟨c41, c46⟩]; exact decide_eq_true c55) | exact bI_f (by rw [fitB, if_neg c6, if_neg c23, if_pos ⟨c41, c46⟩]; exact decide_eq_false (by first | exact c55 | exact not_not_intro c55 | omega)) | exact bI_t (by rw [fitB, if_neg c6, if_neg c23, if_neg (fun q => c46 q.2)]; exact decide_eq_true c72) | exact bI_f (by rw [fitB, if_neg c6, if_neg c23, if_neg (fun q => c46 q.2)]; exact decide_eq_false (by first | exact c72 | exact not_not_intro c72 | omega)) | exact bI_t (by rw [fitB, if_neg c6, if_neg c23, if_neg (fun q => c41 q.1)]; exact decide_eq_true c72) | exact bI_f (by rw [fitB, if_neg c6, if_neg c23, if_neg (fun q => c41 q.1)]; exact decide_eq_false (by first | exact c72 | exact not_not_intro c72 | omega)) | exact bI_t (by rw [fitB, if_neg c6, if_pos c23]; exact decide_eq_true c29) | exact bI_f (by rw [fitB, if_neg c6, if_pos c23]; exact decide_eq_false (by first | exact c29 | exact not_not_intro c29 | omega)) | exact bI_t (by rw [fitB, if_pos c6]; exact decide_eq_true c10) | exact bI_f (by rw [fitB, if_pos c6]; exact decide_eq_false (by first | exact c10 | exact not_not_intro c10 | omega)) | done) rfl
    · refine g_iconst (v := 1) (pc := 13) X dX2_fits_13 (by decide) ?_
      refine g_goto (pc := 14) (tgt := 18) X dX2_fits_14 (by decide) ?_
      exact g_iret (pc := 18) X rfl dX2_fits_18 rfl (by first | exact bI_t (by rw [fitB, if_neg c6, if_neg c23, if_pos ⟨c41, c46⟩]; exact decide_eq_true c55) | exact bI_f (by rw [fitB, if_neg c6, if_neg c23, if_pos ⟨c41, c46⟩]; exact decide_eq_false (by first | exact c55 | exact not_not_intro c55 | omega)) | exact bI_t (by rw [fitB, if_neg c6, if_neg c23, if_neg (fun q => c46 q.2)]; exact decide_eq_true c72) | exact bI_f (by rw [fitB, if_neg c6, if_neg c23, if_neg (fun q => c46 q.2)]; exact decide_eq_false (by first | exact c72 | exact not_not_intro c72 | omega)) | exact bI_t (by rw [fitB, if_neg c6, if_neg c23, if_neg (fun q => c41 q.1)]; exact decide_eq_true c72) | exact bI_f (by rw [fitB, if_neg c6, if_neg c23, if_neg (fun q => c41 q.1)]; exact decide_eq_false (by first | exact c72 | exact not_not_intro c72 | omega)) | exact bI_t (by rw [fitB, if_neg c6, if_pos c23]; exact decide_eq_true c29) | exact bI_f (by rw [fitB, if_neg c6, if_pos c23]; exact decide_eq_false (by first | exact c29 | exact not_not_intro c29 | omega)) | exact bI_t (by rw [fitB, if_pos c6]; exact decide_eq_true c10) | exact bI_f (by rw [fitB, if_pos c6]; exact decide_eq_false (by first | exact c10 | exact not_not_intro c10 | omega)) | done) rfl
set_option maxRecDepth 100000 in
set_option maxHeartbeats 4000000 in
theorem c_X2_firstUnfit (l : Launch) (D : va_G) (cy : ClassId) (aT : Nat → Nat) (lt : Nat → Int32) (n : Nat) (h80 : n ≤ 80) : CtI l yX2_firstUnfit cX2_firstUnfit 3 .int 2 107 D cy [.ref (aT 0)] [wT cy aT lt n] [wT cy aT lt n] (fuA lt n) := by
  refine ctI_of (by decide +kernel) (Nat.le_of_ble_eq_true rfl) (fun p_ e_ s_ m_ args_ below_ meth_ c_ A_ X => ?_)
  refine g_lv X (lv' := [(0, .ref (aT 0))]) [0] rfl ?_
  refine g_iconst (v := 0) (pc := 0) X dX2_firstUnfit_0 (by decide) ?_
  refine g_istore_n (lv' := [(1, .int (0)), (0, .ref (aT 0))]) (pc := 1) X dX2_firstUnfit_1 rfl rfl rfl ?_
  refine g_iconst (v := 0) (pc := 2) X dX2_firstUnfit_2 (by decide) ?_
  refine g_istore_n (lv' := [(2, .int (0)), (1, .int (0)), (0, .ref (aT 0))]) (pc := 3) X dX2_firstUnfit_3 rfl rfl rfl ?_
  have L4_1 : ∀ (fu_ : Nat) (s : Nat) (i : Nat) (hs : s ≤ i) (hi : i ≤ n) (hq : fuA lt n = fuK lt n (n - i) s i) (hm : n - i < fu_), G p_ l e_ { frames := 2, cells := 0, slots := 0, locals := 107 } s_ m_ args_ below_ meth_ c_ 3 D A_ 0 0 (QI below_ args_ s_ D A_ [wT cy aT lt n] (fuA lt n)) [wT cy aT lt n] 4 [(0, .ref (aT 0)), (1, .int (nI s)), (2, .int (nI i))] [] := by
    intro fu_
    induction fu_ with
    | zero => intro s i hs hi hq hm; exact absurd hm (Nat.not_lt_zero _)
    | succ fu_ ih =>
      intro s i hs hi hq hm
      have ih4 := ih
      clear ih
      refine g_iload_n (pc := 4) X dX2_firstUnfit_4 2 rfl ?_
      refine g_aload_n (pc := 5) X dX2_firstUnfit_5 0 rfl ?_
      refine g_get (pc := 6) X (v := .int (nI n)) fl_X2_15 dX2_firstUnfit_6 0 0 rfl rfl rfl ?_
      refine g_ncmp_ge (pc := 9) (tgt := 56) X dX2_firstUnfit_9 (by decide) i n rfl rfl (by omega) (by omega) (fun c9 => ?_) (fun c9 => ?_)
      · have n9 := Nat.not_lt.mpr c9
        refine g_aload_n (pc := 56) X dX2_firstUnfit_56 0 rfl ?_
        refine g_get (pc := 57) X (v := .int (nI n)) fl_X2_15 dX2_firstUnfit_57 0 0 rfl rfl rfl ?_
        refine g_nif_le (pc := 60) (tgt := 76) X dX2_firstUnfit_60 (by decide) n rfl (by omega) (fun c60 => ?_) (fun c60 => ?_)
        · refine g_aload_n (pc := 76) X dX2_firstUnfit_76 0 rfl ?_
          refine g_get (pc := 77) X (v := .int (nI n)) fl_X2_15 dX2_firstUnfit_77 0 0 rfl rfl rfl ?_
          exact g_iret (pc := 80) X rfl dX2_firstUnfit_80 rfl (by rw [hq, show n - i = 0 by omega, fuK]; first | (rw [if_pos ⟨c60, c68⟩]; done) | (rw [if_neg (fun q => c68 q.2)]; done) | (rw [if_neg (by omega)]; done)) rfl
        · refine g_iload_n (pc := 63) X dX2_firstUnfit_63 1 rfl ?_
          refine g_aload_n (pc := 64) X dX2_firstUnfit_64 0 rfl ?_
          refine g_get (pc := 65) X (v := .int (nI n)) fl_X2_15 dX2_firstUnfit_65 0 0 rfl rfl rfl ?_
          refine g_ncmp_ne (pc := 68) (tgt := 76) X dX2_firstUnfit_68 (by decide) s n rfl rfl (by omega) (by omega) (fun c68 => ?_) (fun c68 => ?_)
          · refine g_aload_n (pc := 76) X dX2_firstUnfit_76 0 rfl ?_
            refine g_get (pc := 77) X (v := .int (nI n)) fl_X2_15 dX2_firstUnfit_77 0 0 rfl rfl rfl ?_
            exact g_iret (pc := 80) X rfl dX2_firstUnfit_80 rfl (by rw [hq, show n - i = 0 by omega, fuK]; first | (rw [if_pos ⟨c60, c68⟩]; done) | (rw [if_neg (fun q => c68 q.2)]; done) | (rw [if_neg (by omega)]; done)) rfl
          · refine g_bipush (v := (-9)) (pc := 71) X dX2_firstUnfit_71 (by decide) ?_
            refine g_goto (pc := 73) (tgt := 80) X dX2_firstUnfit_73 (by decide) ?_
            exact g_iret (pc := 80) X rfl dX2_firstUnfit_80 rfl (by rw [hq, show n - i = 0 by omega, fuK]; first | (rw [if_pos ⟨c60, c68⟩]; done) | (rw [if_neg (fun q => c68 q.2)]; done) | (rw [if_neg (by omega)]; done)) rfl
      · refine g_aload_n (pc := 12) X dX2_firstUnfit_12 0 rfl ?_
        refine g_get (pc := 13) X (v := .ref (aT 1)) fl_X2_9 dX2_firstUnfit_13 0 0 rfl rfl rfl ?_
        refine g_iload_n (pc := 16) X dX2_firstUnfit_16 1 rfl ?_
        refine g_iald_n (pc := 17) (f := lt) X 0 1 dX2_firstUnfit_17 s rfl rfl rfl (by omega) rfl ?_
        refine g_iload_n (pc := 18) X dX2_firstUnfit_18 2 rfl ?_
        refine g_iload_n (pc := 19) X dX2_firstUnfit_19 1 rfl ?_
        refine g_isub (v := nI (i - s)) (pc := 20) X dX2_firstUnfit_20 (pk_sub (a := i) (b := s) (by omega)) ?_
        refine g_aload_n (pc := 21) X dX2_firstUnfit_21 0 rfl ?_
        refine g_get (pc := 22) X (v := .ref (aT 1)) fl_X2_9 dX2_firstUnfit_22 0 0 rfl rfl rfl ?_
        refine g_iload_n (pc := 25) X dX2_firstUnfit_25 2 rfl ?_
        refine g_iald_n (pc := 26) (f := lt) X 0 1 dX2_firstUnfit_26 i rfl rfl rfl (by omega) rfl ?_
        refine g_callS (pc := 27) (rest := []) X (c_X2_fits l D cy (lt s) (i - s) (lt i) (by first | assumption | omega)) sl_X2_29 dX2_firstUnfit_27 rfl rfl rfl rfl rfl ⟨Nat.zero_le _, Nat.zero_le _⟩ ?_
        refine g_bif_ne (pc := 30) (tgt := 35) X dX2_firstUnfit_30 (by decide) (fun c30 => ?_) (fun c30 => ?_)
        · refine g_aload_n (pc := 35) X dX2_firstUnfit_35 0 rfl ?_
          refine g_get (pc := 36) X (v := .ref (aT 1)) fl_X2_9 dX2_firstUnfit_36 0 0 rfl rfl rfl ?_
          refine g_iload_n (pc := 39) X dX2_firstUnfit_39 2 rfl ?_
          refine g_iald_n (pc := 40) (f := lt) X 0 1 dX2_firstUnfit_40 i rfl rfl rfl (by omega) rfl ?_
          refine g_bipush (v := 59) (pc := 41) X dX2_firstUnfit_41 (by decide) ?_
          refine g_icmp_ne (pc := 43) (tgt := 50) X dX2_firstUnfit_43 (by decide) (fun c43 => ?_) (fun c43 => ?_)
          · refine g_iinc (v := nI (i + 1)) (lv' := [(2, .int (nI (i + 1))), (0, .ref (aT 0)), (1, .int (nI s))]) (pc := 50) X dX2_firstUnfit_50 2 rfl (nI_1 i) rfl rfl ?_
            refine g_goto (pc := 53) (tgt := 4) X dX2_firstUnfit_53 (by decide) ?_
            refine g_lv X (lv' := [(0, .ref (aT 0)), (1, .int (nI s)), (2, .int (nI (i + 1)))]) [1, 2, 0] rfl ?_
            exact ih4 s (i + 1) (by omega) c9 (by rw [hq, show n - i = (n - (i + 1)) + 1 by omega, fuK, if_pos c30]; first | rw [if_pos c43] | rw [if_neg c43]) (by omega)
          · refine g_iload_n (pc := 46) X dX2_firstUnfit_46 2 rfl ?_
            refine g_iconst (v := 1) (pc := 47) X dX2_firstUnfit_47 (by decide) ?_
            refine g_iadd (v := nI (i + 1)) (pc := 48) X dX2_firstUnfit_48 (nI_add i 1) ?_
            refine g_istore_n (lv' := [(1, .int (nI (i + 1))), (0, .ref (aT 0)), (2, .int (nI i))]) (pc := 49) X dX2_firstUnfit_49 rfl rfl rfl ?_
            refine g_iinc (v := nI (i + 1)) (lv' := [(2, .int (nI (i + 1))), (1, .int (nI (i + 1))), (0, .ref (aT 0))]) (pc := 50) X dX2_firstUnfit_50 2 rfl (nI_1 i) rfl rfl ?_
            refine g_goto (pc := 53) (tgt := 4) X dX2_firstUnfit_53 (by decide) ?_
            refine g_lv X (lv' := [(0, .ref (aT 0)), (1, .int (nI (i + 1))), (2, .int (nI (i + 1)))]) [2, 1, 0] rfl ?_
            exact ih4 (i + 1) (i + 1) (by omega) c9 (by rw [hq, show n - i = (n - (i + 1)) + 1 by omega, fuK, if_pos c30]; first | rw [if_pos c43] | rw [if_neg c43]) (by omega)
        · refine g_iload_n (pc := 33) X dX2_firstUnfit_33 2 rfl ?_
          exact g_iret (pc := 34) X rfl dX2_firstUnfit_34 rfl (by rw [hq, show n - i = (n - (i + 1)) + 1 by omega, fuK, if_neg (by rw [c30]; decide)]) rfl
  refine g_lv X (lv' := [(0, .ref (aT 0)), (1, .int (0)), (2, .int (0))]) [2, 1, 0] rfl ?_
  exact L4_1 (n - 0 + 1) 0 0 (Nat.le_refl _) (Nat.zero_le _) rfl (Nat.lt_succ_self _)
