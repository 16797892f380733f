set_option maxRecDepth 100000 in
set_option maxHeartbeats 4000000 in
theorem c_X4_keeph (l : Launch) (D : va_G) (cy : ClassId) (ay : Nat → Nat) (k : KV) (v : MV) : CtV l yX4_keep cX4_keep 3 0 64 D cy [.ref (ay 0), .ref (ay 12)] [wM cy ay k v] [wM cy ay k (uAh v (imF k))] := by
  refine ctV_of (by decide +kernel) (Nat.le_of_ble_eq_true rfl) (fun p_ e_ s_ m_ args_ below_ meth_ c_ A_ X => ?_)
  refine g_lv X (lv' := [(0, .ref (ay 0)), (1, .ref (ay 12))]) [0, 1] rfl ?_
  refine g_iconst (v := 0) (pc := 0) X dX4_keep_0 (by decide) ?_
  refine g_istore_n (lv' := [(2, .int (0)), (0, .ref (ay 0)), (1, .ref (ay 12))]) (pc := 1) X dX4_keep_1 rfl rfl rfl ?_
  have L2_1 : ∀ (fu_ : Nat) (i : Nat) (a : Nat → Int32) (hi : i ≤ 10) (hA : kpA k i a) (hm : 10 - i < fu_), G p_ l e_ { frames := 0, cells := 0, slots := 0, locals := 64 } s_ m_ args_ below_ meth_ c_ 3 D A_ 0 0 (QV below_ args_ s_ D A_ [wM cy ay k (uAh v (imF k))]) [wM cy ay k (uAh v a)] 2 [(0, .ref (ay 0)), (1, .ref (ay 12)), (2, .int (nI i))] [] := by
    intro fu_
    induction fu_ with
    | zero => intro i a hi hA hm; exact absurd hm (Nat.not_lt_zero _)
    | succ fu_ ih =>
      intro i a hi hA hm
      have ih2 := ih
      clear ih
      refine g_iload_n (pc := 2) X dX4_keep_2 2 rfl ?_
      refine g_bipush (v := 10) (pc := 3) X dX4_keep_3 (by decide) ?_
      refine g_ncmp_ge (pc := 5) (tgt := 35) X dX4_keep_5 (by decide) i 10 rfl rfl (by omega) (by decide) (fun c5 => ?_) (fun c5 => ?_)
      · have n5 := Nat.not_lt.mpr c5
        have hA10 : kpA k 10 a := by
          have e : i = 10 := by omega
          rw [← e]; exact hA
        refine g_iconst (v := 0) (pc := 35) X dX4_keep_35 (by decide) ?_
        refine g_istore_n (lv' := [(2, .int (0)), (0, .ref (ay 0)), (1, .ref (ay 12))]) (pc := 36) X dX4_keep_36 rfl rfl rfl ?_
        have L37_2 : ∀ (fu_ : Nat) (i : Nat) (a : Nat → Int32) (hi : i ≤ 8) (hB : kpB k i a) (hm : 8 - i < fu_), G p_ l e_ { frames := 0, cells := 0, slots := 0, locals := 64 } s_ m_ args_ below_ meth_ c_ 3 D A_ 0 0 (QV below_ args_ s_ D A_ [wM cy ay k (uAh v (imF k))]) [wM cy ay k (uAh v a)] 37 [(0, .ref (ay 0)), (1, .ref (ay 12)), (2, .int (nI i))] [] := by
          intro fu_
          induction fu_ with
          | zero => intro i a hi hB hm; exact absurd hm (Nat.not_lt_zero _)
          | succ fu_ ih =>
            intro i a hi hB hm
            have ih37 := ih
            clear ih
            refine g_iload_n (pc := 37) X dX4_keep_37 2 rfl ?_
            refine g_bipush (v := 8) (pc := 38) X dX4_keep_38 (by decide) ?_
            refine g_ncmp_ge (pc := 40) (tgt := 97) X dX4_keep_40 (by decide) i 8 rfl rfl (by omega) (by decide) (fun c40 => ?_) (fun c40 => ?_)
            · have n40 := Nat.not_lt.mpr c40
              have hB8 : kpB k 8 a := by
                have e : i = 8 := by omega
                rw [← e]; exact hB
              refine g_aload_n (pc := 97) X dX4_keep_97 1 rfl ?_
              refine g_bipush (v := 52) (pc := 98) X dX4_keep_98 (by decide) ?_
              refine g_aload_n (pc := 100) X dX4_keep_100 0 rfl ?_
              refine g_get (pc := 101) X (v := .int (nI (kNl k))) fl_X4_60 dX4_keep_101 0 0 rfl rfl rfl ?_
              refine g_iast_n (pc := 104) X (ss' := [wM cy ay k (uAh v (upd a 52 (nI (kNl k))))]) 0 12 dX4_keep_104 52 rfl rfl rfl (by omega) rfl rfl ?_
              refine g_aload_n (pc := 105) X dX4_keep_105 1 rfl ?_
              refine g_bipush (v := 53) (pc := 106) X dX4_keep_106 (by decide) ?_
              refine g_aload_n (pc := 108) X dX4_keep_108 0 rfl ?_
              refine g_get (pc := 109) X (v := .int (kHd k)) fl_X4_92 dX4_keep_109 0 0 rfl rfl rfl ?_
              refine g_iast_n (pc := 112) X (ss' := [wM cy ay k (uAh v (upd (upd a 52 (nI (kNl k))) 53 (kHd k)))]) 0 12 dX4_keep_112 53 rfl rfl rfl (by omega) rfl rfl ?_
              refine g_aload_n (pc := 113) X dX4_keep_113 1 rfl ?_
              refine g_bipush (v := 54) (pc := 114) X dX4_keep_114 (by decide) ?_
              refine g_aload_n (pc := 116) X dX4_keep_116 0 rfl ?_
              refine g_get (pc := 117) X (v := .int (nI (kNt k))) fl_X4_52 dX4_keep_117 0 0 rfl rfl rfl ?_
              refine g_iast_n (pc := 120) X (ss' := [wM cy ay k (uAh v (upd (upd (upd a 52 (nI (kNl k))) 53 (kHd k)) 54 (nI (kNt k))))]) 0 12 dX4_keep_120 54 rfl rfl rfl (by omega) rfl rfl ?_
              refine g_aload_n (pc := 121) X dX4_keep_121 1 rfl ?_
              refine g_bipush (v := 55) (pc := 122) X dX4_keep_122 (by decide) ?_
              refine g_aload_n (pc := 124) X dX4_keep_124 0 rfl ?_
              refine g_get (pc := 125) X (v := .int (nI (kHr k))) fl_X4_95 dX4_keep_125 0 0 rfl rfl rfl ?_
              refine g_iast_n (pc := 128) X (ss' := [wM cy ay k (uAh v (upd (upd (upd (upd a 52 (nI (kNl k))) 53 (kHd k)) 54 (nI (kNt k))) 55 (nI (kHr k))))]) 0 12 dX4_keep_128 55 rfl rfl rfl (by omega) rfl rfl ?_
              refine g_aload_n (pc := 129) X dX4_keep_129 1 rfl ?_
              refine g_bipush (v := 56) (pc := 130) X dX4_keep_130 (by decide) ?_
              refine g_aload_n (pc := 132) X dX4_keep_132 0 rfl ?_
              refine g_get (pc := 133) X (v := .int (nI (kNs k))) fl_X4_162 dX4_keep_133 0 0 rfl rfl rfl ?_
              refine g_iast_n (pc := 136) X (ss' := [wM cy ay k (uAh v (upd (upd (upd (upd (upd a 52 (nI (kNl k))) 53 (kHd k)) 54 (nI (kNt k))) 55 (nI (kHr k))) 56 (nI (kNs k))))]) 0 12 dX4_keep_136 56 rfl rfl rfl (by omega) rfl rfl ?_
              refine g_swap X (ss' := [wM cy ay k (uAh v (imF k))]) (g := imF k) 0 12 rfl rfl (kp_e hB8) rfl ?_
              exact g_vret (pc := 137) X rfl dX4_keep_137 rfl
            · refine g_aload_n (pc := 43) X dX4_keep_43 1 rfl ?_
              refine g_bipush (v := 20) (pc := 44) X dX4_keep_44 (by decide) ?_
              refine g_iload_n (pc := 46) X dX4_keep_46 2 rfl ?_
              refine g_iadd (v := nI (20 + i)) (pc := 47) X dX4_keep_47 (nI_add 20 i) ?_
              refine g_aload_n (pc := 48) X dX4_keep_48 0 rfl ?_
              refine g_get (pc := 49) X (v := .ref (ay 3)) fl_X4_16 dX4_keep_49 0 0 rfl rfl rfl ?_
              refine g_iload_n (pc := 52) X dX4_keep_52 2 rfl ?_
              refine g_iald_n (pc := 53) (f := kKi k) X 0 3 dX4_keep_53 i rfl rfl rfl (by omega) rfl ?_
              refine g_iast_n (pc := 54) X (ss' := [wM cy ay k (uAh v (upd a (20 + i) ((kKi k) i)))]) 0 12 dX4_keep_54 (20 + i) rfl rfl rfl (by omega) rfl rfl ?_
              refine g_aload_n (pc := 55) X dX4_keep_55 1 rfl ?_
              refine g_bipush (v := 28) (pc := 56) X dX4_keep_56 (by decide) ?_
              refine g_iload_n (pc := 58) X dX4_keep_58 2 rfl ?_
              refine g_iadd (v := nI (28 + i)) (pc := 59) X dX4_keep_59 (nI_add 28 i) ?_
              refine g_aload_n (pc := 60) X dX4_keep_60 0 rfl ?_
              refine g_get (pc := 61) X (v := .ref (ay 4)) fl_X4_19 dX4_keep_61 0 0 rfl rfl rfl ?_
              refine g_iload_n (pc := 64) X dX4_keep_64 2 rfl ?_
              refine g_iald_n (pc := 65) (f := kRo k) X 0 4 dX4_keep_65 i rfl rfl rfl (by omega) rfl ?_
              refine g_iast_n (pc := 66) X (ss' := [wM cy ay k (uAh v (upd (upd a (20 + i) ((kKi k) i)) (28 + i) ((kRo k) i)))]) 0 12 dX4_keep_66 (28 + i) rfl rfl rfl (by omega) rfl rfl ?_
              refine g_aload_n (pc := 67) X dX4_keep_67 1 rfl ?_
              refine g_bipush (v := 36) (pc := 68) X dX4_keep_68 (by decide) ?_
              refine g_iload_n (pc := 70) X dX4_keep_70 2 rfl ?_
              refine g_iadd (v := nI (36 + i)) (pc := 71) X dX4_keep_71 (nI_add 36 i) ?_
              refine g_aload_n (pc := 72) X dX4_keep_72 0 rfl ?_
              refine g_get (pc := 73) X (v := .ref (ay 5)) fl_X4_22 dX4_keep_73 0 0 rfl rfl rfl ?_
              refine g_iload_n (pc := 76) X dX4_keep_76 2 rfl ?_
              refine g_iald_n (pc := 77) (f := kOt k) X 0 5 dX4_keep_77 i rfl rfl rfl (by omega) rfl ?_
              refine g_iast_n (pc := 78) X (ss' := [wM cy ay k (uAh v (upd (upd (upd a (20 + i) ((kKi k) i)) (28 + i) ((kRo k) i)) (36 + i) ((kOt k) i)))]) 0 12 dX4_keep_78 (36 + i) rfl rfl rfl (by omega) rfl rfl ?_
              refine g_aload_n (pc := 79) X dX4_keep_79 1 rfl ?_
              refine g_bipush (v := 44) (pc := 80) X dX4_keep_80 (by decide) ?_
              refine g_iload_n (pc := 82) X dX4_keep_82 2 rfl ?_
              refine g_iadd (v := nI (44 + i)) (pc := 83) X dX4_keep_83 (nI_add 44 i) ?_
              refine g_aload_n (pc := 84) X dX4_keep_84 0 rfl ?_
              refine g_get (pc := 85) X (v := .ref (ay 6)) fl_X4_25 dX4_keep_85 0 0 rfl rfl rfl ?_
              refine g_iload_n (pc := 88) X dX4_keep_88 2 rfl ?_
              refine g_iald_n (pc := 89) (f := kSe k) X 0 6 dX4_keep_89 i rfl rfl rfl (by omega) rfl ?_
              refine g_iast_n (pc := 90) X (ss' := [wM cy ay k (uAh v (upd (upd (upd (upd a (20 + i) ((kKi k) i)) (28 + i) ((kRo k) i)) (36 + i) ((kOt k) i)) (44 + i) ((kSe k) i)))]) 0 12 dX4_keep_90 (44 + i) rfl rfl rfl (by omega) rfl rfl ?_
              refine g_iinc (v := nI (i + 1)) (lv' := [(2, .int (nI (i + 1))), (0, .ref (ay 0)), (1, .ref (ay 12))]) (pc := 91) X dX4_keep_91 2 rfl (nI_1 i) rfl rfl ?_
              refine g_goto (pc := 94) (tgt := 37) X dX4_keep_94 (by decide) ?_
              refine g_lv X (lv' := [(0, .ref (ay 0)), (1, .ref (ay 12)), (2, .int (nI (i + 1)))]) [1, 2, 0] rfl ?_
              exact ih37 (i + 1) (upd (upd (upd (upd a (20 + i) ((kKi k) i)) (28 + i) ((kRo k) i)) (36 + i) ((kOt k) i)) (44 + i) ((kSe k) i)) c40 (kpB_s c40 hB) (by omega)
        refine g_lv X (lv' := [(0, .ref (ay 0)), (1, .ref (ay 12)), (2, .int (0))]) [1, 2, 0] rfl ?_
        exact L37_2 (8 - 0 + 1) 0 a (Nat.zero_le _) ⟨hA10, fun x h => absurd h (Nat.not_lt_zero x)⟩ (Nat.lt_succ_self _)
      · refine g_aload_n (pc := 8) X dX4_keep_8 1 rfl ?_
        refine g_iload_n (pc := 9) X dX4_keep_9 2 rfl ?_
        refine g_aload_n (pc := 10) X dX4_keep_10 0 rfl ?_
        refine g_get (pc := 11) X (v := .ref (ay 1)) fl_X4_7 dX4_keep_11 0 0 rfl rfl rfl ?_
        refine g_iload_n (pc := 14) X dX4_keep_14 2 rfl ?_
        refine g_iald_n (pc := 15) (f := kOn k) X 0 1 dX4_keep_15 i rfl rfl rfl (by omega) rfl ?_
        refine g_iast_n (pc := 16) X (ss' := [wM cy ay k (uAh v (upd a i ((kOn k) i)))]) 0 12 dX4_keep_16 i rfl rfl rfl (by omega) rfl rfl ?_
        refine g_aload_n (pc := 17) X dX4_keep_17 1 rfl ?_
        refine g_bipush (v := 10) (pc := 18) X dX4_keep_18 (by decide) ?_
        refine g_iload_n (pc := 20) X dX4_keep_20 2 rfl ?_
        refine g_iadd (v := nI (10 + i)) (pc := 21) X dX4_keep_21 (nI_add 10 i) ?_
        refine g_aload_n (pc := 22) X dX4_keep_22 0 rfl ?_
        refine g_get (pc := 23) X (v := .ref (ay 2)) fl_X4_13 dX4_keep_23 0 0 rfl rfl rfl ?_
        refine g_iload_n (pc := 26) X dX4_keep_26 2 rfl ?_
        refine g_iald_n (pc := 27) (f := kTw k) X 0 2 dX4_keep_27 i rfl rfl rfl (by omega) rfl ?_
        refine g_iast_n (pc := 28) X (ss' := [wM cy ay k (uAh v (upd (upd a i ((kOn k) i)) (10 + i) ((kTw k) i)))]) 0 12 dX4_keep_28 (10 + i) rfl rfl rfl (by omega) rfl rfl ?_
        refine g_iinc (v := nI (i + 1)) (lv' := [(2, .int (nI (i + 1))), (0, .ref (ay 0)), (1, .ref (ay 12))]) (pc := 29) X dX4_keep_29 2 rfl (nI_1 i) rfl rfl ?_
        refine g_goto (pc := 32) (tgt := 2) X dX4_keep_32 (by decide) ?_
        refine g_lv X (lv' := [(0, .ref (ay 0)), (1, .ref (ay 12)), (2, .int (nI (i + 1)))]) [1, 2, 0] rfl ?_
        exact ih2 (i + 1) (upd (upd a i ((kOn k) i)) (10 + i) ((kTw k) i)) c5 (kpA_s c5 hA) (by omega)
  refine g_lv X (lv' := [(0, .ref (ay 0)), (1, .ref (ay 12)), (2, .int (0))]) [1, 2, 0] rfl ?_
  exact L2_1 (10 - 0 + 1) 0 (mAh v) (Nat.zero_le _) (fun x h => absurd h (Nat.not_lt_zero x)) (Nat.lt_succ_self _)
set_option maxRecDepth 100000 in
set_option maxHeartbeats 4000000 in
theorem c_X4_againh (l : Launch) (D : va_G) (cy : ClassId) (ay : Nat → Nat) (k : KV) (v : MV) (k2 : KV) (hA : ∀ j, j < 57 → mAh v j = imF k2 j) : CtV l yX4_again cX4_again 3 0 64 D cy [.ref (ay 0), .ref (ay 12)] [wM cy ay k v] [wM cy ay k2 v] := by
  refine ctV_of (by decide +kernel) (Nat.le_of_ble_eq_true rfl) (fun p_ e_ s_ m_ args_ below_ meth_ c_ A_ X => ?_)
  refine g_lv X (lv' := [(0, .ref (ay 0)), (1, .ref (ay 12))]) [0, 1] rfl ?_
  refine g_iconst (v := 0) (pc := 0) X dX4_again_0 (by decide) ?_
  refine g_istore_n (lv' := [(2, .int (0)), (0, .ref (ay 0)), (1, .ref (ay 12))]) (pc := 1) X dX4_again_1 rfl rfl rfl ?_
  have L2_1 : ∀ (fu_ : Nat) (i : Nat) (o : Nat → Int32) (w : Nat → Int32) (hi : i ≤ 10) (hO : agA k2 i o w) (hm : 10 - i < fu_), G p_ l e_ { frames := 0, cells := 0, slots := 0, locals := 64 } s_ m_ args_ below_ meth_ c_ 3 D A_ 0 0 (QV below_ args_ s_ D A_ [wM cy ay k2 v]) [wM cy ay (sTw (sOn k o) w) v] 2 [(0, .ref (ay 0)), (1, .ref (ay 12)), (2, .int (nI i))] [] := by
    intro fu_
    induction fu_ with
    | zero => intro i o w hi hO hm; exact absurd hm (Nat.not_lt_zero _)
    | succ fu_ ih =>
      intro i o w hi hO hm
      have ih2 := ih
      clear ih
      refine g_iload_n (pc := 2) X dX4_again_2 2 rfl ?_
      refine g_bipush (v := 10) (pc := 3) X dX4_again_3 (by decide) ?_
      refine g_ncmp_ge (pc := 5) (tgt := 35) X dX4_again_5 (by decide) i 10 rfl rfl (by omega) (by decide) (fun c5 => ?_) (fun c5 => ?_)
      · have n5 := Nat.not_lt.mpr c5
        have e10 : i = 10 := by omega
        refine g_swap X (ss' := [wM cy ay (sTw (sOn k (kOn k2)) w) v]) (g := kOn k2) 0 1 rfl rfl (fun x hx => (hO x (by omega)).1) rfl ?_
        refine g_swap X (ss' := [wM cy ay (sTw (sOn k (kOn k2)) (kTw k2)) v]) (g := kTw k2) 0 2 rfl rfl (fun x hx => (hO x (by omega)).2) rfl ?_
        refine g_iconst (v := 0) (pc := 35) X dX4_again_35 (by decide) ?_
        refine g_istore_n (lv' := [(2, .int (0)), (0, .ref (ay 0)), (1, .ref (ay 12))]) (pc := 36) X dX4_again_36 rfl rfl rfl ?_
        have L37_2 : ∀ (fu_ : Nat) (i : Nat) (a : Nat → Int32) (b : Nat → Int32) (c2 : Nat → Int32) (d2 : Nat → Int32) (hi : i ≤ 8) (hB : agB k2 i a b c2 d2) (hm : 8 - i < fu_), G p_ l e_ { frames := 0, cells := 0, slots := 0, locals := 64 } s_ m_ args_ below_ meth_ c_ 3 D A_ 0 0 (QV below_ args_ s_ D A_ [wM cy ay k2 v]) [wM cy ay (sSe (sOt (sRo (sKi (sTw (sOn k (kOn k2)) (kTw k2)) a) b) c2) d2) v] 37 [(0, .ref (ay 0)), (1, .ref (ay 12)), (2, .int (nI i))] [] := by
          intro fu_
          induction fu_ with
          | zero => intro i a b c2 d2 hi hB hm; exact absurd hm (Nat.not_lt_zero _)
          | succ fu_ ih =>
            intro i a b c2 d2 hi hB hm
            have ih37 := ih
            clear ih
            refine g_iload_n (pc := 37) X dX4_again_37 2 rfl ?_
            refine g_bipush (v := 8) (pc := 38) X dX4_again_38 (by decide) ?_
            refine g_ncmp_ge (pc := 40) (tgt := 97) X dX4_again_40 (by decide) i 8 rfl rfl (by omega) (by decide) (fun c40 => ?_) (fun c40 => ?_)
            · have n40 := Nat.not_lt.mpr c40
              have e8 : i = 8 := by omega
              refine g_swap X (ss' := [wM cy ay (sSe (sOt (sRo (sKi (sTw (sOn k (kOn k2)) (kTw k2)) (kKi k2)) b) c2) d2) v]) (g := kKi k2) 0 3 rfl rfl (fun x hx => (hB x (by omega)).1) rfl ?_
              refine g_swap X (ss' := [wM cy ay (sSe (sOt (sRo (sKi (sTw (sOn k (kOn k2)) (kTw k2)) (kKi k2)) (kRo k2)) c2) d2) v]) (g := kRo k2) 0 4 rfl rfl (fun x hx => (hB x (by omega)).2.1) rfl ?_
              refine g_swap X (ss' := [wM cy ay (sSe (sOt (sRo (sKi (sTw (sOn k (kOn k2)) (kTw k2)) (kKi k2)) (kRo k2)) (kOt k2)) d2) v]) (g := kOt k2) 0 5 rfl rfl (fun x hx => (hB x (by omega)).2.2.1) rfl ?_
              refine g_swap X (ss' := [wM cy ay (sSe (sOt (sRo (sKi (sTw (sOn k (kOn k2)) (kTw k2)) (kKi k2)) (kRo k2)) (kOt k2)) (kSe k2)) v]) (g := kSe k2) 0 6 rfl rfl (fun x hx => (hB x (by omega)).2.2.2) rfl ?_
              refine g_aload_n (pc := 97) X dX4_again_97 0 rfl ?_
              refine g_aload_n (pc := 98) X dX4_again_98 1 rfl ?_
              refine g_bipush (v := 52) (pc := 99) X dX4_again_99 (by decide) ?_
              refine g_iald_n (pc := 101) (f := mAh v) X 0 12 dX4_again_101 52 rfl rfl rfl (by omega) rfl ?_
              refine g_top X (x := (mAh v) 52) (y := nI (kNl k2)) (hA 52 (by omega)) ?_
              refine g_put (pc := 102) X (ss' := [wM cy ay (sSe (sOt (sRo (sKi (sTw (sOn (sNl k (kNl k2)) (kOn k2)) (kTw k2)) (kKi k2)) (kRo k2)) (kOt k2)) (kSe k2)) v]) fp_X4_60 dX4_again_102 0 0 rfl rfl rfl rfl rfl rfl ?_
              refine g_aload_n (pc := 105) X dX4_again_105 0 rfl ?_
              refine g_aload_n (pc := 106) X dX4_again_106 1 rfl ?_
              refine g_bipush (v := 53) (pc := 107) X dX4_again_107 (by decide) ?_
              refine g_iald_n (pc := 109) (f := mAh v) X 0 12 dX4_again_109 53 rfl rfl rfl (by omega) rfl ?_
              refine g_top X (x := (mAh v) 53) (y := kHd k2) (hA 53 (by omega)) ?_
              refine g_put (pc := 110) X (ss' := [wM cy ay (sSe (sOt (sRo (sKi (sHd (sTw (sOn (sNl k (kNl k2)) (kOn k2)) (kTw k2)) (kHd k2)) (kKi k2)) (kRo k2)) (kOt k2)) (kSe k2)) v]) fp_X4_92 dX4_again_110 0 0 rfl rfl rfl rfl rfl rfl ?_
              refine g_aload_n (pc := 113) X dX4_again_113 0 rfl ?_
              refine g_aload_n (pc := 114) X dX4_again_114 1 rfl ?_
              refine g_bipush (v := 54) (pc := 115) X dX4_again_115 (by decide) ?_
              refine g_iald_n (pc := 117) (f := mAh v) X 0 12 dX4_again_117 54 rfl rfl rfl (by omega) rfl ?_
              refine g_top X (x := (mAh v) 54) (y := nI (kNt k2)) (hA 54 (by omega)) ?_
              refine g_put (pc := 118) X (ss' := [wM cy ay (sSe (sOt (sRo (sKi (sNt (sHd (sTw (sOn (sNl k (kNl k2)) (kOn k2)) (kTw k2)) (kHd k2)) (kNt k2)) (kKi k2)) (kRo k2)) (kOt k2)) (kSe k2)) v]) fp_X4_52 dX4_again_118 0 0 rfl rfl rfl rfl rfl rfl ?_
              refine g_aload_n (pc := 121) X dX4_again_121 0 rfl ?_
              refine g_aload_n (pc := 122) X dX4_again_122 1 rfl ?_
              refine g_bipush (v := 55) (pc := 123) X dX4_again_123 (by decide) ?_
              refine g_iald_n (pc := 125) (f := mAh v) X 0 12 dX4_again_125 55 rfl rfl rfl (by omega) rfl ?_
              refine g_top X (x := (mAh v) 55) (y := nI (kHr k2)) (hA 55 (by omega)) ?_
              refine g_put (pc := 126) X (ss' := [wM cy ay (sSe (sHr (sOt (sRo (sKi (sNt (sHd (sTw (sOn (sNl k (kNl k2)) (kOn k2)) (kTw k2)) (kHd k2)) (kNt k2)) (kKi k2)) (kRo k2)) (kOt k2)) (kHr k2)) (kSe k2)) v]) fp_X4_95 dX4_again_126 0 0 rfl rfl rfl rfl rfl rfl ?_
              refine g_aload_n (pc := 129) X dX4_again_129 0 rfl ?_
              refine g_aload_n (pc := 130) X dX4_again_130 1 rfl ?_
              refine g_bipush (v := 56) (pc := 131) X dX4_again_131 (by decide) ?_
              refine g_iald_n (pc := 133) (f := mAh v) X 0 12 dX4_again_133 56 rfl rfl rfl (by omega) rfl ?_
              refine g_top X (x := (mAh v) 56) (y := nI (kNs k2)) (hA 56 (by omega)) ?_
              refine g_put (pc := 134) X (ss' := [wM cy ay (sSe (sNs (sHr (sOt (sRo (sKi (sNt (sHd (sTw (sOn (sNl k (kNl k2)) (kOn k2)) (kTw k2)) (kHd k2)) (kNt k2)) (kKi k2)) (kRo k2)) (kOt k2)) (kHr k2)) (kNs k2)) (kSe k2)) v]) fp_X4_162 dX4_again_134 0 0 rfl rfl rfl rfl rfl rfl ?_
              exact g_vret (pc := 137) X rfl dX4_again_137 rfl
            · refine g_aload_n (pc := 43) X dX4_again_43 0 rfl ?_
              refine g_get (pc := 44) X (v := .ref (ay 3)) fl_X4_16 dX4_again_44 0 0 rfl rfl rfl ?_
              refine g_iload_n (pc := 47) X dX4_again_47 2 rfl ?_
              refine g_aload_n (pc := 48) X dX4_again_48 1 rfl ?_
              refine g_bipush (v := 20) (pc := 49) X dX4_again_49 (by decide) ?_
              refine g_iload_n (pc := 51) X dX4_again_51 2 rfl ?_
              refine g_iadd (v := nI (20 + i)) (pc := 52) X dX4_again_52 (nI_add 20 i) ?_
              refine g_iald_n (pc := 53) (f := mAh v) X 0 12 dX4_again_53 (20 + i) rfl rfl rfl (by omega) rfl ?_
              refine g_top X (x := (mAh v) (20 + i)) (y := kKi k2 i) ((hA _ (by omega)).trans (im_ki (by omega))) ?_
              refine g_iast_n (pc := 54) X (ss' := [wM cy ay (sSe (sOt (sRo (sKi (sTw (sOn k (kOn k2)) (kTw k2)) (upd a i (kKi k2 i))) b) c2) d2) v]) 0 3 dX4_again_54 i rfl rfl rfl (by omega) rfl rfl ?_
              refine g_aload_n (pc := 55) X dX4_again_55 0 rfl ?_
              refine g_get (pc := 56) X (v := .ref (ay 4)) fl_X4_19 dX4_again_56 0 0 rfl rfl rfl ?_
              refine g_iload_n (pc := 59) X dX4_again_59 2 rfl ?_
              refine g_aload_n (pc := 60) X dX4_again_60 1 rfl ?_
              refine g_bipush (v := 28) (pc := 61) X dX4_again_61 (by decide) ?_
              refine g_iload_n (pc := 63) X dX4_again_63 2 rfl ?_
              refine g_iadd (v := nI (28 + i)) (pc := 64) X dX4_again_64 (nI_add 28 i) ?_
              refine g_iald_n (pc := 65) (f := mAh v) X 0 12 dX4_again_65 (28 + i) rfl rfl rfl (by omega) rfl ?_
              refine g_top X (x := (mAh v) (28 + i)) (y := kRo k2 i) ((hA _ (by omega)).trans (im_ro (by omega))) ?_
              refine g_iast_n (pc := 66) X (ss' := [wM cy ay (sSe (sOt (sRo (sKi (sTw (sOn k (kOn k2)) (kTw k2)) (upd a i (kKi k2 i))) (upd b i (kRo k2 i))) c2) d2) v]) 0 4 dX4_again_66 i rfl rfl rfl (by omega) rfl rfl ?_
              refine g_aload_n (pc := 67) X dX4_again_67 0 rfl ?_
              refine g_get (pc := 68) X (v := .ref (ay 5)) fl_X4_22 dX4_again_68 0 0 rfl rfl rfl ?_
              refine g_iload_n (pc := 71) X dX4_again_71 2 rfl ?_
              refine g_aload_n (pc := 72) X dX4_again_72 1 rfl ?_
              refine g_bipush (v := 36) (pc := 73) X dX4_again_73 (by decide) ?_
              refine g_iload_n (pc := 75) X dX4_again_75 2 rfl ?_
              refine g_iadd (v := nI (36 + i)) (pc := 76) X dX4_again_76 (nI_add 36 i) ?_
              refine g_iald_n (pc := 77) (f := mAh v) X 0 12 dX4_again_77 (36 + i) rfl rfl rfl (by omega) rfl ?_
              refine g_top X (x := (mAh v) (36 + i)) (y := kOt k2 i) ((hA _ (by omega)).trans (im_ot (by omega))) ?_
              refine g_iast_n (pc := 78) X (ss' := [wM cy ay (sSe (sOt (sRo (sKi (sTw (sOn k (kOn k2)) (kTw k2)) (upd a i (kKi k2 i))) (upd b i (kRo k2 i))) (upd c2 i (kOt k2 i))) d2) v]) 0 5 dX4_again_78 i rfl rfl rfl (by omega) rfl rfl ?_
              refine g_aload_n (pc := 79) X dX4_again_79 0 rfl ?_
              refine g_get (pc := 80) X (v := .ref (ay 6)) fl_X4_25 dX4_again_80 0 0 rfl rfl rfl ?_
              refine g_iload_n (pc := 83) X dX4_again_83 2 rfl ?_
              refine g_aload_n (pc := 84) X dX4_again_84 1 rfl ?_
              refine g_bipush (v := 44) (pc := 85) X dX4_again_85 (by decide) ?_
              refine g_iload_n (pc := 87) X dX4_again_87 2 rfl ?_
              refine g_iadd (v := nI (44 + i)) (pc := 88) X dX4_again_88 (nI_add 44 i) ?_
              refine g_iald_n (pc := 89) (f := mAh v) X 0 12 dX4_again_89 (44 + i) rfl rfl rfl (by omega) rfl ?_
              refine g_top X (x := (mAh v) (44 + i)) (y := kSe k2 i) ((hA _ (by omega)).trans (im_se (by omega))) ?_
              refine g_iast_n (pc := 90) X (ss' := [wM cy ay (sSe (sOt (sRo (sKi (sTw (sOn k (kOn k2)) (kTw k2)) (upd a i (kKi k2 i))) (upd b i (kRo k2 i))) (upd c2 i (kOt k2 i))) (upd d2 i (kSe k2 i))) v]) 0 6 dX4_again_90 i rfl rfl rfl (by omega) rfl rfl ?_
              refine g_iinc (v := nI (i + 1)) (lv' := [(2, .int (nI (i + 1))), (0, .ref (ay 0)), (1, .ref (ay 12))]) (pc := 91) X dX4_again_91 2 rfl (nI_1 i) rfl rfl ?_
              refine g_goto (pc := 94) (tgt := 37) X dX4_again_94 (by decide) ?_
              refine g_lv X (lv' := [(0, .ref (ay 0)), (1, .ref (ay 12)), (2, .int (nI (i + 1)))]) [1, 2, 0] rfl ?_
              exact ih37 (i + 1) (upd a i (kKi k2 i)) (upd b i (kRo k2 i)) (upd c2 i (kOt k2 i)) (upd d2 i (kSe k2 i)) c40 (agB_s hB) (by omega)
        refine g_lv X (lv' := [(0, .ref (ay 0)), (1, .ref (ay 12)), (2, .int (0))]) [1, 2, 0] rfl ?_
        exact L37_2 (8 - 0 + 1) 0 (kKi k) (kRo k) (kOt k) (kSe k) (Nat.zero_le _) (fun x h => absurd h (Nat.not_lt_zero x)) (Nat.lt_succ_self _)
      · refine g_aload_n (pc := 8) X dX4_again_8 0 rfl ?_
        refine g_get (pc := 9) X (v := .ref (ay 1)) fl_X4_7 dX4_again_9 0 0 rfl rfl rfl ?_
        refine g_iload_n (pc := 12) X dX4_again_12 2 rfl ?_
        refine g_aload_n (pc := 13) X dX4_again_13 1 rfl ?_
        refine g_iload_n (pc := 14) X dX4_again_14 2 rfl ?_
        refine g_iald_n (pc := 15) (f := mAh v) X 0 12 dX4_again_15 i rfl rfl rfl (by omega) rfl ?_
        refine g_top X (x := (mAh v) i) (y := kOn k2 i) ((hA _ (by omega)).trans (im_on (by omega))) ?_
        refine g_iast_n (pc := 16) X (ss' := [wM cy ay (sTw (sOn k (upd o i (kOn k2 i))) w) v]) 0 1 dX4_again_16 i rfl rfl rfl (by omega) rfl rfl ?_
        refine g_aload_n (pc := 17) X dX4_again_17 0 rfl ?_
        refine g_get (pc := 18) X (v := .ref (ay 2)) fl_X4_13 dX4_again_18 0 0 rfl rfl rfl ?_
        refine g_iload_n (pc := 21) X dX4_again_21 2 rfl ?_
        refine g_aload_n (pc := 22) X dX4_again_22 1 rfl ?_
        refine g_bipush (v := 10) (pc := 23) X dX4_again_23 (by decide) ?_
        refine g_iload_n (pc := 25) X dX4_again_25 2 rfl ?_
        refine g_iadd (v := nI (10 + i)) (pc := 26) X dX4_again_26 (nI_add 10 i) ?_
        refine g_iald_n (pc := 27) (f := mAh v) X 0 12 dX4_again_27 (10 + i) rfl rfl rfl (by omega) rfl ?_
        refine g_top X (x := (mAh v) (10 + i)) (y := kTw k2 i) ((hA _ (by omega)).trans (im_tw (by omega))) ?_
        refine g_iast_n (pc := 28) X (ss' := [wM cy ay (sTw (sOn k (upd o i (kOn k2 i))) (upd w i (kTw k2 i))) v]) 0 2 dX4_again_28 i rfl rfl rfl (by omega) rfl rfl ?_
        refine g_iinc (v := nI (i + 1)) (lv' := [(2, .int (nI (i + 1))), (0, .ref (ay 0)), (1, .ref (ay 12))]) (pc := 29) X dX4_again_29 2 rfl (nI_1 i) rfl rfl ?_
        refine g_goto (pc := 32) (tgt := 2) X dX4_again_32 (by decide) ?_
        refine g_lv X (lv' := [(0, .ref (ay 0)), (1, .ref (ay 12)), (2, .int (nI (i + 1)))]) [1, 2, 0] rfl ?_
        exact ih2 (i + 1) (upd o i (kOn k2 i)) (upd w i (kTw k2 i)) c5 (agA_s hO) (by omega)
  refine g_lv X (lv' := [(0, .ref (ay 0)), (1, .ref (ay 12)), (2, .int (0))]) [1, 2, 0] rfl ?_
  exact L2_1 (10 - 0 + 1) 0 (kOn k) (kTw k) (Nat.zero_le _) (fun x h => absurd h (Nat.not_lt_zero x)) (Nat.lt_succ_self _)
set_option maxRecDepth 100000 in
set_option maxHeartbeats 4000000 in
theorem c_X4_keepg (l : Launch) (D : va_G) (cy : ClassId) (ay : Nat → Nat) (k : KV) (v : MV) : CtV l yX4_keep cX4_keep 3 0 64 D cy [.ref (ay 0), .ref (ay 11)] [wM cy ay k v] [wM cy ay k (uIg v (imF k))] := by
  refine ctV_of (by decide +kernel) (Nat.le_of_ble_eq_true rfl) (fun p_ e_ s_ m_ args_ below_ meth_ c_ A_ X => ?_)
  refine g_lv X (lv' := [(0, .ref (ay 0)), (1, .ref (ay 11))]) [0, 1] rfl ?_
  refine g_iconst (v := 0) (pc := 0) X dX4_keep_0 (by decide) ?_
  refine g_istore_n (lv' := [(2, .int (0)), (0, .ref (ay 0)), (1, .ref (ay 11))]) (pc := 1) X dX4_keep_1 rfl rfl rfl ?_
  have L2_1 : ∀ (fu_ : Nat) (i : Nat) (a : Nat → Int32) (hi : i ≤ 10) (hA : kpA k i a) (hm : 10 - i < fu_), G p_ l e_ { frames := 0, cells := 0, slots := 0, locals := 64 } s_ m_ args_ below_ meth_ c_ 3 D A_ 0 0 (QV below_ args_ s_ D A_ [wM cy ay k (uIg v (imF k))]) [wM cy ay k (uIg v a)] 2 [(0, .ref (ay 0)), (1, .ref (ay 11)), (2, .int (nI i))] [] := by
    intro fu_
    induction fu_ with
    | zero => intro i a hi hA hm; exact absurd hm (Nat.not_lt_zero _)
    | succ fu_ ih =>
      intro i a hi hA hm
      have ih2 := ih
      clear ih
      refine g_iload_n (pc := 2) X dX4_keep_2 2 rfl ?_
      refine g_bipush (v := 10) (pc := 3) X dX4_keep_3 (by decide) ?_
      refine g_ncmp_ge (pc := 5) (tgt := 35) X dX4_keep_5 (by decide) i 10 rfl rfl (by omega) (by decide) (fun c5 => ?_) (fun c5 => ?_)
      · have n5 := Nat.not_lt.mpr c5
        have hA10 : kpA k 10 a := by
          have e : i = 10 := by omega
          rw [← e]; exact hA
        refine g_iconst (v := 0) (pc := 35) X dX4_keep_35 (by decide) ?_
        refine g_istore_n (lv' := [(2, .int (0)), (0, .ref (ay 0)), (1, .ref (ay 11))]) (pc := 36) X dX4_keep_36 rfl rfl rfl ?_
        have L37_2 : ∀ (fu_ : Nat) (i : Nat) (a : Nat → Int32) (hi : i ≤ 8) (hB : kpB k i a) (hm : 8 - i < fu_), G p_ l e_ { frames := 0, cells := 0, slots := 0, locals := 64 } s_ m_ args_ below_ meth_ c_ 3 D A_ 0 0 (QV below_ args_ s_ D A_ [wM cy ay k (uIg v (imF k))]) [wM cy ay k (uIg v a)] 37 [(0, .ref (ay 0)), (1, .ref (ay 11)), (2, .int (nI i))] [] := by
          intro fu_
          induction fu_ with
          | zero => intro i a hi hB hm; exact absurd hm (Nat.not_lt_zero _)
          | succ fu_ ih =>
            intro i a hi hB hm
            have ih37 := ih
            clear ih
            refine g_iload_n (pc := 37) X dX4_keep_37 2 rfl ?_
            refine g_bipush (v := 8) (pc := 38) X dX4_keep_38 (by decide) ?_
            refine g_ncmp_ge (pc := 40) (tgt := 97) X dX4_keep_40 (by decide) i 8 rfl rfl (by omega) (by decide) (fun c40 => ?_) (fun c40 => ?_)
            · have n40 := Nat.not_lt.mpr c40
              have hB8 : kpB k 8 a := by
                have e : i = 8 := by omega
                rw [← e]; exact hB
              refine g_aload_n (pc := 97) X dX4_keep_97 1 rfl ?_
              refine g_bipush (v := 52) (pc := 98) X dX4_keep_98 (by decide) ?_
              refine g_aload_n (pc := 100) X dX4_keep_100 0 rfl ?_
              refine g_get (pc := 101) X (v := .int (nI (kNl k))) fl_X4_60 dX4_keep_101 0 0 rfl rfl rfl ?_
              refine g_iast_n (pc := 104) X (ss' := [wM cy ay k (uIg v (upd a 52 (nI (kNl k))))]) 0 11 dX4_keep_104 52 rfl rfl rfl (by omega) rfl rfl ?_
              refine g_aload_n (pc := 105) X dX4_keep_105 1 rfl ?_
              refine g_bipush (v := 53) (pc := 106) X dX4_keep_106 (by decide) ?_
              refine g_aload_n (pc := 108) X dX4_keep_108 0 rfl ?_
              refine g_get (pc := 109) X (v := .int (kHd k)) fl_X4_92 dX4_keep_109 0 0 rfl rfl rfl ?_
              refine g_iast_n (pc := 112) X (ss' := [wM cy ay k (uIg v (upd (upd a 52 (nI (kNl k))) 53 (kHd k)))]) 0 11 dX4_keep_112 53 rfl rfl rfl (by omega) rfl rfl ?_
              refine g_aload_n (pc := 113) X dX4_keep_113 1 rfl ?_
              refine g_bipush (v := 54) (pc := 114) X dX4_keep_114 (by decide) ?_
              refine g_aload_n (pc := 116) X dX4_keep_116 0 rfl ?_
              refine g_get (pc := 117) X (v := .int (nI (kNt k))) fl_X4_52 dX4_keep_117 0 0 rfl rfl rfl ?_
              refine g_iast_n (pc := 120) X (ss' := [wM cy ay k (uIg v (upd (upd (upd a 52 (nI (kNl k))) 53 (kHd k)) 54 (nI (kNt k))))]) 0 11 dX4_keep_120 54 rfl rfl rfl (by omega) rfl rfl ?_
              refine g_aload_n (pc := 121) X dX4_keep_121 1 rfl ?_
              refine g_bipush (v := 55) (pc := 122) X dX4_keep_122 (by decide) ?_
              refine g_aload_n (pc := 124) X dX4_keep_124 0 rfl ?_
              refine g_get (pc := 125) X (v := .int (nI (kHr k))) fl_X4_95 dX4_keep_125 0 0 rfl rfl rfl ?_
              refine g_iast_n (pc := 128) X (ss' := [wM cy ay k (uIg v (upd (upd (upd (upd a 52 (nI (kNl k))) 53 (kHd k)) 54 (nI (kNt k))) 55 (nI (kHr k))))]) 0 11 dX4_keep_128 55 rfl rfl rfl (by omega) rfl rfl ?_
              refine g_aload_n (pc := 129) X dX4_keep_129 1 rfl ?_
              refine g_bipush (v := 56) (pc := 130) X dX4_keep_130 (by decide) ?_
              refine g_aload_n (pc := 132) X dX4_keep_132 0 rfl ?_
              refine g_get (pc := 133) X (v := .int (nI (kNs k))) fl_X4_162 dX4_keep_133 0 0 rfl rfl rfl ?_
              refine g_iast_n (pc := 136) X (ss' := [wM cy ay k (uIg v (upd (upd (upd (upd (upd a 52 (nI (kNl k))) 53 (kHd k)) 54 (nI (kNt k))) 55 (nI (kHr k))) 56 (nI (kNs k))))]) 0 11 dX4_keep_136 56 rfl rfl rfl (by omega) rfl rfl ?_
              refine g_swap X (ss' := [wM cy ay k (uIg v (imF k))]) (g := imF k) 0 11 rfl rfl (kp_e hB8) rfl ?_
              exact g_vret (pc := 137) X rfl dX4_keep_137 rfl
            · refine g_aload_n (pc := 43) X dX4_keep_43 1 rfl ?_
              refine g_bipush (v := 20) (pc := 44) X dX4_keep_44 (by decide) ?_
              refine g_iload_n (pc := 46) X dX4_keep_46 2 rfl ?_
              refine g_iadd (v := nI (20 + i)) (pc := 47) X dX4_keep_47 (nI_add 20 i) ?_
              refine g_aload_n (pc := 48) X dX4_keep_48 0 rfl ?_
              refine g_get (pc := 49) X (v := .ref (ay 3)) fl_X4_16 dX4_keep_49 0 0 rfl rfl rfl ?_
              refine g_iload_n (pc := 52) X dX4_keep_52 2 rfl ?_
              refine g_iald_n (pc := 53) (f := kKi k) X 0 3 dX4_keep_53 i rfl rfl rfl (by omega) rfl ?_
              refine g_iast_n (pc := 54) X (ss' := [wM cy ay k (uIg v (upd a (20 + i) ((kKi k) i)))]) 0 11 dX4_keep_54 (20 + i) rfl rfl rfl (by omega) rfl rfl ?_
              refine g_aload_n (pc := 55) X dX4_keep_55 1 rfl ?_
              refine g_bipush (v := 28) (pc := 56) X dX4_keep_56 (by decide) ?_
              refine g_iload_n (pc := 58) X dX4_keep_58 2 rfl ?_
              refine g_iadd (v := nI (28 + i)) (pc := 59) X dX4_keep_59 (nI_add 28 i) ?_
              refine g_aload_n (pc := 60) X dX4_keep_60 0 rfl ?_
              refine g_get (pc := 61) X (v := .ref (ay 4)) fl_X4_19 dX4_keep_61 0 0 rfl rfl rfl ?_
              refine g_iload_n (pc := 64) X dX4_keep_64 2 rfl ?_
              refine g_iald_n (pc := 65) (f := kRo k) X 0 4 dX4_keep_65 i rfl rfl rfl (by omega) rfl ?_
              refine g_iast_n (pc := 66) X (ss' := [wM cy ay k (uIg v (upd (upd a (20 + i) ((kKi k) i)) (28 + i) ((kRo k) i)))]) 0 11 dX4_keep_66 (28 + i) rfl rfl rfl (by omega) rfl rfl ?_
              refine g_aload_n (pc := 67) X dX4_keep_67 1 rfl ?_
              refine g_bipush (v := 36) (pc := 68) X dX4_keep_68 (by decide) ?_
              refine g_iload_n (pc := 70) X dX4_keep_70 2 rfl ?_
              refine g_iadd (v := nI (36 + i)) (pc := 71) X dX4_keep_71 (nI_add 36 i) ?_
              refine g_aload_n (pc := 72) X dX4_keep_72 0 rfl ?_
              refine g_get (pc := 73) X (v := .ref (ay 5)) fl_X4_22 dX4_keep_73 0 0 rfl rfl rfl ?_
              refine g_iload_n (pc := 76) X dX4_keep_76 2 rfl ?_
              refine g_iald_n (pc := 77) (f := kOt k) X 0 5 dX4_keep_77 i rfl rfl rfl (by omega) rfl ?_
              refine g_iast_n (pc := 78) X (ss' := [wM cy ay k (uIg v (upd (upd (upd a (20 + i) ((kKi k) i)) (28 + i) ((kRo k) i)) (36 + i) ((kOt k) i)))]) 0 11 dX4_keep_78 (36 + i) rfl rfl rfl (by omega) rfl rfl ?_
              refine g_aload_n (pc := 79) X dX4_keep_79 1 rfl ?_
              refine g_bipush (v := 44) (pc := 80) X dX4_keep_80 (by decide) ?_
              refine g_iload_n (pc := 82) X dX4_keep_82 2 rfl ?_
              refine g_iadd (v := nI (44 + i)) (pc := 83) X dX4_keep_83 (nI_add 44 i) ?_
              refine g_aload_n (pc := 84) X dX4_keep_84 0 rfl ?_
              refine g_get (pc := 85) X (v := .ref (ay 6)) fl_X4_25 dX4_keep_85 0 0 rfl rfl rfl ?_
              refine g_iload_n (pc := 88) X dX4_keep_88 2 rfl ?_
              refine g_iald_n (pc := 89) (f := kSe k) X 0 6 dX4_keep_89 i rfl rfl rfl (by omega) rfl ?_
              refine g_iast_n (pc := 90) X (ss' := [wM cy ay k (uIg v (upd (upd (upd (upd a (20 + i) ((kKi k) i)) (28 + i) ((kRo k) i)) (36 + i) ((kOt k) i)) (44 + i) ((kSe k) i)))]) 0 11 dX4_keep_90 (44 + i) rfl rfl rfl (by omega) rfl rfl ?_
              refine g_iinc (v := nI (i + 1)) (lv' := [(2, .int (nI (i + 1))), (0, .ref (ay 0)), (1, .ref (ay 11))]) (pc := 91) X dX4_keep_91 2 rfl (nI_1 i) rfl rfl ?_
              refine g_goto (pc := 94) (tgt := 37) X dX4_keep_94 (by decide) ?_
              refine g_lv X (lv' := [(0, .ref (ay 0)), (1, .ref (ay 11)), (2, .int (nI (i + 1)))]) [1, 2, 0] rfl ?_
              exact ih37 (i + 1) (upd (upd (upd (upd a (20 + i) ((kKi k) i)) (28 + i) ((kRo k) i)) (36 + i) ((kOt k) i)) (44 + i) ((kSe k) i)) c40 (kpB_s c40 hB) (by omega)
        refine g_lv X (lv' := [(0, .ref (ay 0)), (1, .ref (ay 11)), (2, .int (0))]) [1, 2, 0] rfl ?_
        exact L37_2 (8 - 0 + 1) 0 a (Nat.zero_le _) ⟨hA10, fun x h => absurd h (Nat.not_lt_zero x)⟩ (Nat.lt_succ_self _)
      · refine g_aload_n (pc := 8) X dX4_keep_8 1 rfl ?_
        refine g_iload_n (pc := 9) X dX4_keep_9 2 rfl ?_
        refine g_aload_n (pc := 10) X dX4_keep_10 0 rfl ?_
        refine g_get (pc := 11) X (v := .ref (ay 1)) fl_X4_7 dX4_keep_11 0 0 rfl rfl rfl ?_
        refine g_iload_n (pc := 14) X dX4_keep_14 2 rfl ?_
        refine g_iald_n (pc := 15) (f := kOn k) X 0 1 dX4_keep_15 i rfl rfl rfl (by omega) rfl ?_
        refine g_iast_n (pc := 16) X (ss' := [wM cy ay k (uIg v (upd a i ((kOn k) i)))]) 0 11 dX4_keep_16 i rfl rfl rfl (by omega) rfl rfl ?_
        refine g_aload_n (pc := 17) X dX4_keep_17 1 rfl ?_
        refine g_bipush (v := 10) (pc := 18) X dX4_keep_18 (by decide) ?_
        refine g_iload_n (pc := 20) X dX4_keep_20 2 rfl ?_
        refine g_iadd (v := nI (10 + i)) (pc := 21) X dX4_keep_21 (nI_add 10 i) ?_
        refine g_aload_n (pc := 22) X dX4_keep_22 0 rfl ?_
        refine g_get (pc := 23) X (v := .ref (ay 2)) fl_X4_13 dX4_keep_23 0 0 rfl rfl rfl ?_
        refine g_iload_n (pc := 26) X dX4_keep_26 2 rfl ?_
        refine g_iald_n (pc := 27) (f := kTw k) X 0 2 dX4_keep_27 i rfl rfl rfl (by omega) rfl ?_
        refine g_iast_n (pc := 28) X (ss' := [wM cy ay k (uIg v (upd (upd a i ((kOn k) i)) (10 + i) ((kTw k) i)))]) 0 11 dX4_keep_28 (10 + i) rfl rfl rfl (by omega) rfl rfl ?_
        refine g_iinc (v := nI (i + 1)) (lv' := [(2, .int (nI (i + 1))), (0, .ref (ay 0)), (1, .ref (ay 11))]) (pc := 29) X dX4_keep_29 2 rfl (nI_1 i) rfl rfl ?_
        refine g_goto (pc := 32) (tgt := 2) X dX4_keep_32 (by decide) ?_
        refine g_lv X (lv' := [(0, .ref (ay 0)), (1, .ref (ay 11)), (2, .int (nI (i + 1)))]) [1, 2, 0] rfl ?_
        exact ih2 (i + 1) (upd (upd a i ((kOn k) i)) (10 + i) ((kTw k) i)) c5 (kpA_s c5 hA) (by omega)
  refine g_lv X (lv' := [(0, .ref (ay 0)), (1, .ref (ay 11)), (2, .int (0))]) [1, 2, 0] rfl ?_
  exact L2_1 (10 - 0 + 1) 0 (mIg v) (Nat.zero_le _) (fun x h => absurd h (Nat.not_lt_zero x)) (Nat.lt_succ_self _)
set_option maxRecDepth 100000 in
set_option maxHeartbeats 4000000 in
theorem c_X4_againg (l : Launch) (D : va_G) (cy : ClassId) (ay : Nat → Nat) (k : KV) (v : MV) (k2 : KV) (hA : ∀ j, j < 57 → mIg v j = imF k2 j) : CtV l yX4_again cX4_again 3 0 64 D cy [.ref (ay 0), .ref (ay 11)] [wM cy ay k v] [wM cy ay k2 v] := by
  refine ctV_of (by decide +kernel) (Nat.le_of_ble_eq_true rfl) (fun p_ e_ s_ m_ args_ below_ meth_ c_ A_ X => ?_)
  refine g_lv X (lv' := [(0, .ref (ay 0)), (1, .ref (ay 11))]) [0, 1] rfl ?_
  refine g_iconst (v := 0) (pc := 0) X dX4_again_0 (by decide) ?_
  refine g_istore_n (lv' := [(2, .int (0)), (0, .ref (ay 0)), (1, .ref (ay 11))]) (pc := 1) X dX4_again_1 rfl rfl rfl ?_
  have L2_1 : ∀ (fu_ : Nat) (i : Nat) (o : Nat → Int32) (w : Nat → Int32) (hi : i ≤ 10) (hO : agA k2 i o w) (hm : 10 - i < fu_), G p_ l e_ { frames := 0, cells := 0, slots := 0, locals := 64 } s_ m_ args_ below_ meth_ c_ 3 D A_ 0 0 (QV below_ args_ s_ D A_ [wM cy ay k2 v]) [wM cy ay (sTw (sOn k o) w) v] 2 [(0, .ref (ay 0)), (1, .ref (ay 11)), (2, .int (nI i))] [] := by
    intro fu_
    induction fu_ with
    | zero => intro i o w hi hO hm; exact absurd hm (Nat.not_lt_zero _)
    | succ fu_ ih =>
      intro i o w hi hO hm
      have ih2 := ih
      clear ih
      refine g_iload_n (pc := 2) X dX4_again_2 2 rfl ?_
      refine g_bipush (v := 10) (pc := 3) X dX4_again_3 (by decide) ?_
      refine g_ncmp_ge (pc := 5) (tgt := 35) X dX4_again_5 (by decide) i 10 rfl rfl (by omega) (by decide) (fun c5 => ?_) (fun c5 => ?_)
      · have n5 := Nat.not_lt.mpr c5
        have e10 : i = 10 := by omega
        refine g_swap X (ss' := [wM cy ay (sTw (sOn k (kOn k2)) w) v]) (g := kOn k2) 0 1 rfl rfl (fun x hx => (hO x (by omega)).1) rfl ?_
        refine g_swap X (ss' := [wM cy ay (sTw (sOn k (kOn k2)) (kTw k2)) v]) (g := kTw k2) 0 2 rfl rfl (fun x hx => (hO x (by omega)).2) rfl ?_
        refine g_iconst (v := 0) (pc := 35) X dX4_again_35 (by decide) ?_
        refine g_istore_n (lv' := [(2, .int (0)), (0, .ref (ay 0)), (1, .ref (ay 11))]) (pc := 36) X dX4_again_36 rfl rfl rfl ?_
        have L37_2 : ∀ (fu_ : Nat) (i : Nat) (a : Nat → Int32) (b : Nat → Int32) (c2 : Nat → Int32) (d2 : Nat → Int32) (hi : i ≤ 8) (hB : agB k2 i a b c2 d2) (hm : 8 - i < fu_), G p_ l e_ { frames := 0, cells := 0, slots := 0, locals := 64 } s_ m_ args_ below_ meth_ c_ 3 D A_ 0 0 (QV below_ args_ s_ D A_ [wM cy ay k2 v]) [wM cy ay (sSe (sOt (sRo (sKi (sTw (sOn k (kOn k2)) (kTw k2)) a) b) c2) d2) v] 37 [(0, .ref (ay 0)), (1, .ref (ay 11)), (2, .int (nI i))] [] := by
          intro fu_
          induction fu_ with
          | zero => intro i a b c2 d2 hi hB hm; exact absurd hm (Nat.not_lt_zero _)
          | succ fu_ ih =>
            intro i a b c2 d2 hi hB hm
            have ih37 := ih
            clear ih
            refine g_iload_n (pc := 37) X dX4_again_37 2 rfl ?_
            refine g_bipush (v := 8) (pc := 38) X dX4_again_38 (by decide) ?_
            refine g_ncmp_ge (pc := 40) (tgt := 97) X dX4_again_40 (by decide) i 8 rfl rfl (by omega) (by decide) (fun c40 => ?_) (fun c40 => ?_)
            · have n40 := Nat.not_lt.mpr c40
              have e8 : i = 8 := by omega
              refine g_swap X (ss' := [wM cy ay (sSe (sOt (sRo (sKi (sTw (sOn k (kOn k2)) (kTw k2)) (kKi k2)) b) c2) d2) v]) (g := kKi k2) 0 3 rfl rfl (fun x hx => (hB x (by omega)).1) rfl ?_
              refine g_swap X (ss' := [wM cy ay (sSe (sOt (sRo (sKi (sTw (sOn k (kOn k2)) (kTw k2)) (kKi k2)) (kRo k2)) c2) d2) v]) (g := kRo k2) 0 4 rfl rfl (fun x hx => (hB x (by omega)).2.1) rfl ?_
              refine g_swap X (ss' := [wM cy ay (sSe (sOt (sRo (sKi (sTw (sOn k (kOn k2)) (kTw k2)) (kKi k2)) (kRo k2)) (kOt k2)) d2) v]) (g := kOt k2) 0 5 rfl rfl (fun x hx => (hB x (by omega)).2.2.1) rfl ?_
              refine g_swap X (ss' := [wM cy ay (sSe (sOt (sRo (sKi (sTw (sOn k (kOn k2)) (kTw k2)) (kKi k2)) (kRo k2)) (kOt k2)) (kSe k2)) v]) (g := kSe k2) 0 6 rfl rfl (fun x hx => (hB x (by omega)).2.2.2) rfl ?_
              refine g_aload_n (pc := 97) X dX4_again_97 0 rfl ?_
              refine g_aload_n (pc := 98) X dX4_again_98 1 rfl ?_
              refine g_bipush (v := 52) (pc := 99) X dX4_again_99 (by decide) ?_
              refine g_iald_n (pc := 101) (f := mIg v) X 0 11 dX4_again_101 52 rfl rfl rfl (by omega) rfl ?_
              refine g_top X (x := (mIg v) 52) (y := nI (kNl k2)) (hA 52 (by omega)) ?_
              refine g_put (pc := 102) X (ss' := [wM cy ay (sSe (sOt (sRo (sKi (sTw (sOn (sNl k (kNl k2)) (kOn k2)) (kTw k2)) (kKi k2)) (kRo k2)) (kOt k2)) (kSe k2)) v]) fp_X4_60 dX4_again_102 0 0 rfl rfl rfl rfl rfl rfl ?_
              refine g_aload_n (pc := 105) X dX4_again_105 0 rfl ?_
              refine g_aload_n (pc := 106) X dX4_again_106 1 rfl ?_
              refine g_bipush (v := 53) (pc := 107) X dX4_again_107 (by decide) ?_
              refine g_iald_n (pc := 109) (f := mIg v) X 0 11 dX4_again_109 53 rfl rfl rfl (by omega) rfl ?_
              refine g_top X (x := (mIg v) 53) (y := kHd k2) (hA 53 (by omega)) ?_
              refine g_put (pc := 110) X (ss' := [wM cy ay (sSe (sOt (sRo (sKi (sHd (sTw (sOn (sNl k (kNl k2)) (kOn k2)) (kTw k2)) (kHd k2)) (kKi k2)) (kRo k2)) (kOt k2)) (kSe k2)) v]) fp_X4_92 dX4_again_110 0 0 rfl rfl rfl rfl rfl rfl ?_
              refine g_aload_n (pc := 113) X dX4_again_113 0 rfl ?_
              refine g_aload_n (pc := 114) X dX4_again_114 1 rfl ?_
              refine g_bipush (v := 54) (pc := 115) X dX4_again_115 (by decide) ?_
              refine g_iald_n (pc := 117) (f := mIg v) X 0 11 dX4_again_117 54 rfl rfl rfl (by omega) rfl ?_
              refine g_top X (x := (mIg v) 54) (y := nI (kNt k2)) (hA 54 (by omega)) ?_
              refine g_put (pc := 118) X (ss' := [wM cy ay (sSe (sOt (sRo (sKi (sNt (sHd (sTw (sOn (sNl k (kNl k2)) (kOn k2)) (kTw k2)) (kHd k2)) (kNt k2)) (kKi k2)) (kRo k2)) (kOt k2)) (kSe k2)) v]) fp_X4_52 dX4_again_118 0 0 rfl rfl rfl rfl rfl rfl ?_
              refine g_aload_n (pc := 121) X dX4_again_121 0 rfl ?_
              refine g_aload_n (pc := 122) X dX4_again_122 1 rfl ?_
              refine g_bipush (v := 55) (pc := 123) X dX4_again_123 (by decide) ?_
              refine g_iald_n (pc := 125) (f := mIg v) X 0 11 dX4_again_125 55 rfl rfl rfl (by omega) rfl ?_
              refine g_top X (x := (mIg v) 55) (y := nI (kHr k2)) (hA 55 (by omega)) ?_
              refine g_put (pc := 126) X (ss' := [wM cy ay (sSe (sHr (sOt (sRo (sKi (sNt (sHd (sTw (sOn (sNl k (kNl k2)) (kOn k2)) (kTw k2)) (kHd k2)) (kNt k2)) (kKi k2)) (kRo k2)) (kOt k2)) (kHr k2)) (kSe k2)) v]) fp_X4_95 dX4_again_126 0 0 rfl rfl rfl rfl rfl rfl ?_
              refine g_aload_n (pc := 129) X dX4_again_129 0 rfl ?_
              refine g_aload_n (pc := 130) X dX4_again_130 1 rfl ?_
              refine g_bipush (v := 56) (pc := 131) X dX4_again_131 (by decide) ?_
              refine g_iald_n (pc := 133) (f := mIg v) X 0 11 dX4_again_133 56 rfl rfl rfl (by omega) rfl ?_
              refine g_top X (x := (mIg v) 56) (y := nI (kNs k2)) (hA 56 (by omega)) ?_
              refine g_put (pc := 134) X (ss' := [wM cy ay (sSe (sNs (sHr (sOt (sRo (sKi (sNt (sHd (sTw (sOn (sNl k (kNl k2)) (kOn k2)) (kTw k2)) (kHd k2)) (kNt k2)) (kKi k2)) (kRo k2)) (kOt k2)) (kHr k2)) (kNs k2)) (kSe k2)) v]) fp_X4_162 dX4_again_134 0 0 rfl rfl rfl rfl rfl rfl ?_
              exact g_vret (pc := 137) X rfl dX4_again_137 rfl
            · refine g_aload_n (pc := 43) X dX4_again_43 0 rfl ?_
              refine g_get (pc := 44) X (v := .ref (ay 3)) fl_X4_16 dX4_again_44 0 0 rfl rfl rfl ?_
              refine g_iload_n (pc := 47) X dX4_again_47 2 rfl ?_
              refine g_aload_n (pc := 48) X dX4_again_48 1 rfl ?_
              refine g_bipush (v := 20) (pc := 49) X dX4_again_49 (by decide) ?_
              refine g_iload_n (pc := 51) X dX4_again_51 2 rfl ?_
              refine g_iadd (v := nI (20 + i)) (pc := 52) X dX4_again_52 (nI_add 20 i) ?_
              refine g_iald_n (pc := 53) (f := mIg v) X 0 11 dX4_again_53 (20 + i) rfl rfl rfl (by omega) rfl ?_
              refine g_top X (x := (mIg v) (20 + i)) (y := kKi k2 i) ((hA _ (by omega)).trans (im_ki (by omega))) ?_
              refine g_iast_n (pc := 54) X (ss' := [wM cy ay (sSe (sOt (sRo (sKi (sTw (sOn k (kOn k2)) (kTw k2)) (upd a i (kKi k2 i))) b) c2) d2) v]) 0 3 dX4_again_54 i rfl rfl rfl (by omega) rfl rfl ?_
              refine g_aload_n (pc := 55) X dX4_again_55 0 rfl ?_
              refine g_get (pc := 56) X (v := .ref (ay 4)) fl_X4_19 dX4_again_56 0 0 rfl rfl rfl ?_
              refine g_iload_n (pc := 59) X dX4_again_59 2 rfl ?_
              refine g_aload_n (pc := 60) X dX4_again_60 1 rfl ?_
              refine g_bipush (v := 28) (pc := 61) X dX4_again_61 (by decide) ?_
              refine g_iload_n (pc := 63) X dX4_again_63 2 rfl ?_
              refine g_iadd (v := nI (28 + i)) (pc := 64) X dX4_again_64 (nI_add 28 i) ?_
              refine g_iald_n (pc := 65) (f := mIg v) X 0 11 dX4_again_65 (28 + i) rfl rfl rfl (by omega) rfl ?_
              refine g_top X (x := (mIg v) (28 + i)) (y := kRo k2 i) ((hA _ (by omega)).trans (im_ro (by omega))) ?_
              refine g_iast_n (pc := 66) X (ss' := [wM cy ay (sSe (sOt (sRo (sKi (sTw (sOn k (kOn k2)) (kTw k2)) (upd a i (kKi k2 i))) (upd b i (kRo k2 i))) c2) d2) v]) 0 4 dX4_again_66 i rfl rfl rfl (by omega) rfl rfl ?_
              refine g_aload_n (pc := 67) X dX4_again_67 0 rfl ?_
              refine g_get (pc := 68) X (v := .ref (ay 5)) fl_X4_22 dX4_again_68 0 0 rfl rfl rfl ?_
              refine g_iload_n (pc := 71) X dX4_again_71 2 rfl ?_
              refine g_aload_n (pc := 72) X dX4_again_72 1 rfl ?_
              refine g_bipush (v := 36) (pc := 73) X dX4_again_73 (by decide) ?_
              refine g_iload_n (pc := 75) X dX4_again_75 2 rfl ?_
              refine g_iadd (v := nI (36 + i)) (pc := 76) X dX4_again_76 (nI_add 36 i) ?_
              refine g_iald_n (pc := 77) (f := mIg v) X 0 11 dX4_again_77 (36 + i) rfl rfl rfl (by omega) rfl ?_
              refine g_top X (x := (mIg v) (36 + i)) (y := kOt k2 i) ((hA _ (by omega)).trans (im_ot (by omega))) ?_
              refine g_iast_n (pc := 78) X (ss' := [wM cy ay (sSe (sOt (sRo (sKi (sTw (sOn k (kOn k2)) (kTw k2)) (upd a i (kKi k2 i))) (upd b i (kRo k2 i))) (upd c2 i (kOt k2 i))) d2) v]) 0 5 dX4_again_78 i rfl rfl rfl (by omega) rfl rfl ?_
              refine g_aload_n (pc := 79) X dX4_again_79 0 rfl ?_
              refine g_get (pc := 80) X (v := .ref (ay 6)) fl_X4_25 dX4_again_80 0 0 rfl rfl rfl ?_
              refine g_iload_n (pc := 83) X dX4_again_83 2 rfl ?_
              refine g_aload_n (pc := 84) X dX4_again_84 1 rfl ?_
              refine g_bipush (v := 44) (pc := 85) X dX4_again_85 (by decide) ?_
              refine g_iload_n (pc := 87) X dX4_again_87 2 rfl ?_
              refine g_iadd (v := nI (44 + i)) (pc := 88) X dX4_again_88 (nI_add 44 i) ?_
              refine g_iald_n (pc := 89) (f := mIg v) X 0 11 dX4_again_89 (44 + i) rfl rfl rfl (by omega) rfl ?_
              refine g_top X (x := (mIg v) (44 + i)) (y := kSe k2 i) ((hA _ (by omega)).trans (im_se (by omega))) ?_
              refine g_iast_n (pc := 90) X (ss' := [wM cy ay (sSe (sOt (sRo (sKi (sTw (sOn k (kOn k2)) (kTw k2)) (upd a i (kKi k2 i))) (upd b i (kRo k2 i))) (upd c2 i (kOt k2 i))) (upd d2 i (kSe k2 i))) v]) 0 6 dX4_again_90 i rfl rfl rfl (by omega) rfl rfl ?_
              refine g_iinc (v := nI (i + 1)) (lv' := [(2, .int (nI (i + 1))), (0, .ref (ay 0)), (1, .ref (ay 11))]) (pc := 91) X dX4_again_91 2 rfl (nI_1 i) rfl rfl ?_
              refine g_goto (pc := 94) (tgt := 37) X dX4_again_94 (by decide) ?_
              refine g_lv X (lv' := [(0, .ref (ay 0)), (1, .ref (ay 11)), (2, .int (nI (i + 1)))]) [1, 2, 0] rfl ?_
              exact ih37 (i + 1) (upd a i (kKi k2 i)) (upd b i (kRo k2 i)) (upd c2 i (kOt k2 i)) (upd d2 i (kSe k2 i)) c40 (agB_s hB) (by omega)
        refine g_lv X (lv' := [(0, .ref (ay 0)), (1, .ref (ay 11)), (2, .int (0))]) [1, 2, 0] rfl ?_
        exact L37_2 (8 - 0 + 1) 0 (kKi k) (kRo k) (kOt k) (kSe k) (Nat.zero_le _) (fun x h => absurd h (Nat.not_lt_zero x)) (Nat.lt_succ_self _)
      · refine g_aload_n (pc := 8) X dX4_again_8 0 rfl ?_
        refine g_get (pc := 9) X (v := .ref (ay 1)) fl_X4_7 dX4_again_9 0 0 rfl rfl rfl ?_
        refine g_iload_n (pc := 12) X dX4_again_12 2 rfl ?_
        refine g_aload_n (pc := 13) X dX4_again_13 1 rfl ?_
        refine g_iload_n (pc := 14) X dX4_again_14 2 rfl ?_
        refine g_iald_n (pc := 15) (f := mIg v) X 0 11 dX4_again_15 i rfl rfl rfl (by omega) rfl ?_
        refine g_top X (x := (mIg v) i) (y := kOn k2 i) ((hA _ (by omega)).trans (im_on (by omega))) ?_
        refine g_iast_n (pc := 16) X (ss' := [wM cy ay (sTw (sOn k (upd o i (kOn k2 i))) w) v]) 0 1 dX4_again_16 i rfl rfl rfl (by omega) rfl rfl ?_
        refine g_aload_n (pc := 17) X dX4_again_17 0 rfl ?_
        refine g_get (pc := 18) X (v := .ref (ay 2)) fl_X4_13 dX4_again_18 0 0 rfl rfl rfl ?_
        refine g_iload_n (pc := 21) X dX4_again_21 2 rfl ?_
        refine g_aload_n (pc := 22) X dX4_again_22 1 rfl ?_
        refine g_bipush (v := 10) (pc := 23) X dX4_again_23 (by decide) ?_
        refine g_iload_n (pc := 25) X dX4_again_25 2 rfl ?_
        refine g_iadd (v := nI (10 + i)) (pc := 26) X dX4_again_26 (nI_add 10 i) ?_
        refine g_iald_n (pc := 27) (f := mIg v) X 0 11 dX4_again_27 (10 + i) rfl rfl rfl (by omega) rfl ?_
        refine g_top X (x := (mIg v) (10 + i)) (y := kTw k2 i) ((hA _ (by omega)).trans (im_tw (by omega))) ?_
        refine g_iast_n (pc := 28) X (ss' := [wM cy ay (sTw (sOn k (upd o i (kOn k2 i))) (upd w i (kTw k2 i))) v]) 0 2 dX4_again_28 i rfl rfl rfl (by omega) rfl rfl ?_
        refine g_iinc (v := nI (i + 1)) (lv' := [(2, .int (nI (i + 1))), (0, .ref (ay 0)), (1, .ref (ay 11))]) (pc := 29) X dX4_again_29 2 rfl (nI_1 i) rfl rfl ?_
        refine g_goto (pc := 32) (tgt := 2) X dX4_again_32 (by decide) ?_
        refine g_lv X (lv' := [(0, .ref (ay 0)), (1, .ref (ay 11)), (2, .int (nI (i + 1)))]) [1, 2, 0] rfl ?_
        exact ih2 (i + 1) (upd o i (kOn k2 i)) (upd w i (kTw k2 i)) c5 (agA_s hO) (by omega)
  refine g_lv X (lv' := [(0, .ref (ay 0)), (1, .ref (ay 11)), (2, .int (0))]) [1, 2, 0] rfl ?_
  exact L2_1 (10 - 0 + 1) 0 (kOn k) (kTw k) (Nat.zero_le _) (fun x h => absurd h (Nat.not_lt_zero x)) (Nat.lt_succ_self _)
set_option maxRecDepth 100000 in
set_option maxHeartbeats 4000000 in
theorem c_X4_image (l : Launch) (D : va_G) (cy : ClassId) (ay : Nat → Nat) (k : KV) (v : MV) : CtI l yX4_image cX4_image 1 .int 1 86 D cy [.ref (ay 0)] [wM cy ay k v] [wM cy ay k (uIg (uIm v true) (imF k))] (nI (kNt k)) := by
  refine ctI_of (by decide +kernel) (Nat.le_of_ble_eq_true rfl) (fun p_ e_ s_ m_ args_ below_ meth_ c_ A_ X => ?_)
  refine g_lv X (lv' := [(0, .ref (ay 0))]) [0] rfl ?_
  refine g_aload_n (pc := 0) X dX4_image_0 0 rfl ?_
  refine g_iconst (v := 1) (pc := 1) X dX4_image_1 (by decide) ?_
  refine g_put (pc := 2) X (ss' := [wM cy ay k (uIm v true)]) fp_X4_187 dX4_image_2 0 0 rfl rfl rfl rfl rfl rfl ?_
  refine g_aload_n (pc := 5) X dX4_image_5 0 rfl ?_
  refine g_aload_n (pc := 6) X dX4_image_6 0 rfl ?_
  refine g_get (pc := 7) X (v := .ref (ay 11)) fl_X4_40 dX4_image_7 0 0 rfl rfl rfl ?_
  refine g_callVv (pc := 10) (rest := []) (ss' := [wM cy ay k (uIg (uIm v true) (imF k))]) X (c_X4_keepg l D cy ay k (uIm v true) ) vl_X4_122 dX4_image_10 [0] 0 0 rfl rfl rfl rfl rfl rfl (ads_c (ads_M _ _ _ _ _ _) rfl) rfl rfl rfl rfl rfl rfl ⟨Nat.zero_le _, Nat.zero_le _⟩ ?_
  refine g_aload_n (pc := 13) X dX4_image_13 0 rfl ?_
  refine g_get (pc := 14) X (v := .int (nI (kNt k))) fl_X4_52 dX4_image_14 0 0 rfl rfl rfl ?_
  exact g_iret (pc := 17) X rfl dX4_image_17 rfl rfl rfl
set_option maxRecDepth 100000 in
set_option maxHeartbeats 4000000 in
theorem c_X4_on (l : Launch) (D : va_G) (cy : ClassId) (ay : Nat → Nat) (k : KV) (v : MV) (kk : KV) (hI : mIm v = true → ∀ j, j < 57 → mIg v j = imF kk j) : CtI l yX4_on cX4_on 1 .int 1 86 D cy [.ref (ay 0)] [wM cy ay k v] [wM cy ay (onK k kk (mIm v)) (uRf v (rfB (mIm v) (mRf v) (onA kk (mIm v))))] (onA kk (mIm v)) := by
  refine ctI_of (by decide +kernel) (Nat.le_of_ble_eq_true rfl) (fun p_ e_ s_ m_ args_ below_ meth_ c_ A_ X => ?_)
  refine g_lv X (lv' := [(0, .ref (ay 0))]) [0] rfl ?_
  refine g_aload_n (pc := 0) X dX4_on_0 0 rfl ?_
  refine g_get (pc := 1) X (v := .int (bI (mIm v))) fl_X4_187 dX4_on_1 0 0 rfl rfl rfl ?_
  refine g_bif_ne (pc := 4) (tgt := 14) X dX4_on_4 (by decide) (fun c4 => ?_) (fun c4 => ?_)
  · refine g_aload_n (pc := 14) X dX4_on_14 0 rfl ?_
    refine g_aload_n (pc := 15) X dX4_on_15 0 rfl ?_
    refine g_get (pc := 16) X (v := .ref (ay 11)) fl_X4_40 dX4_on_16 0 0 rfl rfl rfl ?_
    refine g_callVv (pc := 19) (rest := []) (ss' := [wM cy ay kk v]) X (c_X4_againg l D cy ay k v kk (hI c4)) vl_X4_126 dX4_on_19 [0] 0 0 rfl rfl rfl rfl rfl rfl (ads_c (ads_M _ _ _ _ _ _) rfl) rfl rfl rfl rfl rfl rfl ⟨Nat.zero_le _, Nat.zero_le _⟩ ?_
    refine g_aload_n (pc := 22) X dX4_on_22 0 rfl ?_
    refine g_get (pc := 23) X (v := .int (nI (kNt kk))) fl_X4_52 dX4_on_23 0 0 rfl rfl rfl ?_
    exact g_iret (pc := 26) X rfl dX4_on_26 rfl (by simp [onA, *]) (by first | (simp [onA, onK, rfB, *]; done) | (simp [onA, onK, rfB, *]; rfl))
  · refine g_aload_n (pc := 7) X dX4_on_7 0 rfl ?_
    refine g_bipush (v := (-3)) (pc := 8) X dX4_on_8 (by decide) ?_
    refine g_callV (pc := 10) (rest := []) (ss' := [wM cy ay k (uRf v (rfU (mRf v) ((-3))))]) X (c_X4_no l D cy ay k v ((-3)) rf_3) vl_X4_63 dX4_on_10 [0] 0 0 rfl rfl rfl rfl rfl rfl (ads_c (ads_M _ _ _ _ _ _) rfl) rfl rfl rfl rfl rfl rfl ⟨Nat.zero_le _, Nat.zero_le _⟩ ?_
    exact g_iret (pc := 13) X rfl dX4_on_13 rfl (by simp [onA, *]) (by first | (simp [onA, onK, rfB, *]; done) | (simp [onA, onK, rfB, *]; rfl))
set_option maxRecDepth 100000 in
set_option maxHeartbeats 4000000 in
theorem c_X4_isClean (l : Launch) (D : va_G) (cy : ClassId) (ay : Nat → Nat) (k : KV) (v : MV) (a : Nat) (b : Nat) (ea : a = 0) (eb : b = 7) (h8 : kNt k ≤ 8) (h10 : kNl k ≤ 10) (ho : HOt k) : CtIE l yX4_isClean cX4_isClean 4 .boolean 6 203 D cy [.ref (ay 0), .int (nI a), .int (nI b)] [wM cy ay k v] (fun (u_ : (Nat → Int32)) => [wM cy ay k (uSn v u_)]) (bI (decide (fdK k = -9))) := by
  refine ctIE_of (by decide +kernel) (Nat.le_of_ble_eq_true rfl) (fun p_ e_ s_ m_ args_ below_ meth_ c_ A_ X => ?_)
  refine g_lv X (lv' := [(0, .ref (ay 0)), (1, .int (nI a)), (2, .int (nI b))]) [0, 1, 2] rfl ?_
  refine g_iload_n (pc := 0) X dX4_isClean_0 1 rfl ?_
  refine g_istore_n (lv' := [(3, .int (nI a)), (0, .ref (ay 0)), (1, .int (nI a)), (2, .int (nI b))]) (pc := 1) X dX4_isClean_1 rfl rfl rfl ?_
  have L2_1 : ∀ (fu_ : Nat) (j : Nat) (sn : Nat → Int32) (hj : j ≤ 8) (hq : fdK k = fnd (fun h => decide (fsK k h ≠ -9)) nI (8 - j) j) (hm : 9 - j < fu_), G p_ l e_ { frames := 6, cells := 0, slots := 0, locals := 203 } s_ m_ args_ below_ meth_ c_ 4 D A_ 0 0 (QIE below_ args_ s_ D A_ (fun (u_ : (Nat → Int32)) => [wM cy ay k (uSn v u_)]) (bI (decide (fdK k = -9)))) [wM cy ay k (uSn v sn)] 2 [(0, .ref (ay 0)), (1, .int (nI a)), (2, .int (nI b)), (3, .int (nI j))] [] := by
    intro fu_
    induction fu_ with
    | zero => intro j sn hj hq hm; exact absurd hm (Nat.not_lt_zero _)
    | succ fu_ ih =>
      intro j sn hj hq hm
      have ih2 := ih
      clear ih
      refine g_iload_n (pc := 2) X dX4_isClean_2 3 rfl ?_
      refine g_iload_n (pc := 3) X dX4_isClean_3 2 rfl ?_
      refine g_ncmp_gt (pc := 4) (tgt := 23) X dX4_isClean_4 (by decide) j b rfl rfl (by omega) (by omega) (fun c4 => ?_) (fun c4 => ?_)
      · refine g_iconst (v := 1) (pc := 23) X dX4_isClean_23 (by decide) ?_
        exact g_iretE (pc := 24) X (sn) rfl dX4_isClean_24 rfl (bI_t (decide_eq_true (by rw [hq, show 8 - j = 0 by omega]; rfl))) rfl
      · have n4 := Nat.not_lt.mpr c4
        refine g_aload_n (pc := 7) X dX4_isClean_7 0 rfl ?_
        refine g_iload_n (pc := 8) X dX4_isClean_8 3 rfl ?_
        refine g_callVE (pc := 9) (rest := []) (ss' := fun (u_ : (Nat → Int32)) => [wM cy ay k (uSn v u_)]) X (c_X4_sinsIn l D cy ay k (uSn v sn) j (by first | assumption | omega) (by first | assumption | omega) (by first | assumption | omega) (by omega)) vl_X4_146 dX4_isClean_9 [0] 0 0 rfl rfl rfl rfl rfl rfl (fun _ => (ads_c (ads_M _ _ _ _ _ _) rfl)) (fun _ => rfl) rfl rfl rfl rfl rfl ⟨Nat.zero_le _, Nat.zero_le _⟩ ?_
        rintro xs_9_1
        refine g_eq X (ss' := [wM cy ay k (uSn v xs_9_1)]) rfl ?_
        have hlt := si_lt (h := j) ho h8
        refine g_nif_le (pc := 12) (tgt := 17) X dX4_isClean_12 (by decide) (siN k j) rfl (by omega) (fun c12 => ?_) (fun c12 => ?_)
        · refine g_iinc (v := nI (j + 1)) (lv' := [(3, .int (nI (j + 1))), (0, .ref (ay 0)), (1, .int (nI a)), (2, .int (nI b))]) (pc := 17) X dX4_isClean_17 3 rfl (nI_1 j) rfl rfl ?_
          refine g_goto (pc := 20) (tgt := 2) X dX4_isClean_20 (by decide) ?_
          refine g_lv X (lv' := [(0, .ref (ay 0)), (1, .int (nI a)), (2, .int (nI b)), (3, .int (nI (j + 1)))]) [1, 2, 3, 0] rfl ?_
          exact ih2 (j + 1) xs_9_1 (by omega) (by rw [hq, show 8 - j = (8 - (j + 1)) + 1 by omega, fnd, if_neg (by simp [(si_0 (h := j) ho h8).mp c12])]) (by omega)
        · refine g_iconst (v := 0) (pc := 15) X dX4_isClean_15 (by decide) ?_
          exact g_iretE (pc := 16) X (xs_9_1) rfl dX4_isClean_16 rfl (bI_f (decide_eq_false (by rw [hq, show 8 - j = (8 - (j + 1)) + 1 by omega, fnd, if_pos (decide_eq_true ((si_p ho h8).mp c12))]; exact nI_n9 (by omega)))) rfl
  refine g_lv X (lv' := [(0, .ref (ay 0)), (1, .int (nI a)), (2, .int (nI b)), (3, .int (nI a))]) [1, 2, 3, 0] rfl ?_
  exact L2_1 (9 - a + 1) a (mSn v) (by omega) (by rw [ea]; rfl) (Nat.lt_succ_self _)
set_option maxRecDepth 100000 in
set_option maxHeartbeats 4000000 in
theorem c_X4_clean (l : Launch) (D : va_G) (cy : ClassId) (ay : Nat → Nat) (k : KV) (v : MV) (t : Int32) (hw : KW k) : CtIE l yX4_clean cX4_clean 5 .int 7 226 D cy [.ref (ay 0), .int (t)] [wM cy ay k v] (fun (u_ : (Nat → Int32)) => [wM cy ay k (uSn (uRf v (rfB (hasT k t) (mRf v) (clA k t))) u_)]) (clA k t) := by
  refine ctIE_of (by decide +kernel) (Nat.le_of_ble_eq_true rfl) (fun p_ e_ s_ m_ args_ below_ meth_ c_ A_ X => ?_)
  refine g_lv X (lv' := [(0, .ref (ay 0)), (1, .int (t))]) [0, 1] rfl ?_
  refine g_aload_n (pc := 0) X dX4_clean_0 0 rfl ?_
  refine g_iload_n (pc := 1) X dX4_clean_1 1 rfl ?_
  refine g_callV (pc := 2) (rest := []) (ss' := [wM cy ay k v]) X (c_X4_isThing l D cy ay k v t hw.2.2.2.2.2.1) vl_X4_112 dX4_clean_2 [0] 0 0 rfl rfl rfl rfl rfl rfl rfl rfl rfl rfl rfl rfl rfl ⟨Nat.zero_le _, Nat.zero_le _⟩ ?_
  refine g_bif_ne (pc := 5) (tgt := 14) X dX4_clean_5 (by decide) (fun c5 => ?_) (fun c5 => ?_)
  · have r5 := c5
    obtain ⟨i, hi, rfl⟩ := hasT_t hw.2.2.2.2.2.1 c5
    have ixi : ix (nI i) = i := ixn (by have := hw.2.2.2.2.2.1; omega)
    refine g_aload_n (pc := 14) X dX4_clean_14 0 rfl ?_
    refine g_get (pc := 15) X (v := .ref (ay 4)) fl_X4_19 dX4_clean_15 0 0 rfl rfl rfl ?_
    refine g_iload_n (pc := 18) X dX4_clean_18 1 rfl ?_
    refine g_iald_n (pc := 19) (f := kRo k) X 0 4 dX4_clean_19 i rfl rfl rfl (by have := hw.2.2.2.2.2.1; omega) rfl ?_
    refine g_istore_n (lv' := [(2, .int ((kRo k) i)), (0, .ref (ay 0)), (1, .int (nI i))]) (pc := 20) X dX4_clean_20 rfl rfl rfl ?_
    refine g_iconst (v := 0) (pc := 21) X dX4_clean_21 (by decide) ?_
    refine g_istore_n (lv' := [(3, .int (0)), (2, .int ((kRo k) i)), (0, .ref (ay 0)), (1, .int (nI i))]) (pc := 22) X dX4_clean_22 rfl rfl rfl ?_
    refine g_iconst (v := 0) (pc := 23) X dX4_clean_23 (by decide) ?_
    refine g_istore (lv' := [(4, .int (0)), (3, .int (0)), (2, .int ((kRo k) i)), (0, .ref (ay 0)), (1, .int (nI i))]) (pc := 24) X dX4_clean_24 rfl rfl ?_
    have L26_1 : ∀ (fu_ : Nat) (r : Nat) (o : Nat → Int32) (sn : Nat → Int32) (hr6 : r ≤ 6) (ho2 : ∀ x, upd o i x = upd (kRo k) i x) (hm : 6 - r < fu_), G p_ l e_ { frames := 7, cells := 0, slots := 0, locals := 226 } s_ m_ args_ below_ meth_ c_ 5 D A_ 0 0 (QIE below_ args_ s_ D A_ (fun (u_ : (Nat → Int32)) => [wM cy ay k (uSn (uRf v (rfB (hasT k (nI i)) (mRf v) (clA k (nI i)))) u_)]) (clA k (nI i))) [wM cy ay (sRo k o) (uSn v sn)] 26 [(0, .ref (ay 0)), (1, .int (nI i)), (2, .int ((kRo k) i)), (3, .int (clN k i r)), (4, .int (nI r))] [] := by
      intro fu_
      induction fu_ with
      | zero => intro r o sn hr6 ho2 hm; exact absurd hm (Nat.not_lt_zero _)
      | succ fu_ ih =>
        intro r o sn hr6 ho2 hm
        have ih26 := ih
        clear ih
        refine g_iload (pc := 26) X dX4_clean_26 4 rfl ?_
        refine g_bipush (v := 6) (pc := 28) X dX4_clean_28 (by decide) ?_
        refine g_ncmp_ge (pc := 30) (tgt := 64) X dX4_clean_30 (by decide) r 6 rfl rfl (by omega) (by decide) (fun c30 => ?_) (fun c30 => ?_)
        · have n30 := Nat.not_lt.mpr c30
          refine g_aload_n (pc := 64) X dX4_clean_64 0 rfl ?_
          refine g_get (pc := 65) X (v := .ref (ay 4)) fl_X4_19 dX4_clean_65 0 0 rfl rfl rfl ?_
          refine g_iload_n (pc := 68) X dX4_clean_68 1 rfl ?_
          refine g_iload_n (pc := 69) X dX4_clean_69 2 rfl ?_
          refine g_iast_n (pc := 70) X (ss' := [wM cy ay (sRo k (upd o i ((kRo k) i))) (uSn v sn)]) 0 4 dX4_clean_70 i rfl rfl rfl (by have := hw.2.2.2.2.2.1; omega) rfl rfl ?_
          refine g_eq X (ss' := [wM cy ay k (uSn v sn)]) (by rw [ho2, upd_self] <;> rfl) ?_
          refine g_iload_n (pc := 71) X dX4_clean_71 3 rfl ?_
          have er : r = 6 := by omega
          exact g_iretE (pc := 72) X (sn) rfl dX4_clean_72 rfl (by simp [clA, *]) (by first | (simp [clA, rfB, *]; done) | (simp [clA, rfB, *]; rfl))
        · refine g_aload_n (pc := 33) X dX4_clean_33 0 rfl ?_
          refine g_get (pc := 34) X (v := .ref (ay 4)) fl_X4_19 dX4_clean_34 0 0 rfl rfl rfl ?_
          refine g_iload_n (pc := 37) X dX4_clean_37 1 rfl ?_
          refine g_iload (pc := 38) X dX4_clean_38 4 rfl ?_
          refine g_iast_n (pc := 40) X (ss' := [wM cy ay (sRo k (upd o i (nI r))) (uSn v sn)]) 0 4 dX4_clean_40 i rfl rfl rfl (by have := hw.2.2.2.2.2.1; omega) rfl rfl ?_
          refine g_eq X (ss' := [wM cy ay (sRo k (upd (kRo k) i (nI r))) (uSn v sn)]) (by rw [ho2]) ?_
          refine g_aload_n (pc := 41) X dX4_clean_41 0 rfl ?_
          refine g_iconst (v := 0) (pc := 42) X dX4_clean_42 (by decide) ?_
          refine g_bipush (v := 7) (pc := 43) X dX4_clean_43 (by decide) ?_
          refine g_callVE (pc := 45) (rest := []) (ss' := fun (u_ : (Nat → Int32)) => [wM cy ay (sRo k (upd (kRo k) i (nI r))) (uSn v u_)]) X (c_X4_isClean l D cy ay (sRo k (upd (kRo k) i (nI r))) (uSn v sn) 0 7 rfl rfl hw.2.2.2.2.2.1 hw.1.1 hw.2.2.2.2.1) vl_X4_178 dX4_clean_45 [0] 0 0 rfl rfl rfl rfl rfl rfl (fun _ => (ads_c (ads_M _ _ _ _ _ _) rfl)) (fun _ => rfl) rfl rfl rfl rfl rfl ⟨Nat.zero_le _, Nat.zero_le _⟩ ?_
          rintro xs_45_1
          refine g_eq X (ss' := [wM cy ay (sRo k (upd (kRo k) i (nI r))) (uSn v xs_45_1)]) rfl ?_
          refine g_bif_eq (pc := 48) (tgt := 58) X dX4_clean_48 (by decide) (fun c48 => ?_) (fun c48 => ?_)
          · have hc : clN k i r = clN k i (r + 1) := by rw [clN, if_neg (of_decide_eq_false c48)]
            rw [hc]
            refine g_iinc (v := nI (r + 1)) (lv' := [(4, .int (nI (r + 1))), (0, .ref (ay 0)), (1, .int (nI i)), (2, .int ((kRo k) i)), (3, .int (clN k i (r + 1)))]) (pc := 58) X dX4_clean_58 4 rfl (nI_1 r) rfl rfl ?_
            refine g_goto (pc := 61) (tgt := 26) X dX4_clean_61 (by decide) ?_
            refine g_lv X (lv' := [(0, .ref (ay 0)), (1, .int (nI i)), (2, .int ((kRo k) i)), (3, .int (clN k i (r + 1))), (4, .int (nI (r + 1)))]) [1, 2, 3, 4, 0] rfl ?_
            exact ih26 (r + 1) (upd (kRo k) i (nI r)) xs_45_1 c30 (fun x => upd_u _ _ _ _) (by omega)
          · refine g_iload_n (pc := 51) X dX4_clean_51 3 rfl ?_
            refine g_iconst (v := 1) (pc := 52) X dX4_clean_52 (by decide) ?_
            refine g_iload (pc := 53) X dX4_clean_53 4 rfl ?_
            refine g_ishl (v := shl 1 (nI r)) (pc := 55) X dX4_clean_55 rfl ?_
            refine g_ior (v := clN k i (r + 1)) (pc := 56) X dX4_clean_56 (by rw [clN, if_pos (of_decide_eq_true c48)] <;> rfl) ?_
            refine g_istore_n (lv' := [(3, .int (clN k i (r + 1))), (0, .ref (ay 0)), (1, .int (nI i)), (2, .int ((kRo k) i)), (4, .int (nI r))]) (pc := 57) X dX4_clean_57 rfl rfl rfl ?_
            refine g_iinc (v := nI (r + 1)) (lv' := [(4, .int (nI (r + 1))), (3, .int (clN k i (r + 1))), (0, .ref (ay 0)), (1, .int (nI i)), (2, .int ((kRo k) i))]) (pc := 58) X dX4_clean_58 4 rfl (nI_1 r) rfl rfl ?_
            refine g_goto (pc := 61) (tgt := 26) X dX4_clean_61 (by decide) ?_
            refine g_lv X (lv' := [(0, .ref (ay 0)), (1, .int (nI i)), (2, .int ((kRo k) i)), (3, .int (clN k i (r + 1))), (4, .int (nI (r + 1)))]) [2, 3, 4, 1, 0] rfl ?_
            exact ih26 (r + 1) (upd (kRo k) i (nI r)) xs_45_1 c30 (fun x => upd_u _ _ _ _) (by omega)
    refine g_lv X (lv' := [(0, .ref (ay 0)), (1, .int (nI i)), (2, .int ((kRo k) i)), (3, .int (0)), (4, .int (0))]) [3, 4, 2, 1, 0] rfl ?_
    exact L26_1 (6 - 0 + 1) 0 (kRo k) (mSn v) (Nat.zero_le _) (fun _ => rfl) (Nat.lt_succ_self _)
  · refine g_aload_n (pc := 8) X dX4_clean_8 0 rfl ?_
    refine g_iconst (v := (-1)) (pc := 9) X dX4_clean_9 (by decide) ?_
    refine g_callV (pc := 10) (rest := []) (ss' := [wM cy ay k (uRf v (rfU (mRf v) ((-1))))]) X (c_X4_no l D cy ay k v ((-1)) rf_1) vl_X4_63 dX4_clean_10 [0] 0 0 rfl rfl rfl rfl rfl rfl (ads_c (ads_M _ _ _ _ _ _) rfl) rfl rfl rfl rfl rfl rfl ⟨Nat.zero_le _, Nat.zero_le _⟩ ?_
    exact g_iretE (pc := 13) X (mSn v) rfl dX4_clean_13 rfl (by simp [clA, *]) (by first | (simp [clA, rfB, *]; done) | (simp [clA, rfB, *]; rfl))
set_option maxRecDepth 100000 in
set_option maxHeartbeats 4000000 in
theorem c_X4_row (l : Launch) (D : va_G) (cy : ClassId) (ay : Nat → Nat) (k : KV) (v : MV) (x : Int32) (hm : mIr v ≤ 12) : CtI l yX4_row cX4_row 2 .int 1 85 D cy [.ref (ay 0), .int (x)] [wM cy ay k v] [wM cy ay k (uRf (uRw (uIr v (roN (mIr v) x)) (roM (mRw v) (mIr v) x)) (rfB (roB (mIr v) x) (mRf v) (roA (mIr v) x)))] (roA (mIr v) x) := by
  refine ctI_of (by decide +kernel) (Nat.le_of_ble_eq_true rfl) (fun p_ e_ s_ m_ args_ below_ meth_ c_ A_ X => ?_)
  refine g_lv X (lv' := [(0, .ref (ay 0)), (1, .int (x))]) [0, 1] rfl ?_
  refine g_iload_n (pc := 0) X dX4_row_0 1 rfl ?_
  refine g_if_ge (pc := 1) (tgt := 11) X dX4_row_1 (by decide) (fun c1 => ?_) (fun c1 => ?_)
  · have n1 := Int32.not_lt.mpr c1
    refine g_iload_n (pc := 11) X dX4_row_11 1 rfl ?_
    refine g_bipush (v := 99) (pc := 12) X dX4_row_12 (by decide) ?_
    refine g_icmp_gt (pc := 14) (tgt := 26) X dX4_row_14 (by decide) (fun c14 => ?_) (fun c14 => ?_)
    · have oo := oo_h n1 c14
      refine g_aload_n (pc := 26) X dX4_row_26 0 rfl ?_
      refine g_bipush (v := (-6)) (pc := 27) X dX4_row_27 (by decide) ?_
      refine g_callV (pc := 29) (rest := []) (ss' := [wM cy ay k (uRf v (rfU (mRf v) ((-6))))]) X (c_X4_no l D cy ay k v ((-6)) rf_6) vl_X4_63 dX4_row_29 [0] 0 0 rfl rfl rfl rfl rfl rfl (ads_c (ads_M _ _ _ _ _ _) rfl) rfl rfl rfl rfl rfl rfl ⟨Nat.zero_le _, Nat.zero_le _⟩ ?_
      exact g_iret (pc := 32) X rfl dX4_row_32 rfl (by simp [roA, *]) (by first | (simp [roA, roB, rfB, roM, roN, *]; done) | (simp [roA, roB, rfB, roM, roN, *]; rfl))
    · have n14 := Int32.not_lt.mpr c14
      have oo := oo_b n1 n14
      refine g_aload_n (pc := 17) X dX4_row_17 0 rfl ?_
      refine g_get (pc := 18) X (v := .int (nI (mIr v))) fl_X4_181 dX4_row_18 0 0 rfl rfl rfl ?_
      refine g_bipush (v := 12) (pc := 21) X dX4_row_21 (by decide) ?_
      refine g_ncmp_ne (pc := 23) (tgt := 33) X dX4_row_23 (by decide) (mIr v) 12 rfl rfl (by omega) (by decide) (fun c23 => ?_) (fun c23 => ?_)
      · have n23 : mIr v < 12 := by omega
        clear c23
        refine g_aload_n (pc := 33) X dX4_row_33 0 rfl ?_
        refine g_get (pc := 34) X (v := .ref (ay 9)) fl_X4_34 dX4_row_34 0 0 rfl rfl rfl ?_
        refine g_aload_n (pc := 37) X dX4_row_37 0 rfl ?_
        refine g_dup (pc := 38) X dX4_row_38 rfl ?_
        refine g_get (pc := 39) X (v := .int (nI (mIr v))) fl_X4_181 dX4_row_39 0 0 rfl rfl rfl ?_
        refine g_dup_x1 (pc := 42) X dX4_row_42 rfl rfl ?_
        refine g_iconst (v := 1) (pc := 43) X dX4_row_43 (by decide) ?_
        refine g_iadd (v := nI (mIr v + 1)) (pc := 44) X dX4_row_44 (nI_add (mIr v) 1) ?_
        refine g_put (pc := 45) X (ss' := [wM cy ay k (uIr v (mIr v + 1))]) fp_X4_181 dX4_row_45 0 0 rfl rfl rfl rfl rfl rfl ?_
        refine g_iload_n (pc := 48) X dX4_row_48 1 rfl ?_
        refine g_iast_n (pc := 49) X (ss' := [wM cy ay k (uRw (uIr v (mIr v + 1)) (upd (mRw v) (mIr v) x))]) 0 9 dX4_row_49 (mIr v) rfl rfl rfl (by omega) rfl rfl ?_
        refine g_aload_n (pc := 50) X dX4_row_50 0 rfl ?_
        refine g_get (pc := 51) X (v := .int (nI (mIr v + 1))) fl_X4_181 dX4_row_51 0 0 rfl rfl rfl ?_
        exact g_iret (pc := 54) X rfl dX4_row_54 rfl (by simp [roA, *]) (by first | (simp [roA, roB, rfB, roM, roN, *]; done) | (simp [roA, roB, rfB, roM, roN, *]; rfl))
      · have n23 : ¬ mIr v < 12 := by omega
        clear c23
        refine g_aload_n (pc := 26) X dX4_row_26 0 rfl ?_
        refine g_bipush (v := (-6)) (pc := 27) X dX4_row_27 (by decide) ?_
        refine g_callV (pc := 29) (rest := []) (ss' := [wM cy ay k (uRf v (rfU (mRf v) ((-6))))]) X (c_X4_no l D cy ay k v ((-6)) rf_6) vl_X4_63 dX4_row_29 [0] 0 0 rfl rfl rfl rfl rfl rfl (ads_c (ads_M _ _ _ _ _ _) rfl) rfl rfl rfl rfl rfl rfl ⟨Nat.zero_le _, Nat.zero_le _⟩ ?_
        exact g_iret (pc := 32) X rfl dX4_row_32 rfl (by simp [roA, *]) (by first | (simp [roA, roB, rfB, roM, roN, *]; done) | (simp [roA, roB, rfB, roM, roN, *]; rfl))
  · have oo := oo_l (hi := 99) c1
    refine g_aload_n (pc := 4) X dX4_row_4 0 rfl ?_
    refine g_bipush (v := (-4)) (pc := 5) X dX4_row_5 (by decide) ?_
    refine g_callV (pc := 7) (rest := []) (ss' := [wM cy ay k (uRf v (rfU (mRf v) ((-4))))]) X (c_X4_no l D cy ay k v ((-4)) rf_4) vl_X4_63 dX4_row_7 [0] 0 0 rfl rfl rfl rfl rfl rfl (ads_c (ads_M _ _ _ _ _ _) rfl) rfl rfl rfl rfl rfl rfl ⟨Nat.zero_le _, Nat.zero_le _⟩ ?_
    exact g_iret (pc := 10) X rfl dX4_row_10 rfl (by simp [roA, *]) (by first | (simp [roA, roB, rfB, roM, roN, *]; done) | (simp [roA, roB, rfB, roM, roN, *]; rfl))
set_option maxRecDepth 100000 in
set_option maxHeartbeats 4000000 in
theorem c_X4_judge (l : Launch) (D : va_G) (cy : ClassId) (ay : Nat → Nat) (k : KV) (v : MV) (hw : KW k) (hm : mIr v ≤ 12) : CtIE l yX4_judge cX4_judge 6 .int 6 203 D cy [.ref (ay 0)] [wM cy ay k v] (fun (u_ : (Nat → Int32) × (Nat → Int32)) => [wM cy ay k (uSn (uAh (uIr v 0) u_.2) u_.1)]) (jdA k (mRw v) (mIr v)) := by
  have h8 := hw.2.2.2.2.2.1
  have ho := hw.2.2.2.2.1
  refine ctIE_of (by decide +kernel) (Nat.le_of_ble_eq_true rfl) (fun p_ e_ s_ m_ args_ below_ meth_ c_ A_ X => ?_)
  refine g_lv X (lv' := [(0, .ref (ay 0))]) [0] rfl ?_
  refine g_aload_n (pc := 0) X dX4_judge_0 0 rfl ?_
  refine g_get (pc := 1) X (v := .int (nI (mIr v))) fl_X4_181 dX4_judge_1 0 0 rfl rfl rfl ?_
  refine g_istore_n (lv' := [(1, .int (nI (mIr v))), (0, .ref (ay 0))]) (pc := 4) X dX4_judge_4 rfl rfl rfl ?_
  refine g_aload_n (pc := 5) X dX4_judge_5 1 rfl ?_
  refine g_iconst (v := 0) (pc := 6) X dX4_judge_6 (by decide) ?_
  refine g_put (pc := 7) X (ss' := [wM cy ay k (uIr v 0)]) fp_X4_181 dX4_judge_7 0 0 rfl rfl rfl rfl rfl rfl ?_
  refine g_aload_n (pc := 10) X dX4_judge_10 1 rfl ?_
  refine g_aload_n (pc := 11) X dX4_judge_11 1 rfl ?_
  refine g_get (pc := 12) X (v := .ref (ay 12)) fl_X4_43 dX4_judge_12 0 0 rfl rfl rfl ?_
  refine g_callVv (pc := 15) (rest := []) (ss' := [wM cy ay k (uAh (uIr v 0) (imF k))]) X (c_X4_keeph l D cy ay k (uIr v 0) ) vl_X4_122 dX4_judge_15 [0] 0 0 rfl rfl rfl rfl rfl rfl (ads_c (ads_M _ _ _ _ _ _) rfl) rfl rfl rfl rfl rfl rfl ⟨Nat.zero_le _, Nat.zero_le _⟩ ?_
  refine g_bipush (v := (-9)) (pc := 18) X dX4_judge_18 (by decide) ?_
  refine g_istore_n (lv' := [(2, .int ((-9))), (1, .int (nI (mIr v))), (0, .ref (ay 0))]) (pc := 20) X dX4_judge_20 rfl rfl rfl ?_
  refine g_iconst (v := 0) (pc := 21) X dX4_judge_21 (by decide) ?_
  refine g_istore_n (lv' := [(3, .int (0)), (2, .int ((-9))), (1, .int (nI (mIr v))), (0, .ref (ay 0))]) (pc := 22) X dX4_judge_22 rfl rfl rfl ?_
  have L23_1 : ∀ (fu_ : Nat) (j : Nat) (w : Int32) (o : Nat → Int32) (sn : Nat → Int32) (hj : j ≤ mIr v) (hq : jdA k (mRw v) (mIr v) = if w = -9 then jdN k (mRw v) (mIr v - j) j o else w) (hm : 13 - j < fu_), G p_ l e_ { frames := 6, cells := 0, slots := 0, locals := 203 } s_ m_ args_ below_ meth_ c_ 6 D A_ 0 0 (QIE below_ args_ s_ D A_ (fun (u_ : (Nat → Int32) × (Nat → Int32)) => [wM cy ay k (uSn (uAh (uIr v 0) u_.2) u_.1)]) (jdA k (mRw v) (mIr v))) [wM cy ay (sRo k o) (uSn (uAh (uIr v 0) (imF k)) sn)] 23 [(0, .ref (ay 0)), (1, .int (nI (mIr v))), (2, .int (w)), (3, .int (nI j))] [] := by
    intro fu_
    induction fu_ with
    | zero => intro j w o sn hj hq hm; exact absurd hm (Nat.not_lt_zero _)
    | succ fu_ ih =>
      intro j w o sn hj hq hm
      have ih23 := ih
      clear ih
      refine g_iload_n (pc := 23) X dX4_judge_23 3 rfl ?_
      refine g_iload_n (pc := 24) X dX4_judge_24 1 rfl ?_
      refine g_ncmp_ge (pc := 25) (tgt := 108) X dX4_judge_25 (by decide) j (mIr v) rfl rfl (by omega) (by omega) (fun c25 => ?_) (fun c25 => ?_)
      · have n25 := Nat.not_lt.mpr c25
        have hw9 : jdA k (mRw v) (mIr v) = w := by
          rw [hq]
          by_cases q9 : w = -9
          · rw [if_pos q9, show mIr v - j = 0 by omega, q9]; rfl
          · rw [if_neg q9]
        refine g_aload_n (pc := 108) X dX4_judge_108 0 rfl ?_
        refine g_aload_n (pc := 109) X dX4_judge_109 0 rfl ?_
        refine g_get (pc := 110) X (v := .ref (ay 12)) fl_X4_43 dX4_judge_110 0 0 rfl rfl rfl ?_
        refine g_callVv (pc := 113) (rest := []) (ss' := [wM cy ay k (uSn (uAh (uIr v 0) (imF k)) sn)]) X (c_X4_againh l D cy ay (sRo k o) (uSn (uAh (uIr v 0) (imF k)) sn) k (fun _ _ => rfl)) vl_X4_126 dX4_judge_113 [0] 0 0 rfl rfl rfl rfl rfl rfl (ads_c (ads_M _ _ _ _ _ _) rfl) rfl rfl rfl rfl rfl rfl ⟨Nat.zero_le _, Nat.zero_le _⟩ ?_
        refine g_iload_n (pc := 116) X dX4_judge_116 2 rfl ?_
        exact g_iretE (pc := 117) X (sn, imF k) rfl dX4_judge_117 rfl hw9.symm rfl
      · refine g_iload_n (pc := 28) X dX4_judge_28 2 rfl ?_
        refine g_bipush (v := (-9)) (pc := 29) X dX4_judge_29 (by decide) ?_
        refine g_icmp_ne (pc := 31) (tgt := 108) X dX4_judge_31 (by decide) (fun c31 => ?_) (fun c31 => ?_)
        · have hw9 : jdA k (mRw v) (mIr v) = w := by rw [hq, if_neg c31]
          refine g_aload_n (pc := 108) X dX4_judge_108 0 rfl ?_
          refine g_aload_n (pc := 109) X dX4_judge_109 0 rfl ?_
          refine g_get (pc := 110) X (v := .ref (ay 12)) fl_X4_43 dX4_judge_110 0 0 rfl rfl rfl ?_
          refine g_callVv (pc := 113) (rest := []) (ss' := [wM cy ay k (uSn (uAh (uIr v 0) (imF k)) sn)]) X (c_X4_againh l D cy ay (sRo k o) (uSn (uAh (uIr v 0) (imF k)) sn) k (fun _ _ => rfl)) vl_X4_126 dX4_judge_113 [0] 0 0 rfl rfl rfl rfl rfl rfl (ads_c (ads_M _ _ _ _ _ _) rfl) rfl rfl rfl rfl rfl rfl ⟨Nat.zero_le _, Nat.zero_le _⟩ ?_
          refine g_iload_n (pc := 116) X dX4_judge_116 2 rfl ?_
          exact g_iretE (pc := 117) X (sn, imF k) rfl dX4_judge_117 rfl hw9.symm rfl
        · refine g_aload_n (pc := 34) X dX4_judge_34 0 rfl ?_
          refine g_get (pc := 35) X (v := .ref (ay 9)) fl_X4_34 dX4_judge_35 0 0 rfl rfl rfl ?_
          refine g_iload_n (pc := 38) X dX4_judge_38 3 rfl ?_
          refine g_iald_n (pc := 39) (f := mRw v) X 0 9 dX4_judge_39 j rfl rfl rfl (by omega) rfl ?_
          refine g_bipush (v := 10) (pc := 40) X dX4_judge_40 (by decide) ?_
          refine g_idiv (v := dvI (mRw v j)) (pc := 42) X dX4_judge_42 (by decide) rfl ?_
          refine g_istore (lv' := [(4, .int (dvI (mRw v j))), (0, .ref (ay 0)), (1, .int (nI (mIr v))), (2, .int (w)), (3, .int (nI j))]) (pc := 43) X dX4_judge_43 rfl rfl ?_
          refine g_aload_n (pc := 45) X dX4_judge_45 1 rfl ?_
          refine g_get (pc := 46) X (v := .ref (ay 9)) fl_X4_34 dX4_judge_46 0 0 rfl rfl rfl ?_
          refine g_iload_n (pc := 49) X dX4_judge_49 4 rfl ?_
          refine g_iald_n (pc := 50) (f := mRw v) X 0 9 dX4_judge_50 j rfl rfl rfl (by omega) rfl ?_
          refine g_bipush (v := 10) (pc := 51) X dX4_judge_51 (by decide) ?_
          refine g_irem (v := rmI (mRw v j)) (pc := 53) X dX4_judge_53 (by decide) rfl ?_
          refine g_istore (lv' := [(5, .int (rmI (mRw v j))), (4, .int (dvI (mRw v j))), (0, .ref (ay 0)), (1, .int (nI (mIr v))), (2, .int (w)), (3, .int (nI j))]) (pc := 54) X dX4_judge_54 rfl rfl ?_
          refine g_aload_n (pc := 56) X dX4_judge_56 2 rfl ?_
          refine g_iload (pc := 57) X dX4_judge_57 1 rfl ?_
          refine g_callV (pc := 59) (rest := []) (ss' := [wM cy ay (sRo k o) (uSn (uAh (uIr v 0) (imF k)) sn)]) X (c_X4_isThing l D cy ay (sRo k o) (uSn (uAh (uIr v 0) (imF k)) sn) (dvI (mRw v j)) hw.2.2.2.2.2.1) vl_X4_112 dX4_judge_59 [0] 0 0 rfl rfl rfl rfl rfl rfl rfl rfl rfl rfl rfl rfl rfl ⟨Nat.zero_le _, Nat.zero_le _⟩ ?_
          refine g_bif_eq (pc := 62) (tgt := 73) X dX4_judge_62 (by decide) (fun c62 => ?_) (fun c62 => ?_)
          · have hq2 : jdA k (mRw v) (mIr v) = if nI j = -9 then jdN k (mRw v) (mIr v - (j + 1)) (j + 1) o else nI j := by rw [if_neg (nI_n9 (by omega)), hq, if_pos c31, jd_stop c25 (by rw [jdB, show hasT k (dvI (mRw v j)) = false from c62]; rfl)]
            refine g_iload_n (pc := 73) X dX4_judge_73 5 rfl ?_
            refine g_istore_n (lv' := [(2, .int (nI j)), (5, .int (rmI (mRw v j))), (4, .int (dvI (mRw v j))), (0, .ref (ay 0)), (1, .int (nI (mIr v))), (3, .int (nI j))]) (pc := 74) X dX4_judge_74 rfl rfl rfl ?_
            refine g_goto (pc := 75) (tgt := 102) X dX4_judge_75 (by decide) ?_
            refine g_iinc (v := nI (j + 1)) (lv' := [(3, .int (nI (j + 1))), (2, .int (nI j)), (5, .int (rmI (mRw v j))), (4, .int (dvI (mRw v j))), (0, .ref (ay 0)), (1, .int (nI (mIr v)))]) (pc := 102) X dX4_judge_102 5 rfl (nI_1 j) rfl rfl ?_
            refine g_goto (pc := 105) (tgt := 23) X dX4_judge_105 (by decide) ?_
            refine g_lv X (lv' := [(0, .ref (ay 0)), (1, .int (nI (mIr v))), (2, .int (nI j)), (3, .int (nI (j + 1)))]) [4, 5, 1, 0] rfl ?_
            exact ih23 (j + 1) (nI j) o sn c25 hq2 (by omega)
          · obtain ⟨t, ht, et⟩ := hasT_t (k := sRo k o) h8 c62
            rw [et]
            refine g_iload (pc := 65) X dX4_judge_65 0 rfl ?_
            refine g_callS (pc := 67) (rest := []) X (c_X4_isRoom l D cy (rmI (mRw v j)) ) sl_X4_105 dX4_judge_67 rfl rfl rfl rfl rfl ⟨Nat.zero_le _, Nat.zero_le _⟩ ?_
            refine g_bif_ne (pc := 70) (tgt := 78) X dX4_judge_70 (by decide) (fun c70 => ?_) (fun c70 => ?_)
            · obtain ⟨rr, hrr, er⟩ := isRm_t c70
              rw [er]
              refine g_aload_n (pc := 78) X dX4_judge_78 2 rfl ?_
              refine g_get (pc := 79) X (v := .ref (ay 4)) fl_X4_19 dX4_judge_79 0 0 rfl rfl rfl ?_
              refine g_iload (pc := 82) X dX4_judge_82 1 rfl ?_
              refine g_iload (pc := 84) X dX4_judge_84 0 rfl ?_
              refine g_iast_n (pc := 86) X (ss' := [wM cy ay (sRo k (upd o t (nI rr))) (uSn (uAh (uIr v 0) (imF k)) sn)]) 0 4 dX4_judge_86 t rfl rfl rfl (Nat.lt_of_lt_of_le ht h8) rfl rfl ?_
              refine g_aload_n (pc := 87) X dX4_judge_87 2 rfl ?_
              refine g_bipush (v := 7) (pc := 88) X dX4_judge_88 (by decide) ?_
              refine g_iload_n (pc := 90) X dX4_judge_90 5 rfl ?_
              refine g_mmin (pc := 91) (v := nI (min j 7)) X ml_X4_73 m_min_s ini_Math m_min_c dX4_judge_91 rfl rfl ⟨Nat.zero_le _, Nat.zero_le _⟩ (by rw [Nat.min_comm]; exact mmin_n 7 j (by omega) (by omega)) ?_
              refine g_callVE (pc := 94) (rest := []) (ss' := fun (u_ : (Nat → Int32)) => [wM cy ay (sRo k (upd o t (nI rr))) (uSn (uAh (uIr v 0) (imF k)) u_)]) X (c_X4_sinsIn l D cy ay (sRo k (upd o t (nI rr))) (uSn (uAh (uIr v 0) (imF k)) sn) (min j 7) hw.2.2.2.2.2.1 hw.1.1 hw.2.2.2.2.1 (by omega)) vl_X4_146 dX4_judge_94 [0] 0 0 rfl rfl rfl rfl rfl rfl (fun _ => (ads_c (ads_M _ _ _ _ _ _) rfl)) (fun _ => rfl) rfl rfl rfl rfl rfl ⟨Nat.zero_le _, Nat.zero_le _⟩ ?_
              rintro xs_94_1
              refine g_eq X (ss' := [wM cy ay (sRo k (upd o t (nI rr))) (uSn (uAh (uIr v 0) (imF k)) xs_94_1)]) rfl ?_
              have hlt := si_lt (k := sRo k (upd o t (nI rr))) (h := min j 7) ho h8
              refine g_nif_le (pc := 97) (tgt := 102) X dX4_judge_97 (by decide) (siN (sRo k (upd o t (nI rr))) (min j 7)) rfl (by omega) (fun c97 => ?_) (fun c97 => ?_)
              · have hq2 : jdA k (mRw v) (mIr v) = if w = -9 then jdN k (mRw v) (mIr v - (j + 1)) (j + 1) (upd o t (nI rr)) else w := by rw [hq, if_pos c31, if_pos c31, jd_step c25 h8 ht hrr et er, if_pos ((si_0 (k := sRo k (upd o t (nI rr))) ho h8).mp c97)]
                refine g_iinc (v := nI (j + 1)) (lv' := [(3, .int (nI (j + 1))), (5, .int (nI rr)), (4, .int (nI t)), (0, .ref (ay 0)), (1, .int (nI (mIr v))), (2, .int (w))]) (pc := 102) X dX4_judge_102 5 rfl (nI_1 j) rfl rfl ?_
                refine g_goto (pc := 105) (tgt := 23) X dX4_judge_105 (by decide) ?_
                refine g_lv X (lv' := [(0, .ref (ay 0)), (1, .int (nI (mIr v))), (2, .int (w)), (3, .int (nI (j + 1)))]) [3, 4, 5, 0] rfl ?_
                exact ih23 (j + 1) w (upd o t (nI rr)) xs_94_1 c25 hq2 (by omega)
              · have hq2 : jdA k (mRw v) (mIr v) = if nI j = -9 then jdN k (mRw v) (mIr v - (j + 1)) (j + 1) (upd o t (nI rr)) else nI j := by rw [if_neg (nI_n9 (by omega)), hq, if_pos c31, jd_step c25 h8 ht hrr et er, if_neg ((si_p (k := sRo k (upd o t (nI rr))) ho h8).mp c97)]
                refine g_iload_n (pc := 100) X dX4_judge_100 5 rfl ?_
                refine g_istore_n (lv' := [(2, .int (nI j)), (5, .int (nI rr)), (4, .int (nI t)), (0, .ref (ay 0)), (1, .int (nI (mIr v))), (3, .int (nI j))]) (pc := 101) X dX4_judge_101 rfl rfl rfl ?_
                refine g_iinc (v := nI (j + 1)) (lv' := [(3, .int (nI (j + 1))), (2, .int (nI j)), (5, .int (nI rr)), (4, .int (nI t)), (0, .ref (ay 0)), (1, .int (nI (mIr v)))]) (pc := 102) X dX4_judge_102 5 rfl (nI_1 j) rfl rfl ?_
                refine g_goto (pc := 105) (tgt := 23) X dX4_judge_105 (by decide) ?_
                refine g_lv X (lv' := [(0, .ref (ay 0)), (1, .int (nI (mIr v))), (2, .int (nI j)), (3, .int (nI (j + 1)))]) [4, 5, 1, 0] rfl ?_
                exact ih23 (j + 1) (nI j) (upd o t (nI rr)) xs_94_1 c25 hq2 (by omega)
            · have hq2 : jdA k (mRw v) (mIr v) = if nI j = -9 then jdN k (mRw v) (mIr v - (j + 1)) (j + 1) o else nI j := by rw [if_neg (nI_n9 (by omega)), hq, if_pos c31, jd_stop c25 (by rw [jdB, c70, Bool.and_false])]
              refine g_iload_n (pc := 73) X dX4_judge_73 5 rfl ?_
              refine g_istore_n (lv' := [(2, .int (nI j)), (5, .int (rmI (mRw v j))), (4, .int (nI t)), (0, .ref (ay 0)), (1, .int (nI (mIr v))), (3, .int (nI j))]) (pc := 74) X dX4_judge_74 rfl rfl rfl ?_
              refine g_goto (pc := 75) (tgt := 102) X dX4_judge_75 (by decide) ?_
              refine g_iinc (v := nI (j + 1)) (lv' := [(3, .int (nI (j + 1))), (2, .int (nI j)), (5, .int (rmI (mRw v j))), (4, .int (nI t)), (0, .ref (ay 0)), (1, .int (nI (mIr v)))]) (pc := 102) X dX4_judge_102 5 rfl (nI_1 j) rfl rfl ?_
              refine g_goto (pc := 105) (tgt := 23) X dX4_judge_105 (by decide) ?_
              refine g_lv X (lv' := [(0, .ref (ay 0)), (1, .int (nI (mIr v))), (2, .int (nI j)), (3, .int (nI (j + 1)))]) [4, 5, 1, 0] rfl ?_
              exact ih23 (j + 1) (nI j) o sn c25 hq2 (by omega)
  refine g_lv X (lv' := [(0, .ref (ay 0)), (1, .int (nI (mIr v))), (2, .int ((-9))), (3, .int (0))]) [3, 2, 1, 0] rfl ?_
  exact L23_1 (13 - 0 + 1) 0 ((-9)) (kRo k) (mSn v) (Nat.zero_le _) rfl (Nat.lt_succ_self _)
set_option maxRecDepth 100000 in
set_option maxHeartbeats 4000000 in
theorem c_X4_seeds (l : Launch) (D : va_G) (cy : ClassId) (ay : Nat → Nat) (k : KV) (v : MV) (q : Int32) (z : Int32) (hw : KW k) : CtIE l yX4_seeds cX4_seeds 7 .int 6 203 D cy [.ref (ay 0), .int (q), .int (z)] [wM cy ay k v] (fun (u_ : (Nat → Int32) × (Nat → Int32)) => [wM cy ay k (uSn (uAh (uRf v (rfB (sdB k q) (mRf v) (sdA k q z))) u_.2) u_.1)]) (sdA k q z) := by
  have h8 := hw.2.2.2.2.2.1
  have ho := hw.2.2.2.2.1
  refine ctIE_of (by decide +kernel) (Nat.le_of_ble_eq_true rfl) (fun p_ e_ s_ m_ args_ below_ meth_ c_ A_ X => ?_)
  refine g_lv X (lv' := [(0, .ref (ay 0)), (1, .int (q)), (2, .int (z))]) [0, 1, 2] rfl ?_
  refine g_iload_n (pc := 0) X dX4_seeds_0 1 rfl ?_
  refine g_iconst (v := 1) (pc := 1) X dX4_seeds_1 (by decide) ?_
  refine g_icmp_ge (pc := 2) (tgt := 12) X dX4_seeds_2 (by decide) (fun c2 => ?_) (fun c2 => ?_)
  · have n2 := Int32.not_lt.mpr c2
    refine g_iload_n (pc := 12) X dX4_seeds_12 1 rfl ?_
    refine g_bipush (v := 30) (pc := 13) X dX4_seeds_13 (by decide) ?_
    refine g_icmp_le (pc := 15) (tgt := 25) X dX4_seeds_15 (by decide) (fun c15 => ?_) (fun c15 => ?_)
    · have n15 := Int32.not_lt.mpr c15
      have oo : ooI q 1 30 = 0 := by rw [ooI, if_neg n2, if_neg n15]
      obtain ⟨i, hi, rfl⟩ := in_lt (n := 31) (by omega) (Int32.le_trans (by decide) c2) (Int32.lt_of_le_of_lt c15 (by decide))
      have ixi : ix (nI i) = i := ixn (by omega)
      refine g_aload_n (pc := 25) X dX4_seeds_25 0 rfl ?_
      refine g_get (pc := 26) X (v := .int (nI (kNt k))) fl_X4_52 dX4_seeds_26 0 0 rfl rfl rfl ?_
      refine g_nif_ne (pc := 29) (tgt := 39) X dX4_seeds_29 (by decide) (kNt k) rfl (by omega) (fun c29 => ?_) (fun c29 => ?_)
      · have h0 : 0 < kNt k := Nat.pos_of_ne_zero c29
        refine g_aload_n (pc := 39) X dX4_seeds_39 0 rfl ?_
        refine g_aload_n (pc := 40) X dX4_seeds_40 0 rfl ?_
        refine g_get (pc := 41) X (v := .ref (ay 12)) fl_X4_43 dX4_seeds_41 0 0 rfl rfl rfl ?_
        refine g_callVv (pc := 44) (rest := []) (ss' := [wM cy ay k (uAh v (imF k))]) X (c_X4_keeph l D cy ay k v ) vl_X4_122 dX4_seeds_44 [0] 0 0 rfl rfl rfl rfl rfl rfl (ads_c (ads_M _ _ _ _ _ _) rfl) rfl rfl rfl rfl rfl rfl ⟨Nat.zero_le _, Nat.zero_le _⟩ ?_
        refine g_iload_n (pc := 47) X dX4_seeds_47 2 rfl ?_
        refine g_istore_n (lv' := [(3, .int (z)), (0, .ref (ay 0)), (1, .int (nI i)), (2, .int (z))]) (pc := 48) X dX4_seeds_48 rfl rfl rfl ?_
        refine g_iconst (v := 0) (pc := 49) X dX4_seeds_49 (by decide) ?_
        refine g_istore (lv' := [(4, .int (0)), (3, .int (z)), (0, .ref (ay 0)), (1, .int (nI i)), (2, .int (z))]) (pc := 50) X dX4_seeds_50 rfl rfl ?_
        refine g_iconst (v := 0) (pc := 52) X dX4_seeds_52 (by decide) ?_
        refine g_istore (lv' := [(5, .int (0)), (4, .int (0)), (3, .int (z)), (0, .ref (ay 0)), (1, .int (nI i)), (2, .int (z))]) (pc := 53) X dX4_seeds_53 rfl rfl ?_
        have L55_1 : ∀ (fu_ : Nat) (j : Nat) (sn : Nat → Int32) (hj : j ≤ i) (hm : i - j < fu_), G p_ l e_ { frames := 6, cells := 0, slots := 0, locals := 203 } s_ m_ args_ below_ meth_ c_ 7 D A_ 0 0 (QIE below_ args_ s_ D A_ (fun (u_ : (Nat → Int32) × (Nat → Int32)) => [wM cy ay k (uSn (uAh (uRf v (rfB (sdB k (nI i)) (mRf v) (sdA k (nI i) z))) u_.2) u_.1)]) (sdA k (nI i) z)) [wM cy ay (sRo k ((sdS k z j).2.1)) (uSn (uAh v (imF k)) sn)] 55 [(0, .ref (ay 0)), (1, .int (nI i)), (3, .int ((sdS k z j).1)), (4, .int (nI ((sdS k z j).2.2))), (5, .int (nI j))] [] := by
          intro fu_
          induction fu_ with
          | zero => intro j sn hj hm; exact absurd hm (Nat.not_lt_zero _)
          | succ fu_ ih =>
            intro j sn hj hm
            have ih55 := ih
            clear ih
            refine g_iload (pc := 55) X dX4_seeds_55 4 rfl ?_
            refine g_iload_n (pc := 57) X dX4_seeds_57 1 rfl ?_
            refine g_ncmp_ge (pc := 58) (tgt := 130) X dX4_seeds_58 (by decide) j i rfl rfl (by omega) (by omega) (fun c58 => ?_) (fun c58 => ?_)
            · have n58 := Nat.not_lt.mpr c58
              refine g_aload_n (pc := 130) X dX4_seeds_130 0 rfl ?_
              refine g_aload_n (pc := 131) X dX4_seeds_131 0 rfl ?_
              refine g_get (pc := 132) X (v := .ref (ay 12)) fl_X4_43 dX4_seeds_132 0 0 rfl rfl rfl ?_
              refine g_callVv (pc := 135) (rest := []) (ss' := [wM cy ay k (uSn (uAh v (imF k)) sn)]) X (c_X4_againh l D cy ay (sRo k ((sdS k z j).2.1)) (uSn (uAh v (imF k)) sn) k (fun _ _ => rfl)) vl_X4_126 dX4_seeds_135 [0] 0 0 rfl rfl rfl rfl rfl rfl (ads_c (ads_M _ _ _ _ _ _) rfl) rfl rfl rfl rfl rfl rfl ⟨Nat.zero_le _, Nat.zero_le _⟩ ?_
              refine g_iload (pc := 138) X dX4_seeds_138 3 rfl ?_
              have ej : j = i := by omega
              exact g_iretE (pc := 140) X (sn, imF k) rfl dX4_seeds_140 rfl (by first | (simp [sdA, *]; done) | (simp [sdA, ooI, *]; done)) (by first | (simp [sdA, sdB, rfB, *]; done) | (simp [sdA, sdB, rfB, *]; rfl))
            · refine g_iload_n (pc := 61) X dX4_seeds_61 2 rfl ?_
              refine g_ldc (v := 1664525) (pc := 62) X dX4_seeds_62 kc_X4_184 ?_
              refine g_imul (v := ((sdS k z j).1) * 1664525) (pc := 64) X dX4_seeds_64 rfl ?_
              refine g_ldc (v := 1013904223) (pc := 65) X dX4_seeds_65 kc_X4_185 ?_
              refine g_iadd (v := nxI (sdS k z j).1) (pc := 67) X dX4_seeds_67 rfl ?_
              refine g_istore_n (lv' := [(3, .int (nxI (sdS k z j).1)), (0, .ref (ay 0)), (1, .int (nI i)), (4, .int (nI ((sdS k z j).2.2))), (5, .int (nI j))]) (pc := 68) X dX4_seeds_68 rfl rfl rfl ?_
              refine g_iload_n (pc := 69) X dX4_seeds_69 0 rfl ?_
              refine g_ldc (v := 2147483647) (pc := 70) X dX4_seeds_70 kc_X4_186 ?_
              refine g_iand (v := (nxI (sdS k z j).1) &&& 2147483647) (pc := 72) X dX4_seeds_72 rfl ?_
              refine g_sipush (v := 256) (pc := 73) X dX4_seeds_73 (by decide) ?_
              refine g_idiv (v := ((nxI (sdS k z j).1) &&& 2147483647) / 256) (pc := 76) X dX4_seeds_76 (by decide) rfl ?_
              refine g_aload_n (pc := 77) X dX4_seeds_77 1 rfl ?_
              refine g_get (pc := 78) X (v := .int (nI (kNt k))) fl_X4_52 dX4_seeds_78 0 0 rfl rfl rfl ?_
              refine g_irem (v := nI (dwN (nxI (sdS k z j).1) (kNt k))) (pc := 81) X dX4_seeds_81 (nI_ne0 h0 (by omega)) (by have q := dw_n (nxI (sdS k z j).1) h0 (show kNt k < 1000 by omega); unfold dwI at q; rw [if_pos (show (0 : Int32) < nI (kNt k) from nI_lt (a := 0) h0 (by omega))] at q; exact q) ?_
              refine g_istore (lv' := [(6, .int (nI (dwN (nxI (sdS k z j).1) (kNt k)))), (3, .int (nxI (sdS k z j).1)), (0, .ref (ay 0)), (1, .int (nI i)), (4, .int (nI ((sdS k z j).2.2))), (5, .int (nI j))]) (pc := 82) X dX4_seeds_82 rfl rfl ?_
              refine g_iload_n (pc := 84) X dX4_seeds_84 1 rfl ?_
              refine g_ldc (v := 1664525) (pc := 85) X dX4_seeds_85 kc_X4_184 ?_
              refine g_imul (v := (nxI (sdS k z j).1) * 1664525) (pc := 87) X dX4_seeds_87 rfl ?_
              refine g_ldc (v := 1013904223) (pc := 88) X dX4_seeds_88 kc_X4_185 ?_
              refine g_iadd (v := nxI (nxI (sdS k z j).1)) (pc := 90) X dX4_seeds_90 rfl ?_
              refine g_istore_n (lv' := [(3, .int (nxI (nxI (sdS k z j).1))), (6, .int (nI (dwN (nxI (sdS k z j).1) (kNt k)))), (0, .ref (ay 0)), (1, .int (nI i)), (4, .int (nI ((sdS k z j).2.2))), (5, .int (nI j))]) (pc := 91) X dX4_seeds_91 rfl rfl rfl ?_
              refine g_aload_n (pc := 92) X dX4_seeds_92 2 rfl ?_
              refine g_get (pc := 93) X (v := .ref (ay 4)) fl_X4_19 dX4_seeds_93 0 0 rfl rfl rfl ?_
              refine g_iload (pc := 96) X dX4_seeds_96 1 rfl ?_
              refine g_iload_n (pc := 98) X dX4_seeds_98 0 rfl ?_
              refine g_ldc (v := 2147483647) (pc := 99) X dX4_seeds_99 kc_X4_186 ?_
              refine g_iand (v := (nxI (nxI (sdS k z j).1)) &&& 2147483647) (pc := 101) X dX4_seeds_101 rfl ?_
              refine g_sipush (v := 256) (pc := 102) X dX4_seeds_102 (by decide) ?_
              refine g_idiv (v := ((nxI (nxI (sdS k z j).1)) &&& 2147483647) / 256) (pc := 105) X dX4_seeds_105 (by decide) rfl ?_
              refine g_bipush (v := 6) (pc := 106) X dX4_seeds_106 (by decide) ?_
              refine g_irem (v := nI (dwN (nxI (nxI (sdS k z j).1)) 6)) (pc := 108) X dX4_seeds_108 (by decide) (by have q := dw_n (nxI (nxI (sdS k z j).1)) (b := 6) (by decide) (by decide); unfold dwI at q; rw [if_pos (show (0 : Int32) < nI 6 from nI_lt (a := 0) (by decide) (by decide))] at q; exact q) ?_
              refine g_iast_n (pc := 109) X (ss' := [wM cy ay (sRo k (upd ((sdS k z j).2.1) (dwN (nxI (sdS k z j).1) (kNt k)) (nI (dwN (nxI (nxI (sdS k z j).1)) 6)))) (uSn (uAh v (imF k)) sn)]) 0 4 dX4_seeds_109 (dwN (nxI (sdS k z j).1) (kNt k)) rfl rfl rfl (by have := dw_lt (nxI (sdS k z j).1) h0 (by omega); omega) rfl rfl ?_
              refine g_eq X (ss' := [wM cy ay (sRo k ((sdS k z (j + 1)).2.1)) (uSn (uAh v (imF k)) sn)]) rfl ?_
              have hlt := si_lt (k := sRo k (sdS k z (j + 1)).2.1) (h := kHr k) ho h8
              refine g_aload_n (pc := 110) X dX4_seeds_110 2 rfl ?_
              refine g_aload_n (pc := 111) X dX4_seeds_111 2 rfl ?_
              refine g_get (pc := 112) X (v := .int (nI (kHr k))) fl_X4_95 dX4_seeds_112 0 0 rfl rfl rfl ?_
              refine g_callVE (pc := 115) (rest := []) (ss' := fun (u_ : (Nat → Int32)) => [wM cy ay (sRo k ((sdS k z (j + 1)).2.1)) (uSn (uAh v (imF k)) u_)]) X (c_X4_sinsIn l D cy ay (sRo k ((sdS k z (j + 1)).2.1)) (uSn (uAh v (imF k)) sn) (kHr k) hw.2.2.2.2.2.1 hw.1.1 hw.2.2.2.2.1 hw.2.2.2.2.2.2.1) vl_X4_146 dX4_seeds_115 [0] 0 0 rfl rfl rfl rfl rfl rfl (fun _ => (ads_c (ads_M _ _ _ _ _ _) rfl)) (fun _ => rfl) rfl rfl rfl rfl rfl ⟨Nat.zero_le _, Nat.zero_le _⟩ ?_
              rintro xs_115_1
              refine g_eq X (ss' := [wM cy ay (sRo k ((sdS k z (j + 1)).2.1)) (uSn (uAh v (imF k)) xs_115_1)]) rfl ?_
              refine g_nif_le (pc := 118) (tgt := 124) X dX4_seeds_118 (by decide) (siN (sRo k ((sdS k z (j + 1)).2.1)) (kHr k)) rfl (by omega) (fun c118 => ?_) (fun c118 => ?_)
              · have hf9 := (si_0 (k := sRo k (sdS k z (j + 1)).2.1) ho h8).mp c118
                have hc : (sdS k z j).2.2 = (sdS k z (j + 1)).2.2 := (if_pos hf9).symm
                rw [hc]
                refine g_iinc (v := nI (j + 1)) (lv' := [(5, .int (nI (j + 1))), (3, .int (nxI (nxI (sdS k z j).1))), (6, .int (nI (dwN (nxI (sdS k z j).1) (kNt k)))), (0, .ref (ay 0)), (1, .int (nI i)), (4, .int (nI ((sdS k z (j + 1)).2.2)))]) (pc := 124) X dX4_seeds_124 5 rfl (nI_1 j) rfl rfl ?_
                refine g_goto (pc := 127) (tgt := 55) X dX4_seeds_127 (by decide) ?_
                refine g_lv X (lv' := [(0, .ref (ay 0)), (1, .int (nI i)), (3, .int (nxI (nxI (sdS k z j).1))), (4, .int (nI ((sdS k z (j + 1)).2.2))), (5, .int (nI (j + 1)))]) [3, 4, 1, 5, 0] rfl ?_
                exact ih55 (j + 1) xs_115_1 c58 (by omega)
              · have hf9 := (si_p (k := sRo k (sdS k z (j + 1)).2.1) ho h8).mp c118
                refine g_iinc (v := nI ((sdS k z (j + 1)).2.2)) (lv' := [(4, .int (nI ((sdS k z (j + 1)).2.2))), (3, .int (nxI (nxI (sdS k z j).1))), (6, .int (nI (dwN (nxI (sdS k z j).1) (kNt k)))), (0, .ref (ay 0)), (1, .int (nI i)), (5, .int (nI j))]) (pc := 121) X dX4_seeds_121 4 rfl (by show _ = nI (sdU k (sdS k z j)).2.2; rw [show (sdU k (sdS k z j)).2.2 = (sdS k z j).2.2 + 1 from if_neg hf9]; exact nI_1 _) rfl rfl ?_
                refine g_iinc (v := nI (j + 1)) (lv' := [(5, .int (nI (j + 1))), (4, .int (nI ((sdS k z (j + 1)).2.2))), (3, .int (nxI (nxI (sdS k z j).1))), (6, .int (nI (dwN (nxI (sdS k z j).1) (kNt k)))), (0, .ref (ay 0)), (1, .int (nI i))]) (pc := 124) X dX4_seeds_124 5 rfl (nI_1 j) rfl rfl ?_
                refine g_goto (pc := 127) (tgt := 55) X dX4_seeds_127 (by decide) ?_
                refine g_lv X (lv' := [(0, .ref (ay 0)), (1, .int (nI i)), (3, .int (nxI (nxI (sdS k z j).1))), (4, .int (nI ((sdS k z (j + 1)).2.2))), (5, .int (nI (j + 1)))]) [4, 5, 2, 1, 0] rfl ?_
                exact ih55 (j + 1) xs_115_1 c58 (by omega)
        refine g_lv X (lv' := [(0, .ref (ay 0)), (1, .int (nI i)), (3, .int (z)), (4, .int (0)), (5, .int (0))]) [3, 4, 2, 1, 0] rfl ?_
        exact L55_1 (i - 0 + 1) 0 (mSn v) (Nat.zero_le _) (Nat.lt_succ_self _)
      · refine g_aload_n (pc := 32) X dX4_seeds_32 0 rfl ?_
        refine g_bipush (v := (-3)) (pc := 33) X dX4_seeds_33 (by decide) ?_
        refine g_callV (pc := 35) (rest := []) (ss' := [wM cy ay k (uRf v (rfU (mRf v) ((-3))))]) X (c_X4_no l D cy ay k v ((-3)) rf_3) vl_X4_63 dX4_seeds_35 [0] 0 0 rfl rfl rfl rfl rfl rfl (ads_c (ads_M _ _ _ _ _ _) rfl) rfl rfl rfl rfl rfl rfl ⟨Nat.zero_le _, Nat.zero_le _⟩ ?_
        exact g_iretE (pc := 38) X (mSn v, mAh v) rfl dX4_seeds_38 rfl (by first | (simp [sdA, *]; done) | (simp [sdA, ooI, *]; done)) (by first | (simp [sdA, sdB, rfB, *]; done) | (simp [sdA, sdB, rfB, *]; rfl))
    · have oo : ooI q 1 30 = -6 := by rw [ooI, if_neg n2, if_pos c15]
      refine g_aload_n (pc := 18) X dX4_seeds_18 0 rfl ?_
      refine g_bipush (v := (-6)) (pc := 19) X dX4_seeds_19 (by decide) ?_
      refine g_callV (pc := 21) (rest := []) (ss' := [wM cy ay k (uRf v (rfU (mRf v) ((-6))))]) X (c_X4_no l D cy ay k v ((-6)) rf_6) vl_X4_63 dX4_seeds_21 [0] 0 0 rfl rfl rfl rfl rfl rfl (ads_c (ads_M _ _ _ _ _ _) rfl) rfl rfl rfl rfl rfl rfl ⟨Nat.zero_le _, Nat.zero_le _⟩ ?_
      exact g_iretE (pc := 24) X (mSn v, mAh v) rfl dX4_seeds_24 rfl (by first | (simp [sdA, *]; done) | (simp [sdA, ooI, *]; done)) (by first | (simp [sdA, sdB, rfB, *]; done) | (simp [sdA, sdB, rfB, *]; rfl))
  · have oo : ooI q 1 30 = -4 := by rw [ooI, if_pos c2]
    refine g_aload_n (pc := 5) X dX4_seeds_5 0 rfl ?_
    refine g_bipush (v := (-4)) (pc := 6) X dX4_seeds_6 (by decide) ?_
    refine g_callV (pc := 8) (rest := []) (ss' := [wM cy ay k (uRf v (rfU (mRf v) ((-4))))]) X (c_X4_no l D cy ay k v ((-4)) rf_4) vl_X4_63 dX4_seeds_8 [0] 0 0 rfl rfl rfl rfl rfl rfl (ads_c (ads_M _ _ _ _ _ _) rfl) rfl rfl rfl rfl rfl rfl ⟨Nat.zero_le _, Nat.zero_le _⟩ ?_
    exact g_iretE (pc := 11) X (mSn v, mAh v) rfl dX4_seeds_11 rfl (by first | (simp [sdA, *]; done) | (simp [sdA, ooI, *]; done)) (by first | (simp [sdA, sdB, rfB, *]; done) | (simp [sdA, sdB, rfB, *]; rfl))
set_option maxRecDepth 100000 in
set_option maxHeartbeats 4000000 in
theorem c_X4_count (l : Launch) (D : va_G) (cy : ClassId) (ay : Nat → Nat) (k : KV) (v : MV) (w : Int32) (hw : KW k) : CtI l yX4_count cX4_count 4 .int 1 86 D cy [.ref (ay 0), .int (w)] [wM cy ay k v] [wM cy ay k v] (cnA k (mN v) (mIr v) (mRf v) w) := by
  refine ctI_of (by decide +kernel) (Nat.le_of_ble_eq_true rfl) (fun p_ e_ s_ m_ args_ below_ meth_ c_ A_ X => ?_)
  refine g_lv X (lv' := [(0, .ref (ay 0)), (1, .int (w))]) [0, 1] rfl ?_
  refine g_iconst (v := 0) (pc := 0) X dX4_count_0 (by decide) ?_
  refine g_istore_n (lv' := [(2, .int (0)), (0, .ref (ay 0)), (1, .int (w))]) (pc := 1) X dX4_count_1 rfl rfl rfl ?_
  refine g_iload_n (pc := 2) X dX4_count_2 2 rfl ?_
  by_cases e3_0 : w = (0 : Int32)
  · refine g_top X e3_0 ?_
    refine g_tableIn (pc := 3) (off := 45) (tgt := 48) X dX4_count_3 (by decide) (by decide) (by decide) (by decide) ?_
    refine g_aload_n (pc := 48) X dX4_count_48 1 rfl ?_
    refine g_get (pc := 49) X (v := .int (nI (kNt k))) fl_X4_52 dX4_count_49 0 0 rfl rfl rfl ?_
    exact g_iret (pc := 52) X rfl dX4_count_52 rfl (by first | (simp [cnA, *]; done) | (by_cases h1 : w < 11; (simp [cnA, *]); (have h2 : 16 < w := Int32.not_le.mp (fun h => qc ⟨Int32.not_lt.mp h1, h⟩); simp [cnA, *])) | done) rfl
  by_cases e3_1 : w = (1 : Int32)
  · refine g_top X e3_1 ?_
    refine g_tableIn (pc := 3) (off := 50) (tgt := 53) X dX4_count_3 (by decide) (by decide) (by decide) (by decide) ?_
    refine g_aload_n (pc := 53) X dX4_count_53 1 rfl ?_
    refine g_get (pc := 54) X (v := .int (nI (kNl k))) fl_X4_60 dX4_count_54 0 0 rfl rfl rfl ?_
    exact g_iret (pc := 57) X rfl dX4_count_57 rfl (by first | (simp [cnA, *]; done) | (by_cases h1 : w < 11; (simp [cnA, *]); (have h2 : 16 < w := Int32.not_le.mp (fun h => qc ⟨Int32.not_lt.mp h1, h⟩); simp [cnA, *])) | done) rfl
  by_cases e3_2 : w = (2 : Int32)
  · refine g_top X e3_2 ?_
    refine g_tableIn (pc := 3) (off := 55) (tgt := 58) X dX4_count_3 (by decide) (by decide) (by decide) (by decide) ?_
    refine g_aload_n (pc := 58) X dX4_count_58 1 rfl ?_
    refine g_get (pc := 59) X (v := .int (nI (kHr k))) fl_X4_95 dX4_count_59 0 0 rfl rfl rfl ?_
    exact g_iret (pc := 62) X rfl dX4_count_62 rfl (by first | (simp [cnA, *]; done) | (by_cases h1 : w < 11; (simp [cnA, *]); (have h2 : 16 < w := Int32.not_le.mp (fun h => qc ⟨Int32.not_lt.mp h1, h⟩); simp [cnA, *])) | done) rfl
  by_cases e3_3 : w = (3 : Int32)
  · refine g_top X e3_3 ?_
    refine g_tableIn (pc := 3) (off := 60) (tgt := 63) X dX4_count_3 (by decide) (by decide) (by decide) (by decide) ?_
    refine g_aload_n (pc := 63) X dX4_count_63 1 rfl ?_
    refine g_get (pc := 64) X (v := .int (kHd k)) fl_X4_92 dX4_count_64 0 0 rfl rfl rfl ?_
    refine g_callS (pc := 67) (rest := []) X (c_J6_bitCount_0f7a4 l D cy (kHd k) ) sl_X4_149 dX4_count_67 rfl rfl rfl rfl rfl ⟨Nat.zero_le _, Nat.zero_le _⟩ ?_
    exact g_iret (pc := 70) X rfl dX4_count_70 rfl (by first | (simp [cnA, *]; done) | (by_cases h1 : w < 11; (simp [cnA, *]); (have h2 : 16 < w := Int32.not_le.mp (fun h => qc ⟨Int32.not_lt.mp h1, h⟩); simp [cnA, *])) | done) rfl
  by_cases e3_4 : w = (4 : Int32)
  · refine g_top X e3_4 ?_
    refine g_tableIn (pc := 3) (off := 68) (tgt := 71) X dX4_count_3 (by decide) (by decide) (by decide) (by decide) ?_
    refine g_iconst (v := 0) (pc := 71) X dX4_count_71 (by decide) ?_
    refine g_istore_n (lv' := [(3, .int (0)), (2, .int (0)), (0, .ref (ay 0)), (1, .int (w))]) (pc := 72) X dX4_count_72 rfl rfl rfl ?_
    have L73_1 : ∀ (fu_ : Nat) (j : Nat) (hj : j ≤ kNt k) (hm : 9 - j < fu_), G p_ l e_ { frames := 1, cells := 0, slots := 0, locals := 86 } s_ m_ args_ below_ meth_ c_ 4 D A_ 0 0 (QI below_ args_ s_ D A_ [wM cy ay k v] (cnA k (mN v) (mIr v) (mRf v) w)) [wM cy ay k v] 73 [(0, .ref (ay 0)), (1, .int (w)), (2, .int (nI (cnt (fun t => decide (kOt k t ≠ -9)) j))), (3, .int (nI j))] [] := by
      intro fu_
      induction fu_ with
      | zero => intro j hj hm; exact absurd hm (Nat.not_lt_zero _)
      | succ fu_ ih =>
        intro j hj hm
        have ih73 := ih
        clear ih
        refine g_iload_n (pc := 73) X dX4_count_73 3 rfl ?_
        refine g_aload_n (pc := 74) X dX4_count_74 0 rfl ?_
        refine g_get (pc := 75) X (v := .int (nI (kNt k))) fl_X4_52 dX4_count_75 0 0 rfl rfl rfl ?_
        refine g_ncmp_ge (pc := 78) (tgt := 101) X dX4_count_78 (by decide) j (kNt k) rfl rfl (by have := hw.2.2.2.2.2.1; omega) (by have := hw.2.2.2.2.2.1; omega) (fun c78 => ?_) (fun c78 => ?_)
        · have n78 := Nat.not_lt.mpr c78
          have ej : j = kNt k := by omega
          refine g_iload_n (pc := 101) X dX4_count_101 2 rfl ?_
          exact g_iret (pc := 102) X rfl dX4_count_102 rfl (by rw [ej]; simp [cnA, ccK, *]) rfl
        · refine g_aload_n (pc := 81) X dX4_count_81 0 rfl ?_
          refine g_get (pc := 82) X (v := .ref (ay 5)) fl_X4_22 dX4_count_82 0 0 rfl rfl rfl ?_
          refine g_iload_n (pc := 85) X dX4_count_85 3 rfl ?_
          refine g_iald_n (pc := 86) (f := kOt k) X 0 5 dX4_count_86 j rfl rfl rfl (by have := hw.2.2.2.2.2.1; omega) rfl ?_
          refine g_bipush (v := (-9)) (pc := 87) X dX4_count_87 (by decide) ?_
          refine g_icmp_eq (pc := 89) (tgt := 95) X dX4_count_89 (by decide) (fun c89 => ?_) (fun c89 => ?_)
          · have hc : cnt (fun t => decide (kOt k t ≠ -9)) j = cnt (fun t => decide (kOt k t ≠ -9)) (j + 1) := by rw [cnt, if_neg (by simp [c89])]
            rw [hc]
            refine g_iinc (v := nI (j + 1)) (lv' := [(3, .int (nI (j + 1))), (0, .ref (ay 0)), (1, .int (w)), (2, .int (nI (cnt (fun t => decide (kOt k t ≠ -9)) (j + 1))))]) (pc := 95) X dX4_count_95 3 rfl (nI_1 j) rfl rfl ?_
            refine g_goto (pc := 98) (tgt := 73) X dX4_count_98 (by decide) ?_
            refine g_lv X (lv' := [(0, .ref (ay 0)), (1, .int (w)), (2, .int (nI (cnt (fun t => decide (kOt k t ≠ -9)) (j + 1)))), (3, .int (nI (j + 1)))]) [1, 2, 3, 0] rfl ?_
            exact ih73 (j + 1) c78 (by have := hw.2.2.2.2.2.1; omega)
          · refine g_iinc (v := nI (cnt (fun t => decide (kOt k t ≠ -9)) (j + 1))) (lv' := [(2, .int (nI (cnt (fun t => decide (kOt k t ≠ -9)) (j + 1)))), (0, .ref (ay 0)), (1, .int (w)), (3, .int (nI j))]) (pc := 92) X dX4_count_92 2 rfl (by rw [cnt, if_pos (decide_eq_true c89)]; exact nI_1 _) rfl rfl ?_
            refine g_iinc (v := nI (j + 1)) (lv' := [(3, .int (nI (j + 1))), (2, .int (nI (cnt (fun t => decide (kOt k t ≠ -9)) (j + 1)))), (0, .ref (ay 0)), (1, .int (w))]) (pc := 95) X dX4_count_95 3 rfl (nI_1 j) rfl rfl ?_
            refine g_goto (pc := 98) (tgt := 73) X dX4_count_98 (by decide) ?_
            refine g_lv X (lv' := [(0, .ref (ay 0)), (1, .int (w)), (2, .int (nI (cnt (fun t => decide (kOt k t ≠ -9)) (j + 1)))), (3, .int (nI (j + 1)))]) [2, 3, 1, 0] rfl ?_
            exact ih73 (j + 1) c78 (by have := hw.2.2.2.2.2.1; omega)
    refine g_lv X (lv' := [(0, .ref (ay 0)), (1, .int (w)), (2, .int (0)), (3, .int (0))]) [2, 3, 1, 0] rfl ?_
    exact L73_1 (9 - 0 + 1) 0 (Nat.zero_le _) (Nat.lt_succ_self _)
  by_cases e3_5 : w = (5 : Int32)
  · refine g_top X e3_5 ?_
    refine g_tableIn (pc := 3) (off := 100) (tgt := 103) X dX4_count_3 (by decide) (by decide) (by decide) (by decide) ?_
    refine g_aload_n (pc := 103) X dX4_count_103 1 rfl ?_
    refine g_get (pc := 104) X (v := .int (nI (kNs k))) fl_X4_162 dX4_count_104 0 0 rfl rfl rfl ?_
    exact g_iret (pc := 107) X rfl dX4_count_107 rfl (by first | (simp [cnA, *]; done) | (by_cases h1 : w < 11; (simp [cnA, *]); (have h2 : 16 < w := Int32.not_le.mp (fun h => qc ⟨Int32.not_lt.mp h1, h⟩); simp [cnA, *])) | done) rfl
  by_cases e3_6 : w = (6 : Int32)
  · refine g_top X e3_6 ?_
    refine g_tableIn (pc := 3) (off := 105) (tgt := 108) X dX4_count_3 (by decide) (by decide) (by decide) (by decide) ?_
    refine g_aload_n (pc := 108) X dX4_count_108 1 rfl ?_
    refine g_get (pc := 109) X (v := .int (nI (mIr v))) fl_X4_181 dX4_count_109 0 0 rfl rfl rfl ?_
    exact g_iret (pc := 112) X rfl dX4_count_112 rfl (by first | (simp [cnA, *]; done) | (by_cases h1 : w < 11; (simp [cnA, *]); (have h2 : 16 < w := Int32.not_le.mp (fun h => qc ⟨Int32.not_lt.mp h1, h⟩); simp [cnA, *])) | done) rfl
  by_cases e3_7 : w = (7 : Int32)
  · refine g_top X e3_7 ?_
    refine g_tableIn (pc := 3) (off := 110) (tgt := 113) X dX4_count_3 (by decide) (by decide) (by decide) (by decide) ?_
    refine g_aload_n (pc := 113) X dX4_count_113 1 rfl ?_
    refine g_get (pc := 114) X (v := .int (nI (mN v))) fl_X4_67 dX4_count_114 0 0 rfl rfl rfl ?_
    exact g_iret (pc := 117) X rfl dX4_count_117 rfl (by first | (simp [cnA, *]; done) | (by_cases h1 : w < 11; (simp [cnA, *]); (have h2 : 16 < w := Int32.not_le.mp (fun h => qc ⟨Int32.not_lt.mp h1, h⟩); simp [cnA, *])) | done) rfl
  have f3_0 := lv_neT (a := 0) e3_0 (by decide)
  have f3_1 := lv_neT (a := 1) e3_1 (by decide)
  have f3_2 := lv_neT (a := 2) e3_2 (by decide)
  have f3_3 := lv_neT (a := 3) e3_3 (by decide)
  have f3_4 := lv_neT (a := 4) e3_4 (by decide)
  have f3_5 := lv_neT (a := 5) e3_5 (by decide)
  have f3_6 := lv_neT (a := 6) e3_6 (by decide)
  have f3_7 := lv_neT (a := 7) e3_7 (by decide)
  refine g_tableOut (pc := 3) (tgt := 118) X dX4_count_3 (by omega) (by decide) ?_
  refine g_iload_n (pc := 118) X dX4_count_118 2 rfl ?_
  refine g_bipush (v := 11) (pc := 119) X dX4_count_119 (by decide) ?_
  refine g_bipush (v := 16) (pc := 121) X dX4_count_121 (by decide) ?_
  refine g_callS (pc := 123) (rest := []) X (c_X4_within l D cy w 11 16 ) sl_X4_56 dX4_count_123 rfl rfl rfl rfl rfl ⟨Nat.zero_le _, Nat.zero_le _⟩ ?_
  refine g_bif_eq (pc := 126) (tgt := 141) X dX4_count_126 (by decide) (fun c126 => ?_) (fun c126 => ?_)
  · have qc : ¬ (11 ≤ w ∧ w ≤ 16) := of_decide_eq_false c126
    refine g_bipush (v := (-9)) (pc := 141) X dX4_count_141 (by decide) ?_
    exact g_iret (pc := 143) X rfl dX4_count_143 rfl (by first | (simp [cnA, *]; done) | (by_cases h1 : w < 11; (simp [cnA, *]); (have h2 : 16 < w := Int32.not_le.mp (fun h => qc ⟨Int32.not_lt.mp h1, h⟩); simp [cnA, *])) | done) rfl
  · have q9 : 11 ≤ w ∧ w ≤ 16 := of_decide_eq_true c126
    have qa := Int32.not_lt.mpr q9.1
    have qb := Int32.not_lt.mpr q9.2
    refine g_aload_n (pc := 129) X dX4_count_129 1 rfl ?_
    refine g_get (pc := 130) X (v := .ref (ay 10)) fl_X4_37 dX4_count_130 0 0 rfl rfl rfl ?_
    refine g_iload_n (pc := 133) X dX4_count_133 2 rfl ?_
    refine g_bipush (v := 10) (pc := 134) X dX4_count_134 (by decide) ?_
    refine g_isub (v := w - 10) (pc := 136) X dX4_count_136 rfl ?_
    refine g_iald (pc := 137) (f := mRf v) X 0 10 dX4_count_137 rfl rfl (cn_in q9.1 q9.2) ?_
    refine g_goto (pc := 138) (tgt := 143) X dX4_count_138 (by decide) ?_
    exact g_iret (pc := 143) X rfl dX4_count_143 rfl (by first | (simp [cnA, *]; done) | (by_cases h1 : w < 11; (simp [cnA, *]); (have h2 : 16 < w := Int32.not_le.mp (fun h => qc ⟨Int32.not_lt.mp h1, h⟩); simp [cnA, *])) | done) rfl
set_option maxRecDepth 100000 in
set_option maxHeartbeats 4000000 in
theorem c_X4_feast (l : Launch) (D : va_G) (cy : ClassId) (ay : Nat → Nat) (k : KV) (v : MV) (room : Int32) (w : Int32) (hw : KW k) : CtIE l yX4_feast cX4_feast 6 .int 6 203 D cy [.ref (ay 0), .int (room), .int (w)] [wM cy ay k v] (fun (u_ : (Nat → Int32) × (Nat → Int32) × (Nat → Int32)) => [wM cy ay k (uOd (uSn (uAh (uRf v (rfB (feO k room w) (mRf v) (feA k room w))) u_.2.1) u_.1) u_.2.2)]) (feA k room w) := by
  have h8 := hw.2.2.2.2.2.1
  have ho := hw.2.2.2.2.1
  refine ctIE_of (by decide +kernel) (Nat.le_of_ble_eq_true rfl) (fun p_ e_ s_ m_ args_ below_ meth_ c_ A_ X => ?_)
  refine g_lv X (lv' := [(0, .ref (ay 0)), (1, .int (room)), (2, .int (w))]) [0, 1, 2] rfl ?_
  refine g_iload_n (pc := 0) X dX4_feast_0 1 rfl ?_
  refine g_callS (pc := 1) (rest := []) X (c_X4_isRoom l D cy room ) sl_X4_105 dX4_feast_1 rfl rfl rfl rfl rfl ⟨Nat.zero_le _, Nat.zero_le _⟩ ?_
  refine g_bif_ne (pc := 4) (tgt := 13) X dX4_feast_4 (by decide) (fun c4 => ?_) (fun c4 => ?_)
  · have r4 := c4
    obtain ⟨rm, h6, rfl⟩ := isRm_t c4
    refine g_iload_n (pc := 13) X dX4_feast_13 2 rfl ?_
    refine g_iconst (v := 0) (pc := 14) X dX4_feast_14 (by decide) ?_
    refine g_iconst (v := 1) (pc := 15) X dX4_feast_15 (by decide) ?_
    refine g_callS (pc := 16) (rest := []) X (c_X4_within l D cy w 0 1 ) sl_X4_56 dX4_feast_16 rfl rfl rfl rfl rfl ⟨Nat.zero_le _, Nat.zero_le _⟩ ?_
    refine g_bif_ne (pc := 19) (tgt := 29) X dX4_feast_19 (by decide) (fun c19 => ?_) (fun c19 => ?_)
    · have w3 := wi_1 c19
      refine g_aload_n (pc := 29) X dX4_feast_29 0 rfl ?_
      refine g_get (pc := 30) X (v := .int (nI (kNt k))) fl_X4_52 dX4_feast_30 0 0 rfl rfl rfl ?_
      refine g_bipush (v := 8) (pc := 33) X dX4_feast_33 (by decide) ?_
      refine g_ncmp_ne (pc := 35) (tgt := 45) X dX4_feast_35 (by decide) (kNt k) 8 rfl rfl (by omega) (by decide) (fun c35 => ?_) (fun c35 => ?_)
      · have h7 : kNt k ≤ 7 := by omega
        have hc1 : 2 ^ kNt k ≤ 128 := Nat.pow_le_pow_right (n := 2) (by omega) h7
        have hp0 : 0 < 2 ^ kNt k := Nat.two_pow_pos _
        refine g_aload_n (pc := 45) X dX4_feast_45 0 rfl ?_
        refine g_aload_n (pc := 46) X dX4_feast_46 0 rfl ?_
        refine g_get (pc := 47) X (v := .ref (ay 12)) fl_X4_43 dX4_feast_47 0 0 rfl rfl rfl ?_
        refine g_callVv (pc := 50) (rest := []) (ss' := [wM cy ay k (uAh v (imF k))]) X (c_X4_keeph l D cy ay k v ) vl_X4_122 dX4_feast_50 [0] 0 0 rfl rfl rfl rfl rfl rfl (ads_c (ads_M _ _ _ _ _ _) rfl) rfl rfl rfl rfl rfl rfl ⟨Nat.zero_le _, Nat.zero_le _⟩ ?_
        refine g_aload_n (pc := 53) X dX4_feast_53 0 rfl ?_
        refine g_callV (pc := 54) (rest := []) (ss' := [wM cy ay k (uAh v (imF k))]) X (c_X4_all l D cy ay k (uAh v (imF k)) ) vl_X4_175 dX4_feast_54 [0] 0 0 rfl rfl rfl rfl rfl rfl rfl rfl rfl rfl rfl rfl rfl ⟨Nat.zero_le _, Nat.zero_le _⟩ ?_
        refine g_top X (x := allT k) (y := nI (2 ^ kNt k) + (-1)) (by rw [allT_n h8]; obtain ⟨M1, hM1⟩ : ∃ M1, 2 ^ kNt k = M1 + 1 := ⟨2 ^ kNt k - 1, by omega⟩; rw [hM1, pk_m1]; rfl) ?_
        refine g_istore_n (lv' := [(3, .int (nI (2 ^ kNt k) + (-1))), (0, .ref (ay 0)), (1, .int (nI rm)), (2, .int (w))]) (pc := 57) X dX4_feast_57 rfl rfl rfl ?_
        have L58_1 : ∀ (fu_ : Nat) (e : Nat) (od2 : Nat → Int32) (o : Nat → Int32) (sn : Nat → Int32) (he : e ≤ 2 ^ kNt k) (ho3 : ∀ t, kNt k ≤ t → o t = kRo k t) (htab : ∀ c, e ≤ c → c < 2 ^ kNt k → od2 c = oT k (nI rm) (2 ^ kNt k - e) c) (hm : e < fu_), G p_ l e_ { frames := 6, cells := 0, slots := 0, locals := 203 } s_ m_ args_ below_ meth_ c_ 6 D A_ 0 0 (QIE below_ args_ s_ D A_ (fun (u_ : (Nat → Int32) × (Nat → Int32) × (Nat → Int32)) => [wM cy ay k (uOd (uSn (uAh (uRf v (rfB (feO k (nI rm) w) (mRf v) (feA k (nI rm) w))) u_.2.1) u_.1) u_.2.2)]) (feA k (nI rm) w)) [wM cy ay (sRo k o) (uOd (uSn (uAh v (imF k)) sn) od2)] 58 [(0, .ref (ay 0)), (1, .int (nI rm)), (2, .int (w)), (3, .int (nI e + (-1)))] [] := by
          intro fu_
          induction fu_ with
          | zero => intro e od2 o sn he ho3 htab hm; exact absurd hm (Nat.not_lt_zero _)
          | succ fu_ ih =>
            intro e od2 o sn he ho3 htab hm
            have ih58 := ih
            clear ih
            refine g_iload_n (pc := 58) X dX4_feast_58 3 rfl ?_
            refine g_if_lt (pc := 59) (tgt := 197) X dX4_feast_59 (by decide) (fun c59 => ?_) (fun c59 => ?_)
            · have e0 : e = 0 := by
                cases e with
                | zero => rfl
                | succ e1 => exact absurd c59 (by rw [pk_m1]; exact nI_pos (by omega))
              subst e0
              have hall : ∀ c, c < 2 ^ kNt k → od2 c = oT k (nI rm) (2 ^ kNt k) c := fun c hc => htab c (Nat.zero_le c) hc
              have hv := fcV_cong hall
              have h00 := hall 0 hp0
              refine g_aload_n (pc := 197) X dX4_feast_197 0 rfl ?_
              refine g_aload_n (pc := 198) X dX4_feast_198 0 rfl ?_
              refine g_get (pc := 199) X (v := .ref (ay 12)) fl_X4_43 dX4_feast_199 0 0 rfl rfl rfl ?_
              refine g_callVv (pc := 202) (rest := []) (ss' := [wM cy ay k (uOd (uSn (uAh v (imF k)) sn) od2)]) X (c_X4_againh l D cy ay (sRo k o) (uOd (uSn (uAh v (imF k)) sn) od2) k (fun _ _ => rfl)) vl_X4_126 dX4_feast_202 [0] 0 0 rfl rfl rfl rfl rfl rfl (ads_c (ads_M _ _ _ _ _ _) rfl) rfl rfl rfl rfl rfl rfl ⟨Nat.zero_le _, Nat.zero_le _⟩ ?_
              refine g_iload_n (pc := 205) X dX4_feast_205 2 rfl ?_
              refine g_if_ne (pc := 206) (tgt := 216) X dX4_feast_206 (by decide) (fun c206 => ?_) (fun c206 => ?_)
              · refine g_iconst (v := 0) (pc := 216) X dX4_feast_216 (by decide) ?_
                refine g_istore_n (lv' := [(3, .int (0)), (0, .ref (ay 0)), (1, .int (nI rm)), (2, .int (w))]) (pc := 217) X dX4_feast_217 rfl rfl rfl ?_
                have L218_2 : ∀ (fu_ : Nat) (t : Nat) (ht : t ≤ kNt k) (hq5 : fcV od2 (kNt k) = if 0 < od2 0 then fnd (fun t => decide (0 < od2 (2 ^ t))) nI (kNt k - t) t else -9) (hm : 8 - t < fu_), G p_ l e_ { frames := 6, cells := 0, slots := 0, locals := 203 } s_ m_ args_ below_ meth_ c_ 6 D A_ 0 0 (QIE below_ args_ s_ D A_ (fun (u_ : (Nat → Int32) × (Nat → Int32) × (Nat → Int32)) => [wM cy ay k (uOd (uSn (uAh (uRf v (rfB (feO k (nI rm) w) (mRf v) (feA k (nI rm) w))) u_.2.1) u_.1) u_.2.2)]) (feA k (nI rm) w)) [wM cy ay k (uOd (uSn (uAh v (imF k)) sn) od2)] 218 [(0, .ref (ay 0)), (1, .int (nI rm)), (2, .int (w)), (3, .int (nI t))] [] := by
                  intro fu_
                  induction fu_ with
                  | zero => intro t ht hq5 hm; exact absurd hm (Nat.not_lt_zero _)
                  | succ fu_ ih =>
                    intro t ht hq5 hm
                    have ih218 := ih
                    clear ih
                    refine g_iload_n (pc := 218) X dX4_feast_218 3 rfl ?_
                    refine g_aload_n (pc := 219) X dX4_feast_219 0 rfl ?_
                    refine g_get (pc := 220) X (v := .int (nI (kNt k))) fl_X4_52 dX4_feast_220 0 0 rfl rfl rfl ?_
                    refine g_ncmp_ge (pc := 223) (tgt := 254) X dX4_feast_223 (by decide) t (kNt k) rfl rfl (by omega) (by omega) (fun c223 => ?_) (fun c223 => ?_)
                    · have n223 := Nat.not_lt.mpr c223
                      have hq6 : fcV od2 (kNt k) = -9 := by rw [hq5, show kNt k - t = 0 by omega]; split <;> rfl
                      refine g_bipush (v := (-9)) (pc := 254) X dX4_feast_254 (by decide) ?_
                      exact g_iretE (pc := 256) X (sn, imF k, od2) rfl dX4_feast_256 rfl (by rw [feA, if_pos r4, if_pos (show moB w = true by rw [w3.resolve_left c206]; rfl), if_pos h7, if_neg c206, ← hv, hq6]) (by first | (rcases w3 with w3 | w3 <;> (simp [feA, feO, moB, rfB, *]; done)) | first | (simp [feA, feO, moB, rfB, *]; done) | (simp [feA, feO, moB, rfB, *]; rfl))
                    · refine g_aload_n (pc := 226) X dX4_feast_226 0 rfl ?_
                      refine g_get (pc := 227) X (v := .ref (ay 14)) fl_X4_49 dX4_feast_227 0 0 rfl rfl rfl ?_
                      refine g_iconst (v := 0) (pc := 230) X dX4_feast_230 (by decide) ?_
                      refine g_iald_n (pc := 231) (f := od2) X 0 14 dX4_feast_231 0 rfl rfl rfl (by omega) rfl ?_
                      refine g_if_le (pc := 232) (tgt := 254) X dX4_feast_232 (by decide) (fun c232 => ?_) (fun c232 => ?_)
                      · have n232 := Int32.not_lt.mpr c232
                        have hq6 : fcV od2 (kNt k) = -9 := by rw [hq5, if_neg n232]
                        refine g_bipush (v := (-9)) (pc := 254) X dX4_feast_254 (by decide) ?_
                        exact g_iretE (pc := 256) X (sn, imF k, od2) rfl dX4_feast_256 rfl (by rw [feA, if_pos r4, if_pos (show moB w = true by rw [w3.resolve_left c206]; rfl), if_pos h7, if_neg c206, ← hv, hq6]) (by first | (rcases w3 with w3 | w3 <;> (simp [feA, feO, moB, rfB, *]; done)) | first | (simp [feA, feO, moB, rfB, *]; done) | (simp [feA, feO, moB, rfB, *]; rfl))
                      · refine g_aload_n (pc := 235) X dX4_feast_235 0 rfl ?_
                        refine g_get (pc := 236) X (v := .ref (ay 14)) fl_X4_49 dX4_feast_236 0 0 rfl rfl rfl ?_
                        refine g_iconst (v := 1) (pc := 239) X dX4_feast_239 (by decide) ?_
                        refine g_iload_n (pc := 240) X dX4_feast_240 3 rfl ?_
                        refine g_ishl (v := nI (2 ^ t)) (pc := 241) X dX4_feast_241 (shl1_n t (by omega)) ?_
                        refine g_iald_n (pc := 242) (f := od2) X 0 14 dX4_feast_242 (2 ^ t) rfl rfl rfl (by have := Nat.pow_lt_pow_right (a := 2) (by omega) c223; omega) rfl ?_
                        refine g_if_le (pc := 243) (tgt := 248) X dX4_feast_243 (by decide) (fun c243 => ?_) (fun c243 => ?_)
                        · have n243 := Int32.not_lt.mpr c243
                          have hq7 : fcV od2 (kNt k) = if 0 < od2 0 then fnd (fun t => decide (0 < od2 (2 ^ t))) nI (kNt k - (t + 1)) (t + 1) else -9 := by rw [hq5, if_pos c232, if_pos c232, show kNt k - t = (kNt k - (t + 1)) + 1 by omega, fnd, if_neg (by simp [n243])]
                          refine g_iinc (v := nI (t + 1)) (lv' := [(3, .int (nI (t + 1))), (0, .ref (ay 0)), (1, .int (nI rm)), (2, .int (w))]) (pc := 248) X dX4_feast_248 3 rfl (nI_1 t) rfl rfl ?_
                          refine g_goto (pc := 251) (tgt := 218) X dX4_feast_251 (by decide) ?_
                          refine g_lv X (lv' := [(0, .ref (ay 0)), (1, .int (nI rm)), (2, .int (w)), (3, .int (nI (t + 1)))]) [1, 2, 3, 0] rfl ?_
                          exact ih218 (t + 1) c223 hq7 (by omega)
                        · have hq6 : fcV od2 (kNt k) = nI t := by rw [hq5, if_pos c232, show kNt k - t = (kNt k - (t + 1)) + 1 by omega, fnd, if_pos (decide_eq_true c243)]
                          refine g_iload_n (pc := 246) X dX4_feast_246 3 rfl ?_
                          exact g_iretE (pc := 247) X (sn, imF k, od2) rfl dX4_feast_247 rfl (by rw [feA, if_pos r4, if_pos (show moB w = true by rw [w3.resolve_left c206]; rfl), if_pos h7, if_neg c206, ← hv, hq6]) (by first | (rcases w3 with w3 | w3 <;> (simp [feA, feO, moB, rfB, *]; done)) | first | (simp [feA, feO, moB, rfB, *]; done) | (simp [feA, feO, moB, rfB, *]; rfl))
                refine g_lv X (lv' := [(0, .ref (ay 0)), (1, .int (nI rm)), (2, .int (w)), (3, .int (0))]) [1, 2, 3, 0] rfl ?_
                exact L218_2 (8 - 0 + 1) 0 (Nat.zero_le _) rfl (Nat.lt_succ_self _)
              · refine g_aload_n (pc := 209) X dX4_feast_209 0 rfl ?_
                refine g_get (pc := 210) X (v := .ref (ay 14)) fl_X4_49 dX4_feast_210 0 0 rfl rfl rfl ?_
                refine g_iconst (v := 0) (pc := 213) X dX4_feast_213 (by decide) ?_
                refine g_iald_n (pc := 214) (f := od2) X 0 14 dX4_feast_214 0 rfl rfl rfl (by omega) rfl ?_
                exact g_iretE (pc := 215) X (sn, imF k, od2) rfl dX4_feast_215 rfl (by rw [feA, if_pos r4, if_pos (show moB w = true by rw [c206]; rfl), if_pos h7, if_pos c206, h00]) (by first | (rcases w3 with w3 | w3 <;> (simp [feA, feO, moB, rfB, *]; done)) | first | (simp [feA, feO, moB, rfB, *]; done) | (simp [feA, feO, moB, rfB, *]; rfl))
            · have n59 := Int32.not_lt.mpr c59
              obtain ⟨e1, rfl⟩ : ∃ e1, e = e1 + 1 := ⟨e - 1, by have : e ≠ 0 := fun q_ => absurd c59 (by rw [q_]; decide); omega⟩
              rw [pk_m1]
              refine g_iconst (v := 0) (pc := 62) X dX4_feast_62 (by decide) ?_
              refine g_istore (lv' := [(4, .int (0)), (0, .ref (ay 0)), (1, .int (nI rm)), (2, .int (w)), (3, .int (nI e1))]) (pc := 63) X dX4_feast_63 rfl rfl ?_
              have L65_3 : ∀ (fu_ : Nat) (t : Nat) (o2 : Nat → Int32) (ht : t ≤ kNt k) (h1 : ∀ u, u < t → o2 u = roF k (nI rm) e1 u) (h2 : ∀ u, kNt k ≤ u → o2 u = kRo k u) (hm : 8 - t < fu_), G p_ l e_ { frames := 6, cells := 0, slots := 0, locals := 203 } s_ m_ args_ below_ meth_ c_ 6 D A_ 0 0 (QIE below_ args_ s_ D A_ (fun (u_ : (Nat → Int32) × (Nat → Int32) × (Nat → Int32)) => [wM cy ay k (uOd (uSn (uAh (uRf v (rfB (feO k (nI rm) w) (mRf v) (feA k (nI rm) w))) u_.2.1) u_.1) u_.2.2)]) (feA k (nI rm) w)) [wM cy ay (sRo k o2) (uOd (uSn (uAh v (imF k)) sn) od2)] 65 [(0, .ref (ay 0)), (1, .int (nI rm)), (2, .int (w)), (3, .int (nI e1)), (4, .int (nI t))] [] := by
                intro fu_
                induction fu_ with
                | zero => intro t o2 ht h1 h2 hm; exact absurd hm (Nat.not_lt_zero _)
                | succ fu_ ih =>
                  intro t o2 ht h1 h2 hm
                  have ih65 := ih
                  clear ih
                  refine g_iload (pc := 65) X dX4_feast_65 4 rfl ?_
                  refine g_aload_n (pc := 67) X dX4_feast_67 0 rfl ?_
                  refine g_get (pc := 68) X (v := .int (nI (kNt k))) fl_X4_52 dX4_feast_68 0 0 rfl rfl rfl ?_
                  refine g_ncmp_ge (pc := 71) (tgt := 110) X dX4_feast_71 (by decide) t (kNt k) rfl rfl (by omega) (by omega) (fun c71 => ?_) (fun c71 => ?_)
                  · have n71 := Nat.not_lt.mpr c71
                    have e9 : o2 = roF k (nI rm) e1 := ro_end (fun u hu => h1 u (by omega)) h2
                    refine g_eq X (ss' := [wM cy ay (sRo k (roF k (nI rm) e1)) (uOd (uSn (uAh v (imF k)) sn) od2)]) (by rw [e9]) ?_
                    refine g_iload_n (pc := 110) X dX4_feast_110 3 rfl ?_
                    refine g_aload_n (pc := 111) X dX4_feast_111 0 rfl ?_
                    refine g_callV (pc := 112) (rest := [.int (nI e1)]) (ss' := [wM cy ay (sRo k (roF k (nI rm) e1)) (uOd (uSn (uAh v (imF k)) sn) od2)]) X (c_X4_all l D cy ay (sRo k (roF k (nI rm) e1)) (uOd (uSn (uAh v (imF k)) sn) od2) ) vl_X4_175 dX4_feast_112 [0] 0 0 rfl rfl rfl rfl rfl rfl rfl rfl rfl rfl rfl rfl rfl ⟨Nat.zero_le _, Nat.zero_le _⟩ ?_
                    refine g_top X (allT_n h8) ?_
                    refine g_ncmp_ne (pc := 115) (tgt := 122) X dX4_feast_115 (by decide) e1 (2 ^ kNt k - 1) rfl rfl (by omega) (by omega) (fun c115 => ?_) (fun c115 => ?_)
                    · have hz : (0 : Int32) = (if e1 = 2 ^ kNt k - 1 then 1 else 0) := (if_neg c115).symm
                      refine g_iconst (v := 0) (pc := 122) X dX4_feast_122 (by decide) ?_
                      refine g_istore (lv' := [(4, .int (0)), (0, .ref (ay 0)), (1, .int (nI rm)), (2, .int (w)), (3, .int (nI e1))]) (pc := 123) X dX4_feast_123 rfl rfl ?_
                      refine g_iconst (v := 0) (pc := 125) X dX4_feast_125 (by decide) ?_
                      refine g_istore (lv' := [(5, .int (0)), (4, .int (0)), (0, .ref (ay 0)), (1, .int (nI rm)), (2, .int (w)), (3, .int (nI e1))]) (pc := 126) X dX4_feast_126 rfl rfl ?_
                      have L128_4 : ∀ (fu_ : Nat) (q : Nat) (y : Int32) (hq : q ≤ kNt k) (hy : y = (if e1 = 2 ^ kNt k - 1 then 1 else 0) + smN od2 e1 q) (hm : 8 - q < fu_), G p_ l e_ { frames := 6, cells := 0, slots := 0, locals := 203 } s_ m_ args_ below_ meth_ c_ 6 D A_ 0 0 (QIE below_ args_ s_ D A_ (fun (u_ : (Nat → Int32) × (Nat → Int32) × (Nat → Int32)) => [wM cy ay k (uOd (uSn (uAh (uRf v (rfB (feO k (nI rm) w) (mRf v) (feA k (nI rm) w))) u_.2.1) u_.1) u_.2.2)]) (feA k (nI rm) w)) [wM cy ay (sRo k (roF k (nI rm) e1)) (uOd (uSn (uAh v (imF k)) sn) od2)] 128 [(0, .ref (ay 0)), (1, .int (nI rm)), (2, .int (w)), (3, .int (nI e1)), (4, .int (y)), (5, .int (nI q))] [] := by
                        intro fu_
                        induction fu_ with
                        | zero => intro q y hq hy hm; exact absurd hm (Nat.not_lt_zero _)
                        | succ fu_ ih =>
                          intro q y hq hy hm
                          have ih128 := ih
                          clear ih
                          refine g_iload (pc := 128) X dX4_feast_128 5 rfl ?_
                          refine g_aload_n (pc := 130) X dX4_feast_130 0 rfl ?_
                          refine g_get (pc := 131) X (v := .int (nI (kNt k))) fl_X4_52 dX4_feast_131 0 0 rfl rfl rfl ?_
                          refine g_ncmp_ge (pc := 134) (tgt := 168) X dX4_feast_134 (by decide) q (kNt k) rfl rfl (by omega) (by omega) (fun c134 => ?_) (fun c134 => ?_)
                          · have n134 := Nat.not_lt.mpr c134
                            have hyE : y = (if e1 = 2 ^ kNt k - 1 then 1 else 0) + smN od2 e1 (kNt k) := by rw [hy, show q = kNt k by omega]
                            refine g_aload_n (pc := 168) X dX4_feast_168 0 rfl ?_
                            refine g_get (pc := 169) X (v := .ref (ay 14)) fl_X4_49 dX4_feast_169 0 0 rfl rfl rfl ?_
                            refine g_iload_n (pc := 172) X dX4_feast_172 3 rfl ?_
                            refine g_aload_n (pc := 173) X dX4_feast_173 0 rfl ?_
                            refine g_aload_n (pc := 174) X dX4_feast_174 0 rfl ?_
                            refine g_get (pc := 175) X (v := .int (nI (kHr k))) fl_X4_95 dX4_feast_175 0 0 rfl rfl rfl ?_
                            refine g_callVE (pc := 178) (rest := [.int (nI e1), .ref (ay 14)]) (ss' := fun (u_ : (Nat → Int32)) => [wM cy ay (sRo k (roF k (nI rm) e1)) (uOd (uSn (uAh v (imF k)) u_) od2)]) X (c_X4_sinsIn l D cy ay (sRo k (roF k (nI rm) e1)) (uOd (uSn (uAh v (imF k)) sn) od2) (kHr k) hw.2.2.2.2.2.1 hw.1.1 hw.2.2.2.2.1 hw.2.2.2.2.2.2.1) vl_X4_146 dX4_feast_178 [0] 0 0 rfl rfl rfl rfl rfl rfl (fun _ => (ads_c (ads_M _ _ _ _ _ _) rfl)) (fun _ => rfl) rfl rfl rfl rfl rfl ⟨Nat.zero_le _, Nat.zero_le _⟩ ?_
                            rintro xs_178_1
                            refine g_eq X (ss' := [wM cy ay (sRo k (roF k (nI rm) e1)) (uOd (uSn (uAh v (imF k)) xs_178_1) od2)]) rfl ?_
                            have hlt := si_lt (k := sRo k (roF k (nI rm) e1)) (h := kHr k) ho h8
                            refine g_nif_le (pc := 181) (tgt := 188) X dX4_feast_181 (by decide) (siN (sRo k (roF k (nI rm) e1)) (kHr k)) rfl (by omega) (fun c181 => ?_) (fun c181 => ?_)
                            · refine g_iload (pc := 188) X dX4_feast_188 4 rfl ?_
                              refine g_top X (x := y) (y := obV k (nI rm) od2 e1) (by first | exact ob_0 ((si_p (k := sRo k (roF k (nI rm) e1)) ho h8).mp c181) | exact ob_1 h8 ((si_0 (k := sRo k (roF k (nI rm) e1)) ho h8).mp c181) hyE) ?_
                              refine g_iast_n (pc := 190) X (ss' := [wM cy ay (sRo k (roF k (nI rm) e1)) (uOd (uSn (uAh v (imF k)) xs_178_1) (upd od2 e1 (obV k (nI rm) od2 e1)))]) 0 14 dX4_feast_190 e1 rfl rfl rfl (by omega) rfl rfl ?_
                              refine g_iinc (v := nI e1 + (-1)) (lv' := [(3, .int (nI e1 + (-1))), (0, .ref (ay 0)), (1, .int (nI rm)), (2, .int (w)), (4, .int (y)), (5, .int (nI q))]) (pc := 191) X dX4_feast_191 3 rfl rfl rfl rfl ?_
                              refine g_goto (pc := 194) (tgt := 58) X dX4_feast_194 (by decide) ?_
                              refine g_lv X (lv' := [(0, .ref (ay 0)), (1, .int (nI rm)), (2, .int (w)), (3, .int (nI e1 + (-1)))]) [1, 2, 3, 0] rfl ?_
                              exact ih58 e1 (upd od2 e1 (obV k (nI rm) od2 e1)) (roF k (nI rm) e1) xs_178_1 (by omega) (fun t h => by rw [roF, if_neg (fun q => absurd q.1 (by omega))]) (oT_step (by omega) htab) (by omega)
                            · refine g_iconst (v := 0) (pc := 184) X dX4_feast_184 (by decide) ?_
                              refine g_goto (pc := 185) (tgt := 190) X dX4_feast_185 (by decide) ?_
                              refine g_top X (x := 0) (y := obV k (nI rm) od2 e1) (by first | exact ob_0 ((si_p (k := sRo k (roF k (nI rm) e1)) ho h8).mp c181) | exact ob_1 h8 ((si_0 (k := sRo k (roF k (nI rm) e1)) ho h8).mp c181) hyE) ?_
                              refine g_iast_n (pc := 190) X (ss' := [wM cy ay (sRo k (roF k (nI rm) e1)) (uOd (uSn (uAh v (imF k)) xs_178_1) (upd od2 e1 (obV k (nI rm) od2 e1)))]) 0 14 dX4_feast_190 e1 rfl rfl rfl (by omega) rfl rfl ?_
                              refine g_iinc (v := nI e1 + (-1)) (lv' := [(3, .int (nI e1 + (-1))), (0, .ref (ay 0)), (1, .int (nI rm)), (2, .int (w)), (4, .int (y)), (5, .int (nI q))]) (pc := 191) X dX4_feast_191 3 rfl rfl rfl rfl ?_
                              refine g_goto (pc := 194) (tgt := 58) X dX4_feast_194 (by decide) ?_
                              refine g_lv X (lv' := [(0, .ref (ay 0)), (1, .int (nI rm)), (2, .int (w)), (3, .int (nI e1 + (-1)))]) [1, 2, 3, 0] rfl ?_
                              exact ih58 e1 (upd od2 e1 (obV k (nI rm) od2 e1)) (roF k (nI rm) e1) xs_178_1 (by omega) (fun t h => by rw [roF, if_neg (fun q => absurd q.1 (by omega))]) (oT_step (by omega) htab) (by omega)
                          · refine g_iload_n (pc := 137) X dX4_feast_137 3 rfl ?_
                            refine g_iload (pc := 138) X dX4_feast_138 5 rfl ?_
                            refine g_callS (pc := 140) (rest := []) X (c_X4_has l D cy (nI e1) (nI q) ) sl_X4_129 dX4_feast_140 rfl rfl rfl rfl rfl ⟨Nat.zero_le _, Nat.zero_le _⟩ ?_
                            refine g_bif_ne (pc := 143) (tgt := 162) X dX4_feast_143 (by decide) (fun c143 => ?_) (fun c143 => ?_)
                            · have hb : e1.testBit q = true := by rw [← btI_n (by omega)]; exact c143
                              have hy2 : y = (if e1 = 2 ^ kNt k - 1 then 1 else 0) + smN od2 e1 (q + 1) := by rw [hy, smN, if_pos hb]
                              refine g_iinc (v := nI (q + 1)) (lv' := [(5, .int (nI (q + 1))), (0, .ref (ay 0)), (1, .int (nI rm)), (2, .int (w)), (3, .int (nI e1)), (4, .int (y))]) (pc := 162) X dX4_feast_162 5 rfl (nI_1 q) rfl rfl ?_
                              refine g_goto (pc := 165) (tgt := 128) X dX4_feast_165 (by decide) ?_
                              refine g_lv X (lv' := [(0, .ref (ay 0)), (1, .int (nI rm)), (2, .int (w)), (3, .int (nI e1)), (4, .int (y)), (5, .int (nI (q + 1)))]) [1, 2, 3, 4, 5, 0] rfl ?_
                              exact ih128 (q + 1) y c134 hy2 (by omega)
                            · have hb : e1.testBit q = false := by rw [← btI_n (by omega)]; exact c143
                              have hy2 : y + od2 (e1 ||| 2 ^ q) = (if e1 = 2 ^ kNt k - 1 then 1 else 0) + smN od2 e1 (q + 1) := by rw [hy, smN, if_neg (show ¬ e1.testBit q = true by rw [hb]; decide), Int32.add_assoc]
                              refine g_iload (pc := 146) X dX4_feast_146 4 rfl ?_
                              refine g_aload_n (pc := 148) X dX4_feast_148 0 rfl ?_
                              refine g_get (pc := 149) X (v := .ref (ay 14)) fl_X4_49 dX4_feast_149 0 0 rfl rfl rfl ?_
                              refine g_iload_n (pc := 152) X dX4_feast_152 3 rfl ?_
                              refine g_iconst (v := 1) (pc := 153) X dX4_feast_153 (by decide) ?_
                              refine g_iload (pc := 154) X dX4_feast_154 5 rfl ?_
                              refine g_ishl (v := nI (2 ^ q)) (pc := 156) X dX4_feast_156 (shl1_n q (by omega)) ?_
                              refine g_ior (v := nI (e1 ||| 2 ^ q)) (pc := 157) X dX4_feast_157 (nx_or e1 (2 ^ q)) ?_
                              refine g_iald_n (pc := 158) (f := od2) X 0 14 dX4_feast_158 (e1 ||| 2 ^ q) rfl rfl rfl (by have := or_lt (show e1 < 2 ^ kNt k by omega) c134; omega) rfl ?_
                              refine g_iadd (v := y + (od2 (e1 ||| 2 ^ q))) (pc := 159) X dX4_feast_159 rfl ?_
                              refine g_istore (lv' := [(4, .int (y + (od2 (e1 ||| 2 ^ q)))), (0, .ref (ay 0)), (1, .int (nI rm)), (2, .int (w)), (3, .int (nI e1)), (5, .int (nI q))]) (pc := 160) X dX4_feast_160 rfl rfl ?_
                              refine g_iinc (v := nI (q + 1)) (lv' := [(5, .int (nI (q + 1))), (4, .int (y + (od2 (e1 ||| 2 ^ q)))), (0, .ref (ay 0)), (1, .int (nI rm)), (2, .int (w)), (3, .int (nI e1))]) (pc := 162) X dX4_feast_162 5 rfl (nI_1 q) rfl rfl ?_
                              refine g_goto (pc := 165) (tgt := 128) X dX4_feast_165 (by decide) ?_
                              refine g_lv X (lv' := [(0, .ref (ay 0)), (1, .int (nI rm)), (2, .int (w)), (3, .int (nI e1)), (4, .int (y + (od2 (e1 ||| 2 ^ q)))), (5, .int (nI (q + 1)))]) [2, 3, 4, 5, 1, 0] rfl ?_
                              exact ih128 (q + 1) (y + (od2 (e1 ||| 2 ^ q))) c134 hy2 (by omega)
                      refine g_lv X (lv' := [(0, .ref (ay 0)), (1, .int (nI rm)), (2, .int (w)), (3, .int (nI e1)), (4, .int (0)), (5, .int (0))]) [2, 3, 4, 5, 1, 0] rfl ?_
                      exact L128_4 (8 - 0 + 1) 0 0 (Nat.zero_le _) (by rw [← hz, smN]; decide) (Nat.lt_succ_self _)
                    · have hz : (1 : Int32) = (if e1 = 2 ^ kNt k - 1 then 1 else 0) := (if_pos c115).symm
                      refine g_iconst (v := 1) (pc := 118) X dX4_feast_118 (by decide) ?_
                      refine g_goto (pc := 119) (tgt := 123) X dX4_feast_119 (by decide) ?_
                      refine g_istore (lv' := [(4, .int (1)), (0, .ref (ay 0)), (1, .int (nI rm)), (2, .int (w)), (3, .int (nI e1))]) (pc := 123) X dX4_feast_123 rfl rfl ?_
                      refine g_iconst (v := 0) (pc := 125) X dX4_feast_125 (by decide) ?_
                      refine g_istore (lv' := [(5, .int (0)), (4, .int (1)), (0, .ref (ay 0)), (1, .int (nI rm)), (2, .int (w)), (3, .int (nI e1))]) (pc := 126) X dX4_feast_126 rfl rfl ?_
                      have L128_5 : ∀ (fu_ : Nat) (q : Nat) (y : Int32) (hq : q ≤ kNt k) (hy : y = (if e1 = 2 ^ kNt k - 1 then 1 else 0) + smN od2 e1 q) (hm : 8 - q < fu_), G p_ l e_ { frames := 6, cells := 0, slots := 0, locals := 203 } s_ m_ args_ below_ meth_ c_ 6 D A_ 0 0 (QIE below_ args_ s_ D A_ (fun (u_ : (Nat → Int32) × (Nat → Int32) × (Nat → Int32)) => [wM cy ay k (uOd (uSn (uAh (uRf v (rfB (feO k (nI rm) w) (mRf v) (feA k (nI rm) w))) u_.2.1) u_.1) u_.2.2)]) (feA k (nI rm) w)) [wM cy ay (sRo k (roF k (nI rm) e1)) (uOd (uSn (uAh v (imF k)) sn) od2)] 128 [(0, .ref (ay 0)), (1, .int (nI rm)), (2, .int (w)), (3, .int (nI e1)), (4, .int (y)), (5, .int (nI q))] [] := by
                        intro fu_
                        induction fu_ with
                        | zero => intro q y hq hy hm; exact absurd hm (Nat.not_lt_zero _)
                        | succ fu_ ih =>
                          intro q y hq hy hm
                          have ih128 := ih
                          clear ih
                          refine g_iload (pc := 128) X dX4_feast_128 5 rfl ?_
                          refine g_aload_n (pc := 130) X dX4_feast_130 0 rfl ?_
                          refine g_get (pc := 131) X (v := .int (nI (kNt k))) fl_X4_52 dX4_feast_131 0 0 rfl rfl rfl ?_
                          refine g_ncmp_ge (pc := 134) (tgt := 168) X dX4_feast_134 (by decide) q (kNt k) rfl rfl (by omega) (by omega) (fun c134 => ?_) (fun c134 => ?_)
                          · have n134 := Nat.not_lt.mpr c134
                            have hyE : y = (if e1 = 2 ^ kNt k - 1 then 1 else 0) + smN od2 e1 (kNt k) := by rw [hy, show q = kNt k by omega]
                            refine g_aload_n (pc := 168) X dX4_feast_168 0 rfl ?_
                            refine g_get (pc := 169) X (v := .ref (ay 14)) fl_X4_49 dX4_feast_169 0 0 rfl rfl rfl ?_
                            refine g_iload_n (pc := 172) X dX4_feast_172 3 rfl ?_
                            refine g_aload_n (pc := 173) X dX4_feast_173 0 rfl ?_
                            refine g_aload_n (pc := 174) X dX4_feast_174 0 rfl ?_
                            refine g_get (pc := 175) X (v := .int (nI (kHr k))) fl_X4_95 dX4_feast_175 0 0 rfl rfl rfl ?_
                            refine g_callVE (pc := 178) (rest := [.int (nI e1), .ref (ay 14)]) (ss' := fun (u_ : (Nat → Int32)) => [wM cy ay (sRo k (roF k (nI rm) e1)) (uOd (uSn (uAh v (imF k)) u_) od2)]) X (c_X4_sinsIn l D cy ay (sRo k (roF k (nI rm) e1)) (uOd (uSn (uAh v (imF k)) sn) od2) (kHr k) hw.2.2.2.2.2.1 hw.1.1 hw.2.2.2.2.1 hw.2.2.2.2.2.2.1) vl_X4_146 dX4_feast_178 [0] 0 0 rfl rfl rfl rfl rfl rfl (fun _ => (ads_c (ads_M _ _ _ _ _ _) rfl)) (fun _ => rfl) rfl rfl rfl rfl rfl ⟨Nat.zero_le _, Nat.zero_le _⟩ ?_
                            rintro xs_178_2
                            refine g_eq X (ss' := [wM cy ay (sRo k (roF k (nI rm) e1)) (uOd (uSn (uAh v (imF k)) xs_178_2) od2)]) rfl ?_
                            have hlt := si_lt (k := sRo k (roF k (nI rm) e1)) (h := kHr k) ho h8
                            refine g_nif_le (pc := 181) (tgt := 188) X dX4_feast_181 (by decide) (siN (sRo k (roF k (nI rm) e1)) (kHr k)) rfl (by omega) (fun c181 => ?_) (fun c181 => ?_)
                            · refine g_iload (pc := 188) X dX4_feast_188 4 rfl ?_
                              refine g_top X (x := y) (y := obV k (nI rm) od2 e1) (by first | exact ob_0 ((si_p (k := sRo k (roF k (nI rm) e1)) ho h8).mp c181) | exact ob_1 h8 ((si_0 (k := sRo k (roF k (nI rm) e1)) ho h8).mp c181) hyE) ?_
                              refine g_iast_n (pc := 190) X (ss' := [wM cy ay (sRo k (roF k (nI rm) e1)) (uOd (uSn (uAh v (imF k)) xs_178_2) (upd od2 e1 (obV k (nI rm) od2 e1)))]) 0 14 dX4_feast_190 e1 rfl rfl rfl (by omega) rfl rfl ?_
                              refine g_iinc (v := nI e1 + (-1)) (lv' := [(3, .int (nI e1 + (-1))), (0, .ref (ay 0)), (1, .int (nI rm)), (2, .int (w)), (4, .int (y)), (5, .int (nI q))]) (pc := 191) X dX4_feast_191 3 rfl rfl rfl rfl ?_
                              refine g_goto (pc := 194) (tgt := 58) X dX4_feast_194 (by decide) ?_
                              refine g_lv X (lv' := [(0, .ref (ay 0)), (1, .int (nI rm)), (2, .int (w)), (3, .int (nI e1 + (-1)))]) [1, 2, 3, 0] rfl ?_
                              exact ih58 e1 (upd od2 e1 (obV k (nI rm) od2 e1)) (roF k (nI rm) e1) xs_178_2 (by omega) (fun t h => by rw [roF, if_neg (fun q => absurd q.1 (by omega))]) (oT_step (by omega) htab) (by omega)
                            · refine g_iconst (v := 0) (pc := 184) X dX4_feast_184 (by decide) ?_
                              refine g_goto (pc := 185) (tgt := 190) X dX4_feast_185 (by decide) ?_
                              refine g_top X (x := 0) (y := obV k (nI rm) od2 e1) (by first | exact ob_0 ((si_p (k := sRo k (roF k (nI rm) e1)) ho h8).mp c181) | exact ob_1 h8 ((si_0 (k := sRo k (roF k (nI rm) e1)) ho h8).mp c181) hyE) ?_
                              refine g_iast_n (pc := 190) X (ss' := [wM cy ay (sRo k (roF k (nI rm) e1)) (uOd (uSn (uAh v (imF k)) xs_178_2) (upd od2 e1 (obV k (nI rm) od2 e1)))]) 0 14 dX4_feast_190 e1 rfl rfl rfl (by omega) rfl rfl ?_
                              refine g_iinc (v := nI e1 + (-1)) (lv' := [(3, .int (nI e1 + (-1))), (0, .ref (ay 0)), (1, .int (nI rm)), (2, .int (w)), (4, .int (y)), (5, .int (nI q))]) (pc := 191) X dX4_feast_191 3 rfl rfl rfl rfl ?_
                              refine g_goto (pc := 194) (tgt := 58) X dX4_feast_194 (by decide) ?_
                              refine g_lv X (lv' := [(0, .ref (ay 0)), (1, .int (nI rm)), (2, .int (w)), (3, .int (nI e1 + (-1)))]) [1, 2, 3, 0] rfl ?_
                              exact ih58 e1 (upd od2 e1 (obV k (nI rm) od2 e1)) (roF k (nI rm) e1) xs_178_2 (by omega) (fun t h => by rw [roF, if_neg (fun q => absurd q.1 (by omega))]) (oT_step (by omega) htab) (by omega)
                          · refine g_iload_n (pc := 137) X dX4_feast_137 3 rfl ?_
                            refine g_iload (pc := 138) X dX4_feast_138 5 rfl ?_
                            refine g_callS (pc := 140) (rest := []) X (c_X4_has l D cy (nI e1) (nI q) ) sl_X4_129 dX4_feast_140 rfl rfl rfl rfl rfl ⟨Nat.zero_le _, Nat.zero_le _⟩ ?_
                            refine g_bif_ne (pc := 143) (tgt := 162) X dX4_feast_143 (by decide) (fun c143 => ?_) (fun c143 => ?_)
                            · have hb : e1.testBit q = true := by rw [← btI_n (by omega)]; exact c143
                              have hy2 : y = (if e1 = 2 ^ kNt k - 1 then 1 else 0) + smN od2 e1 (q + 1) := by rw [hy, smN, if_pos hb]
                              refine g_iinc (v := nI (q + 1)) (lv' := [(5, .int (nI (q + 1))), (0, .ref (ay 0)), (1, .int (nI rm)), (2, .int (w)), (3, .int (nI e1)), (4, .int (y))]) (pc := 162) X dX4_feast_162 5 rfl (nI_1 q) rfl rfl ?_
                              refine g_goto (pc := 165) (tgt := 128) X dX4_feast_165 (by decide) ?_
                              refine g_lv X (lv' := [(0, .ref (ay 0)), (1, .int (nI rm)), (2, .int (w)), (3, .int (nI e1)), (4, .int (y)), (5, .int (nI (q + 1)))]) [1, 2, 3, 4, 5, 0] rfl ?_
                              exact ih128 (q + 1) y c134 hy2 (by omega)
                            · have hb : e1.testBit q = false := by rw [← btI_n (by omega)]; exact c143
                              have hy2 : y + od2 (e1 ||| 2 ^ q) = (if e1 = 2 ^ kNt k - 1 then 1 else 0) + smN od2 e1 (q + 1) := by rw [hy, smN, if_neg (show ¬ e1.testBit q = true by rw [hb]; decide), Int32.add_assoc]
                              refine g_iload (pc := 146) X dX4_feast_146 4 rfl ?_
                              refine g_aload_n (pc := 148) X dX4_feast_148 0 rfl ?_
                              refine g_get (pc := 149) X (v := .ref (ay 14)) fl_X4_49 dX4_feast_149 0 0 rfl rfl rfl ?_
                              refine g_iload_n (pc := 152) X dX4_feast_152 3 rfl ?_
                              refine g_iconst (v := 1) (pc := 153) X dX4_feast_153 (by decide) ?_
                              refine g_iload (pc := 154) X dX4_feast_154 5 rfl ?_
                              refine g_ishl (v := nI (2 ^ q)) (pc := 156) X dX4_feast_156 (shl1_n q (by omega)) ?_
                              refine g_ior (v := nI (e1 ||| 2 ^ q)) (pc := 157) X dX4_feast_157 (nx_or e1 (2 ^ q)) ?_
                              refine g_iald_n (pc := 158) (f := od2) X 0 14 dX4_feast_158 (e1 ||| 2 ^ q) rfl rfl rfl (by have := or_lt (show e1 < 2 ^ kNt k by omega) c134; omega) rfl ?_
                              refine g_iadd (v := y + (od2 (e1 ||| 2 ^ q))) (pc := 159) X dX4_feast_159 rfl ?_
                              refine g_istore (lv' := [(4, .int (y + (od2 (e1 ||| 2 ^ q)))), (0, .ref (ay 0)), (1, .int (nI rm)), (2, .int (w)), (3, .int (nI e1)), (5, .int (nI q))]) (pc := 160) X dX4_feast_160 rfl rfl ?_
                              refine g_iinc (v := nI (q + 1)) (lv' := [(5, .int (nI (q + 1))), (4, .int (y + (od2 (e1 ||| 2 ^ q)))), (0, .ref (ay 0)), (1, .int (nI rm)), (2, .int (w)), (3, .int (nI e1))]) (pc := 162) X dX4_feast_162 5 rfl (nI_1 q) rfl rfl ?_
                              refine g_goto (pc := 165) (tgt := 128) X dX4_feast_165 (by decide) ?_
                              refine g_lv X (lv' := [(0, .ref (ay 0)), (1, .int (nI rm)), (2, .int (w)), (3, .int (nI e1)), (4, .int (y + (od2 (e1 ||| 2 ^ q)))), (5, .int (nI (q + 1)))]) [2, 3, 4, 5, 1, 0] rfl ?_
                              exact ih128 (q + 1) (y + (od2 (e1 ||| 2 ^ q))) c134 hy2 (by omega)
                      refine g_lv X (lv' := [(0, .ref (ay 0)), (1, .int (nI rm)), (2, .int (w)), (3, .int (nI e1)), (4, .int (1)), (5, .int (0))]) [2, 3, 4, 5, 1, 0] rfl ?_
                      exact L128_5 (8 - 0 + 1) 0 1 (Nat.zero_le _) (by rw [← hz, smN]; decide) (Nat.lt_succ_self _)
                  · refine g_aload_n (pc := 74) X dX4_feast_74 0 rfl ?_
                    refine g_get (pc := 75) X (v := .ref (ay 4)) fl_X4_19 dX4_feast_75 0 0 rfl rfl rfl ?_
                    refine g_iload (pc := 78) X dX4_feast_78 4 rfl ?_
                    refine g_iload_n (pc := 80) X dX4_feast_80 3 rfl ?_
                    refine g_iload (pc := 81) X dX4_feast_81 4 rfl ?_
                    refine g_callS (pc := 83) (rest := [.int (nI t), .ref (ay 4)]) X (c_X4_has l D cy (nI e1) (nI t) ) sl_X4_129 dX4_feast_83 rfl rfl rfl rfl rfl ⟨Nat.zero_le _, Nat.zero_le _⟩ ?_
                    refine g_bif_eq (pc := 86) (tgt := 93) X dX4_feast_86 (by decide) (fun c86 => ?_) (fun c86 => ?_)
                    · have hb : e1.testBit t = false := by rw [← btI_n (by omega)]; exact c86
                      have hv : roF k (nI rm) e1 t = kRo k t := by rw [roF, if_neg]; rintro ⟨-, h⟩; rw [hb] at h; cases h
                      refine g_aload_n (pc := 93) X dX4_feast_93 0 rfl ?_
                      refine g_get (pc := 94) X (v := .ref (ay 12)) fl_X4_43 dX4_feast_94 0 0 rfl rfl rfl ?_
                      refine g_bipush (v := 28) (pc := 97) X dX4_feast_97 (by decide) ?_
                      refine g_iload (pc := 99) X dX4_feast_99 4 rfl ?_
                      refine g_iadd (v := nI (28 + t)) (pc := 101) X dX4_feast_101 (nI_add 28 t) ?_
                      refine g_iald_n (pc := 102) (f := imF k) X 0 12 dX4_feast_102 (28 + t) rfl rfl rfl (by omega) rfl ?_
                      refine g_top X (x := (imF k) (28 + t)) (y := kRo k t) (im_ro (by omega)) ?_
                      refine g_iast_n (pc := 103) X (ss' := [wM cy ay (sRo k (upd o2 t (kRo k t))) (uOd (uSn (uAh v (imF k)) sn) od2)]) 0 4 dX4_feast_103 t rfl rfl rfl (by omega) rfl rfl ?_
                      refine g_iinc (v := nI (t + 1)) (lv' := [(4, .int (nI (t + 1))), (0, .ref (ay 0)), (1, .int (nI rm)), (2, .int (w)), (3, .int (nI e1))]) (pc := 104) X dX4_feast_104 4 rfl (nI_1 t) rfl rfl ?_
                      refine g_goto (pc := 107) (tgt := 65) X dX4_feast_107 (by decide) ?_
                      refine g_lv X (lv' := [(0, .ref (ay 0)), (1, .int (nI rm)), (2, .int (w)), (3, .int (nI e1)), (4, .int (nI (t + 1)))]) [1, 2, 3, 4, 0] rfl ?_
                      exact ih65 (t + 1) (upd o2 t (kRo k t)) c71 (fun u hu => by by_cases e9 : u = t; (rw [e9, upd_s]; exact hv.symm); (rw [upd_n e9]; exact h1 u (by omega))) (fun u hu => by rw [upd_n (by omega)]; exact h2 u hu) (by omega)
                    · have hb : e1.testBit t = true := by rw [← btI_n (by omega)]; exact c86
                      have hv : roF k (nI rm) e1 t = nI rm := by rw [roF, if_pos ⟨c71, hb⟩]
                      refine g_iload_n (pc := 89) X dX4_feast_89 1 rfl ?_
                      refine g_goto (pc := 90) (tgt := 103) X dX4_feast_90 (by decide) ?_
                      refine g_iast_n (pc := 103) X (ss' := [wM cy ay (sRo k (upd o2 t (nI rm))) (uOd (uSn (uAh v (imF k)) sn) od2)]) 0 4 dX4_feast_103 t rfl rfl rfl (by omega) rfl rfl ?_
                      refine g_iinc (v := nI (t + 1)) (lv' := [(4, .int (nI (t + 1))), (0, .ref (ay 0)), (1, .int (nI rm)), (2, .int (w)), (3, .int (nI e1))]) (pc := 104) X dX4_feast_104 4 rfl (nI_1 t) rfl rfl ?_
                      refine g_goto (pc := 107) (tgt := 65) X dX4_feast_107 (by decide) ?_
                      refine g_lv X (lv' := [(0, .ref (ay 0)), (1, .int (nI rm)), (2, .int (w)), (3, .int (nI e1)), (4, .int (nI (t + 1)))]) [1, 2, 3, 4, 0] rfl ?_
                      exact ih65 (t + 1) (upd o2 t (nI rm)) c71 (fun u hu => by by_cases e9 : u = t; (rw [e9, upd_s]; exact hv.symm); (rw [upd_n e9]; exact h1 u (by omega))) (fun u hu => by rw [upd_n (by omega)]; exact h2 u hu) (by omega)
              refine g_lv X (lv' := [(0, .ref (ay 0)), (1, .int (nI rm)), (2, .int (w)), (3, .int (nI e1)), (4, .int (0))]) [1, 2, 3, 4, 0] rfl ?_
              exact L65_3 (8 - 0 + 1) 0 o (Nat.zero_le _) (fun u h => absurd h (Nat.not_lt_zero u)) ho3 (Nat.lt_succ_self _)
        refine g_lv X (lv' := [(0, .ref (ay 0)), (1, .int (nI rm)), (2, .int (w)), (3, .int (nI (2 ^ kNt k) + (-1)))]) [1, 2, 3, 0] rfl ?_
        exact L58_1 (((2 ^ kNt k)) + 1) ((2 ^ kNt k)) (mOd v) (kRo k) (mSn v) (Nat.le_refl _) (fun _ _ => rfl) (fun c h1 h2 => absurd h2 (by omega)) (Nat.lt_succ_self _)
      · have q7 : ¬ kNt k ≤ 7 := by omega
        refine g_aload_n (pc := 38) X dX4_feast_38 0 rfl ?_
        refine g_bipush (v := (-3)) (pc := 39) X dX4_feast_39 (by decide) ?_
        refine g_callV (pc := 41) (rest := []) (ss' := [wM cy ay k (uRf v (rfU (mRf v) ((-3))))]) X (c_X4_no l D cy ay k v ((-3)) rf_3) vl_X4_63 dX4_feast_41 [0] 0 0 rfl rfl rfl rfl rfl rfl (ads_c (ads_M _ _ _ _ _ _) rfl) rfl rfl rfl rfl rfl rfl ⟨Nat.zero_le _, Nat.zero_le _⟩ ?_
        exact g_iretE (pc := 44) X (mSn v, mAh v, mOd v) rfl dX4_feast_44 rfl (by first | (simp [feA, moB, *]; done) | (rcases w3 with w3 | w3 <;> simp [feA, moB, *])) (by first | (rcases w3 with w3 | w3 <;> (simp [feA, feO, moB, rfB, *]; done)) | first | (simp [feA, feO, moB, rfB, *]; done) | (simp [feA, feO, moB, rfB, *]; rfl))
    · have w3 := wi_1f c19
      refine g_aload_n (pc := 22) X dX4_feast_22 0 rfl ?_
      refine g_bipush (v := (-2)) (pc := 23) X dX4_feast_23 (by decide) ?_
      refine g_callV (pc := 25) (rest := []) (ss' := [wM cy ay k (uRf v (rfU (mRf v) ((-2))))]) X (c_X4_no l D cy ay k v ((-2)) rf_2) vl_X4_63 dX4_feast_25 [0] 0 0 rfl rfl rfl rfl rfl rfl (ads_c (ads_M _ _ _ _ _ _) rfl) rfl rfl rfl rfl rfl rfl ⟨Nat.zero_le _, Nat.zero_le _⟩ ?_
      exact g_iretE (pc := 28) X (mSn v, mAh v, mOd v) rfl dX4_feast_28 rfl (by first | (simp [feA, moB, *]; done) | (rcases w3 with w3 | w3 <;> simp [feA, moB, *])) (by first | (rcases w3 with w3 | w3 <;> (simp [feA, feO, moB, rfB, *]; done)) | first | (simp [feA, feO, moB, rfB, *]; done) | (simp [feA, feO, moB, rfB, *]; rfl))
  · refine g_aload_n (pc := 7) X dX4_feast_7 0 rfl ?_
    refine g_iconst (v := (-1)) (pc := 8) X dX4_feast_8 (by decide) ?_
    refine g_callV (pc := 9) (rest := []) (ss' := [wM cy ay k (uRf v (rfU (mRf v) ((-1))))]) X (c_X4_no l D cy ay k v ((-1)) rf_1) vl_X4_63 dX4_feast_9 [0] 0 0 rfl rfl rfl rfl rfl rfl (ads_c (ads_M _ _ _ _ _ _) rfl) rfl rfl rfl rfl rfl rfl ⟨Nat.zero_le _, Nat.zero_le _⟩ ?_
    exact g_iretE (pc := 12) X (mSn v, mAh v, mOd v) rfl dX4_feast_12 rfl (by first | (simp [feA, moB, *]; done) | (rcases w3 with w3 | w3 <;> simp [feA, moB, *])) (by first | (rcases w3 with w3 | w3 <;> (simp [feA, feO, moB, rfB, *]; done)) | first | (simp [feA, feO, moB, rfB, *]; done) | (simp [feA, feO, moB, rfB, *]; rfl))
