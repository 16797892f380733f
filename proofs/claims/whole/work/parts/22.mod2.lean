set_option maxRecDepth 100000 in
set_option maxHeartbeats 4000000 in
theorem c_X4_sinsIn (l : Launch) (D : va_G) (cy : ClassId) (ay : Nat → Nat) (k : KV) (v : MV) (h : Nat) (h8 : kNt k ≤ 8) (h10 : kNl k ≤ 10) (ho : HOt k) (hh : h < 8) : CtIE l yX4_sinsIn cX4_sinsIn 6 .int 5 178 D cy [.ref (ay 0), .int (nI h)] [wM cy ay k v] (fun (u_ : (Nat → Int32)) => [wM cy ay k (uSn v u_)]) (nI (siN k h)) := by
  refine ctIE_of (by decide +kernel) (Nat.le_of_ble_eq_true rfl) (fun p_ e_ s_ m_ args_ below_ meth_ c_ A_ X => ?_)
  refine g_lv X (lv' := [(0, .ref (ay 0)), (1, .int (nI h))]) [0, 1] rfl ?_
  refine g_aload_n (pc := 0) X dX4_sinsIn_0 0 rfl ?_
  refine g_iload_n (pc := 1) X dX4_sinsIn_1 1 rfl ?_
  refine g_callVv (pc := 2) (rest := []) (ss' := [wM cy ay k (uSn v (lkF k h (mSn v)))]) X (c_X4_look l D cy ay k v h (by first | assumption | omega) (by first | assumption | omega) (by first | assumption | omega)) vl_X4_142 dX4_sinsIn_2 [0] 0 0 rfl rfl rfl rfl rfl rfl (ads_c (ads_M _ _ _ _ _ _) rfl) rfl rfl rfl rfl rfl rfl ⟨Nat.zero_le _, Nat.zero_le _⟩ ?_
  refine g_iconst (v := 0) (pc := 5) X dX4_sinsIn_5 (by decide) ?_
  refine g_istore_n (lv' := [(2, .int (0)), (0, .ref (ay 0)), (1, .int (nI h))]) (pc := 6) X dX4_sinsIn_6 rfl rfl rfl ?_
  refine g_iconst (v := 0) (pc := 7) X dX4_sinsIn_7 (by decide) ?_
  refine g_istore_n (lv' := [(3, .int (0)), (2, .int (0)), (0, .ref (ay 0)), (1, .int (nI h))]) (pc := 8) X dX4_sinsIn_8 rfl rfl rfl ?_
  refine g_aload_n (pc := 9) X dX4_sinsIn_9 2 rfl ?_
  refine g_get (pc := 10) X (v := .int (nI (kNt k))) fl_X4_52 dX4_sinsIn_10 0 0 rfl rfl rfl ?_
  refine g_iconst (v := 1) (pc := 13) X dX4_sinsIn_13 (by decide) ?_
  refine g_isub (v := nI (kNt k) + (-1)) (pc := 14) X dX4_sinsIn_14 (sub1 _) ?_
  refine g_istore (lv' := [(4, .int (nI (kNt k) + (-1))), (3, .int (0)), (2, .int (0)), (0, .ref (ay 0)), (1, .int (nI h))]) (pc := 15) X dX4_sinsIn_15 rfl rfl ?_
  have L17_1 : ∀ (fu_ : Nat) (e : Nat) (m : Nat) (q : Nat) (hi : siI k h e m q) (hm : e < fu_), G p_ l e_ { frames := 5, cells := 0, slots := 0, locals := 178 } s_ m_ args_ below_ meth_ c_ 6 D A_ 0 0 (QIE below_ args_ s_ D A_ (fun (u_ : (Nat → Int32)) => [wM cy ay k (uSn v u_)]) (nI (siN k h))) [wM cy ay k (uSn v (lkF k h (mSn v)))] 17 [(0, .ref (ay 0)), (1, .int (nI h)), (2, .int (nI m)), (3, .int (nI q)), (4, .int (nI e + (-1)))] [] := by
    intro fu_
    induction fu_ with
    | zero => intro e m q hi hm; exact absurd hm (Nat.not_lt_zero _)
    | succ fu_ ih =>
      intro e m q hi hm
      have ih17 := ih
      clear ih
      refine g_iload (pc := 17) X dX4_sinsIn_17 4 rfl ?_
      refine g_if_lt (pc := 19) (tgt := 77) X dX4_sinsIn_19 (by decide) (fun c19 => ?_) (fun c19 => ?_)
      · have e0 : e = 0 := by
          have hi1 := hi.1
          cases e with
          | zero => rfl
          | succ e1 => exact absurd c19 (by rw [pk_m1]; exact nI_pos (by omega))
        subst e0
        refine g_bipush (v := 100) (pc := 77) X dX4_sinsIn_77 (by decide) ?_
        refine g_iload_n (pc := 79) X dX4_sinsIn_79 2 rfl ?_
        refine g_imul (v := nI (100 * m)) (pc := 80) X dX4_sinsIn_80 (pk_mul 100 m) ?_
        refine g_iload_n (pc := 81) X dX4_sinsIn_81 3 rfl ?_
        refine g_iadd (v := nI (100 * m + q)) (pc := 82) X dX4_sinsIn_82 (nI_add (100 * m) q) ?_
        exact g_iretE (pc := 83) X (lkF k h (mSn v)) rfl dX4_sinsIn_83 rfl (by rw [siI_e hi]) rfl
      · have n19 := Int32.not_lt.mpr c19
        obtain ⟨e1, rfl⟩ : ∃ e1, e = e1 + 1 := ⟨e - 1, by have : e ≠ 0 := fun q_ => absurd c19 (by rw [q_]; decide); omega⟩
        rw [pk_m1]
        have he1 : e1 < kNt k := by have := hi.1; omega
        refine g_aload_n (pc := 22) X dX4_sinsIn_22 0 rfl ?_
        refine g_get (pc := 23) X (v := .ref (ay 5)) fl_X4_22 dX4_sinsIn_23 0 0 rfl rfl rfl ?_
        refine g_iload (pc := 26) X dX4_sinsIn_26 4 rfl ?_
        refine g_iald_n (pc := 28) (f := kOt k) X 0 5 dX4_sinsIn_28 e1 rfl rfl rfl (by omega) rfl ?_
        refine g_istore (lv' := [(5, .int ((kOt k) e1)), (0, .ref (ay 0)), (1, .int (nI h)), (2, .int (nI m)), (3, .int (nI q)), (4, .int (nI e1))]) (pc := 29) X dX4_sinsIn_29 rfl rfl ?_
        refine g_iload (pc := 31) X dX4_sinsIn_31 0 rfl ?_
        refine g_iload (pc := 33) X dX4_sinsIn_33 5 rfl ?_
        refine g_icmp_lt (pc := 35) (tgt := 71) X dX4_sinsIn_35 (by decide) (fun c35 => ?_) (fun c35 => ?_)
        · have hi2 := siI_s hi (sl_lo c35)
          refine g_iinc (v := nI e1 + (-1)) (lv' := [(4, .int (nI e1 + (-1))), (5, .int ((kOt k) e1)), (0, .ref (ay 0)), (1, .int (nI h)), (2, .int (nI m)), (3, .int (nI q))]) (pc := 71) X dX4_sinsIn_71 5 rfl rfl rfl rfl ?_
          refine g_goto (pc := 74) (tgt := 17) X dX4_sinsIn_74 (by decide) ?_
          refine g_lv X (lv' := [(0, .ref (ay 0)), (1, .int (nI h)), (2, .int (nI m)), (3, .int (nI q)), (4, .int (nI e1 + (-1)))]) [2, 3, 4, 5, 0] rfl ?_
          exact ih17 e1 m q hi2 (by omega)
        · have n35 := Int32.not_lt.mpr c35
          obtain ⟨u, hu, hlt, eu⟩ := ot_of ho he1 h8 n35
          rw [eu]
          refine g_aload_n (pc := 38) X dX4_sinsIn_38 1 rfl ?_
          refine g_get (pc := 39) X (v := .ref (ay 13)) fl_X4_46 dX4_sinsIn_39 0 0 rfl rfl rfl ?_
          refine g_iload (pc := 42) X dX4_sinsIn_42 5 rfl ?_
          refine g_iald_n (pc := 44) (f := lkF k h (mSn v)) X 0 13 dX4_sinsIn_44 e1 rfl rfl rfl (by omega) rfl ?_
          refine g_top X (x := (lkF k h (mSn v)) e1) (y := sfK k e1 h) (lkF_s he1) ?_
          refine g_aload_n (pc := 45) X dX4_sinsIn_45 1 rfl ?_
          refine g_get (pc := 46) X (v := .ref (ay 13)) fl_X4_46 dX4_sinsIn_46 0 0 rfl rfl rfl ?_
          refine g_iload (pc := 49) X dX4_sinsIn_49 0 rfl ?_
          refine g_iald_n (pc := 51) (f := lkF k h (mSn v)) X 0 13 dX4_sinsIn_51 u rfl rfl rfl (by omega) rfl ?_
          refine g_top X (x := (lkF k h (mSn v)) u) (y := sfK k u h) (lkF_s hu) ?_
          refine g_iand (v := (sfK k e1 h) &&& (sfK k u h)) (pc := 52) X dX4_sinsIn_52 rfl ?_
          refine g_if_ne (pc := 53) (tgt := 59) X dX4_sinsIn_53 (by decide) (fun c53 => ?_) (fun c53 => ?_)
          · have hi2 := siI_t hi h8 hu hlt eu (by rw [sl_val h8 hu hlt eu]; exact mt_t c53)
            refine g_iinc (v := nI (m + 1)) (lv' := [(2, .int (nI (m + 1))), (5, .int (nI u)), (0, .ref (ay 0)), (1, .int (nI h)), (3, .int (nI q)), (4, .int (nI e1))]) (pc := 59) X dX4_sinsIn_59 3 rfl (nI_1 m) rfl rfl ?_
            refine g_bipush (v := 10) (pc := 62) X dX4_sinsIn_62 (by decide) ?_
            refine g_iload (pc := 64) X dX4_sinsIn_64 5 rfl ?_
            refine g_imul (v := nI (10 * e1)) (pc := 66) X dX4_sinsIn_66 (pk_mul 10 e1) ?_
            refine g_iload (pc := 67) X dX4_sinsIn_67 1 rfl ?_
            refine g_iadd (v := nI (10 * e1 + u)) (pc := 69) X dX4_sinsIn_69 (nI_add (10 * e1) u) ?_
            refine g_istore_n (lv' := [(3, .int (nI (10 * e1 + u))), (2, .int (nI (m + 1))), (5, .int (nI u)), (0, .ref (ay 0)), (1, .int (nI h)), (4, .int (nI e1))]) (pc := 70) X dX4_sinsIn_70 rfl rfl rfl ?_
            refine g_iinc (v := nI e1 + (-1)) (lv' := [(4, .int (nI e1 + (-1))), (3, .int (nI (10 * e1 + u))), (2, .int (nI (m + 1))), (5, .int (nI u)), (0, .ref (ay 0)), (1, .int (nI h))]) (pc := 71) X dX4_sinsIn_71 5 rfl rfl rfl rfl ?_
            refine g_goto (pc := 74) (tgt := 17) X dX4_sinsIn_74 (by decide) ?_
            refine g_lv X (lv' := [(0, .ref (ay 0)), (1, .int (nI h)), (2, .int (nI (m + 1))), (3, .int (nI (10 * e1 + u))), (4, .int (nI e1 + (-1)))]) [4, 5, 2, 1, 0] rfl ?_
            exact ih17 e1 (m + 1) (10 * e1 + u) hi2 (by omega)
          · have hi2 := siI_s hi (by rw [sl_val h8 hu hlt eu]; exact mt_f c53)
            refine g_goto (pc := 56) (tgt := 71) X dX4_sinsIn_56 (by decide) ?_
            refine g_iinc (v := nI e1 + (-1)) (lv' := [(4, .int (nI e1 + (-1))), (5, .int (nI u)), (0, .ref (ay 0)), (1, .int (nI h)), (2, .int (nI m)), (3, .int (nI q))]) (pc := 71) X dX4_sinsIn_71 5 rfl rfl rfl rfl ?_
            refine g_goto (pc := 74) (tgt := 17) X dX4_sinsIn_74 (by decide) ?_
            refine g_lv X (lv' := [(0, .ref (ay 0)), (1, .int (nI h)), (2, .int (nI m)), (3, .int (nI q)), (4, .int (nI e1 + (-1)))]) [2, 3, 4, 5, 0] rfl ?_
            exact ih17 e1 m q hi2 (by omega)
  refine g_lv X (lv' := [(0, .ref (ay 0)), (1, .int (nI h)), (2, .int (0)), (3, .int (0)), (4, .int (nI (kNt k) + (-1)))]) [3, 4, 2, 1, 0] rfl ?_
  exact L17_1 (((kNt k)) + 1) ((kNt k)) 0 0 siI_0 (Nat.lt_succ_self _)
set_option maxRecDepth 100000 in
set_option maxHeartbeats 4000000 in
theorem c_X4_give (l : Launch) (D : va_G) (cy : ClassId) (ay : Nat → Nat) (k : KV) (v : MV) (a : Nat) (b : Nat) (ha : a < kNt k) (hb : b < kNt k) (hab : a ≠ b) (h8 : kNt k ≤ 8) (ho : HOt k) : CtI l yX4_give cX4_give 5 .int 0 64 D cy [.ref (ay 0), .int (nI a), .int (nI b)] [wM cy ay k v] [wM cy ay (cpK k a b) v] (nI (cpN k a b)) := by
  refine ctI_of (by decide +kernel) (Nat.le_of_ble_eq_true rfl) (fun p_ e_ s_ m_ args_ below_ meth_ c_ A_ X => ?_)
  refine g_lv X (lv' := [(0, .ref (ay 0)), (1, .int (nI a)), (2, .int (nI b))]) [0, 1, 2] rfl ?_
  refine g_aload_n (pc := 0) X dX4_give_0 0 rfl ?_
  refine g_get (pc := 1) X (v := .ref (ay 5)) fl_X4_22 dX4_give_1 0 0 rfl rfl rfl ?_
  refine g_iload_n (pc := 4) X dX4_give_4 1 rfl ?_
  refine g_iald_n (pc := 5) (f := kOt k) X 0 5 dX4_give_5 a rfl rfl rfl (by omega) rfl ?_
  refine g_iload_n (pc := 6) X dX4_give_6 2 rfl ?_
  refine g_icmp_ne (pc := 7) (tgt := 12) X dX4_give_7 (by decide) (fun c7 => ?_) (fun c7 => ?_)
  · refine g_iconst (v := 0) (pc := 12) X dX4_give_12 (by decide) ?_
    refine g_istore_n (lv' := [(3, .int (0)), (0, .ref (ay 0)), (1, .int (nI a)), (2, .int (nI b))]) (pc := 13) X dX4_give_13 rfl rfl rfl ?_
    refine g_iconst (v := 0) (pc := 14) X dX4_give_14 (by decide) ?_
    refine g_istore (lv' := [(4, .int (0)), (3, .int (0)), (0, .ref (ay 0)), (1, .int (nI a)), (2, .int (nI b))]) (pc := 15) X dX4_give_15 rfl rfl ?_
    have L17_1 : ∀ (fu_ : Nat) (t : Nat) (o : Nat → Int32) (ht : t ≤ kNt k) (hq : o = gvO k a b t) (hm : 8 - t < fu_), G p_ l e_ { frames := 0, cells := 0, slots := 0, locals := 64 } s_ m_ args_ below_ meth_ c_ 5 D A_ 0 0 (QI below_ args_ s_ D A_ [wM cy ay (cpK k a b) v] (nI (cpN k a b))) [wM cy ay (sOt k o) v] 17 [(0, .ref (ay 0)), (1, .int (nI a)), (2, .int (nI b)), (3, .int (nI (cnt (gvT k a b) t))), (4, .int (nI t))] [] := by
      intro fu_
      induction fu_ with
      | zero => intro t o ht hq hm; exact absurd hm (Nat.not_lt_zero _)
      | succ fu_ ih =>
        intro t o ht hq hm
        have ih17 := ih
        clear ih
        refine g_iload (pc := 17) X dX4_give_17 4 rfl ?_
        refine g_aload_n (pc := 19) X dX4_give_19 0 rfl ?_
        refine g_get (pc := 20) X (v := .int (nI (kNt k))) fl_X4_52 dX4_give_20 0 0 rfl rfl rfl ?_
        refine g_ncmp_ge (pc := 23) (tgt := 81) X dX4_give_23 (by decide) t (kNt k) rfl rfl (by omega) (by omega) (fun c23 => ?_) (fun c23 => ?_)
        · have n23 := Nat.not_lt.mpr c23
          have et : t = kNt k := by omega
          refine g_aload_n (pc := 81) X dX4_give_81 0 rfl ?_
          refine g_get (pc := 82) X (v := .ref (ay 5)) fl_X4_22 dX4_give_82 0 0 rfl rfl rfl ?_
          refine g_iload_n (pc := 85) X dX4_give_85 1 rfl ?_
          refine g_iload_n (pc := 86) X dX4_give_86 2 rfl ?_
          refine g_iast_n (pc := 87) X (ss' := [wM cy ay (sOt k (upd o a (nI b))) v]) 0 5 dX4_give_87 a rfl rfl rfl (by omega) rfl rfl ?_
          refine g_aload_n (pc := 88) X dX4_give_88 0 rfl ?_
          refine g_get (pc := 89) X (v := .ref (ay 5)) fl_X4_22 dX4_give_89 0 0 rfl rfl rfl ?_
          refine g_iload_n (pc := 92) X dX4_give_92 2 rfl ?_
          refine g_iload_n (pc := 93) X dX4_give_93 1 rfl ?_
          refine g_iast_n (pc := 94) X (ss' := [wM cy ay (sOt k (upd (upd o a (nI b)) b (nI a))) v]) 0 5 dX4_give_94 b rfl rfl rfl (by omega) rfl rfl ?_
          refine g_iload_n (pc := 95) X dX4_give_95 3 rfl ?_
          exact g_iret (pc := 96) X rfl dX4_give_96 rfl (by rw [et]; exact congrArg nI (gv_cnt ho h8 ha hb hab c7)) (by rw [cpK, if_neg c7, cpF_sOt, hq, et, gv_end ho h8 ha hb c7])
        · refine g_iload (pc := 26) X dX4_give_26 4 rfl ?_
          refine g_iload_n (pc := 28) X dX4_give_28 1 rfl ?_
          refine g_ncmp_eq (pc := 29) (tgt := 75) X dX4_give_29 (by decide) t a rfl rfl (by omega) (by omega) (fun c29 => ?_) (fun c29 => ?_)
          · have hg : gvT k a b t = false := decide_eq_false (fun q => q.1 c29)
            have hc : cnt (gvT k a b) t = cnt (gvT k a b) (t + 1) := by rw [cnt, if_neg (by rw [hg]; decide)]
            rw [hc]
            refine g_iinc (v := nI (t + 1)) (lv' := [(4, .int (nI (t + 1))), (0, .ref (ay 0)), (1, .int (nI a)), (2, .int (nI b)), (3, .int (nI (cnt (gvT k a b) (t + 1))))]) (pc := 75) X dX4_give_75 4 rfl (nI_1 t) rfl rfl ?_
            refine g_goto (pc := 78) (tgt := 17) X dX4_give_78 (by decide) ?_
            refine g_lv X (lv' := [(0, .ref (ay 0)), (1, .int (nI a)), (2, .int (nI b)), (3, .int (nI (cnt (gvT k a b) (t + 1)))), (4, .int (nI (t + 1)))]) [1, 2, 3, 4, 0] rfl ?_
            exact ih17 (t + 1) o c23 (by first | exact hq.trans (gvO_s hg) | (rw [hq]; exact gvO_t hg)) (by omega)
          · refine g_iload (pc := 32) X dX4_give_32 4 rfl ?_
            refine g_iload_n (pc := 34) X dX4_give_34 2 rfl ?_
            refine g_ncmp_eq (pc := 35) (tgt := 75) X dX4_give_35 (by decide) t b rfl rfl (by omega) (by omega) (fun c35 => ?_) (fun c35 => ?_)
            · have hg : gvT k a b t = false := decide_eq_false (fun q => q.2.1 c35)
              have hc : cnt (gvT k a b) t = cnt (gvT k a b) (t + 1) := by rw [cnt, if_neg (by rw [hg]; decide)]
              rw [hc]
              refine g_iinc (v := nI (t + 1)) (lv' := [(4, .int (nI (t + 1))), (0, .ref (ay 0)), (1, .int (nI a)), (2, .int (nI b)), (3, .int (nI (cnt (gvT k a b) (t + 1))))]) (pc := 75) X dX4_give_75 4 rfl (nI_1 t) rfl rfl ?_
              refine g_goto (pc := 78) (tgt := 17) X dX4_give_78 (by decide) ?_
              refine g_lv X (lv' := [(0, .ref (ay 0)), (1, .int (nI a)), (2, .int (nI b)), (3, .int (nI (cnt (gvT k a b) (t + 1)))), (4, .int (nI (t + 1)))]) [1, 2, 3, 4, 0] rfl ?_
              exact ih17 (t + 1) o c23 (by first | exact hq.trans (gvO_s hg) | (rw [hq]; exact gvO_t hg)) (by omega)
            · refine g_aload_n (pc := 38) X dX4_give_38 0 rfl ?_
              refine g_get (pc := 39) X (v := .ref (ay 5)) fl_X4_22 dX4_give_39 0 0 rfl rfl rfl ?_
              refine g_iload (pc := 42) X dX4_give_42 4 rfl ?_
              refine g_iald_n (pc := 44) (f := o) X 0 5 dX4_give_44 t rfl rfl rfl (by omega) rfl ?_
              refine g_top X (x := o t) (y := kOt k t) (by rw [hq, gvO_n]) ?_
              refine g_iload_n (pc := 45) X dX4_give_45 1 rfl ?_
              refine g_icmp_eq (pc := 46) (tgt := 63) X dX4_give_46 (by decide) (fun c46 => ?_) (fun c46 => ?_)
              · have hg : gvT k a b t = true := decide_eq_true ⟨c29, c35, Or.inl c46⟩
                refine g_aload_n (pc := 63) X dX4_give_63 0 rfl ?_
                refine g_get (pc := 64) X (v := .ref (ay 5)) fl_X4_22 dX4_give_64 0 0 rfl rfl rfl ?_
                refine g_iload (pc := 67) X dX4_give_67 4 rfl ?_
                refine g_bipush (v := (-9)) (pc := 69) X dX4_give_69 (by decide) ?_
                refine g_iast_n (pc := 71) X (ss' := [wM cy ay (sOt k (upd o t ((-9)))) v]) 0 5 dX4_give_71 t rfl rfl rfl (by omega) rfl rfl ?_
                refine g_iinc (v := nI (cnt (gvT k a b) (t + 1))) (lv' := [(3, .int (nI (cnt (gvT k a b) (t + 1)))), (0, .ref (ay 0)), (1, .int (nI a)), (2, .int (nI b)), (4, .int (nI t))]) (pc := 72) X dX4_give_72 3 rfl (by rw [cnt, if_pos hg]; exact nI_1 _) rfl rfl ?_
                refine g_iinc (v := nI (t + 1)) (lv' := [(4, .int (nI (t + 1))), (3, .int (nI (cnt (gvT k a b) (t + 1)))), (0, .ref (ay 0)), (1, .int (nI a)), (2, .int (nI b))]) (pc := 75) X dX4_give_75 4 rfl (nI_1 t) rfl rfl ?_
                refine g_goto (pc := 78) (tgt := 17) X dX4_give_78 (by decide) ?_
                refine g_lv X (lv' := [(0, .ref (ay 0)), (1, .int (nI a)), (2, .int (nI b)), (3, .int (nI (cnt (gvT k a b) (t + 1)))), (4, .int (nI (t + 1)))]) [2, 3, 4, 1, 0] rfl ?_
                exact ih17 (t + 1) (upd o t ((-9))) c23 (by first | exact hq.trans (gvO_s hg) | (rw [hq]; exact gvO_t hg)) (by omega)
              · refine g_aload_n (pc := 49) X dX4_give_49 0 rfl ?_
                refine g_get (pc := 50) X (v := .ref (ay 5)) fl_X4_22 dX4_give_50 0 0 rfl rfl rfl ?_
                refine g_iload (pc := 53) X dX4_give_53 4 rfl ?_
                refine g_iald_n (pc := 55) (f := o) X 0 5 dX4_give_55 t rfl rfl rfl (by omega) rfl ?_
                refine g_top X (x := o t) (y := kOt k t) (by rw [hq, gvO_n]) ?_
                refine g_iload_n (pc := 56) X dX4_give_56 2 rfl ?_
                refine g_icmp_eq (pc := 57) (tgt := 63) X dX4_give_57 (by decide) (fun c57 => ?_) (fun c57 => ?_)
                · have hg : gvT k a b t = true := decide_eq_true ⟨c29, c35, Or.inr c57⟩
                  refine g_aload_n (pc := 63) X dX4_give_63 0 rfl ?_
                  refine g_get (pc := 64) X (v := .ref (ay 5)) fl_X4_22 dX4_give_64 0 0 rfl rfl rfl ?_
                  refine g_iload (pc := 67) X dX4_give_67 4 rfl ?_
                  refine g_bipush (v := (-9)) (pc := 69) X dX4_give_69 (by decide) ?_
                  refine g_iast_n (pc := 71) X (ss' := [wM cy ay (sOt k (upd o t ((-9)))) v]) 0 5 dX4_give_71 t rfl rfl rfl (by omega) rfl rfl ?_
                  refine g_iinc (v := nI (cnt (gvT k a b) (t + 1))) (lv' := [(3, .int (nI (cnt (gvT k a b) (t + 1)))), (0, .ref (ay 0)), (1, .int (nI a)), (2, .int (nI b)), (4, .int (nI t))]) (pc := 72) X dX4_give_72 3 rfl (by rw [cnt, if_pos hg]; exact nI_1 _) rfl rfl ?_
                  refine g_iinc (v := nI (t + 1)) (lv' := [(4, .int (nI (t + 1))), (3, .int (nI (cnt (gvT k a b) (t + 1)))), (0, .ref (ay 0)), (1, .int (nI a)), (2, .int (nI b))]) (pc := 75) X dX4_give_75 4 rfl (nI_1 t) rfl rfl ?_
                  refine g_goto (pc := 78) (tgt := 17) X dX4_give_78 (by decide) ?_
                  refine g_lv X (lv' := [(0, .ref (ay 0)), (1, .int (nI a)), (2, .int (nI b)), (3, .int (nI (cnt (gvT k a b) (t + 1)))), (4, .int (nI (t + 1)))]) [2, 3, 4, 1, 0] rfl ?_
                  exact ih17 (t + 1) (upd o t ((-9))) c23 (by first | exact hq.trans (gvO_s hg) | (rw [hq]; exact gvO_t hg)) (by omega)
                · have hg : gvT k a b t = false := decide_eq_false (fun q => q.2.2.elim c46 c57)
                  have hc : cnt (gvT k a b) t = cnt (gvT k a b) (t + 1) := by rw [cnt, if_neg (by rw [hg]; decide)]
                  rw [hc]
                  refine g_goto (pc := 60) (tgt := 75) X dX4_give_60 (by decide) ?_
                  refine g_iinc (v := nI (t + 1)) (lv' := [(4, .int (nI (t + 1))), (0, .ref (ay 0)), (1, .int (nI a)), (2, .int (nI b)), (3, .int (nI (cnt (gvT k a b) (t + 1))))]) (pc := 75) X dX4_give_75 4 rfl (nI_1 t) rfl rfl ?_
                  refine g_goto (pc := 78) (tgt := 17) X dX4_give_78 (by decide) ?_
                  refine g_lv X (lv' := [(0, .ref (ay 0)), (1, .int (nI a)), (2, .int (nI b)), (3, .int (nI (cnt (gvT k a b) (t + 1)))), (4, .int (nI (t + 1)))]) [1, 2, 3, 4, 0] rfl ?_
                  exact ih17 (t + 1) o c23 (by first | exact hq.trans (gvO_s hg) | (rw [hq]; exact gvO_t hg)) (by omega)
    refine g_lv X (lv' := [(0, .ref (ay 0)), (1, .int (nI a)), (2, .int (nI b)), (3, .int (0)), (4, .int (0))]) [2, 3, 4, 1, 0] rfl ?_
    exact L17_1 (8 - 0 + 1) 0 (kOt k) (Nat.zero_le _) (gvO_0 k a b) (Nat.lt_succ_self _)
  · refine g_iconst (v := 0) (pc := 10) X dX4_give_10 (by decide) ?_
    exact g_iret (pc := 11) X rfl dX4_give_11 rfl (by rw [cpN, if_pos c7]; rfl) (by rw [cpK, if_pos c7])
set_option maxRecDepth 100000 in
set_option maxHeartbeats 4000000 in
theorem c_X4_pair (l : Launch) (D : va_G) (cy : ClassId) (ay : Nat → Nat) (k : KV) (v : MV) (x : Int32) (y : Int32) (hw : KW k) : CtI l yX4_pair cX4_pair 3 .int 2 107 D cy [.ref (ay 0), .int (x), .int (y)] [wM cy ay k v] [wM cy ay (acK k x y) (uRf v (rfB (acB k x y) (mRf v) (paA k x y)))] (paA k x y) := by
  have h8 := hw.2.2.2.2.2.1
  refine ctI_of (by decide +kernel) (Nat.le_of_ble_eq_true rfl) (fun p_ e_ s_ m_ args_ below_ meth_ c_ A_ X => ?_)
  refine g_lv X (lv' := [(0, .ref (ay 0)), (1, .int (x)), (2, .int (y))]) [0, 1, 2] rfl ?_
  refine g_aload_n (pc := 0) X dX4_pair_0 0 rfl ?_
  refine g_iload_n (pc := 1) X dX4_pair_1 1 rfl ?_
  refine g_callV (pc := 2) (rest := []) (ss' := [wM cy ay k v]) X (c_X4_isThing l D cy ay k v x hw.2.2.2.2.2.1) vl_X4_112 dX4_pair_2 [0] 0 0 rfl rfl rfl rfl rfl rfl rfl rfl rfl rfl rfl rfl rfl ⟨Nat.zero_le _, Nat.zero_le _⟩ ?_
  refine g_bif_eq (pc := 5) (tgt := 30) X dX4_pair_5 (by decide) (fun c5 => ?_) (fun c5 => ?_)
  · refine g_aload_n (pc := 30) X dX4_pair_30 0 rfl ?_
    refine g_iconst (v := (-1)) (pc := 31) X dX4_pair_31 (by decide) ?_
    refine g_callV (pc := 32) (rest := []) (ss' := [wM cy ay k (uRf v (rfU (mRf v) ((-1))))]) X (c_X4_no l D cy ay k v ((-1)) rf_1) vl_X4_63 dX4_pair_32 [0] 0 0 rfl rfl rfl rfl rfl rfl (ads_c (ads_M _ _ _ _ _ _) rfl) rfl rfl rfl rfl rfl rfl ⟨Nat.zero_le _, Nat.zero_le _⟩ ?_
    exact g_iret (pc := 35) X rfl dX4_pair_35 rfl (by first | (rw [paA, if_pos hB, ixi, ixj]; done) | (simp [paA, acB, *]; done)) (by first | (rw [rfB, if_pos hB, acK, if_pos hB, ixi, ixj]; done) | first | (simp [paA, acB, rfB, acK, *]; done) | (simp [paA, acB, rfB, acK, *]; rfl))
  · have r5 := c5
    obtain ⟨i, hi, rfl⟩ := hasT_t hw.2.2.2.2.2.1 c5
    have ixi : ix (nI i) = i := ixn (by have := hw.2.2.2.2.2.1; omega)
    refine g_aload_n (pc := 8) X dX4_pair_8 0 rfl ?_
    refine g_iload_n (pc := 9) X dX4_pair_9 2 rfl ?_
    refine g_callV (pc := 10) (rest := []) (ss' := [wM cy ay k v]) X (c_X4_isThing l D cy ay k v y hw.2.2.2.2.2.1) vl_X4_112 dX4_pair_10 [0] 0 0 rfl rfl rfl rfl rfl rfl rfl rfl rfl rfl rfl rfl rfl ⟨Nat.zero_le _, Nat.zero_le _⟩ ?_
    refine g_bif_eq (pc := 13) (tgt := 30) X dX4_pair_13 (by decide) (fun c13 => ?_) (fun c13 => ?_)
    · refine g_aload_n (pc := 30) X dX4_pair_30 0 rfl ?_
      refine g_iconst (v := (-1)) (pc := 31) X dX4_pair_31 (by decide) ?_
      refine g_callV (pc := 32) (rest := []) (ss' := [wM cy ay k (uRf v (rfU (mRf v) ((-1))))]) X (c_X4_no l D cy ay k v ((-1)) rf_1) vl_X4_63 dX4_pair_32 [0] 0 0 rfl rfl rfl rfl rfl rfl (ads_c (ads_M _ _ _ _ _ _) rfl) rfl rfl rfl rfl rfl rfl ⟨Nat.zero_le _, Nat.zero_le _⟩ ?_
      exact g_iret (pc := 35) X rfl dX4_pair_35 rfl (by first | (rw [paA, if_pos hB, ixi, ixj]; done) | (simp [paA, acB, *]; done)) (by first | (rw [rfB, if_pos hB, acK, if_pos hB, ixi, ixj]; done) | first | (simp [paA, acB, rfB, acK, *]; done) | (simp [paA, acB, rfB, acK, *]; rfl))
    · have r13 := c13
      obtain ⟨j, hj, rfl⟩ := hasT_t hw.2.2.2.2.2.1 c13
      have ixj : ix (nI j) = j := ixn (by have := hw.2.2.2.2.2.1; omega)
      refine g_iload_n (pc := 16) X dX4_pair_16 1 rfl ?_
      refine g_iload_n (pc := 17) X dX4_pair_17 2 rfl ?_
      refine g_ncmp_eq (pc := 18) (tgt := 30) X dX4_pair_18 (by decide) i j rfl rfl (by have := hw.2.2.2.2.2.1; omega) (by have := hw.2.2.2.2.2.1; omega) (fun c18 => ?_) (fun c18 => ?_)
      · subst c18
        refine g_aload_n (pc := 30) X dX4_pair_30 0 rfl ?_
        refine g_iconst (v := (-1)) (pc := 31) X dX4_pair_31 (by decide) ?_
        refine g_callV (pc := 32) (rest := []) (ss' := [wM cy ay k (uRf v (rfU (mRf v) ((-1))))]) X (c_X4_no l D cy ay k v ((-1)) rf_1) vl_X4_63 dX4_pair_32 [0] 0 0 rfl rfl rfl rfl rfl rfl (ads_c (ads_M _ _ _ _ _ _) rfl) rfl rfl rfl rfl rfl rfl ⟨Nat.zero_le _, Nat.zero_le _⟩ ?_
        exact g_iret (pc := 35) X rfl dX4_pair_35 rfl (by first | (rw [paA, if_pos hB, ixi, ixj]; done) | (simp [paA, acB, *]; done)) (by first | (rw [rfB, if_pos hB, acK, if_pos hB, ixi, ixj]; done) | first | (simp [paA, acB, rfB, acK, *]; done) | (simp [paA, acB, rfB, acK, *]; rfl))
      · have hB : acB k (nI i) (nI j) = true := by simp only [acB, r5, r13, Bool.true_and, decide_eq_true (show nI i ≠ nI j from fun h => c18 ((nI_eq (by omega) (by omega)).mp h))]
        refine g_aload_n (pc := 21) X dX4_pair_21 0 rfl ?_
        refine g_iload_n (pc := 22) X dX4_pair_22 1 rfl ?_
        refine g_iload_n (pc := 23) X dX4_pair_23 2 rfl ?_
        refine g_callV (pc := 24) (rest := []) (ss' := [wM cy ay (cpK k i j) v]) X (c_X4_give l D cy ay k v i j hi hj c18 hw.2.2.2.2.2.1 hw.2.2.2.2.1) vl_X4_115 dX4_pair_24 [0] 0 0 rfl rfl rfl rfl rfl rfl (ads_c (ads_M _ _ _ _ _ _) rfl) rfl rfl rfl rfl rfl rfl ⟨Nat.zero_le _, Nat.zero_le _⟩ ?_
        generalize hqk24_1 : cpK k i j = k24_1
        refine g_goto (pc := 27) (tgt := 35) X dX4_pair_27 (by decide) ?_
        subst hqk24_1
        exact g_iret (pc := 35) X rfl dX4_pair_35 rfl (by first | (rw [paA, if_pos hB, ixi, ixj]; done) | (simp [paA, acB, *]; done)) (by first | (rw [rfB, if_pos hB, acK, if_pos hB, ixi, ixj]; done) | first | (simp [paA, acB, rfB, acK, *]; done) | (simp [paA, acB, rfB, acK, *]; rfl))
set_option maxRecDepth 100000 in
set_option maxHeartbeats 4000000 in
theorem c_X4_seen (l : Launch) (D : va_G) (cy : ClassId) (ay : Nat → Nat) (k : KV) (v : MV) (room : Int32) (h : Int32) (hw : KW k) : CtI l yX4_seen cX4_seen 5 .int 4 156 D cy [.ref (ay 0), .int (room), .int (h)] [wM cy ay k v] [wM cy ay k (uRf v (rfB (snB room h) (mRf v) (snA k room h)))] (snA k room h) := by
  refine ctI_of (by decide +kernel) (Nat.le_of_ble_eq_true rfl) (fun p_ e_ s_ m_ args_ below_ meth_ c_ A_ X => ?_)
  refine g_lv X (lv' := [(0, .ref (ay 0)), (1, .int (room)), (2, .int (h))]) [0, 1, 2] rfl ?_
  refine g_iload_n (pc := 0) X dX4_seen_0 1 rfl ?_
  refine g_callS (pc := 1) (rest := []) X (c_X4_isRoom l D cy room ) sl_X4_105 dX4_seen_1 rfl rfl rfl rfl rfl ⟨Nat.zero_le _, Nat.zero_le _⟩ ?_
  refine g_bif_ne (pc := 4) (tgt := 13) X dX4_seen_4 (by decide) (fun c4 => ?_) (fun c4 => ?_)
  · refine g_iload_n (pc := 13) X dX4_seen_13 2 rfl ?_
    refine g_if_ge (pc := 14) (tgt := 24) X dX4_seen_14 (by decide) (fun c14 => ?_) (fun c14 => ?_)
    · have n14 := Int32.not_lt.mpr c14
      refine g_iload_n (pc := 24) X dX4_seen_24 2 rfl ?_
      refine g_bipush (v := 7) (pc := 25) X dX4_seen_25 (by decide) ?_
      refine g_icmp_le (pc := 27) (tgt := 37) X dX4_seen_27 (by decide) (fun c27 => ?_) (fun c27 => ?_)
      · have n27 := Int32.not_lt.mpr c27
        have oo := oo_b n14 n27
        obtain ⟨i, hi, rfl⟩ := in_lt (n := 8) (by omega) c14 (Int32.lt_of_le_of_lt c27 (by decide))
        have ixi : ix (nI i) = i := ixn (by omega)
        refine g_iconst (v := 0) (pc := 37) X dX4_seen_37 (by decide) ?_
        refine g_istore_n (lv' := [(3, .int (0)), (0, .ref (ay 0)), (1, .int (room)), (2, .int (nI i))]) (pc := 38) X dX4_seen_38 rfl rfl rfl ?_
        refine g_iconst (v := 0) (pc := 39) X dX4_seen_39 (by decide) ?_
        refine g_istore (lv' := [(4, .int (0)), (3, .int (0)), (0, .ref (ay 0)), (1, .int (room)), (2, .int (nI i))]) (pc := 40) X dX4_seen_40 rfl rfl ?_
        have L42_1 : ∀ (fu_ : Nat) (j : Nat) (hj : j ≤ kNt k) (hm : 9 - j < fu_), G p_ l e_ { frames := 4, cells := 0, slots := 0, locals := 156 } s_ m_ args_ below_ meth_ c_ 5 D A_ 0 0 (QI below_ args_ s_ D A_ [wM cy ay k (uRf v (rfB (snB room (nI i)) (mRf v) (snA k room (nI i))))] (snA k room (nI i))) [wM cy ay k v] 42 [(0, .ref (ay 0)), (1, .int (room)), (2, .int (nI i)), (3, .int (snN k room i j)), (4, .int (nI j))] [] := by
          intro fu_
          induction fu_ with
          | zero => intro j hj hm; exact absurd hm (Nat.not_lt_zero _)
          | succ fu_ ih =>
            intro j hj hm
            have ih42 := ih
            clear ih
            refine g_iload (pc := 42) X dX4_seen_42 4 rfl ?_
            refine g_aload_n (pc := 44) X dX4_seen_44 0 rfl ?_
            refine g_get (pc := 45) X (v := .int (nI (kNt k))) fl_X4_52 dX4_seen_45 0 0 rfl rfl rfl ?_
            refine g_ncmp_ge (pc := 48) (tgt := 78) X dX4_seen_48 (by decide) j (kNt k) rfl rfl (by have := hw.2.2.2.2.2.1; omega) (by have := hw.2.2.2.2.2.1; omega) (fun c48 => ?_) (fun c48 => ?_)
            · have n48 := Nat.not_lt.mpr c48
              refine g_iload_n (pc := 78) X dX4_seen_78 3 rfl ?_
              have ej : j = kNt k := by omega
              exact g_iret (pc := 79) X rfl dX4_seen_79 rfl (by simp [snA, *]) (by first | (simp [snA, snB, rfB, *]; done) | (simp [snA, snB, rfB, *]; rfl))
            · refine g_aload_n (pc := 51) X dX4_seen_51 0 rfl ?_
              refine g_iload (pc := 52) X dX4_seen_52 4 rfl ?_
              refine g_iload_n (pc := 54) X dX4_seen_54 2 rfl ?_
              refine g_callV (pc := 55) (rest := []) (ss' := [wM cy ay k v]) X (c_X4_fromWhere l D cy ay k v j i (by first | assumption | omega) hw.2.2.2.2.2.1 hw.1.1 (by first | assumption | exact hw.2.2.2.2.2.2.1)) vl_X4_139 dX4_seen_55 [0] 0 0 rfl rfl rfl rfl rfl rfl rfl rfl rfl rfl rfl rfl rfl ⟨Nat.zero_le _, Nat.zero_le _⟩ ?_
              refine g_iload_n (pc := 58) X dX4_seen_58 1 rfl ?_
              refine g_callS (pc := 59) (rest := []) X (c_X4_has l D cy (sfK k j i) room ) sl_X4_129 dX4_seen_59 rfl rfl rfl rfl rfl ⟨Nat.zero_le _, Nat.zero_le _⟩ ?_
              refine g_bif_eq (pc := 62) (tgt := 72) X dX4_seen_62 (by decide) (fun c62 => ?_) (fun c62 => ?_)
              · rw [show snN k room i j = snN k room i (j + 1) from sn_f (by have := hw.2.2.2.2.2.1; omega) c62]
                refine g_iinc (v := nI (j + 1)) (lv' := [(4, .int (nI (j + 1))), (0, .ref (ay 0)), (1, .int (room)), (2, .int (nI i)), (3, .int (snN k room i (j + 1)))]) (pc := 72) X dX4_seen_72 4 rfl (nI_1 j) rfl rfl ?_
                refine g_goto (pc := 75) (tgt := 42) X dX4_seen_75 (by decide) ?_
                refine g_lv X (lv' := [(0, .ref (ay 0)), (1, .int (room)), (2, .int (nI i)), (3, .int (snN k room i (j + 1))), (4, .int (nI (j + 1)))]) [1, 2, 3, 4, 0] rfl ?_
                exact ih42 (j + 1) c48 (by have := hw.2.2.2.2.2.1; omega)
              · refine g_iload_n (pc := 65) X dX4_seen_65 3 rfl ?_
                refine g_iconst (v := 1) (pc := 66) X dX4_seen_66 (by decide) ?_
                refine g_iload (pc := 67) X dX4_seen_67 4 rfl ?_
                refine g_ishl (v := shl 1 (nI j)) (pc := 69) X dX4_seen_69 rfl ?_
                refine g_ior (v := snN k room i (j + 1)) (pc := 70) X dX4_seen_70 (sn_t c62) ?_
                refine g_istore_n (lv' := [(3, .int (snN k room i (j + 1))), (0, .ref (ay 0)), (1, .int (room)), (2, .int (nI i)), (4, .int (nI j))]) (pc := 71) X dX4_seen_71 rfl rfl rfl ?_
                refine g_iinc (v := nI (j + 1)) (lv' := [(4, .int (nI (j + 1))), (3, .int (snN k room i (j + 1))), (0, .ref (ay 0)), (1, .int (room)), (2, .int (nI i))]) (pc := 72) X dX4_seen_72 4 rfl (nI_1 j) rfl rfl ?_
                refine g_goto (pc := 75) (tgt := 42) X dX4_seen_75 (by decide) ?_
                refine g_lv X (lv' := [(0, .ref (ay 0)), (1, .int (room)), (2, .int (nI i)), (3, .int (snN k room i (j + 1))), (4, .int (nI (j + 1)))]) [2, 3, 4, 1, 0] rfl ?_
                exact ih42 (j + 1) c48 (by have := hw.2.2.2.2.2.1; omega)
        refine g_lv X (lv' := [(0, .ref (ay 0)), (1, .int (room)), (2, .int (nI i)), (3, .int (0)), (4, .int (0))]) [2, 3, 4, 1, 0] rfl ?_
        exact L42_1 (9 - 0 + 1) 0 (Nat.zero_le _) (Nat.lt_succ_self _)
      · have oo := oo_h n14 c27
        refine g_aload_n (pc := 30) X dX4_seen_30 0 rfl ?_
        refine g_bipush (v := (-6)) (pc := 31) X dX4_seen_31 (by decide) ?_
        refine g_callV (pc := 33) (rest := []) (ss' := [wM cy ay k (uRf v (rfU (mRf v) ((-6))))]) X (c_X4_no l D cy ay k v ((-6)) rf_6) vl_X4_63 dX4_seen_33 [0] 0 0 rfl rfl rfl rfl rfl rfl (ads_c (ads_M _ _ _ _ _ _) rfl) rfl rfl rfl rfl rfl rfl ⟨Nat.zero_le _, Nat.zero_le _⟩ ?_
        exact g_iret (pc := 36) X rfl dX4_seen_36 rfl (by simp [snA, *]) (by first | (simp [snA, snB, rfB, *]; done) | (simp [snA, snB, rfB, *]; rfl))
    · have oo := oo_l (hi := 7) c14
      refine g_aload_n (pc := 17) X dX4_seen_17 0 rfl ?_
      refine g_bipush (v := (-4)) (pc := 18) X dX4_seen_18 (by decide) ?_
      refine g_callV (pc := 20) (rest := []) (ss' := [wM cy ay k (uRf v (rfU (mRf v) ((-4))))]) X (c_X4_no l D cy ay k v ((-4)) rf_4) vl_X4_63 dX4_seen_20 [0] 0 0 rfl rfl rfl rfl rfl rfl (ads_c (ads_M _ _ _ _ _ _) rfl) rfl rfl rfl rfl rfl rfl ⟨Nat.zero_le _, Nat.zero_le _⟩ ?_
      exact g_iret (pc := 23) X rfl dX4_seen_23 rfl (by simp [snA, *]) (by first | (simp [snA, snB, rfB, *]; done) | (simp [snA, snB, rfB, *]; rfl))
  · refine g_aload_n (pc := 7) X dX4_seen_7 0 rfl ?_
    refine g_iconst (v := (-1)) (pc := 8) X dX4_seen_8 (by decide) ?_
    refine g_callV (pc := 9) (rest := []) (ss' := [wM cy ay k (uRf v (rfU (mRf v) ((-1))))]) X (c_X4_no l D cy ay k v ((-1)) rf_1) vl_X4_63 dX4_seen_9 [0] 0 0 rfl rfl rfl rfl rfl rfl (ads_c (ads_M _ _ _ _ _ _) rfl) rfl rfl rfl rfl rfl rfl ⟨Nat.zero_le _, Nat.zero_le _⟩ ?_
    exact g_iret (pc := 12) X rfl dX4_seen_12 rfl (by simp [snA, *]) (by first | (simp [snA, snB, rfB, *]; done) | (simp [snA, snB, rfB, *]; rfl))
set_option maxRecDepth 100000 in
set_option maxHeartbeats 4000000 in
theorem c_X4_from (l : Launch) (D : va_G) (cy : ClassId) (ay : Nat → Nat) (k : KV) (v : MV) (t : Int32) (h : Int32) (hw : KW k) : CtI l yX4_from cX4_from 3 .int 4 156 D cy [.ref (ay 0), .int (t), .int (h)] [wM cy ay k v] [wM cy ay k (uRf v (rfB (frB k t h) (mRf v) (frA k t h)))] (frA k t h) := by
  refine ctI_of (by decide +kernel) (Nat.le_of_ble_eq_true rfl) (fun p_ e_ s_ m_ args_ below_ meth_ c_ A_ X => ?_)
  refine g_lv X (lv' := [(0, .ref (ay 0)), (1, .int (t)), (2, .int (h))]) [0, 1, 2] rfl ?_
  refine g_aload_n (pc := 0) X dX4_from_0 0 rfl ?_
  refine g_iload_n (pc := 1) X dX4_from_1 1 rfl ?_
  refine g_callV (pc := 2) (rest := []) (ss' := [wM cy ay k v]) X (c_X4_isThing l D cy ay k v t hw.2.2.2.2.2.1) vl_X4_112 dX4_from_2 [0] 0 0 rfl rfl rfl rfl rfl rfl rfl rfl rfl rfl rfl rfl rfl ⟨Nat.zero_le _, Nat.zero_le _⟩ ?_
  refine g_bif_ne (pc := 5) (tgt := 14) X dX4_from_5 (by decide) (fun c5 => ?_) (fun c5 => ?_)
  · have r5 := c5
    obtain ⟨j, hj, rfl⟩ := hasT_t hw.2.2.2.2.2.1 c5
    have ixj : ix (nI j) = j := ixn (by have := hw.2.2.2.2.2.1; omega)
    refine g_iload_n (pc := 14) X dX4_from_14 2 rfl ?_
    refine g_if_ge (pc := 15) (tgt := 25) X dX4_from_15 (by decide) (fun c15 => ?_) (fun c15 => ?_)
    · have n15 := Int32.not_lt.mpr c15
      refine g_iload_n (pc := 25) X dX4_from_25 2 rfl ?_
      refine g_bipush (v := 7) (pc := 26) X dX4_from_26 (by decide) ?_
      refine g_icmp_le (pc := 28) (tgt := 40) X dX4_from_28 (by decide) (fun c28 => ?_) (fun c28 => ?_)
      · have n28 := Int32.not_lt.mpr c28
        have oo := oo_b n15 n28
        obtain ⟨i, hi, rfl⟩ := in_lt (n := 8) (by omega) c15 (Int32.lt_of_le_of_lt c28 (by decide))
        have ixi : ix (nI i) = i := ixn (by omega)
        refine g_aload_n (pc := 40) X dX4_from_40 0 rfl ?_
        refine g_iload_n (pc := 41) X dX4_from_41 1 rfl ?_
        refine g_iload_n (pc := 42) X dX4_from_42 2 rfl ?_
        refine g_callV (pc := 43) (rest := []) (ss' := [wM cy ay k v]) X (c_X4_fromWhere l D cy ay k v j i (by first | assumption | omega) hw.2.2.2.2.2.1 hw.1.1 (by first | assumption | exact hw.2.2.2.2.2.2.1)) vl_X4_139 dX4_from_43 [0] 0 0 rfl rfl rfl rfl rfl rfl rfl rfl rfl rfl rfl rfl rfl ⟨Nat.zero_le _, Nat.zero_le _⟩ ?_
        exact g_iret (pc := 46) X rfl dX4_from_46 rfl (by simp [frA, *]) (by first | (simp [frA, frB, rfB, *]; done) | (simp [frA, frB, rfB, *]; rfl))
      · have oo := oo_h n15 c28
        refine g_aload_n (pc := 31) X dX4_from_31 0 rfl ?_
        refine g_bipush (v := (-6)) (pc := 32) X dX4_from_32 (by decide) ?_
        refine g_callV (pc := 34) (rest := []) (ss' := [wM cy ay k (uRf v (rfU (mRf v) ((-6))))]) X (c_X4_no l D cy ay k v ((-6)) rf_6) vl_X4_63 dX4_from_34 [0] 0 0 rfl rfl rfl rfl rfl rfl (ads_c (ads_M _ _ _ _ _ _) rfl) rfl rfl rfl rfl rfl rfl ⟨Nat.zero_le _, Nat.zero_le _⟩ ?_
        refine g_goto (pc := 37) (tgt := 46) X dX4_from_37 (by decide) ?_
        exact g_iret (pc := 46) X rfl dX4_from_46 rfl (by simp [frA, *]) (by first | (simp [frA, frB, rfB, *]; done) | (simp [frA, frB, rfB, *]; rfl))
    · have oo := oo_l (hi := 7) c15
      refine g_aload_n (pc := 18) X dX4_from_18 0 rfl ?_
      refine g_bipush (v := (-4)) (pc := 19) X dX4_from_19 (by decide) ?_
      refine g_callV (pc := 21) (rest := []) (ss' := [wM cy ay k (uRf v (rfU (mRf v) ((-4))))]) X (c_X4_no l D cy ay k v ((-4)) rf_4) vl_X4_63 dX4_from_21 [0] 0 0 rfl rfl rfl rfl rfl rfl (ads_c (ads_M _ _ _ _ _ _) rfl) rfl rfl rfl rfl rfl rfl ⟨Nat.zero_le _, Nat.zero_le _⟩ ?_
      exact g_iret (pc := 24) X rfl dX4_from_24 rfl (by simp [frA, *]) (by first | (simp [frA, frB, rfB, *]; done) | (simp [frA, frB, rfB, *]; rfl))
  · refine g_aload_n (pc := 8) X dX4_from_8 0 rfl ?_
    refine g_iconst (v := (-1)) (pc := 9) X dX4_from_9 (by decide) ?_
    refine g_callV (pc := 10) (rest := []) (ss' := [wM cy ay k (uRf v (rfU (mRf v) ((-1))))]) X (c_X4_no l D cy ay k v ((-1)) rf_1) vl_X4_63 dX4_from_10 [0] 0 0 rfl rfl rfl rfl rfl rfl (ads_c (ads_M _ _ _ _ _ _) rfl) rfl rfl rfl rfl rfl rfl ⟨Nat.zero_le _, Nat.zero_le _⟩ ?_
    exact g_iret (pc := 13) X rfl dX4_from_13 rfl (by simp [frA, *]) (by first | (simp [frA, frB, rfB, *]; done) | (simp [frA, frB, rfB, *]; rfl))
set_option maxRecDepth 100000 in
set_option maxHeartbeats 4000000 in
theorem c_X4_sins (l : Launch) (D : va_G) (cy : ClassId) (ay : Nat → Nat) (k : KV) (v : MV) (h : Int32) (w : Int32) (hw : KW k) : CtIE l yX4_sins cX4_sins 4 .int 6 203 D cy [.ref (ay 0), .int (h), .int (w)] [wM cy ay k v] (fun (u_ : (Nat → Int32)) => [wM cy ay k (uSn (uRf v (rfB (siB h w) (mRf v) (siA k h w))) u_)]) (siA k h w) := by
  have h8 := hw.2.2.2.2.2.1
  have ho := hw.2.2.2.2.1
  refine ctIE_of (by decide +kernel) (Nat.le_of_ble_eq_true rfl) (fun p_ e_ s_ m_ args_ below_ meth_ c_ A_ X => ?_)
  refine g_lv X (lv' := [(0, .ref (ay 0)), (1, .int (h)), (2, .int (w))]) [0, 1, 2] rfl ?_
  refine g_iload_n (pc := 0) X dX4_sins_0 1 rfl ?_
  refine g_if_ge (pc := 1) (tgt := 11) X dX4_sins_1 (by decide) (fun c1 => ?_) (fun c1 => ?_)
  · have n1 := Int32.not_lt.mpr c1
    refine g_iload_n (pc := 11) X dX4_sins_11 1 rfl ?_
    refine g_bipush (v := 7) (pc := 12) X dX4_sins_12 (by decide) ?_
    refine g_icmp_le (pc := 14) (tgt := 24) X dX4_sins_14 (by decide) (fun c14 => ?_) (fun c14 => ?_)
    · have n14 := Int32.not_lt.mpr c14
      have oo := oo_b n1 n14
      obtain ⟨i, hi, rfl⟩ := in_lt (n := 8) (by omega) c1 (Int32.lt_of_le_of_lt c14 (by decide))
      have ixi : ix (nI i) = i := ixn (by omega)
      refine g_iload_n (pc := 24) X dX4_sins_24 2 rfl ?_
      refine g_iconst (v := 0) (pc := 25) X dX4_sins_25 (by decide) ?_
      refine g_iconst (v := 1) (pc := 26) X dX4_sins_26 (by decide) ?_
      refine g_callS (pc := 27) (rest := []) X (c_X4_within l D cy w 0 1 ) sl_X4_56 dX4_sins_27 rfl rfl rfl rfl rfl ⟨Nat.zero_le _, Nat.zero_le _⟩ ?_
      refine g_bif_ne (pc := 30) (tgt := 40) X dX4_sins_30 (by decide) (fun c30 => ?_) (fun c30 => ?_)
      · have w3 := wi_1 c30
        refine g_aload_n (pc := 40) X dX4_sins_40 0 rfl ?_
        refine g_iload_n (pc := 41) X dX4_sins_41 1 rfl ?_
        refine g_callVE (pc := 42) (rest := []) (ss' := fun (u_ : (Nat → Int32)) => [wM cy ay k (uSn v u_)]) X (c_X4_sinsIn l D cy ay k v i hw.2.2.2.2.2.1 hw.1.1 hw.2.2.2.2.1 (by first | assumption | exact hw.2.2.2.2.2.2.1)) vl_X4_146 dX4_sins_42 [0] 0 0 rfl rfl rfl rfl rfl rfl (fun _ => (ads_c (ads_M _ _ _ _ _ _) rfl)) (fun _ => rfl) rfl rfl rfl rfl rfl ⟨Nat.zero_le _, Nat.zero_le _⟩ ?_
        rintro xs_42_1
        refine g_eq X (ss' := [wM cy ay k (uSn v xs_42_1)]) rfl ?_
        have hlt := si_lt (h := i) ho h8
        refine g_istore_n (lv' := [(3, .int (nI (siN k i))), (0, .ref (ay 0)), (1, .int (nI i)), (2, .int (w))]) (pc := 45) X dX4_sins_45 rfl rfl rfl ?_
        refine g_iload_n (pc := 46) X dX4_sins_46 3 rfl ?_
        refine g_if_ne (pc := 47) (tgt := 57) X dX4_sins_47 (by decide) (fun c47 => ?_) (fun c47 => ?_)
        · refine g_iload_n (pc := 57) X dX4_sins_57 0 rfl ?_
          refine g_nif_ne (pc := 58) (tgt := 66) X dX4_sins_58 (by decide) (siN k i) rfl (by omega) (fun c58 => ?_) (fun c58 => ?_)
          · refine g_iload_n (pc := 66) X dX4_sins_66 0 rfl ?_
            refine g_bipush (v := 100) (pc := 67) X dX4_sins_67 (by decide) ?_
            refine g_irem (v := nI ((siN k i) % 100)) (pc := 69) X dX4_sins_69 (by decide) (pk_rem (a := siN k i) (d := 100) (by omega) (by decide) (by decide)) ?_
            exact g_iretE (pc := 70) X (xs_42_1) rfl dX4_sins_70 rfl (by first | (rw [siA, if_pos oo, if_pos c47, ixi]; exact congrArg nI (si_d ho h8)) | (rw [siA, if_pos oo, if_neg c47, if_pos (w3.resolve_left c47), ixi]; first | exact si_r ho h8 c58 | exact ((si_0 ho h8).mp c58).symm) | (simp [siA, *]; done)) (by first | (rcases w3 with w3 | w3 <;> (simp [siA, siB, rfB, *]; done)) | first | (simp [siA, siB, rfB, *]; done) | (simp [siA, siB, rfB, *]; rfl))
          · refine g_bipush (v := (-9)) (pc := 61) X dX4_sins_61 (by decide) ?_
            refine g_goto (pc := 63) (tgt := 70) X dX4_sins_63 (by decide) ?_
            exact g_iretE (pc := 70) X (xs_42_1) rfl dX4_sins_70 rfl (by first | (rw [siA, if_pos oo, if_pos c47, ixi]; exact congrArg nI (si_d ho h8)) | (rw [siA, if_pos oo, if_neg c47, if_pos (w3.resolve_left c47), ixi]; first | exact si_r ho h8 c58 | exact ((si_0 ho h8).mp c58).symm) | (simp [siA, *]; done)) (by first | (rcases w3 with w3 | w3 <;> (simp [siA, siB, rfB, *]; done)) | first | (simp [siA, siB, rfB, *]; done) | (simp [siA, siB, rfB, *]; rfl))
        · refine g_iload_n (pc := 50) X dX4_sins_50 0 rfl ?_
          refine g_bipush (v := 100) (pc := 51) X dX4_sins_51 (by decide) ?_
          refine g_idiv (v := nI ((siN k i) / 100)) (pc := 53) X dX4_sins_53 (by decide) (pk_div (a := siN k i) (d := 100) (by omega) (by decide) (by decide)) ?_
          refine g_goto (pc := 54) (tgt := 70) X dX4_sins_54 (by decide) ?_
          exact g_iretE (pc := 70) X (xs_42_1) rfl dX4_sins_70 rfl (by first | (rw [siA, if_pos oo, if_pos c47, ixi]; exact congrArg nI (si_d ho h8)) | (rw [siA, if_pos oo, if_neg c47, if_pos (w3.resolve_left c47), ixi]; first | exact si_r ho h8 c58 | exact ((si_0 ho h8).mp c58).symm) | (simp [siA, *]; done)) (by first | (rcases w3 with w3 | w3 <;> (simp [siA, siB, rfB, *]; done)) | first | (simp [siA, siB, rfB, *]; done) | (simp [siA, siB, rfB, *]; rfl))
      · have w3 := wi_1f c30
        refine g_aload_n (pc := 33) X dX4_sins_33 0 rfl ?_
        refine g_bipush (v := (-2)) (pc := 34) X dX4_sins_34 (by decide) ?_
        refine g_callV (pc := 36) (rest := []) (ss' := [wM cy ay k (uRf v (rfU (mRf v) ((-2))))]) X (c_X4_no l D cy ay k v ((-2)) rf_2) vl_X4_63 dX4_sins_36 [0] 0 0 rfl rfl rfl rfl rfl rfl (ads_c (ads_M _ _ _ _ _ _) rfl) rfl rfl rfl rfl rfl rfl ⟨Nat.zero_le _, Nat.zero_le _⟩ ?_
        exact g_iretE (pc := 39) X (mSn v) rfl dX4_sins_39 rfl (by first | (rw [siA, if_pos oo, if_pos c47, ixi]; exact congrArg nI (si_d ho h8)) | (rw [siA, if_pos oo, if_neg c47, if_pos (w3.resolve_left c47), ixi]; first | exact si_r ho h8 c58 | exact ((si_0 ho h8).mp c58).symm) | (simp [siA, *]; done)) (by first | (rcases w3 with w3 | w3 <;> (simp [siA, siB, rfB, *]; done)) | first | (simp [siA, siB, rfB, *]; done) | (simp [siA, siB, rfB, *]; rfl))
    · have oo := oo_h n1 c14
      refine g_aload_n (pc := 17) X dX4_sins_17 0 rfl ?_
      refine g_bipush (v := (-6)) (pc := 18) X dX4_sins_18 (by decide) ?_
      refine g_callV (pc := 20) (rest := []) (ss' := [wM cy ay k (uRf v (rfU (mRf v) ((-6))))]) X (c_X4_no l D cy ay k v ((-6)) rf_6) vl_X4_63 dX4_sins_20 [0] 0 0 rfl rfl rfl rfl rfl rfl (ads_c (ads_M _ _ _ _ _ _) rfl) rfl rfl rfl rfl rfl rfl ⟨Nat.zero_le _, Nat.zero_le _⟩ ?_
      exact g_iretE (pc := 23) X (mSn v) rfl dX4_sins_23 rfl (by first | (rw [siA, if_pos oo, if_pos c47, ixi]; exact congrArg nI (si_d ho h8)) | (rw [siA, if_pos oo, if_neg c47, if_pos (w3.resolve_left c47), ixi]; first | exact si_r ho h8 c58 | exact ((si_0 ho h8).mp c58).symm) | (simp [siA, *]; done)) (by first | (rcases w3 with w3 | w3 <;> (simp [siA, siB, rfB, *]; done)) | first | (simp [siA, siB, rfB, *]; done) | (simp [siA, siB, rfB, *]; rfl))
  · have oo := oo_l (hi := 7) c1
    refine g_aload_n (pc := 4) X dX4_sins_4 0 rfl ?_
    refine g_bipush (v := (-4)) (pc := 5) X dX4_sins_5 (by decide) ?_
    refine g_callV (pc := 7) (rest := []) (ss' := [wM cy ay k (uRf v (rfU (mRf v) ((-4))))]) X (c_X4_no l D cy ay k v ((-4)) rf_4) vl_X4_63 dX4_sins_7 [0] 0 0 rfl rfl rfl rfl rfl rfl (ads_c (ads_M _ _ _ _ _ _) rfl) rfl rfl rfl rfl rfl rfl ⟨Nat.zero_le _, Nat.zero_le _⟩ ?_
    exact g_iretE (pc := 10) X (mSn v) rfl dX4_sins_10 rfl (by first | (rw [siA, if_pos oo, if_pos c47, ixi]; exact congrArg nI (si_d ho h8)) | (rw [siA, if_pos oo, if_neg c47, if_pos (w3.resolve_left c47), ixi]; first | exact si_r ho h8 c58 | exact ((si_0 ho h8).mp c58).symm) | (simp [siA, *]; done)) (by first | (rcases w3 with w3 | w3 <;> (simp [siA, siB, rfB, *]; done)) | first | (simp [siA, siB, rfB, *]; done) | (simp [siA, siB, rfB, *]; rfl))
set_option maxRecDepth 100000 in
set_option maxHeartbeats 4000000 in
theorem c_X4_day (l : Launch) (D : va_G) (cy : ClassId) (ay : Nat → Nat) (k : KV) (v : MV) (hw : KW k) : CtIE l yX4_day cX4_day 2 .int 6 203 D cy [.ref (ay 0)] [wM cy ay k v] (fun (u_ : (Nat → Int32)) => [wM cy ay k (uSn v u_)]) (fdK k) := by
  have h8 := hw.2.2.2.2.2.1
  have ho := hw.2.2.2.2.1
  refine ctIE_of (by decide +kernel) (Nat.le_of_ble_eq_true rfl) (fun p_ e_ s_ m_ args_ below_ meth_ c_ A_ X => ?_)
  refine g_lv X (lv' := [(0, .ref (ay 0))]) [0] rfl ?_
  refine g_iconst (v := 0) (pc := 0) X dX4_day_0 (by decide) ?_
  refine g_istore_n (lv' := [(1, .int (0)), (0, .ref (ay 0))]) (pc := 1) X dX4_day_1 rfl rfl rfl ?_
  have L2_1 : ∀ (fu_ : Nat) (j : Nat) (sn : Nat → Int32) (hj : j ≤ 8) (hq : fdK k = fnd (fun h => decide (fsK k h ≠ -9)) nI (8 - j) j) (hm : 8 - j < fu_), G p_ l e_ { frames := 6, cells := 0, slots := 0, locals := 203 } s_ m_ args_ below_ meth_ c_ 2 D A_ 0 0 (QIE below_ args_ s_ D A_ (fun (u_ : (Nat → Int32)) => [wM cy ay k (uSn v u_)]) (fdK k)) [wM cy ay k (uSn v sn)] 2 [(0, .ref (ay 0)), (1, .int (nI j))] [] := by
    intro fu_
    induction fu_ with
    | zero => intro j sn hj hq hm; exact absurd hm (Nat.not_lt_zero _)
    | succ fu_ ih =>
      intro j sn hj hq hm
      have ih2 := ih
      clear ih
      refine g_iload_n (pc := 2) X dX4_day_2 1 rfl ?_
      refine g_bipush (v := 8) (pc := 3) X dX4_day_3 (by decide) ?_
      refine g_ncmp_ge (pc := 5) (tgt := 24) X dX4_day_5 (by decide) j 8 rfl rfl (by omega) (by decide) (fun c5 => ?_) (fun c5 => ?_)
      · have n5 := Nat.not_lt.mpr c5
        refine g_bipush (v := (-9)) (pc := 24) X dX4_day_24 (by decide) ?_
        exact g_iretE (pc := 26) X (sn) rfl dX4_day_26 rfl (by rw [hq, show 8 - j = 0 by omega]; rfl) rfl
      · refine g_aload_n (pc := 8) X dX4_day_8 0 rfl ?_
        refine g_iload_n (pc := 9) X dX4_day_9 1 rfl ?_
        refine g_callVE (pc := 10) (rest := []) (ss' := fun (u_ : (Nat → Int32)) => [wM cy ay k (uSn v u_)]) X (c_X4_sinsIn l D cy ay k (uSn v sn) j hw.2.2.2.2.2.1 hw.1.1 hw.2.2.2.2.1 c5) vl_X4_146 dX4_day_10 [0] 0 0 rfl rfl rfl rfl rfl rfl (fun _ => (ads_c (ads_M _ _ _ _ _ _) rfl)) (fun _ => rfl) rfl rfl rfl rfl rfl ⟨Nat.zero_le _, Nat.zero_le _⟩ ?_
        rintro xs_10_1
        refine g_eq X (ss' := [wM cy ay k (uSn v xs_10_1)]) rfl ?_
        have hlt := si_lt (h := j) ho h8
        refine g_nif_le (pc := 13) (tgt := 18) X dX4_day_13 (by decide) (siN k j) rfl (by omega) (fun c13 => ?_) (fun c13 => ?_)
        · refine g_iinc (v := nI (j + 1)) (lv' := [(1, .int (nI (j + 1))), (0, .ref (ay 0))]) (pc := 18) X dX4_day_18 1 rfl (nI_1 j) rfl rfl ?_
          refine g_goto (pc := 21) (tgt := 2) X dX4_day_21 (by decide) ?_
          refine g_lv X (lv' := [(0, .ref (ay 0)), (1, .int (nI (j + 1)))]) [1, 0] rfl ?_
          exact ih2 (j + 1) xs_10_1 c5 (by rw [hq, show 8 - j = (8 - (j + 1)) + 1 by omega, fnd, if_neg (by simp [(si_0 (h := j) ho h8).mp c13])]) (by omega)
        · refine g_iload_n (pc := 16) X dX4_day_16 1 rfl ?_
          exact g_iretE (pc := 17) X (xs_10_1) rfl dX4_day_17 rfl (by rw [hq, show 8 - j = (8 - (j + 1)) + 1 by omega, fnd, if_pos (decide_eq_true ((si_p ho h8).mp c13))]) rfl
  refine g_lv X (lv' := [(0, .ref (ay 0)), (1, .int (0))]) [1, 0] rfl ?_
  exact L2_1 (8 - 0 + 1) 0 (mSn v) (Nat.zero_le _) rfl (Nat.lt_succ_self _)
set_option maxRecDepth 100000 in
set_option maxHeartbeats 4000000 in
theorem c_X4_curtains (l : Launch) (D : va_G) (cy : ClassId) (ay : Nat → Nat) (k : KV) (v : MV) (hw : KW k) : CtIE l yX4_curtains cX4_curtains 4 .int 6 203 D cy [.ref (ay 0)] [wM cy ay k v] (fun (u_ : (Nat → Int32)) => [wM cy ay k (uSn v u_)]) (cuA k) := by
  have h8 := hw.2.2.2.2.2.1
  have ho := hw.2.2.2.2.1
  obtain ⟨M, hM⟩ : ∃ M, M = 2 ^ kNl k := ⟨_, rfl⟩
  have hM10 : M ≤ 1024 := hM ▸ pw_le hw.1.1
  refine ctIE_of (by decide +kernel) (Nat.le_of_ble_eq_true rfl) (fun p_ e_ s_ m_ args_ below_ meth_ c_ A_ X => ?_)
  refine g_lv X (lv' := [(0, .ref (ay 0))]) [0] rfl ?_
  refine g_aload_n (pc := 0) X dX4_curtains_0 0 rfl ?_
  refine g_get (pc := 1) X (v := .int (kHd k)) fl_X4_92 dX4_curtains_1 0 0 rfl rfl rfl ?_
  refine g_istore_n (lv' := [(1, .int (kHd k)), (0, .ref (ay 0))]) (pc := 4) X dX4_curtains_4 rfl rfl rfl ?_
  refine g_bipush (v := (-9)) (pc := 5) X dX4_curtains_5 (by decide) ?_
  refine g_istore_n (lv' := [(2, .int ((-9))), (1, .int (kHd k)), (0, .ref (ay 0))]) (pc := 7) X dX4_curtains_7 rfl rfl rfl ?_
  refine g_iconst (v := 0) (pc := 8) X dX4_curtains_8 (by decide) ?_
  refine g_istore_n (lv' := [(3, .int (0)), (2, .int ((-9))), (1, .int (kHd k)), (0, .ref (ay 0))]) (pc := 9) X dX4_curtains_9 rfl rfl rfl ?_
  have L10_1 : ∀ (fu_ : Nat) (b : Nat) (y : Int32) (sn : Nat → Int32) (hb : b ≤ M) (hm : M - b < fu_), G p_ l e_ { frames := 6, cells := 0, slots := 0, locals := 203 } s_ m_ args_ below_ meth_ c_ 4 D A_ 0 0 (QIE below_ args_ s_ D A_ (fun (u_ : (Nat → Int32)) => [wM cy ay k (uSn v u_)]) (cuA k)) [wM cy ay (sHd k y) (uSn v sn)] 10 [(0, .ref (ay 0)), (1, .int (kHd k)), (2, .int (cuN k b)), (3, .int (nI b))] [] := by
    intro fu_
    induction fu_ with
    | zero => intro b y sn hb hm; exact absurd hm (Nat.not_lt_zero _)
    | succ fu_ ih =>
      intro b y sn hb hm
      have ih10 := ih
      clear ih
      refine g_iload_n (pc := 10) X dX4_curtains_10 3 rfl ?_
      refine g_iconst (v := 1) (pc := 11) X dX4_curtains_11 (by decide) ?_
      refine g_aload_n (pc := 12) X dX4_curtains_12 0 rfl ?_
      refine g_get (pc := 13) X (v := .int (nI (kNl k))) fl_X4_60 dX4_curtains_13 0 0 rfl rfl rfl ?_
      refine g_ishl (v := nI M) (pc := 16) X dX4_curtains_16 (by rw [hM]; exact shl1_n _ hw.1.1) ?_
      refine g_ncmp_ge (pc := 17) (tgt := 62) X dX4_curtains_17 (by decide) b M rfl rfl (by omega) (by omega) (fun c17 => ?_) (fun c17 => ?_)
      · have n17 := Nat.not_lt.mpr c17
        refine g_aload_n (pc := 62) X dX4_curtains_62 0 rfl ?_
        refine g_iload_n (pc := 63) X dX4_curtains_63 1 rfl ?_
        refine g_put (pc := 64) X (ss' := [wM cy ay (sHd k (kHd k)) (uSn v sn)]) fp_X4_92 dX4_curtains_64 0 0 rfl rfl rfl rfl rfl rfl ?_
        refine g_iload_n (pc := 67) X dX4_curtains_67 2 rfl ?_
        have eb : b = 2 ^ kNl k := by omega
        exact g_iretE (pc := 68) X (sn) rfl dX4_curtains_68 rfl (by rw [cuA, eb]) rfl
      · refine g_iload_n (pc := 20) X dX4_curtains_20 2 rfl ?_
        refine g_if_lt (pc := 21) (tgt := 38) X dX4_curtains_21 (by decide) (fun c21 => ?_) (fun c21 => ?_)
        · have hx : cuN k b = -9 ∨ bcI (nI b) < bcI (cuN k b) := Or.inl (cu_neg (by omega) c21)
          refine g_aload_n (pc := 38) X dX4_curtains_38 0 rfl ?_
          refine g_iload_n (pc := 39) X dX4_curtains_39 3 rfl ?_
          refine g_put (pc := 40) X (ss' := [wM cy ay (sHd k (nI b)) (uSn v sn)]) fp_X4_92 dX4_curtains_40 0 0 rfl rfl rfl rfl rfl rfl ?_
          refine g_aload_n (pc := 43) X dX4_curtains_43 0 rfl ?_
          refine g_aload_n (pc := 44) X dX4_curtains_44 0 rfl ?_
          refine g_get (pc := 45) X (v := .int (nI (kHr k))) fl_X4_95 dX4_curtains_45 0 0 rfl rfl rfl ?_
          refine g_callVE (pc := 48) (rest := []) (ss' := fun (u_ : (Nat → Int32)) => [wM cy ay (sHd k (nI b)) (uSn v u_)]) X (c_X4_sinsIn l D cy ay (sHd k (nI b)) (uSn v sn) (kHr k) hw.2.2.2.2.2.1 hw.1.1 hw.2.2.2.2.1 hw.2.2.2.2.2.2.1) vl_X4_146 dX4_curtains_48 [0] 0 0 rfl rfl rfl rfl rfl rfl (fun _ => (ads_c (ads_M _ _ _ _ _ _) rfl)) (fun _ => rfl) rfl rfl rfl rfl rfl ⟨Nat.zero_le _, Nat.zero_le _⟩ ?_
          rintro xs_48_1
          refine g_eq X (ss' := [wM cy ay (sHd k (nI b)) (uSn v xs_48_1)]) rfl ?_
          have hlt := si_lt (k := sHd k (nI b)) (h := kHr k) ho h8
          refine g_nif_ne (pc := 51) (tgt := 56) X dX4_curtains_51 (by decide) (siN (sHd k (nI b)) (kHr k)) rfl (by omega) (fun c51 => ?_) (fun c51 => ?_)
          · have hc : cuN k b = cuN k (b + 1) := cu_sin ((si_p (k := sHd k (nI b)) ho h8).mp (Nat.pos_of_ne_zero c51))
            rw [hc]
            refine g_iinc (v := nI (b + 1)) (lv' := [(3, .int (nI (b + 1))), (0, .ref (ay 0)), (1, .int (kHd k)), (2, .int (cuN k (b + 1)))]) (pc := 56) X dX4_curtains_56 3 rfl (nI_1 b) rfl rfl ?_
            refine g_goto (pc := 59) (tgt := 10) X dX4_curtains_59 (by decide) ?_
            refine g_lv X (lv' := [(0, .ref (ay 0)), (1, .int (kHd k)), (2, .int (cuN k (b + 1))), (3, .int (nI (b + 1)))]) [1, 2, 3, 0] rfl ?_
            exact ih10 (b + 1) (nI b) xs_48_1 c17 (by omega)
          · have hc := cu_tk hx ((si_0 (k := sHd k (nI b)) ho h8).mp c51)
            refine g_iload_n (pc := 54) X dX4_curtains_54 3 rfl ?_
            refine g_istore_n (lv' := [(2, .int (nI b)), (0, .ref (ay 0)), (1, .int (kHd k)), (3, .int (nI b))]) (pc := 55) X dX4_curtains_55 rfl rfl rfl ?_
            refine g_lvv X (lv' := [(2, .int (cuN k (b + 1))), (0, .ref (ay 0)), (1, .int (kHd k)), (3, .int (nI b))]) (by rw [hc]) ?_
            refine g_iinc (v := nI (b + 1)) (lv' := [(3, .int (nI (b + 1))), (2, .int (cuN k (b + 1))), (0, .ref (ay 0)), (1, .int (kHd k))]) (pc := 56) X dX4_curtains_56 3 rfl (nI_1 b) rfl rfl ?_
            refine g_goto (pc := 59) (tgt := 10) X dX4_curtains_59 (by decide) ?_
            refine g_lv X (lv' := [(0, .ref (ay 0)), (1, .int (kHd k)), (2, .int (cuN k (b + 1))), (3, .int (nI (b + 1)))]) [2, 3, 1, 0] rfl ?_
            exact ih10 (b + 1) (nI b) xs_48_1 c17 (by omega)
        · have n21 := Int32.not_lt.mpr c21
          refine g_iload_n (pc := 24) X dX4_curtains_24 3 rfl ?_
          refine g_callS (pc := 25) (rest := []) X (c_J6_bitCount_0f7a4 l D cy (nI b) ) sl_X4_149 dX4_curtains_25 rfl rfl rfl rfl rfl ⟨Nat.zero_le _, Nat.zero_le _⟩ ?_
          refine g_iload_n (pc := 28) X dX4_curtains_28 2 rfl ?_
          refine g_callS (pc := 29) (rest := [.int (bcI (nI b))]) X (c_J6_bitCount_0f7a4 l D cy (cuN k b) ) sl_X4_149 dX4_curtains_29 rfl rfl rfl rfl rfl ⟨Nat.zero_le _, Nat.zero_le _⟩ ?_
          refine g_icmp_lt (pc := 32) (tgt := 38) X dX4_curtains_32 (by decide) (fun c32 => ?_) (fun c32 => ?_)
          · have hx : cuN k b = -9 ∨ bcI (nI b) < bcI (cuN k b) := Or.inr c32
            refine g_aload_n (pc := 38) X dX4_curtains_38 0 rfl ?_
            refine g_iload_n (pc := 39) X dX4_curtains_39 3 rfl ?_
            refine g_put (pc := 40) X (ss' := [wM cy ay (sHd k (nI b)) (uSn v sn)]) fp_X4_92 dX4_curtains_40 0 0 rfl rfl rfl rfl rfl rfl ?_
            refine g_aload_n (pc := 43) X dX4_curtains_43 0 rfl ?_
            refine g_aload_n (pc := 44) X dX4_curtains_44 0 rfl ?_
            refine g_get (pc := 45) X (v := .int (nI (kHr k))) fl_X4_95 dX4_curtains_45 0 0 rfl rfl rfl ?_
            refine g_callVE (pc := 48) (rest := []) (ss' := fun (u_ : (Nat → Int32)) => [wM cy ay (sHd k (nI b)) (uSn v u_)]) X (c_X4_sinsIn l D cy ay (sHd k (nI b)) (uSn v sn) (kHr k) hw.2.2.2.2.2.1 hw.1.1 hw.2.2.2.2.1 hw.2.2.2.2.2.2.1) vl_X4_146 dX4_curtains_48 [0] 0 0 rfl rfl rfl rfl rfl rfl (fun _ => (ads_c (ads_M _ _ _ _ _ _) rfl)) (fun _ => rfl) rfl rfl rfl rfl rfl ⟨Nat.zero_le _, Nat.zero_le _⟩ ?_
            rintro xs_48_2
            refine g_eq X (ss' := [wM cy ay (sHd k (nI b)) (uSn v xs_48_2)]) rfl ?_
            have hlt := si_lt (k := sHd k (nI b)) (h := kHr k) ho h8
            refine g_nif_ne (pc := 51) (tgt := 56) X dX4_curtains_51 (by decide) (siN (sHd k (nI b)) (kHr k)) rfl (by omega) (fun c51 => ?_) (fun c51 => ?_)
            · have hc : cuN k b = cuN k (b + 1) := cu_sin ((si_p (k := sHd k (nI b)) ho h8).mp (Nat.pos_of_ne_zero c51))
              rw [hc]
              refine g_iinc (v := nI (b + 1)) (lv' := [(3, .int (nI (b + 1))), (0, .ref (ay 0)), (1, .int (kHd k)), (2, .int (cuN k (b + 1)))]) (pc := 56) X dX4_curtains_56 3 rfl (nI_1 b) rfl rfl ?_
              refine g_goto (pc := 59) (tgt := 10) X dX4_curtains_59 (by decide) ?_
              refine g_lv X (lv' := [(0, .ref (ay 0)), (1, .int (kHd k)), (2, .int (cuN k (b + 1))), (3, .int (nI (b + 1)))]) [1, 2, 3, 0] rfl ?_
              exact ih10 (b + 1) (nI b) xs_48_2 c17 (by omega)
            · have hc := cu_tk hx ((si_0 (k := sHd k (nI b)) ho h8).mp c51)
              refine g_iload_n (pc := 54) X dX4_curtains_54 3 rfl ?_
              refine g_istore_n (lv' := [(2, .int (nI b)), (0, .ref (ay 0)), (1, .int (kHd k)), (3, .int (nI b))]) (pc := 55) X dX4_curtains_55 rfl rfl rfl ?_
              refine g_lvv X (lv' := [(2, .int (cuN k (b + 1))), (0, .ref (ay 0)), (1, .int (kHd k)), (3, .int (nI b))]) (by rw [hc]) ?_
              refine g_iinc (v := nI (b + 1)) (lv' := [(3, .int (nI (b + 1))), (2, .int (cuN k (b + 1))), (0, .ref (ay 0)), (1, .int (kHd k))]) (pc := 56) X dX4_curtains_56 3 rfl (nI_1 b) rfl rfl ?_
              refine g_goto (pc := 59) (tgt := 10) X dX4_curtains_59 (by decide) ?_
              refine g_lv X (lv' := [(0, .ref (ay 0)), (1, .int (kHd k)), (2, .int (cuN k (b + 1))), (3, .int (nI (b + 1)))]) [2, 3, 1, 0] rfl ?_
              exact ih10 (b + 1) (nI b) xs_48_2 c17 (by omega)
          · have n32 := Int32.not_lt.mpr c32
            have hc : cuN k b = cuN k (b + 1) := cu_sk n21 n32
            rw [hc]
            refine g_goto (pc := 35) (tgt := 56) X dX4_curtains_35 (by decide) ?_
            refine g_iinc (v := nI (b + 1)) (lv' := [(3, .int (nI (b + 1))), (0, .ref (ay 0)), (1, .int (kHd k)), (2, .int (cuN k (b + 1)))]) (pc := 56) X dX4_curtains_56 3 rfl (nI_1 b) rfl rfl ?_
            refine g_goto (pc := 59) (tgt := 10) X dX4_curtains_59 (by decide) ?_
            refine g_lv X (lv' := [(0, .ref (ay 0)), (1, .int (kHd k)), (2, .int (cuN k (b + 1))), (3, .int (nI (b + 1)))]) [1, 2, 3, 0] rfl ?_
            exact ih10 (b + 1) y sn c17 (by omega)
  refine g_lv X (lv' := [(0, .ref (ay 0)), (1, .int (kHd k)), (2, .int ((-9))), (3, .int (0))]) [3, 2, 1, 0] rfl ?_
  exact L10_1 (M - 0 + 1) 0 (kHd k) (mSn v) (Nat.zero_le _) (Nat.lt_succ_self _)
set_option maxRecDepth 100000 in
set_option maxHeartbeats 4000000 in
theorem c_X4_oneMoved (l : Launch) (D : va_G) (cy : ClassId) (ay : Nat → Nat) (k : KV) (v : MV) (h8 : kNt k ≤ 8) (h10 : kNl k ≤ 10) (ho : HOt k) (hh : kHr k < 8) : CtIE l yX4_oneMoved cX4_oneMoved 5 .int 6 203 D cy [.ref (ay 0)] [wM cy ay k v] (fun (u_ : (Nat → Int32)) => [wM cy ay k (uSn v u_)]) (fcK k (kHr k) 0) := by
  refine ctIE_of (by decide +kernel) (Nat.le_of_ble_eq_true rfl) (fun p_ e_ s_ m_ args_ below_ meth_ c_ A_ X => ?_)
  refine g_lv X (lv' := [(0, .ref (ay 0))]) [0] rfl ?_
  refine g_iconst (v := 0) (pc := 0) X dX4_oneMoved_0 (by decide) ?_
  refine g_istore_n (lv' := [(1, .int (0)), (0, .ref (ay 0))]) (pc := 1) X dX4_oneMoved_1 rfl rfl rfl ?_
  have L2_1 : ∀ (fu_ : Nat) (t : Nat) (sn : Nat → Int32) (ht : t ≤ kNt k) (hq : fcK k (kHr k) 0 = fcT k (kHr k) (kNt k - t) t) (hm : 8 - t < fu_), G p_ l e_ { frames := 6, cells := 0, slots := 0, locals := 203 } s_ m_ args_ below_ meth_ c_ 5 D A_ 0 0 (QIE below_ args_ s_ D A_ (fun (u_ : (Nat → Int32)) => [wM cy ay k (uSn v u_)]) (fcK k (kHr k) 0)) [wM cy ay k (uSn v sn)] 2 [(0, .ref (ay 0)), (1, .int (nI t))] [] := by
    intro fu_
    induction fu_ with
    | zero => intro t sn ht hq hm; exact absurd hm (Nat.not_lt_zero _)
    | succ fu_ ih =>
      intro t sn ht hq hm
      have ih2 := ih
      clear ih
      refine g_iload_n (pc := 2) X dX4_oneMoved_2 1 rfl ?_
      refine g_aload_n (pc := 3) X dX4_oneMoved_3 0 rfl ?_
      refine g_get (pc := 4) X (v := .int (nI (kNt k))) fl_X4_52 dX4_oneMoved_4 0 0 rfl rfl rfl ?_
      refine g_ncmp_ge (pc := 7) (tgt := 91) X dX4_oneMoved_7 (by decide) t (kNt k) rfl rfl (by omega) (by omega) (fun c7 => ?_) (fun c7 => ?_)
      · have n7 := Nat.not_lt.mpr c7
        refine g_bipush (v := (-9)) (pc := 91) X dX4_oneMoved_91 (by decide) ?_
        exact g_iretE (pc := 93) X (sn) rfl dX4_oneMoved_93 rfl (by rw [hq, show kNt k - t = 0 by omega]; rfl) rfl
      · refine g_aload_n (pc := 10) X dX4_oneMoved_10 0 rfl ?_
        refine g_get (pc := 11) X (v := .ref (ay 4)) fl_X4_19 dX4_oneMoved_11 0 0 rfl rfl rfl ?_
        refine g_iload_n (pc := 14) X dX4_oneMoved_14 1 rfl ?_
        refine g_iald_n (pc := 15) (f := kRo k) X 0 4 dX4_oneMoved_15 t rfl rfl rfl (by omega) rfl ?_
        refine g_istore_n (lv' := [(2, .int ((kRo k) t)), (0, .ref (ay 0)), (1, .int (nI t))]) (pc := 16) X dX4_oneMoved_16 rfl rfl rfl ?_
        refine g_bipush (v := (-9)) (pc := 17) X dX4_oneMoved_17 (by decide) ?_
        refine g_istore_n (lv' := [(3, .int ((-9))), (2, .int ((kRo k) t)), (0, .ref (ay 0)), (1, .int (nI t))]) (pc := 19) X dX4_oneMoved_19 rfl rfl rfl ?_
        refine g_iconst (v := 5) (pc := 20) X dX4_oneMoved_20 (by decide) ?_
        refine g_top X (x := 5) (y := nI 6 + (-1)) (by decide) ?_
        refine g_istore (lv' := [(4, .int (nI 6 + (-1))), (3, .int ((-9))), (2, .int ((kRo k) t)), (0, .ref (ay 0)), (1, .int (nI t))]) (pc := 21) X dX4_oneMoved_21 rfl rfl ?_
        have L23_2 : ∀ (fu_ : Nat) (e : Nat) (f : Int32) (o : Nat → Int32) (sn2 : Nat → Int32) (he : e ≤ 6) (hf : f = -9 ∨ ∃ w, w < 6 ∧ f = nI w) (ho2 : ∀ x, upd o t x = upd (kRo k) t x) (hr : fcR k (kHr k) t (6 - e) e = if f = -9 then -9 else 10 * nI t + f) (hm : e < fu_), G p_ l e_ { frames := 6, cells := 0, slots := 0, locals := 203 } s_ m_ args_ below_ meth_ c_ 5 D A_ 0 0 (QIE below_ args_ s_ D A_ (fun (u_ : (Nat → Int32)) => [wM cy ay k (uSn v u_)]) (fcK k (kHr k) 0)) [wM cy ay (sRo k o) (uSn v sn2)] 23 [(0, .ref (ay 0)), (1, .int (nI t)), (2, .int ((kRo k) t)), (3, .int (f)), (4, .int (nI e + (-1)))] [] := by
          intro fu_
          induction fu_ with
          | zero => intro e f o sn2 he hf ho2 hr hm; exact absurd hm (Nat.not_lt_zero _)
          | succ fu_ ih =>
            intro e f o sn2 he hf ho2 hr hm
            have ih23 := ih
            clear ih
            refine g_iload (pc := 23) X dX4_oneMoved_23 4 rfl ?_
            refine g_if_lt (pc := 25) (tgt := 65) X dX4_oneMoved_25 (by decide) (fun c25 => ?_) (fun c25 => ?_)
            · have e0 : e = 0 := by
                cases e with
                | zero => rfl
                | succ e1 => exact absurd c25 (by rw [pk_m1]; exact nI_pos (by omega))
              subst e0
              refine g_aload_n (pc := 65) X dX4_oneMoved_65 0 rfl ?_
              refine g_get (pc := 66) X (v := .ref (ay 4)) fl_X4_19 dX4_oneMoved_66 0 0 rfl rfl rfl ?_
              refine g_iload_n (pc := 69) X dX4_oneMoved_69 1 rfl ?_
              refine g_iload_n (pc := 70) X dX4_oneMoved_70 2 rfl ?_
              refine g_iast_n (pc := 71) X (ss' := [wM cy ay (sRo k (upd o t ((kRo k) t))) (uSn v sn2)]) 0 4 dX4_oneMoved_71 t rfl rfl rfl (by omega) rfl rfl ?_
              refine g_eq X (ss' := [wM cy ay k (uSn v sn2)]) (by rw [ho2, upd_self] <;> rfl) ?_
              refine g_iload_n (pc := 72) X dX4_oneMoved_72 3 rfl ?_
              refine g_bipush (v := (-9)) (pc := 73) X dX4_oneMoved_73 (by decide) ?_
              refine g_icmp_eq (pc := 75) (tgt := 85) X dX4_oneMoved_75 (by decide) (fun c75 => ?_) (fun c75 => ?_)
              · have hv9 : fcR k (kHr k) t 6 0 = -9 := hr.trans (if_pos c75)
                refine g_iinc (v := nI (t + 1)) (lv' := [(1, .int (nI (t + 1))), (0, .ref (ay 0)), (2, .int ((kRo k) t)), (3, .int (f)), (4, .int (nI 0 + (-1)))]) (pc := 85) X dX4_oneMoved_85 1 rfl (nI_1 t) rfl rfl ?_
                refine g_goto (pc := 88) (tgt := 2) X dX4_oneMoved_88 (by decide) ?_
                refine g_lv X (lv' := [(0, .ref (ay 0)), (1, .int (nI (t + 1)))]) [1, 0] rfl ?_
                exact ih2 (t + 1) sn2 c7 (by rw [hq, show kNt k - t = (kNt k - (t + 1)) + 1 by omega, fcT, if_pos hv9]) (by omega)
              · obtain ⟨w, hw6, ew⟩ := hf.resolve_left c75
                have hv : fcR k (kHr k) t 6 0 = 10 * nI t + f := hr.trans (if_neg c75)
                have hvn : fcR k (kHr k) t 6 0 ≠ -9 := by rw [hv, ew, show (10 : Int32) = nI 10 from rfl, pk_mul, nI_add]; exact nI_n9 (by omega)
                refine g_bipush (v := 10) (pc := 78) X dX4_oneMoved_78 (by decide) ?_
                refine g_iload_n (pc := 80) X dX4_oneMoved_80 1 rfl ?_
                refine g_imul (v := 10 * nI t) (pc := 81) X dX4_oneMoved_81 rfl ?_
                refine g_iload_n (pc := 82) X dX4_oneMoved_82 3 rfl ?_
                refine g_iadd (v := (10 * nI t) + f) (pc := 83) X dX4_oneMoved_83 rfl ?_
                exact g_iretE (pc := 84) X (sn2) rfl dX4_oneMoved_84 rfl (by rw [hq, show kNt k - t = (kNt k - (t + 1)) + 1 by omega, fcT, if_neg hvn, hv]) rfl
            · have n25 := Int32.not_lt.mpr c25
              obtain ⟨e1, rfl⟩ : ∃ e1, e = e1 + 1 := ⟨e - 1, by have : e ≠ 0 := fun q_ => absurd c25 (by rw [q_]; decide); omega⟩
              rw [pk_m1]
              refine g_iload (pc := 28) X dX4_oneMoved_28 4 rfl ?_
              refine g_iload_n (pc := 30) X dX4_oneMoved_30 2 rfl ?_
              refine g_icmp_ne (pc := 31) (tgt := 37) X dX4_oneMoved_31 (by decide) (fun c31 => ?_) (fun c31 => ?_)
              · refine g_aload_n (pc := 37) X dX4_oneMoved_37 0 rfl ?_
                refine g_get (pc := 38) X (v := .ref (ay 4)) fl_X4_19 dX4_oneMoved_38 0 0 rfl rfl rfl ?_
                refine g_iload_n (pc := 41) X dX4_oneMoved_41 1 rfl ?_
                refine g_iload (pc := 42) X dX4_oneMoved_42 4 rfl ?_
                refine g_iast_n (pc := 44) X (ss' := [wM cy ay (sRo k (upd o t (nI e1))) (uSn v sn2)]) 0 4 dX4_oneMoved_44 t rfl rfl rfl (by omega) rfl rfl ?_
                refine g_eq X (ss' := [wM cy ay (sRo k (upd (kRo k) t (nI e1))) (uSn v sn2)]) (by rw [ho2]) ?_
                refine g_aload_n (pc := 45) X dX4_oneMoved_45 0 rfl ?_
                refine g_aload_n (pc := 46) X dX4_oneMoved_46 0 rfl ?_
                refine g_get (pc := 47) X (v := .int (nI (kHr k))) fl_X4_95 dX4_oneMoved_47 0 0 rfl rfl rfl ?_
                refine g_callVE (pc := 50) (rest := []) (ss' := fun (u_ : (Nat → Int32)) => [wM cy ay (sRo k (upd (kRo k) t (nI e1))) (uSn v u_)]) X (c_X4_sinsIn l D cy ay (sRo k (upd (kRo k) t (nI e1))) (uSn v sn2) (kHr k) (by first | assumption | omega) (by first | assumption | omega) (by first | assumption | omega) (by first | assumption | omega)) vl_X4_146 dX4_oneMoved_50 [0] 0 0 rfl rfl rfl rfl rfl rfl (fun _ => (ads_c (ads_M _ _ _ _ _ _) rfl)) (fun _ => rfl) rfl rfl rfl rfl rfl ⟨Nat.zero_le _, Nat.zero_le _⟩ ?_
                rintro xs_50_1
                refine g_eq X (ss' := [wM cy ay (sRo k (upd (kRo k) t (nI e1))) (uSn v xs_50_1)]) rfl ?_
                have hlt := si_lt (k := sRo k (upd (kRo k) t (nI e1))) (h := kHr k) ho h8
                refine g_nif_ne (pc := 53) (tgt := 59) X dX4_oneMoved_53 (by decide) (siN (sRo k (upd (kRo k) t (nI e1))) (kHr k)) rfl (by omega) (fun c53 => ?_) (fun c53 => ?_)
                · have hr2 := (fc_s (h := kHr k) (t := t) (show e1 < 6 by omega) (Or.inr ((si_p (k := sRo k (upd (kRo k) t (nI e1))) ho h8).mp (Nat.pos_of_ne_zero c53)))).trans hr
                  refine g_iinc (v := nI e1 + (-1)) (lv' := [(4, .int (nI e1 + (-1))), (0, .ref (ay 0)), (1, .int (nI t)), (2, .int ((kRo k) t)), (3, .int (f))]) (pc := 59) X dX4_oneMoved_59 4 rfl rfl rfl rfl ?_
                  refine g_goto (pc := 62) (tgt := 23) X dX4_oneMoved_62 (by decide) ?_
                  refine g_lv X (lv' := [(0, .ref (ay 0)), (1, .int (nI t)), (2, .int ((kRo k) t)), (3, .int (f)), (4, .int (nI e1 + (-1)))]) [1, 2, 3, 4, 0] rfl ?_
                  exact ih23 e1 f (upd (kRo k) t (nI e1)) xs_50_1 (by omega) (by first | exact hf | exact Or.inr ⟨e1, by omega, rfl⟩) (by first | exact ho2 | exact fun x => upd_u _ _ _ _) hr2 (by omega)
                · have hr2 : fcR k (kHr k) t (6 - e1) e1 = if nI e1 = -9 then -9 else 10 * nI t + nI e1 := by rw [fc_t (by omega) c31 ((si_0 (k := sRo k (upd (kRo k) t (nI e1))) ho h8).mp c53), if_neg (nI_n9 (by omega)), show (10 : Int32) = nI 10 from rfl, pk_mul, nI_add]
                  refine g_iload (pc := 56) X dX4_oneMoved_56 4 rfl ?_
                  refine g_istore_n (lv' := [(3, .int (nI e1)), (0, .ref (ay 0)), (1, .int (nI t)), (2, .int ((kRo k) t)), (4, .int (nI e1))]) (pc := 58) X dX4_oneMoved_58 rfl rfl rfl ?_
                  refine g_iinc (v := nI e1 + (-1)) (lv' := [(4, .int (nI e1 + (-1))), (3, .int (nI e1)), (0, .ref (ay 0)), (1, .int (nI t)), (2, .int ((kRo k) t))]) (pc := 59) X dX4_oneMoved_59 4 rfl rfl rfl rfl ?_
                  refine g_goto (pc := 62) (tgt := 23) X dX4_oneMoved_62 (by decide) ?_
                  refine g_lv X (lv' := [(0, .ref (ay 0)), (1, .int (nI t)), (2, .int ((kRo k) t)), (3, .int (nI e1)), (4, .int (nI e1 + (-1)))]) [2, 3, 4, 1, 0] rfl ?_
                  exact ih23 e1 (nI e1) (upd (kRo k) t (nI e1)) xs_50_1 (by omega) (by first | exact hf | exact Or.inr ⟨e1, by omega, rfl⟩) (by first | exact ho2 | exact fun x => upd_u _ _ _ _) hr2 (by omega)
              · have hr2 := (fc_s (h := kHr k) (t := t) (show e1 < 6 by omega) (Or.inl c31)).trans hr
                refine g_goto (pc := 34) (tgt := 59) X dX4_oneMoved_34 (by decide) ?_
                refine g_iinc (v := nI e1 + (-1)) (lv' := [(4, .int (nI e1 + (-1))), (0, .ref (ay 0)), (1, .int (nI t)), (2, .int ((kRo k) t)), (3, .int (f))]) (pc := 59) X dX4_oneMoved_59 4 rfl rfl rfl rfl ?_
                refine g_goto (pc := 62) (tgt := 23) X dX4_oneMoved_62 (by decide) ?_
                refine g_lv X (lv' := [(0, .ref (ay 0)), (1, .int (nI t)), (2, .int ((kRo k) t)), (3, .int (f)), (4, .int (nI e1 + (-1)))]) [1, 2, 3, 4, 0] rfl ?_
                exact ih23 e1 f o sn2 (by omega) (by first | exact hf | exact Or.inr ⟨e1, by omega, rfl⟩) (by first | exact ho2 | exact fun x => upd_u _ _ _ _) hr2 (by omega)
        refine g_lv X (lv' := [(0, .ref (ay 0)), (1, .int (nI t)), (2, .int ((kRo k) t)), (3, .int ((-9))), (4, .int (nI 6 + (-1)))]) [3, 4, 2, 1, 0] rfl ?_
        exact L23_2 (6 + 1) 6 ((-9)) (kRo k) sn (Nat.le_refl _) (Or.inl rfl) (fun _ => rfl) rfl (Nat.lt_succ_self _)
  refine g_lv X (lv' := [(0, .ref (ay 0)), (1, .int (0))]) [1, 0] rfl ?_
  exact L2_1 (8 - 0 + 1) 0 (mSn v) (Nat.zero_le _) rfl (Nat.lt_succ_self _)
set_option maxRecDepth 100000 in
set_option maxHeartbeats 4000000 in
theorem c_X4_byTwo (l : Launch) (D : va_G) (cy : ClassId) (ay : Nat → Nat) (k : KV) (v : MV) (h8 : kNt k ≤ 8) (h10 : kNl k ≤ 10) (ho : HOt k) (hh : kHr k < 8) : CtIE l yX4_byTwo cX4_byTwo 8 .boolean 6 203 D cy [.ref (ay 0)] [wM cy ay k v] (fun (u_ : (Nat → Int32)) => [wM cy ay k (uSn v u_)]) (bI (tcK k (kHr k))) := by
  refine ctIE_of (by decide +kernel) (Nat.le_of_ble_eq_true rfl) (fun p_ e_ s_ m_ args_ below_ meth_ c_ A_ X => ?_)
  refine g_lv X (lv' := [(0, .ref (ay 0))]) [0] rfl ?_
  refine g_iconst (v := 0) (pc := 0) X dX4_byTwo_0 (by decide) ?_
  refine g_istore_n (lv' := [(1, .int (0)), (0, .ref (ay 0))]) (pc := 1) X dX4_byTwo_1 rfl rfl rfl ?_
  have L2_1 : ∀ (fu_ : Nat) (t : Nat) (sn : Nat → Int32) (ht : t ≤ kNt k) (hq : tcK k (kHr k) = tcT k (kHr k) (kNt k - t) t) (hm : 8 - t < fu_), G p_ l e_ { frames := 6, cells := 0, slots := 0, locals := 203 } s_ m_ args_ below_ meth_ c_ 8 D A_ 0 0 (QIE below_ args_ s_ D A_ (fun (u_ : (Nat → Int32)) => [wM cy ay k (uSn v u_)]) (bI (tcK k (kHr k)))) [wM cy ay k (uSn v sn)] 2 [(0, .ref (ay 0)), (1, .int (nI t))] [] := by
    intro fu_
    induction fu_ with
    | zero => intro t sn ht hq hm; exact absurd hm (Nat.not_lt_zero _)
    | succ fu_ ih =>
      intro t sn ht hq hm
      have ih2 := ih
      clear ih
      refine g_iload_n (pc := 2) X dX4_byTwo_2 1 rfl ?_
      refine g_aload_n (pc := 3) X dX4_byTwo_3 0 rfl ?_
      refine g_get (pc := 4) X (v := .int (nI (kNt k))) fl_X4_52 dX4_byTwo_4 0 0 rfl rfl rfl ?_
      refine g_ncmp_ge (pc := 7) (tgt := 173) X dX4_byTwo_7 (by decide) t (kNt k) rfl rfl (by omega) (by omega) (fun c7 => ?_) (fun c7 => ?_)
      · have n7 := Nat.not_lt.mpr c7
        refine g_iconst (v := 0) (pc := 173) X dX4_byTwo_173 (by decide) ?_
        exact g_iretE (pc := 174) X (sn) rfl dX4_byTwo_174 rfl (bI_f (by rw [hq, show kNt k - t = 0 by omega]; rfl)) rfl
      · refine g_aload_n (pc := 10) X dX4_byTwo_10 0 rfl ?_
        refine g_get (pc := 11) X (v := .ref (ay 4)) fl_X4_19 dX4_byTwo_11 0 0 rfl rfl rfl ?_
        refine g_iload_n (pc := 14) X dX4_byTwo_14 1 rfl ?_
        refine g_iald_n (pc := 15) (f := kRo k) X 0 4 dX4_byTwo_15 t rfl rfl rfl (by omega) rfl ?_
        refine g_istore_n (lv' := [(2, .int ((kRo k) t)), (0, .ref (ay 0)), (1, .int (nI t))]) (pc := 16) X dX4_byTwo_16 rfl rfl rfl ?_
        refine g_iconst (v := 0) (pc := 17) X dX4_byTwo_17 (by decide) ?_
        refine g_istore_n (lv' := [(3, .int (0)), (2, .int ((kRo k) t)), (0, .ref (ay 0)), (1, .int (nI t))]) (pc := 18) X dX4_byTwo_18 rfl rfl rfl ?_
        refine g_iconst (v := 0) (pc := 19) X dX4_byTwo_19 (by decide) ?_
        refine g_istore (lv' := [(4, .int (0)), (3, .int (0)), (2, .int ((kRo k) t)), (0, .ref (ay 0)), (1, .int (nI t))]) (pc := 20) X dX4_byTwo_20 rfl rfl ?_
        have L22_2 : ∀ (fu_ : Nat) (r : Nat) (s1 : Bool) (o : Nat → Int32) (sn2 : Nat → Int32) (hr6 : r ≤ 6) (ho2 : ∀ x, upd o t x = upd (kRo k) t x) (hr2 : tcR k (kHr k) t 6 0 = (s1 || tcR k (kHr k) t (6 - r) r)) (hm : 6 - r < fu_), G p_ l e_ { frames := 6, cells := 0, slots := 0, locals := 203 } s_ m_ args_ below_ meth_ c_ 8 D A_ 0 0 (QIE below_ args_ s_ D A_ (fun (u_ : (Nat → Int32)) => [wM cy ay k (uSn v u_)]) (bI (tcK k (kHr k)))) [wM cy ay (sRo k o) (uSn v sn2)] 22 [(0, .ref (ay 0)), (1, .int (nI t)), (2, .int ((kRo k) t)), (3, .int (bI (s1))), (4, .int (nI r))] [] := by
          intro fu_
          induction fu_ with
          | zero => intro r s1 o sn2 hr6 ho2 hr2 hm; exact absurd hm (Nat.not_lt_zero _)
          | succ fu_ ih =>
            intro r s1 o sn2 hr6 ho2 hr2 hm
            have ih22 := ih
            clear ih
            refine g_iload (pc := 22) X dX4_byTwo_22 4 rfl ?_
            refine g_bipush (v := 6) (pc := 24) X dX4_byTwo_24 (by decide) ?_
            refine g_ncmp_ge (pc := 26) (tgt := 154) X dX4_byTwo_26 (by decide) r 6 rfl rfl (by omega) (by decide) (fun c26 => ?_) (fun c26 => ?_)
            · have n26 := Nat.not_lt.mpr c26
              have hs1 : tcR k (kHr k) t 6 0 = s1 := by rw [hr2, show 6 - r = 0 by omega, tcR, Bool.or_false]
              refine g_aload_n (pc := 154) X dX4_byTwo_154 0 rfl ?_
              refine g_get (pc := 155) X (v := .ref (ay 4)) fl_X4_19 dX4_byTwo_155 0 0 rfl rfl rfl ?_
              refine g_iload_n (pc := 158) X dX4_byTwo_158 1 rfl ?_
              refine g_iload_n (pc := 159) X dX4_byTwo_159 2 rfl ?_
              refine g_iast_n (pc := 160) X (ss' := [wM cy ay (sRo k (upd o t ((kRo k) t))) (uSn v sn2)]) 0 4 dX4_byTwo_160 t rfl rfl rfl (by omega) rfl rfl ?_
              refine g_eq X (ss' := [wM cy ay k (uSn v sn2)]) (by rw [ho2, upd_self] <;> rfl) ?_
              refine g_iload_n (pc := 161) X dX4_byTwo_161 3 rfl ?_
              refine g_bif_eq (pc := 162) (tgt := 167) X dX4_byTwo_162 (by decide) (fun c162 => ?_) (fun c162 => ?_)
              · refine g_iinc (v := nI (t + 1)) (lv' := [(1, .int (nI (t + 1))), (0, .ref (ay 0)), (2, .int ((kRo k) t)), (3, .int (bI (s1))), (4, .int (nI r))]) (pc := 167) X dX4_byTwo_167 1 rfl (nI_1 t) rfl rfl ?_
                refine g_goto (pc := 170) (tgt := 2) X dX4_byTwo_170 (by decide) ?_
                refine g_lv X (lv' := [(0, .ref (ay 0)), (1, .int (nI (t + 1)))]) [1, 0] rfl ?_
                exact ih2 (t + 1) sn2 c7 (by rw [hq, show kNt k - t = (kNt k - (t + 1)) + 1 by omega, tcT, if_neg (by rw [hs1, c162]; exact Bool.false_ne_true)]) (by omega)
              · refine g_iconst (v := 1) (pc := 165) X dX4_byTwo_165 (by decide) ?_
                exact g_iretE (pc := 166) X (sn2) rfl dX4_byTwo_166 rfl (bI_t (by rw [hq, show kNt k - t = (kNt k - (t + 1)) + 1 by omega, tcT, if_pos (hs1.trans c162)])) rfl
            · refine g_iload_n (pc := 29) X dX4_byTwo_29 3 rfl ?_
              refine g_bif_ne (pc := 30) (tgt := 154) X dX4_byTwo_30 (by decide) (fun c30 => ?_) (fun c30 => ?_)
              · have hs1 : tcR k (kHr k) t 6 0 = s1 := by rw [hr2, c30]; rfl
                refine g_aload_n (pc := 154) X dX4_byTwo_154 0 rfl ?_
                refine g_get (pc := 155) X (v := .ref (ay 4)) fl_X4_19 dX4_byTwo_155 0 0 rfl rfl rfl ?_
                refine g_iload_n (pc := 158) X dX4_byTwo_158 1 rfl ?_
                refine g_iload_n (pc := 159) X dX4_byTwo_159 2 rfl ?_
                refine g_iast_n (pc := 160) X (ss' := [wM cy ay (sRo k (upd o t ((kRo k) t))) (uSn v sn2)]) 0 4 dX4_byTwo_160 t rfl rfl rfl (by omega) rfl rfl ?_
                refine g_eq X (ss' := [wM cy ay k (uSn v sn2)]) (by rw [ho2, upd_self] <;> rfl) ?_
                refine g_iload_n (pc := 161) X dX4_byTwo_161 3 rfl ?_
                refine g_bif_eq (pc := 162) (tgt := 167) X dX4_byTwo_162 (by decide) (fun c162 => ?_) (fun c162 => ?_)
                · refine g_iinc (v := nI (t + 1)) (lv' := [(1, .int (nI (t + 1))), (0, .ref (ay 0)), (2, .int ((kRo k) t)), (3, .int (bI (s1))), (4, .int (nI r))]) (pc := 167) X dX4_byTwo_167 1 rfl (nI_1 t) rfl rfl ?_
                  refine g_goto (pc := 170) (tgt := 2) X dX4_byTwo_170 (by decide) ?_
                  refine g_lv X (lv' := [(0, .ref (ay 0)), (1, .int (nI (t + 1)))]) [1, 0] rfl ?_
                  exact ih2 (t + 1) sn2 c7 (by rw [hq, show kNt k - t = (kNt k - (t + 1)) + 1 by omega, tcT, if_neg (by rw [hs1, c162]; exact Bool.false_ne_true)]) (by omega)
                · refine g_iconst (v := 1) (pc := 165) X dX4_byTwo_165 (by decide) ?_
                  exact g_iretE (pc := 166) X (sn2) rfl dX4_byTwo_166 rfl (bI_t (by rw [hq, show kNt k - t = (kNt k - (t + 1)) + 1 by omega, tcT, if_pos (hs1.trans c162)])) rfl
              · refine g_iload (pc := 33) X dX4_byTwo_33 4 rfl ?_
                refine g_iload_n (pc := 35) X dX4_byTwo_35 2 rfl ?_
                refine g_icmp_ne (pc := 36) (tgt := 42) X dX4_byTwo_36 (by decide) (fun c36 => ?_) (fun c36 => ?_)
                · refine g_aload_n (pc := 42) X dX4_byTwo_42 0 rfl ?_
                  refine g_get (pc := 43) X (v := .ref (ay 4)) fl_X4_19 dX4_byTwo_43 0 0 rfl rfl rfl ?_
                  refine g_iload_n (pc := 46) X dX4_byTwo_46 1 rfl ?_
                  refine g_iload (pc := 47) X dX4_byTwo_47 4 rfl ?_
                  refine g_iast_n (pc := 49) X (ss' := [wM cy ay (sRo k (upd o t (nI r))) (uSn v sn2)]) 0 4 dX4_byTwo_49 t rfl rfl rfl (by omega) rfl rfl ?_
                  refine g_eq X (ss' := [wM cy ay (sRo k (upd (kRo k) t (nI r))) (uSn v sn2)]) (by rw [ho2]) ?_
                  refine g_iload_n (pc := 50) X dX4_byTwo_50 1 rfl ?_
                  refine g_iconst (v := 1) (pc := 51) X dX4_byTwo_51 (by decide) ?_
                  refine g_iadd (v := nI (t + 1)) (pc := 52) X dX4_byTwo_52 (nI_add t 1) ?_
                  refine g_istore (lv' := [(5, .int (nI (t + 1))), (0, .ref (ay 0)), (1, .int (nI t)), (2, .int ((kRo k) t)), (3, .int (bI (s1))), (4, .int (nI r))]) (pc := 53) X dX4_byTwo_53 rfl rfl ?_
                  have L55_3 : ∀ (fu_ : Nat) (u : Nat) (s2 : Bool) (sn3 : Nat → Int32) (hu : t + 1 ≤ u) (hu2 : u ≤ kNt k) (hu3 : decide (fcK (sRo k (upd (kRo k) t (nI r))) (kHr k) (t + 1) ≠ -9) = (s2 || decide (fcT (sRo k (upd (kRo k) t (nI r))) (kHr k) (kNt k - u) u ≠ -9))) (hm : 8 - u < fu_), G p_ l e_ { frames := 6, cells := 0, slots := 0, locals := 203 } s_ m_ args_ below_ meth_ c_ 8 D A_ 0 0 (QIE below_ args_ s_ D A_ (fun (u_ : (Nat → Int32)) => [wM cy ay k (uSn v u_)]) (bI (tcK k (kHr k)))) [wM cy ay (sRo k (upd (kRo k) t (nI r))) (uSn v sn3)] 55 [(0, .ref (ay 0)), (1, .int (nI t)), (2, .int ((kRo k) t)), (3, .int (bI (s2))), (4, .int (nI r)), (5, .int (nI u))] [] := by
                    intro fu_
                    induction fu_ with
                    | zero => intro u s2 sn3 hu hu2 hu3 hm; exact absurd hm (Nat.not_lt_zero _)
                    | succ fu_ ih =>
                      intro u s2 sn3 hu hu2 hu3 hm
                      have ih55 := ih
                      clear ih
                      refine g_iload (pc := 55) X dX4_byTwo_55 5 rfl ?_
                      refine g_aload_n (pc := 57) X dX4_byTwo_57 0 rfl ?_
                      refine g_get (pc := 58) X (v := .int (nI (kNt k))) fl_X4_52 dX4_byTwo_58 0 0 rfl rfl rfl ?_
                      refine g_ncmp_ge (pc := 61) (tgt := 148) X dX4_byTwo_61 (by decide) u (kNt k) rfl rfl (by omega) (by omega) (fun c61 => ?_) (fun c61 => ?_)
                      · have n61 := Nat.not_lt.mpr c61
                        have hs2 : decide (fcK (sRo k (upd (kRo k) t (nI r))) (kHr k) (t + 1) ≠ -9) = s2 := by rw [hu3, show kNt k - u = 0 by omega, fcT]; simp
                        have hr3 : tcR k (kHr k) t 6 0 = (s2 || tcR k (kHr k) t (6 - (r + 1)) (r + 1)) := by rw [hr2, c30, Bool.false_or, tc_t (by omega) c36 hs2]
                        refine g_iinc (v := nI (r + 1)) (lv' := [(4, .int (nI (r + 1))), (0, .ref (ay 0)), (1, .int (nI t)), (2, .int ((kRo k) t)), (3, .int (bI (s2))), (5, .int (nI u))]) (pc := 148) X dX4_byTwo_148 4 rfl (nI_1 r) rfl rfl ?_
                        refine g_goto (pc := 151) (tgt := 22) X dX4_byTwo_151 (by decide) ?_
                        refine g_lv X (lv' := [(0, .ref (ay 0)), (1, .int (nI t)), (2, .int ((kRo k) t)), (3, .int (bI (s2))), (4, .int (nI (r + 1)))]) [1, 2, 3, 4, 0] rfl ?_
                        exact ih22 (r + 1) s2 (upd (kRo k) t (nI r)) sn3 (by omega) (by first | exact ho2 | exact fun x => upd_u _ _ _ _) hr3 (by omega)
                      · refine g_iload_n (pc := 64) X dX4_byTwo_64 3 rfl ?_
                        refine g_bif_ne (pc := 65) (tgt := 148) X dX4_byTwo_65 (by decide) (fun c65 => ?_) (fun c65 => ?_)
                        · have hs2 : decide (fcK (sRo k (upd (kRo k) t (nI r))) (kHr k) (t + 1) ≠ -9) = s2 := by rw [hu3, c65]; rfl
                          have hr3 : tcR k (kHr k) t 6 0 = (s2 || tcR k (kHr k) t (6 - (r + 1)) (r + 1)) := by rw [hr2, c30, Bool.false_or, tc_t (by omega) c36 hs2]
                          refine g_iinc (v := nI (r + 1)) (lv' := [(4, .int (nI (r + 1))), (0, .ref (ay 0)), (1, .int (nI t)), (2, .int ((kRo k) t)), (3, .int (bI (s2))), (5, .int (nI u))]) (pc := 148) X dX4_byTwo_148 4 rfl (nI_1 r) rfl rfl ?_
                          refine g_goto (pc := 151) (tgt := 22) X dX4_byTwo_151 (by decide) ?_
                          refine g_lv X (lv' := [(0, .ref (ay 0)), (1, .int (nI t)), (2, .int ((kRo k) t)), (3, .int (bI (s2))), (4, .int (nI (r + 1)))]) [1, 2, 3, 4, 0] rfl ?_
                          exact ih22 (r + 1) s2 (upd (kRo k) t (nI r)) sn3 (by omega) (by first | exact ho2 | exact fun x => upd_u _ _ _ _) hr3 (by omega)
                        · refine g_aload_n (pc := 68) X dX4_byTwo_68 0 rfl ?_
                          refine g_get (pc := 69) X (v := .ref (ay 4)) fl_X4_19 dX4_byTwo_69 0 0 rfl rfl rfl ?_
                          refine g_iload (pc := 72) X dX4_byTwo_72 5 rfl ?_
                          refine g_iald_n (pc := 74) (f := upd (kRo k) t (nI r)) X 0 4 dX4_byTwo_74 u rfl rfl rfl (by omega) rfl ?_
                          refine g_istore (lv' := [(6, .int ((upd (kRo k) t (nI r)) u)), (0, .ref (ay 0)), (1, .int (nI t)), (2, .int ((kRo k) t)), (3, .int (bI (s2))), (4, .int (nI r)), (5, .int (nI u))]) (pc := 75) X dX4_byTwo_75 rfl rfl ?_
                          refine g_iconst (v := 0) (pc := 77) X dX4_byTwo_77 (by decide) ?_
                          refine g_istore (lv' := [(7, .int (0)), (6, .int ((upd (kRo k) t (nI r)) u)), (0, .ref (ay 0)), (1, .int (nI t)), (2, .int ((kRo k) t)), (3, .int (bI (s2))), (4, .int (nI r)), (5, .int (nI u))]) (pc := 78) X dX4_byTwo_78 rfl rfl ?_
                          have L80_4 : ∀ (fu_ : Nat) (q : Nat) (s3 : Bool) (o3 : Nat → Int32) (sn4 : Nat → Int32) (hq6 : q ≤ 6) (ho3 : ∀ x, upd o3 u x = upd (upd (kRo k) t (nI r)) u x) (hq3 : decide (fcR (sRo k (upd (kRo k) t (nI r))) (kHr k) u 6 0 ≠ -9) = (s3 || decide (fcR (sRo k (upd (kRo k) t (nI r))) (kHr k) u (6 - q) q ≠ -9))) (hm : 6 - q < fu_), G p_ l e_ { frames := 6, cells := 0, slots := 0, locals := 203 } s_ m_ args_ below_ meth_ c_ 8 D A_ 0 0 (QIE below_ args_ s_ D A_ (fun (u_ : (Nat → Int32)) => [wM cy ay k (uSn v u_)]) (bI (tcK k (kHr k)))) [wM cy ay (sRo k o3) (uSn v sn4)] 80 [(0, .ref (ay 0)), (1, .int (nI t)), (2, .int ((kRo k) t)), (3, .int (bI (s3))), (4, .int (nI r)), (5, .int (nI u)), (6, .int ((upd (kRo k) t (nI r)) u)), (7, .int (nI q))] [] := by
                            intro fu_
                            induction fu_ with
                            | zero => intro q s3 o3 sn4 hq6 ho3 hq3 hm; exact absurd hm (Nat.not_lt_zero _)
                            | succ fu_ ih =>
                              intro q s3 o3 sn4 hq6 ho3 hq3 hm
                              have ih80 := ih
                              clear ih
                              refine g_iload (pc := 80) X dX4_byTwo_80 7 rfl ?_
                              refine g_bipush (v := 6) (pc := 82) X dX4_byTwo_82 (by decide) ?_
                              refine g_ncmp_ge (pc := 84) (tgt := 133) X dX4_byTwo_84 (by decide) q 6 rfl rfl (by omega) (by decide) (fun c84 => ?_) (fun c84 => ?_)
                              · have n84 := Nat.not_lt.mpr c84
                                have hs3 : decide (fcR (sRo k (upd (kRo k) t (nI r))) (kHr k) u 6 0 ≠ -9) = s3 := by rw [hq3, show 6 - q = 0 by omega, fcR]; simp
                                refine g_aload_n (pc := 133) X dX4_byTwo_133 0 rfl ?_
                                refine g_get (pc := 134) X (v := .ref (ay 4)) fl_X4_19 dX4_byTwo_134 0 0 rfl rfl rfl ?_
                                refine g_iload (pc := 137) X dX4_byTwo_137 5 rfl ?_
                                refine g_iload (pc := 139) X dX4_byTwo_139 6 rfl ?_
                                refine g_iast_n (pc := 141) X (ss' := [wM cy ay (sRo k (upd o3 u ((upd (kRo k) t (nI r)) u))) (uSn v sn4)]) 0 4 dX4_byTwo_141 u rfl rfl rfl (by omega) rfl rfl ?_
                                refine g_eq X (ss' := [wM cy ay (sRo k (upd (kRo k) t (nI r))) (uSn v sn4)]) (by rw [ho3, upd_self]) ?_
                                refine g_iinc (v := nI (u + 1)) (lv' := [(5, .int (nI (u + 1))), (0, .ref (ay 0)), (1, .int (nI t)), (2, .int ((kRo k) t)), (3, .int (bI (s3))), (4, .int (nI r)), (6, .int ((upd (kRo k) t (nI r)) u)), (7, .int (nI q))]) (pc := 142) X dX4_byTwo_142 5 rfl (nI_1 u) rfl rfl ?_
                                refine g_goto (pc := 145) (tgt := 55) X dX4_byTwo_145 (by decide) ?_
                                refine g_lv X (lv' := [(0, .ref (ay 0)), (1, .int (nI t)), (2, .int ((kRo k) t)), (3, .int (bI (s3))), (4, .int (nI r)), (5, .int (nI (u + 1)))]) [1, 2, 3, 4, 5, 0] rfl ?_
                                exact ih55 (u + 1) s3 sn4 (by omega) c61 (by rw [hu3, c65, Bool.false_or, ft_step c61 hs3]) (by omega)
                              · refine g_iload_n (pc := 87) X dX4_byTwo_87 3 rfl ?_
                                refine g_bif_ne (pc := 88) (tgt := 133) X dX4_byTwo_88 (by decide) (fun c88 => ?_) (fun c88 => ?_)
                                · have hs3 : decide (fcR (sRo k (upd (kRo k) t (nI r))) (kHr k) u 6 0 ≠ -9) = s3 := by rw [hq3, c88]; rfl
                                  refine g_aload_n (pc := 133) X dX4_byTwo_133 0 rfl ?_
                                  refine g_get (pc := 134) X (v := .ref (ay 4)) fl_X4_19 dX4_byTwo_134 0 0 rfl rfl rfl ?_
                                  refine g_iload (pc := 137) X dX4_byTwo_137 5 rfl ?_
                                  refine g_iload (pc := 139) X dX4_byTwo_139 6 rfl ?_
                                  refine g_iast_n (pc := 141) X (ss' := [wM cy ay (sRo k (upd o3 u ((upd (kRo k) t (nI r)) u))) (uSn v sn4)]) 0 4 dX4_byTwo_141 u rfl rfl rfl (by omega) rfl rfl ?_
                                  refine g_eq X (ss' := [wM cy ay (sRo k (upd (kRo k) t (nI r))) (uSn v sn4)]) (by rw [ho3, upd_self]) ?_
                                  refine g_iinc (v := nI (u + 1)) (lv' := [(5, .int (nI (u + 1))), (0, .ref (ay 0)), (1, .int (nI t)), (2, .int ((kRo k) t)), (3, .int (bI (s3))), (4, .int (nI r)), (6, .int ((upd (kRo k) t (nI r)) u)), (7, .int (nI q))]) (pc := 142) X dX4_byTwo_142 5 rfl (nI_1 u) rfl rfl ?_
                                  refine g_goto (pc := 145) (tgt := 55) X dX4_byTwo_145 (by decide) ?_
                                  refine g_lv X (lv' := [(0, .ref (ay 0)), (1, .int (nI t)), (2, .int ((kRo k) t)), (3, .int (bI (s3))), (4, .int (nI r)), (5, .int (nI (u + 1)))]) [1, 2, 3, 4, 5, 0] rfl ?_
                                  exact ih55 (u + 1) s3 sn4 (by omega) c61 (by rw [hu3, c65, Bool.false_or, ft_step c61 hs3]) (by omega)
                                · refine g_iload (pc := 91) X dX4_byTwo_91 7 rfl ?_
                                  refine g_iload (pc := 93) X dX4_byTwo_93 6 rfl ?_
                                  refine g_icmp_ne (pc := 95) (tgt := 101) X dX4_byTwo_95 (by decide) (fun c95 => ?_) (fun c95 => ?_)
                                  · refine g_aload_n (pc := 101) X dX4_byTwo_101 0 rfl ?_
                                    refine g_get (pc := 102) X (v := .ref (ay 4)) fl_X4_19 dX4_byTwo_102 0 0 rfl rfl rfl ?_
                                    refine g_iload (pc := 105) X dX4_byTwo_105 5 rfl ?_
                                    refine g_iload (pc := 107) X dX4_byTwo_107 7 rfl ?_
                                    refine g_iast_n (pc := 109) X (ss' := [wM cy ay (sRo k (upd o3 u (nI q))) (uSn v sn4)]) 0 4 dX4_byTwo_109 u rfl rfl rfl (by omega) rfl rfl ?_
                                    refine g_eq X (ss' := [wM cy ay (sRo k (upd (upd (kRo k) t (nI r)) u (nI q))) (uSn v sn4)]) (by rw [ho3]) ?_
                                    refine g_aload_n (pc := 110) X dX4_byTwo_110 0 rfl ?_
                                    refine g_aload_n (pc := 111) X dX4_byTwo_111 0 rfl ?_
                                    refine g_get (pc := 112) X (v := .int (nI (kHr k))) fl_X4_95 dX4_byTwo_112 0 0 rfl rfl rfl ?_
                                    refine g_callVE (pc := 115) (rest := []) (ss' := fun (u_ : (Nat → Int32)) => [wM cy ay (sRo k (upd (upd (kRo k) t (nI r)) u (nI q))) (uSn v u_)]) X (c_X4_sinsIn l D cy ay (sRo k (upd (upd (kRo k) t (nI r)) u (nI q))) (uSn v sn4) (kHr k) (by first | assumption | omega) (by first | assumption | omega) (by first | assumption | omega) (by first | assumption | omega)) vl_X4_146 dX4_byTwo_115 [0] 0 0 rfl rfl rfl rfl rfl rfl (fun _ => (ads_c (ads_M _ _ _ _ _ _) rfl)) (fun _ => rfl) rfl rfl rfl rfl rfl ⟨Nat.zero_le _, Nat.zero_le _⟩ ?_
                                    rintro xs_115_1
                                    refine g_eq X (ss' := [wM cy ay (sRo k (upd (upd (kRo k) t (nI r)) u (nI q))) (uSn v xs_115_1)]) rfl ?_
                                    have hlt := si_lt (k := sRo k (upd (upd (kRo k) t (nI r)) u (nI q))) (h := kHr k) ho h8
                                    refine g_nif_ne (pc := 118) (tgt := 125) X dX4_byTwo_118 (by decide) (siN (sRo k (upd (upd (kRo k) t (nI r)) u (nI q))) (kHr k)) rfl (by omega) (fun c118 => ?_) (fun c118 => ?_)
                                    · have hq4 : decide (fcR (sRo k (upd (kRo k) t (nI r))) (kHr k) u 6 0 ≠ -9) = (false || decide (fcR (sRo k (upd (kRo k) t (nI r))) (kHr k) u (6 - (q + 1)) (q + 1) ≠ -9)) := by rw [hq3, c88, fc_s (k := (sRo k (upd (kRo k) t (nI r)))) (by omega) (Or.inr ((si_p (k := sRo k (upd (upd (kRo k) t (nI r)) u (nI q))) ho h8).mp (Nat.pos_of_ne_zero c118)))]
                                      refine g_iconst (v := 0) (pc := 125) X dX4_byTwo_125 (by decide) ?_
                                      refine g_istore_n (lv' := [(3, .int (0)), (0, .ref (ay 0)), (1, .int (nI t)), (2, .int ((kRo k) t)), (4, .int (nI r)), (5, .int (nI u)), (6, .int ((upd (kRo k) t (nI r)) u)), (7, .int (nI q))]) (pc := 126) X dX4_byTwo_126 rfl rfl rfl ?_
                                      refine g_iinc (v := nI (q + 1)) (lv' := [(7, .int (nI (q + 1))), (3, .int (0)), (0, .ref (ay 0)), (1, .int (nI t)), (2, .int ((kRo k) t)), (4, .int (nI r)), (5, .int (nI u)), (6, .int ((upd (kRo k) t (nI r)) u))]) (pc := 127) X dX4_byTwo_127 7 rfl (nI_1 q) rfl rfl ?_
                                      refine g_goto (pc := 130) (tgt := 80) X dX4_byTwo_130 (by decide) ?_
                                      refine g_lv X (lv' := [(0, .ref (ay 0)), (1, .int (nI t)), (2, .int ((kRo k) t)), (3, .int (0)), (4, .int (nI r)), (5, .int (nI u)), (6, .int ((upd (kRo k) t (nI r)) u)), (7, .int (nI (q + 1)))]) [2, 3, 4, 1, 5, 6, 7, 0] rfl ?_
                                      exact ih80 (q + 1) false (upd (upd (kRo k) t (nI r)) u (nI q)) xs_115_1 (by omega) (by first | exact ho3 | exact fun x => upd_u _ _ _ _) hq4 (by omega)
                                    · have hq4 : decide (fcR (sRo k (upd (kRo k) t (nI r))) (kHr k) u 6 0 ≠ -9) = (true || decide (fcR (sRo k (upd (kRo k) t (nI r))) (kHr k) u (6 - (q + 1)) (q + 1) ≠ -9)) := by rw [hq3, c88, fc_t (k := (sRo k (upd (kRo k) t (nI r)))) (by omega) c95 ((si_0 (k := sRo k (upd (upd (kRo k) t (nI r)) u (nI q))) ho h8).mp c118), decide_eq_true (nI_n9 (by omega))]; rfl
                                      refine g_iconst (v := 1) (pc := 121) X dX4_byTwo_121 (by decide) ?_
                                      refine g_goto (pc := 122) (tgt := 126) X dX4_byTwo_122 (by decide) ?_
                                      refine g_istore_n (lv' := [(3, .int (1)), (0, .ref (ay 0)), (1, .int (nI t)), (2, .int ((kRo k) t)), (4, .int (nI r)), (5, .int (nI u)), (6, .int ((upd (kRo k) t (nI r)) u)), (7, .int (nI q))]) (pc := 126) X dX4_byTwo_126 rfl rfl rfl ?_
                                      refine g_iinc (v := nI (q + 1)) (lv' := [(7, .int (nI (q + 1))), (3, .int (1)), (0, .ref (ay 0)), (1, .int (nI t)), (2, .int ((kRo k) t)), (4, .int (nI r)), (5, .int (nI u)), (6, .int ((upd (kRo k) t (nI r)) u))]) (pc := 127) X dX4_byTwo_127 7 rfl (nI_1 q) rfl rfl ?_
                                      refine g_goto (pc := 130) (tgt := 80) X dX4_byTwo_130 (by decide) ?_
                                      refine g_lv X (lv' := [(0, .ref (ay 0)), (1, .int (nI t)), (2, .int ((kRo k) t)), (3, .int (1)), (4, .int (nI r)), (5, .int (nI u)), (6, .int ((upd (kRo k) t (nI r)) u)), (7, .int (nI (q + 1)))]) [2, 3, 4, 1, 5, 6, 7, 0] rfl ?_
                                      exact ih80 (q + 1) true (upd (upd (kRo k) t (nI r)) u (nI q)) xs_115_1 (by omega) (by first | exact ho3 | exact fun x => upd_u _ _ _ _) hq4 (by omega)
                                  · have hq4 : decide (fcR (sRo k (upd (kRo k) t (nI r))) (kHr k) u 6 0 ≠ -9) = (s3 || decide (fcR (sRo k (upd (kRo k) t (nI r))) (kHr k) u (6 - (q + 1)) (q + 1) ≠ -9)) := by rw [hq3, fc_s (k := (sRo k (upd (kRo k) t (nI r)))) (by omega) (Or.inl c95)]
                                    refine g_goto (pc := 98) (tgt := 127) X dX4_byTwo_98 (by decide) ?_
                                    refine g_iinc (v := nI (q + 1)) (lv' := [(7, .int (nI (q + 1))), (0, .ref (ay 0)), (1, .int (nI t)), (2, .int ((kRo k) t)), (3, .int (bI (s3))), (4, .int (nI r)), (5, .int (nI u)), (6, .int ((upd (kRo k) t (nI r)) u))]) (pc := 127) X dX4_byTwo_127 7 rfl (nI_1 q) rfl rfl ?_
                                    refine g_goto (pc := 130) (tgt := 80) X dX4_byTwo_130 (by decide) ?_
                                    refine g_lv X (lv' := [(0, .ref (ay 0)), (1, .int (nI t)), (2, .int ((kRo k) t)), (3, .int (bI (s3))), (4, .int (nI r)), (5, .int (nI u)), (6, .int ((upd (kRo k) t (nI r)) u)), (7, .int (nI (q + 1)))]) [1, 2, 3, 4, 5, 6, 7, 0] rfl ?_
                                    exact ih80 (q + 1) s3 o3 sn4 (by omega) (by first | exact ho3 | exact fun x => upd_u _ _ _ _) hq4 (by omega)
                          refine g_lv X (lv' := [(0, .ref (ay 0)), (1, .int (nI t)), (2, .int ((kRo k) t)), (3, .int (bI (s2))), (4, .int (nI r)), (5, .int (nI u)), (6, .int ((upd (kRo k) t (nI r)) u)), (7, .int (0))]) [2, 3, 4, 5, 6, 7, 1, 0] rfl ?_
                          exact L80_4 (6 - 0 + 1) 0 s2 (upd (kRo k) t (nI r)) sn3 (Nat.zero_le _) (fun _ => rfl) (by rw [c65]; rfl) (Nat.lt_succ_self _)
                  refine g_lv X (lv' := [(0, .ref (ay 0)), (1, .int (nI t)), (2, .int ((kRo k) t)), (3, .int (bI (s1))), (4, .int (nI r)), (5, .int (nI (t + 1)))]) [1, 2, 3, 4, 5, 0] rfl ?_
                  exact L55_3 (8 - (t + 1) + 1) (t + 1) s1 sn2 (Nat.le_refl _) c7 (by rw [c30]; rfl) (Nat.lt_succ_self _)
                · have hr3 : tcR k (kHr k) t 6 0 = (s1 || tcR k (kHr k) t (6 - (r + 1)) (r + 1)) := by rw [hr2, tc_s (by omega) c36]
                  refine g_goto (pc := 39) (tgt := 148) X dX4_byTwo_39 (by decide) ?_
                  refine g_iinc (v := nI (r + 1)) (lv' := [(4, .int (nI (r + 1))), (0, .ref (ay 0)), (1, .int (nI t)), (2, .int ((kRo k) t)), (3, .int (bI (s1)))]) (pc := 148) X dX4_byTwo_148 4 rfl (nI_1 r) rfl rfl ?_
                  refine g_goto (pc := 151) (tgt := 22) X dX4_byTwo_151 (by decide) ?_
                  refine g_lv X (lv' := [(0, .ref (ay 0)), (1, .int (nI t)), (2, .int ((kRo k) t)), (3, .int (bI (s1))), (4, .int (nI (r + 1)))]) [1, 2, 3, 4, 0] rfl ?_
                  exact ih22 (r + 1) s1 o sn2 (by omega) (by first | exact ho2 | exact fun x => upd_u _ _ _ _) hr3 (by omega)
        refine g_lv X (lv' := [(0, .ref (ay 0)), (1, .int (nI t)), (2, .int ((kRo k) t)), (3, .int (0)), (4, .int (0))]) [3, 4, 2, 1, 0] rfl ?_
        exact L22_2 (6 - 0 + 1) 0 false (kRo k) sn (Nat.zero_le _) (fun _ => rfl) rfl (Nat.lt_succ_self _)
  refine g_lv X (lv' := [(0, .ref (ay 0)), (1, .int (0))]) [1, 0] rfl ?_
  exact L2_1 (8 - 0 + 1) 0 (mSn v) (Nat.zero_le _) rfl (Nat.lt_succ_self _)
set_option maxRecDepth 100000 in
set_option maxHeartbeats 4000000 in
theorem c_X4_moved (l : Launch) (D : va_G) (cy : ClassId) (ay : Nat → Nat) (k : KV) (v : MV) (w : Int32) (hw : KW k) : CtIE l yX4_moved cX4_moved 4 .int 7 230 D cy [.ref (ay 0), .int (w)] [wM cy ay k v] (fun (u_ : (Nat → Int32)) => [wM cy ay k (uSn (uRf v (rfB (moB w) (mRf v) (moA k w))) u_)]) (moA k w) := by
  have h8 := hw.2.2.2.2.2.1
  have ho := hw.2.2.2.2.1
  refine ctIE_of (by decide +kernel) (Nat.le_of_ble_eq_true rfl) (fun p_ e_ s_ m_ args_ below_ meth_ c_ A_ X => ?_)
  refine g_lv X (lv' := [(0, .ref (ay 0)), (1, .int (w))]) [0, 1] rfl ?_
  refine g_iload_n (pc := 0) X dX4_moved_0 1 rfl ?_
  refine g_iconst (v := 0) (pc := 1) X dX4_moved_1 (by decide) ?_
  refine g_iconst (v := 1) (pc := 2) X dX4_moved_2 (by decide) ?_
  refine g_callS (pc := 3) (rest := []) X (c_X4_within l D cy w 0 1 ) sl_X4_56 dX4_moved_3 rfl rfl rfl rfl rfl ⟨Nat.zero_le _, Nat.zero_le _⟩ ?_
  refine g_bif_ne (pc := 6) (tgt := 16) X dX4_moved_6 (by decide) (fun c6 => ?_) (fun c6 => ?_)
  · have w3 := wi_1 c6
    refine g_aload_n (pc := 16) X dX4_moved_16 0 rfl ?_
    refine g_aload_n (pc := 17) X dX4_moved_17 0 rfl ?_
    refine g_get (pc := 18) X (v := .int (nI (kHr k))) fl_X4_95 dX4_moved_18 0 0 rfl rfl rfl ?_
    refine g_callVE (pc := 21) (rest := []) (ss' := fun (u_ : (Nat → Int32)) => [wM cy ay k (uSn v u_)]) X (c_X4_sinsIn l D cy ay k v (kHr k) hw.2.2.2.2.2.1 hw.1.1 hw.2.2.2.2.1 hw.2.2.2.2.2.2.1) vl_X4_146 dX4_moved_21 [0] 0 0 rfl rfl rfl rfl rfl rfl (fun _ => (ads_c (ads_M _ _ _ _ _ _) rfl)) (fun _ => rfl) rfl rfl rfl rfl rfl ⟨Nat.zero_le _, Nat.zero_le _⟩ ?_
    rintro xs_21_1
    refine g_eq X (ss' := [wM cy ay k (uSn v xs_21_1)]) rfl ?_
    have hlt := si_lt (h := kHr k) ho h8
    refine g_nif_ne (pc := 24) (tgt := 31) X dX4_moved_24 (by decide) (siN k (kHr k)) rfl (by omega) (fun c24 => ?_) (fun c24 => ?_)
    · have hs := (si_p ho h8).mp (Nat.pos_of_ne_zero c24)
      refine g_iconst (v := 0) (pc := 31) X dX4_moved_31 (by decide) ?_
      refine g_istore_n (lv' := [(2, .int (0)), (0, .ref (ay 0)), (1, .int (w))]) (pc := 32) X dX4_moved_32 rfl rfl rfl ?_
      refine g_iload_n (pc := 33) X dX4_moved_33 0 rfl ?_
      refine g_if_eq (pc := 34) (tgt := 42) X dX4_moved_34 (by decide) (fun c34 => ?_) (fun c34 => by exact absurd c34 (by decide))
      refine g_aload_n (pc := 42) X dX4_moved_42 1 rfl ?_
      refine g_callVE (pc := 43) (rest := []) (ss' := fun (u_ : (Nat → Int32)) => [wM cy ay k (uSn v u_)]) X (c_X4_oneMoved l D cy ay k (uSn v xs_21_1) hw.2.2.2.2.2.1 hw.1.1 hw.2.2.2.2.1 hw.2.2.2.2.2.2.1) vl_X4_154 dX4_moved_43 [0] 0 0 rfl rfl rfl rfl rfl rfl (fun _ => (ads_c (ads_M _ _ _ _ _ _) rfl)) (fun _ => rfl) rfl rfl rfl rfl rfl ⟨Nat.zero_le _, Nat.zero_le _⟩ ?_
      rintro xs_43_2
      refine g_eq X (ss' := [wM cy ay k (uSn v xs_43_2)]) rfl ?_
      refine g_istore_n (lv' := [(3, .int (fcK k (kHr k) 0)), (2, .int (0)), (0, .ref (ay 0)), (1, .int (w))]) (pc := 46) X dX4_moved_46 rfl rfl rfl ?_
      refine g_iload_n (pc := 47) X dX4_moved_47 3 rfl ?_
      refine g_iconst (v := 1) (pc := 48) X dX4_moved_48 (by decide) ?_
      refine g_icmp_ne (pc := 49) (tgt := 54) X dX4_moved_49 (by decide) (fun c49 => ?_) (fun c49 => ?_)
      · refine g_iload_n (pc := 54) X dX4_moved_54 1 rfl ?_
        refine g_if_eq (pc := 55) (tgt := 62) X dX4_moved_55 (by decide) (fun c55 => ?_) (fun c55 => by exact absurd c55 (by decide))
        refine g_iload_n (pc := 62) X dX4_moved_62 0 rfl ?_
        refine g_bipush (v := (-9)) (pc := 63) X dX4_moved_63 (by decide) ?_
        refine g_icmp_eq (pc := 65) (tgt := 72) X dX4_moved_65 (by decide) (fun c65 => ?_) (fun c65 => ?_)
        · refine g_aload_n (pc := 72) X dX4_moved_72 2 rfl ?_
          refine g_callVE (pc := 73) (rest := []) (ss' := fun (u_ : (Nat → Int32)) => [wM cy ay k (uSn v u_)]) X (c_X4_byTwo l D cy ay k (uSn v xs_43_2) hw.2.2.2.2.2.1 hw.1.1 hw.2.2.2.2.1 hw.2.2.2.2.2.2.1) vl_X4_158 dX4_moved_73 [0] 0 0 rfl rfl rfl rfl rfl rfl (fun _ => (ads_c (ads_M _ _ _ _ _ _) rfl)) (fun _ => rfl) rfl rfl rfl rfl rfl ⟨Nat.zero_le _, Nat.zero_le _⟩ ?_
          rintro xs_73_3
          refine g_eq X (ss' := [wM cy ay k (uSn v xs_73_3)]) rfl ?_
          refine g_bif_eq (pc := 76) (tgt := 83) X dX4_moved_76 (by decide) (fun c76 => ?_) (fun c76 => ?_)
          · refine g_bipush (v := (-9)) (pc := 83) X dX4_moved_83 (by decide) ?_
            exact g_iretE (pc := 85) X (xs_73_3) rfl dX4_moved_85 rfl (by first | (simp [moA, moB, *]; done) | (rcases w3 with w3 | w3 <;> first | exact absurd w3 c49 | (simp [moA, moB, *]; done)) | done) (by first | (rcases w3 with w3 | w3 <;> (simp [moA, moB, rfB, *]; done)) | first | (simp [moA, moB, rfB, *]; done) | (simp [moA, moB, rfB, *]; rfl))
          · refine g_iconst (v := 2) (pc := 79) X dX4_moved_79 (by decide) ?_
            refine g_goto (pc := 80) (tgt := 85) X dX4_moved_80 (by decide) ?_
            exact g_iretE (pc := 85) X (xs_73_3) rfl dX4_moved_85 rfl (by first | (simp [moA, moB, *]; done) | (rcases w3 with w3 | w3 <;> first | exact absurd w3 c49 | (simp [moA, moB, *]; done)) | done) (by first | (rcases w3 with w3 | w3 <;> (simp [moA, moB, rfB, *]; done)) | first | (simp [moA, moB, rfB, *]; done) | (simp [moA, moB, rfB, *]; rfl))
        · refine g_iconst (v := 1) (pc := 68) X dX4_moved_68 (by decide) ?_
          refine g_goto (pc := 69) (tgt := 85) X dX4_moved_69 (by decide) ?_
          exact g_iretE (pc := 85) X (xs_43_2) rfl dX4_moved_85 rfl (by first | (simp [moA, moB, *]; done) | (rcases w3 with w3 | w3 <;> first | exact absurd w3 c49 | (simp [moA, moB, *]; done)) | done) (by first | (rcases w3 with w3 | w3 <;> (simp [moA, moB, rfB, *]; done)) | first | (simp [moA, moB, rfB, *]; done) | (simp [moA, moB, rfB, *]; rfl))
      · refine g_iload_n (pc := 52) X dX4_moved_52 0 rfl ?_
        exact g_iretE (pc := 53) X (xs_43_2) rfl dX4_moved_53 rfl (by first | (simp [moA, moB, *]; done) | (rcases w3 with w3 | w3 <;> first | exact absurd w3 c49 | (simp [moA, moB, *]; done)) | done) (by first | (rcases w3 with w3 | w3 <;> (simp [moA, moB, rfB, *]; done)) | first | (simp [moA, moB, rfB, *]; done) | (simp [moA, moB, rfB, *]; rfl))
    · have hs := (si_0 ho h8).mp c24
      refine g_iconst (v := 1) (pc := 27) X dX4_moved_27 (by decide) ?_
      refine g_goto (pc := 28) (tgt := 32) X dX4_moved_28 (by decide) ?_
      refine g_istore_n (lv' := [(2, .int (1)), (0, .ref (ay 0)), (1, .int (w))]) (pc := 32) X dX4_moved_32 rfl rfl rfl ?_
      refine g_iload_n (pc := 33) X dX4_moved_33 0 rfl ?_
      refine g_if_eq (pc := 34) (tgt := 42) X dX4_moved_34 (by decide) (fun c34 => by exact absurd c34 (by decide)) (fun c34 => ?_)
      refine g_bipush (v := (-9)) (pc := 37) X dX4_moved_37 (by decide) ?_
      refine g_goto (pc := 39) (tgt := 46) X dX4_moved_39 (by decide) ?_
      refine g_istore_n (lv' := [(3, .int ((-9))), (2, .int (1)), (0, .ref (ay 0)), (1, .int (w))]) (pc := 46) X dX4_moved_46 rfl rfl rfl ?_
      refine g_iload_n (pc := 47) X dX4_moved_47 3 rfl ?_
      refine g_iconst (v := 1) (pc := 48) X dX4_moved_48 (by decide) ?_
      refine g_icmp_ne (pc := 49) (tgt := 54) X dX4_moved_49 (by decide) (fun c49 => ?_) (fun c49 => ?_)
      · refine g_iload_n (pc := 54) X dX4_moved_54 1 rfl ?_
        refine g_if_eq (pc := 55) (tgt := 62) X dX4_moved_55 (by decide) (fun c55 => by exact absurd c55 (by decide)) (fun c55 => ?_)
        refine g_iconst (v := 0) (pc := 58) X dX4_moved_58 (by decide) ?_
        refine g_goto (pc := 59) (tgt := 85) X dX4_moved_59 (by decide) ?_
        exact g_iretE (pc := 85) X (xs_21_1) rfl dX4_moved_85 rfl (by first | (simp [moA, moB, *]; done) | (rcases w3 with w3 | w3 <;> first | exact absurd w3 c49 | (simp [moA, moB, *]; done)) | done) (by first | (rcases w3 with w3 | w3 <;> (simp [moA, moB, rfB, *]; done)) | first | (simp [moA, moB, rfB, *]; done) | (simp [moA, moB, rfB, *]; rfl))
      · refine g_iload_n (pc := 52) X dX4_moved_52 0 rfl ?_
        exact g_iretE (pc := 53) X (xs_21_1) rfl dX4_moved_53 rfl (by first | (simp [moA, moB, *]; done) | (rcases w3 with w3 | w3 <;> first | exact absurd w3 c49 | (simp [moA, moB, *]; done)) | done) (by first | (rcases w3 with w3 | w3 <;> (simp [moA, moB, rfB, *]; done)) | first | (simp [moA, moB, rfB, *]; done) | (simp [moA, moB, rfB, *]; rfl))
  · have w3 := wi_1f c6
    refine g_aload_n (pc := 9) X dX4_moved_9 0 rfl ?_
    refine g_bipush (v := (-2)) (pc := 10) X dX4_moved_10 (by decide) ?_
    refine g_callV (pc := 12) (rest := []) (ss' := [wM cy ay k (uRf v (rfU (mRf v) ((-2))))]) X (c_X4_no l D cy ay k v ((-2)) rf_2) vl_X4_63 dX4_moved_12 [0] 0 0 rfl rfl rfl rfl rfl rfl (ads_c (ads_M _ _ _ _ _ _) rfl) rfl rfl rfl rfl rfl rfl ⟨Nat.zero_le _, Nat.zero_le _⟩ ?_
    exact g_iretE (pc := 15) X (mSn v) rfl dX4_moved_15 rfl (by first | (simp [moA, moB, *]; done) | (rcases w3 with w3 | w3 <;> first | exact absurd w3 c49 | (simp [moA, moB, *]; done)) | done) (by first | (rcases w3 with w3 | w3 <;> (simp [moA, moB, rfB, *]; done)) | first | (simp [moA, moB, rfB, *]; done) | (simp [moA, moB, rfB, *]; rfl))
set_option maxRecDepth 100000 in
set_option maxHeartbeats 4000000 in
theorem c_X4_given (l : Launch) (D : va_G) (cy : ClassId) (ay : Nat → Nat) (k : KV) (v : MV) (t : Int32) (hw : KW k) : CtIE l yX4_given cX4_given 5 .int 5 178 D cy [.ref (ay 0), .int (t)] [wM cy ay k v] (fun (u_ : (Nat → Int32)) => [wM cy ay k (uSn (uRf v (rfB (gvB k t) (mRf v) (gvA k t))) u_)]) (gvA k t) := by
  have h8 := hw.2.2.2.2.2.1
  refine ctIE_of (by decide +kernel) (Nat.le_of_ble_eq_true rfl) (fun p_ e_ s_ m_ args_ below_ meth_ c_ A_ X => ?_)
  refine g_lv X (lv' := [(0, .ref (ay 0)), (1, .int (t))]) [0, 1] rfl ?_
  refine g_aload_n (pc := 0) X dX4_given_0 0 rfl ?_
  refine g_iload_n (pc := 1) X dX4_given_1 1 rfl ?_
  refine g_callV (pc := 2) (rest := []) (ss' := [wM cy ay k v]) X (c_X4_isThing l D cy ay k v t hw.2.2.2.2.2.1) vl_X4_112 dX4_given_2 [0] 0 0 rfl rfl rfl rfl rfl rfl rfl rfl rfl rfl rfl rfl rfl ⟨Nat.zero_le _, Nat.zero_le _⟩ ?_
  refine g_bif_ne (pc := 5) (tgt := 14) X dX4_given_5 (by decide) (fun c5 => ?_) (fun c5 => ?_)
  · have r5 := c5
    obtain ⟨i, hi, rfl⟩ := hasT_t hw.2.2.2.2.2.1 c5
    have ixi : ix (nI i) = i := ixn (by have := hw.2.2.2.2.2.1; omega)
    refine g_aload_n (pc := 14) X dX4_given_14 0 rfl ?_
    refine g_get (pc := 15) X (v := .ref (ay 5)) fl_X4_22 dX4_given_15 0 0 rfl rfl rfl ?_
    refine g_iload_n (pc := 18) X dX4_given_18 1 rfl ?_
    refine g_iald_n (pc := 19) (f := kOt k) X 0 5 dX4_given_19 i rfl rfl rfl (by have := hw.2.2.2.2.2.1; omega) rfl ?_
    refine g_bipush (v := (-9)) (pc := 20) X dX4_given_20 (by decide) ?_
    refine g_icmp_eq (pc := 22) (tgt := 32) X dX4_given_22 (by decide) (fun c22 => ?_) (fun c22 => ?_)
    · refine g_iconst (v := 0) (pc := 32) X dX4_given_32 (by decide) ?_
      refine g_istore_n (lv' := [(2, .int (0)), (0, .ref (ay 0)), (1, .int (nI i))]) (pc := 33) X dX4_given_33 rfl rfl rfl ?_
      refine g_iconst (v := 0) (pc := 34) X dX4_given_34 (by decide) ?_
      refine g_istore_n (lv' := [(3, .int (0)), (2, .int (0)), (0, .ref (ay 0)), (1, .int (nI i))]) (pc := 35) X dX4_given_35 rfl rfl rfl ?_
      have L36_1 : ∀ (fu_ : Nat) (j : Nat) (hj : j ≤ kNt k) (hm : 8 - j < fu_), G p_ l e_ { frames := 5, cells := 0, slots := 0, locals := 178 } s_ m_ args_ below_ meth_ c_ 5 D A_ 0 0 (QIE below_ args_ s_ D A_ (fun (u_ : (Nat → Int32)) => [wM cy ay k (uSn (uRf v (rfB (gvB k (nI i)) (mRf v) (gvA k (nI i)))) u_)]) (gvA k (nI i))) [wM cy ay k v] 36 [(0, .ref (ay 0)), (1, .int (nI i)), (2, .int (g1N k i j)), (3, .int (nI j))] [] := by
        intro fu_
        induction fu_ with
        | zero => intro j hj hm; exact absurd hm (Nat.not_lt_zero _)
        | succ fu_ ih =>
          intro j hj hm
          have ih36 := ih
          clear ih
          refine g_iload_n (pc := 36) X dX4_given_36 3 rfl ?_
          refine g_aload_n (pc := 37) X dX4_given_37 0 rfl ?_
          refine g_get (pc := 38) X (v := .int (nI (kNt k))) fl_X4_52 dX4_given_38 0 0 rfl rfl rfl ?_
          refine g_ncmp_ge (pc := 41) (tgt := 72) X dX4_given_41 (by decide) j (kNt k) rfl rfl (by omega) (by omega) (fun c41 => ?_) (fun c41 => ?_)
          · have n41 := Nat.not_lt.mpr c41
            have ej : j = kNt k := by omega
            refine g_iconst (v := 0) (pc := 72) X dX4_given_72 (by decide) ?_
            refine g_istore_n (lv' := [(3, .int (0)), (0, .ref (ay 0)), (1, .int (nI i)), (2, .int (g1N k i j))]) (pc := 73) X dX4_given_73 rfl rfl rfl ?_
            have L74_2 : ∀ (fu_ : Nat) (h : Nat) (b : Int32) (sn : Nat → Int32) (hh8 : h ≤ 8) (hg : gJ k i h 0 b) (hm : 8 - h < fu_), G p_ l e_ { frames := 5, cells := 0, slots := 0, locals := 178 } s_ m_ args_ below_ meth_ c_ 5 D A_ 0 0 (QIE below_ args_ s_ D A_ (fun (u_ : (Nat → Int32)) => [wM cy ay k (uSn (uRf v (rfB (gvB k (nI i)) (mRf v) (gvA k (nI i)))) u_)]) (gvA k (nI i))) [wM cy ay k (uSn v sn)] 74 [(0, .ref (ay 0)), (1, .int (nI i)), (2, .int (b)), (3, .int (nI h))] [] := by
              intro fu_
              induction fu_ with
              | zero => intro h b sn hh8 hg hm; exact absurd hm (Nat.not_lt_zero _)
              | succ fu_ ih =>
                intro h b sn hh8 hg hm
                have ih74 := ih
                clear ih
                refine g_iload_n (pc := 74) X dX4_given_74 3 rfl ?_
                refine g_bipush (v := 8) (pc := 75) X dX4_given_75 (by decide) ?_
                refine g_ncmp_ge (pc := 77) (tgt := 135) X dX4_given_77 (by decide) h 8 rfl rfl (by omega) (by decide) (fun c77 => ?_) (fun c77 => ?_)
                · have n77 := Nat.not_lt.mpr c77
                  refine g_iload_n (pc := 135) X dX4_given_135 2 rfl ?_
                  have eh : h = 8 := by omega
                  subst eh
                  exact g_iretE (pc := 136) X (sn) rfl dX4_given_136 rfl (by first | (rw [gJ_e h8 hg]; simp [gvA, *]; done) | (simp [gvA, *]; done)) (by first | (simp [gvA, gvB, rfB, *]; done) | (simp [gvA, gvB, rfB, *]; rfl))
                · refine g_aload_n (pc := 80) X dX4_given_80 0 rfl ?_
                  refine g_iload_n (pc := 81) X dX4_given_81 3 rfl ?_
                  refine g_callVv (pc := 82) (rest := []) (ss' := [wM cy ay k (uSn v (lkF k h (mSn (uSn v sn))))]) X (c_X4_look l D cy ay k (uSn v sn) h hw.2.2.2.2.2.1 hw.1.1 c77) vl_X4_142 dX4_given_82 [0] 0 0 rfl rfl rfl rfl rfl rfl (ads_c (ads_M _ _ _ _ _ _) rfl) rfl rfl rfl rfl rfl rfl ⟨Nat.zero_le _, Nat.zero_le _⟩ ?_
                  refine g_iconst (v := 0) (pc := 85) X dX4_given_85 (by decide) ?_
                  refine g_istore (lv' := [(4, .int (0)), (0, .ref (ay 0)), (1, .int (nI i)), (2, .int (b)), (3, .int (nI h))]) (pc := 86) X dX4_given_86 rfl rfl ?_
                  have L88_3 : ∀ (fu_ : Nat) (p : Nat) (b : Int32) (hp : p ≤ kNt k) (hg : gJ k i h p b) (hm : 8 - p < fu_), G p_ l e_ { frames := 5, cells := 0, slots := 0, locals := 178 } s_ m_ args_ below_ meth_ c_ 5 D A_ 0 0 (QIE below_ args_ s_ D A_ (fun (u_ : (Nat → Int32)) => [wM cy ay k (uSn (uRf v (rfB (gvB k (nI i)) (mRf v) (gvA k (nI i)))) u_)]) (gvA k (nI i))) [wM cy ay k (uSn v (lkF k h (mSn (uSn v sn))))] 88 [(0, .ref (ay 0)), (1, .int (nI i)), (2, .int (b)), (3, .int (nI h)), (4, .int (nI p))] [] := by
                    intro fu_
                    induction fu_ with
                    | zero => intro p b hp hg hm; exact absurd hm (Nat.not_lt_zero _)
                    | succ fu_ ih =>
                      intro p b hp hg hm
                      have ih88 := ih
                      clear ih
                      refine g_iload (pc := 88) X dX4_given_88 4 rfl ?_
                      refine g_aload_n (pc := 90) X dX4_given_90 0 rfl ?_
                      refine g_get (pc := 91) X (v := .int (nI (kNt k))) fl_X4_52 dX4_given_91 0 0 rfl rfl rfl ?_
                      refine g_ncmp_ge (pc := 94) (tgt := 129) X dX4_given_94 (by decide) p (kNt k) rfl rfl (by omega) (by omega) (fun c94 => ?_) (fun c94 => ?_)
                      · have n94 := Nat.not_lt.mpr c94
                        have ep : p = kNt k := by omega
                        refine g_iinc (v := nI (h + 1)) (lv' := [(3, .int (nI (h + 1))), (0, .ref (ay 0)), (1, .int (nI i)), (2, .int (b)), (4, .int (nI p))]) (pc := 129) X dX4_given_129 3 rfl (nI_1 h) rfl rfl ?_
                        refine g_goto (pc := 132) (tgt := 74) X dX4_given_132 (by decide) ?_
                        refine g_lv X (lv' := [(0, .ref (ay 0)), (1, .int (nI i)), (2, .int (b)), (3, .int (nI (h + 1)))]) [1, 2, 3, 0] rfl ?_
                        exact ih74 (h + 1) b (lkF k h (mSn (uSn v sn))) c77 (gJ_h (by rw [← ep]; exact hg)) (by omega)
                      · refine g_aload_n (pc := 97) X dX4_given_97 0 rfl ?_
                        refine g_get (pc := 98) X (v := .ref (ay 13)) fl_X4_46 dX4_given_98 0 0 rfl rfl rfl ?_
                        refine g_iload (pc := 101) X dX4_given_101 4 rfl ?_
                        refine g_iald_n (pc := 103) (f := lkF k h (mSn (uSn v sn))) X 0 13 dX4_given_103 p rfl rfl rfl (by omega) rfl ?_
                        refine g_top X (x := (lkF k h (mSn (uSn v sn))) p) (y := sfK k p h) (lkF_s (by omega)) ?_
                        refine g_aload_n (pc := 104) X dX4_given_104 0 rfl ?_
                        refine g_get (pc := 105) X (v := .ref (ay 13)) fl_X4_46 dX4_given_105 0 0 rfl rfl rfl ?_
                        refine g_iload_n (pc := 108) X dX4_given_108 1 rfl ?_
                        refine g_iald_n (pc := 109) (f := lkF k h (mSn (uSn v sn))) X 0 13 dX4_given_109 i rfl rfl rfl (by omega) rfl ?_
                        refine g_top X (x := (lkF k h (mSn (uSn v sn))) i) (y := sfK k i h) (lkF_s hi) ?_
                        refine g_iand (v := (sfK k p h) &&& (sfK k i h)) (pc := 110) X dX4_given_110 rfl ?_
                        refine g_if_eq (pc := 111) (tgt := 123) X dX4_given_111 (by decide) (fun c111 => ?_) (fun c111 => ?_)
                        · have hg2 := gJ_s hg (by rw [mt_c]; exact decide_eq_false (not_not_intro c111))
                          refine g_iinc (v := nI (p + 1)) (lv' := [(4, .int (nI (p + 1))), (0, .ref (ay 0)), (1, .int (nI i)), (2, .int (b)), (3, .int (nI h))]) (pc := 123) X dX4_given_123 4 rfl (nI_1 p) rfl rfl ?_
                          refine g_goto (pc := 126) (tgt := 88) X dX4_given_126 (by decide) ?_
                          refine g_lv X (lv' := [(0, .ref (ay 0)), (1, .int (nI i)), (2, .int (b)), (3, .int (nI h)), (4, .int (nI (p + 1)))]) [1, 2, 3, 4, 0] rfl ?_
                          exact ih88 (p + 1) b c94 hg2 (by omega)
                        · have hg2 := gJ_t (by omega) hg (by rw [mt_c]; exact decide_eq_true c111)
                          refine g_iload_n (pc := 114) X dX4_given_114 2 rfl ?_
                          refine g_iconst (v := 1) (pc := 115) X dX4_given_115 (by decide) ?_
                          refine g_iload (pc := 116) X dX4_given_116 4 rfl ?_
                          refine g_ishl (v := shl 1 (nI p)) (pc := 118) X dX4_given_118 rfl ?_
                          refine g_iconst (v := (-1)) (pc := 119) X dX4_given_119 (by decide) ?_
                          refine g_ixor (v := (shl 1 (nI p)) ^^^ ((-1))) (pc := 120) X dX4_given_120 rfl ?_
                          refine g_iand (v := b &&& ((shl 1 (nI p)) ^^^ ((-1)))) (pc := 121) X dX4_given_121 rfl ?_
                          refine g_istore_n (lv' := [(2, .int (b &&& ((shl 1 (nI p)) ^^^ ((-1))))), (0, .ref (ay 0)), (1, .int (nI i)), (3, .int (nI h)), (4, .int (nI p))]) (pc := 122) X dX4_given_122 rfl rfl rfl ?_
                          refine g_iinc (v := nI (p + 1)) (lv' := [(4, .int (nI (p + 1))), (2, .int (b &&& ((shl 1 (nI p)) ^^^ ((-1))))), (0, .ref (ay 0)), (1, .int (nI i)), (3, .int (nI h))]) (pc := 123) X dX4_given_123 4 rfl (nI_1 p) rfl rfl ?_
                          refine g_goto (pc := 126) (tgt := 88) X dX4_given_126 (by decide) ?_
                          refine g_lv X (lv' := [(0, .ref (ay 0)), (1, .int (nI i)), (2, .int (b &&& ((shl 1 (nI p)) ^^^ ((-1))))), (3, .int (nI h)), (4, .int (nI (p + 1)))]) [2, 3, 1, 4, 0] rfl ?_
                          exact ih88 (p + 1) (b &&& ((shl 1 (nI p)) ^^^ ((-1)))) c94 hg2 (by omega)
                  refine g_lv X (lv' := [(0, .ref (ay 0)), (1, .int (nI i)), (2, .int (b)), (3, .int (nI h)), (4, .int (0))]) [1, 2, 3, 4, 0] rfl ?_
                  exact L88_3 (8 - 0 + 1) 0 b (Nat.zero_le _) (by first | assumption | omega | rfl) (Nat.lt_succ_self _)
            refine g_lv X (lv' := [(0, .ref (ay 0)), (1, .int (nI i)), (2, .int (g1N k i j)), (3, .int (0))]) [1, 2, 3, 0] rfl ?_
            exact L74_2 (8 - 0 + 1) 0 (g1N k i j) (mSn v) (Nat.zero_le _) (by rw [ej]; exact gJ_0 h8) (Nat.lt_succ_self _)
          · refine g_iload_n (pc := 44) X dX4_given_44 3 rfl ?_
            refine g_iload_n (pc := 45) X dX4_given_45 1 rfl ?_
            refine g_ncmp_eq (pc := 46) (tgt := 66) X dX4_given_46 (by decide) j i rfl rfl (by omega) (by omega) (fun c46 => ?_) (fun c46 => ?_)
            · have hc : g1N k i j = g1N k i (j + 1) := by rw [g1N, if_neg (fun q => q.1 c46)]
              rw [hc]
              refine g_iinc (v := nI (j + 1)) (lv' := [(3, .int (nI (j + 1))), (0, .ref (ay 0)), (1, .int (nI i)), (2, .int (g1N k i (j + 1)))]) (pc := 66) X dX4_given_66 3 rfl (nI_1 j) rfl rfl ?_
              refine g_goto (pc := 69) (tgt := 36) X dX4_given_69 (by decide) ?_
              refine g_lv X (lv' := [(0, .ref (ay 0)), (1, .int (nI i)), (2, .int (g1N k i (j + 1))), (3, .int (nI (j + 1)))]) [1, 2, 3, 0] rfl ?_
              exact ih36 (j + 1) c41 (by omega)
            · refine g_aload_n (pc := 49) X dX4_given_49 0 rfl ?_
              refine g_get (pc := 50) X (v := .ref (ay 5)) fl_X4_22 dX4_given_50 0 0 rfl rfl rfl ?_
              refine g_iload_n (pc := 53) X dX4_given_53 3 rfl ?_
              refine g_iald_n (pc := 54) (f := kOt k) X 0 5 dX4_given_54 j rfl rfl rfl (by omega) rfl ?_
              refine g_bipush (v := (-9)) (pc := 55) X dX4_given_55 (by decide) ?_
              refine g_icmp_ne (pc := 57) (tgt := 66) X dX4_given_57 (by decide) (fun c57 => ?_) (fun c57 => ?_)
              · have hc : g1N k i j = g1N k i (j + 1) := by rw [g1N, if_neg (fun q => c57 q.2)]
                rw [hc]
                refine g_iinc (v := nI (j + 1)) (lv' := [(3, .int (nI (j + 1))), (0, .ref (ay 0)), (1, .int (nI i)), (2, .int (g1N k i (j + 1)))]) (pc := 66) X dX4_given_66 3 rfl (nI_1 j) rfl rfl ?_
                refine g_goto (pc := 69) (tgt := 36) X dX4_given_69 (by decide) ?_
                refine g_lv X (lv' := [(0, .ref (ay 0)), (1, .int (nI i)), (2, .int (g1N k i (j + 1))), (3, .int (nI (j + 1)))]) [1, 2, 3, 0] rfl ?_
                exact ih36 (j + 1) c41 (by omega)
              · refine g_iload_n (pc := 60) X dX4_given_60 2 rfl ?_
                refine g_iconst (v := 1) (pc := 61) X dX4_given_61 (by decide) ?_
                refine g_iload_n (pc := 62) X dX4_given_62 3 rfl ?_
                refine g_ishl (v := shl 1 (nI j)) (pc := 63) X dX4_given_63 rfl ?_
                refine g_ior (v := g1N k i (j + 1)) (pc := 64) X dX4_given_64 (by rw [g1N, if_pos ⟨c46, c57⟩] <;> rfl) ?_
                refine g_istore_n (lv' := [(2, .int (g1N k i (j + 1))), (0, .ref (ay 0)), (1, .int (nI i)), (3, .int (nI j))]) (pc := 65) X dX4_given_65 rfl rfl rfl ?_
                refine g_iinc (v := nI (j + 1)) (lv' := [(3, .int (nI (j + 1))), (2, .int (g1N k i (j + 1))), (0, .ref (ay 0)), (1, .int (nI i))]) (pc := 66) X dX4_given_66 3 rfl (nI_1 j) rfl rfl ?_
                refine g_goto (pc := 69) (tgt := 36) X dX4_given_69 (by decide) ?_
                refine g_lv X (lv' := [(0, .ref (ay 0)), (1, .int (nI i)), (2, .int (g1N k i (j + 1))), (3, .int (nI (j + 1)))]) [2, 3, 1, 0] rfl ?_
                exact ih36 (j + 1) c41 (by omega)
      refine g_lv X (lv' := [(0, .ref (ay 0)), (1, .int (nI i)), (2, .int (0)), (3, .int (0))]) [2, 3, 1, 0] rfl ?_
      exact L36_1 (8 - 0 + 1) 0 (Nat.zero_le _) (Nat.lt_succ_self _)
    · refine g_aload_n (pc := 25) X dX4_given_25 0 rfl ?_
      refine g_bipush (v := (-3)) (pc := 26) X dX4_given_26 (by decide) ?_
      refine g_callV (pc := 28) (rest := []) (ss' := [wM cy ay k (uRf v (rfU (mRf v) ((-3))))]) X (c_X4_no l D cy ay k v ((-3)) rf_3) vl_X4_63 dX4_given_28 [0] 0 0 rfl rfl rfl rfl rfl rfl (ads_c (ads_M _ _ _ _ _ _) rfl) rfl rfl rfl rfl rfl rfl ⟨Nat.zero_le _, Nat.zero_le _⟩ ?_
      exact g_iretE (pc := 31) X (mSn v) rfl dX4_given_31 rfl (by first | (rw [gJ_e h8 hg]; simp [gvA, *]; done) | (simp [gvA, *]; done)) (by first | (simp [gvA, gvB, rfB, *]; done) | (simp [gvA, gvB, rfB, *]; rfl))
  · refine g_aload_n (pc := 8) X dX4_given_8 0 rfl ?_
    refine g_iconst (v := (-1)) (pc := 9) X dX4_given_9 (by decide) ?_
    refine g_callV (pc := 10) (rest := []) (ss' := [wM cy ay k (uRf v (rfU (mRf v) ((-1))))]) X (c_X4_no l D cy ay k v ((-1)) rf_1) vl_X4_63 dX4_given_10 [0] 0 0 rfl rfl rfl rfl rfl rfl (ads_c (ads_M _ _ _ _ _ _) rfl) rfl rfl rfl rfl rfl rfl ⟨Nat.zero_le _, Nat.zero_le _⟩ ?_
    exact g_iretE (pc := 13) X (mSn v) rfl dX4_given_13 rfl (by first | (rw [gJ_e h8 hg]; simp [gvA, *]; done) | (simp [gvA, *]; done)) (by first | (simp [gvA, gvB, rfB, *]; done) | (simp [gvA, gvB, rfB, *]; rfl))
