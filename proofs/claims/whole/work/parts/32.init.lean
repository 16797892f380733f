/-! the constructors -/
def kZ : KV := (0, zF, zF, 0, 0, zF, zF, zF, 0, 0, zF)
def vZ : MV := (0, zF, 0, zF, 0, zF, zF, false, zF, zF, zF, zF)
def wZ (cy : ClassId) (ax an am ak aT ag : Nat → Nat) : Sg := [wX cy ax an am ak aT ag false 0 zF zF zF, wH cy an kZ, wH cy am kZ, wH cy ak kZ, wT cy aT zF 0, wG cy ag 0 zF zF]
set_option maxRecDepth 100000 in
theorem cn_7 : Cond.classLink RX3 7 RX1 ∈ TW := tw_in (w := Cond.classLink RX3 7 RX1) (List.mem_of_getElem? (i := 49) rfl) rfl
set_option maxRecDepth 100000 in
theorem cn_26 : Cond.classLink RX3 26 RX2 ∈ TW := tw_in (w := Cond.classLink RX3 26 RX2) (List.mem_of_getElem? (i := 111) rfl) rfl
set_option maxRecDepth 100000 in
theorem cn_33 : Cond.classLink RX3 33 RX0 ∈ TW := tw_in (w := Cond.classLink RX3 33 RX0) (List.mem_of_getElem? (i := 125) rfl) rfl
set_option maxRecDepth 100000 in
theorem it_X0 : Cond.instantiable RX0 3 ∈ TW := tw_in (w := Cond.instantiable RX0 3) (List.mem_of_getElem? (i := 126) rfl) rfl
set_option maxRecDepth 100000 in
theorem it_X1 : Cond.instantiable RX1 13 ∈ TW := tw_in (w := Cond.instantiable RX1 13) (List.mem_of_getElem? (i := 50) rfl) rfl
set_option maxRecDepth 100000 in
theorem it_X2 : Cond.instantiable RX2 2 ∈ TW := tw_in (w := Cond.instantiable RX2 2) (List.mem_of_getElem? (i := 112) rfl) rfl
set_option maxRecDepth 100000 in
theorem it_X3 : Cond.instantiable RX3 10 ∈ TW := tw_in (w := Cond.instantiable RX3 10) (List.mem_of_getElem? (i := 42) rfl) rfl
set_option maxRecDepth 100000 in
theorem it_X4 : Cond.instantiable RX4 23 ∈ TW := tw_in (w := Cond.instantiable RX4 23) (List.mem_of_getElem? (i := 483) rfl) rfl
set_option maxRecDepth 100000 in
theorem nj_X0 : Cond.instanceMethod yX0_init ∈ TW := tw_in (w := Cond.instanceMethod yX0_init) (List.mem_of_getElem? (i := 128) rfl) rfl
set_option maxRecDepth 100000 in
theorem nk_X0 : Cond.code yX0_init cX0_init 1 none ∈ TW := tw_in (w := Cond.code yX0_init cX0_init 1 none) (List.mem_of_getElem? (i := 129) rfl) rfl
set_option maxRecDepth 100000 in
theorem nj_X1 : Cond.instanceMethod yX1_init ∈ TW := tw_in (w := Cond.instanceMethod yX1_init) (List.mem_of_getElem? (i := 52) rfl) rfl
set_option maxRecDepth 100000 in
theorem nk_X1 : Cond.code yX1_init cX1_init 1 none ∈ TW := tw_in (w := Cond.code yX1_init cX1_init 1 none) (List.mem_of_getElem? (i := 53) rfl) rfl
set_option maxRecDepth 100000 in
theorem nj_X2 : Cond.instanceMethod yX2_init ∈ TW := tw_in (w := Cond.instanceMethod yX2_init) (List.mem_of_getElem? (i := 114) rfl) rfl
set_option maxRecDepth 100000 in
theorem nk_X2 : Cond.code yX2_init cX2_init 1 none ∈ TW := tw_in (w := Cond.code yX2_init cX2_init 1 none) (List.mem_of_getElem? (i := 115) rfl) rfl
set_option maxRecDepth 100000 in
theorem ff_X0_15 : FF RX0 15 0 1 (.array .int) := ⟨RX0, TX0, 3, tyX0, rfl, in_X0, by decide, rfl, tw_in (w := Cond.fieldLink RX0 15 RX0 (TX0 1).2.1 (TX0 1).2.2.1) (List.mem_of_getElem? (i := 132) rfl) rfl, tyX0_ok, nmX0, rfl, by decide +kernel⟩
set_option maxRecDepth 100000 in
theorem ff_X0_19 : FF RX0 19 0 2 (.array .int) := ⟨RX0, TX0, 3, tyX0, rfl, in_X0, by decide, rfl, tw_in (w := Cond.fieldLink RX0 19 RX0 (TX0 2).2.1 (TX0 2).2.2.1) (List.mem_of_getElem? (i := 133) rfl) rfl, tyX0_ok, nmX0, rfl, by decide +kernel⟩
set_option maxRecDepth 100000 in
set_option maxHeartbeats 4000000 in
theorem c_X0_init (l : Launch) (D : va_G) (cy : ClassId) : CtN l yX0_init cX0_init 1 12 2 264 D cy 0 [.int 0, .null, .null] (S := Nat → Nat) (fun h0 u => [wG cy (aC h0 u) 0 zF zF]) := by
  refine ctN_of (by decide +kernel) rfl (fun p e s m args below meth c A h0 X hin => ?_)
  refine g_aload_n (pc := 0) X dX0_init_0 0 rfl ?_
  refine g_objI (pc := 1) X ml_X0_3 dX0_init_1 rfl rfl ?_
  refine g_aload_n (pc := 4) X dX0_init_4 0 rfl ?_
  refine g_iconst (v := 0) (pc := 5) X dX0_init_5 (by decide) ?_
  refine g_put (pc := 6) (v := .int 0) (ss' := [[(h0, .inr (0, [.int 0, .null, .null]))]]) X fp_X0_9 dX0_init_6 0 0 rfl rfl rfl rfl rfl rfl ?_
  refine g_aload_n (pc := 9) X dX0_init_9 0 rfl ?_
  refine g_bipush (v := 8) (pc := 10) X dX0_init_10 (by decide) ?_
  refine g_newarr (pc := 12) X dX0_init_12 8 rfl rfl rfl rfl (fun q12 => ?_)
  refine g_eq X (ss' := [[(h0, .inr (0, [.int 0, .null, .null]))], [(q12, .inl (cy, 8, .inl zF))]]) rfl ?_
  refine g_putF (pc := 14) (v := .ref q12) (ss' := [[(h0, .inr (0, [.int 0, .ref q12, .null]))], [(q12, .inl (cy, 8, .inl zF))]]) X hin ff_X0_15 dX0_init_14 0 0 rfl rfl rfl rfl rfl rfl ?_
  refine g_aload_n (pc := 17) X dX0_init_17 0 rfl ?_
  refine g_sipush (v := 256) (pc := 18) X dX0_init_18 (by decide) ?_
  refine g_newarr (pc := 21) X dX0_init_21 256 rfl rfl rfl rfl (fun q21 => ?_)
  refine g_eq X (ss' := [[(h0, .inr (0, [.int 0, .ref q12, .null]))], [(q12, .inl (cy, 8, .inl zF))], [(q21, .inl (cy, 256, .inl zF))]]) rfl ?_
  refine g_putF (pc := 23) (v := .ref q21) (ss' := [[(h0, .inr (0, [.int 0, .ref q12, .ref q21]))], [(q12, .inl (cy, 8, .inl zF))], [(q21, .inl (cy, 256, .inl zF))]]) X hin ff_X0_19 dX0_init_23 0 0 rfl rfl rfl rfl rfl rfl ?_
  exact g_vretN (pc := 26) X (fun j => [q12, q21].getD j 0) rfl dX0_init_26 [0, 1, 2] rfl rfl
set_option maxRecDepth 100000 in
theorem ff_X1_15 : FF RX1 15 1 1 (.array .int) := ⟨RX1, TX1, 13, tyX1, rfl, in_X1, by decide, rfl, tw_in (w := Cond.fieldLink RX1 15 RX1 (TX1 1).2.1 (TX1 1).2.2.1) (List.mem_of_getElem? (i := 57) rfl) rfl, tyX1_ok, nmX1, rfl, by decide +kernel⟩
set_option maxRecDepth 100000 in
theorem ff_X1_19 : FF RX1 19 1 2 (.array .int) := ⟨RX1, TX1, 13, tyX1, rfl, in_X1, by decide, rfl, tw_in (w := Cond.fieldLink RX1 19 RX1 (TX1 2).2.1 (TX1 2).2.2.1) (List.mem_of_getElem? (i := 59) rfl) rfl, tyX1_ok, nmX1, rfl, by decide +kernel⟩
set_option maxRecDepth 100000 in
theorem ff_X1_25 : FF RX1 25 1 4 (.array .int) := ⟨RX1, TX1, 13, tyX1, rfl, in_X1, by decide, rfl, tw_in (w := Cond.fieldLink RX1 25 RX1 (TX1 4).2.1 (TX1 4).2.2.1) (List.mem_of_getElem? (i := 63) rfl) rfl, tyX1_ok, nmX1, rfl, by decide +kernel⟩
set_option maxRecDepth 100000 in
theorem ff_X1_28 : FF RX1 28 1 5 (.array .int) := ⟨RX1, TX1, 13, tyX1, rfl, in_X1, by decide, rfl, tw_in (w := Cond.fieldLink RX1 28 RX1 (TX1 5).2.1 (TX1 5).2.2.1) (List.mem_of_getElem? (i := 64) rfl) rfl, tyX1_ok, nmX1, rfl, by decide +kernel⟩
set_option maxRecDepth 100000 in
theorem ff_X1_34 : FF RX1 34 1 7 (.array .int) := ⟨RX1, TX1, 13, tyX1, rfl, in_X1, by decide, rfl, tw_in (w := Cond.fieldLink RX1 34 RX1 (TX1 7).2.1 (TX1 7).2.2.1) (List.mem_of_getElem? (i := 68) rfl) rfl, tyX1_ok, nmX1, rfl, by decide +kernel⟩
set_option maxRecDepth 100000 in
theorem ff_X1_37 : FF RX1 37 1 8 (.array .int) := ⟨RX1, TX1, 13, tyX1, rfl, in_X1, by decide, rfl, tw_in (w := Cond.fieldLink RX1 37 RX1 (TX1 8).2.1 (TX1 8).2.2.1) (List.mem_of_getElem? (i := 70) rfl) rfl, tyX1_ok, nmX1, rfl, by decide +kernel⟩
set_option maxRecDepth 100000 in
theorem ff_X1_40 : FF RX1 40 1 9 (.array .int) := ⟨RX1, TX1, 13, tyX1, rfl, in_X1, by decide, rfl, tw_in (w := Cond.fieldLink RX1 40 RX1 (TX1 9).2.1 (TX1 9).2.2.1) (List.mem_of_getElem? (i := 72) rfl) rfl, tyX1_ok, nmX1, rfl, by decide +kernel⟩
set_option maxRecDepth 100000 in
theorem ff_X1_49 : FF RX1 49 1 12 (.array .int) := ⟨RX1, TX1, 13, tyX1, rfl, in_X1, by decide, rfl, tw_in (w := Cond.fieldLink RX1 49 RX1 (TX1 12).2.1 (TX1 12).2.2.1) (List.mem_of_getElem? (i := 80) rfl) rfl, tyX1_ok, nmX1, rfl, by decide +kernel⟩
set_option maxRecDepth 100000 in
set_option maxHeartbeats 4000000 in
theorem c_X1_init (l : Launch) (D : va_G) (cy : ClassId) : CtN l yX1_init cX1_init 1 12 8 64 D cy 1 [.int 0, .null, .null, .int 0, .null, .null, .int 0, .null, .null, .null, .int 0, .int 0, .null] (S := Nat → Nat) (fun h0 u => [wH cy (aC h0 u) kZ]) := by
  refine ctN_of (by decide +kernel) rfl (fun p e s m args below meth c A h0 X hin => ?_)
  refine g_aload_n (pc := 0) X dX1_init_0 0 rfl ?_
  refine g_objI (pc := 1) X ml_X1_3 dX1_init_1 rfl rfl ?_
  refine g_aload_n (pc := 4) X dX1_init_4 0 rfl ?_
  refine g_iconst (v := 0) (pc := 5) X dX1_init_5 (by decide) ?_
  refine g_put (pc := 6) (v := .int 0) (ss' := [[(h0, .inr (1, [.int 0, .null, .null, .int 0, .null, .null, .int 0, .null, .null, .null, .int 0, .int 0, .null]))]]) X fp_X1_9 dX1_init_6 0 0 rfl rfl rfl rfl rfl rfl ?_
  refine g_aload_n (pc := 9) X dX1_init_9 0 rfl ?_
  refine g_bipush (v := 10) (pc := 10) X dX1_init_10 (by decide) ?_
  refine g_newarr (pc := 12) X dX1_init_12 10 rfl rfl rfl rfl (fun q12 => ?_)
  refine g_eq X (ss' := [[(h0, .inr (1, [.int 0, .null, .null, .int 0, .null, .null, .int 0, .null, .null, .null, .int 0, .int 0, .null]))], [(q12, .inl (cy, 10, .inl zF))]]) rfl ?_
  refine g_putF (pc := 14) (v := .ref q12) (ss' := [[(h0, .inr (1, [.int 0, .ref q12, .null, .int 0, .null, .null, .int 0, .null, .null, .null, .int 0, .int 0, .null]))], [(q12, .inl (cy, 10, .inl zF))]]) X hin ff_X1_15 dX1_init_14 0 0 rfl rfl rfl rfl rfl rfl ?_
  refine g_aload_n (pc := 17) X dX1_init_17 0 rfl ?_
  refine g_bipush (v := 10) (pc := 18) X dX1_init_18 (by decide) ?_
  refine g_newarr (pc := 20) X dX1_init_20 10 rfl rfl rfl rfl (fun q20 => ?_)
  refine g_eq X (ss' := [[(h0, .inr (1, [.int 0, .ref q12, .null, .int 0, .null, .null, .int 0, .null, .null, .null, .int 0, .int 0, .null]))], [(q12, .inl (cy, 10, .inl zF))], [(q20, .inl (cy, 10, .inl zF))]]) rfl ?_
  refine g_putF (pc := 22) (v := .ref q20) (ss' := [[(h0, .inr (1, [.int 0, .ref q12, .ref q20, .int 0, .null, .null, .int 0, .null, .null, .null, .int 0, .int 0, .null]))], [(q12, .inl (cy, 10, .inl zF))], [(q20, .inl (cy, 10, .inl zF))]]) X hin ff_X1_19 dX1_init_22 0 0 rfl rfl rfl rfl rfl rfl ?_
  refine g_aload_n (pc := 25) X dX1_init_25 0 rfl ?_
  refine g_iconst (v := 0) (pc := 26) X dX1_init_26 (by decide) ?_
  refine g_put (pc := 27) (v := .int 0) (ss' := [[(h0, .inr (1, [.int 0, .ref q12, .ref q20, .int 0, .null, .null, .int 0, .null, .null, .null, .int 0, .int 0, .null]))], [(q12, .inl (cy, 10, .inl zF))], [(q20, .inl (cy, 10, .inl zF))]]) X fp_X1_22 dX1_init_27 0 0 rfl rfl rfl rfl rfl rfl ?_
  refine g_aload_n (pc := 30) X dX1_init_30 0 rfl ?_
  refine g_bipush (v := 6) (pc := 31) X dX1_init_31 (by decide) ?_
  refine g_newarr (pc := 33) X dX1_init_33 6 rfl rfl rfl rfl (fun q33 => ?_)
  refine g_eq X (ss' := [[(h0, .inr (1, [.int 0, .ref q12, .ref q20, .int 0, .null, .null, .int 0, .null, .null, .null, .int 0, .int 0, .null]))], [(q12, .inl (cy, 10, .inl zF))], [(q20, .inl (cy, 10, .inl zF))], [(q33, .inl (cy, 6, .inl zF))]]) rfl ?_
  refine g_putF (pc := 35) (v := .ref q33) (ss' := [[(h0, .inr (1, [.int 0, .ref q12, .ref q20, .int 0, .ref q33, .null, .int 0, .null, .null, .null, .int 0, .int 0, .null]))], [(q12, .inl (cy, 10, .inl zF))], [(q20, .inl (cy, 10, .inl zF))], [(q33, .inl (cy, 6, .inl zF))]]) X hin ff_X1_25 dX1_init_35 0 0 rfl rfl rfl rfl rfl rfl ?_
  refine g_aload_n (pc := 38) X dX1_init_38 0 rfl ?_
  refine g_bipush (v := 6) (pc := 39) X dX1_init_39 (by decide) ?_
  refine g_newarr (pc := 41) X dX1_init_41 6 rfl rfl rfl rfl (fun q41 => ?_)
  refine g_eq X (ss' := [[(h0, .inr (1, [.int 0, .ref q12, .ref q20, .int 0, .ref q33, .null, .int 0, .null, .null, .null, .int 0, .int 0, .null]))], [(q12, .inl (cy, 10, .inl zF))], [(q20, .inl (cy, 10, .inl zF))], [(q33, .inl (cy, 6, .inl zF))], [(q41, .inl (cy, 6, .inl zF))]]) rfl ?_
  refine g_putF (pc := 43) (v := .ref q41) (ss' := [[(h0, .inr (1, [.int 0, .ref q12, .ref q20, .int 0, .ref q33, .ref q41, .int 0, .null, .null, .null, .int 0, .int 0, .null]))], [(q12, .inl (cy, 10, .inl zF))], [(q20, .inl (cy, 10, .inl zF))], [(q33, .inl (cy, 6, .inl zF))], [(q41, .inl (cy, 6, .inl zF))]]) X hin ff_X1_28 dX1_init_43 0 0 rfl rfl rfl rfl rfl rfl ?_
  refine g_aload_n (pc := 46) X dX1_init_46 0 rfl ?_
  refine g_iconst (v := 0) (pc := 47) X dX1_init_47 (by decide) ?_
  refine g_put (pc := 48) (v := .int 0) (ss' := [[(h0, .inr (1, [.int 0, .ref q12, .ref q20, .int 0, .ref q33, .ref q41, .int 0, .null, .null, .null, .int 0, .int 0, .null]))], [(q12, .inl (cy, 10, .inl zF))], [(q20, .inl (cy, 10, .inl zF))], [(q33, .inl (cy, 6, .inl zF))], [(q41, .inl (cy, 6, .inl zF))]]) X fp_X1_31 dX1_init_48 0 0 rfl rfl rfl rfl rfl rfl ?_
  refine g_aload_n (pc := 51) X dX1_init_51 0 rfl ?_
  refine g_bipush (v := 8) (pc := 52) X dX1_init_52 (by decide) ?_
  refine g_newarr (pc := 54) X dX1_init_54 8 rfl rfl rfl rfl (fun q54 => ?_)
  refine g_eq X (ss' := [[(h0, .inr (1, [.int 0, .ref q12, .ref q20, .int 0, .ref q33, .ref q41, .int 0, .null, .null, .null, .int 0, .int 0, .null]))], [(q12, .inl (cy, 10, .inl zF))], [(q20, .inl (cy, 10, .inl zF))], [(q33, .inl (cy, 6, .inl zF))], [(q41, .inl (cy, 6, .inl zF))], [(q54, .inl (cy, 8, .inl zF))]]) rfl ?_
  refine g_putF (pc := 56) (v := .ref q54) (ss' := [[(h0, .inr (1, [.int 0, .ref q12, .ref q20, .int 0, .ref q33, .ref q41, .int 0, .ref q54, .null, .null, .int 0, .int 0, .null]))], [(q12, .inl (cy, 10, .inl zF))], [(q20, .inl (cy, 10, .inl zF))], [(q33, .inl (cy, 6, .inl zF))], [(q41, .inl (cy, 6, .inl zF))], [(q54, .inl (cy, 8, .inl zF))]]) X hin ff_X1_34 dX1_init_56 0 0 rfl rfl rfl rfl rfl rfl ?_
  refine g_aload_n (pc := 59) X dX1_init_59 0 rfl ?_
  refine g_bipush (v := 8) (pc := 60) X dX1_init_60 (by decide) ?_
  refine g_newarr (pc := 62) X dX1_init_62 8 rfl rfl rfl rfl (fun q62 => ?_)
  refine g_eq X (ss' := [[(h0, .inr (1, [.int 0, .ref q12, .ref q20, .int 0, .ref q33, .ref q41, .int 0, .ref q54, .null, .null, .int 0, .int 0, .null]))], [(q12, .inl (cy, 10, .inl zF))], [(q20, .inl (cy, 10, .inl zF))], [(q33, .inl (cy, 6, .inl zF))], [(q41, .inl (cy, 6, .inl zF))], [(q54, .inl (cy, 8, .inl zF))], [(q62, .inl (cy, 8, .inl zF))]]) rfl ?_
  refine g_putF (pc := 64) (v := .ref q62) (ss' := [[(h0, .inr (1, [.int 0, .ref q12, .ref q20, .int 0, .ref q33, .ref q41, .int 0, .ref q54, .ref q62, .null, .int 0, .int 0, .null]))], [(q12, .inl (cy, 10, .inl zF))], [(q20, .inl (cy, 10, .inl zF))], [(q33, .inl (cy, 6, .inl zF))], [(q41, .inl (cy, 6, .inl zF))], [(q54, .inl (cy, 8, .inl zF))], [(q62, .inl (cy, 8, .inl zF))]]) X hin ff_X1_37 dX1_init_64 0 0 rfl rfl rfl rfl rfl rfl ?_
  refine g_aload_n (pc := 67) X dX1_init_67 0 rfl ?_
  refine g_bipush (v := 8) (pc := 68) X dX1_init_68 (by decide) ?_
  refine g_newarr (pc := 70) X dX1_init_70 8 rfl rfl rfl rfl (fun q70 => ?_)
  refine g_eq X (ss' := [[(h0, .inr (1, [.int 0, .ref q12, .ref q20, .int 0, .ref q33, .ref q41, .int 0, .ref q54, .ref q62, .null, .int 0, .int 0, .null]))], [(q12, .inl (cy, 10, .inl zF))], [(q20, .inl (cy, 10, .inl zF))], [(q33, .inl (cy, 6, .inl zF))], [(q41, .inl (cy, 6, .inl zF))], [(q54, .inl (cy, 8, .inl zF))], [(q62, .inl (cy, 8, .inl zF))], [(q70, .inl (cy, 8, .inl zF))]]) rfl ?_
  refine g_putF (pc := 72) (v := .ref q70) (ss' := [[(h0, .inr (1, [.int 0, .ref q12, .ref q20, .int 0, .ref q33, .ref q41, .int 0, .ref q54, .ref q62, .ref q70, .int 0, .int 0, .null]))], [(q12, .inl (cy, 10, .inl zF))], [(q20, .inl (cy, 10, .inl zF))], [(q33, .inl (cy, 6, .inl zF))], [(q41, .inl (cy, 6, .inl zF))], [(q54, .inl (cy, 8, .inl zF))], [(q62, .inl (cy, 8, .inl zF))], [(q70, .inl (cy, 8, .inl zF))]]) X hin ff_X1_40 dX1_init_72 0 0 rfl rfl rfl rfl rfl rfl ?_
  refine g_aload_n (pc := 75) X dX1_init_75 0 rfl ?_
  refine g_iconst (v := 0) (pc := 76) X dX1_init_76 (by decide) ?_
  refine g_put (pc := 77) (v := .int 0) (ss' := [[(h0, .inr (1, [.int 0, .ref q12, .ref q20, .int 0, .ref q33, .ref q41, .int 0, .ref q54, .ref q62, .ref q70, .int 0, .int 0, .null]))], [(q12, .inl (cy, 10, .inl zF))], [(q20, .inl (cy, 10, .inl zF))], [(q33, .inl (cy, 6, .inl zF))], [(q41, .inl (cy, 6, .inl zF))], [(q54, .inl (cy, 8, .inl zF))], [(q62, .inl (cy, 8, .inl zF))], [(q70, .inl (cy, 8, .inl zF))]]) X fp_X1_43 dX1_init_77 0 0 rfl rfl rfl rfl rfl rfl ?_
  refine g_aload_n (pc := 80) X dX1_init_80 0 rfl ?_
  refine g_iconst (v := 0) (pc := 81) X dX1_init_81 (by decide) ?_
  refine g_put (pc := 82) (v := .int 0) (ss' := [[(h0, .inr (1, [.int 0, .ref q12, .ref q20, .int 0, .ref q33, .ref q41, .int 0, .ref q54, .ref q62, .ref q70, .int 0, .int 0, .null]))], [(q12, .inl (cy, 10, .inl zF))], [(q20, .inl (cy, 10, .inl zF))], [(q33, .inl (cy, 6, .inl zF))], [(q41, .inl (cy, 6, .inl zF))], [(q54, .inl (cy, 8, .inl zF))], [(q62, .inl (cy, 8, .inl zF))], [(q70, .inl (cy, 8, .inl zF))]]) X fp_X1_46 dX1_init_82 0 0 rfl rfl rfl rfl rfl rfl ?_
  refine g_aload_n (pc := 85) X dX1_init_85 0 rfl ?_
  refine g_bipush (v := 8) (pc := 86) X dX1_init_86 (by decide) ?_
  refine g_newarr (pc := 88) X dX1_init_88 8 rfl rfl rfl rfl (fun q88 => ?_)
  refine g_eq X (ss' := [[(h0, .inr (1, [.int 0, .ref q12, .ref q20, .int 0, .ref q33, .ref q41, .int 0, .ref q54, .ref q62, .ref q70, .int 0, .int 0, .null]))], [(q12, .inl (cy, 10, .inl zF))], [(q20, .inl (cy, 10, .inl zF))], [(q33, .inl (cy, 6, .inl zF))], [(q41, .inl (cy, 6, .inl zF))], [(q54, .inl (cy, 8, .inl zF))], [(q62, .inl (cy, 8, .inl zF))], [(q70, .inl (cy, 8, .inl zF))], [(q88, .inl (cy, 8, .inl zF))]]) rfl ?_
  refine g_putF (pc := 90) (v := .ref q88) (ss' := [[(h0, .inr (1, [.int 0, .ref q12, .ref q20, .int 0, .ref q33, .ref q41, .int 0, .ref q54, .ref q62, .ref q70, .int 0, .int 0, .ref q88]))], [(q12, .inl (cy, 10, .inl zF))], [(q20, .inl (cy, 10, .inl zF))], [(q33, .inl (cy, 6, .inl zF))], [(q41, .inl (cy, 6, .inl zF))], [(q54, .inl (cy, 8, .inl zF))], [(q62, .inl (cy, 8, .inl zF))], [(q70, .inl (cy, 8, .inl zF))], [(q88, .inl (cy, 8, .inl zF))]]) X hin ff_X1_49 dX1_init_90 0 0 rfl rfl rfl rfl rfl rfl ?_
  exact g_vretN (pc := 93) X (fun j => [q12, q20, q33, q41, q54, q62, q70, q88].getD j 0) rfl dX1_init_93 [0, 1, 2, 3, 4, 5, 6, 7, 8] rfl rfl
set_option maxRecDepth 100000 in
theorem ff_X2_9 : FF RX2 9 2 0 (.array .int) := ⟨RX2, TX2, 2, tyX2, rfl, in_X2, by decide, rfl, tw_in (w := Cond.fieldLink RX2 9 RX2 (TX2 0).2.1 (TX2 0).2.2.1) (List.mem_of_getElem? (i := 117) rfl) rfl, tyX2_ok, nmX2, rfl, by decide +kernel⟩
set_option maxRecDepth 100000 in
set_option maxHeartbeats 4000000 in
theorem c_X2_init (l : Launch) (D : va_G) (cy : ClassId) : CtN l yX2_init cX2_init 1 12 1 80 D cy 2 [.null, .int 0] (S := Nat → Nat) (fun h0 u => [wT cy (aC h0 u) zF 0]) := by
  refine ctN_of (by decide +kernel) rfl (fun p e s m args below meth c A h0 X hin => ?_)
  refine g_aload_n (pc := 0) X dX2_init_0 0 rfl ?_
  refine g_objI (pc := 1) X ml_X2_3 dX2_init_1 rfl rfl ?_
  refine g_aload_n (pc := 4) X dX2_init_4 0 rfl ?_
  refine g_bipush (v := 80) (pc := 5) X dX2_init_5 (by decide) ?_
  refine g_newarr (pc := 7) X dX2_init_7 80 rfl rfl rfl rfl (fun q7 => ?_)
  refine g_eq X (ss' := [[(h0, .inr (2, [.null, .int 0]))], [(q7, .inl (cy, 80, .inl zF))]]) rfl ?_
  refine g_putF (pc := 9) (v := .ref q7) (ss' := [[(h0, .inr (2, [.ref q7, .int 0]))], [(q7, .inl (cy, 80, .inl zF))]]) X hin ff_X2_9 dX2_init_9 0 0 rfl rfl rfl rfl rfl rfl ?_
  refine g_aload_n (pc := 12) X dX2_init_12 0 rfl ?_
  refine g_iconst (v := 0) (pc := 13) X dX2_init_13 (by decide) ?_
  refine g_put (pc := 14) (v := .int 0) (ss' := [[(h0, .inr (2, [.ref q7, .int 0]))], [(q7, .inl (cy, 80, .inl zF))]]) X fp_X2_15 dX2_init_14 0 0 rfl rfl rfl rfl rfl rfl ?_
  exact g_vretN (pc := 17) X (fun j => [q7].getD j 0) rfl dX2_init_17 [0, 1] rfl rfl
set_option maxRecDepth 100000 in
theorem ff_X4_7 : FF RX4 7 4 1 (.array .int) := ⟨RX4, TX4, 23, tyX4, rfl, in_X4, by decide, rfl, tw_in (w := Cond.fieldLink RX4 7 RX4 (TX4 1).2.1 (TX4 1).2.2.1) (List.mem_of_getElem? (i := 489) rfl) rfl, tyX4_ok, nmX4, rfl, by decide +kernel⟩
set_option maxRecDepth 100000 in
theorem ff_X4_13 : FF RX4 13 4 2 (.array .int) := ⟨RX4, TX4, 23, tyX4, rfl, in_X4, by decide, rfl, tw_in (w := Cond.fieldLink RX4 13 RX4 (TX4 2).2.1 (TX4 2).2.2.1) (List.mem_of_getElem? (i := 490) rfl) rfl, tyX4_ok, nmX4, rfl, by decide +kernel⟩
set_option maxRecDepth 100000 in
theorem ff_X4_16 : FF RX4 16 4 5 (.array .int) := ⟨RX4, TX4, 23, tyX4, rfl, in_X4, by decide, rfl, tw_in (w := Cond.fieldLink RX4 16 RX4 (TX4 5).2.1 (TX4 5).2.2.1) (List.mem_of_getElem? (i := 493) rfl) rfl, tyX4_ok, nmX4, rfl, by decide +kernel⟩
set_option maxRecDepth 100000 in
theorem ff_X4_19 : FF RX4 19 4 6 (.array .int) := ⟨RX4, TX4, 23, tyX4, rfl, in_X4, by decide, rfl, tw_in (w := Cond.fieldLink RX4 19 RX4 (TX4 6).2.1 (TX4 6).2.2.1) (List.mem_of_getElem? (i := 494) rfl) rfl, tyX4_ok, nmX4, rfl, by decide +kernel⟩
set_option maxRecDepth 100000 in
theorem ff_X4_22 : FF RX4 22 4 7 (.array .int) := ⟨RX4, TX4, 23, tyX4, rfl, in_X4, by decide, rfl, tw_in (w := Cond.fieldLink RX4 22 RX4 (TX4 7).2.1 (TX4 7).2.2.1) (List.mem_of_getElem? (i := 495) rfl) rfl, tyX4_ok, nmX4, rfl, by decide +kernel⟩
set_option maxRecDepth 100000 in
theorem ff_X4_25 : FF RX4 25 4 10 (.array .int) := ⟨RX4, TX4, 23, tyX4, rfl, in_X4, by decide, rfl, tw_in (w := Cond.fieldLink RX4 25 RX4 (TX4 10).2.1 (TX4 10).2.2.1) (List.mem_of_getElem? (i := 498) rfl) rfl, tyX4_ok, nmX4, rfl, by decide +kernel⟩
set_option maxRecDepth 100000 in
theorem ff_X4_28 : FF RX4 28 4 12 (.array .int) := ⟨RX4, TX4, 23, tyX4, rfl, in_X4, by decide, rfl, tw_in (w := Cond.fieldLink RX4 28 RX4 (TX4 12).2.1 (TX4 12).2.2.1) (List.mem_of_getElem? (i := 500) rfl) rfl, tyX4_ok, nmX4, rfl, by decide +kernel⟩
set_option maxRecDepth 100000 in
theorem ff_X4_31 : FF RX4 31 4 14 (.array .int) := ⟨RX4, TX4, 23, tyX4, rfl, in_X4, by decide, rfl, tw_in (w := Cond.fieldLink RX4 31 RX4 (TX4 14).2.1 (TX4 14).2.2.1) (List.mem_of_getElem? (i := 502) rfl) rfl, tyX4_ok, nmX4, rfl, by decide +kernel⟩
set_option maxRecDepth 100000 in
theorem ff_X4_34 : FF RX4 34 4 16 (.array .int) := ⟨RX4, TX4, 23, tyX4, rfl, in_X4, by decide, rfl, tw_in (w := Cond.fieldLink RX4 34 RX4 (TX4 16).2.1 (TX4 16).2.2.1) (List.mem_of_getElem? (i := 504) rfl) rfl, tyX4_ok, nmX4, rfl, by decide +kernel⟩
set_option maxRecDepth 100000 in
theorem ff_X4_37 : FF RX4 37 4 17 (.array .int) := ⟨RX4, TX4, 23, tyX4, rfl, in_X4, by decide, rfl, tw_in (w := Cond.fieldLink RX4 37 RX4 (TX4 17).2.1 (TX4 17).2.2.1) (List.mem_of_getElem? (i := 505) rfl) rfl, tyX4_ok, nmX4, rfl, by decide +kernel⟩
set_option maxRecDepth 100000 in
theorem ff_X4_40 : FF RX4 40 4 19 (.array .int) := ⟨RX4, TX4, 23, tyX4, rfl, in_X4, by decide, rfl, tw_in (w := Cond.fieldLink RX4 40 RX4 (TX4 19).2.1 (TX4 19).2.2.1) (List.mem_of_getElem? (i := 507) rfl) rfl, tyX4_ok, nmX4, rfl, by decide +kernel⟩
set_option maxRecDepth 100000 in
theorem ff_X4_43 : FF RX4 43 4 20 (.array .int) := ⟨RX4, TX4, 23, tyX4, rfl, in_X4, by decide, rfl, tw_in (w := Cond.fieldLink RX4 43 RX4 (TX4 20).2.1 (TX4 20).2.2.1) (List.mem_of_getElem? (i := 508) rfl) rfl, tyX4_ok, nmX4, rfl, by decide +kernel⟩
set_option maxRecDepth 100000 in
theorem ff_X4_46 : FF RX4 46 4 21 (.array .int) := ⟨RX4, TX4, 23, tyX4, rfl, in_X4, by decide, rfl, tw_in (w := Cond.fieldLink RX4 46 RX4 (TX4 21).2.1 (TX4 21).2.2.1) (List.mem_of_getElem? (i := 509) rfl) rfl, tyX4_ok, nmX4, rfl, by decide +kernel⟩
set_option maxRecDepth 100000 in
theorem ff_X4_49 : FF RX4 49 4 22 (.array .int) := ⟨RX4, TX4, 23, tyX4, rfl, in_X4, by decide, rfl, tw_in (w := Cond.fieldLink RX4 49 RX4 (TX4 22).2.1 (TX4 22).2.2.1) (List.mem_of_getElem? (i := 510) rfl) rfl, tyX4_ok, nmX4, rfl, by decide +kernel⟩
set_option maxRecDepth 100000 in
set_option maxHeartbeats 4000000 in
theorem c_X4_init (l : Launch) (D : va_G) (cy : ClassId) : CtN l yX4_init cX4_init 1 12 14 531 D cy 4 [.int 0, .null, .null, .int 0, .int 0, .null, .null, .null, .int 0, .int 0, .null, .int 0, .null, .int 0, .null, .int 0, .null, .null, .int 0, .null, .null, .null, .null] (S := Nat → Nat) (fun h0 u => [wM cy (aC h0 u) kZ vZ]) := by
  refine ctN_of (by decide +kernel) rfl (fun p e s m args below meth c A h0 X hin => ?_)
  refine g_aload_n (pc := 0) X dX4_init_0 0 rfl ?_
  refine g_objI (pc := 1) X ml_X4_1 dX4_init_1 rfl rfl ?_
  refine g_aload_n (pc := 4) X dX4_init_4 0 rfl ?_
  refine g_bipush (v := 10) (pc := 5) X dX4_init_5 (by decide) ?_
  refine g_newarr (pc := 7) X dX4_init_7 10 rfl rfl rfl rfl (fun q7 => ?_)
  refine g_eq X (ss' := [[(h0, .inr (4, [.int 0, .null, .null, .int 0, .int 0, .null, .null, .null, .int 0, .int 0, .null, .int 0, .null, .int 0, .null, .int 0, .null, .null, .int 0, .null, .null, .null, .null]))], [(q7, .inl (cy, 10, .inl zF))]]) rfl ?_
  refine g_putF (pc := 9) (v := .ref q7) (ss' := [[(h0, .inr (4, [.int 0, .ref q7, .null, .int 0, .int 0, .null, .null, .null, .int 0, .int 0, .null, .int 0, .null, .int 0, .null, .int 0, .null, .null, .int 0, .null, .null, .null, .null]))], [(q7, .inl (cy, 10, .inl zF))]]) X hin ff_X4_7 dX4_init_9 0 0 rfl rfl rfl rfl rfl rfl ?_
  refine g_aload_n (pc := 12) X dX4_init_12 0 rfl ?_
  refine g_bipush (v := 10) (pc := 13) X dX4_init_13 (by decide) ?_
  refine g_newarr (pc := 15) X dX4_init_15 10 rfl rfl rfl rfl (fun q15 => ?_)
  refine g_eq X (ss' := [[(h0, .inr (4, [.int 0, .ref q7, .null, .int 0, .int 0, .null, .null, .null, .int 0, .int 0, .null, .int 0, .null, .int 0, .null, .int 0, .null, .null, .int 0, .null, .null, .null, .null]))], [(q7, .inl (cy, 10, .inl zF))], [(q15, .inl (cy, 10, .inl zF))]]) rfl ?_
  refine g_putF (pc := 17) (v := .ref q15) (ss' := [[(h0, .inr (4, [.int 0, .ref q7, .ref q15, .int 0, .int 0, .null, .null, .null, .int 0, .int 0, .null, .int 0, .null, .int 0, .null, .int 0, .null, .null, .int 0, .null, .null, .null, .null]))], [(q7, .inl (cy, 10, .inl zF))], [(q15, .inl (cy, 10, .inl zF))]]) X hin ff_X4_13 dX4_init_17 0 0 rfl rfl rfl rfl rfl rfl ?_
  refine g_aload_n (pc := 20) X dX4_init_20 0 rfl ?_
  refine g_bipush (v := 8) (pc := 21) X dX4_init_21 (by decide) ?_
  refine g_newarr (pc := 23) X dX4_init_23 8 rfl rfl rfl rfl (fun q23 => ?_)
  refine g_eq X (ss' := [[(h0, .inr (4, [.int 0, .ref q7, .ref q15, .int 0, .int 0, .null, .null, .null, .int 0, .int 0, .null, .int 0, .null, .int 0, .null, .int 0, .null, .null, .int 0, .null, .null, .null, .null]))], [(q7, .inl (cy, 10, .inl zF))], [(q15, .inl (cy, 10, .inl zF))], [(q23, .inl (cy, 8, .inl zF))]]) rfl ?_
  refine g_putF (pc := 25) (v := .ref q23) (ss' := [[(h0, .inr (4, [.int 0, .ref q7, .ref q15, .int 0, .int 0, .ref q23, .null, .null, .int 0, .int 0, .null, .int 0, .null, .int 0, .null, .int 0, .null, .null, .int 0, .null, .null, .null, .null]))], [(q7, .inl (cy, 10, .inl zF))], [(q15, .inl (cy, 10, .inl zF))], [(q23, .inl (cy, 8, .inl zF))]]) X hin ff_X4_16 dX4_init_25 0 0 rfl rfl rfl rfl rfl rfl ?_
  refine g_aload_n (pc := 28) X dX4_init_28 0 rfl ?_
  refine g_bipush (v := 8) (pc := 29) X dX4_init_29 (by decide) ?_
  refine g_newarr (pc := 31) X dX4_init_31 8 rfl rfl rfl rfl (fun q31 => ?_)
  refine g_eq X (ss' := [[(h0, .inr (4, [.int 0, .ref q7, .ref q15, .int 0, .int 0, .ref q23, .null, .null, .int 0, .int 0, .null, .int 0, .null, .int 0, .null, .int 0, .null, .null, .int 0, .null, .null, .null, .null]))], [(q7, .inl (cy, 10, .inl zF))], [(q15, .inl (cy, 10, .inl zF))], [(q23, .inl (cy, 8, .inl zF))], [(q31, .inl (cy, 8, .inl zF))]]) rfl ?_
  refine g_putF (pc := 33) (v := .ref q31) (ss' := [[(h0, .inr (4, [.int 0, .ref q7, .ref q15, .int 0, .int 0, .ref q23, .ref q31, .null, .int 0, .int 0, .null, .int 0, .null, .int 0, .null, .int 0, .null, .null, .int 0, .null, .null, .null, .null]))], [(q7, .inl (cy, 10, .inl zF))], [(q15, .inl (cy, 10, .inl zF))], [(q23, .inl (cy, 8, .inl zF))], [(q31, .inl (cy, 8, .inl zF))]]) X hin ff_X4_19 dX4_init_33 0 0 rfl rfl rfl rfl rfl rfl ?_
  refine g_aload_n (pc := 36) X dX4_init_36 0 rfl ?_
  refine g_bipush (v := 8) (pc := 37) X dX4_init_37 (by decide) ?_
  refine g_newarr (pc := 39) X dX4_init_39 8 rfl rfl rfl rfl (fun q39 => ?_)
  refine g_eq X (ss' := [[(h0, .inr (4, [.int 0, .ref q7, .ref q15, .int 0, .int 0, .ref q23, .ref q31, .null, .int 0, .int 0, .null, .int 0, .null, .int 0, .null, .int 0, .null, .null, .int 0, .null, .null, .null, .null]))], [(q7, .inl (cy, 10, .inl zF))], [(q15, .inl (cy, 10, .inl zF))], [(q23, .inl (cy, 8, .inl zF))], [(q31, .inl (cy, 8, .inl zF))], [(q39, .inl (cy, 8, .inl zF))]]) rfl ?_
  refine g_putF (pc := 41) (v := .ref q39) (ss' := [[(h0, .inr (4, [.int 0, .ref q7, .ref q15, .int 0, .int 0, .ref q23, .ref q31, .ref q39, .int 0, .int 0, .null, .int 0, .null, .int 0, .null, .int 0, .null, .null, .int 0, .null, .null, .null, .null]))], [(q7, .inl (cy, 10, .inl zF))], [(q15, .inl (cy, 10, .inl zF))], [(q23, .inl (cy, 8, .inl zF))], [(q31, .inl (cy, 8, .inl zF))], [(q39, .inl (cy, 8, .inl zF))]]) X hin ff_X4_22 dX4_init_41 0 0 rfl rfl rfl rfl rfl rfl ?_
  refine g_aload_n (pc := 44) X dX4_init_44 0 rfl ?_
  refine g_bipush (v := 8) (pc := 45) X dX4_init_45 (by decide) ?_
  refine g_newarr (pc := 47) X dX4_init_47 8 rfl rfl rfl rfl (fun q47 => ?_)
  refine g_eq X (ss' := [[(h0, .inr (4, [.int 0, .ref q7, .ref q15, .int 0, .int 0, .ref q23, .ref q31, .ref q39, .int 0, .int 0, .null, .int 0, .null, .int 0, .null, .int 0, .null, .null, .int 0, .null, .null, .null, .null]))], [(q7, .inl (cy, 10, .inl zF))], [(q15, .inl (cy, 10, .inl zF))], [(q23, .inl (cy, 8, .inl zF))], [(q31, .inl (cy, 8, .inl zF))], [(q39, .inl (cy, 8, .inl zF))], [(q47, .inl (cy, 8, .inl zF))]]) rfl ?_
  refine g_putF (pc := 49) (v := .ref q47) (ss' := [[(h0, .inr (4, [.int 0, .ref q7, .ref q15, .int 0, .int 0, .ref q23, .ref q31, .ref q39, .int 0, .int 0, .ref q47, .int 0, .null, .int 0, .null, .int 0, .null, .null, .int 0, .null, .null, .null, .null]))], [(q7, .inl (cy, 10, .inl zF))], [(q15, .inl (cy, 10, .inl zF))], [(q23, .inl (cy, 8, .inl zF))], [(q31, .inl (cy, 8, .inl zF))], [(q39, .inl (cy, 8, .inl zF))], [(q47, .inl (cy, 8, .inl zF))]]) X hin ff_X4_25 dX4_init_49 0 0 rfl rfl rfl rfl rfl rfl ?_
  refine g_aload_n (pc := 52) X dX4_init_52 0 rfl ?_
  refine g_bipush (v := 80) (pc := 53) X dX4_init_53 (by decide) ?_
  refine g_newarr (pc := 55) X dX4_init_55 80 rfl rfl rfl rfl (fun q55 => ?_)
  refine g_eq X (ss' := [[(h0, .inr (4, [.int 0, .ref q7, .ref q15, .int 0, .int 0, .ref q23, .ref q31, .ref q39, .int 0, .int 0, .ref q47, .int 0, .null, .int 0, .null, .int 0, .null, .null, .int 0, .null, .null, .null, .null]))], [(q7, .inl (cy, 10, .inl zF))], [(q15, .inl (cy, 10, .inl zF))], [(q23, .inl (cy, 8, .inl zF))], [(q31, .inl (cy, 8, .inl zF))], [(q39, .inl (cy, 8, .inl zF))], [(q47, .inl (cy, 8, .inl zF))], [(q55, .inl (cy, 80, .inl zF))]]) rfl ?_
  refine g_putF (pc := 57) (v := .ref q55) (ss' := [[(h0, .inr (4, [.int 0, .ref q7, .ref q15, .int 0, .int 0, .ref q23, .ref q31, .ref q39, .int 0, .int 0, .ref q47, .int 0, .ref q55, .int 0, .null, .int 0, .null, .null, .int 0, .null, .null, .null, .null]))], [(q7, .inl (cy, 10, .inl zF))], [(q15, .inl (cy, 10, .inl zF))], [(q23, .inl (cy, 8, .inl zF))], [(q31, .inl (cy, 8, .inl zF))], [(q39, .inl (cy, 8, .inl zF))], [(q47, .inl (cy, 8, .inl zF))], [(q55, .inl (cy, 80, .inl zF))]]) X hin ff_X4_28 dX4_init_57 0 0 rfl rfl rfl rfl rfl rfl ?_
  refine g_aload_n (pc := 60) X dX4_init_60 0 rfl ?_
  refine g_iconst (v := 2) (pc := 61) X dX4_init_61 (by decide) ?_
  refine g_newarr (pc := 62) X dX4_init_62 2 rfl rfl rfl rfl (fun q62 => ?_)
  refine g_eq X (ss' := [[(h0, .inr (4, [.int 0, .ref q7, .ref q15, .int 0, .int 0, .ref q23, .ref q31, .ref q39, .int 0, .int 0, .ref q47, .int 0, .ref q55, .int 0, .null, .int 0, .null, .null, .int 0, .null, .null, .null, .null]))], [(q7, .inl (cy, 10, .inl zF))], [(q15, .inl (cy, 10, .inl zF))], [(q23, .inl (cy, 8, .inl zF))], [(q31, .inl (cy, 8, .inl zF))], [(q39, .inl (cy, 8, .inl zF))], [(q47, .inl (cy, 8, .inl zF))], [(q55, .inl (cy, 80, .inl zF))], [(q62, .inl (cy, 2, .inl zF))]]) rfl ?_
  refine g_putF (pc := 64) (v := .ref q62) (ss' := [[(h0, .inr (4, [.int 0, .ref q7, .ref q15, .int 0, .int 0, .ref q23, .ref q31, .ref q39, .int 0, .int 0, .ref q47, .int 0, .ref q55, .int 0, .ref q62, .int 0, .null, .null, .int 0, .null, .null, .null, .null]))], [(q7, .inl (cy, 10, .inl zF))], [(q15, .inl (cy, 10, .inl zF))], [(q23, .inl (cy, 8, .inl zF))], [(q31, .inl (cy, 8, .inl zF))], [(q39, .inl (cy, 8, .inl zF))], [(q47, .inl (cy, 8, .inl zF))], [(q55, .inl (cy, 80, .inl zF))], [(q62, .inl (cy, 2, .inl zF))]]) X hin ff_X4_31 dX4_init_64 0 0 rfl rfl rfl rfl rfl rfl ?_
  refine g_aload_n (pc := 67) X dX4_init_67 0 rfl ?_
  refine g_bipush (v := 12) (pc := 68) X dX4_init_68 (by decide) ?_
  refine g_newarr (pc := 70) X dX4_init_70 12 rfl rfl rfl rfl (fun q70 => ?_)
  refine g_eq X (ss' := [[(h0, .inr (4, [.int 0, .ref q7, .ref q15, .int 0, .int 0, .ref q23, .ref q31, .ref q39, .int 0, .int 0, .ref q47, .int 0, .ref q55, .int 0, .ref q62, .int 0, .null, .null, .int 0, .null, .null, .null, .null]))], [(q7, .inl (cy, 10, .inl zF))], [(q15, .inl (cy, 10, .inl zF))], [(q23, .inl (cy, 8, .inl zF))], [(q31, .inl (cy, 8, .inl zF))], [(q39, .inl (cy, 8, .inl zF))], [(q47, .inl (cy, 8, .inl zF))], [(q55, .inl (cy, 80, .inl zF))], [(q62, .inl (cy, 2, .inl zF))], [(q70, .inl (cy, 12, .inl zF))]]) rfl ?_
  refine g_putF (pc := 72) (v := .ref q70) (ss' := [[(h0, .inr (4, [.int 0, .ref q7, .ref q15, .int 0, .int 0, .ref q23, .ref q31, .ref q39, .int 0, .int 0, .ref q47, .int 0, .ref q55, .int 0, .ref q62, .int 0, .ref q70, .null, .int 0, .null, .null, .null, .null]))], [(q7, .inl (cy, 10, .inl zF))], [(q15, .inl (cy, 10, .inl zF))], [(q23, .inl (cy, 8, .inl zF))], [(q31, .inl (cy, 8, .inl zF))], [(q39, .inl (cy, 8, .inl zF))], [(q47, .inl (cy, 8, .inl zF))], [(q55, .inl (cy, 80, .inl zF))], [(q62, .inl (cy, 2, .inl zF))], [(q70, .inl (cy, 12, .inl zF))]]) X hin ff_X4_34 dX4_init_72 0 0 rfl rfl rfl rfl rfl rfl ?_
  refine g_aload_n (pc := 75) X dX4_init_75 0 rfl ?_
  refine g_bipush (v := 7) (pc := 76) X dX4_init_76 (by decide) ?_
  refine g_newarr (pc := 78) X dX4_init_78 7 rfl rfl rfl rfl (fun q78 => ?_)
  refine g_eq X (ss' := [[(h0, .inr (4, [.int 0, .ref q7, .ref q15, .int 0, .int 0, .ref q23, .ref q31, .ref q39, .int 0, .int 0, .ref q47, .int 0, .ref q55, .int 0, .ref q62, .int 0, .ref q70, .null, .int 0, .null, .null, .null, .null]))], [(q7, .inl (cy, 10, .inl zF))], [(q15, .inl (cy, 10, .inl zF))], [(q23, .inl (cy, 8, .inl zF))], [(q31, .inl (cy, 8, .inl zF))], [(q39, .inl (cy, 8, .inl zF))], [(q47, .inl (cy, 8, .inl zF))], [(q55, .inl (cy, 80, .inl zF))], [(q62, .inl (cy, 2, .inl zF))], [(q70, .inl (cy, 12, .inl zF))], [(q78, .inl (cy, 7, .inl zF))]]) rfl ?_
  refine g_putF (pc := 80) (v := .ref q78) (ss' := [[(h0, .inr (4, [.int 0, .ref q7, .ref q15, .int 0, .int 0, .ref q23, .ref q31, .ref q39, .int 0, .int 0, .ref q47, .int 0, .ref q55, .int 0, .ref q62, .int 0, .ref q70, .ref q78, .int 0, .null, .null, .null, .null]))], [(q7, .inl (cy, 10, .inl zF))], [(q15, .inl (cy, 10, .inl zF))], [(q23, .inl (cy, 8, .inl zF))], [(q31, .inl (cy, 8, .inl zF))], [(q39, .inl (cy, 8, .inl zF))], [(q47, .inl (cy, 8, .inl zF))], [(q55, .inl (cy, 80, .inl zF))], [(q62, .inl (cy, 2, .inl zF))], [(q70, .inl (cy, 12, .inl zF))], [(q78, .inl (cy, 7, .inl zF))]]) X hin ff_X4_37 dX4_init_80 0 0 rfl rfl rfl rfl rfl rfl ?_
  refine g_aload_n (pc := 83) X dX4_init_83 0 rfl ?_
  refine g_bipush (v := 57) (pc := 84) X dX4_init_84 (by decide) ?_
  refine g_newarr (pc := 86) X dX4_init_86 57 rfl rfl rfl rfl (fun q86 => ?_)
  refine g_eq X (ss' := [[(h0, .inr (4, [.int 0, .ref q7, .ref q15, .int 0, .int 0, .ref q23, .ref q31, .ref q39, .int 0, .int 0, .ref q47, .int 0, .ref q55, .int 0, .ref q62, .int 0, .ref q70, .ref q78, .int 0, .null, .null, .null, .null]))], [(q7, .inl (cy, 10, .inl zF))], [(q15, .inl (cy, 10, .inl zF))], [(q23, .inl (cy, 8, .inl zF))], [(q31, .inl (cy, 8, .inl zF))], [(q39, .inl (cy, 8, .inl zF))], [(q47, .inl (cy, 8, .inl zF))], [(q55, .inl (cy, 80, .inl zF))], [(q62, .inl (cy, 2, .inl zF))], [(q70, .inl (cy, 12, .inl zF))], [(q78, .inl (cy, 7, .inl zF))], [(q86, .inl (cy, 57, .inl zF))]]) rfl ?_
  refine g_putF (pc := 88) (v := .ref q86) (ss' := [[(h0, .inr (4, [.int 0, .ref q7, .ref q15, .int 0, .int 0, .ref q23, .ref q31, .ref q39, .int 0, .int 0, .ref q47, .int 0, .ref q55, .int 0, .ref q62, .int 0, .ref q70, .ref q78, .int 0, .ref q86, .null, .null, .null]))], [(q7, .inl (cy, 10, .inl zF))], [(q15, .inl (cy, 10, .inl zF))], [(q23, .inl (cy, 8, .inl zF))], [(q31, .inl (cy, 8, .inl zF))], [(q39, .inl (cy, 8, .inl zF))], [(q47, .inl (cy, 8, .inl zF))], [(q55, .inl (cy, 80, .inl zF))], [(q62, .inl (cy, 2, .inl zF))], [(q70, .inl (cy, 12, .inl zF))], [(q78, .inl (cy, 7, .inl zF))], [(q86, .inl (cy, 57, .inl zF))]]) X hin ff_X4_40 dX4_init_88 0 0 rfl rfl rfl rfl rfl rfl ?_
  refine g_aload_n (pc := 91) X dX4_init_91 0 rfl ?_
  refine g_bipush (v := 57) (pc := 92) X dX4_init_92 (by decide) ?_
  refine g_newarr (pc := 94) X dX4_init_94 57 rfl rfl rfl rfl (fun q94 => ?_)
  refine g_eq X (ss' := [[(h0, .inr (4, [.int 0, .ref q7, .ref q15, .int 0, .int 0, .ref q23, .ref q31, .ref q39, .int 0, .int 0, .ref q47, .int 0, .ref q55, .int 0, .ref q62, .int 0, .ref q70, .ref q78, .int 0, .ref q86, .null, .null, .null]))], [(q7, .inl (cy, 10, .inl zF))], [(q15, .inl (cy, 10, .inl zF))], [(q23, .inl (cy, 8, .inl zF))], [(q31, .inl (cy, 8, .inl zF))], [(q39, .inl (cy, 8, .inl zF))], [(q47, .inl (cy, 8, .inl zF))], [(q55, .inl (cy, 80, .inl zF))], [(q62, .inl (cy, 2, .inl zF))], [(q70, .inl (cy, 12, .inl zF))], [(q78, .inl (cy, 7, .inl zF))], [(q86, .inl (cy, 57, .inl zF))], [(q94, .inl (cy, 57, .inl zF))]]) rfl ?_
  refine g_putF (pc := 96) (v := .ref q94) (ss' := [[(h0, .inr (4, [.int 0, .ref q7, .ref q15, .int 0, .int 0, .ref q23, .ref q31, .ref q39, .int 0, .int 0, .ref q47, .int 0, .ref q55, .int 0, .ref q62, .int 0, .ref q70, .ref q78, .int 0, .ref q86, .ref q94, .null, .null]))], [(q7, .inl (cy, 10, .inl zF))], [(q15, .inl (cy, 10, .inl zF))], [(q23, .inl (cy, 8, .inl zF))], [(q31, .inl (cy, 8, .inl zF))], [(q39, .inl (cy, 8, .inl zF))], [(q47, .inl (cy, 8, .inl zF))], [(q55, .inl (cy, 80, .inl zF))], [(q62, .inl (cy, 2, .inl zF))], [(q70, .inl (cy, 12, .inl zF))], [(q78, .inl (cy, 7, .inl zF))], [(q86, .inl (cy, 57, .inl zF))], [(q94, .inl (cy, 57, .inl zF))]]) X hin ff_X4_43 dX4_init_96 0 0 rfl rfl rfl rfl rfl rfl ?_
  refine g_aload_n (pc := 99) X dX4_init_99 0 rfl ?_
  refine g_bipush (v := 8) (pc := 100) X dX4_init_100 (by decide) ?_
  refine g_newarr (pc := 102) X dX4_init_102 8 rfl rfl rfl rfl (fun q102 => ?_)
  refine g_eq X (ss' := [[(h0, .inr (4, [.int 0, .ref q7, .ref q15, .int 0, .int 0, .ref q23, .ref q31, .ref q39, .int 0, .int 0, .ref q47, .int 0, .ref q55, .int 0, .ref q62, .int 0, .ref q70, .ref q78, .int 0, .ref q86, .ref q94, .null, .null]))], [(q7, .inl (cy, 10, .inl zF))], [(q15, .inl (cy, 10, .inl zF))], [(q23, .inl (cy, 8, .inl zF))], [(q31, .inl (cy, 8, .inl zF))], [(q39, .inl (cy, 8, .inl zF))], [(q47, .inl (cy, 8, .inl zF))], [(q55, .inl (cy, 80, .inl zF))], [(q62, .inl (cy, 2, .inl zF))], [(q70, .inl (cy, 12, .inl zF))], [(q78, .inl (cy, 7, .inl zF))], [(q86, .inl (cy, 57, .inl zF))], [(q94, .inl (cy, 57, .inl zF))], [(q102, .inl (cy, 8, .inl zF))]]) rfl ?_
  refine g_putF (pc := 104) (v := .ref q102) (ss' := [[(h0, .inr (4, [.int 0, .ref q7, .ref q15, .int 0, .int 0, .ref q23, .ref q31, .ref q39, .int 0, .int 0, .ref q47, .int 0, .ref q55, .int 0, .ref q62, .int 0, .ref q70, .ref q78, .int 0, .ref q86, .ref q94, .ref q102, .null]))], [(q7, .inl (cy, 10, .inl zF))], [(q15, .inl (cy, 10, .inl zF))], [(q23, .inl (cy, 8, .inl zF))], [(q31, .inl (cy, 8, .inl zF))], [(q39, .inl (cy, 8, .inl zF))], [(q47, .inl (cy, 8, .inl zF))], [(q55, .inl (cy, 80, .inl zF))], [(q62, .inl (cy, 2, .inl zF))], [(q70, .inl (cy, 12, .inl zF))], [(q78, .inl (cy, 7, .inl zF))], [(q86, .inl (cy, 57, .inl zF))], [(q94, .inl (cy, 57, .inl zF))], [(q102, .inl (cy, 8, .inl zF))]]) X hin ff_X4_46 dX4_init_104 0 0 rfl rfl rfl rfl rfl rfl ?_
  refine g_aload_n (pc := 107) X dX4_init_107 0 rfl ?_
  refine g_sipush (v := 256) (pc := 108) X dX4_init_108 (by decide) ?_
  refine g_newarr (pc := 111) X dX4_init_111 256 rfl rfl rfl rfl (fun q111 => ?_)
  refine g_eq X (ss' := [[(h0, .inr (4, [.int 0, .ref q7, .ref q15, .int 0, .int 0, .ref q23, .ref q31, .ref q39, .int 0, .int 0, .ref q47, .int 0, .ref q55, .int 0, .ref q62, .int 0, .ref q70, .ref q78, .int 0, .ref q86, .ref q94, .ref q102, .null]))], [(q7, .inl (cy, 10, .inl zF))], [(q15, .inl (cy, 10, .inl zF))], [(q23, .inl (cy, 8, .inl zF))], [(q31, .inl (cy, 8, .inl zF))], [(q39, .inl (cy, 8, .inl zF))], [(q47, .inl (cy, 8, .inl zF))], [(q55, .inl (cy, 80, .inl zF))], [(q62, .inl (cy, 2, .inl zF))], [(q70, .inl (cy, 12, .inl zF))], [(q78, .inl (cy, 7, .inl zF))], [(q86, .inl (cy, 57, .inl zF))], [(q94, .inl (cy, 57, .inl zF))], [(q102, .inl (cy, 8, .inl zF))], [(q111, .inl (cy, 256, .inl zF))]]) rfl ?_
  refine g_putF (pc := 113) (v := .ref q111) (ss' := [[(h0, .inr (4, [.int 0, .ref q7, .ref q15, .int 0, .int 0, .ref q23, .ref q31, .ref q39, .int 0, .int 0, .ref q47, .int 0, .ref q55, .int 0, .ref q62, .int 0, .ref q70, .ref q78, .int 0, .ref q86, .ref q94, .ref q102, .ref q111]))], [(q7, .inl (cy, 10, .inl zF))], [(q15, .inl (cy, 10, .inl zF))], [(q23, .inl (cy, 8, .inl zF))], [(q31, .inl (cy, 8, .inl zF))], [(q39, .inl (cy, 8, .inl zF))], [(q47, .inl (cy, 8, .inl zF))], [(q55, .inl (cy, 80, .inl zF))], [(q62, .inl (cy, 2, .inl zF))], [(q70, .inl (cy, 12, .inl zF))], [(q78, .inl (cy, 7, .inl zF))], [(q86, .inl (cy, 57, .inl zF))], [(q94, .inl (cy, 57, .inl zF))], [(q102, .inl (cy, 8, .inl zF))], [(q111, .inl (cy, 256, .inl zF))]]) X hin ff_X4_49 dX4_init_113 0 0 rfl rfl rfl rfl rfl rfl ?_
  exact g_vretN (pc := 116) X (fun j => [q7, q15, q23, q31, q39, q47, q55, q62, q70, q78, q86, q94, q102, q111].getD j 0) rfl dX4_init_116 [0, 1, 2, 3, 4, 5, 6, 7, 8, 9, 10, 11, 12, 13, 14] rfl rfl
set_option maxRecDepth 100000 in
theorem ff_X3_10 : FF RX3 10 3 0 (.object "MaynotBeSeen$House") := ⟨RX3, TX3, 10, tyX3, rfl, in_X3, by decide, rfl, tw_in (w := Cond.fieldLink RX3 10 RX3 (TX3 0).2.1 (TX3 0).2.2.1) (List.mem_of_getElem? (i := 141) rfl) rfl, tyX3_ok, nmX3, rfl, by decide +kernel⟩
set_option maxRecDepth 100000 in
theorem ff_X3_16 : FF RX3 16 3 1 (.object "MaynotBeSeen$House") := ⟨RX3, TX3, 10, tyX3, rfl, in_X3, by decide, rfl, tw_in (w := Cond.fieldLink RX3 16 RX3 (TX3 1).2.1 (TX3 1).2.2.1) (List.mem_of_getElem? (i := 142) rfl) rfl, tyX3_ok, nmX3, rfl, by decide +kernel⟩
set_option maxRecDepth 100000 in
theorem ff_X3_19 : FF RX3 19 3 2 (.object "MaynotBeSeen$House") := ⟨RX3, TX3, 10, tyX3, rfl, in_X3, by decide, rfl, tw_in (w := Cond.fieldLink RX3 19 RX3 (TX3 2).2.1 (TX3 2).2.2.1) (List.mem_of_getElem? (i := 143) rfl) rfl, tyX3_ok, nmX3, rfl, by decide +kernel⟩
set_option maxRecDepth 100000 in
theorem ff_X3_29 : FF RX3 29 3 4 (.object "MaynotBeSeen$Text") := ⟨RX3, TX3, 10, tyX3, rfl, in_X3, by decide, rfl, tw_in (w := Cond.fieldLink RX3 29 RX3 (TX3 4).2.1 (TX3 4).2.2.1) (List.mem_of_getElem? (i := 145) rfl) rfl, tyX3_ok, nmX3, rfl, by decide +kernel⟩
set_option maxRecDepth 100000 in
theorem ff_X3_36 : FF RX3 36 3 5 (.object "MaynotBeSeen$Givings") := ⟨RX3, TX3, 10, tyX3, rfl, in_X3, by decide, rfl, tw_in (w := Cond.fieldLink RX3 36 RX3 (TX3 5).2.1 (TX3 5).2.2.1) (List.mem_of_getElem? (i := 146) rfl) rfl, tyX3_ok, nmX3, rfl, by decide +kernel⟩
set_option maxRecDepth 100000 in
theorem ff_X3_40 : FF RX3 40 3 6 (.array .int) := ⟨RX3, TX3, 10, tyX3, rfl, in_X3, by decide, rfl, tw_in (w := Cond.fieldLink RX3 40 RX3 (TX3 6).2.1 (TX3 6).2.2.1) (List.mem_of_getElem? (i := 147) rfl) rfl, tyX3_ok, nmX3, rfl, by decide +kernel⟩
set_option maxRecDepth 100000 in
theorem ff_X3_44 : FF RX3 44 3 7 (.array .int) := ⟨RX3, TX3, 10, tyX3, rfl, in_X3, by decide, rfl, tw_in (w := Cond.fieldLink RX3 44 RX3 (TX3 7).2.1 (TX3 7).2.2.1) (List.mem_of_getElem? (i := 148) rfl) rfl, tyX3_ok, nmX3, rfl, by decide +kernel⟩
set_option maxRecDepth 100000 in
theorem ff_X3_51 : FF RX3 51 3 9 (.array .int) := ⟨RX3, TX3, 10, tyX3, rfl, in_X3, by decide, rfl, tw_in (w := Cond.fieldLink RX3 51 RX3 (TX3 9).2.1 (TX3 9).2.2.1) (List.mem_of_getElem? (i := 150) rfl) rfl, tyX3_ok, nmX3, rfl, by decide +kernel⟩
set_option maxRecDepth 100000 in
set_option maxHeartbeats 4000000 in
theorem c_X3_init (l : Launch) (D : va_G) (cy : ClassId) : CtN l yX3_init cX3_init 2 32 35 727 D cy 3 [.null, .null, .null, .int 0, .null, .null, .null, .null, .int 0, .null] (S := (Nat → Nat) × (Nat → Nat) × (Nat → Nat) × (Nat → Nat) × (Nat → Nat) × (Nat → Nat)) (fun h0 u => wZ cy (aC h0 u.1) u.2.1 u.2.2.1 u.2.2.2.1 u.2.2.2.2.1 u.2.2.2.2.2) := by
  refine ctN_of (by decide +kernel) rfl (fun p e s m args below meth c A h0 X hin => ?_)
  refine g_aload_n (pc := 0) X dX3_init_0 0 rfl ?_
  refine g_objI (pc := 1) X ml_X3_1 dX3_init_1 rfl rfl ?_
  refine g_aload_n (pc := 4) X dX3_init_4 0 rfl ?_
  refine g_new (pc := 5) (T := TX1) (N := 13) (ci := 1) X rfl in_X1 tyX1 tyX1_ok cn_7 it_X1 ini_X1 [.int 0, .null, .null, .int 0, .null, .null, .int 0, .null, .null, .null, .int 0, .int 0, .null] (fun j hj => by rcases (show j = 0 ∨ j = 1 ∨ j = 2 ∨ j = 3 ∨ j = 4 ∨ j = 5 ∨ j = 6 ∨ j = 7 ∨ j = 8 ∨ j = 9 ∨ j = 10 ∨ j = 11 ∨ j = 12 by omega) with rfl | rfl | rfl | rfl | rfl | rfl | rfl | rfl | rfl | rfl | rfl | rfl | rfl <;> rfl) dX3_init_5 rfl rfl (fun q5 => ?_)
  refine g_dup (pc := 8) X dX3_init_8 rfl ?_
  refine g_callNN (pc := 9) (rest := [.ref q5, .ref h0]) X (c_X1_init l D cy) X.2.2.2.2.2.2.2.1.2.1 ini_X1 nj_X1 nk_X1 rfl (by decide +kernel) dX3_init_9 [[(h0, .inr (3, [.null, .null, .null, .int 0, .null, .null, .null, .null, .int 0, .null]))]] rfl rfl rfl rfl rfl rfl (fun u9 => ?_)
  refine g_eq X (ss' := [[(h0, .inr (3, [.null, .null, .null, .int 0, .null, .null, .null, .null, .int 0, .null]))], wH cy (aC q5 u9) kZ]) rfl ?_
  refine g_putF (pc := 12) (v := .ref q5) (ss' := [[(h0, .inr (3, [.ref q5, .null, .null, .int 0, .null, .null, .null, .null, .int 0, .null]))], wH cy (aC q5 u9) kZ]) X hin ff_X3_10 dX3_init_12 0 0 rfl rfl rfl rfl rfl rfl ?_
  refine g_aload_n (pc := 15) X dX3_init_15 0 rfl ?_
  refine g_new (pc := 16) (T := TX1) (N := 13) (ci := 1) X rfl in_X1 tyX1 tyX1_ok cn_7 it_X1 ini_X1 [.int 0, .null, .null, .int 0, .null, .null, .int 0, .null, .null, .null, .int 0, .int 0, .null] (fun j hj => by rcases (show j = 0 ∨ j = 1 ∨ j = 2 ∨ j = 3 ∨ j = 4 ∨ j = 5 ∨ j = 6 ∨ j = 7 ∨ j = 8 ∨ j = 9 ∨ j = 10 ∨ j = 11 ∨ j = 12 by omega) with rfl | rfl | rfl | rfl | rfl | rfl | rfl | rfl | rfl | rfl | rfl | rfl | rfl <;> rfl) dX3_init_16 rfl rfl (fun q16 => ?_)
  refine g_dup (pc := 19) X dX3_init_19 rfl ?_
  refine g_callNN (pc := 20) (rest := [.ref q16, .ref h0]) X (c_X1_init l D cy) X.2.2.2.2.2.2.2.1.2.1 ini_X1 nj_X1 nk_X1 rfl (by decide +kernel) dX3_init_20 [[(h0, .inr (3, [.ref q5, .null, .null, .int 0, .null, .null, .null, .null, .int 0, .null]))], wH cy (aC q5 u9) kZ] rfl rfl rfl rfl rfl rfl (fun u20 => ?_)
  refine g_eq X (ss' := [[(h0, .inr (3, [.ref q5, .null, .null, .int 0, .null, .null, .null, .null, .int 0, .null]))], wH cy (aC q5 u9) kZ, wH cy (aC q16 u20) kZ]) rfl ?_
  refine g_putF (pc := 23) (v := .ref q16) (ss' := [[(h0, .inr (3, [.ref q5, .ref q16, .null, .int 0, .null, .null, .null, .null, .int 0, .null]))], wH cy (aC q5 u9) kZ, wH cy (aC q16 u20) kZ]) X hin ff_X3_16 dX3_init_23 0 0 rfl rfl rfl rfl rfl rfl ?_
  refine g_aload_n (pc := 26) X dX3_init_26 0 rfl ?_
  refine g_new (pc := 27) (T := TX1) (N := 13) (ci := 1) X rfl in_X1 tyX1 tyX1_ok cn_7 it_X1 ini_X1 [.int 0, .null, .null, .int 0, .null, .null, .int 0, .null, .null, .null, .int 0, .int 0, .null] (fun j hj => by rcases (show j = 0 ∨ j = 1 ∨ j = 2 ∨ j = 3 ∨ j = 4 ∨ j = 5 ∨ j = 6 ∨ j = 7 ∨ j = 8 ∨ j = 9 ∨ j = 10 ∨ j = 11 ∨ j = 12 by omega) with rfl | rfl | rfl | rfl | rfl | rfl | rfl | rfl | rfl | rfl | rfl | rfl | rfl <;> rfl) dX3_init_27 rfl rfl (fun q27 => ?_)
  refine g_dup (pc := 30) X dX3_init_30 rfl ?_
  refine g_callNN (pc := 31) (rest := [.ref q27, .ref h0]) X (c_X1_init l D cy) X.2.2.2.2.2.2.2.1.2.1 ini_X1 nj_X1 nk_X1 rfl (by decide +kernel) dX3_init_31 [[(h0, .inr (3, [.ref q5, .ref q16, .null, .int 0, .null, .null, .null, .null, .int 0, .null]))], wH cy (aC q5 u9) kZ, wH cy (aC q16 u20) kZ] rfl rfl rfl rfl rfl rfl (fun u31 => ?_)
  refine g_eq X (ss' := [[(h0, .inr (3, [.ref q5, .ref q16, .null, .int 0, .null, .null, .null, .null, .int 0, .null]))], wH cy (aC q5 u9) kZ, wH cy (aC q16 u20) kZ, wH cy (aC q27 u31) kZ]) rfl ?_
  refine g_putF (pc := 34) (v := .ref q27) (ss' := [[(h0, .inr (3, [.ref q5, .ref q16, .ref q27, .int 0, .null, .null, .null, .null, .int 0, .null]))], wH cy (aC q5 u9) kZ, wH cy (aC q16 u20) kZ, wH cy (aC q27 u31) kZ]) X hin ff_X3_19 dX3_init_34 0 0 rfl rfl rfl rfl rfl rfl ?_
  refine g_aload_n (pc := 37) X dX3_init_37 0 rfl ?_
  refine g_iconst (v := 0) (pc := 38) X dX3_init_38 (by decide) ?_
  refine g_put (pc := 39) (v := .int 0) (ss' := [[(h0, .inr (3, [.ref q5, .ref q16, .ref q27, .int 0, .null, .null, .null, .null, .int 0, .null]))], wH cy (aC q5 u9) kZ, wH cy (aC q16 u20) kZ, wH cy (aC q27 u31) kZ]) X fp_X3_22 dX3_init_39 0 0 rfl rfl rfl rfl rfl rfl ?_
  refine g_aload_n (pc := 42) X dX3_init_42 0 rfl ?_
  refine g_new (pc := 43) (T := TX2) (N := 2) (ci := 2) X rfl in_X2 tyX2 tyX2_ok cn_26 it_X2 ini_X2 [.null, .int 0] (fun j hj => by rcases (show j = 0 ∨ j = 1 by omega) with rfl | rfl <;> rfl) dX3_init_43 rfl rfl (fun q43 => ?_)
  refine g_dup (pc := 46) X dX3_init_46 rfl ?_
  refine g_callNN (pc := 47) (rest := [.ref q43, .ref h0]) X (c_X2_init l D cy) X.2.2.2.2.2.2.2.1.2.2.1 ini_X2 nj_X2 nk_X2 rfl (by decide +kernel) dX3_init_47 [[(h0, .inr (3, [.ref q5, .ref q16, .ref q27, .int 0, .null, .null, .null, .null, .int 0, .null]))], wH cy (aC q5 u9) kZ, wH cy (aC q16 u20) kZ, wH cy (aC q27 u31) kZ] rfl rfl rfl rfl rfl rfl (fun u47 => ?_)
  refine g_eq X (ss' := [[(h0, .inr (3, [.ref q5, .ref q16, .ref q27, .int 0, .null, .null, .null, .null, .int 0, .null]))], wH cy (aC q5 u9) kZ, wH cy (aC q16 u20) kZ, wH cy (aC q27 u31) kZ, wT cy (aC q43 u47) zF 0]) rfl ?_
  refine g_putF (pc := 50) (v := .ref q43) (ss' := [[(h0, .inr (3, [.ref q5, .ref q16, .ref q27, .int 0, .ref q43, .null, .null, .null, .int 0, .null]))], wH cy (aC q5 u9) kZ, wH cy (aC q16 u20) kZ, wH cy (aC q27 u31) kZ, wT cy (aC q43 u47) zF 0]) X hin ff_X3_29 dX3_init_50 0 0 rfl rfl rfl rfl rfl rfl ?_
  refine g_aload_n (pc := 53) X dX3_init_53 0 rfl ?_
  refine g_new (pc := 54) (T := TX0) (N := 3) (ci := 0) X rfl in_X0 tyX0 tyX0_ok cn_33 it_X0 ini_X0 [.int 0, .null, .null] (fun j hj => by rcases (show j = 0 ∨ j = 1 ∨ j = 2 by omega) with rfl | rfl | rfl <;> rfl) dX3_init_54 rfl rfl (fun q54 => ?_)
  refine g_dup (pc := 57) X dX3_init_57 rfl ?_
  refine g_callNN (pc := 58) (rest := [.ref q54, .ref h0]) X (c_X0_init l D cy) X.2.2.2.2.2.2.2.1.2.2.2.1 ini_X0 nj_X0 nk_X0 rfl (by decide +kernel) dX3_init_58 [[(h0, .inr (3, [.ref q5, .ref q16, .ref q27, .int 0, .ref q43, .null, .null, .null, .int 0, .null]))], wH cy (aC q5 u9) kZ, wH cy (aC q16 u20) kZ, wH cy (aC q27 u31) kZ, wT cy (aC q43 u47) zF 0] rfl rfl rfl rfl rfl rfl (fun u58 => ?_)
  refine g_eq X (ss' := [[(h0, .inr (3, [.ref q5, .ref q16, .ref q27, .int 0, .ref q43, .null, .null, .null, .int 0, .null]))], wH cy (aC q5 u9) kZ, wH cy (aC q16 u20) kZ, wH cy (aC q27 u31) kZ, wT cy (aC q43 u47) zF 0, wG cy (aC q54 u58) 0 zF zF]) rfl ?_
  refine g_putF (pc := 61) (v := .ref q54) (ss' := [[(h0, .inr (3, [.ref q5, .ref q16, .ref q27, .int 0, .ref q43, .ref q54, .null, .null, .int 0, .null]))], wH cy (aC q5 u9) kZ, wH cy (aC q16 u20) kZ, wH cy (aC q27 u31) kZ, wT cy (aC q43 u47) zF 0, wG cy (aC q54 u58) 0 zF zF]) X hin ff_X3_36 dX3_init_61 0 0 rfl rfl rfl rfl rfl rfl ?_
  refine g_aload_n (pc := 64) X dX3_init_64 0 rfl ?_
  refine g_sipush (v := 128) (pc := 65) X dX3_init_65 (by decide) ?_
  refine g_newarr (pc := 68) X dX3_init_68 128 rfl rfl rfl rfl (fun q68 => ?_)
  refine g_eq X (ss' := [[(h0, .inr (3, [.ref q5, .ref q16, .ref q27, .int 0, .ref q43, .ref q54, .null, .null, .int 0, .null]))], wH cy (aC q5 u9) kZ, wH cy (aC q16 u20) kZ, wH cy (aC q27 u31) kZ, wT cy (aC q43 u47) zF 0, wG cy (aC q54 u58) 0 zF zF, [(q68, .inl (cy, 128, .inl zF))]]) rfl ?_
  refine g_putF (pc := 70) (v := .ref q68) (ss' := [[(h0, .inr (3, [.ref q5, .ref q16, .ref q27, .int 0, .ref q43, .ref q54, .ref q68, .null, .int 0, .null]))], wH cy (aC q5 u9) kZ, wH cy (aC q16 u20) kZ, wH cy (aC q27 u31) kZ, wT cy (aC q43 u47) zF 0, wG cy (aC q54 u58) 0 zF zF, [(q68, .inl (cy, 128, .inl zF))]]) X hin ff_X3_40 dX3_init_70 0 0 rfl rfl rfl rfl rfl rfl ?_
  refine g_aload_n (pc := 73) X dX3_init_73 0 rfl ?_
  refine g_bipush (v := 12) (pc := 74) X dX3_init_74 (by decide) ?_
  refine g_newarr (pc := 76) X dX3_init_76 12 rfl rfl rfl rfl (fun q76 => ?_)
  refine g_eq X (ss' := [[(h0, .inr (3, [.ref q5, .ref q16, .ref q27, .int 0, .ref q43, .ref q54, .ref q68, .null, .int 0, .null]))], wH cy (aC q5 u9) kZ, wH cy (aC q16 u20) kZ, wH cy (aC q27 u31) kZ, wT cy (aC q43 u47) zF 0, wG cy (aC q54 u58) 0 zF zF, [(q68, .inl (cy, 128, .inl zF))], [(q76, .inl (cy, 12, .inl zF))]]) rfl ?_
  refine g_putF (pc := 78) (v := .ref q76) (ss' := [[(h0, .inr (3, [.ref q5, .ref q16, .ref q27, .int 0, .ref q43, .ref q54, .ref q68, .ref q76, .int 0, .null]))], wH cy (aC q5 u9) kZ, wH cy (aC q16 u20) kZ, wH cy (aC q27 u31) kZ, wT cy (aC q43 u47) zF 0, wG cy (aC q54 u58) 0 zF zF, [(q68, .inl (cy, 128, .inl zF))], [(q76, .inl (cy, 12, .inl zF))]]) X hin ff_X3_44 dX3_init_78 0 0 rfl rfl rfl rfl rfl rfl ?_
  refine g_aload_n (pc := 81) X dX3_init_81 0 rfl ?_
  refine g_iconst (v := 0) (pc := 82) X dX3_init_82 (by decide) ?_
  refine g_put (pc := 83) (v := .int 0) (ss' := [[(h0, .inr (3, [.ref q5, .ref q16, .ref q27, .int 0, .ref q43, .ref q54, .ref q68, .ref q76, .int 0, .null]))], wH cy (aC q5 u9) kZ, wH cy (aC q16 u20) kZ, wH cy (aC q27 u31) kZ, wT cy (aC q43 u47) zF 0, wG cy (aC q54 u58) 0 zF zF, [(q68, .inl (cy, 128, .inl zF))], [(q76, .inl (cy, 12, .inl zF))]]) X fp_X3_47 dX3_init_83 0 0 rfl rfl rfl rfl rfl rfl ?_
  refine g_aload_n (pc := 86) X dX3_init_86 0 rfl ?_
  refine g_bipush (v := 7) (pc := 87) X dX3_init_87 (by decide) ?_
  refine g_newarr (pc := 89) X dX3_init_89 7 rfl rfl rfl rfl (fun q89 => ?_)
  refine g_eq X (ss' := [[(h0, .inr (3, [.ref q5, .ref q16, .ref q27, .int 0, .ref q43, .ref q54, .ref q68, .ref q76, .int 0, .null]))], wH cy (aC q5 u9) kZ, wH cy (aC q16 u20) kZ, wH cy (aC q27 u31) kZ, wT cy (aC q43 u47) zF 0, wG cy (aC q54 u58) 0 zF zF, [(q68, .inl (cy, 128, .inl zF))], [(q76, .inl (cy, 12, .inl zF))], [(q89, .inl (cy, 7, .inl zF))]]) rfl ?_
  refine g_putF (pc := 91) (v := .ref q89) (ss' := [[(h0, .inr (3, [.ref q5, .ref q16, .ref q27, .int 0, .ref q43, .ref q54, .ref q68, .ref q76, .int 0, .ref q89]))], wH cy (aC q5 u9) kZ, wH cy (aC q16 u20) kZ, wH cy (aC q27 u31) kZ, wT cy (aC q43 u47) zF 0, wG cy (aC q54 u58) 0 zF zF, [(q68, .inl (cy, 128, .inl zF))], [(q76, .inl (cy, 12, .inl zF))], [(q89, .inl (cy, 7, .inl zF))]]) X hin ff_X3_51 dX3_init_91 0 0 rfl rfl rfl rfl rfl rfl ?_
  exact g_vretN (pc := 94) X ((fun j => [q68, q76, q89].getD j 0), (aC q5 u9), (aC q16 u20), (aC q27 u31), (aC q43 u47), (aC q54 u58)) rfl dX3_init_94 [0, 33, 34, 35, 1, 2, 3, 4, 5, 6, 7, 8, 9, 10, 11, 12, 13, 14, 15, 16, 17, 18, 19, 20, 21, 22, 23, 24, 25, 26, 27, 28, 29, 30, 31, 32] rfl rfl
