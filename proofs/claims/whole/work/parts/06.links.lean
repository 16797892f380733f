set_option maxRecDepth 100000 in
theorem ini_J6 : Cond.initialized RJ6 ∈ TW := tw_in (w := Cond.initialized RJ6) (List.mem_of_getElem? (i := 40) rfl) rfl
set_option maxRecDepth 100000 in
theorem ini_X2 : Cond.initialized RX2 ∈ TW := tw_in (w := Cond.initialized RX2) (List.mem_of_getElem? (i := 30) rfl) rfl
set_option maxRecDepth 100000 in
theorem ini_X0 : Cond.initialized RX0 ∈ TW := tw_in (w := Cond.initialized RX0) (List.mem_of_getElem? (i := 31) rfl) rfl
set_option maxRecDepth 100000 in
theorem ini_X1 : Cond.initialized RX1 ∈ TW := tw_in (w := Cond.initialized RX1) (List.mem_of_getElem? (i := 29) rfl) rfl
set_option maxRecDepth 100000 in
theorem ini_X4 : Cond.initialized RX4 ∈ TW := tw_in (w := Cond.initialized RX4) (List.mem_of_getElem? (i := 32) rfl) rfl
set_option maxRecDepth 100000 in
theorem ini_X3 : Cond.initialized RX3 ∈ TW := tw_in (w := Cond.initialized RX3) (List.mem_of_getElem? (i := 28) rfl) rfl
set_option maxRecDepth 100000 in
theorem ini_J11 : Cond.initialized RJ11 ∈ TW := tw_in (w := Cond.initialized RJ11) (List.mem_of_getElem? (i := 39) rfl) rfl
set_option maxRecDepth 100000 in
theorem ini_J3 : Cond.initialized RJ3 ∈ TW := tw_in (w := Cond.initialized RJ3) (List.mem_of_getElem? (i := 38) rfl) rfl
set_option maxRecDepth 100000 in
theorem ini_J2 : Cond.initialized RJ2 ∈ TW := tw_in (w := Cond.initialized RJ2) (List.mem_of_getElem? (i := 37) rfl) rfl
set_option maxRecDepth 100000 in
theorem ini_J1 : Cond.initialized RJ1 ∈ TW := tw_in (w := Cond.initialized RJ1) (List.mem_of_getElem? (i := 36) rfl) rfl
set_option maxRecDepth 100000 in
theorem ini_J0 : Cond.initialized RJ0 ∈ TW := tw_in (w := Cond.initialized RJ0) (List.mem_of_getElem? (i := 35) rfl) rfl
theorem in_X0 : ∀ w ∈ u_ws RX0 TX0 3, w ∈ TW := by decide +kernel
theorem in_X1 : ∀ w ∈ u_ws RX1 TX1 13, w ∈ TW := by decide +kernel
theorem in_X2 : ∀ w ∈ u_ws RX2 TX2 2, w ∈ TW := by decide +kernel
theorem in_X3 : ∀ w ∈ u_ws RX3 TX3 10, w ∈ TW := by decide +kernel
theorem in_X4 : ∀ w ∈ u_ws RX4 TX4 23, w ∈ TW := by decide +kernel
set_option maxRecDepth 100000 in
theorem fl_X0_9 : FL RX0 9 0 0 := ⟨RX0, TX0, 3, rfl, in_X0, by decide, rfl, tw_in (w := Cond.fieldLink RX0 9 RX0 (TX0 0).2.1 (TX0 0).2.2.1) (List.mem_of_getElem? (i := 131) rfl) rfl⟩
set_option maxRecDepth 100000 in
theorem fp_X0_9 : FP RX0 9 0 0 .int := ⟨RX0, TX0, 3, tyX0, rfl, in_X0, by decide, rfl, tw_in (w := Cond.fieldLink RX0 9 RX0 (TX0 0).2.1 (TX0 0).2.2.1) (List.mem_of_getElem? (i := 131) rfl) rfl, tyX0_ok, nmX0, rfl, by decide +kernel⟩
set_option maxRecDepth 100000 in
theorem fl_X0_15 : FL RX0 15 0 1 := ⟨RX0, TX0, 3, rfl, in_X0, by decide, rfl, tw_in (w := Cond.fieldLink RX0 15 RX0 (TX0 1).2.1 (TX0 1).2.2.1) (List.mem_of_getElem? (i := 132) rfl) rfl⟩
set_option maxRecDepth 100000 in
theorem fl_X0_19 : FL RX0 19 0 2 := ⟨RX0, TX0, 3, rfl, in_X0, by decide, rfl, tw_in (w := Cond.fieldLink RX0 19 RX0 (TX0 2).2.1 (TX0 2).2.2.1) (List.mem_of_getElem? (i := 133) rfl) rfl⟩
set_option maxRecDepth 100000 in
theorem fl_X0_22 : FL RX0 22 1 6 := ⟨RX1, TX1, 13, rfl, in_X1, by decide, rfl, tw_in (w := Cond.fieldLink RX0 22 RX1 (TX1 6).2.1 (TX1 6).2.2.1) (List.mem_of_getElem? (i := 66) rfl) rfl⟩
set_option maxRecDepth 100000 in
theorem fp_X0_22 : FP RX0 22 1 6 .int := ⟨RX1, TX1, 13, tyX1, rfl, in_X1, by decide, rfl, tw_in (w := Cond.fieldLink RX0 22 RX1 (TX1 6).2.1 (TX1 6).2.2.1) (List.mem_of_getElem? (i := 66) rfl) rfl, tyX1_ok, nmX1, rfl, by decide +kernel⟩
set_option maxRecDepth 100000 in
theorem fl_X0_25 : FL RX0 25 1 10 := ⟨RX1, TX1, 13, rfl, in_X1, by decide, rfl, tw_in (w := Cond.fieldLink RX0 25 RX1 (TX1 10).2.1 (TX1 10).2.2.1) (List.mem_of_getElem? (i := 75) rfl) rfl⟩
set_option maxRecDepth 100000 in
theorem fp_X0_25 : FP RX0 25 1 10 .int := ⟨RX1, TX1, 13, tyX1, rfl, in_X1, by decide, rfl, tw_in (w := Cond.fieldLink RX0 25 RX1 (TX1 10).2.1 (TX1 10).2.2.1) (List.mem_of_getElem? (i := 75) rfl) rfl, tyX1_ok, nmX1, rfl, by decide +kernel⟩
set_option maxRecDepth 100000 in
theorem fl_X0_32 : FL RX0 32 1 11 := ⟨RX1, TX1, 13, rfl, in_X1, by decide, rfl, tw_in (w := Cond.fieldLink RX0 32 RX1 (TX1 11).2.1 (TX1 11).2.2.1) (List.mem_of_getElem? (i := 78) rfl) rfl⟩
set_option maxRecDepth 100000 in
theorem fp_X0_32 : FP RX0 32 1 11 .int := ⟨RX1, TX1, 13, tyX1, rfl, in_X1, by decide, rfl, tw_in (w := Cond.fieldLink RX0 32 RX1 (TX1 11).2.1 (TX1 11).2.2.1) (List.mem_of_getElem? (i := 78) rfl) rfl, tyX1_ok, nmX1, rfl, by decide +kernel⟩
set_option maxRecDepth 100000 in
theorem fl_X0_35 : FL RX0 35 1 12 := ⟨RX1, TX1, 13, rfl, in_X1, by decide, rfl, tw_in (w := Cond.fieldLink RX0 35 RX1 (TX1 12).2.1 (TX1 12).2.2.1) (List.mem_of_getElem? (i := 81) rfl) rfl⟩
set_option maxRecDepth 100000 in
theorem fl_X1_9 : FL RX1 9 1 0 := ⟨RX1, TX1, 13, rfl, in_X1, by decide, rfl, tw_in (w := Cond.fieldLink RX1 9 RX1 (TX1 0).2.1 (TX1 0).2.2.1) (List.mem_of_getElem? (i := 55) rfl) rfl⟩
set_option maxRecDepth 100000 in
theorem fp_X1_9 : FP RX1 9 1 0 .int := ⟨RX1, TX1, 13, tyX1, rfl, in_X1, by decide, rfl, tw_in (w := Cond.fieldLink RX1 9 RX1 (TX1 0).2.1 (TX1 0).2.2.1) (List.mem_of_getElem? (i := 55) rfl) rfl, tyX1_ok, nmX1, rfl, by decide +kernel⟩
set_option maxRecDepth 100000 in
theorem fl_X1_15 : FL RX1 15 1 1 := ⟨RX1, TX1, 13, rfl, in_X1, by decide, rfl, tw_in (w := Cond.fieldLink RX1 15 RX1 (TX1 1).2.1 (TX1 1).2.2.1) (List.mem_of_getElem? (i := 57) rfl) rfl⟩
set_option maxRecDepth 100000 in
theorem fl_X1_19 : FL RX1 19 1 2 := ⟨RX1, TX1, 13, rfl, in_X1, by decide, rfl, tw_in (w := Cond.fieldLink RX1 19 RX1 (TX1 2).2.1 (TX1 2).2.2.1) (List.mem_of_getElem? (i := 59) rfl) rfl⟩
set_option maxRecDepth 100000 in
theorem fl_X1_22 : FL RX1 22 1 3 := ⟨RX1, TX1, 13, rfl, in_X1, by decide, rfl, tw_in (w := Cond.fieldLink RX1 22 RX1 (TX1 3).2.1 (TX1 3).2.2.1) (List.mem_of_getElem? (i := 61) rfl) rfl⟩
set_option maxRecDepth 100000 in
theorem fp_X1_22 : FP RX1 22 1 3 .int := ⟨RX1, TX1, 13, tyX1, rfl, in_X1, by decide, rfl, tw_in (w := Cond.fieldLink RX1 22 RX1 (TX1 3).2.1 (TX1 3).2.2.1) (List.mem_of_getElem? (i := 61) rfl) rfl, tyX1_ok, nmX1, rfl, by decide +kernel⟩
set_option maxRecDepth 100000 in
theorem fl_X1_25 : FL RX1 25 1 4 := ⟨RX1, TX1, 13, rfl, in_X1, by decide, rfl, tw_in (w := Cond.fieldLink RX1 25 RX1 (TX1 4).2.1 (TX1 4).2.2.1) (List.mem_of_getElem? (i := 63) rfl) rfl⟩
set_option maxRecDepth 100000 in
theorem fl_X1_28 : FL RX1 28 1 5 := ⟨RX1, TX1, 13, rfl, in_X1, by decide, rfl, tw_in (w := Cond.fieldLink RX1 28 RX1 (TX1 5).2.1 (TX1 5).2.2.1) (List.mem_of_getElem? (i := 64) rfl) rfl⟩
set_option maxRecDepth 100000 in
theorem fl_X1_31 : FL RX1 31 1 6 := ⟨RX1, TX1, 13, rfl, in_X1, by decide, rfl, tw_in (w := Cond.fieldLink RX1 31 RX1 (TX1 6).2.1 (TX1 6).2.2.1) (List.mem_of_getElem? (i := 65) rfl) rfl⟩
set_option maxRecDepth 100000 in
theorem fp_X1_31 : FP RX1 31 1 6 .int := ⟨RX1, TX1, 13, tyX1, rfl, in_X1, by decide, rfl, tw_in (w := Cond.fieldLink RX1 31 RX1 (TX1 6).2.1 (TX1 6).2.2.1) (List.mem_of_getElem? (i := 65) rfl) rfl, tyX1_ok, nmX1, rfl, by decide +kernel⟩
set_option maxRecDepth 100000 in
theorem fl_X1_34 : FL RX1 34 1 7 := ⟨RX1, TX1, 13, rfl, in_X1, by decide, rfl, tw_in (w := Cond.fieldLink RX1 34 RX1 (TX1 7).2.1 (TX1 7).2.2.1) (List.mem_of_getElem? (i := 68) rfl) rfl⟩
set_option maxRecDepth 100000 in
theorem fl_X1_37 : FL RX1 37 1 8 := ⟨RX1, TX1, 13, rfl, in_X1, by decide, rfl, tw_in (w := Cond.fieldLink RX1 37 RX1 (TX1 8).2.1 (TX1 8).2.2.1) (List.mem_of_getElem? (i := 70) rfl) rfl⟩
set_option maxRecDepth 100000 in
theorem fl_X1_40 : FL RX1 40 1 9 := ⟨RX1, TX1, 13, rfl, in_X1, by decide, rfl, tw_in (w := Cond.fieldLink RX1 40 RX1 (TX1 9).2.1 (TX1 9).2.2.1) (List.mem_of_getElem? (i := 72) rfl) rfl⟩
set_option maxRecDepth 100000 in
theorem fl_X1_43 : FL RX1 43 1 10 := ⟨RX1, TX1, 13, rfl, in_X1, by decide, rfl, tw_in (w := Cond.fieldLink RX1 43 RX1 (TX1 10).2.1 (TX1 10).2.2.1) (List.mem_of_getElem? (i := 74) rfl) rfl⟩
set_option maxRecDepth 100000 in
theorem fp_X1_43 : FP RX1 43 1 10 .int := ⟨RX1, TX1, 13, tyX1, rfl, in_X1, by decide, rfl, tw_in (w := Cond.fieldLink RX1 43 RX1 (TX1 10).2.1 (TX1 10).2.2.1) (List.mem_of_getElem? (i := 74) rfl) rfl, tyX1_ok, nmX1, rfl, by decide +kernel⟩
set_option maxRecDepth 100000 in
theorem fl_X1_46 : FL RX1 46 1 11 := ⟨RX1, TX1, 13, rfl, in_X1, by decide, rfl, tw_in (w := Cond.fieldLink RX1 46 RX1 (TX1 11).2.1 (TX1 11).2.2.1) (List.mem_of_getElem? (i := 77) rfl) rfl⟩
set_option maxRecDepth 100000 in
theorem fp_X1_46 : FP RX1 46 1 11 .int := ⟨RX1, TX1, 13, tyX1, rfl, in_X1, by decide, rfl, tw_in (w := Cond.fieldLink RX1 46 RX1 (TX1 11).2.1 (TX1 11).2.2.1) (List.mem_of_getElem? (i := 77) rfl) rfl, tyX1_ok, nmX1, rfl, by decide +kernel⟩
set_option maxRecDepth 100000 in
theorem fl_X1_49 : FL RX1 49 1 12 := ⟨RX1, TX1, 13, rfl, in_X1, by decide, rfl, tw_in (w := Cond.fieldLink RX1 49 RX1 (TX1 12).2.1 (TX1 12).2.2.1) (List.mem_of_getElem? (i := 80) rfl) rfl⟩
set_option maxRecDepth 100000 in
theorem fl_X2_9 : FL RX2 9 2 0 := ⟨RX2, TX2, 2, rfl, in_X2, by decide, rfl, tw_in (w := Cond.fieldLink RX2 9 RX2 (TX2 0).2.1 (TX2 0).2.2.1) (List.mem_of_getElem? (i := 117) rfl) rfl⟩
set_option maxRecDepth 100000 in
theorem fl_X2_15 : FL RX2 15 2 1 := ⟨RX2, TX2, 2, rfl, in_X2, by decide, rfl, tw_in (w := Cond.fieldLink RX2 15 RX2 (TX2 1).2.1 (TX2 1).2.2.1) (List.mem_of_getElem? (i := 118) rfl) rfl⟩
set_option maxRecDepth 100000 in
theorem fp_X2_15 : FP RX2 15 2 1 .int := ⟨RX2, TX2, 2, tyX2, rfl, in_X2, by decide, rfl, tw_in (w := Cond.fieldLink RX2 15 RX2 (TX2 1).2.1 (TX2 1).2.2.1) (List.mem_of_getElem? (i := 118) rfl) rfl, tyX2_ok, nmX2, rfl, by decide +kernel⟩
set_option maxRecDepth 100000 in
theorem fl_X3_10 : FL RX3 10 3 0 := ⟨RX3, TX3, 10, rfl, in_X3, by decide, rfl, tw_in (w := Cond.fieldLink RX3 10 RX3 (TX3 0).2.1 (TX3 0).2.2.1) (List.mem_of_getElem? (i := 141) rfl) rfl⟩
set_option maxRecDepth 100000 in
theorem fl_X3_16 : FL RX3 16 3 1 := ⟨RX3, TX3, 10, rfl, in_X3, by decide, rfl, tw_in (w := Cond.fieldLink RX3 16 RX3 (TX3 1).2.1 (TX3 1).2.2.1) (List.mem_of_getElem? (i := 142) rfl) rfl⟩
set_option maxRecDepth 100000 in
theorem fl_X3_19 : FL RX3 19 3 2 := ⟨RX3, TX3, 10, rfl, in_X3, by decide, rfl, tw_in (w := Cond.fieldLink RX3 19 RX3 (TX3 2).2.1 (TX3 2).2.2.1) (List.mem_of_getElem? (i := 143) rfl) rfl⟩
set_option maxRecDepth 100000 in
theorem fl_X3_22 : FL RX3 22 3 3 := ⟨RX3, TX3, 10, rfl, in_X3, by decide, rfl, tw_in (w := Cond.fieldLink RX3 22 RX3 (TX3 3).2.1 (TX3 3).2.2.1) (List.mem_of_getElem? (i := 144) rfl) rfl⟩
set_option maxRecDepth 100000 in
theorem fp_X3_22 : FP RX3 22 3 3 .boolean := ⟨RX3, TX3, 10, tyX3, rfl, in_X3, by decide, rfl, tw_in (w := Cond.fieldLink RX3 22 RX3 (TX3 3).2.1 (TX3 3).2.2.1) (List.mem_of_getElem? (i := 144) rfl) rfl, tyX3_ok, nmX3, rfl, by decide +kernel⟩
set_option maxRecDepth 100000 in
theorem fl_X3_29 : FL RX3 29 3 4 := ⟨RX3, TX3, 10, rfl, in_X3, by decide, rfl, tw_in (w := Cond.fieldLink RX3 29 RX3 (TX3 4).2.1 (TX3 4).2.2.1) (List.mem_of_getElem? (i := 145) rfl) rfl⟩
set_option maxRecDepth 100000 in
theorem fl_X3_36 : FL RX3 36 3 5 := ⟨RX3, TX3, 10, rfl, in_X3, by decide, rfl, tw_in (w := Cond.fieldLink RX3 36 RX3 (TX3 5).2.1 (TX3 5).2.2.1) (List.mem_of_getElem? (i := 146) rfl) rfl⟩
set_option maxRecDepth 100000 in
theorem fl_X3_40 : FL RX3 40 3 6 := ⟨RX3, TX3, 10, rfl, in_X3, by decide, rfl, tw_in (w := Cond.fieldLink RX3 40 RX3 (TX3 6).2.1 (TX3 6).2.2.1) (List.mem_of_getElem? (i := 147) rfl) rfl⟩
set_option maxRecDepth 100000 in
theorem fl_X3_44 : FL RX3 44 3 7 := ⟨RX3, TX3, 10, rfl, in_X3, by decide, rfl, tw_in (w := Cond.fieldLink RX3 44 RX3 (TX3 7).2.1 (TX3 7).2.2.1) (List.mem_of_getElem? (i := 148) rfl) rfl⟩
set_option maxRecDepth 100000 in
theorem fl_X3_47 : FL RX3 47 3 8 := ⟨RX3, TX3, 10, rfl, in_X3, by decide, rfl, tw_in (w := Cond.fieldLink RX3 47 RX3 (TX3 8).2.1 (TX3 8).2.2.1) (List.mem_of_getElem? (i := 149) rfl) rfl⟩
set_option maxRecDepth 100000 in
theorem fp_X3_47 : FP RX3 47 3 8 .int := ⟨RX3, TX3, 10, tyX3, rfl, in_X3, by decide, rfl, tw_in (w := Cond.fieldLink RX3 47 RX3 (TX3 8).2.1 (TX3 8).2.2.1) (List.mem_of_getElem? (i := 149) rfl) rfl, tyX3_ok, nmX3, rfl, by decide +kernel⟩
set_option maxRecDepth 100000 in
theorem fl_X3_51 : FL RX3 51 3 9 := ⟨RX3, TX3, 10, rfl, in_X3, by decide, rfl, tw_in (w := Cond.fieldLink RX3 51 RX3 (TX3 9).2.1 (TX3 9).2.2.1) (List.mem_of_getElem? (i := 150) rfl) rfl⟩
set_option maxRecDepth 100000 in
theorem fl_X3_62 : FL RX3 62 2 1 := ⟨RX2, TX2, 2, rfl, in_X2, by decide, rfl, tw_in (w := Cond.fieldLink RX3 62 RX2 (TX2 1).2.1 (TX2 1).2.2.1) (List.mem_of_getElem? (i := 119) rfl) rfl⟩
set_option maxRecDepth 100000 in
theorem fp_X3_62 : FP RX3 62 2 1 .int := ⟨RX2, TX2, 2, tyX2, rfl, in_X2, by decide, rfl, tw_in (w := Cond.fieldLink RX3 62 RX2 (TX2 1).2.1 (TX2 1).2.2.1) (List.mem_of_getElem? (i := 119) rfl) rfl, tyX2_ok, nmX2, rfl, by decide +kernel⟩
set_option maxRecDepth 100000 in
theorem fl_X3_80 : FL RX3 80 1 7 := ⟨RX1, TX1, 13, rfl, in_X1, by decide, rfl, tw_in (w := Cond.fieldLink RX3 80 RX1 (TX1 7).2.1 (TX1 7).2.2.1) (List.mem_of_getElem? (i := 69) rfl) rfl⟩
set_option maxRecDepth 100000 in
theorem fl_X3_83 : FL RX3 83 1 8 := ⟨RX1, TX1, 13, rfl, in_X1, by decide, rfl, tw_in (w := Cond.fieldLink RX3 83 RX1 (TX1 8).2.1 (TX1 8).2.2.1) (List.mem_of_getElem? (i := 71) rfl) rfl⟩
set_option maxRecDepth 100000 in
theorem fl_X3_86 : FL RX3 86 1 9 := ⟨RX1, TX1, 13, rfl, in_X1, by decide, rfl, tw_in (w := Cond.fieldLink RX3 86 RX1 (TX1 9).2.1 (TX1 9).2.2.1) (List.mem_of_getElem? (i := 73) rfl) rfl⟩
set_option maxRecDepth 100000 in
theorem fl_X3_92 : FL RX3 92 1 1 := ⟨RX1, TX1, 13, rfl, in_X1, by decide, rfl, tw_in (w := Cond.fieldLink RX3 92 RX1 (TX1 1).2.1 (TX1 1).2.2.1) (List.mem_of_getElem? (i := 58) rfl) rfl⟩
set_option maxRecDepth 100000 in
theorem fl_X3_95 : FL RX3 95 1 2 := ⟨RX1, TX1, 13, rfl, in_X1, by decide, rfl, tw_in (w := Cond.fieldLink RX3 95 RX1 (TX1 2).2.1 (TX1 2).2.2.1) (List.mem_of_getElem? (i := 60) rfl) rfl⟩
set_option maxRecDepth 100000 in
theorem fl_X3_98 : FL RX3 98 1 3 := ⟨RX1, TX1, 13, rfl, in_X1, by decide, rfl, tw_in (w := Cond.fieldLink RX3 98 RX1 (TX1 3).2.1 (TX1 3).2.2.1) (List.mem_of_getElem? (i := 62) rfl) rfl⟩
set_option maxRecDepth 100000 in
theorem fp_X3_98 : FP RX3 98 1 3 .int := ⟨RX1, TX1, 13, tyX1, rfl, in_X1, by decide, rfl, tw_in (w := Cond.fieldLink RX3 98 RX1 (TX1 3).2.1 (TX1 3).2.2.1) (List.mem_of_getElem? (i := 62) rfl) rfl, tyX1_ok, nmX1, rfl, by decide +kernel⟩
set_option maxRecDepth 100000 in
theorem fl_X3_112 : FL RX3 112 1 10 := ⟨RX1, TX1, 13, rfl, in_X1, by decide, rfl, tw_in (w := Cond.fieldLink RX3 112 RX1 (TX1 10).2.1 (TX1 10).2.2.1) (List.mem_of_getElem? (i := 76) rfl) rfl⟩
set_option maxRecDepth 100000 in
theorem fp_X3_112 : FP RX3 112 1 10 .int := ⟨RX1, TX1, 13, tyX1, rfl, in_X1, by decide, rfl, tw_in (w := Cond.fieldLink RX3 112 RX1 (TX1 10).2.1 (TX1 10).2.2.1) (List.mem_of_getElem? (i := 76) rfl) rfl, tyX1_ok, nmX1, rfl, by decide +kernel⟩
set_option maxRecDepth 100000 in
theorem fl_X3_115 : FL RX3 115 1 6 := ⟨RX1, TX1, 13, rfl, in_X1, by decide, rfl, tw_in (w := Cond.fieldLink RX3 115 RX1 (TX1 6).2.1 (TX1 6).2.2.1) (List.mem_of_getElem? (i := 67) rfl) rfl⟩
set_option maxRecDepth 100000 in
theorem fp_X3_115 : FP RX3 115 1 6 .int := ⟨RX1, TX1, 13, tyX1, rfl, in_X1, by decide, rfl, tw_in (w := Cond.fieldLink RX3 115 RX1 (TX1 6).2.1 (TX1 6).2.2.1) (List.mem_of_getElem? (i := 67) rfl) rfl, tyX1_ok, nmX1, rfl, by decide +kernel⟩
set_option maxRecDepth 100000 in
theorem fl_X3_131 : FL RX3 131 1 0 := ⟨RX1, TX1, 13, rfl, in_X1, by decide, rfl, tw_in (w := Cond.fieldLink RX3 131 RX1 (TX1 0).2.1 (TX1 0).2.2.1) (List.mem_of_getElem? (i := 56) rfl) rfl⟩
set_option maxRecDepth 100000 in
theorem fp_X3_131 : FP RX3 131 1 0 .int := ⟨RX1, TX1, 13, tyX1, rfl, in_X1, by decide, rfl, tw_in (w := Cond.fieldLink RX3 131 RX1 (TX1 0).2.1 (TX1 0).2.2.1) (List.mem_of_getElem? (i := 56) rfl) rfl, tyX1_ok, nmX1, rfl, by decide +kernel⟩
set_option maxRecDepth 100000 in
theorem fl_X3_168 : FL RX3 168 1 11 := ⟨RX1, TX1, 13, rfl, in_X1, by decide, rfl, tw_in (w := Cond.fieldLink RX3 168 RX1 (TX1 11).2.1 (TX1 11).2.2.1) (List.mem_of_getElem? (i := 79) rfl) rfl⟩
set_option maxRecDepth 100000 in
theorem fp_X3_168 : FP RX3 168 1 11 .int := ⟨RX1, TX1, 13, tyX1, rfl, in_X1, by decide, rfl, tw_in (w := Cond.fieldLink RX3 168 RX1 (TX1 11).2.1 (TX1 11).2.2.1) (List.mem_of_getElem? (i := 79) rfl) rfl, tyX1_ok, nmX1, rfl, by decide +kernel⟩
set_option maxRecDepth 100000 in
theorem fl_X3_171 : FL RX3 171 1 12 := ⟨RX1, TX1, 13, rfl, in_X1, by decide, rfl, tw_in (w := Cond.fieldLink RX3 171 RX1 (TX1 12).2.1 (TX1 12).2.2.1) (List.mem_of_getElem? (i := 82) rfl) rfl⟩
set_option maxRecDepth 100000 in
theorem fl_X4_7 : FL RX4 7 4 1 := ⟨RX4, TX4, 23, rfl, in_X4, by decide, rfl, tw_in (w := Cond.fieldLink RX4 7 RX4 (TX4 1).2.1 (TX4 1).2.2.1) (List.mem_of_getElem? (i := 489) rfl) rfl⟩
set_option maxRecDepth 100000 in
theorem fl_X4_13 : FL RX4 13 4 2 := ⟨RX4, TX4, 23, rfl, in_X4, by decide, rfl, tw_in (w := Cond.fieldLink RX4 13 RX4 (TX4 2).2.1 (TX4 2).2.2.1) (List.mem_of_getElem? (i := 490) rfl) rfl⟩
set_option maxRecDepth 100000 in
theorem fl_X4_16 : FL RX4 16 4 5 := ⟨RX4, TX4, 23, rfl, in_X4, by decide, rfl, tw_in (w := Cond.fieldLink RX4 16 RX4 (TX4 5).2.1 (TX4 5).2.2.1) (List.mem_of_getElem? (i := 493) rfl) rfl⟩
set_option maxRecDepth 100000 in
theorem fl_X4_19 : FL RX4 19 4 6 := ⟨RX4, TX4, 23, rfl, in_X4, by decide, rfl, tw_in (w := Cond.fieldLink RX4 19 RX4 (TX4 6).2.1 (TX4 6).2.2.1) (List.mem_of_getElem? (i := 494) rfl) rfl⟩
set_option maxRecDepth 100000 in
theorem fl_X4_22 : FL RX4 22 4 7 := ⟨RX4, TX4, 23, rfl, in_X4, by decide, rfl, tw_in (w := Cond.fieldLink RX4 22 RX4 (TX4 7).2.1 (TX4 7).2.2.1) (List.mem_of_getElem? (i := 495) rfl) rfl⟩
set_option maxRecDepth 100000 in
theorem fl_X4_25 : FL RX4 25 4 10 := ⟨RX4, TX4, 23, rfl, in_X4, by decide, rfl, tw_in (w := Cond.fieldLink RX4 25 RX4 (TX4 10).2.1 (TX4 10).2.2.1) (List.mem_of_getElem? (i := 498) rfl) rfl⟩
set_option maxRecDepth 100000 in
theorem fl_X4_28 : FL RX4 28 4 12 := ⟨RX4, TX4, 23, rfl, in_X4, by decide, rfl, tw_in (w := Cond.fieldLink RX4 28 RX4 (TX4 12).2.1 (TX4 12).2.2.1) (List.mem_of_getElem? (i := 500) rfl) rfl⟩
set_option maxRecDepth 100000 in
theorem fl_X4_31 : FL RX4 31 4 14 := ⟨RX4, TX4, 23, rfl, in_X4, by decide, rfl, tw_in (w := Cond.fieldLink RX4 31 RX4 (TX4 14).2.1 (TX4 14).2.2.1) (List.mem_of_getElem? (i := 502) rfl) rfl⟩
set_option maxRecDepth 100000 in
theorem fl_X4_34 : FL RX4 34 4 16 := ⟨RX4, TX4, 23, rfl, in_X4, by decide, rfl, tw_in (w := Cond.fieldLink RX4 34 RX4 (TX4 16).2.1 (TX4 16).2.2.1) (List.mem_of_getElem? (i := 504) rfl) rfl⟩
set_option maxRecDepth 100000 in
theorem fl_X4_37 : FL RX4 37 4 17 := ⟨RX4, TX4, 23, rfl, in_X4, by decide, rfl, tw_in (w := Cond.fieldLink RX4 37 RX4 (TX4 17).2.1 (TX4 17).2.2.1) (List.mem_of_getElem? (i := 505) rfl) rfl⟩
set_option maxRecDepth 100000 in
theorem fl_X4_40 : FL RX4 40 4 19 := ⟨RX4, TX4, 23, rfl, in_X4, by decide, rfl, tw_in (w := Cond.fieldLink RX4 40 RX4 (TX4 19).2.1 (TX4 19).2.2.1) (List.mem_of_getElem? (i := 507) rfl) rfl⟩
set_option maxRecDepth 100000 in
theorem fl_X4_43 : FL RX4 43 4 20 := ⟨RX4, TX4, 23, rfl, in_X4, by decide, rfl, tw_in (w := Cond.fieldLink RX4 43 RX4 (TX4 20).2.1 (TX4 20).2.2.1) (List.mem_of_getElem? (i := 508) rfl) rfl⟩
set_option maxRecDepth 100000 in
theorem fl_X4_46 : FL RX4 46 4 21 := ⟨RX4, TX4, 23, rfl, in_X4, by decide, rfl, tw_in (w := Cond.fieldLink RX4 46 RX4 (TX4 21).2.1 (TX4 21).2.2.1) (List.mem_of_getElem? (i := 509) rfl) rfl⟩
set_option maxRecDepth 100000 in
theorem fl_X4_49 : FL RX4 49 4 22 := ⟨RX4, TX4, 23, rfl, in_X4, by decide, rfl, tw_in (w := Cond.fieldLink RX4 49 RX4 (TX4 22).2.1 (TX4 22).2.2.1) (List.mem_of_getElem? (i := 510) rfl) rfl⟩
set_option maxRecDepth 100000 in
theorem fl_X4_52 : FL RX4 52 4 4 := ⟨RX4, TX4, 23, rfl, in_X4, by decide, rfl, tw_in (w := Cond.fieldLink RX4 52 RX4 (TX4 4).2.1 (TX4 4).2.2.1) (List.mem_of_getElem? (i := 492) rfl) rfl⟩
set_option maxRecDepth 100000 in
theorem fp_X4_52 : FP RX4 52 4 4 .int := ⟨RX4, TX4, 23, tyX4, rfl, in_X4, by decide, rfl, tw_in (w := Cond.fieldLink RX4 52 RX4 (TX4 4).2.1 (TX4 4).2.2.1) (List.mem_of_getElem? (i := 492) rfl) rfl, tyX4_ok, nmX4, rfl, by decide +kernel⟩
set_option maxRecDepth 100000 in
theorem fl_X4_60 : FL RX4 60 4 0 := ⟨RX4, TX4, 23, rfl, in_X4, by decide, rfl, tw_in (w := Cond.fieldLink RX4 60 RX4 (TX4 0).2.1 (TX4 0).2.2.1) (List.mem_of_getElem? (i := 488) rfl) rfl⟩
set_option maxRecDepth 100000 in
theorem fp_X4_60 : FP RX4 60 4 0 .int := ⟨RX4, TX4, 23, tyX4, rfl, in_X4, by decide, rfl, tw_in (w := Cond.fieldLink RX4 60 RX4 (TX4 0).2.1 (TX4 0).2.2.1) (List.mem_of_getElem? (i := 488) rfl) rfl, tyX4_ok, nmX4, rfl, by decide +kernel⟩
set_option maxRecDepth 100000 in
theorem fl_X4_67 : FL RX4 67 4 11 := ⟨RX4, TX4, 23, rfl, in_X4, by decide, rfl, tw_in (w := Cond.fieldLink RX4 67 RX4 (TX4 11).2.1 (TX4 11).2.2.1) (List.mem_of_getElem? (i := 499) rfl) rfl⟩
set_option maxRecDepth 100000 in
theorem fp_X4_67 : FP RX4 67 4 11 .int := ⟨RX4, TX4, 23, tyX4, rfl, in_X4, by decide, rfl, tw_in (w := Cond.fieldLink RX4 67 RX4 (TX4 11).2.1 (TX4 11).2.2.1) (List.mem_of_getElem? (i := 499) rfl) rfl, tyX4_ok, nmX4, rfl, by decide +kernel⟩
set_option maxRecDepth 100000 in
theorem fl_X4_70 : FL RX4 70 4 13 := ⟨RX4, TX4, 23, rfl, in_X4, by decide, rfl, tw_in (w := Cond.fieldLink RX4 70 RX4 (TX4 13).2.1 (TX4 13).2.2.1) (List.mem_of_getElem? (i := 501) rfl) rfl⟩
set_option maxRecDepth 100000 in
theorem fp_X4_70 : FP RX4 70 4 13 .int := ⟨RX4, TX4, 23, tyX4, rfl, in_X4, by decide, rfl, tw_in (w := Cond.fieldLink RX4 70 RX4 (TX4 13).2.1 (TX4 13).2.2.1) (List.mem_of_getElem? (i := 501) rfl) rfl, tyX4_ok, nmX4, rfl, by decide +kernel⟩
set_option maxRecDepth 100000 in
theorem fl_X4_92 : FL RX4 92 4 3 := ⟨RX4, TX4, 23, rfl, in_X4, by decide, rfl, tw_in (w := Cond.fieldLink RX4 92 RX4 (TX4 3).2.1 (TX4 3).2.2.1) (List.mem_of_getElem? (i := 491) rfl) rfl⟩
set_option maxRecDepth 100000 in
theorem fp_X4_92 : FP RX4 92 4 3 .int := ⟨RX4, TX4, 23, tyX4, rfl, in_X4, by decide, rfl, tw_in (w := Cond.fieldLink RX4 92 RX4 (TX4 3).2.1 (TX4 3).2.2.1) (List.mem_of_getElem? (i := 491) rfl) rfl, tyX4_ok, nmX4, rfl, by decide +kernel⟩
set_option maxRecDepth 100000 in
theorem fl_X4_95 : FL RX4 95 4 8 := ⟨RX4, TX4, 23, rfl, in_X4, by decide, rfl, tw_in (w := Cond.fieldLink RX4 95 RX4 (TX4 8).2.1 (TX4 8).2.2.1) (List.mem_of_getElem? (i := 496) rfl) rfl⟩
set_option maxRecDepth 100000 in
theorem fp_X4_95 : FP RX4 95 4 8 .int := ⟨RX4, TX4, 23, tyX4, rfl, in_X4, by decide, rfl, tw_in (w := Cond.fieldLink RX4 95 RX4 (TX4 8).2.1 (TX4 8).2.2.1) (List.mem_of_getElem? (i := 496) rfl) rfl, tyX4_ok, nmX4, rfl, by decide +kernel⟩
set_option maxRecDepth 100000 in
theorem fl_X4_162 : FL RX4 162 4 9 := ⟨RX4, TX4, 23, rfl, in_X4, by decide, rfl, tw_in (w := Cond.fieldLink RX4 162 RX4 (TX4 9).2.1 (TX4 9).2.2.1) (List.mem_of_getElem? (i := 497) rfl) rfl⟩
set_option maxRecDepth 100000 in
theorem fp_X4_162 : FP RX4 162 4 9 .int := ⟨RX4, TX4, 23, tyX4, rfl, in_X4, by decide, rfl, tw_in (w := Cond.fieldLink RX4 162 RX4 (TX4 9).2.1 (TX4 9).2.2.1) (List.mem_of_getElem? (i := 497) rfl) rfl, tyX4_ok, nmX4, rfl, by decide +kernel⟩
set_option maxRecDepth 100000 in
theorem fl_X4_181 : FL RX4 181 4 15 := ⟨RX4, TX4, 23, rfl, in_X4, by decide, rfl, tw_in (w := Cond.fieldLink RX4 181 RX4 (TX4 15).2.1 (TX4 15).2.2.1) (List.mem_of_getElem? (i := 503) rfl) rfl⟩
set_option maxRecDepth 100000 in
theorem fp_X4_181 : FP RX4 181 4 15 .int := ⟨RX4, TX4, 23, tyX4, rfl, in_X4, by decide, rfl, tw_in (w := Cond.fieldLink RX4 181 RX4 (TX4 15).2.1 (TX4 15).2.2.1) (List.mem_of_getElem? (i := 503) rfl) rfl, tyX4_ok, nmX4, rfl, by decide +kernel⟩
set_option maxRecDepth 100000 in
theorem fl_X4_187 : FL RX4 187 4 18 := ⟨RX4, TX4, 23, rfl, in_X4, by decide, rfl, tw_in (w := Cond.fieldLink RX4 187 RX4 (TX4 18).2.1 (TX4 18).2.2.1) (List.mem_of_getElem? (i := 506) rfl) rfl⟩
set_option maxRecDepth 100000 in
theorem fp_X4_187 : FP RX4 187 4 18 .boolean := ⟨RX4, TX4, 23, tyX4, rfl, in_X4, by decide, rfl, tw_in (w := Cond.fieldLink RX4 187 RX4 (TX4 18).2.1 (TX4 18).2.2.1) (List.mem_of_getElem? (i := 506) rfl) rfl, tyX4_ok, nmX4, rfl, by decide +kernel⟩
set_option maxRecDepth 100000 in
theorem mc_J0_coder_7d493 : Cond.code yJ0_coder_7d493 cJ0_coder_7d493 1 (some .byte) ∈ TW := tw_in (w := Cond.code yJ0_coder_7d493 cJ0_coder_7d493 1 (some .byte)) (List.mem_of_getElem? (i := 611) rfl) rfl
set_option maxRecDepth 100000 in
theorem mi_J0_coder_7d493 : Cond.instanceMethod yJ0_coder_7d493 ∈ TW := tw_in (w := Cond.instanceMethod yJ0_coder_7d493) (List.mem_of_getElem? (i := 609) rfl) rfl
set_option maxRecDepth 100000 in
theorem mv_J0_coder_7d493 : Cond.selects RJ0 yJ0_coder_7d493 yJ0_coder_7d493 ∈ TW := tw_in (w := Cond.selects RJ0 yJ0_coder_7d493 yJ0_coder_7d493) (List.mem_of_getElem? (i := 610) rfl) rfl
set_option maxRecDepth 100000 in
theorem vl_J0_335 : VL RJ0 335 yJ0_coder_7d493 cJ0_coder_7d493 1 (some .byte) 0 := ⟨tw_in (w := Cond.methodLink RJ0 335 yJ0_coder_7d493) (List.mem_of_getElem? (i := 608) rfl) rfl, mi_J0_coder_7d493, mv_J0_coder_7d493, ini_J0, mc_J0_coder_7d493, by decide +kernel, by decide +kernel, by decide +kernel⟩
set_option maxRecDepth 100000 in
theorem mc_J0_isLatin1_aae02 : Cond.code yJ0_isLatin1_aae02 cJ0_isLatin1_aae02 1 (some .boolean) ∈ TW := tw_in (w := Cond.code yJ0_isLatin1_aae02 cJ0_isLatin1_aae02 1 (some .boolean)) (List.mem_of_getElem? (i := 601) rfl) rfl
set_option maxRecDepth 100000 in
theorem mi_J0_isLatin1_aae02 : Cond.instanceMethod yJ0_isLatin1_aae02 ∈ TW := tw_in (w := Cond.instanceMethod yJ0_isLatin1_aae02) (List.mem_of_getElem? (i := 599) rfl) rfl
set_option maxRecDepth 100000 in
theorem mv_J0_isLatin1_aae02 : Cond.selects RJ0 yJ0_isLatin1_aae02 yJ0_isLatin1_aae02 ∈ TW := tw_in (w := Cond.selects RJ0 yJ0_isLatin1_aae02 yJ0_isLatin1_aae02) (List.mem_of_getElem? (i := 600) rfl) rfl
set_option maxRecDepth 100000 in
theorem vl_J0_492 : VL RJ0 492 yJ0_isLatin1_aae02 cJ0_isLatin1_aae02 1 (some .boolean) 0 := ⟨tw_in (w := Cond.methodLink RJ0 492 yJ0_isLatin1_aae02) (List.mem_of_getElem? (i := 598) rfl) rfl, mi_J0_isLatin1_aae02, mv_J0_isLatin1_aae02, ini_J0, mc_J0_isLatin1_aae02, by decide +kernel, by decide +kernel, by decide +kernel⟩
set_option maxRecDepth 100000 in
theorem mc_J0_length_8abf5 : Cond.code yJ0_length_8abf5 cJ0_length_8abf5 1 (some .int) ∈ TW := tw_in (w := Cond.code yJ0_length_8abf5 cJ0_length_8abf5 1 (some .int)) (List.mem_of_getElem? (i := 607) rfl) rfl
set_option maxRecDepth 100000 in
theorem mi_J0_length_8abf5 : Cond.instanceMethod yJ0_length_8abf5 ∈ TW := tw_in (w := Cond.instanceMethod yJ0_length_8abf5) (List.mem_of_getElem? (i := 605) rfl) rfl
set_option maxRecDepth 100000 in
theorem mv_J0_length_8abf5 : Cond.selects RJ0 yJ0_length_8abf5 yJ0_length_8abf5 ∈ TW := tw_in (w := Cond.selects RJ0 yJ0_length_8abf5 yJ0_length_8abf5) (List.mem_of_getElem? (i := 606) rfl) rfl
set_option maxRecDepth 100000 in
theorem vl_J0_505 : VL RJ0 505 yJ0_length_8abf5 cJ0_length_8abf5 1 (some .int) 0 := ⟨tw_in (w := Cond.methodLink RJ0 505 yJ0_length_8abf5) (List.mem_of_getElem? (i := 604) rfl) rfl, mi_J0_length_8abf5, mv_J0_length_8abf5, ini_J0, mc_J0_length_8abf5, by decide +kernel, by decide +kernel, by decide +kernel⟩
set_option maxRecDepth 100000 in
theorem mc_J0_indexOf_7cf53 : Cond.code yJ0_indexOf_7cf53 cJ0_indexOf_7cf53 3 (some .int) ∈ TW := tw_in (w := Cond.code yJ0_indexOf_7cf53 cJ0_indexOf_7cf53 3 (some .int)) (List.mem_of_getElem? (i := 597) rfl) rfl
set_option maxRecDepth 100000 in
theorem mi_J0_indexOf_7cf53 : Cond.instanceMethod yJ0_indexOf_7cf53 ∈ TW := tw_in (w := Cond.instanceMethod yJ0_indexOf_7cf53) (List.mem_of_getElem? (i := 595) rfl) rfl
set_option maxRecDepth 100000 in
theorem mv_J0_indexOf_7cf53 : Cond.selects RJ0 yJ0_indexOf_7cf53 yJ0_indexOf_7cf53 ∈ TW := tw_in (w := Cond.selects RJ0 yJ0_indexOf_7cf53 yJ0_indexOf_7cf53) (List.mem_of_getElem? (i := 596) rfl) rfl
set_option maxRecDepth 100000 in
theorem vl_J0_633 : VL RJ0 633 yJ0_indexOf_7cf53 cJ0_indexOf_7cf53 3 (some .int) 2 := ⟨tw_in (w := Cond.methodLink RJ0 633 yJ0_indexOf_7cf53) (List.mem_of_getElem? (i := 594) rfl) rfl, mi_J0_indexOf_7cf53, mv_J0_indexOf_7cf53, ini_J0, mc_J0_indexOf_7cf53, by decide +kernel, by decide +kernel, by decide +kernel⟩
set_option maxRecDepth 100000 in
theorem mc_J1_indexOf_4cfef : Cond.code yJ1_indexOf_4cfef cJ1_indexOf_4cfef 4 (some .int) ∈ TW := tw_in (w := Cond.code yJ1_indexOf_4cfef cJ1_indexOf_4cfef 4 (some .int)) (List.mem_of_getElem? (i := 614) rfl) rfl
set_option maxRecDepth 100000 in
theorem ms_J1_indexOf_4cfef : Cond.static yJ1_indexOf_4cfef ∈ TW := tw_in (w := Cond.static yJ1_indexOf_4cfef) (List.mem_of_getElem? (i := 613) rfl) rfl
set_option maxRecDepth 100000 in
theorem sl_J0_637 : SL RJ0 637 yJ1_indexOf_4cfef cJ1_indexOf_4cfef 4 (some .int) 4 := ⟨tw_in (w := Cond.methodLink RJ0 637 yJ1_indexOf_4cfef) (List.mem_of_getElem? (i := 612) rfl) rfl, ms_J1_indexOf_4cfef, ini_J1, mc_J1_indexOf_4cfef, by decide +kernel, by decide +kernel, by decide +kernel⟩
set_option maxRecDepth 100000 in
theorem mc_J2_indexOf_4cfef : Cond.code yJ2_indexOf_4cfef cJ2_indexOf_4cfef 4 (some .int) ∈ TW := tw_in (w := Cond.code yJ2_indexOf_4cfef cJ2_indexOf_4cfef 4 (some .int)) (List.mem_of_getElem? (i := 625) rfl) rfl
set_option maxRecDepth 100000 in
theorem ms_J2_indexOf_4cfef : Cond.static yJ2_indexOf_4cfef ∈ TW := tw_in (w := Cond.static yJ2_indexOf_4cfef) (List.mem_of_getElem? (i := 624) rfl) rfl
set_option maxRecDepth 100000 in
theorem sl_J0_640 : SL RJ0 640 yJ2_indexOf_4cfef cJ2_indexOf_4cfef 4 (some .int) 4 := ⟨tw_in (w := Cond.methodLink RJ0 640 yJ2_indexOf_4cfef) (List.mem_of_getElem? (i := 623) rfl) rfl, ms_J2_indexOf_4cfef, ini_J2, mc_J2_indexOf_4cfef, by decide +kernel, by decide +kernel, by decide +kernel⟩
set_option maxRecDepth 100000 in
theorem mc_J3_checkFromToIndex_8c36e : Cond.code yJ3_checkFromToIndex_8c36e cJ3_checkFromToIndex_8c36e 4 (some .int) ∈ TW := tw_in (w := Cond.code yJ3_checkFromToIndex_8c36e cJ3_checkFromToIndex_8c36e 4 (some .int)) (List.mem_of_getElem? (i := 645) rfl) rfl
set_option maxRecDepth 100000 in
theorem ms_J3_checkFromToIndex_8c36e : Cond.static yJ3_checkFromToIndex_8c36e ∈ TW := tw_in (w := Cond.static yJ3_checkFromToIndex_8c36e) (List.mem_of_getElem? (i := 644) rfl) rfl
set_option maxRecDepth 100000 in
theorem sl_J0_1062 : SL RJ0 1062 yJ3_checkFromToIndex_8c36e cJ3_checkFromToIndex_8c36e 4 (some .int) 4 := ⟨tw_in (w := Cond.methodLink RJ0 1062 yJ3_checkFromToIndex_8c36e) (List.mem_of_getElem? (i := 643) rfl) rfl, ms_J3_checkFromToIndex_8c36e, ini_J3, mc_J3_checkFromToIndex_8c36e, by decide +kernel, by decide +kernel, by decide +kernel⟩
set_option maxRecDepth 100000 in
theorem ml_J1_38 : Cond.methodLink RJ1 38 Lib.Math.min.name ∈ TW := tw_in (w := Cond.methodLink RJ1 38 Lib.Math.min.name) (List.mem_of_getElem? (i := 619) rfl) rfl
set_option maxRecDepth 100000 in
theorem m_min_s : Cond.static Lib.Math.min.name ∈ TW := tw_in (w := Cond.static Lib.Math.min.name) (List.mem_of_getElem? (i := 231) rfl) rfl
set_option maxRecDepth 100000 in
theorem m_min_c : Cond.code Lib.Math.min.name Lib.Math.min.code 2 (some .int) ∈ TW := tw_in (w := Cond.code Lib.Math.min.name Lib.Math.min.code 2 (some .int)) (List.mem_of_getElem? (i := 232) rfl) rfl
set_option maxRecDepth 100000 in
theorem mc_J1_canEncode_9a6ad : Cond.code yJ1_canEncode_9a6ad cJ1_canEncode_9a6ad 1 (some .boolean) ∈ TW := tw_in (w := Cond.code yJ1_canEncode_9a6ad cJ1_canEncode_9a6ad 1 (some .boolean)) (List.mem_of_getElem? (i := 617) rfl) rfl
set_option maxRecDepth 100000 in
theorem ms_J1_canEncode_9a6ad : Cond.static yJ1_canEncode_9a6ad ∈ TW := tw_in (w := Cond.static yJ1_canEncode_9a6ad) (List.mem_of_getElem? (i := 616) rfl) rfl
set_option maxRecDepth 100000 in
theorem sl_J1_88 : SL RJ1 88 yJ1_canEncode_9a6ad cJ1_canEncode_9a6ad 1 (some .boolean) 1 := ⟨tw_in (w := Cond.methodLink RJ1 88 yJ1_canEncode_9a6ad) (List.mem_of_getElem? (i := 615) rfl) rfl, ms_J1_canEncode_9a6ad, ini_J1, mc_J1_canEncode_9a6ad, by decide +kernel, by decide +kernel, by decide +kernel⟩
set_option maxRecDepth 100000 in
theorem ml_J1_92 : Cond.methodLink RJ1 92 Lib.Math.max.name ∈ TW := tw_in (w := Cond.methodLink RJ1 92 Lib.Math.max.name) (List.mem_of_getElem? (i := 618) rfl) rfl
set_option maxRecDepth 100000 in
theorem m_max_s : Cond.static Lib.Math.max.name ∈ TW := tw_in (w := Cond.static Lib.Math.max.name) (List.mem_of_getElem? (i := 234) rfl) rfl
set_option maxRecDepth 100000 in
theorem m_max_c : Cond.code Lib.Math.max.name Lib.Math.max.code 2 (some .int) ∈ TW := tw_in (w := Cond.code Lib.Math.max.name Lib.Math.max.code 2 (some .int)) (List.mem_of_getElem? (i := 235) rfl) rfl
set_option maxRecDepth 100000 in
theorem mc_J1_indexOfChar_4cfef : Cond.code yJ1_indexOfChar_4cfef cJ1_indexOfChar_4cfef 6 (some .int) ∈ TW := tw_in (w := Cond.code yJ1_indexOfChar_4cfef cJ1_indexOfChar_4cfef 6 (some .int)) (List.mem_of_getElem? (i := 622) rfl) rfl
set_option maxRecDepth 100000 in
theorem ms_J1_indexOfChar_4cfef : Cond.static yJ1_indexOfChar_4cfef ∈ TW := tw_in (w := Cond.static yJ1_indexOfChar_4cfef) (List.mem_of_getElem? (i := 621) rfl) rfl
set_option maxRecDepth 100000 in
theorem sl_J1_95 : SL RJ1 95 yJ1_indexOfChar_4cfef cJ1_indexOfChar_4cfef 6 (some .int) 4 := ⟨tw_in (w := Cond.methodLink RJ1 95 yJ1_indexOfChar_4cfef) (List.mem_of_getElem? (i := 620) rfl) rfl, ms_J1_indexOfChar_4cfef, ini_J1, mc_J1_indexOfChar_4cfef, by decide +kernel, by decide +kernel, by decide +kernel⟩
set_option maxRecDepth 100000 in
theorem mc_J2_length_9d52b : Cond.code yJ2_length_9d52b cJ2_length_9d52b 1 (some .int) ∈ TW := tw_in (w := Cond.code yJ2_length_9d52b cJ2_length_9d52b 1 (some .int)) (List.mem_of_getElem? (i := 637) rfl) rfl
set_option maxRecDepth 100000 in
theorem ms_J2_length_9d52b : Cond.static yJ2_length_9d52b ∈ TW := tw_in (w := Cond.static yJ2_length_9d52b) (List.mem_of_getElem? (i := 636) rfl) rfl
set_option maxRecDepth 100000 in
theorem sl_J2_48 : SL RJ2 48 yJ2_length_9d52b cJ2_length_9d52b 1 (some .int) 1 := ⟨tw_in (w := Cond.methodLink RJ2 48 yJ2_length_9d52b) (List.mem_of_getElem? (i := 635) rfl) rfl, ms_J2_length_9d52b, ini_J2, mc_J2_length_9d52b, by decide +kernel, by decide +kernel, by decide +kernel⟩
set_option maxRecDepth 100000 in
theorem mc_J2_getChar_3b067 : Cond.code yJ2_getChar_3b067 cJ2_getChar_3b067 2 (some .char) ∈ TW := tw_in (w := Cond.code yJ2_getChar_3b067 cJ2_getChar_3b067 2 (some .char)) (List.mem_of_getElem? (i := 651) rfl) rfl
set_option maxRecDepth 100000 in
theorem ms_J2_getChar_3b067 : Cond.static yJ2_getChar_3b067 ∈ TW := tw_in (w := Cond.static yJ2_getChar_3b067) (List.mem_of_getElem? (i := 650) rfl) rfl
set_option maxRecDepth 100000 in
theorem sl_J2_71 : SL RJ2 71 yJ2_getChar_3b067 cJ2_getChar_3b067 2 (some .char) 2 := ⟨tw_in (w := Cond.methodLink RJ2 71 yJ2_getChar_3b067) (List.mem_of_getElem? (i := 649) rfl) rfl, ms_J2_getChar_3b067, ini_J2, mc_J2_getChar_3b067, by decide +kernel, by decide +kernel, by decide +kernel⟩
set_option maxRecDepth 100000 in
theorem mc_J2_checkBoundsBeginEnd_d044e : Cond.code yJ2_checkBoundsBeginEnd_d044e cJ2_checkBoundsBeginEnd_d044e 3 none ∈ TW := tw_in (w := Cond.code yJ2_checkBoundsBeginEnd_d044e cJ2_checkBoundsBeginEnd_d044e 3 none) (List.mem_of_getElem? (i := 634) rfl) rfl
set_option maxRecDepth 100000 in
theorem ms_J2_checkBoundsBeginEnd_d044e : Cond.static yJ2_checkBoundsBeginEnd_d044e ∈ TW := tw_in (w := Cond.static yJ2_checkBoundsBeginEnd_d044e) (List.mem_of_getElem? (i := 633) rfl) rfl
set_option maxRecDepth 100000 in
theorem sl_J2_96 : SL RJ2 96 yJ2_checkBoundsBeginEnd_d044e cJ2_checkBoundsBeginEnd_d044e 3 none 3 := ⟨tw_in (w := Cond.methodLink RJ2 96 yJ2_checkBoundsBeginEnd_d044e) (List.mem_of_getElem? (i := 632) rfl) rfl, ms_J2_checkBoundsBeginEnd_d044e, ini_J2, mc_J2_checkBoundsBeginEnd_d044e, by decide +kernel, by decide +kernel, by decide +kernel⟩
set_option maxRecDepth 100000 in
theorem mc_J11_highSurrogate_5068e : Cond.code yJ11_highSurrogate_5068e cJ11_highSurrogate_5068e 1 (some .char) ∈ TW := tw_in (w := Cond.code yJ11_highSurrogate_5068e cJ11_highSurrogate_5068e 1 (some .char)) (List.mem_of_getElem? (i := 666) rfl) rfl
set_option maxRecDepth 100000 in
theorem ms_J11_highSurrogate_5068e : Cond.static yJ11_highSurrogate_5068e ∈ TW := tw_in (w := Cond.static yJ11_highSurrogate_5068e) (List.mem_of_getElem? (i := 665) rfl) rfl
set_option maxRecDepth 100000 in
theorem sl_J2_157 : SL RJ2 157 yJ11_highSurrogate_5068e cJ11_highSurrogate_5068e 1 (some .char) 1 := ⟨tw_in (w := Cond.methodLink RJ2 157 yJ11_highSurrogate_5068e) (List.mem_of_getElem? (i := 664) rfl) rfl, ms_J11_highSurrogate_5068e, ini_J11, mc_J11_highSurrogate_5068e, by decide +kernel, by decide +kernel, by decide +kernel⟩
set_option maxRecDepth 100000 in
theorem mc_J11_lowSurrogate_5068e : Cond.code yJ11_lowSurrogate_5068e cJ11_lowSurrogate_5068e 1 (some .char) ∈ TW := tw_in (w := Cond.code yJ11_lowSurrogate_5068e cJ11_lowSurrogate_5068e 1 (some .char)) (List.mem_of_getElem? (i := 670) rfl) rfl
set_option maxRecDepth 100000 in
theorem ms_J11_lowSurrogate_5068e : Cond.static yJ11_lowSurrogate_5068e ∈ TW := tw_in (w := Cond.static yJ11_lowSurrogate_5068e) (List.mem_of_getElem? (i := 669) rfl) rfl
set_option maxRecDepth 100000 in
theorem sl_J2_161 : SL RJ2 161 yJ11_lowSurrogate_5068e cJ11_lowSurrogate_5068e 1 (some .char) 1 := ⟨tw_in (w := Cond.methodLink RJ2 161 yJ11_lowSurrogate_5068e) (List.mem_of_getElem? (i := 668) rfl) rfl, ms_J11_lowSurrogate_5068e, ini_J11, mc_J11_lowSurrogate_5068e, by decide +kernel, by decide +kernel, by decide +kernel⟩
set_option maxRecDepth 100000 in
theorem mc_J11_isValidCodePoint_9a6ad : Cond.code yJ11_isValidCodePoint_9a6ad cJ11_isValidCodePoint_9a6ad 2 (some .boolean) ∈ TW := tw_in (w := Cond.code yJ11_isValidCodePoint_9a6ad cJ11_isValidCodePoint_9a6ad 2 (some .boolean)) (List.mem_of_getElem? (i := 663) rfl) rfl
set_option maxRecDepth 100000 in
theorem ms_J11_isValidCodePoint_9a6ad : Cond.static yJ11_isValidCodePoint_9a6ad ∈ TW := tw_in (w := Cond.static yJ11_isValidCodePoint_9a6ad) (List.mem_of_getElem? (i := 662) rfl) rfl
set_option maxRecDepth 100000 in
theorem sl_J2_164 : SL RJ2 164 yJ11_isValidCodePoint_9a6ad cJ11_isValidCodePoint_9a6ad 2 (some .boolean) 1 := ⟨tw_in (w := Cond.methodLink RJ2 164 yJ11_isValidCodePoint_9a6ad) (List.mem_of_getElem? (i := 661) rfl) rfl, ms_J11_isValidCodePoint_9a6ad, ini_J11, mc_J11_isValidCodePoint_9a6ad, by decide +kernel, by decide +kernel, by decide +kernel⟩
set_option maxRecDepth 100000 in
theorem ml_J2_183 : Cond.methodLink RJ2 183 Lib.Math.min.name ∈ TW := tw_in (w := Cond.methodLink RJ2 183 Lib.Math.min.name) (List.mem_of_getElem? (i := 627) rfl) rfl
set_option maxRecDepth 100000 in
theorem ml_J2_224 : Cond.methodLink RJ2 224 Lib.Math.max.name ∈ TW := tw_in (w := Cond.methodLink RJ2 224 Lib.Math.max.name) (List.mem_of_getElem? (i := 626) rfl) rfl
set_option maxRecDepth 100000 in
theorem mc_J2_indexOfChar_4cfef : Cond.code yJ2_indexOfChar_4cfef cJ2_indexOfChar_4cfef 4 (some .int) ∈ TW := tw_in (w := Cond.code yJ2_indexOfChar_4cfef cJ2_indexOfChar_4cfef 4 (some .int)) (List.mem_of_getElem? (i := 631) rfl) rfl
set_option maxRecDepth 100000 in
theorem ms_J2_indexOfChar_4cfef : Cond.static yJ2_indexOfChar_4cfef ∈ TW := tw_in (w := Cond.static yJ2_indexOfChar_4cfef) (List.mem_of_getElem? (i := 630) rfl) rfl
set_option maxRecDepth 100000 in
theorem sl_J2_228 : SL RJ2 228 yJ2_indexOfChar_4cfef cJ2_indexOfChar_4cfef 4 (some .int) 4 := ⟨tw_in (w := Cond.methodLink RJ2 228 yJ2_indexOfChar_4cfef) (List.mem_of_getElem? (i := 629) rfl) rfl, ms_J2_indexOfChar_4cfef, ini_J2, mc_J2_indexOfChar_4cfef, by decide +kernel, by decide +kernel, by decide +kernel⟩
set_option maxRecDepth 100000 in
theorem mc_J2_indexOfSupplementary_4cfef : Cond.code yJ2_indexOfSupplementary_4cfef cJ2_indexOfSupplementary_4cfef 7 (some .int) ∈ TW := tw_in (w := Cond.code yJ2_indexOfSupplementary_4cfef cJ2_indexOfSupplementary_4cfef 7 (some .int)) (List.mem_of_getElem? (i := 660) rfl) rfl
set_option maxRecDepth 100000 in
theorem ms_J2_indexOfSupplementary_4cfef : Cond.static yJ2_indexOfSupplementary_4cfef ∈ TW := tw_in (w := Cond.static yJ2_indexOfSupplementary_4cfef) (List.mem_of_getElem? (i := 659) rfl) rfl
set_option maxRecDepth 100000 in
theorem sl_J2_232 : SL RJ2 232 yJ2_indexOfSupplementary_4cfef cJ2_indexOfSupplementary_4cfef 7 (some .int) 4 := ⟨tw_in (w := Cond.methodLink RJ2 232 yJ2_indexOfSupplementary_4cfef) (List.mem_of_getElem? (i := 658) rfl) rfl, ms_J2_indexOfSupplementary_4cfef, ini_J2, mc_J2_indexOfSupplementary_4cfef, by decide +kernel, by decide +kernel, by decide +kernel⟩
set_option maxRecDepth 100000 in
theorem mc_J0_checkBoundsBeginEnd_23922 : Cond.code yJ0_checkBoundsBeginEnd_23922 cJ0_checkBoundsBeginEnd_23922 3 none ∈ TW := tw_in (w := Cond.code yJ0_checkBoundsBeginEnd_23922 cJ0_checkBoundsBeginEnd_23922 3 none) (List.mem_of_getElem? (i := 640) rfl) rfl
set_option maxRecDepth 100000 in
theorem ms_J0_checkBoundsBeginEnd_23922 : Cond.static yJ0_checkBoundsBeginEnd_23922 ∈ TW := tw_in (w := Cond.static yJ0_checkBoundsBeginEnd_23922) (List.mem_of_getElem? (i := 639) rfl) rfl
set_option maxRecDepth 100000 in
theorem sl_J2_241 : SL RJ2 241 yJ0_checkBoundsBeginEnd_23922 cJ0_checkBoundsBeginEnd_23922 3 none 3 := ⟨tw_in (w := Cond.methodLink RJ2 241 yJ0_checkBoundsBeginEnd_23922) (List.mem_of_getElem? (i := 638) rfl) rfl, ms_J0_checkBoundsBeginEnd_23922, ini_J0, mc_J0_checkBoundsBeginEnd_23922, by decide +kernel, by decide +kernel, by decide +kernel⟩
set_option maxRecDepth 100000 in
theorem mc_J2_indexOfCharUnsafe_4cfef : Cond.code yJ2_indexOfCharUnsafe_4cfef cJ2_indexOfCharUnsafe_4cfef 5 (some .int) ∈ TW := tw_in (w := Cond.code yJ2_indexOfCharUnsafe_4cfef cJ2_indexOfCharUnsafe_4cfef 5 (some .int)) (List.mem_of_getElem? (i := 648) rfl) rfl
set_option maxRecDepth 100000 in
theorem ms_J2_indexOfCharUnsafe_4cfef : Cond.static yJ2_indexOfCharUnsafe_4cfef ∈ TW := tw_in (w := Cond.static yJ2_indexOfCharUnsafe_4cfef) (List.mem_of_getElem? (i := 647) rfl) rfl
set_option maxRecDepth 100000 in
theorem sl_J2_244 : SL RJ2 244 yJ2_indexOfCharUnsafe_4cfef cJ2_indexOfCharUnsafe_4cfef 5 (some .int) 4 := ⟨tw_in (w := Cond.methodLink RJ2 244 yJ2_indexOfCharUnsafe_4cfef) (List.mem_of_getElem? (i := 646) rfl) rfl, ms_J2_indexOfCharUnsafe_4cfef, ini_J2, mc_J2_indexOfCharUnsafe_4cfef, by decide +kernel, by decide +kernel, by decide +kernel⟩
set_option maxRecDepth 100000 in
theorem mc_X3_init : Cond.code yX3_init cX3_init 1 none ∈ TW := tw_in (w := Cond.code yX3_init cX3_init 1 none) (List.mem_of_getElem? (i := 45) rfl) rfl
set_option maxRecDepth 100000 in
theorem mi_X3_init : Cond.instanceMethod yX3_init ∈ TW := tw_in (w := Cond.instanceMethod yX3_init) (List.mem_of_getElem? (i := 44) rfl) rfl
set_option maxRecDepth 100000 in
theorem ml_L_9 : Cond.methodLink RL 9 yX3_init ∈ TW := tw_in (w := Cond.methodLink RL 9 yX3_init) (List.mem_of_getElem? (i := 43) rfl) rfl
set_option maxRecDepth 100000 in
theorem mc_X4_init : Cond.code yX4_init cX4_init 1 none ∈ TW := tw_in (w := Cond.code yX4_init cX4_init 1 none) (List.mem_of_getElem? (i := 486) rfl) rfl
set_option maxRecDepth 100000 in
theorem mi_X4_init : Cond.instanceMethod yX4_init ∈ TW := tw_in (w := Cond.instanceMethod yX4_init) (List.mem_of_getElem? (i := 485) rfl) rfl
set_option maxRecDepth 100000 in
theorem ml_L_12 : Cond.methodLink RL 12 yX4_init ∈ TW := tw_in (w := Cond.methodLink RL 12 yX4_init) (List.mem_of_getElem? (i := 484) rfl) rfl
set_option maxRecDepth 100000 in
theorem mc_X3_letter : Cond.code yX3_letter cX3_letter 3 (some .int) ∈ TW := tw_in (w := Cond.code yX3_letter cX3_letter 3 (some .int)) (List.mem_of_getElem? (i := 175) rfl) rfl
set_option maxRecDepth 100000 in
theorem mi_X3_letter : Cond.instanceMethod yX3_letter ∈ TW := tw_in (w := Cond.instanceMethod yX3_letter) (List.mem_of_getElem? (i := 173) rfl) rfl
set_option maxRecDepth 100000 in
theorem mv_X3_letter : Cond.selects RX3 yX3_letter yX3_letter ∈ TW := tw_in (w := Cond.selects RX3 yX3_letter yX3_letter) (List.mem_of_getElem? (i := 174) rfl) rfl
set_option maxRecDepth 100000 in
theorem vl_L_13 : VL RL 13 yX3_letter cX3_letter 3 (some .int) 1 := ⟨tw_in (w := Cond.methodLink RL 13 yX3_letter) (List.mem_of_getElem? (i := 172) rfl) rfl, mi_X3_letter, mv_X3_letter, ini_X3, mc_X3_letter, by decide +kernel, by decide +kernel, by decide +kernel⟩
set_option maxRecDepth 100000 in
theorem mc_X4_letter : Cond.code yX4_letter cX4_letter 2 (some .int) ∈ TW := tw_in (w := Cond.code yX4_letter cX4_letter 2 (some .int)) (List.mem_of_getElem? (i := 561) rfl) rfl
set_option maxRecDepth 100000 in
theorem mi_X4_letter : Cond.instanceMethod yX4_letter ∈ TW := tw_in (w := Cond.instanceMethod yX4_letter) (List.mem_of_getElem? (i := 559) rfl) rfl
set_option maxRecDepth 100000 in
theorem mv_X4_letter : Cond.selects RX4 yX4_letter yX4_letter ∈ TW := tw_in (w := Cond.selects RX4 yX4_letter yX4_letter) (List.mem_of_getElem? (i := 560) rfl) rfl
set_option maxRecDepth 100000 in
theorem vl_L_17 : VL RL 17 yX4_letter cX4_letter 2 (some .int) 1 := ⟨tw_in (w := Cond.methodLink RL 17 yX4_letter) (List.mem_of_getElem? (i := 558) rfl) rfl, mi_X4_letter, mv_X4_letter, ini_X4, mc_X4_letter, by decide +kernel, by decide +kernel, by decide +kernel⟩
set_option maxRecDepth 100000 in
theorem mc_X3_house : Cond.code yX3_house cX3_house 2 (some .int) ∈ TW := tw_in (w := Cond.code yX3_house cX3_house 2 (some .int)) (List.mem_of_getElem? (i := 190) rfl) rfl
set_option maxRecDepth 100000 in
theorem mi_X3_house : Cond.instanceMethod yX3_house ∈ TW := tw_in (w := Cond.instanceMethod yX3_house) (List.mem_of_getElem? (i := 188) rfl) rfl
set_option maxRecDepth 100000 in
theorem mv_X3_house : Cond.selects RX3 yX3_house yX3_house ∈ TW := tw_in (w := Cond.selects RX3 yX3_house yX3_house) (List.mem_of_getElem? (i := 189) rfl) rfl
set_option maxRecDepth 100000 in
theorem vl_L_18 : VL RL 18 yX3_house cX3_house 2 (some .int) 0 := ⟨tw_in (w := Cond.methodLink RL 18 yX3_house) (List.mem_of_getElem? (i := 187) rfl) rfl, mi_X3_house, mv_X3_house, ini_X3, mc_X3_house, by decide +kernel, by decide +kernel, by decide +kernel⟩
set_option maxRecDepth 100000 in
theorem mc_X4_house : Cond.code yX4_house cX4_house 4 (some .int) ∈ TW := tw_in (w := Cond.code yX4_house cX4_house 4 (some .int)) (List.mem_of_getElem? (i := 569) rfl) rfl
set_option maxRecDepth 100000 in
theorem mi_X4_house : Cond.instanceMethod yX4_house ∈ TW := tw_in (w := Cond.instanceMethod yX4_house) (List.mem_of_getElem? (i := 567) rfl) rfl
set_option maxRecDepth 100000 in
theorem mv_X4_house : Cond.selects RX4 yX4_house yX4_house ∈ TW := tw_in (w := Cond.selects RX4 yX4_house yX4_house) (List.mem_of_getElem? (i := 568) rfl) rfl
set_option maxRecDepth 100000 in
theorem vl_L_22 : VL RL 22 yX4_house cX4_house 4 (some .int) 0 := ⟨tw_in (w := Cond.methodLink RL 22 yX4_house) (List.mem_of_getElem? (i := 566) rfl) rfl, mi_X4_house, mv_X4_house, ini_X4, mc_X4_house, by decide +kernel, by decide +kernel, by decide +kernel⟩
set_option maxRecDepth 100000 in
theorem mc_X3_thing : Cond.code yX3_thing cX3_thing 3 (some .int) ∈ TW := tw_in (w := Cond.code yX3_thing cX3_thing 3 (some .int)) (List.mem_of_getElem? (i := 280) rfl) rfl
set_option maxRecDepth 100000 in
theorem mi_X3_thing : Cond.instanceMethod yX3_thing ∈ TW := tw_in (w := Cond.instanceMethod yX3_thing) (List.mem_of_getElem? (i := 278) rfl) rfl
set_option maxRecDepth 100000 in
theorem mv_X3_thing : Cond.selects RX3 yX3_thing yX3_thing ∈ TW := tw_in (w := Cond.selects RX3 yX3_thing yX3_thing) (List.mem_of_getElem? (i := 279) rfl) rfl
set_option maxRecDepth 100000 in
theorem vl_L_23 : VL RL 23 yX3_thing cX3_thing 3 (some .int) 2 := ⟨tw_in (w := Cond.methodLink RL 23 yX3_thing) (List.mem_of_getElem? (i := 277) rfl) rfl, mi_X3_thing, mv_X3_thing, ini_X3, mc_X3_thing, by decide +kernel, by decide +kernel, by decide +kernel⟩
set_option maxRecDepth 100000 in
theorem mc_X4_thing : Cond.code yX4_thing cX4_thing 3 (some .int) ∈ TW := tw_in (w := Cond.code yX4_thing cX4_thing 3 (some .int)) (List.mem_of_getElem? (i := 701) rfl) rfl
set_option maxRecDepth 100000 in
theorem mi_X4_thing : Cond.instanceMethod yX4_thing ∈ TW := tw_in (w := Cond.instanceMethod yX4_thing) (List.mem_of_getElem? (i := 699) rfl) rfl
set_option maxRecDepth 100000 in
theorem mv_X4_thing : Cond.selects RX4 yX4_thing yX4_thing ∈ TW := tw_in (w := Cond.selects RX4 yX4_thing yX4_thing) (List.mem_of_getElem? (i := 700) rfl) rfl
set_option maxRecDepth 100000 in
theorem vl_L_27 : VL RL 27 yX4_thing cX4_thing 3 (some .int) 2 := ⟨tw_in (w := Cond.methodLink RL 27 yX4_thing) (List.mem_of_getElem? (i := 698) rfl) rfl, mi_X4_thing, mv_X4_thing, ini_X4, mc_X4_thing, by decide +kernel, by decide +kernel, by decide +kernel⟩
set_option maxRecDepth 100000 in
theorem mc_X3_line : Cond.code yX3_line cX3_line 3 (some .int) ∈ TW := tw_in (w := Cond.code yX3_line cX3_line 3 (some .int)) (List.mem_of_getElem? (i := 285) rfl) rfl
set_option maxRecDepth 100000 in
theorem mi_X3_line : Cond.instanceMethod yX3_line ∈ TW := tw_in (w := Cond.instanceMethod yX3_line) (List.mem_of_getElem? (i := 283) rfl) rfl
set_option maxRecDepth 100000 in
theorem mv_X3_line : Cond.selects RX3 yX3_line yX3_line ∈ TW := tw_in (w := Cond.selects RX3 yX3_line yX3_line) (List.mem_of_getElem? (i := 284) rfl) rfl
set_option maxRecDepth 100000 in
theorem vl_L_28 : VL RL 28 yX3_line cX3_line 3 (some .int) 2 := ⟨tw_in (w := Cond.methodLink RL 28 yX3_line) (List.mem_of_getElem? (i := 282) rfl) rfl, mi_X3_line, mv_X3_line, ini_X3, mc_X3_line, by decide +kernel, by decide +kernel, by decide +kernel⟩
set_option maxRecDepth 100000 in
theorem mc_X4_line : Cond.code yX4_line cX4_line 3 (some .int) ∈ TW := tw_in (w := Cond.code yX4_line cX4_line 3 (some .int)) (List.mem_of_getElem? (i := 705) rfl) rfl
set_option maxRecDepth 100000 in
theorem mi_X4_line : Cond.instanceMethod yX4_line ∈ TW := tw_in (w := Cond.instanceMethod yX4_line) (List.mem_of_getElem? (i := 703) rfl) rfl
set_option maxRecDepth 100000 in
theorem mv_X4_line : Cond.selects RX4 yX4_line yX4_line ∈ TW := tw_in (w := Cond.selects RX4 yX4_line yX4_line) (List.mem_of_getElem? (i := 704) rfl) rfl
set_option maxRecDepth 100000 in
theorem vl_L_31 : VL RL 31 yX4_line cX4_line 3 (some .int) 2 := ⟨tw_in (w := Cond.methodLink RL 31 yX4_line) (List.mem_of_getElem? (i := 702) rfl) rfl, mi_X4_line, mv_X4_line, ini_X4, mc_X4_line, by decide +kernel, by decide +kernel, by decide +kernel⟩
set_option maxRecDepth 100000 in
theorem mc_X3_curtain : Cond.code yX3_curtain cX3_curtain 2 (some .int) ∈ TW := tw_in (w := Cond.code yX3_curtain cX3_curtain 2 (some .int)) (List.mem_of_getElem? (i := 290) rfl) rfl
set_option maxRecDepth 100000 in
theorem mi_X3_curtain : Cond.instanceMethod yX3_curtain ∈ TW := tw_in (w := Cond.instanceMethod yX3_curtain) (List.mem_of_getElem? (i := 288) rfl) rfl
set_option maxRecDepth 100000 in
theorem mv_X3_curtain : Cond.selects RX3 yX3_curtain yX3_curtain ∈ TW := tw_in (w := Cond.selects RX3 yX3_curtain yX3_curtain) (List.mem_of_getElem? (i := 289) rfl) rfl
set_option maxRecDepth 100000 in
theorem vl_L_32 : VL RL 32 yX3_curtain cX3_curtain 2 (some .int) 1 := ⟨tw_in (w := Cond.methodLink RL 32 yX3_curtain) (List.mem_of_getElem? (i := 287) rfl) rfl, mi_X3_curtain, mv_X3_curtain, ini_X3, mc_X3_curtain, by decide +kernel, by decide +kernel, by decide +kernel⟩
set_option maxRecDepth 100000 in
theorem mc_X4_curtain : Cond.code yX4_curtain cX4_curtain 2 (some .int) ∈ TW := tw_in (w := Cond.code yX4_curtain cX4_curtain 2 (some .int)) (List.mem_of_getElem? (i := 709) rfl) rfl
set_option maxRecDepth 100000 in
theorem mi_X4_curtain : Cond.instanceMethod yX4_curtain ∈ TW := tw_in (w := Cond.instanceMethod yX4_curtain) (List.mem_of_getElem? (i := 707) rfl) rfl
set_option maxRecDepth 100000 in
theorem mv_X4_curtain : Cond.selects RX4 yX4_curtain yX4_curtain ∈ TW := tw_in (w := Cond.selects RX4 yX4_curtain yX4_curtain) (List.mem_of_getElem? (i := 708) rfl) rfl
set_option maxRecDepth 100000 in
theorem vl_L_35 : VL RL 35 yX4_curtain cX4_curtain 2 (some .int) 1 := ⟨tw_in (w := Cond.methodLink RL 35 yX4_curtain) (List.mem_of_getElem? (i := 706) rfl) rfl, mi_X4_curtain, mv_X4_curtain, ini_X4, mc_X4_curtain, by decide +kernel, by decide +kernel, by decide +kernel⟩
set_option maxRecDepth 100000 in
theorem mc_X3_move : Cond.code yX3_move cX3_move 4 (some .int) ∈ TW := tw_in (w := Cond.code yX3_move cX3_move 4 (some .int)) (List.mem_of_getElem? (i := 295) rfl) rfl
set_option maxRecDepth 100000 in
theorem mi_X3_move : Cond.instanceMethod yX3_move ∈ TW := tw_in (w := Cond.instanceMethod yX3_move) (List.mem_of_getElem? (i := 293) rfl) rfl
set_option maxRecDepth 100000 in
theorem mv_X3_move : Cond.selects RX3 yX3_move yX3_move ∈ TW := tw_in (w := Cond.selects RX3 yX3_move yX3_move) (List.mem_of_getElem? (i := 294) rfl) rfl
set_option maxRecDepth 100000 in
theorem vl_L_36 : VL RL 36 yX3_move cX3_move 4 (some .int) 2 := ⟨tw_in (w := Cond.methodLink RL 36 yX3_move) (List.mem_of_getElem? (i := 292) rfl) rfl, mi_X3_move, mv_X3_move, ini_X3, mc_X3_move, by decide +kernel, by decide +kernel, by decide +kernel⟩
set_option maxRecDepth 100000 in
theorem mc_X4_move : Cond.code yX4_move cX4_move 4 (some .int) ∈ TW := tw_in (w := Cond.code yX4_move cX4_move 4 (some .int)) (List.mem_of_getElem? (i := 713) rfl) rfl
set_option maxRecDepth 100000 in
theorem mi_X4_move : Cond.instanceMethod yX4_move ∈ TW := tw_in (w := Cond.instanceMethod yX4_move) (List.mem_of_getElem? (i := 711) rfl) rfl
set_option maxRecDepth 100000 in
theorem mv_X4_move : Cond.selects RX4 yX4_move yX4_move ∈ TW := tw_in (w := Cond.selects RX4 yX4_move yX4_move) (List.mem_of_getElem? (i := 712) rfl) rfl
set_option maxRecDepth 100000 in
theorem vl_L_39 : VL RL 39 yX4_move cX4_move 4 (some .int) 2 := ⟨tw_in (w := Cond.methodLink RL 39 yX4_move) (List.mem_of_getElem? (i := 710) rfl) rfl, mi_X4_move, mv_X4_move, ini_X4, mc_X4_move, by decide +kernel, by decide +kernel, by decide +kernel⟩
set_option maxRecDepth 100000 in
theorem mc_X3_pair : Cond.code yX3_pair cX3_pair 3 (some .int) ∈ TW := tw_in (w := Cond.code yX3_pair cX3_pair 3 (some .int)) (List.mem_of_getElem? (i := 300) rfl) rfl
set_option maxRecDepth 100000 in
theorem mi_X3_pair : Cond.instanceMethod yX3_pair ∈ TW := tw_in (w := Cond.instanceMethod yX3_pair) (List.mem_of_getElem? (i := 298) rfl) rfl
set_option maxRecDepth 100000 in
theorem mv_X3_pair : Cond.selects RX3 yX3_pair yX3_pair ∈ TW := tw_in (w := Cond.selects RX3 yX3_pair yX3_pair) (List.mem_of_getElem? (i := 299) rfl) rfl
set_option maxRecDepth 100000 in
theorem vl_L_40 : VL RL 40 yX3_pair cX3_pair 3 (some .int) 2 := ⟨tw_in (w := Cond.methodLink RL 40 yX3_pair) (List.mem_of_getElem? (i := 297) rfl) rfl, mi_X3_pair, mv_X3_pair, ini_X3, mc_X3_pair, by decide +kernel, by decide +kernel, by decide +kernel⟩
set_option maxRecDepth 100000 in
theorem mc_X4_pair : Cond.code yX4_pair cX4_pair 3 (some .int) ∈ TW := tw_in (w := Cond.code yX4_pair cX4_pair 3 (some .int)) (List.mem_of_getElem? (i := 717) rfl) rfl
set_option maxRecDepth 100000 in
theorem mi_X4_pair : Cond.instanceMethod yX4_pair ∈ TW := tw_in (w := Cond.instanceMethod yX4_pair) (List.mem_of_getElem? (i := 715) rfl) rfl
set_option maxRecDepth 100000 in
theorem mv_X4_pair : Cond.selects RX4 yX4_pair yX4_pair ∈ TW := tw_in (w := Cond.selects RX4 yX4_pair yX4_pair) (List.mem_of_getElem? (i := 716) rfl) rfl
set_option maxRecDepth 100000 in
theorem vl_L_43 : VL RL 43 yX4_pair cX4_pair 3 (some .int) 2 := ⟨tw_in (w := Cond.methodLink RL 43 yX4_pair) (List.mem_of_getElem? (i := 714) rfl) rfl, mi_X4_pair, mv_X4_pair, ini_X4, mc_X4_pair, by decide +kernel, by decide +kernel, by decide +kernel⟩
set_option maxRecDepth 100000 in
theorem mc_X3_hour : Cond.code yX3_hour cX3_hour 4 (some .int) ∈ TW := tw_in (w := Cond.code yX3_hour cX3_hour 4 (some .int)) (List.mem_of_getElem? (i := 305) rfl) rfl
set_option maxRecDepth 100000 in
theorem mi_X3_hour : Cond.instanceMethod yX3_hour ∈ TW := tw_in (w := Cond.instanceMethod yX3_hour) (List.mem_of_getElem? (i := 303) rfl) rfl
set_option maxRecDepth 100000 in
theorem mv_X3_hour : Cond.selects RX3 yX3_hour yX3_hour ∈ TW := tw_in (w := Cond.selects RX3 yX3_hour yX3_hour) (List.mem_of_getElem? (i := 304) rfl) rfl
set_option maxRecDepth 100000 in
theorem vl_L_44 : VL RL 44 yX3_hour cX3_hour 4 (some .int) 1 := ⟨tw_in (w := Cond.methodLink RL 44 yX3_hour) (List.mem_of_getElem? (i := 302) rfl) rfl, mi_X3_hour, mv_X3_hour, ini_X3, mc_X3_hour, by decide +kernel, by decide +kernel, by decide +kernel⟩
set_option maxRecDepth 100000 in
theorem mc_X4_hour : Cond.code yX4_hour cX4_hour 3 (some .int) ∈ TW := tw_in (w := Cond.code yX4_hour cX4_hour 3 (some .int)) (List.mem_of_getElem? (i := 721) rfl) rfl
set_option maxRecDepth 100000 in
theorem mi_X4_hour : Cond.instanceMethod yX4_hour ∈ TW := tw_in (w := Cond.instanceMethod yX4_hour) (List.mem_of_getElem? (i := 719) rfl) rfl
set_option maxRecDepth 100000 in
theorem mv_X4_hour : Cond.selects RX4 yX4_hour yX4_hour ∈ TW := tw_in (w := Cond.selects RX4 yX4_hour yX4_hour) (List.mem_of_getElem? (i := 720) rfl) rfl
set_option maxRecDepth 100000 in
theorem vl_L_47 : VL RL 47 yX4_hour cX4_hour 3 (some .int) 1 := ⟨tw_in (w := Cond.methodLink RL 47 yX4_hour) (List.mem_of_getElem? (i := 718) rfl) rfl, mi_X4_hour, mv_X4_hour, ini_X4, mc_X4_hour, by decide +kernel, by decide +kernel, by decide +kernel⟩
set_option maxRecDepth 100000 in
theorem mc_X3_seen : Cond.code yX3_seen cX3_seen 6 (some .int) ∈ TW := tw_in (w := Cond.code yX3_seen cX3_seen 6 (some .int)) (List.mem_of_getElem? (i := 309) rfl) rfl
set_option maxRecDepth 100000 in
theorem mi_X3_seen : Cond.instanceMethod yX3_seen ∈ TW := tw_in (w := Cond.instanceMethod yX3_seen) (List.mem_of_getElem? (i := 307) rfl) rfl
set_option maxRecDepth 100000 in
theorem mv_X3_seen : Cond.selects RX3 yX3_seen yX3_seen ∈ TW := tw_in (w := Cond.selects RX3 yX3_seen yX3_seen) (List.mem_of_getElem? (i := 308) rfl) rfl
set_option maxRecDepth 100000 in
theorem vl_L_48 : VL RL 48 yX3_seen cX3_seen 6 (some .int) 2 := ⟨tw_in (w := Cond.methodLink RL 48 yX3_seen) (List.mem_of_getElem? (i := 306) rfl) rfl, mi_X3_seen, mv_X3_seen, ini_X3, mc_X3_seen, by decide +kernel, by decide +kernel, by decide +kernel⟩
set_option maxRecDepth 100000 in
theorem mc_X4_seen : Cond.code yX4_seen cX4_seen 5 (some .int) ∈ TW := tw_in (w := Cond.code yX4_seen cX4_seen 5 (some .int)) (List.mem_of_getElem? (i := 725) rfl) rfl
set_option maxRecDepth 100000 in
theorem mi_X4_seen : Cond.instanceMethod yX4_seen ∈ TW := tw_in (w := Cond.instanceMethod yX4_seen) (List.mem_of_getElem? (i := 723) rfl) rfl
set_option maxRecDepth 100000 in
theorem mv_X4_seen : Cond.selects RX4 yX4_seen yX4_seen ∈ TW := tw_in (w := Cond.selects RX4 yX4_seen yX4_seen) (List.mem_of_getElem? (i := 724) rfl) rfl
set_option maxRecDepth 100000 in
theorem vl_L_51 : VL RL 51 yX4_seen cX4_seen 5 (some .int) 2 := ⟨tw_in (w := Cond.methodLink RL 51 yX4_seen) (List.mem_of_getElem? (i := 722) rfl) rfl, mi_X4_seen, mv_X4_seen, ini_X4, mc_X4_seen, by decide +kernel, by decide +kernel, by decide +kernel⟩
set_option maxRecDepth 100000 in
theorem mc_X3_from : Cond.code yX3_from cX3_from 4 (some .int) ∈ TW := tw_in (w := Cond.code yX3_from cX3_from 4 (some .int)) (List.mem_of_getElem? (i := 317) rfl) rfl
set_option maxRecDepth 100000 in
theorem mi_X3_from : Cond.instanceMethod yX3_from ∈ TW := tw_in (w := Cond.instanceMethod yX3_from) (List.mem_of_getElem? (i := 315) rfl) rfl
set_option maxRecDepth 100000 in
theorem mv_X3_from : Cond.selects RX3 yX3_from yX3_from ∈ TW := tw_in (w := Cond.selects RX3 yX3_from yX3_from) (List.mem_of_getElem? (i := 316) rfl) rfl
set_option maxRecDepth 100000 in
theorem vl_L_52 : VL RL 52 yX3_from cX3_from 4 (some .int) 2 := ⟨tw_in (w := Cond.methodLink RL 52 yX3_from) (List.mem_of_getElem? (i := 314) rfl) rfl, mi_X3_from, mv_X3_from, ini_X3, mc_X3_from, by decide +kernel, by decide +kernel, by decide +kernel⟩
set_option maxRecDepth 100000 in
theorem mc_X4_from : Cond.code yX4_from cX4_from 3 (some .int) ∈ TW := tw_in (w := Cond.code yX4_from cX4_from 3 (some .int)) (List.mem_of_getElem? (i := 744) rfl) rfl
set_option maxRecDepth 100000 in
theorem mi_X4_from : Cond.instanceMethod yX4_from ∈ TW := tw_in (w := Cond.instanceMethod yX4_from) (List.mem_of_getElem? (i := 742) rfl) rfl
set_option maxRecDepth 100000 in
theorem mv_X4_from : Cond.selects RX4 yX4_from yX4_from ∈ TW := tw_in (w := Cond.selects RX4 yX4_from yX4_from) (List.mem_of_getElem? (i := 743) rfl) rfl
set_option maxRecDepth 100000 in
theorem vl_L_55 : VL RL 55 yX4_from cX4_from 3 (some .int) 2 := ⟨tw_in (w := Cond.methodLink RL 55 yX4_from) (List.mem_of_getElem? (i := 741) rfl) rfl, mi_X4_from, mv_X4_from, ini_X4, mc_X4_from, by decide +kernel, by decide +kernel, by decide +kernel⟩
set_option maxRecDepth 100000 in
theorem mc_X3_sins : Cond.code yX3_sins cX3_sins 4 (some .int) ∈ TW := tw_in (w := Cond.code yX3_sins cX3_sins 4 (some .int)) (List.mem_of_getElem? (i := 321) rfl) rfl
set_option maxRecDepth 100000 in
theorem mi_X3_sins : Cond.instanceMethod yX3_sins ∈ TW := tw_in (w := Cond.instanceMethod yX3_sins) (List.mem_of_getElem? (i := 319) rfl) rfl
set_option maxRecDepth 100000 in
theorem mv_X3_sins : Cond.selects RX3 yX3_sins yX3_sins ∈ TW := tw_in (w := Cond.selects RX3 yX3_sins yX3_sins) (List.mem_of_getElem? (i := 320) rfl) rfl
set_option maxRecDepth 100000 in
theorem vl_L_56 : VL RL 56 yX3_sins cX3_sins 4 (some .int) 2 := ⟨tw_in (w := Cond.methodLink RL 56 yX3_sins) (List.mem_of_getElem? (i := 318) rfl) rfl, mi_X3_sins, mv_X3_sins, ini_X3, mc_X3_sins, by decide +kernel, by decide +kernel, by decide +kernel⟩
set_option maxRecDepth 100000 in
theorem mc_X4_sins : Cond.code yX4_sins cX4_sins 4 (some .int) ∈ TW := tw_in (w := Cond.code yX4_sins cX4_sins 4 (some .int)) (List.mem_of_getElem? (i := 748) rfl) rfl
set_option maxRecDepth 100000 in
theorem mi_X4_sins : Cond.instanceMethod yX4_sins ∈ TW := tw_in (w := Cond.instanceMethod yX4_sins) (List.mem_of_getElem? (i := 746) rfl) rfl
set_option maxRecDepth 100000 in
theorem mv_X4_sins : Cond.selects RX4 yX4_sins yX4_sins ∈ TW := tw_in (w := Cond.selects RX4 yX4_sins yX4_sins) (List.mem_of_getElem? (i := 747) rfl) rfl
set_option maxRecDepth 100000 in
theorem vl_L_59 : VL RL 59 yX4_sins cX4_sins 4 (some .int) 2 := ⟨tw_in (w := Cond.methodLink RL 59 yX4_sins) (List.mem_of_getElem? (i := 745) rfl) rfl, mi_X4_sins, mv_X4_sins, ini_X4, mc_X4_sins, by decide +kernel, by decide +kernel, by decide +kernel⟩
set_option maxRecDepth 100000 in
theorem mc_X3_day : Cond.code yX3_day cX3_day 1 (some .int) ∈ TW := tw_in (w := Cond.code yX3_day cX3_day 1 (some .int)) (List.mem_of_getElem? (i := 342) rfl) rfl
set_option maxRecDepth 100000 in
theorem mi_X3_day : Cond.instanceMethod yX3_day ∈ TW := tw_in (w := Cond.instanceMethod yX3_day) (List.mem_of_getElem? (i := 340) rfl) rfl
set_option maxRecDepth 100000 in
theorem mv_X3_day : Cond.selects RX3 yX3_day yX3_day ∈ TW := tw_in (w := Cond.selects RX3 yX3_day yX3_day) (List.mem_of_getElem? (i := 341) rfl) rfl
set_option maxRecDepth 100000 in
theorem vl_L_60 : VL RL 60 yX3_day cX3_day 1 (some .int) 0 := ⟨tw_in (w := Cond.methodLink RL 60 yX3_day) (List.mem_of_getElem? (i := 339) rfl) rfl, mi_X3_day, mv_X3_day, ini_X3, mc_X3_day, by decide +kernel, by decide +kernel, by decide +kernel⟩
set_option maxRecDepth 100000 in
theorem mc_X4_day : Cond.code yX4_day cX4_day 2 (some .int) ∈ TW := tw_in (w := Cond.code yX4_day cX4_day 2 (some .int)) (List.mem_of_getElem? (i := 760) rfl) rfl
set_option maxRecDepth 100000 in
theorem mi_X4_day : Cond.instanceMethod yX4_day ∈ TW := tw_in (w := Cond.instanceMethod yX4_day) (List.mem_of_getElem? (i := 758) rfl) rfl
set_option maxRecDepth 100000 in
theorem mv_X4_day : Cond.selects RX4 yX4_day yX4_day ∈ TW := tw_in (w := Cond.selects RX4 yX4_day yX4_day) (List.mem_of_getElem? (i := 759) rfl) rfl
set_option maxRecDepth 100000 in
theorem vl_L_63 : VL RL 63 yX4_day cX4_day 2 (some .int) 0 := ⟨tw_in (w := Cond.methodLink RL 63 yX4_day) (List.mem_of_getElem? (i := 757) rfl) rfl, mi_X4_day, mv_X4_day, ini_X4, mc_X4_day, by decide +kernel, by decide +kernel, by decide +kernel⟩
set_option maxRecDepth 100000 in
theorem mc_X3_curtains : Cond.code yX3_curtains cX3_curtains 5 (some .int) ∈ TW := tw_in (w := Cond.code yX3_curtains cX3_curtains 5 (some .int)) (List.mem_of_getElem? (i := 351) rfl) rfl
set_option maxRecDepth 100000 in
theorem mi_X3_curtains : Cond.instanceMethod yX3_curtains ∈ TW := tw_in (w := Cond.instanceMethod yX3_curtains) (List.mem_of_getElem? (i := 349) rfl) rfl
set_option maxRecDepth 100000 in
theorem mv_X3_curtains : Cond.selects RX3 yX3_curtains yX3_curtains ∈ TW := tw_in (w := Cond.selects RX3 yX3_curtains yX3_curtains) (List.mem_of_getElem? (i := 350) rfl) rfl
set_option maxRecDepth 100000 in
theorem vl_L_64 : VL RL 64 yX3_curtains cX3_curtains 5 (some .int) 0 := ⟨tw_in (w := Cond.methodLink RL 64 yX3_curtains) (List.mem_of_getElem? (i := 348) rfl) rfl, mi_X3_curtains, mv_X3_curtains, ini_X3, mc_X3_curtains, by decide +kernel, by decide +kernel, by decide +kernel⟩
set_option maxRecDepth 100000 in
theorem mc_X4_curtains : Cond.code yX4_curtains cX4_curtains 4 (some .int) ∈ TW := tw_in (w := Cond.code yX4_curtains cX4_curtains 4 (some .int)) (List.mem_of_getElem? (i := 764) rfl) rfl
set_option maxRecDepth 100000 in
theorem mi_X4_curtains : Cond.instanceMethod yX4_curtains ∈ TW := tw_in (w := Cond.instanceMethod yX4_curtains) (List.mem_of_getElem? (i := 762) rfl) rfl
set_option maxRecDepth 100000 in
theorem mv_X4_curtains : Cond.selects RX4 yX4_curtains yX4_curtains ∈ TW := tw_in (w := Cond.selects RX4 yX4_curtains yX4_curtains) (List.mem_of_getElem? (i := 763) rfl) rfl
set_option maxRecDepth 100000 in
theorem vl_L_67 : VL RL 67 yX4_curtains cX4_curtains 4 (some .int) 0 := ⟨tw_in (w := Cond.methodLink RL 67 yX4_curtains) (List.mem_of_getElem? (i := 761) rfl) rfl, mi_X4_curtains, mv_X4_curtains, ini_X4, mc_X4_curtains, by decide +kernel, by decide +kernel, by decide +kernel⟩
set_option maxRecDepth 100000 in
theorem mc_X3_moved : Cond.code yX3_moved cX3_moved 3 (some .int) ∈ TW := tw_in (w := Cond.code yX3_moved cX3_moved 3 (some .int)) (List.mem_of_getElem? (i := 361) rfl) rfl
set_option maxRecDepth 100000 in
theorem mi_X3_moved : Cond.instanceMethod yX3_moved ∈ TW := tw_in (w := Cond.instanceMethod yX3_moved) (List.mem_of_getElem? (i := 359) rfl) rfl
set_option maxRecDepth 100000 in
theorem mv_X3_moved : Cond.selects RX3 yX3_moved yX3_moved ∈ TW := tw_in (w := Cond.selects RX3 yX3_moved yX3_moved) (List.mem_of_getElem? (i := 360) rfl) rfl
set_option maxRecDepth 100000 in
theorem vl_L_68 : VL RL 68 yX3_moved cX3_moved 3 (some .int) 1 := ⟨tw_in (w := Cond.methodLink RL 68 yX3_moved) (List.mem_of_getElem? (i := 358) rfl) rfl, mi_X3_moved, mv_X3_moved, ini_X3, mc_X3_moved, by decide +kernel, by decide +kernel, by decide +kernel⟩
set_option maxRecDepth 100000 in
theorem mc_X4_moved : Cond.code yX4_moved cX4_moved 4 (some .int) ∈ TW := tw_in (w := Cond.code yX4_moved cX4_moved 4 (some .int)) (List.mem_of_getElem? (i := 769) rfl) rfl
set_option maxRecDepth 100000 in
theorem mi_X4_moved : Cond.instanceMethod yX4_moved ∈ TW := tw_in (w := Cond.instanceMethod yX4_moved) (List.mem_of_getElem? (i := 767) rfl) rfl
set_option maxRecDepth 100000 in
theorem mv_X4_moved : Cond.selects RX4 yX4_moved yX4_moved ∈ TW := tw_in (w := Cond.selects RX4 yX4_moved yX4_moved) (List.mem_of_getElem? (i := 768) rfl) rfl
set_option maxRecDepth 100000 in
theorem vl_L_71 : VL RL 71 yX4_moved cX4_moved 4 (some .int) 1 := ⟨tw_in (w := Cond.methodLink RL 71 yX4_moved) (List.mem_of_getElem? (i := 766) rfl) rfl, mi_X4_moved, mv_X4_moved, ini_X4, mc_X4_moved, by decide +kernel, by decide +kernel, by decide +kernel⟩
set_option maxRecDepth 100000 in
theorem mc_X3_given : Cond.code yX3_given cX3_given 4 (some .int) ∈ TW := tw_in (w := Cond.code yX3_given cX3_given 4 (some .int)) (List.mem_of_getElem? (i := 373) rfl) rfl
set_option maxRecDepth 100000 in
theorem mi_X3_given : Cond.instanceMethod yX3_given ∈ TW := tw_in (w := Cond.instanceMethod yX3_given) (List.mem_of_getElem? (i := 371) rfl) rfl
set_option maxRecDepth 100000 in
theorem mv_X3_given : Cond.selects RX3 yX3_given yX3_given ∈ TW := tw_in (w := Cond.selects RX3 yX3_given yX3_given) (List.mem_of_getElem? (i := 372) rfl) rfl
set_option maxRecDepth 100000 in
theorem vl_L_72 : VL RL 72 yX3_given cX3_given 4 (some .int) 1 := ⟨tw_in (w := Cond.methodLink RL 72 yX3_given) (List.mem_of_getElem? (i := 370) rfl) rfl, mi_X3_given, mv_X3_given, ini_X3, mc_X3_given, by decide +kernel, by decide +kernel, by decide +kernel⟩
set_option maxRecDepth 100000 in
theorem mc_X4_given : Cond.code yX4_given cX4_given 5 (some .int) ∈ TW := tw_in (w := Cond.code yX4_given cX4_given 5 (some .int)) (List.mem_of_getElem? (i := 781) rfl) rfl
set_option maxRecDepth 100000 in
theorem mi_X4_given : Cond.instanceMethod yX4_given ∈ TW := tw_in (w := Cond.instanceMethod yX4_given) (List.mem_of_getElem? (i := 779) rfl) rfl
set_option maxRecDepth 100000 in
theorem mv_X4_given : Cond.selects RX4 yX4_given yX4_given ∈ TW := tw_in (w := Cond.selects RX4 yX4_given yX4_given) (List.mem_of_getElem? (i := 780) rfl) rfl
set_option maxRecDepth 100000 in
theorem vl_L_75 : VL RL 75 yX4_given cX4_given 5 (some .int) 1 := ⟨tw_in (w := Cond.methodLink RL 75 yX4_given) (List.mem_of_getElem? (i := 778) rfl) rfl, mi_X4_given, mv_X4_given, ini_X4, mc_X4_given, by decide +kernel, by decide +kernel, by decide +kernel⟩
set_option maxRecDepth 100000 in
theorem mc_X3_pairings : Cond.code yX3_pairings cX3_pairings 2 (some .int) ∈ TW := tw_in (w := Cond.code yX3_pairings cX3_pairings 2 (some .int)) (List.mem_of_getElem? (i := 381) rfl) rfl
set_option maxRecDepth 100000 in
theorem mi_X3_pairings : Cond.instanceMethod yX3_pairings ∈ TW := tw_in (w := Cond.instanceMethod yX3_pairings) (List.mem_of_getElem? (i := 379) rfl) rfl
set_option maxRecDepth 100000 in
theorem mv_X3_pairings : Cond.selects RX3 yX3_pairings yX3_pairings ∈ TW := tw_in (w := Cond.selects RX3 yX3_pairings yX3_pairings) (List.mem_of_getElem? (i := 380) rfl) rfl
set_option maxRecDepth 100000 in
theorem vl_L_76 : VL RL 76 yX3_pairings cX3_pairings 2 (some .int) 1 := ⟨tw_in (w := Cond.methodLink RL 76 yX3_pairings) (List.mem_of_getElem? (i := 378) rfl) rfl, mi_X3_pairings, mv_X3_pairings, ini_X3, mc_X3_pairings, by decide +kernel, by decide +kernel, by decide +kernel⟩
set_option maxRecDepth 100000 in
theorem mc_X4_pairings : Cond.code yX4_pairings cX4_pairings 3 (some .int) ∈ TW := tw_in (w := Cond.code yX4_pairings cX4_pairings 3 (some .int)) (List.mem_of_getElem? (i := 785) rfl) rfl
set_option maxRecDepth 100000 in
theorem mi_X4_pairings : Cond.instanceMethod yX4_pairings ∈ TW := tw_in (w := Cond.instanceMethod yX4_pairings) (List.mem_of_getElem? (i := 783) rfl) rfl
set_option maxRecDepth 100000 in
theorem mv_X4_pairings : Cond.selects RX4 yX4_pairings yX4_pairings ∈ TW := tw_in (w := Cond.selects RX4 yX4_pairings yX4_pairings) (List.mem_of_getElem? (i := 784) rfl) rfl
set_option maxRecDepth 100000 in
theorem vl_L_79 : VL RL 79 yX4_pairings cX4_pairings 3 (some .int) 1 := ⟨tw_in (w := Cond.methodLink RL 79 yX4_pairings) (List.mem_of_getElem? (i := 782) rfl) rfl, mi_X4_pairings, mv_X4_pairings, ini_X4, mc_X4_pairings, by decide +kernel, by decide +kernel, by decide +kernel⟩
set_option maxRecDepth 100000 in
theorem mc_X3_together : Cond.code yX3_together cX3_together 2 (some .int) ∈ TW := tw_in (w := Cond.code yX3_together cX3_together 2 (some .int)) (List.mem_of_getElem? (i := 406) rfl) rfl
set_option maxRecDepth 100000 in
theorem mi_X3_together : Cond.instanceMethod yX3_together ∈ TW := tw_in (w := Cond.instanceMethod yX3_together) (List.mem_of_getElem? (i := 404) rfl) rfl
set_option maxRecDepth 100000 in
theorem mv_X3_together : Cond.selects RX3 yX3_together yX3_together ∈ TW := tw_in (w := Cond.selects RX3 yX3_together yX3_together) (List.mem_of_getElem? (i := 405) rfl) rfl
set_option maxRecDepth 100000 in
theorem vl_L_80 : VL RL 80 yX3_together cX3_together 2 (some .int) 1 := ⟨tw_in (w := Cond.methodLink RL 80 yX3_together) (List.mem_of_getElem? (i := 403) rfl) rfl, mi_X3_together, mv_X3_together, ini_X3, mc_X3_together, by decide +kernel, by decide +kernel, by decide +kernel⟩
set_option maxRecDepth 100000 in
theorem mc_X4_together : Cond.code yX4_together cX4_together 2 (some .int) ∈ TW := tw_in (w := Cond.code yX4_together cX4_together 2 (some .int)) (List.mem_of_getElem? (i := 805) rfl) rfl
set_option maxRecDepth 100000 in
theorem mi_X4_together : Cond.instanceMethod yX4_together ∈ TW := tw_in (w := Cond.instanceMethod yX4_together) (List.mem_of_getElem? (i := 803) rfl) rfl
set_option maxRecDepth 100000 in
theorem mv_X4_together : Cond.selects RX4 yX4_together yX4_together ∈ TW := tw_in (w := Cond.selects RX4 yX4_together yX4_together) (List.mem_of_getElem? (i := 804) rfl) rfl
set_option maxRecDepth 100000 in
theorem vl_L_83 : VL RL 83 yX4_together cX4_together 2 (some .int) 1 := ⟨tw_in (w := Cond.methodLink RL 83 yX4_together) (List.mem_of_getElem? (i := 802) rfl) rfl, mi_X4_together, mv_X4_together, ini_X4, mc_X4_together, by decide +kernel, by decide +kernel, by decide +kernel⟩
set_option maxRecDepth 100000 in
theorem mc_X3_may : Cond.code yX3_may cX3_may 2 (some .int) ∈ TW := tw_in (w := Cond.code yX3_may cX3_may 2 (some .int)) (List.mem_of_getElem? (i := 414) rfl) rfl
set_option maxRecDepth 100000 in
theorem mi_X3_may : Cond.instanceMethod yX3_may ∈ TW := tw_in (w := Cond.instanceMethod yX3_may) (List.mem_of_getElem? (i := 412) rfl) rfl
set_option maxRecDepth 100000 in
theorem mv_X3_may : Cond.selects RX3 yX3_may yX3_may ∈ TW := tw_in (w := Cond.selects RX3 yX3_may yX3_may) (List.mem_of_getElem? (i := 413) rfl) rfl
set_option maxRecDepth 100000 in
theorem vl_L_84 : VL RL 84 yX3_may cX3_may 2 (some .int) 1 := ⟨tw_in (w := Cond.methodLink RL 84 yX3_may) (List.mem_of_getElem? (i := 411) rfl) rfl, mi_X3_may, mv_X3_may, ini_X3, mc_X3_may, by decide +kernel, by decide +kernel, by decide +kernel⟩
set_option maxRecDepth 100000 in
theorem mc_X4_may : Cond.code yX4_may cX4_may 4 (some .int) ∈ TW := tw_in (w := Cond.code yX4_may cX4_may 4 (some .int)) (List.mem_of_getElem? (i := 809) rfl) rfl
set_option maxRecDepth 100000 in
theorem mi_X4_may : Cond.instanceMethod yX4_may ∈ TW := tw_in (w := Cond.instanceMethod yX4_may) (List.mem_of_getElem? (i := 807) rfl) rfl
set_option maxRecDepth 100000 in
theorem mv_X4_may : Cond.selects RX4 yX4_may yX4_may ∈ TW := tw_in (w := Cond.selects RX4 yX4_may yX4_may) (List.mem_of_getElem? (i := 808) rfl) rfl
set_option maxRecDepth 100000 in
theorem vl_L_87 : VL RL 87 yX4_may cX4_may 4 (some .int) 1 := ⟨tw_in (w := Cond.methodLink RL 87 yX4_may) (List.mem_of_getElem? (i := 806) rfl) rfl, mi_X4_may, mv_X4_may, ini_X4, mc_X4_may, by decide +kernel, by decide +kernel, by decide +kernel⟩
set_option maxRecDepth 100000 in
theorem mc_X3_ways : Cond.code yX3_ways cX3_ways 1 (some .int) ∈ TW := tw_in (w := Cond.code yX3_ways cX3_ways 1 (some .int)) (List.mem_of_getElem? (i := 423) rfl) rfl
set_option maxRecDepth 100000 in
theorem mi_X3_ways : Cond.instanceMethod yX3_ways ∈ TW := tw_in (w := Cond.instanceMethod yX3_ways) (List.mem_of_getElem? (i := 421) rfl) rfl
set_option maxRecDepth 100000 in
theorem mv_X3_ways : Cond.selects RX3 yX3_ways yX3_ways ∈ TW := tw_in (w := Cond.selects RX3 yX3_ways yX3_ways) (List.mem_of_getElem? (i := 422) rfl) rfl
set_option maxRecDepth 100000 in
theorem vl_L_88 : VL RL 88 yX3_ways cX3_ways 1 (some .int) 0 := ⟨tw_in (w := Cond.methodLink RL 88 yX3_ways) (List.mem_of_getElem? (i := 420) rfl) rfl, mi_X3_ways, mv_X3_ways, ini_X3, mc_X3_ways, by decide +kernel, by decide +kernel, by decide +kernel⟩
set_option maxRecDepth 100000 in
theorem mc_X4_ways : Cond.code yX4_ways cX4_ways 1 (some .int) ∈ TW := tw_in (w := Cond.code yX4_ways cX4_ways 1 (some .int)) (List.mem_of_getElem? (i := 813) rfl) rfl
set_option maxRecDepth 100000 in
theorem mi_X4_ways : Cond.instanceMethod yX4_ways ∈ TW := tw_in (w := Cond.instanceMethod yX4_ways) (List.mem_of_getElem? (i := 811) rfl) rfl
set_option maxRecDepth 100000 in
theorem mv_X4_ways : Cond.selects RX4 yX4_ways yX4_ways ∈ TW := tw_in (w := Cond.selects RX4 yX4_ways yX4_ways) (List.mem_of_getElem? (i := 812) rfl) rfl
set_option maxRecDepth 100000 in
theorem vl_L_91 : VL RL 91 yX4_ways cX4_ways 1 (some .int) 0 := ⟨tw_in (w := Cond.methodLink RL 91 yX4_ways) (List.mem_of_getElem? (i := 810) rfl) rfl, mi_X4_ways, mv_X4_ways, ini_X4, mc_X4_ways, by decide +kernel, by decide +kernel, by decide +kernel⟩
set_option maxRecDepth 100000 in
theorem mc_X3_feast : Cond.code yX3_feast cX3_feast 4 (some .int) ∈ TW := tw_in (w := Cond.code yX3_feast cX3_feast 4 (some .int)) (List.mem_of_getElem? (i := 427) rfl) rfl
set_option maxRecDepth 100000 in
theorem mi_X3_feast : Cond.instanceMethod yX3_feast ∈ TW := tw_in (w := Cond.instanceMethod yX3_feast) (List.mem_of_getElem? (i := 425) rfl) rfl
set_option maxRecDepth 100000 in
theorem mv_X3_feast : Cond.selects RX3 yX3_feast yX3_feast ∈ TW := tw_in (w := Cond.selects RX3 yX3_feast yX3_feast) (List.mem_of_getElem? (i := 426) rfl) rfl
set_option maxRecDepth 100000 in
theorem vl_L_92 : VL RL 92 yX3_feast cX3_feast 4 (some .int) 2 := ⟨tw_in (w := Cond.methodLink RL 92 yX3_feast) (List.mem_of_getElem? (i := 424) rfl) rfl, mi_X3_feast, mv_X3_feast, ini_X3, mc_X3_feast, by decide +kernel, by decide +kernel, by decide +kernel⟩
set_option maxRecDepth 100000 in
theorem mc_X4_feast : Cond.code yX4_feast cX4_feast 6 (some .int) ∈ TW := tw_in (w := Cond.code yX4_feast cX4_feast 6 (some .int)) (List.mem_of_getElem? (i := 817) rfl) rfl
set_option maxRecDepth 100000 in
theorem mi_X4_feast : Cond.instanceMethod yX4_feast ∈ TW := tw_in (w := Cond.instanceMethod yX4_feast) (List.mem_of_getElem? (i := 815) rfl) rfl
set_option maxRecDepth 100000 in
theorem mv_X4_feast : Cond.selects RX4 yX4_feast yX4_feast ∈ TW := tw_in (w := Cond.selects RX4 yX4_feast yX4_feast) (List.mem_of_getElem? (i := 816) rfl) rfl
set_option maxRecDepth 100000 in
theorem vl_L_95 : VL RL 95 yX4_feast cX4_feast 6 (some .int) 2 := ⟨tw_in (w := Cond.methodLink RL 95 yX4_feast) (List.mem_of_getElem? (i := 814) rfl) rfl, mi_X4_feast, mv_X4_feast, ini_X4, mc_X4_feast, by decide +kernel, by decide +kernel, by decide +kernel⟩
set_option maxRecDepth 100000 in
theorem mc_X3_clean : Cond.code yX3_clean cX3_clean 4 (some .int) ∈ TW := tw_in (w := Cond.code yX3_clean cX3_clean 4 (some .int)) (List.mem_of_getElem? (i := 439) rfl) rfl
set_option maxRecDepth 100000 in
theorem mi_X3_clean : Cond.instanceMethod yX3_clean ∈ TW := tw_in (w := Cond.instanceMethod yX3_clean) (List.mem_of_getElem? (i := 437) rfl) rfl
set_option maxRecDepth 100000 in
theorem mv_X3_clean : Cond.selects RX3 yX3_clean yX3_clean ∈ TW := tw_in (w := Cond.selects RX3 yX3_clean yX3_clean) (List.mem_of_getElem? (i := 438) rfl) rfl
set_option maxRecDepth 100000 in
theorem vl_L_96 : VL RL 96 yX3_clean cX3_clean 4 (some .int) 1 := ⟨tw_in (w := Cond.methodLink RL 96 yX3_clean) (List.mem_of_getElem? (i := 436) rfl) rfl, mi_X3_clean, mv_X3_clean, ini_X3, mc_X3_clean, by decide +kernel, by decide +kernel, by decide +kernel⟩
set_option maxRecDepth 100000 in
theorem mc_X4_clean : Cond.code yX4_clean cX4_clean 5 (some .int) ∈ TW := tw_in (w := Cond.code yX4_clean cX4_clean 5 (some .int)) (List.mem_of_getElem? (i := 821) rfl) rfl
set_option maxRecDepth 100000 in
theorem mi_X4_clean : Cond.instanceMethod yX4_clean ∈ TW := tw_in (w := Cond.instanceMethod yX4_clean) (List.mem_of_getElem? (i := 819) rfl) rfl
set_option maxRecDepth 100000 in
theorem mv_X4_clean : Cond.selects RX4 yX4_clean yX4_clean ∈ TW := tw_in (w := Cond.selects RX4 yX4_clean yX4_clean) (List.mem_of_getElem? (i := 820) rfl) rfl
set_option maxRecDepth 100000 in
theorem vl_L_99 : VL RL 99 yX4_clean cX4_clean 5 (some .int) 1 := ⟨tw_in (w := Cond.methodLink RL 99 yX4_clean) (List.mem_of_getElem? (i := 818) rfl) rfl, mi_X4_clean, mv_X4_clean, ini_X4, mc_X4_clean, by decide +kernel, by decide +kernel, by decide +kernel⟩
set_option maxRecDepth 100000 in
theorem mc_X3_row : Cond.code yX3_row cX3_row 3 (some .int) ∈ TW := tw_in (w := Cond.code yX3_row cX3_row 3 (some .int)) (List.mem_of_getElem? (i := 443) rfl) rfl
set_option maxRecDepth 100000 in
theorem mi_X3_row : Cond.instanceMethod yX3_row ∈ TW := tw_in (w := Cond.instanceMethod yX3_row) (List.mem_of_getElem? (i := 441) rfl) rfl
set_option maxRecDepth 100000 in
theorem mv_X3_row : Cond.selects RX3 yX3_row yX3_row ∈ TW := tw_in (w := Cond.selects RX3 yX3_row yX3_row) (List.mem_of_getElem? (i := 442) rfl) rfl
set_option maxRecDepth 100000 in
theorem vl_L_100 : VL RL 100 yX3_row cX3_row 3 (some .int) 1 := ⟨tw_in (w := Cond.methodLink RL 100 yX3_row) (List.mem_of_getElem? (i := 440) rfl) rfl, mi_X3_row, mv_X3_row, ini_X3, mc_X3_row, by decide +kernel, by decide +kernel, by decide +kernel⟩
set_option maxRecDepth 100000 in
theorem mc_X4_row : Cond.code yX4_row cX4_row 2 (some .int) ∈ TW := tw_in (w := Cond.code yX4_row cX4_row 2 (some .int)) (List.mem_of_getElem? (i := 829) rfl) rfl
set_option maxRecDepth 100000 in
theorem mi_X4_row : Cond.instanceMethod yX4_row ∈ TW := tw_in (w := Cond.instanceMethod yX4_row) (List.mem_of_getElem? (i := 827) rfl) rfl
set_option maxRecDepth 100000 in
theorem mv_X4_row : Cond.selects RX4 yX4_row yX4_row ∈ TW := tw_in (w := Cond.selects RX4 yX4_row yX4_row) (List.mem_of_getElem? (i := 828) rfl) rfl
set_option maxRecDepth 100000 in
theorem vl_L_103 : VL RL 103 yX4_row cX4_row 2 (some .int) 1 := ⟨tw_in (w := Cond.methodLink RL 103 yX4_row) (List.mem_of_getElem? (i := 826) rfl) rfl, mi_X4_row, mv_X4_row, ini_X4, mc_X4_row, by decide +kernel, by decide +kernel, by decide +kernel⟩
set_option maxRecDepth 100000 in
theorem mc_X3_judge : Cond.code yX3_judge cX3_judge 2 (some .int) ∈ TW := tw_in (w := Cond.code yX3_judge cX3_judge 2 (some .int)) (List.mem_of_getElem? (i := 447) rfl) rfl
set_option maxRecDepth 100000 in
theorem mi_X3_judge : Cond.instanceMethod yX3_judge ∈ TW := tw_in (w := Cond.instanceMethod yX3_judge) (List.mem_of_getElem? (i := 445) rfl) rfl
set_option maxRecDepth 100000 in
theorem mv_X3_judge : Cond.selects RX3 yX3_judge yX3_judge ∈ TW := tw_in (w := Cond.selects RX3 yX3_judge yX3_judge) (List.mem_of_getElem? (i := 446) rfl) rfl
set_option maxRecDepth 100000 in
theorem vl_L_104 : VL RL 104 yX3_judge cX3_judge 2 (some .int) 0 := ⟨tw_in (w := Cond.methodLink RL 104 yX3_judge) (List.mem_of_getElem? (i := 444) rfl) rfl, mi_X3_judge, mv_X3_judge, ini_X3, mc_X3_judge, by decide +kernel, by decide +kernel, by decide +kernel⟩
set_option maxRecDepth 100000 in
theorem mc_X4_judge : Cond.code yX4_judge cX4_judge 6 (some .int) ∈ TW := tw_in (w := Cond.code yX4_judge cX4_judge 6 (some .int)) (List.mem_of_getElem? (i := 833) rfl) rfl
set_option maxRecDepth 100000 in
theorem mi_X4_judge : Cond.instanceMethod yX4_judge ∈ TW := tw_in (w := Cond.instanceMethod yX4_judge) (List.mem_of_getElem? (i := 831) rfl) rfl
set_option maxRecDepth 100000 in
theorem mv_X4_judge : Cond.selects RX4 yX4_judge yX4_judge ∈ TW := tw_in (w := Cond.selects RX4 yX4_judge yX4_judge) (List.mem_of_getElem? (i := 832) rfl) rfl
set_option maxRecDepth 100000 in
theorem vl_L_107 : VL RL 107 yX4_judge cX4_judge 6 (some .int) 0 := ⟨tw_in (w := Cond.methodLink RL 107 yX4_judge) (List.mem_of_getElem? (i := 830) rfl) rfl, mi_X4_judge, mv_X4_judge, ini_X4, mc_X4_judge, by decide +kernel, by decide +kernel, by decide +kernel⟩
set_option maxRecDepth 100000 in
theorem mc_X3_seeds : Cond.code yX3_seeds cX3_seeds 8 (some .int) ∈ TW := tw_in (w := Cond.code yX3_seeds cX3_seeds 8 (some .int)) (List.mem_of_getElem? (i := 456) rfl) rfl
set_option maxRecDepth 100000 in
theorem mi_X3_seeds : Cond.instanceMethod yX3_seeds ∈ TW := tw_in (w := Cond.instanceMethod yX3_seeds) (List.mem_of_getElem? (i := 454) rfl) rfl
set_option maxRecDepth 100000 in
theorem mv_X3_seeds : Cond.selects RX3 yX3_seeds yX3_seeds ∈ TW := tw_in (w := Cond.selects RX3 yX3_seeds yX3_seeds) (List.mem_of_getElem? (i := 455) rfl) rfl
set_option maxRecDepth 100000 in
theorem vl_L_108 : VL RL 108 yX3_seeds cX3_seeds 8 (some .int) 2 := ⟨tw_in (w := Cond.methodLink RL 108 yX3_seeds) (List.mem_of_getElem? (i := 453) rfl) rfl, mi_X3_seeds, mv_X3_seeds, ini_X3, mc_X3_seeds, by decide +kernel, by decide +kernel, by decide +kernel⟩
set_option maxRecDepth 100000 in
theorem mc_X4_seeds : Cond.code yX4_seeds cX4_seeds 7 (some .int) ∈ TW := tw_in (w := Cond.code yX4_seeds cX4_seeds 7 (some .int)) (List.mem_of_getElem? (i := 837) rfl) rfl
set_option maxRecDepth 100000 in
theorem mi_X4_seeds : Cond.instanceMethod yX4_seeds ∈ TW := tw_in (w := Cond.instanceMethod yX4_seeds) (List.mem_of_getElem? (i := 835) rfl) rfl
set_option maxRecDepth 100000 in
theorem mv_X4_seeds : Cond.selects RX4 yX4_seeds yX4_seeds ∈ TW := tw_in (w := Cond.selects RX4 yX4_seeds yX4_seeds) (List.mem_of_getElem? (i := 836) rfl) rfl
set_option maxRecDepth 100000 in
theorem vl_L_111 : VL RL 111 yX4_seeds cX4_seeds 7 (some .int) 2 := ⟨tw_in (w := Cond.methodLink RL 111 yX4_seeds) (List.mem_of_getElem? (i := 834) rfl) rfl, mi_X4_seeds, mv_X4_seeds, ini_X4, mc_X4_seeds, by decide +kernel, by decide +kernel, by decide +kernel⟩
set_option maxRecDepth 100000 in
theorem mc_X3_image : Cond.code yX3_image cX3_image 1 (some .int) ∈ TW := tw_in (w := Cond.code yX3_image cX3_image 1 (some .int)) (List.mem_of_getElem? (i := 469) rfl) rfl
set_option maxRecDepth 100000 in
theorem mi_X3_image : Cond.instanceMethod yX3_image ∈ TW := tw_in (w := Cond.instanceMethod yX3_image) (List.mem_of_getElem? (i := 467) rfl) rfl
set_option maxRecDepth 100000 in
theorem mv_X3_image : Cond.selects RX3 yX3_image yX3_image ∈ TW := tw_in (w := Cond.selects RX3 yX3_image yX3_image) (List.mem_of_getElem? (i := 468) rfl) rfl
set_option maxRecDepth 100000 in
theorem vl_L_112 : VL RL 112 yX3_image cX3_image 1 (some .int) 0 := ⟨tw_in (w := Cond.methodLink RL 112 yX3_image) (List.mem_of_getElem? (i := 466) rfl) rfl, mi_X3_image, mv_X3_image, ini_X3, mc_X3_image, by decide +kernel, by decide +kernel, by decide +kernel⟩
set_option maxRecDepth 100000 in
theorem mc_X4_image : Cond.code yX4_image cX4_image 1 (some .int) ∈ TW := tw_in (w := Cond.code yX4_image cX4_image 1 (some .int)) (List.mem_of_getElem? (i := 844) rfl) rfl
set_option maxRecDepth 100000 in
theorem mi_X4_image : Cond.instanceMethod yX4_image ∈ TW := tw_in (w := Cond.instanceMethod yX4_image) (List.mem_of_getElem? (i := 842) rfl) rfl
set_option maxRecDepth 100000 in
theorem mv_X4_image : Cond.selects RX4 yX4_image yX4_image ∈ TW := tw_in (w := Cond.selects RX4 yX4_image yX4_image) (List.mem_of_getElem? (i := 843) rfl) rfl
set_option maxRecDepth 100000 in
theorem vl_L_115 : VL RL 115 yX4_image cX4_image 1 (some .int) 0 := ⟨tw_in (w := Cond.methodLink RL 115 yX4_image) (List.mem_of_getElem? (i := 841) rfl) rfl, mi_X4_image, mv_X4_image, ini_X4, mc_X4_image, by decide +kernel, by decide +kernel, by decide +kernel⟩
set_option maxRecDepth 100000 in
theorem mc_X3_on : Cond.code yX3_on cX3_on 1 (some .int) ∈ TW := tw_in (w := Cond.code yX3_on cX3_on 1 (some .int)) (List.mem_of_getElem? (i := 473) rfl) rfl
set_option maxRecDepth 100000 in
theorem mi_X3_on : Cond.instanceMethod yX3_on ∈ TW := tw_in (w := Cond.instanceMethod yX3_on) (List.mem_of_getElem? (i := 471) rfl) rfl
set_option maxRecDepth 100000 in
theorem mv_X3_on : Cond.selects RX3 yX3_on yX3_on ∈ TW := tw_in (w := Cond.selects RX3 yX3_on yX3_on) (List.mem_of_getElem? (i := 472) rfl) rfl
set_option maxRecDepth 100000 in
theorem vl_L_116 : VL RL 116 yX3_on cX3_on 1 (some .int) 0 := ⟨tw_in (w := Cond.methodLink RL 116 yX3_on) (List.mem_of_getElem? (i := 470) rfl) rfl, mi_X3_on, mv_X3_on, ini_X3, mc_X3_on, by decide +kernel, by decide +kernel, by decide +kernel⟩
set_option maxRecDepth 100000 in
theorem mc_X4_on : Cond.code yX4_on cX4_on 1 (some .int) ∈ TW := tw_in (w := Cond.code yX4_on cX4_on 1 (some .int)) (List.mem_of_getElem? (i := 848) rfl) rfl
set_option maxRecDepth 100000 in
theorem mi_X4_on : Cond.instanceMethod yX4_on ∈ TW := tw_in (w := Cond.instanceMethod yX4_on) (List.mem_of_getElem? (i := 846) rfl) rfl
set_option maxRecDepth 100000 in
theorem mv_X4_on : Cond.selects RX4 yX4_on yX4_on ∈ TW := tw_in (w := Cond.selects RX4 yX4_on yX4_on) (List.mem_of_getElem? (i := 847) rfl) rfl
set_option maxRecDepth 100000 in
theorem vl_L_119 : VL RL 119 yX4_on cX4_on 1 (some .int) 0 := ⟨tw_in (w := Cond.methodLink RL 119 yX4_on) (List.mem_of_getElem? (i := 845) rfl) rfl, mi_X4_on, mv_X4_on, ini_X4, mc_X4_on, by decide +kernel, by decide +kernel, by decide +kernel⟩
set_option maxRecDepth 100000 in
theorem mc_X3_count : Cond.code yX3_count cX3_count 2 (some .int) ∈ TW := tw_in (w := Cond.code yX3_count cX3_count 2 (some .int)) (List.mem_of_getElem? (i := 477) rfl) rfl
set_option maxRecDepth 100000 in
theorem mi_X3_count : Cond.instanceMethod yX3_count ∈ TW := tw_in (w := Cond.instanceMethod yX3_count) (List.mem_of_getElem? (i := 475) rfl) rfl
set_option maxRecDepth 100000 in
theorem mv_X3_count : Cond.selects RX3 yX3_count yX3_count ∈ TW := tw_in (w := Cond.selects RX3 yX3_count yX3_count) (List.mem_of_getElem? (i := 476) rfl) rfl
set_option maxRecDepth 100000 in
theorem vl_L_120 : VL RL 120 yX3_count cX3_count 2 (some .int) 1 := ⟨tw_in (w := Cond.methodLink RL 120 yX3_count) (List.mem_of_getElem? (i := 474) rfl) rfl, mi_X3_count, mv_X3_count, ini_X3, mc_X3_count, by decide +kernel, by decide +kernel, by decide +kernel⟩
set_option maxRecDepth 100000 in
theorem mc_X4_count : Cond.code yX4_count cX4_count 4 (some .int) ∈ TW := tw_in (w := Cond.code yX4_count cX4_count 4 (some .int)) (List.mem_of_getElem? (i := 852) rfl) rfl
set_option maxRecDepth 100000 in
theorem mi_X4_count : Cond.instanceMethod yX4_count ∈ TW := tw_in (w := Cond.instanceMethod yX4_count) (List.mem_of_getElem? (i := 850) rfl) rfl
set_option maxRecDepth 100000 in
theorem mv_X4_count : Cond.selects RX4 yX4_count yX4_count ∈ TW := tw_in (w := Cond.selects RX4 yX4_count yX4_count) (List.mem_of_getElem? (i := 851) rfl) rfl
set_option maxRecDepth 100000 in
theorem vl_L_123 : VL RL 123 yX4_count cX4_count 4 (some .int) 1 := ⟨tw_in (w := Cond.methodLink RL 123 yX4_count) (List.mem_of_getElem? (i := 849) rfl) rfl, mi_X4_count, mv_X4_count, ini_X4, mc_X4_count, by decide +kernel, by decide +kernel, by decide +kernel⟩
set_option maxRecDepth 100000 in
theorem ml_X0_3 : Cond.methodLink RX0 3 objectInit ∈ TW := tw_in (w := Cond.methodLink RX0 3 objectInit) (List.mem_of_getElem? (i := 130) rfl) rfl
set_option maxRecDepth 100000 in
theorem m_obj_i : Cond.instanceMethod objectInit ∈ TW := tw_in (w := Cond.instanceMethod objectInit) (List.mem_of_getElem? (i := 47) rfl) rfl
set_option maxRecDepth 100000 in
theorem m_obj_c : Cond.code objectInit ⟨#[0xb1]⟩ 1 none ∈ TW := tw_in (w := Cond.code objectInit ⟨#[0xb1]⟩ 1 none) (List.mem_of_getElem? (i := 48) rfl) rfl
set_option maxRecDepth 100000 in
theorem mc_X1_meet : Cond.code yX1_meet cX1_meet 4 (some .boolean) ∈ TW := tw_in (w := Cond.code yX1_meet cX1_meet 4 (some .boolean)) (List.mem_of_getElem? (i := 333) rfl) rfl
set_option maxRecDepth 100000 in
theorem mi_X1_meet : Cond.instanceMethod yX1_meet ∈ TW := tw_in (w := Cond.instanceMethod yX1_meet) (List.mem_of_getElem? (i := 331) rfl) rfl
set_option maxRecDepth 100000 in
theorem mv_X1_meet : Cond.selects RX1 yX1_meet yX1_meet ∈ TW := tw_in (w := Cond.selects RX1 yX1_meet yX1_meet) (List.mem_of_getElem? (i := 332) rfl) rfl
set_option maxRecDepth 100000 in
theorem vl_X0_28 : VL RX0 28 yX1_meet cX1_meet 4 (some .boolean) 3 := ⟨tw_in (w := Cond.methodLink RX0 28 yX1_meet) (List.mem_of_getElem? (i := 386) rfl) rfl, mi_X1_meet, mv_X1_meet, ini_X1, mc_X1_meet, by decide +kernel, by decide +kernel, by decide +kernel⟩
set_option maxRecDepth 100000 in
theorem mc_X1_allThings : Cond.code yX1_allThings cX1_allThings 1 (some .int) ∈ TW := tw_in (w := Cond.code yX1_allThings cX1_allThings 1 (some .int)) (List.mem_of_getElem? (i := 410) rfl) rfl
set_option maxRecDepth 100000 in
theorem mi_X1_allThings : Cond.instanceMethod yX1_allThings ∈ TW := tw_in (w := Cond.instanceMethod yX1_allThings) (List.mem_of_getElem? (i := 408) rfl) rfl
set_option maxRecDepth 100000 in
theorem mv_X1_allThings : Cond.selects RX1 yX1_allThings yX1_allThings ∈ TW := tw_in (w := Cond.selects RX1 yX1_allThings yX1_allThings) (List.mem_of_getElem? (i := 409) rfl) rfl
set_option maxRecDepth 100000 in
theorem vl_X0_38 : VL RX0 38 yX1_allThings cX1_allThings 1 (some .int) 0 := ⟨tw_in (w := Cond.methodLink RX0 38 yX1_allThings) (List.mem_of_getElem? (i := 419) rfl) rfl, mi_X1_allThings, mv_X1_allThings, ini_X1, mc_X1_allThings, by decide +kernel, by decide +kernel, by decide +kernel⟩
set_option maxRecDepth 100000 in
theorem mc_X0_leastOf : Cond.code yX0_leastOf cX0_leastOf 2 (some .int) ∈ TW := tw_in (w := Cond.code yX0_leastOf cX0_leastOf 2 (some .int)) (List.mem_of_getElem? (i := 393) rfl) rfl
set_option maxRecDepth 100000 in
theorem ms_X0_leastOf : Cond.static yX0_leastOf ∈ TW := tw_in (w := Cond.static yX0_leastOf) (List.mem_of_getElem? (i := 392) rfl) rfl
set_option maxRecDepth 100000 in
theorem sl_X0_42 : SL RX0 42 yX0_leastOf cX0_leastOf 2 (some .int) 1 := ⟨tw_in (w := Cond.methodLink RX0 42 yX0_leastOf) (List.mem_of_getElem? (i := 391) rfl) rfl, ms_X0_leastOf, ini_X0, mc_X0_leastOf, by decide +kernel, by decide +kernel, by decide +kernel⟩
set_option maxRecDepth 100000 in
theorem ml_X1_3 : Cond.methodLink RX1 3 objectInit ∈ TW := tw_in (w := Cond.methodLink RX1 3 objectInit) (List.mem_of_getElem? (i := 54) rfl) rfl
set_option maxRecDepth 100000 in
theorem ml_X1_52 : Cond.methodLink RX1 52 arraycopyName ∈ TW := tw_in (w := Cond.methodLink RX1 52 arraycopyName) (List.mem_of_getElem? (i := 195) rfl) rfl
set_option maxRecDepth 100000 in
theorem m_copy_n : Cond.native arraycopyName ∈ TW := tw_in (w := Cond.native arraycopyName) (List.mem_of_getElem? (i := 197) rfl) rfl
set_option maxRecDepth 100000 in
theorem m_copy_s : Cond.static arraycopyName ∈ TW := tw_in (w := Cond.static arraycopyName) (List.mem_of_getElem? (i := 196) rfl) rfl
set_option maxRecDepth 100000 in
theorem mc_X1_leave : Cond.code yX1_leave cX1_leave 3 (some .int) ∈ TW := tw_in (w := Cond.code yX1_leave cX1_leave 3 (some .int)) (List.mem_of_getElem? (i := 268) rfl) rfl
set_option maxRecDepth 100000 in
theorem mi_X1_leave : Cond.instanceMethod yX1_leave ∈ TW := tw_in (w := Cond.instanceMethod yX1_leave) (List.mem_of_getElem? (i := 266) rfl) rfl
set_option maxRecDepth 100000 in
theorem mv_X1_leave : Cond.selects RX1 yX1_leave yX1_leave ∈ TW := tw_in (w := Cond.selects RX1 yX1_leave yX1_leave) (List.mem_of_getElem? (i := 267) rfl) rfl
set_option maxRecDepth 100000 in
theorem vl_X1_58 : VL RX1 58 yX1_leave cX1_leave 3 (some .int) 1 := ⟨tw_in (w := Cond.methodLink RX1 58 yX1_leave) (List.mem_of_getElem? (i := 265) rfl) rfl, mi_X1_leave, mv_X1_leave, ini_X1, mc_X1_leave, by decide +kernel, by decide +kernel, by decide +kernel⟩
set_option maxRecDepth 100000 in
theorem mc_X1_hasThing : Cond.code yX1_hasThing cX1_hasThing 2 (some .boolean) ∈ TW := tw_in (w := Cond.code yX1_hasThing cX1_hasThing 2 (some .boolean)) (List.mem_of_getElem? (i := 260) rfl) rfl
set_option maxRecDepth 100000 in
theorem mi_X1_hasThing : Cond.instanceMethod yX1_hasThing ∈ TW := tw_in (w := Cond.instanceMethod yX1_hasThing) (List.mem_of_getElem? (i := 258) rfl) rfl
set_option maxRecDepth 100000 in
theorem mv_X1_hasThing : Cond.selects RX1 yX1_hasThing yX1_hasThing ∈ TW := tw_in (w := Cond.selects RX1 yX1_hasThing yX1_hasThing) (List.mem_of_getElem? (i := 259) rfl) rfl
set_option maxRecDepth 100000 in
theorem vl_X1_62 : VL RX1 62 yX1_hasThing cX1_hasThing 2 (some .boolean) 1 := ⟨tw_in (w := Cond.methodLink RX1 62 yX1_hasThing) (List.mem_of_getElem? (i := 257) rfl) rfl, mi_X1_hasThing, mv_X1_hasThing, ini_X1, mc_X1_hasThing, by decide +kernel, by decide +kernel, by decide +kernel⟩
set_option maxRecDepth 100000 in
theorem ml_X1_69 : Cond.methodLink RX1 69 Lib.Math.min.name ∈ TW := tw_in (w := Cond.methodLink RX1 69 Lib.Math.min.name) (List.mem_of_getElem? (i := 230) rfl) rfl
set_option maxRecDepth 100000 in
theorem ml_X1_75 : Cond.methodLink RX1 75 Lib.Math.max.name ∈ TW := tw_in (w := Cond.methodLink RX1 75 Lib.Math.max.name) (List.mem_of_getElem? (i := 233) rfl) rfl
set_option maxRecDepth 100000 in
theorem mc_X2_digit : Cond.code yX2_digit cX2_digit 1 (some .int) ∈ TW := tw_in (w := Cond.code yX2_digit cX2_digit 1 (some .int)) (List.mem_of_getElem? (i := 217) rfl) rfl
set_option maxRecDepth 100000 in
theorem ms_X2_digit : Cond.static yX2_digit ∈ TW := tw_in (w := Cond.static yX2_digit) (List.mem_of_getElem? (i := 216) rfl) rfl
set_option maxRecDepth 100000 in
theorem sl_X1_78 : SL RX1 78 yX2_digit cX2_digit 1 (some .int) 1 := ⟨tw_in (w := Cond.methodLink RX1 78 yX2_digit) (List.mem_of_getElem? (i := 222) rfl) rfl, ms_X2_digit, ini_X2, mc_X2_digit, by decide +kernel, by decide +kernel, by decide +kernel⟩
set_option maxRecDepth 100000 in
theorem mc_X1_addLine : Cond.code yX1_addLine cX1_addLine 3 (some .boolean) ∈ TW := tw_in (w := Cond.code yX1_addLine cX1_addLine 3 (some .boolean)) (List.mem_of_getElem? (i := 226) rfl) rfl
set_option maxRecDepth 100000 in
theorem mi_X1_addLine : Cond.instanceMethod yX1_addLine ∈ TW := tw_in (w := Cond.instanceMethod yX1_addLine) (List.mem_of_getElem? (i := 224) rfl) rfl
set_option maxRecDepth 100000 in
theorem mv_X1_addLine : Cond.selects RX1 yX1_addLine yX1_addLine ∈ TW := tw_in (w := Cond.selects RX1 yX1_addLine yX1_addLine) (List.mem_of_getElem? (i := 225) rfl) rfl
set_option maxRecDepth 100000 in
theorem vl_X1_83 : VL RX1 83 yX1_addLine cX1_addLine 3 (some .boolean) 2 := ⟨tw_in (w := Cond.methodLink RX1 83 yX1_addLine) (List.mem_of_getElem? (i := 223) rfl) rfl, mi_X1_addLine, mv_X1_addLine, ini_X1, mc_X1_addLine, by decide +kernel, by decide +kernel, by decide +kernel⟩
set_option maxRecDepth 100000 in
theorem mc_X1_toggle : Cond.code yX1_toggle cX1_toggle 2 (some .boolean) ∈ TW := tw_in (w := Cond.code yX1_toggle cX1_toggle 2 (some .boolean)) (List.mem_of_getElem? (i := 239) rfl) rfl
set_option maxRecDepth 100000 in
theorem mi_X1_toggle : Cond.instanceMethod yX1_toggle ∈ TW := tw_in (w := Cond.instanceMethod yX1_toggle) (List.mem_of_getElem? (i := 237) rfl) rfl
set_option maxRecDepth 100000 in
theorem mv_X1_toggle : Cond.selects RX1 yX1_toggle yX1_toggle ∈ TW := tw_in (w := Cond.selects RX1 yX1_toggle yX1_toggle) (List.mem_of_getElem? (i := 238) rfl) rfl
set_option maxRecDepth 100000 in
theorem vl_X1_87 : VL RX1 87 yX1_toggle cX1_toggle 2 (some .boolean) 1 := ⟨tw_in (w := Cond.methodLink RX1 87 yX1_toggle) (List.mem_of_getElem? (i := 236) rfl) rfl, mi_X1_toggle, mv_X1_toggle, ini_X1, mc_X1_toggle, by decide +kernel, by decide +kernel, by decide +kernel⟩
set_option maxRecDepth 100000 in
theorem mc_X2_kind : Cond.code yX2_kind cX2_kind 1 (some .int) ∈ TW := tw_in (w := Cond.code yX2_kind cX2_kind 1 (some .int)) (List.mem_of_getElem? (i := 214) rfl) rfl
set_option maxRecDepth 100000 in
theorem ms_X2_kind : Cond.static yX2_kind ∈ TW := tw_in (w := Cond.static yX2_kind) (List.mem_of_getElem? (i := 213) rfl) rfl
set_option maxRecDepth 100000 in
theorem sl_X1_90 : SL RX1 90 yX2_kind cX2_kind 1 (some .int) 1 := ⟨tw_in (w := Cond.methodLink RX1 90 yX2_kind) (List.mem_of_getElem? (i := 248) rfl) rfl, ms_X2_kind, ini_X2, mc_X2_kind, by decide +kernel, by decide +kernel, by decide +kernel⟩
set_option maxRecDepth 100000 in
theorem mc_X1_addThing : Cond.code yX1_addThing cX1_addThing 3 (some .boolean) ∈ TW := tw_in (w := Cond.code yX1_addThing cX1_addThing 3 (some .boolean)) (List.mem_of_getElem? (i := 252) rfl) rfl
set_option maxRecDepth 100000 in
theorem mi_X1_addThing : Cond.instanceMethod yX1_addThing ∈ TW := tw_in (w := Cond.instanceMethod yX1_addThing) (List.mem_of_getElem? (i := 250) rfl) rfl
set_option maxRecDepth 100000 in
theorem mv_X1_addThing : Cond.selects RX1 yX1_addThing yX1_addThing ∈ TW := tw_in (w := Cond.selects RX1 yX1_addThing yX1_addThing) (List.mem_of_getElem? (i := 251) rfl) rfl
set_option maxRecDepth 100000 in
theorem vl_X1_93 : VL RX1 93 yX1_addThing cX1_addThing 3 (some .boolean) 2 := ⟨tw_in (w := Cond.methodLink RX1 93 yX1_addThing) (List.mem_of_getElem? (i := 249) rfl) rfl, mi_X1_addThing, mv_X1_addThing, ini_X1, mc_X1_addThing, by decide +kernel, by decide +kernel, by decide +kernel⟩
set_option maxRecDepth 100000 in
theorem mc_X1_acquaint : Cond.code yX1_acquaint cX1_acquaint 3 (some .boolean) ∈ TW := tw_in (w := Cond.code yX1_acquaint cX1_acquaint 3 (some .boolean)) (List.mem_of_getElem? (i := 256) rfl) rfl
set_option maxRecDepth 100000 in
theorem mi_X1_acquaint : Cond.instanceMethod yX1_acquaint ∈ TW := tw_in (w := Cond.instanceMethod yX1_acquaint) (List.mem_of_getElem? (i := 254) rfl) rfl
set_option maxRecDepth 100000 in
theorem mv_X1_acquaint : Cond.selects RX1 yX1_acquaint yX1_acquaint ∈ TW := tw_in (w := Cond.selects RX1 yX1_acquaint yX1_acquaint) (List.mem_of_getElem? (i := 255) rfl) rfl
set_option maxRecDepth 100000 in
theorem vl_X1_96 : VL RX1 96 yX1_acquaint cX1_acquaint 3 (some .boolean) 2 := ⟨tw_in (w := Cond.methodLink RX1 96 yX1_acquaint) (List.mem_of_getElem? (i := 253) rfl) rfl, mi_X1_acquaint, mv_X1_acquaint, ini_X1, mc_X1_acquaint, by decide +kernel, by decide +kernel, by decide +kernel⟩
set_option maxRecDepth 100000 in
theorem mc_X1_bring : Cond.code yX1_bring cX1_bring 3 (some .boolean) ∈ TW := tw_in (w := Cond.code yX1_bring cX1_bring 3 (some .boolean)) (List.mem_of_getElem? (i := 272) rfl) rfl
set_option maxRecDepth 100000 in
theorem mi_X1_bring : Cond.instanceMethod yX1_bring ∈ TW := tw_in (w := Cond.instanceMethod yX1_bring) (List.mem_of_getElem? (i := 270) rfl) rfl
set_option maxRecDepth 100000 in
theorem mv_X1_bring : Cond.selects RX1 yX1_bring yX1_bring ∈ TW := tw_in (w := Cond.selects RX1 yX1_bring yX1_bring) (List.mem_of_getElem? (i := 271) rfl) rfl
set_option maxRecDepth 100000 in
theorem vl_X1_99 : VL RX1 99 yX1_bring cX1_bring 3 (some .boolean) 2 := ⟨tw_in (w := Cond.methodLink RX1 99 yX1_bring) (List.mem_of_getElem? (i := 269) rfl) rfl, mi_X1_bring, mv_X1_bring, ini_X1, mc_X1_bring, by decide +kernel, by decide +kernel, by decide +kernel⟩
set_option maxRecDepth 100000 in
theorem mc_X1_strike : Cond.code yX1_strike cX1_strike 2 (some .boolean) ∈ TW := tw_in (w := Cond.code yX1_strike cX1_strike 2 (some .boolean)) (List.mem_of_getElem? (i := 276) rfl) rfl
set_option maxRecDepth 100000 in
theorem mi_X1_strike : Cond.instanceMethod yX1_strike ∈ TW := tw_in (w := Cond.instanceMethod yX1_strike) (List.mem_of_getElem? (i := 274) rfl) rfl
set_option maxRecDepth 100000 in
theorem mv_X1_strike : Cond.selects RX1 yX1_strike yX1_strike ∈ TW := tw_in (w := Cond.selects RX1 yX1_strike yX1_strike) (List.mem_of_getElem? (i := 275) rfl) rfl
set_option maxRecDepth 100000 in
theorem vl_X1_102 : VL RX1 102 yX1_strike cX1_strike 2 (some .boolean) 1 := ⟨tw_in (w := Cond.methodLink RX1 102 yX1_strike) (List.mem_of_getElem? (i := 273) rfl) rfl, mi_X1_strike, mv_X1_strike, ini_X1, mc_X1_strike, by decide +kernel, by decide +kernel, by decide +kernel⟩
set_option maxRecDepth 100000 in
theorem mc_X1_hasLine : Cond.code yX1_hasLine cX1_hasLine 2 (some .boolean) ∈ TW := tw_in (w := Cond.code yX1_hasLine cX1_hasLine 2 (some .boolean)) (List.mem_of_getElem? (i := 243) rfl) rfl
set_option maxRecDepth 100000 in
theorem mi_X1_hasLine : Cond.instanceMethod yX1_hasLine ∈ TW := tw_in (w := Cond.instanceMethod yX1_hasLine) (List.mem_of_getElem? (i := 241) rfl) rfl
set_option maxRecDepth 100000 in
theorem mv_X1_hasLine : Cond.selects RX1 yX1_hasLine yX1_hasLine ∈ TW := tw_in (w := Cond.selects RX1 yX1_hasLine yX1_hasLine) (List.mem_of_getElem? (i := 242) rfl) rfl
set_option maxRecDepth 100000 in
theorem vl_X1_105 : VL RX1 105 yX1_hasLine cX1_hasLine 2 (some .boolean) 1 := ⟨tw_in (w := Cond.methodLink RX1 105 yX1_hasLine) (List.mem_of_getElem? (i := 240) rfl) rfl, mi_X1_hasLine, mv_X1_hasLine, ini_X1, mc_X1_hasLine, by decide +kernel, by decide +kernel, by decide +kernel⟩
set_option maxRecDepth 100000 in
theorem mc_X1_hang : Cond.code yX1_hang cX1_hang 3 none ∈ TW := tw_in (w := Cond.code yX1_hang cX1_hang 3 none) (List.mem_of_getElem? (i := 247) rfl) rfl
set_option maxRecDepth 100000 in
theorem mi_X1_hang : Cond.instanceMethod yX1_hang ∈ TW := tw_in (w := Cond.instanceMethod yX1_hang) (List.mem_of_getElem? (i := 245) rfl) rfl
set_option maxRecDepth 100000 in
theorem mv_X1_hang : Cond.selects RX1 yX1_hang yX1_hang ∈ TW := tw_in (w := Cond.selects RX1 yX1_hang yX1_hang) (List.mem_of_getElem? (i := 246) rfl) rfl
set_option maxRecDepth 100000 in
theorem vl_X1_108 : VL RX1 108 yX1_hang cX1_hang 3 none 1 := ⟨tw_in (w := Cond.methodLink RX1 108 yX1_hang) (List.mem_of_getElem? (i := 244) rfl) rfl, mi_X1_hang, mv_X1_hang, ini_X1, mc_X1_hang, by decide +kernel, by decide +kernel, by decide +kernel⟩
set_option maxRecDepth 100000 in
theorem mc_X1_couple : Cond.code yX1_couple cX1_couple 4 (some .int) ∈ TW := tw_in (w := Cond.code yX1_couple cX1_couple 4 (some .int)) (List.mem_of_getElem? (i := 264) rfl) rfl
set_option maxRecDepth 100000 in
theorem mi_X1_couple : Cond.instanceMethod yX1_couple ∈ TW := tw_in (w := Cond.instanceMethod yX1_couple) (List.mem_of_getElem? (i := 262) rfl) rfl
set_option maxRecDepth 100000 in
theorem mv_X1_couple : Cond.selects RX1 yX1_couple yX1_couple ∈ TW := tw_in (w := Cond.selects RX1 yX1_couple yX1_couple) (List.mem_of_getElem? (i := 263) rfl) rfl
set_option maxRecDepth 100000 in
theorem vl_X1_112 : VL RX1 112 yX1_couple cX1_couple 4 (some .int) 2 := ⟨tw_in (w := Cond.methodLink RX1 112 yX1_couple) (List.mem_of_getElem? (i := 261) rfl) rfl, mi_X1_couple, mv_X1_couple, ini_X1, mc_X1_couple, by decide +kernel, by decide +kernel, by decide +kernel⟩
set_option maxRecDepth 100000 in
theorem mc_X1_seenFrom : Cond.code yX1_seenFrom cX1_seenFrom 5 (some .int) ∈ TW := tw_in (w := Cond.code yX1_seenFrom cX1_seenFrom 5 (some .int)) (List.mem_of_getElem? (i := 313) rfl) rfl
set_option maxRecDepth 100000 in
theorem mi_X1_seenFrom : Cond.instanceMethod yX1_seenFrom ∈ TW := tw_in (w := Cond.instanceMethod yX1_seenFrom) (List.mem_of_getElem? (i := 311) rfl) rfl
set_option maxRecDepth 100000 in
theorem mv_X1_seenFrom : Cond.selects RX1 yX1_seenFrom yX1_seenFrom ∈ TW := tw_in (w := Cond.selects RX1 yX1_seenFrom yX1_seenFrom) (List.mem_of_getElem? (i := 312) rfl) rfl
set_option maxRecDepth 100000 in
theorem vl_X1_115 : VL RX1 115 yX1_seenFrom cX1_seenFrom 5 (some .int) 2 := ⟨tw_in (w := Cond.methodLink RX1 115 yX1_seenFrom) (List.mem_of_getElem? (i := 334) rfl) rfl, mi_X1_seenFrom, mv_X1_seenFrom, ini_X1, mc_X1_seenFrom, by decide +kernel, by decide +kernel, by decide +kernel⟩
set_option maxRecDepth 100000 in
theorem vl_X1_118 : VL RX1 118 yX1_meet cX1_meet 4 (some .boolean) 3 := ⟨tw_in (w := Cond.methodLink RX1 118 yX1_meet) (List.mem_of_getElem? (i := 330) rfl) rfl, mi_X1_meet, mv_X1_meet, ini_X1, mc_X1_meet, by decide +kernel, by decide +kernel, by decide +kernel⟩
set_option maxRecDepth 100000 in
theorem mc_X1_sinsAsLesser : Cond.code yX1_sinsAsLesser cX1_sinsAsLesser 4 (some .boolean) ∈ TW := tw_in (w := Cond.code yX1_sinsAsLesser cX1_sinsAsLesser 4 (some .boolean)) (List.mem_of_getElem? (i := 329) rfl) rfl
set_option maxRecDepth 100000 in
theorem mi_X1_sinsAsLesser : Cond.instanceMethod yX1_sinsAsLesser ∈ TW := tw_in (w := Cond.instanceMethod yX1_sinsAsLesser) (List.mem_of_getElem? (i := 327) rfl) rfl
set_option maxRecDepth 100000 in
theorem mv_X1_sinsAsLesser : Cond.selects RX1 yX1_sinsAsLesser yX1_sinsAsLesser ∈ TW := tw_in (w := Cond.selects RX1 yX1_sinsAsLesser yX1_sinsAsLesser) (List.mem_of_getElem? (i := 328) rfl) rfl
set_option maxRecDepth 100000 in
theorem vl_X1_122 : VL RX1 122 yX1_sinsAsLesser cX1_sinsAsLesser 4 (some .boolean) 2 := ⟨tw_in (w := Cond.methodLink RX1 122 yX1_sinsAsLesser) (List.mem_of_getElem? (i := 326) rfl) rfl, mi_X1_sinsAsLesser, mv_X1_sinsAsLesser, ini_X1, mc_X1_sinsAsLesser, by decide +kernel, by decide +kernel, by decide +kernel⟩
set_option maxRecDepth 100000 in
theorem mc_X1_firstSin : Cond.code yX1_firstSin cX1_firstSin 3 (some .int) ∈ TW := tw_in (w := Cond.code yX1_firstSin cX1_firstSin 3 (some .int)) (List.mem_of_getElem? (i := 338) rfl) rfl
set_option maxRecDepth 100000 in
theorem mi_X1_firstSin : Cond.instanceMethod yX1_firstSin ∈ TW := tw_in (w := Cond.instanceMethod yX1_firstSin) (List.mem_of_getElem? (i := 336) rfl) rfl
set_option maxRecDepth 100000 in
theorem mv_X1_firstSin : Cond.selects RX1 yX1_firstSin yX1_firstSin ∈ TW := tw_in (w := Cond.selects RX1 yX1_firstSin yX1_firstSin) (List.mem_of_getElem? (i := 337) rfl) rfl
set_option maxRecDepth 100000 in
theorem vl_X1_125 : VL RX1 125 yX1_firstSin cX1_firstSin 3 (some .int) 1 := ⟨tw_in (w := Cond.methodLink RX1 125 yX1_firstSin) (List.mem_of_getElem? (i := 347) rfl) rfl, mi_X1_firstSin, mv_X1_firstSin, ini_X1, mc_X1_firstSin, by decide +kernel, by decide +kernel, by decide +kernel⟩
set_option maxRecDepth 100000 in
theorem ml_X2_3 : Cond.methodLink RX2 3 objectInit ∈ TW := tw_in (w := Cond.methodLink RX2 3 objectInit) (List.mem_of_getElem? (i := 116) rfl) rfl
set_option maxRecDepth 100000 in
theorem mc_X2_firstUnfit : Cond.code yX2_firstUnfit cX2_firstUnfit 3 (some .int) ∈ TW := tw_in (w := Cond.code yX2_firstUnfit cX2_firstUnfit 3 (some .int)) (List.mem_of_getElem? (i := 205) rfl) rfl
set_option maxRecDepth 100000 in
theorem mi_X2_firstUnfit : Cond.instanceMethod yX2_firstUnfit ∈ TW := tw_in (w := Cond.instanceMethod yX2_firstUnfit) (List.mem_of_getElem? (i := 203) rfl) rfl
set_option maxRecDepth 100000 in
theorem mv_X2_firstUnfit : Cond.selects RX2 yX2_firstUnfit yX2_firstUnfit ∈ TW := tw_in (w := Cond.selects RX2 yX2_firstUnfit yX2_firstUnfit) (List.mem_of_getElem? (i := 204) rfl) rfl
set_option maxRecDepth 100000 in
theorem vl_X2_19 : VL RX2 19 yX2_firstUnfit cX2_firstUnfit 3 (some .int) 0 := ⟨tw_in (w := Cond.methodLink RX2 19 yX2_firstUnfit) (List.mem_of_getElem? (i := 202) rfl) rfl, mi_X2_firstUnfit, mv_X2_firstUnfit, ini_X2, mc_X2_firstUnfit, by decide +kernel, by decide +kernel, by decide +kernel⟩
set_option maxRecDepth 100000 in
theorem mc_X1_obey : Cond.code yX1_obey cX1_obey 4 (some .boolean) ∈ TW := tw_in (w := Cond.code yX1_obey cX1_obey 4 (some .boolean)) (List.mem_of_getElem? (i := 221) rfl) rfl
set_option maxRecDepth 100000 in
theorem mi_X1_obey : Cond.instanceMethod yX1_obey ∈ TW := tw_in (w := Cond.instanceMethod yX1_obey) (List.mem_of_getElem? (i := 219) rfl) rfl
set_option maxRecDepth 100000 in
theorem mv_X1_obey : Cond.selects RX1 yX1_obey yX1_obey ∈ TW := tw_in (w := Cond.selects RX1 yX1_obey yX1_obey) (List.mem_of_getElem? (i := 220) rfl) rfl
set_option maxRecDepth 100000 in
theorem vl_X2_23 : VL RX2 23 yX1_obey cX1_obey 4 (some .boolean) 3 := ⟨tw_in (w := Cond.methodLink RX2 23 yX1_obey) (List.mem_of_getElem? (i := 218) rfl) rfl, mi_X1_obey, mv_X1_obey, ini_X1, mc_X1_obey, by decide +kernel, by decide +kernel, by decide +kernel⟩
set_option maxRecDepth 100000 in
theorem mc_X2_fits : Cond.code yX2_fits cX2_fits 4 (some .boolean) ∈ TW := tw_in (w := Cond.code yX2_fits cX2_fits 4 (some .boolean)) (List.mem_of_getElem? (i := 208) rfl) rfl
set_option maxRecDepth 100000 in
theorem ms_X2_fits : Cond.static yX2_fits ∈ TW := tw_in (w := Cond.static yX2_fits) (List.mem_of_getElem? (i := 207) rfl) rfl
set_option maxRecDepth 100000 in
theorem sl_X2_29 : SL RX2 29 yX2_fits cX2_fits 4 (some .boolean) 3 := ⟨tw_in (w := Cond.methodLink RX2 29 yX2_fits) (List.mem_of_getElem? (i := 206) rfl) rfl, ms_X2_fits, ini_X2, mc_X2_fits, by decide +kernel, by decide +kernel, by decide +kernel⟩
set_option maxRecDepth 100000 in
theorem mc_X2_statementLength : Cond.code yX2_statementLength cX2_statementLength 1 (some .int) ∈ TW := tw_in (w := Cond.code yX2_statementLength cX2_statementLength 1 (some .int)) (List.mem_of_getElem? (i := 211) rfl) rfl
set_option maxRecDepth 100000 in
theorem ms_X2_statementLength : Cond.static yX2_statementLength ∈ TW := tw_in (w := Cond.static yX2_statementLength) (List.mem_of_getElem? (i := 210) rfl) rfl
set_option maxRecDepth 100000 in
theorem sl_X2_32 : SL RX2 32 yX2_statementLength cX2_statementLength 1 (some .int) 1 := ⟨tw_in (w := Cond.methodLink RX2 32 yX2_statementLength) (List.mem_of_getElem? (i := 209) rfl) rfl, ms_X2_statementLength, ini_X2, mc_X2_statementLength, by decide +kernel, by decide +kernel, by decide +kernel⟩
set_option maxRecDepth 100000 in
theorem sl_X2_36 : SL RX2 36 yX2_kind cX2_kind 1 (some .int) 1 := ⟨tw_in (w := Cond.methodLink RX2 36 yX2_kind) (List.mem_of_getElem? (i := 212) rfl) rfl, ms_X2_kind, ini_X2, mc_X2_kind, by decide +kernel, by decide +kernel, by decide +kernel⟩
set_option maxRecDepth 100000 in
theorem sl_X2_39 : SL RX2 39 yX2_digit cX2_digit 1 (some .int) 1 := ⟨tw_in (w := Cond.methodLink RX2 39 yX2_digit) (List.mem_of_getElem? (i := 215) rfl) rfl, ms_X2_digit, ini_X2, mc_X2_digit, by decide +kernel, by decide +kernel, by decide +kernel⟩
set_option maxRecDepth 100000 in
theorem ml_X3_1 : Cond.methodLink RX3 1 objectInit ∈ TW := tw_in (w := Cond.methodLink RX3 1 objectInit) (List.mem_of_getElem? (i := 46) rfl) rfl
set_option maxRecDepth 100000 in
theorem mc_X3_outOf : Cond.code yX3_outOf cX3_outOf 3 (some .int) ∈ TW := tw_in (w := Cond.code yX3_outOf cX3_outOf 3 (some .int)) (List.mem_of_getElem? (i := 178) rfl) rfl
set_option maxRecDepth 100000 in
theorem ms_X3_outOf : Cond.static yX3_outOf ∈ TW := tw_in (w := Cond.static yX3_outOf) (List.mem_of_getElem? (i := 177) rfl) rfl
set_option maxRecDepth 100000 in
theorem sl_X3_54 : SL RX3 54 yX3_outOf cX3_outOf 3 (some .int) 3 := ⟨tw_in (w := Cond.methodLink RX3 54 yX3_outOf) (List.mem_of_getElem? (i := 176) rfl) rfl, ms_X3_outOf, ini_X3, mc_X3_outOf, by decide +kernel, by decide +kernel, by decide +kernel⟩
set_option maxRecDepth 100000 in
theorem mc_X3_refuse : Cond.code yX3_refuse cX3_refuse 2 (some .int) ∈ TW := tw_in (w := Cond.code yX3_refuse cX3_refuse 2 (some .int)) (List.mem_of_getElem? (i := 182) rfl) rfl
set_option maxRecDepth 100000 in
theorem mi_X3_refuse : Cond.instanceMethod yX3_refuse ∈ TW := tw_in (w := Cond.instanceMethod yX3_refuse) (List.mem_of_getElem? (i := 181) rfl) rfl
set_option maxRecDepth 100000 in
theorem mv_X3_refuse : Cond.selects RX3 yX3_refuse yX3_refuse ∈ TW := tw_in (w := Cond.selects RX3 yX3_refuse yX3_refuse) (List.mem_of_getElem? (i := 0) rfl) rfl
set_option maxRecDepth 100000 in
theorem vl_X3_58 : VL RX3 58 yX3_refuse cX3_refuse 2 (some .int) 1 := ⟨tw_in (w := Cond.methodLink RX3 58 yX3_refuse) (List.mem_of_getElem? (i := 179) rfl) rfl, mi_X3_refuse, mv_X3_refuse, ini_X3, mc_X3_refuse, by decide +kernel, by decide +kernel, by decide +kernel⟩
set_option maxRecDepth 100000 in
theorem mc_X2_put : Cond.code yX2_put cX2_put 2 (some .int) ∈ TW := tw_in (w := Cond.code yX2_put cX2_put 2 (some .int)) (List.mem_of_getElem? (i := 186) rfl) rfl
set_option maxRecDepth 100000 in
theorem mi_X2_put : Cond.instanceMethod yX2_put ∈ TW := tw_in (w := Cond.instanceMethod yX2_put) (List.mem_of_getElem? (i := 184) rfl) rfl
set_option maxRecDepth 100000 in
theorem mv_X2_put : Cond.selects RX2 yX2_put yX2_put ∈ TW := tw_in (w := Cond.selects RX2 yX2_put yX2_put) (List.mem_of_getElem? (i := 185) rfl) rfl
set_option maxRecDepth 100000 in
theorem vl_X3_65 : VL RX3 65 yX2_put cX2_put 2 (some .int) 1 := ⟨tw_in (w := Cond.methodLink RX3 65 yX2_put) (List.mem_of_getElem? (i := 183) rfl) rfl, mi_X2_put, mv_X2_put, ini_X2, mc_X2_put, by decide +kernel, by decide +kernel, by decide +kernel⟩
set_option maxRecDepth 100000 in
theorem mc_X1_become : Cond.code yX1_become cX1_become 2 none ∈ TW := tw_in (w := Cond.code yX1_become cX1_become 2 none) (List.mem_of_getElem? (i := 194) rfl) rfl
set_option maxRecDepth 100000 in
theorem mi_X1_become : Cond.instanceMethod yX1_become ∈ TW := tw_in (w := Cond.instanceMethod yX1_become) (List.mem_of_getElem? (i := 192) rfl) rfl
set_option maxRecDepth 100000 in
theorem mv_X1_become : Cond.selects RX1 yX1_become yX1_become ∈ TW := tw_in (w := Cond.selects RX1 yX1_become yX1_become) (List.mem_of_getElem? (i := 193) rfl) rfl
set_option maxRecDepth 100000 in
theorem vl_X3_68 : VL RX3 68 yX1_become cX1_become 2 none 1 := ⟨tw_in (w := Cond.methodLink RX3 68 yX1_become) (List.mem_of_getElem? (i := 191) rfl) rfl, mi_X1_become, mv_X1_become, ini_X1, mc_X1_become, by decide +kernel, by decide +kernel, by decide +kernel⟩
set_option maxRecDepth 100000 in
theorem mc_X2_readInto : Cond.code yX2_readInto cX2_readInto 6 (some .int) ∈ TW := tw_in (w := Cond.code yX2_readInto cX2_readInto 6 (some .int)) (List.mem_of_getElem? (i := 201) rfl) rfl
set_option maxRecDepth 100000 in
theorem mi_X2_readInto : Cond.instanceMethod yX2_readInto ∈ TW := tw_in (w := Cond.instanceMethod yX2_readInto) (List.mem_of_getElem? (i := 199) rfl) rfl
set_option maxRecDepth 100000 in
theorem mv_X2_readInto : Cond.selects RX2 yX2_readInto yX2_readInto ∈ TW := tw_in (w := Cond.selects RX2 yX2_readInto yX2_readInto) (List.mem_of_getElem? (i := 200) rfl) rfl
set_option maxRecDepth 100000 in
theorem vl_X3_72 : VL RX3 72 yX2_readInto cX2_readInto 6 (some .int) 1 := ⟨tw_in (w := Cond.methodLink RX3 72 yX2_readInto) (List.mem_of_getElem? (i := 198) rfl) rfl, mi_X2_readInto, mv_X2_readInto, ini_X2, mc_X2_readInto, by decide +kernel, by decide +kernel, by decide +kernel⟩
set_option maxRecDepth 100000 in
theorem vl_X3_76 : VL RX3 76 yX1_hasThing cX1_hasThing 2 (some .boolean) 1 := ⟨tw_in (w := Cond.methodLink RX3 76 yX1_hasThing) (List.mem_of_getElem? (i := 281) rfl) rfl, mi_X1_hasThing, mv_X1_hasThing, ini_X1, mc_X1_hasThing, by decide +kernel, by decide +kernel, by decide +kernel⟩
set_option maxRecDepth 100000 in
theorem vl_X3_89 : VL RX3 89 yX1_hasLine cX1_hasLine 2 (some .boolean) 1 := ⟨tw_in (w := Cond.methodLink RX3 89 yX1_hasLine) (List.mem_of_getElem? (i := 286) rfl) rfl, mi_X1_hasLine, mv_X1_hasLine, ini_X1, mc_X1_hasLine, by decide +kernel, by decide +kernel, by decide +kernel⟩
set_option maxRecDepth 100000 in
theorem vl_X3_101 : VL RX3 101 yX1_hang cX1_hang 3 none 1 := ⟨tw_in (w := Cond.methodLink RX3 101 yX1_hang) (List.mem_of_getElem? (i := 291) rfl) rfl, mi_X1_hang, mv_X1_hang, ini_X1, mc_X1_hang, by decide +kernel, by decide +kernel, by decide +kernel⟩
set_option maxRecDepth 100000 in
theorem mc_X3_isRoom : Cond.code yX3_isRoom cX3_isRoom 1 (some .boolean) ∈ TW := tw_in (w := Cond.code yX3_isRoom cX3_isRoom 1 (some .boolean)) (List.mem_of_getElem? (i := 229) rfl) rfl
set_option maxRecDepth 100000 in
theorem ms_X3_isRoom : Cond.static yX3_isRoom ∈ TW := tw_in (w := Cond.static yX3_isRoom) (List.mem_of_getElem? (i := 228) rfl) rfl
set_option maxRecDepth 100000 in
theorem sl_X3_105 : SL RX3 105 yX3_isRoom cX3_isRoom 1 (some .boolean) 1 := ⟨tw_in (w := Cond.methodLink RX3 105 yX3_isRoom) (List.mem_of_getElem? (i := 296) rfl) rfl, ms_X3_isRoom, ini_X3, mc_X3_isRoom, by decide +kernel, by decide +kernel, by decide +kernel⟩
set_option maxRecDepth 100000 in
theorem vl_X3_108 : VL RX3 108 yX1_couple cX1_couple 4 (some .int) 2 := ⟨tw_in (w := Cond.methodLink RX3 108 yX1_couple) (List.mem_of_getElem? (i := 301) rfl) rfl, mi_X1_couple, mv_X1_couple, ini_X1, mc_X1_couple, by decide +kernel, by decide +kernel, by decide +kernel⟩
set_option maxRecDepth 100000 in
theorem vl_X3_118 : VL RX3 118 yX1_seenFrom cX1_seenFrom 5 (some .int) 2 := ⟨tw_in (w := Cond.methodLink RX3 118 yX1_seenFrom) (List.mem_of_getElem? (i := 310) rfl) rfl, mi_X1_seenFrom, mv_X1_seenFrom, ini_X1, mc_X1_seenFrom, by decide +kernel, by decide +kernel, by decide +kernel⟩
set_option maxRecDepth 100000 in
theorem mc_X1_sinCount : Cond.code yX1_sinCount cX1_sinCount 4 (some .int) ∈ TW := tw_in (w := Cond.code yX1_sinCount cX1_sinCount 4 (some .int)) (List.mem_of_getElem? (i := 325) rfl) rfl
set_option maxRecDepth 100000 in
theorem mi_X1_sinCount : Cond.instanceMethod yX1_sinCount ∈ TW := tw_in (w := Cond.instanceMethod yX1_sinCount) (List.mem_of_getElem? (i := 323) rfl) rfl
set_option maxRecDepth 100000 in
theorem mv_X1_sinCount : Cond.selects RX1 yX1_sinCount yX1_sinCount ∈ TW := tw_in (w := Cond.selects RX1 yX1_sinCount yX1_sinCount) (List.mem_of_getElem? (i := 324) rfl) rfl
set_option maxRecDepth 100000 in
theorem vl_X3_121 : VL RX3 121 yX1_sinCount cX1_sinCount 4 (some .int) 1 := ⟨tw_in (w := Cond.methodLink RX3 121 yX1_sinCount) (List.mem_of_getElem? (i := 322) rfl) rfl, mi_X1_sinCount, mv_X1_sinCount, ini_X1, mc_X1_sinCount, by decide +kernel, by decide +kernel, by decide +kernel⟩
set_option maxRecDepth 100000 in
theorem vl_X3_124 : VL RX3 124 yX1_firstSin cX1_firstSin 3 (some .int) 1 := ⟨tw_in (w := Cond.methodLink RX3 124 yX1_firstSin) (List.mem_of_getElem? (i := 335) rfl) rfl, mi_X1_firstSin, mv_X1_firstSin, ini_X1, mc_X1_firstSin, by decide +kernel, by decide +kernel, by decide +kernel⟩
set_option maxRecDepth 100000 in
theorem mc_X1_firstSinfulHour : Cond.code yX1_firstSinfulHour cX1_firstSinfulHour 2 (some .int) ∈ TW := tw_in (w := Cond.code yX1_firstSinfulHour cX1_firstSinfulHour 2 (some .int)) (List.mem_of_getElem? (i := 346) rfl) rfl
set_option maxRecDepth 100000 in
theorem mi_X1_firstSinfulHour : Cond.instanceMethod yX1_firstSinfulHour ∈ TW := tw_in (w := Cond.instanceMethod yX1_firstSinfulHour) (List.mem_of_getElem? (i := 344) rfl) rfl
set_option maxRecDepth 100000 in
theorem mv_X1_firstSinfulHour : Cond.selects RX1 yX1_firstSinfulHour yX1_firstSinfulHour ∈ TW := tw_in (w := Cond.selects RX1 yX1_firstSinfulHour yX1_firstSinfulHour) (List.mem_of_getElem? (i := 345) rfl) rfl
set_option maxRecDepth 100000 in
theorem vl_X3_127 : VL RX3 127 yX1_firstSinfulHour cX1_firstSinfulHour 2 (some .int) 0 := ⟨tw_in (w := Cond.methodLink RX3 127 yX1_firstSinfulHour) (List.mem_of_getElem? (i := 343) rfl) rfl, mi_X1_firstSinfulHour, mv_X1_firstSinfulHour, ini_X1, mc_X1_firstSinfulHour, by decide +kernel, by decide +kernel, by decide +kernel⟩
set_option maxRecDepth 100000 in
theorem mc_J6_bitCount_0f7a4 : Cond.code yJ6_bitCount_0f7a4 cJ6_bitCount_0f7a4 1 (some .int) ∈ TW := tw_in (w := Cond.code yJ6_bitCount_0f7a4 cJ6_bitCount_0f7a4 1 (some .int)) (List.mem_of_getElem? (i := 354) rfl) rfl
set_option maxRecDepth 100000 in
theorem ms_J6_bitCount_0f7a4 : Cond.static yJ6_bitCount_0f7a4 ∈ TW := tw_in (w := Cond.static yJ6_bitCount_0f7a4) (List.mem_of_getElem? (i := 353) rfl) rfl
set_option maxRecDepth 100000 in
theorem sl_X3_134 : SL RX3 134 yJ6_bitCount_0f7a4 cJ6_bitCount_0f7a4 1 (some .int) 1 := ⟨tw_in (w := Cond.methodLink RX3 134 yJ6_bitCount_0f7a4) (List.mem_of_getElem? (i := 352) rfl) rfl, ms_J6_bitCount_0f7a4, ini_J6, mc_J6_bitCount_0f7a4, by decide +kernel, by decide +kernel, by decide +kernel⟩
set_option maxRecDepth 100000 in
theorem mc_X3_firstCure : Cond.code yX3_firstCure cX3_firstCure 6 (some .int) ∈ TW := tw_in (w := Cond.code yX3_firstCure cX3_firstCure 6 (some .int)) (List.mem_of_getElem? (i := 365) rfl) rfl
set_option maxRecDepth 100000 in
theorem mi_X3_firstCure : Cond.instanceMethod yX3_firstCure ∈ TW := tw_in (w := Cond.instanceMethod yX3_firstCure) (List.mem_of_getElem? (i := 364) rfl) rfl
set_option maxRecDepth 100000 in
theorem mv_X3_firstCure : Cond.selects RX3 yX3_firstCure yX3_firstCure ∈ TW := tw_in (w := Cond.selects RX3 yX3_firstCure yX3_firstCure) (List.mem_of_getElem? (i := 1) rfl) rfl
set_option maxRecDepth 100000 in
theorem vl_X3_139 : VL RX3 139 yX3_firstCure cX3_firstCure 6 (some .int) 1 := ⟨tw_in (w := Cond.methodLink RX3 139 yX3_firstCure) (List.mem_of_getElem? (i := 362) rfl) rfl, mi_X3_firstCure, mv_X3_firstCure, ini_X3, mc_X3_firstCure, by decide +kernel, by decide +kernel, by decide +kernel⟩
set_option maxRecDepth 100000 in
theorem mc_X3_twoCure : Cond.code yX3_twoCure cX3_twoCure 5 (some .boolean) ∈ TW := tw_in (w := Cond.code yX3_twoCure cX3_twoCure 5 (some .boolean)) (List.mem_of_getElem? (i := 369) rfl) rfl
set_option maxRecDepth 100000 in
theorem mi_X3_twoCure : Cond.instanceMethod yX3_twoCure ∈ TW := tw_in (w := Cond.instanceMethod yX3_twoCure) (List.mem_of_getElem? (i := 368) rfl) rfl
set_option maxRecDepth 100000 in
theorem mv_X3_twoCure : Cond.selects RX3 yX3_twoCure yX3_twoCure ∈ TW := tw_in (w := Cond.selects RX3 yX3_twoCure yX3_twoCure) (List.mem_of_getElem? (i := 2) rfl) rfl
set_option maxRecDepth 100000 in
theorem vl_X3_142 : VL RX3 142 yX3_twoCure cX3_twoCure 5 (some .boolean) 0 := ⟨tw_in (w := Cond.methodLink RX3 142 yX3_twoCure) (List.mem_of_getElem? (i := 366) rfl) rfl, mi_X3_twoCure, mv_X3_twoCure, ini_X3, mc_X3_twoCure, by decide +kernel, by decide +kernel, by decide +kernel⟩
set_option maxRecDepth 100000 in
theorem mc_X1_everMeet : Cond.code yX1_everMeet cX1_everMeet 4 (some .boolean) ∈ TW := tw_in (w := Cond.code yX1_everMeet cX1_everMeet 4 (some .boolean)) (List.mem_of_getElem? (i := 377) rfl) rfl
set_option maxRecDepth 100000 in
theorem mi_X1_everMeet : Cond.instanceMethod yX1_everMeet ∈ TW := tw_in (w := Cond.instanceMethod yX1_everMeet) (List.mem_of_getElem? (i := 375) rfl) rfl
set_option maxRecDepth 100000 in
theorem mv_X1_everMeet : Cond.selects RX1 yX1_everMeet yX1_everMeet ∈ TW := tw_in (w := Cond.selects RX1 yX1_everMeet yX1_everMeet) (List.mem_of_getElem? (i := 376) rfl) rfl
set_option maxRecDepth 100000 in
theorem vl_X3_146 : VL RX3 146 yX1_everMeet cX1_everMeet 4 (some .boolean) 2 := ⟨tw_in (w := Cond.methodLink RX3 146 yX1_everMeet) (List.mem_of_getElem? (i := 374) rfl) rfl, mi_X1_everMeet, mv_X1_everMeet, ini_X1, mc_X1_everMeet, by decide +kernel, by decide +kernel, by decide +kernel⟩
set_option maxRecDepth 100000 in
theorem mc_X0_allowUnseen : Cond.code yX0_allowUnseen cX0_allowUnseen 4 none ∈ TW := tw_in (w := Cond.code yX0_allowUnseen cX0_allowUnseen 4 none) (List.mem_of_getElem? (i := 385) rfl) rfl
set_option maxRecDepth 100000 in
theorem mi_X0_allowUnseen : Cond.instanceMethod yX0_allowUnseen ∈ TW := tw_in (w := Cond.instanceMethod yX0_allowUnseen) (List.mem_of_getElem? (i := 383) rfl) rfl
set_option maxRecDepth 100000 in
theorem mv_X0_allowUnseen : Cond.selects RX0 yX0_allowUnseen yX0_allowUnseen ∈ TW := tw_in (w := Cond.selects RX0 yX0_allowUnseen yX0_allowUnseen) (List.mem_of_getElem? (i := 384) rfl) rfl
set_option maxRecDepth 100000 in
theorem vl_X3_150 : VL RX3 150 yX0_allowUnseen cX0_allowUnseen 4 none 1 := ⟨tw_in (w := Cond.methodLink RX3 150 yX0_allowUnseen) (List.mem_of_getElem? (i := 382) rfl) rfl, mi_X0_allowUnseen, mv_X0_allowUnseen, ini_X0, mc_X0_allowUnseen, by decide +kernel, by decide +kernel, by decide +kernel⟩
set_option maxRecDepth 100000 in
theorem mc_X0_reckon : Cond.code yX0_reckon cX0_reckon 6 none ∈ TW := tw_in (w := Cond.code yX0_reckon cX0_reckon 6 none) (List.mem_of_getElem? (i := 390) rfl) rfl
set_option maxRecDepth 100000 in
theorem mi_X0_reckon : Cond.instanceMethod yX0_reckon ∈ TW := tw_in (w := Cond.instanceMethod yX0_reckon) (List.mem_of_getElem? (i := 388) rfl) rfl
set_option maxRecDepth 100000 in
theorem mv_X0_reckon : Cond.selects RX0 yX0_reckon yX0_reckon ∈ TW := tw_in (w := Cond.selects RX0 yX0_reckon yX0_reckon) (List.mem_of_getElem? (i := 389) rfl) rfl
set_option maxRecDepth 100000 in
theorem vl_X3_153 : VL RX3 153 yX0_reckon cX0_reckon 6 none 0 := ⟨tw_in (w := Cond.methodLink RX3 153 yX0_reckon) (List.mem_of_getElem? (i := 387) rfl) rfl, mi_X0_reckon, mv_X0_reckon, ini_X0, mc_X0_reckon, by decide +kernel, by decide +kernel, by decide +kernel⟩
set_option maxRecDepth 100000 in
theorem mc_X0_ofAll : Cond.code yX0_ofAll cX0_ofAll 1 (some .int) ∈ TW := tw_in (w := Cond.code yX0_ofAll cX0_ofAll 1 (some .int)) (List.mem_of_getElem? (i := 397) rfl) rfl
set_option maxRecDepth 100000 in
theorem mi_X0_ofAll : Cond.instanceMethod yX0_ofAll ∈ TW := tw_in (w := Cond.instanceMethod yX0_ofAll) (List.mem_of_getElem? (i := 395) rfl) rfl
set_option maxRecDepth 100000 in
theorem mv_X0_ofAll : Cond.selects RX0 yX0_ofAll yX0_ofAll ∈ TW := tw_in (w := Cond.selects RX0 yX0_ofAll yX0_ofAll) (List.mem_of_getElem? (i := 396) rfl) rfl
set_option maxRecDepth 100000 in
theorem vl_X3_156 : VL RX3 156 yX0_ofAll cX0_ofAll 1 (some .int) 0 := ⟨tw_in (w := Cond.methodLink RX3 156 yX0_ofAll) (List.mem_of_getElem? (i := 394) rfl) rfl, mi_X0_ofAll, mv_X0_ofAll, ini_X0, mc_X0_ofAll, by decide +kernel, by decide +kernel, by decide +kernel⟩
set_option maxRecDepth 100000 in
theorem mc_X0_othersOf : Cond.code yX0_othersOf cX0_othersOf 5 (some .int) ∈ TW := tw_in (w := Cond.code yX0_othersOf cX0_othersOf 5 (some .int)) (List.mem_of_getElem? (i := 401) rfl) rfl
set_option maxRecDepth 100000 in
theorem mi_X0_othersOf : Cond.instanceMethod yX0_othersOf ∈ TW := tw_in (w := Cond.instanceMethod yX0_othersOf) (List.mem_of_getElem? (i := 399) rfl) rfl
set_option maxRecDepth 100000 in
theorem mv_X0_othersOf : Cond.selects RX0 yX0_othersOf yX0_othersOf ∈ TW := tw_in (w := Cond.selects RX0 yX0_othersOf yX0_othersOf) (List.mem_of_getElem? (i := 400) rfl) rfl
set_option maxRecDepth 100000 in
theorem vl_X3_159 : VL RX3 159 yX0_othersOf cX0_othersOf 5 (some .int) 1 := ⟨tw_in (w := Cond.methodLink RX3 159 yX0_othersOf) (List.mem_of_getElem? (i := 398) rfl) rfl, mi_X0_othersOf, mv_X0_othersOf, ini_X0, mc_X0_othersOf, by decide +kernel, by decide +kernel, by decide +kernel⟩
set_option maxRecDepth 100000 in
theorem sl_X3_162 : SL RX3 162 yX0_leastOf cX0_leastOf 2 (some .int) 1 := ⟨tw_in (w := Cond.methodLink RX3 162 yX0_leastOf) (List.mem_of_getElem? (i := 402) rfl) rfl, ms_X0_leastOf, ini_X0, mc_X0_leastOf, by decide +kernel, by decide +kernel, by decide +kernel⟩
set_option maxRecDepth 100000 in
theorem vl_X3_165 : VL RX3 165 yX1_allThings cX1_allThings 1 (some .int) 0 := ⟨tw_in (w := Cond.methodLink RX3 165 yX1_allThings) (List.mem_of_getElem? (i := 407) rfl) rfl, mi_X1_allThings, mv_X1_allThings, ini_X1, mc_X1_allThings, by decide +kernel, by decide +kernel, by decide +kernel⟩
set_option maxRecDepth 100000 in
theorem mc_X0_allowApart : Cond.code yX0_allowApart cX0_allowApart 5 none ∈ TW := tw_in (w := Cond.code yX0_allowApart cX0_allowApart 5 none) (List.mem_of_getElem? (i := 418) rfl) rfl
set_option maxRecDepth 100000 in
theorem mi_X0_allowApart : Cond.instanceMethod yX0_allowApart ∈ TW := tw_in (w := Cond.instanceMethod yX0_allowApart) (List.mem_of_getElem? (i := 416) rfl) rfl
set_option maxRecDepth 100000 in
theorem mv_X0_allowApart : Cond.selects RX0 yX0_allowApart yX0_allowApart ∈ TW := tw_in (w := Cond.selects RX0 yX0_allowApart yX0_allowApart) (List.mem_of_getElem? (i := 417) rfl) rfl
set_option maxRecDepth 100000 in
theorem vl_X3_174 : VL RX3 174 yX0_allowApart cX0_allowApart 5 none 1 := ⟨tw_in (w := Cond.methodLink RX3 174 yX0_allowApart) (List.mem_of_getElem? (i := 415) rfl) rfl, mi_X0_allowApart, mv_X0_allowApart, ini_X0, mc_X0_allowApart, by decide +kernel, by decide +kernel, by decide +kernel⟩
set_option maxRecDepth 100000 in
theorem mc_X3_ordersBehind : Cond.code yX3_ordersBehind cX3_ordersBehind 5 (some .int) ∈ TW := tw_in (w := Cond.code yX3_ordersBehind cX3_ordersBehind 5 (some .int)) (List.mem_of_getElem? (i := 431) rfl) rfl
set_option maxRecDepth 100000 in
theorem mi_X3_ordersBehind : Cond.instanceMethod yX3_ordersBehind ∈ TW := tw_in (w := Cond.instanceMethod yX3_ordersBehind) (List.mem_of_getElem? (i := 430) rfl) rfl
set_option maxRecDepth 100000 in
theorem mv_X3_ordersBehind : Cond.selects RX3 yX3_ordersBehind yX3_ordersBehind ∈ TW := tw_in (w := Cond.selects RX3 yX3_ordersBehind yX3_ordersBehind) (List.mem_of_getElem? (i := 3) rfl) rfl
set_option maxRecDepth 100000 in
theorem vl_X3_177 : VL RX3 177 yX3_ordersBehind cX3_ordersBehind 5 (some .int) 2 := ⟨tw_in (w := Cond.methodLink RX3 177 yX3_ordersBehind) (List.mem_of_getElem? (i := 428) rfl) rfl, mi_X3_ordersBehind, mv_X3_ordersBehind, ini_X3, mc_X3_ordersBehind, by decide +kernel, by decide +kernel, by decide +kernel⟩
set_option maxRecDepth 100000 in
theorem mc_X3_firstCarried : Cond.code yX3_firstCarried cX3_firstCarried 2 (some .int) ∈ TW := tw_in (w := Cond.code yX3_firstCarried cX3_firstCarried 2 (some .int)) (List.mem_of_getElem? (i := 435) rfl) rfl
set_option maxRecDepth 100000 in
theorem mi_X3_firstCarried : Cond.instanceMethod yX3_firstCarried ∈ TW := tw_in (w := Cond.instanceMethod yX3_firstCarried) (List.mem_of_getElem? (i := 434) rfl) rfl
set_option maxRecDepth 100000 in
theorem mv_X3_firstCarried : Cond.selects RX3 yX3_firstCarried yX3_firstCarried ∈ TW := tw_in (w := Cond.selects RX3 yX3_firstCarried yX3_firstCarried) (List.mem_of_getElem? (i := 4) rfl) rfl
set_option maxRecDepth 100000 in
theorem vl_X3_180 : VL RX3 180 yX3_firstCarried cX3_firstCarried 2 (some .int) 0 := ⟨tw_in (w := Cond.methodLink RX3 180 yX3_firstCarried) (List.mem_of_getElem? (i := 432) rfl) rfl, mi_X3_firstCarried, mv_X3_firstCarried, ini_X3, mc_X3_firstCarried, by decide +kernel, by decide +kernel, by decide +kernel⟩
set_option maxRecDepth 100000 in
theorem mc_X3_firstBadMove : Cond.code yX3_firstBadMove cX3_firstBadMove 4 (some .int) ∈ TW := tw_in (w := Cond.code yX3_firstBadMove cX3_firstBadMove 4 (some .int)) (List.mem_of_getElem? (i := 451) rfl) rfl
set_option maxRecDepth 100000 in
theorem mi_X3_firstBadMove : Cond.instanceMethod yX3_firstBadMove ∈ TW := tw_in (w := Cond.instanceMethod yX3_firstBadMove) (List.mem_of_getElem? (i := 450) rfl) rfl
set_option maxRecDepth 100000 in
theorem mv_X3_firstBadMove : Cond.selects RX3 yX3_firstBadMove yX3_firstBadMove ∈ TW := tw_in (w := Cond.selects RX3 yX3_firstBadMove yX3_firstBadMove) (List.mem_of_getElem? (i := 5) rfl) rfl
set_option maxRecDepth 100000 in
theorem vl_X3_183 : VL RX3 183 yX3_firstBadMove cX3_firstBadMove 4 (some .int) 0 := ⟨tw_in (w := Cond.methodLink RX3 183 yX3_firstBadMove) (List.mem_of_getElem? (i := 448) rfl) rfl, mi_X3_firstBadMove, mv_X3_firstBadMove, ini_X3, mc_X3_firstBadMove, by decide +kernel, by decide +kernel, by decide +kernel⟩
set_option maxRecDepth 100000 in
theorem mc_X3_nextSeed : Cond.code yX3_nextSeed cX3_nextSeed 1 (some .int) ∈ TW := tw_in (w := Cond.code yX3_nextSeed cX3_nextSeed 1 (some .int)) (List.mem_of_getElem? (i := 459) rfl) rfl
set_option maxRecDepth 100000 in
theorem ms_X3_nextSeed : Cond.static yX3_nextSeed ∈ TW := tw_in (w := Cond.static yX3_nextSeed) (List.mem_of_getElem? (i := 458) rfl) rfl
set_option maxRecDepth 100000 in
theorem sl_X3_186 : SL RX3 186 yX3_nextSeed cX3_nextSeed 1 (some .int) 1 := ⟨tw_in (w := Cond.methodLink RX3 186 yX3_nextSeed) (List.mem_of_getElem? (i := 457) rfl) rfl, ms_X3_nextSeed, ini_X3, mc_X3_nextSeed, by decide +kernel, by decide +kernel, by decide +kernel⟩
set_option maxRecDepth 100000 in
theorem mc_X3_draw : Cond.code yX3_draw cX3_draw 2 (some .int) ∈ TW := tw_in (w := Cond.code yX3_draw cX3_draw 2 (some .int)) (List.mem_of_getElem? (i := 464) rfl) rfl
set_option maxRecDepth 100000 in
theorem ms_X3_draw : Cond.static yX3_draw ∈ TW := tw_in (w := Cond.static yX3_draw) (List.mem_of_getElem? (i := 463) rfl) rfl
set_option maxRecDepth 100000 in
theorem sl_X3_189 : SL RX3 189 yX3_draw cX3_draw 2 (some .int) 2 := ⟨tw_in (w := Cond.methodLink RX3 189 yX3_draw) (List.mem_of_getElem? (i := 462) rfl) rfl, ms_X3_draw, ini_X3, mc_X3_draw, by decide +kernel, by decide +kernel, by decide +kernel⟩
set_option maxRecDepth 100000 in
theorem mc_X1_coupledCount : Cond.code yX1_coupledCount cX1_coupledCount 3 (some .int) ∈ TW := tw_in (w := Cond.code yX1_coupledCount cX1_coupledCount 3 (some .int)) (List.mem_of_getElem? (i := 481) rfl) rfl
set_option maxRecDepth 100000 in
theorem mi_X1_coupledCount : Cond.instanceMethod yX1_coupledCount ∈ TW := tw_in (w := Cond.instanceMethod yX1_coupledCount) (List.mem_of_getElem? (i := 479) rfl) rfl
set_option maxRecDepth 100000 in
theorem mv_X1_coupledCount : Cond.selects RX1 yX1_coupledCount yX1_coupledCount ∈ TW := tw_in (w := Cond.selects RX1 yX1_coupledCount yX1_coupledCount) (List.mem_of_getElem? (i := 480) rfl) rfl
set_option maxRecDepth 100000 in
theorem vl_X3_192 : VL RX3 192 yX1_coupledCount cX1_coupledCount 3 (some .int) 0 := ⟨tw_in (w := Cond.methodLink RX3 192 yX1_coupledCount) (List.mem_of_getElem? (i := 478) rfl) rfl, mi_X1_coupledCount, mv_X1_coupledCount, ini_X1, mc_X1_coupledCount, by decide +kernel, by decide +kernel, by decide +kernel⟩
set_option maxRecDepth 100000 in
theorem ml_X3_195 : Cond.methodLink RX3 195 Lib.Math.min.name ∈ TW := tw_in (w := Cond.methodLink RX3 195 Lib.Math.min.name) (List.mem_of_getElem? (i := 452) rfl) rfl
set_option maxRecDepth 100000 in
theorem ml_X4_1 : Cond.methodLink RX4 1 objectInit ∈ TW := tw_in (w := Cond.methodLink RX4 1 objectInit) (List.mem_of_getElem? (i := 487) rfl) rfl
set_option maxRecDepth 100000 in
theorem mc_X4_within : Cond.code yX4_within cX4_within 3 (some .boolean) ∈ TW := tw_in (w := Cond.code yX4_within cX4_within 3 (some .boolean)) (List.mem_of_getElem? (i := 588) rfl) rfl
set_option maxRecDepth 100000 in
theorem ms_X4_within : Cond.static yX4_within ∈ TW := tw_in (w := Cond.static yX4_within) (List.mem_of_getElem? (i := 587) rfl) rfl
set_option maxRecDepth 100000 in
theorem sl_X4_56 : SL RX4 56 yX4_within cX4_within 3 (some .boolean) 3 := ⟨tw_in (w := Cond.methodLink RX4 56 yX4_within) (List.mem_of_getElem? (i := 586) rfl) rfl, ms_X4_within, ini_X4, mc_X4_within, by decide +kernel, by decide +kernel, by decide +kernel⟩
set_option maxRecDepth 100000 in
theorem mc_X4_no : Cond.code yX4_no cX4_no 2 (some .int) ∈ TW := tw_in (w := Cond.code yX4_no cX4_no 2 (some .int)) (List.mem_of_getElem? (i := 565) rfl) rfl
set_option maxRecDepth 100000 in
theorem mi_X4_no : Cond.instanceMethod yX4_no ∈ TW := tw_in (w := Cond.instanceMethod yX4_no) (List.mem_of_getElem? (i := 564) rfl) rfl
set_option maxRecDepth 100000 in
theorem mv_X4_no : Cond.selects RX4 yX4_no yX4_no ∈ TW := tw_in (w := Cond.selects RX4 yX4_no yX4_no) (List.mem_of_getElem? (i := 6) rfl) rfl
set_option maxRecDepth 100000 in
theorem vl_X4_63 : VL RX4 63 yX4_no cX4_no 2 (some .int) 1 := ⟨tw_in (w := Cond.methodLink RX4 63 yX4_no) (List.mem_of_getElem? (i := 562) rfl) rfl, mi_X4_no, mv_X4_no, ini_X4, mc_X4_no, by decide +kernel, by decide +kernel, by decide +kernel⟩
set_option maxRecDepth 100000 in
theorem ml_X4_73 : Cond.methodLink RX4 73 Lib.Math.min.name ∈ TW := tw_in (w := Cond.methodLink RX4 73 Lib.Math.min.name) (List.mem_of_getElem? (i := 679) rfl) rfl
set_option maxRecDepth 100000 in
theorem ml_X4_79 : Cond.methodLink RX4 79 Lib.Math.max.name ∈ TW := tw_in (w := Cond.methodLink RX4 79 Lib.Math.max.name) (List.mem_of_getElem? (i := 680) rfl) rfl
set_option maxRecDepth 100000 in
theorem mc_X4_is : Cond.code yX4_is cX4_is 2 (some .boolean) ∈ TW := tw_in (w := Cond.code yX4_is cX4_is 2 (some .boolean)) (List.mem_of_getElem? (i := 577) rfl) rfl
set_option maxRecDepth 100000 in
theorem mi_X4_is : Cond.instanceMethod yX4_is ∈ TW := tw_in (w := Cond.instanceMethod yX4_is) (List.mem_of_getElem? (i := 576) rfl) rfl
set_option maxRecDepth 100000 in
theorem mv_X4_is : Cond.selects RX4 yX4_is yX4_is ∈ TW := tw_in (w := Cond.selects RX4 yX4_is yX4_is) (List.mem_of_getElem? (i := 8) rfl) rfl
set_option maxRecDepth 100000 in
theorem vl_X4_82 : VL RX4 82 yX4_is cX4_is 2 (some .boolean) 1 := ⟨tw_in (w := Cond.methodLink RX4 82 yX4_is) (List.mem_of_getElem? (i := 574) rfl) rfl, mi_X4_is, mv_X4_is, ini_X4, mc_X4_is, by decide +kernel, by decide +kernel, by decide +kernel⟩
set_option maxRecDepth 100000 in
theorem mc_X4_digit : Cond.code yX4_digit cX4_digit 2 (some .boolean) ∈ TW := tw_in (w := Cond.code yX4_digit cX4_digit 2 (some .boolean)) (List.mem_of_getElem? (i := 581) rfl) rfl
set_option maxRecDepth 100000 in
theorem mi_X4_digit : Cond.instanceMethod yX4_digit ∈ TW := tw_in (w := Cond.instanceMethod yX4_digit) (List.mem_of_getElem? (i := 580) rfl) rfl
set_option maxRecDepth 100000 in
theorem mv_X4_digit : Cond.selects RX4 yX4_digit yX4_digit ∈ TW := tw_in (w := Cond.selects RX4 yX4_digit yX4_digit) (List.mem_of_getElem? (i := 9) rfl) rfl
set_option maxRecDepth 100000 in
theorem vl_X4_86 : VL RX4 86 yX4_digit cX4_digit 2 (some .boolean) 1 := ⟨tw_in (w := Cond.methodLink RX4 86 yX4_digit) (List.mem_of_getElem? (i := 578) rfl) rfl, mi_X4_digit, mv_X4_digit, ini_X4, mc_X4_digit, by decide +kernel, by decide +kernel, by decide +kernel⟩
set_option maxRecDepth 100000 in
theorem mc_X4_isLine : Cond.code yX4_isLine cX4_isLine 2 (some .boolean) ∈ TW := tw_in (w := Cond.code yX4_isLine cX4_isLine 2 (some .boolean)) (List.mem_of_getElem? (i := 585) rfl) rfl
set_option maxRecDepth 100000 in
theorem mi_X4_isLine : Cond.instanceMethod yX4_isLine ∈ TW := tw_in (w := Cond.instanceMethod yX4_isLine) (List.mem_of_getElem? (i := 584) rfl) rfl
set_option maxRecDepth 100000 in
theorem mv_X4_isLine : Cond.selects RX4 yX4_isLine yX4_isLine ∈ TW := tw_in (w := Cond.selects RX4 yX4_isLine yX4_isLine) (List.mem_of_getElem? (i := 10) rfl) rfl
set_option maxRecDepth 100000 in
theorem vl_X4_89 : VL RX4 89 yX4_isLine cX4_isLine 2 (some .boolean) 1 := ⟨tw_in (w := Cond.methodLink RX4 89 yX4_isLine) (List.mem_of_getElem? (i := 582) rfl) rfl, mi_X4_isLine, mv_X4_isLine, ini_X4, mc_X4_isLine, by decide +kernel, by decide +kernel, by decide +kernel⟩
set_option maxRecDepth 100000 in
theorem mc_J0_indexOf_0f7a4 : Cond.code yJ0_indexOf_0f7a4 cJ0_indexOf_0f7a4 2 (some .int) ∈ TW := tw_in (w := Cond.code yJ0_indexOf_0f7a4 cJ0_indexOf_0f7a4 2 (some .int)) (List.mem_of_getElem? (i := 593) rfl) rfl
set_option maxRecDepth 100000 in
theorem mi_J0_indexOf_0f7a4 : Cond.instanceMethod yJ0_indexOf_0f7a4 ∈ TW := tw_in (w := Cond.instanceMethod yJ0_indexOf_0f7a4) (List.mem_of_getElem? (i := 591) rfl) rfl
set_option maxRecDepth 100000 in
theorem mv_J0_indexOf_0f7a4 : Cond.selects RJ0 yJ0_indexOf_0f7a4 yJ0_indexOf_0f7a4 ∈ TW := tw_in (w := Cond.selects RJ0 yJ0_indexOf_0f7a4 yJ0_indexOf_0f7a4) (List.mem_of_getElem? (i := 592) rfl) rfl
set_option maxRecDepth 100000 in
theorem vl_X4_100 : VL RX4 100 yJ0_indexOf_0f7a4 cJ0_indexOf_0f7a4 2 (some .int) 1 := ⟨tw_in (w := Cond.methodLink RX4 100 yJ0_indexOf_0f7a4) (List.mem_of_getElem? (i := 590) rfl) rfl, mi_J0_indexOf_0f7a4, mv_J0_indexOf_0f7a4, ini_J0, mc_J0_indexOf_0f7a4, by decide +kernel, by decide +kernel, by decide +kernel⟩
set_option maxRecDepth 100000 in
theorem mc_X4_isRoom : Cond.code yX4_isRoom cX4_isRoom 1 (some .boolean) ∈ TW := tw_in (w := Cond.code yX4_isRoom cX4_isRoom 1 (some .boolean)) (List.mem_of_getElem? (i := 674) rfl) rfl
set_option maxRecDepth 100000 in
theorem ms_X4_isRoom : Cond.static yX4_isRoom ∈ TW := tw_in (w := Cond.static yX4_isRoom) (List.mem_of_getElem? (i := 673) rfl) rfl
set_option maxRecDepth 100000 in
theorem sl_X4_105 : SL RX4 105 yX4_isRoom cX4_isRoom 1 (some .boolean) 1 := ⟨tw_in (w := Cond.methodLink RX4 105 yX4_isRoom) (List.mem_of_getElem? (i := 672) rfl) rfl, ms_X4_isRoom, ini_X4, mc_X4_isRoom, by decide +kernel, by decide +kernel, by decide +kernel⟩
set_option maxRecDepth 100000 in
theorem mc_X4_isOld : Cond.code yX4_isOld cX4_isOld 4 (some .boolean) ∈ TW := tw_in (w := Cond.code yX4_isOld cX4_isOld 4 (some .boolean)) (List.mem_of_getElem? (i := 678) rfl) rfl
set_option maxRecDepth 100000 in
theorem mi_X4_isOld : Cond.instanceMethod yX4_isOld ∈ TW := tw_in (w := Cond.instanceMethod yX4_isOld) (List.mem_of_getElem? (i := 677) rfl) rfl
set_option maxRecDepth 100000 in
theorem mv_X4_isOld : Cond.selects RX4 yX4_isOld yX4_isOld ∈ TW := tw_in (w := Cond.selects RX4 yX4_isOld yX4_isOld) (List.mem_of_getElem? (i := 11) rfl) rfl
set_option maxRecDepth 100000 in
theorem vl_X4_108 : VL RX4 108 yX4_isOld cX4_isOld 4 (some .boolean) 2 := ⟨tw_in (w := Cond.methodLink RX4 108 yX4_isOld) (List.mem_of_getElem? (i := 675) rfl) rfl, mi_X4_isOld, mv_X4_isOld, ini_X4, mc_X4_isOld, by decide +kernel, by decide +kernel, by decide +kernel⟩
set_option maxRecDepth 100000 in
theorem mc_X4_isThing : Cond.code yX4_isThing cX4_isThing 2 (some .boolean) ∈ TW := tw_in (w := Cond.code yX4_isThing cX4_isThing 2 (some .boolean)) (List.mem_of_getElem? (i := 684) rfl) rfl
set_option maxRecDepth 100000 in
theorem mi_X4_isThing : Cond.instanceMethod yX4_isThing ∈ TW := tw_in (w := Cond.instanceMethod yX4_isThing) (List.mem_of_getElem? (i := 683) rfl) rfl
set_option maxRecDepth 100000 in
theorem mv_X4_isThing : Cond.selects RX4 yX4_isThing yX4_isThing ∈ TW := tw_in (w := Cond.selects RX4 yX4_isThing yX4_isThing) (List.mem_of_getElem? (i := 12) rfl) rfl
set_option maxRecDepth 100000 in
theorem vl_X4_112 : VL RX4 112 yX4_isThing cX4_isThing 2 (some .boolean) 1 := ⟨tw_in (w := Cond.methodLink RX4 112 yX4_isThing) (List.mem_of_getElem? (i := 681) rfl) rfl, mi_X4_isThing, mv_X4_isThing, ini_X4, mc_X4_isThing, by decide +kernel, by decide +kernel, by decide +kernel⟩
set_option maxRecDepth 100000 in
theorem mc_X4_give : Cond.code yX4_give cX4_give 5 (some .int) ∈ TW := tw_in (w := Cond.code yX4_give cX4_give 5 (some .int)) (List.mem_of_getElem? (i := 688) rfl) rfl
set_option maxRecDepth 100000 in
theorem mi_X4_give : Cond.instanceMethod yX4_give ∈ TW := tw_in (w := Cond.instanceMethod yX4_give) (List.mem_of_getElem? (i := 687) rfl) rfl
set_option maxRecDepth 100000 in
theorem mv_X4_give : Cond.selects RX4 yX4_give yX4_give ∈ TW := tw_in (w := Cond.selects RX4 yX4_give yX4_give) (List.mem_of_getElem? (i := 13) rfl) rfl
set_option maxRecDepth 100000 in
theorem vl_X4_115 : VL RX4 115 yX4_give cX4_give 5 (some .int) 2 := ⟨tw_in (w := Cond.methodLink RX4 115 yX4_give) (List.mem_of_getElem? (i := 685) rfl) rfl, mi_X4_give, mv_X4_give, ini_X4, mc_X4_give, by decide +kernel, by decide +kernel, by decide +kernel⟩
set_option maxRecDepth 100000 in
theorem mc_X4_statement : Cond.code yX4_statement cX4_statement 6 (some .int) ∈ TW := tw_in (w := Cond.code yX4_statement cX4_statement 6 (some .int)) (List.mem_of_getElem? (i := 573) rfl) rfl
set_option maxRecDepth 100000 in
theorem mi_X4_statement : Cond.instanceMethod yX4_statement ∈ TW := tw_in (w := Cond.instanceMethod yX4_statement) (List.mem_of_getElem? (i := 572) rfl) rfl
set_option maxRecDepth 100000 in
theorem mv_X4_statement : Cond.selects RX4 yX4_statement yX4_statement ∈ TW := tw_in (w := Cond.selects RX4 yX4_statement yX4_statement) (List.mem_of_getElem? (i := 7) rfl) rfl
set_option maxRecDepth 100000 in
theorem vl_X4_118 : VL RX4 118 yX4_statement cX4_statement 6 (some .int) 1 := ⟨tw_in (w := Cond.methodLink RX4 118 yX4_statement) (List.mem_of_getElem? (i := 570) rfl) rfl, mi_X4_statement, mv_X4_statement, ini_X4, mc_X4_statement, by decide +kernel, by decide +kernel, by decide +kernel⟩
set_option maxRecDepth 100000 in
theorem mc_X4_keep : Cond.code yX4_keep cX4_keep 3 none ∈ TW := tw_in (w := Cond.code yX4_keep cX4_keep 3 none) (List.mem_of_getElem? (i := 692) rfl) rfl
set_option maxRecDepth 100000 in
theorem mi_X4_keep : Cond.instanceMethod yX4_keep ∈ TW := tw_in (w := Cond.instanceMethod yX4_keep) (List.mem_of_getElem? (i := 691) rfl) rfl
set_option maxRecDepth 100000 in
theorem mv_X4_keep : Cond.selects RX4 yX4_keep yX4_keep ∈ TW := tw_in (w := Cond.selects RX4 yX4_keep yX4_keep) (List.mem_of_getElem? (i := 14) rfl) rfl
set_option maxRecDepth 100000 in
theorem vl_X4_122 : VL RX4 122 yX4_keep cX4_keep 3 none 1 := ⟨tw_in (w := Cond.methodLink RX4 122 yX4_keep) (List.mem_of_getElem? (i := 689) rfl) rfl, mi_X4_keep, mv_X4_keep, ini_X4, mc_X4_keep, by decide +kernel, by decide +kernel, by decide +kernel⟩
set_option maxRecDepth 100000 in
theorem mc_X4_again : Cond.code yX4_again cX4_again 3 none ∈ TW := tw_in (w := Cond.code yX4_again cX4_again 3 none) (List.mem_of_getElem? (i := 696) rfl) rfl
set_option maxRecDepth 100000 in
theorem mi_X4_again : Cond.instanceMethod yX4_again ∈ TW := tw_in (w := Cond.instanceMethod yX4_again) (List.mem_of_getElem? (i := 695) rfl) rfl
set_option maxRecDepth 100000 in
theorem mv_X4_again : Cond.selects RX4 yX4_again yX4_again ∈ TW := tw_in (w := Cond.selects RX4 yX4_again yX4_again) (List.mem_of_getElem? (i := 15) rfl) rfl
set_option maxRecDepth 100000 in
theorem vl_X4_126 : VL RX4 126 yX4_again cX4_again 3 none 1 := ⟨tw_in (w := Cond.methodLink RX4 126 yX4_again) (List.mem_of_getElem? (i := 693) rfl) rfl, mi_X4_again, mv_X4_again, ini_X4, mc_X4_again, by decide +kernel, by decide +kernel, by decide +kernel⟩
set_option maxRecDepth 100000 in
theorem mc_X4_has : Cond.code yX4_has cX4_has 2 (some .boolean) ∈ TW := tw_in (w := Cond.code yX4_has cX4_has 2 (some .boolean)) (List.mem_of_getElem? (i := 740) rfl) rfl
set_option maxRecDepth 100000 in
theorem ms_X4_has : Cond.static yX4_has ∈ TW := tw_in (w := Cond.static yX4_has) (List.mem_of_getElem? (i := 739) rfl) rfl
set_option maxRecDepth 100000 in
theorem sl_X4_129 : SL RX4 129 yX4_has cX4_has 2 (some .boolean) 2 := ⟨tw_in (w := Cond.methodLink RX4 129 yX4_has) (List.mem_of_getElem? (i := 738) rfl) rfl, ms_X4_has, ini_X4, mc_X4_has, by decide +kernel, by decide +kernel, by decide +kernel⟩
set_option maxRecDepth 100000 in
theorem mc_X4_beside : Cond.code yX4_beside cX4_beside 5 (some .int) ∈ TW := tw_in (w := Cond.code yX4_beside cX4_beside 5 (some .int)) (List.mem_of_getElem? (i := 737) rfl) rfl
set_option maxRecDepth 100000 in
theorem mi_X4_beside : Cond.instanceMethod yX4_beside ∈ TW := tw_in (w := Cond.instanceMethod yX4_beside) (List.mem_of_getElem? (i := 736) rfl) rfl
set_option maxRecDepth 100000 in
theorem mv_X4_beside : Cond.selects RX4 yX4_beside yX4_beside ∈ TW := tw_in (w := Cond.selects RX4 yX4_beside yX4_beside) (List.mem_of_getElem? (i := 18) rfl) rfl
set_option maxRecDepth 100000 in
theorem vl_X4_132 : VL RX4 132 yX4_beside cX4_beside 5 (some .int) 2 := ⟨tw_in (w := Cond.methodLink RX4 132 yX4_beside) (List.mem_of_getElem? (i := 734) rfl) rfl, mi_X4_beside, mv_X4_beside, ini_X4, mc_X4_beside, by decide +kernel, by decide +kernel, by decide +kernel⟩
set_option maxRecDepth 100000 in
theorem mc_X4_plain : Cond.code yX4_plain cX4_plain 4 (some .int) ∈ TW := tw_in (w := Cond.code yX4_plain cX4_plain 4 (some .int)) (List.mem_of_getElem? (i := 733) rfl) rfl
set_option maxRecDepth 100000 in
theorem mi_X4_plain : Cond.instanceMethod yX4_plain ∈ TW := tw_in (w := Cond.instanceMethod yX4_plain) (List.mem_of_getElem? (i := 732) rfl) rfl
set_option maxRecDepth 100000 in
theorem mv_X4_plain : Cond.selects RX4 yX4_plain yX4_plain ∈ TW := tw_in (w := Cond.selects RX4 yX4_plain yX4_plain) (List.mem_of_getElem? (i := 17) rfl) rfl
set_option maxRecDepth 100000 in
theorem vl_X4_136 : VL RX4 136 yX4_plain cX4_plain 4 (some .int) 2 := ⟨tw_in (w := Cond.methodLink RX4 136 yX4_plain) (List.mem_of_getElem? (i := 730) rfl) rfl, mi_X4_plain, mv_X4_plain, ini_X4, mc_X4_plain, by decide +kernel, by decide +kernel, by decide +kernel⟩
set_option maxRecDepth 100000 in
theorem mc_X4_fromWhere : Cond.code yX4_fromWhere cX4_fromWhere 5 (some .int) ∈ TW := tw_in (w := Cond.code yX4_fromWhere cX4_fromWhere 5 (some .int)) (List.mem_of_getElem? (i := 729) rfl) rfl
set_option maxRecDepth 100000 in
theorem mi_X4_fromWhere : Cond.instanceMethod yX4_fromWhere ∈ TW := tw_in (w := Cond.instanceMethod yX4_fromWhere) (List.mem_of_getElem? (i := 728) rfl) rfl
set_option maxRecDepth 100000 in
theorem mv_X4_fromWhere : Cond.selects RX4 yX4_fromWhere yX4_fromWhere ∈ TW := tw_in (w := Cond.selects RX4 yX4_fromWhere yX4_fromWhere) (List.mem_of_getElem? (i := 16) rfl) rfl
set_option maxRecDepth 100000 in
theorem vl_X4_139 : VL RX4 139 yX4_fromWhere cX4_fromWhere 5 (some .int) 2 := ⟨tw_in (w := Cond.methodLink RX4 139 yX4_fromWhere) (List.mem_of_getElem? (i := 726) rfl) rfl, mi_X4_fromWhere, mv_X4_fromWhere, ini_X4, mc_X4_fromWhere, by decide +kernel, by decide +kernel, by decide +kernel⟩
set_option maxRecDepth 100000 in
theorem mc_X4_look : Cond.code yX4_look cX4_look 3 none ∈ TW := tw_in (w := Cond.code yX4_look cX4_look 3 none) (List.mem_of_getElem? (i := 756) rfl) rfl
set_option maxRecDepth 100000 in
theorem mi_X4_look : Cond.instanceMethod yX4_look ∈ TW := tw_in (w := Cond.instanceMethod yX4_look) (List.mem_of_getElem? (i := 755) rfl) rfl
set_option maxRecDepth 100000 in
theorem mv_X4_look : Cond.selects RX4 yX4_look yX4_look ∈ TW := tw_in (w := Cond.selects RX4 yX4_look yX4_look) (List.mem_of_getElem? (i := 20) rfl) rfl
set_option maxRecDepth 100000 in
theorem vl_X4_142 : VL RX4 142 yX4_look cX4_look 3 none 1 := ⟨tw_in (w := Cond.methodLink RX4 142 yX4_look) (List.mem_of_getElem? (i := 753) rfl) rfl, mi_X4_look, mv_X4_look, ini_X4, mc_X4_look, by decide +kernel, by decide +kernel, by decide +kernel⟩
set_option maxRecDepth 100000 in
theorem mc_X4_sinsIn : Cond.code yX4_sinsIn cX4_sinsIn 6 (some .int) ∈ TW := tw_in (w := Cond.code yX4_sinsIn cX4_sinsIn 6 (some .int)) (List.mem_of_getElem? (i := 752) rfl) rfl
set_option maxRecDepth 100000 in
theorem mi_X4_sinsIn : Cond.instanceMethod yX4_sinsIn ∈ TW := tw_in (w := Cond.instanceMethod yX4_sinsIn) (List.mem_of_getElem? (i := 751) rfl) rfl
set_option maxRecDepth 100000 in
theorem mv_X4_sinsIn : Cond.selects RX4 yX4_sinsIn yX4_sinsIn ∈ TW := tw_in (w := Cond.selects RX4 yX4_sinsIn yX4_sinsIn) (List.mem_of_getElem? (i := 19) rfl) rfl
set_option maxRecDepth 100000 in
theorem vl_X4_146 : VL RX4 146 yX4_sinsIn cX4_sinsIn 6 (some .int) 1 := ⟨tw_in (w := Cond.methodLink RX4 146 yX4_sinsIn) (List.mem_of_getElem? (i := 749) rfl) rfl, mi_X4_sinsIn, mv_X4_sinsIn, ini_X4, mc_X4_sinsIn, by decide +kernel, by decide +kernel, by decide +kernel⟩
set_option maxRecDepth 100000 in
theorem sl_X4_149 : SL RX4 149 yJ6_bitCount_0f7a4 cJ6_bitCount_0f7a4 1 (some .int) 1 := ⟨tw_in (w := Cond.methodLink RX4 149 yJ6_bitCount_0f7a4) (List.mem_of_getElem? (i := 765) rfl) rfl, ms_J6_bitCount_0f7a4, ini_J6, mc_J6_bitCount_0f7a4, by decide +kernel, by decide +kernel, by decide +kernel⟩
set_option maxRecDepth 100000 in
theorem mc_X4_oneMoved : Cond.code yX4_oneMoved cX4_oneMoved 5 (some .int) ∈ TW := tw_in (w := Cond.code yX4_oneMoved cX4_oneMoved 5 (some .int)) (List.mem_of_getElem? (i := 773) rfl) rfl
set_option maxRecDepth 100000 in
theorem mi_X4_oneMoved : Cond.instanceMethod yX4_oneMoved ∈ TW := tw_in (w := Cond.instanceMethod yX4_oneMoved) (List.mem_of_getElem? (i := 772) rfl) rfl
set_option maxRecDepth 100000 in
theorem mv_X4_oneMoved : Cond.selects RX4 yX4_oneMoved yX4_oneMoved ∈ TW := tw_in (w := Cond.selects RX4 yX4_oneMoved yX4_oneMoved) (List.mem_of_getElem? (i := 21) rfl) rfl
set_option maxRecDepth 100000 in
theorem vl_X4_154 : VL RX4 154 yX4_oneMoved cX4_oneMoved 5 (some .int) 0 := ⟨tw_in (w := Cond.methodLink RX4 154 yX4_oneMoved) (List.mem_of_getElem? (i := 770) rfl) rfl, mi_X4_oneMoved, mv_X4_oneMoved, ini_X4, mc_X4_oneMoved, by decide +kernel, by decide +kernel, by decide +kernel⟩
set_option maxRecDepth 100000 in
theorem mc_X4_byTwo : Cond.code yX4_byTwo cX4_byTwo 8 (some .boolean) ∈ TW := tw_in (w := Cond.code yX4_byTwo cX4_byTwo 8 (some .boolean)) (List.mem_of_getElem? (i := 777) rfl) rfl
set_option maxRecDepth 100000 in
theorem mi_X4_byTwo : Cond.instanceMethod yX4_byTwo ∈ TW := tw_in (w := Cond.instanceMethod yX4_byTwo) (List.mem_of_getElem? (i := 776) rfl) rfl
set_option maxRecDepth 100000 in
theorem mv_X4_byTwo : Cond.selects RX4 yX4_byTwo yX4_byTwo ∈ TW := tw_in (w := Cond.selects RX4 yX4_byTwo yX4_byTwo) (List.mem_of_getElem? (i := 22) rfl) rfl
set_option maxRecDepth 100000 in
theorem vl_X4_158 : VL RX4 158 yX4_byTwo cX4_byTwo 8 (some .boolean) 0 := ⟨tw_in (w := Cond.methodLink RX4 158 yX4_byTwo) (List.mem_of_getElem? (i := 774) rfl) rfl, mi_X4_byTwo, mv_X4_byTwo, ini_X4, mc_X4_byTwo, by decide +kernel, by decide +kernel, by decide +kernel⟩
set_option maxRecDepth 100000 in
theorem mc_J6_numberOfTrailingZeros_0f7a4 : Cond.code yJ6_numberOfTrailingZeros_0f7a4 cJ6_numberOfTrailingZeros_0f7a4 2 (some .int) ∈ TW := tw_in (w := Cond.code yJ6_numberOfTrailingZeros_0f7a4 cJ6_numberOfTrailingZeros_0f7a4 2 (some .int)) (List.mem_of_getElem? (i := 796) rfl) rfl
set_option maxRecDepth 100000 in
theorem ms_J6_numberOfTrailingZeros_0f7a4 : Cond.static yJ6_numberOfTrailingZeros_0f7a4 ∈ TW := tw_in (w := Cond.static yJ6_numberOfTrailingZeros_0f7a4) (List.mem_of_getElem? (i := 795) rfl) rfl
set_option maxRecDepth 100000 in
theorem sl_X4_165 : SL RX4 165 yJ6_numberOfTrailingZeros_0f7a4 cJ6_numberOfTrailingZeros_0f7a4 2 (some .int) 1 := ⟨tw_in (w := Cond.methodLink RX4 165 yJ6_numberOfTrailingZeros_0f7a4) (List.mem_of_getElem? (i := 794) rfl) rfl, ms_J6_numberOfTrailingZeros_0f7a4, ini_J6, mc_J6_numberOfTrailingZeros_0f7a4, by decide +kernel, by decide +kernel, by decide +kernel⟩
set_option maxRecDepth 100000 in
theorem mc_X4_mayBe : Cond.code yX4_mayBe cX4_mayBe 5 (some .boolean) ∈ TW := tw_in (w := Cond.code yX4_mayBe cX4_mayBe 5 (some .boolean)) (List.mem_of_getElem? (i := 801) rfl) rfl
set_option maxRecDepth 100000 in
theorem mi_X4_mayBe : Cond.instanceMethod yX4_mayBe ∈ TW := tw_in (w := Cond.instanceMethod yX4_mayBe) (List.mem_of_getElem? (i := 800) rfl) rfl
set_option maxRecDepth 100000 in
theorem mv_X4_mayBe : Cond.selects RX4 yX4_mayBe yX4_mayBe ∈ TW := tw_in (w := Cond.selects RX4 yX4_mayBe yX4_mayBe) (List.mem_of_getElem? (i := 25) rfl) rfl
set_option maxRecDepth 100000 in
theorem vl_X4_168 : VL RX4 168 yX4_mayBe cX4_mayBe 5 (some .boolean) 3 := ⟨tw_in (w := Cond.methodLink RX4 168 yX4_mayBe) (List.mem_of_getElem? (i := 798) rfl) rfl, mi_X4_mayBe, mv_X4_mayBe, ini_X4, mc_X4_mayBe, by decide +kernel, by decide +kernel, by decide +kernel⟩
set_option maxRecDepth 100000 in
theorem mc_X4_waysFor : Cond.code yX4_waysFor cX4_waysFor 6 (some .int) ∈ TW := tw_in (w := Cond.code yX4_waysFor cX4_waysFor 6 (some .int)) (List.mem_of_getElem? (i := 793) rfl) rfl
set_option maxRecDepth 100000 in
theorem mi_X4_waysFor : Cond.instanceMethod yX4_waysFor ∈ TW := tw_in (w := Cond.instanceMethod yX4_waysFor) (List.mem_of_getElem? (i := 792) rfl) rfl
set_option maxRecDepth 100000 in
theorem mv_X4_waysFor : Cond.selects RX4 yX4_waysFor yX4_waysFor ∈ TW := tw_in (w := Cond.selects RX4 yX4_waysFor yX4_waysFor) (List.mem_of_getElem? (i := 24) rfl) rfl
set_option maxRecDepth 100000 in
theorem vl_X4_172 : VL RX4 172 yX4_waysFor cX4_waysFor 6 (some .int) 2 := ⟨tw_in (w := Cond.methodLink RX4 172 yX4_waysFor) (List.mem_of_getElem? (i := 790) rfl) rfl, mi_X4_waysFor, mv_X4_waysFor, ini_X4, mc_X4_waysFor, by decide +kernel, by decide +kernel, by decide +kernel⟩
set_option maxRecDepth 100000 in
theorem mc_X4_all : Cond.code yX4_all cX4_all 1 (some .int) ∈ TW := tw_in (w := Cond.code yX4_all cX4_all 1 (some .int)) (List.mem_of_getElem? (i := 789) rfl) rfl
set_option maxRecDepth 100000 in
theorem mi_X4_all : Cond.instanceMethod yX4_all ∈ TW := tw_in (w := Cond.instanceMethod yX4_all) (List.mem_of_getElem? (i := 788) rfl) rfl
set_option maxRecDepth 100000 in
theorem mv_X4_all : Cond.selects RX4 yX4_all yX4_all ∈ TW := tw_in (w := Cond.selects RX4 yX4_all yX4_all) (List.mem_of_getElem? (i := 23) rfl) rfl
set_option maxRecDepth 100000 in
theorem vl_X4_175 : VL RX4 175 yX4_all cX4_all 1 (some .int) 0 := ⟨tw_in (w := Cond.methodLink RX4 175 yX4_all) (List.mem_of_getElem? (i := 786) rfl) rfl, mi_X4_all, mv_X4_all, ini_X4, mc_X4_all, by decide +kernel, by decide +kernel, by decide +kernel⟩
set_option maxRecDepth 100000 in
theorem mc_X4_isClean : Cond.code yX4_isClean cX4_isClean 4 (some .boolean) ∈ TW := tw_in (w := Cond.code yX4_isClean cX4_isClean 4 (some .boolean)) (List.mem_of_getElem? (i := 825) rfl) rfl
set_option maxRecDepth 100000 in
theorem mi_X4_isClean : Cond.instanceMethod yX4_isClean ∈ TW := tw_in (w := Cond.instanceMethod yX4_isClean) (List.mem_of_getElem? (i := 824) rfl) rfl
set_option maxRecDepth 100000 in
theorem mv_X4_isClean : Cond.selects RX4 yX4_isClean yX4_isClean ∈ TW := tw_in (w := Cond.selects RX4 yX4_isClean yX4_isClean) (List.mem_of_getElem? (i := 26) rfl) rfl
set_option maxRecDepth 100000 in
theorem vl_X4_178 : VL RX4 178 yX4_isClean cX4_isClean 4 (some .boolean) 2 := ⟨tw_in (w := Cond.methodLink RX4 178 yX4_isClean) (List.mem_of_getElem? (i := 822) rfl) rfl, mi_X4_isClean, mv_X4_isClean, ini_X4, mc_X4_isClean, by decide +kernel, by decide +kernel, by decide +kernel⟩
set_option maxRecDepth 100000 in
theorem ini_Math : Cond.initialized "java/lang/Math" ∈ TW := tw_in (w := Cond.initialized "java/lang/Math") (List.mem_of_getElem? (i := 34) rfl) rfl
set_option maxRecDepth 100000 in
theorem ini_System : Cond.initialized "java/lang/System" ∈ TW := tw_in (w := Cond.initialized "java/lang/System") (List.mem_of_getElem? (i := 33) rfl) rfl
set_option maxRecDepth 100000 in
theorem kc_X3_200 : Cond.constant RX3 200 (1664525) ∈ TW := tw_in (w := Cond.constant RX3 200 (1664525)) (List.mem_of_getElem? (i := 460) rfl) rfl
set_option maxRecDepth 100000 in
theorem kc_X3_201 : Cond.constant RX3 201 (1013904223) ∈ TW := tw_in (w := Cond.constant RX3 201 (1013904223)) (List.mem_of_getElem? (i := 461) rfl) rfl
set_option maxRecDepth 100000 in
theorem kc_X3_202 : Cond.constant RX3 202 (2147483647) ∈ TW := tw_in (w := Cond.constant RX3 202 (2147483647)) (List.mem_of_getElem? (i := 465) rfl) rfl
set_option maxRecDepth 100000 in
theorem kc_X4_184 : Cond.constant RX4 184 (1664525) ∈ TW := tw_in (w := Cond.constant RX4 184 (1664525)) (List.mem_of_getElem? (i := 838) rfl) rfl
set_option maxRecDepth 100000 in
theorem kc_X4_185 : Cond.constant RX4 185 (1013904223) ∈ TW := tw_in (w := Cond.constant RX4 185 (1013904223)) (List.mem_of_getElem? (i := 839) rfl) rfl
set_option maxRecDepth 100000 in
theorem kc_X4_186 : Cond.constant RX4 186 (2147483647) ∈ TW := tw_in (w := Cond.constant RX4 186 (2147483647)) (List.mem_of_getElem? (i := 840) rfl) rfl
set_option maxRecDepth 100000 in
theorem kc_J11_76 : Cond.constant RJ11 76 (56320) ∈ TW := tw_in (w := Cond.constant RJ11 76 (56320)) (List.mem_of_getElem? (i := 671) rfl) rfl
set_option maxRecDepth 100000 in
theorem kc_J11_110 : Cond.constant RJ11 110 (55232) ∈ TW := tw_in (w := Cond.constant RJ11 110 (55232)) (List.mem_of_getElem? (i := 667) rfl) rfl
set_option maxRecDepth 100000 in
theorem kc_J6_264 : Cond.constant RJ6 264 (65536) ∈ TW := tw_in (w := Cond.constant RJ6 264 (65536)) (List.mem_of_getElem? (i := 797) rfl) rfl
set_option maxRecDepth 100000 in
theorem kc_J6_265 : Cond.constant RJ6 265 (1431655765) ∈ TW := tw_in (w := Cond.constant RJ6 265 (1431655765)) (List.mem_of_getElem? (i := 355) rfl) rfl
set_option maxRecDepth 100000 in
theorem kc_J6_266 : Cond.constant RJ6 266 (858993459) ∈ TW := tw_in (w := Cond.constant RJ6 266 (858993459)) (List.mem_of_getElem? (i := 356) rfl) rfl
set_option maxRecDepth 100000 in
theorem kc_J6_267 : Cond.constant RJ6 267 (252645135) ∈ TW := tw_in (w := Cond.constant RJ6 267 (252645135)) (List.mem_of_getElem? (i := 357) rfl) rfl
set_option maxRecDepth 100000 in
theorem kc_J2_227 : Cond.constant RJ2 227 (65536) ∈ TW := tw_in (w := Cond.constant RJ2 227 (65536)) (List.mem_of_getElem? (i := 628) rfl) rfl
