def dl_X4_line_c0 : List (Nat × Instr × Nat) := [(0, .aload_n 0, 1), (1, .iload_n 1, 1), (2, .invokevirtual 89, 3), (5, .ifCond .ne 9, 3), (8, .aload_n 0, 1), (9, .iconst (-1), 1), (10, .invokevirtual 63, 3), (13, .ireturn, 1), (14, .iload_n 2, 1), (15, .iconst 0, 1), (16, .iconst 2, 1), (17, .invokestatic 56, 3), (20, .ifCond .ne 10, 3), (23, .aload_n 0, 1), (24, .bipush (-2), 2), (26, .invokevirtual 63, 3), (29, .ireturn, 1), (30, .iload_n 2, 1), (31, .ifCond .ne 12, 3), (34, .aload_n 0, 1), (35, .getfield 7, 3), (38, .iload_n 1, 1), (39, .iaload, 1), (40, .goto 25, 3), (43, .iload_n 2, 1)]
set_option maxRecDepth 100000 in
theorem dm_X4_line_c0 : dl_X4_line_c0.all (fun q => decide (decode cX4_line q.1 = .ok q.2)) = true := by decide +kernel
theorem dX4_line_0 : decode cX4_line 0 = .ok (.aload_n 0, 1) := d_of dm_X4_line_c0 0 (q := (0, .aload_n 0, 1)) rfl
theorem dX4_line_1 : decode cX4_line 1 = .ok (.iload_n 1, 1) := d_of dm_X4_line_c0 1 (q := (1, .iload_n 1, 1)) rfl
theorem dX4_line_2 : decode cX4_line 2 = .ok (.invokevirtual 89, 3) := d_of dm_X4_line_c0 2 (q := (2, .invokevirtual 89, 3)) rfl
theorem dX4_line_5 : decode cX4_line 5 = .ok (.ifCond .ne 9, 3) := d_of dm_X4_line_c0 3 (q := (5, .ifCond .ne 9, 3)) rfl
theorem dX4_line_8 : decode cX4_line 8 = .ok (.aload_n 0, 1) := d_of dm_X4_line_c0 4 (q := (8, .aload_n 0, 1)) rfl
theorem dX4_line_9 : decode cX4_line 9 = .ok (.iconst (-1), 1) := d_of dm_X4_line_c0 5 (q := (9, .iconst (-1), 1)) rfl
theorem dX4_line_10 : decode cX4_line 10 = .ok (.invokevirtual 63, 3) := d_of dm_X4_line_c0 6 (q := (10, .invokevirtual 63, 3)) rfl
theorem dX4_line_13 : decode cX4_line 13 = .ok (.ireturn, 1) := d_of dm_X4_line_c0 7 (q := (13, .ireturn, 1)) rfl
theorem dX4_line_14 : decode cX4_line 14 = .ok (.iload_n 2, 1) := d_of dm_X4_line_c0 8 (q := (14, .iload_n 2, 1)) rfl
theorem dX4_line_15 : decode cX4_line 15 = .ok (.iconst 0, 1) := d_of dm_X4_line_c0 9 (q := (15, .iconst 0, 1)) rfl
theorem dX4_line_16 : decode cX4_line 16 = .ok (.iconst 2, 1) := d_of dm_X4_line_c0 10 (q := (16, .iconst 2, 1)) rfl
theorem dX4_line_17 : decode cX4_line 17 = .ok (.invokestatic 56, 3) := d_of dm_X4_line_c0 11 (q := (17, .invokestatic 56, 3)) rfl
theorem dX4_line_20 : decode cX4_line 20 = .ok (.ifCond .ne 10, 3) := d_of dm_X4_line_c0 12 (q := (20, .ifCond .ne 10, 3)) rfl
theorem dX4_line_23 : decode cX4_line 23 = .ok (.aload_n 0, 1) := d_of dm_X4_line_c0 13 (q := (23, .aload_n 0, 1)) rfl
theorem dX4_line_24 : decode cX4_line 24 = .ok (.bipush (-2), 2) := d_of dm_X4_line_c0 14 (q := (24, .bipush (-2), 2)) rfl
theorem dX4_line_26 : decode cX4_line 26 = .ok (.invokevirtual 63, 3) := d_of dm_X4_line_c0 15 (q := (26, .invokevirtual 63, 3)) rfl
theorem dX4_line_29 : decode cX4_line 29 = .ok (.ireturn, 1) := d_of dm_X4_line_c0 16 (q := (29, .ireturn, 1)) rfl
theorem dX4_line_30 : decode cX4_line 30 = .ok (.iload_n 2, 1) := d_of dm_X4_line_c0 17 (q := (30, .iload_n 2, 1)) rfl
theorem dX4_line_31 : decode cX4_line 31 = .ok (.ifCond .ne 12, 3) := d_of dm_X4_line_c0 18 (q := (31, .ifCond .ne 12, 3)) rfl
theorem dX4_line_34 : decode cX4_line 34 = .ok (.aload_n 0, 1) := d_of dm_X4_line_c0 19 (q := (34, .aload_n 0, 1)) rfl
theorem dX4_line_35 : decode cX4_line 35 = .ok (.getfield 7, 3) := d_of dm_X4_line_c0 20 (q := (35, .getfield 7, 3)) rfl
theorem dX4_line_38 : decode cX4_line 38 = .ok (.iload_n 1, 1) := d_of dm_X4_line_c0 21 (q := (38, .iload_n 1, 1)) rfl
theorem dX4_line_39 : decode cX4_line 39 = .ok (.iaload, 1) := d_of dm_X4_line_c0 22 (q := (39, .iaload, 1)) rfl
theorem dX4_line_40 : decode cX4_line 40 = .ok (.goto 25, 3) := d_of dm_X4_line_c0 23 (q := (40, .goto 25, 3)) rfl
theorem dX4_line_43 : decode cX4_line 43 = .ok (.iload_n 2, 1) := d_of dm_X4_line_c0 24 (q := (43, .iload_n 2, 1)) rfl
def dl_X4_line_c25 : List (Nat × Instr × Nat) := [(44, .iconst 1, 1), (45, .if_icmp .ne 12, 3), (48, .aload_n 0, 1), (49, .getfield 13, 3), (52, .iload_n 1, 1), (53, .iaload, 1), (54, .goto 11, 3), (57, .aload_n 0, 1), (58, .getfield 92, 3), (61, .iload_n 1, 1), (62, .ishr, 1), (63, .iconst 1, 1), (64, .iand, 1), (65, .ireturn, 1)]
set_option maxRecDepth 100000 in
theorem dm_X4_line_c25 : dl_X4_line_c25.all (fun q => decide (decode cX4_line q.1 = .ok q.2)) = true := by decide +kernel
theorem dX4_line_44 : decode cX4_line 44 = .ok (.iconst 1, 1) := d_of dm_X4_line_c25 0 (q := (44, .iconst 1, 1)) rfl
theorem dX4_line_45 : decode cX4_line 45 = .ok (.if_icmp .ne 12, 3) := d_of dm_X4_line_c25 1 (q := (45, .if_icmp .ne 12, 3)) rfl
theorem dX4_line_48 : decode cX4_line 48 = .ok (.aload_n 0, 1) := d_of dm_X4_line_c25 2 (q := (48, .aload_n 0, 1)) rfl
theorem dX4_line_49 : decode cX4_line 49 = .ok (.getfield 13, 3) := d_of dm_X4_line_c25 3 (q := (49, .getfield 13, 3)) rfl
theorem dX4_line_52 : decode cX4_line 52 = .ok (.iload_n 1, 1) := d_of dm_X4_line_c25 4 (q := (52, .iload_n 1, 1)) rfl
theorem dX4_line_53 : decode cX4_line 53 = .ok (.iaload, 1) := d_of dm_X4_line_c25 5 (q := (53, .iaload, 1)) rfl
theorem dX4_line_54 : decode cX4_line 54 = .ok (.goto 11, 3) := d_of dm_X4_line_c25 6 (q := (54, .goto 11, 3)) rfl
theorem dX4_line_57 : decode cX4_line 57 = .ok (.aload_n 0, 1) := d_of dm_X4_line_c25 7 (q := (57, .aload_n 0, 1)) rfl
theorem dX4_line_58 : decode cX4_line 58 = .ok (.getfield 92, 3) := d_of dm_X4_line_c25 8 (q := (58, .getfield 92, 3)) rfl
theorem dX4_line_61 : decode cX4_line 61 = .ok (.iload_n 1, 1) := d_of dm_X4_line_c25 9 (q := (61, .iload_n 1, 1)) rfl
theorem dX4_line_62 : decode cX4_line 62 = .ok (.ishr, 1) := d_of dm_X4_line_c25 10 (q := (62, .ishr, 1)) rfl
theorem dX4_line_63 : decode cX4_line 63 = .ok (.iconst 1, 1) := d_of dm_X4_line_c25 11 (q := (63, .iconst 1, 1)) rfl
theorem dX4_line_64 : decode cX4_line 64 = .ok (.iand, 1) := d_of dm_X4_line_c25 12 (q := (64, .iand, 1)) rfl
theorem dX4_line_65 : decode cX4_line 65 = .ok (.ireturn, 1) := d_of dm_X4_line_c25 13 (q := (65, .ireturn, 1)) rfl
def dl_X4_curtain_c0 : List (Nat × Instr × Nat) := [(0, .aload_n 0, 1), (1, .iload_n 1, 1), (2, .invokevirtual 89, 3), (5, .ifCond .ne 9, 3), (8, .aload_n 0, 1), (9, .iconst (-1), 1), (10, .invokevirtual 63, 3), (13, .ireturn, 1), (14, .aload_n 0, 1), (15, .dup, 1), (16, .getfield 92, 3), (19, .iconst 1, 1), (20, .iload_n 1, 1), (21, .ishl, 1), (22, .ixor, 1), (23, .putfield 92, 3), (26, .aload_n 0, 1), (27, .getfield 92, 3), (30, .iload_n 1, 1), (31, .ishr, 1), (32, .iconst 1, 1), (33, .iand, 1), (34, .ireturn, 1)]
set_option maxRecDepth 100000 in
theorem dm_X4_curtain_c0 : dl_X4_curtain_c0.all (fun q => decide (decode cX4_curtain q.1 = .ok q.2)) = true := by decide +kernel
theorem dX4_curtain_0 : decode cX4_curtain 0 = .ok (.aload_n 0, 1) := d_of dm_X4_curtain_c0 0 (q := (0, .aload_n 0, 1)) rfl
theorem dX4_curtain_1 : decode cX4_curtain 1 = .ok (.iload_n 1, 1) := d_of dm_X4_curtain_c0 1 (q := (1, .iload_n 1, 1)) rfl
theorem dX4_curtain_2 : decode cX4_curtain 2 = .ok (.invokevirtual 89, 3) := d_of dm_X4_curtain_c0 2 (q := (2, .invokevirtual 89, 3)) rfl
theorem dX4_curtain_5 : decode cX4_curtain 5 = .ok (.ifCond .ne 9, 3) := d_of dm_X4_curtain_c0 3 (q := (5, .ifCond .ne 9, 3)) rfl
theorem dX4_curtain_8 : decode cX4_curtain 8 = .ok (.aload_n 0, 1) := d_of dm_X4_curtain_c0 4 (q := (8, .aload_n 0, 1)) rfl
theorem dX4_curtain_9 : decode cX4_curtain 9 = .ok (.iconst (-1), 1) := d_of dm_X4_curtain_c0 5 (q := (9, .iconst (-1), 1)) rfl
theorem dX4_curtain_10 : decode cX4_curtain 10 = .ok (.invokevirtual 63, 3) := d_of dm_X4_curtain_c0 6 (q := (10, .invokevirtual 63, 3)) rfl
theorem dX4_curtain_13 : decode cX4_curtain 13 = .ok (.ireturn, 1) := d_of dm_X4_curtain_c0 7 (q := (13, .ireturn, 1)) rfl
theorem dX4_curtain_14 : decode cX4_curtain 14 = .ok (.aload_n 0, 1) := d_of dm_X4_curtain_c0 8 (q := (14, .aload_n 0, 1)) rfl
theorem dX4_curtain_15 : decode cX4_curtain 15 = .ok (.dup, 1) := d_of dm_X4_curtain_c0 9 (q := (15, .dup, 1)) rfl
theorem dX4_curtain_16 : decode cX4_curtain 16 = .ok (.getfield 92, 3) := d_of dm_X4_curtain_c0 10 (q := (16, .getfield 92, 3)) rfl
theorem dX4_curtain_19 : decode cX4_curtain 19 = .ok (.iconst 1, 1) := d_of dm_X4_curtain_c0 11 (q := (19, .iconst 1, 1)) rfl
theorem dX4_curtain_20 : decode cX4_curtain 20 = .ok (.iload_n 1, 1) := d_of dm_X4_curtain_c0 12 (q := (20, .iload_n 1, 1)) rfl
theorem dX4_curtain_21 : decode cX4_curtain 21 = .ok (.ishl, 1) := d_of dm_X4_curtain_c0 13 (q := (21, .ishl, 1)) rfl
theorem dX4_curtain_22 : decode cX4_curtain 22 = .ok (.ixor, 1) := d_of dm_X4_curtain_c0 14 (q := (22, .ixor, 1)) rfl
theorem dX4_curtain_23 : decode cX4_curtain 23 = .ok (.putfield 92, 3) := d_of dm_X4_curtain_c0 15 (q := (23, .putfield 92, 3)) rfl
theorem dX4_curtain_26 : decode cX4_curtain 26 = .ok (.aload_n 0, 1) := d_of dm_X4_curtain_c0 16 (q := (26, .aload_n 0, 1)) rfl
theorem dX4_curtain_27 : decode cX4_curtain 27 = .ok (.getfield 92, 3) := d_of dm_X4_curtain_c0 17 (q := (27, .getfield 92, 3)) rfl
theorem dX4_curtain_30 : decode cX4_curtain 30 = .ok (.iload_n 1, 1) := d_of dm_X4_curtain_c0 18 (q := (30, .iload_n 1, 1)) rfl
theorem dX4_curtain_31 : decode cX4_curtain 31 = .ok (.ishr, 1) := d_of dm_X4_curtain_c0 19 (q := (31, .ishr, 1)) rfl
theorem dX4_curtain_32 : decode cX4_curtain 32 = .ok (.iconst 1, 1) := d_of dm_X4_curtain_c0 20 (q := (32, .iconst 1, 1)) rfl
theorem dX4_curtain_33 : decode cX4_curtain 33 = .ok (.iand, 1) := d_of dm_X4_curtain_c0 21 (q := (33, .iand, 1)) rfl
theorem dX4_curtain_34 : decode cX4_curtain 34 = .ok (.ireturn, 1) := d_of dm_X4_curtain_c0 22 (q := (34, .ireturn, 1)) rfl
def dl_X4_move_c0 : List (Nat × Instr × Nat) := [(0, .aload_n 0, 1), (1, .iload_n 1, 1), (2, .invokevirtual 112, 3), (5, .ifCond .eq 10, 3), (8, .iload_n 2, 1), (9, .invokestatic 105, 3), (12, .ifCond .ne 9, 3), (15, .aload_n 0, 1), (16, .iconst (-1), 1), (17, .invokevirtual 63, 3), (20, .ireturn, 1), (21, .aload_n 0, 1), (22, .getfield 19, 3), (25, .iload_n 1, 1), (26, .iaload, 1), (27, .istore_n 3, 1), (28, .aload_n 0, 1), (29, .getfield 19, 3), (32, .iload_n 1, 1), (33, .iload_n 2, 1), (34, .iastore, 1), (35, .iload_n 3, 1), (36, .ireturn, 1)]
set_option maxRecDepth 100000 in
theorem dm_X4_move_c0 : dl_X4_move_c0.all (fun q => decide (decode cX4_move q.1 = .ok q.2)) = true := by decide +kernel
theorem dX4_move_0 : decode cX4_move 0 = .ok (.aload_n 0, 1) := d_of dm_X4_move_c0 0 (q := (0, .aload_n 0, 1)) rfl
theorem dX4_move_1 : decode cX4_move 1 = .ok (.iload_n 1, 1) := d_of dm_X4_move_c0 1 (q := (1, .iload_n 1, 1)) rfl
theorem dX4_move_2 : decode cX4_move 2 = .ok (.invokevirtual 112, 3) := d_of dm_X4_move_c0 2 (q := (2, .invokevirtual 112, 3)) rfl
theorem dX4_move_5 : decode cX4_move 5 = .ok (.ifCond .eq 10, 3) := d_of dm_X4_move_c0 3 (q := (5, .ifCond .eq 10, 3)) rfl
theorem dX4_move_8 : decode cX4_move 8 = .ok (.iload_n 2, 1) := d_of dm_X4_move_c0 4 (q := (8, .iload_n 2, 1)) rfl
theorem dX4_move_9 : decode cX4_move 9 = .ok (.invokestatic 105, 3) := d_of dm_X4_move_c0 5 (q := (9, .invokestatic 105, 3)) rfl
theorem dX4_move_12 : decode cX4_move 12 = .ok (.ifCond .ne 9, 3) := d_of dm_X4_move_c0 6 (q := (12, .ifCond .ne 9, 3)) rfl
theorem dX4_move_15 : decode cX4_move 15 = .ok (.aload_n 0, 1) := d_of dm_X4_move_c0 7 (q := (15, .aload_n 0, 1)) rfl
theorem dX4_move_16 : decode cX4_move 16 = .ok (.iconst (-1), 1) := d_of dm_X4_move_c0 8 (q := (16, .iconst (-1), 1)) rfl
theorem dX4_move_17 : decode cX4_move 17 = .ok (.invokevirtual 63, 3) := d_of dm_X4_move_c0 9 (q := (17, .invokevirtual 63, 3)) rfl
theorem dX4_move_20 : decode cX4_move 20 = .ok (.ireturn, 1) := d_of dm_X4_move_c0 10 (q := (20, .ireturn, 1)) rfl
theorem dX4_move_21 : decode cX4_move 21 = .ok (.aload_n 0, 1) := d_of dm_X4_move_c0 11 (q := (21, .aload_n 0, 1)) rfl
theorem dX4_move_22 : decode cX4_move 22 = .ok (.getfield 19, 3) := d_of dm_X4_move_c0 12 (q := (22, .getfield 19, 3)) rfl
theorem dX4_move_25 : decode cX4_move 25 = .ok (.iload_n 1, 1) := d_of dm_X4_move_c0 13 (q := (25, .iload_n 1, 1)) rfl
theorem dX4_move_26 : decode cX4_move 26 = .ok (.iaload, 1) := d_of dm_X4_move_c0 14 (q := (26, .iaload, 1)) rfl
theorem dX4_move_27 : decode cX4_move 27 = .ok (.istore_n 3, 1) := d_of dm_X4_move_c0 15 (q := (27, .istore_n 3, 1)) rfl
theorem dX4_move_28 : decode cX4_move 28 = .ok (.aload_n 0, 1) := d_of dm_X4_move_c0 16 (q := (28, .aload_n 0, 1)) rfl
theorem dX4_move_29 : decode cX4_move 29 = .ok (.getfield 19, 3) := d_of dm_X4_move_c0 17 (q := (29, .getfield 19, 3)) rfl
theorem dX4_move_32 : decode cX4_move 32 = .ok (.iload_n 1, 1) := d_of dm_X4_move_c0 18 (q := (32, .iload_n 1, 1)) rfl
theorem dX4_move_33 : decode cX4_move 33 = .ok (.iload_n 2, 1) := d_of dm_X4_move_c0 19 (q := (33, .iload_n 2, 1)) rfl
theorem dX4_move_34 : decode cX4_move 34 = .ok (.iastore, 1) := d_of dm_X4_move_c0 20 (q := (34, .iastore, 1)) rfl
theorem dX4_move_35 : decode cX4_move 35 = .ok (.iload_n 3, 1) := d_of dm_X4_move_c0 21 (q := (35, .iload_n 3, 1)) rfl
theorem dX4_move_36 : decode cX4_move 36 = .ok (.ireturn, 1) := d_of dm_X4_move_c0 22 (q := (36, .ireturn, 1)) rfl
def dl_X4_pair_c0 : List (Nat × Instr × Nat) := [(0, .aload_n 0, 1), (1, .iload_n 1, 1), (2, .invokevirtual 112, 3), (5, .ifCond .eq 25, 3), (8, .aload_n 0, 1), (9, .iload_n 2, 1), (10, .invokevirtual 112, 3), (13, .ifCond .eq 17, 3), (16, .iload_n 1, 1), (17, .iload_n 2, 1), (18, .if_icmp .eq 12, 3), (21, .aload_n 0, 1), (22, .iload_n 1, 1), (23, .iload_n 2, 1), (24, .invokevirtual 115, 3), (27, .goto 8, 3), (30, .aload_n 0, 1), (31, .iconst (-1), 1), (32, .invokevirtual 63, 3), (35, .ireturn, 1)]
set_option maxRecDepth 100000 in
theorem dm_X4_pair_c0 : dl_X4_pair_c0.all (fun q => decide (decode cX4_pair q.1 = .ok q.2)) = true := by decide +kernel
theorem dX4_pair_0 : decode cX4_pair 0 = .ok (.aload_n 0, 1) := d_of dm_X4_pair_c0 0 (q := (0, .aload_n 0, 1)) rfl
theorem dX4_pair_1 : decode cX4_pair 1 = .ok (.iload_n 1, 1) := d_of dm_X4_pair_c0 1 (q := (1, .iload_n 1, 1)) rfl
theorem dX4_pair_2 : decode cX4_pair 2 = .ok (.invokevirtual 112, 3) := d_of dm_X4_pair_c0 2 (q := (2, .invokevirtual 112, 3)) rfl
theorem dX4_pair_5 : decode cX4_pair 5 = .ok (.ifCond .eq 25, 3) := d_of dm_X4_pair_c0 3 (q := (5, .ifCond .eq 25, 3)) rfl
theorem dX4_pair_8 : decode cX4_pair 8 = .ok (.aload_n 0, 1) := d_of dm_X4_pair_c0 4 (q := (8, .aload_n 0, 1)) rfl
theorem dX4_pair_9 : decode cX4_pair 9 = .ok (.iload_n 2, 1) := d_of dm_X4_pair_c0 5 (q := (9, .iload_n 2, 1)) rfl
theorem dX4_pair_10 : decode cX4_pair 10 = .ok (.invokevirtual 112, 3) := d_of dm_X4_pair_c0 6 (q := (10, .invokevirtual 112, 3)) rfl
theorem dX4_pair_13 : decode cX4_pair 13 = .ok (.ifCond .eq 17, 3) := d_of dm_X4_pair_c0 7 (q := (13, .ifCond .eq 17, 3)) rfl
theorem dX4_pair_16 : decode cX4_pair 16 = .ok (.iload_n 1, 1) := d_of dm_X4_pair_c0 8 (q := (16, .iload_n 1, 1)) rfl
theorem dX4_pair_17 : decode cX4_pair 17 = .ok (.iload_n 2, 1) := d_of dm_X4_pair_c0 9 (q := (17, .iload_n 2, 1)) rfl
theorem dX4_pair_18 : decode cX4_pair 18 = .ok (.if_icmp .eq 12, 3) := d_of dm_X4_pair_c0 10 (q := (18, .if_icmp .eq 12, 3)) rfl
theorem dX4_pair_21 : decode cX4_pair 21 = .ok (.aload_n 0, 1) := d_of dm_X4_pair_c0 11 (q := (21, .aload_n 0, 1)) rfl
theorem dX4_pair_22 : decode cX4_pair 22 = .ok (.iload_n 1, 1) := d_of dm_X4_pair_c0 12 (q := (22, .iload_n 1, 1)) rfl
theorem dX4_pair_23 : decode cX4_pair 23 = .ok (.iload_n 2, 1) := d_of dm_X4_pair_c0 13 (q := (23, .iload_n 2, 1)) rfl
theorem dX4_pair_24 : decode cX4_pair 24 = .ok (.invokevirtual 115, 3) := d_of dm_X4_pair_c0 14 (q := (24, .invokevirtual 115, 3)) rfl
theorem dX4_pair_27 : decode cX4_pair 27 = .ok (.goto 8, 3) := d_of dm_X4_pair_c0 15 (q := (27, .goto 8, 3)) rfl
theorem dX4_pair_30 : decode cX4_pair 30 = .ok (.aload_n 0, 1) := d_of dm_X4_pair_c0 16 (q := (30, .aload_n 0, 1)) rfl
theorem dX4_pair_31 : decode cX4_pair 31 = .ok (.iconst (-1), 1) := d_of dm_X4_pair_c0 17 (q := (31, .iconst (-1), 1)) rfl
theorem dX4_pair_32 : decode cX4_pair 32 = .ok (.invokevirtual 63, 3) := d_of dm_X4_pair_c0 18 (q := (32, .invokevirtual 63, 3)) rfl
theorem dX4_pair_35 : decode cX4_pair 35 = .ok (.ireturn, 1) := d_of dm_X4_pair_c0 19 (q := (35, .ireturn, 1)) rfl
def dl_X4_hour_c0 : List (Nat × Instr × Nat) := [(0, .iload_n 1, 1), (1, .ifCond .ge 10, 3), (4, .aload_n 0, 1), (5, .bipush (-4), 2), (7, .invokevirtual 63, 3), (10, .ireturn, 1), (11, .iload_n 1, 1), (12, .bipush 7, 2), (14, .if_icmp .le 10, 3), (17, .aload_n 0, 1), (18, .bipush (-6), 2), (20, .invokevirtual 63, 3), (23, .ireturn, 1), (24, .aload_n 0, 1), (25, .getfield 95, 3), (28, .istore_n 2, 1), (29, .aload_n 0, 1), (30, .iload_n 1, 1), (31, .putfield 95, 3), (34, .iload_n 2, 1), (35, .ireturn, 1)]
set_option maxRecDepth 100000 in
theorem dm_X4_hour_c0 : dl_X4_hour_c0.all (fun q => decide (decode cX4_hour q.1 = .ok q.2)) = true := by decide +kernel
theorem dX4_hour_0 : decode cX4_hour 0 = .ok (.iload_n 1, 1) := d_of dm_X4_hour_c0 0 (q := (0, .iload_n 1, 1)) rfl
theorem dX4_hour_1 : decode cX4_hour 1 = .ok (.ifCond .ge 10, 3) := d_of dm_X4_hour_c0 1 (q := (1, .ifCond .ge 10, 3)) rfl
theorem dX4_hour_4 : decode cX4_hour 4 = .ok (.aload_n 0, 1) := d_of dm_X4_hour_c0 2 (q := (4, .aload_n 0, 1)) rfl
theorem dX4_hour_5 : decode cX4_hour 5 = .ok (.bipush (-4), 2) := d_of dm_X4_hour_c0 3 (q := (5, .bipush (-4), 2)) rfl
theorem dX4_hour_7 : decode cX4_hour 7 = .ok (.invokevirtual 63, 3) := d_of dm_X4_hour_c0 4 (q := (7, .invokevirtual 63, 3)) rfl
theorem dX4_hour_10 : decode cX4_hour 10 = .ok (.ireturn, 1) := d_of dm_X4_hour_c0 5 (q := (10, .ireturn, 1)) rfl
theorem dX4_hour_11 : decode cX4_hour 11 = .ok (.iload_n 1, 1) := d_of dm_X4_hour_c0 6 (q := (11, .iload_n 1, 1)) rfl
theorem dX4_hour_12 : decode cX4_hour 12 = .ok (.bipush 7, 2) := d_of dm_X4_hour_c0 7 (q := (12, .bipush 7, 2)) rfl
theorem dX4_hour_14 : decode cX4_hour 14 = .ok (.if_icmp .le 10, 3) := d_of dm_X4_hour_c0 8 (q := (14, .if_icmp .le 10, 3)) rfl
theorem dX4_hour_17 : decode cX4_hour 17 = .ok (.aload_n 0, 1) := d_of dm_X4_hour_c0 9 (q := (17, .aload_n 0, 1)) rfl
theorem dX4_hour_18 : decode cX4_hour 18 = .ok (.bipush (-6), 2) := d_of dm_X4_hour_c0 10 (q := (18, .bipush (-6), 2)) rfl
theorem dX4_hour_20 : decode cX4_hour 20 = .ok (.invokevirtual 63, 3) := d_of dm_X4_hour_c0 11 (q := (20, .invokevirtual 63, 3)) rfl
theorem dX4_hour_23 : decode cX4_hour 23 = .ok (.ireturn, 1) := d_of dm_X4_hour_c0 12 (q := (23, .ireturn, 1)) rfl
theorem dX4_hour_24 : decode cX4_hour 24 = .ok (.aload_n 0, 1) := d_of dm_X4_hour_c0 13 (q := (24, .aload_n 0, 1)) rfl
theorem dX4_hour_25 : decode cX4_hour 25 = .ok (.getfield 95, 3) := d_of dm_X4_hour_c0 14 (q := (25, .getfield 95, 3)) rfl
theorem dX4_hour_28 : decode cX4_hour 28 = .ok (.istore_n 2, 1) := d_of dm_X4_hour_c0 15 (q := (28, .istore_n 2, 1)) rfl
theorem dX4_hour_29 : decode cX4_hour 29 = .ok (.aload_n 0, 1) := d_of dm_X4_hour_c0 16 (q := (29, .aload_n 0, 1)) rfl
theorem dX4_hour_30 : decode cX4_hour 30 = .ok (.iload_n 1, 1) := d_of dm_X4_hour_c0 17 (q := (30, .iload_n 1, 1)) rfl
theorem dX4_hour_31 : decode cX4_hour 31 = .ok (.putfield 95, 3) := d_of dm_X4_hour_c0 18 (q := (31, .putfield 95, 3)) rfl
theorem dX4_hour_34 : decode cX4_hour 34 = .ok (.iload_n 2, 1) := d_of dm_X4_hour_c0 19 (q := (34, .iload_n 2, 1)) rfl
theorem dX4_hour_35 : decode cX4_hour 35 = .ok (.ireturn, 1) := d_of dm_X4_hour_c0 20 (q := (35, .ireturn, 1)) rfl
def dl_X4_beside_c0 : List (Nat × Instr × Nat) := [(0, .iconst 0, 1), (1, .istore_n 3, 1), (2, .iconst 0, 1), (3, .istore 4, 2), (5, .iload 4, 2), (7, .aload_n 0, 1), (8, .getfield 60, 3), (11, .if_icmp .ge 74, 3), (14, .iload_n 2, 1), (15, .ifCond .ne 18, 3), (18, .aload_n 0, 1), (19, .getfield 92, 3), (22, .iload 4, 2), (24, .invokestatic 129, 3), (27, .ifCond .eq 6, 3), (30, .goto 49, 3), (33, .aload_n 0, 1), (34, .getfield 7, 3), (37, .iload 4, 2), (39, .iaload, 1), (40, .iload_n 1, 1), (41, .if_icmp .ne 15, 3), (44, .iload_n 3, 1), (45, .iconst 1, 1), (46, .aload_n 0, 1)]
set_option maxRecDepth 100000 in
theorem dm_X4_beside_c0 : dl_X4_beside_c0.all (fun q => decide (decode cX4_beside q.1 = .ok q.2)) = true := by decide +kernel
theorem dX4_beside_0 : decode cX4_beside 0 = .ok (.iconst 0, 1) := d_of dm_X4_beside_c0 0 (q := (0, .iconst 0, 1)) rfl
theorem dX4_beside_1 : decode cX4_beside 1 = .ok (.istore_n 3, 1) := d_of dm_X4_beside_c0 1 (q := (1, .istore_n 3, 1)) rfl
theorem dX4_beside_2 : decode cX4_beside 2 = .ok (.iconst 0, 1) := d_of dm_X4_beside_c0 2 (q := (2, .iconst 0, 1)) rfl
theorem dX4_beside_3 : decode cX4_beside 3 = .ok (.istore 4, 2) := d_of dm_X4_beside_c0 3 (q := (3, .istore 4, 2)) rfl
theorem dX4_beside_5 : decode cX4_beside 5 = .ok (.iload 4, 2) := d_of dm_X4_beside_c0 4 (q := (5, .iload 4, 2)) rfl
theorem dX4_beside_7 : decode cX4_beside 7 = .ok (.aload_n 0, 1) := d_of dm_X4_beside_c0 5 (q := (7, .aload_n 0, 1)) rfl
theorem dX4_beside_8 : decode cX4_beside 8 = .ok (.getfield 60, 3) := d_of dm_X4_beside_c0 6 (q := (8, .getfield 60, 3)) rfl
theorem dX4_beside_11 : decode cX4_beside 11 = .ok (.if_icmp .ge 74, 3) := d_of dm_X4_beside_c0 7 (q := (11, .if_icmp .ge 74, 3)) rfl
theorem dX4_beside_14 : decode cX4_beside 14 = .ok (.iload_n 2, 1) := d_of dm_X4_beside_c0 8 (q := (14, .iload_n 2, 1)) rfl
theorem dX4_beside_15 : decode cX4_beside 15 = .ok (.ifCond .ne 18, 3) := d_of dm_X4_beside_c0 9 (q := (15, .ifCond .ne 18, 3)) rfl
theorem dX4_beside_18 : decode cX4_beside 18 = .ok (.aload_n 0, 1) := d_of dm_X4_beside_c0 10 (q := (18, .aload_n 0, 1)) rfl
theorem dX4_beside_19 : decode cX4_beside 19 = .ok (.getfield 92, 3) := d_of dm_X4_beside_c0 11 (q := (19, .getfield 92, 3)) rfl
theorem dX4_beside_22 : decode cX4_beside 22 = .ok (.iload 4, 2) := d_of dm_X4_beside_c0 12 (q := (22, .iload 4, 2)) rfl
theorem dX4_beside_24 : decode cX4_beside 24 = .ok (.invokestatic 129, 3) := d_of dm_X4_beside_c0 13 (q := (24, .invokestatic 129, 3)) rfl
theorem dX4_beside_27 : decode cX4_beside 27 = .ok (.ifCond .eq 6, 3) := d_of dm_X4_beside_c0 14 (q := (27, .ifCond .eq 6, 3)) rfl
theorem dX4_beside_30 : decode cX4_beside 30 = .ok (.goto 49, 3) := d_of dm_X4_beside_c0 15 (q := (30, .goto 49, 3)) rfl
theorem dX4_beside_33 : decode cX4_beside 33 = .ok (.aload_n 0, 1) := d_of dm_X4_beside_c0 16 (q := (33, .aload_n 0, 1)) rfl
theorem dX4_beside_34 : decode cX4_beside 34 = .ok (.getfield 7, 3) := d_of dm_X4_beside_c0 17 (q := (34, .getfield 7, 3)) rfl
theorem dX4_beside_37 : decode cX4_beside 37 = .ok (.iload 4, 2) := d_of dm_X4_beside_c0 18 (q := (37, .iload 4, 2)) rfl
theorem dX4_beside_39 : decode cX4_beside 39 = .ok (.iaload, 1) := d_of dm_X4_beside_c0 19 (q := (39, .iaload, 1)) rfl
theorem dX4_beside_40 : decode cX4_beside 40 = .ok (.iload_n 1, 1) := d_of dm_X4_beside_c0 20 (q := (40, .iload_n 1, 1)) rfl
theorem dX4_beside_41 : decode cX4_beside 41 = .ok (.if_icmp .ne 15, 3) := d_of dm_X4_beside_c0 21 (q := (41, .if_icmp .ne 15, 3)) rfl
theorem dX4_beside_44 : decode cX4_beside 44 = .ok (.iload_n 3, 1) := d_of dm_X4_beside_c0 22 (q := (44, .iload_n 3, 1)) rfl
theorem dX4_beside_45 : decode cX4_beside 45 = .ok (.iconst 1, 1) := d_of dm_X4_beside_c0 23 (q := (45, .iconst 1, 1)) rfl
theorem dX4_beside_46 : decode cX4_beside 46 = .ok (.aload_n 0, 1) := d_of dm_X4_beside_c0 24 (q := (46, .aload_n 0, 1)) rfl
def dl_X4_beside_c25 : List (Nat × Instr × Nat) := [(47, .getfield 13, 3), (50, .iload 4, 2), (52, .iaload, 1), (53, .ishl, 1), (54, .ior, 1), (55, .istore_n 3, 1), (56, .aload_n 0, 1), (57, .getfield 13, 3), (60, .iload 4, 2), (62, .iaload, 1), (63, .iload_n 1, 1), (64, .if_icmp .ne 15, 3), (67, .iload_n 3, 1), (68, .iconst 1, 1), (69, .aload_n 0, 1), (70, .getfield 7, 3), (73, .iload 4, 2), (75, .iaload, 1), (76, .ishl, 1), (77, .ior, 1), (78, .istore_n 3, 1), (79, .iinc 4 1, 3), (82, .goto (-77), 3), (85, .iload_n 3, 1), (86, .ireturn, 1)]
set_option maxRecDepth 100000 in
theorem dm_X4_beside_c25 : dl_X4_beside_c25.all (fun q => decide (decode cX4_beside q.1 = .ok q.2)) = true := by decide +kernel
theorem dX4_beside_47 : decode cX4_beside 47 = .ok (.getfield 13, 3) := d_of dm_X4_beside_c25 0 (q := (47, .getfield 13, 3)) rfl
theorem dX4_beside_50 : decode cX4_beside 50 = .ok (.iload 4, 2) := d_of dm_X4_beside_c25 1 (q := (50, .iload 4, 2)) rfl
theorem dX4_beside_52 : decode cX4_beside 52 = .ok (.iaload, 1) := d_of dm_X4_beside_c25 2 (q := (52, .iaload, 1)) rfl
theorem dX4_beside_53 : decode cX4_beside 53 = .ok (.ishl, 1) := d_of dm_X4_beside_c25 3 (q := (53, .ishl, 1)) rfl
theorem dX4_beside_54 : decode cX4_beside 54 = .ok (.ior, 1) := d_of dm_X4_beside_c25 4 (q := (54, .ior, 1)) rfl
theorem dX4_beside_55 : decode cX4_beside 55 = .ok (.istore_n 3, 1) := d_of dm_X4_beside_c25 5 (q := (55, .istore_n 3, 1)) rfl
theorem dX4_beside_56 : decode cX4_beside 56 = .ok (.aload_n 0, 1) := d_of dm_X4_beside_c25 6 (q := (56, .aload_n 0, 1)) rfl
theorem dX4_beside_57 : decode cX4_beside 57 = .ok (.getfield 13, 3) := d_of dm_X4_beside_c25 7 (q := (57, .getfield 13, 3)) rfl
theorem dX4_beside_60 : decode cX4_beside 60 = .ok (.iload 4, 2) := d_of dm_X4_beside_c25 8 (q := (60, .iload 4, 2)) rfl
theorem dX4_beside_62 : decode cX4_beside 62 = .ok (.iaload, 1) := d_of dm_X4_beside_c25 9 (q := (62, .iaload, 1)) rfl
theorem dX4_beside_63 : decode cX4_beside 63 = .ok (.iload_n 1, 1) := d_of dm_X4_beside_c25 10 (q := (63, .iload_n 1, 1)) rfl
theorem dX4_beside_64 : decode cX4_beside 64 = .ok (.if_icmp .ne 15, 3) := d_of dm_X4_beside_c25 11 (q := (64, .if_icmp .ne 15, 3)) rfl
theorem dX4_beside_67 : decode cX4_beside 67 = .ok (.iload_n 3, 1) := d_of dm_X4_beside_c25 12 (q := (67, .iload_n 3, 1)) rfl
theorem dX4_beside_68 : decode cX4_beside 68 = .ok (.iconst 1, 1) := d_of dm_X4_beside_c25 13 (q := (68, .iconst 1, 1)) rfl
theorem dX4_beside_69 : decode cX4_beside 69 = .ok (.aload_n 0, 1) := d_of dm_X4_beside_c25 14 (q := (69, .aload_n 0, 1)) rfl
theorem dX4_beside_70 : decode cX4_beside 70 = .ok (.getfield 7, 3) := d_of dm_X4_beside_c25 15 (q := (70, .getfield 7, 3)) rfl
theorem dX4_beside_73 : decode cX4_beside 73 = .ok (.iload 4, 2) := d_of dm_X4_beside_c25 16 (q := (73, .iload 4, 2)) rfl
theorem dX4_beside_75 : decode cX4_beside 75 = .ok (.iaload, 1) := d_of dm_X4_beside_c25 17 (q := (75, .iaload, 1)) rfl
theorem dX4_beside_76 : decode cX4_beside 76 = .ok (.ishl, 1) := d_of dm_X4_beside_c25 18 (q := (76, .ishl, 1)) rfl
theorem dX4_beside_77 : decode cX4_beside 77 = .ok (.ior, 1) := d_of dm_X4_beside_c25 19 (q := (77, .ior, 1)) rfl
theorem dX4_beside_78 : decode cX4_beside 78 = .ok (.istore_n 3, 1) := d_of dm_X4_beside_c25 20 (q := (78, .istore_n 3, 1)) rfl
theorem dX4_beside_79 : decode cX4_beside 79 = .ok (.iinc 4 1, 3) := d_of dm_X4_beside_c25 21 (q := (79, .iinc 4 1, 3)) rfl
theorem dX4_beside_82 : decode cX4_beside 82 = .ok (.goto (-77), 3) := d_of dm_X4_beside_c25 22 (q := (82, .goto (-77), 3)) rfl
theorem dX4_beside_85 : decode cX4_beside 85 = .ok (.iload_n 3, 1) := d_of dm_X4_beside_c25 23 (q := (85, .iload_n 3, 1)) rfl
theorem dX4_beside_86 : decode cX4_beside 86 = .ok (.ireturn, 1) := d_of dm_X4_beside_c25 24 (q := (86, .ireturn, 1)) rfl
def dl_X4_plain_c0 : List (Nat × Instr × Nat) := [(0, .aload_n 0, 1), (1, .getfield 19, 3), (4, .iload_n 1, 1), (5, .iaload, 1), (6, .istore_n 3, 1), (7, .aload_n 0, 1), (8, .getfield 16, 3), (11, .iload_n 1, 1), (12, .iaload, 1), (13, .tableswitch 93 1 5 #[35, 42, 62, 73, 62], 35), (48, .aload_n 0, 1), (49, .iload_n 3, 1), (50, .iconst 0, 1), (51, .invokevirtual 132, 3), (54, .ireturn, 1), (55, .aload_n 0, 1), (56, .iload_n 3, 1), (57, .iconst 0, 1), (58, .invokevirtual 132, 3), (61, .iload_n 2, 1), (62, .iconst 4, 1), (63, .if_icmp .ne 9, 3), (66, .iconst 1, 1), (67, .iload_n 3, 1), (68, .ishl, 1)]
set_option maxRecDepth 100000 in
theorem dm_X4_plain_c0 : dl_X4_plain_c0.all (fun q => decide (decode cX4_plain q.1 = .ok q.2)) = true := by decide +kernel
theorem dX4_plain_0 : decode cX4_plain 0 = .ok (.aload_n 0, 1) := d_of dm_X4_plain_c0 0 (q := (0, .aload_n 0, 1)) rfl
theorem dX4_plain_1 : decode cX4_plain 1 = .ok (.getfield 19, 3) := d_of dm_X4_plain_c0 1 (q := (1, .getfield 19, 3)) rfl
theorem dX4_plain_4 : decode cX4_plain 4 = .ok (.iload_n 1, 1) := d_of dm_X4_plain_c0 2 (q := (4, .iload_n 1, 1)) rfl
theorem dX4_plain_5 : decode cX4_plain 5 = .ok (.iaload, 1) := d_of dm_X4_plain_c0 3 (q := (5, .iaload, 1)) rfl
theorem dX4_plain_6 : decode cX4_plain 6 = .ok (.istore_n 3, 1) := d_of dm_X4_plain_c0 4 (q := (6, .istore_n 3, 1)) rfl
theorem dX4_plain_7 : decode cX4_plain 7 = .ok (.aload_n 0, 1) := d_of dm_X4_plain_c0 5 (q := (7, .aload_n 0, 1)) rfl
theorem dX4_plain_8 : decode cX4_plain 8 = .ok (.getfield 16, 3) := d_of dm_X4_plain_c0 6 (q := (8, .getfield 16, 3)) rfl
theorem dX4_plain_11 : decode cX4_plain 11 = .ok (.iload_n 1, 1) := d_of dm_X4_plain_c0 7 (q := (11, .iload_n 1, 1)) rfl
theorem dX4_plain_12 : decode cX4_plain 12 = .ok (.iaload, 1) := d_of dm_X4_plain_c0 8 (q := (12, .iaload, 1)) rfl
theorem dX4_plain_13 : decode cX4_plain 13 = .ok (.tableswitch 93 1 5 #[35, 42, 62, 73, 62], 35) := d_of dm_X4_plain_c0 9 (q := (13, .tableswitch 93 1 5 #[35, 42, 62, 73, 62], 35)) rfl
theorem dX4_plain_48 : decode cX4_plain 48 = .ok (.aload_n 0, 1) := d_of dm_X4_plain_c0 10 (q := (48, .aload_n 0, 1)) rfl
theorem dX4_plain_49 : decode cX4_plain 49 = .ok (.iload_n 3, 1) := d_of dm_X4_plain_c0 11 (q := (49, .iload_n 3, 1)) rfl
theorem dX4_plain_50 : decode cX4_plain 50 = .ok (.iconst 0, 1) := d_of dm_X4_plain_c0 12 (q := (50, .iconst 0, 1)) rfl
theorem dX4_plain_51 : decode cX4_plain 51 = .ok (.invokevirtual 132, 3) := d_of dm_X4_plain_c0 13 (q := (51, .invokevirtual 132, 3)) rfl
theorem dX4_plain_54 : decode cX4_plain 54 = .ok (.ireturn, 1) := d_of dm_X4_plain_c0 14 (q := (54, .ireturn, 1)) rfl
theorem dX4_plain_55 : decode cX4_plain 55 = .ok (.aload_n 0, 1) := d_of dm_X4_plain_c0 15 (q := (55, .aload_n 0, 1)) rfl
theorem dX4_plain_56 : decode cX4_plain 56 = .ok (.iload_n 3, 1) := d_of dm_X4_plain_c0 16 (q := (56, .iload_n 3, 1)) rfl
theorem dX4_plain_57 : decode cX4_plain 57 = .ok (.iconst 0, 1) := d_of dm_X4_plain_c0 17 (q := (57, .iconst 0, 1)) rfl
theorem dX4_plain_58 : decode cX4_plain 58 = .ok (.invokevirtual 132, 3) := d_of dm_X4_plain_c0 18 (q := (58, .invokevirtual 132, 3)) rfl
theorem dX4_plain_61 : decode cX4_plain 61 = .ok (.iload_n 2, 1) := d_of dm_X4_plain_c0 19 (q := (61, .iload_n 2, 1)) rfl
theorem dX4_plain_62 : decode cX4_plain 62 = .ok (.iconst 4, 1) := d_of dm_X4_plain_c0 20 (q := (62, .iconst 4, 1)) rfl
theorem dX4_plain_63 : decode cX4_plain 63 = .ok (.if_icmp .ne 9, 3) := d_of dm_X4_plain_c0 21 (q := (63, .if_icmp .ne 9, 3)) rfl
theorem dX4_plain_66 : decode cX4_plain 66 = .ok (.iconst 1, 1) := d_of dm_X4_plain_c0 22 (q := (66, .iconst 1, 1)) rfl
theorem dX4_plain_67 : decode cX4_plain 67 = .ok (.iload_n 3, 1) := d_of dm_X4_plain_c0 23 (q := (67, .iload_n 3, 1)) rfl
theorem dX4_plain_68 : decode cX4_plain 68 = .ok (.ishl, 1) := d_of dm_X4_plain_c0 24 (q := (68, .ishl, 1)) rfl
def dl_X4_plain_c25 : List (Nat × Instr × Nat) := [(69, .goto 4, 3), (72, .iconst 0, 1), (73, .ior, 1), (74, .ireturn, 1), (75, .aload_n 0, 1), (76, .iload_n 3, 1), (77, .iconst 1, 1), (78, .invokevirtual 132, 3), (81, .iconst 1, 1), (82, .iload_n 3, 1), (83, .ishl, 1), (84, .ior, 1), (85, .ireturn, 1), (86, .iload_n 2, 1), (87, .iconst 5, 1), (88, .if_icmp .le 16, 3), (91, .aload_n 0, 1), (92, .iload_n 3, 1), (93, .iconst 0, 1), (94, .invokevirtual 132, 3), (97, .iconst 1, 1), (98, .iload_n 3, 1), (99, .ishl, 1), (100, .ior, 1), (101, .goto 4, 3)]
set_option maxRecDepth 100000 in
theorem dm_X4_plain_c25 : dl_X4_plain_c25.all (fun q => decide (decode cX4_plain q.1 = .ok q.2)) = true := by decide +kernel
theorem dX4_plain_69 : decode cX4_plain 69 = .ok (.goto 4, 3) := d_of dm_X4_plain_c25 0 (q := (69, .goto 4, 3)) rfl
theorem dX4_plain_72 : decode cX4_plain 72 = .ok (.iconst 0, 1) := d_of dm_X4_plain_c25 1 (q := (72, .iconst 0, 1)) rfl
theorem dX4_plain_73 : decode cX4_plain 73 = .ok (.ior, 1) := d_of dm_X4_plain_c25 2 (q := (73, .ior, 1)) rfl
theorem dX4_plain_74 : decode cX4_plain 74 = .ok (.ireturn, 1) := d_of dm_X4_plain_c25 3 (q := (74, .ireturn, 1)) rfl
theorem dX4_plain_75 : decode cX4_plain 75 = .ok (.aload_n 0, 1) := d_of dm_X4_plain_c25 4 (q := (75, .aload_n 0, 1)) rfl
theorem dX4_plain_76 : decode cX4_plain 76 = .ok (.iload_n 3, 1) := d_of dm_X4_plain_c25 5 (q := (76, .iload_n 3, 1)) rfl
theorem dX4_plain_77 : decode cX4_plain 77 = .ok (.iconst 1, 1) := d_of dm_X4_plain_c25 6 (q := (77, .iconst 1, 1)) rfl
theorem dX4_plain_78 : decode cX4_plain 78 = .ok (.invokevirtual 132, 3) := d_of dm_X4_plain_c25 7 (q := (78, .invokevirtual 132, 3)) rfl
theorem dX4_plain_81 : decode cX4_plain 81 = .ok (.iconst 1, 1) := d_of dm_X4_plain_c25 8 (q := (81, .iconst 1, 1)) rfl
theorem dX4_plain_82 : decode cX4_plain 82 = .ok (.iload_n 3, 1) := d_of dm_X4_plain_c25 9 (q := (82, .iload_n 3, 1)) rfl
theorem dX4_plain_83 : decode cX4_plain 83 = .ok (.ishl, 1) := d_of dm_X4_plain_c25 10 (q := (83, .ishl, 1)) rfl
theorem dX4_plain_84 : decode cX4_plain 84 = .ok (.ior, 1) := d_of dm_X4_plain_c25 11 (q := (84, .ior, 1)) rfl
theorem dX4_plain_85 : decode cX4_plain 85 = .ok (.ireturn, 1) := d_of dm_X4_plain_c25 12 (q := (85, .ireturn, 1)) rfl
theorem dX4_plain_86 : decode cX4_plain 86 = .ok (.iload_n 2, 1) := d_of dm_X4_plain_c25 13 (q := (86, .iload_n 2, 1)) rfl
theorem dX4_plain_87 : decode cX4_plain 87 = .ok (.iconst 5, 1) := d_of dm_X4_plain_c25 14 (q := (87, .iconst 5, 1)) rfl
theorem dX4_plain_88 : decode cX4_plain 88 = .ok (.if_icmp .le 16, 3) := d_of dm_X4_plain_c25 15 (q := (88, .if_icmp .le 16, 3)) rfl
theorem dX4_plain_91 : decode cX4_plain 91 = .ok (.aload_n 0, 1) := d_of dm_X4_plain_c25 16 (q := (91, .aload_n 0, 1)) rfl
theorem dX4_plain_92 : decode cX4_plain 92 = .ok (.iload_n 3, 1) := d_of dm_X4_plain_c25 17 (q := (92, .iload_n 3, 1)) rfl
theorem dX4_plain_93 : decode cX4_plain 93 = .ok (.iconst 0, 1) := d_of dm_X4_plain_c25 18 (q := (93, .iconst 0, 1)) rfl
theorem dX4_plain_94 : decode cX4_plain 94 = .ok (.invokevirtual 132, 3) := d_of dm_X4_plain_c25 19 (q := (94, .invokevirtual 132, 3)) rfl
theorem dX4_plain_97 : decode cX4_plain 97 = .ok (.iconst 1, 1) := d_of dm_X4_plain_c25 20 (q := (97, .iconst 1, 1)) rfl
theorem dX4_plain_98 : decode cX4_plain 98 = .ok (.iload_n 3, 1) := d_of dm_X4_plain_c25 21 (q := (98, .iload_n 3, 1)) rfl
theorem dX4_plain_99 : decode cX4_plain 99 = .ok (.ishl, 1) := d_of dm_X4_plain_c25 22 (q := (99, .ishl, 1)) rfl
theorem dX4_plain_100 : decode cX4_plain 100 = .ok (.ior, 1) := d_of dm_X4_plain_c25 23 (q := (100, .ior, 1)) rfl
theorem dX4_plain_101 : decode cX4_plain 101 = .ok (.goto 4, 3) := d_of dm_X4_plain_c25 24 (q := (101, .goto 4, 3)) rfl
def dl_X4_plain_c50 : List (Nat × Instr × Nat) := [(104, .iconst 0, 1), (105, .ireturn, 1), (106, .aload_n 0, 1), (107, .iload_n 3, 1), (108, .iconst 0, 1), (109, .invokevirtual 132, 3), (112, .iconst 1, 1), (113, .iload_n 3, 1), (114, .ishl, 1), (115, .ior, 1), (116, .ireturn, 1)]
set_option maxRecDepth 100000 in
theorem dm_X4_plain_c50 : dl_X4_plain_c50.all (fun q => decide (decode cX4_plain q.1 = .ok q.2)) = true := by decide +kernel
theorem dX4_plain_104 : decode cX4_plain 104 = .ok (.iconst 0, 1) := d_of dm_X4_plain_c50 0 (q := (104, .iconst 0, 1)) rfl
theorem dX4_plain_105 : decode cX4_plain 105 = .ok (.ireturn, 1) := d_of dm_X4_plain_c50 1 (q := (105, .ireturn, 1)) rfl
theorem dX4_plain_106 : decode cX4_plain 106 = .ok (.aload_n 0, 1) := d_of dm_X4_plain_c50 2 (q := (106, .aload_n 0, 1)) rfl
theorem dX4_plain_107 : decode cX4_plain 107 = .ok (.iload_n 3, 1) := d_of dm_X4_plain_c50 3 (q := (107, .iload_n 3, 1)) rfl
theorem dX4_plain_108 : decode cX4_plain 108 = .ok (.iconst 0, 1) := d_of dm_X4_plain_c50 4 (q := (108, .iconst 0, 1)) rfl
theorem dX4_plain_109 : decode cX4_plain 109 = .ok (.invokevirtual 132, 3) := d_of dm_X4_plain_c50 5 (q := (109, .invokevirtual 132, 3)) rfl
theorem dX4_plain_112 : decode cX4_plain 112 = .ok (.iconst 1, 1) := d_of dm_X4_plain_c50 6 (q := (112, .iconst 1, 1)) rfl
theorem dX4_plain_113 : decode cX4_plain 113 = .ok (.iload_n 3, 1) := d_of dm_X4_plain_c50 7 (q := (113, .iload_n 3, 1)) rfl
theorem dX4_plain_114 : decode cX4_plain 114 = .ok (.ishl, 1) := d_of dm_X4_plain_c50 8 (q := (114, .ishl, 1)) rfl
theorem dX4_plain_115 : decode cX4_plain 115 = .ok (.ior, 1) := d_of dm_X4_plain_c50 9 (q := (115, .ior, 1)) rfl
theorem dX4_plain_116 : decode cX4_plain 116 = .ok (.ireturn, 1) := d_of dm_X4_plain_c50 10 (q := (116, .ireturn, 1)) rfl
def dl_X4_fromWhere_c0 : List (Nat × Instr × Nat) := [(0, .aload_n 0, 1), (1, .iload_n 1, 1), (2, .iload_n 2, 1), (3, .invokevirtual 136, 3), (6, .istore_n 3, 1), (7, .aload_n 0, 1), (8, .getfield 16, 3), (11, .iload_n 1, 1), (12, .iaload, 1), (13, .iconst 5, 1), (14, .if_icmp .ne 58, 3), (17, .iconst 0, 1), (18, .istore 4, 2), (20, .iload 4, 2), (22, .aload_n 0, 1), (23, .getfield 52, 3), (26, .if_icmp .ge 46, 3), (29, .aload_n 0, 1), (30, .getfield 16, 3), (33, .iload 4, 2), (35, .iaload, 1), (36, .iconst 5, 1), (37, .if_icmp .eq 29, 3), (40, .aload_n 0, 1), (41, .getfield 19, 3)]
set_option maxRecDepth 100000 in
theorem dm_X4_fromWhere_c0 : dl_X4_fromWhere_c0.all (fun q => decide (decode cX4_fromWhere q.1 = .ok q.2)) = true := by decide +kernel
theorem dX4_fromWhere_0 : decode cX4_fromWhere 0 = .ok (.aload_n 0, 1) := d_of dm_X4_fromWhere_c0 0 (q := (0, .aload_n 0, 1)) rfl
theorem dX4_fromWhere_1 : decode cX4_fromWhere 1 = .ok (.iload_n 1, 1) := d_of dm_X4_fromWhere_c0 1 (q := (1, .iload_n 1, 1)) rfl
theorem dX4_fromWhere_2 : decode cX4_fromWhere 2 = .ok (.iload_n 2, 1) := d_of dm_X4_fromWhere_c0 2 (q := (2, .iload_n 2, 1)) rfl
theorem dX4_fromWhere_3 : decode cX4_fromWhere 3 = .ok (.invokevirtual 136, 3) := d_of dm_X4_fromWhere_c0 3 (q := (3, .invokevirtual 136, 3)) rfl
theorem dX4_fromWhere_6 : decode cX4_fromWhere 6 = .ok (.istore_n 3, 1) := d_of dm_X4_fromWhere_c0 4 (q := (6, .istore_n 3, 1)) rfl
theorem dX4_fromWhere_7 : decode cX4_fromWhere 7 = .ok (.aload_n 0, 1) := d_of dm_X4_fromWhere_c0 5 (q := (7, .aload_n 0, 1)) rfl
theorem dX4_fromWhere_8 : decode cX4_fromWhere 8 = .ok (.getfield 16, 3) := d_of dm_X4_fromWhere_c0 6 (q := (8, .getfield 16, 3)) rfl
theorem dX4_fromWhere_11 : decode cX4_fromWhere 11 = .ok (.iload_n 1, 1) := d_of dm_X4_fromWhere_c0 7 (q := (11, .iload_n 1, 1)) rfl
theorem dX4_fromWhere_12 : decode cX4_fromWhere 12 = .ok (.iaload, 1) := d_of dm_X4_fromWhere_c0 8 (q := (12, .iaload, 1)) rfl
theorem dX4_fromWhere_13 : decode cX4_fromWhere 13 = .ok (.iconst 5, 1) := d_of dm_X4_fromWhere_c0 9 (q := (13, .iconst 5, 1)) rfl
theorem dX4_fromWhere_14 : decode cX4_fromWhere 14 = .ok (.if_icmp .ne 58, 3) := d_of dm_X4_fromWhere_c0 10 (q := (14, .if_icmp .ne 58, 3)) rfl
theorem dX4_fromWhere_17 : decode cX4_fromWhere 17 = .ok (.iconst 0, 1) := d_of dm_X4_fromWhere_c0 11 (q := (17, .iconst 0, 1)) rfl
theorem dX4_fromWhere_18 : decode cX4_fromWhere 18 = .ok (.istore 4, 2) := d_of dm_X4_fromWhere_c0 12 (q := (18, .istore 4, 2)) rfl
theorem dX4_fromWhere_20 : decode cX4_fromWhere 20 = .ok (.iload 4, 2) := d_of dm_X4_fromWhere_c0 13 (q := (20, .iload 4, 2)) rfl
theorem dX4_fromWhere_22 : decode cX4_fromWhere 22 = .ok (.aload_n 0, 1) := d_of dm_X4_fromWhere_c0 14 (q := (22, .aload_n 0, 1)) rfl
theorem dX4_fromWhere_23 : decode cX4_fromWhere 23 = .ok (.getfield 52, 3) := d_of dm_X4_fromWhere_c0 15 (q := (23, .getfield 52, 3)) rfl
theorem dX4_fromWhere_26 : decode cX4_fromWhere 26 = .ok (.if_icmp .ge 46, 3) := d_of dm_X4_fromWhere_c0 16 (q := (26, .if_icmp .ge 46, 3)) rfl
theorem dX4_fromWhere_29 : decode cX4_fromWhere 29 = .ok (.aload_n 0, 1) := d_of dm_X4_fromWhere_c0 17 (q := (29, .aload_n 0, 1)) rfl
theorem dX4_fromWhere_30 : decode cX4_fromWhere 30 = .ok (.getfield 16, 3) := d_of dm_X4_fromWhere_c0 18 (q := (30, .getfield 16, 3)) rfl
theorem dX4_fromWhere_33 : decode cX4_fromWhere 33 = .ok (.iload 4, 2) := d_of dm_X4_fromWhere_c0 19 (q := (33, .iload 4, 2)) rfl
theorem dX4_fromWhere_35 : decode cX4_fromWhere 35 = .ok (.iaload, 1) := d_of dm_X4_fromWhere_c0 20 (q := (35, .iaload, 1)) rfl
theorem dX4_fromWhere_36 : decode cX4_fromWhere 36 = .ok (.iconst 5, 1) := d_of dm_X4_fromWhere_c0 21 (q := (36, .iconst 5, 1)) rfl
theorem dX4_fromWhere_37 : decode cX4_fromWhere 37 = .ok (.if_icmp .eq 29, 3) := d_of dm_X4_fromWhere_c0 22 (q := (37, .if_icmp .eq 29, 3)) rfl
theorem dX4_fromWhere_40 : decode cX4_fromWhere 40 = .ok (.aload_n 0, 1) := d_of dm_X4_fromWhere_c0 23 (q := (40, .aload_n 0, 1)) rfl
theorem dX4_fromWhere_41 : decode cX4_fromWhere 41 = .ok (.getfield 19, 3) := d_of dm_X4_fromWhere_c0 24 (q := (41, .getfield 19, 3)) rfl
def dl_X4_fromWhere_c25 : List (Nat × Instr × Nat) := [(44, .iload 4, 2), (46, .iaload, 1), (47, .aload_n 0, 1), (48, .getfield 19, 3), (51, .iload_n 1, 1), (52, .iaload, 1), (53, .if_icmp .ne 13, 3), (56, .iload_n 3, 1), (57, .aload_n 0, 1), (58, .iload 4, 2), (60, .iload_n 2, 1), (61, .invokevirtual 136, 3), (64, .ior, 1), (65, .istore_n 3, 1), (66, .iinc 4 1, 3), (69, .goto (-49), 3), (72, .iload_n 3, 1), (73, .ireturn, 1)]
set_option maxRecDepth 100000 in
theorem dm_X4_fromWhere_c25 : dl_X4_fromWhere_c25.all (fun q => decide (decode cX4_fromWhere q.1 = .ok q.2)) = true := by decide +kernel
theorem dX4_fromWhere_44 : decode cX4_fromWhere 44 = .ok (.iload 4, 2) := d_of dm_X4_fromWhere_c25 0 (q := (44, .iload 4, 2)) rfl
theorem dX4_fromWhere_46 : decode cX4_fromWhere 46 = .ok (.iaload, 1) := d_of dm_X4_fromWhere_c25 1 (q := (46, .iaload, 1)) rfl
theorem dX4_fromWhere_47 : decode cX4_fromWhere 47 = .ok (.aload_n 0, 1) := d_of dm_X4_fromWhere_c25 2 (q := (47, .aload_n 0, 1)) rfl
theorem dX4_fromWhere_48 : decode cX4_fromWhere 48 = .ok (.getfield 19, 3) := d_of dm_X4_fromWhere_c25 3 (q := (48, .getfield 19, 3)) rfl
theorem dX4_fromWhere_51 : decode cX4_fromWhere 51 = .ok (.iload_n 1, 1) := d_of dm_X4_fromWhere_c25 4 (q := (51, .iload_n 1, 1)) rfl
theorem dX4_fromWhere_52 : decode cX4_fromWhere 52 = .ok (.iaload, 1) := d_of dm_X4_fromWhere_c25 5 (q := (52, .iaload, 1)) rfl
theorem dX4_fromWhere_53 : decode cX4_fromWhere 53 = .ok (.if_icmp .ne 13, 3) := d_of dm_X4_fromWhere_c25 6 (q := (53, .if_icmp .ne 13, 3)) rfl
theorem dX4_fromWhere_56 : decode cX4_fromWhere 56 = .ok (.iload_n 3, 1) := d_of dm_X4_fromWhere_c25 7 (q := (56, .iload_n 3, 1)) rfl
theorem dX4_fromWhere_57 : decode cX4_fromWhere 57 = .ok (.aload_n 0, 1) := d_of dm_X4_fromWhere_c25 8 (q := (57, .aload_n 0, 1)) rfl
theorem dX4_fromWhere_58 : decode cX4_fromWhere 58 = .ok (.iload 4, 2) := d_of dm_X4_fromWhere_c25 9 (q := (58, .iload 4, 2)) rfl
theorem dX4_fromWhere_60 : decode cX4_fromWhere 60 = .ok (.iload_n 2, 1) := d_of dm_X4_fromWhere_c25 10 (q := (60, .iload_n 2, 1)) rfl
theorem dX4_fromWhere_61 : decode cX4_fromWhere 61 = .ok (.invokevirtual 136, 3) := d_of dm_X4_fromWhere_c25 11 (q := (61, .invokevirtual 136, 3)) rfl
theorem dX4_fromWhere_64 : decode cX4_fromWhere 64 = .ok (.ior, 1) := d_of dm_X4_fromWhere_c25 12 (q := (64, .ior, 1)) rfl
theorem dX4_fromWhere_65 : decode cX4_fromWhere 65 = .ok (.istore_n 3, 1) := d_of dm_X4_fromWhere_c25 13 (q := (65, .istore_n 3, 1)) rfl
theorem dX4_fromWhere_66 : decode cX4_fromWhere 66 = .ok (.iinc 4 1, 3) := d_of dm_X4_fromWhere_c25 14 (q := (66, .iinc 4 1, 3)) rfl
theorem dX4_fromWhere_69 : decode cX4_fromWhere 69 = .ok (.goto (-49), 3) := d_of dm_X4_fromWhere_c25 15 (q := (69, .goto (-49), 3)) rfl
theorem dX4_fromWhere_72 : decode cX4_fromWhere 72 = .ok (.iload_n 3, 1) := d_of dm_X4_fromWhere_c25 16 (q := (72, .iload_n 3, 1)) rfl
theorem dX4_fromWhere_73 : decode cX4_fromWhere 73 = .ok (.ireturn, 1) := d_of dm_X4_fromWhere_c25 17 (q := (73, .ireturn, 1)) rfl
def dl_X4_look_c0 : List (Nat × Instr × Nat) := [(0, .iconst 0, 1), (1, .istore_n 2, 1), (2, .iload_n 2, 1), (3, .aload_n 0, 1), (4, .getfield 52, 3), (7, .if_icmp .ge 21, 3), (10, .aload_n 0, 1), (11, .getfield 46, 3), (14, .iload_n 2, 1), (15, .aload_n 0, 1), (16, .iload_n 2, 1), (17, .iload_n 1, 1), (18, .invokevirtual 139, 3), (21, .iastore, 1), (22, .iinc 2 1, 3), (25, .goto (-23), 3), (28, .return_, 1)]
set_option maxRecDepth 100000 in
theorem dm_X4_look_c0 : dl_X4_look_c0.all (fun q => decide (decode cX4_look q.1 = .ok q.2)) = true := by decide +kernel
theorem dX4_look_0 : decode cX4_look 0 = .ok (.iconst 0, 1) := d_of dm_X4_look_c0 0 (q := (0, .iconst 0, 1)) rfl
theorem dX4_look_1 : decode cX4_look 1 = .ok (.istore_n 2, 1) := d_of dm_X4_look_c0 1 (q := (1, .istore_n 2, 1)) rfl
theorem dX4_look_2 : decode cX4_look 2 = .ok (.iload_n 2, 1) := d_of dm_X4_look_c0 2 (q := (2, .iload_n 2, 1)) rfl
theorem dX4_look_3 : decode cX4_look 3 = .ok (.aload_n 0, 1) := d_of dm_X4_look_c0 3 (q := (3, .aload_n 0, 1)) rfl
theorem dX4_look_4 : decode cX4_look 4 = .ok (.getfield 52, 3) := d_of dm_X4_look_c0 4 (q := (4, .getfield 52, 3)) rfl
theorem dX4_look_7 : decode cX4_look 7 = .ok (.if_icmp .ge 21, 3) := d_of dm_X4_look_c0 5 (q := (7, .if_icmp .ge 21, 3)) rfl
theorem dX4_look_10 : decode cX4_look 10 = .ok (.aload_n 0, 1) := d_of dm_X4_look_c0 6 (q := (10, .aload_n 0, 1)) rfl
theorem dX4_look_11 : decode cX4_look 11 = .ok (.getfield 46, 3) := d_of dm_X4_look_c0 7 (q := (11, .getfield 46, 3)) rfl
theorem dX4_look_14 : decode cX4_look 14 = .ok (.iload_n 2, 1) := d_of dm_X4_look_c0 8 (q := (14, .iload_n 2, 1)) rfl
theorem dX4_look_15 : decode cX4_look 15 = .ok (.aload_n 0, 1) := d_of dm_X4_look_c0 9 (q := (15, .aload_n 0, 1)) rfl
theorem dX4_look_16 : decode cX4_look 16 = .ok (.iload_n 2, 1) := d_of dm_X4_look_c0 10 (q := (16, .iload_n 2, 1)) rfl
theorem dX4_look_17 : decode cX4_look 17 = .ok (.iload_n 1, 1) := d_of dm_X4_look_c0 11 (q := (17, .iload_n 1, 1)) rfl
theorem dX4_look_18 : decode cX4_look 18 = .ok (.invokevirtual 139, 3) := d_of dm_X4_look_c0 12 (q := (18, .invokevirtual 139, 3)) rfl
theorem dX4_look_21 : decode cX4_look 21 = .ok (.iastore, 1) := d_of dm_X4_look_c0 13 (q := (21, .iastore, 1)) rfl
theorem dX4_look_22 : decode cX4_look 22 = .ok (.iinc 2 1, 3) := d_of dm_X4_look_c0 14 (q := (22, .iinc 2 1, 3)) rfl
theorem dX4_look_25 : decode cX4_look 25 = .ok (.goto (-23), 3) := d_of dm_X4_look_c0 15 (q := (25, .goto (-23), 3)) rfl
theorem dX4_look_28 : decode cX4_look 28 = .ok (.return_, 1) := d_of dm_X4_look_c0 16 (q := (28, .return_, 1)) rfl
def dl_X4_sinsIn_c0 : List (Nat × Instr × Nat) := [(0, .aload_n 0, 1), (1, .iload_n 1, 1), (2, .invokevirtual 142, 3), (5, .iconst 0, 1), (6, .istore_n 2, 1), (7, .iconst 0, 1), (8, .istore_n 3, 1), (9, .aload_n 0, 1), (10, .getfield 52, 3), (13, .iconst 1, 1), (14, .isub, 1), (15, .istore 4, 2), (17, .iload 4, 2), (19, .ifCond .lt 58, 3), (22, .aload_n 0, 1), (23, .getfield 22, 3), (26, .iload 4, 2), (28, .iaload, 1), (29, .istore 5, 2), (31, .iload 5, 2), (33, .iload 4, 2), (35, .if_icmp .lt 36, 3), (38, .aload_n 0, 1), (39, .getfield 46, 3), (42, .iload 4, 2)]
set_option maxRecDepth 100000 in
theorem dm_X4_sinsIn_c0 : dl_X4_sinsIn_c0.all (fun q => decide (decode cX4_sinsIn q.1 = .ok q.2)) = true := by decide +kernel
theorem dX4_sinsIn_0 : decode cX4_sinsIn 0 = .ok (.aload_n 0, 1) := d_of dm_X4_sinsIn_c0 0 (q := (0, .aload_n 0, 1)) rfl
theorem dX4_sinsIn_1 : decode cX4_sinsIn 1 = .ok (.iload_n 1, 1) := d_of dm_X4_sinsIn_c0 1 (q := (1, .iload_n 1, 1)) rfl
theorem dX4_sinsIn_2 : decode cX4_sinsIn 2 = .ok (.invokevirtual 142, 3) := d_of dm_X4_sinsIn_c0 2 (q := (2, .invokevirtual 142, 3)) rfl
theorem dX4_sinsIn_5 : decode cX4_sinsIn 5 = .ok (.iconst 0, 1) := d_of dm_X4_sinsIn_c0 3 (q := (5, .iconst 0, 1)) rfl
theorem dX4_sinsIn_6 : decode cX4_sinsIn 6 = .ok (.istore_n 2, 1) := d_of dm_X4_sinsIn_c0 4 (q := (6, .istore_n 2, 1)) rfl
theorem dX4_sinsIn_7 : decode cX4_sinsIn 7 = .ok (.iconst 0, 1) := d_of dm_X4_sinsIn_c0 5 (q := (7, .iconst 0, 1)) rfl
theorem dX4_sinsIn_8 : decode cX4_sinsIn 8 = .ok (.istore_n 3, 1) := d_of dm_X4_sinsIn_c0 6 (q := (8, .istore_n 3, 1)) rfl
theorem dX4_sinsIn_9 : decode cX4_sinsIn 9 = .ok (.aload_n 0, 1) := d_of dm_X4_sinsIn_c0 7 (q := (9, .aload_n 0, 1)) rfl
theorem dX4_sinsIn_10 : decode cX4_sinsIn 10 = .ok (.getfield 52, 3) := d_of dm_X4_sinsIn_c0 8 (q := (10, .getfield 52, 3)) rfl
theorem dX4_sinsIn_13 : decode cX4_sinsIn 13 = .ok (.iconst 1, 1) := d_of dm_X4_sinsIn_c0 9 (q := (13, .iconst 1, 1)) rfl
theorem dX4_sinsIn_14 : decode cX4_sinsIn 14 = .ok (.isub, 1) := d_of dm_X4_sinsIn_c0 10 (q := (14, .isub, 1)) rfl
theorem dX4_sinsIn_15 : decode cX4_sinsIn 15 = .ok (.istore 4, 2) := d_of dm_X4_sinsIn_c0 11 (q := (15, .istore 4, 2)) rfl
theorem dX4_sinsIn_17 : decode cX4_sinsIn 17 = .ok (.iload 4, 2) := d_of dm_X4_sinsIn_c0 12 (q := (17, .iload 4, 2)) rfl
theorem dX4_sinsIn_19 : decode cX4_sinsIn 19 = .ok (.ifCond .lt 58, 3) := d_of dm_X4_sinsIn_c0 13 (q := (19, .ifCond .lt 58, 3)) rfl
theorem dX4_sinsIn_22 : decode cX4_sinsIn 22 = .ok (.aload_n 0, 1) := d_of dm_X4_sinsIn_c0 14 (q := (22, .aload_n 0, 1)) rfl
theorem dX4_sinsIn_23 : decode cX4_sinsIn 23 = .ok (.getfield 22, 3) := d_of dm_X4_sinsIn_c0 15 (q := (23, .getfield 22, 3)) rfl
theorem dX4_sinsIn_26 : decode cX4_sinsIn 26 = .ok (.iload 4, 2) := d_of dm_X4_sinsIn_c0 16 (q := (26, .iload 4, 2)) rfl
theorem dX4_sinsIn_28 : decode cX4_sinsIn 28 = .ok (.iaload, 1) := d_of dm_X4_sinsIn_c0 17 (q := (28, .iaload, 1)) rfl
theorem dX4_sinsIn_29 : decode cX4_sinsIn 29 = .ok (.istore 5, 2) := d_of dm_X4_sinsIn_c0 18 (q := (29, .istore 5, 2)) rfl
theorem dX4_sinsIn_31 : decode cX4_sinsIn 31 = .ok (.iload 5, 2) := d_of dm_X4_sinsIn_c0 19 (q := (31, .iload 5, 2)) rfl
theorem dX4_sinsIn_33 : decode cX4_sinsIn 33 = .ok (.iload 4, 2) := d_of dm_X4_sinsIn_c0 20 (q := (33, .iload 4, 2)) rfl
theorem dX4_sinsIn_35 : decode cX4_sinsIn 35 = .ok (.if_icmp .lt 36, 3) := d_of dm_X4_sinsIn_c0 21 (q := (35, .if_icmp .lt 36, 3)) rfl
theorem dX4_sinsIn_38 : decode cX4_sinsIn 38 = .ok (.aload_n 0, 1) := d_of dm_X4_sinsIn_c0 22 (q := (38, .aload_n 0, 1)) rfl
theorem dX4_sinsIn_39 : decode cX4_sinsIn 39 = .ok (.getfield 46, 3) := d_of dm_X4_sinsIn_c0 23 (q := (39, .getfield 46, 3)) rfl
theorem dX4_sinsIn_42 : decode cX4_sinsIn 42 = .ok (.iload 4, 2) := d_of dm_X4_sinsIn_c0 24 (q := (42, .iload 4, 2)) rfl
def dl_X4_sinsIn_c25 : List (Nat × Instr × Nat) := [(44, .iaload, 1), (45, .aload_n 0, 1), (46, .getfield 46, 3), (49, .iload 5, 2), (51, .iaload, 1), (52, .iand, 1), (53, .ifCond .ne 6, 3), (56, .goto 15, 3), (59, .iinc 2 1, 3), (62, .bipush 10, 2), (64, .iload 4, 2), (66, .imul, 1), (67, .iload 5, 2), (69, .iadd, 1), (70, .istore_n 3, 1), (71, .iinc 4 (-1), 3), (74, .goto (-57), 3), (77, .bipush 100, 2), (79, .iload_n 2, 1), (80, .imul, 1), (81, .iload_n 3, 1), (82, .iadd, 1), (83, .ireturn, 1)]
set_option maxRecDepth 100000 in
theorem dm_X4_sinsIn_c25 : dl_X4_sinsIn_c25.all (fun q => decide (decode cX4_sinsIn q.1 = .ok q.2)) = true := by decide +kernel
theorem dX4_sinsIn_44 : decode cX4_sinsIn 44 = .ok (.iaload, 1) := d_of dm_X4_sinsIn_c25 0 (q := (44, .iaload, 1)) rfl
theorem dX4_sinsIn_45 : decode cX4_sinsIn 45 = .ok (.aload_n 0, 1) := d_of dm_X4_sinsIn_c25 1 (q := (45, .aload_n 0, 1)) rfl
theorem dX4_sinsIn_46 : decode cX4_sinsIn 46 = .ok (.getfield 46, 3) := d_of dm_X4_sinsIn_c25 2 (q := (46, .getfield 46, 3)) rfl
theorem dX4_sinsIn_49 : decode cX4_sinsIn 49 = .ok (.iload 5, 2) := d_of dm_X4_sinsIn_c25 3 (q := (49, .iload 5, 2)) rfl
theorem dX4_sinsIn_51 : decode cX4_sinsIn 51 = .ok (.iaload, 1) := d_of dm_X4_sinsIn_c25 4 (q := (51, .iaload, 1)) rfl
theorem dX4_sinsIn_52 : decode cX4_sinsIn 52 = .ok (.iand, 1) := d_of dm_X4_sinsIn_c25 5 (q := (52, .iand, 1)) rfl
theorem dX4_sinsIn_53 : decode cX4_sinsIn 53 = .ok (.ifCond .ne 6, 3) := d_of dm_X4_sinsIn_c25 6 (q := (53, .ifCond .ne 6, 3)) rfl
theorem dX4_sinsIn_56 : decode cX4_sinsIn 56 = .ok (.goto 15, 3) := d_of dm_X4_sinsIn_c25 7 (q := (56, .goto 15, 3)) rfl
theorem dX4_sinsIn_59 : decode cX4_sinsIn 59 = .ok (.iinc 2 1, 3) := d_of dm_X4_sinsIn_c25 8 (q := (59, .iinc 2 1, 3)) rfl
theorem dX4_sinsIn_62 : decode cX4_sinsIn 62 = .ok (.bipush 10, 2) := d_of dm_X4_sinsIn_c25 9 (q := (62, .bipush 10, 2)) rfl
theorem dX4_sinsIn_64 : decode cX4_sinsIn 64 = .ok (.iload 4, 2) := d_of dm_X4_sinsIn_c25 10 (q := (64, .iload 4, 2)) rfl
theorem dX4_sinsIn_66 : decode cX4_sinsIn 66 = .ok (.imul, 1) := d_of dm_X4_sinsIn_c25 11 (q := (66, .imul, 1)) rfl
theorem dX4_sinsIn_67 : decode cX4_sinsIn 67 = .ok (.iload 5, 2) := d_of dm_X4_sinsIn_c25 12 (q := (67, .iload 5, 2)) rfl
theorem dX4_sinsIn_69 : decode cX4_sinsIn 69 = .ok (.iadd, 1) := d_of dm_X4_sinsIn_c25 13 (q := (69, .iadd, 1)) rfl
theorem dX4_sinsIn_70 : decode cX4_sinsIn 70 = .ok (.istore_n 3, 1) := d_of dm_X4_sinsIn_c25 14 (q := (70, .istore_n 3, 1)) rfl
theorem dX4_sinsIn_71 : decode cX4_sinsIn 71 = .ok (.iinc 4 (-1), 3) := d_of dm_X4_sinsIn_c25 15 (q := (71, .iinc 4 (-1), 3)) rfl
theorem dX4_sinsIn_74 : decode cX4_sinsIn 74 = .ok (.goto (-57), 3) := d_of dm_X4_sinsIn_c25 16 (q := (74, .goto (-57), 3)) rfl
theorem dX4_sinsIn_77 : decode cX4_sinsIn 77 = .ok (.bipush 100, 2) := d_of dm_X4_sinsIn_c25 17 (q := (77, .bipush 100, 2)) rfl
theorem dX4_sinsIn_79 : decode cX4_sinsIn 79 = .ok (.iload_n 2, 1) := d_of dm_X4_sinsIn_c25 18 (q := (79, .iload_n 2, 1)) rfl
theorem dX4_sinsIn_80 : decode cX4_sinsIn 80 = .ok (.imul, 1) := d_of dm_X4_sinsIn_c25 19 (q := (80, .imul, 1)) rfl
theorem dX4_sinsIn_81 : decode cX4_sinsIn 81 = .ok (.iload_n 3, 1) := d_of dm_X4_sinsIn_c25 20 (q := (81, .iload_n 3, 1)) rfl
theorem dX4_sinsIn_82 : decode cX4_sinsIn 82 = .ok (.iadd, 1) := d_of dm_X4_sinsIn_c25 21 (q := (82, .iadd, 1)) rfl
theorem dX4_sinsIn_83 : decode cX4_sinsIn 83 = .ok (.ireturn, 1) := d_of dm_X4_sinsIn_c25 22 (q := (83, .ireturn, 1)) rfl
def dl_X4_seen_c0 : List (Nat × Instr × Nat) := [(0, .iload_n 1, 1), (1, .invokestatic 105, 3), (4, .ifCond .ne 9, 3), (7, .aload_n 0, 1), (8, .iconst (-1), 1), (9, .invokevirtual 63, 3), (12, .ireturn, 1), (13, .iload_n 2, 1), (14, .ifCond .ge 10, 3), (17, .aload_n 0, 1), (18, .bipush (-4), 2), (20, .invokevirtual 63, 3), (23, .ireturn, 1), (24, .iload_n 2, 1), (25, .bipush 7, 2), (27, .if_icmp .le 10, 3), (30, .aload_n 0, 1), (31, .bipush (-6), 2), (33, .invokevirtual 63, 3), (36, .ireturn, 1), (37, .iconst 0, 1), (38, .istore_n 3, 1), (39, .iconst 0, 1), (40, .istore 4, 2), (42, .iload 4, 2)]
set_option maxRecDepth 100000 in
theorem dm_X4_seen_c0 : dl_X4_seen_c0.all (fun q => decide (decode cX4_seen q.1 = .ok q.2)) = true := by decide +kernel
theorem dX4_seen_0 : decode cX4_seen 0 = .ok (.iload_n 1, 1) := d_of dm_X4_seen_c0 0 (q := (0, .iload_n 1, 1)) rfl
theorem dX4_seen_1 : decode cX4_seen 1 = .ok (.invokestatic 105, 3) := d_of dm_X4_seen_c0 1 (q := (1, .invokestatic 105, 3)) rfl
theorem dX4_seen_4 : decode cX4_seen 4 = .ok (.ifCond .ne 9, 3) := d_of dm_X4_seen_c0 2 (q := (4, .ifCond .ne 9, 3)) rfl
theorem dX4_seen_7 : decode cX4_seen 7 = .ok (.aload_n 0, 1) := d_of dm_X4_seen_c0 3 (q := (7, .aload_n 0, 1)) rfl
theorem dX4_seen_8 : decode cX4_seen 8 = .ok (.iconst (-1), 1) := d_of dm_X4_seen_c0 4 (q := (8, .iconst (-1), 1)) rfl
theorem dX4_seen_9 : decode cX4_seen 9 = .ok (.invokevirtual 63, 3) := d_of dm_X4_seen_c0 5 (q := (9, .invokevirtual 63, 3)) rfl
theorem dX4_seen_12 : decode cX4_seen 12 = .ok (.ireturn, 1) := d_of dm_X4_seen_c0 6 (q := (12, .ireturn, 1)) rfl
theorem dX4_seen_13 : decode cX4_seen 13 = .ok (.iload_n 2, 1) := d_of dm_X4_seen_c0 7 (q := (13, .iload_n 2, 1)) rfl
theorem dX4_seen_14 : decode cX4_seen 14 = .ok (.ifCond .ge 10, 3) := d_of dm_X4_seen_c0 8 (q := (14, .ifCond .ge 10, 3)) rfl
theorem dX4_seen_17 : decode cX4_seen 17 = .ok (.aload_n 0, 1) := d_of dm_X4_seen_c0 9 (q := (17, .aload_n 0, 1)) rfl
theorem dX4_seen_18 : decode cX4_seen 18 = .ok (.bipush (-4), 2) := d_of dm_X4_seen_c0 10 (q := (18, .bipush (-4), 2)) rfl
theorem dX4_seen_20 : decode cX4_seen 20 = .ok (.invokevirtual 63, 3) := d_of dm_X4_seen_c0 11 (q := (20, .invokevirtual 63, 3)) rfl
theorem dX4_seen_23 : decode cX4_seen 23 = .ok (.ireturn, 1) := d_of dm_X4_seen_c0 12 (q := (23, .ireturn, 1)) rfl
theorem dX4_seen_24 : decode cX4_seen 24 = .ok (.iload_n 2, 1) := d_of dm_X4_seen_c0 13 (q := (24, .iload_n 2, 1)) rfl
theorem dX4_seen_25 : decode cX4_seen 25 = .ok (.bipush 7, 2) := d_of dm_X4_seen_c0 14 (q := (25, .bipush 7, 2)) rfl
theorem dX4_seen_27 : decode cX4_seen 27 = .ok (.if_icmp .le 10, 3) := d_of dm_X4_seen_c0 15 (q := (27, .if_icmp .le 10, 3)) rfl
theorem dX4_seen_30 : decode cX4_seen 30 = .ok (.aload_n 0, 1) := d_of dm_X4_seen_c0 16 (q := (30, .aload_n 0, 1)) rfl
theorem dX4_seen_31 : decode cX4_seen 31 = .ok (.bipush (-6), 2) := d_of dm_X4_seen_c0 17 (q := (31, .bipush (-6), 2)) rfl
theorem dX4_seen_33 : decode cX4_seen 33 = .ok (.invokevirtual 63, 3) := d_of dm_X4_seen_c0 18 (q := (33, .invokevirtual 63, 3)) rfl
theorem dX4_seen_36 : decode cX4_seen 36 = .ok (.ireturn, 1) := d_of dm_X4_seen_c0 19 (q := (36, .ireturn, 1)) rfl
theorem dX4_seen_37 : decode cX4_seen 37 = .ok (.iconst 0, 1) := d_of dm_X4_seen_c0 20 (q := (37, .iconst 0, 1)) rfl
theorem dX4_seen_38 : decode cX4_seen 38 = .ok (.istore_n 3, 1) := d_of dm_X4_seen_c0 21 (q := (38, .istore_n 3, 1)) rfl
theorem dX4_seen_39 : decode cX4_seen 39 = .ok (.iconst 0, 1) := d_of dm_X4_seen_c0 22 (q := (39, .iconst 0, 1)) rfl
theorem dX4_seen_40 : decode cX4_seen 40 = .ok (.istore 4, 2) := d_of dm_X4_seen_c0 23 (q := (40, .istore 4, 2)) rfl
theorem dX4_seen_42 : decode cX4_seen 42 = .ok (.iload 4, 2) := d_of dm_X4_seen_c0 24 (q := (42, .iload 4, 2)) rfl
def dl_X4_seen_c25 : List (Nat × Instr × Nat) := [(44, .aload_n 0, 1), (45, .getfield 52, 3), (48, .if_icmp .ge 30, 3), (51, .aload_n 0, 1), (52, .iload 4, 2), (54, .iload_n 2, 1), (55, .invokevirtual 139, 3), (58, .iload_n 1, 1), (59, .invokestatic 129, 3), (62, .ifCond .eq 10, 3), (65, .iload_n 3, 1), (66, .iconst 1, 1), (67, .iload 4, 2), (69, .ishl, 1), (70, .ior, 1), (71, .istore_n 3, 1), (72, .iinc 4 1, 3), (75, .goto (-33), 3), (78, .iload_n 3, 1), (79, .ireturn, 1)]
set_option maxRecDepth 100000 in
theorem dm_X4_seen_c25 : dl_X4_seen_c25.all (fun q => decide (decode cX4_seen q.1 = .ok q.2)) = true := by decide +kernel
theorem dX4_seen_44 : decode cX4_seen 44 = .ok (.aload_n 0, 1) := d_of dm_X4_seen_c25 0 (q := (44, .aload_n 0, 1)) rfl
theorem dX4_seen_45 : decode cX4_seen 45 = .ok (.getfield 52, 3) := d_of dm_X4_seen_c25 1 (q := (45, .getfield 52, 3)) rfl
theorem dX4_seen_48 : decode cX4_seen 48 = .ok (.if_icmp .ge 30, 3) := d_of dm_X4_seen_c25 2 (q := (48, .if_icmp .ge 30, 3)) rfl
theorem dX4_seen_51 : decode cX4_seen 51 = .ok (.aload_n 0, 1) := d_of dm_X4_seen_c25 3 (q := (51, .aload_n 0, 1)) rfl
theorem dX4_seen_52 : decode cX4_seen 52 = .ok (.iload 4, 2) := d_of dm_X4_seen_c25 4 (q := (52, .iload 4, 2)) rfl
theorem dX4_seen_54 : decode cX4_seen 54 = .ok (.iload_n 2, 1) := d_of dm_X4_seen_c25 5 (q := (54, .iload_n 2, 1)) rfl
theorem dX4_seen_55 : decode cX4_seen 55 = .ok (.invokevirtual 139, 3) := d_of dm_X4_seen_c25 6 (q := (55, .invokevirtual 139, 3)) rfl
theorem dX4_seen_58 : decode cX4_seen 58 = .ok (.iload_n 1, 1) := d_of dm_X4_seen_c25 7 (q := (58, .iload_n 1, 1)) rfl
theorem dX4_seen_59 : decode cX4_seen 59 = .ok (.invokestatic 129, 3) := d_of dm_X4_seen_c25 8 (q := (59, .invokestatic 129, 3)) rfl
theorem dX4_seen_62 : decode cX4_seen 62 = .ok (.ifCond .eq 10, 3) := d_of dm_X4_seen_c25 9 (q := (62, .ifCond .eq 10, 3)) rfl
theorem dX4_seen_65 : decode cX4_seen 65 = .ok (.iload_n 3, 1) := d_of dm_X4_seen_c25 10 (q := (65, .iload_n 3, 1)) rfl
theorem dX4_seen_66 : decode cX4_seen 66 = .ok (.iconst 1, 1) := d_of dm_X4_seen_c25 11 (q := (66, .iconst 1, 1)) rfl
theorem dX4_seen_67 : decode cX4_seen 67 = .ok (.iload 4, 2) := d_of dm_X4_seen_c25 12 (q := (67, .iload 4, 2)) rfl
theorem dX4_seen_69 : decode cX4_seen 69 = .ok (.ishl, 1) := d_of dm_X4_seen_c25 13 (q := (69, .ishl, 1)) rfl
theorem dX4_seen_70 : decode cX4_seen 70 = .ok (.ior, 1) := d_of dm_X4_seen_c25 14 (q := (70, .ior, 1)) rfl
theorem dX4_seen_71 : decode cX4_seen 71 = .ok (.istore_n 3, 1) := d_of dm_X4_seen_c25 15 (q := (71, .istore_n 3, 1)) rfl
theorem dX4_seen_72 : decode cX4_seen 72 = .ok (.iinc 4 1, 3) := d_of dm_X4_seen_c25 16 (q := (72, .iinc 4 1, 3)) rfl
theorem dX4_seen_75 : decode cX4_seen 75 = .ok (.goto (-33), 3) := d_of dm_X4_seen_c25 17 (q := (75, .goto (-33), 3)) rfl
theorem dX4_seen_78 : decode cX4_seen 78 = .ok (.iload_n 3, 1) := d_of dm_X4_seen_c25 18 (q := (78, .iload_n 3, 1)) rfl
theorem dX4_seen_79 : decode cX4_seen 79 = .ok (.ireturn, 1) := d_of dm_X4_seen_c25 19 (q := (79, .ireturn, 1)) rfl
def dl_X4_from_c0 : List (Nat × Instr × Nat) := [(0, .aload_n 0, 1), (1, .iload_n 1, 1), (2, .invokevirtual 112, 3), (5, .ifCond .ne 9, 3), (8, .aload_n 0, 1), (9, .iconst (-1), 1), (10, .invokevirtual 63, 3), (13, .ireturn, 1), (14, .iload_n 2, 1), (15, .ifCond .ge 10, 3), (18, .aload_n 0, 1), (19, .bipush (-4), 2), (21, .invokevirtual 63, 3), (24, .ireturn, 1), (25, .iload_n 2, 1), (26, .bipush 7, 2), (28, .if_icmp .le 12, 3), (31, .aload_n 0, 1), (32, .bipush (-6), 2), (34, .invokevirtual 63, 3), (37, .goto 9, 3), (40, .aload_n 0, 1), (41, .iload_n 1, 1), (42, .iload_n 2, 1), (43, .invokevirtual 139, 3)]
set_option maxRecDepth 100000 in
theorem dm_X4_from_c0 : dl_X4_from_c0.all (fun q => decide (decode cX4_from q.1 = .ok q.2)) = true := by decide +kernel
theorem dX4_from_0 : decode cX4_from 0 = .ok (.aload_n 0, 1) := d_of dm_X4_from_c0 0 (q := (0, .aload_n 0, 1)) rfl
theorem dX4_from_1 : decode cX4_from 1 = .ok (.iload_n 1, 1) := d_of dm_X4_from_c0 1 (q := (1, .iload_n 1, 1)) rfl
theorem dX4_from_2 : decode cX4_from 2 = .ok (.invokevirtual 112, 3) := d_of dm_X4_from_c0 2 (q := (2, .invokevirtual 112, 3)) rfl
theorem dX4_from_5 : decode cX4_from 5 = .ok (.ifCond .ne 9, 3) := d_of dm_X4_from_c0 3 (q := (5, .ifCond .ne 9, 3)) rfl
theorem dX4_from_8 : decode cX4_from 8 = .ok (.aload_n 0, 1) := d_of dm_X4_from_c0 4 (q := (8, .aload_n 0, 1)) rfl
theorem dX4_from_9 : decode cX4_from 9 = .ok (.iconst (-1), 1) := d_of dm_X4_from_c0 5 (q := (9, .iconst (-1), 1)) rfl
theorem dX4_from_10 : decode cX4_from 10 = .ok (.invokevirtual 63, 3) := d_of dm_X4_from_c0 6 (q := (10, .invokevirtual 63, 3)) rfl
theorem dX4_from_13 : decode cX4_from 13 = .ok (.ireturn, 1) := d_of dm_X4_from_c0 7 (q := (13, .ireturn, 1)) rfl
theorem dX4_from_14 : decode cX4_from 14 = .ok (.iload_n 2, 1) := d_of dm_X4_from_c0 8 (q := (14, .iload_n 2, 1)) rfl
theorem dX4_from_15 : decode cX4_from 15 = .ok (.ifCond .ge 10, 3) := d_of dm_X4_from_c0 9 (q := (15, .ifCond .ge 10, 3)) rfl
theorem dX4_from_18 : decode cX4_from 18 = .ok (.aload_n 0, 1) := d_of dm_X4_from_c0 10 (q := (18, .aload_n 0, 1)) rfl
theorem dX4_from_19 : decode cX4_from 19 = .ok (.bipush (-4), 2) := d_of dm_X4_from_c0 11 (q := (19, .bipush (-4), 2)) rfl
theorem dX4_from_21 : decode cX4_from 21 = .ok (.invokevirtual 63, 3) := d_of dm_X4_from_c0 12 (q := (21, .invokevirtual 63, 3)) rfl
theorem dX4_from_24 : decode cX4_from 24 = .ok (.ireturn, 1) := d_of dm_X4_from_c0 13 (q := (24, .ireturn, 1)) rfl
theorem dX4_from_25 : decode cX4_from 25 = .ok (.iload_n 2, 1) := d_of dm_X4_from_c0 14 (q := (25, .iload_n 2, 1)) rfl
theorem dX4_from_26 : decode cX4_from 26 = .ok (.bipush 7, 2) := d_of dm_X4_from_c0 15 (q := (26, .bipush 7, 2)) rfl
theorem dX4_from_28 : decode cX4_from 28 = .ok (.if_icmp .le 12, 3) := d_of dm_X4_from_c0 16 (q := (28, .if_icmp .le 12, 3)) rfl
theorem dX4_from_31 : decode cX4_from 31 = .ok (.aload_n 0, 1) := d_of dm_X4_from_c0 17 (q := (31, .aload_n 0, 1)) rfl
theorem dX4_from_32 : decode cX4_from 32 = .ok (.bipush (-6), 2) := d_of dm_X4_from_c0 18 (q := (32, .bipush (-6), 2)) rfl
theorem dX4_from_34 : decode cX4_from 34 = .ok (.invokevirtual 63, 3) := d_of dm_X4_from_c0 19 (q := (34, .invokevirtual 63, 3)) rfl
theorem dX4_from_37 : decode cX4_from 37 = .ok (.goto 9, 3) := d_of dm_X4_from_c0 20 (q := (37, .goto 9, 3)) rfl
theorem dX4_from_40 : decode cX4_from 40 = .ok (.aload_n 0, 1) := d_of dm_X4_from_c0 21 (q := (40, .aload_n 0, 1)) rfl
theorem dX4_from_41 : decode cX4_from 41 = .ok (.iload_n 1, 1) := d_of dm_X4_from_c0 22 (q := (41, .iload_n 1, 1)) rfl
theorem dX4_from_42 : decode cX4_from 42 = .ok (.iload_n 2, 1) := d_of dm_X4_from_c0 23 (q := (42, .iload_n 2, 1)) rfl
theorem dX4_from_43 : decode cX4_from 43 = .ok (.invokevirtual 139, 3) := d_of dm_X4_from_c0 24 (q := (43, .invokevirtual 139, 3)) rfl
def dl_X4_from_c25 : List (Nat × Instr × Nat) := [(46, .ireturn, 1)]
set_option maxRecDepth 100000 in
theorem dm_X4_from_c25 : dl_X4_from_c25.all (fun q => decide (decode cX4_from q.1 = .ok q.2)) = true := by decide +kernel
theorem dX4_from_46 : decode cX4_from 46 = .ok (.ireturn, 1) := d_of dm_X4_from_c25 0 (q := (46, .ireturn, 1)) rfl
def dl_X4_sins_c0 : List (Nat × Instr × Nat) := [(0, .iload_n 1, 1), (1, .ifCond .ge 10, 3), (4, .aload_n 0, 1), (5, .bipush (-4), 2), (7, .invokevirtual 63, 3), (10, .ireturn, 1), (11, .iload_n 1, 1), (12, .bipush 7, 2), (14, .if_icmp .le 10, 3), (17, .aload_n 0, 1), (18, .bipush (-6), 2), (20, .invokevirtual 63, 3), (23, .ireturn, 1), (24, .iload_n 2, 1), (25, .iconst 0, 1), (26, .iconst 1, 1), (27, .invokestatic 56, 3), (30, .ifCond .ne 10, 3), (33, .aload_n 0, 1), (34, .bipush (-2), 2), (36, .invokevirtual 63, 3), (39, .ireturn, 1), (40, .aload_n 0, 1), (41, .iload_n 1, 1), (42, .invokevirtual 146, 3)]
set_option maxRecDepth 100000 in
theorem dm_X4_sins_c0 : dl_X4_sins_c0.all (fun q => decide (decode cX4_sins q.1 = .ok q.2)) = true := by decide +kernel
theorem dX4_sins_0 : decode cX4_sins 0 = .ok (.iload_n 1, 1) := d_of dm_X4_sins_c0 0 (q := (0, .iload_n 1, 1)) rfl
theorem dX4_sins_1 : decode cX4_sins 1 = .ok (.ifCond .ge 10, 3) := d_of dm_X4_sins_c0 1 (q := (1, .ifCond .ge 10, 3)) rfl
theorem dX4_sins_4 : decode cX4_sins 4 = .ok (.aload_n 0, 1) := d_of dm_X4_sins_c0 2 (q := (4, .aload_n 0, 1)) rfl
theorem dX4_sins_5 : decode cX4_sins 5 = .ok (.bipush (-4), 2) := d_of dm_X4_sins_c0 3 (q := (5, .bipush (-4), 2)) rfl
theorem dX4_sins_7 : decode cX4_sins 7 = .ok (.invokevirtual 63, 3) := d_of dm_X4_sins_c0 4 (q := (7, .invokevirtual 63, 3)) rfl
theorem dX4_sins_10 : decode cX4_sins 10 = .ok (.ireturn, 1) := d_of dm_X4_sins_c0 5 (q := (10, .ireturn, 1)) rfl
theorem dX4_sins_11 : decode cX4_sins 11 = .ok (.iload_n 1, 1) := d_of dm_X4_sins_c0 6 (q := (11, .iload_n 1, 1)) rfl
theorem dX4_sins_12 : decode cX4_sins 12 = .ok (.bipush 7, 2) := d_of dm_X4_sins_c0 7 (q := (12, .bipush 7, 2)) rfl
theorem dX4_sins_14 : decode cX4_sins 14 = .ok (.if_icmp .le 10, 3) := d_of dm_X4_sins_c0 8 (q := (14, .if_icmp .le 10, 3)) rfl
theorem dX4_sins_17 : decode cX4_sins 17 = .ok (.aload_n 0, 1) := d_of dm_X4_sins_c0 9 (q := (17, .aload_n 0, 1)) rfl
theorem dX4_sins_18 : decode cX4_sins 18 = .ok (.bipush (-6), 2) := d_of dm_X4_sins_c0 10 (q := (18, .bipush (-6), 2)) rfl
theorem dX4_sins_20 : decode cX4_sins 20 = .ok (.invokevirtual 63, 3) := d_of dm_X4_sins_c0 11 (q := (20, .invokevirtual 63, 3)) rfl
theorem dX4_sins_23 : decode cX4_sins 23 = .ok (.ireturn, 1) := d_of dm_X4_sins_c0 12 (q := (23, .ireturn, 1)) rfl
theorem dX4_sins_24 : decode cX4_sins 24 = .ok (.iload_n 2, 1) := d_of dm_X4_sins_c0 13 (q := (24, .iload_n 2, 1)) rfl
theorem dX4_sins_25 : decode cX4_sins 25 = .ok (.iconst 0, 1) := d_of dm_X4_sins_c0 14 (q := (25, .iconst 0, 1)) rfl
theorem dX4_sins_26 : decode cX4_sins 26 = .ok (.iconst 1, 1) := d_of dm_X4_sins_c0 15 (q := (26, .iconst 1, 1)) rfl
theorem dX4_sins_27 : decode cX4_sins 27 = .ok (.invokestatic 56, 3) := d_of dm_X4_sins_c0 16 (q := (27, .invokestatic 56, 3)) rfl
theorem dX4_sins_30 : decode cX4_sins 30 = .ok (.ifCond .ne 10, 3) := d_of dm_X4_sins_c0 17 (q := (30, .ifCond .ne 10, 3)) rfl
theorem dX4_sins_33 : decode cX4_sins 33 = .ok (.aload_n 0, 1) := d_of dm_X4_sins_c0 18 (q := (33, .aload_n 0, 1)) rfl
theorem dX4_sins_34 : decode cX4_sins 34 = .ok (.bipush (-2), 2) := d_of dm_X4_sins_c0 19 (q := (34, .bipush (-2), 2)) rfl
theorem dX4_sins_36 : decode cX4_sins 36 = .ok (.invokevirtual 63, 3) := d_of dm_X4_sins_c0 20 (q := (36, .invokevirtual 63, 3)) rfl
theorem dX4_sins_39 : decode cX4_sins 39 = .ok (.ireturn, 1) := d_of dm_X4_sins_c0 21 (q := (39, .ireturn, 1)) rfl
theorem dX4_sins_40 : decode cX4_sins 40 = .ok (.aload_n 0, 1) := d_of dm_X4_sins_c0 22 (q := (40, .aload_n 0, 1)) rfl
theorem dX4_sins_41 : decode cX4_sins 41 = .ok (.iload_n 1, 1) := d_of dm_X4_sins_c0 23 (q := (41, .iload_n 1, 1)) rfl
theorem dX4_sins_42 : decode cX4_sins 42 = .ok (.invokevirtual 146, 3) := d_of dm_X4_sins_c0 24 (q := (42, .invokevirtual 146, 3)) rfl
def dl_X4_sins_c25 : List (Nat × Instr × Nat) := [(45, .istore_n 3, 1), (46, .iload_n 2, 1), (47, .ifCond .ne 10, 3), (50, .iload_n 3, 1), (51, .bipush 100, 2), (53, .idiv, 1), (54, .goto 16, 3), (57, .iload_n 3, 1), (58, .ifCond .ne 8, 3), (61, .bipush (-9), 2), (63, .goto 7, 3), (66, .iload_n 3, 1), (67, .bipush 100, 2), (69, .irem, 1), (70, .ireturn, 1)]
set_option maxRecDepth 100000 in
theorem dm_X4_sins_c25 : dl_X4_sins_c25.all (fun q => decide (decode cX4_sins q.1 = .ok q.2)) = true := by decide +kernel
theorem dX4_sins_45 : decode cX4_sins 45 = .ok (.istore_n 3, 1) := d_of dm_X4_sins_c25 0 (q := (45, .istore_n 3, 1)) rfl
theorem dX4_sins_46 : decode cX4_sins 46 = .ok (.iload_n 2, 1) := d_of dm_X4_sins_c25 1 (q := (46, .iload_n 2, 1)) rfl
theorem dX4_sins_47 : decode cX4_sins 47 = .ok (.ifCond .ne 10, 3) := d_of dm_X4_sins_c25 2 (q := (47, .ifCond .ne 10, 3)) rfl
theorem dX4_sins_50 : decode cX4_sins 50 = .ok (.iload_n 3, 1) := d_of dm_X4_sins_c25 3 (q := (50, .iload_n 3, 1)) rfl
theorem dX4_sins_51 : decode cX4_sins 51 = .ok (.bipush 100, 2) := d_of dm_X4_sins_c25 4 (q := (51, .bipush 100, 2)) rfl
theorem dX4_sins_53 : decode cX4_sins 53 = .ok (.idiv, 1) := d_of dm_X4_sins_c25 5 (q := (53, .idiv, 1)) rfl
theorem dX4_sins_54 : decode cX4_sins 54 = .ok (.goto 16, 3) := d_of dm_X4_sins_c25 6 (q := (54, .goto 16, 3)) rfl
theorem dX4_sins_57 : decode cX4_sins 57 = .ok (.iload_n 3, 1) := d_of dm_X4_sins_c25 7 (q := (57, .iload_n 3, 1)) rfl
theorem dX4_sins_58 : decode cX4_sins 58 = .ok (.ifCond .ne 8, 3) := d_of dm_X4_sins_c25 8 (q := (58, .ifCond .ne 8, 3)) rfl
theorem dX4_sins_61 : decode cX4_sins 61 = .ok (.bipush (-9), 2) := d_of dm_X4_sins_c25 9 (q := (61, .bipush (-9), 2)) rfl
theorem dX4_sins_63 : decode cX4_sins 63 = .ok (.goto 7, 3) := d_of dm_X4_sins_c25 10 (q := (63, .goto 7, 3)) rfl
theorem dX4_sins_66 : decode cX4_sins 66 = .ok (.iload_n 3, 1) := d_of dm_X4_sins_c25 11 (q := (66, .iload_n 3, 1)) rfl
theorem dX4_sins_67 : decode cX4_sins 67 = .ok (.bipush 100, 2) := d_of dm_X4_sins_c25 12 (q := (67, .bipush 100, 2)) rfl
theorem dX4_sins_69 : decode cX4_sins 69 = .ok (.irem, 1) := d_of dm_X4_sins_c25 13 (q := (69, .irem, 1)) rfl
theorem dX4_sins_70 : decode cX4_sins 70 = .ok (.ireturn, 1) := d_of dm_X4_sins_c25 14 (q := (70, .ireturn, 1)) rfl
def dl_X4_day_c0 : List (Nat × Instr × Nat) := [(0, .iconst 0, 1), (1, .istore_n 1, 1), (2, .iload_n 1, 1), (3, .bipush 8, 2), (5, .if_icmp .ge 19, 3), (8, .aload_n 0, 1), (9, .iload_n 1, 1), (10, .invokevirtual 146, 3), (13, .ifCond .le 5, 3), (16, .iload_n 1, 1), (17, .ireturn, 1), (18, .iinc 1 1, 3), (21, .goto (-19), 3), (24, .bipush (-9), 2), (26, .ireturn, 1)]
set_option maxRecDepth 100000 in
theorem dm_X4_day_c0 : dl_X4_day_c0.all (fun q => decide (decode cX4_day q.1 = .ok q.2)) = true := by decide +kernel
theorem dX4_day_0 : decode cX4_day 0 = .ok (.iconst 0, 1) := d_of dm_X4_day_c0 0 (q := (0, .iconst 0, 1)) rfl
theorem dX4_day_1 : decode cX4_day 1 = .ok (.istore_n 1, 1) := d_of dm_X4_day_c0 1 (q := (1, .istore_n 1, 1)) rfl
theorem dX4_day_2 : decode cX4_day 2 = .ok (.iload_n 1, 1) := d_of dm_X4_day_c0 2 (q := (2, .iload_n 1, 1)) rfl
theorem dX4_day_3 : decode cX4_day 3 = .ok (.bipush 8, 2) := d_of dm_X4_day_c0 3 (q := (3, .bipush 8, 2)) rfl
theorem dX4_day_5 : decode cX4_day 5 = .ok (.if_icmp .ge 19, 3) := d_of dm_X4_day_c0 4 (q := (5, .if_icmp .ge 19, 3)) rfl
theorem dX4_day_8 : decode cX4_day 8 = .ok (.aload_n 0, 1) := d_of dm_X4_day_c0 5 (q := (8, .aload_n 0, 1)) rfl
theorem dX4_day_9 : decode cX4_day 9 = .ok (.iload_n 1, 1) := d_of dm_X4_day_c0 6 (q := (9, .iload_n 1, 1)) rfl
theorem dX4_day_10 : decode cX4_day 10 = .ok (.invokevirtual 146, 3) := d_of dm_X4_day_c0 7 (q := (10, .invokevirtual 146, 3)) rfl
theorem dX4_day_13 : decode cX4_day 13 = .ok (.ifCond .le 5, 3) := d_of dm_X4_day_c0 8 (q := (13, .ifCond .le 5, 3)) rfl
theorem dX4_day_16 : decode cX4_day 16 = .ok (.iload_n 1, 1) := d_of dm_X4_day_c0 9 (q := (16, .iload_n 1, 1)) rfl
theorem dX4_day_17 : decode cX4_day 17 = .ok (.ireturn, 1) := d_of dm_X4_day_c0 10 (q := (17, .ireturn, 1)) rfl
theorem dX4_day_18 : decode cX4_day 18 = .ok (.iinc 1 1, 3) := d_of dm_X4_day_c0 11 (q := (18, .iinc 1 1, 3)) rfl
theorem dX4_day_21 : decode cX4_day 21 = .ok (.goto (-19), 3) := d_of dm_X4_day_c0 12 (q := (21, .goto (-19), 3)) rfl
theorem dX4_day_24 : decode cX4_day 24 = .ok (.bipush (-9), 2) := d_of dm_X4_day_c0 13 (q := (24, .bipush (-9), 2)) rfl
theorem dX4_day_26 : decode cX4_day 26 = .ok (.ireturn, 1) := d_of dm_X4_day_c0 14 (q := (26, .ireturn, 1)) rfl
def dl_X4_curtains_c0 : List (Nat × Instr × Nat) := [(0, .aload_n 0, 1), (1, .getfield 92, 3), (4, .istore_n 1, 1), (5, .bipush (-9), 2), (7, .istore_n 2, 1), (8, .iconst 0, 1), (9, .istore_n 3, 1), (10, .iload_n 3, 1), (11, .iconst 1, 1), (12, .aload_n 0, 1), (13, .getfield 60, 3), (16, .ishl, 1), (17, .if_icmp .ge 45, 3), (20, .iload_n 2, 1), (21, .ifCond .lt 17, 3), (24, .iload_n 3, 1), (25, .invokestatic 149, 3), (28, .iload_n 2, 1), (29, .invokestatic 149, 3), (32, .if_icmp .lt 6, 3), (35, .goto 21, 3), (38, .aload_n 0, 1), (39, .iload_n 3, 1), (40, .putfield 92, 3), (43, .aload_n 0, 1)]
set_option maxRecDepth 100000 in
theorem dm_X4_curtains_c0 : dl_X4_curtains_c0.all (fun q => decide (decode cX4_curtains q.1 = .ok q.2)) = true := by decide +kernel
theorem dX4_curtains_0 : decode cX4_curtains 0 = .ok (.aload_n 0, 1) := d_of dm_X4_curtains_c0 0 (q := (0, .aload_n 0, 1)) rfl
theorem dX4_curtains_1 : decode cX4_curtains 1 = .ok (.getfield 92, 3) := d_of dm_X4_curtains_c0 1 (q := (1, .getfield 92, 3)) rfl
theorem dX4_curtains_4 : decode cX4_curtains 4 = .ok (.istore_n 1, 1) := d_of dm_X4_curtains_c0 2 (q := (4, .istore_n 1, 1)) rfl
theorem dX4_curtains_5 : decode cX4_curtains 5 = .ok (.bipush (-9), 2) := d_of dm_X4_curtains_c0 3 (q := (5, .bipush (-9), 2)) rfl
theorem dX4_curtains_7 : decode cX4_curtains 7 = .ok (.istore_n 2, 1) := d_of dm_X4_curtains_c0 4 (q := (7, .istore_n 2, 1)) rfl
theorem dX4_curtains_8 : decode cX4_curtains 8 = .ok (.iconst 0, 1) := d_of dm_X4_curtains_c0 5 (q := (8, .iconst 0, 1)) rfl
theorem dX4_curtains_9 : decode cX4_curtains 9 = .ok (.istore_n 3, 1) := d_of dm_X4_curtains_c0 6 (q := (9, .istore_n 3, 1)) rfl
theorem dX4_curtains_10 : decode cX4_curtains 10 = .ok (.iload_n 3, 1) := d_of dm_X4_curtains_c0 7 (q := (10, .iload_n 3, 1)) rfl
theorem dX4_curtains_11 : decode cX4_curtains 11 = .ok (.iconst 1, 1) := d_of dm_X4_curtains_c0 8 (q := (11, .iconst 1, 1)) rfl
theorem dX4_curtains_12 : decode cX4_curtains 12 = .ok (.aload_n 0, 1) := d_of dm_X4_curtains_c0 9 (q := (12, .aload_n 0, 1)) rfl
theorem dX4_curtains_13 : decode cX4_curtains 13 = .ok (.getfield 60, 3) := d_of dm_X4_curtains_c0 10 (q := (13, .getfield 60, 3)) rfl
theorem dX4_curtains_16 : decode cX4_curtains 16 = .ok (.ishl, 1) := d_of dm_X4_curtains_c0 11 (q := (16, .ishl, 1)) rfl
theorem dX4_curtains_17 : decode cX4_curtains 17 = .ok (.if_icmp .ge 45, 3) := d_of dm_X4_curtains_c0 12 (q := (17, .if_icmp .ge 45, 3)) rfl
theorem dX4_curtains_20 : decode cX4_curtains 20 = .ok (.iload_n 2, 1) := d_of dm_X4_curtains_c0 13 (q := (20, .iload_n 2, 1)) rfl
theorem dX4_curtains_21 : decode cX4_curtains 21 = .ok (.ifCond .lt 17, 3) := d_of dm_X4_curtains_c0 14 (q := (21, .ifCond .lt 17, 3)) rfl
theorem dX4_curtains_24 : decode cX4_curtains 24 = .ok (.iload_n 3, 1) := d_of dm_X4_curtains_c0 15 (q := (24, .iload_n 3, 1)) rfl
theorem dX4_curtains_25 : decode cX4_curtains 25 = .ok (.invokestatic 149, 3) := d_of dm_X4_curtains_c0 16 (q := (25, .invokestatic 149, 3)) rfl
theorem dX4_curtains_28 : decode cX4_curtains 28 = .ok (.iload_n 2, 1) := d_of dm_X4_curtains_c0 17 (q := (28, .iload_n 2, 1)) rfl
theorem dX4_curtains_29 : decode cX4_curtains 29 = .ok (.invokestatic 149, 3) := d_of dm_X4_curtains_c0 18 (q := (29, .invokestatic 149, 3)) rfl
theorem dX4_curtains_32 : decode cX4_curtains 32 = .ok (.if_icmp .lt 6, 3) := d_of dm_X4_curtains_c0 19 (q := (32, .if_icmp .lt 6, 3)) rfl
theorem dX4_curtains_35 : decode cX4_curtains 35 = .ok (.goto 21, 3) := d_of dm_X4_curtains_c0 20 (q := (35, .goto 21, 3)) rfl
theorem dX4_curtains_38 : decode cX4_curtains 38 = .ok (.aload_n 0, 1) := d_of dm_X4_curtains_c0 21 (q := (38, .aload_n 0, 1)) rfl
theorem dX4_curtains_39 : decode cX4_curtains 39 = .ok (.iload_n 3, 1) := d_of dm_X4_curtains_c0 22 (q := (39, .iload_n 3, 1)) rfl
theorem dX4_curtains_40 : decode cX4_curtains 40 = .ok (.putfield 92, 3) := d_of dm_X4_curtains_c0 23 (q := (40, .putfield 92, 3)) rfl
theorem dX4_curtains_43 : decode cX4_curtains 43 = .ok (.aload_n 0, 1) := d_of dm_X4_curtains_c0 24 (q := (43, .aload_n 0, 1)) rfl
def dl_X4_curtains_c25 : List (Nat × Instr × Nat) := [(44, .aload_n 0, 1), (45, .getfield 95, 3), (48, .invokevirtual 146, 3), (51, .ifCond .ne 5, 3), (54, .iload_n 3, 1), (55, .istore_n 2, 1), (56, .iinc 3 1, 3), (59, .goto (-49), 3), (62, .aload_n 0, 1), (63, .iload_n 1, 1), (64, .putfield 92, 3), (67, .iload_n 2, 1), (68, .ireturn, 1)]
set_option maxRecDepth 100000 in
theorem dm_X4_curtains_c25 : dl_X4_curtains_c25.all (fun q => decide (decode cX4_curtains q.1 = .ok q.2)) = true := by decide +kernel
theorem dX4_curtains_44 : decode cX4_curtains 44 = .ok (.aload_n 0, 1) := d_of dm_X4_curtains_c25 0 (q := (44, .aload_n 0, 1)) rfl
theorem dX4_curtains_45 : decode cX4_curtains 45 = .ok (.getfield 95, 3) := d_of dm_X4_curtains_c25 1 (q := (45, .getfield 95, 3)) rfl
theorem dX4_curtains_48 : decode cX4_curtains 48 = .ok (.invokevirtual 146, 3) := d_of dm_X4_curtains_c25 2 (q := (48, .invokevirtual 146, 3)) rfl
theorem dX4_curtains_51 : decode cX4_curtains 51 = .ok (.ifCond .ne 5, 3) := d_of dm_X4_curtains_c25 3 (q := (51, .ifCond .ne 5, 3)) rfl
theorem dX4_curtains_54 : decode cX4_curtains 54 = .ok (.iload_n 3, 1) := d_of dm_X4_curtains_c25 4 (q := (54, .iload_n 3, 1)) rfl
theorem dX4_curtains_55 : decode cX4_curtains 55 = .ok (.istore_n 2, 1) := d_of dm_X4_curtains_c25 5 (q := (55, .istore_n 2, 1)) rfl
theorem dX4_curtains_56 : decode cX4_curtains 56 = .ok (.iinc 3 1, 3) := d_of dm_X4_curtains_c25 6 (q := (56, .iinc 3 1, 3)) rfl
theorem dX4_curtains_59 : decode cX4_curtains 59 = .ok (.goto (-49), 3) := d_of dm_X4_curtains_c25 7 (q := (59, .goto (-49), 3)) rfl
theorem dX4_curtains_62 : decode cX4_curtains 62 = .ok (.aload_n 0, 1) := d_of dm_X4_curtains_c25 8 (q := (62, .aload_n 0, 1)) rfl
theorem dX4_curtains_63 : decode cX4_curtains 63 = .ok (.iload_n 1, 1) := d_of dm_X4_curtains_c25 9 (q := (63, .iload_n 1, 1)) rfl
theorem dX4_curtains_64 : decode cX4_curtains 64 = .ok (.putfield 92, 3) := d_of dm_X4_curtains_c25 10 (q := (64, .putfield 92, 3)) rfl
theorem dX4_curtains_67 : decode cX4_curtains 67 = .ok (.iload_n 2, 1) := d_of dm_X4_curtains_c25 11 (q := (67, .iload_n 2, 1)) rfl
theorem dX4_curtains_68 : decode cX4_curtains 68 = .ok (.ireturn, 1) := d_of dm_X4_curtains_c25 12 (q := (68, .ireturn, 1)) rfl
def dl_X4_oneMoved_c0 : List (Nat × Instr × Nat) := [(0, .iconst 0, 1), (1, .istore_n 1, 1), (2, .iload_n 1, 1), (3, .aload_n 0, 1), (4, .getfield 52, 3), (7, .if_icmp .ge 84, 3), (10, .aload_n 0, 1), (11, .getfield 19, 3), (14, .iload_n 1, 1), (15, .iaload, 1), (16, .istore_n 2, 1), (17, .bipush (-9), 2), (19, .istore_n 3, 1), (20, .iconst 5, 1), (21, .istore 4, 2), (23, .iload 4, 2), (25, .ifCond .lt 40, 3), (28, .iload 4, 2), (30, .iload_n 2, 1), (31, .if_icmp .ne 6, 3), (34, .goto 25, 3), (37, .aload_n 0, 1), (38, .getfield 19, 3), (41, .iload_n 1, 1), (42, .iload 4, 2)]
set_option maxRecDepth 100000 in
theorem dm_X4_oneMoved_c0 : dl_X4_oneMoved_c0.all (fun q => decide (decode cX4_oneMoved q.1 = .ok q.2)) = true := by decide +kernel
theorem dX4_oneMoved_0 : decode cX4_oneMoved 0 = .ok (.iconst 0, 1) := d_of dm_X4_oneMoved_c0 0 (q := (0, .iconst 0, 1)) rfl
theorem dX4_oneMoved_1 : decode cX4_oneMoved 1 = .ok (.istore_n 1, 1) := d_of dm_X4_oneMoved_c0 1 (q := (1, .istore_n 1, 1)) rfl
theorem dX4_oneMoved_2 : decode cX4_oneMoved 2 = .ok (.iload_n 1, 1) := d_of dm_X4_oneMoved_c0 2 (q := (2, .iload_n 1, 1)) rfl
theorem dX4_oneMoved_3 : decode cX4_oneMoved 3 = .ok (.aload_n 0, 1) := d_of dm_X4_oneMoved_c0 3 (q := (3, .aload_n 0, 1)) rfl
theorem dX4_oneMoved_4 : decode cX4_oneMoved 4 = .ok (.getfield 52, 3) := d_of dm_X4_oneMoved_c0 4 (q := (4, .getfield 52, 3)) rfl
theorem dX4_oneMoved_7 : decode cX4_oneMoved 7 = .ok (.if_icmp .ge 84, 3) := d_of dm_X4_oneMoved_c0 5 (q := (7, .if_icmp .ge 84, 3)) rfl
theorem dX4_oneMoved_10 : decode cX4_oneMoved 10 = .ok (.aload_n 0, 1) := d_of dm_X4_oneMoved_c0 6 (q := (10, .aload_n 0, 1)) rfl
theorem dX4_oneMoved_11 : decode cX4_oneMoved 11 = .ok (.getfield 19, 3) := d_of dm_X4_oneMoved_c0 7 (q := (11, .getfield 19, 3)) rfl
theorem dX4_oneMoved_14 : decode cX4_oneMoved 14 = .ok (.iload_n 1, 1) := d_of dm_X4_oneMoved_c0 8 (q := (14, .iload_n 1, 1)) rfl
theorem dX4_oneMoved_15 : decode cX4_oneMoved 15 = .ok (.iaload, 1) := d_of dm_X4_oneMoved_c0 9 (q := (15, .iaload, 1)) rfl
theorem dX4_oneMoved_16 : decode cX4_oneMoved 16 = .ok (.istore_n 2, 1) := d_of dm_X4_oneMoved_c0 10 (q := (16, .istore_n 2, 1)) rfl
theorem dX4_oneMoved_17 : decode cX4_oneMoved 17 = .ok (.bipush (-9), 2) := d_of dm_X4_oneMoved_c0 11 (q := (17, .bipush (-9), 2)) rfl
theorem dX4_oneMoved_19 : decode cX4_oneMoved 19 = .ok (.istore_n 3, 1) := d_of dm_X4_oneMoved_c0 12 (q := (19, .istore_n 3, 1)) rfl
theorem dX4_oneMoved_20 : decode cX4_oneMoved 20 = .ok (.iconst 5, 1) := d_of dm_X4_oneMoved_c0 13 (q := (20, .iconst 5, 1)) rfl
theorem dX4_oneMoved_21 : decode cX4_oneMoved 21 = .ok (.istore 4, 2) := d_of dm_X4_oneMoved_c0 14 (q := (21, .istore 4, 2)) rfl
theorem dX4_oneMoved_23 : decode cX4_oneMoved 23 = .ok (.iload 4, 2) := d_of dm_X4_oneMoved_c0 15 (q := (23, .iload 4, 2)) rfl
theorem dX4_oneMoved_25 : decode cX4_oneMoved 25 = .ok (.ifCond .lt 40, 3) := d_of dm_X4_oneMoved_c0 16 (q := (25, .ifCond .lt 40, 3)) rfl
theorem dX4_oneMoved_28 : decode cX4_oneMoved 28 = .ok (.iload 4, 2) := d_of dm_X4_oneMoved_c0 17 (q := (28, .iload 4, 2)) rfl
theorem dX4_oneMoved_30 : decode cX4_oneMoved 30 = .ok (.iload_n 2, 1) := d_of dm_X4_oneMoved_c0 18 (q := (30, .iload_n 2, 1)) rfl
theorem dX4_oneMoved_31 : decode cX4_oneMoved 31 = .ok (.if_icmp .ne 6, 3) := d_of dm_X4_oneMoved_c0 19 (q := (31, .if_icmp .ne 6, 3)) rfl
theorem dX4_oneMoved_34 : decode cX4_oneMoved 34 = .ok (.goto 25, 3) := d_of dm_X4_oneMoved_c0 20 (q := (34, .goto 25, 3)) rfl
theorem dX4_oneMoved_37 : decode cX4_oneMoved 37 = .ok (.aload_n 0, 1) := d_of dm_X4_oneMoved_c0 21 (q := (37, .aload_n 0, 1)) rfl
theorem dX4_oneMoved_38 : decode cX4_oneMoved 38 = .ok (.getfield 19, 3) := d_of dm_X4_oneMoved_c0 22 (q := (38, .getfield 19, 3)) rfl
theorem dX4_oneMoved_41 : decode cX4_oneMoved 41 = .ok (.iload_n 1, 1) := d_of dm_X4_oneMoved_c0 23 (q := (41, .iload_n 1, 1)) rfl
theorem dX4_oneMoved_42 : decode cX4_oneMoved 42 = .ok (.iload 4, 2) := d_of dm_X4_oneMoved_c0 24 (q := (42, .iload 4, 2)) rfl
def dl_X4_oneMoved_c25 : List (Nat × Instr × Nat) := [(44, .iastore, 1), (45, .aload_n 0, 1), (46, .aload_n 0, 1), (47, .getfield 95, 3), (50, .invokevirtual 146, 3), (53, .ifCond .ne 6, 3), (56, .iload 4, 2), (58, .istore_n 3, 1), (59, .iinc 4 (-1), 3), (62, .goto (-39), 3), (65, .aload_n 0, 1), (66, .getfield 19, 3), (69, .iload_n 1, 1), (70, .iload_n 2, 1), (71, .iastore, 1), (72, .iload_n 3, 1), (73, .bipush (-9), 2), (75, .if_icmp .eq 10, 3), (78, .bipush 10, 2), (80, .iload_n 1, 1), (81, .imul, 1), (82, .iload_n 3, 1), (83, .iadd, 1), (84, .ireturn, 1), (85, .iinc 1 1, 3)]
set_option maxRecDepth 100000 in
theorem dm_X4_oneMoved_c25 : dl_X4_oneMoved_c25.all (fun q => decide (decode cX4_oneMoved q.1 = .ok q.2)) = true := by decide +kernel
theorem dX4_oneMoved_44 : decode cX4_oneMoved 44 = .ok (.iastore, 1) := d_of dm_X4_oneMoved_c25 0 (q := (44, .iastore, 1)) rfl
theorem dX4_oneMoved_45 : decode cX4_oneMoved 45 = .ok (.aload_n 0, 1) := d_of dm_X4_oneMoved_c25 1 (q := (45, .aload_n 0, 1)) rfl
theorem dX4_oneMoved_46 : decode cX4_oneMoved 46 = .ok (.aload_n 0, 1) := d_of dm_X4_oneMoved_c25 2 (q := (46, .aload_n 0, 1)) rfl
theorem dX4_oneMoved_47 : decode cX4_oneMoved 47 = .ok (.getfield 95, 3) := d_of dm_X4_oneMoved_c25 3 (q := (47, .getfield 95, 3)) rfl
theorem dX4_oneMoved_50 : decode cX4_oneMoved 50 = .ok (.invokevirtual 146, 3) := d_of dm_X4_oneMoved_c25 4 (q := (50, .invokevirtual 146, 3)) rfl
theorem dX4_oneMoved_53 : decode cX4_oneMoved 53 = .ok (.ifCond .ne 6, 3) := d_of dm_X4_oneMoved_c25 5 (q := (53, .ifCond .ne 6, 3)) rfl
theorem dX4_oneMoved_56 : decode cX4_oneMoved 56 = .ok (.iload 4, 2) := d_of dm_X4_oneMoved_c25 6 (q := (56, .iload 4, 2)) rfl
theorem dX4_oneMoved_58 : decode cX4_oneMoved 58 = .ok (.istore_n 3, 1) := d_of dm_X4_oneMoved_c25 7 (q := (58, .istore_n 3, 1)) rfl
theorem dX4_oneMoved_59 : decode cX4_oneMoved 59 = .ok (.iinc 4 (-1), 3) := d_of dm_X4_oneMoved_c25 8 (q := (59, .iinc 4 (-1), 3)) rfl
theorem dX4_oneMoved_62 : decode cX4_oneMoved 62 = .ok (.goto (-39), 3) := d_of dm_X4_oneMoved_c25 9 (q := (62, .goto (-39), 3)) rfl
theorem dX4_oneMoved_65 : decode cX4_oneMoved 65 = .ok (.aload_n 0, 1) := d_of dm_X4_oneMoved_c25 10 (q := (65, .aload_n 0, 1)) rfl
theorem dX4_oneMoved_66 : decode cX4_oneMoved 66 = .ok (.getfield 19, 3) := d_of dm_X4_oneMoved_c25 11 (q := (66, .getfield 19, 3)) rfl
theorem dX4_oneMoved_69 : decode cX4_oneMoved 69 = .ok (.iload_n 1, 1) := d_of dm_X4_oneMoved_c25 12 (q := (69, .iload_n 1, 1)) rfl
theorem dX4_oneMoved_70 : decode cX4_oneMoved 70 = .ok (.iload_n 2, 1) := d_of dm_X4_oneMoved_c25 13 (q := (70, .iload_n 2, 1)) rfl
theorem dX4_oneMoved_71 : decode cX4_oneMoved 71 = .ok (.iastore, 1) := d_of dm_X4_oneMoved_c25 14 (q := (71, .iastore, 1)) rfl
theorem dX4_oneMoved_72 : decode cX4_oneMoved 72 = .ok (.iload_n 3, 1) := d_of dm_X4_oneMoved_c25 15 (q := (72, .iload_n 3, 1)) rfl
theorem dX4_oneMoved_73 : decode cX4_oneMoved 73 = .ok (.bipush (-9), 2) := d_of dm_X4_oneMoved_c25 16 (q := (73, .bipush (-9), 2)) rfl
theorem dX4_oneMoved_75 : decode cX4_oneMoved 75 = .ok (.if_icmp .eq 10, 3) := d_of dm_X4_oneMoved_c25 17 (q := (75, .if_icmp .eq 10, 3)) rfl
theorem dX4_oneMoved_78 : decode cX4_oneMoved 78 = .ok (.bipush 10, 2) := d_of dm_X4_oneMoved_c25 18 (q := (78, .bipush 10, 2)) rfl
theorem dX4_oneMoved_80 : decode cX4_oneMoved 80 = .ok (.iload_n 1, 1) := d_of dm_X4_oneMoved_c25 19 (q := (80, .iload_n 1, 1)) rfl
theorem dX4_oneMoved_81 : decode cX4_oneMoved 81 = .ok (.imul, 1) := d_of dm_X4_oneMoved_c25 20 (q := (81, .imul, 1)) rfl
theorem dX4_oneMoved_82 : decode cX4_oneMoved 82 = .ok (.iload_n 3, 1) := d_of dm_X4_oneMoved_c25 21 (q := (82, .iload_n 3, 1)) rfl
theorem dX4_oneMoved_83 : decode cX4_oneMoved 83 = .ok (.iadd, 1) := d_of dm_X4_oneMoved_c25 22 (q := (83, .iadd, 1)) rfl
theorem dX4_oneMoved_84 : decode cX4_oneMoved 84 = .ok (.ireturn, 1) := d_of dm_X4_oneMoved_c25 23 (q := (84, .ireturn, 1)) rfl
theorem dX4_oneMoved_85 : decode cX4_oneMoved 85 = .ok (.iinc 1 1, 3) := d_of dm_X4_oneMoved_c25 24 (q := (85, .iinc 1 1, 3)) rfl
def dl_X4_oneMoved_c50 : List (Nat × Instr × Nat) := [(88, .goto (-86), 3), (91, .bipush (-9), 2), (93, .ireturn, 1)]
set_option maxRecDepth 100000 in
theorem dm_X4_oneMoved_c50 : dl_X4_oneMoved_c50.all (fun q => decide (decode cX4_oneMoved q.1 = .ok q.2)) = true := by decide +kernel
theorem dX4_oneMoved_88 : decode cX4_oneMoved 88 = .ok (.goto (-86), 3) := d_of dm_X4_oneMoved_c50 0 (q := (88, .goto (-86), 3)) rfl
theorem dX4_oneMoved_91 : decode cX4_oneMoved 91 = .ok (.bipush (-9), 2) := d_of dm_X4_oneMoved_c50 1 (q := (91, .bipush (-9), 2)) rfl
theorem dX4_oneMoved_93 : decode cX4_oneMoved 93 = .ok (.ireturn, 1) := d_of dm_X4_oneMoved_c50 2 (q := (93, .ireturn, 1)) rfl
def dl_X4_byTwo_c0 : List (Nat × Instr × Nat) := [(0, .iconst 0, 1), (1, .istore_n 1, 1), (2, .iload_n 1, 1), (3, .aload_n 0, 1), (4, .getfield 52, 3), (7, .if_icmp .ge 166, 3), (10, .aload_n 0, 1), (11, .getfield 19, 3), (14, .iload_n 1, 1), (15, .iaload, 1), (16, .istore_n 2, 1), (17, .iconst 0, 1), (18, .istore_n 3, 1), (19, .iconst 0, 1), (20, .istore 4, 2), (22, .iload 4, 2), (24, .bipush 6, 2), (26, .if_icmp .ge 128, 3), (29, .iload_n 3, 1), (30, .ifCond .ne 124, 3), (33, .iload 4, 2), (35, .iload_n 2, 1), (36, .if_icmp .ne 6, 3), (39, .goto 109, 3), (42, .aload_n 0, 1)]
set_option maxRecDepth 100000 in
theorem dm_X4_byTwo_c0 : dl_X4_byTwo_c0.all (fun q => decide (decode cX4_byTwo q.1 = .ok q.2)) = true := by decide +kernel
theorem dX4_byTwo_0 : decode cX4_byTwo 0 = .ok (.iconst 0, 1) := d_of dm_X4_byTwo_c0 0 (q := (0, .iconst 0, 1)) rfl
theorem dX4_byTwo_1 : decode cX4_byTwo 1 = .ok (.istore_n 1, 1) := d_of dm_X4_byTwo_c0 1 (q := (1, .istore_n 1, 1)) rfl
theorem dX4_byTwo_2 : decode cX4_byTwo 2 = .ok (.iload_n 1, 1) := d_of dm_X4_byTwo_c0 2 (q := (2, .iload_n 1, 1)) rfl
theorem dX4_byTwo_3 : decode cX4_byTwo 3 = .ok (.aload_n 0, 1) := d_of dm_X4_byTwo_c0 3 (q := (3, .aload_n 0, 1)) rfl
theorem dX4_byTwo_4 : decode cX4_byTwo 4 = .ok (.getfield 52, 3) := d_of dm_X4_byTwo_c0 4 (q := (4, .getfield 52, 3)) rfl
theorem dX4_byTwo_7 : decode cX4_byTwo 7 = .ok (.if_icmp .ge 166, 3) := d_of dm_X4_byTwo_c0 5 (q := (7, .if_icmp .ge 166, 3)) rfl
theorem dX4_byTwo_10 : decode cX4_byTwo 10 = .ok (.aload_n 0, 1) := d_of dm_X4_byTwo_c0 6 (q := (10, .aload_n 0, 1)) rfl
theorem dX4_byTwo_11 : decode cX4_byTwo 11 = .ok (.getfield 19, 3) := d_of dm_X4_byTwo_c0 7 (q := (11, .getfield 19, 3)) rfl
theorem dX4_byTwo_14 : decode cX4_byTwo 14 = .ok (.iload_n 1, 1) := d_of dm_X4_byTwo_c0 8 (q := (14, .iload_n 1, 1)) rfl
theorem dX4_byTwo_15 : decode cX4_byTwo 15 = .ok (.iaload, 1) := d_of dm_X4_byTwo_c0 9 (q := (15, .iaload, 1)) rfl
theorem dX4_byTwo_16 : decode cX4_byTwo 16 = .ok (.istore_n 2, 1) := d_of dm_X4_byTwo_c0 10 (q := (16, .istore_n 2, 1)) rfl
theorem dX4_byTwo_17 : decode cX4_byTwo 17 = .ok (.iconst 0, 1) := d_of dm_X4_byTwo_c0 11 (q := (17, .iconst 0, 1)) rfl
theorem dX4_byTwo_18 : decode cX4_byTwo 18 = .ok (.istore_n 3, 1) := d_of dm_X4_byTwo_c0 12 (q := (18, .istore_n 3, 1)) rfl
theorem dX4_byTwo_19 : decode cX4_byTwo 19 = .ok (.iconst 0, 1) := d_of dm_X4_byTwo_c0 13 (q := (19, .iconst 0, 1)) rfl
theorem dX4_byTwo_20 : decode cX4_byTwo 20 = .ok (.istore 4, 2) := d_of dm_X4_byTwo_c0 14 (q := (20, .istore 4, 2)) rfl
theorem dX4_byTwo_22 : decode cX4_byTwo 22 = .ok (.iload 4, 2) := d_of dm_X4_byTwo_c0 15 (q := (22, .iload 4, 2)) rfl
theorem dX4_byTwo_24 : decode cX4_byTwo 24 = .ok (.bipush 6, 2) := d_of dm_X4_byTwo_c0 16 (q := (24, .bipush 6, 2)) rfl
theorem dX4_byTwo_26 : decode cX4_byTwo 26 = .ok (.if_icmp .ge 128, 3) := d_of dm_X4_byTwo_c0 17 (q := (26, .if_icmp .ge 128, 3)) rfl
theorem dX4_byTwo_29 : decode cX4_byTwo 29 = .ok (.iload_n 3, 1) := d_of dm_X4_byTwo_c0 18 (q := (29, .iload_n 3, 1)) rfl
theorem dX4_byTwo_30 : decode cX4_byTwo 30 = .ok (.ifCond .ne 124, 3) := d_of dm_X4_byTwo_c0 19 (q := (30, .ifCond .ne 124, 3)) rfl
theorem dX4_byTwo_33 : decode cX4_byTwo 33 = .ok (.iload 4, 2) := d_of dm_X4_byTwo_c0 20 (q := (33, .iload 4, 2)) rfl
theorem dX4_byTwo_35 : decode cX4_byTwo 35 = .ok (.iload_n 2, 1) := d_of dm_X4_byTwo_c0 21 (q := (35, .iload_n 2, 1)) rfl
theorem dX4_byTwo_36 : decode cX4_byTwo 36 = .ok (.if_icmp .ne 6, 3) := d_of dm_X4_byTwo_c0 22 (q := (36, .if_icmp .ne 6, 3)) rfl
theorem dX4_byTwo_39 : decode cX4_byTwo 39 = .ok (.goto 109, 3) := d_of dm_X4_byTwo_c0 23 (q := (39, .goto 109, 3)) rfl
theorem dX4_byTwo_42 : decode cX4_byTwo 42 = .ok (.aload_n 0, 1) := d_of dm_X4_byTwo_c0 24 (q := (42, .aload_n 0, 1)) rfl
def dl_X4_byTwo_c25 : List (Nat × Instr × Nat) := [(43, .getfield 19, 3), (46, .iload_n 1, 1), (47, .iload 4, 2), (49, .iastore, 1), (50, .iload_n 1, 1), (51, .iconst 1, 1), (52, .iadd, 1), (53, .istore 5, 2), (55, .iload 5, 2), (57, .aload_n 0, 1), (58, .getfield 52, 3), (61, .if_icmp .ge 87, 3), (64, .iload_n 3, 1), (65, .ifCond .ne 83, 3), (68, .aload_n 0, 1), (69, .getfield 19, 3), (72, .iload 5, 2), (74, .iaload, 1), (75, .istore 6, 2), (77, .iconst 0, 1), (78, .istore 7, 2), (80, .iload 7, 2), (82, .bipush 6, 2), (84, .if_icmp .ge 49, 3), (87, .iload_n 3, 1)]
set_option maxRecDepth 100000 in
theorem dm_X4_byTwo_c25 : dl_X4_byTwo_c25.all (fun q => decide (decode cX4_byTwo q.1 = .ok q.2)) = true := by decide +kernel
theorem dX4_byTwo_43 : decode cX4_byTwo 43 = .ok (.getfield 19, 3) := d_of dm_X4_byTwo_c25 0 (q := (43, .getfield 19, 3)) rfl
theorem dX4_byTwo_46 : decode cX4_byTwo 46 = .ok (.iload_n 1, 1) := d_of dm_X4_byTwo_c25 1 (q := (46, .iload_n 1, 1)) rfl
theorem dX4_byTwo_47 : decode cX4_byTwo 47 = .ok (.iload 4, 2) := d_of dm_X4_byTwo_c25 2 (q := (47, .iload 4, 2)) rfl
theorem dX4_byTwo_49 : decode cX4_byTwo 49 = .ok (.iastore, 1) := d_of dm_X4_byTwo_c25 3 (q := (49, .iastore, 1)) rfl
theorem dX4_byTwo_50 : decode cX4_byTwo 50 = .ok (.iload_n 1, 1) := d_of dm_X4_byTwo_c25 4 (q := (50, .iload_n 1, 1)) rfl
theorem dX4_byTwo_51 : decode cX4_byTwo 51 = .ok (.iconst 1, 1) := d_of dm_X4_byTwo_c25 5 (q := (51, .iconst 1, 1)) rfl
theorem dX4_byTwo_52 : decode cX4_byTwo 52 = .ok (.iadd, 1) := d_of dm_X4_byTwo_c25 6 (q := (52, .iadd, 1)) rfl
theorem dX4_byTwo_53 : decode cX4_byTwo 53 = .ok (.istore 5, 2) := d_of dm_X4_byTwo_c25 7 (q := (53, .istore 5, 2)) rfl
theorem dX4_byTwo_55 : decode cX4_byTwo 55 = .ok (.iload 5, 2) := d_of dm_X4_byTwo_c25 8 (q := (55, .iload 5, 2)) rfl
theorem dX4_byTwo_57 : decode cX4_byTwo 57 = .ok (.aload_n 0, 1) := d_of dm_X4_byTwo_c25 9 (q := (57, .aload_n 0, 1)) rfl
theorem dX4_byTwo_58 : decode cX4_byTwo 58 = .ok (.getfield 52, 3) := d_of dm_X4_byTwo_c25 10 (q := (58, .getfield 52, 3)) rfl
theorem dX4_byTwo_61 : decode cX4_byTwo 61 = .ok (.if_icmp .ge 87, 3) := d_of dm_X4_byTwo_c25 11 (q := (61, .if_icmp .ge 87, 3)) rfl
theorem dX4_byTwo_64 : decode cX4_byTwo 64 = .ok (.iload_n 3, 1) := d_of dm_X4_byTwo_c25 12 (q := (64, .iload_n 3, 1)) rfl
theorem dX4_byTwo_65 : decode cX4_byTwo 65 = .ok (.ifCond .ne 83, 3) := d_of dm_X4_byTwo_c25 13 (q := (65, .ifCond .ne 83, 3)) rfl
theorem dX4_byTwo_68 : decode cX4_byTwo 68 = .ok (.aload_n 0, 1) := d_of dm_X4_byTwo_c25 14 (q := (68, .aload_n 0, 1)) rfl
theorem dX4_byTwo_69 : decode cX4_byTwo 69 = .ok (.getfield 19, 3) := d_of dm_X4_byTwo_c25 15 (q := (69, .getfield 19, 3)) rfl
theorem dX4_byTwo_72 : decode cX4_byTwo 72 = .ok (.iload 5, 2) := d_of dm_X4_byTwo_c25 16 (q := (72, .iload 5, 2)) rfl
theorem dX4_byTwo_74 : decode cX4_byTwo 74 = .ok (.iaload, 1) := d_of dm_X4_byTwo_c25 17 (q := (74, .iaload, 1)) rfl
theorem dX4_byTwo_75 : decode cX4_byTwo 75 = .ok (.istore 6, 2) := d_of dm_X4_byTwo_c25 18 (q := (75, .istore 6, 2)) rfl
theorem dX4_byTwo_77 : decode cX4_byTwo 77 = .ok (.iconst 0, 1) := d_of dm_X4_byTwo_c25 19 (q := (77, .iconst 0, 1)) rfl
theorem dX4_byTwo_78 : decode cX4_byTwo 78 = .ok (.istore 7, 2) := d_of dm_X4_byTwo_c25 20 (q := (78, .istore 7, 2)) rfl
theorem dX4_byTwo_80 : decode cX4_byTwo 80 = .ok (.iload 7, 2) := d_of dm_X4_byTwo_c25 21 (q := (80, .iload 7, 2)) rfl
theorem dX4_byTwo_82 : decode cX4_byTwo 82 = .ok (.bipush 6, 2) := d_of dm_X4_byTwo_c25 22 (q := (82, .bipush 6, 2)) rfl
theorem dX4_byTwo_84 : decode cX4_byTwo 84 = .ok (.if_icmp .ge 49, 3) := d_of dm_X4_byTwo_c25 23 (q := (84, .if_icmp .ge 49, 3)) rfl
theorem dX4_byTwo_87 : decode cX4_byTwo 87 = .ok (.iload_n 3, 1) := d_of dm_X4_byTwo_c25 24 (q := (87, .iload_n 3, 1)) rfl
def dl_X4_byTwo_c50 : List (Nat × Instr × Nat) := [(88, .ifCond .ne 45, 3), (91, .iload 7, 2), (93, .iload 6, 2), (95, .if_icmp .ne 6, 3), (98, .goto 29, 3), (101, .aload_n 0, 1), (102, .getfield 19, 3), (105, .iload 5, 2), (107, .iload 7, 2), (109, .iastore, 1), (110, .aload_n 0, 1), (111, .aload_n 0, 1), (112, .getfield 95, 3), (115, .invokevirtual 146, 3), (118, .ifCond .ne 7, 3), (121, .iconst 1, 1), (122, .goto 4, 3), (125, .iconst 0, 1), (126, .istore_n 3, 1), (127, .iinc 7 1, 3), (130, .goto (-50), 3), (133, .aload_n 0, 1), (134, .getfield 19, 3), (137, .iload 5, 2), (139, .iload 6, 2)]
set_option maxRecDepth 100000 in
theorem dm_X4_byTwo_c50 : dl_X4_byTwo_c50.all (fun q => decide (decode cX4_byTwo q.1 = .ok q.2)) = true := by decide +kernel
theorem dX4_byTwo_88 : decode cX4_byTwo 88 = .ok (.ifCond .ne 45, 3) := d_of dm_X4_byTwo_c50 0 (q := (88, .ifCond .ne 45, 3)) rfl
theorem dX4_byTwo_91 : decode cX4_byTwo 91 = .ok (.iload 7, 2) := d_of dm_X4_byTwo_c50 1 (q := (91, .iload 7, 2)) rfl
theorem dX4_byTwo_93 : decode cX4_byTwo 93 = .ok (.iload 6, 2) := d_of dm_X4_byTwo_c50 2 (q := (93, .iload 6, 2)) rfl
theorem dX4_byTwo_95 : decode cX4_byTwo 95 = .ok (.if_icmp .ne 6, 3) := d_of dm_X4_byTwo_c50 3 (q := (95, .if_icmp .ne 6, 3)) rfl
theorem dX4_byTwo_98 : decode cX4_byTwo 98 = .ok (.goto 29, 3) := d_of dm_X4_byTwo_c50 4 (q := (98, .goto 29, 3)) rfl
theorem dX4_byTwo_101 : decode cX4_byTwo 101 = .ok (.aload_n 0, 1) := d_of dm_X4_byTwo_c50 5 (q := (101, .aload_n 0, 1)) rfl
theorem dX4_byTwo_102 : decode cX4_byTwo 102 = .ok (.getfield 19, 3) := d_of dm_X4_byTwo_c50 6 (q := (102, .getfield 19, 3)) rfl
theorem dX4_byTwo_105 : decode cX4_byTwo 105 = .ok (.iload 5, 2) := d_of dm_X4_byTwo_c50 7 (q := (105, .iload 5, 2)) rfl
theorem dX4_byTwo_107 : decode cX4_byTwo 107 = .ok (.iload 7, 2) := d_of dm_X4_byTwo_c50 8 (q := (107, .iload 7, 2)) rfl
theorem dX4_byTwo_109 : decode cX4_byTwo 109 = .ok (.iastore, 1) := d_of dm_X4_byTwo_c50 9 (q := (109, .iastore, 1)) rfl
theorem dX4_byTwo_110 : decode cX4_byTwo 110 = .ok (.aload_n 0, 1) := d_of dm_X4_byTwo_c50 10 (q := (110, .aload_n 0, 1)) rfl
theorem dX4_byTwo_111 : decode cX4_byTwo 111 = .ok (.aload_n 0, 1) := d_of dm_X4_byTwo_c50 11 (q := (111, .aload_n 0, 1)) rfl
theorem dX4_byTwo_112 : decode cX4_byTwo 112 = .ok (.getfield 95, 3) := d_of dm_X4_byTwo_c50 12 (q := (112, .getfield 95, 3)) rfl
theorem dX4_byTwo_115 : decode cX4_byTwo 115 = .ok (.invokevirtual 146, 3) := d_of dm_X4_byTwo_c50 13 (q := (115, .invokevirtual 146, 3)) rfl
theorem dX4_byTwo_118 : decode cX4_byTwo 118 = .ok (.ifCond .ne 7, 3) := d_of dm_X4_byTwo_c50 14 (q := (118, .ifCond .ne 7, 3)) rfl
theorem dX4_byTwo_121 : decode cX4_byTwo 121 = .ok (.iconst 1, 1) := d_of dm_X4_byTwo_c50 15 (q := (121, .iconst 1, 1)) rfl
theorem dX4_byTwo_122 : decode cX4_byTwo 122 = .ok (.goto 4, 3) := d_of dm_X4_byTwo_c50 16 (q := (122, .goto 4, 3)) rfl
theorem dX4_byTwo_125 : decode cX4_byTwo 125 = .ok (.iconst 0, 1) := d_of dm_X4_byTwo_c50 17 (q := (125, .iconst 0, 1)) rfl
theorem dX4_byTwo_126 : decode cX4_byTwo 126 = .ok (.istore_n 3, 1) := d_of dm_X4_byTwo_c50 18 (q := (126, .istore_n 3, 1)) rfl
theorem dX4_byTwo_127 : decode cX4_byTwo 127 = .ok (.iinc 7 1, 3) := d_of dm_X4_byTwo_c50 19 (q := (127, .iinc 7 1, 3)) rfl
theorem dX4_byTwo_130 : decode cX4_byTwo 130 = .ok (.goto (-50), 3) := d_of dm_X4_byTwo_c50 20 (q := (130, .goto (-50), 3)) rfl
theorem dX4_byTwo_133 : decode cX4_byTwo 133 = .ok (.aload_n 0, 1) := d_of dm_X4_byTwo_c50 21 (q := (133, .aload_n 0, 1)) rfl
theorem dX4_byTwo_134 : decode cX4_byTwo 134 = .ok (.getfield 19, 3) := d_of dm_X4_byTwo_c50 22 (q := (134, .getfield 19, 3)) rfl
theorem dX4_byTwo_137 : decode cX4_byTwo 137 = .ok (.iload 5, 2) := d_of dm_X4_byTwo_c50 23 (q := (137, .iload 5, 2)) rfl
theorem dX4_byTwo_139 : decode cX4_byTwo 139 = .ok (.iload 6, 2) := d_of dm_X4_byTwo_c50 24 (q := (139, .iload 6, 2)) rfl
def dl_X4_byTwo_c75 : List (Nat × Instr × Nat) := [(141, .iastore, 1), (142, .iinc 5 1, 3), (145, .goto (-90), 3), (148, .iinc 4 1, 3), (151, .goto (-129), 3), (154, .aload_n 0, 1), (155, .getfield 19, 3), (158, .iload_n 1, 1), (159, .iload_n 2, 1), (160, .iastore, 1), (161, .iload_n 3, 1), (162, .ifCond .eq 5, 3), (165, .iconst 1, 1), (166, .ireturn, 1), (167, .iinc 1 1, 3), (170, .goto (-168), 3), (173, .iconst 0, 1), (174, .ireturn, 1)]
set_option maxRecDepth 100000 in
theorem dm_X4_byTwo_c75 : dl_X4_byTwo_c75.all (fun q => decide (decode cX4_byTwo q.1 = .ok q.2)) = true := by decide +kernel
theorem dX4_byTwo_141 : decode cX4_byTwo 141 = .ok (.iastore, 1) := d_of dm_X4_byTwo_c75 0 (q := (141, .iastore, 1)) rfl
theorem dX4_byTwo_142 : decode cX4_byTwo 142 = .ok (.iinc 5 1, 3) := d_of dm_X4_byTwo_c75 1 (q := (142, .iinc 5 1, 3)) rfl
theorem dX4_byTwo_145 : decode cX4_byTwo 145 = .ok (.goto (-90), 3) := d_of dm_X4_byTwo_c75 2 (q := (145, .goto (-90), 3)) rfl
theorem dX4_byTwo_148 : decode cX4_byTwo 148 = .ok (.iinc 4 1, 3) := d_of dm_X4_byTwo_c75 3 (q := (148, .iinc 4 1, 3)) rfl
theorem dX4_byTwo_151 : decode cX4_byTwo 151 = .ok (.goto (-129), 3) := d_of dm_X4_byTwo_c75 4 (q := (151, .goto (-129), 3)) rfl
theorem dX4_byTwo_154 : decode cX4_byTwo 154 = .ok (.aload_n 0, 1) := d_of dm_X4_byTwo_c75 5 (q := (154, .aload_n 0, 1)) rfl
theorem dX4_byTwo_155 : decode cX4_byTwo 155 = .ok (.getfield 19, 3) := d_of dm_X4_byTwo_c75 6 (q := (155, .getfield 19, 3)) rfl
theorem dX4_byTwo_158 : decode cX4_byTwo 158 = .ok (.iload_n 1, 1) := d_of dm_X4_byTwo_c75 7 (q := (158, .iload_n 1, 1)) rfl
theorem dX4_byTwo_159 : decode cX4_byTwo 159 = .ok (.iload_n 2, 1) := d_of dm_X4_byTwo_c75 8 (q := (159, .iload_n 2, 1)) rfl
theorem dX4_byTwo_160 : decode cX4_byTwo 160 = .ok (.iastore, 1) := d_of dm_X4_byTwo_c75 9 (q := (160, .iastore, 1)) rfl
theorem dX4_byTwo_161 : decode cX4_byTwo 161 = .ok (.iload_n 3, 1) := d_of dm_X4_byTwo_c75 10 (q := (161, .iload_n 3, 1)) rfl
theorem dX4_byTwo_162 : decode cX4_byTwo 162 = .ok (.ifCond .eq 5, 3) := d_of dm_X4_byTwo_c75 11 (q := (162, .ifCond .eq 5, 3)) rfl
theorem dX4_byTwo_165 : decode cX4_byTwo 165 = .ok (.iconst 1, 1) := d_of dm_X4_byTwo_c75 12 (q := (165, .iconst 1, 1)) rfl
theorem dX4_byTwo_166 : decode cX4_byTwo 166 = .ok (.ireturn, 1) := d_of dm_X4_byTwo_c75 13 (q := (166, .ireturn, 1)) rfl
theorem dX4_byTwo_167 : decode cX4_byTwo 167 = .ok (.iinc 1 1, 3) := d_of dm_X4_byTwo_c75 14 (q := (167, .iinc 1 1, 3)) rfl
theorem dX4_byTwo_170 : decode cX4_byTwo 170 = .ok (.goto (-168), 3) := d_of dm_X4_byTwo_c75 15 (q := (170, .goto (-168), 3)) rfl
theorem dX4_byTwo_173 : decode cX4_byTwo 173 = .ok (.iconst 0, 1) := d_of dm_X4_byTwo_c75 16 (q := (173, .iconst 0, 1)) rfl
theorem dX4_byTwo_174 : decode cX4_byTwo 174 = .ok (.ireturn, 1) := d_of dm_X4_byTwo_c75 17 (q := (174, .ireturn, 1)) rfl
def dl_X4_moved_c0 : List (Nat × Instr × Nat) := [(0, .iload_n 1, 1), (1, .iconst 0, 1), (2, .iconst 1, 1), (3, .invokestatic 56, 3), (6, .ifCond .ne 10, 3), (9, .aload_n 0, 1), (10, .bipush (-2), 2), (12, .invokevirtual 63, 3), (15, .ireturn, 1), (16, .aload_n 0, 1), (17, .aload_n 0, 1), (18, .getfield 95, 3), (21, .invokevirtual 146, 3), (24, .ifCond .ne 7, 3), (27, .iconst 1, 1), (28, .goto 4, 3), (31, .iconst 0, 1), (32, .istore_n 2, 1), (33, .iload_n 2, 1), (34, .ifCond .eq 8, 3), (37, .bipush (-9), 2), (39, .goto 7, 3), (42, .aload_n 0, 1), (43, .invokevirtual 154, 3), (46, .istore_n 3, 1)]
set_option maxRecDepth 100000 in
theorem dm_X4_moved_c0 : dl_X4_moved_c0.all (fun q => decide (decode cX4_moved q.1 = .ok q.2)) = true := by decide +kernel
theorem dX4_moved_0 : decode cX4_moved 0 = .ok (.iload_n 1, 1) := d_of dm_X4_moved_c0 0 (q := (0, .iload_n 1, 1)) rfl
theorem dX4_moved_1 : decode cX4_moved 1 = .ok (.iconst 0, 1) := d_of dm_X4_moved_c0 1 (q := (1, .iconst 0, 1)) rfl
theorem dX4_moved_2 : decode cX4_moved 2 = .ok (.iconst 1, 1) := d_of dm_X4_moved_c0 2 (q := (2, .iconst 1, 1)) rfl
theorem dX4_moved_3 : decode cX4_moved 3 = .ok (.invokestatic 56, 3) := d_of dm_X4_moved_c0 3 (q := (3, .invokestatic 56, 3)) rfl
theorem dX4_moved_6 : decode cX4_moved 6 = .ok (.ifCond .ne 10, 3) := d_of dm_X4_moved_c0 4 (q := (6, .ifCond .ne 10, 3)) rfl
theorem dX4_moved_9 : decode cX4_moved 9 = .ok (.aload_n 0, 1) := d_of dm_X4_moved_c0 5 (q := (9, .aload_n 0, 1)) rfl
theorem dX4_moved_10 : decode cX4_moved 10 = .ok (.bipush (-2), 2) := d_of dm_X4_moved_c0 6 (q := (10, .bipush (-2), 2)) rfl
theorem dX4_moved_12 : decode cX4_moved 12 = .ok (.invokevirtual 63, 3) := d_of dm_X4_moved_c0 7 (q := (12, .invokevirtual 63, 3)) rfl
theorem dX4_moved_15 : decode cX4_moved 15 = .ok (.ireturn, 1) := d_of dm_X4_moved_c0 8 (q := (15, .ireturn, 1)) rfl
theorem dX4_moved_16 : decode cX4_moved 16 = .ok (.aload_n 0, 1) := d_of dm_X4_moved_c0 9 (q := (16, .aload_n 0, 1)) rfl
theorem dX4_moved_17 : decode cX4_moved 17 = .ok (.aload_n 0, 1) := d_of dm_X4_moved_c0 10 (q := (17, .aload_n 0, 1)) rfl
theorem dX4_moved_18 : decode cX4_moved 18 = .ok (.getfield 95, 3) := d_of dm_X4_moved_c0 11 (q := (18, .getfield 95, 3)) rfl
theorem dX4_moved_21 : decode cX4_moved 21 = .ok (.invokevirtual 146, 3) := d_of dm_X4_moved_c0 12 (q := (21, .invokevirtual 146, 3)) rfl
theorem dX4_moved_24 : decode cX4_moved 24 = .ok (.ifCond .ne 7, 3) := d_of dm_X4_moved_c0 13 (q := (24, .ifCond .ne 7, 3)) rfl
theorem dX4_moved_27 : decode cX4_moved 27 = .ok (.iconst 1, 1) := d_of dm_X4_moved_c0 14 (q := (27, .iconst 1, 1)) rfl
theorem dX4_moved_28 : decode cX4_moved 28 = .ok (.goto 4, 3) := d_of dm_X4_moved_c0 15 (q := (28, .goto 4, 3)) rfl
theorem dX4_moved_31 : decode cX4_moved 31 = .ok (.iconst 0, 1) := d_of dm_X4_moved_c0 16 (q := (31, .iconst 0, 1)) rfl
theorem dX4_moved_32 : decode cX4_moved 32 = .ok (.istore_n 2, 1) := d_of dm_X4_moved_c0 17 (q := (32, .istore_n 2, 1)) rfl
theorem dX4_moved_33 : decode cX4_moved 33 = .ok (.iload_n 2, 1) := d_of dm_X4_moved_c0 18 (q := (33, .iload_n 2, 1)) rfl
theorem dX4_moved_34 : decode cX4_moved 34 = .ok (.ifCond .eq 8, 3) := d_of dm_X4_moved_c0 19 (q := (34, .ifCond .eq 8, 3)) rfl
theorem dX4_moved_37 : decode cX4_moved 37 = .ok (.bipush (-9), 2) := d_of dm_X4_moved_c0 20 (q := (37, .bipush (-9), 2)) rfl
theorem dX4_moved_39 : decode cX4_moved 39 = .ok (.goto 7, 3) := d_of dm_X4_moved_c0 21 (q := (39, .goto 7, 3)) rfl
theorem dX4_moved_42 : decode cX4_moved 42 = .ok (.aload_n 0, 1) := d_of dm_X4_moved_c0 22 (q := (42, .aload_n 0, 1)) rfl
theorem dX4_moved_43 : decode cX4_moved 43 = .ok (.invokevirtual 154, 3) := d_of dm_X4_moved_c0 23 (q := (43, .invokevirtual 154, 3)) rfl
theorem dX4_moved_46 : decode cX4_moved 46 = .ok (.istore_n 3, 1) := d_of dm_X4_moved_c0 24 (q := (46, .istore_n 3, 1)) rfl
def dl_X4_moved_c25 : List (Nat × Instr × Nat) := [(47, .iload_n 1, 1), (48, .iconst 1, 1), (49, .if_icmp .ne 5, 3), (52, .iload_n 3, 1), (53, .ireturn, 1), (54, .iload_n 2, 1), (55, .ifCond .eq 7, 3), (58, .iconst 0, 1), (59, .goto 26, 3), (62, .iload_n 3, 1), (63, .bipush (-9), 2), (65, .if_icmp .eq 7, 3), (68, .iconst 1, 1), (69, .goto 16, 3), (72, .aload_n 0, 1), (73, .invokevirtual 158, 3), (76, .ifCond .eq 7, 3), (79, .iconst 2, 1), (80, .goto 5, 3), (83, .bipush (-9), 2), (85, .ireturn, 1)]
set_option maxRecDepth 100000 in
theorem dm_X4_moved_c25 : dl_X4_moved_c25.all (fun q => decide (decode cX4_moved q.1 = .ok q.2)) = true := by decide +kernel
theorem dX4_moved_47 : decode cX4_moved 47 = .ok (.iload_n 1, 1) := d_of dm_X4_moved_c25 0 (q := (47, .iload_n 1, 1)) rfl
theorem dX4_moved_48 : decode cX4_moved 48 = .ok (.iconst 1, 1) := d_of dm_X4_moved_c25 1 (q := (48, .iconst 1, 1)) rfl
theorem dX4_moved_49 : decode cX4_moved 49 = .ok (.if_icmp .ne 5, 3) := d_of dm_X4_moved_c25 2 (q := (49, .if_icmp .ne 5, 3)) rfl
theorem dX4_moved_52 : decode cX4_moved 52 = .ok (.iload_n 3, 1) := d_of dm_X4_moved_c25 3 (q := (52, .iload_n 3, 1)) rfl
theorem dX4_moved_53 : decode cX4_moved 53 = .ok (.ireturn, 1) := d_of dm_X4_moved_c25 4 (q := (53, .ireturn, 1)) rfl
theorem dX4_moved_54 : decode cX4_moved 54 = .ok (.iload_n 2, 1) := d_of dm_X4_moved_c25 5 (q := (54, .iload_n 2, 1)) rfl
theorem dX4_moved_55 : decode cX4_moved 55 = .ok (.ifCond .eq 7, 3) := d_of dm_X4_moved_c25 6 (q := (55, .ifCond .eq 7, 3)) rfl
theorem dX4_moved_58 : decode cX4_moved 58 = .ok (.iconst 0, 1) := d_of dm_X4_moved_c25 7 (q := (58, .iconst 0, 1)) rfl
theorem dX4_moved_59 : decode cX4_moved 59 = .ok (.goto 26, 3) := d_of dm_X4_moved_c25 8 (q := (59, .goto 26, 3)) rfl
theorem dX4_moved_62 : decode cX4_moved 62 = .ok (.iload_n 3, 1) := d_of dm_X4_moved_c25 9 (q := (62, .iload_n 3, 1)) rfl
theorem dX4_moved_63 : decode cX4_moved 63 = .ok (.bipush (-9), 2) := d_of dm_X4_moved_c25 10 (q := (63, .bipush (-9), 2)) rfl
theorem dX4_moved_65 : decode cX4_moved 65 = .ok (.if_icmp .eq 7, 3) := d_of dm_X4_moved_c25 11 (q := (65, .if_icmp .eq 7, 3)) rfl
theorem dX4_moved_68 : decode cX4_moved 68 = .ok (.iconst 1, 1) := d_of dm_X4_moved_c25 12 (q := (68, .iconst 1, 1)) rfl
theorem dX4_moved_69 : decode cX4_moved 69 = .ok (.goto 16, 3) := d_of dm_X4_moved_c25 13 (q := (69, .goto 16, 3)) rfl
theorem dX4_moved_72 : decode cX4_moved 72 = .ok (.aload_n 0, 1) := d_of dm_X4_moved_c25 14 (q := (72, .aload_n 0, 1)) rfl
theorem dX4_moved_73 : decode cX4_moved 73 = .ok (.invokevirtual 158, 3) := d_of dm_X4_moved_c25 15 (q := (73, .invokevirtual 158, 3)) rfl
theorem dX4_moved_76 : decode cX4_moved 76 = .ok (.ifCond .eq 7, 3) := d_of dm_X4_moved_c25 16 (q := (76, .ifCond .eq 7, 3)) rfl
theorem dX4_moved_79 : decode cX4_moved 79 = .ok (.iconst 2, 1) := d_of dm_X4_moved_c25 17 (q := (79, .iconst 2, 1)) rfl
theorem dX4_moved_80 : decode cX4_moved 80 = .ok (.goto 5, 3) := d_of dm_X4_moved_c25 18 (q := (80, .goto 5, 3)) rfl
theorem dX4_moved_83 : decode cX4_moved 83 = .ok (.bipush (-9), 2) := d_of dm_X4_moved_c25 19 (q := (83, .bipush (-9), 2)) rfl
theorem dX4_moved_85 : decode cX4_moved 85 = .ok (.ireturn, 1) := d_of dm_X4_moved_c25 20 (q := (85, .ireturn, 1)) rfl
def dl_X4_given_c0 : List (Nat × Instr × Nat) := [(0, .aload_n 0, 1), (1, .iload_n 1, 1), (2, .invokevirtual 112, 3), (5, .ifCond .ne 9, 3), (8, .aload_n 0, 1), (9, .iconst (-1), 1), (10, .invokevirtual 63, 3), (13, .ireturn, 1), (14, .aload_n 0, 1), (15, .getfield 22, 3), (18, .iload_n 1, 1), (19, .iaload, 1), (20, .bipush (-9), 2), (22, .if_icmp .eq 10, 3), (25, .aload_n 0, 1), (26, .bipush (-3), 2), (28, .invokevirtual 63, 3), (31, .ireturn, 1), (32, .iconst 0, 1), (33, .istore_n 2, 1), (34, .iconst 0, 1), (35, .istore_n 3, 1), (36, .iload_n 3, 1), (37, .aload_n 0, 1), (38, .getfield 52, 3)]
set_option maxRecDepth 100000 in
theorem dm_X4_given_c0 : dl_X4_given_c0.all (fun q => decide (decode cX4_given q.1 = .ok q.2)) = true := by decide +kernel
theorem dX4_given_0 : decode cX4_given 0 = .ok (.aload_n 0, 1) := d_of dm_X4_given_c0 0 (q := (0, .aload_n 0, 1)) rfl
theorem dX4_given_1 : decode cX4_given 1 = .ok (.iload_n 1, 1) := d_of dm_X4_given_c0 1 (q := (1, .iload_n 1, 1)) rfl
theorem dX4_given_2 : decode cX4_given 2 = .ok (.invokevirtual 112, 3) := d_of dm_X4_given_c0 2 (q := (2, .invokevirtual 112, 3)) rfl
theorem dX4_given_5 : decode cX4_given 5 = .ok (.ifCond .ne 9, 3) := d_of dm_X4_given_c0 3 (q := (5, .ifCond .ne 9, 3)) rfl
theorem dX4_given_8 : decode cX4_given 8 = .ok (.aload_n 0, 1) := d_of dm_X4_given_c0 4 (q := (8, .aload_n 0, 1)) rfl
theorem dX4_given_9 : decode cX4_given 9 = .ok (.iconst (-1), 1) := d_of dm_X4_given_c0 5 (q := (9, .iconst (-1), 1)) rfl
theorem dX4_given_10 : decode cX4_given 10 = .ok (.invokevirtual 63, 3) := d_of dm_X4_given_c0 6 (q := (10, .invokevirtual 63, 3)) rfl
theorem dX4_given_13 : decode cX4_given 13 = .ok (.ireturn, 1) := d_of dm_X4_given_c0 7 (q := (13, .ireturn, 1)) rfl
theorem dX4_given_14 : decode cX4_given 14 = .ok (.aload_n 0, 1) := d_of dm_X4_given_c0 8 (q := (14, .aload_n 0, 1)) rfl
theorem dX4_given_15 : decode cX4_given 15 = .ok (.getfield 22, 3) := d_of dm_X4_given_c0 9 (q := (15, .getfield 22, 3)) rfl
theorem dX4_given_18 : decode cX4_given 18 = .ok (.iload_n 1, 1) := d_of dm_X4_given_c0 10 (q := (18, .iload_n 1, 1)) rfl
theorem dX4_given_19 : decode cX4_given 19 = .ok (.iaload, 1) := d_of dm_X4_given_c0 11 (q := (19, .iaload, 1)) rfl
theorem dX4_given_20 : decode cX4_given 20 = .ok (.bipush (-9), 2) := d_of dm_X4_given_c0 12 (q := (20, .bipush (-9), 2)) rfl
theorem dX4_given_22 : decode cX4_given 22 = .ok (.if_icmp .eq 10, 3) := d_of dm_X4_given_c0 13 (q := (22, .if_icmp .eq 10, 3)) rfl
theorem dX4_given_25 : decode cX4_given 25 = .ok (.aload_n 0, 1) := d_of dm_X4_given_c0 14 (q := (25, .aload_n 0, 1)) rfl
theorem dX4_given_26 : decode cX4_given 26 = .ok (.bipush (-3), 2) := d_of dm_X4_given_c0 15 (q := (26, .bipush (-3), 2)) rfl
theorem dX4_given_28 : decode cX4_given 28 = .ok (.invokevirtual 63, 3) := d_of dm_X4_given_c0 16 (q := (28, .invokevirtual 63, 3)) rfl
theorem dX4_given_31 : decode cX4_given 31 = .ok (.ireturn, 1) := d_of dm_X4_given_c0 17 (q := (31, .ireturn, 1)) rfl
theorem dX4_given_32 : decode cX4_given 32 = .ok (.iconst 0, 1) := d_of dm_X4_given_c0 18 (q := (32, .iconst 0, 1)) rfl
theorem dX4_given_33 : decode cX4_given 33 = .ok (.istore_n 2, 1) := d_of dm_X4_given_c0 19 (q := (33, .istore_n 2, 1)) rfl
theorem dX4_given_34 : decode cX4_given 34 = .ok (.iconst 0, 1) := d_of dm_X4_given_c0 20 (q := (34, .iconst 0, 1)) rfl
theorem dX4_given_35 : decode cX4_given 35 = .ok (.istore_n 3, 1) := d_of dm_X4_given_c0 21 (q := (35, .istore_n 3, 1)) rfl
theorem dX4_given_36 : decode cX4_given 36 = .ok (.iload_n 3, 1) := d_of dm_X4_given_c0 22 (q := (36, .iload_n 3, 1)) rfl
theorem dX4_given_37 : decode cX4_given 37 = .ok (.aload_n 0, 1) := d_of dm_X4_given_c0 23 (q := (37, .aload_n 0, 1)) rfl
theorem dX4_given_38 : decode cX4_given 38 = .ok (.getfield 52, 3) := d_of dm_X4_given_c0 24 (q := (38, .getfield 52, 3)) rfl
def dl_X4_given_c25 : List (Nat × Instr × Nat) := [(41, .if_icmp .ge 31, 3), (44, .iload_n 3, 1), (45, .iload_n 1, 1), (46, .if_icmp .eq 20, 3), (49, .aload_n 0, 1), (50, .getfield 22, 3), (53, .iload_n 3, 1), (54, .iaload, 1), (55, .bipush (-9), 2), (57, .if_icmp .ne 9, 3), (60, .iload_n 2, 1), (61, .iconst 1, 1), (62, .iload_n 3, 1), (63, .ishl, 1), (64, .ior, 1), (65, .istore_n 2, 1), (66, .iinc 3 1, 3), (69, .goto (-33), 3), (72, .iconst 0, 1), (73, .istore_n 3, 1), (74, .iload_n 3, 1), (75, .bipush 8, 2), (77, .if_icmp .ge 58, 3), (80, .aload_n 0, 1), (81, .iload_n 3, 1)]
set_option maxRecDepth 100000 in
theorem dm_X4_given_c25 : dl_X4_given_c25.all (fun q => decide (decode cX4_given q.1 = .ok q.2)) = true := by decide +kernel
theorem dX4_given_41 : decode cX4_given 41 = .ok (.if_icmp .ge 31, 3) := d_of dm_X4_given_c25 0 (q := (41, .if_icmp .ge 31, 3)) rfl
theorem dX4_given_44 : decode cX4_given 44 = .ok (.iload_n 3, 1) := d_of dm_X4_given_c25 1 (q := (44, .iload_n 3, 1)) rfl
theorem dX4_given_45 : decode cX4_given 45 = .ok (.iload_n 1, 1) := d_of dm_X4_given_c25 2 (q := (45, .iload_n 1, 1)) rfl
theorem dX4_given_46 : decode cX4_given 46 = .ok (.if_icmp .eq 20, 3) := d_of dm_X4_given_c25 3 (q := (46, .if_icmp .eq 20, 3)) rfl
theorem dX4_given_49 : decode cX4_given 49 = .ok (.aload_n 0, 1) := d_of dm_X4_given_c25 4 (q := (49, .aload_n 0, 1)) rfl
theorem dX4_given_50 : decode cX4_given 50 = .ok (.getfield 22, 3) := d_of dm_X4_given_c25 5 (q := (50, .getfield 22, 3)) rfl
theorem dX4_given_53 : decode cX4_given 53 = .ok (.iload_n 3, 1) := d_of dm_X4_given_c25 6 (q := (53, .iload_n 3, 1)) rfl
theorem dX4_given_54 : decode cX4_given 54 = .ok (.iaload, 1) := d_of dm_X4_given_c25 7 (q := (54, .iaload, 1)) rfl
theorem dX4_given_55 : decode cX4_given 55 = .ok (.bipush (-9), 2) := d_of dm_X4_given_c25 8 (q := (55, .bipush (-9), 2)) rfl
theorem dX4_given_57 : decode cX4_given 57 = .ok (.if_icmp .ne 9, 3) := d_of dm_X4_given_c25 9 (q := (57, .if_icmp .ne 9, 3)) rfl
theorem dX4_given_60 : decode cX4_given 60 = .ok (.iload_n 2, 1) := d_of dm_X4_given_c25 10 (q := (60, .iload_n 2, 1)) rfl
theorem dX4_given_61 : decode cX4_given 61 = .ok (.iconst 1, 1) := d_of dm_X4_given_c25 11 (q := (61, .iconst 1, 1)) rfl
theorem dX4_given_62 : decode cX4_given 62 = .ok (.iload_n 3, 1) := d_of dm_X4_given_c25 12 (q := (62, .iload_n 3, 1)) rfl
theorem dX4_given_63 : decode cX4_given 63 = .ok (.ishl, 1) := d_of dm_X4_given_c25 13 (q := (63, .ishl, 1)) rfl
theorem dX4_given_64 : decode cX4_given 64 = .ok (.ior, 1) := d_of dm_X4_given_c25 14 (q := (64, .ior, 1)) rfl
theorem dX4_given_65 : decode cX4_given 65 = .ok (.istore_n 2, 1) := d_of dm_X4_given_c25 15 (q := (65, .istore_n 2, 1)) rfl
theorem dX4_given_66 : decode cX4_given 66 = .ok (.iinc 3 1, 3) := d_of dm_X4_given_c25 16 (q := (66, .iinc 3 1, 3)) rfl
theorem dX4_given_69 : decode cX4_given 69 = .ok (.goto (-33), 3) := d_of dm_X4_given_c25 17 (q := (69, .goto (-33), 3)) rfl
theorem dX4_given_72 : decode cX4_given 72 = .ok (.iconst 0, 1) := d_of dm_X4_given_c25 18 (q := (72, .iconst 0, 1)) rfl
theorem dX4_given_73 : decode cX4_given 73 = .ok (.istore_n 3, 1) := d_of dm_X4_given_c25 19 (q := (73, .istore_n 3, 1)) rfl
theorem dX4_given_74 : decode cX4_given 74 = .ok (.iload_n 3, 1) := d_of dm_X4_given_c25 20 (q := (74, .iload_n 3, 1)) rfl
theorem dX4_given_75 : decode cX4_given 75 = .ok (.bipush 8, 2) := d_of dm_X4_given_c25 21 (q := (75, .bipush 8, 2)) rfl
theorem dX4_given_77 : decode cX4_given 77 = .ok (.if_icmp .ge 58, 3) := d_of dm_X4_given_c25 22 (q := (77, .if_icmp .ge 58, 3)) rfl
theorem dX4_given_80 : decode cX4_given 80 = .ok (.aload_n 0, 1) := d_of dm_X4_given_c25 23 (q := (80, .aload_n 0, 1)) rfl
theorem dX4_given_81 : decode cX4_given 81 = .ok (.iload_n 3, 1) := d_of dm_X4_given_c25 24 (q := (81, .iload_n 3, 1)) rfl
def dl_X4_given_c50 : List (Nat × Instr × Nat) := [(82, .invokevirtual 142, 3), (85, .iconst 0, 1), (86, .istore 4, 2), (88, .iload 4, 2), (90, .aload_n 0, 1), (91, .getfield 52, 3), (94, .if_icmp .ge 35, 3), (97, .aload_n 0, 1), (98, .getfield 46, 3), (101, .iload 4, 2), (103, .iaload, 1), (104, .aload_n 0, 1), (105, .getfield 46, 3), (108, .iload_n 1, 1), (109, .iaload, 1), (110, .iand, 1), (111, .ifCond .eq 12, 3), (114, .iload_n 2, 1), (115, .iconst 1, 1), (116, .iload 4, 2), (118, .ishl, 1), (119, .iconst (-1), 1), (120, .ixor, 1), (121, .iand, 1), (122, .istore_n 2, 1)]
set_option maxRecDepth 100000 in
theorem dm_X4_given_c50 : dl_X4_given_c50.all (fun q => decide (decode cX4_given q.1 = .ok q.2)) = true := by decide +kernel
theorem dX4_given_82 : decode cX4_given 82 = .ok (.invokevirtual 142, 3) := d_of dm_X4_given_c50 0 (q := (82, .invokevirtual 142, 3)) rfl
theorem dX4_given_85 : decode cX4_given 85 = .ok (.iconst 0, 1) := d_of dm_X4_given_c50 1 (q := (85, .iconst 0, 1)) rfl
theorem dX4_given_86 : decode cX4_given 86 = .ok (.istore 4, 2) := d_of dm_X4_given_c50 2 (q := (86, .istore 4, 2)) rfl
theorem dX4_given_88 : decode cX4_given 88 = .ok (.iload 4, 2) := d_of dm_X4_given_c50 3 (q := (88, .iload 4, 2)) rfl
theorem dX4_given_90 : decode cX4_given 90 = .ok (.aload_n 0, 1) := d_of dm_X4_given_c50 4 (q := (90, .aload_n 0, 1)) rfl
theorem dX4_given_91 : decode cX4_given 91 = .ok (.getfield 52, 3) := d_of dm_X4_given_c50 5 (q := (91, .getfield 52, 3)) rfl
theorem dX4_given_94 : decode cX4_given 94 = .ok (.if_icmp .ge 35, 3) := d_of dm_X4_given_c50 6 (q := (94, .if_icmp .ge 35, 3)) rfl
theorem dX4_given_97 : decode cX4_given 97 = .ok (.aload_n 0, 1) := d_of dm_X4_given_c50 7 (q := (97, .aload_n 0, 1)) rfl
theorem dX4_given_98 : decode cX4_given 98 = .ok (.getfield 46, 3) := d_of dm_X4_given_c50 8 (q := (98, .getfield 46, 3)) rfl
theorem dX4_given_101 : decode cX4_given 101 = .ok (.iload 4, 2) := d_of dm_X4_given_c50 9 (q := (101, .iload 4, 2)) rfl
theorem dX4_given_103 : decode cX4_given 103 = .ok (.iaload, 1) := d_of dm_X4_given_c50 10 (q := (103, .iaload, 1)) rfl
theorem dX4_given_104 : decode cX4_given 104 = .ok (.aload_n 0, 1) := d_of dm_X4_given_c50 11 (q := (104, .aload_n 0, 1)) rfl
theorem dX4_given_105 : decode cX4_given 105 = .ok (.getfield 46, 3) := d_of dm_X4_given_c50 12 (q := (105, .getfield 46, 3)) rfl
theorem dX4_given_108 : decode cX4_given 108 = .ok (.iload_n 1, 1) := d_of dm_X4_given_c50 13 (q := (108, .iload_n 1, 1)) rfl
theorem dX4_given_109 : decode cX4_given 109 = .ok (.iaload, 1) := d_of dm_X4_given_c50 14 (q := (109, .iaload, 1)) rfl
theorem dX4_given_110 : decode cX4_given 110 = .ok (.iand, 1) := d_of dm_X4_given_c50 15 (q := (110, .iand, 1)) rfl
theorem dX4_given_111 : decode cX4_given 111 = .ok (.ifCond .eq 12, 3) := d_of dm_X4_given_c50 16 (q := (111, .ifCond .eq 12, 3)) rfl
theorem dX4_given_114 : decode cX4_given 114 = .ok (.iload_n 2, 1) := d_of dm_X4_given_c50 17 (q := (114, .iload_n 2, 1)) rfl
theorem dX4_given_115 : decode cX4_given 115 = .ok (.iconst 1, 1) := d_of dm_X4_given_c50 18 (q := (115, .iconst 1, 1)) rfl
theorem dX4_given_116 : decode cX4_given 116 = .ok (.iload 4, 2) := d_of dm_X4_given_c50 19 (q := (116, .iload 4, 2)) rfl
theorem dX4_given_118 : decode cX4_given 118 = .ok (.ishl, 1) := d_of dm_X4_given_c50 20 (q := (118, .ishl, 1)) rfl
theorem dX4_given_119 : decode cX4_given 119 = .ok (.iconst (-1), 1) := d_of dm_X4_given_c50 21 (q := (119, .iconst (-1), 1)) rfl
theorem dX4_given_120 : decode cX4_given 120 = .ok (.ixor, 1) := d_of dm_X4_given_c50 22 (q := (120, .ixor, 1)) rfl
theorem dX4_given_121 : decode cX4_given 121 = .ok (.iand, 1) := d_of dm_X4_given_c50 23 (q := (121, .iand, 1)) rfl
theorem dX4_given_122 : decode cX4_given 122 = .ok (.istore_n 2, 1) := d_of dm_X4_given_c50 24 (q := (122, .istore_n 2, 1)) rfl
def dl_X4_given_c75 : List (Nat × Instr × Nat) := [(123, .iinc 4 1, 3), (126, .goto (-38), 3), (129, .iinc 3 1, 3), (132, .goto (-58), 3), (135, .iload_n 2, 1), (136, .ireturn, 1)]
set_option maxRecDepth 100000 in
theorem dm_X4_given_c75 : dl_X4_given_c75.all (fun q => decide (decode cX4_given q.1 = .ok q.2)) = true := by decide +kernel
theorem dX4_given_123 : decode cX4_given 123 = .ok (.iinc 4 1, 3) := d_of dm_X4_given_c75 0 (q := (123, .iinc 4 1, 3)) rfl
theorem dX4_given_126 : decode cX4_given 126 = .ok (.goto (-38), 3) := d_of dm_X4_given_c75 1 (q := (126, .goto (-38), 3)) rfl
theorem dX4_given_129 : decode cX4_given 129 = .ok (.iinc 3 1, 3) := d_of dm_X4_given_c75 2 (q := (129, .iinc 3 1, 3)) rfl
theorem dX4_given_132 : decode cX4_given 132 = .ok (.goto (-58), 3) := d_of dm_X4_given_c75 3 (q := (132, .goto (-58), 3)) rfl
theorem dX4_given_135 : decode cX4_given 135 = .ok (.iload_n 2, 1) := d_of dm_X4_given_c75 4 (q := (135, .iload_n 2, 1)) rfl
theorem dX4_given_136 : decode cX4_given 136 = .ok (.ireturn, 1) := d_of dm_X4_given_c75 5 (q := (136, .ireturn, 1)) rfl
def dl_X4_mayBe_c0 : List (Nat × Instr × Nat) := [(0, .iload_n 3, 1), (1, .ifCond .eq 25, 3), (4, .aload_n 0, 1), (5, .getfield 46, 3), (8, .iload_n 1, 1), (9, .iaload, 1), (10, .aload_n 0, 1), (11, .getfield 46, 3), (14, .iload_n 2, 1), (15, .iaload, 1), (16, .iand, 1), (17, .ifCond .ne 7, 3), (20, .iconst 1, 1), (21, .goto 4, 3), (24, .iconst 0, 1), (25, .ireturn, 1), (26, .iconst 0, 1), (27, .istore 4, 2), (29, .iload 4, 2), (31, .aload_n 0, 1), (32, .getfield 162, 3), (35, .if_icmp .ge 39, 3), (38, .aload_n 0, 1), (39, .getfield 25, 3), (42, .iload 4, 2)]
set_option maxRecDepth 100000 in
theorem dm_X4_mayBe_c0 : dl_X4_mayBe_c0.all (fun q => decide (decode cX4_mayBe q.1 = .ok q.2)) = true := by decide +kernel
theorem dX4_mayBe_0 : decode cX4_mayBe 0 = .ok (.iload_n 3, 1) := d_of dm_X4_mayBe_c0 0 (q := (0, .iload_n 3, 1)) rfl
theorem dX4_mayBe_1 : decode cX4_mayBe 1 = .ok (.ifCond .eq 25, 3) := d_of dm_X4_mayBe_c0 1 (q := (1, .ifCond .eq 25, 3)) rfl
theorem dX4_mayBe_4 : decode cX4_mayBe 4 = .ok (.aload_n 0, 1) := d_of dm_X4_mayBe_c0 2 (q := (4, .aload_n 0, 1)) rfl
theorem dX4_mayBe_5 : decode cX4_mayBe 5 = .ok (.getfield 46, 3) := d_of dm_X4_mayBe_c0 3 (q := (5, .getfield 46, 3)) rfl
theorem dX4_mayBe_8 : decode cX4_mayBe 8 = .ok (.iload_n 1, 1) := d_of dm_X4_mayBe_c0 4 (q := (8, .iload_n 1, 1)) rfl
theorem dX4_mayBe_9 : decode cX4_mayBe 9 = .ok (.iaload, 1) := d_of dm_X4_mayBe_c0 5 (q := (9, .iaload, 1)) rfl
theorem dX4_mayBe_10 : decode cX4_mayBe 10 = .ok (.aload_n 0, 1) := d_of dm_X4_mayBe_c0 6 (q := (10, .aload_n 0, 1)) rfl
theorem dX4_mayBe_11 : decode cX4_mayBe 11 = .ok (.getfield 46, 3) := d_of dm_X4_mayBe_c0 7 (q := (11, .getfield 46, 3)) rfl
theorem dX4_mayBe_14 : decode cX4_mayBe 14 = .ok (.iload_n 2, 1) := d_of dm_X4_mayBe_c0 8 (q := (14, .iload_n 2, 1)) rfl
theorem dX4_mayBe_15 : decode cX4_mayBe 15 = .ok (.iaload, 1) := d_of dm_X4_mayBe_c0 9 (q := (15, .iaload, 1)) rfl
theorem dX4_mayBe_16 : decode cX4_mayBe 16 = .ok (.iand, 1) := d_of dm_X4_mayBe_c0 10 (q := (16, .iand, 1)) rfl
theorem dX4_mayBe_17 : decode cX4_mayBe 17 = .ok (.ifCond .ne 7, 3) := d_of dm_X4_mayBe_c0 11 (q := (17, .ifCond .ne 7, 3)) rfl
theorem dX4_mayBe_20 : decode cX4_mayBe 20 = .ok (.iconst 1, 1) := d_of dm_X4_mayBe_c0 12 (q := (20, .iconst 1, 1)) rfl
theorem dX4_mayBe_21 : decode cX4_mayBe 21 = .ok (.goto 4, 3) := d_of dm_X4_mayBe_c0 13 (q := (21, .goto 4, 3)) rfl
theorem dX4_mayBe_24 : decode cX4_mayBe 24 = .ok (.iconst 0, 1) := d_of dm_X4_mayBe_c0 14 (q := (24, .iconst 0, 1)) rfl
theorem dX4_mayBe_25 : decode cX4_mayBe 25 = .ok (.ireturn, 1) := d_of dm_X4_mayBe_c0 15 (q := (25, .ireturn, 1)) rfl
theorem dX4_mayBe_26 : decode cX4_mayBe 26 = .ok (.iconst 0, 1) := d_of dm_X4_mayBe_c0 16 (q := (26, .iconst 0, 1)) rfl
theorem dX4_mayBe_27 : decode cX4_mayBe 27 = .ok (.istore 4, 2) := d_of dm_X4_mayBe_c0 17 (q := (27, .istore 4, 2)) rfl
theorem dX4_mayBe_29 : decode cX4_mayBe 29 = .ok (.iload 4, 2) := d_of dm_X4_mayBe_c0 18 (q := (29, .iload 4, 2)) rfl
theorem dX4_mayBe_31 : decode cX4_mayBe 31 = .ok (.aload_n 0, 1) := d_of dm_X4_mayBe_c0 19 (q := (31, .aload_n 0, 1)) rfl
theorem dX4_mayBe_32 : decode cX4_mayBe 32 = .ok (.getfield 162, 3) := d_of dm_X4_mayBe_c0 20 (q := (32, .getfield 162, 3)) rfl
theorem dX4_mayBe_35 : decode cX4_mayBe 35 = .ok (.if_icmp .ge 39, 3) := d_of dm_X4_mayBe_c0 21 (q := (35, .if_icmp .ge 39, 3)) rfl
theorem dX4_mayBe_38 : decode cX4_mayBe 38 = .ok (.aload_n 0, 1) := d_of dm_X4_mayBe_c0 22 (q := (38, .aload_n 0, 1)) rfl
theorem dX4_mayBe_39 : decode cX4_mayBe 39 = .ok (.getfield 25, 3) := d_of dm_X4_mayBe_c0 23 (q := (39, .getfield 25, 3)) rfl
theorem dX4_mayBe_42 : decode cX4_mayBe 42 = .ok (.iload 4, 2) := d_of dm_X4_mayBe_c0 24 (q := (42, .iload 4, 2)) rfl
def dl_X4_mayBe_c25 : List (Nat × Instr × Nat) := [(44, .iaload, 1), (45, .iload_n 1, 1), (46, .invokestatic 129, 3), (49, .ifCond .eq 19, 3), (52, .aload_n 0, 1), (53, .getfield 25, 3), (56, .iload 4, 2), (58, .iaload, 1), (59, .iload_n 2, 1), (60, .invokestatic 129, 3), (63, .ifCond .eq 5, 3), (66, .iconst 0, 1), (67, .ireturn, 1), (68, .iinc 4 1, 3), (71, .goto (-42), 3), (74, .iconst 1, 1), (75, .ireturn, 1)]
set_option maxRecDepth 100000 in
theorem dm_X4_mayBe_c25 : dl_X4_mayBe_c25.all (fun q => decide (decode cX4_mayBe q.1 = .ok q.2)) = true := by decide +kernel
theorem dX4_mayBe_44 : decode cX4_mayBe 44 = .ok (.iaload, 1) := d_of dm_X4_mayBe_c25 0 (q := (44, .iaload, 1)) rfl
theorem dX4_mayBe_45 : decode cX4_mayBe 45 = .ok (.iload_n 1, 1) := d_of dm_X4_mayBe_c25 1 (q := (45, .iload_n 1, 1)) rfl
theorem dX4_mayBe_46 : decode cX4_mayBe 46 = .ok (.invokestatic 129, 3) := d_of dm_X4_mayBe_c25 2 (q := (46, .invokestatic 129, 3)) rfl
theorem dX4_mayBe_49 : decode cX4_mayBe 49 = .ok (.ifCond .eq 19, 3) := d_of dm_X4_mayBe_c25 3 (q := (49, .ifCond .eq 19, 3)) rfl
theorem dX4_mayBe_52 : decode cX4_mayBe 52 = .ok (.aload_n 0, 1) := d_of dm_X4_mayBe_c25 4 (q := (52, .aload_n 0, 1)) rfl
theorem dX4_mayBe_53 : decode cX4_mayBe 53 = .ok (.getfield 25, 3) := d_of dm_X4_mayBe_c25 5 (q := (53, .getfield 25, 3)) rfl
theorem dX4_mayBe_56 : decode cX4_mayBe 56 = .ok (.iload 4, 2) := d_of dm_X4_mayBe_c25 6 (q := (56, .iload 4, 2)) rfl
theorem dX4_mayBe_58 : decode cX4_mayBe 58 = .ok (.iaload, 1) := d_of dm_X4_mayBe_c25 7 (q := (58, .iaload, 1)) rfl
theorem dX4_mayBe_59 : decode cX4_mayBe 59 = .ok (.iload_n 2, 1) := d_of dm_X4_mayBe_c25 8 (q := (59, .iload_n 2, 1)) rfl
theorem dX4_mayBe_60 : decode cX4_mayBe 60 = .ok (.invokestatic 129, 3) := d_of dm_X4_mayBe_c25 9 (q := (60, .invokestatic 129, 3)) rfl
theorem dX4_mayBe_63 : decode cX4_mayBe 63 = .ok (.ifCond .eq 5, 3) := d_of dm_X4_mayBe_c25 10 (q := (63, .ifCond .eq 5, 3)) rfl
theorem dX4_mayBe_66 : decode cX4_mayBe 66 = .ok (.iconst 0, 1) := d_of dm_X4_mayBe_c25 11 (q := (66, .iconst 0, 1)) rfl
theorem dX4_mayBe_67 : decode cX4_mayBe 67 = .ok (.ireturn, 1) := d_of dm_X4_mayBe_c25 12 (q := (67, .ireturn, 1)) rfl
theorem dX4_mayBe_68 : decode cX4_mayBe 68 = .ok (.iinc 4 1, 3) := d_of dm_X4_mayBe_c25 13 (q := (68, .iinc 4 1, 3)) rfl
theorem dX4_mayBe_71 : decode cX4_mayBe 71 = .ok (.goto (-42), 3) := d_of dm_X4_mayBe_c25 14 (q := (71, .goto (-42), 3)) rfl
theorem dX4_mayBe_74 : decode cX4_mayBe 74 = .ok (.iconst 1, 1) := d_of dm_X4_mayBe_c25 15 (q := (74, .iconst 1, 1)) rfl
theorem dX4_mayBe_75 : decode cX4_mayBe 75 = .ok (.ireturn, 1) := d_of dm_X4_mayBe_c25 16 (q := (75, .ireturn, 1)) rfl
def dl_X4_waysFor_c0 : List (Nat × Instr × Nat) := [(0, .iload_n 1, 1), (1, .ifCond .ne 5, 3), (4, .iconst 1, 1), (5, .ireturn, 1), (6, .iload_n 1, 1), (7, .invokestatic 165, 3), (10, .istore_n 3, 1), (11, .iconst 0, 1), (12, .istore 4, 2), (14, .iload_n 3, 1), (15, .iconst 1, 1), (16, .iadd, 1), (17, .istore 5, 2), (19, .iload 5, 2), (21, .aload_n 0, 1), (22, .getfield 52, 3), (25, .if_icmp .ge 51, 3), (28, .iload_n 1, 1), (29, .iload 5, 2), (31, .invokestatic 129, 3), (34, .ifCond .eq 36, 3), (37, .aload_n 0, 1), (38, .iload_n 3, 1), (39, .iload 5, 2), (41, .iload_n 2, 1)]
set_option maxRecDepth 100000 in
theorem dm_X4_waysFor_c0 : dl_X4_waysFor_c0.all (fun q => decide (decode cX4_waysFor q.1 = .ok q.2)) = true := by decide +kernel
theorem dX4_waysFor_0 : decode cX4_waysFor 0 = .ok (.iload_n 1, 1) := d_of dm_X4_waysFor_c0 0 (q := (0, .iload_n 1, 1)) rfl
theorem dX4_waysFor_1 : decode cX4_waysFor 1 = .ok (.ifCond .ne 5, 3) := d_of dm_X4_waysFor_c0 1 (q := (1, .ifCond .ne 5, 3)) rfl
theorem dX4_waysFor_4 : decode cX4_waysFor 4 = .ok (.iconst 1, 1) := d_of dm_X4_waysFor_c0 2 (q := (4, .iconst 1, 1)) rfl
theorem dX4_waysFor_5 : decode cX4_waysFor 5 = .ok (.ireturn, 1) := d_of dm_X4_waysFor_c0 3 (q := (5, .ireturn, 1)) rfl
theorem dX4_waysFor_6 : decode cX4_waysFor 6 = .ok (.iload_n 1, 1) := d_of dm_X4_waysFor_c0 4 (q := (6, .iload_n 1, 1)) rfl
theorem dX4_waysFor_7 : decode cX4_waysFor 7 = .ok (.invokestatic 165, 3) := d_of dm_X4_waysFor_c0 5 (q := (7, .invokestatic 165, 3)) rfl
theorem dX4_waysFor_10 : decode cX4_waysFor 10 = .ok (.istore_n 3, 1) := d_of dm_X4_waysFor_c0 6 (q := (10, .istore_n 3, 1)) rfl
theorem dX4_waysFor_11 : decode cX4_waysFor 11 = .ok (.iconst 0, 1) := d_of dm_X4_waysFor_c0 7 (q := (11, .iconst 0, 1)) rfl
theorem dX4_waysFor_12 : decode cX4_waysFor 12 = .ok (.istore 4, 2) := d_of dm_X4_waysFor_c0 8 (q := (12, .istore 4, 2)) rfl
theorem dX4_waysFor_14 : decode cX4_waysFor 14 = .ok (.iload_n 3, 1) := d_of dm_X4_waysFor_c0 9 (q := (14, .iload_n 3, 1)) rfl
theorem dX4_waysFor_15 : decode cX4_waysFor 15 = .ok (.iconst 1, 1) := d_of dm_X4_waysFor_c0 10 (q := (15, .iconst 1, 1)) rfl
theorem dX4_waysFor_16 : decode cX4_waysFor 16 = .ok (.iadd, 1) := d_of dm_X4_waysFor_c0 11 (q := (16, .iadd, 1)) rfl
theorem dX4_waysFor_17 : decode cX4_waysFor 17 = .ok (.istore 5, 2) := d_of dm_X4_waysFor_c0 12 (q := (17, .istore 5, 2)) rfl
theorem dX4_waysFor_19 : decode cX4_waysFor 19 = .ok (.iload 5, 2) := d_of dm_X4_waysFor_c0 13 (q := (19, .iload 5, 2)) rfl
theorem dX4_waysFor_21 : decode cX4_waysFor 21 = .ok (.aload_n 0, 1) := d_of dm_X4_waysFor_c0 14 (q := (21, .aload_n 0, 1)) rfl
theorem dX4_waysFor_22 : decode cX4_waysFor 22 = .ok (.getfield 52, 3) := d_of dm_X4_waysFor_c0 15 (q := (22, .getfield 52, 3)) rfl
theorem dX4_waysFor_25 : decode cX4_waysFor 25 = .ok (.if_icmp .ge 51, 3) := d_of dm_X4_waysFor_c0 16 (q := (25, .if_icmp .ge 51, 3)) rfl
theorem dX4_waysFor_28 : decode cX4_waysFor 28 = .ok (.iload_n 1, 1) := d_of dm_X4_waysFor_c0 17 (q := (28, .iload_n 1, 1)) rfl
theorem dX4_waysFor_29 : decode cX4_waysFor 29 = .ok (.iload 5, 2) := d_of dm_X4_waysFor_c0 18 (q := (29, .iload 5, 2)) rfl
theorem dX4_waysFor_31 : decode cX4_waysFor 31 = .ok (.invokestatic 129, 3) := d_of dm_X4_waysFor_c0 19 (q := (31, .invokestatic 129, 3)) rfl
theorem dX4_waysFor_34 : decode cX4_waysFor 34 = .ok (.ifCond .eq 36, 3) := d_of dm_X4_waysFor_c0 20 (q := (34, .ifCond .eq 36, 3)) rfl
theorem dX4_waysFor_37 : decode cX4_waysFor 37 = .ok (.aload_n 0, 1) := d_of dm_X4_waysFor_c0 21 (q := (37, .aload_n 0, 1)) rfl
theorem dX4_waysFor_38 : decode cX4_waysFor 38 = .ok (.iload_n 3, 1) := d_of dm_X4_waysFor_c0 22 (q := (38, .iload_n 3, 1)) rfl
theorem dX4_waysFor_39 : decode cX4_waysFor 39 = .ok (.iload 5, 2) := d_of dm_X4_waysFor_c0 23 (q := (39, .iload 5, 2)) rfl
theorem dX4_waysFor_41 : decode cX4_waysFor 41 = .ok (.iload_n 2, 1) := d_of dm_X4_waysFor_c0 24 (q := (41, .iload_n 2, 1)) rfl
def dl_X4_waysFor_c25 : List (Nat × Instr × Nat) := [(42, .invokevirtual 168, 3), (45, .ifCond .eq 25, 3), (48, .iload 4, 2), (50, .aload_n 0, 1), (51, .iload_n 1, 1), (52, .iconst 1, 1), (53, .iload_n 3, 1), (54, .ishl, 1), (55, .iconst 1, 1), (56, .iload 5, 2), (58, .ishl, 1), (59, .ior, 1), (60, .iconst (-1), 1), (61, .ixor, 1), (62, .iand, 1), (63, .iload_n 2, 1), (64, .invokevirtual 172, 3), (67, .iadd, 1), (68, .istore 4, 2), (70, .iinc 5 1, 3), (73, .goto (-54), 3), (76, .iload 4, 2), (78, .ireturn, 1)]
set_option maxRecDepth 100000 in
theorem dm_X4_waysFor_c25 : dl_X4_waysFor_c25.all (fun q => decide (decode cX4_waysFor q.1 = .ok q.2)) = true := by decide +kernel
theorem dX4_waysFor_42 : decode cX4_waysFor 42 = .ok (.invokevirtual 168, 3) := d_of dm_X4_waysFor_c25 0 (q := (42, .invokevirtual 168, 3)) rfl
theorem dX4_waysFor_45 : decode cX4_waysFor 45 = .ok (.ifCond .eq 25, 3) := d_of dm_X4_waysFor_c25 1 (q := (45, .ifCond .eq 25, 3)) rfl
theorem dX4_waysFor_48 : decode cX4_waysFor 48 = .ok (.iload 4, 2) := d_of dm_X4_waysFor_c25 2 (q := (48, .iload 4, 2)) rfl
theorem dX4_waysFor_50 : decode cX4_waysFor 50 = .ok (.aload_n 0, 1) := d_of dm_X4_waysFor_c25 3 (q := (50, .aload_n 0, 1)) rfl
theorem dX4_waysFor_51 : decode cX4_waysFor 51 = .ok (.iload_n 1, 1) := d_of dm_X4_waysFor_c25 4 (q := (51, .iload_n 1, 1)) rfl
theorem dX4_waysFor_52 : decode cX4_waysFor 52 = .ok (.iconst 1, 1) := d_of dm_X4_waysFor_c25 5 (q := (52, .iconst 1, 1)) rfl
theorem dX4_waysFor_53 : decode cX4_waysFor 53 = .ok (.iload_n 3, 1) := d_of dm_X4_waysFor_c25 6 (q := (53, .iload_n 3, 1)) rfl
theorem dX4_waysFor_54 : decode cX4_waysFor 54 = .ok (.ishl, 1) := d_of dm_X4_waysFor_c25 7 (q := (54, .ishl, 1)) rfl
theorem dX4_waysFor_55 : decode cX4_waysFor 55 = .ok (.iconst 1, 1) := d_of dm_X4_waysFor_c25 8 (q := (55, .iconst 1, 1)) rfl
theorem dX4_waysFor_56 : decode cX4_waysFor 56 = .ok (.iload 5, 2) := d_of dm_X4_waysFor_c25 9 (q := (56, .iload 5, 2)) rfl
theorem dX4_waysFor_58 : decode cX4_waysFor 58 = .ok (.ishl, 1) := d_of dm_X4_waysFor_c25 10 (q := (58, .ishl, 1)) rfl
theorem dX4_waysFor_59 : decode cX4_waysFor 59 = .ok (.ior, 1) := d_of dm_X4_waysFor_c25 11 (q := (59, .ior, 1)) rfl
theorem dX4_waysFor_60 : decode cX4_waysFor 60 = .ok (.iconst (-1), 1) := d_of dm_X4_waysFor_c25 12 (q := (60, .iconst (-1), 1)) rfl
theorem dX4_waysFor_61 : decode cX4_waysFor 61 = .ok (.ixor, 1) := d_of dm_X4_waysFor_c25 13 (q := (61, .ixor, 1)) rfl
theorem dX4_waysFor_62 : decode cX4_waysFor 62 = .ok (.iand, 1) := d_of dm_X4_waysFor_c25 14 (q := (62, .iand, 1)) rfl
theorem dX4_waysFor_63 : decode cX4_waysFor 63 = .ok (.iload_n 2, 1) := d_of dm_X4_waysFor_c25 15 (q := (63, .iload_n 2, 1)) rfl
theorem dX4_waysFor_64 : decode cX4_waysFor 64 = .ok (.invokevirtual 172, 3) := d_of dm_X4_waysFor_c25 16 (q := (64, .invokevirtual 172, 3)) rfl
theorem dX4_waysFor_67 : decode cX4_waysFor 67 = .ok (.iadd, 1) := d_of dm_X4_waysFor_c25 17 (q := (67, .iadd, 1)) rfl
theorem dX4_waysFor_68 : decode cX4_waysFor 68 = .ok (.istore 4, 2) := d_of dm_X4_waysFor_c25 18 (q := (68, .istore 4, 2)) rfl
theorem dX4_waysFor_70 : decode cX4_waysFor 70 = .ok (.iinc 5 1, 3) := d_of dm_X4_waysFor_c25 19 (q := (70, .iinc 5 1, 3)) rfl
theorem dX4_waysFor_73 : decode cX4_waysFor 73 = .ok (.goto (-54), 3) := d_of dm_X4_waysFor_c25 20 (q := (73, .goto (-54), 3)) rfl
theorem dX4_waysFor_76 : decode cX4_waysFor 76 = .ok (.iload 4, 2) := d_of dm_X4_waysFor_c25 21 (q := (76, .iload 4, 2)) rfl
theorem dX4_waysFor_78 : decode cX4_waysFor 78 = .ok (.ireturn, 1) := d_of dm_X4_waysFor_c25 22 (q := (78, .ireturn, 1)) rfl
def dl_X4_all_c0 : List (Nat × Instr × Nat) := [(0, .iconst 1, 1), (1, .aload_n 0, 1), (2, .getfield 52, 3), (5, .ishl, 1), (6, .iconst 1, 1), (7, .isub, 1), (8, .ireturn, 1)]
set_option maxRecDepth 100000 in
theorem dm_X4_all_c0 : dl_X4_all_c0.all (fun q => decide (decode cX4_all q.1 = .ok q.2)) = true := by decide +kernel
theorem dX4_all_0 : decode cX4_all 0 = .ok (.iconst 1, 1) := d_of dm_X4_all_c0 0 (q := (0, .iconst 1, 1)) rfl
theorem dX4_all_1 : decode cX4_all 1 = .ok (.aload_n 0, 1) := d_of dm_X4_all_c0 1 (q := (1, .aload_n 0, 1)) rfl
theorem dX4_all_2 : decode cX4_all 2 = .ok (.getfield 52, 3) := d_of dm_X4_all_c0 2 (q := (2, .getfield 52, 3)) rfl
theorem dX4_all_5 : decode cX4_all 5 = .ok (.ishl, 1) := d_of dm_X4_all_c0 3 (q := (5, .ishl, 1)) rfl
theorem dX4_all_6 : decode cX4_all 6 = .ok (.iconst 1, 1) := d_of dm_X4_all_c0 4 (q := (6, .iconst 1, 1)) rfl
theorem dX4_all_7 : decode cX4_all 7 = .ok (.isub, 1) := d_of dm_X4_all_c0 5 (q := (7, .isub, 1)) rfl
theorem dX4_all_8 : decode cX4_all 8 = .ok (.ireturn, 1) := d_of dm_X4_all_c0 6 (q := (8, .ireturn, 1)) rfl
def dl_X4_pairings_c0 : List (Nat × Instr × Nat) := [(0, .iload_n 1, 1), (1, .iconst 0, 1), (2, .iconst 1, 1), (3, .invokestatic 56, 3), (6, .ifCond .ne 10, 3), (9, .aload_n 0, 1), (10, .bipush (-2), 2), (12, .invokevirtual 63, 3), (15, .ireturn, 1), (16, .aload_n 0, 1), (17, .aload_n 0, 1), (18, .getfield 95, 3), (21, .invokevirtual 142, 3), (24, .iload_n 1, 1), (25, .ifCond .ne 13, 3), (28, .aload_n 0, 1), (29, .aload_n 0, 1), (30, .invokevirtual 175, 3), (33, .iconst 1, 1), (34, .invokevirtual 172, 3), (37, .ireturn, 1), (38, .iconst 1, 1), (39, .istore_n 2, 1), (40, .iload_n 2, 1), (41, .aload_n 0, 1)]
set_option maxRecDepth 100000 in
theorem dm_X4_pairings_c0 : dl_X4_pairings_c0.all (fun q => decide (decode cX4_pairings q.1 = .ok q.2)) = true := by decide +kernel
theorem dX4_pairings_0 : decode cX4_pairings 0 = .ok (.iload_n 1, 1) := d_of dm_X4_pairings_c0 0 (q := (0, .iload_n 1, 1)) rfl
theorem dX4_pairings_1 : decode cX4_pairings 1 = .ok (.iconst 0, 1) := d_of dm_X4_pairings_c0 1 (q := (1, .iconst 0, 1)) rfl
theorem dX4_pairings_2 : decode cX4_pairings 2 = .ok (.iconst 1, 1) := d_of dm_X4_pairings_c0 2 (q := (2, .iconst 1, 1)) rfl
theorem dX4_pairings_3 : decode cX4_pairings 3 = .ok (.invokestatic 56, 3) := d_of dm_X4_pairings_c0 3 (q := (3, .invokestatic 56, 3)) rfl
theorem dX4_pairings_6 : decode cX4_pairings 6 = .ok (.ifCond .ne 10, 3) := d_of dm_X4_pairings_c0 4 (q := (6, .ifCond .ne 10, 3)) rfl
theorem dX4_pairings_9 : decode cX4_pairings 9 = .ok (.aload_n 0, 1) := d_of dm_X4_pairings_c0 5 (q := (9, .aload_n 0, 1)) rfl
theorem dX4_pairings_10 : decode cX4_pairings 10 = .ok (.bipush (-2), 2) := d_of dm_X4_pairings_c0 6 (q := (10, .bipush (-2), 2)) rfl
theorem dX4_pairings_12 : decode cX4_pairings 12 = .ok (.invokevirtual 63, 3) := d_of dm_X4_pairings_c0 7 (q := (12, .invokevirtual 63, 3)) rfl
theorem dX4_pairings_15 : decode cX4_pairings 15 = .ok (.ireturn, 1) := d_of dm_X4_pairings_c0 8 (q := (15, .ireturn, 1)) rfl
theorem dX4_pairings_16 : decode cX4_pairings 16 = .ok (.aload_n 0, 1) := d_of dm_X4_pairings_c0 9 (q := (16, .aload_n 0, 1)) rfl
theorem dX4_pairings_17 : decode cX4_pairings 17 = .ok (.aload_n 0, 1) := d_of dm_X4_pairings_c0 10 (q := (17, .aload_n 0, 1)) rfl
theorem dX4_pairings_18 : decode cX4_pairings 18 = .ok (.getfield 95, 3) := d_of dm_X4_pairings_c0 11 (q := (18, .getfield 95, 3)) rfl
theorem dX4_pairings_21 : decode cX4_pairings 21 = .ok (.invokevirtual 142, 3) := d_of dm_X4_pairings_c0 12 (q := (21, .invokevirtual 142, 3)) rfl
theorem dX4_pairings_24 : decode cX4_pairings 24 = .ok (.iload_n 1, 1) := d_of dm_X4_pairings_c0 13 (q := (24, .iload_n 1, 1)) rfl
theorem dX4_pairings_25 : decode cX4_pairings 25 = .ok (.ifCond .ne 13, 3) := d_of dm_X4_pairings_c0 14 (q := (25, .ifCond .ne 13, 3)) rfl
theorem dX4_pairings_28 : decode cX4_pairings 28 = .ok (.aload_n 0, 1) := d_of dm_X4_pairings_c0 15 (q := (28, .aload_n 0, 1)) rfl
theorem dX4_pairings_29 : decode cX4_pairings 29 = .ok (.aload_n 0, 1) := d_of dm_X4_pairings_c0 16 (q := (29, .aload_n 0, 1)) rfl
theorem dX4_pairings_30 : decode cX4_pairings 30 = .ok (.invokevirtual 175, 3) := d_of dm_X4_pairings_c0 17 (q := (30, .invokevirtual 175, 3)) rfl
theorem dX4_pairings_33 : decode cX4_pairings 33 = .ok (.iconst 1, 1) := d_of dm_X4_pairings_c0 18 (q := (33, .iconst 1, 1)) rfl
theorem dX4_pairings_34 : decode cX4_pairings 34 = .ok (.invokevirtual 172, 3) := d_of dm_X4_pairings_c0 19 (q := (34, .invokevirtual 172, 3)) rfl
theorem dX4_pairings_37 : decode cX4_pairings 37 = .ok (.ireturn, 1) := d_of dm_X4_pairings_c0 20 (q := (37, .ireturn, 1)) rfl
theorem dX4_pairings_38 : decode cX4_pairings 38 = .ok (.iconst 1, 1) := d_of dm_X4_pairings_c0 21 (q := (38, .iconst 1, 1)) rfl
theorem dX4_pairings_39 : decode cX4_pairings 39 = .ok (.istore_n 2, 1) := d_of dm_X4_pairings_c0 22 (q := (39, .istore_n 2, 1)) rfl
theorem dX4_pairings_40 : decode cX4_pairings 40 = .ok (.iload_n 2, 1) := d_of dm_X4_pairings_c0 23 (q := (40, .iload_n 2, 1)) rfl
theorem dX4_pairings_41 : decode cX4_pairings 41 = .ok (.aload_n 0, 1) := d_of dm_X4_pairings_c0 24 (q := (41, .aload_n 0, 1)) rfl
def dl_X4_pairings_c25 : List (Nat × Instr × Nat) := [(42, .getfield 52, 3), (45, .if_icmp .ge 41, 3), (48, .aload_n 0, 1), (49, .iconst 0, 1), (50, .iload_n 2, 1), (51, .iconst 1, 1), (52, .invokevirtual 168, 3), (55, .ifCond .eq 25, 3), (58, .aload_n 0, 1), (59, .aload_n 0, 1), (60, .invokevirtual 175, 3), (63, .iconst 1, 1), (64, .iconst 1, 1), (65, .iload_n 2, 1), (66, .ishl, 1), (67, .ior, 1), (68, .iconst (-1), 1), (69, .ixor, 1), (70, .iand, 1), (71, .iconst 1, 1), (72, .invokevirtual 172, 3), (75, .ifCond .le 5, 3), (78, .iload_n 2, 1), (79, .ireturn, 1), (80, .iinc 2 1, 3)]
set_option maxRecDepth 100000 in
theorem dm_X4_pairings_c25 : dl_X4_pairings_c25.all (fun q => decide (decode cX4_pairings q.1 = .ok q.2)) = true := by decide +kernel
theorem dX4_pairings_42 : decode cX4_pairings 42 = .ok (.getfield 52, 3) := d_of dm_X4_pairings_c25 0 (q := (42, .getfield 52, 3)) rfl
theorem dX4_pairings_45 : decode cX4_pairings 45 = .ok (.if_icmp .ge 41, 3) := d_of dm_X4_pairings_c25 1 (q := (45, .if_icmp .ge 41, 3)) rfl
theorem dX4_pairings_48 : decode cX4_pairings 48 = .ok (.aload_n 0, 1) := d_of dm_X4_pairings_c25 2 (q := (48, .aload_n 0, 1)) rfl
theorem dX4_pairings_49 : decode cX4_pairings 49 = .ok (.iconst 0, 1) := d_of dm_X4_pairings_c25 3 (q := (49, .iconst 0, 1)) rfl
theorem dX4_pairings_50 : decode cX4_pairings 50 = .ok (.iload_n 2, 1) := d_of dm_X4_pairings_c25 4 (q := (50, .iload_n 2, 1)) rfl
theorem dX4_pairings_51 : decode cX4_pairings 51 = .ok (.iconst 1, 1) := d_of dm_X4_pairings_c25 5 (q := (51, .iconst 1, 1)) rfl
theorem dX4_pairings_52 : decode cX4_pairings 52 = .ok (.invokevirtual 168, 3) := d_of dm_X4_pairings_c25 6 (q := (52, .invokevirtual 168, 3)) rfl
theorem dX4_pairings_55 : decode cX4_pairings 55 = .ok (.ifCond .eq 25, 3) := d_of dm_X4_pairings_c25 7 (q := (55, .ifCond .eq 25, 3)) rfl
theorem dX4_pairings_58 : decode cX4_pairings 58 = .ok (.aload_n 0, 1) := d_of dm_X4_pairings_c25 8 (q := (58, .aload_n 0, 1)) rfl
theorem dX4_pairings_59 : decode cX4_pairings 59 = .ok (.aload_n 0, 1) := d_of dm_X4_pairings_c25 9 (q := (59, .aload_n 0, 1)) rfl
theorem dX4_pairings_60 : decode cX4_pairings 60 = .ok (.invokevirtual 175, 3) := d_of dm_X4_pairings_c25 10 (q := (60, .invokevirtual 175, 3)) rfl
theorem dX4_pairings_63 : decode cX4_pairings 63 = .ok (.iconst 1, 1) := d_of dm_X4_pairings_c25 11 (q := (63, .iconst 1, 1)) rfl
theorem dX4_pairings_64 : decode cX4_pairings 64 = .ok (.iconst 1, 1) := d_of dm_X4_pairings_c25 12 (q := (64, .iconst 1, 1)) rfl
theorem dX4_pairings_65 : decode cX4_pairings 65 = .ok (.iload_n 2, 1) := d_of dm_X4_pairings_c25 13 (q := (65, .iload_n 2, 1)) rfl
theorem dX4_pairings_66 : decode cX4_pairings 66 = .ok (.ishl, 1) := d_of dm_X4_pairings_c25 14 (q := (66, .ishl, 1)) rfl
theorem dX4_pairings_67 : decode cX4_pairings 67 = .ok (.ior, 1) := d_of dm_X4_pairings_c25 15 (q := (67, .ior, 1)) rfl
theorem dX4_pairings_68 : decode cX4_pairings 68 = .ok (.iconst (-1), 1) := d_of dm_X4_pairings_c25 16 (q := (68, .iconst (-1), 1)) rfl
theorem dX4_pairings_69 : decode cX4_pairings 69 = .ok (.ixor, 1) := d_of dm_X4_pairings_c25 17 (q := (69, .ixor, 1)) rfl
theorem dX4_pairings_70 : decode cX4_pairings 70 = .ok (.iand, 1) := d_of dm_X4_pairings_c25 18 (q := (70, .iand, 1)) rfl
theorem dX4_pairings_71 : decode cX4_pairings 71 = .ok (.iconst 1, 1) := d_of dm_X4_pairings_c25 19 (q := (71, .iconst 1, 1)) rfl
theorem dX4_pairings_72 : decode cX4_pairings 72 = .ok (.invokevirtual 172, 3) := d_of dm_X4_pairings_c25 20 (q := (72, .invokevirtual 172, 3)) rfl
theorem dX4_pairings_75 : decode cX4_pairings 75 = .ok (.ifCond .le 5, 3) := d_of dm_X4_pairings_c25 21 (q := (75, .ifCond .le 5, 3)) rfl
theorem dX4_pairings_78 : decode cX4_pairings 78 = .ok (.iload_n 2, 1) := d_of dm_X4_pairings_c25 22 (q := (78, .iload_n 2, 1)) rfl
theorem dX4_pairings_79 : decode cX4_pairings 79 = .ok (.ireturn, 1) := d_of dm_X4_pairings_c25 23 (q := (79, .ireturn, 1)) rfl
theorem dX4_pairings_80 : decode cX4_pairings 80 = .ok (.iinc 2 1, 3) := d_of dm_X4_pairings_c25 24 (q := (80, .iinc 2 1, 3)) rfl
def dl_X4_pairings_c50 : List (Nat × Instr × Nat) := [(83, .goto (-43), 3), (86, .bipush (-9), 2), (88, .ireturn, 1)]
set_option maxRecDepth 100000 in
theorem dm_X4_pairings_c50 : dl_X4_pairings_c50.all (fun q => decide (decode cX4_pairings q.1 = .ok q.2)) = true := by decide +kernel
theorem dX4_pairings_83 : decode cX4_pairings 83 = .ok (.goto (-43), 3) := d_of dm_X4_pairings_c50 0 (q := (83, .goto (-43), 3)) rfl
theorem dX4_pairings_86 : decode cX4_pairings 86 = .ok (.bipush (-9), 2) := d_of dm_X4_pairings_c50 1 (q := (86, .bipush (-9), 2)) rfl
theorem dX4_pairings_88 : decode cX4_pairings 88 = .ok (.ireturn, 1) := d_of dm_X4_pairings_c50 2 (q := (88, .ireturn, 1)) rfl
def dl_X4_together_c0 : List (Nat × Instr × Nat) := [(0, .iload_n 1, 1), (1, .iconst 0, 1), (2, .aload_n 0, 1), (3, .invokevirtual 175, 3), (6, .invokestatic 56, 3), (9, .ifCond .ne 9, 3), (12, .aload_n 0, 1), (13, .iconst (-1), 1), (14, .invokevirtual 63, 3), (17, .ireturn, 1), (18, .aload_n 0, 1), (19, .getfield 162, 3), (22, .bipush 8, 2), (24, .if_icmp .ne 10, 3), (27, .aload_n 0, 1), (28, .bipush (-6), 2), (30, .invokevirtual 63, 3), (33, .ireturn, 1), (34, .aload_n 0, 1), (35, .getfield 25, 3), (38, .aload_n 0, 1), (39, .dup, 1), (40, .getfield 162, 3), (43, .dup_x1, 1), (44, .iconst 1, 1)]
set_option maxRecDepth 100000 in
theorem dm_X4_together_c0 : dl_X4_together_c0.all (fun q => decide (decode cX4_together q.1 = .ok q.2)) = true := by decide +kernel
theorem dX4_together_0 : decode cX4_together 0 = .ok (.iload_n 1, 1) := d_of dm_X4_together_c0 0 (q := (0, .iload_n 1, 1)) rfl
theorem dX4_together_1 : decode cX4_together 1 = .ok (.iconst 0, 1) := d_of dm_X4_together_c0 1 (q := (1, .iconst 0, 1)) rfl
theorem dX4_together_2 : decode cX4_together 2 = .ok (.aload_n 0, 1) := d_of dm_X4_together_c0 2 (q := (2, .aload_n 0, 1)) rfl
theorem dX4_together_3 : decode cX4_together 3 = .ok (.invokevirtual 175, 3) := d_of dm_X4_together_c0 3 (q := (3, .invokevirtual 175, 3)) rfl
theorem dX4_together_6 : decode cX4_together 6 = .ok (.invokestatic 56, 3) := d_of dm_X4_together_c0 4 (q := (6, .invokestatic 56, 3)) rfl
theorem dX4_together_9 : decode cX4_together 9 = .ok (.ifCond .ne 9, 3) := d_of dm_X4_together_c0 5 (q := (9, .ifCond .ne 9, 3)) rfl
theorem dX4_together_12 : decode cX4_together 12 = .ok (.aload_n 0, 1) := d_of dm_X4_together_c0 6 (q := (12, .aload_n 0, 1)) rfl
theorem dX4_together_13 : decode cX4_together 13 = .ok (.iconst (-1), 1) := d_of dm_X4_together_c0 7 (q := (13, .iconst (-1), 1)) rfl
theorem dX4_together_14 : decode cX4_together 14 = .ok (.invokevirtual 63, 3) := d_of dm_X4_together_c0 8 (q := (14, .invokevirtual 63, 3)) rfl
theorem dX4_together_17 : decode cX4_together 17 = .ok (.ireturn, 1) := d_of dm_X4_together_c0 9 (q := (17, .ireturn, 1)) rfl
theorem dX4_together_18 : decode cX4_together 18 = .ok (.aload_n 0, 1) := d_of dm_X4_together_c0 10 (q := (18, .aload_n 0, 1)) rfl
theorem dX4_together_19 : decode cX4_together 19 = .ok (.getfield 162, 3) := d_of dm_X4_together_c0 11 (q := (19, .getfield 162, 3)) rfl
theorem dX4_together_22 : decode cX4_together 22 = .ok (.bipush 8, 2) := d_of dm_X4_together_c0 12 (q := (22, .bipush 8, 2)) rfl
theorem dX4_together_24 : decode cX4_together 24 = .ok (.if_icmp .ne 10, 3) := d_of dm_X4_together_c0 13 (q := (24, .if_icmp .ne 10, 3)) rfl
theorem dX4_together_27 : decode cX4_together 27 = .ok (.aload_n 0, 1) := d_of dm_X4_together_c0 14 (q := (27, .aload_n 0, 1)) rfl
theorem dX4_together_28 : decode cX4_together 28 = .ok (.bipush (-6), 2) := d_of dm_X4_together_c0 15 (q := (28, .bipush (-6), 2)) rfl
theorem dX4_together_30 : decode cX4_together 30 = .ok (.invokevirtual 63, 3) := d_of dm_X4_together_c0 16 (q := (30, .invokevirtual 63, 3)) rfl
theorem dX4_together_33 : decode cX4_together 33 = .ok (.ireturn, 1) := d_of dm_X4_together_c0 17 (q := (33, .ireturn, 1)) rfl
theorem dX4_together_34 : decode cX4_together 34 = .ok (.aload_n 0, 1) := d_of dm_X4_together_c0 18 (q := (34, .aload_n 0, 1)) rfl
theorem dX4_together_35 : decode cX4_together 35 = .ok (.getfield 25, 3) := d_of dm_X4_together_c0 19 (q := (35, .getfield 25, 3)) rfl
theorem dX4_together_38 : decode cX4_together 38 = .ok (.aload_n 0, 1) := d_of dm_X4_together_c0 20 (q := (38, .aload_n 0, 1)) rfl
theorem dX4_together_39 : decode cX4_together 39 = .ok (.dup, 1) := d_of dm_X4_together_c0 21 (q := (39, .dup, 1)) rfl
theorem dX4_together_40 : decode cX4_together 40 = .ok (.getfield 162, 3) := d_of dm_X4_together_c0 22 (q := (40, .getfield 162, 3)) rfl
theorem dX4_together_43 : decode cX4_together 43 = .ok (.dup_x1, 1) := d_of dm_X4_together_c0 23 (q := (43, .dup_x1, 1)) rfl
theorem dX4_together_44 : decode cX4_together 44 = .ok (.iconst 1, 1) := d_of dm_X4_together_c0 24 (q := (44, .iconst 1, 1)) rfl
def dl_X4_together_c25 : List (Nat × Instr × Nat) := [(45, .iadd, 1), (46, .putfield 162, 3), (49, .iload_n 1, 1), (50, .iastore, 1), (51, .aload_n 0, 1), (52, .getfield 162, 3), (55, .ireturn, 1)]
set_option maxRecDepth 100000 in
theorem dm_X4_together_c25 : dl_X4_together_c25.all (fun q => decide (decode cX4_together q.1 = .ok q.2)) = true := by decide +kernel
theorem dX4_together_45 : decode cX4_together 45 = .ok (.iadd, 1) := d_of dm_X4_together_c25 0 (q := (45, .iadd, 1)) rfl
theorem dX4_together_46 : decode cX4_together 46 = .ok (.putfield 162, 3) := d_of dm_X4_together_c25 1 (q := (46, .putfield 162, 3)) rfl
theorem dX4_together_49 : decode cX4_together 49 = .ok (.iload_n 1, 1) := d_of dm_X4_together_c25 2 (q := (49, .iload_n 1, 1)) rfl
theorem dX4_together_50 : decode cX4_together 50 = .ok (.iastore, 1) := d_of dm_X4_together_c25 3 (q := (50, .iastore, 1)) rfl
theorem dX4_together_51 : decode cX4_together 51 = .ok (.aload_n 0, 1) := d_of dm_X4_together_c25 4 (q := (51, .aload_n 0, 1)) rfl
theorem dX4_together_52 : decode cX4_together 52 = .ok (.getfield 162, 3) := d_of dm_X4_together_c25 5 (q := (52, .getfield 162, 3)) rfl
theorem dX4_together_55 : decode cX4_together 55 = .ok (.ireturn, 1) := d_of dm_X4_together_c25 6 (q := (55, .ireturn, 1)) rfl
def dl_X4_may_c0 : List (Nat × Instr × Nat) := [(0, .aload_n 0, 1), (1, .iload_n 1, 1), (2, .invokevirtual 112, 3), (5, .ifCond .ne 9, 3), (8, .aload_n 0, 1), (9, .iconst (-1), 1), (10, .invokevirtual 63, 3), (13, .ireturn, 1), (14, .iconst 0, 1), (15, .istore_n 2, 1), (16, .iconst 0, 1), (17, .istore_n 3, 1), (18, .iload_n 3, 1), (19, .aload_n 0, 1), (20, .getfield 52, 3), (23, .if_icmp .ge 52, 3), (26, .iload_n 3, 1), (27, .iload_n 1, 1), (28, .if_icmp .eq 41, 3), (31, .aload_n 0, 1), (32, .iload_n 1, 1), (33, .iload_n 3, 1), (34, .iconst 0, 1), (35, .invokevirtual 168, 3), (38, .ifCond .eq 31, 3)]
set_option maxRecDepth 100000 in
theorem dm_X4_may_c0 : dl_X4_may_c0.all (fun q => decide (decode cX4_may q.1 = .ok q.2)) = true := by decide +kernel
theorem dX4_may_0 : decode cX4_may 0 = .ok (.aload_n 0, 1) := d_of dm_X4_may_c0 0 (q := (0, .aload_n 0, 1)) rfl
theorem dX4_may_1 : decode cX4_may 1 = .ok (.iload_n 1, 1) := d_of dm_X4_may_c0 1 (q := (1, .iload_n 1, 1)) rfl
theorem dX4_may_2 : decode cX4_may 2 = .ok (.invokevirtual 112, 3) := d_of dm_X4_may_c0 2 (q := (2, .invokevirtual 112, 3)) rfl
theorem dX4_may_5 : decode cX4_may 5 = .ok (.ifCond .ne 9, 3) := d_of dm_X4_may_c0 3 (q := (5, .ifCond .ne 9, 3)) rfl
theorem dX4_may_8 : decode cX4_may 8 = .ok (.aload_n 0, 1) := d_of dm_X4_may_c0 4 (q := (8, .aload_n 0, 1)) rfl
theorem dX4_may_9 : decode cX4_may 9 = .ok (.iconst (-1), 1) := d_of dm_X4_may_c0 5 (q := (9, .iconst (-1), 1)) rfl
theorem dX4_may_10 : decode cX4_may 10 = .ok (.invokevirtual 63, 3) := d_of dm_X4_may_c0 6 (q := (10, .invokevirtual 63, 3)) rfl
theorem dX4_may_13 : decode cX4_may 13 = .ok (.ireturn, 1) := d_of dm_X4_may_c0 7 (q := (13, .ireturn, 1)) rfl
theorem dX4_may_14 : decode cX4_may 14 = .ok (.iconst 0, 1) := d_of dm_X4_may_c0 8 (q := (14, .iconst 0, 1)) rfl
theorem dX4_may_15 : decode cX4_may 15 = .ok (.istore_n 2, 1) := d_of dm_X4_may_c0 9 (q := (15, .istore_n 2, 1)) rfl
theorem dX4_may_16 : decode cX4_may 16 = .ok (.iconst 0, 1) := d_of dm_X4_may_c0 10 (q := (16, .iconst 0, 1)) rfl
theorem dX4_may_17 : decode cX4_may 17 = .ok (.istore_n 3, 1) := d_of dm_X4_may_c0 11 (q := (17, .istore_n 3, 1)) rfl
theorem dX4_may_18 : decode cX4_may 18 = .ok (.iload_n 3, 1) := d_of dm_X4_may_c0 12 (q := (18, .iload_n 3, 1)) rfl
theorem dX4_may_19 : decode cX4_may 19 = .ok (.aload_n 0, 1) := d_of dm_X4_may_c0 13 (q := (19, .aload_n 0, 1)) rfl
theorem dX4_may_20 : decode cX4_may 20 = .ok (.getfield 52, 3) := d_of dm_X4_may_c0 14 (q := (20, .getfield 52, 3)) rfl
theorem dX4_may_23 : decode cX4_may 23 = .ok (.if_icmp .ge 52, 3) := d_of dm_X4_may_c0 15 (q := (23, .if_icmp .ge 52, 3)) rfl
theorem dX4_may_26 : decode cX4_may 26 = .ok (.iload_n 3, 1) := d_of dm_X4_may_c0 16 (q := (26, .iload_n 3, 1)) rfl
theorem dX4_may_27 : decode cX4_may 27 = .ok (.iload_n 1, 1) := d_of dm_X4_may_c0 17 (q := (27, .iload_n 1, 1)) rfl
theorem dX4_may_28 : decode cX4_may 28 = .ok (.if_icmp .eq 41, 3) := d_of dm_X4_may_c0 18 (q := (28, .if_icmp .eq 41, 3)) rfl
theorem dX4_may_31 : decode cX4_may 31 = .ok (.aload_n 0, 1) := d_of dm_X4_may_c0 19 (q := (31, .aload_n 0, 1)) rfl
theorem dX4_may_32 : decode cX4_may 32 = .ok (.iload_n 1, 1) := d_of dm_X4_may_c0 20 (q := (32, .iload_n 1, 1)) rfl
theorem dX4_may_33 : decode cX4_may 33 = .ok (.iload_n 3, 1) := d_of dm_X4_may_c0 21 (q := (33, .iload_n 3, 1)) rfl
theorem dX4_may_34 : decode cX4_may 34 = .ok (.iconst 0, 1) := d_of dm_X4_may_c0 22 (q := (34, .iconst 0, 1)) rfl
theorem dX4_may_35 : decode cX4_may 35 = .ok (.invokevirtual 168, 3) := d_of dm_X4_may_c0 23 (q := (35, .invokevirtual 168, 3)) rfl
theorem dX4_may_38 : decode cX4_may 38 = .ok (.ifCond .eq 31, 3) := d_of dm_X4_may_c0 24 (q := (38, .ifCond .eq 31, 3)) rfl
def dl_X4_may_c25 : List (Nat × Instr × Nat) := [(41, .aload_n 0, 1), (42, .aload_n 0, 1), (43, .invokevirtual 175, 3), (46, .iconst 1, 1), (47, .iload_n 1, 1), (48, .ishl, 1), (49, .iconst 1, 1), (50, .iload_n 3, 1), (51, .ishl, 1), (52, .ior, 1), (53, .iconst (-1), 1), (54, .ixor, 1), (55, .iand, 1), (56, .iconst 0, 1), (57, .invokevirtual 172, 3), (60, .ifCond .le 9, 3), (63, .iload_n 2, 1), (64, .iconst 1, 1), (65, .iload_n 3, 1), (66, .ishl, 1), (67, .ior, 1), (68, .istore_n 2, 1), (69, .iinc 3 1, 3), (72, .goto (-54), 3), (75, .iload_n 2, 1)]
set_option maxRecDepth 100000 in
theorem dm_X4_may_c25 : dl_X4_may_c25.all (fun q => decide (decode cX4_may q.1 = .ok q.2)) = true := by decide +kernel
theorem dX4_may_41 : decode cX4_may 41 = .ok (.aload_n 0, 1) := d_of dm_X4_may_c25 0 (q := (41, .aload_n 0, 1)) rfl
theorem dX4_may_42 : decode cX4_may 42 = .ok (.aload_n 0, 1) := d_of dm_X4_may_c25 1 (q := (42, .aload_n 0, 1)) rfl
theorem dX4_may_43 : decode cX4_may 43 = .ok (.invokevirtual 175, 3) := d_of dm_X4_may_c25 2 (q := (43, .invokevirtual 175, 3)) rfl
theorem dX4_may_46 : decode cX4_may 46 = .ok (.iconst 1, 1) := d_of dm_X4_may_c25 3 (q := (46, .iconst 1, 1)) rfl
theorem dX4_may_47 : decode cX4_may 47 = .ok (.iload_n 1, 1) := d_of dm_X4_may_c25 4 (q := (47, .iload_n 1, 1)) rfl
theorem dX4_may_48 : decode cX4_may 48 = .ok (.ishl, 1) := d_of dm_X4_may_c25 5 (q := (48, .ishl, 1)) rfl
theorem dX4_may_49 : decode cX4_may 49 = .ok (.iconst 1, 1) := d_of dm_X4_may_c25 6 (q := (49, .iconst 1, 1)) rfl
theorem dX4_may_50 : decode cX4_may 50 = .ok (.iload_n 3, 1) := d_of dm_X4_may_c25 7 (q := (50, .iload_n 3, 1)) rfl
theorem dX4_may_51 : decode cX4_may 51 = .ok (.ishl, 1) := d_of dm_X4_may_c25 8 (q := (51, .ishl, 1)) rfl
theorem dX4_may_52 : decode cX4_may 52 = .ok (.ior, 1) := d_of dm_X4_may_c25 9 (q := (52, .ior, 1)) rfl
theorem dX4_may_53 : decode cX4_may 53 = .ok (.iconst (-1), 1) := d_of dm_X4_may_c25 10 (q := (53, .iconst (-1), 1)) rfl
theorem dX4_may_54 : decode cX4_may 54 = .ok (.ixor, 1) := d_of dm_X4_may_c25 11 (q := (54, .ixor, 1)) rfl
theorem dX4_may_55 : decode cX4_may 55 = .ok (.iand, 1) := d_of dm_X4_may_c25 12 (q := (55, .iand, 1)) rfl
theorem dX4_may_56 : decode cX4_may 56 = .ok (.iconst 0, 1) := d_of dm_X4_may_c25 13 (q := (56, .iconst 0, 1)) rfl
theorem dX4_may_57 : decode cX4_may 57 = .ok (.invokevirtual 172, 3) := d_of dm_X4_may_c25 14 (q := (57, .invokevirtual 172, 3)) rfl
theorem dX4_may_60 : decode cX4_may 60 = .ok (.ifCond .le 9, 3) := d_of dm_X4_may_c25 15 (q := (60, .ifCond .le 9, 3)) rfl
theorem dX4_may_63 : decode cX4_may 63 = .ok (.iload_n 2, 1) := d_of dm_X4_may_c25 16 (q := (63, .iload_n 2, 1)) rfl
theorem dX4_may_64 : decode cX4_may 64 = .ok (.iconst 1, 1) := d_of dm_X4_may_c25 17 (q := (64, .iconst 1, 1)) rfl
theorem dX4_may_65 : decode cX4_may 65 = .ok (.iload_n 3, 1) := d_of dm_X4_may_c25 18 (q := (65, .iload_n 3, 1)) rfl
theorem dX4_may_66 : decode cX4_may 66 = .ok (.ishl, 1) := d_of dm_X4_may_c25 19 (q := (66, .ishl, 1)) rfl
theorem dX4_may_67 : decode cX4_may 67 = .ok (.ior, 1) := d_of dm_X4_may_c25 20 (q := (67, .ior, 1)) rfl
theorem dX4_may_68 : decode cX4_may 68 = .ok (.istore_n 2, 1) := d_of dm_X4_may_c25 21 (q := (68, .istore_n 2, 1)) rfl
theorem dX4_may_69 : decode cX4_may 69 = .ok (.iinc 3 1, 3) := d_of dm_X4_may_c25 22 (q := (69, .iinc 3 1, 3)) rfl
theorem dX4_may_72 : decode cX4_may 72 = .ok (.goto (-54), 3) := d_of dm_X4_may_c25 23 (q := (72, .goto (-54), 3)) rfl
theorem dX4_may_75 : decode cX4_may 75 = .ok (.iload_n 2, 1) := d_of dm_X4_may_c25 24 (q := (75, .iload_n 2, 1)) rfl
def dl_X4_may_c50 : List (Nat × Instr × Nat) := [(76, .ireturn, 1)]
set_option maxRecDepth 100000 in
theorem dm_X4_may_c50 : dl_X4_may_c50.all (fun q => decide (decode cX4_may q.1 = .ok q.2)) = true := by decide +kernel
theorem dX4_may_76 : decode cX4_may 76 = .ok (.ireturn, 1) := d_of dm_X4_may_c50 0 (q := (76, .ireturn, 1)) rfl
def dl_X4_ways_c0 : List (Nat × Instr × Nat) := [(0, .aload_n 0, 1), (1, .aload_n 0, 1), (2, .invokevirtual 175, 3), (5, .iconst 0, 1), (6, .invokevirtual 172, 3), (9, .ireturn, 1)]
set_option maxRecDepth 100000 in
theorem dm_X4_ways_c0 : dl_X4_ways_c0.all (fun q => decide (decode cX4_ways q.1 = .ok q.2)) = true := by decide +kernel
theorem dX4_ways_0 : decode cX4_ways 0 = .ok (.aload_n 0, 1) := d_of dm_X4_ways_c0 0 (q := (0, .aload_n 0, 1)) rfl
theorem dX4_ways_1 : decode cX4_ways 1 = .ok (.aload_n 0, 1) := d_of dm_X4_ways_c0 1 (q := (1, .aload_n 0, 1)) rfl
theorem dX4_ways_2 : decode cX4_ways 2 = .ok (.invokevirtual 175, 3) := d_of dm_X4_ways_c0 2 (q := (2, .invokevirtual 175, 3)) rfl
theorem dX4_ways_5 : decode cX4_ways 5 = .ok (.iconst 0, 1) := d_of dm_X4_ways_c0 3 (q := (5, .iconst 0, 1)) rfl
theorem dX4_ways_6 : decode cX4_ways 6 = .ok (.invokevirtual 172, 3) := d_of dm_X4_ways_c0 4 (q := (6, .invokevirtual 172, 3)) rfl
theorem dX4_ways_9 : decode cX4_ways 9 = .ok (.ireturn, 1) := d_of dm_X4_ways_c0 5 (q := (9, .ireturn, 1)) rfl
def dl_X4_feast_c0 : List (Nat × Instr × Nat) := [(0, .iload_n 1, 1), (1, .invokestatic 105, 3), (4, .ifCond .ne 9, 3), (7, .aload_n 0, 1), (8, .iconst (-1), 1), (9, .invokevirtual 63, 3), (12, .ireturn, 1), (13, .iload_n 2, 1), (14, .iconst 0, 1), (15, .iconst 1, 1), (16, .invokestatic 56, 3), (19, .ifCond .ne 10, 3), (22, .aload_n 0, 1), (23, .bipush (-2), 2), (25, .invokevirtual 63, 3), (28, .ireturn, 1), (29, .aload_n 0, 1), (30, .getfield 52, 3), (33, .bipush 8, 2), (35, .if_icmp .ne 10, 3), (38, .aload_n 0, 1), (39, .bipush (-3), 2), (41, .invokevirtual 63, 3), (44, .ireturn, 1), (45, .aload_n 0, 1)]
set_option maxRecDepth 100000 in
theorem dm_X4_feast_c0 : dl_X4_feast_c0.all (fun q => decide (decode cX4_feast q.1 = .ok q.2)) = true := by decide +kernel
theorem dX4_feast_0 : decode cX4_feast 0 = .ok (.iload_n 1, 1) := d_of dm_X4_feast_c0 0 (q := (0, .iload_n 1, 1)) rfl
theorem dX4_feast_1 : decode cX4_feast 1 = .ok (.invokestatic 105, 3) := d_of dm_X4_feast_c0 1 (q := (1, .invokestatic 105, 3)) rfl
theorem dX4_feast_4 : decode cX4_feast 4 = .ok (.ifCond .ne 9, 3) := d_of dm_X4_feast_c0 2 (q := (4, .ifCond .ne 9, 3)) rfl
theorem dX4_feast_7 : decode cX4_feast 7 = .ok (.aload_n 0, 1) := d_of dm_X4_feast_c0 3 (q := (7, .aload_n 0, 1)) rfl
theorem dX4_feast_8 : decode cX4_feast 8 = .ok (.iconst (-1), 1) := d_of dm_X4_feast_c0 4 (q := (8, .iconst (-1), 1)) rfl
theorem dX4_feast_9 : decode cX4_feast 9 = .ok (.invokevirtual 63, 3) := d_of dm_X4_feast_c0 5 (q := (9, .invokevirtual 63, 3)) rfl
theorem dX4_feast_12 : decode cX4_feast 12 = .ok (.ireturn, 1) := d_of dm_X4_feast_c0 6 (q := (12, .ireturn, 1)) rfl
theorem dX4_feast_13 : decode cX4_feast 13 = .ok (.iload_n 2, 1) := d_of dm_X4_feast_c0 7 (q := (13, .iload_n 2, 1)) rfl
theorem dX4_feast_14 : decode cX4_feast 14 = .ok (.iconst 0, 1) := d_of dm_X4_feast_c0 8 (q := (14, .iconst 0, 1)) rfl
theorem dX4_feast_15 : decode cX4_feast 15 = .ok (.iconst 1, 1) := d_of dm_X4_feast_c0 9 (q := (15, .iconst 1, 1)) rfl
theorem dX4_feast_16 : decode cX4_feast 16 = .ok (.invokestatic 56, 3) := d_of dm_X4_feast_c0 10 (q := (16, .invokestatic 56, 3)) rfl
theorem dX4_feast_19 : decode cX4_feast 19 = .ok (.ifCond .ne 10, 3) := d_of dm_X4_feast_c0 11 (q := (19, .ifCond .ne 10, 3)) rfl
theorem dX4_feast_22 : decode cX4_feast 22 = .ok (.aload_n 0, 1) := d_of dm_X4_feast_c0 12 (q := (22, .aload_n 0, 1)) rfl
theorem dX4_feast_23 : decode cX4_feast 23 = .ok (.bipush (-2), 2) := d_of dm_X4_feast_c0 13 (q := (23, .bipush (-2), 2)) rfl
theorem dX4_feast_25 : decode cX4_feast 25 = .ok (.invokevirtual 63, 3) := d_of dm_X4_feast_c0 14 (q := (25, .invokevirtual 63, 3)) rfl
theorem dX4_feast_28 : decode cX4_feast 28 = .ok (.ireturn, 1) := d_of dm_X4_feast_c0 15 (q := (28, .ireturn, 1)) rfl
theorem dX4_feast_29 : decode cX4_feast 29 = .ok (.aload_n 0, 1) := d_of dm_X4_feast_c0 16 (q := (29, .aload_n 0, 1)) rfl
theorem dX4_feast_30 : decode cX4_feast 30 = .ok (.getfield 52, 3) := d_of dm_X4_feast_c0 17 (q := (30, .getfield 52, 3)) rfl
theorem dX4_feast_33 : decode cX4_feast 33 = .ok (.bipush 8, 2) := d_of dm_X4_feast_c0 18 (q := (33, .bipush 8, 2)) rfl
theorem dX4_feast_35 : decode cX4_feast 35 = .ok (.if_icmp .ne 10, 3) := d_of dm_X4_feast_c0 19 (q := (35, .if_icmp .ne 10, 3)) rfl
theorem dX4_feast_38 : decode cX4_feast 38 = .ok (.aload_n 0, 1) := d_of dm_X4_feast_c0 20 (q := (38, .aload_n 0, 1)) rfl
theorem dX4_feast_39 : decode cX4_feast 39 = .ok (.bipush (-3), 2) := d_of dm_X4_feast_c0 21 (q := (39, .bipush (-3), 2)) rfl
theorem dX4_feast_41 : decode cX4_feast 41 = .ok (.invokevirtual 63, 3) := d_of dm_X4_feast_c0 22 (q := (41, .invokevirtual 63, 3)) rfl
theorem dX4_feast_44 : decode cX4_feast 44 = .ok (.ireturn, 1) := d_of dm_X4_feast_c0 23 (q := (44, .ireturn, 1)) rfl
theorem dX4_feast_45 : decode cX4_feast 45 = .ok (.aload_n 0, 1) := d_of dm_X4_feast_c0 24 (q := (45, .aload_n 0, 1)) rfl
def dl_X4_feast_c25 : List (Nat × Instr × Nat) := [(46, .aload_n 0, 1), (47, .getfield 43, 3), (50, .invokevirtual 122, 3), (53, .aload_n 0, 1), (54, .invokevirtual 175, 3), (57, .istore_n 3, 1), (58, .iload_n 3, 1), (59, .ifCond .lt 138, 3), (62, .iconst 0, 1), (63, .istore 4, 2), (65, .iload 4, 2), (67, .aload_n 0, 1), (68, .getfield 52, 3), (71, .if_icmp .ge 39, 3), (74, .aload_n 0, 1), (75, .getfield 19, 3), (78, .iload 4, 2), (80, .iload_n 3, 1), (81, .iload 4, 2), (83, .invokestatic 129, 3), (86, .ifCond .eq 7, 3), (89, .iload_n 1, 1), (90, .goto 13, 3), (93, .aload_n 0, 1), (94, .getfield 43, 3)]
set_option maxRecDepth 100000 in
theorem dm_X4_feast_c25 : dl_X4_feast_c25.all (fun q => decide (decode cX4_feast q.1 = .ok q.2)) = true := by decide +kernel
theorem dX4_feast_46 : decode cX4_feast 46 = .ok (.aload_n 0, 1) := d_of dm_X4_feast_c25 0 (q := (46, .aload_n 0, 1)) rfl
theorem dX4_feast_47 : decode cX4_feast 47 = .ok (.getfield 43, 3) := d_of dm_X4_feast_c25 1 (q := (47, .getfield 43, 3)) rfl
theorem dX4_feast_50 : decode cX4_feast 50 = .ok (.invokevirtual 122, 3) := d_of dm_X4_feast_c25 2 (q := (50, .invokevirtual 122, 3)) rfl
theorem dX4_feast_53 : decode cX4_feast 53 = .ok (.aload_n 0, 1) := d_of dm_X4_feast_c25 3 (q := (53, .aload_n 0, 1)) rfl
theorem dX4_feast_54 : decode cX4_feast 54 = .ok (.invokevirtual 175, 3) := d_of dm_X4_feast_c25 4 (q := (54, .invokevirtual 175, 3)) rfl
theorem dX4_feast_57 : decode cX4_feast 57 = .ok (.istore_n 3, 1) := d_of dm_X4_feast_c25 5 (q := (57, .istore_n 3, 1)) rfl
theorem dX4_feast_58 : decode cX4_feast 58 = .ok (.iload_n 3, 1) := d_of dm_X4_feast_c25 6 (q := (58, .iload_n 3, 1)) rfl
theorem dX4_feast_59 : decode cX4_feast 59 = .ok (.ifCond .lt 138, 3) := d_of dm_X4_feast_c25 7 (q := (59, .ifCond .lt 138, 3)) rfl
theorem dX4_feast_62 : decode cX4_feast 62 = .ok (.iconst 0, 1) := d_of dm_X4_feast_c25 8 (q := (62, .iconst 0, 1)) rfl
theorem dX4_feast_63 : decode cX4_feast 63 = .ok (.istore 4, 2) := d_of dm_X4_feast_c25 9 (q := (63, .istore 4, 2)) rfl
theorem dX4_feast_65 : decode cX4_feast 65 = .ok (.iload 4, 2) := d_of dm_X4_feast_c25 10 (q := (65, .iload 4, 2)) rfl
theorem dX4_feast_67 : decode cX4_feast 67 = .ok (.aload_n 0, 1) := d_of dm_X4_feast_c25 11 (q := (67, .aload_n 0, 1)) rfl
theorem dX4_feast_68 : decode cX4_feast 68 = .ok (.getfield 52, 3) := d_of dm_X4_feast_c25 12 (q := (68, .getfield 52, 3)) rfl
theorem dX4_feast_71 : decode cX4_feast 71 = .ok (.if_icmp .ge 39, 3) := d_of dm_X4_feast_c25 13 (q := (71, .if_icmp .ge 39, 3)) rfl
theorem dX4_feast_74 : decode cX4_feast 74 = .ok (.aload_n 0, 1) := d_of dm_X4_feast_c25 14 (q := (74, .aload_n 0, 1)) rfl
theorem dX4_feast_75 : decode cX4_feast 75 = .ok (.getfield 19, 3) := d_of dm_X4_feast_c25 15 (q := (75, .getfield 19, 3)) rfl
theorem dX4_feast_78 : decode cX4_feast 78 = .ok (.iload 4, 2) := d_of dm_X4_feast_c25 16 (q := (78, .iload 4, 2)) rfl
theorem dX4_feast_80 : decode cX4_feast 80 = .ok (.iload_n 3, 1) := d_of dm_X4_feast_c25 17 (q := (80, .iload_n 3, 1)) rfl
theorem dX4_feast_81 : decode cX4_feast 81 = .ok (.iload 4, 2) := d_of dm_X4_feast_c25 18 (q := (81, .iload 4, 2)) rfl
theorem dX4_feast_83 : decode cX4_feast 83 = .ok (.invokestatic 129, 3) := d_of dm_X4_feast_c25 19 (q := (83, .invokestatic 129, 3)) rfl
theorem dX4_feast_86 : decode cX4_feast 86 = .ok (.ifCond .eq 7, 3) := d_of dm_X4_feast_c25 20 (q := (86, .ifCond .eq 7, 3)) rfl
theorem dX4_feast_89 : decode cX4_feast 89 = .ok (.iload_n 1, 1) := d_of dm_X4_feast_c25 21 (q := (89, .iload_n 1, 1)) rfl
theorem dX4_feast_90 : decode cX4_feast 90 = .ok (.goto 13, 3) := d_of dm_X4_feast_c25 22 (q := (90, .goto 13, 3)) rfl
theorem dX4_feast_93 : decode cX4_feast 93 = .ok (.aload_n 0, 1) := d_of dm_X4_feast_c25 23 (q := (93, .aload_n 0, 1)) rfl
theorem dX4_feast_94 : decode cX4_feast 94 = .ok (.getfield 43, 3) := d_of dm_X4_feast_c25 24 (q := (94, .getfield 43, 3)) rfl
def dl_X4_feast_c50 : List (Nat × Instr × Nat) := [(97, .bipush 28, 2), (99, .iload 4, 2), (101, .iadd, 1), (102, .iaload, 1), (103, .iastore, 1), (104, .iinc 4 1, 3), (107, .goto (-42), 3), (110, .iload_n 3, 1), (111, .aload_n 0, 1), (112, .invokevirtual 175, 3), (115, .if_icmp .ne 7, 3), (118, .iconst 1, 1), (119, .goto 4, 3), (122, .iconst 0, 1), (123, .istore 4, 2), (125, .iconst 0, 1), (126, .istore 5, 2), (128, .iload 5, 2), (130, .aload_n 0, 1), (131, .getfield 52, 3), (134, .if_icmp .ge 34, 3), (137, .iload_n 3, 1), (138, .iload 5, 2), (140, .invokestatic 129, 3), (143, .ifCond .ne 19, 3)]
set_option maxRecDepth 100000 in
theorem dm_X4_feast_c50 : dl_X4_feast_c50.all (fun q => decide (decode cX4_feast q.1 = .ok q.2)) = true := by decide +kernel
theorem dX4_feast_97 : decode cX4_feast 97 = .ok (.bipush 28, 2) := d_of dm_X4_feast_c50 0 (q := (97, .bipush 28, 2)) rfl
theorem dX4_feast_99 : decode cX4_feast 99 = .ok (.iload 4, 2) := d_of dm_X4_feast_c50 1 (q := (99, .iload 4, 2)) rfl
theorem dX4_feast_101 : decode cX4_feast 101 = .ok (.iadd, 1) := d_of dm_X4_feast_c50 2 (q := (101, .iadd, 1)) rfl
theorem dX4_feast_102 : decode cX4_feast 102 = .ok (.iaload, 1) := d_of dm_X4_feast_c50 3 (q := (102, .iaload, 1)) rfl
theorem dX4_feast_103 : decode cX4_feast 103 = .ok (.iastore, 1) := d_of dm_X4_feast_c50 4 (q := (103, .iastore, 1)) rfl
theorem dX4_feast_104 : decode cX4_feast 104 = .ok (.iinc 4 1, 3) := d_of dm_X4_feast_c50 5 (q := (104, .iinc 4 1, 3)) rfl
theorem dX4_feast_107 : decode cX4_feast 107 = .ok (.goto (-42), 3) := d_of dm_X4_feast_c50 6 (q := (107, .goto (-42), 3)) rfl
theorem dX4_feast_110 : decode cX4_feast 110 = .ok (.iload_n 3, 1) := d_of dm_X4_feast_c50 7 (q := (110, .iload_n 3, 1)) rfl
theorem dX4_feast_111 : decode cX4_feast 111 = .ok (.aload_n 0, 1) := d_of dm_X4_feast_c50 8 (q := (111, .aload_n 0, 1)) rfl
theorem dX4_feast_112 : decode cX4_feast 112 = .ok (.invokevirtual 175, 3) := d_of dm_X4_feast_c50 9 (q := (112, .invokevirtual 175, 3)) rfl
theorem dX4_feast_115 : decode cX4_feast 115 = .ok (.if_icmp .ne 7, 3) := d_of dm_X4_feast_c50 10 (q := (115, .if_icmp .ne 7, 3)) rfl
theorem dX4_feast_118 : decode cX4_feast 118 = .ok (.iconst 1, 1) := d_of dm_X4_feast_c50 11 (q := (118, .iconst 1, 1)) rfl
theorem dX4_feast_119 : decode cX4_feast 119 = .ok (.goto 4, 3) := d_of dm_X4_feast_c50 12 (q := (119, .goto 4, 3)) rfl
theorem dX4_feast_122 : decode cX4_feast 122 = .ok (.iconst 0, 1) := d_of dm_X4_feast_c50 13 (q := (122, .iconst 0, 1)) rfl
theorem dX4_feast_123 : decode cX4_feast 123 = .ok (.istore 4, 2) := d_of dm_X4_feast_c50 14 (q := (123, .istore 4, 2)) rfl
theorem dX4_feast_125 : decode cX4_feast 125 = .ok (.iconst 0, 1) := d_of dm_X4_feast_c50 15 (q := (125, .iconst 0, 1)) rfl
theorem dX4_feast_126 : decode cX4_feast 126 = .ok (.istore 5, 2) := d_of dm_X4_feast_c50 16 (q := (126, .istore 5, 2)) rfl
theorem dX4_feast_128 : decode cX4_feast 128 = .ok (.iload 5, 2) := d_of dm_X4_feast_c50 17 (q := (128, .iload 5, 2)) rfl
theorem dX4_feast_130 : decode cX4_feast 130 = .ok (.aload_n 0, 1) := d_of dm_X4_feast_c50 18 (q := (130, .aload_n 0, 1)) rfl
theorem dX4_feast_131 : decode cX4_feast 131 = .ok (.getfield 52, 3) := d_of dm_X4_feast_c50 19 (q := (131, .getfield 52, 3)) rfl
theorem dX4_feast_134 : decode cX4_feast 134 = .ok (.if_icmp .ge 34, 3) := d_of dm_X4_feast_c50 20 (q := (134, .if_icmp .ge 34, 3)) rfl
theorem dX4_feast_137 : decode cX4_feast 137 = .ok (.iload_n 3, 1) := d_of dm_X4_feast_c50 21 (q := (137, .iload_n 3, 1)) rfl
theorem dX4_feast_138 : decode cX4_feast 138 = .ok (.iload 5, 2) := d_of dm_X4_feast_c50 22 (q := (138, .iload 5, 2)) rfl
theorem dX4_feast_140 : decode cX4_feast 140 = .ok (.invokestatic 129, 3) := d_of dm_X4_feast_c50 23 (q := (140, .invokestatic 129, 3)) rfl
theorem dX4_feast_143 : decode cX4_feast 143 = .ok (.ifCond .ne 19, 3) := d_of dm_X4_feast_c50 24 (q := (143, .ifCond .ne 19, 3)) rfl
def dl_X4_feast_c75 : List (Nat × Instr × Nat) := [(146, .iload 4, 2), (148, .aload_n 0, 1), (149, .getfield 49, 3), (152, .iload_n 3, 1), (153, .iconst 1, 1), (154, .iload 5, 2), (156, .ishl, 1), (157, .ior, 1), (158, .iaload, 1), (159, .iadd, 1), (160, .istore 4, 2), (162, .iinc 5 1, 3), (165, .goto (-37), 3), (168, .aload_n 0, 1), (169, .getfield 49, 3), (172, .iload_n 3, 1), (173, .aload_n 0, 1), (174, .aload_n 0, 1), (175, .getfield 95, 3), (178, .invokevirtual 146, 3), (181, .ifCond .le 7, 3), (184, .iconst 0, 1), (185, .goto 5, 3), (188, .iload 4, 2), (190, .iastore, 1)]
set_option maxRecDepth 100000 in
theorem dm_X4_feast_c75 : dl_X4_feast_c75.all (fun q => decide (decode cX4_feast q.1 = .ok q.2)) = true := by decide +kernel
theorem dX4_feast_146 : decode cX4_feast 146 = .ok (.iload 4, 2) := d_of dm_X4_feast_c75 0 (q := (146, .iload 4, 2)) rfl
theorem dX4_feast_148 : decode cX4_feast 148 = .ok (.aload_n 0, 1) := d_of dm_X4_feast_c75 1 (q := (148, .aload_n 0, 1)) rfl
theorem dX4_feast_149 : decode cX4_feast 149 = .ok (.getfield 49, 3) := d_of dm_X4_feast_c75 2 (q := (149, .getfield 49, 3)) rfl
theorem dX4_feast_152 : decode cX4_feast 152 = .ok (.iload_n 3, 1) := d_of dm_X4_feast_c75 3 (q := (152, .iload_n 3, 1)) rfl
theorem dX4_feast_153 : decode cX4_feast 153 = .ok (.iconst 1, 1) := d_of dm_X4_feast_c75 4 (q := (153, .iconst 1, 1)) rfl
theorem dX4_feast_154 : decode cX4_feast 154 = .ok (.iload 5, 2) := d_of dm_X4_feast_c75 5 (q := (154, .iload 5, 2)) rfl
theorem dX4_feast_156 : decode cX4_feast 156 = .ok (.ishl, 1) := d_of dm_X4_feast_c75 6 (q := (156, .ishl, 1)) rfl
theorem dX4_feast_157 : decode cX4_feast 157 = .ok (.ior, 1) := d_of dm_X4_feast_c75 7 (q := (157, .ior, 1)) rfl
theorem dX4_feast_158 : decode cX4_feast 158 = .ok (.iaload, 1) := d_of dm_X4_feast_c75 8 (q := (158, .iaload, 1)) rfl
theorem dX4_feast_159 : decode cX4_feast 159 = .ok (.iadd, 1) := d_of dm_X4_feast_c75 9 (q := (159, .iadd, 1)) rfl
theorem dX4_feast_160 : decode cX4_feast 160 = .ok (.istore 4, 2) := d_of dm_X4_feast_c75 10 (q := (160, .istore 4, 2)) rfl
theorem dX4_feast_162 : decode cX4_feast 162 = .ok (.iinc 5 1, 3) := d_of dm_X4_feast_c75 11 (q := (162, .iinc 5 1, 3)) rfl
theorem dX4_feast_165 : decode cX4_feast 165 = .ok (.goto (-37), 3) := d_of dm_X4_feast_c75 12 (q := (165, .goto (-37), 3)) rfl
theorem dX4_feast_168 : decode cX4_feast 168 = .ok (.aload_n 0, 1) := d_of dm_X4_feast_c75 13 (q := (168, .aload_n 0, 1)) rfl
theorem dX4_feast_169 : decode cX4_feast 169 = .ok (.getfield 49, 3) := d_of dm_X4_feast_c75 14 (q := (169, .getfield 49, 3)) rfl
theorem dX4_feast_172 : decode cX4_feast 172 = .ok (.iload_n 3, 1) := d_of dm_X4_feast_c75 15 (q := (172, .iload_n 3, 1)) rfl
theorem dX4_feast_173 : decode cX4_feast 173 = .ok (.aload_n 0, 1) := d_of dm_X4_feast_c75 16 (q := (173, .aload_n 0, 1)) rfl
theorem dX4_feast_174 : decode cX4_feast 174 = .ok (.aload_n 0, 1) := d_of dm_X4_feast_c75 17 (q := (174, .aload_n 0, 1)) rfl
theorem dX4_feast_175 : decode cX4_feast 175 = .ok (.getfield 95, 3) := d_of dm_X4_feast_c75 18 (q := (175, .getfield 95, 3)) rfl
theorem dX4_feast_178 : decode cX4_feast 178 = .ok (.invokevirtual 146, 3) := d_of dm_X4_feast_c75 19 (q := (178, .invokevirtual 146, 3)) rfl
theorem dX4_feast_181 : decode cX4_feast 181 = .ok (.ifCond .le 7, 3) := d_of dm_X4_feast_c75 20 (q := (181, .ifCond .le 7, 3)) rfl
theorem dX4_feast_184 : decode cX4_feast 184 = .ok (.iconst 0, 1) := d_of dm_X4_feast_c75 21 (q := (184, .iconst 0, 1)) rfl
theorem dX4_feast_185 : decode cX4_feast 185 = .ok (.goto 5, 3) := d_of dm_X4_feast_c75 22 (q := (185, .goto 5, 3)) rfl
theorem dX4_feast_188 : decode cX4_feast 188 = .ok (.iload 4, 2) := d_of dm_X4_feast_c75 23 (q := (188, .iload 4, 2)) rfl
theorem dX4_feast_190 : decode cX4_feast 190 = .ok (.iastore, 1) := d_of dm_X4_feast_c75 24 (q := (190, .iastore, 1)) rfl
def dl_X4_feast_c100 : List (Nat × Instr × Nat) := [(191, .iinc 3 (-1), 3), (194, .goto (-136), 3), (197, .aload_n 0, 1), (198, .aload_n 0, 1), (199, .getfield 43, 3), (202, .invokevirtual 126, 3), (205, .iload_n 2, 1), (206, .ifCond .ne 10, 3), (209, .aload_n 0, 1), (210, .getfield 49, 3), (213, .iconst 0, 1), (214, .iaload, 1), (215, .ireturn, 1), (216, .iconst 0, 1), (217, .istore_n 3, 1), (218, .iload_n 3, 1), (219, .aload_n 0, 1), (220, .getfield 52, 3), (223, .if_icmp .ge 31, 3), (226, .aload_n 0, 1), (227, .getfield 49, 3), (230, .iconst 0, 1), (231, .iaload, 1), (232, .ifCond .le 22, 3), (235, .aload_n 0, 1)]
set_option maxRecDepth 100000 in
theorem dm_X4_feast_c100 : dl_X4_feast_c100.all (fun q => decide (decode cX4_feast q.1 = .ok q.2)) = true := by decide +kernel
theorem dX4_feast_191 : decode cX4_feast 191 = .ok (.iinc 3 (-1), 3) := d_of dm_X4_feast_c100 0 (q := (191, .iinc 3 (-1), 3)) rfl
theorem dX4_feast_194 : decode cX4_feast 194 = .ok (.goto (-136), 3) := d_of dm_X4_feast_c100 1 (q := (194, .goto (-136), 3)) rfl
theorem dX4_feast_197 : decode cX4_feast 197 = .ok (.aload_n 0, 1) := d_of dm_X4_feast_c100 2 (q := (197, .aload_n 0, 1)) rfl
theorem dX4_feast_198 : decode cX4_feast 198 = .ok (.aload_n 0, 1) := d_of dm_X4_feast_c100 3 (q := (198, .aload_n 0, 1)) rfl
theorem dX4_feast_199 : decode cX4_feast 199 = .ok (.getfield 43, 3) := d_of dm_X4_feast_c100 4 (q := (199, .getfield 43, 3)) rfl
theorem dX4_feast_202 : decode cX4_feast 202 = .ok (.invokevirtual 126, 3) := d_of dm_X4_feast_c100 5 (q := (202, .invokevirtual 126, 3)) rfl
theorem dX4_feast_205 : decode cX4_feast 205 = .ok (.iload_n 2, 1) := d_of dm_X4_feast_c100 6 (q := (205, .iload_n 2, 1)) rfl
theorem dX4_feast_206 : decode cX4_feast 206 = .ok (.ifCond .ne 10, 3) := d_of dm_X4_feast_c100 7 (q := (206, .ifCond .ne 10, 3)) rfl
theorem dX4_feast_209 : decode cX4_feast 209 = .ok (.aload_n 0, 1) := d_of dm_X4_feast_c100 8 (q := (209, .aload_n 0, 1)) rfl
theorem dX4_feast_210 : decode cX4_feast 210 = .ok (.getfield 49, 3) := d_of dm_X4_feast_c100 9 (q := (210, .getfield 49, 3)) rfl
theorem dX4_feast_213 : decode cX4_feast 213 = .ok (.iconst 0, 1) := d_of dm_X4_feast_c100 10 (q := (213, .iconst 0, 1)) rfl
theorem dX4_feast_214 : decode cX4_feast 214 = .ok (.iaload, 1) := d_of dm_X4_feast_c100 11 (q := (214, .iaload, 1)) rfl
theorem dX4_feast_215 : decode cX4_feast 215 = .ok (.ireturn, 1) := d_of dm_X4_feast_c100 12 (q := (215, .ireturn, 1)) rfl
theorem dX4_feast_216 : decode cX4_feast 216 = .ok (.iconst 0, 1) := d_of dm_X4_feast_c100 13 (q := (216, .iconst 0, 1)) rfl
theorem dX4_feast_217 : decode cX4_feast 217 = .ok (.istore_n 3, 1) := d_of dm_X4_feast_c100 14 (q := (217, .istore_n 3, 1)) rfl
theorem dX4_feast_218 : decode cX4_feast 218 = .ok (.iload_n 3, 1) := d_of dm_X4_feast_c100 15 (q := (218, .iload_n 3, 1)) rfl
theorem dX4_feast_219 : decode cX4_feast 219 = .ok (.aload_n 0, 1) := d_of dm_X4_feast_c100 16 (q := (219, .aload_n 0, 1)) rfl
theorem dX4_feast_220 : decode cX4_feast 220 = .ok (.getfield 52, 3) := d_of dm_X4_feast_c100 17 (q := (220, .getfield 52, 3)) rfl
theorem dX4_feast_223 : decode cX4_feast 223 = .ok (.if_icmp .ge 31, 3) := d_of dm_X4_feast_c100 18 (q := (223, .if_icmp .ge 31, 3)) rfl
theorem dX4_feast_226 : decode cX4_feast 226 = .ok (.aload_n 0, 1) := d_of dm_X4_feast_c100 19 (q := (226, .aload_n 0, 1)) rfl
theorem dX4_feast_227 : decode cX4_feast 227 = .ok (.getfield 49, 3) := d_of dm_X4_feast_c100 20 (q := (227, .getfield 49, 3)) rfl
theorem dX4_feast_230 : decode cX4_feast 230 = .ok (.iconst 0, 1) := d_of dm_X4_feast_c100 21 (q := (230, .iconst 0, 1)) rfl
theorem dX4_feast_231 : decode cX4_feast 231 = .ok (.iaload, 1) := d_of dm_X4_feast_c100 22 (q := (231, .iaload, 1)) rfl
theorem dX4_feast_232 : decode cX4_feast 232 = .ok (.ifCond .le 22, 3) := d_of dm_X4_feast_c100 23 (q := (232, .ifCond .le 22, 3)) rfl
theorem dX4_feast_235 : decode cX4_feast 235 = .ok (.aload_n 0, 1) := d_of dm_X4_feast_c100 24 (q := (235, .aload_n 0, 1)) rfl
def dl_X4_feast_c125 : List (Nat × Instr × Nat) := [(236, .getfield 49, 3), (239, .iconst 1, 1), (240, .iload_n 3, 1), (241, .ishl, 1), (242, .iaload, 1), (243, .ifCond .le 5, 3), (246, .iload_n 3, 1), (247, .ireturn, 1), (248, .iinc 3 1, 3), (251, .goto (-33), 3), (254, .bipush (-9), 2), (256, .ireturn, 1)]
set_option maxRecDepth 100000 in
theorem dm_X4_feast_c125 : dl_X4_feast_c125.all (fun q => decide (decode cX4_feast q.1 = .ok q.2)) = true := by decide +kernel
theorem dX4_feast_236 : decode cX4_feast 236 = .ok (.getfield 49, 3) := d_of dm_X4_feast_c125 0 (q := (236, .getfield 49, 3)) rfl
theorem dX4_feast_239 : decode cX4_feast 239 = .ok (.iconst 1, 1) := d_of dm_X4_feast_c125 1 (q := (239, .iconst 1, 1)) rfl
theorem dX4_feast_240 : decode cX4_feast 240 = .ok (.iload_n 3, 1) := d_of dm_X4_feast_c125 2 (q := (240, .iload_n 3, 1)) rfl
theorem dX4_feast_241 : decode cX4_feast 241 = .ok (.ishl, 1) := d_of dm_X4_feast_c125 3 (q := (241, .ishl, 1)) rfl
theorem dX4_feast_242 : decode cX4_feast 242 = .ok (.iaload, 1) := d_of dm_X4_feast_c125 4 (q := (242, .iaload, 1)) rfl
theorem dX4_feast_243 : decode cX4_feast 243 = .ok (.ifCond .le 5, 3) := d_of dm_X4_feast_c125 5 (q := (243, .ifCond .le 5, 3)) rfl
theorem dX4_feast_246 : decode cX4_feast 246 = .ok (.iload_n 3, 1) := d_of dm_X4_feast_c125 6 (q := (246, .iload_n 3, 1)) rfl
theorem dX4_feast_247 : decode cX4_feast 247 = .ok (.ireturn, 1) := d_of dm_X4_feast_c125 7 (q := (247, .ireturn, 1)) rfl
theorem dX4_feast_248 : decode cX4_feast 248 = .ok (.iinc 3 1, 3) := d_of dm_X4_feast_c125 8 (q := (248, .iinc 3 1, 3)) rfl
theorem dX4_feast_251 : decode cX4_feast 251 = .ok (.goto (-33), 3) := d_of dm_X4_feast_c125 9 (q := (251, .goto (-33), 3)) rfl
theorem dX4_feast_254 : decode cX4_feast 254 = .ok (.bipush (-9), 2) := d_of dm_X4_feast_c125 10 (q := (254, .bipush (-9), 2)) rfl
theorem dX4_feast_256 : decode cX4_feast 256 = .ok (.ireturn, 1) := d_of dm_X4_feast_c125 11 (q := (256, .ireturn, 1)) rfl
def dl_X4_isClean_c0 : List (Nat × Instr × Nat) := [(0, .iload_n 1, 1), (1, .istore_n 3, 1), (2, .iload_n 3, 1), (3, .iload_n 2, 1), (4, .if_icmp .gt 19, 3), (7, .aload_n 0, 1), (8, .iload_n 3, 1), (9, .invokevirtual 146, 3), (12, .ifCond .le 5, 3), (15, .iconst 0, 1), (16, .ireturn, 1), (17, .iinc 3 1, 3), (20, .goto (-18), 3), (23, .iconst 1, 1), (24, .ireturn, 1)]
set_option maxRecDepth 100000 in
theorem dm_X4_isClean_c0 : dl_X4_isClean_c0.all (fun q => decide (decode cX4_isClean q.1 = .ok q.2)) = true := by decide +kernel
theorem dX4_isClean_0 : decode cX4_isClean 0 = .ok (.iload_n 1, 1) := d_of dm_X4_isClean_c0 0 (q := (0, .iload_n 1, 1)) rfl
theorem dX4_isClean_1 : decode cX4_isClean 1 = .ok (.istore_n 3, 1) := d_of dm_X4_isClean_c0 1 (q := (1, .istore_n 3, 1)) rfl
theorem dX4_isClean_2 : decode cX4_isClean 2 = .ok (.iload_n 3, 1) := d_of dm_X4_isClean_c0 2 (q := (2, .iload_n 3, 1)) rfl
theorem dX4_isClean_3 : decode cX4_isClean 3 = .ok (.iload_n 2, 1) := d_of dm_X4_isClean_c0 3 (q := (3, .iload_n 2, 1)) rfl
theorem dX4_isClean_4 : decode cX4_isClean 4 = .ok (.if_icmp .gt 19, 3) := d_of dm_X4_isClean_c0 4 (q := (4, .if_icmp .gt 19, 3)) rfl
theorem dX4_isClean_7 : decode cX4_isClean 7 = .ok (.aload_n 0, 1) := d_of dm_X4_isClean_c0 5 (q := (7, .aload_n 0, 1)) rfl
theorem dX4_isClean_8 : decode cX4_isClean 8 = .ok (.iload_n 3, 1) := d_of dm_X4_isClean_c0 6 (q := (8, .iload_n 3, 1)) rfl
theorem dX4_isClean_9 : decode cX4_isClean 9 = .ok (.invokevirtual 146, 3) := d_of dm_X4_isClean_c0 7 (q := (9, .invokevirtual 146, 3)) rfl
theorem dX4_isClean_12 : decode cX4_isClean 12 = .ok (.ifCond .le 5, 3) := d_of dm_X4_isClean_c0 8 (q := (12, .ifCond .le 5, 3)) rfl
theorem dX4_isClean_15 : decode cX4_isClean 15 = .ok (.iconst 0, 1) := d_of dm_X4_isClean_c0 9 (q := (15, .iconst 0, 1)) rfl
theorem dX4_isClean_16 : decode cX4_isClean 16 = .ok (.ireturn, 1) := d_of dm_X4_isClean_c0 10 (q := (16, .ireturn, 1)) rfl
theorem dX4_isClean_17 : decode cX4_isClean 17 = .ok (.iinc 3 1, 3) := d_of dm_X4_isClean_c0 11 (q := (17, .iinc 3 1, 3)) rfl
theorem dX4_isClean_20 : decode cX4_isClean 20 = .ok (.goto (-18), 3) := d_of dm_X4_isClean_c0 12 (q := (20, .goto (-18), 3)) rfl
theorem dX4_isClean_23 : decode cX4_isClean 23 = .ok (.iconst 1, 1) := d_of dm_X4_isClean_c0 13 (q := (23, .iconst 1, 1)) rfl
theorem dX4_isClean_24 : decode cX4_isClean 24 = .ok (.ireturn, 1) := d_of dm_X4_isClean_c0 14 (q := (24, .ireturn, 1)) rfl
def dl_X4_clean_c0 : List (Nat × Instr × Nat) := [(0, .aload_n 0, 1), (1, .iload_n 1, 1), (2, .invokevirtual 112, 3), (5, .ifCond .ne 9, 3), (8, .aload_n 0, 1), (9, .iconst (-1), 1), (10, .invokevirtual 63, 3), (13, .ireturn, 1), (14, .aload_n 0, 1), (15, .getfield 19, 3), (18, .iload_n 1, 1), (19, .iaload, 1), (20, .istore_n 2, 1), (21, .iconst 0, 1), (22, .istore_n 3, 1), (23, .iconst 0, 1), (24, .istore 4, 2), (26, .iload 4, 2), (28, .bipush 6, 2), (30, .if_icmp .ge 34, 3), (33, .aload_n 0, 1), (34, .getfield 19, 3), (37, .iload_n 1, 1), (38, .iload 4, 2), (40, .iastore, 1)]
set_option maxRecDepth 100000 in
theorem dm_X4_clean_c0 : dl_X4_clean_c0.all (fun q => decide (decode cX4_clean q.1 = .ok q.2)) = true := by decide +kernel
theorem dX4_clean_0 : decode cX4_clean 0 = .ok (.aload_n 0, 1) := d_of dm_X4_clean_c0 0 (q := (0, .aload_n 0, 1)) rfl
theorem dX4_clean_1 : decode cX4_clean 1 = .ok (.iload_n 1, 1) := d_of dm_X4_clean_c0 1 (q := (1, .iload_n 1, 1)) rfl
theorem dX4_clean_2 : decode cX4_clean 2 = .ok (.invokevirtual 112, 3) := d_of dm_X4_clean_c0 2 (q := (2, .invokevirtual 112, 3)) rfl
theorem dX4_clean_5 : decode cX4_clean 5 = .ok (.ifCond .ne 9, 3) := d_of dm_X4_clean_c0 3 (q := (5, .ifCond .ne 9, 3)) rfl
theorem dX4_clean_8 : decode cX4_clean 8 = .ok (.aload_n 0, 1) := d_of dm_X4_clean_c0 4 (q := (8, .aload_n 0, 1)) rfl
theorem dX4_clean_9 : decode cX4_clean 9 = .ok (.iconst (-1), 1) := d_of dm_X4_clean_c0 5 (q := (9, .iconst (-1), 1)) rfl
theorem dX4_clean_10 : decode cX4_clean 10 = .ok (.invokevirtual 63, 3) := d_of dm_X4_clean_c0 6 (q := (10, .invokevirtual 63, 3)) rfl
theorem dX4_clean_13 : decode cX4_clean 13 = .ok (.ireturn, 1) := d_of dm_X4_clean_c0 7 (q := (13, .ireturn, 1)) rfl
theorem dX4_clean_14 : decode cX4_clean 14 = .ok (.aload_n 0, 1) := d_of dm_X4_clean_c0 8 (q := (14, .aload_n 0, 1)) rfl
theorem dX4_clean_15 : decode cX4_clean 15 = .ok (.getfield 19, 3) := d_of dm_X4_clean_c0 9 (q := (15, .getfield 19, 3)) rfl
theorem dX4_clean_18 : decode cX4_clean 18 = .ok (.iload_n 1, 1) := d_of dm_X4_clean_c0 10 (q := (18, .iload_n 1, 1)) rfl
theorem dX4_clean_19 : decode cX4_clean 19 = .ok (.iaload, 1) := d_of dm_X4_clean_c0 11 (q := (19, .iaload, 1)) rfl
theorem dX4_clean_20 : decode cX4_clean 20 = .ok (.istore_n 2, 1) := d_of dm_X4_clean_c0 12 (q := (20, .istore_n 2, 1)) rfl
theorem dX4_clean_21 : decode cX4_clean 21 = .ok (.iconst 0, 1) := d_of dm_X4_clean_c0 13 (q := (21, .iconst 0, 1)) rfl
theorem dX4_clean_22 : decode cX4_clean 22 = .ok (.istore_n 3, 1) := d_of dm_X4_clean_c0 14 (q := (22, .istore_n 3, 1)) rfl
theorem dX4_clean_23 : decode cX4_clean 23 = .ok (.iconst 0, 1) := d_of dm_X4_clean_c0 15 (q := (23, .iconst 0, 1)) rfl
theorem dX4_clean_24 : decode cX4_clean 24 = .ok (.istore 4, 2) := d_of dm_X4_clean_c0 16 (q := (24, .istore 4, 2)) rfl
theorem dX4_clean_26 : decode cX4_clean 26 = .ok (.iload 4, 2) := d_of dm_X4_clean_c0 17 (q := (26, .iload 4, 2)) rfl
theorem dX4_clean_28 : decode cX4_clean 28 = .ok (.bipush 6, 2) := d_of dm_X4_clean_c0 18 (q := (28, .bipush 6, 2)) rfl
theorem dX4_clean_30 : decode cX4_clean 30 = .ok (.if_icmp .ge 34, 3) := d_of dm_X4_clean_c0 19 (q := (30, .if_icmp .ge 34, 3)) rfl
theorem dX4_clean_33 : decode cX4_clean 33 = .ok (.aload_n 0, 1) := d_of dm_X4_clean_c0 20 (q := (33, .aload_n 0, 1)) rfl
theorem dX4_clean_34 : decode cX4_clean 34 = .ok (.getfield 19, 3) := d_of dm_X4_clean_c0 21 (q := (34, .getfield 19, 3)) rfl
theorem dX4_clean_37 : decode cX4_clean 37 = .ok (.iload_n 1, 1) := d_of dm_X4_clean_c0 22 (q := (37, .iload_n 1, 1)) rfl
theorem dX4_clean_38 : decode cX4_clean 38 = .ok (.iload 4, 2) := d_of dm_X4_clean_c0 23 (q := (38, .iload 4, 2)) rfl
theorem dX4_clean_40 : decode cX4_clean 40 = .ok (.iastore, 1) := d_of dm_X4_clean_c0 24 (q := (40, .iastore, 1)) rfl
def dl_X4_clean_c25 : List (Nat × Instr × Nat) := [(41, .aload_n 0, 1), (42, .iconst 0, 1), (43, .bipush 7, 2), (45, .invokevirtual 178, 3), (48, .ifCond .eq 10, 3), (51, .iload_n 3, 1), (52, .iconst 1, 1), (53, .iload 4, 2), (55, .ishl, 1), (56, .ior, 1), (57, .istore_n 3, 1), (58, .iinc 4 1, 3), (61, .goto (-35), 3), (64, .aload_n 0, 1), (65, .getfield 19, 3), (68, .iload_n 1, 1), (69, .iload_n 2, 1), (70, .iastore, 1), (71, .iload_n 3, 1), (72, .ireturn, 1)]
set_option maxRecDepth 100000 in
theorem dm_X4_clean_c25 : dl_X4_clean_c25.all (fun q => decide (decode cX4_clean q.1 = .ok q.2)) = true := by decide +kernel
theorem dX4_clean_41 : decode cX4_clean 41 = .ok (.aload_n 0, 1) := d_of dm_X4_clean_c25 0 (q := (41, .aload_n 0, 1)) rfl
theorem dX4_clean_42 : decode cX4_clean 42 = .ok (.iconst 0, 1) := d_of dm_X4_clean_c25 1 (q := (42, .iconst 0, 1)) rfl
theorem dX4_clean_43 : decode cX4_clean 43 = .ok (.bipush 7, 2) := d_of dm_X4_clean_c25 2 (q := (43, .bipush 7, 2)) rfl
theorem dX4_clean_45 : decode cX4_clean 45 = .ok (.invokevirtual 178, 3) := d_of dm_X4_clean_c25 3 (q := (45, .invokevirtual 178, 3)) rfl
theorem dX4_clean_48 : decode cX4_clean 48 = .ok (.ifCond .eq 10, 3) := d_of dm_X4_clean_c25 4 (q := (48, .ifCond .eq 10, 3)) rfl
theorem dX4_clean_51 : decode cX4_clean 51 = .ok (.iload_n 3, 1) := d_of dm_X4_clean_c25 5 (q := (51, .iload_n 3, 1)) rfl
theorem dX4_clean_52 : decode cX4_clean 52 = .ok (.iconst 1, 1) := d_of dm_X4_clean_c25 6 (q := (52, .iconst 1, 1)) rfl
theorem dX4_clean_53 : decode cX4_clean 53 = .ok (.iload 4, 2) := d_of dm_X4_clean_c25 7 (q := (53, .iload 4, 2)) rfl
theorem dX4_clean_55 : decode cX4_clean 55 = .ok (.ishl, 1) := d_of dm_X4_clean_c25 8 (q := (55, .ishl, 1)) rfl
theorem dX4_clean_56 : decode cX4_clean 56 = .ok (.ior, 1) := d_of dm_X4_clean_c25 9 (q := (56, .ior, 1)) rfl
theorem dX4_clean_57 : decode cX4_clean 57 = .ok (.istore_n 3, 1) := d_of dm_X4_clean_c25 10 (q := (57, .istore_n 3, 1)) rfl
theorem dX4_clean_58 : decode cX4_clean 58 = .ok (.iinc 4 1, 3) := d_of dm_X4_clean_c25 11 (q := (58, .iinc 4 1, 3)) rfl
theorem dX4_clean_61 : decode cX4_clean 61 = .ok (.goto (-35), 3) := d_of dm_X4_clean_c25 12 (q := (61, .goto (-35), 3)) rfl
theorem dX4_clean_64 : decode cX4_clean 64 = .ok (.aload_n 0, 1) := d_of dm_X4_clean_c25 13 (q := (64, .aload_n 0, 1)) rfl
theorem dX4_clean_65 : decode cX4_clean 65 = .ok (.getfield 19, 3) := d_of dm_X4_clean_c25 14 (q := (65, .getfield 19, 3)) rfl
theorem dX4_clean_68 : decode cX4_clean 68 = .ok (.iload_n 1, 1) := d_of dm_X4_clean_c25 15 (q := (68, .iload_n 1, 1)) rfl
theorem dX4_clean_69 : decode cX4_clean 69 = .ok (.iload_n 2, 1) := d_of dm_X4_clean_c25 16 (q := (69, .iload_n 2, 1)) rfl
theorem dX4_clean_70 : decode cX4_clean 70 = .ok (.iastore, 1) := d_of dm_X4_clean_c25 17 (q := (70, .iastore, 1)) rfl
theorem dX4_clean_71 : decode cX4_clean 71 = .ok (.iload_n 3, 1) := d_of dm_X4_clean_c25 18 (q := (71, .iload_n 3, 1)) rfl
theorem dX4_clean_72 : decode cX4_clean 72 = .ok (.ireturn, 1) := d_of dm_X4_clean_c25 19 (q := (72, .ireturn, 1)) rfl
def dl_X4_row_c0 : List (Nat × Instr × Nat) := [(0, .iload_n 1, 1), (1, .ifCond .ge 10, 3), (4, .aload_n 0, 1), (5, .bipush (-4), 2), (7, .invokevirtual 63, 3), (10, .ireturn, 1), (11, .iload_n 1, 1), (12, .bipush 99, 2), (14, .if_icmp .gt 12, 3), (17, .aload_n 0, 1), (18, .getfield 181, 3), (21, .bipush 12, 2), (23, .if_icmp .ne 10, 3), (26, .aload_n 0, 1), (27, .bipush (-6), 2), (29, .invokevirtual 63, 3), (32, .ireturn, 1), (33, .aload_n 0, 1), (34, .getfield 34, 3), (37, .aload_n 0, 1), (38, .dup, 1), (39, .getfield 181, 3), (42, .dup_x1, 1), (43, .iconst 1, 1), (44, .iadd, 1)]
set_option maxRecDepth 100000 in
theorem dm_X4_row_c0 : dl_X4_row_c0.all (fun q => decide (decode cX4_row q.1 = .ok q.2)) = true := by decide +kernel
theorem dX4_row_0 : decode cX4_row 0 = .ok (.iload_n 1, 1) := d_of dm_X4_row_c0 0 (q := (0, .iload_n 1, 1)) rfl
theorem dX4_row_1 : decode cX4_row 1 = .ok (.ifCond .ge 10, 3) := d_of dm_X4_row_c0 1 (q := (1, .ifCond .ge 10, 3)) rfl
theorem dX4_row_4 : decode cX4_row 4 = .ok (.aload_n 0, 1) := d_of dm_X4_row_c0 2 (q := (4, .aload_n 0, 1)) rfl
theorem dX4_row_5 : decode cX4_row 5 = .ok (.bipush (-4), 2) := d_of dm_X4_row_c0 3 (q := (5, .bipush (-4), 2)) rfl
theorem dX4_row_7 : decode cX4_row 7 = .ok (.invokevirtual 63, 3) := d_of dm_X4_row_c0 4 (q := (7, .invokevirtual 63, 3)) rfl
theorem dX4_row_10 : decode cX4_row 10 = .ok (.ireturn, 1) := d_of dm_X4_row_c0 5 (q := (10, .ireturn, 1)) rfl
theorem dX4_row_11 : decode cX4_row 11 = .ok (.iload_n 1, 1) := d_of dm_X4_row_c0 6 (q := (11, .iload_n 1, 1)) rfl
theorem dX4_row_12 : decode cX4_row 12 = .ok (.bipush 99, 2) := d_of dm_X4_row_c0 7 (q := (12, .bipush 99, 2)) rfl
theorem dX4_row_14 : decode cX4_row 14 = .ok (.if_icmp .gt 12, 3) := d_of dm_X4_row_c0 8 (q := (14, .if_icmp .gt 12, 3)) rfl
theorem dX4_row_17 : decode cX4_row 17 = .ok (.aload_n 0, 1) := d_of dm_X4_row_c0 9 (q := (17, .aload_n 0, 1)) rfl
theorem dX4_row_18 : decode cX4_row 18 = .ok (.getfield 181, 3) := d_of dm_X4_row_c0 10 (q := (18, .getfield 181, 3)) rfl
theorem dX4_row_21 : decode cX4_row 21 = .ok (.bipush 12, 2) := d_of dm_X4_row_c0 11 (q := (21, .bipush 12, 2)) rfl
theorem dX4_row_23 : decode cX4_row 23 = .ok (.if_icmp .ne 10, 3) := d_of dm_X4_row_c0 12 (q := (23, .if_icmp .ne 10, 3)) rfl
theorem dX4_row_26 : decode cX4_row 26 = .ok (.aload_n 0, 1) := d_of dm_X4_row_c0 13 (q := (26, .aload_n 0, 1)) rfl
theorem dX4_row_27 : decode cX4_row 27 = .ok (.bipush (-6), 2) := d_of dm_X4_row_c0 14 (q := (27, .bipush (-6), 2)) rfl
theorem dX4_row_29 : decode cX4_row 29 = .ok (.invokevirtual 63, 3) := d_of dm_X4_row_c0 15 (q := (29, .invokevirtual 63, 3)) rfl
theorem dX4_row_32 : decode cX4_row 32 = .ok (.ireturn, 1) := d_of dm_X4_row_c0 16 (q := (32, .ireturn, 1)) rfl
theorem dX4_row_33 : decode cX4_row 33 = .ok (.aload_n 0, 1) := d_of dm_X4_row_c0 17 (q := (33, .aload_n 0, 1)) rfl
theorem dX4_row_34 : decode cX4_row 34 = .ok (.getfield 34, 3) := d_of dm_X4_row_c0 18 (q := (34, .getfield 34, 3)) rfl
theorem dX4_row_37 : decode cX4_row 37 = .ok (.aload_n 0, 1) := d_of dm_X4_row_c0 19 (q := (37, .aload_n 0, 1)) rfl
theorem dX4_row_38 : decode cX4_row 38 = .ok (.dup, 1) := d_of dm_X4_row_c0 20 (q := (38, .dup, 1)) rfl
theorem dX4_row_39 : decode cX4_row 39 = .ok (.getfield 181, 3) := d_of dm_X4_row_c0 21 (q := (39, .getfield 181, 3)) rfl
theorem dX4_row_42 : decode cX4_row 42 = .ok (.dup_x1, 1) := d_of dm_X4_row_c0 22 (q := (42, .dup_x1, 1)) rfl
theorem dX4_row_43 : decode cX4_row 43 = .ok (.iconst 1, 1) := d_of dm_X4_row_c0 23 (q := (43, .iconst 1, 1)) rfl
theorem dX4_row_44 : decode cX4_row 44 = .ok (.iadd, 1) := d_of dm_X4_row_c0 24 (q := (44, .iadd, 1)) rfl
def dl_X4_row_c25 : List (Nat × Instr × Nat) := [(45, .putfield 181, 3), (48, .iload_n 1, 1), (49, .iastore, 1), (50, .aload_n 0, 1), (51, .getfield 181, 3), (54, .ireturn, 1)]
set_option maxRecDepth 100000 in
theorem dm_X4_row_c25 : dl_X4_row_c25.all (fun q => decide (decode cX4_row q.1 = .ok q.2)) = true := by decide +kernel
theorem dX4_row_45 : decode cX4_row 45 = .ok (.putfield 181, 3) := d_of dm_X4_row_c25 0 (q := (45, .putfield 181, 3)) rfl
theorem dX4_row_48 : decode cX4_row 48 = .ok (.iload_n 1, 1) := d_of dm_X4_row_c25 1 (q := (48, .iload_n 1, 1)) rfl
theorem dX4_row_49 : decode cX4_row 49 = .ok (.iastore, 1) := d_of dm_X4_row_c25 2 (q := (49, .iastore, 1)) rfl
theorem dX4_row_50 : decode cX4_row 50 = .ok (.aload_n 0, 1) := d_of dm_X4_row_c25 3 (q := (50, .aload_n 0, 1)) rfl
theorem dX4_row_51 : decode cX4_row 51 = .ok (.getfield 181, 3) := d_of dm_X4_row_c25 4 (q := (51, .getfield 181, 3)) rfl
theorem dX4_row_54 : decode cX4_row 54 = .ok (.ireturn, 1) := d_of dm_X4_row_c25 5 (q := (54, .ireturn, 1)) rfl
def dl_X4_judge_c0 : List (Nat × Instr × Nat) := [(0, .aload_n 0, 1), (1, .getfield 181, 3), (4, .istore_n 1, 1), (5, .aload_n 0, 1), (6, .iconst 0, 1), (7, .putfield 181, 3), (10, .aload_n 0, 1), (11, .aload_n 0, 1), (12, .getfield 43, 3), (15, .invokevirtual 122, 3), (18, .bipush (-9), 2), (20, .istore_n 2, 1), (21, .iconst 0, 1), (22, .istore_n 3, 1), (23, .iload_n 3, 1), (24, .iload_n 1, 1), (25, .if_icmp .ge 83, 3), (28, .iload_n 2, 1), (29, .bipush (-9), 2), (31, .if_icmp .ne 77, 3), (34, .aload_n 0, 1), (35, .getfield 34, 3), (38, .iload_n 3, 1), (39, .iaload, 1), (40, .bipush 10, 2)]
set_option maxRecDepth 100000 in
theorem dm_X4_judge_c0 : dl_X4_judge_c0.all (fun q => decide (decode cX4_judge q.1 = .ok q.2)) = true := by decide +kernel
theorem dX4_judge_0 : decode cX4_judge 0 = .ok (.aload_n 0, 1) := d_of dm_X4_judge_c0 0 (q := (0, .aload_n 0, 1)) rfl
theorem dX4_judge_1 : decode cX4_judge 1 = .ok (.getfield 181, 3) := d_of dm_X4_judge_c0 1 (q := (1, .getfield 181, 3)) rfl
theorem dX4_judge_4 : decode cX4_judge 4 = .ok (.istore_n 1, 1) := d_of dm_X4_judge_c0 2 (q := (4, .istore_n 1, 1)) rfl
theorem dX4_judge_5 : decode cX4_judge 5 = .ok (.aload_n 0, 1) := d_of dm_X4_judge_c0 3 (q := (5, .aload_n 0, 1)) rfl
theorem dX4_judge_6 : decode cX4_judge 6 = .ok (.iconst 0, 1) := d_of dm_X4_judge_c0 4 (q := (6, .iconst 0, 1)) rfl
theorem dX4_judge_7 : decode cX4_judge 7 = .ok (.putfield 181, 3) := d_of dm_X4_judge_c0 5 (q := (7, .putfield 181, 3)) rfl
theorem dX4_judge_10 : decode cX4_judge 10 = .ok (.aload_n 0, 1) := d_of dm_X4_judge_c0 6 (q := (10, .aload_n 0, 1)) rfl
theorem dX4_judge_11 : decode cX4_judge 11 = .ok (.aload_n 0, 1) := d_of dm_X4_judge_c0 7 (q := (11, .aload_n 0, 1)) rfl
theorem dX4_judge_12 : decode cX4_judge 12 = .ok (.getfield 43, 3) := d_of dm_X4_judge_c0 8 (q := (12, .getfield 43, 3)) rfl
theorem dX4_judge_15 : decode cX4_judge 15 = .ok (.invokevirtual 122, 3) := d_of dm_X4_judge_c0 9 (q := (15, .invokevirtual 122, 3)) rfl
theorem dX4_judge_18 : decode cX4_judge 18 = .ok (.bipush (-9), 2) := d_of dm_X4_judge_c0 10 (q := (18, .bipush (-9), 2)) rfl
theorem dX4_judge_20 : decode cX4_judge 20 = .ok (.istore_n 2, 1) := d_of dm_X4_judge_c0 11 (q := (20, .istore_n 2, 1)) rfl
theorem dX4_judge_21 : decode cX4_judge 21 = .ok (.iconst 0, 1) := d_of dm_X4_judge_c0 12 (q := (21, .iconst 0, 1)) rfl
theorem dX4_judge_22 : decode cX4_judge 22 = .ok (.istore_n 3, 1) := d_of dm_X4_judge_c0 13 (q := (22, .istore_n 3, 1)) rfl
theorem dX4_judge_23 : decode cX4_judge 23 = .ok (.iload_n 3, 1) := d_of dm_X4_judge_c0 14 (q := (23, .iload_n 3, 1)) rfl
theorem dX4_judge_24 : decode cX4_judge 24 = .ok (.iload_n 1, 1) := d_of dm_X4_judge_c0 15 (q := (24, .iload_n 1, 1)) rfl
theorem dX4_judge_25 : decode cX4_judge 25 = .ok (.if_icmp .ge 83, 3) := d_of dm_X4_judge_c0 16 (q := (25, .if_icmp .ge 83, 3)) rfl
theorem dX4_judge_28 : decode cX4_judge 28 = .ok (.iload_n 2, 1) := d_of dm_X4_judge_c0 17 (q := (28, .iload_n 2, 1)) rfl
theorem dX4_judge_29 : decode cX4_judge 29 = .ok (.bipush (-9), 2) := d_of dm_X4_judge_c0 18 (q := (29, .bipush (-9), 2)) rfl
theorem dX4_judge_31 : decode cX4_judge 31 = .ok (.if_icmp .ne 77, 3) := d_of dm_X4_judge_c0 19 (q := (31, .if_icmp .ne 77, 3)) rfl
theorem dX4_judge_34 : decode cX4_judge 34 = .ok (.aload_n 0, 1) := d_of dm_X4_judge_c0 20 (q := (34, .aload_n 0, 1)) rfl
theorem dX4_judge_35 : decode cX4_judge 35 = .ok (.getfield 34, 3) := d_of dm_X4_judge_c0 21 (q := (35, .getfield 34, 3)) rfl
theorem dX4_judge_38 : decode cX4_judge 38 = .ok (.iload_n 3, 1) := d_of dm_X4_judge_c0 22 (q := (38, .iload_n 3, 1)) rfl
theorem dX4_judge_39 : decode cX4_judge 39 = .ok (.iaload, 1) := d_of dm_X4_judge_c0 23 (q := (39, .iaload, 1)) rfl
theorem dX4_judge_40 : decode cX4_judge 40 = .ok (.bipush 10, 2) := d_of dm_X4_judge_c0 24 (q := (40, .bipush 10, 2)) rfl
def dl_X4_judge_c25 : List (Nat × Instr × Nat) := [(42, .idiv, 1), (43, .istore 4, 2), (45, .aload_n 0, 1), (46, .getfield 34, 3), (49, .iload_n 3, 1), (50, .iaload, 1), (51, .bipush 10, 2), (53, .irem, 1), (54, .istore 5, 2), (56, .aload_n 0, 1), (57, .iload 4, 2), (59, .invokevirtual 112, 3), (62, .ifCond .eq 11, 3), (65, .iload 5, 2), (67, .invokestatic 105, 3), (70, .ifCond .ne 8, 3), (73, .iload_n 3, 1), (74, .istore_n 2, 1), (75, .goto 27, 3), (78, .aload_n 0, 1), (79, .getfield 19, 3), (82, .iload 4, 2), (84, .iload 5, 2), (86, .iastore, 1), (87, .aload_n 0, 1)]
set_option maxRecDepth 100000 in
theorem dm_X4_judge_c25 : dl_X4_judge_c25.all (fun q => decide (decode cX4_judge q.1 = .ok q.2)) = true := by decide +kernel
theorem dX4_judge_42 : decode cX4_judge 42 = .ok (.idiv, 1) := d_of dm_X4_judge_c25 0 (q := (42, .idiv, 1)) rfl
theorem dX4_judge_43 : decode cX4_judge 43 = .ok (.istore 4, 2) := d_of dm_X4_judge_c25 1 (q := (43, .istore 4, 2)) rfl
theorem dX4_judge_45 : decode cX4_judge 45 = .ok (.aload_n 0, 1) := d_of dm_X4_judge_c25 2 (q := (45, .aload_n 0, 1)) rfl
theorem dX4_judge_46 : decode cX4_judge 46 = .ok (.getfield 34, 3) := d_of dm_X4_judge_c25 3 (q := (46, .getfield 34, 3)) rfl
theorem dX4_judge_49 : decode cX4_judge 49 = .ok (.iload_n 3, 1) := d_of dm_X4_judge_c25 4 (q := (49, .iload_n 3, 1)) rfl
theorem dX4_judge_50 : decode cX4_judge 50 = .ok (.iaload, 1) := d_of dm_X4_judge_c25 5 (q := (50, .iaload, 1)) rfl
theorem dX4_judge_51 : decode cX4_judge 51 = .ok (.bipush 10, 2) := d_of dm_X4_judge_c25 6 (q := (51, .bipush 10, 2)) rfl
theorem dX4_judge_53 : decode cX4_judge 53 = .ok (.irem, 1) := d_of dm_X4_judge_c25 7 (q := (53, .irem, 1)) rfl
theorem dX4_judge_54 : decode cX4_judge 54 = .ok (.istore 5, 2) := d_of dm_X4_judge_c25 8 (q := (54, .istore 5, 2)) rfl
theorem dX4_judge_56 : decode cX4_judge 56 = .ok (.aload_n 0, 1) := d_of dm_X4_judge_c25 9 (q := (56, .aload_n 0, 1)) rfl
theorem dX4_judge_57 : decode cX4_judge 57 = .ok (.iload 4, 2) := d_of dm_X4_judge_c25 10 (q := (57, .iload 4, 2)) rfl
theorem dX4_judge_59 : decode cX4_judge 59 = .ok (.invokevirtual 112, 3) := d_of dm_X4_judge_c25 11 (q := (59, .invokevirtual 112, 3)) rfl
theorem dX4_judge_62 : decode cX4_judge 62 = .ok (.ifCond .eq 11, 3) := d_of dm_X4_judge_c25 12 (q := (62, .ifCond .eq 11, 3)) rfl
theorem dX4_judge_65 : decode cX4_judge 65 = .ok (.iload 5, 2) := d_of dm_X4_judge_c25 13 (q := (65, .iload 5, 2)) rfl
theorem dX4_judge_67 : decode cX4_judge 67 = .ok (.invokestatic 105, 3) := d_of dm_X4_judge_c25 14 (q := (67, .invokestatic 105, 3)) rfl
theorem dX4_judge_70 : decode cX4_judge 70 = .ok (.ifCond .ne 8, 3) := d_of dm_X4_judge_c25 15 (q := (70, .ifCond .ne 8, 3)) rfl
theorem dX4_judge_73 : decode cX4_judge 73 = .ok (.iload_n 3, 1) := d_of dm_X4_judge_c25 16 (q := (73, .iload_n 3, 1)) rfl
theorem dX4_judge_74 : decode cX4_judge 74 = .ok (.istore_n 2, 1) := d_of dm_X4_judge_c25 17 (q := (74, .istore_n 2, 1)) rfl
theorem dX4_judge_75 : decode cX4_judge 75 = .ok (.goto 27, 3) := d_of dm_X4_judge_c25 18 (q := (75, .goto 27, 3)) rfl
theorem dX4_judge_78 : decode cX4_judge 78 = .ok (.aload_n 0, 1) := d_of dm_X4_judge_c25 19 (q := (78, .aload_n 0, 1)) rfl
theorem dX4_judge_79 : decode cX4_judge 79 = .ok (.getfield 19, 3) := d_of dm_X4_judge_c25 20 (q := (79, .getfield 19, 3)) rfl
theorem dX4_judge_82 : decode cX4_judge 82 = .ok (.iload 4, 2) := d_of dm_X4_judge_c25 21 (q := (82, .iload 4, 2)) rfl
theorem dX4_judge_84 : decode cX4_judge 84 = .ok (.iload 5, 2) := d_of dm_X4_judge_c25 22 (q := (84, .iload 5, 2)) rfl
theorem dX4_judge_86 : decode cX4_judge 86 = .ok (.iastore, 1) := d_of dm_X4_judge_c25 23 (q := (86, .iastore, 1)) rfl
theorem dX4_judge_87 : decode cX4_judge 87 = .ok (.aload_n 0, 1) := d_of dm_X4_judge_c25 24 (q := (87, .aload_n 0, 1)) rfl
def dl_X4_judge_c50 : List (Nat × Instr × Nat) := [(88, .bipush 7, 2), (90, .iload_n 3, 1), (91, .invokestatic 73, 3), (94, .invokevirtual 146, 3), (97, .ifCond .le 5, 3), (100, .iload_n 3, 1), (101, .istore_n 2, 1), (102, .iinc 3 1, 3), (105, .goto (-82), 3), (108, .aload_n 0, 1), (109, .aload_n 0, 1), (110, .getfield 43, 3), (113, .invokevirtual 126, 3), (116, .iload_n 2, 1), (117, .ireturn, 1)]
set_option maxRecDepth 100000 in
theorem dm_X4_judge_c50 : dl_X4_judge_c50.all (fun q => decide (decode cX4_judge q.1 = .ok q.2)) = true := by decide +kernel
theorem dX4_judge_88 : decode cX4_judge 88 = .ok (.bipush 7, 2) := d_of dm_X4_judge_c50 0 (q := (88, .bipush 7, 2)) rfl
theorem dX4_judge_90 : decode cX4_judge 90 = .ok (.iload_n 3, 1) := d_of dm_X4_judge_c50 1 (q := (90, .iload_n 3, 1)) rfl
theorem dX4_judge_91 : decode cX4_judge 91 = .ok (.invokestatic 73, 3) := d_of dm_X4_judge_c50 2 (q := (91, .invokestatic 73, 3)) rfl
theorem dX4_judge_94 : decode cX4_judge 94 = .ok (.invokevirtual 146, 3) := d_of dm_X4_judge_c50 3 (q := (94, .invokevirtual 146, 3)) rfl
theorem dX4_judge_97 : decode cX4_judge 97 = .ok (.ifCond .le 5, 3) := d_of dm_X4_judge_c50 4 (q := (97, .ifCond .le 5, 3)) rfl
theorem dX4_judge_100 : decode cX4_judge 100 = .ok (.iload_n 3, 1) := d_of dm_X4_judge_c50 5 (q := (100, .iload_n 3, 1)) rfl
theorem dX4_judge_101 : decode cX4_judge 101 = .ok (.istore_n 2, 1) := d_of dm_X4_judge_c50 6 (q := (101, .istore_n 2, 1)) rfl
theorem dX4_judge_102 : decode cX4_judge 102 = .ok (.iinc 3 1, 3) := d_of dm_X4_judge_c50 7 (q := (102, .iinc 3 1, 3)) rfl
theorem dX4_judge_105 : decode cX4_judge 105 = .ok (.goto (-82), 3) := d_of dm_X4_judge_c50 8 (q := (105, .goto (-82), 3)) rfl
theorem dX4_judge_108 : decode cX4_judge 108 = .ok (.aload_n 0, 1) := d_of dm_X4_judge_c50 9 (q := (108, .aload_n 0, 1)) rfl
theorem dX4_judge_109 : decode cX4_judge 109 = .ok (.aload_n 0, 1) := d_of dm_X4_judge_c50 10 (q := (109, .aload_n 0, 1)) rfl
theorem dX4_judge_110 : decode cX4_judge 110 = .ok (.getfield 43, 3) := d_of dm_X4_judge_c50 11 (q := (110, .getfield 43, 3)) rfl
theorem dX4_judge_113 : decode cX4_judge 113 = .ok (.invokevirtual 126, 3) := d_of dm_X4_judge_c50 12 (q := (113, .invokevirtual 126, 3)) rfl
theorem dX4_judge_116 : decode cX4_judge 116 = .ok (.iload_n 2, 1) := d_of dm_X4_judge_c50 13 (q := (116, .iload_n 2, 1)) rfl
theorem dX4_judge_117 : decode cX4_judge 117 = .ok (.ireturn, 1) := d_of dm_X4_judge_c50 14 (q := (117, .ireturn, 1)) rfl
def dl_X4_seeds_c0 : List (Nat × Instr × Nat) := [(0, .iload_n 1, 1), (1, .iconst 1, 1), (2, .if_icmp .ge 10, 3), (5, .aload_n 0, 1), (6, .bipush (-4), 2), (8, .invokevirtual 63, 3), (11, .ireturn, 1), (12, .iload_n 1, 1), (13, .bipush 30, 2), (15, .if_icmp .le 10, 3), (18, .aload_n 0, 1), (19, .bipush (-6), 2), (21, .invokevirtual 63, 3), (24, .ireturn, 1), (25, .aload_n 0, 1), (26, .getfield 52, 3), (29, .ifCond .ne 10, 3), (32, .aload_n 0, 1), (33, .bipush (-3), 2), (35, .invokevirtual 63, 3), (38, .ireturn, 1), (39, .aload_n 0, 1), (40, .aload_n 0, 1), (41, .getfield 43, 3), (44, .invokevirtual 122, 3)]
set_option maxRecDepth 100000 in
theorem dm_X4_seeds_c0 : dl_X4_seeds_c0.all (fun q => decide (decode cX4_seeds q.1 = .ok q.2)) = true := by decide +kernel
theorem dX4_seeds_0 : decode cX4_seeds 0 = .ok (.iload_n 1, 1) := d_of dm_X4_seeds_c0 0 (q := (0, .iload_n 1, 1)) rfl
theorem dX4_seeds_1 : decode cX4_seeds 1 = .ok (.iconst 1, 1) := d_of dm_X4_seeds_c0 1 (q := (1, .iconst 1, 1)) rfl
theorem dX4_seeds_2 : decode cX4_seeds 2 = .ok (.if_icmp .ge 10, 3) := d_of dm_X4_seeds_c0 2 (q := (2, .if_icmp .ge 10, 3)) rfl
theorem dX4_seeds_5 : decode cX4_seeds 5 = .ok (.aload_n 0, 1) := d_of dm_X4_seeds_c0 3 (q := (5, .aload_n 0, 1)) rfl
theorem dX4_seeds_6 : decode cX4_seeds 6 = .ok (.bipush (-4), 2) := d_of dm_X4_seeds_c0 4 (q := (6, .bipush (-4), 2)) rfl
theorem dX4_seeds_8 : decode cX4_seeds 8 = .ok (.invokevirtual 63, 3) := d_of dm_X4_seeds_c0 5 (q := (8, .invokevirtual 63, 3)) rfl
theorem dX4_seeds_11 : decode cX4_seeds 11 = .ok (.ireturn, 1) := d_of dm_X4_seeds_c0 6 (q := (11, .ireturn, 1)) rfl
theorem dX4_seeds_12 : decode cX4_seeds 12 = .ok (.iload_n 1, 1) := d_of dm_X4_seeds_c0 7 (q := (12, .iload_n 1, 1)) rfl
theorem dX4_seeds_13 : decode cX4_seeds 13 = .ok (.bipush 30, 2) := d_of dm_X4_seeds_c0 8 (q := (13, .bipush 30, 2)) rfl
theorem dX4_seeds_15 : decode cX4_seeds 15 = .ok (.if_icmp .le 10, 3) := d_of dm_X4_seeds_c0 9 (q := (15, .if_icmp .le 10, 3)) rfl
theorem dX4_seeds_18 : decode cX4_seeds 18 = .ok (.aload_n 0, 1) := d_of dm_X4_seeds_c0 10 (q := (18, .aload_n 0, 1)) rfl
theorem dX4_seeds_19 : decode cX4_seeds 19 = .ok (.bipush (-6), 2) := d_of dm_X4_seeds_c0 11 (q := (19, .bipush (-6), 2)) rfl
theorem dX4_seeds_21 : decode cX4_seeds 21 = .ok (.invokevirtual 63, 3) := d_of dm_X4_seeds_c0 12 (q := (21, .invokevirtual 63, 3)) rfl
theorem dX4_seeds_24 : decode cX4_seeds 24 = .ok (.ireturn, 1) := d_of dm_X4_seeds_c0 13 (q := (24, .ireturn, 1)) rfl
theorem dX4_seeds_25 : decode cX4_seeds 25 = .ok (.aload_n 0, 1) := d_of dm_X4_seeds_c0 14 (q := (25, .aload_n 0, 1)) rfl
theorem dX4_seeds_26 : decode cX4_seeds 26 = .ok (.getfield 52, 3) := d_of dm_X4_seeds_c0 15 (q := (26, .getfield 52, 3)) rfl
theorem dX4_seeds_29 : decode cX4_seeds 29 = .ok (.ifCond .ne 10, 3) := d_of dm_X4_seeds_c0 16 (q := (29, .ifCond .ne 10, 3)) rfl
theorem dX4_seeds_32 : decode cX4_seeds 32 = .ok (.aload_n 0, 1) := d_of dm_X4_seeds_c0 17 (q := (32, .aload_n 0, 1)) rfl
theorem dX4_seeds_33 : decode cX4_seeds 33 = .ok (.bipush (-3), 2) := d_of dm_X4_seeds_c0 18 (q := (33, .bipush (-3), 2)) rfl
theorem dX4_seeds_35 : decode cX4_seeds 35 = .ok (.invokevirtual 63, 3) := d_of dm_X4_seeds_c0 19 (q := (35, .invokevirtual 63, 3)) rfl
theorem dX4_seeds_38 : decode cX4_seeds 38 = .ok (.ireturn, 1) := d_of dm_X4_seeds_c0 20 (q := (38, .ireturn, 1)) rfl
theorem dX4_seeds_39 : decode cX4_seeds 39 = .ok (.aload_n 0, 1) := d_of dm_X4_seeds_c0 21 (q := (39, .aload_n 0, 1)) rfl
theorem dX4_seeds_40 : decode cX4_seeds 40 = .ok (.aload_n 0, 1) := d_of dm_X4_seeds_c0 22 (q := (40, .aload_n 0, 1)) rfl
theorem dX4_seeds_41 : decode cX4_seeds 41 = .ok (.getfield 43, 3) := d_of dm_X4_seeds_c0 23 (q := (41, .getfield 43, 3)) rfl
theorem dX4_seeds_44 : decode cX4_seeds 44 = .ok (.invokevirtual 122, 3) := d_of dm_X4_seeds_c0 24 (q := (44, .invokevirtual 122, 3)) rfl
def dl_X4_seeds_c25 : List (Nat × Instr × Nat) := [(47, .iload_n 2, 1), (48, .istore_n 3, 1), (49, .iconst 0, 1), (50, .istore 4, 2), (52, .iconst 0, 1), (53, .istore 5, 2), (55, .iload 5, 2), (57, .iload_n 1, 1), (58, .if_icmp .ge 72, 3), (61, .iload_n 3, 1), (62, .ldc 184, 2), (64, .imul, 1), (65, .ldc 185, 2), (67, .iadd, 1), (68, .istore_n 3, 1), (69, .iload_n 3, 1), (70, .ldc 186, 2), (72, .iand, 1), (73, .sipush 256, 3), (76, .idiv, 1), (77, .aload_n 0, 1), (78, .getfield 52, 3), (81, .irem, 1), (82, .istore 6, 2), (84, .iload_n 3, 1)]
set_option maxRecDepth 100000 in
theorem dm_X4_seeds_c25 : dl_X4_seeds_c25.all (fun q => decide (decode cX4_seeds q.1 = .ok q.2)) = true := by decide +kernel
theorem dX4_seeds_47 : decode cX4_seeds 47 = .ok (.iload_n 2, 1) := d_of dm_X4_seeds_c25 0 (q := (47, .iload_n 2, 1)) rfl
theorem dX4_seeds_48 : decode cX4_seeds 48 = .ok (.istore_n 3, 1) := d_of dm_X4_seeds_c25 1 (q := (48, .istore_n 3, 1)) rfl
theorem dX4_seeds_49 : decode cX4_seeds 49 = .ok (.iconst 0, 1) := d_of dm_X4_seeds_c25 2 (q := (49, .iconst 0, 1)) rfl
theorem dX4_seeds_50 : decode cX4_seeds 50 = .ok (.istore 4, 2) := d_of dm_X4_seeds_c25 3 (q := (50, .istore 4, 2)) rfl
theorem dX4_seeds_52 : decode cX4_seeds 52 = .ok (.iconst 0, 1) := d_of dm_X4_seeds_c25 4 (q := (52, .iconst 0, 1)) rfl
theorem dX4_seeds_53 : decode cX4_seeds 53 = .ok (.istore 5, 2) := d_of dm_X4_seeds_c25 5 (q := (53, .istore 5, 2)) rfl
theorem dX4_seeds_55 : decode cX4_seeds 55 = .ok (.iload 5, 2) := d_of dm_X4_seeds_c25 6 (q := (55, .iload 5, 2)) rfl
theorem dX4_seeds_57 : decode cX4_seeds 57 = .ok (.iload_n 1, 1) := d_of dm_X4_seeds_c25 7 (q := (57, .iload_n 1, 1)) rfl
theorem dX4_seeds_58 : decode cX4_seeds 58 = .ok (.if_icmp .ge 72, 3) := d_of dm_X4_seeds_c25 8 (q := (58, .if_icmp .ge 72, 3)) rfl
theorem dX4_seeds_61 : decode cX4_seeds 61 = .ok (.iload_n 3, 1) := d_of dm_X4_seeds_c25 9 (q := (61, .iload_n 3, 1)) rfl
theorem dX4_seeds_62 : decode cX4_seeds 62 = .ok (.ldc 184, 2) := d_of dm_X4_seeds_c25 10 (q := (62, .ldc 184, 2)) rfl
theorem dX4_seeds_64 : decode cX4_seeds 64 = .ok (.imul, 1) := d_of dm_X4_seeds_c25 11 (q := (64, .imul, 1)) rfl
theorem dX4_seeds_65 : decode cX4_seeds 65 = .ok (.ldc 185, 2) := d_of dm_X4_seeds_c25 12 (q := (65, .ldc 185, 2)) rfl
theorem dX4_seeds_67 : decode cX4_seeds 67 = .ok (.iadd, 1) := d_of dm_X4_seeds_c25 13 (q := (67, .iadd, 1)) rfl
theorem dX4_seeds_68 : decode cX4_seeds 68 = .ok (.istore_n 3, 1) := d_of dm_X4_seeds_c25 14 (q := (68, .istore_n 3, 1)) rfl
theorem dX4_seeds_69 : decode cX4_seeds 69 = .ok (.iload_n 3, 1) := d_of dm_X4_seeds_c25 15 (q := (69, .iload_n 3, 1)) rfl
theorem dX4_seeds_70 : decode cX4_seeds 70 = .ok (.ldc 186, 2) := d_of dm_X4_seeds_c25 16 (q := (70, .ldc 186, 2)) rfl
theorem dX4_seeds_72 : decode cX4_seeds 72 = .ok (.iand, 1) := d_of dm_X4_seeds_c25 17 (q := (72, .iand, 1)) rfl
theorem dX4_seeds_73 : decode cX4_seeds 73 = .ok (.sipush 256, 3) := d_of dm_X4_seeds_c25 18 (q := (73, .sipush 256, 3)) rfl
theorem dX4_seeds_76 : decode cX4_seeds 76 = .ok (.idiv, 1) := d_of dm_X4_seeds_c25 19 (q := (76, .idiv, 1)) rfl
theorem dX4_seeds_77 : decode cX4_seeds 77 = .ok (.aload_n 0, 1) := d_of dm_X4_seeds_c25 20 (q := (77, .aload_n 0, 1)) rfl
theorem dX4_seeds_78 : decode cX4_seeds 78 = .ok (.getfield 52, 3) := d_of dm_X4_seeds_c25 21 (q := (78, .getfield 52, 3)) rfl
theorem dX4_seeds_81 : decode cX4_seeds 81 = .ok (.irem, 1) := d_of dm_X4_seeds_c25 22 (q := (81, .irem, 1)) rfl
theorem dX4_seeds_82 : decode cX4_seeds 82 = .ok (.istore 6, 2) := d_of dm_X4_seeds_c25 23 (q := (82, .istore 6, 2)) rfl
theorem dX4_seeds_84 : decode cX4_seeds 84 = .ok (.iload_n 3, 1) := d_of dm_X4_seeds_c25 24 (q := (84, .iload_n 3, 1)) rfl
def dl_X4_seeds_c50 : List (Nat × Instr × Nat) := [(85, .ldc 184, 2), (87, .imul, 1), (88, .ldc 185, 2), (90, .iadd, 1), (91, .istore_n 3, 1), (92, .aload_n 0, 1), (93, .getfield 19, 3), (96, .iload 6, 2), (98, .iload_n 3, 1), (99, .ldc 186, 2), (101, .iand, 1), (102, .sipush 256, 3), (105, .idiv, 1), (106, .bipush 6, 2), (108, .irem, 1), (109, .iastore, 1), (110, .aload_n 0, 1), (111, .aload_n 0, 1), (112, .getfield 95, 3), (115, .invokevirtual 146, 3), (118, .ifCond .le 6, 3), (121, .iinc 4 1, 3), (124, .iinc 5 1, 3), (127, .goto (-72), 3), (130, .aload_n 0, 1)]
set_option maxRecDepth 100000 in
theorem dm_X4_seeds_c50 : dl_X4_seeds_c50.all (fun q => decide (decode cX4_seeds q.1 = .ok q.2)) = true := by decide +kernel
theorem dX4_seeds_85 : decode cX4_seeds 85 = .ok (.ldc 184, 2) := d_of dm_X4_seeds_c50 0 (q := (85, .ldc 184, 2)) rfl
theorem dX4_seeds_87 : decode cX4_seeds 87 = .ok (.imul, 1) := d_of dm_X4_seeds_c50 1 (q := (87, .imul, 1)) rfl
theorem dX4_seeds_88 : decode cX4_seeds 88 = .ok (.ldc 185, 2) := d_of dm_X4_seeds_c50 2 (q := (88, .ldc 185, 2)) rfl
theorem dX4_seeds_90 : decode cX4_seeds 90 = .ok (.iadd, 1) := d_of dm_X4_seeds_c50 3 (q := (90, .iadd, 1)) rfl
theorem dX4_seeds_91 : decode cX4_seeds 91 = .ok (.istore_n 3, 1) := d_of dm_X4_seeds_c50 4 (q := (91, .istore_n 3, 1)) rfl
theorem dX4_seeds_92 : decode cX4_seeds 92 = .ok (.aload_n 0, 1) := d_of dm_X4_seeds_c50 5 (q := (92, .aload_n 0, 1)) rfl
theorem dX4_seeds_93 : decode cX4_seeds 93 = .ok (.getfield 19, 3) := d_of dm_X4_seeds_c50 6 (q := (93, .getfield 19, 3)) rfl
theorem dX4_seeds_96 : decode cX4_seeds 96 = .ok (.iload 6, 2) := d_of dm_X4_seeds_c50 7 (q := (96, .iload 6, 2)) rfl
theorem dX4_seeds_98 : decode cX4_seeds 98 = .ok (.iload_n 3, 1) := d_of dm_X4_seeds_c50 8 (q := (98, .iload_n 3, 1)) rfl
theorem dX4_seeds_99 : decode cX4_seeds 99 = .ok (.ldc 186, 2) := d_of dm_X4_seeds_c50 9 (q := (99, .ldc 186, 2)) rfl
theorem dX4_seeds_101 : decode cX4_seeds 101 = .ok (.iand, 1) := d_of dm_X4_seeds_c50 10 (q := (101, .iand, 1)) rfl
theorem dX4_seeds_102 : decode cX4_seeds 102 = .ok (.sipush 256, 3) := d_of dm_X4_seeds_c50 11 (q := (102, .sipush 256, 3)) rfl
theorem dX4_seeds_105 : decode cX4_seeds 105 = .ok (.idiv, 1) := d_of dm_X4_seeds_c50 12 (q := (105, .idiv, 1)) rfl
theorem dX4_seeds_106 : decode cX4_seeds 106 = .ok (.bipush 6, 2) := d_of dm_X4_seeds_c50 13 (q := (106, .bipush 6, 2)) rfl
theorem dX4_seeds_108 : decode cX4_seeds 108 = .ok (.irem, 1) := d_of dm_X4_seeds_c50 14 (q := (108, .irem, 1)) rfl
theorem dX4_seeds_109 : decode cX4_seeds 109 = .ok (.iastore, 1) := d_of dm_X4_seeds_c50 15 (q := (109, .iastore, 1)) rfl
theorem dX4_seeds_110 : decode cX4_seeds 110 = .ok (.aload_n 0, 1) := d_of dm_X4_seeds_c50 16 (q := (110, .aload_n 0, 1)) rfl
theorem dX4_seeds_111 : decode cX4_seeds 111 = .ok (.aload_n 0, 1) := d_of dm_X4_seeds_c50 17 (q := (111, .aload_n 0, 1)) rfl
theorem dX4_seeds_112 : decode cX4_seeds 112 = .ok (.getfield 95, 3) := d_of dm_X4_seeds_c50 18 (q := (112, .getfield 95, 3)) rfl
theorem dX4_seeds_115 : decode cX4_seeds 115 = .ok (.invokevirtual 146, 3) := d_of dm_X4_seeds_c50 19 (q := (115, .invokevirtual 146, 3)) rfl
theorem dX4_seeds_118 : decode cX4_seeds 118 = .ok (.ifCond .le 6, 3) := d_of dm_X4_seeds_c50 20 (q := (118, .ifCond .le 6, 3)) rfl
theorem dX4_seeds_121 : decode cX4_seeds 121 = .ok (.iinc 4 1, 3) := d_of dm_X4_seeds_c50 21 (q := (121, .iinc 4 1, 3)) rfl
theorem dX4_seeds_124 : decode cX4_seeds 124 = .ok (.iinc 5 1, 3) := d_of dm_X4_seeds_c50 22 (q := (124, .iinc 5 1, 3)) rfl
theorem dX4_seeds_127 : decode cX4_seeds 127 = .ok (.goto (-72), 3) := d_of dm_X4_seeds_c50 23 (q := (127, .goto (-72), 3)) rfl
theorem dX4_seeds_130 : decode cX4_seeds 130 = .ok (.aload_n 0, 1) := d_of dm_X4_seeds_c50 24 (q := (130, .aload_n 0, 1)) rfl
def dl_X4_seeds_c75 : List (Nat × Instr × Nat) := [(131, .aload_n 0, 1), (132, .getfield 43, 3), (135, .invokevirtual 126, 3), (138, .iload 4, 2), (140, .ireturn, 1)]
set_option maxRecDepth 100000 in
theorem dm_X4_seeds_c75 : dl_X4_seeds_c75.all (fun q => decide (decode cX4_seeds q.1 = .ok q.2)) = true := by decide +kernel
theorem dX4_seeds_131 : decode cX4_seeds 131 = .ok (.aload_n 0, 1) := d_of dm_X4_seeds_c75 0 (q := (131, .aload_n 0, 1)) rfl
theorem dX4_seeds_132 : decode cX4_seeds 132 = .ok (.getfield 43, 3) := d_of dm_X4_seeds_c75 1 (q := (132, .getfield 43, 3)) rfl
theorem dX4_seeds_135 : decode cX4_seeds 135 = .ok (.invokevirtual 126, 3) := d_of dm_X4_seeds_c75 2 (q := (135, .invokevirtual 126, 3)) rfl
theorem dX4_seeds_138 : decode cX4_seeds 138 = .ok (.iload 4, 2) := d_of dm_X4_seeds_c75 3 (q := (138, .iload 4, 2)) rfl
theorem dX4_seeds_140 : decode cX4_seeds 140 = .ok (.ireturn, 1) := d_of dm_X4_seeds_c75 4 (q := (140, .ireturn, 1)) rfl
def dl_X4_keep_c0 : List (Nat × Instr × Nat) := [(0, .iconst 0, 1), (1, .istore_n 2, 1), (2, .iload_n 2, 1), (3, .bipush 10, 2), (5, .if_icmp .ge 30, 3), (8, .aload_n 1, 1), (9, .iload_n 2, 1), (10, .aload_n 0, 1), (11, .getfield 7, 3), (14, .iload_n 2, 1), (15, .iaload, 1), (16, .iastore, 1), (17, .aload_n 1, 1), (18, .bipush 10, 2), (20, .iload_n 2, 1), (21, .iadd, 1), (22, .aload_n 0, 1), (23, .getfield 13, 3), (26, .iload_n 2, 1), (27, .iaload, 1), (28, .iastore, 1), (29, .iinc 2 1, 3), (32, .goto (-30), 3), (35, .iconst 0, 1), (36, .istore_n 2, 1)]
set_option maxRecDepth 100000 in
theorem dm_X4_keep_c0 : dl_X4_keep_c0.all (fun q => decide (decode cX4_keep q.1 = .ok q.2)) = true := by decide +kernel
theorem dX4_keep_0 : decode cX4_keep 0 = .ok (.iconst 0, 1) := d_of dm_X4_keep_c0 0 (q := (0, .iconst 0, 1)) rfl
theorem dX4_keep_1 : decode cX4_keep 1 = .ok (.istore_n 2, 1) := d_of dm_X4_keep_c0 1 (q := (1, .istore_n 2, 1)) rfl
theorem dX4_keep_2 : decode cX4_keep 2 = .ok (.iload_n 2, 1) := d_of dm_X4_keep_c0 2 (q := (2, .iload_n 2, 1)) rfl
theorem dX4_keep_3 : decode cX4_keep 3 = .ok (.bipush 10, 2) := d_of dm_X4_keep_c0 3 (q := (3, .bipush 10, 2)) rfl
theorem dX4_keep_5 : decode cX4_keep 5 = .ok (.if_icmp .ge 30, 3) := d_of dm_X4_keep_c0 4 (q := (5, .if_icmp .ge 30, 3)) rfl
theorem dX4_keep_8 : decode cX4_keep 8 = .ok (.aload_n 1, 1) := d_of dm_X4_keep_c0 5 (q := (8, .aload_n 1, 1)) rfl
theorem dX4_keep_9 : decode cX4_keep 9 = .ok (.iload_n 2, 1) := d_of dm_X4_keep_c0 6 (q := (9, .iload_n 2, 1)) rfl
theorem dX4_keep_10 : decode cX4_keep 10 = .ok (.aload_n 0, 1) := d_of dm_X4_keep_c0 7 (q := (10, .aload_n 0, 1)) rfl
theorem dX4_keep_11 : decode cX4_keep 11 = .ok (.getfield 7, 3) := d_of dm_X4_keep_c0 8 (q := (11, .getfield 7, 3)) rfl
theorem dX4_keep_14 : decode cX4_keep 14 = .ok (.iload_n 2, 1) := d_of dm_X4_keep_c0 9 (q := (14, .iload_n 2, 1)) rfl
theorem dX4_keep_15 : decode cX4_keep 15 = .ok (.iaload, 1) := d_of dm_X4_keep_c0 10 (q := (15, .iaload, 1)) rfl
theorem dX4_keep_16 : decode cX4_keep 16 = .ok (.iastore, 1) := d_of dm_X4_keep_c0 11 (q := (16, .iastore, 1)) rfl
theorem dX4_keep_17 : decode cX4_keep 17 = .ok (.aload_n 1, 1) := d_of dm_X4_keep_c0 12 (q := (17, .aload_n 1, 1)) rfl
theorem dX4_keep_18 : decode cX4_keep 18 = .ok (.bipush 10, 2) := d_of dm_X4_keep_c0 13 (q := (18, .bipush 10, 2)) rfl
theorem dX4_keep_20 : decode cX4_keep 20 = .ok (.iload_n 2, 1) := d_of dm_X4_keep_c0 14 (q := (20, .iload_n 2, 1)) rfl
theorem dX4_keep_21 : decode cX4_keep 21 = .ok (.iadd, 1) := d_of dm_X4_keep_c0 15 (q := (21, .iadd, 1)) rfl
theorem dX4_keep_22 : decode cX4_keep 22 = .ok (.aload_n 0, 1) := d_of dm_X4_keep_c0 16 (q := (22, .aload_n 0, 1)) rfl
theorem dX4_keep_23 : decode cX4_keep 23 = .ok (.getfield 13, 3) := d_of dm_X4_keep_c0 17 (q := (23, .getfield 13, 3)) rfl
theorem dX4_keep_26 : decode cX4_keep 26 = .ok (.iload_n 2, 1) := d_of dm_X4_keep_c0 18 (q := (26, .iload_n 2, 1)) rfl
theorem dX4_keep_27 : decode cX4_keep 27 = .ok (.iaload, 1) := d_of dm_X4_keep_c0 19 (q := (27, .iaload, 1)) rfl
theorem dX4_keep_28 : decode cX4_keep 28 = .ok (.iastore, 1) := d_of dm_X4_keep_c0 20 (q := (28, .iastore, 1)) rfl
theorem dX4_keep_29 : decode cX4_keep 29 = .ok (.iinc 2 1, 3) := d_of dm_X4_keep_c0 21 (q := (29, .iinc 2 1, 3)) rfl
theorem dX4_keep_32 : decode cX4_keep 32 = .ok (.goto (-30), 3) := d_of dm_X4_keep_c0 22 (q := (32, .goto (-30), 3)) rfl
theorem dX4_keep_35 : decode cX4_keep 35 = .ok (.iconst 0, 1) := d_of dm_X4_keep_c0 23 (q := (35, .iconst 0, 1)) rfl
theorem dX4_keep_36 : decode cX4_keep 36 = .ok (.istore_n 2, 1) := d_of dm_X4_keep_c0 24 (q := (36, .istore_n 2, 1)) rfl
def dl_X4_keep_c25 : List (Nat × Instr × Nat) := [(37, .iload_n 2, 1), (38, .bipush 8, 2), (40, .if_icmp .ge 57, 3), (43, .aload_n 1, 1), (44, .bipush 20, 2), (46, .iload_n 2, 1), (47, .iadd, 1), (48, .aload_n 0, 1), (49, .getfield 16, 3), (52, .iload_n 2, 1), (53, .iaload, 1), (54, .iastore, 1), (55, .aload_n 1, 1), (56, .bipush 28, 2), (58, .iload_n 2, 1), (59, .iadd, 1), (60, .aload_n 0, 1), (61, .getfield 19, 3), (64, .iload_n 2, 1), (65, .iaload, 1), (66, .iastore, 1), (67, .aload_n 1, 1), (68, .bipush 36, 2), (70, .iload_n 2, 1), (71, .iadd, 1)]
set_option maxRecDepth 100000 in
theorem dm_X4_keep_c25 : dl_X4_keep_c25.all (fun q => decide (decode cX4_keep q.1 = .ok q.2)) = true := by decide +kernel
theorem dX4_keep_37 : decode cX4_keep 37 = .ok (.iload_n 2, 1) := d_of dm_X4_keep_c25 0 (q := (37, .iload_n 2, 1)) rfl
theorem dX4_keep_38 : decode cX4_keep 38 = .ok (.bipush 8, 2) := d_of dm_X4_keep_c25 1 (q := (38, .bipush 8, 2)) rfl
theorem dX4_keep_40 : decode cX4_keep 40 = .ok (.if_icmp .ge 57, 3) := d_of dm_X4_keep_c25 2 (q := (40, .if_icmp .ge 57, 3)) rfl
theorem dX4_keep_43 : decode cX4_keep 43 = .ok (.aload_n 1, 1) := d_of dm_X4_keep_c25 3 (q := (43, .aload_n 1, 1)) rfl
theorem dX4_keep_44 : decode cX4_keep 44 = .ok (.bipush 20, 2) := d_of dm_X4_keep_c25 4 (q := (44, .bipush 20, 2)) rfl
theorem dX4_keep_46 : decode cX4_keep 46 = .ok (.iload_n 2, 1) := d_of dm_X4_keep_c25 5 (q := (46, .iload_n 2, 1)) rfl
theorem dX4_keep_47 : decode cX4_keep 47 = .ok (.iadd, 1) := d_of dm_X4_keep_c25 6 (q := (47, .iadd, 1)) rfl
theorem dX4_keep_48 : decode cX4_keep 48 = .ok (.aload_n 0, 1) := d_of dm_X4_keep_c25 7 (q := (48, .aload_n 0, 1)) rfl
theorem dX4_keep_49 : decode cX4_keep 49 = .ok (.getfield 16, 3) := d_of dm_X4_keep_c25 8 (q := (49, .getfield 16, 3)) rfl
theorem dX4_keep_52 : decode cX4_keep 52 = .ok (.iload_n 2, 1) := d_of dm_X4_keep_c25 9 (q := (52, .iload_n 2, 1)) rfl
theorem dX4_keep_53 : decode cX4_keep 53 = .ok (.iaload, 1) := d_of dm_X4_keep_c25 10 (q := (53, .iaload, 1)) rfl
theorem dX4_keep_54 : decode cX4_keep 54 = .ok (.iastore, 1) := d_of dm_X4_keep_c25 11 (q := (54, .iastore, 1)) rfl
theorem dX4_keep_55 : decode cX4_keep 55 = .ok (.aload_n 1, 1) := d_of dm_X4_keep_c25 12 (q := (55, .aload_n 1, 1)) rfl
theorem dX4_keep_56 : decode cX4_keep 56 = .ok (.bipush 28, 2) := d_of dm_X4_keep_c25 13 (q := (56, .bipush 28, 2)) rfl
theorem dX4_keep_58 : decode cX4_keep 58 = .ok (.iload_n 2, 1) := d_of dm_X4_keep_c25 14 (q := (58, .iload_n 2, 1)) rfl
theorem dX4_keep_59 : decode cX4_keep 59 = .ok (.iadd, 1) := d_of dm_X4_keep_c25 15 (q := (59, .iadd, 1)) rfl
theorem dX4_keep_60 : decode cX4_keep 60 = .ok (.aload_n 0, 1) := d_of dm_X4_keep_c25 16 (q := (60, .aload_n 0, 1)) rfl
theorem dX4_keep_61 : decode cX4_keep 61 = .ok (.getfield 19, 3) := d_of dm_X4_keep_c25 17 (q := (61, .getfield 19, 3)) rfl
theorem dX4_keep_64 : decode cX4_keep 64 = .ok (.iload_n 2, 1) := d_of dm_X4_keep_c25 18 (q := (64, .iload_n 2, 1)) rfl
theorem dX4_keep_65 : decode cX4_keep 65 = .ok (.iaload, 1) := d_of dm_X4_keep_c25 19 (q := (65, .iaload, 1)) rfl
theorem dX4_keep_66 : decode cX4_keep 66 = .ok (.iastore, 1) := d_of dm_X4_keep_c25 20 (q := (66, .iastore, 1)) rfl
theorem dX4_keep_67 : decode cX4_keep 67 = .ok (.aload_n 1, 1) := d_of dm_X4_keep_c25 21 (q := (67, .aload_n 1, 1)) rfl
theorem dX4_keep_68 : decode cX4_keep 68 = .ok (.bipush 36, 2) := d_of dm_X4_keep_c25 22 (q := (68, .bipush 36, 2)) rfl
theorem dX4_keep_70 : decode cX4_keep 70 = .ok (.iload_n 2, 1) := d_of dm_X4_keep_c25 23 (q := (70, .iload_n 2, 1)) rfl
theorem dX4_keep_71 : decode cX4_keep 71 = .ok (.iadd, 1) := d_of dm_X4_keep_c25 24 (q := (71, .iadd, 1)) rfl
def dl_X4_keep_c50 : List (Nat × Instr × Nat) := [(72, .aload_n 0, 1), (73, .getfield 22, 3), (76, .iload_n 2, 1), (77, .iaload, 1), (78, .iastore, 1), (79, .aload_n 1, 1), (80, .bipush 44, 2), (82, .iload_n 2, 1), (83, .iadd, 1), (84, .aload_n 0, 1), (85, .getfield 25, 3), (88, .iload_n 2, 1), (89, .iaload, 1), (90, .iastore, 1), (91, .iinc 2 1, 3), (94, .goto (-57), 3), (97, .aload_n 1, 1), (98, .bipush 52, 2), (100, .aload_n 0, 1), (101, .getfield 60, 3), (104, .iastore, 1), (105, .aload_n 1, 1), (106, .bipush 53, 2), (108, .aload_n 0, 1), (109, .getfield 92, 3)]
set_option maxRecDepth 100000 in
theorem dm_X4_keep_c50 : dl_X4_keep_c50.all (fun q => decide (decode cX4_keep q.1 = .ok q.2)) = true := by decide +kernel
theorem dX4_keep_72 : decode cX4_keep 72 = .ok (.aload_n 0, 1) := d_of dm_X4_keep_c50 0 (q := (72, .aload_n 0, 1)) rfl
theorem dX4_keep_73 : decode cX4_keep 73 = .ok (.getfield 22, 3) := d_of dm_X4_keep_c50 1 (q := (73, .getfield 22, 3)) rfl
theorem dX4_keep_76 : decode cX4_keep 76 = .ok (.iload_n 2, 1) := d_of dm_X4_keep_c50 2 (q := (76, .iload_n 2, 1)) rfl
theorem dX4_keep_77 : decode cX4_keep 77 = .ok (.iaload, 1) := d_of dm_X4_keep_c50 3 (q := (77, .iaload, 1)) rfl
theorem dX4_keep_78 : decode cX4_keep 78 = .ok (.iastore, 1) := d_of dm_X4_keep_c50 4 (q := (78, .iastore, 1)) rfl
theorem dX4_keep_79 : decode cX4_keep 79 = .ok (.aload_n 1, 1) := d_of dm_X4_keep_c50 5 (q := (79, .aload_n 1, 1)) rfl
theorem dX4_keep_80 : decode cX4_keep 80 = .ok (.bipush 44, 2) := d_of dm_X4_keep_c50 6 (q := (80, .bipush 44, 2)) rfl
theorem dX4_keep_82 : decode cX4_keep 82 = .ok (.iload_n 2, 1) := d_of dm_X4_keep_c50 7 (q := (82, .iload_n 2, 1)) rfl
theorem dX4_keep_83 : decode cX4_keep 83 = .ok (.iadd, 1) := d_of dm_X4_keep_c50 8 (q := (83, .iadd, 1)) rfl
theorem dX4_keep_84 : decode cX4_keep 84 = .ok (.aload_n 0, 1) := d_of dm_X4_keep_c50 9 (q := (84, .aload_n 0, 1)) rfl
theorem dX4_keep_85 : decode cX4_keep 85 = .ok (.getfield 25, 3) := d_of dm_X4_keep_c50 10 (q := (85, .getfield 25, 3)) rfl
theorem dX4_keep_88 : decode cX4_keep 88 = .ok (.iload_n 2, 1) := d_of dm_X4_keep_c50 11 (q := (88, .iload_n 2, 1)) rfl
theorem dX4_keep_89 : decode cX4_keep 89 = .ok (.iaload, 1) := d_of dm_X4_keep_c50 12 (q := (89, .iaload, 1)) rfl
theorem dX4_keep_90 : decode cX4_keep 90 = .ok (.iastore, 1) := d_of dm_X4_keep_c50 13 (q := (90, .iastore, 1)) rfl
theorem dX4_keep_91 : decode cX4_keep 91 = .ok (.iinc 2 1, 3) := d_of dm_X4_keep_c50 14 (q := (91, .iinc 2 1, 3)) rfl
theorem dX4_keep_94 : decode cX4_keep 94 = .ok (.goto (-57), 3) := d_of dm_X4_keep_c50 15 (q := (94, .goto (-57), 3)) rfl
theorem dX4_keep_97 : decode cX4_keep 97 = .ok (.aload_n 1, 1) := d_of dm_X4_keep_c50 16 (q := (97, .aload_n 1, 1)) rfl
theorem dX4_keep_98 : decode cX4_keep 98 = .ok (.bipush 52, 2) := d_of dm_X4_keep_c50 17 (q := (98, .bipush 52, 2)) rfl
theorem dX4_keep_100 : decode cX4_keep 100 = .ok (.aload_n 0, 1) := d_of dm_X4_keep_c50 18 (q := (100, .aload_n 0, 1)) rfl
theorem dX4_keep_101 : decode cX4_keep 101 = .ok (.getfield 60, 3) := d_of dm_X4_keep_c50 19 (q := (101, .getfield 60, 3)) rfl
theorem dX4_keep_104 : decode cX4_keep 104 = .ok (.iastore, 1) := d_of dm_X4_keep_c50 20 (q := (104, .iastore, 1)) rfl
theorem dX4_keep_105 : decode cX4_keep 105 = .ok (.aload_n 1, 1) := d_of dm_X4_keep_c50 21 (q := (105, .aload_n 1, 1)) rfl
theorem dX4_keep_106 : decode cX4_keep 106 = .ok (.bipush 53, 2) := d_of dm_X4_keep_c50 22 (q := (106, .bipush 53, 2)) rfl
theorem dX4_keep_108 : decode cX4_keep 108 = .ok (.aload_n 0, 1) := d_of dm_X4_keep_c50 23 (q := (108, .aload_n 0, 1)) rfl
theorem dX4_keep_109 : decode cX4_keep 109 = .ok (.getfield 92, 3) := d_of dm_X4_keep_c50 24 (q := (109, .getfield 92, 3)) rfl
def dl_X4_keep_c75 : List (Nat × Instr × Nat) := [(112, .iastore, 1), (113, .aload_n 1, 1), (114, .bipush 54, 2), (116, .aload_n 0, 1), (117, .getfield 52, 3), (120, .iastore, 1), (121, .aload_n 1, 1), (122, .bipush 55, 2), (124, .aload_n 0, 1), (125, .getfield 95, 3), (128, .iastore, 1), (129, .aload_n 1, 1), (130, .bipush 56, 2), (132, .aload_n 0, 1), (133, .getfield 162, 3), (136, .iastore, 1), (137, .return_, 1)]
set_option maxRecDepth 100000 in
theorem dm_X4_keep_c75 : dl_X4_keep_c75.all (fun q => decide (decode cX4_keep q.1 = .ok q.2)) = true := by decide +kernel
theorem dX4_keep_112 : decode cX4_keep 112 = .ok (.iastore, 1) := d_of dm_X4_keep_c75 0 (q := (112, .iastore, 1)) rfl
theorem dX4_keep_113 : decode cX4_keep 113 = .ok (.aload_n 1, 1) := d_of dm_X4_keep_c75 1 (q := (113, .aload_n 1, 1)) rfl
theorem dX4_keep_114 : decode cX4_keep 114 = .ok (.bipush 54, 2) := d_of dm_X4_keep_c75 2 (q := (114, .bipush 54, 2)) rfl
theorem dX4_keep_116 : decode cX4_keep 116 = .ok (.aload_n 0, 1) := d_of dm_X4_keep_c75 3 (q := (116, .aload_n 0, 1)) rfl
theorem dX4_keep_117 : decode cX4_keep 117 = .ok (.getfield 52, 3) := d_of dm_X4_keep_c75 4 (q := (117, .getfield 52, 3)) rfl
theorem dX4_keep_120 : decode cX4_keep 120 = .ok (.iastore, 1) := d_of dm_X4_keep_c75 5 (q := (120, .iastore, 1)) rfl
theorem dX4_keep_121 : decode cX4_keep 121 = .ok (.aload_n 1, 1) := d_of dm_X4_keep_c75 6 (q := (121, .aload_n 1, 1)) rfl
theorem dX4_keep_122 : decode cX4_keep 122 = .ok (.bipush 55, 2) := d_of dm_X4_keep_c75 7 (q := (122, .bipush 55, 2)) rfl
theorem dX4_keep_124 : decode cX4_keep 124 = .ok (.aload_n 0, 1) := d_of dm_X4_keep_c75 8 (q := (124, .aload_n 0, 1)) rfl
theorem dX4_keep_125 : decode cX4_keep 125 = .ok (.getfield 95, 3) := d_of dm_X4_keep_c75 9 (q := (125, .getfield 95, 3)) rfl
theorem dX4_keep_128 : decode cX4_keep 128 = .ok (.iastore, 1) := d_of dm_X4_keep_c75 10 (q := (128, .iastore, 1)) rfl
theorem dX4_keep_129 : decode cX4_keep 129 = .ok (.aload_n 1, 1) := d_of dm_X4_keep_c75 11 (q := (129, .aload_n 1, 1)) rfl
theorem dX4_keep_130 : decode cX4_keep 130 = .ok (.bipush 56, 2) := d_of dm_X4_keep_c75 12 (q := (130, .bipush 56, 2)) rfl
theorem dX4_keep_132 : decode cX4_keep 132 = .ok (.aload_n 0, 1) := d_of dm_X4_keep_c75 13 (q := (132, .aload_n 0, 1)) rfl
theorem dX4_keep_133 : decode cX4_keep 133 = .ok (.getfield 162, 3) := d_of dm_X4_keep_c75 14 (q := (133, .getfield 162, 3)) rfl
theorem dX4_keep_136 : decode cX4_keep 136 = .ok (.iastore, 1) := d_of dm_X4_keep_c75 15 (q := (136, .iastore, 1)) rfl
theorem dX4_keep_137 : decode cX4_keep 137 = .ok (.return_, 1) := d_of dm_X4_keep_c75 16 (q := (137, .return_, 1)) rfl
def dl_X4_again_c0 : List (Nat × Instr × Nat) := [(0, .iconst 0, 1), (1, .istore_n 2, 1), (2, .iload_n 2, 1), (3, .bipush 10, 2), (5, .if_icmp .ge 30, 3), (8, .aload_n 0, 1), (9, .getfield 7, 3), (12, .iload_n 2, 1), (13, .aload_n 1, 1), (14, .iload_n 2, 1), (15, .iaload, 1), (16, .iastore, 1), (17, .aload_n 0, 1), (18, .getfield 13, 3), (21, .iload_n 2, 1), (22, .aload_n 1, 1), (23, .bipush 10, 2), (25, .iload_n 2, 1), (26, .iadd, 1), (27, .iaload, 1), (28, .iastore, 1), (29, .iinc 2 1, 3), (32, .goto (-30), 3), (35, .iconst 0, 1), (36, .istore_n 2, 1)]
set_option maxRecDepth 100000 in
theorem dm_X4_again_c0 : dl_X4_again_c0.all (fun q => decide (decode cX4_again q.1 = .ok q.2)) = true := by decide +kernel
theorem dX4_again_0 : decode cX4_again 0 = .ok (.iconst 0, 1) := d_of dm_X4_again_c0 0 (q := (0, .iconst 0, 1)) rfl
theorem dX4_again_1 : decode cX4_again 1 = .ok (.istore_n 2, 1) := d_of dm_X4_again_c0 1 (q := (1, .istore_n 2, 1)) rfl
theorem dX4_again_2 : decode cX4_again 2 = .ok (.iload_n 2, 1) := d_of dm_X4_again_c0 2 (q := (2, .iload_n 2, 1)) rfl
theorem dX4_again_3 : decode cX4_again 3 = .ok (.bipush 10, 2) := d_of dm_X4_again_c0 3 (q := (3, .bipush 10, 2)) rfl
theorem dX4_again_5 : decode cX4_again 5 = .ok (.if_icmp .ge 30, 3) := d_of dm_X4_again_c0 4 (q := (5, .if_icmp .ge 30, 3)) rfl
theorem dX4_again_8 : decode cX4_again 8 = .ok (.aload_n 0, 1) := d_of dm_X4_again_c0 5 (q := (8, .aload_n 0, 1)) rfl
theorem dX4_again_9 : decode cX4_again 9 = .ok (.getfield 7, 3) := d_of dm_X4_again_c0 6 (q := (9, .getfield 7, 3)) rfl
theorem dX4_again_12 : decode cX4_again 12 = .ok (.iload_n 2, 1) := d_of dm_X4_again_c0 7 (q := (12, .iload_n 2, 1)) rfl
theorem dX4_again_13 : decode cX4_again 13 = .ok (.aload_n 1, 1) := d_of dm_X4_again_c0 8 (q := (13, .aload_n 1, 1)) rfl
theorem dX4_again_14 : decode cX4_again 14 = .ok (.iload_n 2, 1) := d_of dm_X4_again_c0 9 (q := (14, .iload_n 2, 1)) rfl
theorem dX4_again_15 : decode cX4_again 15 = .ok (.iaload, 1) := d_of dm_X4_again_c0 10 (q := (15, .iaload, 1)) rfl
theorem dX4_again_16 : decode cX4_again 16 = .ok (.iastore, 1) := d_of dm_X4_again_c0 11 (q := (16, .iastore, 1)) rfl
theorem dX4_again_17 : decode cX4_again 17 = .ok (.aload_n 0, 1) := d_of dm_X4_again_c0 12 (q := (17, .aload_n 0, 1)) rfl
theorem dX4_again_18 : decode cX4_again 18 = .ok (.getfield 13, 3) := d_of dm_X4_again_c0 13 (q := (18, .getfield 13, 3)) rfl
theorem dX4_again_21 : decode cX4_again 21 = .ok (.iload_n 2, 1) := d_of dm_X4_again_c0 14 (q := (21, .iload_n 2, 1)) rfl
theorem dX4_again_22 : decode cX4_again 22 = .ok (.aload_n 1, 1) := d_of dm_X4_again_c0 15 (q := (22, .aload_n 1, 1)) rfl
theorem dX4_again_23 : decode cX4_again 23 = .ok (.bipush 10, 2) := d_of dm_X4_again_c0 16 (q := (23, .bipush 10, 2)) rfl
theorem dX4_again_25 : decode cX4_again 25 = .ok (.iload_n 2, 1) := d_of dm_X4_again_c0 17 (q := (25, .iload_n 2, 1)) rfl
theorem dX4_again_26 : decode cX4_again 26 = .ok (.iadd, 1) := d_of dm_X4_again_c0 18 (q := (26, .iadd, 1)) rfl
theorem dX4_again_27 : decode cX4_again 27 = .ok (.iaload, 1) := d_of dm_X4_again_c0 19 (q := (27, .iaload, 1)) rfl
theorem dX4_again_28 : decode cX4_again 28 = .ok (.iastore, 1) := d_of dm_X4_again_c0 20 (q := (28, .iastore, 1)) rfl
theorem dX4_again_29 : decode cX4_again 29 = .ok (.iinc 2 1, 3) := d_of dm_X4_again_c0 21 (q := (29, .iinc 2 1, 3)) rfl
theorem dX4_again_32 : decode cX4_again 32 = .ok (.goto (-30), 3) := d_of dm_X4_again_c0 22 (q := (32, .goto (-30), 3)) rfl
theorem dX4_again_35 : decode cX4_again 35 = .ok (.iconst 0, 1) := d_of dm_X4_again_c0 23 (q := (35, .iconst 0, 1)) rfl
theorem dX4_again_36 : decode cX4_again 36 = .ok (.istore_n 2, 1) := d_of dm_X4_again_c0 24 (q := (36, .istore_n 2, 1)) rfl
def dl_X4_again_c25 : List (Nat × Instr × Nat) := [(37, .iload_n 2, 1), (38, .bipush 8, 2), (40, .if_icmp .ge 57, 3), (43, .aload_n 0, 1), (44, .getfield 16, 3), (47, .iload_n 2, 1), (48, .aload_n 1, 1), (49, .bipush 20, 2), (51, .iload_n 2, 1), (52, .iadd, 1), (53, .iaload, 1), (54, .iastore, 1), (55, .aload_n 0, 1), (56, .getfield 19, 3), (59, .iload_n 2, 1), (60, .aload_n 1, 1), (61, .bipush 28, 2), (63, .iload_n 2, 1), (64, .iadd, 1), (65, .iaload, 1), (66, .iastore, 1), (67, .aload_n 0, 1), (68, .getfield 22, 3), (71, .iload_n 2, 1), (72, .aload_n 1, 1)]
set_option maxRecDepth 100000 in
theorem dm_X4_again_c25 : dl_X4_again_c25.all (fun q => decide (decode cX4_again q.1 = .ok q.2)) = true := by decide +kernel
theorem dX4_again_37 : decode cX4_again 37 = .ok (.iload_n 2, 1) := d_of dm_X4_again_c25 0 (q := (37, .iload_n 2, 1)) rfl
theorem dX4_again_38 : decode cX4_again 38 = .ok (.bipush 8, 2) := d_of dm_X4_again_c25 1 (q := (38, .bipush 8, 2)) rfl
theorem dX4_again_40 : decode cX4_again 40 = .ok (.if_icmp .ge 57, 3) := d_of dm_X4_again_c25 2 (q := (40, .if_icmp .ge 57, 3)) rfl
theorem dX4_again_43 : decode cX4_again 43 = .ok (.aload_n 0, 1) := d_of dm_X4_again_c25 3 (q := (43, .aload_n 0, 1)) rfl
theorem dX4_again_44 : decode cX4_again 44 = .ok (.getfield 16, 3) := d_of dm_X4_again_c25 4 (q := (44, .getfield 16, 3)) rfl
theorem dX4_again_47 : decode cX4_again 47 = .ok (.iload_n 2, 1) := d_of dm_X4_again_c25 5 (q := (47, .iload_n 2, 1)) rfl
theorem dX4_again_48 : decode cX4_again 48 = .ok (.aload_n 1, 1) := d_of dm_X4_again_c25 6 (q := (48, .aload_n 1, 1)) rfl
theorem dX4_again_49 : decode cX4_again 49 = .ok (.bipush 20, 2) := d_of dm_X4_again_c25 7 (q := (49, .bipush 20, 2)) rfl
theorem dX4_again_51 : decode cX4_again 51 = .ok (.iload_n 2, 1) := d_of dm_X4_again_c25 8 (q := (51, .iload_n 2, 1)) rfl
theorem dX4_again_52 : decode cX4_again 52 = .ok (.iadd, 1) := d_of dm_X4_again_c25 9 (q := (52, .iadd, 1)) rfl
theorem dX4_again_53 : decode cX4_again 53 = .ok (.iaload, 1) := d_of dm_X4_again_c25 10 (q := (53, .iaload, 1)) rfl
theorem dX4_again_54 : decode cX4_again 54 = .ok (.iastore, 1) := d_of dm_X4_again_c25 11 (q := (54, .iastore, 1)) rfl
theorem dX4_again_55 : decode cX4_again 55 = .ok (.aload_n 0, 1) := d_of dm_X4_again_c25 12 (q := (55, .aload_n 0, 1)) rfl
theorem dX4_again_56 : decode cX4_again 56 = .ok (.getfield 19, 3) := d_of dm_X4_again_c25 13 (q := (56, .getfield 19, 3)) rfl
theorem dX4_again_59 : decode cX4_again 59 = .ok (.iload_n 2, 1) := d_of dm_X4_again_c25 14 (q := (59, .iload_n 2, 1)) rfl
theorem dX4_again_60 : decode cX4_again 60 = .ok (.aload_n 1, 1) := d_of dm_X4_again_c25 15 (q := (60, .aload_n 1, 1)) rfl
theorem dX4_again_61 : decode cX4_again 61 = .ok (.bipush 28, 2) := d_of dm_X4_again_c25 16 (q := (61, .bipush 28, 2)) rfl
theorem dX4_again_63 : decode cX4_again 63 = .ok (.iload_n 2, 1) := d_of dm_X4_again_c25 17 (q := (63, .iload_n 2, 1)) rfl
theorem dX4_again_64 : decode cX4_again 64 = .ok (.iadd, 1) := d_of dm_X4_again_c25 18 (q := (64, .iadd, 1)) rfl
theorem dX4_again_65 : decode cX4_again 65 = .ok (.iaload, 1) := d_of dm_X4_again_c25 19 (q := (65, .iaload, 1)) rfl
theorem dX4_again_66 : decode cX4_again 66 = .ok (.iastore, 1) := d_of dm_X4_again_c25 20 (q := (66, .iastore, 1)) rfl
theorem dX4_again_67 : decode cX4_again 67 = .ok (.aload_n 0, 1) := d_of dm_X4_again_c25 21 (q := (67, .aload_n 0, 1)) rfl
theorem dX4_again_68 : decode cX4_again 68 = .ok (.getfield 22, 3) := d_of dm_X4_again_c25 22 (q := (68, .getfield 22, 3)) rfl
theorem dX4_again_71 : decode cX4_again 71 = .ok (.iload_n 2, 1) := d_of dm_X4_again_c25 23 (q := (71, .iload_n 2, 1)) rfl
theorem dX4_again_72 : decode cX4_again 72 = .ok (.aload_n 1, 1) := d_of dm_X4_again_c25 24 (q := (72, .aload_n 1, 1)) rfl
def dl_X4_again_c50 : List (Nat × Instr × Nat) := [(73, .bipush 36, 2), (75, .iload_n 2, 1), (76, .iadd, 1), (77, .iaload, 1), (78, .iastore, 1), (79, .aload_n 0, 1), (80, .getfield 25, 3), (83, .iload_n 2, 1), (84, .aload_n 1, 1), (85, .bipush 44, 2), (87, .iload_n 2, 1), (88, .iadd, 1), (89, .iaload, 1), (90, .iastore, 1), (91, .iinc 2 1, 3), (94, .goto (-57), 3), (97, .aload_n 0, 1), (98, .aload_n 1, 1), (99, .bipush 52, 2), (101, .iaload, 1), (102, .putfield 60, 3), (105, .aload_n 0, 1), (106, .aload_n 1, 1), (107, .bipush 53, 2), (109, .iaload, 1)]
set_option maxRecDepth 100000 in
theorem dm_X4_again_c50 : dl_X4_again_c50.all (fun q => decide (decode cX4_again q.1 = .ok q.2)) = true := by decide +kernel
theorem dX4_again_73 : decode cX4_again 73 = .ok (.bipush 36, 2) := d_of dm_X4_again_c50 0 (q := (73, .bipush 36, 2)) rfl
theorem dX4_again_75 : decode cX4_again 75 = .ok (.iload_n 2, 1) := d_of dm_X4_again_c50 1 (q := (75, .iload_n 2, 1)) rfl
theorem dX4_again_76 : decode cX4_again 76 = .ok (.iadd, 1) := d_of dm_X4_again_c50 2 (q := (76, .iadd, 1)) rfl
theorem dX4_again_77 : decode cX4_again 77 = .ok (.iaload, 1) := d_of dm_X4_again_c50 3 (q := (77, .iaload, 1)) rfl
theorem dX4_again_78 : decode cX4_again 78 = .ok (.iastore, 1) := d_of dm_X4_again_c50 4 (q := (78, .iastore, 1)) rfl
theorem dX4_again_79 : decode cX4_again 79 = .ok (.aload_n 0, 1) := d_of dm_X4_again_c50 5 (q := (79, .aload_n 0, 1)) rfl
theorem dX4_again_80 : decode cX4_again 80 = .ok (.getfield 25, 3) := d_of dm_X4_again_c50 6 (q := (80, .getfield 25, 3)) rfl
theorem dX4_again_83 : decode cX4_again 83 = .ok (.iload_n 2, 1) := d_of dm_X4_again_c50 7 (q := (83, .iload_n 2, 1)) rfl
theorem dX4_again_84 : decode cX4_again 84 = .ok (.aload_n 1, 1) := d_of dm_X4_again_c50 8 (q := (84, .aload_n 1, 1)) rfl
theorem dX4_again_85 : decode cX4_again 85 = .ok (.bipush 44, 2) := d_of dm_X4_again_c50 9 (q := (85, .bipush 44, 2)) rfl
theorem dX4_again_87 : decode cX4_again 87 = .ok (.iload_n 2, 1) := d_of dm_X4_again_c50 10 (q := (87, .iload_n 2, 1)) rfl
theorem dX4_again_88 : decode cX4_again 88 = .ok (.iadd, 1) := d_of dm_X4_again_c50 11 (q := (88, .iadd, 1)) rfl
theorem dX4_again_89 : decode cX4_again 89 = .ok (.iaload, 1) := d_of dm_X4_again_c50 12 (q := (89, .iaload, 1)) rfl
theorem dX4_again_90 : decode cX4_again 90 = .ok (.iastore, 1) := d_of dm_X4_again_c50 13 (q := (90, .iastore, 1)) rfl
theorem dX4_again_91 : decode cX4_again 91 = .ok (.iinc 2 1, 3) := d_of dm_X4_again_c50 14 (q := (91, .iinc 2 1, 3)) rfl
theorem dX4_again_94 : decode cX4_again 94 = .ok (.goto (-57), 3) := d_of dm_X4_again_c50 15 (q := (94, .goto (-57), 3)) rfl
theorem dX4_again_97 : decode cX4_again 97 = .ok (.aload_n 0, 1) := d_of dm_X4_again_c50 16 (q := (97, .aload_n 0, 1)) rfl
theorem dX4_again_98 : decode cX4_again 98 = .ok (.aload_n 1, 1) := d_of dm_X4_again_c50 17 (q := (98, .aload_n 1, 1)) rfl
theorem dX4_again_99 : decode cX4_again 99 = .ok (.bipush 52, 2) := d_of dm_X4_again_c50 18 (q := (99, .bipush 52, 2)) rfl
theorem dX4_again_101 : decode cX4_again 101 = .ok (.iaload, 1) := d_of dm_X4_again_c50 19 (q := (101, .iaload, 1)) rfl
theorem dX4_again_102 : decode cX4_again 102 = .ok (.putfield 60, 3) := d_of dm_X4_again_c50 20 (q := (102, .putfield 60, 3)) rfl
theorem dX4_again_105 : decode cX4_again 105 = .ok (.aload_n 0, 1) := d_of dm_X4_again_c50 21 (q := (105, .aload_n 0, 1)) rfl
theorem dX4_again_106 : decode cX4_again 106 = .ok (.aload_n 1, 1) := d_of dm_X4_again_c50 22 (q := (106, .aload_n 1, 1)) rfl
theorem dX4_again_107 : decode cX4_again 107 = .ok (.bipush 53, 2) := d_of dm_X4_again_c50 23 (q := (107, .bipush 53, 2)) rfl
theorem dX4_again_109 : decode cX4_again 109 = .ok (.iaload, 1) := d_of dm_X4_again_c50 24 (q := (109, .iaload, 1)) rfl
def dl_X4_again_c75 : List (Nat × Instr × Nat) := [(110, .putfield 92, 3), (113, .aload_n 0, 1), (114, .aload_n 1, 1), (115, .bipush 54, 2), (117, .iaload, 1), (118, .putfield 52, 3), (121, .aload_n 0, 1), (122, .aload_n 1, 1), (123, .bipush 55, 2), (125, .iaload, 1), (126, .putfield 95, 3), (129, .aload_n 0, 1), (130, .aload_n 1, 1), (131, .bipush 56, 2), (133, .iaload, 1), (134, .putfield 162, 3), (137, .return_, 1)]
set_option maxRecDepth 100000 in
theorem dm_X4_again_c75 : dl_X4_again_c75.all (fun q => decide (decode cX4_again q.1 = .ok q.2)) = true := by decide +kernel
theorem dX4_again_110 : decode cX4_again 110 = .ok (.putfield 92, 3) := d_of dm_X4_again_c75 0 (q := (110, .putfield 92, 3)) rfl
theorem dX4_again_113 : decode cX4_again 113 = .ok (.aload_n 0, 1) := d_of dm_X4_again_c75 1 (q := (113, .aload_n 0, 1)) rfl
theorem dX4_again_114 : decode cX4_again 114 = .ok (.aload_n 1, 1) := d_of dm_X4_again_c75 2 (q := (114, .aload_n 1, 1)) rfl
theorem dX4_again_115 : decode cX4_again 115 = .ok (.bipush 54, 2) := d_of dm_X4_again_c75 3 (q := (115, .bipush 54, 2)) rfl
theorem dX4_again_117 : decode cX4_again 117 = .ok (.iaload, 1) := d_of dm_X4_again_c75 4 (q := (117, .iaload, 1)) rfl
theorem dX4_again_118 : decode cX4_again 118 = .ok (.putfield 52, 3) := d_of dm_X4_again_c75 5 (q := (118, .putfield 52, 3)) rfl
theorem dX4_again_121 : decode cX4_again 121 = .ok (.aload_n 0, 1) := d_of dm_X4_again_c75 6 (q := (121, .aload_n 0, 1)) rfl
theorem dX4_again_122 : decode cX4_again 122 = .ok (.aload_n 1, 1) := d_of dm_X4_again_c75 7 (q := (122, .aload_n 1, 1)) rfl
theorem dX4_again_123 : decode cX4_again 123 = .ok (.bipush 55, 2) := d_of dm_X4_again_c75 8 (q := (123, .bipush 55, 2)) rfl
theorem dX4_again_125 : decode cX4_again 125 = .ok (.iaload, 1) := d_of dm_X4_again_c75 9 (q := (125, .iaload, 1)) rfl
theorem dX4_again_126 : decode cX4_again 126 = .ok (.putfield 95, 3) := d_of dm_X4_again_c75 10 (q := (126, .putfield 95, 3)) rfl
theorem dX4_again_129 : decode cX4_again 129 = .ok (.aload_n 0, 1) := d_of dm_X4_again_c75 11 (q := (129, .aload_n 0, 1)) rfl
theorem dX4_again_130 : decode cX4_again 130 = .ok (.aload_n 1, 1) := d_of dm_X4_again_c75 12 (q := (130, .aload_n 1, 1)) rfl
theorem dX4_again_131 : decode cX4_again 131 = .ok (.bipush 56, 2) := d_of dm_X4_again_c75 13 (q := (131, .bipush 56, 2)) rfl
theorem dX4_again_133 : decode cX4_again 133 = .ok (.iaload, 1) := d_of dm_X4_again_c75 14 (q := (133, .iaload, 1)) rfl
theorem dX4_again_134 : decode cX4_again 134 = .ok (.putfield 162, 3) := d_of dm_X4_again_c75 15 (q := (134, .putfield 162, 3)) rfl
theorem dX4_again_137 : decode cX4_again 137 = .ok (.return_, 1) := d_of dm_X4_again_c75 16 (q := (137, .return_, 1)) rfl
def dl_X4_image_c0 : List (Nat × Instr × Nat) := [(0, .aload_n 0, 1), (1, .iconst 1, 1), (2, .putfield 187, 3), (5, .aload_n 0, 1), (6, .aload_n 0, 1), (7, .getfield 40, 3), (10, .invokevirtual 122, 3), (13, .aload_n 0, 1), (14, .getfield 52, 3), (17, .ireturn, 1)]
set_option maxRecDepth 100000 in
theorem dm_X4_image_c0 : dl_X4_image_c0.all (fun q => decide (decode cX4_image q.1 = .ok q.2)) = true := by decide +kernel
theorem dX4_image_0 : decode cX4_image 0 = .ok (.aload_n 0, 1) := d_of dm_X4_image_c0 0 (q := (0, .aload_n 0, 1)) rfl
theorem dX4_image_1 : decode cX4_image 1 = .ok (.iconst 1, 1) := d_of dm_X4_image_c0 1 (q := (1, .iconst 1, 1)) rfl
theorem dX4_image_2 : decode cX4_image 2 = .ok (.putfield 187, 3) := d_of dm_X4_image_c0 2 (q := (2, .putfield 187, 3)) rfl
theorem dX4_image_5 : decode cX4_image 5 = .ok (.aload_n 0, 1) := d_of dm_X4_image_c0 3 (q := (5, .aload_n 0, 1)) rfl
theorem dX4_image_6 : decode cX4_image 6 = .ok (.aload_n 0, 1) := d_of dm_X4_image_c0 4 (q := (6, .aload_n 0, 1)) rfl
theorem dX4_image_7 : decode cX4_image 7 = .ok (.getfield 40, 3) := d_of dm_X4_image_c0 5 (q := (7, .getfield 40, 3)) rfl
theorem dX4_image_10 : decode cX4_image 10 = .ok (.invokevirtual 122, 3) := d_of dm_X4_image_c0 6 (q := (10, .invokevirtual 122, 3)) rfl
theorem dX4_image_13 : decode cX4_image 13 = .ok (.aload_n 0, 1) := d_of dm_X4_image_c0 7 (q := (13, .aload_n 0, 1)) rfl
theorem dX4_image_14 : decode cX4_image 14 = .ok (.getfield 52, 3) := d_of dm_X4_image_c0 8 (q := (14, .getfield 52, 3)) rfl
theorem dX4_image_17 : decode cX4_image 17 = .ok (.ireturn, 1) := d_of dm_X4_image_c0 9 (q := (17, .ireturn, 1)) rfl
def dl_X4_on_c0 : List (Nat × Instr × Nat) := [(0, .aload_n 0, 1), (1, .getfield 187, 3), (4, .ifCond .ne 10, 3), (7, .aload_n 0, 1), (8, .bipush (-3), 2), (10, .invokevirtual 63, 3), (13, .ireturn, 1), (14, .aload_n 0, 1), (15, .aload_n 0, 1), (16, .getfield 40, 3), (19, .invokevirtual 126, 3), (22, .aload_n 0, 1), (23, .getfield 52, 3), (26, .ireturn, 1)]
set_option maxRecDepth 100000 in
theorem dm_X4_on_c0 : dl_X4_on_c0.all (fun q => decide (decode cX4_on q.1 = .ok q.2)) = true := by decide +kernel
theorem dX4_on_0 : decode cX4_on 0 = .ok (.aload_n 0, 1) := d_of dm_X4_on_c0 0 (q := (0, .aload_n 0, 1)) rfl
theorem dX4_on_1 : decode cX4_on 1 = .ok (.getfield 187, 3) := d_of dm_X4_on_c0 1 (q := (1, .getfield 187, 3)) rfl
theorem dX4_on_4 : decode cX4_on 4 = .ok (.ifCond .ne 10, 3) := d_of dm_X4_on_c0 2 (q := (4, .ifCond .ne 10, 3)) rfl
theorem dX4_on_7 : decode cX4_on 7 = .ok (.aload_n 0, 1) := d_of dm_X4_on_c0 3 (q := (7, .aload_n 0, 1)) rfl
theorem dX4_on_8 : decode cX4_on 8 = .ok (.bipush (-3), 2) := d_of dm_X4_on_c0 4 (q := (8, .bipush (-3), 2)) rfl
theorem dX4_on_10 : decode cX4_on 10 = .ok (.invokevirtual 63, 3) := d_of dm_X4_on_c0 5 (q := (10, .invokevirtual 63, 3)) rfl
theorem dX4_on_13 : decode cX4_on 13 = .ok (.ireturn, 1) := d_of dm_X4_on_c0 6 (q := (13, .ireturn, 1)) rfl
theorem dX4_on_14 : decode cX4_on 14 = .ok (.aload_n 0, 1) := d_of dm_X4_on_c0 7 (q := (14, .aload_n 0, 1)) rfl
theorem dX4_on_15 : decode cX4_on 15 = .ok (.aload_n 0, 1) := d_of dm_X4_on_c0 8 (q := (15, .aload_n 0, 1)) rfl
theorem dX4_on_16 : decode cX4_on 16 = .ok (.getfield 40, 3) := d_of dm_X4_on_c0 9 (q := (16, .getfield 40, 3)) rfl
theorem dX4_on_19 : decode cX4_on 19 = .ok (.invokevirtual 126, 3) := d_of dm_X4_on_c0 10 (q := (19, .invokevirtual 126, 3)) rfl
theorem dX4_on_22 : decode cX4_on 22 = .ok (.aload_n 0, 1) := d_of dm_X4_on_c0 11 (q := (22, .aload_n 0, 1)) rfl
theorem dX4_on_23 : decode cX4_on 23 = .ok (.getfield 52, 3) := d_of dm_X4_on_c0 12 (q := (23, .getfield 52, 3)) rfl
theorem dX4_on_26 : decode cX4_on 26 = .ok (.ireturn, 1) := d_of dm_X4_on_c0 13 (q := (26, .ireturn, 1)) rfl
def dl_X4_count_c0 : List (Nat × Instr × Nat) := [(0, .iconst 0, 1), (1, .istore_n 2, 1), (2, .iload_n 1, 1), (3, .tableswitch 115 0 7 #[45, 50, 55, 60, 68, 100, 105, 110], 45), (48, .aload_n 0, 1), (49, .getfield 52, 3), (52, .ireturn, 1), (53, .aload_n 0, 1), (54, .getfield 60, 3), (57, .ireturn, 1), (58, .aload_n 0, 1), (59, .getfield 95, 3), (62, .ireturn, 1), (63, .aload_n 0, 1), (64, .getfield 92, 3), (67, .invokestatic 149, 3), (70, .ireturn, 1), (71, .iconst 0, 1), (72, .istore_n 3, 1), (73, .iload_n 3, 1), (74, .aload_n 0, 1), (75, .getfield 52, 3), (78, .if_icmp .ge 23, 3), (81, .aload_n 0, 1), (82, .getfield 22, 3)]
set_option maxRecDepth 100000 in
theorem dm_X4_count_c0 : dl_X4_count_c0.all (fun q => decide (decode cX4_count q.1 = .ok q.2)) = true := by decide +kernel
theorem dX4_count_0 : decode cX4_count 0 = .ok (.iconst 0, 1) := d_of dm_X4_count_c0 0 (q := (0, .iconst 0, 1)) rfl
theorem dX4_count_1 : decode cX4_count 1 = .ok (.istore_n 2, 1) := d_of dm_X4_count_c0 1 (q := (1, .istore_n 2, 1)) rfl
theorem dX4_count_2 : decode cX4_count 2 = .ok (.iload_n 1, 1) := d_of dm_X4_count_c0 2 (q := (2, .iload_n 1, 1)) rfl
theorem dX4_count_3 : decode cX4_count 3 = .ok (.tableswitch 115 0 7 #[45, 50, 55, 60, 68, 100, 105, 110], 45) := d_of dm_X4_count_c0 3 (q := (3, .tableswitch 115 0 7 #[45, 50, 55, 60, 68, 100, 105, 110], 45)) rfl
theorem dX4_count_48 : decode cX4_count 48 = .ok (.aload_n 0, 1) := d_of dm_X4_count_c0 4 (q := (48, .aload_n 0, 1)) rfl
theorem dX4_count_49 : decode cX4_count 49 = .ok (.getfield 52, 3) := d_of dm_X4_count_c0 5 (q := (49, .getfield 52, 3)) rfl
theorem dX4_count_52 : decode cX4_count 52 = .ok (.ireturn, 1) := d_of dm_X4_count_c0 6 (q := (52, .ireturn, 1)) rfl
theorem dX4_count_53 : decode cX4_count 53 = .ok (.aload_n 0, 1) := d_of dm_X4_count_c0 7 (q := (53, .aload_n 0, 1)) rfl
theorem dX4_count_54 : decode cX4_count 54 = .ok (.getfield 60, 3) := d_of dm_X4_count_c0 8 (q := (54, .getfield 60, 3)) rfl
theorem dX4_count_57 : decode cX4_count 57 = .ok (.ireturn, 1) := d_of dm_X4_count_c0 9 (q := (57, .ireturn, 1)) rfl
theorem dX4_count_58 : decode cX4_count 58 = .ok (.aload_n 0, 1) := d_of dm_X4_count_c0 10 (q := (58, .aload_n 0, 1)) rfl
theorem dX4_count_59 : decode cX4_count 59 = .ok (.getfield 95, 3) := d_of dm_X4_count_c0 11 (q := (59, .getfield 95, 3)) rfl
theorem dX4_count_62 : decode cX4_count 62 = .ok (.ireturn, 1) := d_of dm_X4_count_c0 12 (q := (62, .ireturn, 1)) rfl
theorem dX4_count_63 : decode cX4_count 63 = .ok (.aload_n 0, 1) := d_of dm_X4_count_c0 13 (q := (63, .aload_n 0, 1)) rfl
theorem dX4_count_64 : decode cX4_count 64 = .ok (.getfield 92, 3) := d_of dm_X4_count_c0 14 (q := (64, .getfield 92, 3)) rfl
theorem dX4_count_67 : decode cX4_count 67 = .ok (.invokestatic 149, 3) := d_of dm_X4_count_c0 15 (q := (67, .invokestatic 149, 3)) rfl
theorem dX4_count_70 : decode cX4_count 70 = .ok (.ireturn, 1) := d_of dm_X4_count_c0 16 (q := (70, .ireturn, 1)) rfl
theorem dX4_count_71 : decode cX4_count 71 = .ok (.iconst 0, 1) := d_of dm_X4_count_c0 17 (q := (71, .iconst 0, 1)) rfl
theorem dX4_count_72 : decode cX4_count 72 = .ok (.istore_n 3, 1) := d_of dm_X4_count_c0 18 (q := (72, .istore_n 3, 1)) rfl
theorem dX4_count_73 : decode cX4_count 73 = .ok (.iload_n 3, 1) := d_of dm_X4_count_c0 19 (q := (73, .iload_n 3, 1)) rfl
theorem dX4_count_74 : decode cX4_count 74 = .ok (.aload_n 0, 1) := d_of dm_X4_count_c0 20 (q := (74, .aload_n 0, 1)) rfl
theorem dX4_count_75 : decode cX4_count 75 = .ok (.getfield 52, 3) := d_of dm_X4_count_c0 21 (q := (75, .getfield 52, 3)) rfl
theorem dX4_count_78 : decode cX4_count 78 = .ok (.if_icmp .ge 23, 3) := d_of dm_X4_count_c0 22 (q := (78, .if_icmp .ge 23, 3)) rfl
theorem dX4_count_81 : decode cX4_count 81 = .ok (.aload_n 0, 1) := d_of dm_X4_count_c0 23 (q := (81, .aload_n 0, 1)) rfl
theorem dX4_count_82 : decode cX4_count 82 = .ok (.getfield 22, 3) := d_of dm_X4_count_c0 24 (q := (82, .getfield 22, 3)) rfl
def dl_X4_count_c25 : List (Nat × Instr × Nat) := [(85, .iload_n 3, 1), (86, .iaload, 1), (87, .bipush (-9), 2), (89, .if_icmp .eq 6, 3), (92, .iinc 2 1, 3), (95, .iinc 3 1, 3), (98, .goto (-25), 3), (101, .iload_n 2, 1), (102, .ireturn, 1), (103, .aload_n 0, 1), (104, .getfield 162, 3), (107, .ireturn, 1), (108, .aload_n 0, 1), (109, .getfield 181, 3), (112, .ireturn, 1), (113, .aload_n 0, 1), (114, .getfield 67, 3), (117, .ireturn, 1), (118, .iload_n 1, 1), (119, .bipush 11, 2), (121, .bipush 16, 2), (123, .invokestatic 56, 3), (126, .ifCond .eq 15, 3), (129, .aload_n 0, 1), (130, .getfield 37, 3)]
set_option maxRecDepth 100000 in
theorem dm_X4_count_c25 : dl_X4_count_c25.all (fun q => decide (decode cX4_count q.1 = .ok q.2)) = true := by decide +kernel
theorem dX4_count_85 : decode cX4_count 85 = .ok (.iload_n 3, 1) := d_of dm_X4_count_c25 0 (q := (85, .iload_n 3, 1)) rfl
theorem dX4_count_86 : decode cX4_count 86 = .ok (.iaload, 1) := d_of dm_X4_count_c25 1 (q := (86, .iaload, 1)) rfl
theorem dX4_count_87 : decode cX4_count 87 = .ok (.bipush (-9), 2) := d_of dm_X4_count_c25 2 (q := (87, .bipush (-9), 2)) rfl
theorem dX4_count_89 : decode cX4_count 89 = .ok (.if_icmp .eq 6, 3) := d_of dm_X4_count_c25 3 (q := (89, .if_icmp .eq 6, 3)) rfl
theorem dX4_count_92 : decode cX4_count 92 = .ok (.iinc 2 1, 3) := d_of dm_X4_count_c25 4 (q := (92, .iinc 2 1, 3)) rfl
theorem dX4_count_95 : decode cX4_count 95 = .ok (.iinc 3 1, 3) := d_of dm_X4_count_c25 5 (q := (95, .iinc 3 1, 3)) rfl
theorem dX4_count_98 : decode cX4_count 98 = .ok (.goto (-25), 3) := d_of dm_X4_count_c25 6 (q := (98, .goto (-25), 3)) rfl
theorem dX4_count_101 : decode cX4_count 101 = .ok (.iload_n 2, 1) := d_of dm_X4_count_c25 7 (q := (101, .iload_n 2, 1)) rfl
theorem dX4_count_102 : decode cX4_count 102 = .ok (.ireturn, 1) := d_of dm_X4_count_c25 8 (q := (102, .ireturn, 1)) rfl
theorem dX4_count_103 : decode cX4_count 103 = .ok (.aload_n 0, 1) := d_of dm_X4_count_c25 9 (q := (103, .aload_n 0, 1)) rfl
theorem dX4_count_104 : decode cX4_count 104 = .ok (.getfield 162, 3) := d_of dm_X4_count_c25 10 (q := (104, .getfield 162, 3)) rfl
theorem dX4_count_107 : decode cX4_count 107 = .ok (.ireturn, 1) := d_of dm_X4_count_c25 11 (q := (107, .ireturn, 1)) rfl
theorem dX4_count_108 : decode cX4_count 108 = .ok (.aload_n 0, 1) := d_of dm_X4_count_c25 12 (q := (108, .aload_n 0, 1)) rfl
theorem dX4_count_109 : decode cX4_count 109 = .ok (.getfield 181, 3) := d_of dm_X4_count_c25 13 (q := (109, .getfield 181, 3)) rfl
theorem dX4_count_112 : decode cX4_count 112 = .ok (.ireturn, 1) := d_of dm_X4_count_c25 14 (q := (112, .ireturn, 1)) rfl
theorem dX4_count_113 : decode cX4_count 113 = .ok (.aload_n 0, 1) := d_of dm_X4_count_c25 15 (q := (113, .aload_n 0, 1)) rfl
theorem dX4_count_114 : decode cX4_count 114 = .ok (.getfield 67, 3) := d_of dm_X4_count_c25 16 (q := (114, .getfield 67, 3)) rfl
theorem dX4_count_117 : decode cX4_count 117 = .ok (.ireturn, 1) := d_of dm_X4_count_c25 17 (q := (117, .ireturn, 1)) rfl
theorem dX4_count_118 : decode cX4_count 118 = .ok (.iload_n 1, 1) := d_of dm_X4_count_c25 18 (q := (118, .iload_n 1, 1)) rfl
theorem dX4_count_119 : decode cX4_count 119 = .ok (.bipush 11, 2) := d_of dm_X4_count_c25 19 (q := (119, .bipush 11, 2)) rfl
theorem dX4_count_121 : decode cX4_count 121 = .ok (.bipush 16, 2) := d_of dm_X4_count_c25 20 (q := (121, .bipush 16, 2)) rfl
theorem dX4_count_123 : decode cX4_count 123 = .ok (.invokestatic 56, 3) := d_of dm_X4_count_c25 21 (q := (123, .invokestatic 56, 3)) rfl
theorem dX4_count_126 : decode cX4_count 126 = .ok (.ifCond .eq 15, 3) := d_of dm_X4_count_c25 22 (q := (126, .ifCond .eq 15, 3)) rfl
theorem dX4_count_129 : decode cX4_count 129 = .ok (.aload_n 0, 1) := d_of dm_X4_count_c25 23 (q := (129, .aload_n 0, 1)) rfl
theorem dX4_count_130 : decode cX4_count 130 = .ok (.getfield 37, 3) := d_of dm_X4_count_c25 24 (q := (130, .getfield 37, 3)) rfl
def dl_X4_count_c50 : List (Nat × Instr × Nat) := [(133, .iload_n 1, 1), (134, .bipush 10, 2), (136, .isub, 1), (137, .iaload, 1), (138, .goto 5, 3), (141, .bipush (-9), 2), (143, .ireturn, 1)]
set_option maxRecDepth 100000 in
theorem dm_X4_count_c50 : dl_X4_count_c50.all (fun q => decide (decode cX4_count q.1 = .ok q.2)) = true := by decide +kernel
theorem dX4_count_133 : decode cX4_count 133 = .ok (.iload_n 1, 1) := d_of dm_X4_count_c50 0 (q := (133, .iload_n 1, 1)) rfl
theorem dX4_count_134 : decode cX4_count 134 = .ok (.bipush 10, 2) := d_of dm_X4_count_c50 1 (q := (134, .bipush 10, 2)) rfl
theorem dX4_count_136 : decode cX4_count 136 = .ok (.isub, 1) := d_of dm_X4_count_c50 2 (q := (136, .isub, 1)) rfl
theorem dX4_count_137 : decode cX4_count 137 = .ok (.iaload, 1) := d_of dm_X4_count_c50 3 (q := (137, .iaload, 1)) rfl
theorem dX4_count_138 : decode cX4_count 138 = .ok (.goto 5, 3) := d_of dm_X4_count_c50 4 (q := (138, .goto 5, 3)) rfl
theorem dX4_count_141 : decode cX4_count 141 = .ok (.bipush (-9), 2) := d_of dm_X4_count_c50 5 (q := (141, .bipush (-9), 2)) rfl
theorem dX4_count_143 : decode cX4_count 143 = .ok (.ireturn, 1) := d_of dm_X4_count_c50 6 (q := (143, .ireturn, 1)) rfl
def dl_J11_isValidCodePoint_9a6ad_c0 : List (Nat × Instr × Nat) := [(0, .iload_n 0, 1), (1, .bipush 16, 2), (3, .iushr, 1), (4, .istore_n 1, 1), (5, .iload_n 1, 1), (6, .bipush 17, 2), (8, .if_icmp .ge 7, 3), (11, .iconst 1, 1), (12, .goto 4, 3), (15, .iconst 0, 1), (16, .ireturn, 1)]
set_option maxRecDepth 100000 in
theorem dm_J11_isValidCodePoint_9a6ad_c0 : dl_J11_isValidCodePoint_9a6ad_c0.all (fun q => decide (decode cJ11_isValidCodePoint_9a6ad q.1 = .ok q.2)) = true := by decide +kernel
theorem dJ11_isValidCodePoint_9a6ad_0 : decode cJ11_isValidCodePoint_9a6ad 0 = .ok (.iload_n 0, 1) := d_of dm_J11_isValidCodePoint_9a6ad_c0 0 (q := (0, .iload_n 0, 1)) rfl
theorem dJ11_isValidCodePoint_9a6ad_1 : decode cJ11_isValidCodePoint_9a6ad 1 = .ok (.bipush 16, 2) := d_of dm_J11_isValidCodePoint_9a6ad_c0 1 (q := (1, .bipush 16, 2)) rfl
theorem dJ11_isValidCodePoint_9a6ad_3 : decode cJ11_isValidCodePoint_9a6ad 3 = .ok (.iushr, 1) := d_of dm_J11_isValidCodePoint_9a6ad_c0 2 (q := (3, .iushr, 1)) rfl
theorem dJ11_isValidCodePoint_9a6ad_4 : decode cJ11_isValidCodePoint_9a6ad 4 = .ok (.istore_n 1, 1) := d_of dm_J11_isValidCodePoint_9a6ad_c0 3 (q := (4, .istore_n 1, 1)) rfl
theorem dJ11_isValidCodePoint_9a6ad_5 : decode cJ11_isValidCodePoint_9a6ad 5 = .ok (.iload_n 1, 1) := d_of dm_J11_isValidCodePoint_9a6ad_c0 4 (q := (5, .iload_n 1, 1)) rfl
theorem dJ11_isValidCodePoint_9a6ad_6 : decode cJ11_isValidCodePoint_9a6ad 6 = .ok (.bipush 17, 2) := d_of dm_J11_isValidCodePoint_9a6ad_c0 5 (q := (6, .bipush 17, 2)) rfl
theorem dJ11_isValidCodePoint_9a6ad_8 : decode cJ11_isValidCodePoint_9a6ad 8 = .ok (.if_icmp .ge 7, 3) := d_of dm_J11_isValidCodePoint_9a6ad_c0 6 (q := (8, .if_icmp .ge 7, 3)) rfl
theorem dJ11_isValidCodePoint_9a6ad_11 : decode cJ11_isValidCodePoint_9a6ad 11 = .ok (.iconst 1, 1) := d_of dm_J11_isValidCodePoint_9a6ad_c0 7 (q := (11, .iconst 1, 1)) rfl
theorem dJ11_isValidCodePoint_9a6ad_12 : decode cJ11_isValidCodePoint_9a6ad 12 = .ok (.goto 4, 3) := d_of dm_J11_isValidCodePoint_9a6ad_c0 8 (q := (12, .goto 4, 3)) rfl
theorem dJ11_isValidCodePoint_9a6ad_15 : decode cJ11_isValidCodePoint_9a6ad 15 = .ok (.iconst 0, 1) := d_of dm_J11_isValidCodePoint_9a6ad_c0 9 (q := (15, .iconst 0, 1)) rfl
theorem dJ11_isValidCodePoint_9a6ad_16 : decode cJ11_isValidCodePoint_9a6ad 16 = .ok (.ireturn, 1) := d_of dm_J11_isValidCodePoint_9a6ad_c0 10 (q := (16, .ireturn, 1)) rfl
def dl_J11_highSurrogate_5068e_c0 : List (Nat × Instr × Nat) := [(0, .iload_n 0, 1), (1, .bipush 10, 2), (3, .iushr, 1), (4, .ldc 110, 2), (6, .iadd, 1), (7, .i2c, 1), (8, .ireturn, 1)]
set_option maxRecDepth 100000 in
theorem dm_J11_highSurrogate_5068e_c0 : dl_J11_highSurrogate_5068e_c0.all (fun q => decide (decode cJ11_highSurrogate_5068e q.1 = .ok q.2)) = true := by decide +kernel
theorem dJ11_highSurrogate_5068e_0 : decode cJ11_highSurrogate_5068e 0 = .ok (.iload_n 0, 1) := d_of dm_J11_highSurrogate_5068e_c0 0 (q := (0, .iload_n 0, 1)) rfl
theorem dJ11_highSurrogate_5068e_1 : decode cJ11_highSurrogate_5068e 1 = .ok (.bipush 10, 2) := d_of dm_J11_highSurrogate_5068e_c0 1 (q := (1, .bipush 10, 2)) rfl
theorem dJ11_highSurrogate_5068e_3 : decode cJ11_highSurrogate_5068e 3 = .ok (.iushr, 1) := d_of dm_J11_highSurrogate_5068e_c0 2 (q := (3, .iushr, 1)) rfl
theorem dJ11_highSurrogate_5068e_4 : decode cJ11_highSurrogate_5068e 4 = .ok (.ldc 110, 2) := d_of dm_J11_highSurrogate_5068e_c0 3 (q := (4, .ldc 110, 2)) rfl
theorem dJ11_highSurrogate_5068e_6 : decode cJ11_highSurrogate_5068e 6 = .ok (.iadd, 1) := d_of dm_J11_highSurrogate_5068e_c0 4 (q := (6, .iadd, 1)) rfl
theorem dJ11_highSurrogate_5068e_7 : decode cJ11_highSurrogate_5068e 7 = .ok (.i2c, 1) := d_of dm_J11_highSurrogate_5068e_c0 5 (q := (7, .i2c, 1)) rfl
theorem dJ11_highSurrogate_5068e_8 : decode cJ11_highSurrogate_5068e 8 = .ok (.ireturn, 1) := d_of dm_J11_highSurrogate_5068e_c0 6 (q := (8, .ireturn, 1)) rfl
def dl_J11_lowSurrogate_5068e_c0 : List (Nat × Instr × Nat) := [(0, .iload_n 0, 1), (1, .sipush 1023, 3), (4, .iand, 1), (5, .ldc 76, 2), (7, .iadd, 1), (8, .i2c, 1), (9, .ireturn, 1)]
set_option maxRecDepth 100000 in
theorem dm_J11_lowSurrogate_5068e_c0 : dl_J11_lowSurrogate_5068e_c0.all (fun q => decide (decode cJ11_lowSurrogate_5068e q.1 = .ok q.2)) = true := by decide +kernel
theorem dJ11_lowSurrogate_5068e_0 : decode cJ11_lowSurrogate_5068e 0 = .ok (.iload_n 0, 1) := d_of dm_J11_lowSurrogate_5068e_c0 0 (q := (0, .iload_n 0, 1)) rfl
theorem dJ11_lowSurrogate_5068e_1 : decode cJ11_lowSurrogate_5068e 1 = .ok (.sipush 1023, 3) := d_of dm_J11_lowSurrogate_5068e_c0 1 (q := (1, .sipush 1023, 3)) rfl
theorem dJ11_lowSurrogate_5068e_4 : decode cJ11_lowSurrogate_5068e 4 = .ok (.iand, 1) := d_of dm_J11_lowSurrogate_5068e_c0 2 (q := (4, .iand, 1)) rfl
theorem dJ11_lowSurrogate_5068e_5 : decode cJ11_lowSurrogate_5068e 5 = .ok (.ldc 76, 2) := d_of dm_J11_lowSurrogate_5068e_c0 3 (q := (5, .ldc 76, 2)) rfl
theorem dJ11_lowSurrogate_5068e_7 : decode cJ11_lowSurrogate_5068e 7 = .ok (.iadd, 1) := d_of dm_J11_lowSurrogate_5068e_c0 4 (q := (7, .iadd, 1)) rfl
theorem dJ11_lowSurrogate_5068e_8 : decode cJ11_lowSurrogate_5068e 8 = .ok (.i2c, 1) := d_of dm_J11_lowSurrogate_5068e_c0 5 (q := (8, .i2c, 1)) rfl
theorem dJ11_lowSurrogate_5068e_9 : decode cJ11_lowSurrogate_5068e 9 = .ok (.ireturn, 1) := d_of dm_J11_lowSurrogate_5068e_c0 6 (q := (9, .ireturn, 1)) rfl
def dl_J6_numberOfTrailingZeros_0f7a4_c0 : List (Nat × Instr × Nat) := [(0, .iload_n 0, 1), (1, .iconst (-1), 1), (2, .ixor, 1), (3, .iload_n 0, 1), (4, .iconst 1, 1), (5, .isub, 1), (6, .iand, 1), (7, .istore_n 0, 1), (8, .iload_n 0, 1), (9, .ifCond .gt 8, 3), (12, .iload_n 0, 1), (13, .bipush 32, 2), (15, .iand, 1), (16, .ireturn, 1), (17, .iconst 1, 1), (18, .istore_n 1, 1), (19, .iload_n 0, 1), (20, .ldc_w 264, 3), (23, .if_icmp .le 11, 3), (26, .iinc 1 16, 3), (29, .iload_n 0, 1), (30, .bipush 16, 2), (32, .iushr, 1), (33, .istore_n 0, 1), (34, .iload_n 0, 1)]
set_option maxRecDepth 100000 in
theorem dm_J6_numberOfTrailingZeros_0f7a4_c0 : dl_J6_numberOfTrailingZeros_0f7a4_c0.all (fun q => decide (decode cJ6_numberOfTrailingZeros_0f7a4 q.1 = .ok q.2)) = true := by decide +kernel
theorem dJ6_numberOfTrailingZeros_0f7a4_0 : decode cJ6_numberOfTrailingZeros_0f7a4 0 = .ok (.iload_n 0, 1) := d_of dm_J6_numberOfTrailingZeros_0f7a4_c0 0 (q := (0, .iload_n 0, 1)) rfl
theorem dJ6_numberOfTrailingZeros_0f7a4_1 : decode cJ6_numberOfTrailingZeros_0f7a4 1 = .ok (.iconst (-1), 1) := d_of dm_J6_numberOfTrailingZeros_0f7a4_c0 1 (q := (1, .iconst (-1), 1)) rfl
theorem dJ6_numberOfTrailingZeros_0f7a4_2 : decode cJ6_numberOfTrailingZeros_0f7a4 2 = .ok (.ixor, 1) := d_of dm_J6_numberOfTrailingZeros_0f7a4_c0 2 (q := (2, .ixor, 1)) rfl
theorem dJ6_numberOfTrailingZeros_0f7a4_3 : decode cJ6_numberOfTrailingZeros_0f7a4 3 = .ok (.iload_n 0, 1) := d_of dm_J6_numberOfTrailingZeros_0f7a4_c0 3 (q := (3, .iload_n 0, 1)) rfl
theorem dJ6_numberOfTrailingZeros_0f7a4_4 : decode cJ6_numberOfTrailingZeros_0f7a4 4 = .ok (.iconst 1, 1) := d_of dm_J6_numberOfTrailingZeros_0f7a4_c0 4 (q := (4, .iconst 1, 1)) rfl
theorem dJ6_numberOfTrailingZeros_0f7a4_5 : decode cJ6_numberOfTrailingZeros_0f7a4 5 = .ok (.isub, 1) := d_of dm_J6_numberOfTrailingZeros_0f7a4_c0 5 (q := (5, .isub, 1)) rfl
theorem dJ6_numberOfTrailingZeros_0f7a4_6 : decode cJ6_numberOfTrailingZeros_0f7a4 6 = .ok (.iand, 1) := d_of dm_J6_numberOfTrailingZeros_0f7a4_c0 6 (q := (6, .iand, 1)) rfl
theorem dJ6_numberOfTrailingZeros_0f7a4_7 : decode cJ6_numberOfTrailingZeros_0f7a4 7 = .ok (.istore_n 0, 1) := d_of dm_J6_numberOfTrailingZeros_0f7a4_c0 7 (q := (7, .istore_n 0, 1)) rfl
theorem dJ6_numberOfTrailingZeros_0f7a4_8 : decode cJ6_numberOfTrailingZeros_0f7a4 8 = .ok (.iload_n 0, 1) := d_of dm_J6_numberOfTrailingZeros_0f7a4_c0 8 (q := (8, .iload_n 0, 1)) rfl
theorem dJ6_numberOfTrailingZeros_0f7a4_9 : decode cJ6_numberOfTrailingZeros_0f7a4 9 = .ok (.ifCond .gt 8, 3) := d_of dm_J6_numberOfTrailingZeros_0f7a4_c0 9 (q := (9, .ifCond .gt 8, 3)) rfl
theorem dJ6_numberOfTrailingZeros_0f7a4_12 : decode cJ6_numberOfTrailingZeros_0f7a4 12 = .ok (.iload_n 0, 1) := d_of dm_J6_numberOfTrailingZeros_0f7a4_c0 10 (q := (12, .iload_n 0, 1)) rfl
theorem dJ6_numberOfTrailingZeros_0f7a4_13 : decode cJ6_numberOfTrailingZeros_0f7a4 13 = .ok (.bipush 32, 2) := d_of dm_J6_numberOfTrailingZeros_0f7a4_c0 11 (q := (13, .bipush 32, 2)) rfl
theorem dJ6_numberOfTrailingZeros_0f7a4_15 : decode cJ6_numberOfTrailingZeros_0f7a4 15 = .ok (.iand, 1) := d_of dm_J6_numberOfTrailingZeros_0f7a4_c0 12 (q := (15, .iand, 1)) rfl
theorem dJ6_numberOfTrailingZeros_0f7a4_16 : decode cJ6_numberOfTrailingZeros_0f7a4 16 = .ok (.ireturn, 1) := d_of dm_J6_numberOfTrailingZeros_0f7a4_c0 13 (q := (16, .ireturn, 1)) rfl
theorem dJ6_numberOfTrailingZeros_0f7a4_17 : decode cJ6_numberOfTrailingZeros_0f7a4 17 = .ok (.iconst 1, 1) := d_of dm_J6_numberOfTrailingZeros_0f7a4_c0 14 (q := (17, .iconst 1, 1)) rfl
theorem dJ6_numberOfTrailingZeros_0f7a4_18 : decode cJ6_numberOfTrailingZeros_0f7a4 18 = .ok (.istore_n 1, 1) := d_of dm_J6_numberOfTrailingZeros_0f7a4_c0 15 (q := (18, .istore_n 1, 1)) rfl
theorem dJ6_numberOfTrailingZeros_0f7a4_19 : decode cJ6_numberOfTrailingZeros_0f7a4 19 = .ok (.iload_n 0, 1) := d_of dm_J6_numberOfTrailingZeros_0f7a4_c0 16 (q := (19, .iload_n 0, 1)) rfl
theorem dJ6_numberOfTrailingZeros_0f7a4_20 : decode cJ6_numberOfTrailingZeros_0f7a4 20 = .ok (.ldc_w 264, 3) := d_of dm_J6_numberOfTrailingZeros_0f7a4_c0 17 (q := (20, .ldc_w 264, 3)) rfl
theorem dJ6_numberOfTrailingZeros_0f7a4_23 : decode cJ6_numberOfTrailingZeros_0f7a4 23 = .ok (.if_icmp .le 11, 3) := d_of dm_J6_numberOfTrailingZeros_0f7a4_c0 18 (q := (23, .if_icmp .le 11, 3)) rfl
theorem dJ6_numberOfTrailingZeros_0f7a4_26 : decode cJ6_numberOfTrailingZeros_0f7a4 26 = .ok (.iinc 1 16, 3) := d_of dm_J6_numberOfTrailingZeros_0f7a4_c0 19 (q := (26, .iinc 1 16, 3)) rfl
theorem dJ6_numberOfTrailingZeros_0f7a4_29 : decode cJ6_numberOfTrailingZeros_0f7a4 29 = .ok (.iload_n 0, 1) := d_of dm_J6_numberOfTrailingZeros_0f7a4_c0 20 (q := (29, .iload_n 0, 1)) rfl
theorem dJ6_numberOfTrailingZeros_0f7a4_30 : decode cJ6_numberOfTrailingZeros_0f7a4 30 = .ok (.bipush 16, 2) := d_of dm_J6_numberOfTrailingZeros_0f7a4_c0 21 (q := (30, .bipush 16, 2)) rfl
theorem dJ6_numberOfTrailingZeros_0f7a4_32 : decode cJ6_numberOfTrailingZeros_0f7a4 32 = .ok (.iushr, 1) := d_of dm_J6_numberOfTrailingZeros_0f7a4_c0 22 (q := (32, .iushr, 1)) rfl
theorem dJ6_numberOfTrailingZeros_0f7a4_33 : decode cJ6_numberOfTrailingZeros_0f7a4 33 = .ok (.istore_n 0, 1) := d_of dm_J6_numberOfTrailingZeros_0f7a4_c0 23 (q := (33, .istore_n 0, 1)) rfl
theorem dJ6_numberOfTrailingZeros_0f7a4_34 : decode cJ6_numberOfTrailingZeros_0f7a4 34 = .ok (.iload_n 0, 1) := d_of dm_J6_numberOfTrailingZeros_0f7a4_c0 24 (q := (34, .iload_n 0, 1)) rfl
def dl_J6_numberOfTrailingZeros_0f7a4_c25 : List (Nat × Instr × Nat) := [(35, .sipush 256, 3), (38, .if_icmp .le 11, 3), (41, .iinc 1 8, 3), (44, .iload_n 0, 1), (45, .bipush 8, 2), (47, .iushr, 1), (48, .istore_n 0, 1), (49, .iload_n 0, 1), (50, .bipush 16, 2), (52, .if_icmp .le 10, 3), (55, .iinc 1 4, 3), (58, .iload_n 0, 1), (59, .iconst 4, 1), (60, .iushr, 1), (61, .istore_n 0, 1), (62, .iload_n 0, 1), (63, .iconst 4, 1), (64, .if_icmp .le 10, 3), (67, .iinc 1 2, 3), (70, .iload_n 0, 1), (71, .iconst 2, 1), (72, .iushr, 1), (73, .istore_n 0, 1), (74, .iload_n 1, 1), (75, .iload_n 0, 1)]
set_option maxRecDepth 100000 in
theorem dm_J6_numberOfTrailingZeros_0f7a4_c25 : dl_J6_numberOfTrailingZeros_0f7a4_c25.all (fun q => decide (decode cJ6_numberOfTrailingZeros_0f7a4 q.1 = .ok q.2)) = true := by decide +kernel
theorem dJ6_numberOfTrailingZeros_0f7a4_35 : decode cJ6_numberOfTrailingZeros_0f7a4 35 = .ok (.sipush 256, 3) := d_of dm_J6_numberOfTrailingZeros_0f7a4_c25 0 (q := (35, .sipush 256, 3)) rfl
theorem dJ6_numberOfTrailingZeros_0f7a4_38 : decode cJ6_numberOfTrailingZeros_0f7a4 38 = .ok (.if_icmp .le 11, 3) := d_of dm_J6_numberOfTrailingZeros_0f7a4_c25 1 (q := (38, .if_icmp .le 11, 3)) rfl
theorem dJ6_numberOfTrailingZeros_0f7a4_41 : decode cJ6_numberOfTrailingZeros_0f7a4 41 = .ok (.iinc 1 8, 3) := d_of dm_J6_numberOfTrailingZeros_0f7a4_c25 2 (q := (41, .iinc 1 8, 3)) rfl
theorem dJ6_numberOfTrailingZeros_0f7a4_44 : decode cJ6_numberOfTrailingZeros_0f7a4 44 = .ok (.iload_n 0, 1) := d_of dm_J6_numberOfTrailingZeros_0f7a4_c25 3 (q := (44, .iload_n 0, 1)) rfl
theorem dJ6_numberOfTrailingZeros_0f7a4_45 : decode cJ6_numberOfTrailingZeros_0f7a4 45 = .ok (.bipush 8, 2) := d_of dm_J6_numberOfTrailingZeros_0f7a4_c25 4 (q := (45, .bipush 8, 2)) rfl
theorem dJ6_numberOfTrailingZeros_0f7a4_47 : decode cJ6_numberOfTrailingZeros_0f7a4 47 = .ok (.iushr, 1) := d_of dm_J6_numberOfTrailingZeros_0f7a4_c25 5 (q := (47, .iushr, 1)) rfl
theorem dJ6_numberOfTrailingZeros_0f7a4_48 : decode cJ6_numberOfTrailingZeros_0f7a4 48 = .ok (.istore_n 0, 1) := d_of dm_J6_numberOfTrailingZeros_0f7a4_c25 6 (q := (48, .istore_n 0, 1)) rfl
theorem dJ6_numberOfTrailingZeros_0f7a4_49 : decode cJ6_numberOfTrailingZeros_0f7a4 49 = .ok (.iload_n 0, 1) := d_of dm_J6_numberOfTrailingZeros_0f7a4_c25 7 (q := (49, .iload_n 0, 1)) rfl
theorem dJ6_numberOfTrailingZeros_0f7a4_50 : decode cJ6_numberOfTrailingZeros_0f7a4 50 = .ok (.bipush 16, 2) := d_of dm_J6_numberOfTrailingZeros_0f7a4_c25 8 (q := (50, .bipush 16, 2)) rfl
theorem dJ6_numberOfTrailingZeros_0f7a4_52 : decode cJ6_numberOfTrailingZeros_0f7a4 52 = .ok (.if_icmp .le 10, 3) := d_of dm_J6_numberOfTrailingZeros_0f7a4_c25 9 (q := (52, .if_icmp .le 10, 3)) rfl
theorem dJ6_numberOfTrailingZeros_0f7a4_55 : decode cJ6_numberOfTrailingZeros_0f7a4 55 = .ok (.iinc 1 4, 3) := d_of dm_J6_numberOfTrailingZeros_0f7a4_c25 10 (q := (55, .iinc 1 4, 3)) rfl
theorem dJ6_numberOfTrailingZeros_0f7a4_58 : decode cJ6_numberOfTrailingZeros_0f7a4 58 = .ok (.iload_n 0, 1) := d_of dm_J6_numberOfTrailingZeros_0f7a4_c25 11 (q := (58, .iload_n 0, 1)) rfl
theorem dJ6_numberOfTrailingZeros_0f7a4_59 : decode cJ6_numberOfTrailingZeros_0f7a4 59 = .ok (.iconst 4, 1) := d_of dm_J6_numberOfTrailingZeros_0f7a4_c25 12 (q := (59, .iconst 4, 1)) rfl
theorem dJ6_numberOfTrailingZeros_0f7a4_60 : decode cJ6_numberOfTrailingZeros_0f7a4 60 = .ok (.iushr, 1) := d_of dm_J6_numberOfTrailingZeros_0f7a4_c25 13 (q := (60, .iushr, 1)) rfl
theorem dJ6_numberOfTrailingZeros_0f7a4_61 : decode cJ6_numberOfTrailingZeros_0f7a4 61 = .ok (.istore_n 0, 1) := d_of dm_J6_numberOfTrailingZeros_0f7a4_c25 14 (q := (61, .istore_n 0, 1)) rfl
theorem dJ6_numberOfTrailingZeros_0f7a4_62 : decode cJ6_numberOfTrailingZeros_0f7a4 62 = .ok (.iload_n 0, 1) := d_of dm_J6_numberOfTrailingZeros_0f7a4_c25 15 (q := (62, .iload_n 0, 1)) rfl
theorem dJ6_numberOfTrailingZeros_0f7a4_63 : decode cJ6_numberOfTrailingZeros_0f7a4 63 = .ok (.iconst 4, 1) := d_of dm_J6_numberOfTrailingZeros_0f7a4_c25 16 (q := (63, .iconst 4, 1)) rfl
theorem dJ6_numberOfTrailingZeros_0f7a4_64 : decode cJ6_numberOfTrailingZeros_0f7a4 64 = .ok (.if_icmp .le 10, 3) := d_of dm_J6_numberOfTrailingZeros_0f7a4_c25 17 (q := (64, .if_icmp .le 10, 3)) rfl
theorem dJ6_numberOfTrailingZeros_0f7a4_67 : decode cJ6_numberOfTrailingZeros_0f7a4 67 = .ok (.iinc 1 2, 3) := d_of dm_J6_numberOfTrailingZeros_0f7a4_c25 18 (q := (67, .iinc 1 2, 3)) rfl
theorem dJ6_numberOfTrailingZeros_0f7a4_70 : decode cJ6_numberOfTrailingZeros_0f7a4 70 = .ok (.iload_n 0, 1) := d_of dm_J6_numberOfTrailingZeros_0f7a4_c25 19 (q := (70, .iload_n 0, 1)) rfl
theorem dJ6_numberOfTrailingZeros_0f7a4_71 : decode cJ6_numberOfTrailingZeros_0f7a4 71 = .ok (.iconst 2, 1) := d_of dm_J6_numberOfTrailingZeros_0f7a4_c25 20 (q := (71, .iconst 2, 1)) rfl
theorem dJ6_numberOfTrailingZeros_0f7a4_72 : decode cJ6_numberOfTrailingZeros_0f7a4 72 = .ok (.iushr, 1) := d_of dm_J6_numberOfTrailingZeros_0f7a4_c25 21 (q := (72, .iushr, 1)) rfl
theorem dJ6_numberOfTrailingZeros_0f7a4_73 : decode cJ6_numberOfTrailingZeros_0f7a4 73 = .ok (.istore_n 0, 1) := d_of dm_J6_numberOfTrailingZeros_0f7a4_c25 22 (q := (73, .istore_n 0, 1)) rfl
theorem dJ6_numberOfTrailingZeros_0f7a4_74 : decode cJ6_numberOfTrailingZeros_0f7a4 74 = .ok (.iload_n 1, 1) := d_of dm_J6_numberOfTrailingZeros_0f7a4_c25 23 (q := (74, .iload_n 1, 1)) rfl
theorem dJ6_numberOfTrailingZeros_0f7a4_75 : decode cJ6_numberOfTrailingZeros_0f7a4 75 = .ok (.iload_n 0, 1) := d_of dm_J6_numberOfTrailingZeros_0f7a4_c25 24 (q := (75, .iload_n 0, 1)) rfl
def dl_J6_numberOfTrailingZeros_0f7a4_c50 : List (Nat × Instr × Nat) := [(76, .iconst 1, 1), (77, .iushr, 1), (78, .iadd, 1), (79, .ireturn, 1)]
set_option maxRecDepth 100000 in
theorem dm_J6_numberOfTrailingZeros_0f7a4_c50 : dl_J6_numberOfTrailingZeros_0f7a4_c50.all (fun q => decide (decode cJ6_numberOfTrailingZeros_0f7a4 q.1 = .ok q.2)) = true := by decide +kernel
theorem dJ6_numberOfTrailingZeros_0f7a4_76 : decode cJ6_numberOfTrailingZeros_0f7a4 76 = .ok (.iconst 1, 1) := d_of dm_J6_numberOfTrailingZeros_0f7a4_c50 0 (q := (76, .iconst 1, 1)) rfl
theorem dJ6_numberOfTrailingZeros_0f7a4_77 : decode cJ6_numberOfTrailingZeros_0f7a4 77 = .ok (.iushr, 1) := d_of dm_J6_numberOfTrailingZeros_0f7a4_c50 1 (q := (77, .iushr, 1)) rfl
theorem dJ6_numberOfTrailingZeros_0f7a4_78 : decode cJ6_numberOfTrailingZeros_0f7a4 78 = .ok (.iadd, 1) := d_of dm_J6_numberOfTrailingZeros_0f7a4_c50 2 (q := (78, .iadd, 1)) rfl
theorem dJ6_numberOfTrailingZeros_0f7a4_79 : decode cJ6_numberOfTrailingZeros_0f7a4 79 = .ok (.ireturn, 1) := d_of dm_J6_numberOfTrailingZeros_0f7a4_c50 3 (q := (79, .ireturn, 1)) rfl
def dl_J6_bitCount_0f7a4_c0 : List (Nat × Instr × Nat) := [(0, .iload_n 0, 1), (1, .iload_n 0, 1), (2, .iconst 1, 1), (3, .iushr, 1), (4, .ldc_w 265, 3), (7, .iand, 1), (8, .isub, 1), (9, .istore_n 0, 1), (10, .iload_n 0, 1), (11, .ldc_w 266, 3), (14, .iand, 1), (15, .iload_n 0, 1), (16, .iconst 2, 1), (17, .iushr, 1), (18, .ldc_w 266, 3), (21, .iand, 1), (22, .iadd, 1), (23, .istore_n 0, 1), (24, .iload_n 0, 1), (25, .iload_n 0, 1), (26, .iconst 4, 1), (27, .iushr, 1), (28, .iadd, 1), (29, .ldc_w 267, 3), (32, .iand, 1)]
set_option maxRecDepth 100000 in
theorem dm_J6_bitCount_0f7a4_c0 : dl_J6_bitCount_0f7a4_c0.all (fun q => decide (decode cJ6_bitCount_0f7a4 q.1 = .ok q.2)) = true := by decide +kernel
theorem dJ6_bitCount_0f7a4_0 : decode cJ6_bitCount_0f7a4 0 = .ok (.iload_n 0, 1) := d_of dm_J6_bitCount_0f7a4_c0 0 (q := (0, .iload_n 0, 1)) rfl
theorem dJ6_bitCount_0f7a4_1 : decode cJ6_bitCount_0f7a4 1 = .ok (.iload_n 0, 1) := d_of dm_J6_bitCount_0f7a4_c0 1 (q := (1, .iload_n 0, 1)) rfl
theorem dJ6_bitCount_0f7a4_2 : decode cJ6_bitCount_0f7a4 2 = .ok (.iconst 1, 1) := d_of dm_J6_bitCount_0f7a4_c0 2 (q := (2, .iconst 1, 1)) rfl
theorem dJ6_bitCount_0f7a4_3 : decode cJ6_bitCount_0f7a4 3 = .ok (.iushr, 1) := d_of dm_J6_bitCount_0f7a4_c0 3 (q := (3, .iushr, 1)) rfl
theorem dJ6_bitCount_0f7a4_4 : decode cJ6_bitCount_0f7a4 4 = .ok (.ldc_w 265, 3) := d_of dm_J6_bitCount_0f7a4_c0 4 (q := (4, .ldc_w 265, 3)) rfl
theorem dJ6_bitCount_0f7a4_7 : decode cJ6_bitCount_0f7a4 7 = .ok (.iand, 1) := d_of dm_J6_bitCount_0f7a4_c0 5 (q := (7, .iand, 1)) rfl
theorem dJ6_bitCount_0f7a4_8 : decode cJ6_bitCount_0f7a4 8 = .ok (.isub, 1) := d_of dm_J6_bitCount_0f7a4_c0 6 (q := (8, .isub, 1)) rfl
theorem dJ6_bitCount_0f7a4_9 : decode cJ6_bitCount_0f7a4 9 = .ok (.istore_n 0, 1) := d_of dm_J6_bitCount_0f7a4_c0 7 (q := (9, .istore_n 0, 1)) rfl
theorem dJ6_bitCount_0f7a4_10 : decode cJ6_bitCount_0f7a4 10 = .ok (.iload_n 0, 1) := d_of dm_J6_bitCount_0f7a4_c0 8 (q := (10, .iload_n 0, 1)) rfl
theorem dJ6_bitCount_0f7a4_11 : decode cJ6_bitCount_0f7a4 11 = .ok (.ldc_w 266, 3) := d_of dm_J6_bitCount_0f7a4_c0 9 (q := (11, .ldc_w 266, 3)) rfl
theorem dJ6_bitCount_0f7a4_14 : decode cJ6_bitCount_0f7a4 14 = .ok (.iand, 1) := d_of dm_J6_bitCount_0f7a4_c0 10 (q := (14, .iand, 1)) rfl
theorem dJ6_bitCount_0f7a4_15 : decode cJ6_bitCount_0f7a4 15 = .ok (.iload_n 0, 1) := d_of dm_J6_bitCount_0f7a4_c0 11 (q := (15, .iload_n 0, 1)) rfl
theorem dJ6_bitCount_0f7a4_16 : decode cJ6_bitCount_0f7a4 16 = .ok (.iconst 2, 1) := d_of dm_J6_bitCount_0f7a4_c0 12 (q := (16, .iconst 2, 1)) rfl
theorem dJ6_bitCount_0f7a4_17 : decode cJ6_bitCount_0f7a4 17 = .ok (.iushr, 1) := d_of dm_J6_bitCount_0f7a4_c0 13 (q := (17, .iushr, 1)) rfl
theorem dJ6_bitCount_0f7a4_18 : decode cJ6_bitCount_0f7a4 18 = .ok (.ldc_w 266, 3) := d_of dm_J6_bitCount_0f7a4_c0 14 (q := (18, .ldc_w 266, 3)) rfl
theorem dJ6_bitCount_0f7a4_21 : decode cJ6_bitCount_0f7a4 21 = .ok (.iand, 1) := d_of dm_J6_bitCount_0f7a4_c0 15 (q := (21, .iand, 1)) rfl
theorem dJ6_bitCount_0f7a4_22 : decode cJ6_bitCount_0f7a4 22 = .ok (.iadd, 1) := d_of dm_J6_bitCount_0f7a4_c0 16 (q := (22, .iadd, 1)) rfl
theorem dJ6_bitCount_0f7a4_23 : decode cJ6_bitCount_0f7a4 23 = .ok (.istore_n 0, 1) := d_of dm_J6_bitCount_0f7a4_c0 17 (q := (23, .istore_n 0, 1)) rfl
theorem dJ6_bitCount_0f7a4_24 : decode cJ6_bitCount_0f7a4 24 = .ok (.iload_n 0, 1) := d_of dm_J6_bitCount_0f7a4_c0 18 (q := (24, .iload_n 0, 1)) rfl
theorem dJ6_bitCount_0f7a4_25 : decode cJ6_bitCount_0f7a4 25 = .ok (.iload_n 0, 1) := d_of dm_J6_bitCount_0f7a4_c0 19 (q := (25, .iload_n 0, 1)) rfl
theorem dJ6_bitCount_0f7a4_26 : decode cJ6_bitCount_0f7a4 26 = .ok (.iconst 4, 1) := d_of dm_J6_bitCount_0f7a4_c0 20 (q := (26, .iconst 4, 1)) rfl
theorem dJ6_bitCount_0f7a4_27 : decode cJ6_bitCount_0f7a4 27 = .ok (.iushr, 1) := d_of dm_J6_bitCount_0f7a4_c0 21 (q := (27, .iushr, 1)) rfl
theorem dJ6_bitCount_0f7a4_28 : decode cJ6_bitCount_0f7a4 28 = .ok (.iadd, 1) := d_of dm_J6_bitCount_0f7a4_c0 22 (q := (28, .iadd, 1)) rfl
theorem dJ6_bitCount_0f7a4_29 : decode cJ6_bitCount_0f7a4 29 = .ok (.ldc_w 267, 3) := d_of dm_J6_bitCount_0f7a4_c0 23 (q := (29, .ldc_w 267, 3)) rfl
theorem dJ6_bitCount_0f7a4_32 : decode cJ6_bitCount_0f7a4 32 = .ok (.iand, 1) := d_of dm_J6_bitCount_0f7a4_c0 24 (q := (32, .iand, 1)) rfl
def dl_J6_bitCount_0f7a4_c25 : List (Nat × Instr × Nat) := [(33, .istore_n 0, 1), (34, .iload_n 0, 1), (35, .iload_n 0, 1), (36, .bipush 8, 2), (38, .iushr, 1), (39, .iadd, 1), (40, .istore_n 0, 1), (41, .iload_n 0, 1), (42, .iload_n 0, 1), (43, .bipush 16, 2), (45, .iushr, 1), (46, .iadd, 1), (47, .istore_n 0, 1), (48, .iload_n 0, 1), (49, .bipush 63, 2), (51, .iand, 1), (52, .ireturn, 1)]
set_option maxRecDepth 100000 in
theorem dm_J6_bitCount_0f7a4_c25 : dl_J6_bitCount_0f7a4_c25.all (fun q => decide (decode cJ6_bitCount_0f7a4 q.1 = .ok q.2)) = true := by decide +kernel
theorem dJ6_bitCount_0f7a4_33 : decode cJ6_bitCount_0f7a4 33 = .ok (.istore_n 0, 1) := d_of dm_J6_bitCount_0f7a4_c25 0 (q := (33, .istore_n 0, 1)) rfl
theorem dJ6_bitCount_0f7a4_34 : decode cJ6_bitCount_0f7a4 34 = .ok (.iload_n 0, 1) := d_of dm_J6_bitCount_0f7a4_c25 1 (q := (34, .iload_n 0, 1)) rfl
theorem dJ6_bitCount_0f7a4_35 : decode cJ6_bitCount_0f7a4 35 = .ok (.iload_n 0, 1) := d_of dm_J6_bitCount_0f7a4_c25 2 (q := (35, .iload_n 0, 1)) rfl
theorem dJ6_bitCount_0f7a4_36 : decode cJ6_bitCount_0f7a4 36 = .ok (.bipush 8, 2) := d_of dm_J6_bitCount_0f7a4_c25 3 (q := (36, .bipush 8, 2)) rfl
theorem dJ6_bitCount_0f7a4_38 : decode cJ6_bitCount_0f7a4 38 = .ok (.iushr, 1) := d_of dm_J6_bitCount_0f7a4_c25 4 (q := (38, .iushr, 1)) rfl
theorem dJ6_bitCount_0f7a4_39 : decode cJ6_bitCount_0f7a4 39 = .ok (.iadd, 1) := d_of dm_J6_bitCount_0f7a4_c25 5 (q := (39, .iadd, 1)) rfl
theorem dJ6_bitCount_0f7a4_40 : decode cJ6_bitCount_0f7a4 40 = .ok (.istore_n 0, 1) := d_of dm_J6_bitCount_0f7a4_c25 6 (q := (40, .istore_n 0, 1)) rfl
theorem dJ6_bitCount_0f7a4_41 : decode cJ6_bitCount_0f7a4 41 = .ok (.iload_n 0, 1) := d_of dm_J6_bitCount_0f7a4_c25 7 (q := (41, .iload_n 0, 1)) rfl
theorem dJ6_bitCount_0f7a4_42 : decode cJ6_bitCount_0f7a4 42 = .ok (.iload_n 0, 1) := d_of dm_J6_bitCount_0f7a4_c25 8 (q := (42, .iload_n 0, 1)) rfl
theorem dJ6_bitCount_0f7a4_43 : decode cJ6_bitCount_0f7a4 43 = .ok (.bipush 16, 2) := d_of dm_J6_bitCount_0f7a4_c25 9 (q := (43, .bipush 16, 2)) rfl
theorem dJ6_bitCount_0f7a4_45 : decode cJ6_bitCount_0f7a4 45 = .ok (.iushr, 1) := d_of dm_J6_bitCount_0f7a4_c25 10 (q := (45, .iushr, 1)) rfl
theorem dJ6_bitCount_0f7a4_46 : decode cJ6_bitCount_0f7a4 46 = .ok (.iadd, 1) := d_of dm_J6_bitCount_0f7a4_c25 11 (q := (46, .iadd, 1)) rfl
theorem dJ6_bitCount_0f7a4_47 : decode cJ6_bitCount_0f7a4 47 = .ok (.istore_n 0, 1) := d_of dm_J6_bitCount_0f7a4_c25 12 (q := (47, .istore_n 0, 1)) rfl
theorem dJ6_bitCount_0f7a4_48 : decode cJ6_bitCount_0f7a4 48 = .ok (.iload_n 0, 1) := d_of dm_J6_bitCount_0f7a4_c25 13 (q := (48, .iload_n 0, 1)) rfl
theorem dJ6_bitCount_0f7a4_49 : decode cJ6_bitCount_0f7a4 49 = .ok (.bipush 63, 2) := d_of dm_J6_bitCount_0f7a4_c25 14 (q := (49, .bipush 63, 2)) rfl
theorem dJ6_bitCount_0f7a4_51 : decode cJ6_bitCount_0f7a4 51 = .ok (.iand, 1) := d_of dm_J6_bitCount_0f7a4_c25 15 (q := (51, .iand, 1)) rfl
theorem dJ6_bitCount_0f7a4_52 : decode cJ6_bitCount_0f7a4 52 = .ok (.ireturn, 1) := d_of dm_J6_bitCount_0f7a4_c25 16 (q := (52, .ireturn, 1)) rfl
def dl_J9_max_7cf53_c0 : List (Nat × Instr × Nat) := [(0, .iload_n 0, 1), (1, .iload_n 1, 1), (2, .if_icmp .lt 7, 3), (5, .iload_n 0, 1), (6, .goto 4, 3), (9, .iload_n 1, 1), (10, .ireturn, 1)]
set_option maxRecDepth 100000 in
theorem dm_J9_max_7cf53_c0 : dl_J9_max_7cf53_c0.all (fun q => decide (decode cJ9_max_7cf53 q.1 = .ok q.2)) = true := by decide +kernel
theorem dJ9_max_7cf53_0 : decode cJ9_max_7cf53 0 = .ok (.iload_n 0, 1) := d_of dm_J9_max_7cf53_c0 0 (q := (0, .iload_n 0, 1)) rfl
theorem dJ9_max_7cf53_1 : decode cJ9_max_7cf53 1 = .ok (.iload_n 1, 1) := d_of dm_J9_max_7cf53_c0 1 (q := (1, .iload_n 1, 1)) rfl
theorem dJ9_max_7cf53_2 : decode cJ9_max_7cf53 2 = .ok (.if_icmp .lt 7, 3) := d_of dm_J9_max_7cf53_c0 2 (q := (2, .if_icmp .lt 7, 3)) rfl
theorem dJ9_max_7cf53_5 : decode cJ9_max_7cf53 5 = .ok (.iload_n 0, 1) := d_of dm_J9_max_7cf53_c0 3 (q := (5, .iload_n 0, 1)) rfl
theorem dJ9_max_7cf53_6 : decode cJ9_max_7cf53 6 = .ok (.goto 4, 3) := d_of dm_J9_max_7cf53_c0 4 (q := (6, .goto 4, 3)) rfl
theorem dJ9_max_7cf53_9 : decode cJ9_max_7cf53 9 = .ok (.iload_n 1, 1) := d_of dm_J9_max_7cf53_c0 5 (q := (9, .iload_n 1, 1)) rfl
theorem dJ9_max_7cf53_10 : decode cJ9_max_7cf53 10 = .ok (.ireturn, 1) := d_of dm_J9_max_7cf53_c0 6 (q := (10, .ireturn, 1)) rfl
def dl_J9_min_7cf53_c0 : List (Nat × Instr × Nat) := [(0, .iload_n 0, 1), (1, .iload_n 1, 1), (2, .if_icmp .gt 7, 3), (5, .iload_n 0, 1), (6, .goto 4, 3), (9, .iload_n 1, 1), (10, .ireturn, 1)]
set_option maxRecDepth 100000 in
theorem dm_J9_min_7cf53_c0 : dl_J9_min_7cf53_c0.all (fun q => decide (decode cJ9_min_7cf53 q.1 = .ok q.2)) = true := by decide +kernel
theorem dJ9_min_7cf53_0 : decode cJ9_min_7cf53 0 = .ok (.iload_n 0, 1) := d_of dm_J9_min_7cf53_c0 0 (q := (0, .iload_n 0, 1)) rfl
theorem dJ9_min_7cf53_1 : decode cJ9_min_7cf53 1 = .ok (.iload_n 1, 1) := d_of dm_J9_min_7cf53_c0 1 (q := (1, .iload_n 1, 1)) rfl
theorem dJ9_min_7cf53_2 : decode cJ9_min_7cf53 2 = .ok (.if_icmp .gt 7, 3) := d_of dm_J9_min_7cf53_c0 2 (q := (2, .if_icmp .gt 7, 3)) rfl
theorem dJ9_min_7cf53_5 : decode cJ9_min_7cf53 5 = .ok (.iload_n 0, 1) := d_of dm_J9_min_7cf53_c0 3 (q := (5, .iload_n 0, 1)) rfl
theorem dJ9_min_7cf53_6 : decode cJ9_min_7cf53 6 = .ok (.goto 4, 3) := d_of dm_J9_min_7cf53_c0 4 (q := (6, .goto 4, 3)) rfl
theorem dJ9_min_7cf53_9 : decode cJ9_min_7cf53 9 = .ok (.iload_n 1, 1) := d_of dm_J9_min_7cf53_c0 5 (q := (9, .iload_n 1, 1)) rfl
theorem dJ9_min_7cf53_10 : decode cJ9_min_7cf53 10 = .ok (.ireturn, 1) := d_of dm_J9_min_7cf53_c0 6 (q := (10, .ireturn, 1)) rfl
def dl_J0_length_8abf5_c0 : List (Nat × Instr × Nat) := [(0, .aload_n 0, 1), (1, .getfield 9, 3), (4, .arraylength, 1), (5, .aload_n 0, 1), (6, .invokevirtual 335, 3), (9, .ishr, 1), (10, .ireturn, 1)]
set_option maxRecDepth 100000 in
theorem dm_J0_length_8abf5_c0 : dl_J0_length_8abf5_c0.all (fun q => decide (decode cJ0_length_8abf5 q.1 = .ok q.2)) = true := by decide +kernel
theorem dJ0_length_8abf5_0 : decode cJ0_length_8abf5 0 = .ok (.aload_n 0, 1) := d_of dm_J0_length_8abf5_c0 0 (q := (0, .aload_n 0, 1)) rfl
theorem dJ0_length_8abf5_1 : decode cJ0_length_8abf5 1 = .ok (.getfield 9, 3) := d_of dm_J0_length_8abf5_c0 1 (q := (1, .getfield 9, 3)) rfl
theorem dJ0_length_8abf5_4 : decode cJ0_length_8abf5 4 = .ok (.arraylength, 1) := d_of dm_J0_length_8abf5_c0 2 (q := (4, .arraylength, 1)) rfl
theorem dJ0_length_8abf5_5 : decode cJ0_length_8abf5 5 = .ok (.aload_n 0, 1) := d_of dm_J0_length_8abf5_c0 3 (q := (5, .aload_n 0, 1)) rfl
theorem dJ0_length_8abf5_6 : decode cJ0_length_8abf5 6 = .ok (.invokevirtual 335, 3) := d_of dm_J0_length_8abf5_c0 4 (q := (6, .invokevirtual 335, 3)) rfl
theorem dJ0_length_8abf5_9 : decode cJ0_length_8abf5 9 = .ok (.ishr, 1) := d_of dm_J0_length_8abf5_c0 5 (q := (9, .ishr, 1)) rfl
theorem dJ0_length_8abf5_10 : decode cJ0_length_8abf5 10 = .ok (.ireturn, 1) := d_of dm_J0_length_8abf5_c0 6 (q := (10, .ireturn, 1)) rfl
def dl_J0_indexOf_0f7a4_c0 : List (Nat × Instr × Nat) := [(0, .aload_n 0, 1), (1, .iload_n 1, 1), (2, .iconst 0, 1), (3, .invokevirtual 633, 3), (6, .ireturn, 1)]
set_option maxRecDepth 100000 in
theorem dm_J0_indexOf_0f7a4_c0 : dl_J0_indexOf_0f7a4_c0.all (fun q => decide (decode cJ0_indexOf_0f7a4 q.1 = .ok q.2)) = true := by decide +kernel
theorem dJ0_indexOf_0f7a4_0 : decode cJ0_indexOf_0f7a4 0 = .ok (.aload_n 0, 1) := d_of dm_J0_indexOf_0f7a4_c0 0 (q := (0, .aload_n 0, 1)) rfl
theorem dJ0_indexOf_0f7a4_1 : decode cJ0_indexOf_0f7a4 1 = .ok (.iload_n 1, 1) := d_of dm_J0_indexOf_0f7a4_c0 1 (q := (1, .iload_n 1, 1)) rfl
theorem dJ0_indexOf_0f7a4_2 : decode cJ0_indexOf_0f7a4 2 = .ok (.iconst 0, 1) := d_of dm_J0_indexOf_0f7a4_c0 2 (q := (2, .iconst 0, 1)) rfl
theorem dJ0_indexOf_0f7a4_3 : decode cJ0_indexOf_0f7a4 3 = .ok (.invokevirtual 633, 3) := d_of dm_J0_indexOf_0f7a4_c0 3 (q := (3, .invokevirtual 633, 3)) rfl
theorem dJ0_indexOf_0f7a4_6 : decode cJ0_indexOf_0f7a4 6 = .ok (.ireturn, 1) := d_of dm_J0_indexOf_0f7a4_c0 4 (q := (6, .ireturn, 1)) rfl
def dl_J0_indexOf_7cf53_c0 : List (Nat × Instr × Nat) := [(0, .aload_n 0, 1), (1, .invokevirtual 492, 3), (4, .ifCond .eq 19, 3), (7, .aload_n 0, 1), (8, .getfield 9, 3), (11, .iload_n 1, 1), (12, .iload_n 2, 1), (13, .aload_n 0, 1), (14, .invokevirtual 505, 3), (17, .invokestatic 637, 3), (20, .goto 16, 3), (23, .aload_n 0, 1), (24, .getfield 9, 3), (27, .iload_n 1, 1), (28, .iload_n 2, 1), (29, .aload_n 0, 1), (30, .invokevirtual 505, 3), (33, .invokestatic 640, 3), (36, .ireturn, 1)]
set_option maxRecDepth 100000 in
theorem dm_J0_indexOf_7cf53_c0 : dl_J0_indexOf_7cf53_c0.all (fun q => decide (decode cJ0_indexOf_7cf53 q.1 = .ok q.2)) = true := by decide +kernel
theorem dJ0_indexOf_7cf53_0 : decode cJ0_indexOf_7cf53 0 = .ok (.aload_n 0, 1) := d_of dm_J0_indexOf_7cf53_c0 0 (q := (0, .aload_n 0, 1)) rfl
theorem dJ0_indexOf_7cf53_1 : decode cJ0_indexOf_7cf53 1 = .ok (.invokevirtual 492, 3) := d_of dm_J0_indexOf_7cf53_c0 1 (q := (1, .invokevirtual 492, 3)) rfl
theorem dJ0_indexOf_7cf53_4 : decode cJ0_indexOf_7cf53 4 = .ok (.ifCond .eq 19, 3) := d_of dm_J0_indexOf_7cf53_c0 2 (q := (4, .ifCond .eq 19, 3)) rfl
theorem dJ0_indexOf_7cf53_7 : decode cJ0_indexOf_7cf53 7 = .ok (.aload_n 0, 1) := d_of dm_J0_indexOf_7cf53_c0 3 (q := (7, .aload_n 0, 1)) rfl
theorem dJ0_indexOf_7cf53_8 : decode cJ0_indexOf_7cf53 8 = .ok (.getfield 9, 3) := d_of dm_J0_indexOf_7cf53_c0 4 (q := (8, .getfield 9, 3)) rfl
theorem dJ0_indexOf_7cf53_11 : decode cJ0_indexOf_7cf53 11 = .ok (.iload_n 1, 1) := d_of dm_J0_indexOf_7cf53_c0 5 (q := (11, .iload_n 1, 1)) rfl
theorem dJ0_indexOf_7cf53_12 : decode cJ0_indexOf_7cf53 12 = .ok (.iload_n 2, 1) := d_of dm_J0_indexOf_7cf53_c0 6 (q := (12, .iload_n 2, 1)) rfl
theorem dJ0_indexOf_7cf53_13 : decode cJ0_indexOf_7cf53 13 = .ok (.aload_n 0, 1) := d_of dm_J0_indexOf_7cf53_c0 7 (q := (13, .aload_n 0, 1)) rfl
theorem dJ0_indexOf_7cf53_14 : decode cJ0_indexOf_7cf53 14 = .ok (.invokevirtual 505, 3) := d_of dm_J0_indexOf_7cf53_c0 8 (q := (14, .invokevirtual 505, 3)) rfl
theorem dJ0_indexOf_7cf53_17 : decode cJ0_indexOf_7cf53 17 = .ok (.invokestatic 637, 3) := d_of dm_J0_indexOf_7cf53_c0 9 (q := (17, .invokestatic 637, 3)) rfl
theorem dJ0_indexOf_7cf53_20 : decode cJ0_indexOf_7cf53 20 = .ok (.goto 16, 3) := d_of dm_J0_indexOf_7cf53_c0 10 (q := (20, .goto 16, 3)) rfl
theorem dJ0_indexOf_7cf53_23 : decode cJ0_indexOf_7cf53 23 = .ok (.aload_n 0, 1) := d_of dm_J0_indexOf_7cf53_c0 11 (q := (23, .aload_n 0, 1)) rfl
theorem dJ0_indexOf_7cf53_24 : decode cJ0_indexOf_7cf53 24 = .ok (.getfield 9, 3) := d_of dm_J0_indexOf_7cf53_c0 12 (q := (24, .getfield 9, 3)) rfl
theorem dJ0_indexOf_7cf53_27 : decode cJ0_indexOf_7cf53 27 = .ok (.iload_n 1, 1) := d_of dm_J0_indexOf_7cf53_c0 13 (q := (27, .iload_n 1, 1)) rfl
theorem dJ0_indexOf_7cf53_28 : decode cJ0_indexOf_7cf53 28 = .ok (.iload_n 2, 1) := d_of dm_J0_indexOf_7cf53_c0 14 (q := (28, .iload_n 2, 1)) rfl
theorem dJ0_indexOf_7cf53_29 : decode cJ0_indexOf_7cf53 29 = .ok (.aload_n 0, 1) := d_of dm_J0_indexOf_7cf53_c0 15 (q := (29, .aload_n 0, 1)) rfl
theorem dJ0_indexOf_7cf53_30 : decode cJ0_indexOf_7cf53 30 = .ok (.invokevirtual 505, 3) := d_of dm_J0_indexOf_7cf53_c0 16 (q := (30, .invokevirtual 505, 3)) rfl
theorem dJ0_indexOf_7cf53_33 : decode cJ0_indexOf_7cf53 33 = .ok (.invokestatic 640, 3) := d_of dm_J0_indexOf_7cf53_c0 17 (q := (33, .invokestatic 640, 3)) rfl
theorem dJ0_indexOf_7cf53_36 : decode cJ0_indexOf_7cf53 36 = .ok (.ireturn, 1) := d_of dm_J0_indexOf_7cf53_c0 18 (q := (36, .ireturn, 1)) rfl
def dl_J0_coder_7d493_c0 : List (Nat × Instr × Nat) := [(0, .getstatic 38, 3), (3, .ifCond .eq 10, 3), (6, .aload_n 0, 1), (7, .getfield 15, 3), (10, .goto 4, 3), (13, .iconst 1, 1), (14, .ireturn, 1)]
set_option maxRecDepth 100000 in
theorem dm_J0_coder_7d493_c0 : dl_J0_coder_7d493_c0.all (fun q => decide (decode cJ0_coder_7d493 q.1 = .ok q.2)) = true := by decide +kernel
theorem dJ0_coder_7d493_0 : decode cJ0_coder_7d493 0 = .ok (.getstatic 38, 3) := d_of dm_J0_coder_7d493_c0 0 (q := (0, .getstatic 38, 3)) rfl
theorem dJ0_coder_7d493_3 : decode cJ0_coder_7d493 3 = .ok (.ifCond .eq 10, 3) := d_of dm_J0_coder_7d493_c0 1 (q := (3, .ifCond .eq 10, 3)) rfl
theorem dJ0_coder_7d493_6 : decode cJ0_coder_7d493 6 = .ok (.aload_n 0, 1) := d_of dm_J0_coder_7d493_c0 2 (q := (6, .aload_n 0, 1)) rfl
theorem dJ0_coder_7d493_7 : decode cJ0_coder_7d493 7 = .ok (.getfield 15, 3) := d_of dm_J0_coder_7d493_c0 3 (q := (7, .getfield 15, 3)) rfl
theorem dJ0_coder_7d493_10 : decode cJ0_coder_7d493 10 = .ok (.goto 4, 3) := d_of dm_J0_coder_7d493_c0 4 (q := (10, .goto 4, 3)) rfl
theorem dJ0_coder_7d493_13 : decode cJ0_coder_7d493 13 = .ok (.iconst 1, 1) := d_of dm_J0_coder_7d493_c0 5 (q := (13, .iconst 1, 1)) rfl
theorem dJ0_coder_7d493_14 : decode cJ0_coder_7d493 14 = .ok (.ireturn, 1) := d_of dm_J0_coder_7d493_c0 6 (q := (14, .ireturn, 1)) rfl
def dl_J0_isLatin1_aae02_c0 : List (Nat × Instr × Nat) := [(0, .getstatic 38, 3), (3, .ifCond .eq 14, 3), (6, .aload_n 0, 1), (7, .getfield 15, 3), (10, .ifCond .ne 7, 3), (13, .iconst 1, 1), (14, .goto 4, 3), (17, .iconst 0, 1), (18, .ireturn, 1)]
set_option maxRecDepth 100000 in
theorem dm_J0_isLatin1_aae02_c0 : dl_J0_isLatin1_aae02_c0.all (fun q => decide (decode cJ0_isLatin1_aae02 q.1 = .ok q.2)) = true := by decide +kernel
theorem dJ0_isLatin1_aae02_0 : decode cJ0_isLatin1_aae02 0 = .ok (.getstatic 38, 3) := d_of dm_J0_isLatin1_aae02_c0 0 (q := (0, .getstatic 38, 3)) rfl
theorem dJ0_isLatin1_aae02_3 : decode cJ0_isLatin1_aae02 3 = .ok (.ifCond .eq 14, 3) := d_of dm_J0_isLatin1_aae02_c0 1 (q := (3, .ifCond .eq 14, 3)) rfl
theorem dJ0_isLatin1_aae02_6 : decode cJ0_isLatin1_aae02 6 = .ok (.aload_n 0, 1) := d_of dm_J0_isLatin1_aae02_c0 2 (q := (6, .aload_n 0, 1)) rfl
theorem dJ0_isLatin1_aae02_7 : decode cJ0_isLatin1_aae02 7 = .ok (.getfield 15, 3) := d_of dm_J0_isLatin1_aae02_c0 3 (q := (7, .getfield 15, 3)) rfl
theorem dJ0_isLatin1_aae02_10 : decode cJ0_isLatin1_aae02 10 = .ok (.ifCond .ne 7, 3) := d_of dm_J0_isLatin1_aae02_c0 4 (q := (10, .ifCond .ne 7, 3)) rfl
theorem dJ0_isLatin1_aae02_13 : decode cJ0_isLatin1_aae02 13 = .ok (.iconst 1, 1) := d_of dm_J0_isLatin1_aae02_c0 5 (q := (13, .iconst 1, 1)) rfl
theorem dJ0_isLatin1_aae02_14 : decode cJ0_isLatin1_aae02 14 = .ok (.goto 4, 3) := d_of dm_J0_isLatin1_aae02_c0 6 (q := (14, .goto 4, 3)) rfl
theorem dJ0_isLatin1_aae02_17 : decode cJ0_isLatin1_aae02 17 = .ok (.iconst 0, 1) := d_of dm_J0_isLatin1_aae02_c0 7 (q := (17, .iconst 0, 1)) rfl
theorem dJ0_isLatin1_aae02_18 : decode cJ0_isLatin1_aae02 18 = .ok (.ireturn, 1) := d_of dm_J0_isLatin1_aae02_c0 8 (q := (18, .ireturn, 1)) rfl
def dl_J0_checkBoundsBeginEnd_23922_c0 : List (Nat × Instr × Nat) := [(0, .iload_n 0, 1), (1, .iload_n 1, 1), (2, .iload_n 2, 1), (3, .getstatic 1053, 3), (6, .invokestatic 1062, 3), (9, .pop, 1), (10, .return_, 1)]
set_option maxRecDepth 100000 in
theorem dm_J0_checkBoundsBeginEnd_23922_c0 : dl_J0_checkBoundsBeginEnd_23922_c0.all (fun q => decide (decode cJ0_checkBoundsBeginEnd_23922 q.1 = .ok q.2)) = true := by decide +kernel
theorem dJ0_checkBoundsBeginEnd_23922_0 : decode cJ0_checkBoundsBeginEnd_23922 0 = .ok (.iload_n 0, 1) := d_of dm_J0_checkBoundsBeginEnd_23922_c0 0 (q := (0, .iload_n 0, 1)) rfl
theorem dJ0_checkBoundsBeginEnd_23922_1 : decode cJ0_checkBoundsBeginEnd_23922 1 = .ok (.iload_n 1, 1) := d_of dm_J0_checkBoundsBeginEnd_23922_c0 1 (q := (1, .iload_n 1, 1)) rfl
theorem dJ0_checkBoundsBeginEnd_23922_2 : decode cJ0_checkBoundsBeginEnd_23922 2 = .ok (.iload_n 2, 1) := d_of dm_J0_checkBoundsBeginEnd_23922_c0 2 (q := (2, .iload_n 2, 1)) rfl
theorem dJ0_checkBoundsBeginEnd_23922_3 : decode cJ0_checkBoundsBeginEnd_23922 3 = .ok (.getstatic 1053, 3) := d_of dm_J0_checkBoundsBeginEnd_23922_c0 3 (q := (3, .getstatic 1053, 3)) rfl
theorem dJ0_checkBoundsBeginEnd_23922_6 : decode cJ0_checkBoundsBeginEnd_23922 6 = .ok (.invokestatic 1062, 3) := d_of dm_J0_checkBoundsBeginEnd_23922_c0 4 (q := (6, .invokestatic 1062, 3)) rfl
theorem dJ0_checkBoundsBeginEnd_23922_9 : decode cJ0_checkBoundsBeginEnd_23922 9 = .ok (.pop, 1) := d_of dm_J0_checkBoundsBeginEnd_23922_c0 5 (q := (9, .pop, 1)) rfl
theorem dJ0_checkBoundsBeginEnd_23922_10 : decode cJ0_checkBoundsBeginEnd_23922 10 = .ok (.return_, 1) := d_of dm_J0_checkBoundsBeginEnd_23922_c0 6 (q := (10, .return_, 1)) rfl
def dl_J1_canEncode_9a6ad_c0 : List (Nat × Instr × Nat) := [(0, .iload_n 0, 1), (1, .ifCond .lt 14, 3), (4, .iload_n 0, 1), (5, .sipush 255, 3), (8, .if_icmp .gt 7, 3), (11, .iconst 1, 1), (12, .goto 4, 3), (15, .iconst 0, 1), (16, .ireturn, 1)]
set_option maxRecDepth 100000 in
theorem dm_J1_canEncode_9a6ad_c0 : dl_J1_canEncode_9a6ad_c0.all (fun q => decide (decode cJ1_canEncode_9a6ad q.1 = .ok q.2)) = true := by decide +kernel
theorem dJ1_canEncode_9a6ad_0 : decode cJ1_canEncode_9a6ad 0 = .ok (.iload_n 0, 1) := d_of dm_J1_canEncode_9a6ad_c0 0 (q := (0, .iload_n 0, 1)) rfl
theorem dJ1_canEncode_9a6ad_1 : decode cJ1_canEncode_9a6ad 1 = .ok (.ifCond .lt 14, 3) := d_of dm_J1_canEncode_9a6ad_c0 1 (q := (1, .ifCond .lt 14, 3)) rfl
theorem dJ1_canEncode_9a6ad_4 : decode cJ1_canEncode_9a6ad 4 = .ok (.iload_n 0, 1) := d_of dm_J1_canEncode_9a6ad_c0 2 (q := (4, .iload_n 0, 1)) rfl
theorem dJ1_canEncode_9a6ad_5 : decode cJ1_canEncode_9a6ad 5 = .ok (.sipush 255, 3) := d_of dm_J1_canEncode_9a6ad_c0 3 (q := (5, .sipush 255, 3)) rfl
theorem dJ1_canEncode_9a6ad_8 : decode cJ1_canEncode_9a6ad 8 = .ok (.if_icmp .gt 7, 3) := d_of dm_J1_canEncode_9a6ad_c0 4 (q := (8, .if_icmp .gt 7, 3)) rfl
theorem dJ1_canEncode_9a6ad_11 : decode cJ1_canEncode_9a6ad 11 = .ok (.iconst 1, 1) := d_of dm_J1_canEncode_9a6ad_c0 5 (q := (11, .iconst 1, 1)) rfl
theorem dJ1_canEncode_9a6ad_12 : decode cJ1_canEncode_9a6ad 12 = .ok (.goto 4, 3) := d_of dm_J1_canEncode_9a6ad_c0 6 (q := (12, .goto 4, 3)) rfl
theorem dJ1_canEncode_9a6ad_15 : decode cJ1_canEncode_9a6ad 15 = .ok (.iconst 0, 1) := d_of dm_J1_canEncode_9a6ad_c0 7 (q := (15, .iconst 0, 1)) rfl
theorem dJ1_canEncode_9a6ad_16 : decode cJ1_canEncode_9a6ad 16 = .ok (.ireturn, 1) := d_of dm_J1_canEncode_9a6ad_c0 8 (q := (16, .ireturn, 1)) rfl
def dl_J1_indexOf_4cfef_c0 : List (Nat × Instr × Nat) := [(0, .iload_n 1, 1), (1, .invokestatic 88, 3), (4, .ifCond .ne 5, 3), (7, .iconst (-1), 1), (8, .ireturn, 1), (9, .iload_n 2, 1), (10, .iconst 0, 1), (11, .invokestatic 92, 3), (14, .istore_n 2, 1), (15, .iload_n 3, 1), (16, .aload_n 0, 1), (17, .arraylength, 1), (18, .invokestatic 38, 3), (21, .istore_n 3, 1), (22, .iload_n 2, 1), (23, .iload_n 3, 1), (24, .if_icmp .lt 5, 3), (27, .iconst (-1), 1), (28, .ireturn, 1), (29, .aload_n 0, 1), (30, .iload_n 1, 1), (31, .iload_n 2, 1), (32, .iload_n 3, 1), (33, .invokestatic 95, 3), (36, .ireturn, 1)]
set_option maxRecDepth 100000 in
theorem dm_J1_indexOf_4cfef_c0 : dl_J1_indexOf_4cfef_c0.all (fun q => decide (decode cJ1_indexOf_4cfef q.1 = .ok q.2)) = true := by decide +kernel
theorem dJ1_indexOf_4cfef_0 : decode cJ1_indexOf_4cfef 0 = .ok (.iload_n 1, 1) := d_of dm_J1_indexOf_4cfef_c0 0 (q := (0, .iload_n 1, 1)) rfl
theorem dJ1_indexOf_4cfef_1 : decode cJ1_indexOf_4cfef 1 = .ok (.invokestatic 88, 3) := d_of dm_J1_indexOf_4cfef_c0 1 (q := (1, .invokestatic 88, 3)) rfl
theorem dJ1_indexOf_4cfef_4 : decode cJ1_indexOf_4cfef 4 = .ok (.ifCond .ne 5, 3) := d_of dm_J1_indexOf_4cfef_c0 2 (q := (4, .ifCond .ne 5, 3)) rfl
theorem dJ1_indexOf_4cfef_7 : decode cJ1_indexOf_4cfef 7 = .ok (.iconst (-1), 1) := d_of dm_J1_indexOf_4cfef_c0 3 (q := (7, .iconst (-1), 1)) rfl
theorem dJ1_indexOf_4cfef_8 : decode cJ1_indexOf_4cfef 8 = .ok (.ireturn, 1) := d_of dm_J1_indexOf_4cfef_c0 4 (q := (8, .ireturn, 1)) rfl
theorem dJ1_indexOf_4cfef_9 : decode cJ1_indexOf_4cfef 9 = .ok (.iload_n 2, 1) := d_of dm_J1_indexOf_4cfef_c0 5 (q := (9, .iload_n 2, 1)) rfl
theorem dJ1_indexOf_4cfef_10 : decode cJ1_indexOf_4cfef 10 = .ok (.iconst 0, 1) := d_of dm_J1_indexOf_4cfef_c0 6 (q := (10, .iconst 0, 1)) rfl
theorem dJ1_indexOf_4cfef_11 : decode cJ1_indexOf_4cfef 11 = .ok (.invokestatic 92, 3) := d_of dm_J1_indexOf_4cfef_c0 7 (q := (11, .invokestatic 92, 3)) rfl
theorem dJ1_indexOf_4cfef_14 : decode cJ1_indexOf_4cfef 14 = .ok (.istore_n 2, 1) := d_of dm_J1_indexOf_4cfef_c0 8 (q := (14, .istore_n 2, 1)) rfl
theorem dJ1_indexOf_4cfef_15 : decode cJ1_indexOf_4cfef 15 = .ok (.iload_n 3, 1) := d_of dm_J1_indexOf_4cfef_c0 9 (q := (15, .iload_n 3, 1)) rfl
theorem dJ1_indexOf_4cfef_16 : decode cJ1_indexOf_4cfef 16 = .ok (.aload_n 0, 1) := d_of dm_J1_indexOf_4cfef_c0 10 (q := (16, .aload_n 0, 1)) rfl
theorem dJ1_indexOf_4cfef_17 : decode cJ1_indexOf_4cfef 17 = .ok (.arraylength, 1) := d_of dm_J1_indexOf_4cfef_c0 11 (q := (17, .arraylength, 1)) rfl
theorem dJ1_indexOf_4cfef_18 : decode cJ1_indexOf_4cfef 18 = .ok (.invokestatic 38, 3) := d_of dm_J1_indexOf_4cfef_c0 12 (q := (18, .invokestatic 38, 3)) rfl
theorem dJ1_indexOf_4cfef_21 : decode cJ1_indexOf_4cfef 21 = .ok (.istore_n 3, 1) := d_of dm_J1_indexOf_4cfef_c0 13 (q := (21, .istore_n 3, 1)) rfl
theorem dJ1_indexOf_4cfef_22 : decode cJ1_indexOf_4cfef 22 = .ok (.iload_n 2, 1) := d_of dm_J1_indexOf_4cfef_c0 14 (q := (22, .iload_n 2, 1)) rfl
theorem dJ1_indexOf_4cfef_23 : decode cJ1_indexOf_4cfef 23 = .ok (.iload_n 3, 1) := d_of dm_J1_indexOf_4cfef_c0 15 (q := (23, .iload_n 3, 1)) rfl
theorem dJ1_indexOf_4cfef_24 : decode cJ1_indexOf_4cfef 24 = .ok (.if_icmp .lt 5, 3) := d_of dm_J1_indexOf_4cfef_c0 16 (q := (24, .if_icmp .lt 5, 3)) rfl
theorem dJ1_indexOf_4cfef_27 : decode cJ1_indexOf_4cfef 27 = .ok (.iconst (-1), 1) := d_of dm_J1_indexOf_4cfef_c0 17 (q := (27, .iconst (-1), 1)) rfl
theorem dJ1_indexOf_4cfef_28 : decode cJ1_indexOf_4cfef 28 = .ok (.ireturn, 1) := d_of dm_J1_indexOf_4cfef_c0 18 (q := (28, .ireturn, 1)) rfl
theorem dJ1_indexOf_4cfef_29 : decode cJ1_indexOf_4cfef 29 = .ok (.aload_n 0, 1) := d_of dm_J1_indexOf_4cfef_c0 19 (q := (29, .aload_n 0, 1)) rfl
theorem dJ1_indexOf_4cfef_30 : decode cJ1_indexOf_4cfef 30 = .ok (.iload_n 1, 1) := d_of dm_J1_indexOf_4cfef_c0 20 (q := (30, .iload_n 1, 1)) rfl
theorem dJ1_indexOf_4cfef_31 : decode cJ1_indexOf_4cfef 31 = .ok (.iload_n 2, 1) := d_of dm_J1_indexOf_4cfef_c0 21 (q := (31, .iload_n 2, 1)) rfl
theorem dJ1_indexOf_4cfef_32 : decode cJ1_indexOf_4cfef 32 = .ok (.iload_n 3, 1) := d_of dm_J1_indexOf_4cfef_c0 22 (q := (32, .iload_n 3, 1)) rfl
theorem dJ1_indexOf_4cfef_33 : decode cJ1_indexOf_4cfef 33 = .ok (.invokestatic 95, 3) := d_of dm_J1_indexOf_4cfef_c0 23 (q := (33, .invokestatic 95, 3)) rfl
theorem dJ1_indexOf_4cfef_36 : decode cJ1_indexOf_4cfef 36 = .ok (.ireturn, 1) := d_of dm_J1_indexOf_4cfef_c0 24 (q := (36, .ireturn, 1)) rfl
def dl_J1_indexOfChar_4cfef_c0 : List (Nat × Instr × Nat) := [(0, .iload_n 1, 1), (1, .i2b, 1), (2, .istore 4, 2), (4, .iload_n 2, 1), (5, .istore 5, 2), (7, .iload 5, 2), (9, .iload_n 3, 1), (10, .if_icmp .ge 21, 3), (13, .aload_n 0, 1), (14, .iload 5, 2), (16, .baload, 1), (17, .iload 4, 2), (19, .if_icmp .ne 6, 3), (22, .iload 5, 2), (24, .ireturn, 1), (25, .iinc 5 1, 3), (28, .goto (-21), 3), (31, .iconst (-1), 1), (32, .ireturn, 1)]
set_option maxRecDepth 100000 in
theorem dm_J1_indexOfChar_4cfef_c0 : dl_J1_indexOfChar_4cfef_c0.all (fun q => decide (decode cJ1_indexOfChar_4cfef q.1 = .ok q.2)) = true := by decide +kernel
theorem dJ1_indexOfChar_4cfef_0 : decode cJ1_indexOfChar_4cfef 0 = .ok (.iload_n 1, 1) := d_of dm_J1_indexOfChar_4cfef_c0 0 (q := (0, .iload_n 1, 1)) rfl
theorem dJ1_indexOfChar_4cfef_1 : decode cJ1_indexOfChar_4cfef 1 = .ok (.i2b, 1) := d_of dm_J1_indexOfChar_4cfef_c0 1 (q := (1, .i2b, 1)) rfl
theorem dJ1_indexOfChar_4cfef_2 : decode cJ1_indexOfChar_4cfef 2 = .ok (.istore 4, 2) := d_of dm_J1_indexOfChar_4cfef_c0 2 (q := (2, .istore 4, 2)) rfl
theorem dJ1_indexOfChar_4cfef_4 : decode cJ1_indexOfChar_4cfef 4 = .ok (.iload_n 2, 1) := d_of dm_J1_indexOfChar_4cfef_c0 3 (q := (4, .iload_n 2, 1)) rfl
theorem dJ1_indexOfChar_4cfef_5 : decode cJ1_indexOfChar_4cfef 5 = .ok (.istore 5, 2) := d_of dm_J1_indexOfChar_4cfef_c0 4 (q := (5, .istore 5, 2)) rfl
theorem dJ1_indexOfChar_4cfef_7 : decode cJ1_indexOfChar_4cfef 7 = .ok (.iload 5, 2) := d_of dm_J1_indexOfChar_4cfef_c0 5 (q := (7, .iload 5, 2)) rfl
theorem dJ1_indexOfChar_4cfef_9 : decode cJ1_indexOfChar_4cfef 9 = .ok (.iload_n 3, 1) := d_of dm_J1_indexOfChar_4cfef_c0 6 (q := (9, .iload_n 3, 1)) rfl
theorem dJ1_indexOfChar_4cfef_10 : decode cJ1_indexOfChar_4cfef 10 = .ok (.if_icmp .ge 21, 3) := d_of dm_J1_indexOfChar_4cfef_c0 7 (q := (10, .if_icmp .ge 21, 3)) rfl
theorem dJ1_indexOfChar_4cfef_13 : decode cJ1_indexOfChar_4cfef 13 = .ok (.aload_n 0, 1) := d_of dm_J1_indexOfChar_4cfef_c0 8 (q := (13, .aload_n 0, 1)) rfl
theorem dJ1_indexOfChar_4cfef_14 : decode cJ1_indexOfChar_4cfef 14 = .ok (.iload 5, 2) := d_of dm_J1_indexOfChar_4cfef_c0 9 (q := (14, .iload 5, 2)) rfl
theorem dJ1_indexOfChar_4cfef_16 : decode cJ1_indexOfChar_4cfef 16 = .ok (.baload, 1) := d_of dm_J1_indexOfChar_4cfef_c0 10 (q := (16, .baload, 1)) rfl
theorem dJ1_indexOfChar_4cfef_17 : decode cJ1_indexOfChar_4cfef 17 = .ok (.iload 4, 2) := d_of dm_J1_indexOfChar_4cfef_c0 11 (q := (17, .iload 4, 2)) rfl
theorem dJ1_indexOfChar_4cfef_19 : decode cJ1_indexOfChar_4cfef 19 = .ok (.if_icmp .ne 6, 3) := d_of dm_J1_indexOfChar_4cfef_c0 12 (q := (19, .if_icmp .ne 6, 3)) rfl
theorem dJ1_indexOfChar_4cfef_22 : decode cJ1_indexOfChar_4cfef 22 = .ok (.iload 5, 2) := d_of dm_J1_indexOfChar_4cfef_c0 13 (q := (22, .iload 5, 2)) rfl
theorem dJ1_indexOfChar_4cfef_24 : decode cJ1_indexOfChar_4cfef 24 = .ok (.ireturn, 1) := d_of dm_J1_indexOfChar_4cfef_c0 14 (q := (24, .ireturn, 1)) rfl
theorem dJ1_indexOfChar_4cfef_25 : decode cJ1_indexOfChar_4cfef 25 = .ok (.iinc 5 1, 3) := d_of dm_J1_indexOfChar_4cfef_c0 15 (q := (25, .iinc 5 1, 3)) rfl
theorem dJ1_indexOfChar_4cfef_28 : decode cJ1_indexOfChar_4cfef 28 = .ok (.goto (-21), 3) := d_of dm_J1_indexOfChar_4cfef_c0 16 (q := (28, .goto (-21), 3)) rfl
theorem dJ1_indexOfChar_4cfef_31 : decode cJ1_indexOfChar_4cfef 31 = .ok (.iconst (-1), 1) := d_of dm_J1_indexOfChar_4cfef_c0 17 (q := (31, .iconst (-1), 1)) rfl
theorem dJ1_indexOfChar_4cfef_32 : decode cJ1_indexOfChar_4cfef 32 = .ok (.ireturn, 1) := d_of dm_J1_indexOfChar_4cfef_c0 18 (q := (32, .ireturn, 1)) rfl
def dl_J2_getChar_3b067_c0 : List (Nat × Instr × Nat) := [(0, .getstatic 44, 3), (3, .ifCond .ne 25, 3), (6, .iload_n 1, 1), (7, .ifCond .lt 11, 3), (10, .iload_n 1, 1), (11, .aload_n 0, 1), (12, .invokestatic 48, 3), (15, .if_icmp .lt 13, 3), (18, .new 52, 3), (21, .dup, 1), (22, .ldc 54, 2), (24, .invokespecial 56, 3), (27, .athrow, 1), (28, .iload_n 1, 1), (29, .iconst 1, 1), (30, .ishl, 1), (31, .istore_n 1, 1), (32, .aload_n 0, 1), (33, .iload_n 1, 1), (34, .iinc 1 1, 3), (37, .baload, 1), (38, .sipush 255, 3), (41, .iand, 1), (42, .getstatic 59, 3), (45, .ishl, 1)]
set_option maxRecDepth 100000 in
theorem dm_J2_getChar_3b067_c0 : dl_J2_getChar_3b067_c0.all (fun q => decide (decode cJ2_getChar_3b067 q.1 = .ok q.2)) = true := by decide +kernel
theorem dJ2_getChar_3b067_0 : decode cJ2_getChar_3b067 0 = .ok (.getstatic 44, 3) := d_of dm_J2_getChar_3b067_c0 0 (q := (0, .getstatic 44, 3)) rfl
theorem dJ2_getChar_3b067_3 : decode cJ2_getChar_3b067 3 = .ok (.ifCond .ne 25, 3) := d_of dm_J2_getChar_3b067_c0 1 (q := (3, .ifCond .ne 25, 3)) rfl
theorem dJ2_getChar_3b067_6 : decode cJ2_getChar_3b067 6 = .ok (.iload_n 1, 1) := d_of dm_J2_getChar_3b067_c0 2 (q := (6, .iload_n 1, 1)) rfl
theorem dJ2_getChar_3b067_7 : decode cJ2_getChar_3b067 7 = .ok (.ifCond .lt 11, 3) := d_of dm_J2_getChar_3b067_c0 3 (q := (7, .ifCond .lt 11, 3)) rfl
theorem dJ2_getChar_3b067_10 : decode cJ2_getChar_3b067 10 = .ok (.iload_n 1, 1) := d_of dm_J2_getChar_3b067_c0 4 (q := (10, .iload_n 1, 1)) rfl
theorem dJ2_getChar_3b067_11 : decode cJ2_getChar_3b067 11 = .ok (.aload_n 0, 1) := d_of dm_J2_getChar_3b067_c0 5 (q := (11, .aload_n 0, 1)) rfl
theorem dJ2_getChar_3b067_12 : decode cJ2_getChar_3b067 12 = .ok (.invokestatic 48, 3) := d_of dm_J2_getChar_3b067_c0 6 (q := (12, .invokestatic 48, 3)) rfl
theorem dJ2_getChar_3b067_15 : decode cJ2_getChar_3b067 15 = .ok (.if_icmp .lt 13, 3) := d_of dm_J2_getChar_3b067_c0 7 (q := (15, .if_icmp .lt 13, 3)) rfl
theorem dJ2_getChar_3b067_18 : decode cJ2_getChar_3b067 18 = .ok (.new 52, 3) := d_of dm_J2_getChar_3b067_c0 8 (q := (18, .new 52, 3)) rfl
theorem dJ2_getChar_3b067_21 : decode cJ2_getChar_3b067 21 = .ok (.dup, 1) := d_of dm_J2_getChar_3b067_c0 9 (q := (21, .dup, 1)) rfl
theorem dJ2_getChar_3b067_22 : decode cJ2_getChar_3b067 22 = .ok (.ldc 54, 2) := d_of dm_J2_getChar_3b067_c0 10 (q := (22, .ldc 54, 2)) rfl
theorem dJ2_getChar_3b067_24 : decode cJ2_getChar_3b067 24 = .ok (.invokespecial 56, 3) := d_of dm_J2_getChar_3b067_c0 11 (q := (24, .invokespecial 56, 3)) rfl
theorem dJ2_getChar_3b067_27 : decode cJ2_getChar_3b067 27 = .ok (.athrow, 1) := d_of dm_J2_getChar_3b067_c0 12 (q := (27, .athrow, 1)) rfl
theorem dJ2_getChar_3b067_28 : decode cJ2_getChar_3b067 28 = .ok (.iload_n 1, 1) := d_of dm_J2_getChar_3b067_c0 13 (q := (28, .iload_n 1, 1)) rfl
theorem dJ2_getChar_3b067_29 : decode cJ2_getChar_3b067 29 = .ok (.iconst 1, 1) := d_of dm_J2_getChar_3b067_c0 14 (q := (29, .iconst 1, 1)) rfl
theorem dJ2_getChar_3b067_30 : decode cJ2_getChar_3b067 30 = .ok (.ishl, 1) := d_of dm_J2_getChar_3b067_c0 15 (q := (30, .ishl, 1)) rfl
theorem dJ2_getChar_3b067_31 : decode cJ2_getChar_3b067 31 = .ok (.istore_n 1, 1) := d_of dm_J2_getChar_3b067_c0 16 (q := (31, .istore_n 1, 1)) rfl
theorem dJ2_getChar_3b067_32 : decode cJ2_getChar_3b067 32 = .ok (.aload_n 0, 1) := d_of dm_J2_getChar_3b067_c0 17 (q := (32, .aload_n 0, 1)) rfl
theorem dJ2_getChar_3b067_33 : decode cJ2_getChar_3b067 33 = .ok (.iload_n 1, 1) := d_of dm_J2_getChar_3b067_c0 18 (q := (33, .iload_n 1, 1)) rfl
theorem dJ2_getChar_3b067_34 : decode cJ2_getChar_3b067 34 = .ok (.iinc 1 1, 3) := d_of dm_J2_getChar_3b067_c0 19 (q := (34, .iinc 1 1, 3)) rfl
theorem dJ2_getChar_3b067_37 : decode cJ2_getChar_3b067 37 = .ok (.baload, 1) := d_of dm_J2_getChar_3b067_c0 20 (q := (37, .baload, 1)) rfl
theorem dJ2_getChar_3b067_38 : decode cJ2_getChar_3b067 38 = .ok (.sipush 255, 3) := d_of dm_J2_getChar_3b067_c0 21 (q := (38, .sipush 255, 3)) rfl
theorem dJ2_getChar_3b067_41 : decode cJ2_getChar_3b067 41 = .ok (.iand, 1) := d_of dm_J2_getChar_3b067_c0 22 (q := (41, .iand, 1)) rfl
theorem dJ2_getChar_3b067_42 : decode cJ2_getChar_3b067 42 = .ok (.getstatic 59, 3) := d_of dm_J2_getChar_3b067_c0 23 (q := (42, .getstatic 59, 3)) rfl
theorem dJ2_getChar_3b067_45 : decode cJ2_getChar_3b067 45 = .ok (.ishl, 1) := d_of dm_J2_getChar_3b067_c0 24 (q := (45, .ishl, 1)) rfl
def dl_J2_getChar_3b067_c25 : List (Nat × Instr × Nat) := [(46, .aload_n 0, 1), (47, .iload_n 1, 1), (48, .baload, 1), (49, .sipush 255, 3), (52, .iand, 1), (53, .getstatic 63, 3), (56, .ishl, 1), (57, .ior, 1), (58, .i2c, 1), (59, .ireturn, 1)]
set_option maxRecDepth 100000 in
theorem dm_J2_getChar_3b067_c25 : dl_J2_getChar_3b067_c25.all (fun q => decide (decode cJ2_getChar_3b067 q.1 = .ok q.2)) = true := by decide +kernel
theorem dJ2_getChar_3b067_46 : decode cJ2_getChar_3b067 46 = .ok (.aload_n 0, 1) := d_of dm_J2_getChar_3b067_c25 0 (q := (46, .aload_n 0, 1)) rfl
theorem dJ2_getChar_3b067_47 : decode cJ2_getChar_3b067 47 = .ok (.iload_n 1, 1) := d_of dm_J2_getChar_3b067_c25 1 (q := (47, .iload_n 1, 1)) rfl
theorem dJ2_getChar_3b067_48 : decode cJ2_getChar_3b067 48 = .ok (.baload, 1) := d_of dm_J2_getChar_3b067_c25 2 (q := (48, .baload, 1)) rfl
theorem dJ2_getChar_3b067_49 : decode cJ2_getChar_3b067 49 = .ok (.sipush 255, 3) := d_of dm_J2_getChar_3b067_c25 3 (q := (49, .sipush 255, 3)) rfl
theorem dJ2_getChar_3b067_52 : decode cJ2_getChar_3b067 52 = .ok (.iand, 1) := d_of dm_J2_getChar_3b067_c25 4 (q := (52, .iand, 1)) rfl
theorem dJ2_getChar_3b067_53 : decode cJ2_getChar_3b067 53 = .ok (.getstatic 63, 3) := d_of dm_J2_getChar_3b067_c25 5 (q := (53, .getstatic 63, 3)) rfl
theorem dJ2_getChar_3b067_56 : decode cJ2_getChar_3b067 56 = .ok (.ishl, 1) := d_of dm_J2_getChar_3b067_c25 6 (q := (56, .ishl, 1)) rfl
theorem dJ2_getChar_3b067_57 : decode cJ2_getChar_3b067 57 = .ok (.ior, 1) := d_of dm_J2_getChar_3b067_c25 7 (q := (57, .ior, 1)) rfl
theorem dJ2_getChar_3b067_58 : decode cJ2_getChar_3b067 58 = .ok (.i2c, 1) := d_of dm_J2_getChar_3b067_c25 8 (q := (58, .i2c, 1)) rfl
theorem dJ2_getChar_3b067_59 : decode cJ2_getChar_3b067 59 = .ok (.ireturn, 1) := d_of dm_J2_getChar_3b067_c25 9 (q := (59, .ireturn, 1)) rfl
def dl_J2_length_9d52b_c0 : List (Nat × Instr × Nat) := [(0, .aload_n 0, 1), (1, .arraylength, 1), (2, .iconst 1, 1), (3, .ishr, 1), (4, .ireturn, 1)]
set_option maxRecDepth 100000 in
theorem dm_J2_length_9d52b_c0 : dl_J2_length_9d52b_c0.all (fun q => decide (decode cJ2_length_9d52b q.1 = .ok q.2)) = true := by decide +kernel
theorem dJ2_length_9d52b_0 : decode cJ2_length_9d52b 0 = .ok (.aload_n 0, 1) := d_of dm_J2_length_9d52b_c0 0 (q := (0, .aload_n 0, 1)) rfl
theorem dJ2_length_9d52b_1 : decode cJ2_length_9d52b 1 = .ok (.arraylength, 1) := d_of dm_J2_length_9d52b_c0 1 (q := (1, .arraylength, 1)) rfl
theorem dJ2_length_9d52b_2 : decode cJ2_length_9d52b 2 = .ok (.iconst 1, 1) := d_of dm_J2_length_9d52b_c0 2 (q := (2, .iconst 1, 1)) rfl
theorem dJ2_length_9d52b_3 : decode cJ2_length_9d52b 3 = .ok (.ishr, 1) := d_of dm_J2_length_9d52b_c0 3 (q := (3, .ishr, 1)) rfl
theorem dJ2_length_9d52b_4 : decode cJ2_length_9d52b 4 = .ok (.ireturn, 1) := d_of dm_J2_length_9d52b_c0 4 (q := (4, .ireturn, 1)) rfl
def dl_J2_indexOf_4cfef_c0 : List (Nat × Instr × Nat) := [(0, .iload_n 2, 1), (1, .iconst 0, 1), (2, .invokestatic 224, 3), (5, .istore_n 2, 1), (6, .iload_n 3, 1), (7, .aload_n 0, 1), (8, .arraylength, 1), (9, .iconst 1, 1), (10, .ishr, 1), (11, .invokestatic 183, 3), (14, .istore_n 3, 1), (15, .iload_n 2, 1), (16, .iload_n 3, 1), (17, .if_icmp .lt 5, 3), (20, .iconst (-1), 1), (21, .ireturn, 1), (22, .iload_n 1, 1), (23, .ldc 227, 2), (25, .if_icmp .ge 11, 3), (28, .aload_n 0, 1), (29, .iload_n 1, 1), (30, .iload_n 2, 1), (31, .iload_n 3, 1), (32, .invokestatic 228, 3), (35, .ireturn, 1)]
set_option maxRecDepth 100000 in
theorem dm_J2_indexOf_4cfef_c0 : dl_J2_indexOf_4cfef_c0.all (fun q => decide (decode cJ2_indexOf_4cfef q.1 = .ok q.2)) = true := by decide +kernel
theorem dJ2_indexOf_4cfef_0 : decode cJ2_indexOf_4cfef 0 = .ok (.iload_n 2, 1) := d_of dm_J2_indexOf_4cfef_c0 0 (q := (0, .iload_n 2, 1)) rfl
theorem dJ2_indexOf_4cfef_1 : decode cJ2_indexOf_4cfef 1 = .ok (.iconst 0, 1) := d_of dm_J2_indexOf_4cfef_c0 1 (q := (1, .iconst 0, 1)) rfl
theorem dJ2_indexOf_4cfef_2 : decode cJ2_indexOf_4cfef 2 = .ok (.invokestatic 224, 3) := d_of dm_J2_indexOf_4cfef_c0 2 (q := (2, .invokestatic 224, 3)) rfl
theorem dJ2_indexOf_4cfef_5 : decode cJ2_indexOf_4cfef 5 = .ok (.istore_n 2, 1) := d_of dm_J2_indexOf_4cfef_c0 3 (q := (5, .istore_n 2, 1)) rfl
theorem dJ2_indexOf_4cfef_6 : decode cJ2_indexOf_4cfef 6 = .ok (.iload_n 3, 1) := d_of dm_J2_indexOf_4cfef_c0 4 (q := (6, .iload_n 3, 1)) rfl
theorem dJ2_indexOf_4cfef_7 : decode cJ2_indexOf_4cfef 7 = .ok (.aload_n 0, 1) := d_of dm_J2_indexOf_4cfef_c0 5 (q := (7, .aload_n 0, 1)) rfl
theorem dJ2_indexOf_4cfef_8 : decode cJ2_indexOf_4cfef 8 = .ok (.arraylength, 1) := d_of dm_J2_indexOf_4cfef_c0 6 (q := (8, .arraylength, 1)) rfl
theorem dJ2_indexOf_4cfef_9 : decode cJ2_indexOf_4cfef 9 = .ok (.iconst 1, 1) := d_of dm_J2_indexOf_4cfef_c0 7 (q := (9, .iconst 1, 1)) rfl
theorem dJ2_indexOf_4cfef_10 : decode cJ2_indexOf_4cfef 10 = .ok (.ishr, 1) := d_of dm_J2_indexOf_4cfef_c0 8 (q := (10, .ishr, 1)) rfl
theorem dJ2_indexOf_4cfef_11 : decode cJ2_indexOf_4cfef 11 = .ok (.invokestatic 183, 3) := d_of dm_J2_indexOf_4cfef_c0 9 (q := (11, .invokestatic 183, 3)) rfl
theorem dJ2_indexOf_4cfef_14 : decode cJ2_indexOf_4cfef 14 = .ok (.istore_n 3, 1) := d_of dm_J2_indexOf_4cfef_c0 10 (q := (14, .istore_n 3, 1)) rfl
theorem dJ2_indexOf_4cfef_15 : decode cJ2_indexOf_4cfef 15 = .ok (.iload_n 2, 1) := d_of dm_J2_indexOf_4cfef_c0 11 (q := (15, .iload_n 2, 1)) rfl
theorem dJ2_indexOf_4cfef_16 : decode cJ2_indexOf_4cfef 16 = .ok (.iload_n 3, 1) := d_of dm_J2_indexOf_4cfef_c0 12 (q := (16, .iload_n 3, 1)) rfl
theorem dJ2_indexOf_4cfef_17 : decode cJ2_indexOf_4cfef 17 = .ok (.if_icmp .lt 5, 3) := d_of dm_J2_indexOf_4cfef_c0 13 (q := (17, .if_icmp .lt 5, 3)) rfl
theorem dJ2_indexOf_4cfef_20 : decode cJ2_indexOf_4cfef 20 = .ok (.iconst (-1), 1) := d_of dm_J2_indexOf_4cfef_c0 14 (q := (20, .iconst (-1), 1)) rfl
theorem dJ2_indexOf_4cfef_21 : decode cJ2_indexOf_4cfef 21 = .ok (.ireturn, 1) := d_of dm_J2_indexOf_4cfef_c0 15 (q := (21, .ireturn, 1)) rfl
theorem dJ2_indexOf_4cfef_22 : decode cJ2_indexOf_4cfef 22 = .ok (.iload_n 1, 1) := d_of dm_J2_indexOf_4cfef_c0 16 (q := (22, .iload_n 1, 1)) rfl
theorem dJ2_indexOf_4cfef_23 : decode cJ2_indexOf_4cfef 23 = .ok (.ldc 227, 2) := d_of dm_J2_indexOf_4cfef_c0 17 (q := (23, .ldc 227, 2)) rfl
theorem dJ2_indexOf_4cfef_25 : decode cJ2_indexOf_4cfef 25 = .ok (.if_icmp .ge 11, 3) := d_of dm_J2_indexOf_4cfef_c0 18 (q := (25, .if_icmp .ge 11, 3)) rfl
theorem dJ2_indexOf_4cfef_28 : decode cJ2_indexOf_4cfef 28 = .ok (.aload_n 0, 1) := d_of dm_J2_indexOf_4cfef_c0 19 (q := (28, .aload_n 0, 1)) rfl
theorem dJ2_indexOf_4cfef_29 : decode cJ2_indexOf_4cfef 29 = .ok (.iload_n 1, 1) := d_of dm_J2_indexOf_4cfef_c0 20 (q := (29, .iload_n 1, 1)) rfl
theorem dJ2_indexOf_4cfef_30 : decode cJ2_indexOf_4cfef 30 = .ok (.iload_n 2, 1) := d_of dm_J2_indexOf_4cfef_c0 21 (q := (30, .iload_n 2, 1)) rfl
theorem dJ2_indexOf_4cfef_31 : decode cJ2_indexOf_4cfef 31 = .ok (.iload_n 3, 1) := d_of dm_J2_indexOf_4cfef_c0 22 (q := (31, .iload_n 3, 1)) rfl
theorem dJ2_indexOf_4cfef_32 : decode cJ2_indexOf_4cfef 32 = .ok (.invokestatic 228, 3) := d_of dm_J2_indexOf_4cfef_c0 23 (q := (32, .invokestatic 228, 3)) rfl
theorem dJ2_indexOf_4cfef_35 : decode cJ2_indexOf_4cfef 35 = .ok (.ireturn, 1) := d_of dm_J2_indexOf_4cfef_c0 24 (q := (35, .ireturn, 1)) rfl
def dl_J2_indexOf_4cfef_c25 : List (Nat × Instr × Nat) := [(36, .aload_n 0, 1), (37, .iload_n 1, 1), (38, .iload_n 2, 1), (39, .iload_n 3, 1), (40, .invokestatic 232, 3), (43, .ireturn, 1)]
set_option maxRecDepth 100000 in
theorem dm_J2_indexOf_4cfef_c25 : dl_J2_indexOf_4cfef_c25.all (fun q => decide (decode cJ2_indexOf_4cfef q.1 = .ok q.2)) = true := by decide +kernel
theorem dJ2_indexOf_4cfef_36 : decode cJ2_indexOf_4cfef 36 = .ok (.aload_n 0, 1) := d_of dm_J2_indexOf_4cfef_c25 0 (q := (36, .aload_n 0, 1)) rfl
theorem dJ2_indexOf_4cfef_37 : decode cJ2_indexOf_4cfef 37 = .ok (.iload_n 1, 1) := d_of dm_J2_indexOf_4cfef_c25 1 (q := (37, .iload_n 1, 1)) rfl
theorem dJ2_indexOf_4cfef_38 : decode cJ2_indexOf_4cfef 38 = .ok (.iload_n 2, 1) := d_of dm_J2_indexOf_4cfef_c25 2 (q := (38, .iload_n 2, 1)) rfl
theorem dJ2_indexOf_4cfef_39 : decode cJ2_indexOf_4cfef 39 = .ok (.iload_n 3, 1) := d_of dm_J2_indexOf_4cfef_c25 3 (q := (39, .iload_n 3, 1)) rfl
theorem dJ2_indexOf_4cfef_40 : decode cJ2_indexOf_4cfef 40 = .ok (.invokestatic 232, 3) := d_of dm_J2_indexOf_4cfef_c25 4 (q := (40, .invokestatic 232, 3)) rfl
theorem dJ2_indexOf_4cfef_43 : decode cJ2_indexOf_4cfef 43 = .ok (.ireturn, 1) := d_of dm_J2_indexOf_4cfef_c25 5 (q := (43, .ireturn, 1)) rfl
def dl_J2_indexOfChar_4cfef_c0 : List (Nat × Instr × Nat) := [(0, .iload_n 2, 1), (1, .iload_n 3, 1), (2, .aload_n 0, 1), (3, .invokestatic 96, 3), (6, .aload_n 0, 1), (7, .iload_n 1, 1), (8, .iload_n 2, 1), (9, .iload_n 3, 1), (10, .invokestatic 244, 3), (13, .ireturn, 1)]
set_option maxRecDepth 100000 in
theorem dm_J2_indexOfChar_4cfef_c0 : dl_J2_indexOfChar_4cfef_c0.all (fun q => decide (decode cJ2_indexOfChar_4cfef q.1 = .ok q.2)) = true := by decide +kernel
theorem dJ2_indexOfChar_4cfef_0 : decode cJ2_indexOfChar_4cfef 0 = .ok (.iload_n 2, 1) := d_of dm_J2_indexOfChar_4cfef_c0 0 (q := (0, .iload_n 2, 1)) rfl
theorem dJ2_indexOfChar_4cfef_1 : decode cJ2_indexOfChar_4cfef 1 = .ok (.iload_n 3, 1) := d_of dm_J2_indexOfChar_4cfef_c0 1 (q := (1, .iload_n 3, 1)) rfl
theorem dJ2_indexOfChar_4cfef_2 : decode cJ2_indexOfChar_4cfef 2 = .ok (.aload_n 0, 1) := d_of dm_J2_indexOfChar_4cfef_c0 2 (q := (2, .aload_n 0, 1)) rfl
theorem dJ2_indexOfChar_4cfef_3 : decode cJ2_indexOfChar_4cfef 3 = .ok (.invokestatic 96, 3) := d_of dm_J2_indexOfChar_4cfef_c0 3 (q := (3, .invokestatic 96, 3)) rfl
theorem dJ2_indexOfChar_4cfef_6 : decode cJ2_indexOfChar_4cfef 6 = .ok (.aload_n 0, 1) := d_of dm_J2_indexOfChar_4cfef_c0 4 (q := (6, .aload_n 0, 1)) rfl
theorem dJ2_indexOfChar_4cfef_7 : decode cJ2_indexOfChar_4cfef 7 = .ok (.iload_n 1, 1) := d_of dm_J2_indexOfChar_4cfef_c0 5 (q := (7, .iload_n 1, 1)) rfl
theorem dJ2_indexOfChar_4cfef_8 : decode cJ2_indexOfChar_4cfef 8 = .ok (.iload_n 2, 1) := d_of dm_J2_indexOfChar_4cfef_c0 6 (q := (8, .iload_n 2, 1)) rfl
theorem dJ2_indexOfChar_4cfef_9 : decode cJ2_indexOfChar_4cfef 9 = .ok (.iload_n 3, 1) := d_of dm_J2_indexOfChar_4cfef_c0 7 (q := (9, .iload_n 3, 1)) rfl
theorem dJ2_indexOfChar_4cfef_10 : decode cJ2_indexOfChar_4cfef 10 = .ok (.invokestatic 244, 3) := d_of dm_J2_indexOfChar_4cfef_c0 8 (q := (10, .invokestatic 244, 3)) rfl
theorem dJ2_indexOfChar_4cfef_13 : decode cJ2_indexOfChar_4cfef 13 = .ok (.ireturn, 1) := d_of dm_J2_indexOfChar_4cfef_c0 9 (q := (13, .ireturn, 1)) rfl
def dl_J2_indexOfCharUnsafe_4cfef_c0 : List (Nat × Instr × Nat) := [(0, .iload_n 2, 1), (1, .istore 4, 2), (3, .iload 4, 2), (5, .iload_n 3, 1), (6, .if_icmp .ge 22, 3), (9, .aload_n 0, 1), (10, .iload 4, 2), (12, .invokestatic 71, 3), (15, .iload_n 1, 1), (16, .if_icmp .ne 6, 3), (19, .iload 4, 2), (21, .ireturn, 1), (22, .iinc 4 1, 3), (25, .goto (-22), 3), (28, .iconst (-1), 1), (29, .ireturn, 1)]
set_option maxRecDepth 100000 in
theorem dm_J2_indexOfCharUnsafe_4cfef_c0 : dl_J2_indexOfCharUnsafe_4cfef_c0.all (fun q => decide (decode cJ2_indexOfCharUnsafe_4cfef q.1 = .ok q.2)) = true := by decide +kernel
theorem dJ2_indexOfCharUnsafe_4cfef_0 : decode cJ2_indexOfCharUnsafe_4cfef 0 = .ok (.iload_n 2, 1) := d_of dm_J2_indexOfCharUnsafe_4cfef_c0 0 (q := (0, .iload_n 2, 1)) rfl
theorem dJ2_indexOfCharUnsafe_4cfef_1 : decode cJ2_indexOfCharUnsafe_4cfef 1 = .ok (.istore 4, 2) := d_of dm_J2_indexOfCharUnsafe_4cfef_c0 1 (q := (1, .istore 4, 2)) rfl
theorem dJ2_indexOfCharUnsafe_4cfef_3 : decode cJ2_indexOfCharUnsafe_4cfef 3 = .ok (.iload 4, 2) := d_of dm_J2_indexOfCharUnsafe_4cfef_c0 2 (q := (3, .iload 4, 2)) rfl
theorem dJ2_indexOfCharUnsafe_4cfef_5 : decode cJ2_indexOfCharUnsafe_4cfef 5 = .ok (.iload_n 3, 1) := d_of dm_J2_indexOfCharUnsafe_4cfef_c0 3 (q := (5, .iload_n 3, 1)) rfl
theorem dJ2_indexOfCharUnsafe_4cfef_6 : decode cJ2_indexOfCharUnsafe_4cfef 6 = .ok (.if_icmp .ge 22, 3) := d_of dm_J2_indexOfCharUnsafe_4cfef_c0 4 (q := (6, .if_icmp .ge 22, 3)) rfl
theorem dJ2_indexOfCharUnsafe_4cfef_9 : decode cJ2_indexOfCharUnsafe_4cfef 9 = .ok (.aload_n 0, 1) := d_of dm_J2_indexOfCharUnsafe_4cfef_c0 5 (q := (9, .aload_n 0, 1)) rfl
theorem dJ2_indexOfCharUnsafe_4cfef_10 : decode cJ2_indexOfCharUnsafe_4cfef 10 = .ok (.iload 4, 2) := d_of dm_J2_indexOfCharUnsafe_4cfef_c0 6 (q := (10, .iload 4, 2)) rfl
theorem dJ2_indexOfCharUnsafe_4cfef_12 : decode cJ2_indexOfCharUnsafe_4cfef 12 = .ok (.invokestatic 71, 3) := d_of dm_J2_indexOfCharUnsafe_4cfef_c0 7 (q := (12, .invokestatic 71, 3)) rfl
theorem dJ2_indexOfCharUnsafe_4cfef_15 : decode cJ2_indexOfCharUnsafe_4cfef 15 = .ok (.iload_n 1, 1) := d_of dm_J2_indexOfCharUnsafe_4cfef_c0 8 (q := (15, .iload_n 1, 1)) rfl
theorem dJ2_indexOfCharUnsafe_4cfef_16 : decode cJ2_indexOfCharUnsafe_4cfef 16 = .ok (.if_icmp .ne 6, 3) := d_of dm_J2_indexOfCharUnsafe_4cfef_c0 9 (q := (16, .if_icmp .ne 6, 3)) rfl
theorem dJ2_indexOfCharUnsafe_4cfef_19 : decode cJ2_indexOfCharUnsafe_4cfef 19 = .ok (.iload 4, 2) := d_of dm_J2_indexOfCharUnsafe_4cfef_c0 10 (q := (19, .iload 4, 2)) rfl
theorem dJ2_indexOfCharUnsafe_4cfef_21 : decode cJ2_indexOfCharUnsafe_4cfef 21 = .ok (.ireturn, 1) := d_of dm_J2_indexOfCharUnsafe_4cfef_c0 11 (q := (21, .ireturn, 1)) rfl
theorem dJ2_indexOfCharUnsafe_4cfef_22 : decode cJ2_indexOfCharUnsafe_4cfef 22 = .ok (.iinc 4 1, 3) := d_of dm_J2_indexOfCharUnsafe_4cfef_c0 12 (q := (22, .iinc 4 1, 3)) rfl
theorem dJ2_indexOfCharUnsafe_4cfef_25 : decode cJ2_indexOfCharUnsafe_4cfef 25 = .ok (.goto (-22), 3) := d_of dm_J2_indexOfCharUnsafe_4cfef_c0 13 (q := (25, .goto (-22), 3)) rfl
theorem dJ2_indexOfCharUnsafe_4cfef_28 : decode cJ2_indexOfCharUnsafe_4cfef 28 = .ok (.iconst (-1), 1) := d_of dm_J2_indexOfCharUnsafe_4cfef_c0 14 (q := (28, .iconst (-1), 1)) rfl
theorem dJ2_indexOfCharUnsafe_4cfef_29 : decode cJ2_indexOfCharUnsafe_4cfef 29 = .ok (.ireturn, 1) := d_of dm_J2_indexOfCharUnsafe_4cfef_c0 15 (q := (29, .ireturn, 1)) rfl
def dl_J2_indexOfSupplementary_4cfef_c0 : List (Nat × Instr × Nat) := [(0, .iload_n 1, 1), (1, .invokestatic 164, 3), (4, .ifCond .eq 65, 3), (7, .iload_n 1, 1), (8, .invokestatic 157, 3), (11, .istore 4, 2), (13, .iload_n 1, 1), (14, .invokestatic 161, 3), (17, .istore 5, 2), (19, .iload_n 2, 1), (20, .iload_n 3, 1), (21, .aload_n 0, 1), (22, .invokestatic 96, 3), (25, .iload_n 2, 1), (26, .istore 6, 2), (28, .iload 6, 2), (30, .iload_n 3, 1), (31, .iconst 1, 1), (32, .isub, 1), (33, .if_icmp .ge 36, 3), (36, .aload_n 0, 1), (37, .iload 6, 2), (39, .invokestatic 71, 3), (42, .iload 4, 2), (44, .if_icmp .ne 19, 3)]
set_option maxRecDepth 100000 in
theorem dm_J2_indexOfSupplementary_4cfef_c0 : dl_J2_indexOfSupplementary_4cfef_c0.all (fun q => decide (decode cJ2_indexOfSupplementary_4cfef q.1 = .ok q.2)) = true := by decide +kernel
theorem dJ2_indexOfSupplementary_4cfef_0 : decode cJ2_indexOfSupplementary_4cfef 0 = .ok (.iload_n 1, 1) := d_of dm_J2_indexOfSupplementary_4cfef_c0 0 (q := (0, .iload_n 1, 1)) rfl
theorem dJ2_indexOfSupplementary_4cfef_1 : decode cJ2_indexOfSupplementary_4cfef 1 = .ok (.invokestatic 164, 3) := d_of dm_J2_indexOfSupplementary_4cfef_c0 1 (q := (1, .invokestatic 164, 3)) rfl
theorem dJ2_indexOfSupplementary_4cfef_4 : decode cJ2_indexOfSupplementary_4cfef 4 = .ok (.ifCond .eq 65, 3) := d_of dm_J2_indexOfSupplementary_4cfef_c0 2 (q := (4, .ifCond .eq 65, 3)) rfl
theorem dJ2_indexOfSupplementary_4cfef_7 : decode cJ2_indexOfSupplementary_4cfef 7 = .ok (.iload_n 1, 1) := d_of dm_J2_indexOfSupplementary_4cfef_c0 3 (q := (7, .iload_n 1, 1)) rfl
theorem dJ2_indexOfSupplementary_4cfef_8 : decode cJ2_indexOfSupplementary_4cfef 8 = .ok (.invokestatic 157, 3) := d_of dm_J2_indexOfSupplementary_4cfef_c0 4 (q := (8, .invokestatic 157, 3)) rfl
theorem dJ2_indexOfSupplementary_4cfef_11 : decode cJ2_indexOfSupplementary_4cfef 11 = .ok (.istore 4, 2) := d_of dm_J2_indexOfSupplementary_4cfef_c0 5 (q := (11, .istore 4, 2)) rfl
theorem dJ2_indexOfSupplementary_4cfef_13 : decode cJ2_indexOfSupplementary_4cfef 13 = .ok (.iload_n 1, 1) := d_of dm_J2_indexOfSupplementary_4cfef_c0 6 (q := (13, .iload_n 1, 1)) rfl
theorem dJ2_indexOfSupplementary_4cfef_14 : decode cJ2_indexOfSupplementary_4cfef 14 = .ok (.invokestatic 161, 3) := d_of dm_J2_indexOfSupplementary_4cfef_c0 7 (q := (14, .invokestatic 161, 3)) rfl
theorem dJ2_indexOfSupplementary_4cfef_17 : decode cJ2_indexOfSupplementary_4cfef 17 = .ok (.istore 5, 2) := d_of dm_J2_indexOfSupplementary_4cfef_c0 8 (q := (17, .istore 5, 2)) rfl
theorem dJ2_indexOfSupplementary_4cfef_19 : decode cJ2_indexOfSupplementary_4cfef 19 = .ok (.iload_n 2, 1) := d_of dm_J2_indexOfSupplementary_4cfef_c0 9 (q := (19, .iload_n 2, 1)) rfl
theorem dJ2_indexOfSupplementary_4cfef_20 : decode cJ2_indexOfSupplementary_4cfef 20 = .ok (.iload_n 3, 1) := d_of dm_J2_indexOfSupplementary_4cfef_c0 10 (q := (20, .iload_n 3, 1)) rfl
theorem dJ2_indexOfSupplementary_4cfef_21 : decode cJ2_indexOfSupplementary_4cfef 21 = .ok (.aload_n 0, 1) := d_of dm_J2_indexOfSupplementary_4cfef_c0 11 (q := (21, .aload_n 0, 1)) rfl
theorem dJ2_indexOfSupplementary_4cfef_22 : decode cJ2_indexOfSupplementary_4cfef 22 = .ok (.invokestatic 96, 3) := d_of dm_J2_indexOfSupplementary_4cfef_c0 12 (q := (22, .invokestatic 96, 3)) rfl
theorem dJ2_indexOfSupplementary_4cfef_25 : decode cJ2_indexOfSupplementary_4cfef 25 = .ok (.iload_n 2, 1) := d_of dm_J2_indexOfSupplementary_4cfef_c0 13 (q := (25, .iload_n 2, 1)) rfl
theorem dJ2_indexOfSupplementary_4cfef_26 : decode cJ2_indexOfSupplementary_4cfef 26 = .ok (.istore 6, 2) := d_of dm_J2_indexOfSupplementary_4cfef_c0 14 (q := (26, .istore 6, 2)) rfl
theorem dJ2_indexOfSupplementary_4cfef_28 : decode cJ2_indexOfSupplementary_4cfef 28 = .ok (.iload 6, 2) := d_of dm_J2_indexOfSupplementary_4cfef_c0 15 (q := (28, .iload 6, 2)) rfl
theorem dJ2_indexOfSupplementary_4cfef_30 : decode cJ2_indexOfSupplementary_4cfef 30 = .ok (.iload_n 3, 1) := d_of dm_J2_indexOfSupplementary_4cfef_c0 16 (q := (30, .iload_n 3, 1)) rfl
theorem dJ2_indexOfSupplementary_4cfef_31 : decode cJ2_indexOfSupplementary_4cfef 31 = .ok (.iconst 1, 1) := d_of dm_J2_indexOfSupplementary_4cfef_c0 17 (q := (31, .iconst 1, 1)) rfl
theorem dJ2_indexOfSupplementary_4cfef_32 : decode cJ2_indexOfSupplementary_4cfef 32 = .ok (.isub, 1) := d_of dm_J2_indexOfSupplementary_4cfef_c0 18 (q := (32, .isub, 1)) rfl
theorem dJ2_indexOfSupplementary_4cfef_33 : decode cJ2_indexOfSupplementary_4cfef 33 = .ok (.if_icmp .ge 36, 3) := d_of dm_J2_indexOfSupplementary_4cfef_c0 19 (q := (33, .if_icmp .ge 36, 3)) rfl
theorem dJ2_indexOfSupplementary_4cfef_36 : decode cJ2_indexOfSupplementary_4cfef 36 = .ok (.aload_n 0, 1) := d_of dm_J2_indexOfSupplementary_4cfef_c0 20 (q := (36, .aload_n 0, 1)) rfl
theorem dJ2_indexOfSupplementary_4cfef_37 : decode cJ2_indexOfSupplementary_4cfef 37 = .ok (.iload 6, 2) := d_of dm_J2_indexOfSupplementary_4cfef_c0 21 (q := (37, .iload 6, 2)) rfl
theorem dJ2_indexOfSupplementary_4cfef_39 : decode cJ2_indexOfSupplementary_4cfef 39 = .ok (.invokestatic 71, 3) := d_of dm_J2_indexOfSupplementary_4cfef_c0 22 (q := (39, .invokestatic 71, 3)) rfl
theorem dJ2_indexOfSupplementary_4cfef_42 : decode cJ2_indexOfSupplementary_4cfef 42 = .ok (.iload 4, 2) := d_of dm_J2_indexOfSupplementary_4cfef_c0 23 (q := (42, .iload 4, 2)) rfl
theorem dJ2_indexOfSupplementary_4cfef_44 : decode cJ2_indexOfSupplementary_4cfef 44 = .ok (.if_icmp .ne 19, 3) := d_of dm_J2_indexOfSupplementary_4cfef_c0 24 (q := (44, .if_icmp .ne 19, 3)) rfl
def dl_J2_indexOfSupplementary_4cfef_c25 : List (Nat × Instr × Nat) := [(47, .aload_n 0, 1), (48, .iload 6, 2), (50, .iconst 1, 1), (51, .iadd, 1), (52, .invokestatic 71, 3), (55, .iload 5, 2), (57, .if_icmp .ne 6, 3), (60, .iload 6, 2), (62, .ireturn, 1), (63, .iinc 6 1, 3), (66, .goto (-38), 3), (69, .iconst (-1), 1), (70, .ireturn, 1)]
set_option maxRecDepth 100000 in
theorem dm_J2_indexOfSupplementary_4cfef_c25 : dl_J2_indexOfSupplementary_4cfef_c25.all (fun q => decide (decode cJ2_indexOfSupplementary_4cfef q.1 = .ok q.2)) = true := by decide +kernel
theorem dJ2_indexOfSupplementary_4cfef_47 : decode cJ2_indexOfSupplementary_4cfef 47 = .ok (.aload_n 0, 1) := d_of dm_J2_indexOfSupplementary_4cfef_c25 0 (q := (47, .aload_n 0, 1)) rfl
theorem dJ2_indexOfSupplementary_4cfef_48 : decode cJ2_indexOfSupplementary_4cfef 48 = .ok (.iload 6, 2) := d_of dm_J2_indexOfSupplementary_4cfef_c25 1 (q := (48, .iload 6, 2)) rfl
theorem dJ2_indexOfSupplementary_4cfef_50 : decode cJ2_indexOfSupplementary_4cfef 50 = .ok (.iconst 1, 1) := d_of dm_J2_indexOfSupplementary_4cfef_c25 2 (q := (50, .iconst 1, 1)) rfl
theorem dJ2_indexOfSupplementary_4cfef_51 : decode cJ2_indexOfSupplementary_4cfef 51 = .ok (.iadd, 1) := d_of dm_J2_indexOfSupplementary_4cfef_c25 3 (q := (51, .iadd, 1)) rfl
theorem dJ2_indexOfSupplementary_4cfef_52 : decode cJ2_indexOfSupplementary_4cfef 52 = .ok (.invokestatic 71, 3) := d_of dm_J2_indexOfSupplementary_4cfef_c25 4 (q := (52, .invokestatic 71, 3)) rfl
theorem dJ2_indexOfSupplementary_4cfef_55 : decode cJ2_indexOfSupplementary_4cfef 55 = .ok (.iload 5, 2) := d_of dm_J2_indexOfSupplementary_4cfef_c25 5 (q := (55, .iload 5, 2)) rfl
theorem dJ2_indexOfSupplementary_4cfef_57 : decode cJ2_indexOfSupplementary_4cfef 57 = .ok (.if_icmp .ne 6, 3) := d_of dm_J2_indexOfSupplementary_4cfef_c25 6 (q := (57, .if_icmp .ne 6, 3)) rfl
theorem dJ2_indexOfSupplementary_4cfef_60 : decode cJ2_indexOfSupplementary_4cfef 60 = .ok (.iload 6, 2) := d_of dm_J2_indexOfSupplementary_4cfef_c25 7 (q := (60, .iload 6, 2)) rfl
theorem dJ2_indexOfSupplementary_4cfef_62 : decode cJ2_indexOfSupplementary_4cfef 62 = .ok (.ireturn, 1) := d_of dm_J2_indexOfSupplementary_4cfef_c25 8 (q := (62, .ireturn, 1)) rfl
theorem dJ2_indexOfSupplementary_4cfef_63 : decode cJ2_indexOfSupplementary_4cfef 63 = .ok (.iinc 6 1, 3) := d_of dm_J2_indexOfSupplementary_4cfef_c25 9 (q := (63, .iinc 6 1, 3)) rfl
theorem dJ2_indexOfSupplementary_4cfef_66 : decode cJ2_indexOfSupplementary_4cfef 66 = .ok (.goto (-38), 3) := d_of dm_J2_indexOfSupplementary_4cfef_c25 10 (q := (66, .goto (-38), 3)) rfl
theorem dJ2_indexOfSupplementary_4cfef_69 : decode cJ2_indexOfSupplementary_4cfef 69 = .ok (.iconst (-1), 1) := d_of dm_J2_indexOfSupplementary_4cfef_c25 11 (q := (69, .iconst (-1), 1)) rfl
theorem dJ2_indexOfSupplementary_4cfef_70 : decode cJ2_indexOfSupplementary_4cfef 70 = .ok (.ireturn, 1) := d_of dm_J2_indexOfSupplementary_4cfef_c25 12 (q := (70, .ireturn, 1)) rfl
def dl_J2_checkBoundsBeginEnd_d044e_c0 : List (Nat × Instr × Nat) := [(0, .iload_n 0, 1), (1, .iload_n 1, 1), (2, .aload_n 2, 1), (3, .invokestatic 48, 3), (6, .invokestatic 241, 3), (9, .return_, 1)]
set_option maxRecDepth 100000 in
theorem dm_J2_checkBoundsBeginEnd_d044e_c0 : dl_J2_checkBoundsBeginEnd_d044e_c0.all (fun q => decide (decode cJ2_checkBoundsBeginEnd_d044e q.1 = .ok q.2)) = true := by decide +kernel
theorem dJ2_checkBoundsBeginEnd_d044e_0 : decode cJ2_checkBoundsBeginEnd_d044e 0 = .ok (.iload_n 0, 1) := d_of dm_J2_checkBoundsBeginEnd_d044e_c0 0 (q := (0, .iload_n 0, 1)) rfl
theorem dJ2_checkBoundsBeginEnd_d044e_1 : decode cJ2_checkBoundsBeginEnd_d044e 1 = .ok (.iload_n 1, 1) := d_of dm_J2_checkBoundsBeginEnd_d044e_c0 1 (q := (1, .iload_n 1, 1)) rfl
theorem dJ2_checkBoundsBeginEnd_d044e_2 : decode cJ2_checkBoundsBeginEnd_d044e 2 = .ok (.aload_n 2, 1) := d_of dm_J2_checkBoundsBeginEnd_d044e_c0 2 (q := (2, .aload_n 2, 1)) rfl
theorem dJ2_checkBoundsBeginEnd_d044e_3 : decode cJ2_checkBoundsBeginEnd_d044e 3 = .ok (.invokestatic 48, 3) := d_of dm_J2_checkBoundsBeginEnd_d044e_c0 3 (q := (3, .invokestatic 48, 3)) rfl
theorem dJ2_checkBoundsBeginEnd_d044e_6 : decode cJ2_checkBoundsBeginEnd_d044e 6 = .ok (.invokestatic 241, 3) := d_of dm_J2_checkBoundsBeginEnd_d044e_c0 4 (q := (6, .invokestatic 241, 3)) rfl
theorem dJ2_checkBoundsBeginEnd_d044e_9 : decode cJ2_checkBoundsBeginEnd_d044e 9 = .ok (.return_, 1) := d_of dm_J2_checkBoundsBeginEnd_d044e_c0 5 (q := (9, .return_, 1)) rfl
def dl_J3_checkFromToIndex_8c36e_c0 : List (Nat × Instr × Nat) := [(0, .iload_n 0, 1), (1, .ifCond .lt 13, 3), (4, .iload_n 0, 1), (5, .iload_n 1, 1), (6, .if_icmp .gt 8, 3), (9, .iload_n 1, 1), (10, .iload_n 2, 1), (11, .if_icmp .le 11, 3), (14, .aload_n 3, 1), (15, .iload_n 0, 1), (16, .iload_n 1, 1), (17, .iload_n 2, 1), (18, .invokestatic 99, 3), (21, .athrow, 1), (22, .iload_n 0, 1), (23, .ireturn, 1)]
set_option maxRecDepth 100000 in
theorem dm_J3_checkFromToIndex_8c36e_c0 : dl_J3_checkFromToIndex_8c36e_c0.all (fun q => decide (decode cJ3_checkFromToIndex_8c36e q.1 = .ok q.2)) = true := by decide +kernel
theorem dJ3_checkFromToIndex_8c36e_0 : decode cJ3_checkFromToIndex_8c36e 0 = .ok (.iload_n 0, 1) := d_of dm_J3_checkFromToIndex_8c36e_c0 0 (q := (0, .iload_n 0, 1)) rfl
theorem dJ3_checkFromToIndex_8c36e_1 : decode cJ3_checkFromToIndex_8c36e 1 = .ok (.ifCond .lt 13, 3) := d_of dm_J3_checkFromToIndex_8c36e_c0 1 (q := (1, .ifCond .lt 13, 3)) rfl
theorem dJ3_checkFromToIndex_8c36e_4 : decode cJ3_checkFromToIndex_8c36e 4 = .ok (.iload_n 0, 1) := d_of dm_J3_checkFromToIndex_8c36e_c0 2 (q := (4, .iload_n 0, 1)) rfl
theorem dJ3_checkFromToIndex_8c36e_5 : decode cJ3_checkFromToIndex_8c36e 5 = .ok (.iload_n 1, 1) := d_of dm_J3_checkFromToIndex_8c36e_c0 3 (q := (5, .iload_n 1, 1)) rfl
theorem dJ3_checkFromToIndex_8c36e_6 : decode cJ3_checkFromToIndex_8c36e 6 = .ok (.if_icmp .gt 8, 3) := d_of dm_J3_checkFromToIndex_8c36e_c0 4 (q := (6, .if_icmp .gt 8, 3)) rfl
theorem dJ3_checkFromToIndex_8c36e_9 : decode cJ3_checkFromToIndex_8c36e 9 = .ok (.iload_n 1, 1) := d_of dm_J3_checkFromToIndex_8c36e_c0 5 (q := (9, .iload_n 1, 1)) rfl
theorem dJ3_checkFromToIndex_8c36e_10 : decode cJ3_checkFromToIndex_8c36e 10 = .ok (.iload_n 2, 1) := d_of dm_J3_checkFromToIndex_8c36e_c0 6 (q := (10, .iload_n 2, 1)) rfl
theorem dJ3_checkFromToIndex_8c36e_11 : decode cJ3_checkFromToIndex_8c36e 11 = .ok (.if_icmp .le 11, 3) := d_of dm_J3_checkFromToIndex_8c36e_c0 7 (q := (11, .if_icmp .le 11, 3)) rfl
theorem dJ3_checkFromToIndex_8c36e_14 : decode cJ3_checkFromToIndex_8c36e 14 = .ok (.aload_n 3, 1) := d_of dm_J3_checkFromToIndex_8c36e_c0 8 (q := (14, .aload_n 3, 1)) rfl
theorem dJ3_checkFromToIndex_8c36e_15 : decode cJ3_checkFromToIndex_8c36e 15 = .ok (.iload_n 0, 1) := d_of dm_J3_checkFromToIndex_8c36e_c0 9 (q := (15, .iload_n 0, 1)) rfl
theorem dJ3_checkFromToIndex_8c36e_16 : decode cJ3_checkFromToIndex_8c36e 16 = .ok (.iload_n 1, 1) := d_of dm_J3_checkFromToIndex_8c36e_c0 10 (q := (16, .iload_n 1, 1)) rfl
theorem dJ3_checkFromToIndex_8c36e_17 : decode cJ3_checkFromToIndex_8c36e 17 = .ok (.iload_n 2, 1) := d_of dm_J3_checkFromToIndex_8c36e_c0 11 (q := (17, .iload_n 2, 1)) rfl
theorem dJ3_checkFromToIndex_8c36e_18 : decode cJ3_checkFromToIndex_8c36e 18 = .ok (.invokestatic 99, 3) := d_of dm_J3_checkFromToIndex_8c36e_c0 12 (q := (18, .invokestatic 99, 3)) rfl
theorem dJ3_checkFromToIndex_8c36e_21 : decode cJ3_checkFromToIndex_8c36e 21 = .ok (.athrow, 1) := d_of dm_J3_checkFromToIndex_8c36e_c0 13 (q := (21, .athrow, 1)) rfl
theorem dJ3_checkFromToIndex_8c36e_22 : decode cJ3_checkFromToIndex_8c36e 22 = .ok (.iload_n 0, 1) := d_of dm_J3_checkFromToIndex_8c36e_c0 14 (q := (22, .iload_n 0, 1)) rfl
theorem dJ3_checkFromToIndex_8c36e_23 : decode cJ3_checkFromToIndex_8c36e 23 = .ok (.ireturn, 1) := d_of dm_J3_checkFromToIndex_8c36e_c0 15 (q := (23, .ireturn, 1)) rfl
def dl_L_law_c0 : List (Nat × Instr × Nat) := [(0, .new 7, 3), (3, .dup, 1), (4, .invokespecial 9, 3), (7, .astore_n 1, 1), (8, .new 10, 3), (11, .dup, 1), (12, .invokespecial 12, 3), (15, .astore_n 2, 1), (16, .iconst 0, 1), (17, .istore_n 3, 1), (18, .iload_n 3, 1), (19, .aload_n 0, 1), (20, .arraylength, 1), (21, .iconst 3, 1), (22, .isub, 1), (23, .if_icmp .gt 780, 3), (26, .aload_n 0, 1), (27, .iload_n 3, 1), (28, .iaload, 1), (29, .bipush 31, 2), (31, .iand, 1), (32, .tableswitch 765 0 26 #[124, 147, 160, 193, 226, 249, 282, 315, 338, 371, 404, 437, 450, 463, 486, 509, 532, 555, 578, 591, 624, 647, 670, 683, 716, 729, 742], 124), (156, .aload_n 1, 1), (157, .aload_n 0, 1), (158, .iload_n 3, 1)]
set_option maxRecDepth 100000 in
theorem dm_L_law_c0 : dl_L_law_c0.all (fun q => decide (decode cL_law q.1 = .ok q.2)) = true := by decide +kernel
theorem dL_law_0 : decode cL_law 0 = .ok (.new 7, 3) := d_of dm_L_law_c0 0 (q := (0, .new 7, 3)) rfl
theorem dL_law_3 : decode cL_law 3 = .ok (.dup, 1) := d_of dm_L_law_c0 1 (q := (3, .dup, 1)) rfl
theorem dL_law_4 : decode cL_law 4 = .ok (.invokespecial 9, 3) := d_of dm_L_law_c0 2 (q := (4, .invokespecial 9, 3)) rfl
theorem dL_law_7 : decode cL_law 7 = .ok (.astore_n 1, 1) := d_of dm_L_law_c0 3 (q := (7, .astore_n 1, 1)) rfl
theorem dL_law_8 : decode cL_law 8 = .ok (.new 10, 3) := d_of dm_L_law_c0 4 (q := (8, .new 10, 3)) rfl
theorem dL_law_11 : decode cL_law 11 = .ok (.dup, 1) := d_of dm_L_law_c0 5 (q := (11, .dup, 1)) rfl
theorem dL_law_12 : decode cL_law 12 = .ok (.invokespecial 12, 3) := d_of dm_L_law_c0 6 (q := (12, .invokespecial 12, 3)) rfl
theorem dL_law_15 : decode cL_law 15 = .ok (.astore_n 2, 1) := d_of dm_L_law_c0 7 (q := (15, .astore_n 2, 1)) rfl
theorem dL_law_16 : decode cL_law 16 = .ok (.iconst 0, 1) := d_of dm_L_law_c0 8 (q := (16, .iconst 0, 1)) rfl
theorem dL_law_17 : decode cL_law 17 = .ok (.istore_n 3, 1) := d_of dm_L_law_c0 9 (q := (17, .istore_n 3, 1)) rfl
theorem dL_law_18 : decode cL_law 18 = .ok (.iload_n 3, 1) := d_of dm_L_law_c0 10 (q := (18, .iload_n 3, 1)) rfl
theorem dL_law_19 : decode cL_law 19 = .ok (.aload_n 0, 1) := d_of dm_L_law_c0 11 (q := (19, .aload_n 0, 1)) rfl
theorem dL_law_20 : decode cL_law 20 = .ok (.arraylength, 1) := d_of dm_L_law_c0 12 (q := (20, .arraylength, 1)) rfl
theorem dL_law_21 : decode cL_law 21 = .ok (.iconst 3, 1) := d_of dm_L_law_c0 13 (q := (21, .iconst 3, 1)) rfl
theorem dL_law_22 : decode cL_law 22 = .ok (.isub, 1) := d_of dm_L_law_c0 14 (q := (22, .isub, 1)) rfl
theorem dL_law_23 : decode cL_law 23 = .ok (.if_icmp .gt 780, 3) := d_of dm_L_law_c0 15 (q := (23, .if_icmp .gt 780, 3)) rfl
theorem dL_law_26 : decode cL_law 26 = .ok (.aload_n 0, 1) := d_of dm_L_law_c0 16 (q := (26, .aload_n 0, 1)) rfl
theorem dL_law_27 : decode cL_law 27 = .ok (.iload_n 3, 1) := d_of dm_L_law_c0 17 (q := (27, .iload_n 3, 1)) rfl
theorem dL_law_28 : decode cL_law 28 = .ok (.iaload, 1) := d_of dm_L_law_c0 18 (q := (28, .iaload, 1)) rfl
theorem dL_law_29 : decode cL_law 29 = .ok (.bipush 31, 2) := d_of dm_L_law_c0 19 (q := (29, .bipush 31, 2)) rfl
theorem dL_law_31 : decode cL_law 31 = .ok (.iand, 1) := d_of dm_L_law_c0 20 (q := (31, .iand, 1)) rfl
theorem dL_law_32 : decode cL_law 32 = .ok (.tableswitch 765 0 26 #[124, 147, 160, 193, 226, 249, 282, 315, 338, 371, 404, 437, 450, 463, 486, 509, 532, 555, 578, 591, 624, 647, 670, 683, 716, 729, 742], 124) := d_of dm_L_law_c0 21 (q := (32, .tableswitch 765 0 26 #[124, 147, 160, 193, 226, 249, 282, 315, 338, 371, 404, 437, 450, 463, 486, 509, 532, 555, 578, 591, 624, 647, 670, 683, 716, 729, 742], 124)) rfl
theorem dL_law_156 : decode cL_law 156 = .ok (.aload_n 1, 1) := d_of dm_L_law_c0 22 (q := (156, .aload_n 1, 1)) rfl
theorem dL_law_157 : decode cL_law 157 = .ok (.aload_n 0, 1) := d_of dm_L_law_c0 23 (q := (157, .aload_n 0, 1)) rfl
theorem dL_law_158 : decode cL_law 158 = .ok (.iload_n 3, 1) := d_of dm_L_law_c0 24 (q := (158, .iload_n 3, 1)) rfl
def dl_L_law_c25 : List (Nat × Instr × Nat) := [(159, .iconst 1, 1), (160, .iadd, 1), (161, .iaload, 1), (162, .invokevirtual 13, 3), (165, .aload_n 2, 1), (166, .aload_n 0, 1), (167, .iload_n 3, 1), (168, .iconst 1, 1), (169, .iadd, 1), (170, .iaload, 1), (171, .invokevirtual 17, 3), (174, .if_icmp .eq 623, 3), (177, .iconst 0, 1), (178, .ireturn, 1), (179, .aload_n 1, 1), (180, .invokevirtual 18, 3), (183, .aload_n 2, 1), (184, .invokevirtual 22, 3), (187, .if_icmp .eq 610, 3), (190, .iconst 0, 1), (191, .ireturn, 1), (192, .aload_n 1, 1), (193, .aload_n 0, 1), (194, .iload_n 3, 1), (195, .iconst 1, 1)]
set_option maxRecDepth 100000 in
theorem dm_L_law_c25 : dl_L_law_c25.all (fun q => decide (decode cL_law q.1 = .ok q.2)) = true := by decide +kernel
theorem dL_law_159 : decode cL_law 159 = .ok (.iconst 1, 1) := d_of dm_L_law_c25 0 (q := (159, .iconst 1, 1)) rfl
theorem dL_law_160 : decode cL_law 160 = .ok (.iadd, 1) := d_of dm_L_law_c25 1 (q := (160, .iadd, 1)) rfl
theorem dL_law_161 : decode cL_law 161 = .ok (.iaload, 1) := d_of dm_L_law_c25 2 (q := (161, .iaload, 1)) rfl
theorem dL_law_162 : decode cL_law 162 = .ok (.invokevirtual 13, 3) := d_of dm_L_law_c25 3 (q := (162, .invokevirtual 13, 3)) rfl
theorem dL_law_165 : decode cL_law 165 = .ok (.aload_n 2, 1) := d_of dm_L_law_c25 4 (q := (165, .aload_n 2, 1)) rfl
theorem dL_law_166 : decode cL_law 166 = .ok (.aload_n 0, 1) := d_of dm_L_law_c25 5 (q := (166, .aload_n 0, 1)) rfl
theorem dL_law_167 : decode cL_law 167 = .ok (.iload_n 3, 1) := d_of dm_L_law_c25 6 (q := (167, .iload_n 3, 1)) rfl
theorem dL_law_168 : decode cL_law 168 = .ok (.iconst 1, 1) := d_of dm_L_law_c25 7 (q := (168, .iconst 1, 1)) rfl
theorem dL_law_169 : decode cL_law 169 = .ok (.iadd, 1) := d_of dm_L_law_c25 8 (q := (169, .iadd, 1)) rfl
theorem dL_law_170 : decode cL_law 170 = .ok (.iaload, 1) := d_of dm_L_law_c25 9 (q := (170, .iaload, 1)) rfl
theorem dL_law_171 : decode cL_law 171 = .ok (.invokevirtual 17, 3) := d_of dm_L_law_c25 10 (q := (171, .invokevirtual 17, 3)) rfl
theorem dL_law_174 : decode cL_law 174 = .ok (.if_icmp .eq 623, 3) := d_of dm_L_law_c25 11 (q := (174, .if_icmp .eq 623, 3)) rfl
theorem dL_law_177 : decode cL_law 177 = .ok (.iconst 0, 1) := d_of dm_L_law_c25 12 (q := (177, .iconst 0, 1)) rfl
theorem dL_law_178 : decode cL_law 178 = .ok (.ireturn, 1) := d_of dm_L_law_c25 13 (q := (178, .ireturn, 1)) rfl
theorem dL_law_179 : decode cL_law 179 = .ok (.aload_n 1, 1) := d_of dm_L_law_c25 14 (q := (179, .aload_n 1, 1)) rfl
theorem dL_law_180 : decode cL_law 180 = .ok (.invokevirtual 18, 3) := d_of dm_L_law_c25 15 (q := (180, .invokevirtual 18, 3)) rfl
theorem dL_law_183 : decode cL_law 183 = .ok (.aload_n 2, 1) := d_of dm_L_law_c25 16 (q := (183, .aload_n 2, 1)) rfl
theorem dL_law_184 : decode cL_law 184 = .ok (.invokevirtual 22, 3) := d_of dm_L_law_c25 17 (q := (184, .invokevirtual 22, 3)) rfl
theorem dL_law_187 : decode cL_law 187 = .ok (.if_icmp .eq 610, 3) := d_of dm_L_law_c25 18 (q := (187, .if_icmp .eq 610, 3)) rfl
theorem dL_law_190 : decode cL_law 190 = .ok (.iconst 0, 1) := d_of dm_L_law_c25 19 (q := (190, .iconst 0, 1)) rfl
theorem dL_law_191 : decode cL_law 191 = .ok (.ireturn, 1) := d_of dm_L_law_c25 20 (q := (191, .ireturn, 1)) rfl
theorem dL_law_192 : decode cL_law 192 = .ok (.aload_n 1, 1) := d_of dm_L_law_c25 21 (q := (192, .aload_n 1, 1)) rfl
theorem dL_law_193 : decode cL_law 193 = .ok (.aload_n 0, 1) := d_of dm_L_law_c25 22 (q := (193, .aload_n 0, 1)) rfl
theorem dL_law_194 : decode cL_law 194 = .ok (.iload_n 3, 1) := d_of dm_L_law_c25 23 (q := (194, .iload_n 3, 1)) rfl
theorem dL_law_195 : decode cL_law 195 = .ok (.iconst 1, 1) := d_of dm_L_law_c25 24 (q := (195, .iconst 1, 1)) rfl
def dl_L_law_c50 : List (Nat × Instr × Nat) := [(196, .iadd, 1), (197, .iaload, 1), (198, .aload_n 0, 1), (199, .iload_n 3, 1), (200, .iconst 2, 1), (201, .iadd, 1), (202, .iaload, 1), (203, .invokevirtual 23, 3), (206, .aload_n 2, 1), (207, .aload_n 0, 1), (208, .iload_n 3, 1), (209, .iconst 1, 1), (210, .iadd, 1), (211, .iaload, 1), (212, .aload_n 0, 1), (213, .iload_n 3, 1), (214, .iconst 2, 1), (215, .iadd, 1), (216, .iaload, 1), (217, .invokevirtual 27, 3), (220, .if_icmp .eq 577, 3), (223, .iconst 0, 1), (224, .ireturn, 1), (225, .aload_n 1, 1), (226, .aload_n 0, 1)]
set_option maxRecDepth 100000 in
theorem dm_L_law_c50 : dl_L_law_c50.all (fun q => decide (decode cL_law q.1 = .ok q.2)) = true := by decide +kernel
theorem dL_law_196 : decode cL_law 196 = .ok (.iadd, 1) := d_of dm_L_law_c50 0 (q := (196, .iadd, 1)) rfl
theorem dL_law_197 : decode cL_law 197 = .ok (.iaload, 1) := d_of dm_L_law_c50 1 (q := (197, .iaload, 1)) rfl
theorem dL_law_198 : decode cL_law 198 = .ok (.aload_n 0, 1) := d_of dm_L_law_c50 2 (q := (198, .aload_n 0, 1)) rfl
theorem dL_law_199 : decode cL_law 199 = .ok (.iload_n 3, 1) := d_of dm_L_law_c50 3 (q := (199, .iload_n 3, 1)) rfl
theorem dL_law_200 : decode cL_law 200 = .ok (.iconst 2, 1) := d_of dm_L_law_c50 4 (q := (200, .iconst 2, 1)) rfl
theorem dL_law_201 : decode cL_law 201 = .ok (.iadd, 1) := d_of dm_L_law_c50 5 (q := (201, .iadd, 1)) rfl
theorem dL_law_202 : decode cL_law 202 = .ok (.iaload, 1) := d_of dm_L_law_c50 6 (q := (202, .iaload, 1)) rfl
theorem dL_law_203 : decode cL_law 203 = .ok (.invokevirtual 23, 3) := d_of dm_L_law_c50 7 (q := (203, .invokevirtual 23, 3)) rfl
theorem dL_law_206 : decode cL_law 206 = .ok (.aload_n 2, 1) := d_of dm_L_law_c50 8 (q := (206, .aload_n 2, 1)) rfl
theorem dL_law_207 : decode cL_law 207 = .ok (.aload_n 0, 1) := d_of dm_L_law_c50 9 (q := (207, .aload_n 0, 1)) rfl
theorem dL_law_208 : decode cL_law 208 = .ok (.iload_n 3, 1) := d_of dm_L_law_c50 10 (q := (208, .iload_n 3, 1)) rfl
theorem dL_law_209 : decode cL_law 209 = .ok (.iconst 1, 1) := d_of dm_L_law_c50 11 (q := (209, .iconst 1, 1)) rfl
theorem dL_law_210 : decode cL_law 210 = .ok (.iadd, 1) := d_of dm_L_law_c50 12 (q := (210, .iadd, 1)) rfl
theorem dL_law_211 : decode cL_law 211 = .ok (.iaload, 1) := d_of dm_L_law_c50 13 (q := (211, .iaload, 1)) rfl
theorem dL_law_212 : decode cL_law 212 = .ok (.aload_n 0, 1) := d_of dm_L_law_c50 14 (q := (212, .aload_n 0, 1)) rfl
theorem dL_law_213 : decode cL_law 213 = .ok (.iload_n 3, 1) := d_of dm_L_law_c50 15 (q := (213, .iload_n 3, 1)) rfl
theorem dL_law_214 : decode cL_law 214 = .ok (.iconst 2, 1) := d_of dm_L_law_c50 16 (q := (214, .iconst 2, 1)) rfl
theorem dL_law_215 : decode cL_law 215 = .ok (.iadd, 1) := d_of dm_L_law_c50 17 (q := (215, .iadd, 1)) rfl
theorem dL_law_216 : decode cL_law 216 = .ok (.iaload, 1) := d_of dm_L_law_c50 18 (q := (216, .iaload, 1)) rfl
theorem dL_law_217 : decode cL_law 217 = .ok (.invokevirtual 27, 3) := d_of dm_L_law_c50 19 (q := (217, .invokevirtual 27, 3)) rfl
theorem dL_law_220 : decode cL_law 220 = .ok (.if_icmp .eq 577, 3) := d_of dm_L_law_c50 20 (q := (220, .if_icmp .eq 577, 3)) rfl
theorem dL_law_223 : decode cL_law 223 = .ok (.iconst 0, 1) := d_of dm_L_law_c50 21 (q := (223, .iconst 0, 1)) rfl
theorem dL_law_224 : decode cL_law 224 = .ok (.ireturn, 1) := d_of dm_L_law_c50 22 (q := (224, .ireturn, 1)) rfl
theorem dL_law_225 : decode cL_law 225 = .ok (.aload_n 1, 1) := d_of dm_L_law_c50 23 (q := (225, .aload_n 1, 1)) rfl
theorem dL_law_226 : decode cL_law 226 = .ok (.aload_n 0, 1) := d_of dm_L_law_c50 24 (q := (226, .aload_n 0, 1)) rfl
def dl_L_law_c75 : List (Nat × Instr × Nat) := [(227, .iload_n 3, 1), (228, .iconst 1, 1), (229, .iadd, 1), (230, .iaload, 1), (231, .aload_n 0, 1), (232, .iload_n 3, 1), (233, .iconst 2, 1), (234, .iadd, 1), (235, .iaload, 1), (236, .invokevirtual 28, 3), (239, .aload_n 2, 1), (240, .aload_n 0, 1), (241, .iload_n 3, 1), (242, .iconst 1, 1), (243, .iadd, 1), (244, .iaload, 1), (245, .aload_n 0, 1), (246, .iload_n 3, 1), (247, .iconst 2, 1), (248, .iadd, 1), (249, .iaload, 1), (250, .invokevirtual 31, 3), (253, .if_icmp .eq 544, 3), (256, .iconst 0, 1), (257, .ireturn, 1)]
set_option maxRecDepth 100000 in
theorem dm_L_law_c75 : dl_L_law_c75.all (fun q => decide (decode cL_law q.1 = .ok q.2)) = true := by decide +kernel
theorem dL_law_227 : decode cL_law 227 = .ok (.iload_n 3, 1) := d_of dm_L_law_c75 0 (q := (227, .iload_n 3, 1)) rfl
theorem dL_law_228 : decode cL_law 228 = .ok (.iconst 1, 1) := d_of dm_L_law_c75 1 (q := (228, .iconst 1, 1)) rfl
theorem dL_law_229 : decode cL_law 229 = .ok (.iadd, 1) := d_of dm_L_law_c75 2 (q := (229, .iadd, 1)) rfl
theorem dL_law_230 : decode cL_law 230 = .ok (.iaload, 1) := d_of dm_L_law_c75 3 (q := (230, .iaload, 1)) rfl
theorem dL_law_231 : decode cL_law 231 = .ok (.aload_n 0, 1) := d_of dm_L_law_c75 4 (q := (231, .aload_n 0, 1)) rfl
theorem dL_law_232 : decode cL_law 232 = .ok (.iload_n 3, 1) := d_of dm_L_law_c75 5 (q := (232, .iload_n 3, 1)) rfl
theorem dL_law_233 : decode cL_law 233 = .ok (.iconst 2, 1) := d_of dm_L_law_c75 6 (q := (233, .iconst 2, 1)) rfl
theorem dL_law_234 : decode cL_law 234 = .ok (.iadd, 1) := d_of dm_L_law_c75 7 (q := (234, .iadd, 1)) rfl
theorem dL_law_235 : decode cL_law 235 = .ok (.iaload, 1) := d_of dm_L_law_c75 8 (q := (235, .iaload, 1)) rfl
theorem dL_law_236 : decode cL_law 236 = .ok (.invokevirtual 28, 3) := d_of dm_L_law_c75 9 (q := (236, .invokevirtual 28, 3)) rfl
theorem dL_law_239 : decode cL_law 239 = .ok (.aload_n 2, 1) := d_of dm_L_law_c75 10 (q := (239, .aload_n 2, 1)) rfl
theorem dL_law_240 : decode cL_law 240 = .ok (.aload_n 0, 1) := d_of dm_L_law_c75 11 (q := (240, .aload_n 0, 1)) rfl
theorem dL_law_241 : decode cL_law 241 = .ok (.iload_n 3, 1) := d_of dm_L_law_c75 12 (q := (241, .iload_n 3, 1)) rfl
theorem dL_law_242 : decode cL_law 242 = .ok (.iconst 1, 1) := d_of dm_L_law_c75 13 (q := (242, .iconst 1, 1)) rfl
theorem dL_law_243 : decode cL_law 243 = .ok (.iadd, 1) := d_of dm_L_law_c75 14 (q := (243, .iadd, 1)) rfl
theorem dL_law_244 : decode cL_law 244 = .ok (.iaload, 1) := d_of dm_L_law_c75 15 (q := (244, .iaload, 1)) rfl
theorem dL_law_245 : decode cL_law 245 = .ok (.aload_n 0, 1) := d_of dm_L_law_c75 16 (q := (245, .aload_n 0, 1)) rfl
theorem dL_law_246 : decode cL_law 246 = .ok (.iload_n 3, 1) := d_of dm_L_law_c75 17 (q := (246, .iload_n 3, 1)) rfl
theorem dL_law_247 : decode cL_law 247 = .ok (.iconst 2, 1) := d_of dm_L_law_c75 18 (q := (247, .iconst 2, 1)) rfl
theorem dL_law_248 : decode cL_law 248 = .ok (.iadd, 1) := d_of dm_L_law_c75 19 (q := (248, .iadd, 1)) rfl
theorem dL_law_249 : decode cL_law 249 = .ok (.iaload, 1) := d_of dm_L_law_c75 20 (q := (249, .iaload, 1)) rfl
theorem dL_law_250 : decode cL_law 250 = .ok (.invokevirtual 31, 3) := d_of dm_L_law_c75 21 (q := (250, .invokevirtual 31, 3)) rfl
theorem dL_law_253 : decode cL_law 253 = .ok (.if_icmp .eq 544, 3) := d_of dm_L_law_c75 22 (q := (253, .if_icmp .eq 544, 3)) rfl
theorem dL_law_256 : decode cL_law 256 = .ok (.iconst 0, 1) := d_of dm_L_law_c75 23 (q := (256, .iconst 0, 1)) rfl
theorem dL_law_257 : decode cL_law 257 = .ok (.ireturn, 1) := d_of dm_L_law_c75 24 (q := (257, .ireturn, 1)) rfl
def dl_L_law_c100 : List (Nat × Instr × Nat) := [(258, .aload_n 1, 1), (259, .aload_n 0, 1), (260, .iload_n 3, 1), (261, .iconst 1, 1), (262, .iadd, 1), (263, .iaload, 1), (264, .invokevirtual 32, 3), (267, .aload_n 2, 1), (268, .aload_n 0, 1), (269, .iload_n 3, 1), (270, .iconst 1, 1), (271, .iadd, 1), (272, .iaload, 1), (273, .invokevirtual 35, 3), (276, .if_icmp .eq 521, 3), (279, .iconst 0, 1), (280, .ireturn, 1), (281, .aload_n 1, 1), (282, .aload_n 0, 1), (283, .iload_n 3, 1), (284, .iconst 1, 1), (285, .iadd, 1), (286, .iaload, 1), (287, .aload_n 0, 1), (288, .iload_n 3, 1)]
set_option maxRecDepth 100000 in
theorem dm_L_law_c100 : dl_L_law_c100.all (fun q => decide (decode cL_law q.1 = .ok q.2)) = true := by decide +kernel
theorem dL_law_258 : decode cL_law 258 = .ok (.aload_n 1, 1) := d_of dm_L_law_c100 0 (q := (258, .aload_n 1, 1)) rfl
theorem dL_law_259 : decode cL_law 259 = .ok (.aload_n 0, 1) := d_of dm_L_law_c100 1 (q := (259, .aload_n 0, 1)) rfl
theorem dL_law_260 : decode cL_law 260 = .ok (.iload_n 3, 1) := d_of dm_L_law_c100 2 (q := (260, .iload_n 3, 1)) rfl
theorem dL_law_261 : decode cL_law 261 = .ok (.iconst 1, 1) := d_of dm_L_law_c100 3 (q := (261, .iconst 1, 1)) rfl
theorem dL_law_262 : decode cL_law 262 = .ok (.iadd, 1) := d_of dm_L_law_c100 4 (q := (262, .iadd, 1)) rfl
theorem dL_law_263 : decode cL_law 263 = .ok (.iaload, 1) := d_of dm_L_law_c100 5 (q := (263, .iaload, 1)) rfl
theorem dL_law_264 : decode cL_law 264 = .ok (.invokevirtual 32, 3) := d_of dm_L_law_c100 6 (q := (264, .invokevirtual 32, 3)) rfl
theorem dL_law_267 : decode cL_law 267 = .ok (.aload_n 2, 1) := d_of dm_L_law_c100 7 (q := (267, .aload_n 2, 1)) rfl
theorem dL_law_268 : decode cL_law 268 = .ok (.aload_n 0, 1) := d_of dm_L_law_c100 8 (q := (268, .aload_n 0, 1)) rfl
theorem dL_law_269 : decode cL_law 269 = .ok (.iload_n 3, 1) := d_of dm_L_law_c100 9 (q := (269, .iload_n 3, 1)) rfl
theorem dL_law_270 : decode cL_law 270 = .ok (.iconst 1, 1) := d_of dm_L_law_c100 10 (q := (270, .iconst 1, 1)) rfl
theorem dL_law_271 : decode cL_law 271 = .ok (.iadd, 1) := d_of dm_L_law_c100 11 (q := (271, .iadd, 1)) rfl
theorem dL_law_272 : decode cL_law 272 = .ok (.iaload, 1) := d_of dm_L_law_c100 12 (q := (272, .iaload, 1)) rfl
theorem dL_law_273 : decode cL_law 273 = .ok (.invokevirtual 35, 3) := d_of dm_L_law_c100 13 (q := (273, .invokevirtual 35, 3)) rfl
theorem dL_law_276 : decode cL_law 276 = .ok (.if_icmp .eq 521, 3) := d_of dm_L_law_c100 14 (q := (276, .if_icmp .eq 521, 3)) rfl
theorem dL_law_279 : decode cL_law 279 = .ok (.iconst 0, 1) := d_of dm_L_law_c100 15 (q := (279, .iconst 0, 1)) rfl
theorem dL_law_280 : decode cL_law 280 = .ok (.ireturn, 1) := d_of dm_L_law_c100 16 (q := (280, .ireturn, 1)) rfl
theorem dL_law_281 : decode cL_law 281 = .ok (.aload_n 1, 1) := d_of dm_L_law_c100 17 (q := (281, .aload_n 1, 1)) rfl
theorem dL_law_282 : decode cL_law 282 = .ok (.aload_n 0, 1) := d_of dm_L_law_c100 18 (q := (282, .aload_n 0, 1)) rfl
theorem dL_law_283 : decode cL_law 283 = .ok (.iload_n 3, 1) := d_of dm_L_law_c100 19 (q := (283, .iload_n 3, 1)) rfl
theorem dL_law_284 : decode cL_law 284 = .ok (.iconst 1, 1) := d_of dm_L_law_c100 20 (q := (284, .iconst 1, 1)) rfl
theorem dL_law_285 : decode cL_law 285 = .ok (.iadd, 1) := d_of dm_L_law_c100 21 (q := (285, .iadd, 1)) rfl
theorem dL_law_286 : decode cL_law 286 = .ok (.iaload, 1) := d_of dm_L_law_c100 22 (q := (286, .iaload, 1)) rfl
theorem dL_law_287 : decode cL_law 287 = .ok (.aload_n 0, 1) := d_of dm_L_law_c100 23 (q := (287, .aload_n 0, 1)) rfl
theorem dL_law_288 : decode cL_law 288 = .ok (.iload_n 3, 1) := d_of dm_L_law_c100 24 (q := (288, .iload_n 3, 1)) rfl
def dl_L_law_c125 : List (Nat × Instr × Nat) := [(289, .iconst 2, 1), (290, .iadd, 1), (291, .iaload, 1), (292, .invokevirtual 36, 3), (295, .aload_n 2, 1), (296, .aload_n 0, 1), (297, .iload_n 3, 1), (298, .iconst 1, 1), (299, .iadd, 1), (300, .iaload, 1), (301, .aload_n 0, 1), (302, .iload_n 3, 1), (303, .iconst 2, 1), (304, .iadd, 1), (305, .iaload, 1), (306, .invokevirtual 39, 3), (309, .if_icmp .eq 488, 3), (312, .iconst 0, 1), (313, .ireturn, 1), (314, .aload_n 1, 1), (315, .aload_n 0, 1), (316, .iload_n 3, 1), (317, .iconst 1, 1), (318, .iadd, 1), (319, .iaload, 1)]
set_option maxRecDepth 100000 in
theorem dm_L_law_c125 : dl_L_law_c125.all (fun q => decide (decode cL_law q.1 = .ok q.2)) = true := by decide +kernel
theorem dL_law_289 : decode cL_law 289 = .ok (.iconst 2, 1) := d_of dm_L_law_c125 0 (q := (289, .iconst 2, 1)) rfl
theorem dL_law_290 : decode cL_law 290 = .ok (.iadd, 1) := d_of dm_L_law_c125 1 (q := (290, .iadd, 1)) rfl
theorem dL_law_291 : decode cL_law 291 = .ok (.iaload, 1) := d_of dm_L_law_c125 2 (q := (291, .iaload, 1)) rfl
theorem dL_law_292 : decode cL_law 292 = .ok (.invokevirtual 36, 3) := d_of dm_L_law_c125 3 (q := (292, .invokevirtual 36, 3)) rfl
theorem dL_law_295 : decode cL_law 295 = .ok (.aload_n 2, 1) := d_of dm_L_law_c125 4 (q := (295, .aload_n 2, 1)) rfl
theorem dL_law_296 : decode cL_law 296 = .ok (.aload_n 0, 1) := d_of dm_L_law_c125 5 (q := (296, .aload_n 0, 1)) rfl
theorem dL_law_297 : decode cL_law 297 = .ok (.iload_n 3, 1) := d_of dm_L_law_c125 6 (q := (297, .iload_n 3, 1)) rfl
theorem dL_law_298 : decode cL_law 298 = .ok (.iconst 1, 1) := d_of dm_L_law_c125 7 (q := (298, .iconst 1, 1)) rfl
theorem dL_law_299 : decode cL_law 299 = .ok (.iadd, 1) := d_of dm_L_law_c125 8 (q := (299, .iadd, 1)) rfl
theorem dL_law_300 : decode cL_law 300 = .ok (.iaload, 1) := d_of dm_L_law_c125 9 (q := (300, .iaload, 1)) rfl
theorem dL_law_301 : decode cL_law 301 = .ok (.aload_n 0, 1) := d_of dm_L_law_c125 10 (q := (301, .aload_n 0, 1)) rfl
theorem dL_law_302 : decode cL_law 302 = .ok (.iload_n 3, 1) := d_of dm_L_law_c125 11 (q := (302, .iload_n 3, 1)) rfl
theorem dL_law_303 : decode cL_law 303 = .ok (.iconst 2, 1) := d_of dm_L_law_c125 12 (q := (303, .iconst 2, 1)) rfl
theorem dL_law_304 : decode cL_law 304 = .ok (.iadd, 1) := d_of dm_L_law_c125 13 (q := (304, .iadd, 1)) rfl
theorem dL_law_305 : decode cL_law 305 = .ok (.iaload, 1) := d_of dm_L_law_c125 14 (q := (305, .iaload, 1)) rfl
theorem dL_law_306 : decode cL_law 306 = .ok (.invokevirtual 39, 3) := d_of dm_L_law_c125 15 (q := (306, .invokevirtual 39, 3)) rfl
theorem dL_law_309 : decode cL_law 309 = .ok (.if_icmp .eq 488, 3) := d_of dm_L_law_c125 16 (q := (309, .if_icmp .eq 488, 3)) rfl
theorem dL_law_312 : decode cL_law 312 = .ok (.iconst 0, 1) := d_of dm_L_law_c125 17 (q := (312, .iconst 0, 1)) rfl
theorem dL_law_313 : decode cL_law 313 = .ok (.ireturn, 1) := d_of dm_L_law_c125 18 (q := (313, .ireturn, 1)) rfl
theorem dL_law_314 : decode cL_law 314 = .ok (.aload_n 1, 1) := d_of dm_L_law_c125 19 (q := (314, .aload_n 1, 1)) rfl
theorem dL_law_315 : decode cL_law 315 = .ok (.aload_n 0, 1) := d_of dm_L_law_c125 20 (q := (315, .aload_n 0, 1)) rfl
theorem dL_law_316 : decode cL_law 316 = .ok (.iload_n 3, 1) := d_of dm_L_law_c125 21 (q := (316, .iload_n 3, 1)) rfl
theorem dL_law_317 : decode cL_law 317 = .ok (.iconst 1, 1) := d_of dm_L_law_c125 22 (q := (317, .iconst 1, 1)) rfl
theorem dL_law_318 : decode cL_law 318 = .ok (.iadd, 1) := d_of dm_L_law_c125 23 (q := (318, .iadd, 1)) rfl
theorem dL_law_319 : decode cL_law 319 = .ok (.iaload, 1) := d_of dm_L_law_c125 24 (q := (319, .iaload, 1)) rfl
def dl_L_law_c150 : List (Nat × Instr × Nat) := [(320, .aload_n 0, 1), (321, .iload_n 3, 1), (322, .iconst 2, 1), (323, .iadd, 1), (324, .iaload, 1), (325, .invokevirtual 40, 3), (328, .aload_n 2, 1), (329, .aload_n 0, 1), (330, .iload_n 3, 1), (331, .iconst 1, 1), (332, .iadd, 1), (333, .iaload, 1), (334, .aload_n 0, 1), (335, .iload_n 3, 1), (336, .iconst 2, 1), (337, .iadd, 1), (338, .iaload, 1), (339, .invokevirtual 43, 3), (342, .if_icmp .eq 455, 3), (345, .iconst 0, 1), (346, .ireturn, 1), (347, .aload_n 1, 1), (348, .aload_n 0, 1), (349, .iload_n 3, 1), (350, .iconst 1, 1)]
set_option maxRecDepth 100000 in
theorem dm_L_law_c150 : dl_L_law_c150.all (fun q => decide (decode cL_law q.1 = .ok q.2)) = true := by decide +kernel
theorem dL_law_320 : decode cL_law 320 = .ok (.aload_n 0, 1) := d_of dm_L_law_c150 0 (q := (320, .aload_n 0, 1)) rfl
theorem dL_law_321 : decode cL_law 321 = .ok (.iload_n 3, 1) := d_of dm_L_law_c150 1 (q := (321, .iload_n 3, 1)) rfl
theorem dL_law_322 : decode cL_law 322 = .ok (.iconst 2, 1) := d_of dm_L_law_c150 2 (q := (322, .iconst 2, 1)) rfl
theorem dL_law_323 : decode cL_law 323 = .ok (.iadd, 1) := d_of dm_L_law_c150 3 (q := (323, .iadd, 1)) rfl
theorem dL_law_324 : decode cL_law 324 = .ok (.iaload, 1) := d_of dm_L_law_c150 4 (q := (324, .iaload, 1)) rfl
theorem dL_law_325 : decode cL_law 325 = .ok (.invokevirtual 40, 3) := d_of dm_L_law_c150 5 (q := (325, .invokevirtual 40, 3)) rfl
theorem dL_law_328 : decode cL_law 328 = .ok (.aload_n 2, 1) := d_of dm_L_law_c150 6 (q := (328, .aload_n 2, 1)) rfl
theorem dL_law_329 : decode cL_law 329 = .ok (.aload_n 0, 1) := d_of dm_L_law_c150 7 (q := (329, .aload_n 0, 1)) rfl
theorem dL_law_330 : decode cL_law 330 = .ok (.iload_n 3, 1) := d_of dm_L_law_c150 8 (q := (330, .iload_n 3, 1)) rfl
theorem dL_law_331 : decode cL_law 331 = .ok (.iconst 1, 1) := d_of dm_L_law_c150 9 (q := (331, .iconst 1, 1)) rfl
theorem dL_law_332 : decode cL_law 332 = .ok (.iadd, 1) := d_of dm_L_law_c150 10 (q := (332, .iadd, 1)) rfl
theorem dL_law_333 : decode cL_law 333 = .ok (.iaload, 1) := d_of dm_L_law_c150 11 (q := (333, .iaload, 1)) rfl
theorem dL_law_334 : decode cL_law 334 = .ok (.aload_n 0, 1) := d_of dm_L_law_c150 12 (q := (334, .aload_n 0, 1)) rfl
theorem dL_law_335 : decode cL_law 335 = .ok (.iload_n 3, 1) := d_of dm_L_law_c150 13 (q := (335, .iload_n 3, 1)) rfl
theorem dL_law_336 : decode cL_law 336 = .ok (.iconst 2, 1) := d_of dm_L_law_c150 14 (q := (336, .iconst 2, 1)) rfl
theorem dL_law_337 : decode cL_law 337 = .ok (.iadd, 1) := d_of dm_L_law_c150 15 (q := (337, .iadd, 1)) rfl
theorem dL_law_338 : decode cL_law 338 = .ok (.iaload, 1) := d_of dm_L_law_c150 16 (q := (338, .iaload, 1)) rfl
theorem dL_law_339 : decode cL_law 339 = .ok (.invokevirtual 43, 3) := d_of dm_L_law_c150 17 (q := (339, .invokevirtual 43, 3)) rfl
theorem dL_law_342 : decode cL_law 342 = .ok (.if_icmp .eq 455, 3) := d_of dm_L_law_c150 18 (q := (342, .if_icmp .eq 455, 3)) rfl
theorem dL_law_345 : decode cL_law 345 = .ok (.iconst 0, 1) := d_of dm_L_law_c150 19 (q := (345, .iconst 0, 1)) rfl
theorem dL_law_346 : decode cL_law 346 = .ok (.ireturn, 1) := d_of dm_L_law_c150 20 (q := (346, .ireturn, 1)) rfl
theorem dL_law_347 : decode cL_law 347 = .ok (.aload_n 1, 1) := d_of dm_L_law_c150 21 (q := (347, .aload_n 1, 1)) rfl
theorem dL_law_348 : decode cL_law 348 = .ok (.aload_n 0, 1) := d_of dm_L_law_c150 22 (q := (348, .aload_n 0, 1)) rfl
theorem dL_law_349 : decode cL_law 349 = .ok (.iload_n 3, 1) := d_of dm_L_law_c150 23 (q := (349, .iload_n 3, 1)) rfl
theorem dL_law_350 : decode cL_law 350 = .ok (.iconst 1, 1) := d_of dm_L_law_c150 24 (q := (350, .iconst 1, 1)) rfl
def dl_L_law_c175 : List (Nat × Instr × Nat) := [(351, .iadd, 1), (352, .iaload, 1), (353, .invokevirtual 44, 3), (356, .aload_n 2, 1), (357, .aload_n 0, 1), (358, .iload_n 3, 1), (359, .iconst 1, 1), (360, .iadd, 1), (361, .iaload, 1), (362, .invokevirtual 47, 3), (365, .if_icmp .eq 432, 3), (368, .iconst 0, 1), (369, .ireturn, 1), (370, .aload_n 1, 1), (371, .aload_n 0, 1), (372, .iload_n 3, 1), (373, .iconst 1, 1), (374, .iadd, 1), (375, .iaload, 1), (376, .aload_n 0, 1), (377, .iload_n 3, 1), (378, .iconst 2, 1), (379, .iadd, 1), (380, .iaload, 1), (381, .invokevirtual 48, 3)]
set_option maxRecDepth 100000 in
theorem dm_L_law_c175 : dl_L_law_c175.all (fun q => decide (decode cL_law q.1 = .ok q.2)) = true := by decide +kernel
theorem dL_law_351 : decode cL_law 351 = .ok (.iadd, 1) := d_of dm_L_law_c175 0 (q := (351, .iadd, 1)) rfl
theorem dL_law_352 : decode cL_law 352 = .ok (.iaload, 1) := d_of dm_L_law_c175 1 (q := (352, .iaload, 1)) rfl
theorem dL_law_353 : decode cL_law 353 = .ok (.invokevirtual 44, 3) := d_of dm_L_law_c175 2 (q := (353, .invokevirtual 44, 3)) rfl
theorem dL_law_356 : decode cL_law 356 = .ok (.aload_n 2, 1) := d_of dm_L_law_c175 3 (q := (356, .aload_n 2, 1)) rfl
theorem dL_law_357 : decode cL_law 357 = .ok (.aload_n 0, 1) := d_of dm_L_law_c175 4 (q := (357, .aload_n 0, 1)) rfl
theorem dL_law_358 : decode cL_law 358 = .ok (.iload_n 3, 1) := d_of dm_L_law_c175 5 (q := (358, .iload_n 3, 1)) rfl
theorem dL_law_359 : decode cL_law 359 = .ok (.iconst 1, 1) := d_of dm_L_law_c175 6 (q := (359, .iconst 1, 1)) rfl
theorem dL_law_360 : decode cL_law 360 = .ok (.iadd, 1) := d_of dm_L_law_c175 7 (q := (360, .iadd, 1)) rfl
theorem dL_law_361 : decode cL_law 361 = .ok (.iaload, 1) := d_of dm_L_law_c175 8 (q := (361, .iaload, 1)) rfl
theorem dL_law_362 : decode cL_law 362 = .ok (.invokevirtual 47, 3) := d_of dm_L_law_c175 9 (q := (362, .invokevirtual 47, 3)) rfl
theorem dL_law_365 : decode cL_law 365 = .ok (.if_icmp .eq 432, 3) := d_of dm_L_law_c175 10 (q := (365, .if_icmp .eq 432, 3)) rfl
theorem dL_law_368 : decode cL_law 368 = .ok (.iconst 0, 1) := d_of dm_L_law_c175 11 (q := (368, .iconst 0, 1)) rfl
theorem dL_law_369 : decode cL_law 369 = .ok (.ireturn, 1) := d_of dm_L_law_c175 12 (q := (369, .ireturn, 1)) rfl
theorem dL_law_370 : decode cL_law 370 = .ok (.aload_n 1, 1) := d_of dm_L_law_c175 13 (q := (370, .aload_n 1, 1)) rfl
theorem dL_law_371 : decode cL_law 371 = .ok (.aload_n 0, 1) := d_of dm_L_law_c175 14 (q := (371, .aload_n 0, 1)) rfl
theorem dL_law_372 : decode cL_law 372 = .ok (.iload_n 3, 1) := d_of dm_L_law_c175 15 (q := (372, .iload_n 3, 1)) rfl
theorem dL_law_373 : decode cL_law 373 = .ok (.iconst 1, 1) := d_of dm_L_law_c175 16 (q := (373, .iconst 1, 1)) rfl
theorem dL_law_374 : decode cL_law 374 = .ok (.iadd, 1) := d_of dm_L_law_c175 17 (q := (374, .iadd, 1)) rfl
theorem dL_law_375 : decode cL_law 375 = .ok (.iaload, 1) := d_of dm_L_law_c175 18 (q := (375, .iaload, 1)) rfl
theorem dL_law_376 : decode cL_law 376 = .ok (.aload_n 0, 1) := d_of dm_L_law_c175 19 (q := (376, .aload_n 0, 1)) rfl
theorem dL_law_377 : decode cL_law 377 = .ok (.iload_n 3, 1) := d_of dm_L_law_c175 20 (q := (377, .iload_n 3, 1)) rfl
theorem dL_law_378 : decode cL_law 378 = .ok (.iconst 2, 1) := d_of dm_L_law_c175 21 (q := (378, .iconst 2, 1)) rfl
theorem dL_law_379 : decode cL_law 379 = .ok (.iadd, 1) := d_of dm_L_law_c175 22 (q := (379, .iadd, 1)) rfl
theorem dL_law_380 : decode cL_law 380 = .ok (.iaload, 1) := d_of dm_L_law_c175 23 (q := (380, .iaload, 1)) rfl
theorem dL_law_381 : decode cL_law 381 = .ok (.invokevirtual 48, 3) := d_of dm_L_law_c175 24 (q := (381, .invokevirtual 48, 3)) rfl
def dl_L_law_c200 : List (Nat × Instr × Nat) := [(384, .aload_n 2, 1), (385, .aload_n 0, 1), (386, .iload_n 3, 1), (387, .iconst 1, 1), (388, .iadd, 1), (389, .iaload, 1), (390, .aload_n 0, 1), (391, .iload_n 3, 1), (392, .iconst 2, 1), (393, .iadd, 1), (394, .iaload, 1), (395, .invokevirtual 51, 3), (398, .if_icmp .eq 399, 3), (401, .iconst 0, 1), (402, .ireturn, 1), (403, .aload_n 1, 1), (404, .aload_n 0, 1), (405, .iload_n 3, 1), (406, .iconst 1, 1), (407, .iadd, 1), (408, .iaload, 1), (409, .aload_n 0, 1), (410, .iload_n 3, 1), (411, .iconst 2, 1), (412, .iadd, 1)]
set_option maxRecDepth 100000 in
theorem dm_L_law_c200 : dl_L_law_c200.all (fun q => decide (decode cL_law q.1 = .ok q.2)) = true := by decide +kernel
theorem dL_law_384 : decode cL_law 384 = .ok (.aload_n 2, 1) := d_of dm_L_law_c200 0 (q := (384, .aload_n 2, 1)) rfl
theorem dL_law_385 : decode cL_law 385 = .ok (.aload_n 0, 1) := d_of dm_L_law_c200 1 (q := (385, .aload_n 0, 1)) rfl
theorem dL_law_386 : decode cL_law 386 = .ok (.iload_n 3, 1) := d_of dm_L_law_c200 2 (q := (386, .iload_n 3, 1)) rfl
theorem dL_law_387 : decode cL_law 387 = .ok (.iconst 1, 1) := d_of dm_L_law_c200 3 (q := (387, .iconst 1, 1)) rfl
theorem dL_law_388 : decode cL_law 388 = .ok (.iadd, 1) := d_of dm_L_law_c200 4 (q := (388, .iadd, 1)) rfl
theorem dL_law_389 : decode cL_law 389 = .ok (.iaload, 1) := d_of dm_L_law_c200 5 (q := (389, .iaload, 1)) rfl
theorem dL_law_390 : decode cL_law 390 = .ok (.aload_n 0, 1) := d_of dm_L_law_c200 6 (q := (390, .aload_n 0, 1)) rfl
theorem dL_law_391 : decode cL_law 391 = .ok (.iload_n 3, 1) := d_of dm_L_law_c200 7 (q := (391, .iload_n 3, 1)) rfl
theorem dL_law_392 : decode cL_law 392 = .ok (.iconst 2, 1) := d_of dm_L_law_c200 8 (q := (392, .iconst 2, 1)) rfl
theorem dL_law_393 : decode cL_law 393 = .ok (.iadd, 1) := d_of dm_L_law_c200 9 (q := (393, .iadd, 1)) rfl
theorem dL_law_394 : decode cL_law 394 = .ok (.iaload, 1) := d_of dm_L_law_c200 10 (q := (394, .iaload, 1)) rfl
theorem dL_law_395 : decode cL_law 395 = .ok (.invokevirtual 51, 3) := d_of dm_L_law_c200 11 (q := (395, .invokevirtual 51, 3)) rfl
theorem dL_law_398 : decode cL_law 398 = .ok (.if_icmp .eq 399, 3) := d_of dm_L_law_c200 12 (q := (398, .if_icmp .eq 399, 3)) rfl
theorem dL_law_401 : decode cL_law 401 = .ok (.iconst 0, 1) := d_of dm_L_law_c200 13 (q := (401, .iconst 0, 1)) rfl
theorem dL_law_402 : decode cL_law 402 = .ok (.ireturn, 1) := d_of dm_L_law_c200 14 (q := (402, .ireturn, 1)) rfl
theorem dL_law_403 : decode cL_law 403 = .ok (.aload_n 1, 1) := d_of dm_L_law_c200 15 (q := (403, .aload_n 1, 1)) rfl
theorem dL_law_404 : decode cL_law 404 = .ok (.aload_n 0, 1) := d_of dm_L_law_c200 16 (q := (404, .aload_n 0, 1)) rfl
theorem dL_law_405 : decode cL_law 405 = .ok (.iload_n 3, 1) := d_of dm_L_law_c200 17 (q := (405, .iload_n 3, 1)) rfl
theorem dL_law_406 : decode cL_law 406 = .ok (.iconst 1, 1) := d_of dm_L_law_c200 18 (q := (406, .iconst 1, 1)) rfl
theorem dL_law_407 : decode cL_law 407 = .ok (.iadd, 1) := d_of dm_L_law_c200 19 (q := (407, .iadd, 1)) rfl
theorem dL_law_408 : decode cL_law 408 = .ok (.iaload, 1) := d_of dm_L_law_c200 20 (q := (408, .iaload, 1)) rfl
theorem dL_law_409 : decode cL_law 409 = .ok (.aload_n 0, 1) := d_of dm_L_law_c200 21 (q := (409, .aload_n 0, 1)) rfl
theorem dL_law_410 : decode cL_law 410 = .ok (.iload_n 3, 1) := d_of dm_L_law_c200 22 (q := (410, .iload_n 3, 1)) rfl
theorem dL_law_411 : decode cL_law 411 = .ok (.iconst 2, 1) := d_of dm_L_law_c200 23 (q := (411, .iconst 2, 1)) rfl
theorem dL_law_412 : decode cL_law 412 = .ok (.iadd, 1) := d_of dm_L_law_c200 24 (q := (412, .iadd, 1)) rfl
def dl_L_law_c225 : List (Nat × Instr × Nat) := [(413, .iaload, 1), (414, .invokevirtual 52, 3), (417, .aload_n 2, 1), (418, .aload_n 0, 1), (419, .iload_n 3, 1), (420, .iconst 1, 1), (421, .iadd, 1), (422, .iaload, 1), (423, .aload_n 0, 1), (424, .iload_n 3, 1), (425, .iconst 2, 1), (426, .iadd, 1), (427, .iaload, 1), (428, .invokevirtual 55, 3), (431, .if_icmp .eq 366, 3), (434, .iconst 0, 1), (435, .ireturn, 1), (436, .aload_n 1, 1), (437, .aload_n 0, 1), (438, .iload_n 3, 1), (439, .iconst 1, 1), (440, .iadd, 1), (441, .iaload, 1), (442, .aload_n 0, 1), (443, .iload_n 3, 1)]
set_option maxRecDepth 100000 in
theorem dm_L_law_c225 : dl_L_law_c225.all (fun q => decide (decode cL_law q.1 = .ok q.2)) = true := by decide +kernel
theorem dL_law_413 : decode cL_law 413 = .ok (.iaload, 1) := d_of dm_L_law_c225 0 (q := (413, .iaload, 1)) rfl
theorem dL_law_414 : decode cL_law 414 = .ok (.invokevirtual 52, 3) := d_of dm_L_law_c225 1 (q := (414, .invokevirtual 52, 3)) rfl
theorem dL_law_417 : decode cL_law 417 = .ok (.aload_n 2, 1) := d_of dm_L_law_c225 2 (q := (417, .aload_n 2, 1)) rfl
theorem dL_law_418 : decode cL_law 418 = .ok (.aload_n 0, 1) := d_of dm_L_law_c225 3 (q := (418, .aload_n 0, 1)) rfl
theorem dL_law_419 : decode cL_law 419 = .ok (.iload_n 3, 1) := d_of dm_L_law_c225 4 (q := (419, .iload_n 3, 1)) rfl
theorem dL_law_420 : decode cL_law 420 = .ok (.iconst 1, 1) := d_of dm_L_law_c225 5 (q := (420, .iconst 1, 1)) rfl
theorem dL_law_421 : decode cL_law 421 = .ok (.iadd, 1) := d_of dm_L_law_c225 6 (q := (421, .iadd, 1)) rfl
theorem dL_law_422 : decode cL_law 422 = .ok (.iaload, 1) := d_of dm_L_law_c225 7 (q := (422, .iaload, 1)) rfl
theorem dL_law_423 : decode cL_law 423 = .ok (.aload_n 0, 1) := d_of dm_L_law_c225 8 (q := (423, .aload_n 0, 1)) rfl
theorem dL_law_424 : decode cL_law 424 = .ok (.iload_n 3, 1) := d_of dm_L_law_c225 9 (q := (424, .iload_n 3, 1)) rfl
theorem dL_law_425 : decode cL_law 425 = .ok (.iconst 2, 1) := d_of dm_L_law_c225 10 (q := (425, .iconst 2, 1)) rfl
theorem dL_law_426 : decode cL_law 426 = .ok (.iadd, 1) := d_of dm_L_law_c225 11 (q := (426, .iadd, 1)) rfl
theorem dL_law_427 : decode cL_law 427 = .ok (.iaload, 1) := d_of dm_L_law_c225 12 (q := (427, .iaload, 1)) rfl
theorem dL_law_428 : decode cL_law 428 = .ok (.invokevirtual 55, 3) := d_of dm_L_law_c225 13 (q := (428, .invokevirtual 55, 3)) rfl
theorem dL_law_431 : decode cL_law 431 = .ok (.if_icmp .eq 366, 3) := d_of dm_L_law_c225 14 (q := (431, .if_icmp .eq 366, 3)) rfl
theorem dL_law_434 : decode cL_law 434 = .ok (.iconst 0, 1) := d_of dm_L_law_c225 15 (q := (434, .iconst 0, 1)) rfl
theorem dL_law_435 : decode cL_law 435 = .ok (.ireturn, 1) := d_of dm_L_law_c225 16 (q := (435, .ireturn, 1)) rfl
theorem dL_law_436 : decode cL_law 436 = .ok (.aload_n 1, 1) := d_of dm_L_law_c225 17 (q := (436, .aload_n 1, 1)) rfl
theorem dL_law_437 : decode cL_law 437 = .ok (.aload_n 0, 1) := d_of dm_L_law_c225 18 (q := (437, .aload_n 0, 1)) rfl
theorem dL_law_438 : decode cL_law 438 = .ok (.iload_n 3, 1) := d_of dm_L_law_c225 19 (q := (438, .iload_n 3, 1)) rfl
theorem dL_law_439 : decode cL_law 439 = .ok (.iconst 1, 1) := d_of dm_L_law_c225 20 (q := (439, .iconst 1, 1)) rfl
theorem dL_law_440 : decode cL_law 440 = .ok (.iadd, 1) := d_of dm_L_law_c225 21 (q := (440, .iadd, 1)) rfl
theorem dL_law_441 : decode cL_law 441 = .ok (.iaload, 1) := d_of dm_L_law_c225 22 (q := (441, .iaload, 1)) rfl
theorem dL_law_442 : decode cL_law 442 = .ok (.aload_n 0, 1) := d_of dm_L_law_c225 23 (q := (442, .aload_n 0, 1)) rfl
theorem dL_law_443 : decode cL_law 443 = .ok (.iload_n 3, 1) := d_of dm_L_law_c225 24 (q := (443, .iload_n 3, 1)) rfl
def dl_L_law_c250 : List (Nat × Instr × Nat) := [(444, .iconst 2, 1), (445, .iadd, 1), (446, .iaload, 1), (447, .invokevirtual 56, 3), (450, .aload_n 2, 1), (451, .aload_n 0, 1), (452, .iload_n 3, 1), (453, .iconst 1, 1), (454, .iadd, 1), (455, .iaload, 1), (456, .aload_n 0, 1), (457, .iload_n 3, 1), (458, .iconst 2, 1), (459, .iadd, 1), (460, .iaload, 1), (461, .invokevirtual 59, 3), (464, .if_icmp .eq 333, 3), (467, .iconst 0, 1), (468, .ireturn, 1), (469, .aload_n 1, 1), (470, .invokevirtual 60, 3), (473, .aload_n 2, 1), (474, .invokevirtual 63, 3), (477, .if_icmp .eq 320, 3), (480, .iconst 0, 1)]
set_option maxRecDepth 100000 in
theorem dm_L_law_c250 : dl_L_law_c250.all (fun q => decide (decode cL_law q.1 = .ok q.2)) = true := by decide +kernel
theorem dL_law_444 : decode cL_law 444 = .ok (.iconst 2, 1) := d_of dm_L_law_c250 0 (q := (444, .iconst 2, 1)) rfl
theorem dL_law_445 : decode cL_law 445 = .ok (.iadd, 1) := d_of dm_L_law_c250 1 (q := (445, .iadd, 1)) rfl
theorem dL_law_446 : decode cL_law 446 = .ok (.iaload, 1) := d_of dm_L_law_c250 2 (q := (446, .iaload, 1)) rfl
theorem dL_law_447 : decode cL_law 447 = .ok (.invokevirtual 56, 3) := d_of dm_L_law_c250 3 (q := (447, .invokevirtual 56, 3)) rfl
theorem dL_law_450 : decode cL_law 450 = .ok (.aload_n 2, 1) := d_of dm_L_law_c250 4 (q := (450, .aload_n 2, 1)) rfl
theorem dL_law_451 : decode cL_law 451 = .ok (.aload_n 0, 1) := d_of dm_L_law_c250 5 (q := (451, .aload_n 0, 1)) rfl
theorem dL_law_452 : decode cL_law 452 = .ok (.iload_n 3, 1) := d_of dm_L_law_c250 6 (q := (452, .iload_n 3, 1)) rfl
theorem dL_law_453 : decode cL_law 453 = .ok (.iconst 1, 1) := d_of dm_L_law_c250 7 (q := (453, .iconst 1, 1)) rfl
theorem dL_law_454 : decode cL_law 454 = .ok (.iadd, 1) := d_of dm_L_law_c250 8 (q := (454, .iadd, 1)) rfl
theorem dL_law_455 : decode cL_law 455 = .ok (.iaload, 1) := d_of dm_L_law_c250 9 (q := (455, .iaload, 1)) rfl
theorem dL_law_456 : decode cL_law 456 = .ok (.aload_n 0, 1) := d_of dm_L_law_c250 10 (q := (456, .aload_n 0, 1)) rfl
theorem dL_law_457 : decode cL_law 457 = .ok (.iload_n 3, 1) := d_of dm_L_law_c250 11 (q := (457, .iload_n 3, 1)) rfl
theorem dL_law_458 : decode cL_law 458 = .ok (.iconst 2, 1) := d_of dm_L_law_c250 12 (q := (458, .iconst 2, 1)) rfl
theorem dL_law_459 : decode cL_law 459 = .ok (.iadd, 1) := d_of dm_L_law_c250 13 (q := (459, .iadd, 1)) rfl
theorem dL_law_460 : decode cL_law 460 = .ok (.iaload, 1) := d_of dm_L_law_c250 14 (q := (460, .iaload, 1)) rfl
theorem dL_law_461 : decode cL_law 461 = .ok (.invokevirtual 59, 3) := d_of dm_L_law_c250 15 (q := (461, .invokevirtual 59, 3)) rfl
theorem dL_law_464 : decode cL_law 464 = .ok (.if_icmp .eq 333, 3) := d_of dm_L_law_c250 16 (q := (464, .if_icmp .eq 333, 3)) rfl
theorem dL_law_467 : decode cL_law 467 = .ok (.iconst 0, 1) := d_of dm_L_law_c250 17 (q := (467, .iconst 0, 1)) rfl
theorem dL_law_468 : decode cL_law 468 = .ok (.ireturn, 1) := d_of dm_L_law_c250 18 (q := (468, .ireturn, 1)) rfl
theorem dL_law_469 : decode cL_law 469 = .ok (.aload_n 1, 1) := d_of dm_L_law_c250 19 (q := (469, .aload_n 1, 1)) rfl
theorem dL_law_470 : decode cL_law 470 = .ok (.invokevirtual 60, 3) := d_of dm_L_law_c250 20 (q := (470, .invokevirtual 60, 3)) rfl
theorem dL_law_473 : decode cL_law 473 = .ok (.aload_n 2, 1) := d_of dm_L_law_c250 21 (q := (473, .aload_n 2, 1)) rfl
theorem dL_law_474 : decode cL_law 474 = .ok (.invokevirtual 63, 3) := d_of dm_L_law_c250 22 (q := (474, .invokevirtual 63, 3)) rfl
theorem dL_law_477 : decode cL_law 477 = .ok (.if_icmp .eq 320, 3) := d_of dm_L_law_c250 23 (q := (477, .if_icmp .eq 320, 3)) rfl
theorem dL_law_480 : decode cL_law 480 = .ok (.iconst 0, 1) := d_of dm_L_law_c250 24 (q := (480, .iconst 0, 1)) rfl
def dl_L_law_c275 : List (Nat × Instr × Nat) := [(481, .ireturn, 1), (482, .aload_n 1, 1), (483, .invokevirtual 64, 3), (486, .aload_n 2, 1), (487, .invokevirtual 67, 3), (490, .if_icmp .eq 307, 3), (493, .iconst 0, 1), (494, .ireturn, 1), (495, .aload_n 1, 1), (496, .aload_n 0, 1), (497, .iload_n 3, 1), (498, .iconst 1, 1), (499, .iadd, 1), (500, .iaload, 1), (501, .invokevirtual 68, 3), (504, .aload_n 2, 1), (505, .aload_n 0, 1), (506, .iload_n 3, 1), (507, .iconst 1, 1), (508, .iadd, 1), (509, .iaload, 1), (510, .invokevirtual 71, 3), (513, .if_icmp .eq 284, 3), (516, .iconst 0, 1), (517, .ireturn, 1)]
set_option maxRecDepth 100000 in
theorem dm_L_law_c275 : dl_L_law_c275.all (fun q => decide (decode cL_law q.1 = .ok q.2)) = true := by decide +kernel
theorem dL_law_481 : decode cL_law 481 = .ok (.ireturn, 1) := d_of dm_L_law_c275 0 (q := (481, .ireturn, 1)) rfl
theorem dL_law_482 : decode cL_law 482 = .ok (.aload_n 1, 1) := d_of dm_L_law_c275 1 (q := (482, .aload_n 1, 1)) rfl
theorem dL_law_483 : decode cL_law 483 = .ok (.invokevirtual 64, 3) := d_of dm_L_law_c275 2 (q := (483, .invokevirtual 64, 3)) rfl
theorem dL_law_486 : decode cL_law 486 = .ok (.aload_n 2, 1) := d_of dm_L_law_c275 3 (q := (486, .aload_n 2, 1)) rfl
theorem dL_law_487 : decode cL_law 487 = .ok (.invokevirtual 67, 3) := d_of dm_L_law_c275 4 (q := (487, .invokevirtual 67, 3)) rfl
theorem dL_law_490 : decode cL_law 490 = .ok (.if_icmp .eq 307, 3) := d_of dm_L_law_c275 5 (q := (490, .if_icmp .eq 307, 3)) rfl
theorem dL_law_493 : decode cL_law 493 = .ok (.iconst 0, 1) := d_of dm_L_law_c275 6 (q := (493, .iconst 0, 1)) rfl
theorem dL_law_494 : decode cL_law 494 = .ok (.ireturn, 1) := d_of dm_L_law_c275 7 (q := (494, .ireturn, 1)) rfl
theorem dL_law_495 : decode cL_law 495 = .ok (.aload_n 1, 1) := d_of dm_L_law_c275 8 (q := (495, .aload_n 1, 1)) rfl
theorem dL_law_496 : decode cL_law 496 = .ok (.aload_n 0, 1) := d_of dm_L_law_c275 9 (q := (496, .aload_n 0, 1)) rfl
theorem dL_law_497 : decode cL_law 497 = .ok (.iload_n 3, 1) := d_of dm_L_law_c275 10 (q := (497, .iload_n 3, 1)) rfl
theorem dL_law_498 : decode cL_law 498 = .ok (.iconst 1, 1) := d_of dm_L_law_c275 11 (q := (498, .iconst 1, 1)) rfl
theorem dL_law_499 : decode cL_law 499 = .ok (.iadd, 1) := d_of dm_L_law_c275 12 (q := (499, .iadd, 1)) rfl
theorem dL_law_500 : decode cL_law 500 = .ok (.iaload, 1) := d_of dm_L_law_c275 13 (q := (500, .iaload, 1)) rfl
theorem dL_law_501 : decode cL_law 501 = .ok (.invokevirtual 68, 3) := d_of dm_L_law_c275 14 (q := (501, .invokevirtual 68, 3)) rfl
theorem dL_law_504 : decode cL_law 504 = .ok (.aload_n 2, 1) := d_of dm_L_law_c275 15 (q := (504, .aload_n 2, 1)) rfl
theorem dL_law_505 : decode cL_law 505 = .ok (.aload_n 0, 1) := d_of dm_L_law_c275 16 (q := (505, .aload_n 0, 1)) rfl
theorem dL_law_506 : decode cL_law 506 = .ok (.iload_n 3, 1) := d_of dm_L_law_c275 17 (q := (506, .iload_n 3, 1)) rfl
theorem dL_law_507 : decode cL_law 507 = .ok (.iconst 1, 1) := d_of dm_L_law_c275 18 (q := (507, .iconst 1, 1)) rfl
theorem dL_law_508 : decode cL_law 508 = .ok (.iadd, 1) := d_of dm_L_law_c275 19 (q := (508, .iadd, 1)) rfl
theorem dL_law_509 : decode cL_law 509 = .ok (.iaload, 1) := d_of dm_L_law_c275 20 (q := (509, .iaload, 1)) rfl
theorem dL_law_510 : decode cL_law 510 = .ok (.invokevirtual 71, 3) := d_of dm_L_law_c275 21 (q := (510, .invokevirtual 71, 3)) rfl
theorem dL_law_513 : decode cL_law 513 = .ok (.if_icmp .eq 284, 3) := d_of dm_L_law_c275 22 (q := (513, .if_icmp .eq 284, 3)) rfl
theorem dL_law_516 : decode cL_law 516 = .ok (.iconst 0, 1) := d_of dm_L_law_c275 23 (q := (516, .iconst 0, 1)) rfl
theorem dL_law_517 : decode cL_law 517 = .ok (.ireturn, 1) := d_of dm_L_law_c275 24 (q := (517, .ireturn, 1)) rfl
def dl_L_law_c300 : List (Nat × Instr × Nat) := [(518, .aload_n 1, 1), (519, .aload_n 0, 1), (520, .iload_n 3, 1), (521, .iconst 1, 1), (522, .iadd, 1), (523, .iaload, 1), (524, .invokevirtual 72, 3), (527, .aload_n 2, 1), (528, .aload_n 0, 1), (529, .iload_n 3, 1), (530, .iconst 1, 1), (531, .iadd, 1), (532, .iaload, 1), (533, .invokevirtual 75, 3), (536, .if_icmp .eq 261, 3), (539, .iconst 0, 1), (540, .ireturn, 1), (541, .aload_n 1, 1), (542, .aload_n 0, 1), (543, .iload_n 3, 1), (544, .iconst 1, 1), (545, .iadd, 1), (546, .iaload, 1), (547, .invokevirtual 76, 3), (550, .aload_n 2, 1)]
set_option maxRecDepth 100000 in
theorem dm_L_law_c300 : dl_L_law_c300.all (fun q => decide (decode cL_law q.1 = .ok q.2)) = true := by decide +kernel
theorem dL_law_518 : decode cL_law 518 = .ok (.aload_n 1, 1) := d_of dm_L_law_c300 0 (q := (518, .aload_n 1, 1)) rfl
theorem dL_law_519 : decode cL_law 519 = .ok (.aload_n 0, 1) := d_of dm_L_law_c300 1 (q := (519, .aload_n 0, 1)) rfl
theorem dL_law_520 : decode cL_law 520 = .ok (.iload_n 3, 1) := d_of dm_L_law_c300 2 (q := (520, .iload_n 3, 1)) rfl
theorem dL_law_521 : decode cL_law 521 = .ok (.iconst 1, 1) := d_of dm_L_law_c300 3 (q := (521, .iconst 1, 1)) rfl
theorem dL_law_522 : decode cL_law 522 = .ok (.iadd, 1) := d_of dm_L_law_c300 4 (q := (522, .iadd, 1)) rfl
theorem dL_law_523 : decode cL_law 523 = .ok (.iaload, 1) := d_of dm_L_law_c300 5 (q := (523, .iaload, 1)) rfl
theorem dL_law_524 : decode cL_law 524 = .ok (.invokevirtual 72, 3) := d_of dm_L_law_c300 6 (q := (524, .invokevirtual 72, 3)) rfl
theorem dL_law_527 : decode cL_law 527 = .ok (.aload_n 2, 1) := d_of dm_L_law_c300 7 (q := (527, .aload_n 2, 1)) rfl
theorem dL_law_528 : decode cL_law 528 = .ok (.aload_n 0, 1) := d_of dm_L_law_c300 8 (q := (528, .aload_n 0, 1)) rfl
theorem dL_law_529 : decode cL_law 529 = .ok (.iload_n 3, 1) := d_of dm_L_law_c300 9 (q := (529, .iload_n 3, 1)) rfl
theorem dL_law_530 : decode cL_law 530 = .ok (.iconst 1, 1) := d_of dm_L_law_c300 10 (q := (530, .iconst 1, 1)) rfl
theorem dL_law_531 : decode cL_law 531 = .ok (.iadd, 1) := d_of dm_L_law_c300 11 (q := (531, .iadd, 1)) rfl
theorem dL_law_532 : decode cL_law 532 = .ok (.iaload, 1) := d_of dm_L_law_c300 12 (q := (532, .iaload, 1)) rfl
theorem dL_law_533 : decode cL_law 533 = .ok (.invokevirtual 75, 3) := d_of dm_L_law_c300 13 (q := (533, .invokevirtual 75, 3)) rfl
theorem dL_law_536 : decode cL_law 536 = .ok (.if_icmp .eq 261, 3) := d_of dm_L_law_c300 14 (q := (536, .if_icmp .eq 261, 3)) rfl
theorem dL_law_539 : decode cL_law 539 = .ok (.iconst 0, 1) := d_of dm_L_law_c300 15 (q := (539, .iconst 0, 1)) rfl
theorem dL_law_540 : decode cL_law 540 = .ok (.ireturn, 1) := d_of dm_L_law_c300 16 (q := (540, .ireturn, 1)) rfl
theorem dL_law_541 : decode cL_law 541 = .ok (.aload_n 1, 1) := d_of dm_L_law_c300 17 (q := (541, .aload_n 1, 1)) rfl
theorem dL_law_542 : decode cL_law 542 = .ok (.aload_n 0, 1) := d_of dm_L_law_c300 18 (q := (542, .aload_n 0, 1)) rfl
theorem dL_law_543 : decode cL_law 543 = .ok (.iload_n 3, 1) := d_of dm_L_law_c300 19 (q := (543, .iload_n 3, 1)) rfl
theorem dL_law_544 : decode cL_law 544 = .ok (.iconst 1, 1) := d_of dm_L_law_c300 20 (q := (544, .iconst 1, 1)) rfl
theorem dL_law_545 : decode cL_law 545 = .ok (.iadd, 1) := d_of dm_L_law_c300 21 (q := (545, .iadd, 1)) rfl
theorem dL_law_546 : decode cL_law 546 = .ok (.iaload, 1) := d_of dm_L_law_c300 22 (q := (546, .iaload, 1)) rfl
theorem dL_law_547 : decode cL_law 547 = .ok (.invokevirtual 76, 3) := d_of dm_L_law_c300 23 (q := (547, .invokevirtual 76, 3)) rfl
theorem dL_law_550 : decode cL_law 550 = .ok (.aload_n 2, 1) := d_of dm_L_law_c300 24 (q := (550, .aload_n 2, 1)) rfl
def dl_L_law_c325 : List (Nat × Instr × Nat) := [(551, .aload_n 0, 1), (552, .iload_n 3, 1), (553, .iconst 1, 1), (554, .iadd, 1), (555, .iaload, 1), (556, .invokevirtual 79, 3), (559, .if_icmp .eq 238, 3), (562, .iconst 0, 1), (563, .ireturn, 1), (564, .aload_n 1, 1), (565, .aload_n 0, 1), (566, .iload_n 3, 1), (567, .iconst 1, 1), (568, .iadd, 1), (569, .iaload, 1), (570, .invokevirtual 80, 3), (573, .aload_n 2, 1), (574, .aload_n 0, 1), (575, .iload_n 3, 1), (576, .iconst 1, 1), (577, .iadd, 1), (578, .iaload, 1), (579, .invokevirtual 83, 3), (582, .if_icmp .eq 215, 3), (585, .iconst 0, 1)]
set_option maxRecDepth 100000 in
theorem dm_L_law_c325 : dl_L_law_c325.all (fun q => decide (decode cL_law q.1 = .ok q.2)) = true := by decide +kernel
theorem dL_law_551 : decode cL_law 551 = .ok (.aload_n 0, 1) := d_of dm_L_law_c325 0 (q := (551, .aload_n 0, 1)) rfl
theorem dL_law_552 : decode cL_law 552 = .ok (.iload_n 3, 1) := d_of dm_L_law_c325 1 (q := (552, .iload_n 3, 1)) rfl
theorem dL_law_553 : decode cL_law 553 = .ok (.iconst 1, 1) := d_of dm_L_law_c325 2 (q := (553, .iconst 1, 1)) rfl
theorem dL_law_554 : decode cL_law 554 = .ok (.iadd, 1) := d_of dm_L_law_c325 3 (q := (554, .iadd, 1)) rfl
theorem dL_law_555 : decode cL_law 555 = .ok (.iaload, 1) := d_of dm_L_law_c325 4 (q := (555, .iaload, 1)) rfl
theorem dL_law_556 : decode cL_law 556 = .ok (.invokevirtual 79, 3) := d_of dm_L_law_c325 5 (q := (556, .invokevirtual 79, 3)) rfl
theorem dL_law_559 : decode cL_law 559 = .ok (.if_icmp .eq 238, 3) := d_of dm_L_law_c325 6 (q := (559, .if_icmp .eq 238, 3)) rfl
theorem dL_law_562 : decode cL_law 562 = .ok (.iconst 0, 1) := d_of dm_L_law_c325 7 (q := (562, .iconst 0, 1)) rfl
theorem dL_law_563 : decode cL_law 563 = .ok (.ireturn, 1) := d_of dm_L_law_c325 8 (q := (563, .ireturn, 1)) rfl
theorem dL_law_564 : decode cL_law 564 = .ok (.aload_n 1, 1) := d_of dm_L_law_c325 9 (q := (564, .aload_n 1, 1)) rfl
theorem dL_law_565 : decode cL_law 565 = .ok (.aload_n 0, 1) := d_of dm_L_law_c325 10 (q := (565, .aload_n 0, 1)) rfl
theorem dL_law_566 : decode cL_law 566 = .ok (.iload_n 3, 1) := d_of dm_L_law_c325 11 (q := (566, .iload_n 3, 1)) rfl
theorem dL_law_567 : decode cL_law 567 = .ok (.iconst 1, 1) := d_of dm_L_law_c325 12 (q := (567, .iconst 1, 1)) rfl
theorem dL_law_568 : decode cL_law 568 = .ok (.iadd, 1) := d_of dm_L_law_c325 13 (q := (568, .iadd, 1)) rfl
theorem dL_law_569 : decode cL_law 569 = .ok (.iaload, 1) := d_of dm_L_law_c325 14 (q := (569, .iaload, 1)) rfl
theorem dL_law_570 : decode cL_law 570 = .ok (.invokevirtual 80, 3) := d_of dm_L_law_c325 15 (q := (570, .invokevirtual 80, 3)) rfl
theorem dL_law_573 : decode cL_law 573 = .ok (.aload_n 2, 1) := d_of dm_L_law_c325 16 (q := (573, .aload_n 2, 1)) rfl
theorem dL_law_574 : decode cL_law 574 = .ok (.aload_n 0, 1) := d_of dm_L_law_c325 17 (q := (574, .aload_n 0, 1)) rfl
theorem dL_law_575 : decode cL_law 575 = .ok (.iload_n 3, 1) := d_of dm_L_law_c325 18 (q := (575, .iload_n 3, 1)) rfl
theorem dL_law_576 : decode cL_law 576 = .ok (.iconst 1, 1) := d_of dm_L_law_c325 19 (q := (576, .iconst 1, 1)) rfl
theorem dL_law_577 : decode cL_law 577 = .ok (.iadd, 1) := d_of dm_L_law_c325 20 (q := (577, .iadd, 1)) rfl
theorem dL_law_578 : decode cL_law 578 = .ok (.iaload, 1) := d_of dm_L_law_c325 21 (q := (578, .iaload, 1)) rfl
theorem dL_law_579 : decode cL_law 579 = .ok (.invokevirtual 83, 3) := d_of dm_L_law_c325 22 (q := (579, .invokevirtual 83, 3)) rfl
theorem dL_law_582 : decode cL_law 582 = .ok (.if_icmp .eq 215, 3) := d_of dm_L_law_c325 23 (q := (582, .if_icmp .eq 215, 3)) rfl
theorem dL_law_585 : decode cL_law 585 = .ok (.iconst 0, 1) := d_of dm_L_law_c325 24 (q := (585, .iconst 0, 1)) rfl
def dl_L_law_c350 : List (Nat × Instr × Nat) := [(586, .ireturn, 1), (587, .aload_n 1, 1), (588, .aload_n 0, 1), (589, .iload_n 3, 1), (590, .iconst 1, 1), (591, .iadd, 1), (592, .iaload, 1), (593, .invokevirtual 84, 3), (596, .aload_n 2, 1), (597, .aload_n 0, 1), (598, .iload_n 3, 1), (599, .iconst 1, 1), (600, .iadd, 1), (601, .iaload, 1), (602, .invokevirtual 87, 3), (605, .if_icmp .eq 192, 3), (608, .iconst 0, 1), (609, .ireturn, 1), (610, .aload_n 1, 1), (611, .invokevirtual 88, 3), (614, .aload_n 2, 1), (615, .invokevirtual 91, 3), (618, .if_icmp .eq 179, 3), (621, .iconst 0, 1), (622, .ireturn, 1)]
set_option maxRecDepth 100000 in
theorem dm_L_law_c350 : dl_L_law_c350.all (fun q => decide (decode cL_law q.1 = .ok q.2)) = true := by decide +kernel
theorem dL_law_586 : decode cL_law 586 = .ok (.ireturn, 1) := d_of dm_L_law_c350 0 (q := (586, .ireturn, 1)) rfl
theorem dL_law_587 : decode cL_law 587 = .ok (.aload_n 1, 1) := d_of dm_L_law_c350 1 (q := (587, .aload_n 1, 1)) rfl
theorem dL_law_588 : decode cL_law 588 = .ok (.aload_n 0, 1) := d_of dm_L_law_c350 2 (q := (588, .aload_n 0, 1)) rfl
theorem dL_law_589 : decode cL_law 589 = .ok (.iload_n 3, 1) := d_of dm_L_law_c350 3 (q := (589, .iload_n 3, 1)) rfl
theorem dL_law_590 : decode cL_law 590 = .ok (.iconst 1, 1) := d_of dm_L_law_c350 4 (q := (590, .iconst 1, 1)) rfl
theorem dL_law_591 : decode cL_law 591 = .ok (.iadd, 1) := d_of dm_L_law_c350 5 (q := (591, .iadd, 1)) rfl
theorem dL_law_592 : decode cL_law 592 = .ok (.iaload, 1) := d_of dm_L_law_c350 6 (q := (592, .iaload, 1)) rfl
theorem dL_law_593 : decode cL_law 593 = .ok (.invokevirtual 84, 3) := d_of dm_L_law_c350 7 (q := (593, .invokevirtual 84, 3)) rfl
theorem dL_law_596 : decode cL_law 596 = .ok (.aload_n 2, 1) := d_of dm_L_law_c350 8 (q := (596, .aload_n 2, 1)) rfl
theorem dL_law_597 : decode cL_law 597 = .ok (.aload_n 0, 1) := d_of dm_L_law_c350 9 (q := (597, .aload_n 0, 1)) rfl
theorem dL_law_598 : decode cL_law 598 = .ok (.iload_n 3, 1) := d_of dm_L_law_c350 10 (q := (598, .iload_n 3, 1)) rfl
theorem dL_law_599 : decode cL_law 599 = .ok (.iconst 1, 1) := d_of dm_L_law_c350 11 (q := (599, .iconst 1, 1)) rfl
theorem dL_law_600 : decode cL_law 600 = .ok (.iadd, 1) := d_of dm_L_law_c350 12 (q := (600, .iadd, 1)) rfl
theorem dL_law_601 : decode cL_law 601 = .ok (.iaload, 1) := d_of dm_L_law_c350 13 (q := (601, .iaload, 1)) rfl
theorem dL_law_602 : decode cL_law 602 = .ok (.invokevirtual 87, 3) := d_of dm_L_law_c350 14 (q := (602, .invokevirtual 87, 3)) rfl
theorem dL_law_605 : decode cL_law 605 = .ok (.if_icmp .eq 192, 3) := d_of dm_L_law_c350 15 (q := (605, .if_icmp .eq 192, 3)) rfl
theorem dL_law_608 : decode cL_law 608 = .ok (.iconst 0, 1) := d_of dm_L_law_c350 16 (q := (608, .iconst 0, 1)) rfl
theorem dL_law_609 : decode cL_law 609 = .ok (.ireturn, 1) := d_of dm_L_law_c350 17 (q := (609, .ireturn, 1)) rfl
theorem dL_law_610 : decode cL_law 610 = .ok (.aload_n 1, 1) := d_of dm_L_law_c350 18 (q := (610, .aload_n 1, 1)) rfl
theorem dL_law_611 : decode cL_law 611 = .ok (.invokevirtual 88, 3) := d_of dm_L_law_c350 19 (q := (611, .invokevirtual 88, 3)) rfl
theorem dL_law_614 : decode cL_law 614 = .ok (.aload_n 2, 1) := d_of dm_L_law_c350 20 (q := (614, .aload_n 2, 1)) rfl
theorem dL_law_615 : decode cL_law 615 = .ok (.invokevirtual 91, 3) := d_of dm_L_law_c350 21 (q := (615, .invokevirtual 91, 3)) rfl
theorem dL_law_618 : decode cL_law 618 = .ok (.if_icmp .eq 179, 3) := d_of dm_L_law_c350 22 (q := (618, .if_icmp .eq 179, 3)) rfl
theorem dL_law_621 : decode cL_law 621 = .ok (.iconst 0, 1) := d_of dm_L_law_c350 23 (q := (621, .iconst 0, 1)) rfl
theorem dL_law_622 : decode cL_law 622 = .ok (.ireturn, 1) := d_of dm_L_law_c350 24 (q := (622, .ireturn, 1)) rfl
def dl_L_law_c375 : List (Nat × Instr × Nat) := [(623, .aload_n 1, 1), (624, .aload_n 0, 1), (625, .iload_n 3, 1), (626, .iconst 1, 1), (627, .iadd, 1), (628, .iaload, 1), (629, .aload_n 0, 1), (630, .iload_n 3, 1), (631, .iconst 2, 1), (632, .iadd, 1), (633, .iaload, 1), (634, .invokevirtual 92, 3), (637, .aload_n 2, 1), (638, .aload_n 0, 1), (639, .iload_n 3, 1), (640, .iconst 1, 1), (641, .iadd, 1), (642, .iaload, 1), (643, .aload_n 0, 1), (644, .iload_n 3, 1), (645, .iconst 2, 1), (646, .iadd, 1), (647, .iaload, 1), (648, .invokevirtual 95, 3), (651, .if_icmp .eq 146, 3)]
set_option maxRecDepth 100000 in
theorem dm_L_law_c375 : dl_L_law_c375.all (fun q => decide (decode cL_law q.1 = .ok q.2)) = true := by decide +kernel
theorem dL_law_623 : decode cL_law 623 = .ok (.aload_n 1, 1) := d_of dm_L_law_c375 0 (q := (623, .aload_n 1, 1)) rfl
theorem dL_law_624 : decode cL_law 624 = .ok (.aload_n 0, 1) := d_of dm_L_law_c375 1 (q := (624, .aload_n 0, 1)) rfl
theorem dL_law_625 : decode cL_law 625 = .ok (.iload_n 3, 1) := d_of dm_L_law_c375 2 (q := (625, .iload_n 3, 1)) rfl
theorem dL_law_626 : decode cL_law 626 = .ok (.iconst 1, 1) := d_of dm_L_law_c375 3 (q := (626, .iconst 1, 1)) rfl
theorem dL_law_627 : decode cL_law 627 = .ok (.iadd, 1) := d_of dm_L_law_c375 4 (q := (627, .iadd, 1)) rfl
theorem dL_law_628 : decode cL_law 628 = .ok (.iaload, 1) := d_of dm_L_law_c375 5 (q := (628, .iaload, 1)) rfl
theorem dL_law_629 : decode cL_law 629 = .ok (.aload_n 0, 1) := d_of dm_L_law_c375 6 (q := (629, .aload_n 0, 1)) rfl
theorem dL_law_630 : decode cL_law 630 = .ok (.iload_n 3, 1) := d_of dm_L_law_c375 7 (q := (630, .iload_n 3, 1)) rfl
theorem dL_law_631 : decode cL_law 631 = .ok (.iconst 2, 1) := d_of dm_L_law_c375 8 (q := (631, .iconst 2, 1)) rfl
theorem dL_law_632 : decode cL_law 632 = .ok (.iadd, 1) := d_of dm_L_law_c375 9 (q := (632, .iadd, 1)) rfl
theorem dL_law_633 : decode cL_law 633 = .ok (.iaload, 1) := d_of dm_L_law_c375 10 (q := (633, .iaload, 1)) rfl
theorem dL_law_634 : decode cL_law 634 = .ok (.invokevirtual 92, 3) := d_of dm_L_law_c375 11 (q := (634, .invokevirtual 92, 3)) rfl
theorem dL_law_637 : decode cL_law 637 = .ok (.aload_n 2, 1) := d_of dm_L_law_c375 12 (q := (637, .aload_n 2, 1)) rfl
theorem dL_law_638 : decode cL_law 638 = .ok (.aload_n 0, 1) := d_of dm_L_law_c375 13 (q := (638, .aload_n 0, 1)) rfl
theorem dL_law_639 : decode cL_law 639 = .ok (.iload_n 3, 1) := d_of dm_L_law_c375 14 (q := (639, .iload_n 3, 1)) rfl
theorem dL_law_640 : decode cL_law 640 = .ok (.iconst 1, 1) := d_of dm_L_law_c375 15 (q := (640, .iconst 1, 1)) rfl
theorem dL_law_641 : decode cL_law 641 = .ok (.iadd, 1) := d_of dm_L_law_c375 16 (q := (641, .iadd, 1)) rfl
theorem dL_law_642 : decode cL_law 642 = .ok (.iaload, 1) := d_of dm_L_law_c375 17 (q := (642, .iaload, 1)) rfl
theorem dL_law_643 : decode cL_law 643 = .ok (.aload_n 0, 1) := d_of dm_L_law_c375 18 (q := (643, .aload_n 0, 1)) rfl
theorem dL_law_644 : decode cL_law 644 = .ok (.iload_n 3, 1) := d_of dm_L_law_c375 19 (q := (644, .iload_n 3, 1)) rfl
theorem dL_law_645 : decode cL_law 645 = .ok (.iconst 2, 1) := d_of dm_L_law_c375 20 (q := (645, .iconst 2, 1)) rfl
theorem dL_law_646 : decode cL_law 646 = .ok (.iadd, 1) := d_of dm_L_law_c375 21 (q := (646, .iadd, 1)) rfl
theorem dL_law_647 : decode cL_law 647 = .ok (.iaload, 1) := d_of dm_L_law_c375 22 (q := (647, .iaload, 1)) rfl
theorem dL_law_648 : decode cL_law 648 = .ok (.invokevirtual 95, 3) := d_of dm_L_law_c375 23 (q := (648, .invokevirtual 95, 3)) rfl
theorem dL_law_651 : decode cL_law 651 = .ok (.if_icmp .eq 146, 3) := d_of dm_L_law_c375 24 (q := (651, .if_icmp .eq 146, 3)) rfl
def dl_L_law_c400 : List (Nat × Instr × Nat) := [(654, .iconst 0, 1), (655, .ireturn, 1), (656, .aload_n 1, 1), (657, .aload_n 0, 1), (658, .iload_n 3, 1), (659, .iconst 1, 1), (660, .iadd, 1), (661, .iaload, 1), (662, .invokevirtual 96, 3), (665, .aload_n 2, 1), (666, .aload_n 0, 1), (667, .iload_n 3, 1), (668, .iconst 1, 1), (669, .iadd, 1), (670, .iaload, 1), (671, .invokevirtual 99, 3), (674, .if_icmp .eq 123, 3), (677, .iconst 0, 1), (678, .ireturn, 1), (679, .aload_n 1, 1), (680, .aload_n 0, 1), (681, .iload_n 3, 1), (682, .iconst 1, 1), (683, .iadd, 1), (684, .iaload, 1)]
set_option maxRecDepth 100000 in
theorem dm_L_law_c400 : dl_L_law_c400.all (fun q => decide (decode cL_law q.1 = .ok q.2)) = true := by decide +kernel
theorem dL_law_654 : decode cL_law 654 = .ok (.iconst 0, 1) := d_of dm_L_law_c400 0 (q := (654, .iconst 0, 1)) rfl
theorem dL_law_655 : decode cL_law 655 = .ok (.ireturn, 1) := d_of dm_L_law_c400 1 (q := (655, .ireturn, 1)) rfl
theorem dL_law_656 : decode cL_law 656 = .ok (.aload_n 1, 1) := d_of dm_L_law_c400 2 (q := (656, .aload_n 1, 1)) rfl
theorem dL_law_657 : decode cL_law 657 = .ok (.aload_n 0, 1) := d_of dm_L_law_c400 3 (q := (657, .aload_n 0, 1)) rfl
theorem dL_law_658 : decode cL_law 658 = .ok (.iload_n 3, 1) := d_of dm_L_law_c400 4 (q := (658, .iload_n 3, 1)) rfl
theorem dL_law_659 : decode cL_law 659 = .ok (.iconst 1, 1) := d_of dm_L_law_c400 5 (q := (659, .iconst 1, 1)) rfl
theorem dL_law_660 : decode cL_law 660 = .ok (.iadd, 1) := d_of dm_L_law_c400 6 (q := (660, .iadd, 1)) rfl
theorem dL_law_661 : decode cL_law 661 = .ok (.iaload, 1) := d_of dm_L_law_c400 7 (q := (661, .iaload, 1)) rfl
theorem dL_law_662 : decode cL_law 662 = .ok (.invokevirtual 96, 3) := d_of dm_L_law_c400 8 (q := (662, .invokevirtual 96, 3)) rfl
theorem dL_law_665 : decode cL_law 665 = .ok (.aload_n 2, 1) := d_of dm_L_law_c400 9 (q := (665, .aload_n 2, 1)) rfl
theorem dL_law_666 : decode cL_law 666 = .ok (.aload_n 0, 1) := d_of dm_L_law_c400 10 (q := (666, .aload_n 0, 1)) rfl
theorem dL_law_667 : decode cL_law 667 = .ok (.iload_n 3, 1) := d_of dm_L_law_c400 11 (q := (667, .iload_n 3, 1)) rfl
theorem dL_law_668 : decode cL_law 668 = .ok (.iconst 1, 1) := d_of dm_L_law_c400 12 (q := (668, .iconst 1, 1)) rfl
theorem dL_law_669 : decode cL_law 669 = .ok (.iadd, 1) := d_of dm_L_law_c400 13 (q := (669, .iadd, 1)) rfl
theorem dL_law_670 : decode cL_law 670 = .ok (.iaload, 1) := d_of dm_L_law_c400 14 (q := (670, .iaload, 1)) rfl
theorem dL_law_671 : decode cL_law 671 = .ok (.invokevirtual 99, 3) := d_of dm_L_law_c400 15 (q := (671, .invokevirtual 99, 3)) rfl
theorem dL_law_674 : decode cL_law 674 = .ok (.if_icmp .eq 123, 3) := d_of dm_L_law_c400 16 (q := (674, .if_icmp .eq 123, 3)) rfl
theorem dL_law_677 : decode cL_law 677 = .ok (.iconst 0, 1) := d_of dm_L_law_c400 17 (q := (677, .iconst 0, 1)) rfl
theorem dL_law_678 : decode cL_law 678 = .ok (.ireturn, 1) := d_of dm_L_law_c400 18 (q := (678, .ireturn, 1)) rfl
theorem dL_law_679 : decode cL_law 679 = .ok (.aload_n 1, 1) := d_of dm_L_law_c400 19 (q := (679, .aload_n 1, 1)) rfl
theorem dL_law_680 : decode cL_law 680 = .ok (.aload_n 0, 1) := d_of dm_L_law_c400 20 (q := (680, .aload_n 0, 1)) rfl
theorem dL_law_681 : decode cL_law 681 = .ok (.iload_n 3, 1) := d_of dm_L_law_c400 21 (q := (681, .iload_n 3, 1)) rfl
theorem dL_law_682 : decode cL_law 682 = .ok (.iconst 1, 1) := d_of dm_L_law_c400 22 (q := (682, .iconst 1, 1)) rfl
theorem dL_law_683 : decode cL_law 683 = .ok (.iadd, 1) := d_of dm_L_law_c400 23 (q := (683, .iadd, 1)) rfl
theorem dL_law_684 : decode cL_law 684 = .ok (.iaload, 1) := d_of dm_L_law_c400 24 (q := (684, .iaload, 1)) rfl
def dl_L_law_c425 : List (Nat × Instr × Nat) := [(685, .invokevirtual 100, 3), (688, .aload_n 2, 1), (689, .aload_n 0, 1), (690, .iload_n 3, 1), (691, .iconst 1, 1), (692, .iadd, 1), (693, .iaload, 1), (694, .invokevirtual 103, 3), (697, .if_icmp .eq 100, 3), (700, .iconst 0, 1), (701, .ireturn, 1), (702, .aload_n 1, 1), (703, .invokevirtual 104, 3), (706, .aload_n 2, 1), (707, .invokevirtual 107, 3), (710, .if_icmp .eq 87, 3), (713, .iconst 0, 1), (714, .ireturn, 1), (715, .aload_n 1, 1), (716, .aload_n 0, 1), (717, .iload_n 3, 1), (718, .iconst 1, 1), (719, .iadd, 1), (720, .iaload, 1), (721, .aload_n 0, 1)]
set_option maxRecDepth 100000 in
theorem dm_L_law_c425 : dl_L_law_c425.all (fun q => decide (decode cL_law q.1 = .ok q.2)) = true := by decide +kernel
theorem dL_law_685 : decode cL_law 685 = .ok (.invokevirtual 100, 3) := d_of dm_L_law_c425 0 (q := (685, .invokevirtual 100, 3)) rfl
theorem dL_law_688 : decode cL_law 688 = .ok (.aload_n 2, 1) := d_of dm_L_law_c425 1 (q := (688, .aload_n 2, 1)) rfl
theorem dL_law_689 : decode cL_law 689 = .ok (.aload_n 0, 1) := d_of dm_L_law_c425 2 (q := (689, .aload_n 0, 1)) rfl
theorem dL_law_690 : decode cL_law 690 = .ok (.iload_n 3, 1) := d_of dm_L_law_c425 3 (q := (690, .iload_n 3, 1)) rfl
theorem dL_law_691 : decode cL_law 691 = .ok (.iconst 1, 1) := d_of dm_L_law_c425 4 (q := (691, .iconst 1, 1)) rfl
theorem dL_law_692 : decode cL_law 692 = .ok (.iadd, 1) := d_of dm_L_law_c425 5 (q := (692, .iadd, 1)) rfl
theorem dL_law_693 : decode cL_law 693 = .ok (.iaload, 1) := d_of dm_L_law_c425 6 (q := (693, .iaload, 1)) rfl
theorem dL_law_694 : decode cL_law 694 = .ok (.invokevirtual 103, 3) := d_of dm_L_law_c425 7 (q := (694, .invokevirtual 103, 3)) rfl
theorem dL_law_697 : decode cL_law 697 = .ok (.if_icmp .eq 100, 3) := d_of dm_L_law_c425 8 (q := (697, .if_icmp .eq 100, 3)) rfl
theorem dL_law_700 : decode cL_law 700 = .ok (.iconst 0, 1) := d_of dm_L_law_c425 9 (q := (700, .iconst 0, 1)) rfl
theorem dL_law_701 : decode cL_law 701 = .ok (.ireturn, 1) := d_of dm_L_law_c425 10 (q := (701, .ireturn, 1)) rfl
theorem dL_law_702 : decode cL_law 702 = .ok (.aload_n 1, 1) := d_of dm_L_law_c425 11 (q := (702, .aload_n 1, 1)) rfl
theorem dL_law_703 : decode cL_law 703 = .ok (.invokevirtual 104, 3) := d_of dm_L_law_c425 12 (q := (703, .invokevirtual 104, 3)) rfl
theorem dL_law_706 : decode cL_law 706 = .ok (.aload_n 2, 1) := d_of dm_L_law_c425 13 (q := (706, .aload_n 2, 1)) rfl
theorem dL_law_707 : decode cL_law 707 = .ok (.invokevirtual 107, 3) := d_of dm_L_law_c425 14 (q := (707, .invokevirtual 107, 3)) rfl
theorem dL_law_710 : decode cL_law 710 = .ok (.if_icmp .eq 87, 3) := d_of dm_L_law_c425 15 (q := (710, .if_icmp .eq 87, 3)) rfl
theorem dL_law_713 : decode cL_law 713 = .ok (.iconst 0, 1) := d_of dm_L_law_c425 16 (q := (713, .iconst 0, 1)) rfl
theorem dL_law_714 : decode cL_law 714 = .ok (.ireturn, 1) := d_of dm_L_law_c425 17 (q := (714, .ireturn, 1)) rfl
theorem dL_law_715 : decode cL_law 715 = .ok (.aload_n 1, 1) := d_of dm_L_law_c425 18 (q := (715, .aload_n 1, 1)) rfl
theorem dL_law_716 : decode cL_law 716 = .ok (.aload_n 0, 1) := d_of dm_L_law_c425 19 (q := (716, .aload_n 0, 1)) rfl
theorem dL_law_717 : decode cL_law 717 = .ok (.iload_n 3, 1) := d_of dm_L_law_c425 20 (q := (717, .iload_n 3, 1)) rfl
theorem dL_law_718 : decode cL_law 718 = .ok (.iconst 1, 1) := d_of dm_L_law_c425 21 (q := (718, .iconst 1, 1)) rfl
theorem dL_law_719 : decode cL_law 719 = .ok (.iadd, 1) := d_of dm_L_law_c425 22 (q := (719, .iadd, 1)) rfl
theorem dL_law_720 : decode cL_law 720 = .ok (.iaload, 1) := d_of dm_L_law_c425 23 (q := (720, .iaload, 1)) rfl
theorem dL_law_721 : decode cL_law 721 = .ok (.aload_n 0, 1) := d_of dm_L_law_c425 24 (q := (721, .aload_n 0, 1)) rfl
def dl_L_law_c450 : List (Nat × Instr × Nat) := [(722, .iload_n 3, 1), (723, .iconst 2, 1), (724, .iadd, 1), (725, .iaload, 1), (726, .invokevirtual 108, 3), (729, .aload_n 2, 1), (730, .aload_n 0, 1), (731, .iload_n 3, 1), (732, .iconst 1, 1), (733, .iadd, 1), (734, .iaload, 1), (735, .aload_n 0, 1), (736, .iload_n 3, 1), (737, .iconst 2, 1), (738, .iadd, 1), (739, .iaload, 1), (740, .invokevirtual 111, 3), (743, .if_icmp .eq 54, 3), (746, .iconst 0, 1), (747, .ireturn, 1), (748, .aload_n 1, 1), (749, .invokevirtual 112, 3), (752, .aload_n 2, 1), (753, .invokevirtual 115, 3), (756, .if_icmp .eq 41, 3)]
set_option maxRecDepth 100000 in
theorem dm_L_law_c450 : dl_L_law_c450.all (fun q => decide (decode cL_law q.1 = .ok q.2)) = true := by decide +kernel
theorem dL_law_722 : decode cL_law 722 = .ok (.iload_n 3, 1) := d_of dm_L_law_c450 0 (q := (722, .iload_n 3, 1)) rfl
theorem dL_law_723 : decode cL_law 723 = .ok (.iconst 2, 1) := d_of dm_L_law_c450 1 (q := (723, .iconst 2, 1)) rfl
theorem dL_law_724 : decode cL_law 724 = .ok (.iadd, 1) := d_of dm_L_law_c450 2 (q := (724, .iadd, 1)) rfl
theorem dL_law_725 : decode cL_law 725 = .ok (.iaload, 1) := d_of dm_L_law_c450 3 (q := (725, .iaload, 1)) rfl
theorem dL_law_726 : decode cL_law 726 = .ok (.invokevirtual 108, 3) := d_of dm_L_law_c450 4 (q := (726, .invokevirtual 108, 3)) rfl
theorem dL_law_729 : decode cL_law 729 = .ok (.aload_n 2, 1) := d_of dm_L_law_c450 5 (q := (729, .aload_n 2, 1)) rfl
theorem dL_law_730 : decode cL_law 730 = .ok (.aload_n 0, 1) := d_of dm_L_law_c450 6 (q := (730, .aload_n 0, 1)) rfl
theorem dL_law_731 : decode cL_law 731 = .ok (.iload_n 3, 1) := d_of dm_L_law_c450 7 (q := (731, .iload_n 3, 1)) rfl
theorem dL_law_732 : decode cL_law 732 = .ok (.iconst 1, 1) := d_of dm_L_law_c450 8 (q := (732, .iconst 1, 1)) rfl
theorem dL_law_733 : decode cL_law 733 = .ok (.iadd, 1) := d_of dm_L_law_c450 9 (q := (733, .iadd, 1)) rfl
theorem dL_law_734 : decode cL_law 734 = .ok (.iaload, 1) := d_of dm_L_law_c450 10 (q := (734, .iaload, 1)) rfl
theorem dL_law_735 : decode cL_law 735 = .ok (.aload_n 0, 1) := d_of dm_L_law_c450 11 (q := (735, .aload_n 0, 1)) rfl
theorem dL_law_736 : decode cL_law 736 = .ok (.iload_n 3, 1) := d_of dm_L_law_c450 12 (q := (736, .iload_n 3, 1)) rfl
theorem dL_law_737 : decode cL_law 737 = .ok (.iconst 2, 1) := d_of dm_L_law_c450 13 (q := (737, .iconst 2, 1)) rfl
theorem dL_law_738 : decode cL_law 738 = .ok (.iadd, 1) := d_of dm_L_law_c450 14 (q := (738, .iadd, 1)) rfl
theorem dL_law_739 : decode cL_law 739 = .ok (.iaload, 1) := d_of dm_L_law_c450 15 (q := (739, .iaload, 1)) rfl
theorem dL_law_740 : decode cL_law 740 = .ok (.invokevirtual 111, 3) := d_of dm_L_law_c450 16 (q := (740, .invokevirtual 111, 3)) rfl
theorem dL_law_743 : decode cL_law 743 = .ok (.if_icmp .eq 54, 3) := d_of dm_L_law_c450 17 (q := (743, .if_icmp .eq 54, 3)) rfl
theorem dL_law_746 : decode cL_law 746 = .ok (.iconst 0, 1) := d_of dm_L_law_c450 18 (q := (746, .iconst 0, 1)) rfl
theorem dL_law_747 : decode cL_law 747 = .ok (.ireturn, 1) := d_of dm_L_law_c450 19 (q := (747, .ireturn, 1)) rfl
theorem dL_law_748 : decode cL_law 748 = .ok (.aload_n 1, 1) := d_of dm_L_law_c450 20 (q := (748, .aload_n 1, 1)) rfl
theorem dL_law_749 : decode cL_law 749 = .ok (.invokevirtual 112, 3) := d_of dm_L_law_c450 21 (q := (749, .invokevirtual 112, 3)) rfl
theorem dL_law_752 : decode cL_law 752 = .ok (.aload_n 2, 1) := d_of dm_L_law_c450 22 (q := (752, .aload_n 2, 1)) rfl
theorem dL_law_753 : decode cL_law 753 = .ok (.invokevirtual 115, 3) := d_of dm_L_law_c450 23 (q := (753, .invokevirtual 115, 3)) rfl
theorem dL_law_756 : decode cL_law 756 = .ok (.if_icmp .eq 41, 3) := d_of dm_L_law_c450 24 (q := (756, .if_icmp .eq 41, 3)) rfl
def dl_L_law_c475 : List (Nat × Instr × Nat) := [(759, .iconst 0, 1), (760, .ireturn, 1), (761, .aload_n 1, 1), (762, .invokevirtual 116, 3), (765, .aload_n 2, 1), (766, .invokevirtual 119, 3), (769, .if_icmp .eq 28, 3), (772, .iconst 0, 1), (773, .ireturn, 1), (774, .aload_n 1, 1), (775, .aload_n 0, 1), (776, .iload_n 3, 1), (777, .iconst 1, 1), (778, .iadd, 1), (779, .iaload, 1), (780, .invokevirtual 120, 3), (783, .aload_n 2, 1), (784, .aload_n 0, 1), (785, .iload_n 3, 1), (786, .iconst 1, 1), (787, .iadd, 1), (788, .iaload, 1), (789, .invokevirtual 123, 3), (792, .if_icmp .eq 5, 3), (795, .iconst 0, 1)]
set_option maxRecDepth 100000 in
theorem dm_L_law_c475 : dl_L_law_c475.all (fun q => decide (decode cL_law q.1 = .ok q.2)) = true := by decide +kernel
theorem dL_law_759 : decode cL_law 759 = .ok (.iconst 0, 1) := d_of dm_L_law_c475 0 (q := (759, .iconst 0, 1)) rfl
theorem dL_law_760 : decode cL_law 760 = .ok (.ireturn, 1) := d_of dm_L_law_c475 1 (q := (760, .ireturn, 1)) rfl
theorem dL_law_761 : decode cL_law 761 = .ok (.aload_n 1, 1) := d_of dm_L_law_c475 2 (q := (761, .aload_n 1, 1)) rfl
theorem dL_law_762 : decode cL_law 762 = .ok (.invokevirtual 116, 3) := d_of dm_L_law_c475 3 (q := (762, .invokevirtual 116, 3)) rfl
theorem dL_law_765 : decode cL_law 765 = .ok (.aload_n 2, 1) := d_of dm_L_law_c475 4 (q := (765, .aload_n 2, 1)) rfl
theorem dL_law_766 : decode cL_law 766 = .ok (.invokevirtual 119, 3) := d_of dm_L_law_c475 5 (q := (766, .invokevirtual 119, 3)) rfl
theorem dL_law_769 : decode cL_law 769 = .ok (.if_icmp .eq 28, 3) := d_of dm_L_law_c475 6 (q := (769, .if_icmp .eq 28, 3)) rfl
theorem dL_law_772 : decode cL_law 772 = .ok (.iconst 0, 1) := d_of dm_L_law_c475 7 (q := (772, .iconst 0, 1)) rfl
theorem dL_law_773 : decode cL_law 773 = .ok (.ireturn, 1) := d_of dm_L_law_c475 8 (q := (773, .ireturn, 1)) rfl
theorem dL_law_774 : decode cL_law 774 = .ok (.aload_n 1, 1) := d_of dm_L_law_c475 9 (q := (774, .aload_n 1, 1)) rfl
theorem dL_law_775 : decode cL_law 775 = .ok (.aload_n 0, 1) := d_of dm_L_law_c475 10 (q := (775, .aload_n 0, 1)) rfl
theorem dL_law_776 : decode cL_law 776 = .ok (.iload_n 3, 1) := d_of dm_L_law_c475 11 (q := (776, .iload_n 3, 1)) rfl
theorem dL_law_777 : decode cL_law 777 = .ok (.iconst 1, 1) := d_of dm_L_law_c475 12 (q := (777, .iconst 1, 1)) rfl
theorem dL_law_778 : decode cL_law 778 = .ok (.iadd, 1) := d_of dm_L_law_c475 13 (q := (778, .iadd, 1)) rfl
theorem dL_law_779 : decode cL_law 779 = .ok (.iaload, 1) := d_of dm_L_law_c475 14 (q := (779, .iaload, 1)) rfl
theorem dL_law_780 : decode cL_law 780 = .ok (.invokevirtual 120, 3) := d_of dm_L_law_c475 15 (q := (780, .invokevirtual 120, 3)) rfl
theorem dL_law_783 : decode cL_law 783 = .ok (.aload_n 2, 1) := d_of dm_L_law_c475 16 (q := (783, .aload_n 2, 1)) rfl
theorem dL_law_784 : decode cL_law 784 = .ok (.aload_n 0, 1) := d_of dm_L_law_c475 17 (q := (784, .aload_n 0, 1)) rfl
theorem dL_law_785 : decode cL_law 785 = .ok (.iload_n 3, 1) := d_of dm_L_law_c475 18 (q := (785, .iload_n 3, 1)) rfl
theorem dL_law_786 : decode cL_law 786 = .ok (.iconst 1, 1) := d_of dm_L_law_c475 19 (q := (786, .iconst 1, 1)) rfl
theorem dL_law_787 : decode cL_law 787 = .ok (.iadd, 1) := d_of dm_L_law_c475 20 (q := (787, .iadd, 1)) rfl
theorem dL_law_788 : decode cL_law 788 = .ok (.iaload, 1) := d_of dm_L_law_c475 21 (q := (788, .iaload, 1)) rfl
theorem dL_law_789 : decode cL_law 789 = .ok (.invokevirtual 123, 3) := d_of dm_L_law_c475 22 (q := (789, .invokevirtual 123, 3)) rfl
theorem dL_law_792 : decode cL_law 792 = .ok (.if_icmp .eq 5, 3) := d_of dm_L_law_c475 23 (q := (792, .if_icmp .eq 5, 3)) rfl
theorem dL_law_795 : decode cL_law 795 = .ok (.iconst 0, 1) := d_of dm_L_law_c475 24 (q := (795, .iconst 0, 1)) rfl
def dl_L_law_c500 : List (Nat × Instr × Nat) := [(796, .ireturn, 1), (797, .iinc 3 3, 3), (800, .goto (-782), 3), (803, .iconst 1, 1), (804, .ireturn, 1)]
set_option maxRecDepth 100000 in
theorem dm_L_law_c500 : dl_L_law_c500.all (fun q => decide (decode cL_law q.1 = .ok q.2)) = true := by decide +kernel
theorem dL_law_796 : decode cL_law 796 = .ok (.ireturn, 1) := d_of dm_L_law_c500 0 (q := (796, .ireturn, 1)) rfl
theorem dL_law_797 : decode cL_law 797 = .ok (.iinc 3 3, 3) := d_of dm_L_law_c500 1 (q := (797, .iinc 3 3, 3)) rfl
theorem dL_law_800 : decode cL_law 800 = .ok (.goto (-782), 3) := d_of dm_L_law_c500 2 (q := (800, .goto (-782), 3)) rfl
theorem dL_law_803 : decode cL_law 803 = .ok (.iconst 1, 1) := d_of dm_L_law_c500 3 (q := (803, .iconst 1, 1)) rfl
theorem dL_law_804 : decode cL_law 804 = .ok (.ireturn, 1) := d_of dm_L_law_c500 4 (q := (804, .ireturn, 1)) rfl
