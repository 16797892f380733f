/-- a row of a method's list of instructions, of which all were decoded at once -/
theorem d_of {cc : ByteArray} {L : List (Nat × Instr × Nat)} (h : L.all (fun q => decide (decode cc q.1 = .ok q.2)) = true) (i : Nat) {q : Nat × Instr × Nat} (hi : L[i]? = some q) : decode cc q.1 = .ok q.2 := by
  have h1 := List.all_eq_true.mp h q (List.mem_of_getElem? hi)
  exact of_decide_eq_true h1
def dl_X0_init_c0 : List (Nat × Instr × Nat) := [(0, .aload_n 0, 1), (1, .invokespecial 3, 3), (4, .aload_n 0, 1), (5, .iconst 0, 1), (6, .putfield 9, 3), (9, .aload_n 0, 1), (10, .bipush 8, 2), (12, .newarray .int, 2), (14, .putfield 15, 3), (17, .aload_n 0, 1), (18, .sipush 256, 3), (21, .newarray .int, 2), (23, .putfield 19, 3), (26, .return_, 1)]
set_option maxRecDepth 100000 in
theorem dm_X0_init_c0 : dl_X0_init_c0.all (fun q => decide (decode cX0_init q.1 = .ok q.2)) = true := by decide +kernel
theorem dX0_init_0 : decode cX0_init 0 = .ok (.aload_n 0, 1) := d_of dm_X0_init_c0 0 (q := (0, .aload_n 0, 1)) rfl
theorem dX0_init_1 : decode cX0_init 1 = .ok (.invokespecial 3, 3) := d_of dm_X0_init_c0 1 (q := (1, .invokespecial 3, 3)) rfl
theorem dX0_init_4 : decode cX0_init 4 = .ok (.aload_n 0, 1) := d_of dm_X0_init_c0 2 (q := (4, .aload_n 0, 1)) rfl
theorem dX0_init_5 : decode cX0_init 5 = .ok (.iconst 0, 1) := d_of dm_X0_init_c0 3 (q := (5, .iconst 0, 1)) rfl
theorem dX0_init_6 : decode cX0_init 6 = .ok (.putfield 9, 3) := d_of dm_X0_init_c0 4 (q := (6, .putfield 9, 3)) rfl
theorem dX0_init_9 : decode cX0_init 9 = .ok (.aload_n 0, 1) := d_of dm_X0_init_c0 5 (q := (9, .aload_n 0, 1)) rfl
theorem dX0_init_10 : decode cX0_init 10 = .ok (.bipush 8, 2) := d_of dm_X0_init_c0 6 (q := (10, .bipush 8, 2)) rfl
theorem dX0_init_12 : decode cX0_init 12 = .ok (.newarray .int, 2) := d_of dm_X0_init_c0 7 (q := (12, .newarray .int, 2)) rfl
theorem dX0_init_14 : decode cX0_init 14 = .ok (.putfield 15, 3) := d_of dm_X0_init_c0 8 (q := (14, .putfield 15, 3)) rfl
theorem dX0_init_17 : decode cX0_init 17 = .ok (.aload_n 0, 1) := d_of dm_X0_init_c0 9 (q := (17, .aload_n 0, 1)) rfl
theorem dX0_init_18 : decode cX0_init 18 = .ok (.sipush 256, 3) := d_of dm_X0_init_c0 10 (q := (18, .sipush 256, 3)) rfl
theorem dX0_init_21 : decode cX0_init 21 = .ok (.newarray .int, 2) := d_of dm_X0_init_c0 11 (q := (21, .newarray .int, 2)) rfl
theorem dX0_init_23 : decode cX0_init 23 = .ok (.putfield 19, 3) := d_of dm_X0_init_c0 12 (q := (23, .putfield 19, 3)) rfl
theorem dX0_init_26 : decode cX0_init 26 = .ok (.return_, 1) := d_of dm_X0_init_c0 13 (q := (26, .return_, 1)) rfl
def dl_X0_allowUnseen_c0 : List (Nat × Instr × Nat) := [(0, .aload_n 0, 1), (1, .aload_n 1, 1), (2, .getfield 22, 3), (5, .putfield 9, 3), (8, .iconst 0, 1), (9, .istore_n 2, 1), (10, .iload_n 2, 1), (11, .aload_n 0, 1), (12, .getfield 9, 3), (15, .if_icmp .ge 62, 3), (18, .aload_n 0, 1), (19, .getfield 15, 3), (22, .iload_n 2, 1), (23, .iconst 0, 1), (24, .iastore, 1), (25, .iconst 0, 1), (26, .istore_n 3, 1), (27, .iload_n 3, 1), (28, .aload_n 0, 1), (29, .getfield 9, 3), (32, .if_icmp .ge 39, 3), (35, .iload_n 3, 1), (36, .iload_n 2, 1), (37, .if_icmp .eq 28, 3), (40, .aload_n 1, 1)]
set_option maxRecDepth 100000 in
theorem dm_X0_allowUnseen_c0 : dl_X0_allowUnseen_c0.all (fun q => decide (decode cX0_allowUnseen q.1 = .ok q.2)) = true := by decide +kernel
theorem dX0_allowUnseen_0 : decode cX0_allowUnseen 0 = .ok (.aload_n 0, 1) := d_of dm_X0_allowUnseen_c0 0 (q := (0, .aload_n 0, 1)) rfl
theorem dX0_allowUnseen_1 : decode cX0_allowUnseen 1 = .ok (.aload_n 1, 1) := d_of dm_X0_allowUnseen_c0 1 (q := (1, .aload_n 1, 1)) rfl
theorem dX0_allowUnseen_2 : decode cX0_allowUnseen 2 = .ok (.getfield 22, 3) := d_of dm_X0_allowUnseen_c0 2 (q := (2, .getfield 22, 3)) rfl
theorem dX0_allowUnseen_5 : decode cX0_allowUnseen 5 = .ok (.putfield 9, 3) := d_of dm_X0_allowUnseen_c0 3 (q := (5, .putfield 9, 3)) rfl
theorem dX0_allowUnseen_8 : decode cX0_allowUnseen 8 = .ok (.iconst 0, 1) := d_of dm_X0_allowUnseen_c0 4 (q := (8, .iconst 0, 1)) rfl
theorem dX0_allowUnseen_9 : decode cX0_allowUnseen 9 = .ok (.istore_n 2, 1) := d_of dm_X0_allowUnseen_c0 5 (q := (9, .istore_n 2, 1)) rfl
theorem dX0_allowUnseen_10 : decode cX0_allowUnseen 10 = .ok (.iload_n 2, 1) := d_of dm_X0_allowUnseen_c0 6 (q := (10, .iload_n 2, 1)) rfl
theorem dX0_allowUnseen_11 : decode cX0_allowUnseen 11 = .ok (.aload_n 0, 1) := d_of dm_X0_allowUnseen_c0 7 (q := (11, .aload_n 0, 1)) rfl
theorem dX0_allowUnseen_12 : decode cX0_allowUnseen 12 = .ok (.getfield 9, 3) := d_of dm_X0_allowUnseen_c0 8 (q := (12, .getfield 9, 3)) rfl
theorem dX0_allowUnseen_15 : decode cX0_allowUnseen 15 = .ok (.if_icmp .ge 62, 3) := d_of dm_X0_allowUnseen_c0 9 (q := (15, .if_icmp .ge 62, 3)) rfl
theorem dX0_allowUnseen_18 : decode cX0_allowUnseen 18 = .ok (.aload_n 0, 1) := d_of dm_X0_allowUnseen_c0 10 (q := (18, .aload_n 0, 1)) rfl
theorem dX0_allowUnseen_19 : decode cX0_allowUnseen 19 = .ok (.getfield 15, 3) := d_of dm_X0_allowUnseen_c0 11 (q := (19, .getfield 15, 3)) rfl
theorem dX0_allowUnseen_22 : decode cX0_allowUnseen 22 = .ok (.iload_n 2, 1) := d_of dm_X0_allowUnseen_c0 12 (q := (22, .iload_n 2, 1)) rfl
theorem dX0_allowUnseen_23 : decode cX0_allowUnseen 23 = .ok (.iconst 0, 1) := d_of dm_X0_allowUnseen_c0 13 (q := (23, .iconst 0, 1)) rfl
theorem dX0_allowUnseen_24 : decode cX0_allowUnseen 24 = .ok (.iastore, 1) := d_of dm_X0_allowUnseen_c0 14 (q := (24, .iastore, 1)) rfl
theorem dX0_allowUnseen_25 : decode cX0_allowUnseen 25 = .ok (.iconst 0, 1) := d_of dm_X0_allowUnseen_c0 15 (q := (25, .iconst 0, 1)) rfl
theorem dX0_allowUnseen_26 : decode cX0_allowUnseen 26 = .ok (.istore_n 3, 1) := d_of dm_X0_allowUnseen_c0 16 (q := (26, .istore_n 3, 1)) rfl
theorem dX0_allowUnseen_27 : decode cX0_allowUnseen 27 = .ok (.iload_n 3, 1) := d_of dm_X0_allowUnseen_c0 17 (q := (27, .iload_n 3, 1)) rfl
theorem dX0_allowUnseen_28 : decode cX0_allowUnseen 28 = .ok (.aload_n 0, 1) := d_of dm_X0_allowUnseen_c0 18 (q := (28, .aload_n 0, 1)) rfl
theorem dX0_allowUnseen_29 : decode cX0_allowUnseen 29 = .ok (.getfield 9, 3) := d_of dm_X0_allowUnseen_c0 19 (q := (29, .getfield 9, 3)) rfl
theorem dX0_allowUnseen_32 : decode cX0_allowUnseen 32 = .ok (.if_icmp .ge 39, 3) := d_of dm_X0_allowUnseen_c0 20 (q := (32, .if_icmp .ge 39, 3)) rfl
theorem dX0_allowUnseen_35 : decode cX0_allowUnseen 35 = .ok (.iload_n 3, 1) := d_of dm_X0_allowUnseen_c0 21 (q := (35, .iload_n 3, 1)) rfl
theorem dX0_allowUnseen_36 : decode cX0_allowUnseen 36 = .ok (.iload_n 2, 1) := d_of dm_X0_allowUnseen_c0 22 (q := (36, .iload_n 2, 1)) rfl
theorem dX0_allowUnseen_37 : decode cX0_allowUnseen 37 = .ok (.if_icmp .eq 28, 3) := d_of dm_X0_allowUnseen_c0 23 (q := (37, .if_icmp .eq 28, 3)) rfl
theorem dX0_allowUnseen_40 : decode cX0_allowUnseen 40 = .ok (.aload_n 1, 1) := d_of dm_X0_allowUnseen_c0 24 (q := (40, .aload_n 1, 1)) rfl
def dl_X0_allowUnseen_c25 : List (Nat × Instr × Nat) := [(41, .iload_n 2, 1), (42, .iload_n 3, 1), (43, .aload_n 1, 1), (44, .getfield 25, 3), (47, .invokevirtual 28, 3), (50, .ifCond .ne 15, 3), (53, .aload_n 0, 1), (54, .getfield 15, 3), (57, .iload_n 2, 1), (58, .dup2, 1), (59, .iaload, 1), (60, .iconst 1, 1), (61, .iload_n 3, 1), (62, .ishl, 1), (63, .ior, 1), (64, .iastore, 1), (65, .iinc 3 1, 3), (68, .goto (-41), 3), (71, .iinc 2 1, 3), (74, .goto (-64), 3), (77, .return_, 1)]
set_option maxRecDepth 100000 in
theorem dm_X0_allowUnseen_c25 : dl_X0_allowUnseen_c25.all (fun q => decide (decode cX0_allowUnseen q.1 = .ok q.2)) = true := by decide +kernel
theorem dX0_allowUnseen_41 : decode cX0_allowUnseen 41 = .ok (.iload_n 2, 1) := d_of dm_X0_allowUnseen_c25 0 (q := (41, .iload_n 2, 1)) rfl
theorem dX0_allowUnseen_42 : decode cX0_allowUnseen 42 = .ok (.iload_n 3, 1) := d_of dm_X0_allowUnseen_c25 1 (q := (42, .iload_n 3, 1)) rfl
theorem dX0_allowUnseen_43 : decode cX0_allowUnseen 43 = .ok (.aload_n 1, 1) := d_of dm_X0_allowUnseen_c25 2 (q := (43, .aload_n 1, 1)) rfl
theorem dX0_allowUnseen_44 : decode cX0_allowUnseen 44 = .ok (.getfield 25, 3) := d_of dm_X0_allowUnseen_c25 3 (q := (44, .getfield 25, 3)) rfl
theorem dX0_allowUnseen_47 : decode cX0_allowUnseen 47 = .ok (.invokevirtual 28, 3) := d_of dm_X0_allowUnseen_c25 4 (q := (47, .invokevirtual 28, 3)) rfl
theorem dX0_allowUnseen_50 : decode cX0_allowUnseen 50 = .ok (.ifCond .ne 15, 3) := d_of dm_X0_allowUnseen_c25 5 (q := (50, .ifCond .ne 15, 3)) rfl
theorem dX0_allowUnseen_53 : decode cX0_allowUnseen 53 = .ok (.aload_n 0, 1) := d_of dm_X0_allowUnseen_c25 6 (q := (53, .aload_n 0, 1)) rfl
theorem dX0_allowUnseen_54 : decode cX0_allowUnseen 54 = .ok (.getfield 15, 3) := d_of dm_X0_allowUnseen_c25 7 (q := (54, .getfield 15, 3)) rfl
theorem dX0_allowUnseen_57 : decode cX0_allowUnseen 57 = .ok (.iload_n 2, 1) := d_of dm_X0_allowUnseen_c25 8 (q := (57, .iload_n 2, 1)) rfl
theorem dX0_allowUnseen_58 : decode cX0_allowUnseen 58 = .ok (.dup2, 1) := d_of dm_X0_allowUnseen_c25 9 (q := (58, .dup2, 1)) rfl
theorem dX0_allowUnseen_59 : decode cX0_allowUnseen 59 = .ok (.iaload, 1) := d_of dm_X0_allowUnseen_c25 10 (q := (59, .iaload, 1)) rfl
theorem dX0_allowUnseen_60 : decode cX0_allowUnseen 60 = .ok (.iconst 1, 1) := d_of dm_X0_allowUnseen_c25 11 (q := (60, .iconst 1, 1)) rfl
theorem dX0_allowUnseen_61 : decode cX0_allowUnseen 61 = .ok (.iload_n 3, 1) := d_of dm_X0_allowUnseen_c25 12 (q := (61, .iload_n 3, 1)) rfl
theorem dX0_allowUnseen_62 : decode cX0_allowUnseen 62 = .ok (.ishl, 1) := d_of dm_X0_allowUnseen_c25 13 (q := (62, .ishl, 1)) rfl
theorem dX0_allowUnseen_63 : decode cX0_allowUnseen 63 = .ok (.ior, 1) := d_of dm_X0_allowUnseen_c25 14 (q := (63, .ior, 1)) rfl
theorem dX0_allowUnseen_64 : decode cX0_allowUnseen 64 = .ok (.iastore, 1) := d_of dm_X0_allowUnseen_c25 15 (q := (64, .iastore, 1)) rfl
theorem dX0_allowUnseen_65 : decode cX0_allowUnseen 65 = .ok (.iinc 3 1, 3) := d_of dm_X0_allowUnseen_c25 16 (q := (65, .iinc 3 1, 3)) rfl
theorem dX0_allowUnseen_68 : decode cX0_allowUnseen 68 = .ok (.goto (-41), 3) := d_of dm_X0_allowUnseen_c25 17 (q := (68, .goto (-41), 3)) rfl
theorem dX0_allowUnseen_71 : decode cX0_allowUnseen 71 = .ok (.iinc 2 1, 3) := d_of dm_X0_allowUnseen_c25 18 (q := (71, .iinc 2 1, 3)) rfl
theorem dX0_allowUnseen_74 : decode cX0_allowUnseen 74 = .ok (.goto (-64), 3) := d_of dm_X0_allowUnseen_c25 19 (q := (74, .goto (-64), 3)) rfl
theorem dX0_allowUnseen_77 : decode cX0_allowUnseen 77 = .ok (.return_, 1) := d_of dm_X0_allowUnseen_c25 20 (q := (77, .return_, 1)) rfl
def dl_X0_allowApart_c0 : List (Nat × Instr × Nat) := [(0, .aload_n 0, 1), (1, .aload_n 1, 1), (2, .getfield 22, 3), (5, .putfield 9, 3), (8, .iconst 0, 1), (9, .istore_n 2, 1), (10, .iload_n 2, 1), (11, .aload_n 0, 1), (12, .getfield 9, 3), (15, .if_icmp .ge 69, 3), (18, .iconst 1, 1), (19, .iload_n 2, 1), (20, .ishl, 1), (21, .istore_n 3, 1), (22, .iconst 0, 1), (23, .istore 4, 2), (25, .iload 4, 2), (27, .aload_n 1, 1), (28, .getfield 32, 3), (31, .if_icmp .ge 33, 3), (34, .aload_n 1, 1), (35, .getfield 35, 3), (38, .iload 4, 2), (40, .iaload, 1), (41, .iload_n 2, 1)]
set_option maxRecDepth 100000 in
theorem dm_X0_allowApart_c0 : dl_X0_allowApart_c0.all (fun q => decide (decode cX0_allowApart q.1 = .ok q.2)) = true := by decide +kernel
theorem dX0_allowApart_0 : decode cX0_allowApart 0 = .ok (.aload_n 0, 1) := d_of dm_X0_allowApart_c0 0 (q := (0, .aload_n 0, 1)) rfl
theorem dX0_allowApart_1 : decode cX0_allowApart 1 = .ok (.aload_n 1, 1) := d_of dm_X0_allowApart_c0 1 (q := (1, .aload_n 1, 1)) rfl
theorem dX0_allowApart_2 : decode cX0_allowApart 2 = .ok (.getfield 22, 3) := d_of dm_X0_allowApart_c0 2 (q := (2, .getfield 22, 3)) rfl
theorem dX0_allowApart_5 : decode cX0_allowApart 5 = .ok (.putfield 9, 3) := d_of dm_X0_allowApart_c0 3 (q := (5, .putfield 9, 3)) rfl
theorem dX0_allowApart_8 : decode cX0_allowApart 8 = .ok (.iconst 0, 1) := d_of dm_X0_allowApart_c0 4 (q := (8, .iconst 0, 1)) rfl
theorem dX0_allowApart_9 : decode cX0_allowApart 9 = .ok (.istore_n 2, 1) := d_of dm_X0_allowApart_c0 5 (q := (9, .istore_n 2, 1)) rfl
theorem dX0_allowApart_10 : decode cX0_allowApart 10 = .ok (.iload_n 2, 1) := d_of dm_X0_allowApart_c0 6 (q := (10, .iload_n 2, 1)) rfl
theorem dX0_allowApart_11 : decode cX0_allowApart 11 = .ok (.aload_n 0, 1) := d_of dm_X0_allowApart_c0 7 (q := (11, .aload_n 0, 1)) rfl
theorem dX0_allowApart_12 : decode cX0_allowApart 12 = .ok (.getfield 9, 3) := d_of dm_X0_allowApart_c0 8 (q := (12, .getfield 9, 3)) rfl
theorem dX0_allowApart_15 : decode cX0_allowApart 15 = .ok (.if_icmp .ge 69, 3) := d_of dm_X0_allowApart_c0 9 (q := (15, .if_icmp .ge 69, 3)) rfl
theorem dX0_allowApart_18 : decode cX0_allowApart 18 = .ok (.iconst 1, 1) := d_of dm_X0_allowApart_c0 10 (q := (18, .iconst 1, 1)) rfl
theorem dX0_allowApart_19 : decode cX0_allowApart 19 = .ok (.iload_n 2, 1) := d_of dm_X0_allowApart_c0 11 (q := (19, .iload_n 2, 1)) rfl
theorem dX0_allowApart_20 : decode cX0_allowApart 20 = .ok (.ishl, 1) := d_of dm_X0_allowApart_c0 12 (q := (20, .ishl, 1)) rfl
theorem dX0_allowApart_21 : decode cX0_allowApart 21 = .ok (.istore_n 3, 1) := d_of dm_X0_allowApart_c0 13 (q := (21, .istore_n 3, 1)) rfl
theorem dX0_allowApart_22 : decode cX0_allowApart 22 = .ok (.iconst 0, 1) := d_of dm_X0_allowApart_c0 14 (q := (22, .iconst 0, 1)) rfl
theorem dX0_allowApart_23 : decode cX0_allowApart 23 = .ok (.istore 4, 2) := d_of dm_X0_allowApart_c0 15 (q := (23, .istore 4, 2)) rfl
theorem dX0_allowApart_25 : decode cX0_allowApart 25 = .ok (.iload 4, 2) := d_of dm_X0_allowApart_c0 16 (q := (25, .iload 4, 2)) rfl
theorem dX0_allowApart_27 : decode cX0_allowApart 27 = .ok (.aload_n 1, 1) := d_of dm_X0_allowApart_c0 17 (q := (27, .aload_n 1, 1)) rfl
theorem dX0_allowApart_28 : decode cX0_allowApart 28 = .ok (.getfield 32, 3) := d_of dm_X0_allowApart_c0 18 (q := (28, .getfield 32, 3)) rfl
theorem dX0_allowApart_31 : decode cX0_allowApart 31 = .ok (.if_icmp .ge 33, 3) := d_of dm_X0_allowApart_c0 19 (q := (31, .if_icmp .ge 33, 3)) rfl
theorem dX0_allowApart_34 : decode cX0_allowApart 34 = .ok (.aload_n 1, 1) := d_of dm_X0_allowApart_c0 20 (q := (34, .aload_n 1, 1)) rfl
theorem dX0_allowApart_35 : decode cX0_allowApart 35 = .ok (.getfield 35, 3) := d_of dm_X0_allowApart_c0 21 (q := (35, .getfield 35, 3)) rfl
theorem dX0_allowApart_38 : decode cX0_allowApart 38 = .ok (.iload 4, 2) := d_of dm_X0_allowApart_c0 22 (q := (38, .iload 4, 2)) rfl
theorem dX0_allowApart_40 : decode cX0_allowApart 40 = .ok (.iaload, 1) := d_of dm_X0_allowApart_c0 23 (q := (40, .iaload, 1)) rfl
theorem dX0_allowApart_41 : decode cX0_allowApart 41 = .ok (.iload_n 2, 1) := d_of dm_X0_allowApart_c0 24 (q := (41, .iload_n 2, 1)) rfl
def dl_X0_allowApart_c25 : List (Nat × Instr × Nat) := [(42, .ishr, 1), (43, .iconst 1, 1), (44, .iand, 1), (45, .ifCond .eq 13, 3), (48, .iload_n 3, 1), (49, .aload_n 1, 1), (50, .getfield 35, 3), (53, .iload 4, 2), (55, .iaload, 1), (56, .ior, 1), (57, .istore_n 3, 1), (58, .iinc 4 1, 3), (61, .goto (-36), 3), (64, .aload_n 0, 1), (65, .getfield 15, 3), (68, .iload_n 2, 1), (69, .aload_n 1, 1), (70, .invokevirtual 38, 3), (73, .iload_n 3, 1), (74, .iconst (-1), 1), (75, .ixor, 1), (76, .iand, 1), (77, .iastore, 1), (78, .iinc 2 1, 3), (81, .goto (-71), 3)]
set_option maxRecDepth 100000 in
theorem dm_X0_allowApart_c25 : dl_X0_allowApart_c25.all (fun q => decide (decode cX0_allowApart q.1 = .ok q.2)) = true := by decide +kernel
theorem dX0_allowApart_42 : decode cX0_allowApart 42 = .ok (.ishr, 1) := d_of dm_X0_allowApart_c25 0 (q := (42, .ishr, 1)) rfl
theorem dX0_allowApart_43 : decode cX0_allowApart 43 = .ok (.iconst 1, 1) := d_of dm_X0_allowApart_c25 1 (q := (43, .iconst 1, 1)) rfl
theorem dX0_allowApart_44 : decode cX0_allowApart 44 = .ok (.iand, 1) := d_of dm_X0_allowApart_c25 2 (q := (44, .iand, 1)) rfl
theorem dX0_allowApart_45 : decode cX0_allowApart 45 = .ok (.ifCond .eq 13, 3) := d_of dm_X0_allowApart_c25 3 (q := (45, .ifCond .eq 13, 3)) rfl
theorem dX0_allowApart_48 : decode cX0_allowApart 48 = .ok (.iload_n 3, 1) := d_of dm_X0_allowApart_c25 4 (q := (48, .iload_n 3, 1)) rfl
theorem dX0_allowApart_49 : decode cX0_allowApart 49 = .ok (.aload_n 1, 1) := d_of dm_X0_allowApart_c25 5 (q := (49, .aload_n 1, 1)) rfl
theorem dX0_allowApart_50 : decode cX0_allowApart 50 = .ok (.getfield 35, 3) := d_of dm_X0_allowApart_c25 6 (q := (50, .getfield 35, 3)) rfl
theorem dX0_allowApart_53 : decode cX0_allowApart 53 = .ok (.iload 4, 2) := d_of dm_X0_allowApart_c25 7 (q := (53, .iload 4, 2)) rfl
theorem dX0_allowApart_55 : decode cX0_allowApart 55 = .ok (.iaload, 1) := d_of dm_X0_allowApart_c25 8 (q := (55, .iaload, 1)) rfl
theorem dX0_allowApart_56 : decode cX0_allowApart 56 = .ok (.ior, 1) := d_of dm_X0_allowApart_c25 9 (q := (56, .ior, 1)) rfl
theorem dX0_allowApart_57 : decode cX0_allowApart 57 = .ok (.istore_n 3, 1) := d_of dm_X0_allowApart_c25 10 (q := (57, .istore_n 3, 1)) rfl
theorem dX0_allowApart_58 : decode cX0_allowApart 58 = .ok (.iinc 4 1, 3) := d_of dm_X0_allowApart_c25 11 (q := (58, .iinc 4 1, 3)) rfl
theorem dX0_allowApart_61 : decode cX0_allowApart 61 = .ok (.goto (-36), 3) := d_of dm_X0_allowApart_c25 12 (q := (61, .goto (-36), 3)) rfl
theorem dX0_allowApart_64 : decode cX0_allowApart 64 = .ok (.aload_n 0, 1) := d_of dm_X0_allowApart_c25 13 (q := (64, .aload_n 0, 1)) rfl
theorem dX0_allowApart_65 : decode cX0_allowApart 65 = .ok (.getfield 15, 3) := d_of dm_X0_allowApart_c25 14 (q := (65, .getfield 15, 3)) rfl
theorem dX0_allowApart_68 : decode cX0_allowApart 68 = .ok (.iload_n 2, 1) := d_of dm_X0_allowApart_c25 15 (q := (68, .iload_n 2, 1)) rfl
theorem dX0_allowApart_69 : decode cX0_allowApart 69 = .ok (.aload_n 1, 1) := d_of dm_X0_allowApart_c25 16 (q := (69, .aload_n 1, 1)) rfl
theorem dX0_allowApart_70 : decode cX0_allowApart 70 = .ok (.invokevirtual 38, 3) := d_of dm_X0_allowApart_c25 17 (q := (70, .invokevirtual 38, 3)) rfl
theorem dX0_allowApart_73 : decode cX0_allowApart 73 = .ok (.iload_n 3, 1) := d_of dm_X0_allowApart_c25 18 (q := (73, .iload_n 3, 1)) rfl
theorem dX0_allowApart_74 : decode cX0_allowApart 74 = .ok (.iconst (-1), 1) := d_of dm_X0_allowApart_c25 19 (q := (74, .iconst (-1), 1)) rfl
theorem dX0_allowApart_75 : decode cX0_allowApart 75 = .ok (.ixor, 1) := d_of dm_X0_allowApart_c25 20 (q := (75, .ixor, 1)) rfl
theorem dX0_allowApart_76 : decode cX0_allowApart 76 = .ok (.iand, 1) := d_of dm_X0_allowApart_c25 21 (q := (76, .iand, 1)) rfl
theorem dX0_allowApart_77 : decode cX0_allowApart 77 = .ok (.iastore, 1) := d_of dm_X0_allowApart_c25 22 (q := (77, .iastore, 1)) rfl
theorem dX0_allowApart_78 : decode cX0_allowApart 78 = .ok (.iinc 2 1, 3) := d_of dm_X0_allowApart_c25 23 (q := (78, .iinc 2 1, 3)) rfl
theorem dX0_allowApart_81 : decode cX0_allowApart 81 = .ok (.goto (-71), 3) := d_of dm_X0_allowApart_c25 24 (q := (81, .goto (-71), 3)) rfl
def dl_X0_allowApart_c50 : List (Nat × Instr × Nat) := [(84, .return_, 1)]
set_option maxRecDepth 100000 in
theorem dm_X0_allowApart_c50 : dl_X0_allowApart_c50.all (fun q => decide (decode cX0_allowApart q.1 = .ok q.2)) = true := by decide +kernel
theorem dX0_allowApart_84 : decode cX0_allowApart 84 = .ok (.return_, 1) := d_of dm_X0_allowApart_c50 0 (q := (84, .return_, 1)) rfl
def dl_X0_reckon_c0 : List (Nat × Instr × Nat) := [(0, .aload_n 0, 1), (1, .getfield 19, 3), (4, .iconst 0, 1), (5, .iconst 1, 1), (6, .iastore, 1), (7, .iconst 1, 1), (8, .istore_n 1, 1), (9, .iload_n 1, 1), (10, .iconst 1, 1), (11, .aload_n 0, 1), (12, .getfield 9, 3), (15, .ishl, 1), (16, .if_icmp .ge 83, 3), (19, .iload_n 1, 1), (20, .invokestatic 42, 3), (23, .istore_n 2, 1), (24, .iload_n 1, 1), (25, .iconst 1, 1), (26, .iload_n 2, 1), (27, .ishl, 1), (28, .ixor, 1), (29, .istore_n 3, 1), (30, .iconst 0, 1), (31, .istore 4, 2), (33, .iload_n 2, 1)]
set_option maxRecDepth 100000 in
theorem dm_X0_reckon_c0 : dl_X0_reckon_c0.all (fun q => decide (decode cX0_reckon q.1 = .ok q.2)) = true := by decide +kernel
theorem dX0_reckon_0 : decode cX0_reckon 0 = .ok (.aload_n 0, 1) := d_of dm_X0_reckon_c0 0 (q := (0, .aload_n 0, 1)) rfl
theorem dX0_reckon_1 : decode cX0_reckon 1 = .ok (.getfield 19, 3) := d_of dm_X0_reckon_c0 1 (q := (1, .getfield 19, 3)) rfl
theorem dX0_reckon_4 : decode cX0_reckon 4 = .ok (.iconst 0, 1) := d_of dm_X0_reckon_c0 2 (q := (4, .iconst 0, 1)) rfl
theorem dX0_reckon_5 : decode cX0_reckon 5 = .ok (.iconst 1, 1) := d_of dm_X0_reckon_c0 3 (q := (5, .iconst 1, 1)) rfl
theorem dX0_reckon_6 : decode cX0_reckon 6 = .ok (.iastore, 1) := d_of dm_X0_reckon_c0 4 (q := (6, .iastore, 1)) rfl
theorem dX0_reckon_7 : decode cX0_reckon 7 = .ok (.iconst 1, 1) := d_of dm_X0_reckon_c0 5 (q := (7, .iconst 1, 1)) rfl
theorem dX0_reckon_8 : decode cX0_reckon 8 = .ok (.istore_n 1, 1) := d_of dm_X0_reckon_c0 6 (q := (8, .istore_n 1, 1)) rfl
theorem dX0_reckon_9 : decode cX0_reckon 9 = .ok (.iload_n 1, 1) := d_of dm_X0_reckon_c0 7 (q := (9, .iload_n 1, 1)) rfl
theorem dX0_reckon_10 : decode cX0_reckon 10 = .ok (.iconst 1, 1) := d_of dm_X0_reckon_c0 8 (q := (10, .iconst 1, 1)) rfl
theorem dX0_reckon_11 : decode cX0_reckon 11 = .ok (.aload_n 0, 1) := d_of dm_X0_reckon_c0 9 (q := (11, .aload_n 0, 1)) rfl
theorem dX0_reckon_12 : decode cX0_reckon 12 = .ok (.getfield 9, 3) := d_of dm_X0_reckon_c0 10 (q := (12, .getfield 9, 3)) rfl
theorem dX0_reckon_15 : decode cX0_reckon 15 = .ok (.ishl, 1) := d_of dm_X0_reckon_c0 11 (q := (15, .ishl, 1)) rfl
theorem dX0_reckon_16 : decode cX0_reckon 16 = .ok (.if_icmp .ge 83, 3) := d_of dm_X0_reckon_c0 12 (q := (16, .if_icmp .ge 83, 3)) rfl
theorem dX0_reckon_19 : decode cX0_reckon 19 = .ok (.iload_n 1, 1) := d_of dm_X0_reckon_c0 13 (q := (19, .iload_n 1, 1)) rfl
theorem dX0_reckon_20 : decode cX0_reckon 20 = .ok (.invokestatic 42, 3) := d_of dm_X0_reckon_c0 14 (q := (20, .invokestatic 42, 3)) rfl
theorem dX0_reckon_23 : decode cX0_reckon 23 = .ok (.istore_n 2, 1) := d_of dm_X0_reckon_c0 15 (q := (23, .istore_n 2, 1)) rfl
theorem dX0_reckon_24 : decode cX0_reckon 24 = .ok (.iload_n 1, 1) := d_of dm_X0_reckon_c0 16 (q := (24, .iload_n 1, 1)) rfl
theorem dX0_reckon_25 : decode cX0_reckon 25 = .ok (.iconst 1, 1) := d_of dm_X0_reckon_c0 17 (q := (25, .iconst 1, 1)) rfl
theorem dX0_reckon_26 : decode cX0_reckon 26 = .ok (.iload_n 2, 1) := d_of dm_X0_reckon_c0 18 (q := (26, .iload_n 2, 1)) rfl
theorem dX0_reckon_27 : decode cX0_reckon 27 = .ok (.ishl, 1) := d_of dm_X0_reckon_c0 19 (q := (27, .ishl, 1)) rfl
theorem dX0_reckon_28 : decode cX0_reckon 28 = .ok (.ixor, 1) := d_of dm_X0_reckon_c0 20 (q := (28, .ixor, 1)) rfl
theorem dX0_reckon_29 : decode cX0_reckon 29 = .ok (.istore_n 3, 1) := d_of dm_X0_reckon_c0 21 (q := (29, .istore_n 3, 1)) rfl
theorem dX0_reckon_30 : decode cX0_reckon 30 = .ok (.iconst 0, 1) := d_of dm_X0_reckon_c0 22 (q := (30, .iconst 0, 1)) rfl
theorem dX0_reckon_31 : decode cX0_reckon 31 = .ok (.istore 4, 2) := d_of dm_X0_reckon_c0 23 (q := (31, .istore 4, 2)) rfl
theorem dX0_reckon_33 : decode cX0_reckon 33 = .ok (.iload_n 2, 1) := d_of dm_X0_reckon_c0 24 (q := (33, .iload_n 2, 1)) rfl
def dl_X0_reckon_c25 : List (Nat × Instr × Nat) := [(34, .iconst 1, 1), (35, .iadd, 1), (36, .istore 5, 2), (38, .iload 5, 2), (40, .aload_n 0, 1), (41, .getfield 9, 3), (44, .if_icmp .ge 41, 3), (47, .iload_n 3, 1), (48, .aload_n 0, 1), (49, .getfield 15, 3), (52, .iload_n 2, 1), (53, .iaload, 1), (54, .iand, 1), (55, .iconst 1, 1), (56, .iload 5, 2), (58, .ishl, 1), (59, .iand, 1), (60, .ifCond .eq 19, 3), (63, .iload 4, 2), (65, .aload_n 0, 1), (66, .getfield 19, 3), (69, .iload_n 3, 1), (70, .iconst 1, 1), (71, .iload 5, 2), (73, .ishl, 1)]
set_option maxRecDepth 100000 in
theorem dm_X0_reckon_c25 : dl_X0_reckon_c25.all (fun q => decide (decode cX0_reckon q.1 = .ok q.2)) = true := by decide +kernel
theorem dX0_reckon_34 : decode cX0_reckon 34 = .ok (.iconst 1, 1) := d_of dm_X0_reckon_c25 0 (q := (34, .iconst 1, 1)) rfl
theorem dX0_reckon_35 : decode cX0_reckon 35 = .ok (.iadd, 1) := d_of dm_X0_reckon_c25 1 (q := (35, .iadd, 1)) rfl
theorem dX0_reckon_36 : decode cX0_reckon 36 = .ok (.istore 5, 2) := d_of dm_X0_reckon_c25 2 (q := (36, .istore 5, 2)) rfl
theorem dX0_reckon_38 : decode cX0_reckon 38 = .ok (.iload 5, 2) := d_of dm_X0_reckon_c25 3 (q := (38, .iload 5, 2)) rfl
theorem dX0_reckon_40 : decode cX0_reckon 40 = .ok (.aload_n 0, 1) := d_of dm_X0_reckon_c25 4 (q := (40, .aload_n 0, 1)) rfl
theorem dX0_reckon_41 : decode cX0_reckon 41 = .ok (.getfield 9, 3) := d_of dm_X0_reckon_c25 5 (q := (41, .getfield 9, 3)) rfl
theorem dX0_reckon_44 : decode cX0_reckon 44 = .ok (.if_icmp .ge 41, 3) := d_of dm_X0_reckon_c25 6 (q := (44, .if_icmp .ge 41, 3)) rfl
theorem dX0_reckon_47 : decode cX0_reckon 47 = .ok (.iload_n 3, 1) := d_of dm_X0_reckon_c25 7 (q := (47, .iload_n 3, 1)) rfl
theorem dX0_reckon_48 : decode cX0_reckon 48 = .ok (.aload_n 0, 1) := d_of dm_X0_reckon_c25 8 (q := (48, .aload_n 0, 1)) rfl
theorem dX0_reckon_49 : decode cX0_reckon 49 = .ok (.getfield 15, 3) := d_of dm_X0_reckon_c25 9 (q := (49, .getfield 15, 3)) rfl
theorem dX0_reckon_52 : decode cX0_reckon 52 = .ok (.iload_n 2, 1) := d_of dm_X0_reckon_c25 10 (q := (52, .iload_n 2, 1)) rfl
theorem dX0_reckon_53 : decode cX0_reckon 53 = .ok (.iaload, 1) := d_of dm_X0_reckon_c25 11 (q := (53, .iaload, 1)) rfl
theorem dX0_reckon_54 : decode cX0_reckon 54 = .ok (.iand, 1) := d_of dm_X0_reckon_c25 12 (q := (54, .iand, 1)) rfl
theorem dX0_reckon_55 : decode cX0_reckon 55 = .ok (.iconst 1, 1) := d_of dm_X0_reckon_c25 13 (q := (55, .iconst 1, 1)) rfl
theorem dX0_reckon_56 : decode cX0_reckon 56 = .ok (.iload 5, 2) := d_of dm_X0_reckon_c25 14 (q := (56, .iload 5, 2)) rfl
theorem dX0_reckon_58 : decode cX0_reckon 58 = .ok (.ishl, 1) := d_of dm_X0_reckon_c25 15 (q := (58, .ishl, 1)) rfl
theorem dX0_reckon_59 : decode cX0_reckon 59 = .ok (.iand, 1) := d_of dm_X0_reckon_c25 16 (q := (59, .iand, 1)) rfl
theorem dX0_reckon_60 : decode cX0_reckon 60 = .ok (.ifCond .eq 19, 3) := d_of dm_X0_reckon_c25 17 (q := (60, .ifCond .eq 19, 3)) rfl
theorem dX0_reckon_63 : decode cX0_reckon 63 = .ok (.iload 4, 2) := d_of dm_X0_reckon_c25 18 (q := (63, .iload 4, 2)) rfl
theorem dX0_reckon_65 : decode cX0_reckon 65 = .ok (.aload_n 0, 1) := d_of dm_X0_reckon_c25 19 (q := (65, .aload_n 0, 1)) rfl
theorem dX0_reckon_66 : decode cX0_reckon 66 = .ok (.getfield 19, 3) := d_of dm_X0_reckon_c25 20 (q := (66, .getfield 19, 3)) rfl
theorem dX0_reckon_69 : decode cX0_reckon 69 = .ok (.iload_n 3, 1) := d_of dm_X0_reckon_c25 21 (q := (69, .iload_n 3, 1)) rfl
theorem dX0_reckon_70 : decode cX0_reckon 70 = .ok (.iconst 1, 1) := d_of dm_X0_reckon_c25 22 (q := (70, .iconst 1, 1)) rfl
theorem dX0_reckon_71 : decode cX0_reckon 71 = .ok (.iload 5, 2) := d_of dm_X0_reckon_c25 23 (q := (71, .iload 5, 2)) rfl
theorem dX0_reckon_73 : decode cX0_reckon 73 = .ok (.ishl, 1) := d_of dm_X0_reckon_c25 24 (q := (73, .ishl, 1)) rfl
def dl_X0_reckon_c50 : List (Nat × Instr × Nat) := [(74, .ixor, 1), (75, .iaload, 1), (76, .iadd, 1), (77, .istore 4, 2), (79, .iinc 5 1, 3), (82, .goto (-44), 3), (85, .aload_n 0, 1), (86, .getfield 19, 3), (89, .iload_n 1, 1), (90, .iload 4, 2), (92, .iastore, 1), (93, .iinc 1 1, 3), (96, .goto (-87), 3), (99, .return_, 1)]
set_option maxRecDepth 100000 in
theorem dm_X0_reckon_c50 : dl_X0_reckon_c50.all (fun q => decide (decode cX0_reckon q.1 = .ok q.2)) = true := by decide +kernel
theorem dX0_reckon_74 : decode cX0_reckon 74 = .ok (.ixor, 1) := d_of dm_X0_reckon_c50 0 (q := (74, .ixor, 1)) rfl
theorem dX0_reckon_75 : decode cX0_reckon 75 = .ok (.iaload, 1) := d_of dm_X0_reckon_c50 1 (q := (75, .iaload, 1)) rfl
theorem dX0_reckon_76 : decode cX0_reckon 76 = .ok (.iadd, 1) := d_of dm_X0_reckon_c50 2 (q := (76, .iadd, 1)) rfl
theorem dX0_reckon_77 : decode cX0_reckon 77 = .ok (.istore 4, 2) := d_of dm_X0_reckon_c50 3 (q := (77, .istore 4, 2)) rfl
theorem dX0_reckon_79 : decode cX0_reckon 79 = .ok (.iinc 5 1, 3) := d_of dm_X0_reckon_c50 4 (q := (79, .iinc 5 1, 3)) rfl
theorem dX0_reckon_82 : decode cX0_reckon 82 = .ok (.goto (-44), 3) := d_of dm_X0_reckon_c50 5 (q := (82, .goto (-44), 3)) rfl
theorem dX0_reckon_85 : decode cX0_reckon 85 = .ok (.aload_n 0, 1) := d_of dm_X0_reckon_c50 6 (q := (85, .aload_n 0, 1)) rfl
theorem dX0_reckon_86 : decode cX0_reckon 86 = .ok (.getfield 19, 3) := d_of dm_X0_reckon_c50 7 (q := (86, .getfield 19, 3)) rfl
theorem dX0_reckon_89 : decode cX0_reckon 89 = .ok (.iload_n 1, 1) := d_of dm_X0_reckon_c50 8 (q := (89, .iload_n 1, 1)) rfl
theorem dX0_reckon_90 : decode cX0_reckon 90 = .ok (.iload 4, 2) := d_of dm_X0_reckon_c50 9 (q := (90, .iload 4, 2)) rfl
theorem dX0_reckon_92 : decode cX0_reckon 92 = .ok (.iastore, 1) := d_of dm_X0_reckon_c50 10 (q := (92, .iastore, 1)) rfl
theorem dX0_reckon_93 : decode cX0_reckon 93 = .ok (.iinc 1 1, 3) := d_of dm_X0_reckon_c50 11 (q := (93, .iinc 1 1, 3)) rfl
theorem dX0_reckon_96 : decode cX0_reckon 96 = .ok (.goto (-87), 3) := d_of dm_X0_reckon_c50 12 (q := (96, .goto (-87), 3)) rfl
theorem dX0_reckon_99 : decode cX0_reckon 99 = .ok (.return_, 1) := d_of dm_X0_reckon_c50 13 (q := (99, .return_, 1)) rfl
def dl_X0_leastOf_c0 : List (Nat × Instr × Nat) := [(0, .iconst 0, 1), (1, .istore_n 1, 1), (2, .iload_n 1, 1), (3, .bipush 8, 2), (5, .if_icmp .ge 19, 3), (8, .iload_n 0, 1), (9, .iload_n 1, 1), (10, .ishr, 1), (11, .iconst 1, 1), (12, .iand, 1), (13, .ifCond .eq 5, 3), (16, .iload_n 1, 1), (17, .ireturn, 1), (18, .iinc 1 1, 3), (21, .goto (-19), 3), (24, .bipush (-9), 2), (26, .ireturn, 1)]
set_option maxRecDepth 100000 in
theorem dm_X0_leastOf_c0 : dl_X0_leastOf_c0.all (fun q => decide (decode cX0_leastOf q.1 = .ok q.2)) = true := by decide +kernel
theorem dX0_leastOf_0 : decode cX0_leastOf 0 = .ok (.iconst 0, 1) := d_of dm_X0_leastOf_c0 0 (q := (0, .iconst 0, 1)) rfl
theorem dX0_leastOf_1 : decode cX0_leastOf 1 = .ok (.istore_n 1, 1) := d_of dm_X0_leastOf_c0 1 (q := (1, .istore_n 1, 1)) rfl
theorem dX0_leastOf_2 : decode cX0_leastOf 2 = .ok (.iload_n 1, 1) := d_of dm_X0_leastOf_c0 2 (q := (2, .iload_n 1, 1)) rfl
theorem dX0_leastOf_3 : decode cX0_leastOf 3 = .ok (.bipush 8, 2) := d_of dm_X0_leastOf_c0 3 (q := (3, .bipush 8, 2)) rfl
theorem dX0_leastOf_5 : decode cX0_leastOf 5 = .ok (.if_icmp .ge 19, 3) := d_of dm_X0_leastOf_c0 4 (q := (5, .if_icmp .ge 19, 3)) rfl
theorem dX0_leastOf_8 : decode cX0_leastOf 8 = .ok (.iload_n 0, 1) := d_of dm_X0_leastOf_c0 5 (q := (8, .iload_n 0, 1)) rfl
theorem dX0_leastOf_9 : decode cX0_leastOf 9 = .ok (.iload_n 1, 1) := d_of dm_X0_leastOf_c0 6 (q := (9, .iload_n 1, 1)) rfl
theorem dX0_leastOf_10 : decode cX0_leastOf 10 = .ok (.ishr, 1) := d_of dm_X0_leastOf_c0 7 (q := (10, .ishr, 1)) rfl
theorem dX0_leastOf_11 : decode cX0_leastOf 11 = .ok (.iconst 1, 1) := d_of dm_X0_leastOf_c0 8 (q := (11, .iconst 1, 1)) rfl
theorem dX0_leastOf_12 : decode cX0_leastOf 12 = .ok (.iand, 1) := d_of dm_X0_leastOf_c0 9 (q := (12, .iand, 1)) rfl
theorem dX0_leastOf_13 : decode cX0_leastOf 13 = .ok (.ifCond .eq 5, 3) := d_of dm_X0_leastOf_c0 10 (q := (13, .ifCond .eq 5, 3)) rfl
theorem dX0_leastOf_16 : decode cX0_leastOf 16 = .ok (.iload_n 1, 1) := d_of dm_X0_leastOf_c0 11 (q := (16, .iload_n 1, 1)) rfl
theorem dX0_leastOf_17 : decode cX0_leastOf 17 = .ok (.ireturn, 1) := d_of dm_X0_leastOf_c0 12 (q := (17, .ireturn, 1)) rfl
theorem dX0_leastOf_18 : decode cX0_leastOf 18 = .ok (.iinc 1 1, 3) := d_of dm_X0_leastOf_c0 13 (q := (18, .iinc 1 1, 3)) rfl
theorem dX0_leastOf_21 : decode cX0_leastOf 21 = .ok (.goto (-19), 3) := d_of dm_X0_leastOf_c0 14 (q := (21, .goto (-19), 3)) rfl
theorem dX0_leastOf_24 : decode cX0_leastOf 24 = .ok (.bipush (-9), 2) := d_of dm_X0_leastOf_c0 15 (q := (24, .bipush (-9), 2)) rfl
theorem dX0_leastOf_26 : decode cX0_leastOf 26 = .ok (.ireturn, 1) := d_of dm_X0_leastOf_c0 16 (q := (26, .ireturn, 1)) rfl
def dl_X0_ofAll_c0 : List (Nat × Instr × Nat) := [(0, .aload_n 0, 1), (1, .getfield 19, 3), (4, .iconst 1, 1), (5, .aload_n 0, 1), (6, .getfield 9, 3), (9, .ishl, 1), (10, .iconst 1, 1), (11, .isub, 1), (12, .iaload, 1), (13, .ireturn, 1)]
set_option maxRecDepth 100000 in
theorem dm_X0_ofAll_c0 : dl_X0_ofAll_c0.all (fun q => decide (decode cX0_ofAll q.1 = .ok q.2)) = true := by decide +kernel
theorem dX0_ofAll_0 : decode cX0_ofAll 0 = .ok (.aload_n 0, 1) := d_of dm_X0_ofAll_c0 0 (q := (0, .aload_n 0, 1)) rfl
theorem dX0_ofAll_1 : decode cX0_ofAll 1 = .ok (.getfield 19, 3) := d_of dm_X0_ofAll_c0 1 (q := (1, .getfield 19, 3)) rfl
theorem dX0_ofAll_4 : decode cX0_ofAll 4 = .ok (.iconst 1, 1) := d_of dm_X0_ofAll_c0 2 (q := (4, .iconst 1, 1)) rfl
theorem dX0_ofAll_5 : decode cX0_ofAll 5 = .ok (.aload_n 0, 1) := d_of dm_X0_ofAll_c0 3 (q := (5, .aload_n 0, 1)) rfl
theorem dX0_ofAll_6 : decode cX0_ofAll 6 = .ok (.getfield 9, 3) := d_of dm_X0_ofAll_c0 4 (q := (6, .getfield 9, 3)) rfl
theorem dX0_ofAll_9 : decode cX0_ofAll 9 = .ok (.ishl, 1) := d_of dm_X0_ofAll_c0 5 (q := (9, .ishl, 1)) rfl
theorem dX0_ofAll_10 : decode cX0_ofAll 10 = .ok (.iconst 1, 1) := d_of dm_X0_ofAll_c0 6 (q := (10, .iconst 1, 1)) rfl
theorem dX0_ofAll_11 : decode cX0_ofAll 11 = .ok (.isub, 1) := d_of dm_X0_ofAll_c0 7 (q := (11, .isub, 1)) rfl
theorem dX0_ofAll_12 : decode cX0_ofAll 12 = .ok (.iaload, 1) := d_of dm_X0_ofAll_c0 8 (q := (12, .iaload, 1)) rfl
theorem dX0_ofAll_13 : decode cX0_ofAll 13 = .ok (.ireturn, 1) := d_of dm_X0_ofAll_c0 9 (q := (13, .ireturn, 1)) rfl
def dl_X0_othersOf_c0 : List (Nat × Instr × Nat) := [(0, .iconst 0, 1), (1, .istore_n 2, 1), (2, .iconst 1, 1), (3, .aload_n 0, 1), (4, .getfield 9, 3), (7, .ishl, 1), (8, .iconst 1, 1), (9, .isub, 1), (10, .iconst 1, 1), (11, .iload_n 1, 1), (12, .ishl, 1), (13, .iconst (-1), 1), (14, .ixor, 1), (15, .iand, 1), (16, .istore_n 3, 1), (17, .iconst 0, 1), (18, .istore 4, 2), (20, .iload 4, 2), (22, .aload_n 0, 1), (23, .getfield 9, 3), (26, .if_icmp .ge 46, 3), (29, .iload_n 3, 1), (30, .aload_n 0, 1), (31, .getfield 15, 3), (34, .iload_n 1, 1)]
set_option maxRecDepth 100000 in
theorem dm_X0_othersOf_c0 : dl_X0_othersOf_c0.all (fun q => decide (decode cX0_othersOf q.1 = .ok q.2)) = true := by decide +kernel
theorem dX0_othersOf_0 : decode cX0_othersOf 0 = .ok (.iconst 0, 1) := d_of dm_X0_othersOf_c0 0 (q := (0, .iconst 0, 1)) rfl
theorem dX0_othersOf_1 : decode cX0_othersOf 1 = .ok (.istore_n 2, 1) := d_of dm_X0_othersOf_c0 1 (q := (1, .istore_n 2, 1)) rfl
theorem dX0_othersOf_2 : decode cX0_othersOf 2 = .ok (.iconst 1, 1) := d_of dm_X0_othersOf_c0 2 (q := (2, .iconst 1, 1)) rfl
theorem dX0_othersOf_3 : decode cX0_othersOf 3 = .ok (.aload_n 0, 1) := d_of dm_X0_othersOf_c0 3 (q := (3, .aload_n 0, 1)) rfl
theorem dX0_othersOf_4 : decode cX0_othersOf 4 = .ok (.getfield 9, 3) := d_of dm_X0_othersOf_c0 4 (q := (4, .getfield 9, 3)) rfl
theorem dX0_othersOf_7 : decode cX0_othersOf 7 = .ok (.ishl, 1) := d_of dm_X0_othersOf_c0 5 (q := (7, .ishl, 1)) rfl
theorem dX0_othersOf_8 : decode cX0_othersOf 8 = .ok (.iconst 1, 1) := d_of dm_X0_othersOf_c0 6 (q := (8, .iconst 1, 1)) rfl
theorem dX0_othersOf_9 : decode cX0_othersOf 9 = .ok (.isub, 1) := d_of dm_X0_othersOf_c0 7 (q := (9, .isub, 1)) rfl
theorem dX0_othersOf_10 : decode cX0_othersOf 10 = .ok (.iconst 1, 1) := d_of dm_X0_othersOf_c0 8 (q := (10, .iconst 1, 1)) rfl
theorem dX0_othersOf_11 : decode cX0_othersOf 11 = .ok (.iload_n 1, 1) := d_of dm_X0_othersOf_c0 9 (q := (11, .iload_n 1, 1)) rfl
theorem dX0_othersOf_12 : decode cX0_othersOf 12 = .ok (.ishl, 1) := d_of dm_X0_othersOf_c0 10 (q := (12, .ishl, 1)) rfl
theorem dX0_othersOf_13 : decode cX0_othersOf 13 = .ok (.iconst (-1), 1) := d_of dm_X0_othersOf_c0 11 (q := (13, .iconst (-1), 1)) rfl
theorem dX0_othersOf_14 : decode cX0_othersOf 14 = .ok (.ixor, 1) := d_of dm_X0_othersOf_c0 12 (q := (14, .ixor, 1)) rfl
theorem dX0_othersOf_15 : decode cX0_othersOf 15 = .ok (.iand, 1) := d_of dm_X0_othersOf_c0 13 (q := (15, .iand, 1)) rfl
theorem dX0_othersOf_16 : decode cX0_othersOf 16 = .ok (.istore_n 3, 1) := d_of dm_X0_othersOf_c0 14 (q := (16, .istore_n 3, 1)) rfl
theorem dX0_othersOf_17 : decode cX0_othersOf 17 = .ok (.iconst 0, 1) := d_of dm_X0_othersOf_c0 15 (q := (17, .iconst 0, 1)) rfl
theorem dX0_othersOf_18 : decode cX0_othersOf 18 = .ok (.istore 4, 2) := d_of dm_X0_othersOf_c0 16 (q := (18, .istore 4, 2)) rfl
theorem dX0_othersOf_20 : decode cX0_othersOf 20 = .ok (.iload 4, 2) := d_of dm_X0_othersOf_c0 17 (q := (20, .iload 4, 2)) rfl
theorem dX0_othersOf_22 : decode cX0_othersOf 22 = .ok (.aload_n 0, 1) := d_of dm_X0_othersOf_c0 18 (q := (22, .aload_n 0, 1)) rfl
theorem dX0_othersOf_23 : decode cX0_othersOf 23 = .ok (.getfield 9, 3) := d_of dm_X0_othersOf_c0 19 (q := (23, .getfield 9, 3)) rfl
theorem dX0_othersOf_26 : decode cX0_othersOf 26 = .ok (.if_icmp .ge 46, 3) := d_of dm_X0_othersOf_c0 20 (q := (26, .if_icmp .ge 46, 3)) rfl
theorem dX0_othersOf_29 : decode cX0_othersOf 29 = .ok (.iload_n 3, 1) := d_of dm_X0_othersOf_c0 21 (q := (29, .iload_n 3, 1)) rfl
theorem dX0_othersOf_30 : decode cX0_othersOf 30 = .ok (.aload_n 0, 1) := d_of dm_X0_othersOf_c0 22 (q := (30, .aload_n 0, 1)) rfl
theorem dX0_othersOf_31 : decode cX0_othersOf 31 = .ok (.getfield 15, 3) := d_of dm_X0_othersOf_c0 23 (q := (31, .getfield 15, 3)) rfl
theorem dX0_othersOf_34 : decode cX0_othersOf 34 = .ok (.iload_n 1, 1) := d_of dm_X0_othersOf_c0 24 (q := (34, .iload_n 1, 1)) rfl
def dl_X0_othersOf_c25 : List (Nat × Instr × Nat) := [(35, .iaload, 1), (36, .iand, 1), (37, .iconst 1, 1), (38, .iload 4, 2), (40, .ishl, 1), (41, .iand, 1), (42, .ifCond .eq 24, 3), (45, .aload_n 0, 1), (46, .getfield 19, 3), (49, .iload_n 3, 1), (50, .iconst 1, 1), (51, .iload 4, 2), (53, .ishl, 1), (54, .ixor, 1), (55, .iaload, 1), (56, .ifCond .le 10, 3), (59, .iload_n 2, 1), (60, .iconst 1, 1), (61, .iload 4, 2), (63, .ishl, 1), (64, .ior, 1), (65, .istore_n 2, 1), (66, .iinc 4 1, 3), (69, .goto (-49), 3), (72, .iload_n 2, 1)]
set_option maxRecDepth 100000 in
theorem dm_X0_othersOf_c25 : dl_X0_othersOf_c25.all (fun q => decide (decode cX0_othersOf q.1 = .ok q.2)) = true := by decide +kernel
theorem dX0_othersOf_35 : decode cX0_othersOf 35 = .ok (.iaload, 1) := d_of dm_X0_othersOf_c25 0 (q := (35, .iaload, 1)) rfl
theorem dX0_othersOf_36 : decode cX0_othersOf 36 = .ok (.iand, 1) := d_of dm_X0_othersOf_c25 1 (q := (36, .iand, 1)) rfl
theorem dX0_othersOf_37 : decode cX0_othersOf 37 = .ok (.iconst 1, 1) := d_of dm_X0_othersOf_c25 2 (q := (37, .iconst 1, 1)) rfl
theorem dX0_othersOf_38 : decode cX0_othersOf 38 = .ok (.iload 4, 2) := d_of dm_X0_othersOf_c25 3 (q := (38, .iload 4, 2)) rfl
theorem dX0_othersOf_40 : decode cX0_othersOf 40 = .ok (.ishl, 1) := d_of dm_X0_othersOf_c25 4 (q := (40, .ishl, 1)) rfl
theorem dX0_othersOf_41 : decode cX0_othersOf 41 = .ok (.iand, 1) := d_of dm_X0_othersOf_c25 5 (q := (41, .iand, 1)) rfl
theorem dX0_othersOf_42 : decode cX0_othersOf 42 = .ok (.ifCond .eq 24, 3) := d_of dm_X0_othersOf_c25 6 (q := (42, .ifCond .eq 24, 3)) rfl
theorem dX0_othersOf_45 : decode cX0_othersOf 45 = .ok (.aload_n 0, 1) := d_of dm_X0_othersOf_c25 7 (q := (45, .aload_n 0, 1)) rfl
theorem dX0_othersOf_46 : decode cX0_othersOf 46 = .ok (.getfield 19, 3) := d_of dm_X0_othersOf_c25 8 (q := (46, .getfield 19, 3)) rfl
theorem dX0_othersOf_49 : decode cX0_othersOf 49 = .ok (.iload_n 3, 1) := d_of dm_X0_othersOf_c25 9 (q := (49, .iload_n 3, 1)) rfl
theorem dX0_othersOf_50 : decode cX0_othersOf 50 = .ok (.iconst 1, 1) := d_of dm_X0_othersOf_c25 10 (q := (50, .iconst 1, 1)) rfl
theorem dX0_othersOf_51 : decode cX0_othersOf 51 = .ok (.iload 4, 2) := d_of dm_X0_othersOf_c25 11 (q := (51, .iload 4, 2)) rfl
theorem dX0_othersOf_53 : decode cX0_othersOf 53 = .ok (.ishl, 1) := d_of dm_X0_othersOf_c25 12 (q := (53, .ishl, 1)) rfl
theorem dX0_othersOf_54 : decode cX0_othersOf 54 = .ok (.ixor, 1) := d_of dm_X0_othersOf_c25 13 (q := (54, .ixor, 1)) rfl
theorem dX0_othersOf_55 : decode cX0_othersOf 55 = .ok (.iaload, 1) := d_of dm_X0_othersOf_c25 14 (q := (55, .iaload, 1)) rfl
theorem dX0_othersOf_56 : decode cX0_othersOf 56 = .ok (.ifCond .le 10, 3) := d_of dm_X0_othersOf_c25 15 (q := (56, .ifCond .le 10, 3)) rfl
theorem dX0_othersOf_59 : decode cX0_othersOf 59 = .ok (.iload_n 2, 1) := d_of dm_X0_othersOf_c25 16 (q := (59, .iload_n 2, 1)) rfl
theorem dX0_othersOf_60 : decode cX0_othersOf 60 = .ok (.iconst 1, 1) := d_of dm_X0_othersOf_c25 17 (q := (60, .iconst 1, 1)) rfl
theorem dX0_othersOf_61 : decode cX0_othersOf 61 = .ok (.iload 4, 2) := d_of dm_X0_othersOf_c25 18 (q := (61, .iload 4, 2)) rfl
theorem dX0_othersOf_63 : decode cX0_othersOf 63 = .ok (.ishl, 1) := d_of dm_X0_othersOf_c25 19 (q := (63, .ishl, 1)) rfl
theorem dX0_othersOf_64 : decode cX0_othersOf 64 = .ok (.ior, 1) := d_of dm_X0_othersOf_c25 20 (q := (64, .ior, 1)) rfl
theorem dX0_othersOf_65 : decode cX0_othersOf 65 = .ok (.istore_n 2, 1) := d_of dm_X0_othersOf_c25 21 (q := (65, .istore_n 2, 1)) rfl
theorem dX0_othersOf_66 : decode cX0_othersOf 66 = .ok (.iinc 4 1, 3) := d_of dm_X0_othersOf_c25 22 (q := (66, .iinc 4 1, 3)) rfl
theorem dX0_othersOf_69 : decode cX0_othersOf 69 = .ok (.goto (-49), 3) := d_of dm_X0_othersOf_c25 23 (q := (69, .goto (-49), 3)) rfl
theorem dX0_othersOf_72 : decode cX0_othersOf 72 = .ok (.iload_n 2, 1) := d_of dm_X0_othersOf_c25 24 (q := (72, .iload_n 2, 1)) rfl
def dl_X0_othersOf_c50 : List (Nat × Instr × Nat) := [(73, .ireturn, 1)]
set_option maxRecDepth 100000 in
theorem dm_X0_othersOf_c50 : dl_X0_othersOf_c50.all (fun q => decide (decode cX0_othersOf q.1 = .ok q.2)) = true := by decide +kernel
theorem dX0_othersOf_73 : decode cX0_othersOf 73 = .ok (.ireturn, 1) := d_of dm_X0_othersOf_c50 0 (q := (73, .ireturn, 1)) rfl
def dl_X1_init_c0 : List (Nat × Instr × Nat) := [(0, .aload_n 0, 1), (1, .invokespecial 3, 3), (4, .aload_n 0, 1), (5, .iconst 0, 1), (6, .putfield 9, 3), (9, .aload_n 0, 1), (10, .bipush 10, 2), (12, .newarray .int, 2), (14, .putfield 15, 3), (17, .aload_n 0, 1), (18, .bipush 10, 2), (20, .newarray .int, 2), (22, .putfield 19, 3), (25, .aload_n 0, 1), (26, .iconst 0, 1), (27, .putfield 22, 3), (30, .aload_n 0, 1), (31, .bipush 6, 2), (33, .newarray .int, 2), (35, .putfield 25, 3), (38, .aload_n 0, 1), (39, .bipush 6, 2), (41, .newarray .int, 2), (43, .putfield 28, 3), (46, .aload_n 0, 1)]
set_option maxRecDepth 100000 in
theorem dm_X1_init_c0 : dl_X1_init_c0.all (fun q => decide (decode cX1_init q.1 = .ok q.2)) = true := by decide +kernel
theorem dX1_init_0 : decode cX1_init 0 = .ok (.aload_n 0, 1) := d_of dm_X1_init_c0 0 (q := (0, .aload_n 0, 1)) rfl
theorem dX1_init_1 : decode cX1_init 1 = .ok (.invokespecial 3, 3) := d_of dm_X1_init_c0 1 (q := (1, .invokespecial 3, 3)) rfl
theorem dX1_init_4 : decode cX1_init 4 = .ok (.aload_n 0, 1) := d_of dm_X1_init_c0 2 (q := (4, .aload_n 0, 1)) rfl
theorem dX1_init_5 : decode cX1_init 5 = .ok (.iconst 0, 1) := d_of dm_X1_init_c0 3 (q := (5, .iconst 0, 1)) rfl
theorem dX1_init_6 : decode cX1_init 6 = .ok (.putfield 9, 3) := d_of dm_X1_init_c0 4 (q := (6, .putfield 9, 3)) rfl
theorem dX1_init_9 : decode cX1_init 9 = .ok (.aload_n 0, 1) := d_of dm_X1_init_c0 5 (q := (9, .aload_n 0, 1)) rfl
theorem dX1_init_10 : decode cX1_init 10 = .ok (.bipush 10, 2) := d_of dm_X1_init_c0 6 (q := (10, .bipush 10, 2)) rfl
theorem dX1_init_12 : decode cX1_init 12 = .ok (.newarray .int, 2) := d_of dm_X1_init_c0 7 (q := (12, .newarray .int, 2)) rfl
theorem dX1_init_14 : decode cX1_init 14 = .ok (.putfield 15, 3) := d_of dm_X1_init_c0 8 (q := (14, .putfield 15, 3)) rfl
theorem dX1_init_17 : decode cX1_init 17 = .ok (.aload_n 0, 1) := d_of dm_X1_init_c0 9 (q := (17, .aload_n 0, 1)) rfl
theorem dX1_init_18 : decode cX1_init 18 = .ok (.bipush 10, 2) := d_of dm_X1_init_c0 10 (q := (18, .bipush 10, 2)) rfl
theorem dX1_init_20 : decode cX1_init 20 = .ok (.newarray .int, 2) := d_of dm_X1_init_c0 11 (q := (20, .newarray .int, 2)) rfl
theorem dX1_init_22 : decode cX1_init 22 = .ok (.putfield 19, 3) := d_of dm_X1_init_c0 12 (q := (22, .putfield 19, 3)) rfl
theorem dX1_init_25 : decode cX1_init 25 = .ok (.aload_n 0, 1) := d_of dm_X1_init_c0 13 (q := (25, .aload_n 0, 1)) rfl
theorem dX1_init_26 : decode cX1_init 26 = .ok (.iconst 0, 1) := d_of dm_X1_init_c0 14 (q := (26, .iconst 0, 1)) rfl
theorem dX1_init_27 : decode cX1_init 27 = .ok (.putfield 22, 3) := d_of dm_X1_init_c0 15 (q := (27, .putfield 22, 3)) rfl
theorem dX1_init_30 : decode cX1_init 30 = .ok (.aload_n 0, 1) := d_of dm_X1_init_c0 16 (q := (30, .aload_n 0, 1)) rfl
theorem dX1_init_31 : decode cX1_init 31 = .ok (.bipush 6, 2) := d_of dm_X1_init_c0 17 (q := (31, .bipush 6, 2)) rfl
theorem dX1_init_33 : decode cX1_init 33 = .ok (.newarray .int, 2) := d_of dm_X1_init_c0 18 (q := (33, .newarray .int, 2)) rfl
theorem dX1_init_35 : decode cX1_init 35 = .ok (.putfield 25, 3) := d_of dm_X1_init_c0 19 (q := (35, .putfield 25, 3)) rfl
theorem dX1_init_38 : decode cX1_init 38 = .ok (.aload_n 0, 1) := d_of dm_X1_init_c0 20 (q := (38, .aload_n 0, 1)) rfl
theorem dX1_init_39 : decode cX1_init 39 = .ok (.bipush 6, 2) := d_of dm_X1_init_c0 21 (q := (39, .bipush 6, 2)) rfl
theorem dX1_init_41 : decode cX1_init 41 = .ok (.newarray .int, 2) := d_of dm_X1_init_c0 22 (q := (41, .newarray .int, 2)) rfl
theorem dX1_init_43 : decode cX1_init 43 = .ok (.putfield 28, 3) := d_of dm_X1_init_c0 23 (q := (43, .putfield 28, 3)) rfl
theorem dX1_init_46 : decode cX1_init 46 = .ok (.aload_n 0, 1) := d_of dm_X1_init_c0 24 (q := (46, .aload_n 0, 1)) rfl
def dl_X1_init_c25 : List (Nat × Instr × Nat) := [(47, .iconst 0, 1), (48, .putfield 31, 3), (51, .aload_n 0, 1), (52, .bipush 8, 2), (54, .newarray .int, 2), (56, .putfield 34, 3), (59, .aload_n 0, 1), (60, .bipush 8, 2), (62, .newarray .int, 2), (64, .putfield 37, 3), (67, .aload_n 0, 1), (68, .bipush 8, 2), (70, .newarray .int, 2), (72, .putfield 40, 3), (75, .aload_n 0, 1), (76, .iconst 0, 1), (77, .putfield 43, 3), (80, .aload_n 0, 1), (81, .iconst 0, 1), (82, .putfield 46, 3), (85, .aload_n 0, 1), (86, .bipush 8, 2), (88, .newarray .int, 2), (90, .putfield 49, 3), (93, .return_, 1)]
set_option maxRecDepth 100000 in
theorem dm_X1_init_c25 : dl_X1_init_c25.all (fun q => decide (decode cX1_init q.1 = .ok q.2)) = true := by decide +kernel
theorem dX1_init_47 : decode cX1_init 47 = .ok (.iconst 0, 1) := d_of dm_X1_init_c25 0 (q := (47, .iconst 0, 1)) rfl
theorem dX1_init_48 : decode cX1_init 48 = .ok (.putfield 31, 3) := d_of dm_X1_init_c25 1 (q := (48, .putfield 31, 3)) rfl
theorem dX1_init_51 : decode cX1_init 51 = .ok (.aload_n 0, 1) := d_of dm_X1_init_c25 2 (q := (51, .aload_n 0, 1)) rfl
theorem dX1_init_52 : decode cX1_init 52 = .ok (.bipush 8, 2) := d_of dm_X1_init_c25 3 (q := (52, .bipush 8, 2)) rfl
theorem dX1_init_54 : decode cX1_init 54 = .ok (.newarray .int, 2) := d_of dm_X1_init_c25 4 (q := (54, .newarray .int, 2)) rfl
theorem dX1_init_56 : decode cX1_init 56 = .ok (.putfield 34, 3) := d_of dm_X1_init_c25 5 (q := (56, .putfield 34, 3)) rfl
theorem dX1_init_59 : decode cX1_init 59 = .ok (.aload_n 0, 1) := d_of dm_X1_init_c25 6 (q := (59, .aload_n 0, 1)) rfl
theorem dX1_init_60 : decode cX1_init 60 = .ok (.bipush 8, 2) := d_of dm_X1_init_c25 7 (q := (60, .bipush 8, 2)) rfl
theorem dX1_init_62 : decode cX1_init 62 = .ok (.newarray .int, 2) := d_of dm_X1_init_c25 8 (q := (62, .newarray .int, 2)) rfl
theorem dX1_init_64 : decode cX1_init 64 = .ok (.putfield 37, 3) := d_of dm_X1_init_c25 9 (q := (64, .putfield 37, 3)) rfl
theorem dX1_init_67 : decode cX1_init 67 = .ok (.aload_n 0, 1) := d_of dm_X1_init_c25 10 (q := (67, .aload_n 0, 1)) rfl
theorem dX1_init_68 : decode cX1_init 68 = .ok (.bipush 8, 2) := d_of dm_X1_init_c25 11 (q := (68, .bipush 8, 2)) rfl
theorem dX1_init_70 : decode cX1_init 70 = .ok (.newarray .int, 2) := d_of dm_X1_init_c25 12 (q := (70, .newarray .int, 2)) rfl
theorem dX1_init_72 : decode cX1_init 72 = .ok (.putfield 40, 3) := d_of dm_X1_init_c25 13 (q := (72, .putfield 40, 3)) rfl
theorem dX1_init_75 : decode cX1_init 75 = .ok (.aload_n 0, 1) := d_of dm_X1_init_c25 14 (q := (75, .aload_n 0, 1)) rfl
theorem dX1_init_76 : decode cX1_init 76 = .ok (.iconst 0, 1) := d_of dm_X1_init_c25 15 (q := (76, .iconst 0, 1)) rfl
theorem dX1_init_77 : decode cX1_init 77 = .ok (.putfield 43, 3) := d_of dm_X1_init_c25 16 (q := (77, .putfield 43, 3)) rfl
theorem dX1_init_80 : decode cX1_init 80 = .ok (.aload_n 0, 1) := d_of dm_X1_init_c25 17 (q := (80, .aload_n 0, 1)) rfl
theorem dX1_init_81 : decode cX1_init 81 = .ok (.iconst 0, 1) := d_of dm_X1_init_c25 18 (q := (81, .iconst 0, 1)) rfl
theorem dX1_init_82 : decode cX1_init 82 = .ok (.putfield 46, 3) := d_of dm_X1_init_c25 19 (q := (82, .putfield 46, 3)) rfl
theorem dX1_init_85 : decode cX1_init 85 = .ok (.aload_n 0, 1) := d_of dm_X1_init_c25 20 (q := (85, .aload_n 0, 1)) rfl
theorem dX1_init_86 : decode cX1_init 86 = .ok (.bipush 8, 2) := d_of dm_X1_init_c25 21 (q := (86, .bipush 8, 2)) rfl
theorem dX1_init_88 : decode cX1_init 88 = .ok (.newarray .int, 2) := d_of dm_X1_init_c25 22 (q := (88, .newarray .int, 2)) rfl
theorem dX1_init_90 : decode cX1_init 90 = .ok (.putfield 49, 3) := d_of dm_X1_init_c25 23 (q := (90, .putfield 49, 3)) rfl
theorem dX1_init_93 : decode cX1_init 93 = .ok (.return_, 1) := d_of dm_X1_init_c25 24 (q := (93, .return_, 1)) rfl
def dl_X1_become_c0 : List (Nat × Instr × Nat) := [(0, .aload_n 0, 1), (1, .aload_n 1, 1), (2, .getfield 9, 3), (5, .putfield 9, 3), (8, .aload_n 0, 1), (9, .aload_n 1, 1), (10, .getfield 22, 3), (13, .putfield 22, 3), (16, .aload_n 0, 1), (17, .aload_n 1, 1), (18, .getfield 31, 3), (21, .putfield 31, 3), (24, .aload_n 0, 1), (25, .aload_n 1, 1), (26, .getfield 43, 3), (29, .putfield 43, 3), (32, .aload_n 0, 1), (33, .aload_n 1, 1), (34, .getfield 46, 3), (37, .putfield 46, 3), (40, .aload_n 1, 1), (41, .getfield 15, 3), (44, .iconst 0, 1), (45, .aload_n 0, 1), (46, .getfield 15, 3)]
set_option maxRecDepth 100000 in
theorem dm_X1_become_c0 : dl_X1_become_c0.all (fun q => decide (decode cX1_become q.1 = .ok q.2)) = true := by decide +kernel
theorem dX1_become_0 : decode cX1_become 0 = .ok (.aload_n 0, 1) := d_of dm_X1_become_c0 0 (q := (0, .aload_n 0, 1)) rfl
theorem dX1_become_1 : decode cX1_become 1 = .ok (.aload_n 1, 1) := d_of dm_X1_become_c0 1 (q := (1, .aload_n 1, 1)) rfl
theorem dX1_become_2 : decode cX1_become 2 = .ok (.getfield 9, 3) := d_of dm_X1_become_c0 2 (q := (2, .getfield 9, 3)) rfl
theorem dX1_become_5 : decode cX1_become 5 = .ok (.putfield 9, 3) := d_of dm_X1_become_c0 3 (q := (5, .putfield 9, 3)) rfl
theorem dX1_become_8 : decode cX1_become 8 = .ok (.aload_n 0, 1) := d_of dm_X1_become_c0 4 (q := (8, .aload_n 0, 1)) rfl
theorem dX1_become_9 : decode cX1_become 9 = .ok (.aload_n 1, 1) := d_of dm_X1_become_c0 5 (q := (9, .aload_n 1, 1)) rfl
theorem dX1_become_10 : decode cX1_become 10 = .ok (.getfield 22, 3) := d_of dm_X1_become_c0 6 (q := (10, .getfield 22, 3)) rfl
theorem dX1_become_13 : decode cX1_become 13 = .ok (.putfield 22, 3) := d_of dm_X1_become_c0 7 (q := (13, .putfield 22, 3)) rfl
theorem dX1_become_16 : decode cX1_become 16 = .ok (.aload_n 0, 1) := d_of dm_X1_become_c0 8 (q := (16, .aload_n 0, 1)) rfl
theorem dX1_become_17 : decode cX1_become 17 = .ok (.aload_n 1, 1) := d_of dm_X1_become_c0 9 (q := (17, .aload_n 1, 1)) rfl
theorem dX1_become_18 : decode cX1_become 18 = .ok (.getfield 31, 3) := d_of dm_X1_become_c0 10 (q := (18, .getfield 31, 3)) rfl
theorem dX1_become_21 : decode cX1_become 21 = .ok (.putfield 31, 3) := d_of dm_X1_become_c0 11 (q := (21, .putfield 31, 3)) rfl
theorem dX1_become_24 : decode cX1_become 24 = .ok (.aload_n 0, 1) := d_of dm_X1_become_c0 12 (q := (24, .aload_n 0, 1)) rfl
theorem dX1_become_25 : decode cX1_become 25 = .ok (.aload_n 1, 1) := d_of dm_X1_become_c0 13 (q := (25, .aload_n 1, 1)) rfl
theorem dX1_become_26 : decode cX1_become 26 = .ok (.getfield 43, 3) := d_of dm_X1_become_c0 14 (q := (26, .getfield 43, 3)) rfl
theorem dX1_become_29 : decode cX1_become 29 = .ok (.putfield 43, 3) := d_of dm_X1_become_c0 15 (q := (29, .putfield 43, 3)) rfl
theorem dX1_become_32 : decode cX1_become 32 = .ok (.aload_n 0, 1) := d_of dm_X1_become_c0 16 (q := (32, .aload_n 0, 1)) rfl
theorem dX1_become_33 : decode cX1_become 33 = .ok (.aload_n 1, 1) := d_of dm_X1_become_c0 17 (q := (33, .aload_n 1, 1)) rfl
theorem dX1_become_34 : decode cX1_become 34 = .ok (.getfield 46, 3) := d_of dm_X1_become_c0 18 (q := (34, .getfield 46, 3)) rfl
theorem dX1_become_37 : decode cX1_become 37 = .ok (.putfield 46, 3) := d_of dm_X1_become_c0 19 (q := (37, .putfield 46, 3)) rfl
theorem dX1_become_40 : decode cX1_become 40 = .ok (.aload_n 1, 1) := d_of dm_X1_become_c0 20 (q := (40, .aload_n 1, 1)) rfl
theorem dX1_become_41 : decode cX1_become 41 = .ok (.getfield 15, 3) := d_of dm_X1_become_c0 21 (q := (41, .getfield 15, 3)) rfl
theorem dX1_become_44 : decode cX1_become 44 = .ok (.iconst 0, 1) := d_of dm_X1_become_c0 22 (q := (44, .iconst 0, 1)) rfl
theorem dX1_become_45 : decode cX1_become 45 = .ok (.aload_n 0, 1) := d_of dm_X1_become_c0 23 (q := (45, .aload_n 0, 1)) rfl
theorem dX1_become_46 : decode cX1_become 46 = .ok (.getfield 15, 3) := d_of dm_X1_become_c0 24 (q := (46, .getfield 15, 3)) rfl
def dl_X1_become_c25 : List (Nat × Instr × Nat) := [(49, .iconst 0, 1), (50, .bipush 10, 2), (52, .invokestatic 52, 3), (55, .aload_n 1, 1), (56, .getfield 19, 3), (59, .iconst 0, 1), (60, .aload_n 0, 1), (61, .getfield 19, 3), (64, .iconst 0, 1), (65, .bipush 10, 2), (67, .invokestatic 52, 3), (70, .aload_n 1, 1), (71, .getfield 25, 3), (74, .iconst 0, 1), (75, .aload_n 0, 1), (76, .getfield 25, 3), (79, .iconst 0, 1), (80, .bipush 6, 2), (82, .invokestatic 52, 3), (85, .aload_n 1, 1), (86, .getfield 28, 3), (89, .iconst 0, 1), (90, .aload_n 0, 1), (91, .getfield 28, 3), (94, .iconst 0, 1)]
set_option maxRecDepth 100000 in
theorem dm_X1_become_c25 : dl_X1_become_c25.all (fun q => decide (decode cX1_become q.1 = .ok q.2)) = true := by decide +kernel
theorem dX1_become_49 : decode cX1_become 49 = .ok (.iconst 0, 1) := d_of dm_X1_become_c25 0 (q := (49, .iconst 0, 1)) rfl
theorem dX1_become_50 : decode cX1_become 50 = .ok (.bipush 10, 2) := d_of dm_X1_become_c25 1 (q := (50, .bipush 10, 2)) rfl
theorem dX1_become_52 : decode cX1_become 52 = .ok (.invokestatic 52, 3) := d_of dm_X1_become_c25 2 (q := (52, .invokestatic 52, 3)) rfl
theorem dX1_become_55 : decode cX1_become 55 = .ok (.aload_n 1, 1) := d_of dm_X1_become_c25 3 (q := (55, .aload_n 1, 1)) rfl
theorem dX1_become_56 : decode cX1_become 56 = .ok (.getfield 19, 3) := d_of dm_X1_become_c25 4 (q := (56, .getfield 19, 3)) rfl
theorem dX1_become_59 : decode cX1_become 59 = .ok (.iconst 0, 1) := d_of dm_X1_become_c25 5 (q := (59, .iconst 0, 1)) rfl
theorem dX1_become_60 : decode cX1_become 60 = .ok (.aload_n 0, 1) := d_of dm_X1_become_c25 6 (q := (60, .aload_n 0, 1)) rfl
theorem dX1_become_61 : decode cX1_become 61 = .ok (.getfield 19, 3) := d_of dm_X1_become_c25 7 (q := (61, .getfield 19, 3)) rfl
theorem dX1_become_64 : decode cX1_become 64 = .ok (.iconst 0, 1) := d_of dm_X1_become_c25 8 (q := (64, .iconst 0, 1)) rfl
theorem dX1_become_65 : decode cX1_become 65 = .ok (.bipush 10, 2) := d_of dm_X1_become_c25 9 (q := (65, .bipush 10, 2)) rfl
theorem dX1_become_67 : decode cX1_become 67 = .ok (.invokestatic 52, 3) := d_of dm_X1_become_c25 10 (q := (67, .invokestatic 52, 3)) rfl
theorem dX1_become_70 : decode cX1_become 70 = .ok (.aload_n 1, 1) := d_of dm_X1_become_c25 11 (q := (70, .aload_n 1, 1)) rfl
theorem dX1_become_71 : decode cX1_become 71 = .ok (.getfield 25, 3) := d_of dm_X1_become_c25 12 (q := (71, .getfield 25, 3)) rfl
theorem dX1_become_74 : decode cX1_become 74 = .ok (.iconst 0, 1) := d_of dm_X1_become_c25 13 (q := (74, .iconst 0, 1)) rfl
theorem dX1_become_75 : decode cX1_become 75 = .ok (.aload_n 0, 1) := d_of dm_X1_become_c25 14 (q := (75, .aload_n 0, 1)) rfl
theorem dX1_become_76 : decode cX1_become 76 = .ok (.getfield 25, 3) := d_of dm_X1_become_c25 15 (q := (76, .getfield 25, 3)) rfl
theorem dX1_become_79 : decode cX1_become 79 = .ok (.iconst 0, 1) := d_of dm_X1_become_c25 16 (q := (79, .iconst 0, 1)) rfl
theorem dX1_become_80 : decode cX1_become 80 = .ok (.bipush 6, 2) := d_of dm_X1_become_c25 17 (q := (80, .bipush 6, 2)) rfl
theorem dX1_become_82 : decode cX1_become 82 = .ok (.invokestatic 52, 3) := d_of dm_X1_become_c25 18 (q := (82, .invokestatic 52, 3)) rfl
theorem dX1_become_85 : decode cX1_become 85 = .ok (.aload_n 1, 1) := d_of dm_X1_become_c25 19 (q := (85, .aload_n 1, 1)) rfl
theorem dX1_become_86 : decode cX1_become 86 = .ok (.getfield 28, 3) := d_of dm_X1_become_c25 20 (q := (86, .getfield 28, 3)) rfl
theorem dX1_become_89 : decode cX1_become 89 = .ok (.iconst 0, 1) := d_of dm_X1_become_c25 21 (q := (89, .iconst 0, 1)) rfl
theorem dX1_become_90 : decode cX1_become 90 = .ok (.aload_n 0, 1) := d_of dm_X1_become_c25 22 (q := (90, .aload_n 0, 1)) rfl
theorem dX1_become_91 : decode cX1_become 91 = .ok (.getfield 28, 3) := d_of dm_X1_become_c25 23 (q := (91, .getfield 28, 3)) rfl
theorem dX1_become_94 : decode cX1_become 94 = .ok (.iconst 0, 1) := d_of dm_X1_become_c25 24 (q := (94, .iconst 0, 1)) rfl
def dl_X1_become_c50 : List (Nat × Instr × Nat) := [(95, .bipush 6, 2), (97, .invokestatic 52, 3), (100, .aload_n 1, 1), (101, .getfield 34, 3), (104, .iconst 0, 1), (105, .aload_n 0, 1), (106, .getfield 34, 3), (109, .iconst 0, 1), (110, .bipush 8, 2), (112, .invokestatic 52, 3), (115, .aload_n 1, 1), (116, .getfield 37, 3), (119, .iconst 0, 1), (120, .aload_n 0, 1), (121, .getfield 37, 3), (124, .iconst 0, 1), (125, .bipush 8, 2), (127, .invokestatic 52, 3), (130, .aload_n 1, 1), (131, .getfield 40, 3), (134, .iconst 0, 1), (135, .aload_n 0, 1), (136, .getfield 40, 3), (139, .iconst 0, 1), (140, .bipush 8, 2)]
set_option maxRecDepth 100000 in
theorem dm_X1_become_c50 : dl_X1_become_c50.all (fun q => decide (decode cX1_become q.1 = .ok q.2)) = true := by decide +kernel
theorem dX1_become_95 : decode cX1_become 95 = .ok (.bipush 6, 2) := d_of dm_X1_become_c50 0 (q := (95, .bipush 6, 2)) rfl
theorem dX1_become_97 : decode cX1_become 97 = .ok (.invokestatic 52, 3) := d_of dm_X1_become_c50 1 (q := (97, .invokestatic 52, 3)) rfl
theorem dX1_become_100 : decode cX1_become 100 = .ok (.aload_n 1, 1) := d_of dm_X1_become_c50 2 (q := (100, .aload_n 1, 1)) rfl
theorem dX1_become_101 : decode cX1_become 101 = .ok (.getfield 34, 3) := d_of dm_X1_become_c50 3 (q := (101, .getfield 34, 3)) rfl
theorem dX1_become_104 : decode cX1_become 104 = .ok (.iconst 0, 1) := d_of dm_X1_become_c50 4 (q := (104, .iconst 0, 1)) rfl
theorem dX1_become_105 : decode cX1_become 105 = .ok (.aload_n 0, 1) := d_of dm_X1_become_c50 5 (q := (105, .aload_n 0, 1)) rfl
theorem dX1_become_106 : decode cX1_become 106 = .ok (.getfield 34, 3) := d_of dm_X1_become_c50 6 (q := (106, .getfield 34, 3)) rfl
theorem dX1_become_109 : decode cX1_become 109 = .ok (.iconst 0, 1) := d_of dm_X1_become_c50 7 (q := (109, .iconst 0, 1)) rfl
theorem dX1_become_110 : decode cX1_become 110 = .ok (.bipush 8, 2) := d_of dm_X1_become_c50 8 (q := (110, .bipush 8, 2)) rfl
theorem dX1_become_112 : decode cX1_become 112 = .ok (.invokestatic 52, 3) := d_of dm_X1_become_c50 9 (q := (112, .invokestatic 52, 3)) rfl
theorem dX1_become_115 : decode cX1_become 115 = .ok (.aload_n 1, 1) := d_of dm_X1_become_c50 10 (q := (115, .aload_n 1, 1)) rfl
theorem dX1_become_116 : decode cX1_become 116 = .ok (.getfield 37, 3) := d_of dm_X1_become_c50 11 (q := (116, .getfield 37, 3)) rfl
theorem dX1_become_119 : decode cX1_become 119 = .ok (.iconst 0, 1) := d_of dm_X1_become_c50 12 (q := (119, .iconst 0, 1)) rfl
theorem dX1_become_120 : decode cX1_become 120 = .ok (.aload_n 0, 1) := d_of dm_X1_become_c50 13 (q := (120, .aload_n 0, 1)) rfl
theorem dX1_become_121 : decode cX1_become 121 = .ok (.getfield 37, 3) := d_of dm_X1_become_c50 14 (q := (121, .getfield 37, 3)) rfl
theorem dX1_become_124 : decode cX1_become 124 = .ok (.iconst 0, 1) := d_of dm_X1_become_c50 15 (q := (124, .iconst 0, 1)) rfl
theorem dX1_become_125 : decode cX1_become 125 = .ok (.bipush 8, 2) := d_of dm_X1_become_c50 16 (q := (125, .bipush 8, 2)) rfl
theorem dX1_become_127 : decode cX1_become 127 = .ok (.invokestatic 52, 3) := d_of dm_X1_become_c50 17 (q := (127, .invokestatic 52, 3)) rfl
theorem dX1_become_130 : decode cX1_become 130 = .ok (.aload_n 1, 1) := d_of dm_X1_become_c50 18 (q := (130, .aload_n 1, 1)) rfl
theorem dX1_become_131 : decode cX1_become 131 = .ok (.getfield 40, 3) := d_of dm_X1_become_c50 19 (q := (131, .getfield 40, 3)) rfl
theorem dX1_become_134 : decode cX1_become 134 = .ok (.iconst 0, 1) := d_of dm_X1_become_c50 20 (q := (134, .iconst 0, 1)) rfl
theorem dX1_become_135 : decode cX1_become 135 = .ok (.aload_n 0, 1) := d_of dm_X1_become_c50 21 (q := (135, .aload_n 0, 1)) rfl
theorem dX1_become_136 : decode cX1_become 136 = .ok (.getfield 40, 3) := d_of dm_X1_become_c50 22 (q := (136, .getfield 40, 3)) rfl
theorem dX1_become_139 : decode cX1_become 139 = .ok (.iconst 0, 1) := d_of dm_X1_become_c50 23 (q := (139, .iconst 0, 1)) rfl
theorem dX1_become_140 : decode cX1_become 140 = .ok (.bipush 8, 2) := d_of dm_X1_become_c50 24 (q := (140, .bipush 8, 2)) rfl
def dl_X1_become_c75 : List (Nat × Instr × Nat) := [(142, .invokestatic 52, 3), (145, .aload_n 1, 1), (146, .getfield 49, 3), (149, .iconst 0, 1), (150, .aload_n 0, 1), (151, .getfield 49, 3), (154, .iconst 0, 1), (155, .bipush 8, 2), (157, .invokestatic 52, 3), (160, .return_, 1)]
set_option maxRecDepth 100000 in
theorem dm_X1_become_c75 : dl_X1_become_c75.all (fun q => decide (decode cX1_become q.1 = .ok q.2)) = true := by decide +kernel
theorem dX1_become_142 : decode cX1_become 142 = .ok (.invokestatic 52, 3) := d_of dm_X1_become_c75 0 (q := (142, .invokestatic 52, 3)) rfl
theorem dX1_become_145 : decode cX1_become 145 = .ok (.aload_n 1, 1) := d_of dm_X1_become_c75 1 (q := (145, .aload_n 1, 1)) rfl
theorem dX1_become_146 : decode cX1_become 146 = .ok (.getfield 49, 3) := d_of dm_X1_become_c75 2 (q := (146, .getfield 49, 3)) rfl
theorem dX1_become_149 : decode cX1_become 149 = .ok (.iconst 0, 1) := d_of dm_X1_become_c75 3 (q := (149, .iconst 0, 1)) rfl
theorem dX1_become_150 : decode cX1_become 150 = .ok (.aload_n 0, 1) := d_of dm_X1_become_c75 4 (q := (150, .aload_n 0, 1)) rfl
theorem dX1_become_151 : decode cX1_become 151 = .ok (.getfield 49, 3) := d_of dm_X1_become_c75 5 (q := (151, .getfield 49, 3)) rfl
theorem dX1_become_154 : decode cX1_become 154 = .ok (.iconst 0, 1) := d_of dm_X1_become_c75 6 (q := (154, .iconst 0, 1)) rfl
theorem dX1_become_155 : decode cX1_become 155 = .ok (.bipush 8, 2) := d_of dm_X1_become_c75 7 (q := (155, .bipush 8, 2)) rfl
theorem dX1_become_157 : decode cX1_become 157 = .ok (.invokestatic 52, 3) := d_of dm_X1_become_c75 8 (q := (157, .invokestatic 52, 3)) rfl
theorem dX1_become_160 : decode cX1_become 160 = .ok (.return_, 1) := d_of dm_X1_become_c75 9 (q := (160, .return_, 1)) rfl
def dl_X1_hasThing_c0 : List (Nat × Instr × Nat) := [(0, .iload_n 1, 1), (1, .ifCond .lt 15, 3), (4, .iload_n 1, 1), (5, .aload_n 0, 1), (6, .getfield 31, 3), (9, .if_icmp .ge 7, 3), (12, .iconst 1, 1), (13, .goto 4, 3), (16, .iconst 0, 1), (17, .ireturn, 1)]
set_option maxRecDepth 100000 in
theorem dm_X1_hasThing_c0 : dl_X1_hasThing_c0.all (fun q => decide (decode cX1_hasThing q.1 = .ok q.2)) = true := by decide +kernel
theorem dX1_hasThing_0 : decode cX1_hasThing 0 = .ok (.iload_n 1, 1) := d_of dm_X1_hasThing_c0 0 (q := (0, .iload_n 1, 1)) rfl
theorem dX1_hasThing_1 : decode cX1_hasThing 1 = .ok (.ifCond .lt 15, 3) := d_of dm_X1_hasThing_c0 1 (q := (1, .ifCond .lt 15, 3)) rfl
theorem dX1_hasThing_4 : decode cX1_hasThing 4 = .ok (.iload_n 1, 1) := d_of dm_X1_hasThing_c0 2 (q := (4, .iload_n 1, 1)) rfl
theorem dX1_hasThing_5 : decode cX1_hasThing 5 = .ok (.aload_n 0, 1) := d_of dm_X1_hasThing_c0 3 (q := (5, .aload_n 0, 1)) rfl
theorem dX1_hasThing_6 : decode cX1_hasThing 6 = .ok (.getfield 31, 3) := d_of dm_X1_hasThing_c0 4 (q := (6, .getfield 31, 3)) rfl
theorem dX1_hasThing_9 : decode cX1_hasThing 9 = .ok (.if_icmp .ge 7, 3) := d_of dm_X1_hasThing_c0 5 (q := (9, .if_icmp .ge 7, 3)) rfl
theorem dX1_hasThing_12 : decode cX1_hasThing 12 = .ok (.iconst 1, 1) := d_of dm_X1_hasThing_c0 6 (q := (12, .iconst 1, 1)) rfl
theorem dX1_hasThing_13 : decode cX1_hasThing 13 = .ok (.goto 4, 3) := d_of dm_X1_hasThing_c0 7 (q := (13, .goto 4, 3)) rfl
theorem dX1_hasThing_16 : decode cX1_hasThing 16 = .ok (.iconst 0, 1) := d_of dm_X1_hasThing_c0 8 (q := (16, .iconst 0, 1)) rfl
theorem dX1_hasThing_17 : decode cX1_hasThing 17 = .ok (.ireturn, 1) := d_of dm_X1_hasThing_c0 9 (q := (17, .ireturn, 1)) rfl
def dl_X1_hasLine_c0 : List (Nat × Instr × Nat) := [(0, .iload_n 1, 1), (1, .ifCond .lt 15, 3), (4, .iload_n 1, 1), (5, .aload_n 0, 1), (6, .getfield 9, 3), (9, .if_icmp .ge 7, 3), (12, .iconst 1, 1), (13, .goto 4, 3), (16, .iconst 0, 1), (17, .ireturn, 1)]
set_option maxRecDepth 100000 in
theorem dm_X1_hasLine_c0 : dl_X1_hasLine_c0.all (fun q => decide (decode cX1_hasLine q.1 = .ok q.2)) = true := by decide +kernel
theorem dX1_hasLine_0 : decode cX1_hasLine 0 = .ok (.iload_n 1, 1) := d_of dm_X1_hasLine_c0 0 (q := (0, .iload_n 1, 1)) rfl
theorem dX1_hasLine_1 : decode cX1_hasLine 1 = .ok (.ifCond .lt 15, 3) := d_of dm_X1_hasLine_c0 1 (q := (1, .ifCond .lt 15, 3)) rfl
theorem dX1_hasLine_4 : decode cX1_hasLine 4 = .ok (.iload_n 1, 1) := d_of dm_X1_hasLine_c0 2 (q := (4, .iload_n 1, 1)) rfl
theorem dX1_hasLine_5 : decode cX1_hasLine 5 = .ok (.aload_n 0, 1) := d_of dm_X1_hasLine_c0 3 (q := (5, .aload_n 0, 1)) rfl
theorem dX1_hasLine_6 : decode cX1_hasLine 6 = .ok (.getfield 9, 3) := d_of dm_X1_hasLine_c0 4 (q := (6, .getfield 9, 3)) rfl
theorem dX1_hasLine_9 : decode cX1_hasLine 9 = .ok (.if_icmp .ge 7, 3) := d_of dm_X1_hasLine_c0 5 (q := (9, .if_icmp .ge 7, 3)) rfl
theorem dX1_hasLine_12 : decode cX1_hasLine 12 = .ok (.iconst 1, 1) := d_of dm_X1_hasLine_c0 6 (q := (12, .iconst 1, 1)) rfl
theorem dX1_hasLine_13 : decode cX1_hasLine 13 = .ok (.goto 4, 3) := d_of dm_X1_hasLine_c0 7 (q := (13, .goto 4, 3)) rfl
theorem dX1_hasLine_16 : decode cX1_hasLine 16 = .ok (.iconst 0, 1) := d_of dm_X1_hasLine_c0 8 (q := (16, .iconst 0, 1)) rfl
theorem dX1_hasLine_17 : decode cX1_hasLine 17 = .ok (.ireturn, 1) := d_of dm_X1_hasLine_c0 9 (q := (17, .ireturn, 1)) rfl
def dl_X1_allThings_c0 : List (Nat × Instr × Nat) := [(0, .iconst 1, 1), (1, .aload_n 0, 1), (2, .getfield 31, 3), (5, .ishl, 1), (6, .iconst 1, 1), (7, .isub, 1), (8, .ireturn, 1)]
set_option maxRecDepth 100000 in
theorem dm_X1_allThings_c0 : dl_X1_allThings_c0.all (fun q => decide (decode cX1_allThings q.1 = .ok q.2)) = true := by decide +kernel
theorem dX1_allThings_0 : decode cX1_allThings 0 = .ok (.iconst 1, 1) := d_of dm_X1_allThings_c0 0 (q := (0, .iconst 1, 1)) rfl
theorem dX1_allThings_1 : decode cX1_allThings 1 = .ok (.aload_n 0, 1) := d_of dm_X1_allThings_c0 1 (q := (1, .aload_n 0, 1)) rfl
theorem dX1_allThings_2 : decode cX1_allThings 2 = .ok (.getfield 31, 3) := d_of dm_X1_allThings_c0 2 (q := (2, .getfield 31, 3)) rfl
theorem dX1_allThings_5 : decode cX1_allThings 5 = .ok (.ishl, 1) := d_of dm_X1_allThings_c0 3 (q := (5, .ishl, 1)) rfl
theorem dX1_allThings_6 : decode cX1_allThings 6 = .ok (.iconst 1, 1) := d_of dm_X1_allThings_c0 4 (q := (6, .iconst 1, 1)) rfl
theorem dX1_allThings_7 : decode cX1_allThings 7 = .ok (.isub, 1) := d_of dm_X1_allThings_c0 5 (q := (7, .isub, 1)) rfl
theorem dX1_allThings_8 : decode cX1_allThings 8 = .ok (.ireturn, 1) := d_of dm_X1_allThings_c0 6 (q := (8, .ireturn, 1)) rfl
def dl_X1_coupledCount_c0 : List (Nat × Instr × Nat) := [(0, .iconst 0, 1), (1, .istore_n 1, 1), (2, .iconst 0, 1), (3, .istore_n 2, 1), (4, .iload_n 2, 1), (5, .aload_n 0, 1), (6, .getfield 31, 3), (9, .if_icmp .ge 23, 3), (12, .aload_n 0, 1), (13, .getfield 40, 3), (16, .iload_n 2, 1), (17, .iaload, 1), (18, .bipush (-9), 2), (20, .if_icmp .eq 6, 3), (23, .iinc 1 1, 3), (26, .iinc 2 1, 3), (29, .goto (-25), 3), (32, .iload_n 1, 1), (33, .ireturn, 1)]
set_option maxRecDepth 100000 in
theorem dm_X1_coupledCount_c0 : dl_X1_coupledCount_c0.all (fun q => decide (decode cX1_coupledCount q.1 = .ok q.2)) = true := by decide +kernel
theorem dX1_coupledCount_0 : decode cX1_coupledCount 0 = .ok (.iconst 0, 1) := d_of dm_X1_coupledCount_c0 0 (q := (0, .iconst 0, 1)) rfl
theorem dX1_coupledCount_1 : decode cX1_coupledCount 1 = .ok (.istore_n 1, 1) := d_of dm_X1_coupledCount_c0 1 (q := (1, .istore_n 1, 1)) rfl
theorem dX1_coupledCount_2 : decode cX1_coupledCount 2 = .ok (.iconst 0, 1) := d_of dm_X1_coupledCount_c0 2 (q := (2, .iconst 0, 1)) rfl
theorem dX1_coupledCount_3 : decode cX1_coupledCount 3 = .ok (.istore_n 2, 1) := d_of dm_X1_coupledCount_c0 3 (q := (3, .istore_n 2, 1)) rfl
theorem dX1_coupledCount_4 : decode cX1_coupledCount 4 = .ok (.iload_n 2, 1) := d_of dm_X1_coupledCount_c0 4 (q := (4, .iload_n 2, 1)) rfl
theorem dX1_coupledCount_5 : decode cX1_coupledCount 5 = .ok (.aload_n 0, 1) := d_of dm_X1_coupledCount_c0 5 (q := (5, .aload_n 0, 1)) rfl
theorem dX1_coupledCount_6 : decode cX1_coupledCount 6 = .ok (.getfield 31, 3) := d_of dm_X1_coupledCount_c0 6 (q := (6, .getfield 31, 3)) rfl
theorem dX1_coupledCount_9 : decode cX1_coupledCount 9 = .ok (.if_icmp .ge 23, 3) := d_of dm_X1_coupledCount_c0 7 (q := (9, .if_icmp .ge 23, 3)) rfl
theorem dX1_coupledCount_12 : decode cX1_coupledCount 12 = .ok (.aload_n 0, 1) := d_of dm_X1_coupledCount_c0 8 (q := (12, .aload_n 0, 1)) rfl
theorem dX1_coupledCount_13 : decode cX1_coupledCount 13 = .ok (.getfield 40, 3) := d_of dm_X1_coupledCount_c0 9 (q := (13, .getfield 40, 3)) rfl
theorem dX1_coupledCount_16 : decode cX1_coupledCount 16 = .ok (.iload_n 2, 1) := d_of dm_X1_coupledCount_c0 10 (q := (16, .iload_n 2, 1)) rfl
theorem dX1_coupledCount_17 : decode cX1_coupledCount 17 = .ok (.iaload, 1) := d_of dm_X1_coupledCount_c0 11 (q := (17, .iaload, 1)) rfl
theorem dX1_coupledCount_18 : decode cX1_coupledCount 18 = .ok (.bipush (-9), 2) := d_of dm_X1_coupledCount_c0 12 (q := (18, .bipush (-9), 2)) rfl
theorem dX1_coupledCount_20 : decode cX1_coupledCount 20 = .ok (.if_icmp .eq 6, 3) := d_of dm_X1_coupledCount_c0 13 (q := (20, .if_icmp .eq 6, 3)) rfl
theorem dX1_coupledCount_23 : decode cX1_coupledCount 23 = .ok (.iinc 1 1, 3) := d_of dm_X1_coupledCount_c0 14 (q := (23, .iinc 1 1, 3)) rfl
theorem dX1_coupledCount_26 : decode cX1_coupledCount 26 = .ok (.iinc 2 1, 3) := d_of dm_X1_coupledCount_c0 15 (q := (26, .iinc 2 1, 3)) rfl
theorem dX1_coupledCount_29 : decode cX1_coupledCount 29 = .ok (.goto (-25), 3) := d_of dm_X1_coupledCount_c0 16 (q := (29, .goto (-25), 3)) rfl
theorem dX1_coupledCount_32 : decode cX1_coupledCount 32 = .ok (.iload_n 1, 1) := d_of dm_X1_coupledCount_c0 17 (q := (32, .iload_n 1, 1)) rfl
theorem dX1_coupledCount_33 : decode cX1_coupledCount 33 = .ok (.ireturn, 1) := d_of dm_X1_coupledCount_c0 18 (q := (33, .ireturn, 1)) rfl
def dl_X1_hang_c0 : List (Nat × Instr × Nat) := [(0, .aload_n 0, 1), (1, .iload_n 1, 1), (2, .putfield 22, 3), (5, .iconst 0, 1), (6, .istore_n 2, 1), (7, .iload_n 2, 1), (8, .bipush 6, 2), (10, .if_icmp .ge 16, 3), (13, .aload_n 0, 1), (14, .getfield 28, 3), (17, .iload_n 2, 1), (18, .iconst 0, 1), (19, .iastore, 1), (20, .iinc 2 1, 3), (23, .goto (-16), 3), (26, .iconst 0, 1), (27, .istore_n 2, 1), (28, .iload_n 2, 1), (29, .aload_n 0, 1), (30, .getfield 9, 3), (33, .if_icmp .ge 61, 3), (36, .iload_n 1, 1), (37, .iload_n 2, 1), (38, .ishr, 1), (39, .iconst 1, 1)]
set_option maxRecDepth 100000 in
theorem dm_X1_hang_c0 : dl_X1_hang_c0.all (fun q => decide (decode cX1_hang q.1 = .ok q.2)) = true := by decide +kernel
theorem dX1_hang_0 : decode cX1_hang 0 = .ok (.aload_n 0, 1) := d_of dm_X1_hang_c0 0 (q := (0, .aload_n 0, 1)) rfl
theorem dX1_hang_1 : decode cX1_hang 1 = .ok (.iload_n 1, 1) := d_of dm_X1_hang_c0 1 (q := (1, .iload_n 1, 1)) rfl
theorem dX1_hang_2 : decode cX1_hang 2 = .ok (.putfield 22, 3) := d_of dm_X1_hang_c0 2 (q := (2, .putfield 22, 3)) rfl
theorem dX1_hang_5 : decode cX1_hang 5 = .ok (.iconst 0, 1) := d_of dm_X1_hang_c0 3 (q := (5, .iconst 0, 1)) rfl
theorem dX1_hang_6 : decode cX1_hang 6 = .ok (.istore_n 2, 1) := d_of dm_X1_hang_c0 4 (q := (6, .istore_n 2, 1)) rfl
theorem dX1_hang_7 : decode cX1_hang 7 = .ok (.iload_n 2, 1) := d_of dm_X1_hang_c0 5 (q := (7, .iload_n 2, 1)) rfl
theorem dX1_hang_8 : decode cX1_hang 8 = .ok (.bipush 6, 2) := d_of dm_X1_hang_c0 6 (q := (8, .bipush 6, 2)) rfl
theorem dX1_hang_10 : decode cX1_hang 10 = .ok (.if_icmp .ge 16, 3) := d_of dm_X1_hang_c0 7 (q := (10, .if_icmp .ge 16, 3)) rfl
theorem dX1_hang_13 : decode cX1_hang 13 = .ok (.aload_n 0, 1) := d_of dm_X1_hang_c0 8 (q := (13, .aload_n 0, 1)) rfl
theorem dX1_hang_14 : decode cX1_hang 14 = .ok (.getfield 28, 3) := d_of dm_X1_hang_c0 9 (q := (14, .getfield 28, 3)) rfl
theorem dX1_hang_17 : decode cX1_hang 17 = .ok (.iload_n 2, 1) := d_of dm_X1_hang_c0 10 (q := (17, .iload_n 2, 1)) rfl
theorem dX1_hang_18 : decode cX1_hang 18 = .ok (.iconst 0, 1) := d_of dm_X1_hang_c0 11 (q := (18, .iconst 0, 1)) rfl
theorem dX1_hang_19 : decode cX1_hang 19 = .ok (.iastore, 1) := d_of dm_X1_hang_c0 12 (q := (19, .iastore, 1)) rfl
theorem dX1_hang_20 : decode cX1_hang 20 = .ok (.iinc 2 1, 3) := d_of dm_X1_hang_c0 13 (q := (20, .iinc 2 1, 3)) rfl
theorem dX1_hang_23 : decode cX1_hang 23 = .ok (.goto (-16), 3) := d_of dm_X1_hang_c0 14 (q := (23, .goto (-16), 3)) rfl
theorem dX1_hang_26 : decode cX1_hang 26 = .ok (.iconst 0, 1) := d_of dm_X1_hang_c0 15 (q := (26, .iconst 0, 1)) rfl
theorem dX1_hang_27 : decode cX1_hang 27 = .ok (.istore_n 2, 1) := d_of dm_X1_hang_c0 16 (q := (27, .istore_n 2, 1)) rfl
theorem dX1_hang_28 : decode cX1_hang 28 = .ok (.iload_n 2, 1) := d_of dm_X1_hang_c0 17 (q := (28, .iload_n 2, 1)) rfl
theorem dX1_hang_29 : decode cX1_hang 29 = .ok (.aload_n 0, 1) := d_of dm_X1_hang_c0 18 (q := (29, .aload_n 0, 1)) rfl
theorem dX1_hang_30 : decode cX1_hang 30 = .ok (.getfield 9, 3) := d_of dm_X1_hang_c0 19 (q := (30, .getfield 9, 3)) rfl
theorem dX1_hang_33 : decode cX1_hang 33 = .ok (.if_icmp .ge 61, 3) := d_of dm_X1_hang_c0 20 (q := (33, .if_icmp .ge 61, 3)) rfl
theorem dX1_hang_36 : decode cX1_hang 36 = .ok (.iload_n 1, 1) := d_of dm_X1_hang_c0 21 (q := (36, .iload_n 1, 1)) rfl
theorem dX1_hang_37 : decode cX1_hang 37 = .ok (.iload_n 2, 1) := d_of dm_X1_hang_c0 22 (q := (37, .iload_n 2, 1)) rfl
theorem dX1_hang_38 : decode cX1_hang 38 = .ok (.ishr, 1) := d_of dm_X1_hang_c0 23 (q := (38, .ishr, 1)) rfl
theorem dX1_hang_39 : decode cX1_hang 39 = .ok (.iconst 1, 1) := d_of dm_X1_hang_c0 24 (q := (39, .iconst 1, 1)) rfl
def dl_X1_hang_c25 : List (Nat × Instr × Nat) := [(40, .iand, 1), (41, .ifCond .ne 47, 3), (44, .aload_n 0, 1), (45, .getfield 28, 3), (48, .aload_n 0, 1), (49, .getfield 15, 3), (52, .iload_n 2, 1), (53, .iaload, 1), (54, .dup2, 1), (55, .iaload, 1), (56, .iconst 1, 1), (57, .aload_n 0, 1), (58, .getfield 19, 3), (61, .iload_n 2, 1), (62, .iaload, 1), (63, .ishl, 1), (64, .ior, 1), (65, .iastore, 1), (66, .aload_n 0, 1), (67, .getfield 28, 3), (70, .aload_n 0, 1), (71, .getfield 19, 3), (74, .iload_n 2, 1), (75, .iaload, 1), (76, .dup2, 1)]
set_option maxRecDepth 100000 in
theorem dm_X1_hang_c25 : dl_X1_hang_c25.all (fun q => decide (decode cX1_hang q.1 = .ok q.2)) = true := by decide +kernel
theorem dX1_hang_40 : decode cX1_hang 40 = .ok (.iand, 1) := d_of dm_X1_hang_c25 0 (q := (40, .iand, 1)) rfl
theorem dX1_hang_41 : decode cX1_hang 41 = .ok (.ifCond .ne 47, 3) := d_of dm_X1_hang_c25 1 (q := (41, .ifCond .ne 47, 3)) rfl
theorem dX1_hang_44 : decode cX1_hang 44 = .ok (.aload_n 0, 1) := d_of dm_X1_hang_c25 2 (q := (44, .aload_n 0, 1)) rfl
theorem dX1_hang_45 : decode cX1_hang 45 = .ok (.getfield 28, 3) := d_of dm_X1_hang_c25 3 (q := (45, .getfield 28, 3)) rfl
theorem dX1_hang_48 : decode cX1_hang 48 = .ok (.aload_n 0, 1) := d_of dm_X1_hang_c25 4 (q := (48, .aload_n 0, 1)) rfl
theorem dX1_hang_49 : decode cX1_hang 49 = .ok (.getfield 15, 3) := d_of dm_X1_hang_c25 5 (q := (49, .getfield 15, 3)) rfl
theorem dX1_hang_52 : decode cX1_hang 52 = .ok (.iload_n 2, 1) := d_of dm_X1_hang_c25 6 (q := (52, .iload_n 2, 1)) rfl
theorem dX1_hang_53 : decode cX1_hang 53 = .ok (.iaload, 1) := d_of dm_X1_hang_c25 7 (q := (53, .iaload, 1)) rfl
theorem dX1_hang_54 : decode cX1_hang 54 = .ok (.dup2, 1) := d_of dm_X1_hang_c25 8 (q := (54, .dup2, 1)) rfl
theorem dX1_hang_55 : decode cX1_hang 55 = .ok (.iaload, 1) := d_of dm_X1_hang_c25 9 (q := (55, .iaload, 1)) rfl
theorem dX1_hang_56 : decode cX1_hang 56 = .ok (.iconst 1, 1) := d_of dm_X1_hang_c25 10 (q := (56, .iconst 1, 1)) rfl
theorem dX1_hang_57 : decode cX1_hang 57 = .ok (.aload_n 0, 1) := d_of dm_X1_hang_c25 11 (q := (57, .aload_n 0, 1)) rfl
theorem dX1_hang_58 : decode cX1_hang 58 = .ok (.getfield 19, 3) := d_of dm_X1_hang_c25 12 (q := (58, .getfield 19, 3)) rfl
theorem dX1_hang_61 : decode cX1_hang 61 = .ok (.iload_n 2, 1) := d_of dm_X1_hang_c25 13 (q := (61, .iload_n 2, 1)) rfl
theorem dX1_hang_62 : decode cX1_hang 62 = .ok (.iaload, 1) := d_of dm_X1_hang_c25 14 (q := (62, .iaload, 1)) rfl
theorem dX1_hang_63 : decode cX1_hang 63 = .ok (.ishl, 1) := d_of dm_X1_hang_c25 15 (q := (63, .ishl, 1)) rfl
theorem dX1_hang_64 : decode cX1_hang 64 = .ok (.ior, 1) := d_of dm_X1_hang_c25 16 (q := (64, .ior, 1)) rfl
theorem dX1_hang_65 : decode cX1_hang 65 = .ok (.iastore, 1) := d_of dm_X1_hang_c25 17 (q := (65, .iastore, 1)) rfl
theorem dX1_hang_66 : decode cX1_hang 66 = .ok (.aload_n 0, 1) := d_of dm_X1_hang_c25 18 (q := (66, .aload_n 0, 1)) rfl
theorem dX1_hang_67 : decode cX1_hang 67 = .ok (.getfield 28, 3) := d_of dm_X1_hang_c25 19 (q := (67, .getfield 28, 3)) rfl
theorem dX1_hang_70 : decode cX1_hang 70 = .ok (.aload_n 0, 1) := d_of dm_X1_hang_c25 20 (q := (70, .aload_n 0, 1)) rfl
theorem dX1_hang_71 : decode cX1_hang 71 = .ok (.getfield 19, 3) := d_of dm_X1_hang_c25 21 (q := (71, .getfield 19, 3)) rfl
theorem dX1_hang_74 : decode cX1_hang 74 = .ok (.iload_n 2, 1) := d_of dm_X1_hang_c25 22 (q := (74, .iload_n 2, 1)) rfl
theorem dX1_hang_75 : decode cX1_hang 75 = .ok (.iaload, 1) := d_of dm_X1_hang_c25 23 (q := (75, .iaload, 1)) rfl
theorem dX1_hang_76 : decode cX1_hang 76 = .ok (.dup2, 1) := d_of dm_X1_hang_c25 24 (q := (76, .dup2, 1)) rfl
def dl_X1_hang_c50 : List (Nat × Instr × Nat) := [(77, .iaload, 1), (78, .iconst 1, 1), (79, .aload_n 0, 1), (80, .getfield 15, 3), (83, .iload_n 2, 1), (84, .iaload, 1), (85, .ishl, 1), (86, .ior, 1), (87, .iastore, 1), (88, .iinc 2 1, 3), (91, .goto (-63), 3), (94, .return_, 1)]
set_option maxRecDepth 100000 in
theorem dm_X1_hang_c50 : dl_X1_hang_c50.all (fun q => decide (decode cX1_hang q.1 = .ok q.2)) = true := by decide +kernel
theorem dX1_hang_77 : decode cX1_hang 77 = .ok (.iaload, 1) := d_of dm_X1_hang_c50 0 (q := (77, .iaload, 1)) rfl
theorem dX1_hang_78 : decode cX1_hang 78 = .ok (.iconst 1, 1) := d_of dm_X1_hang_c50 1 (q := (78, .iconst 1, 1)) rfl
theorem dX1_hang_79 : decode cX1_hang 79 = .ok (.aload_n 0, 1) := d_of dm_X1_hang_c50 2 (q := (79, .aload_n 0, 1)) rfl
theorem dX1_hang_80 : decode cX1_hang 80 = .ok (.getfield 15, 3) := d_of dm_X1_hang_c50 3 (q := (80, .getfield 15, 3)) rfl
theorem dX1_hang_83 : decode cX1_hang 83 = .ok (.iload_n 2, 1) := d_of dm_X1_hang_c50 4 (q := (83, .iload_n 2, 1)) rfl
theorem dX1_hang_84 : decode cX1_hang 84 = .ok (.iaload, 1) := d_of dm_X1_hang_c50 5 (q := (84, .iaload, 1)) rfl
theorem dX1_hang_85 : decode cX1_hang 85 = .ok (.ishl, 1) := d_of dm_X1_hang_c50 6 (q := (85, .ishl, 1)) rfl
theorem dX1_hang_86 : decode cX1_hang 86 = .ok (.ior, 1) := d_of dm_X1_hang_c50 7 (q := (86, .ior, 1)) rfl
theorem dX1_hang_87 : decode cX1_hang 87 = .ok (.iastore, 1) := d_of dm_X1_hang_c50 8 (q := (87, .iastore, 1)) rfl
theorem dX1_hang_88 : decode cX1_hang 88 = .ok (.iinc 2 1, 3) := d_of dm_X1_hang_c50 9 (q := (88, .iinc 2 1, 3)) rfl
theorem dX1_hang_91 : decode cX1_hang 91 = .ok (.goto (-63), 3) := d_of dm_X1_hang_c50 10 (q := (91, .goto (-63), 3)) rfl
theorem dX1_hang_94 : decode cX1_hang 94 = .ok (.return_, 1) := d_of dm_X1_hang_c50 11 (q := (94, .return_, 1)) rfl
def dl_X1_couple_c0 : List (Nat × Instr × Nat) := [(0, .aload_n 0, 1), (1, .getfield 40, 3), (4, .iload_n 1, 1), (5, .iaload, 1), (6, .iload_n 2, 1), (7, .if_icmp .ne 5, 3), (10, .iconst 0, 1), (11, .ireturn, 1), (12, .aload_n 0, 1), (13, .iload_n 1, 1), (14, .invokevirtual 58, 3), (17, .aload_n 0, 1), (18, .iload_n 2, 1), (19, .invokevirtual 58, 3), (22, .iadd, 1), (23, .istore_n 3, 1), (24, .aload_n 0, 1), (25, .getfield 40, 3), (28, .iload_n 1, 1), (29, .iload_n 2, 1), (30, .iastore, 1), (31, .aload_n 0, 1), (32, .getfield 40, 3), (35, .iload_n 2, 1), (36, .iload_n 1, 1)]
set_option maxRecDepth 100000 in
theorem dm_X1_couple_c0 : dl_X1_couple_c0.all (fun q => decide (decode cX1_couple q.1 = .ok q.2)) = true := by decide +kernel
theorem dX1_couple_0 : decode cX1_couple 0 = .ok (.aload_n 0, 1) := d_of dm_X1_couple_c0 0 (q := (0, .aload_n 0, 1)) rfl
theorem dX1_couple_1 : decode cX1_couple 1 = .ok (.getfield 40, 3) := d_of dm_X1_couple_c0 1 (q := (1, .getfield 40, 3)) rfl
theorem dX1_couple_4 : decode cX1_couple 4 = .ok (.iload_n 1, 1) := d_of dm_X1_couple_c0 2 (q := (4, .iload_n 1, 1)) rfl
theorem dX1_couple_5 : decode cX1_couple 5 = .ok (.iaload, 1) := d_of dm_X1_couple_c0 3 (q := (5, .iaload, 1)) rfl
theorem dX1_couple_6 : decode cX1_couple 6 = .ok (.iload_n 2, 1) := d_of dm_X1_couple_c0 4 (q := (6, .iload_n 2, 1)) rfl
theorem dX1_couple_7 : decode cX1_couple 7 = .ok (.if_icmp .ne 5, 3) := d_of dm_X1_couple_c0 5 (q := (7, .if_icmp .ne 5, 3)) rfl
theorem dX1_couple_10 : decode cX1_couple 10 = .ok (.iconst 0, 1) := d_of dm_X1_couple_c0 6 (q := (10, .iconst 0, 1)) rfl
theorem dX1_couple_11 : decode cX1_couple 11 = .ok (.ireturn, 1) := d_of dm_X1_couple_c0 7 (q := (11, .ireturn, 1)) rfl
theorem dX1_couple_12 : decode cX1_couple 12 = .ok (.aload_n 0, 1) := d_of dm_X1_couple_c0 8 (q := (12, .aload_n 0, 1)) rfl
theorem dX1_couple_13 : decode cX1_couple 13 = .ok (.iload_n 1, 1) := d_of dm_X1_couple_c0 9 (q := (13, .iload_n 1, 1)) rfl
theorem dX1_couple_14 : decode cX1_couple 14 = .ok (.invokevirtual 58, 3) := d_of dm_X1_couple_c0 10 (q := (14, .invokevirtual 58, 3)) rfl
theorem dX1_couple_17 : decode cX1_couple 17 = .ok (.aload_n 0, 1) := d_of dm_X1_couple_c0 11 (q := (17, .aload_n 0, 1)) rfl
theorem dX1_couple_18 : decode cX1_couple 18 = .ok (.iload_n 2, 1) := d_of dm_X1_couple_c0 12 (q := (18, .iload_n 2, 1)) rfl
theorem dX1_couple_19 : decode cX1_couple 19 = .ok (.invokevirtual 58, 3) := d_of dm_X1_couple_c0 13 (q := (19, .invokevirtual 58, 3)) rfl
theorem dX1_couple_22 : decode cX1_couple 22 = .ok (.iadd, 1) := d_of dm_X1_couple_c0 14 (q := (22, .iadd, 1)) rfl
theorem dX1_couple_23 : decode cX1_couple 23 = .ok (.istore_n 3, 1) := d_of dm_X1_couple_c0 15 (q := (23, .istore_n 3, 1)) rfl
theorem dX1_couple_24 : decode cX1_couple 24 = .ok (.aload_n 0, 1) := d_of dm_X1_couple_c0 16 (q := (24, .aload_n 0, 1)) rfl
theorem dX1_couple_25 : decode cX1_couple 25 = .ok (.getfield 40, 3) := d_of dm_X1_couple_c0 17 (q := (25, .getfield 40, 3)) rfl
theorem dX1_couple_28 : decode cX1_couple 28 = .ok (.iload_n 1, 1) := d_of dm_X1_couple_c0 18 (q := (28, .iload_n 1, 1)) rfl
theorem dX1_couple_29 : decode cX1_couple 29 = .ok (.iload_n 2, 1) := d_of dm_X1_couple_c0 19 (q := (29, .iload_n 2, 1)) rfl
theorem dX1_couple_30 : decode cX1_couple 30 = .ok (.iastore, 1) := d_of dm_X1_couple_c0 20 (q := (30, .iastore, 1)) rfl
theorem dX1_couple_31 : decode cX1_couple 31 = .ok (.aload_n 0, 1) := d_of dm_X1_couple_c0 21 (q := (31, .aload_n 0, 1)) rfl
theorem dX1_couple_32 : decode cX1_couple 32 = .ok (.getfield 40, 3) := d_of dm_X1_couple_c0 22 (q := (32, .getfield 40, 3)) rfl
theorem dX1_couple_35 : decode cX1_couple 35 = .ok (.iload_n 2, 1) := d_of dm_X1_couple_c0 23 (q := (35, .iload_n 2, 1)) rfl
theorem dX1_couple_36 : decode cX1_couple 36 = .ok (.iload_n 1, 1) := d_of dm_X1_couple_c0 24 (q := (36, .iload_n 1, 1)) rfl
def dl_X1_couple_c25 : List (Nat × Instr × Nat) := [(37, .iastore, 1), (38, .iload_n 3, 1), (39, .ireturn, 1)]
set_option maxRecDepth 100000 in
theorem dm_X1_couple_c25 : dl_X1_couple_c25.all (fun q => decide (decode cX1_couple q.1 = .ok q.2)) = true := by decide +kernel
theorem dX1_couple_37 : decode cX1_couple 37 = .ok (.iastore, 1) := d_of dm_X1_couple_c25 0 (q := (37, .iastore, 1)) rfl
theorem dX1_couple_38 : decode cX1_couple 38 = .ok (.iload_n 3, 1) := d_of dm_X1_couple_c25 1 (q := (38, .iload_n 3, 1)) rfl
theorem dX1_couple_39 : decode cX1_couple 39 = .ok (.ireturn, 1) := d_of dm_X1_couple_c25 2 (q := (39, .ireturn, 1)) rfl
def dl_X1_leave_c0 : List (Nat × Instr × Nat) := [(0, .aload_n 0, 1), (1, .getfield 40, 3), (4, .iload_n 1, 1), (5, .iaload, 1), (6, .istore_n 2, 1), (7, .aload_n 0, 1), (8, .iload_n 2, 1), (9, .invokevirtual 62, 3), (12, .ifCond .ne 5, 3), (15, .iconst 0, 1), (16, .ireturn, 1), (17, .aload_n 0, 1), (18, .getfield 40, 3), (21, .iload_n 2, 1), (22, .bipush (-9), 2), (24, .iastore, 1), (25, .iconst 1, 1), (26, .ireturn, 1)]
set_option maxRecDepth 100000 in
theorem dm_X1_leave_c0 : dl_X1_leave_c0.all (fun q => decide (decode cX1_leave q.1 = .ok q.2)) = true := by decide +kernel
theorem dX1_leave_0 : decode cX1_leave 0 = .ok (.aload_n 0, 1) := d_of dm_X1_leave_c0 0 (q := (0, .aload_n 0, 1)) rfl
theorem dX1_leave_1 : decode cX1_leave 1 = .ok (.getfield 40, 3) := d_of dm_X1_leave_c0 1 (q := (1, .getfield 40, 3)) rfl
theorem dX1_leave_4 : decode cX1_leave 4 = .ok (.iload_n 1, 1) := d_of dm_X1_leave_c0 2 (q := (4, .iload_n 1, 1)) rfl
theorem dX1_leave_5 : decode cX1_leave 5 = .ok (.iaload, 1) := d_of dm_X1_leave_c0 3 (q := (5, .iaload, 1)) rfl
theorem dX1_leave_6 : decode cX1_leave 6 = .ok (.istore_n 2, 1) := d_of dm_X1_leave_c0 4 (q := (6, .istore_n 2, 1)) rfl
theorem dX1_leave_7 : decode cX1_leave 7 = .ok (.aload_n 0, 1) := d_of dm_X1_leave_c0 5 (q := (7, .aload_n 0, 1)) rfl
theorem dX1_leave_8 : decode cX1_leave 8 = .ok (.iload_n 2, 1) := d_of dm_X1_leave_c0 6 (q := (8, .iload_n 2, 1)) rfl
theorem dX1_leave_9 : decode cX1_leave 9 = .ok (.invokevirtual 62, 3) := d_of dm_X1_leave_c0 7 (q := (9, .invokevirtual 62, 3)) rfl
theorem dX1_leave_12 : decode cX1_leave 12 = .ok (.ifCond .ne 5, 3) := d_of dm_X1_leave_c0 8 (q := (12, .ifCond .ne 5, 3)) rfl
theorem dX1_leave_15 : decode cX1_leave 15 = .ok (.iconst 0, 1) := d_of dm_X1_leave_c0 9 (q := (15, .iconst 0, 1)) rfl
theorem dX1_leave_16 : decode cX1_leave 16 = .ok (.ireturn, 1) := d_of dm_X1_leave_c0 10 (q := (16, .ireturn, 1)) rfl
theorem dX1_leave_17 : decode cX1_leave 17 = .ok (.aload_n 0, 1) := d_of dm_X1_leave_c0 11 (q := (17, .aload_n 0, 1)) rfl
theorem dX1_leave_18 : decode cX1_leave 18 = .ok (.getfield 40, 3) := d_of dm_X1_leave_c0 12 (q := (18, .getfield 40, 3)) rfl
theorem dX1_leave_21 : decode cX1_leave 21 = .ok (.iload_n 2, 1) := d_of dm_X1_leave_c0 13 (q := (21, .iload_n 2, 1)) rfl
theorem dX1_leave_22 : decode cX1_leave 22 = .ok (.bipush (-9), 2) := d_of dm_X1_leave_c0 14 (q := (22, .bipush (-9), 2)) rfl
theorem dX1_leave_24 : decode cX1_leave 24 = .ok (.iastore, 1) := d_of dm_X1_leave_c0 15 (q := (24, .iastore, 1)) rfl
theorem dX1_leave_25 : decode cX1_leave 25 = .ok (.iconst 1, 1) := d_of dm_X1_leave_c0 16 (q := (25, .iconst 1, 1)) rfl
theorem dX1_leave_26 : decode cX1_leave 26 = .ok (.ireturn, 1) := d_of dm_X1_leave_c0 17 (q := (26, .ireturn, 1)) rfl
def dl_X1_addLine_c0 : List (Nat × Instr × Nat) := [(0, .iload_n 1, 1), (1, .invokestatic 66, 3), (4, .ifCond .eq 24, 3), (7, .iload_n 2, 1), (8, .invokestatic 66, 3), (11, .ifCond .eq 17, 3), (14, .iload_n 1, 1), (15, .iload_n 2, 1), (16, .if_icmp .eq 12, 3), (19, .aload_n 0, 1), (20, .getfield 9, 3), (23, .bipush 10, 2), (25, .if_icmp .lt 5, 3), (28, .iconst 0, 1), (29, .ireturn, 1), (30, .aload_n 0, 1), (31, .getfield 25, 3), (34, .iload_n 1, 1), (35, .iaload, 1), (36, .iload_n 2, 1), (37, .ishr, 1), (38, .iconst 1, 1), (39, .iand, 1), (40, .ifCond .eq 5, 3), (43, .iconst 0, 1)]
set_option maxRecDepth 100000 in
theorem dm_X1_addLine_c0 : dl_X1_addLine_c0.all (fun q => decide (decode cX1_addLine q.1 = .ok q.2)) = true := by decide +kernel
theorem dX1_addLine_0 : decode cX1_addLine 0 = .ok (.iload_n 1, 1) := d_of dm_X1_addLine_c0 0 (q := (0, .iload_n 1, 1)) rfl
theorem dX1_addLine_1 : decode cX1_addLine 1 = .ok (.invokestatic 66, 3) := d_of dm_X1_addLine_c0 1 (q := (1, .invokestatic 66, 3)) rfl
theorem dX1_addLine_4 : decode cX1_addLine 4 = .ok (.ifCond .eq 24, 3) := d_of dm_X1_addLine_c0 2 (q := (4, .ifCond .eq 24, 3)) rfl
theorem dX1_addLine_7 : decode cX1_addLine 7 = .ok (.iload_n 2, 1) := d_of dm_X1_addLine_c0 3 (q := (7, .iload_n 2, 1)) rfl
theorem dX1_addLine_8 : decode cX1_addLine 8 = .ok (.invokestatic 66, 3) := d_of dm_X1_addLine_c0 4 (q := (8, .invokestatic 66, 3)) rfl
theorem dX1_addLine_11 : decode cX1_addLine 11 = .ok (.ifCond .eq 17, 3) := d_of dm_X1_addLine_c0 5 (q := (11, .ifCond .eq 17, 3)) rfl
theorem dX1_addLine_14 : decode cX1_addLine 14 = .ok (.iload_n 1, 1) := d_of dm_X1_addLine_c0 6 (q := (14, .iload_n 1, 1)) rfl
theorem dX1_addLine_15 : decode cX1_addLine 15 = .ok (.iload_n 2, 1) := d_of dm_X1_addLine_c0 7 (q := (15, .iload_n 2, 1)) rfl
theorem dX1_addLine_16 : decode cX1_addLine 16 = .ok (.if_icmp .eq 12, 3) := d_of dm_X1_addLine_c0 8 (q := (16, .if_icmp .eq 12, 3)) rfl
theorem dX1_addLine_19 : decode cX1_addLine 19 = .ok (.aload_n 0, 1) := d_of dm_X1_addLine_c0 9 (q := (19, .aload_n 0, 1)) rfl
theorem dX1_addLine_20 : decode cX1_addLine 20 = .ok (.getfield 9, 3) := d_of dm_X1_addLine_c0 10 (q := (20, .getfield 9, 3)) rfl
theorem dX1_addLine_23 : decode cX1_addLine 23 = .ok (.bipush 10, 2) := d_of dm_X1_addLine_c0 11 (q := (23, .bipush 10, 2)) rfl
theorem dX1_addLine_25 : decode cX1_addLine 25 = .ok (.if_icmp .lt 5, 3) := d_of dm_X1_addLine_c0 12 (q := (25, .if_icmp .lt 5, 3)) rfl
theorem dX1_addLine_28 : decode cX1_addLine 28 = .ok (.iconst 0, 1) := d_of dm_X1_addLine_c0 13 (q := (28, .iconst 0, 1)) rfl
theorem dX1_addLine_29 : decode cX1_addLine 29 = .ok (.ireturn, 1) := d_of dm_X1_addLine_c0 14 (q := (29, .ireturn, 1)) rfl
theorem dX1_addLine_30 : decode cX1_addLine 30 = .ok (.aload_n 0, 1) := d_of dm_X1_addLine_c0 15 (q := (30, .aload_n 0, 1)) rfl
theorem dX1_addLine_31 : decode cX1_addLine 31 = .ok (.getfield 25, 3) := d_of dm_X1_addLine_c0 16 (q := (31, .getfield 25, 3)) rfl
theorem dX1_addLine_34 : decode cX1_addLine 34 = .ok (.iload_n 1, 1) := d_of dm_X1_addLine_c0 17 (q := (34, .iload_n 1, 1)) rfl
theorem dX1_addLine_35 : decode cX1_addLine 35 = .ok (.iaload, 1) := d_of dm_X1_addLine_c0 18 (q := (35, .iaload, 1)) rfl
theorem dX1_addLine_36 : decode cX1_addLine 36 = .ok (.iload_n 2, 1) := d_of dm_X1_addLine_c0 19 (q := (36, .iload_n 2, 1)) rfl
theorem dX1_addLine_37 : decode cX1_addLine 37 = .ok (.ishr, 1) := d_of dm_X1_addLine_c0 20 (q := (37, .ishr, 1)) rfl
theorem dX1_addLine_38 : decode cX1_addLine 38 = .ok (.iconst 1, 1) := d_of dm_X1_addLine_c0 21 (q := (38, .iconst 1, 1)) rfl
theorem dX1_addLine_39 : decode cX1_addLine 39 = .ok (.iand, 1) := d_of dm_X1_addLine_c0 22 (q := (39, .iand, 1)) rfl
theorem dX1_addLine_40 : decode cX1_addLine 40 = .ok (.ifCond .eq 5, 3) := d_of dm_X1_addLine_c0 23 (q := (40, .ifCond .eq 5, 3)) rfl
theorem dX1_addLine_43 : decode cX1_addLine 43 = .ok (.iconst 0, 1) := d_of dm_X1_addLine_c0 24 (q := (43, .iconst 0, 1)) rfl
def dl_X1_addLine_c25 : List (Nat × Instr × Nat) := [(44, .ireturn, 1), (45, .aload_n 0, 1), (46, .getfield 15, 3), (49, .aload_n 0, 1), (50, .getfield 9, 3), (53, .iload_n 1, 1), (54, .iload_n 2, 1), (55, .invokestatic 69, 3), (58, .iastore, 1), (59, .aload_n 0, 1), (60, .getfield 19, 3), (63, .aload_n 0, 1), (64, .getfield 9, 3), (67, .iload_n 1, 1), (68, .iload_n 2, 1), (69, .invokestatic 75, 3), (72, .iastore, 1), (73, .aload_n 0, 1), (74, .dup, 1), (75, .getfield 9, 3), (78, .iconst 1, 1), (79, .iadd, 1), (80, .putfield 9, 3), (83, .aload_n 0, 1), (84, .getfield 25, 3)]
set_option maxRecDepth 100000 in
theorem dm_X1_addLine_c25 : dl_X1_addLine_c25.all (fun q => decide (decode cX1_addLine q.1 = .ok q.2)) = true := by decide +kernel
theorem dX1_addLine_44 : decode cX1_addLine 44 = .ok (.ireturn, 1) := d_of dm_X1_addLine_c25 0 (q := (44, .ireturn, 1)) rfl
theorem dX1_addLine_45 : decode cX1_addLine 45 = .ok (.aload_n 0, 1) := d_of dm_X1_addLine_c25 1 (q := (45, .aload_n 0, 1)) rfl
theorem dX1_addLine_46 : decode cX1_addLine 46 = .ok (.getfield 15, 3) := d_of dm_X1_addLine_c25 2 (q := (46, .getfield 15, 3)) rfl
theorem dX1_addLine_49 : decode cX1_addLine 49 = .ok (.aload_n 0, 1) := d_of dm_X1_addLine_c25 3 (q := (49, .aload_n 0, 1)) rfl
theorem dX1_addLine_50 : decode cX1_addLine 50 = .ok (.getfield 9, 3) := d_of dm_X1_addLine_c25 4 (q := (50, .getfield 9, 3)) rfl
theorem dX1_addLine_53 : decode cX1_addLine 53 = .ok (.iload_n 1, 1) := d_of dm_X1_addLine_c25 5 (q := (53, .iload_n 1, 1)) rfl
theorem dX1_addLine_54 : decode cX1_addLine 54 = .ok (.iload_n 2, 1) := d_of dm_X1_addLine_c25 6 (q := (54, .iload_n 2, 1)) rfl
theorem dX1_addLine_55 : decode cX1_addLine 55 = .ok (.invokestatic 69, 3) := d_of dm_X1_addLine_c25 7 (q := (55, .invokestatic 69, 3)) rfl
theorem dX1_addLine_58 : decode cX1_addLine 58 = .ok (.iastore, 1) := d_of dm_X1_addLine_c25 8 (q := (58, .iastore, 1)) rfl
theorem dX1_addLine_59 : decode cX1_addLine 59 = .ok (.aload_n 0, 1) := d_of dm_X1_addLine_c25 9 (q := (59, .aload_n 0, 1)) rfl
theorem dX1_addLine_60 : decode cX1_addLine 60 = .ok (.getfield 19, 3) := d_of dm_X1_addLine_c25 10 (q := (60, .getfield 19, 3)) rfl
theorem dX1_addLine_63 : decode cX1_addLine 63 = .ok (.aload_n 0, 1) := d_of dm_X1_addLine_c25 11 (q := (63, .aload_n 0, 1)) rfl
theorem dX1_addLine_64 : decode cX1_addLine 64 = .ok (.getfield 9, 3) := d_of dm_X1_addLine_c25 12 (q := (64, .getfield 9, 3)) rfl
theorem dX1_addLine_67 : decode cX1_addLine 67 = .ok (.iload_n 1, 1) := d_of dm_X1_addLine_c25 13 (q := (67, .iload_n 1, 1)) rfl
theorem dX1_addLine_68 : decode cX1_addLine 68 = .ok (.iload_n 2, 1) := d_of dm_X1_addLine_c25 14 (q := (68, .iload_n 2, 1)) rfl
theorem dX1_addLine_69 : decode cX1_addLine 69 = .ok (.invokestatic 75, 3) := d_of dm_X1_addLine_c25 15 (q := (69, .invokestatic 75, 3)) rfl
theorem dX1_addLine_72 : decode cX1_addLine 72 = .ok (.iastore, 1) := d_of dm_X1_addLine_c25 16 (q := (72, .iastore, 1)) rfl
theorem dX1_addLine_73 : decode cX1_addLine 73 = .ok (.aload_n 0, 1) := d_of dm_X1_addLine_c25 17 (q := (73, .aload_n 0, 1)) rfl
theorem dX1_addLine_74 : decode cX1_addLine 74 = .ok (.dup, 1) := d_of dm_X1_addLine_c25 18 (q := (74, .dup, 1)) rfl
theorem dX1_addLine_75 : decode cX1_addLine 75 = .ok (.getfield 9, 3) := d_of dm_X1_addLine_c25 19 (q := (75, .getfield 9, 3)) rfl
theorem dX1_addLine_78 : decode cX1_addLine 78 = .ok (.iconst 1, 1) := d_of dm_X1_addLine_c25 20 (q := (78, .iconst 1, 1)) rfl
theorem dX1_addLine_79 : decode cX1_addLine 79 = .ok (.iadd, 1) := d_of dm_X1_addLine_c25 21 (q := (79, .iadd, 1)) rfl
theorem dX1_addLine_80 : decode cX1_addLine 80 = .ok (.putfield 9, 3) := d_of dm_X1_addLine_c25 22 (q := (80, .putfield 9, 3)) rfl
theorem dX1_addLine_83 : decode cX1_addLine 83 = .ok (.aload_n 0, 1) := d_of dm_X1_addLine_c25 23 (q := (83, .aload_n 0, 1)) rfl
theorem dX1_addLine_84 : decode cX1_addLine 84 = .ok (.getfield 25, 3) := d_of dm_X1_addLine_c25 24 (q := (84, .getfield 25, 3)) rfl
def dl_X1_addLine_c50 : List (Nat × Instr × Nat) := [(87, .iload_n 1, 1), (88, .dup2, 1), (89, .iaload, 1), (90, .iconst 1, 1), (91, .iload_n 2, 1), (92, .ishl, 1), (93, .ior, 1), (94, .iastore, 1), (95, .aload_n 0, 1), (96, .getfield 25, 3), (99, .iload_n 2, 1), (100, .dup2, 1), (101, .iaload, 1), (102, .iconst 1, 1), (103, .iload_n 1, 1), (104, .ishl, 1), (105, .ior, 1), (106, .iastore, 1), (107, .aload_n 0, 1), (108, .getfield 28, 3), (111, .iload_n 1, 1), (112, .dup2, 1), (113, .iaload, 1), (114, .iconst 1, 1), (115, .iload_n 2, 1)]
set_option maxRecDepth 100000 in
theorem dm_X1_addLine_c50 : dl_X1_addLine_c50.all (fun q => decide (decode cX1_addLine q.1 = .ok q.2)) = true := by decide +kernel
theorem dX1_addLine_87 : decode cX1_addLine 87 = .ok (.iload_n 1, 1) := d_of dm_X1_addLine_c50 0 (q := (87, .iload_n 1, 1)) rfl
theorem dX1_addLine_88 : decode cX1_addLine 88 = .ok (.dup2, 1) := d_of dm_X1_addLine_c50 1 (q := (88, .dup2, 1)) rfl
theorem dX1_addLine_89 : decode cX1_addLine 89 = .ok (.iaload, 1) := d_of dm_X1_addLine_c50 2 (q := (89, .iaload, 1)) rfl
theorem dX1_addLine_90 : decode cX1_addLine 90 = .ok (.iconst 1, 1) := d_of dm_X1_addLine_c50 3 (q := (90, .iconst 1, 1)) rfl
theorem dX1_addLine_91 : decode cX1_addLine 91 = .ok (.iload_n 2, 1) := d_of dm_X1_addLine_c50 4 (q := (91, .iload_n 2, 1)) rfl
theorem dX1_addLine_92 : decode cX1_addLine 92 = .ok (.ishl, 1) := d_of dm_X1_addLine_c50 5 (q := (92, .ishl, 1)) rfl
theorem dX1_addLine_93 : decode cX1_addLine 93 = .ok (.ior, 1) := d_of dm_X1_addLine_c50 6 (q := (93, .ior, 1)) rfl
theorem dX1_addLine_94 : decode cX1_addLine 94 = .ok (.iastore, 1) := d_of dm_X1_addLine_c50 7 (q := (94, .iastore, 1)) rfl
theorem dX1_addLine_95 : decode cX1_addLine 95 = .ok (.aload_n 0, 1) := d_of dm_X1_addLine_c50 8 (q := (95, .aload_n 0, 1)) rfl
theorem dX1_addLine_96 : decode cX1_addLine 96 = .ok (.getfield 25, 3) := d_of dm_X1_addLine_c50 9 (q := (96, .getfield 25, 3)) rfl
theorem dX1_addLine_99 : decode cX1_addLine 99 = .ok (.iload_n 2, 1) := d_of dm_X1_addLine_c50 10 (q := (99, .iload_n 2, 1)) rfl
theorem dX1_addLine_100 : decode cX1_addLine 100 = .ok (.dup2, 1) := d_of dm_X1_addLine_c50 11 (q := (100, .dup2, 1)) rfl
theorem dX1_addLine_101 : decode cX1_addLine 101 = .ok (.iaload, 1) := d_of dm_X1_addLine_c50 12 (q := (101, .iaload, 1)) rfl
theorem dX1_addLine_102 : decode cX1_addLine 102 = .ok (.iconst 1, 1) := d_of dm_X1_addLine_c50 13 (q := (102, .iconst 1, 1)) rfl
theorem dX1_addLine_103 : decode cX1_addLine 103 = .ok (.iload_n 1, 1) := d_of dm_X1_addLine_c50 14 (q := (103, .iload_n 1, 1)) rfl
theorem dX1_addLine_104 : decode cX1_addLine 104 = .ok (.ishl, 1) := d_of dm_X1_addLine_c50 15 (q := (104, .ishl, 1)) rfl
theorem dX1_addLine_105 : decode cX1_addLine 105 = .ok (.ior, 1) := d_of dm_X1_addLine_c50 16 (q := (105, .ior, 1)) rfl
theorem dX1_addLine_106 : decode cX1_addLine 106 = .ok (.iastore, 1) := d_of dm_X1_addLine_c50 17 (q := (106, .iastore, 1)) rfl
theorem dX1_addLine_107 : decode cX1_addLine 107 = .ok (.aload_n 0, 1) := d_of dm_X1_addLine_c50 18 (q := (107, .aload_n 0, 1)) rfl
theorem dX1_addLine_108 : decode cX1_addLine 108 = .ok (.getfield 28, 3) := d_of dm_X1_addLine_c50 19 (q := (108, .getfield 28, 3)) rfl
theorem dX1_addLine_111 : decode cX1_addLine 111 = .ok (.iload_n 1, 1) := d_of dm_X1_addLine_c50 20 (q := (111, .iload_n 1, 1)) rfl
theorem dX1_addLine_112 : decode cX1_addLine 112 = .ok (.dup2, 1) := d_of dm_X1_addLine_c50 21 (q := (112, .dup2, 1)) rfl
theorem dX1_addLine_113 : decode cX1_addLine 113 = .ok (.iaload, 1) := d_of dm_X1_addLine_c50 22 (q := (113, .iaload, 1)) rfl
theorem dX1_addLine_114 : decode cX1_addLine 114 = .ok (.iconst 1, 1) := d_of dm_X1_addLine_c50 23 (q := (114, .iconst 1, 1)) rfl
theorem dX1_addLine_115 : decode cX1_addLine 115 = .ok (.iload_n 2, 1) := d_of dm_X1_addLine_c50 24 (q := (115, .iload_n 2, 1)) rfl
def dl_X1_addLine_c75 : List (Nat × Instr × Nat) := [(116, .ishl, 1), (117, .ior, 1), (118, .iastore, 1), (119, .aload_n 0, 1), (120, .getfield 28, 3), (123, .iload_n 2, 1), (124, .dup2, 1), (125, .iaload, 1), (126, .iconst 1, 1), (127, .iload_n 1, 1), (128, .ishl, 1), (129, .ior, 1), (130, .iastore, 1), (131, .iconst 1, 1), (132, .ireturn, 1)]
set_option maxRecDepth 100000 in
theorem dm_X1_addLine_c75 : dl_X1_addLine_c75.all (fun q => decide (decode cX1_addLine q.1 = .ok q.2)) = true := by decide +kernel
theorem dX1_addLine_116 : decode cX1_addLine 116 = .ok (.ishl, 1) := d_of dm_X1_addLine_c75 0 (q := (116, .ishl, 1)) rfl
theorem dX1_addLine_117 : decode cX1_addLine 117 = .ok (.ior, 1) := d_of dm_X1_addLine_c75 1 (q := (117, .ior, 1)) rfl
theorem dX1_addLine_118 : decode cX1_addLine 118 = .ok (.iastore, 1) := d_of dm_X1_addLine_c75 2 (q := (118, .iastore, 1)) rfl
theorem dX1_addLine_119 : decode cX1_addLine 119 = .ok (.aload_n 0, 1) := d_of dm_X1_addLine_c75 3 (q := (119, .aload_n 0, 1)) rfl
theorem dX1_addLine_120 : decode cX1_addLine 120 = .ok (.getfield 28, 3) := d_of dm_X1_addLine_c75 4 (q := (120, .getfield 28, 3)) rfl
theorem dX1_addLine_123 : decode cX1_addLine 123 = .ok (.iload_n 2, 1) := d_of dm_X1_addLine_c75 5 (q := (123, .iload_n 2, 1)) rfl
theorem dX1_addLine_124 : decode cX1_addLine 124 = .ok (.dup2, 1) := d_of dm_X1_addLine_c75 6 (q := (124, .dup2, 1)) rfl
theorem dX1_addLine_125 : decode cX1_addLine 125 = .ok (.iaload, 1) := d_of dm_X1_addLine_c75 7 (q := (125, .iaload, 1)) rfl
theorem dX1_addLine_126 : decode cX1_addLine 126 = .ok (.iconst 1, 1) := d_of dm_X1_addLine_c75 8 (q := (126, .iconst 1, 1)) rfl
theorem dX1_addLine_127 : decode cX1_addLine 127 = .ok (.iload_n 1, 1) := d_of dm_X1_addLine_c75 9 (q := (127, .iload_n 1, 1)) rfl
theorem dX1_addLine_128 : decode cX1_addLine 128 = .ok (.ishl, 1) := d_of dm_X1_addLine_c75 10 (q := (128, .ishl, 1)) rfl
theorem dX1_addLine_129 : decode cX1_addLine 129 = .ok (.ior, 1) := d_of dm_X1_addLine_c75 11 (q := (129, .ior, 1)) rfl
theorem dX1_addLine_130 : decode cX1_addLine 130 = .ok (.iastore, 1) := d_of dm_X1_addLine_c75 12 (q := (130, .iastore, 1)) rfl
theorem dX1_addLine_131 : decode cX1_addLine 131 = .ok (.iconst 1, 1) := d_of dm_X1_addLine_c75 13 (q := (131, .iconst 1, 1)) rfl
theorem dX1_addLine_132 : decode cX1_addLine 132 = .ok (.ireturn, 1) := d_of dm_X1_addLine_c75 14 (q := (132, .ireturn, 1)) rfl
def dl_X1_addThing_c0 : List (Nat × Instr × Nat) := [(0, .iload_n 2, 1), (1, .invokestatic 66, 3), (4, .ifCond .eq 12, 3), (7, .aload_n 0, 1), (8, .getfield 31, 3), (11, .bipush 8, 2), (13, .if_icmp .lt 5, 3), (16, .iconst 0, 1), (17, .ireturn, 1), (18, .aload_n 0, 1), (19, .getfield 34, 3), (22, .aload_n 0, 1), (23, .getfield 31, 3), (26, .iload_n 1, 1), (27, .iastore, 1), (28, .aload_n 0, 1), (29, .getfield 37, 3), (32, .aload_n 0, 1), (33, .getfield 31, 3), (36, .iload_n 2, 1), (37, .iastore, 1), (38, .aload_n 0, 1), (39, .getfield 40, 3), (42, .aload_n 0, 1), (43, .getfield 31, 3)]
set_option maxRecDepth 100000 in
theorem dm_X1_addThing_c0 : dl_X1_addThing_c0.all (fun q => decide (decode cX1_addThing q.1 = .ok q.2)) = true := by decide +kernel
theorem dX1_addThing_0 : decode cX1_addThing 0 = .ok (.iload_n 2, 1) := d_of dm_X1_addThing_c0 0 (q := (0, .iload_n 2, 1)) rfl
theorem dX1_addThing_1 : decode cX1_addThing 1 = .ok (.invokestatic 66, 3) := d_of dm_X1_addThing_c0 1 (q := (1, .invokestatic 66, 3)) rfl
theorem dX1_addThing_4 : decode cX1_addThing 4 = .ok (.ifCond .eq 12, 3) := d_of dm_X1_addThing_c0 2 (q := (4, .ifCond .eq 12, 3)) rfl
theorem dX1_addThing_7 : decode cX1_addThing 7 = .ok (.aload_n 0, 1) := d_of dm_X1_addThing_c0 3 (q := (7, .aload_n 0, 1)) rfl
theorem dX1_addThing_8 : decode cX1_addThing 8 = .ok (.getfield 31, 3) := d_of dm_X1_addThing_c0 4 (q := (8, .getfield 31, 3)) rfl
theorem dX1_addThing_11 : decode cX1_addThing 11 = .ok (.bipush 8, 2) := d_of dm_X1_addThing_c0 5 (q := (11, .bipush 8, 2)) rfl
theorem dX1_addThing_13 : decode cX1_addThing 13 = .ok (.if_icmp .lt 5, 3) := d_of dm_X1_addThing_c0 6 (q := (13, .if_icmp .lt 5, 3)) rfl
theorem dX1_addThing_16 : decode cX1_addThing 16 = .ok (.iconst 0, 1) := d_of dm_X1_addThing_c0 7 (q := (16, .iconst 0, 1)) rfl
theorem dX1_addThing_17 : decode cX1_addThing 17 = .ok (.ireturn, 1) := d_of dm_X1_addThing_c0 8 (q := (17, .ireturn, 1)) rfl
theorem dX1_addThing_18 : decode cX1_addThing 18 = .ok (.aload_n 0, 1) := d_of dm_X1_addThing_c0 9 (q := (18, .aload_n 0, 1)) rfl
theorem dX1_addThing_19 : decode cX1_addThing 19 = .ok (.getfield 34, 3) := d_of dm_X1_addThing_c0 10 (q := (19, .getfield 34, 3)) rfl
theorem dX1_addThing_22 : decode cX1_addThing 22 = .ok (.aload_n 0, 1) := d_of dm_X1_addThing_c0 11 (q := (22, .aload_n 0, 1)) rfl
theorem dX1_addThing_23 : decode cX1_addThing 23 = .ok (.getfield 31, 3) := d_of dm_X1_addThing_c0 12 (q := (23, .getfield 31, 3)) rfl
theorem dX1_addThing_26 : decode cX1_addThing 26 = .ok (.iload_n 1, 1) := d_of dm_X1_addThing_c0 13 (q := (26, .iload_n 1, 1)) rfl
theorem dX1_addThing_27 : decode cX1_addThing 27 = .ok (.iastore, 1) := d_of dm_X1_addThing_c0 14 (q := (27, .iastore, 1)) rfl
theorem dX1_addThing_28 : decode cX1_addThing 28 = .ok (.aload_n 0, 1) := d_of dm_X1_addThing_c0 15 (q := (28, .aload_n 0, 1)) rfl
theorem dX1_addThing_29 : decode cX1_addThing 29 = .ok (.getfield 37, 3) := d_of dm_X1_addThing_c0 16 (q := (29, .getfield 37, 3)) rfl
theorem dX1_addThing_32 : decode cX1_addThing 32 = .ok (.aload_n 0, 1) := d_of dm_X1_addThing_c0 17 (q := (32, .aload_n 0, 1)) rfl
theorem dX1_addThing_33 : decode cX1_addThing 33 = .ok (.getfield 31, 3) := d_of dm_X1_addThing_c0 18 (q := (33, .getfield 31, 3)) rfl
theorem dX1_addThing_36 : decode cX1_addThing 36 = .ok (.iload_n 2, 1) := d_of dm_X1_addThing_c0 19 (q := (36, .iload_n 2, 1)) rfl
theorem dX1_addThing_37 : decode cX1_addThing 37 = .ok (.iastore, 1) := d_of dm_X1_addThing_c0 20 (q := (37, .iastore, 1)) rfl
theorem dX1_addThing_38 : decode cX1_addThing 38 = .ok (.aload_n 0, 1) := d_of dm_X1_addThing_c0 21 (q := (38, .aload_n 0, 1)) rfl
theorem dX1_addThing_39 : decode cX1_addThing 39 = .ok (.getfield 40, 3) := d_of dm_X1_addThing_c0 22 (q := (39, .getfield 40, 3)) rfl
theorem dX1_addThing_42 : decode cX1_addThing 42 = .ok (.aload_n 0, 1) := d_of dm_X1_addThing_c0 23 (q := (42, .aload_n 0, 1)) rfl
theorem dX1_addThing_43 : decode cX1_addThing 43 = .ok (.getfield 31, 3) := d_of dm_X1_addThing_c0 24 (q := (43, .getfield 31, 3)) rfl
def dl_X1_addThing_c25 : List (Nat × Instr × Nat) := [(46, .bipush (-9), 2), (48, .iastore, 1), (49, .aload_n 0, 1), (50, .dup, 1), (51, .getfield 31, 3), (54, .iconst 1, 1), (55, .iadd, 1), (56, .putfield 31, 3), (59, .iconst 1, 1), (60, .ireturn, 1)]
set_option maxRecDepth 100000 in
theorem dm_X1_addThing_c25 : dl_X1_addThing_c25.all (fun q => decide (decode cX1_addThing q.1 = .ok q.2)) = true := by decide +kernel
theorem dX1_addThing_46 : decode cX1_addThing 46 = .ok (.bipush (-9), 2) := d_of dm_X1_addThing_c25 0 (q := (46, .bipush (-9), 2)) rfl
theorem dX1_addThing_48 : decode cX1_addThing 48 = .ok (.iastore, 1) := d_of dm_X1_addThing_c25 1 (q := (48, .iastore, 1)) rfl
theorem dX1_addThing_49 : decode cX1_addThing 49 = .ok (.aload_n 0, 1) := d_of dm_X1_addThing_c25 2 (q := (49, .aload_n 0, 1)) rfl
theorem dX1_addThing_50 : decode cX1_addThing 50 = .ok (.dup, 1) := d_of dm_X1_addThing_c25 3 (q := (50, .dup, 1)) rfl
theorem dX1_addThing_51 : decode cX1_addThing 51 = .ok (.getfield 31, 3) := d_of dm_X1_addThing_c25 4 (q := (51, .getfield 31, 3)) rfl
theorem dX1_addThing_54 : decode cX1_addThing 54 = .ok (.iconst 1, 1) := d_of dm_X1_addThing_c25 5 (q := (54, .iconst 1, 1)) rfl
theorem dX1_addThing_55 : decode cX1_addThing 55 = .ok (.iadd, 1) := d_of dm_X1_addThing_c25 6 (q := (55, .iadd, 1)) rfl
theorem dX1_addThing_56 : decode cX1_addThing 56 = .ok (.putfield 31, 3) := d_of dm_X1_addThing_c25 7 (q := (56, .putfield 31, 3)) rfl
theorem dX1_addThing_59 : decode cX1_addThing 59 = .ok (.iconst 1, 1) := d_of dm_X1_addThing_c25 8 (q := (59, .iconst 1, 1)) rfl
theorem dX1_addThing_60 : decode cX1_addThing 60 = .ok (.ireturn, 1) := d_of dm_X1_addThing_c25 9 (q := (60, .ireturn, 1)) rfl
def dl_X1_obey_c0 : List (Nat × Instr × Nat) := [(0, .iload_n 1, 1), (1, .lookupswitch 112 #[(99, 64), (108, 51), (109, 99), (111, 86), (116, 73)], 51), (52, .aload_n 0, 1), (53, .iload_n 2, 1), (54, .invokestatic 78, 3), (57, .iload_n 3, 1), (58, .invokestatic 78, 3), (61, .invokevirtual 83, 3), (64, .ireturn, 1), (65, .aload_n 0, 1), (66, .iload_n 2, 1), (67, .invokestatic 78, 3), (70, .invokevirtual 87, 3), (73, .ireturn, 1), (74, .aload_n 0, 1), (75, .iload_n 2, 1), (76, .invokestatic 90, 3), (79, .iload_n 3, 1), (80, .invokestatic 78, 3), (83, .invokevirtual 93, 3), (86, .ireturn, 1), (87, .aload_n 0, 1), (88, .iload_n 2, 1), (89, .invokestatic 78, 3), (92, .iload_n 3, 1)]
set_option maxRecDepth 100000 in
theorem dm_X1_obey_c0 : dl_X1_obey_c0.all (fun q => decide (decode cX1_obey q.1 = .ok q.2)) = true := by decide +kernel
theorem dX1_obey_0 : decode cX1_obey 0 = .ok (.iload_n 1, 1) := d_of dm_X1_obey_c0 0 (q := (0, .iload_n 1, 1)) rfl
theorem dX1_obey_1 : decode cX1_obey 1 = .ok (.lookupswitch 112 #[(99, 64), (108, 51), (109, 99), (111, 86), (116, 73)], 51) := d_of dm_X1_obey_c0 1 (q := (1, .lookupswitch 112 #[(99, 64), (108, 51), (109, 99), (111, 86), (116, 73)], 51)) rfl
theorem dX1_obey_52 : decode cX1_obey 52 = .ok (.aload_n 0, 1) := d_of dm_X1_obey_c0 2 (q := (52, .aload_n 0, 1)) rfl
theorem dX1_obey_53 : decode cX1_obey 53 = .ok (.iload_n 2, 1) := d_of dm_X1_obey_c0 3 (q := (53, .iload_n 2, 1)) rfl
theorem dX1_obey_54 : decode cX1_obey 54 = .ok (.invokestatic 78, 3) := d_of dm_X1_obey_c0 4 (q := (54, .invokestatic 78, 3)) rfl
theorem dX1_obey_57 : decode cX1_obey 57 = .ok (.iload_n 3, 1) := d_of dm_X1_obey_c0 5 (q := (57, .iload_n 3, 1)) rfl
theorem dX1_obey_58 : decode cX1_obey 58 = .ok (.invokestatic 78, 3) := d_of dm_X1_obey_c0 6 (q := (58, .invokestatic 78, 3)) rfl
theorem dX1_obey_61 : decode cX1_obey 61 = .ok (.invokevirtual 83, 3) := d_of dm_X1_obey_c0 7 (q := (61, .invokevirtual 83, 3)) rfl
theorem dX1_obey_64 : decode cX1_obey 64 = .ok (.ireturn, 1) := d_of dm_X1_obey_c0 8 (q := (64, .ireturn, 1)) rfl
theorem dX1_obey_65 : decode cX1_obey 65 = .ok (.aload_n 0, 1) := d_of dm_X1_obey_c0 9 (q := (65, .aload_n 0, 1)) rfl
theorem dX1_obey_66 : decode cX1_obey 66 = .ok (.iload_n 2, 1) := d_of dm_X1_obey_c0 10 (q := (66, .iload_n 2, 1)) rfl
theorem dX1_obey_67 : decode cX1_obey 67 = .ok (.invokestatic 78, 3) := d_of dm_X1_obey_c0 11 (q := (67, .invokestatic 78, 3)) rfl
theorem dX1_obey_70 : decode cX1_obey 70 = .ok (.invokevirtual 87, 3) := d_of dm_X1_obey_c0 12 (q := (70, .invokevirtual 87, 3)) rfl
theorem dX1_obey_73 : decode cX1_obey 73 = .ok (.ireturn, 1) := d_of dm_X1_obey_c0 13 (q := (73, .ireturn, 1)) rfl
theorem dX1_obey_74 : decode cX1_obey 74 = .ok (.aload_n 0, 1) := d_of dm_X1_obey_c0 14 (q := (74, .aload_n 0, 1)) rfl
theorem dX1_obey_75 : decode cX1_obey 75 = .ok (.iload_n 2, 1) := d_of dm_X1_obey_c0 15 (q := (75, .iload_n 2, 1)) rfl
theorem dX1_obey_76 : decode cX1_obey 76 = .ok (.invokestatic 90, 3) := d_of dm_X1_obey_c0 16 (q := (76, .invokestatic 90, 3)) rfl
theorem dX1_obey_79 : decode cX1_obey 79 = .ok (.iload_n 3, 1) := d_of dm_X1_obey_c0 17 (q := (79, .iload_n 3, 1)) rfl
theorem dX1_obey_80 : decode cX1_obey 80 = .ok (.invokestatic 78, 3) := d_of dm_X1_obey_c0 18 (q := (80, .invokestatic 78, 3)) rfl
theorem dX1_obey_83 : decode cX1_obey 83 = .ok (.invokevirtual 93, 3) := d_of dm_X1_obey_c0 19 (q := (83, .invokevirtual 93, 3)) rfl
theorem dX1_obey_86 : decode cX1_obey 86 = .ok (.ireturn, 1) := d_of dm_X1_obey_c0 20 (q := (86, .ireturn, 1)) rfl
theorem dX1_obey_87 : decode cX1_obey 87 = .ok (.aload_n 0, 1) := d_of dm_X1_obey_c0 21 (q := (87, .aload_n 0, 1)) rfl
theorem dX1_obey_88 : decode cX1_obey 88 = .ok (.iload_n 2, 1) := d_of dm_X1_obey_c0 22 (q := (88, .iload_n 2, 1)) rfl
theorem dX1_obey_89 : decode cX1_obey 89 = .ok (.invokestatic 78, 3) := d_of dm_X1_obey_c0 23 (q := (89, .invokestatic 78, 3)) rfl
theorem dX1_obey_92 : decode cX1_obey 92 = .ok (.iload_n 3, 1) := d_of dm_X1_obey_c0 24 (q := (92, .iload_n 3, 1)) rfl
def dl_X1_obey_c25 : List (Nat × Instr × Nat) := [(93, .invokestatic 78, 3), (96, .invokevirtual 96, 3), (99, .ireturn, 1), (100, .aload_n 0, 1), (101, .iload_n 2, 1), (102, .invokestatic 78, 3), (105, .iload_n 3, 1), (106, .invokestatic 78, 3), (109, .invokevirtual 99, 3), (112, .ireturn, 1), (113, .aload_n 0, 1), (114, .iload_n 2, 1), (115, .invokestatic 78, 3), (118, .invokevirtual 102, 3), (121, .ireturn, 1)]
set_option maxRecDepth 100000 in
theorem dm_X1_obey_c25 : dl_X1_obey_c25.all (fun q => decide (decode cX1_obey q.1 = .ok q.2)) = true := by decide +kernel
theorem dX1_obey_93 : decode cX1_obey 93 = .ok (.invokestatic 78, 3) := d_of dm_X1_obey_c25 0 (q := (93, .invokestatic 78, 3)) rfl
theorem dX1_obey_96 : decode cX1_obey 96 = .ok (.invokevirtual 96, 3) := d_of dm_X1_obey_c25 1 (q := (96, .invokevirtual 96, 3)) rfl
theorem dX1_obey_99 : decode cX1_obey 99 = .ok (.ireturn, 1) := d_of dm_X1_obey_c25 2 (q := (99, .ireturn, 1)) rfl
theorem dX1_obey_100 : decode cX1_obey 100 = .ok (.aload_n 0, 1) := d_of dm_X1_obey_c25 3 (q := (100, .aload_n 0, 1)) rfl
theorem dX1_obey_101 : decode cX1_obey 101 = .ok (.iload_n 2, 1) := d_of dm_X1_obey_c25 4 (q := (101, .iload_n 2, 1)) rfl
theorem dX1_obey_102 : decode cX1_obey 102 = .ok (.invokestatic 78, 3) := d_of dm_X1_obey_c25 5 (q := (102, .invokestatic 78, 3)) rfl
theorem dX1_obey_105 : decode cX1_obey 105 = .ok (.iload_n 3, 1) := d_of dm_X1_obey_c25 6 (q := (105, .iload_n 3, 1)) rfl
theorem dX1_obey_106 : decode cX1_obey 106 = .ok (.invokestatic 78, 3) := d_of dm_X1_obey_c25 7 (q := (106, .invokestatic 78, 3)) rfl
theorem dX1_obey_109 : decode cX1_obey 109 = .ok (.invokevirtual 99, 3) := d_of dm_X1_obey_c25 8 (q := (109, .invokevirtual 99, 3)) rfl
theorem dX1_obey_112 : decode cX1_obey 112 = .ok (.ireturn, 1) := d_of dm_X1_obey_c25 9 (q := (112, .ireturn, 1)) rfl
theorem dX1_obey_113 : decode cX1_obey 113 = .ok (.aload_n 0, 1) := d_of dm_X1_obey_c25 10 (q := (113, .aload_n 0, 1)) rfl
theorem dX1_obey_114 : decode cX1_obey 114 = .ok (.iload_n 2, 1) := d_of dm_X1_obey_c25 11 (q := (114, .iload_n 2, 1)) rfl
theorem dX1_obey_115 : decode cX1_obey 115 = .ok (.invokestatic 78, 3) := d_of dm_X1_obey_c25 12 (q := (115, .invokestatic 78, 3)) rfl
theorem dX1_obey_118 : decode cX1_obey 118 = .ok (.invokevirtual 102, 3) := d_of dm_X1_obey_c25 13 (q := (118, .invokevirtual 102, 3)) rfl
theorem dX1_obey_121 : decode cX1_obey 121 = .ok (.ireturn, 1) := d_of dm_X1_obey_c25 14 (q := (121, .ireturn, 1)) rfl
def dl_X1_toggle_c0 : List (Nat × Instr × Nat) := [(0, .aload_n 0, 1), (1, .iload_n 1, 1), (2, .invokevirtual 105, 3), (5, .ifCond .ne 5, 3), (8, .iconst 0, 1), (9, .ireturn, 1), (10, .aload_n 0, 1), (11, .aload_n 0, 1), (12, .getfield 22, 3), (15, .iconst 1, 1), (16, .iload_n 1, 1), (17, .ishl, 1), (18, .ixor, 1), (19, .invokevirtual 108, 3), (22, .iconst 1, 1), (23, .ireturn, 1)]
set_option maxRecDepth 100000 in
theorem dm_X1_toggle_c0 : dl_X1_toggle_c0.all (fun q => decide (decode cX1_toggle q.1 = .ok q.2)) = true := by decide +kernel
theorem dX1_toggle_0 : decode cX1_toggle 0 = .ok (.aload_n 0, 1) := d_of dm_X1_toggle_c0 0 (q := (0, .aload_n 0, 1)) rfl
theorem dX1_toggle_1 : decode cX1_toggle 1 = .ok (.iload_n 1, 1) := d_of dm_X1_toggle_c0 1 (q := (1, .iload_n 1, 1)) rfl
theorem dX1_toggle_2 : decode cX1_toggle 2 = .ok (.invokevirtual 105, 3) := d_of dm_X1_toggle_c0 2 (q := (2, .invokevirtual 105, 3)) rfl
theorem dX1_toggle_5 : decode cX1_toggle 5 = .ok (.ifCond .ne 5, 3) := d_of dm_X1_toggle_c0 3 (q := (5, .ifCond .ne 5, 3)) rfl
theorem dX1_toggle_8 : decode cX1_toggle 8 = .ok (.iconst 0, 1) := d_of dm_X1_toggle_c0 4 (q := (8, .iconst 0, 1)) rfl
theorem dX1_toggle_9 : decode cX1_toggle 9 = .ok (.ireturn, 1) := d_of dm_X1_toggle_c0 5 (q := (9, .ireturn, 1)) rfl
theorem dX1_toggle_10 : decode cX1_toggle 10 = .ok (.aload_n 0, 1) := d_of dm_X1_toggle_c0 6 (q := (10, .aload_n 0, 1)) rfl
theorem dX1_toggle_11 : decode cX1_toggle 11 = .ok (.aload_n 0, 1) := d_of dm_X1_toggle_c0 7 (q := (11, .aload_n 0, 1)) rfl
theorem dX1_toggle_12 : decode cX1_toggle 12 = .ok (.getfield 22, 3) := d_of dm_X1_toggle_c0 8 (q := (12, .getfield 22, 3)) rfl
theorem dX1_toggle_15 : decode cX1_toggle 15 = .ok (.iconst 1, 1) := d_of dm_X1_toggle_c0 9 (q := (15, .iconst 1, 1)) rfl
theorem dX1_toggle_16 : decode cX1_toggle 16 = .ok (.iload_n 1, 1) := d_of dm_X1_toggle_c0 10 (q := (16, .iload_n 1, 1)) rfl
theorem dX1_toggle_17 : decode cX1_toggle 17 = .ok (.ishl, 1) := d_of dm_X1_toggle_c0 11 (q := (17, .ishl, 1)) rfl
theorem dX1_toggle_18 : decode cX1_toggle 18 = .ok (.ixor, 1) := d_of dm_X1_toggle_c0 12 (q := (18, .ixor, 1)) rfl
theorem dX1_toggle_19 : decode cX1_toggle 19 = .ok (.invokevirtual 108, 3) := d_of dm_X1_toggle_c0 13 (q := (19, .invokevirtual 108, 3)) rfl
theorem dX1_toggle_22 : decode cX1_toggle 22 = .ok (.iconst 1, 1) := d_of dm_X1_toggle_c0 14 (q := (22, .iconst 1, 1)) rfl
theorem dX1_toggle_23 : decode cX1_toggle 23 = .ok (.ireturn, 1) := d_of dm_X1_toggle_c0 15 (q := (23, .ireturn, 1)) rfl
def dl_X1_acquaint_c0 : List (Nat × Instr × Nat) := [(0, .aload_n 0, 1), (1, .iload_n 1, 1), (2, .invokevirtual 62, 3), (5, .ifCond .eq 16, 3), (8, .aload_n 0, 1), (9, .iload_n 2, 1), (10, .invokevirtual 62, 3), (13, .ifCond .eq 8, 3), (16, .iload_n 1, 1), (17, .iload_n 2, 1), (18, .if_icmp .ne 5, 3), (21, .iconst 0, 1), (22, .ireturn, 1), (23, .aload_n 0, 1), (24, .iload_n 1, 1), (25, .iload_n 2, 1), (26, .invokevirtual 112, 3), (29, .pop, 1), (30, .iconst 1, 1), (31, .ireturn, 1)]
set_option maxRecDepth 100000 in
theorem dm_X1_acquaint_c0 : dl_X1_acquaint_c0.all (fun q => decide (decode cX1_acquaint q.1 = .ok q.2)) = true := by decide +kernel
theorem dX1_acquaint_0 : decode cX1_acquaint 0 = .ok (.aload_n 0, 1) := d_of dm_X1_acquaint_c0 0 (q := (0, .aload_n 0, 1)) rfl
theorem dX1_acquaint_1 : decode cX1_acquaint 1 = .ok (.iload_n 1, 1) := d_of dm_X1_acquaint_c0 1 (q := (1, .iload_n 1, 1)) rfl
theorem dX1_acquaint_2 : decode cX1_acquaint 2 = .ok (.invokevirtual 62, 3) := d_of dm_X1_acquaint_c0 2 (q := (2, .invokevirtual 62, 3)) rfl
theorem dX1_acquaint_5 : decode cX1_acquaint 5 = .ok (.ifCond .eq 16, 3) := d_of dm_X1_acquaint_c0 3 (q := (5, .ifCond .eq 16, 3)) rfl
theorem dX1_acquaint_8 : decode cX1_acquaint 8 = .ok (.aload_n 0, 1) := d_of dm_X1_acquaint_c0 4 (q := (8, .aload_n 0, 1)) rfl
theorem dX1_acquaint_9 : decode cX1_acquaint 9 = .ok (.iload_n 2, 1) := d_of dm_X1_acquaint_c0 5 (q := (9, .iload_n 2, 1)) rfl
theorem dX1_acquaint_10 : decode cX1_acquaint 10 = .ok (.invokevirtual 62, 3) := d_of dm_X1_acquaint_c0 6 (q := (10, .invokevirtual 62, 3)) rfl
theorem dX1_acquaint_13 : decode cX1_acquaint 13 = .ok (.ifCond .eq 8, 3) := d_of dm_X1_acquaint_c0 7 (q := (13, .ifCond .eq 8, 3)) rfl
theorem dX1_acquaint_16 : decode cX1_acquaint 16 = .ok (.iload_n 1, 1) := d_of dm_X1_acquaint_c0 8 (q := (16, .iload_n 1, 1)) rfl
theorem dX1_acquaint_17 : decode cX1_acquaint 17 = .ok (.iload_n 2, 1) := d_of dm_X1_acquaint_c0 9 (q := (17, .iload_n 2, 1)) rfl
theorem dX1_acquaint_18 : decode cX1_acquaint 18 = .ok (.if_icmp .ne 5, 3) := d_of dm_X1_acquaint_c0 10 (q := (18, .if_icmp .ne 5, 3)) rfl
theorem dX1_acquaint_21 : decode cX1_acquaint 21 = .ok (.iconst 0, 1) := d_of dm_X1_acquaint_c0 11 (q := (21, .iconst 0, 1)) rfl
theorem dX1_acquaint_22 : decode cX1_acquaint 22 = .ok (.ireturn, 1) := d_of dm_X1_acquaint_c0 12 (q := (22, .ireturn, 1)) rfl
theorem dX1_acquaint_23 : decode cX1_acquaint 23 = .ok (.aload_n 0, 1) := d_of dm_X1_acquaint_c0 13 (q := (23, .aload_n 0, 1)) rfl
theorem dX1_acquaint_24 : decode cX1_acquaint 24 = .ok (.iload_n 1, 1) := d_of dm_X1_acquaint_c0 14 (q := (24, .iload_n 1, 1)) rfl
theorem dX1_acquaint_25 : decode cX1_acquaint 25 = .ok (.iload_n 2, 1) := d_of dm_X1_acquaint_c0 15 (q := (25, .iload_n 2, 1)) rfl
theorem dX1_acquaint_26 : decode cX1_acquaint 26 = .ok (.invokevirtual 112, 3) := d_of dm_X1_acquaint_c0 16 (q := (26, .invokevirtual 112, 3)) rfl
theorem dX1_acquaint_29 : decode cX1_acquaint 29 = .ok (.pop, 1) := d_of dm_X1_acquaint_c0 17 (q := (29, .pop, 1)) rfl
theorem dX1_acquaint_30 : decode cX1_acquaint 30 = .ok (.iconst 1, 1) := d_of dm_X1_acquaint_c0 18 (q := (30, .iconst 1, 1)) rfl
theorem dX1_acquaint_31 : decode cX1_acquaint 31 = .ok (.ireturn, 1) := d_of dm_X1_acquaint_c0 19 (q := (31, .ireturn, 1)) rfl
def dl_X1_bring_c0 : List (Nat × Instr × Nat) := [(0, .aload_n 0, 1), (1, .iload_n 1, 1), (2, .invokevirtual 62, 3), (5, .ifCond .eq 10, 3), (8, .iload_n 2, 1), (9, .invokestatic 66, 3), (12, .ifCond .ne 5, 3), (15, .iconst 0, 1), (16, .ireturn, 1), (17, .aload_n 0, 1), (18, .getfield 37, 3), (21, .iload_n 1, 1), (22, .iload_n 2, 1), (23, .iastore, 1), (24, .iconst 1, 1), (25, .ireturn, 1)]
set_option maxRecDepth 100000 in
theorem dm_X1_bring_c0 : dl_X1_bring_c0.all (fun q => decide (decode cX1_bring q.1 = .ok q.2)) = true := by decide +kernel
theorem dX1_bring_0 : decode cX1_bring 0 = .ok (.aload_n 0, 1) := d_of dm_X1_bring_c0 0 (q := (0, .aload_n 0, 1)) rfl
theorem dX1_bring_1 : decode cX1_bring 1 = .ok (.iload_n 1, 1) := d_of dm_X1_bring_c0 1 (q := (1, .iload_n 1, 1)) rfl
theorem dX1_bring_2 : decode cX1_bring 2 = .ok (.invokevirtual 62, 3) := d_of dm_X1_bring_c0 2 (q := (2, .invokevirtual 62, 3)) rfl
theorem dX1_bring_5 : decode cX1_bring 5 = .ok (.ifCond .eq 10, 3) := d_of dm_X1_bring_c0 3 (q := (5, .ifCond .eq 10, 3)) rfl
theorem dX1_bring_8 : decode cX1_bring 8 = .ok (.iload_n 2, 1) := d_of dm_X1_bring_c0 4 (q := (8, .iload_n 2, 1)) rfl
theorem dX1_bring_9 : decode cX1_bring 9 = .ok (.invokestatic 66, 3) := d_of dm_X1_bring_c0 5 (q := (9, .invokestatic 66, 3)) rfl
theorem dX1_bring_12 : decode cX1_bring 12 = .ok (.ifCond .ne 5, 3) := d_of dm_X1_bring_c0 6 (q := (12, .ifCond .ne 5, 3)) rfl
theorem dX1_bring_15 : decode cX1_bring 15 = .ok (.iconst 0, 1) := d_of dm_X1_bring_c0 7 (q := (15, .iconst 0, 1)) rfl
theorem dX1_bring_16 : decode cX1_bring 16 = .ok (.ireturn, 1) := d_of dm_X1_bring_c0 8 (q := (16, .ireturn, 1)) rfl
theorem dX1_bring_17 : decode cX1_bring 17 = .ok (.aload_n 0, 1) := d_of dm_X1_bring_c0 9 (q := (17, .aload_n 0, 1)) rfl
theorem dX1_bring_18 : decode cX1_bring 18 = .ok (.getfield 37, 3) := d_of dm_X1_bring_c0 10 (q := (18, .getfield 37, 3)) rfl
theorem dX1_bring_21 : decode cX1_bring 21 = .ok (.iload_n 1, 1) := d_of dm_X1_bring_c0 11 (q := (21, .iload_n 1, 1)) rfl
theorem dX1_bring_22 : decode cX1_bring 22 = .ok (.iload_n 2, 1) := d_of dm_X1_bring_c0 12 (q := (22, .iload_n 2, 1)) rfl
theorem dX1_bring_23 : decode cX1_bring 23 = .ok (.iastore, 1) := d_of dm_X1_bring_c0 13 (q := (23, .iastore, 1)) rfl
theorem dX1_bring_24 : decode cX1_bring 24 = .ok (.iconst 1, 1) := d_of dm_X1_bring_c0 14 (q := (24, .iconst 1, 1)) rfl
theorem dX1_bring_25 : decode cX1_bring 25 = .ok (.ireturn, 1) := d_of dm_X1_bring_c0 15 (q := (25, .ireturn, 1)) rfl
def dl_X1_strike_c0 : List (Nat × Instr × Nat) := [(0, .iload_n 1, 1), (1, .ifCond .lt 9, 3), (4, .iload_n 1, 1), (5, .bipush 8, 2), (7, .if_icmp .lt 5, 3), (10, .iconst 0, 1), (11, .ireturn, 1), (12, .aload_n 0, 1), (13, .iload_n 1, 1), (14, .putfield 43, 3), (17, .iconst 1, 1), (18, .ireturn, 1)]
set_option maxRecDepth 100000 in
theorem dm_X1_strike_c0 : dl_X1_strike_c0.all (fun q => decide (decode cX1_strike q.1 = .ok q.2)) = true := by decide +kernel
theorem dX1_strike_0 : decode cX1_strike 0 = .ok (.iload_n 1, 1) := d_of dm_X1_strike_c0 0 (q := (0, .iload_n 1, 1)) rfl
theorem dX1_strike_1 : decode cX1_strike 1 = .ok (.ifCond .lt 9, 3) := d_of dm_X1_strike_c0 1 (q := (1, .ifCond .lt 9, 3)) rfl
theorem dX1_strike_4 : decode cX1_strike 4 = .ok (.iload_n 1, 1) := d_of dm_X1_strike_c0 2 (q := (4, .iload_n 1, 1)) rfl
theorem dX1_strike_5 : decode cX1_strike 5 = .ok (.bipush 8, 2) := d_of dm_X1_strike_c0 3 (q := (5, .bipush 8, 2)) rfl
theorem dX1_strike_7 : decode cX1_strike 7 = .ok (.if_icmp .lt 5, 3) := d_of dm_X1_strike_c0 4 (q := (7, .if_icmp .lt 5, 3)) rfl
theorem dX1_strike_10 : decode cX1_strike 10 = .ok (.iconst 0, 1) := d_of dm_X1_strike_c0 5 (q := (10, .iconst 0, 1)) rfl
theorem dX1_strike_11 : decode cX1_strike 11 = .ok (.ireturn, 1) := d_of dm_X1_strike_c0 6 (q := (11, .ireturn, 1)) rfl
theorem dX1_strike_12 : decode cX1_strike 12 = .ok (.aload_n 0, 1) := d_of dm_X1_strike_c0 7 (q := (12, .aload_n 0, 1)) rfl
theorem dX1_strike_13 : decode cX1_strike 13 = .ok (.iload_n 1, 1) := d_of dm_X1_strike_c0 8 (q := (13, .iload_n 1, 1)) rfl
theorem dX1_strike_14 : decode cX1_strike 14 = .ok (.putfield 43, 3) := d_of dm_X1_strike_c0 9 (q := (14, .putfield 43, 3)) rfl
theorem dX1_strike_17 : decode cX1_strike 17 = .ok (.iconst 1, 1) := d_of dm_X1_strike_c0 10 (q := (17, .iconst 1, 1)) rfl
theorem dX1_strike_18 : decode cX1_strike 18 = .ok (.ireturn, 1) := d_of dm_X1_strike_c0 11 (q := (18, .ireturn, 1)) rfl
def dl_X1_seenFrom_c0 : List (Nat × Instr × Nat) := [(0, .aload_n 0, 1), (1, .getfield 37, 3), (4, .iload_n 1, 1), (5, .iaload, 1), (6, .istore_n 3, 1), (7, .iconst 1, 1), (8, .iload_n 3, 1), (9, .ishl, 1), (10, .istore 4, 2), (12, .aload_n 0, 1), (13, .getfield 34, 3), (16, .iload_n 1, 1), (17, .iaload, 1), (18, .tableswitch 95 1 5 #[34, 41, 85, 65, 85], 34), (52, .aload_n 0, 1), (53, .getfield 28, 3), (56, .iload_n 3, 1), (57, .iaload, 1), (58, .ireturn, 1), (59, .iload_n 2, 1), (60, .iconst 4, 1), (61, .if_icmp .ne 15, 3), (64, .iload 4, 2), (66, .aload_n 0, 1), (67, .getfield 28, 3)]
set_option maxRecDepth 100000 in
theorem dm_X1_seenFrom_c0 : dl_X1_seenFrom_c0.all (fun q => decide (decode cX1_seenFrom q.1 = .ok q.2)) = true := by decide +kernel
theorem dX1_seenFrom_0 : decode cX1_seenFrom 0 = .ok (.aload_n 0, 1) := d_of dm_X1_seenFrom_c0 0 (q := (0, .aload_n 0, 1)) rfl
theorem dX1_seenFrom_1 : decode cX1_seenFrom 1 = .ok (.getfield 37, 3) := d_of dm_X1_seenFrom_c0 1 (q := (1, .getfield 37, 3)) rfl
theorem dX1_seenFrom_4 : decode cX1_seenFrom 4 = .ok (.iload_n 1, 1) := d_of dm_X1_seenFrom_c0 2 (q := (4, .iload_n 1, 1)) rfl
theorem dX1_seenFrom_5 : decode cX1_seenFrom 5 = .ok (.iaload, 1) := d_of dm_X1_seenFrom_c0 3 (q := (5, .iaload, 1)) rfl
theorem dX1_seenFrom_6 : decode cX1_seenFrom 6 = .ok (.istore_n 3, 1) := d_of dm_X1_seenFrom_c0 4 (q := (6, .istore_n 3, 1)) rfl
theorem dX1_seenFrom_7 : decode cX1_seenFrom 7 = .ok (.iconst 1, 1) := d_of dm_X1_seenFrom_c0 5 (q := (7, .iconst 1, 1)) rfl
theorem dX1_seenFrom_8 : decode cX1_seenFrom 8 = .ok (.iload_n 3, 1) := d_of dm_X1_seenFrom_c0 6 (q := (8, .iload_n 3, 1)) rfl
theorem dX1_seenFrom_9 : decode cX1_seenFrom 9 = .ok (.ishl, 1) := d_of dm_X1_seenFrom_c0 7 (q := (9, .ishl, 1)) rfl
theorem dX1_seenFrom_10 : decode cX1_seenFrom 10 = .ok (.istore 4, 2) := d_of dm_X1_seenFrom_c0 8 (q := (10, .istore 4, 2)) rfl
theorem dX1_seenFrom_12 : decode cX1_seenFrom 12 = .ok (.aload_n 0, 1) := d_of dm_X1_seenFrom_c0 9 (q := (12, .aload_n 0, 1)) rfl
theorem dX1_seenFrom_13 : decode cX1_seenFrom 13 = .ok (.getfield 34, 3) := d_of dm_X1_seenFrom_c0 10 (q := (13, .getfield 34, 3)) rfl
theorem dX1_seenFrom_16 : decode cX1_seenFrom 16 = .ok (.iload_n 1, 1) := d_of dm_X1_seenFrom_c0 11 (q := (16, .iload_n 1, 1)) rfl
theorem dX1_seenFrom_17 : decode cX1_seenFrom 17 = .ok (.iaload, 1) := d_of dm_X1_seenFrom_c0 12 (q := (17, .iaload, 1)) rfl
theorem dX1_seenFrom_18 : decode cX1_seenFrom 18 = .ok (.tableswitch 95 1 5 #[34, 41, 85, 65, 85], 34) := d_of dm_X1_seenFrom_c0 13 (q := (18, .tableswitch 95 1 5 #[34, 41, 85, 65, 85], 34)) rfl
theorem dX1_seenFrom_52 : decode cX1_seenFrom 52 = .ok (.aload_n 0, 1) := d_of dm_X1_seenFrom_c0 14 (q := (52, .aload_n 0, 1)) rfl
theorem dX1_seenFrom_53 : decode cX1_seenFrom 53 = .ok (.getfield 28, 3) := d_of dm_X1_seenFrom_c0 15 (q := (53, .getfield 28, 3)) rfl
theorem dX1_seenFrom_56 : decode cX1_seenFrom 56 = .ok (.iload_n 3, 1) := d_of dm_X1_seenFrom_c0 16 (q := (56, .iload_n 3, 1)) rfl
theorem dX1_seenFrom_57 : decode cX1_seenFrom 57 = .ok (.iaload, 1) := d_of dm_X1_seenFrom_c0 17 (q := (57, .iaload, 1)) rfl
theorem dX1_seenFrom_58 : decode cX1_seenFrom 58 = .ok (.ireturn, 1) := d_of dm_X1_seenFrom_c0 18 (q := (58, .ireturn, 1)) rfl
theorem dX1_seenFrom_59 : decode cX1_seenFrom 59 = .ok (.iload_n 2, 1) := d_of dm_X1_seenFrom_c0 19 (q := (59, .iload_n 2, 1)) rfl
theorem dX1_seenFrom_60 : decode cX1_seenFrom 60 = .ok (.iconst 4, 1) := d_of dm_X1_seenFrom_c0 20 (q := (60, .iconst 4, 1)) rfl
theorem dX1_seenFrom_61 : decode cX1_seenFrom 61 = .ok (.if_icmp .ne 15, 3) := d_of dm_X1_seenFrom_c0 21 (q := (61, .if_icmp .ne 15, 3)) rfl
theorem dX1_seenFrom_64 : decode cX1_seenFrom 64 = .ok (.iload 4, 2) := d_of dm_X1_seenFrom_c0 22 (q := (64, .iload 4, 2)) rfl
theorem dX1_seenFrom_66 : decode cX1_seenFrom 66 = .ok (.aload_n 0, 1) := d_of dm_X1_seenFrom_c0 23 (q := (66, .aload_n 0, 1)) rfl
theorem dX1_seenFrom_67 : decode cX1_seenFrom 67 = .ok (.getfield 28, 3) := d_of dm_X1_seenFrom_c0 24 (q := (67, .getfield 28, 3)) rfl
def dl_X1_seenFrom_c25 : List (Nat × Instr × Nat) := [(70, .iload_n 3, 1), (71, .iaload, 1), (72, .ior, 1), (73, .goto 9, 3), (76, .aload_n 0, 1), (77, .getfield 28, 3), (80, .iload_n 3, 1), (81, .iaload, 1), (82, .ireturn, 1), (83, .iload_n 2, 1), (84, .bipush 6, 2), (86, .if_icmp .lt 15, 3), (89, .iload 4, 2), (91, .aload_n 0, 1), (92, .getfield 28, 3), (95, .iload_n 3, 1), (96, .iaload, 1), (97, .ior, 1), (98, .goto 4, 3), (101, .iconst 0, 1), (102, .ireturn, 1), (103, .iload 4, 2), (105, .aload_n 0, 1), (106, .getfield 25, 3), (109, .iload_n 3, 1)]
set_option maxRecDepth 100000 in
theorem dm_X1_seenFrom_c25 : dl_X1_seenFrom_c25.all (fun q => decide (decode cX1_seenFrom q.1 = .ok q.2)) = true := by decide +kernel
theorem dX1_seenFrom_70 : decode cX1_seenFrom 70 = .ok (.iload_n 3, 1) := d_of dm_X1_seenFrom_c25 0 (q := (70, .iload_n 3, 1)) rfl
theorem dX1_seenFrom_71 : decode cX1_seenFrom 71 = .ok (.iaload, 1) := d_of dm_X1_seenFrom_c25 1 (q := (71, .iaload, 1)) rfl
theorem dX1_seenFrom_72 : decode cX1_seenFrom 72 = .ok (.ior, 1) := d_of dm_X1_seenFrom_c25 2 (q := (72, .ior, 1)) rfl
theorem dX1_seenFrom_73 : decode cX1_seenFrom 73 = .ok (.goto 9, 3) := d_of dm_X1_seenFrom_c25 3 (q := (73, .goto 9, 3)) rfl
theorem dX1_seenFrom_76 : decode cX1_seenFrom 76 = .ok (.aload_n 0, 1) := d_of dm_X1_seenFrom_c25 4 (q := (76, .aload_n 0, 1)) rfl
theorem dX1_seenFrom_77 : decode cX1_seenFrom 77 = .ok (.getfield 28, 3) := d_of dm_X1_seenFrom_c25 5 (q := (77, .getfield 28, 3)) rfl
theorem dX1_seenFrom_80 : decode cX1_seenFrom 80 = .ok (.iload_n 3, 1) := d_of dm_X1_seenFrom_c25 6 (q := (80, .iload_n 3, 1)) rfl
theorem dX1_seenFrom_81 : decode cX1_seenFrom 81 = .ok (.iaload, 1) := d_of dm_X1_seenFrom_c25 7 (q := (81, .iaload, 1)) rfl
theorem dX1_seenFrom_82 : decode cX1_seenFrom 82 = .ok (.ireturn, 1) := d_of dm_X1_seenFrom_c25 8 (q := (82, .ireturn, 1)) rfl
theorem dX1_seenFrom_83 : decode cX1_seenFrom 83 = .ok (.iload_n 2, 1) := d_of dm_X1_seenFrom_c25 9 (q := (83, .iload_n 2, 1)) rfl
theorem dX1_seenFrom_84 : decode cX1_seenFrom 84 = .ok (.bipush 6, 2) := d_of dm_X1_seenFrom_c25 10 (q := (84, .bipush 6, 2)) rfl
theorem dX1_seenFrom_86 : decode cX1_seenFrom 86 = .ok (.if_icmp .lt 15, 3) := d_of dm_X1_seenFrom_c25 11 (q := (86, .if_icmp .lt 15, 3)) rfl
theorem dX1_seenFrom_89 : decode cX1_seenFrom 89 = .ok (.iload 4, 2) := d_of dm_X1_seenFrom_c25 12 (q := (89, .iload 4, 2)) rfl
theorem dX1_seenFrom_91 : decode cX1_seenFrom 91 = .ok (.aload_n 0, 1) := d_of dm_X1_seenFrom_c25 13 (q := (91, .aload_n 0, 1)) rfl
theorem dX1_seenFrom_92 : decode cX1_seenFrom 92 = .ok (.getfield 28, 3) := d_of dm_X1_seenFrom_c25 14 (q := (92, .getfield 28, 3)) rfl
theorem dX1_seenFrom_95 : decode cX1_seenFrom 95 = .ok (.iload_n 3, 1) := d_of dm_X1_seenFrom_c25 15 (q := (95, .iload_n 3, 1)) rfl
theorem dX1_seenFrom_96 : decode cX1_seenFrom 96 = .ok (.iaload, 1) := d_of dm_X1_seenFrom_c25 16 (q := (96, .iaload, 1)) rfl
theorem dX1_seenFrom_97 : decode cX1_seenFrom 97 = .ok (.ior, 1) := d_of dm_X1_seenFrom_c25 17 (q := (97, .ior, 1)) rfl
theorem dX1_seenFrom_98 : decode cX1_seenFrom 98 = .ok (.goto 4, 3) := d_of dm_X1_seenFrom_c25 18 (q := (98, .goto 4, 3)) rfl
theorem dX1_seenFrom_101 : decode cX1_seenFrom 101 = .ok (.iconst 0, 1) := d_of dm_X1_seenFrom_c25 19 (q := (101, .iconst 0, 1)) rfl
theorem dX1_seenFrom_102 : decode cX1_seenFrom 102 = .ok (.ireturn, 1) := d_of dm_X1_seenFrom_c25 20 (q := (102, .ireturn, 1)) rfl
theorem dX1_seenFrom_103 : decode cX1_seenFrom 103 = .ok (.iload 4, 2) := d_of dm_X1_seenFrom_c25 21 (q := (103, .iload 4, 2)) rfl
theorem dX1_seenFrom_105 : decode cX1_seenFrom 105 = .ok (.aload_n 0, 1) := d_of dm_X1_seenFrom_c25 22 (q := (105, .aload_n 0, 1)) rfl
theorem dX1_seenFrom_106 : decode cX1_seenFrom 106 = .ok (.getfield 25, 3) := d_of dm_X1_seenFrom_c25 23 (q := (106, .getfield 25, 3)) rfl
theorem dX1_seenFrom_109 : decode cX1_seenFrom 109 = .ok (.iload_n 3, 1) := d_of dm_X1_seenFrom_c25 24 (q := (109, .iload_n 3, 1)) rfl
def dl_X1_seenFrom_c50 : List (Nat × Instr × Nat) := [(110, .iaload, 1), (111, .ior, 1), (112, .ireturn, 1), (113, .iload 4, 2), (115, .aload_n 0, 1), (116, .getfield 28, 3), (119, .iload_n 3, 1), (120, .iaload, 1), (121, .ior, 1), (122, .ireturn, 1)]
set_option maxRecDepth 100000 in
theorem dm_X1_seenFrom_c50 : dl_X1_seenFrom_c50.all (fun q => decide (decode cX1_seenFrom q.1 = .ok q.2)) = true := by decide +kernel
theorem dX1_seenFrom_110 : decode cX1_seenFrom 110 = .ok (.iaload, 1) := d_of dm_X1_seenFrom_c50 0 (q := (110, .iaload, 1)) rfl
theorem dX1_seenFrom_111 : decode cX1_seenFrom 111 = .ok (.ior, 1) := d_of dm_X1_seenFrom_c50 1 (q := (111, .ior, 1)) rfl
theorem dX1_seenFrom_112 : decode cX1_seenFrom 112 = .ok (.ireturn, 1) := d_of dm_X1_seenFrom_c50 2 (q := (112, .ireturn, 1)) rfl
theorem dX1_seenFrom_113 : decode cX1_seenFrom 113 = .ok (.iload 4, 2) := d_of dm_X1_seenFrom_c50 3 (q := (113, .iload 4, 2)) rfl
theorem dX1_seenFrom_115 : decode cX1_seenFrom 115 = .ok (.aload_n 0, 1) := d_of dm_X1_seenFrom_c50 4 (q := (115, .aload_n 0, 1)) rfl
theorem dX1_seenFrom_116 : decode cX1_seenFrom 116 = .ok (.getfield 28, 3) := d_of dm_X1_seenFrom_c50 5 (q := (116, .getfield 28, 3)) rfl
theorem dX1_seenFrom_119 : decode cX1_seenFrom 119 = .ok (.iload_n 3, 1) := d_of dm_X1_seenFrom_c50 6 (q := (119, .iload_n 3, 1)) rfl
theorem dX1_seenFrom_120 : decode cX1_seenFrom 120 = .ok (.iaload, 1) := d_of dm_X1_seenFrom_c50 7 (q := (120, .iaload, 1)) rfl
theorem dX1_seenFrom_121 : decode cX1_seenFrom 121 = .ok (.ior, 1) := d_of dm_X1_seenFrom_c50 8 (q := (121, .ior, 1)) rfl
theorem dX1_seenFrom_122 : decode cX1_seenFrom 122 = .ok (.ireturn, 1) := d_of dm_X1_seenFrom_c50 9 (q := (122, .ireturn, 1)) rfl
def dl_X1_meet_c0 : List (Nat × Instr × Nat) := [(0, .aload_n 0, 1), (1, .iload_n 1, 1), (2, .iload_n 3, 1), (3, .invokevirtual 115, 3), (6, .aload_n 0, 1), (7, .iload_n 2, 1), (8, .iload_n 3, 1), (9, .invokevirtual 115, 3), (12, .iand, 1), (13, .ifCond .eq 7, 3), (16, .iconst 1, 1), (17, .goto 4, 3), (20, .iconst 0, 1), (21, .ireturn, 1)]
set_option maxRecDepth 100000 in
theorem dm_X1_meet_c0 : dl_X1_meet_c0.all (fun q => decide (decode cX1_meet q.1 = .ok q.2)) = true := by decide +kernel
theorem dX1_meet_0 : decode cX1_meet 0 = .ok (.aload_n 0, 1) := d_of dm_X1_meet_c0 0 (q := (0, .aload_n 0, 1)) rfl
theorem dX1_meet_1 : decode cX1_meet 1 = .ok (.iload_n 1, 1) := d_of dm_X1_meet_c0 1 (q := (1, .iload_n 1, 1)) rfl
theorem dX1_meet_2 : decode cX1_meet 2 = .ok (.iload_n 3, 1) := d_of dm_X1_meet_c0 2 (q := (2, .iload_n 3, 1)) rfl
theorem dX1_meet_3 : decode cX1_meet 3 = .ok (.invokevirtual 115, 3) := d_of dm_X1_meet_c0 3 (q := (3, .invokevirtual 115, 3)) rfl
theorem dX1_meet_6 : decode cX1_meet 6 = .ok (.aload_n 0, 1) := d_of dm_X1_meet_c0 4 (q := (6, .aload_n 0, 1)) rfl
theorem dX1_meet_7 : decode cX1_meet 7 = .ok (.iload_n 2, 1) := d_of dm_X1_meet_c0 5 (q := (7, .iload_n 2, 1)) rfl
theorem dX1_meet_8 : decode cX1_meet 8 = .ok (.iload_n 3, 1) := d_of dm_X1_meet_c0 6 (q := (8, .iload_n 3, 1)) rfl
theorem dX1_meet_9 : decode cX1_meet 9 = .ok (.invokevirtual 115, 3) := d_of dm_X1_meet_c0 7 (q := (9, .invokevirtual 115, 3)) rfl
theorem dX1_meet_12 : decode cX1_meet 12 = .ok (.iand, 1) := d_of dm_X1_meet_c0 8 (q := (12, .iand, 1)) rfl
theorem dX1_meet_13 : decode cX1_meet 13 = .ok (.ifCond .eq 7, 3) := d_of dm_X1_meet_c0 9 (q := (13, .ifCond .eq 7, 3)) rfl
theorem dX1_meet_16 : decode cX1_meet 16 = .ok (.iconst 1, 1) := d_of dm_X1_meet_c0 10 (q := (16, .iconst 1, 1)) rfl
theorem dX1_meet_17 : decode cX1_meet 17 = .ok (.goto 4, 3) := d_of dm_X1_meet_c0 11 (q := (17, .goto 4, 3)) rfl
theorem dX1_meet_20 : decode cX1_meet 20 = .ok (.iconst 0, 1) := d_of dm_X1_meet_c0 12 (q := (20, .iconst 0, 1)) rfl
theorem dX1_meet_21 : decode cX1_meet 21 = .ok (.ireturn, 1) := d_of dm_X1_meet_c0 13 (q := (21, .ireturn, 1)) rfl
def dl_X1_everMeet_c0 : List (Nat × Instr × Nat) := [(0, .iconst 0, 1), (1, .istore_n 3, 1), (2, .iload_n 3, 1), (3, .bipush 8, 2), (5, .if_icmp .ge 21, 3), (8, .aload_n 0, 1), (9, .iload_n 1, 1), (10, .iload_n 2, 1), (11, .iload_n 3, 1), (12, .invokevirtual 118, 3), (15, .ifCond .eq 5, 3), (18, .iconst 1, 1), (19, .ireturn, 1), (20, .iinc 3 1, 3), (23, .goto (-21), 3), (26, .iconst 0, 1), (27, .ireturn, 1)]
set_option maxRecDepth 100000 in
theorem dm_X1_everMeet_c0 : dl_X1_everMeet_c0.all (fun q => decide (decode cX1_everMeet q.1 = .ok q.2)) = true := by decide +kernel
theorem dX1_everMeet_0 : decode cX1_everMeet 0 = .ok (.iconst 0, 1) := d_of dm_X1_everMeet_c0 0 (q := (0, .iconst 0, 1)) rfl
theorem dX1_everMeet_1 : decode cX1_everMeet 1 = .ok (.istore_n 3, 1) := d_of dm_X1_everMeet_c0 1 (q := (1, .istore_n 3, 1)) rfl
theorem dX1_everMeet_2 : decode cX1_everMeet 2 = .ok (.iload_n 3, 1) := d_of dm_X1_everMeet_c0 2 (q := (2, .iload_n 3, 1)) rfl
theorem dX1_everMeet_3 : decode cX1_everMeet 3 = .ok (.bipush 8, 2) := d_of dm_X1_everMeet_c0 3 (q := (3, .bipush 8, 2)) rfl
theorem dX1_everMeet_5 : decode cX1_everMeet 5 = .ok (.if_icmp .ge 21, 3) := d_of dm_X1_everMeet_c0 4 (q := (5, .if_icmp .ge 21, 3)) rfl
theorem dX1_everMeet_8 : decode cX1_everMeet 8 = .ok (.aload_n 0, 1) := d_of dm_X1_everMeet_c0 5 (q := (8, .aload_n 0, 1)) rfl
theorem dX1_everMeet_9 : decode cX1_everMeet 9 = .ok (.iload_n 1, 1) := d_of dm_X1_everMeet_c0 6 (q := (9, .iload_n 1, 1)) rfl
theorem dX1_everMeet_10 : decode cX1_everMeet 10 = .ok (.iload_n 2, 1) := d_of dm_X1_everMeet_c0 7 (q := (10, .iload_n 2, 1)) rfl
theorem dX1_everMeet_11 : decode cX1_everMeet 11 = .ok (.iload_n 3, 1) := d_of dm_X1_everMeet_c0 8 (q := (11, .iload_n 3, 1)) rfl
theorem dX1_everMeet_12 : decode cX1_everMeet 12 = .ok (.invokevirtual 118, 3) := d_of dm_X1_everMeet_c0 9 (q := (12, .invokevirtual 118, 3)) rfl
theorem dX1_everMeet_15 : decode cX1_everMeet 15 = .ok (.ifCond .eq 5, 3) := d_of dm_X1_everMeet_c0 10 (q := (15, .ifCond .eq 5, 3)) rfl
theorem dX1_everMeet_18 : decode cX1_everMeet 18 = .ok (.iconst 1, 1) := d_of dm_X1_everMeet_c0 11 (q := (18, .iconst 1, 1)) rfl
theorem dX1_everMeet_19 : decode cX1_everMeet 19 = .ok (.ireturn, 1) := d_of dm_X1_everMeet_c0 12 (q := (19, .ireturn, 1)) rfl
theorem dX1_everMeet_20 : decode cX1_everMeet 20 = .ok (.iinc 3 1, 3) := d_of dm_X1_everMeet_c0 13 (q := (20, .iinc 3 1, 3)) rfl
theorem dX1_everMeet_23 : decode cX1_everMeet 23 = .ok (.goto (-21), 3) := d_of dm_X1_everMeet_c0 14 (q := (23, .goto (-21), 3)) rfl
theorem dX1_everMeet_26 : decode cX1_everMeet 26 = .ok (.iconst 0, 1) := d_of dm_X1_everMeet_c0 15 (q := (26, .iconst 0, 1)) rfl
theorem dX1_everMeet_27 : decode cX1_everMeet 27 = .ok (.ireturn, 1) := d_of dm_X1_everMeet_c0 16 (q := (27, .ireturn, 1)) rfl
def dl_X1_sinsAsLesser_c0 : List (Nat × Instr × Nat) := [(0, .aload_n 0, 1), (1, .getfield 40, 3), (4, .iload_n 1, 1), (5, .iaload, 1), (6, .istore_n 3, 1), (7, .iload_n 3, 1), (8, .iload_n 1, 1), (9, .if_icmp .le 25, 3), (12, .aload_n 0, 1), (13, .iload_n 3, 1), (14, .invokevirtual 62, 3), (17, .ifCond .eq 17, 3), (20, .aload_n 0, 1), (21, .iload_n 1, 1), (22, .iload_n 3, 1), (23, .iload_n 2, 1), (24, .invokevirtual 118, 3), (27, .ifCond .eq 7, 3), (30, .iconst 1, 1), (31, .goto 4, 3), (34, .iconst 0, 1), (35, .ireturn, 1)]
set_option maxRecDepth 100000 in
theorem dm_X1_sinsAsLesser_c0 : dl_X1_sinsAsLesser_c0.all (fun q => decide (decode cX1_sinsAsLesser q.1 = .ok q.2)) = true := by decide +kernel
theorem dX1_sinsAsLesser_0 : decode cX1_sinsAsLesser 0 = .ok (.aload_n 0, 1) := d_of dm_X1_sinsAsLesser_c0 0 (q := (0, .aload_n 0, 1)) rfl
theorem dX1_sinsAsLesser_1 : decode cX1_sinsAsLesser 1 = .ok (.getfield 40, 3) := d_of dm_X1_sinsAsLesser_c0 1 (q := (1, .getfield 40, 3)) rfl
theorem dX1_sinsAsLesser_4 : decode cX1_sinsAsLesser 4 = .ok (.iload_n 1, 1) := d_of dm_X1_sinsAsLesser_c0 2 (q := (4, .iload_n 1, 1)) rfl
theorem dX1_sinsAsLesser_5 : decode cX1_sinsAsLesser 5 = .ok (.iaload, 1) := d_of dm_X1_sinsAsLesser_c0 3 (q := (5, .iaload, 1)) rfl
theorem dX1_sinsAsLesser_6 : decode cX1_sinsAsLesser 6 = .ok (.istore_n 3, 1) := d_of dm_X1_sinsAsLesser_c0 4 (q := (6, .istore_n 3, 1)) rfl
theorem dX1_sinsAsLesser_7 : decode cX1_sinsAsLesser 7 = .ok (.iload_n 3, 1) := d_of dm_X1_sinsAsLesser_c0 5 (q := (7, .iload_n 3, 1)) rfl
theorem dX1_sinsAsLesser_8 : decode cX1_sinsAsLesser 8 = .ok (.iload_n 1, 1) := d_of dm_X1_sinsAsLesser_c0 6 (q := (8, .iload_n 1, 1)) rfl
theorem dX1_sinsAsLesser_9 : decode cX1_sinsAsLesser 9 = .ok (.if_icmp .le 25, 3) := d_of dm_X1_sinsAsLesser_c0 7 (q := (9, .if_icmp .le 25, 3)) rfl
theorem dX1_sinsAsLesser_12 : decode cX1_sinsAsLesser 12 = .ok (.aload_n 0, 1) := d_of dm_X1_sinsAsLesser_c0 8 (q := (12, .aload_n 0, 1)) rfl
theorem dX1_sinsAsLesser_13 : decode cX1_sinsAsLesser 13 = .ok (.iload_n 3, 1) := d_of dm_X1_sinsAsLesser_c0 9 (q := (13, .iload_n 3, 1)) rfl
theorem dX1_sinsAsLesser_14 : decode cX1_sinsAsLesser 14 = .ok (.invokevirtual 62, 3) := d_of dm_X1_sinsAsLesser_c0 10 (q := (14, .invokevirtual 62, 3)) rfl
theorem dX1_sinsAsLesser_17 : decode cX1_sinsAsLesser 17 = .ok (.ifCond .eq 17, 3) := d_of dm_X1_sinsAsLesser_c0 11 (q := (17, .ifCond .eq 17, 3)) rfl
theorem dX1_sinsAsLesser_20 : decode cX1_sinsAsLesser 20 = .ok (.aload_n 0, 1) := d_of dm_X1_sinsAsLesser_c0 12 (q := (20, .aload_n 0, 1)) rfl
theorem dX1_sinsAsLesser_21 : decode cX1_sinsAsLesser 21 = .ok (.iload_n 1, 1) := d_of dm_X1_sinsAsLesser_c0 13 (q := (21, .iload_n 1, 1)) rfl
theorem dX1_sinsAsLesser_22 : decode cX1_sinsAsLesser 22 = .ok (.iload_n 3, 1) := d_of dm_X1_sinsAsLesser_c0 14 (q := (22, .iload_n 3, 1)) rfl
theorem dX1_sinsAsLesser_23 : decode cX1_sinsAsLesser 23 = .ok (.iload_n 2, 1) := d_of dm_X1_sinsAsLesser_c0 15 (q := (23, .iload_n 2, 1)) rfl
theorem dX1_sinsAsLesser_24 : decode cX1_sinsAsLesser 24 = .ok (.invokevirtual 118, 3) := d_of dm_X1_sinsAsLesser_c0 16 (q := (24, .invokevirtual 118, 3)) rfl
theorem dX1_sinsAsLesser_27 : decode cX1_sinsAsLesser 27 = .ok (.ifCond .eq 7, 3) := d_of dm_X1_sinsAsLesser_c0 17 (q := (27, .ifCond .eq 7, 3)) rfl
theorem dX1_sinsAsLesser_30 : decode cX1_sinsAsLesser 30 = .ok (.iconst 1, 1) := d_of dm_X1_sinsAsLesser_c0 18 (q := (30, .iconst 1, 1)) rfl
theorem dX1_sinsAsLesser_31 : decode cX1_sinsAsLesser 31 = .ok (.goto 4, 3) := d_of dm_X1_sinsAsLesser_c0 19 (q := (31, .goto 4, 3)) rfl
theorem dX1_sinsAsLesser_34 : decode cX1_sinsAsLesser 34 = .ok (.iconst 0, 1) := d_of dm_X1_sinsAsLesser_c0 20 (q := (34, .iconst 0, 1)) rfl
theorem dX1_sinsAsLesser_35 : decode cX1_sinsAsLesser 35 = .ok (.ireturn, 1) := d_of dm_X1_sinsAsLesser_c0 21 (q := (35, .ireturn, 1)) rfl
def dl_X1_firstSin_c0 : List (Nat × Instr × Nat) := [(0, .iconst 0, 1), (1, .istore_n 2, 1), (2, .iload_n 2, 1), (3, .aload_n 0, 1), (4, .getfield 31, 3), (7, .if_icmp .ge 30, 3), (10, .aload_n 0, 1), (11, .iload_n 2, 1), (12, .iload_n 1, 1), (13, .invokevirtual 122, 3), (16, .ifCond .eq 15, 3), (19, .bipush 10, 2), (21, .iload_n 2, 1), (22, .imul, 1), (23, .aload_n 0, 1), (24, .getfield 40, 3), (27, .iload_n 2, 1), (28, .iaload, 1), (29, .iadd, 1), (30, .ireturn, 1), (31, .iinc 2 1, 3), (34, .goto (-32), 3), (37, .bipush (-9), 2), (39, .ireturn, 1)]
set_option maxRecDepth 100000 in
theorem dm_X1_firstSin_c0 : dl_X1_firstSin_c0.all (fun q => decide (decode cX1_firstSin q.1 = .ok q.2)) = true := by decide +kernel
theorem dX1_firstSin_0 : decode cX1_firstSin 0 = .ok (.iconst 0, 1) := d_of dm_X1_firstSin_c0 0 (q := (0, .iconst 0, 1)) rfl
theorem dX1_firstSin_1 : decode cX1_firstSin 1 = .ok (.istore_n 2, 1) := d_of dm_X1_firstSin_c0 1 (q := (1, .istore_n 2, 1)) rfl
theorem dX1_firstSin_2 : decode cX1_firstSin 2 = .ok (.iload_n 2, 1) := d_of dm_X1_firstSin_c0 2 (q := (2, .iload_n 2, 1)) rfl
theorem dX1_firstSin_3 : decode cX1_firstSin 3 = .ok (.aload_n 0, 1) := d_of dm_X1_firstSin_c0 3 (q := (3, .aload_n 0, 1)) rfl
theorem dX1_firstSin_4 : decode cX1_firstSin 4 = .ok (.getfield 31, 3) := d_of dm_X1_firstSin_c0 4 (q := (4, .getfield 31, 3)) rfl
theorem dX1_firstSin_7 : decode cX1_firstSin 7 = .ok (.if_icmp .ge 30, 3) := d_of dm_X1_firstSin_c0 5 (q := (7, .if_icmp .ge 30, 3)) rfl
theorem dX1_firstSin_10 : decode cX1_firstSin 10 = .ok (.aload_n 0, 1) := d_of dm_X1_firstSin_c0 6 (q := (10, .aload_n 0, 1)) rfl
theorem dX1_firstSin_11 : decode cX1_firstSin 11 = .ok (.iload_n 2, 1) := d_of dm_X1_firstSin_c0 7 (q := (11, .iload_n 2, 1)) rfl
theorem dX1_firstSin_12 : decode cX1_firstSin 12 = .ok (.iload_n 1, 1) := d_of dm_X1_firstSin_c0 8 (q := (12, .iload_n 1, 1)) rfl
theorem dX1_firstSin_13 : decode cX1_firstSin 13 = .ok (.invokevirtual 122, 3) := d_of dm_X1_firstSin_c0 9 (q := (13, .invokevirtual 122, 3)) rfl
theorem dX1_firstSin_16 : decode cX1_firstSin 16 = .ok (.ifCond .eq 15, 3) := d_of dm_X1_firstSin_c0 10 (q := (16, .ifCond .eq 15, 3)) rfl
theorem dX1_firstSin_19 : decode cX1_firstSin 19 = .ok (.bipush 10, 2) := d_of dm_X1_firstSin_c0 11 (q := (19, .bipush 10, 2)) rfl
theorem dX1_firstSin_21 : decode cX1_firstSin 21 = .ok (.iload_n 2, 1) := d_of dm_X1_firstSin_c0 12 (q := (21, .iload_n 2, 1)) rfl
theorem dX1_firstSin_22 : decode cX1_firstSin 22 = .ok (.imul, 1) := d_of dm_X1_firstSin_c0 13 (q := (22, .imul, 1)) rfl
theorem dX1_firstSin_23 : decode cX1_firstSin 23 = .ok (.aload_n 0, 1) := d_of dm_X1_firstSin_c0 14 (q := (23, .aload_n 0, 1)) rfl
theorem dX1_firstSin_24 : decode cX1_firstSin 24 = .ok (.getfield 40, 3) := d_of dm_X1_firstSin_c0 15 (q := (24, .getfield 40, 3)) rfl
theorem dX1_firstSin_27 : decode cX1_firstSin 27 = .ok (.iload_n 2, 1) := d_of dm_X1_firstSin_c0 16 (q := (27, .iload_n 2, 1)) rfl
theorem dX1_firstSin_28 : decode cX1_firstSin 28 = .ok (.iaload, 1) := d_of dm_X1_firstSin_c0 17 (q := (28, .iaload, 1)) rfl
theorem dX1_firstSin_29 : decode cX1_firstSin 29 = .ok (.iadd, 1) := d_of dm_X1_firstSin_c0 18 (q := (29, .iadd, 1)) rfl
theorem dX1_firstSin_30 : decode cX1_firstSin 30 = .ok (.ireturn, 1) := d_of dm_X1_firstSin_c0 19 (q := (30, .ireturn, 1)) rfl
theorem dX1_firstSin_31 : decode cX1_firstSin 31 = .ok (.iinc 2 1, 3) := d_of dm_X1_firstSin_c0 20 (q := (31, .iinc 2 1, 3)) rfl
theorem dX1_firstSin_34 : decode cX1_firstSin 34 = .ok (.goto (-32), 3) := d_of dm_X1_firstSin_c0 21 (q := (34, .goto (-32), 3)) rfl
theorem dX1_firstSin_37 : decode cX1_firstSin 37 = .ok (.bipush (-9), 2) := d_of dm_X1_firstSin_c0 22 (q := (37, .bipush (-9), 2)) rfl
theorem dX1_firstSin_39 : decode cX1_firstSin 39 = .ok (.ireturn, 1) := d_of dm_X1_firstSin_c0 23 (q := (39, .ireturn, 1)) rfl
def dl_X1_sinCount_c0 : List (Nat × Instr × Nat) := [(0, .iconst 0, 1), (1, .istore_n 2, 1), (2, .iconst 0, 1), (3, .istore_n 3, 1), (4, .iload_n 3, 1), (5, .aload_n 0, 1), (6, .getfield 31, 3), (9, .if_icmp .ge 21, 3), (12, .aload_n 0, 1), (13, .iload_n 3, 1), (14, .iload_n 1, 1), (15, .invokevirtual 122, 3), (18, .ifCond .eq 6, 3), (21, .iinc 2 1, 3), (24, .iinc 3 1, 3), (27, .goto (-23), 3), (30, .iload_n 2, 1), (31, .ireturn, 1)]
set_option maxRecDepth 100000 in
theorem dm_X1_sinCount_c0 : dl_X1_sinCount_c0.all (fun q => decide (decode cX1_sinCount q.1 = .ok q.2)) = true := by decide +kernel
theorem dX1_sinCount_0 : decode cX1_sinCount 0 = .ok (.iconst 0, 1) := d_of dm_X1_sinCount_c0 0 (q := (0, .iconst 0, 1)) rfl
theorem dX1_sinCount_1 : decode cX1_sinCount 1 = .ok (.istore_n 2, 1) := d_of dm_X1_sinCount_c0 1 (q := (1, .istore_n 2, 1)) rfl
theorem dX1_sinCount_2 : decode cX1_sinCount 2 = .ok (.iconst 0, 1) := d_of dm_X1_sinCount_c0 2 (q := (2, .iconst 0, 1)) rfl
theorem dX1_sinCount_3 : decode cX1_sinCount 3 = .ok (.istore_n 3, 1) := d_of dm_X1_sinCount_c0 3 (q := (3, .istore_n 3, 1)) rfl
theorem dX1_sinCount_4 : decode cX1_sinCount 4 = .ok (.iload_n 3, 1) := d_of dm_X1_sinCount_c0 4 (q := (4, .iload_n 3, 1)) rfl
theorem dX1_sinCount_5 : decode cX1_sinCount 5 = .ok (.aload_n 0, 1) := d_of dm_X1_sinCount_c0 5 (q := (5, .aload_n 0, 1)) rfl
theorem dX1_sinCount_6 : decode cX1_sinCount 6 = .ok (.getfield 31, 3) := d_of dm_X1_sinCount_c0 6 (q := (6, .getfield 31, 3)) rfl
theorem dX1_sinCount_9 : decode cX1_sinCount 9 = .ok (.if_icmp .ge 21, 3) := d_of dm_X1_sinCount_c0 7 (q := (9, .if_icmp .ge 21, 3)) rfl
theorem dX1_sinCount_12 : decode cX1_sinCount 12 = .ok (.aload_n 0, 1) := d_of dm_X1_sinCount_c0 8 (q := (12, .aload_n 0, 1)) rfl
theorem dX1_sinCount_13 : decode cX1_sinCount 13 = .ok (.iload_n 3, 1) := d_of dm_X1_sinCount_c0 9 (q := (13, .iload_n 3, 1)) rfl
theorem dX1_sinCount_14 : decode cX1_sinCount 14 = .ok (.iload_n 1, 1) := d_of dm_X1_sinCount_c0 10 (q := (14, .iload_n 1, 1)) rfl
theorem dX1_sinCount_15 : decode cX1_sinCount 15 = .ok (.invokevirtual 122, 3) := d_of dm_X1_sinCount_c0 11 (q := (15, .invokevirtual 122, 3)) rfl
theorem dX1_sinCount_18 : decode cX1_sinCount 18 = .ok (.ifCond .eq 6, 3) := d_of dm_X1_sinCount_c0 12 (q := (18, .ifCond .eq 6, 3)) rfl
theorem dX1_sinCount_21 : decode cX1_sinCount 21 = .ok (.iinc 2 1, 3) := d_of dm_X1_sinCount_c0 13 (q := (21, .iinc 2 1, 3)) rfl
theorem dX1_sinCount_24 : decode cX1_sinCount 24 = .ok (.iinc 3 1, 3) := d_of dm_X1_sinCount_c0 14 (q := (24, .iinc 3 1, 3)) rfl
theorem dX1_sinCount_27 : decode cX1_sinCount 27 = .ok (.goto (-23), 3) := d_of dm_X1_sinCount_c0 15 (q := (27, .goto (-23), 3)) rfl
theorem dX1_sinCount_30 : decode cX1_sinCount 30 = .ok (.iload_n 2, 1) := d_of dm_X1_sinCount_c0 16 (q := (30, .iload_n 2, 1)) rfl
theorem dX1_sinCount_31 : decode cX1_sinCount 31 = .ok (.ireturn, 1) := d_of dm_X1_sinCount_c0 17 (q := (31, .ireturn, 1)) rfl
def dl_X1_firstSinfulHour_c0 : List (Nat × Instr × Nat) := [(0, .iconst 0, 1), (1, .istore_n 1, 1), (2, .iload_n 1, 1), (3, .bipush 8, 2), (5, .if_icmp .ge 21, 3), (8, .aload_n 0, 1), (9, .iload_n 1, 1), (10, .invokevirtual 125, 3), (13, .bipush (-9), 2), (15, .if_icmp .eq 5, 3), (18, .iload_n 1, 1), (19, .ireturn, 1), (20, .iinc 1 1, 3), (23, .goto (-21), 3), (26, .bipush (-9), 2), (28, .ireturn, 1)]
set_option maxRecDepth 100000 in
theorem dm_X1_firstSinfulHour_c0 : dl_X1_firstSinfulHour_c0.all (fun q => decide (decode cX1_firstSinfulHour q.1 = .ok q.2)) = true := by decide +kernel
theorem dX1_firstSinfulHour_0 : decode cX1_firstSinfulHour 0 = .ok (.iconst 0, 1) := d_of dm_X1_firstSinfulHour_c0 0 (q := (0, .iconst 0, 1)) rfl
theorem dX1_firstSinfulHour_1 : decode cX1_firstSinfulHour 1 = .ok (.istore_n 1, 1) := d_of dm_X1_firstSinfulHour_c0 1 (q := (1, .istore_n 1, 1)) rfl
theorem dX1_firstSinfulHour_2 : decode cX1_firstSinfulHour 2 = .ok (.iload_n 1, 1) := d_of dm_X1_firstSinfulHour_c0 2 (q := (2, .iload_n 1, 1)) rfl
theorem dX1_firstSinfulHour_3 : decode cX1_firstSinfulHour 3 = .ok (.bipush 8, 2) := d_of dm_X1_firstSinfulHour_c0 3 (q := (3, .bipush 8, 2)) rfl
theorem dX1_firstSinfulHour_5 : decode cX1_firstSinfulHour 5 = .ok (.if_icmp .ge 21, 3) := d_of dm_X1_firstSinfulHour_c0 4 (q := (5, .if_icmp .ge 21, 3)) rfl
theorem dX1_firstSinfulHour_8 : decode cX1_firstSinfulHour 8 = .ok (.aload_n 0, 1) := d_of dm_X1_firstSinfulHour_c0 5 (q := (8, .aload_n 0, 1)) rfl
theorem dX1_firstSinfulHour_9 : decode cX1_firstSinfulHour 9 = .ok (.iload_n 1, 1) := d_of dm_X1_firstSinfulHour_c0 6 (q := (9, .iload_n 1, 1)) rfl
theorem dX1_firstSinfulHour_10 : decode cX1_firstSinfulHour 10 = .ok (.invokevirtual 125, 3) := d_of dm_X1_firstSinfulHour_c0 7 (q := (10, .invokevirtual 125, 3)) rfl
theorem dX1_firstSinfulHour_13 : decode cX1_firstSinfulHour 13 = .ok (.bipush (-9), 2) := d_of dm_X1_firstSinfulHour_c0 8 (q := (13, .bipush (-9), 2)) rfl
theorem dX1_firstSinfulHour_15 : decode cX1_firstSinfulHour 15 = .ok (.if_icmp .eq 5, 3) := d_of dm_X1_firstSinfulHour_c0 9 (q := (15, .if_icmp .eq 5, 3)) rfl
theorem dX1_firstSinfulHour_18 : decode cX1_firstSinfulHour 18 = .ok (.iload_n 1, 1) := d_of dm_X1_firstSinfulHour_c0 10 (q := (18, .iload_n 1, 1)) rfl
theorem dX1_firstSinfulHour_19 : decode cX1_firstSinfulHour 19 = .ok (.ireturn, 1) := d_of dm_X1_firstSinfulHour_c0 11 (q := (19, .ireturn, 1)) rfl
theorem dX1_firstSinfulHour_20 : decode cX1_firstSinfulHour 20 = .ok (.iinc 1 1, 3) := d_of dm_X1_firstSinfulHour_c0 12 (q := (20, .iinc 1 1, 3)) rfl
theorem dX1_firstSinfulHour_23 : decode cX1_firstSinfulHour 23 = .ok (.goto (-21), 3) := d_of dm_X1_firstSinfulHour_c0 13 (q := (23, .goto (-21), 3)) rfl
theorem dX1_firstSinfulHour_26 : decode cX1_firstSinfulHour 26 = .ok (.bipush (-9), 2) := d_of dm_X1_firstSinfulHour_c0 14 (q := (26, .bipush (-9), 2)) rfl
theorem dX1_firstSinfulHour_28 : decode cX1_firstSinfulHour 28 = .ok (.ireturn, 1) := d_of dm_X1_firstSinfulHour_c0 15 (q := (28, .ireturn, 1)) rfl
def dl_X2_init_c0 : List (Nat × Instr × Nat) := [(0, .aload_n 0, 1), (1, .invokespecial 3, 3), (4, .aload_n 0, 1), (5, .bipush 80, 2), (7, .newarray .int, 2), (9, .putfield 9, 3), (12, .aload_n 0, 1), (13, .iconst 0, 1), (14, .putfield 15, 3), (17, .return_, 1)]
set_option maxRecDepth 100000 in
theorem dm_X2_init_c0 : dl_X2_init_c0.all (fun q => decide (decode cX2_init q.1 = .ok q.2)) = true := by decide +kernel
theorem dX2_init_0 : decode cX2_init 0 = .ok (.aload_n 0, 1) := d_of dm_X2_init_c0 0 (q := (0, .aload_n 0, 1)) rfl
theorem dX2_init_1 : decode cX2_init 1 = .ok (.invokespecial 3, 3) := d_of dm_X2_init_c0 1 (q := (1, .invokespecial 3, 3)) rfl
theorem dX2_init_4 : decode cX2_init 4 = .ok (.aload_n 0, 1) := d_of dm_X2_init_c0 2 (q := (4, .aload_n 0, 1)) rfl
theorem dX2_init_5 : decode cX2_init 5 = .ok (.bipush 80, 2) := d_of dm_X2_init_c0 3 (q := (5, .bipush 80, 2)) rfl
theorem dX2_init_7 : decode cX2_init 7 = .ok (.newarray .int, 2) := d_of dm_X2_init_c0 4 (q := (7, .newarray .int, 2)) rfl
theorem dX2_init_9 : decode cX2_init 9 = .ok (.putfield 9, 3) := d_of dm_X2_init_c0 5 (q := (9, .putfield 9, 3)) rfl
theorem dX2_init_12 : decode cX2_init 12 = .ok (.aload_n 0, 1) := d_of dm_X2_init_c0 6 (q := (12, .aload_n 0, 1)) rfl
theorem dX2_init_13 : decode cX2_init 13 = .ok (.iconst 0, 1) := d_of dm_X2_init_c0 7 (q := (13, .iconst 0, 1)) rfl
theorem dX2_init_14 : decode cX2_init 14 = .ok (.putfield 15, 3) := d_of dm_X2_init_c0 8 (q := (14, .putfield 15, 3)) rfl
theorem dX2_init_17 : decode cX2_init 17 = .ok (.return_, 1) := d_of dm_X2_init_c0 9 (q := (17, .return_, 1)) rfl
def dl_X2_put_c0 : List (Nat × Instr × Nat) := [(0, .aload_n 0, 1), (1, .getfield 9, 3), (4, .aload_n 0, 1), (5, .getfield 15, 3), (8, .iload_n 1, 1), (9, .iastore, 1), (10, .aload_n 0, 1), (11, .dup, 1), (12, .getfield 15, 3), (15, .iconst 1, 1), (16, .iadd, 1), (17, .putfield 15, 3), (20, .aload_n 0, 1), (21, .getfield 15, 3), (24, .ireturn, 1)]
set_option maxRecDepth 100000 in
theorem dm_X2_put_c0 : dl_X2_put_c0.all (fun q => decide (decode cX2_put q.1 = .ok q.2)) = true := by decide +kernel
theorem dX2_put_0 : decode cX2_put 0 = .ok (.aload_n 0, 1) := d_of dm_X2_put_c0 0 (q := (0, .aload_n 0, 1)) rfl
theorem dX2_put_1 : decode cX2_put 1 = .ok (.getfield 9, 3) := d_of dm_X2_put_c0 1 (q := (1, .getfield 9, 3)) rfl
theorem dX2_put_4 : decode cX2_put 4 = .ok (.aload_n 0, 1) := d_of dm_X2_put_c0 2 (q := (4, .aload_n 0, 1)) rfl
theorem dX2_put_5 : decode cX2_put 5 = .ok (.getfield 15, 3) := d_of dm_X2_put_c0 3 (q := (5, .getfield 15, 3)) rfl
theorem dX2_put_8 : decode cX2_put 8 = .ok (.iload_n 1, 1) := d_of dm_X2_put_c0 4 (q := (8, .iload_n 1, 1)) rfl
theorem dX2_put_9 : decode cX2_put 9 = .ok (.iastore, 1) := d_of dm_X2_put_c0 5 (q := (9, .iastore, 1)) rfl
theorem dX2_put_10 : decode cX2_put 10 = .ok (.aload_n 0, 1) := d_of dm_X2_put_c0 6 (q := (10, .aload_n 0, 1)) rfl
theorem dX2_put_11 : decode cX2_put 11 = .ok (.dup, 1) := d_of dm_X2_put_c0 7 (q := (11, .dup, 1)) rfl
theorem dX2_put_12 : decode cX2_put 12 = .ok (.getfield 15, 3) := d_of dm_X2_put_c0 8 (q := (12, .getfield 15, 3)) rfl
theorem dX2_put_15 : decode cX2_put 15 = .ok (.iconst 1, 1) := d_of dm_X2_put_c0 9 (q := (15, .iconst 1, 1)) rfl
theorem dX2_put_16 : decode cX2_put 16 = .ok (.iadd, 1) := d_of dm_X2_put_c0 10 (q := (16, .iadd, 1)) rfl
theorem dX2_put_17 : decode cX2_put 17 = .ok (.putfield 15, 3) := d_of dm_X2_put_c0 11 (q := (17, .putfield 15, 3)) rfl
theorem dX2_put_20 : decode cX2_put 20 = .ok (.aload_n 0, 1) := d_of dm_X2_put_c0 12 (q := (20, .aload_n 0, 1)) rfl
theorem dX2_put_21 : decode cX2_put 21 = .ok (.getfield 15, 3) := d_of dm_X2_put_c0 13 (q := (21, .getfield 15, 3)) rfl
theorem dX2_put_24 : decode cX2_put 24 = .ok (.ireturn, 1) := d_of dm_X2_put_c0 14 (q := (24, .ireturn, 1)) rfl
def dl_X2_readInto_c0 : List (Nat × Instr × Nat) := [(0, .aload_n 0, 1), (1, .invokevirtual 19, 3), (4, .istore_n 2, 1), (5, .iload_n 2, 1), (6, .bipush (-9), 2), (8, .if_icmp .eq 9, 3), (11, .sipush (-1000), 3), (14, .iload_n 2, 1), (15, .isub, 1), (16, .ireturn, 1), (17, .iconst 0, 1), (18, .istore_n 3, 1), (19, .iconst 0, 1), (20, .istore 4, 2), (22, .iconst 0, 1), (23, .istore 5, 2), (25, .iload 5, 2), (27, .aload_n 0, 1), (28, .getfield 15, 3), (31, .if_icmp .ge 78, 3), (34, .aload_n 0, 1), (35, .getfield 9, 3), (38, .iload 5, 2), (40, .iaload, 1), (41, .bipush 59, 2)]
set_option maxRecDepth 100000 in
theorem dm_X2_readInto_c0 : dl_X2_readInto_c0.all (fun q => decide (decode cX2_readInto q.1 = .ok q.2)) = true := by decide +kernel
theorem dX2_readInto_0 : decode cX2_readInto 0 = .ok (.aload_n 0, 1) := d_of dm_X2_readInto_c0 0 (q := (0, .aload_n 0, 1)) rfl
theorem dX2_readInto_1 : decode cX2_readInto 1 = .ok (.invokevirtual 19, 3) := d_of dm_X2_readInto_c0 1 (q := (1, .invokevirtual 19, 3)) rfl
theorem dX2_readInto_4 : decode cX2_readInto 4 = .ok (.istore_n 2, 1) := d_of dm_X2_readInto_c0 2 (q := (4, .istore_n 2, 1)) rfl
theorem dX2_readInto_5 : decode cX2_readInto 5 = .ok (.iload_n 2, 1) := d_of dm_X2_readInto_c0 3 (q := (5, .iload_n 2, 1)) rfl
theorem dX2_readInto_6 : decode cX2_readInto 6 = .ok (.bipush (-9), 2) := d_of dm_X2_readInto_c0 4 (q := (6, .bipush (-9), 2)) rfl
theorem dX2_readInto_8 : decode cX2_readInto 8 = .ok (.if_icmp .eq 9, 3) := d_of dm_X2_readInto_c0 5 (q := (8, .if_icmp .eq 9, 3)) rfl
theorem dX2_readInto_11 : decode cX2_readInto 11 = .ok (.sipush (-1000), 3) := d_of dm_X2_readInto_c0 6 (q := (11, .sipush (-1000), 3)) rfl
theorem dX2_readInto_14 : decode cX2_readInto 14 = .ok (.iload_n 2, 1) := d_of dm_X2_readInto_c0 7 (q := (14, .iload_n 2, 1)) rfl
theorem dX2_readInto_15 : decode cX2_readInto 15 = .ok (.isub, 1) := d_of dm_X2_readInto_c0 8 (q := (15, .isub, 1)) rfl
theorem dX2_readInto_16 : decode cX2_readInto 16 = .ok (.ireturn, 1) := d_of dm_X2_readInto_c0 9 (q := (16, .ireturn, 1)) rfl
theorem dX2_readInto_17 : decode cX2_readInto 17 = .ok (.iconst 0, 1) := d_of dm_X2_readInto_c0 10 (q := (17, .iconst 0, 1)) rfl
theorem dX2_readInto_18 : decode cX2_readInto 18 = .ok (.istore_n 3, 1) := d_of dm_X2_readInto_c0 11 (q := (18, .istore_n 3, 1)) rfl
theorem dX2_readInto_19 : decode cX2_readInto 19 = .ok (.iconst 0, 1) := d_of dm_X2_readInto_c0 12 (q := (19, .iconst 0, 1)) rfl
theorem dX2_readInto_20 : decode cX2_readInto 20 = .ok (.istore 4, 2) := d_of dm_X2_readInto_c0 13 (q := (20, .istore 4, 2)) rfl
theorem dX2_readInto_22 : decode cX2_readInto 22 = .ok (.iconst 0, 1) := d_of dm_X2_readInto_c0 14 (q := (22, .iconst 0, 1)) rfl
theorem dX2_readInto_23 : decode cX2_readInto 23 = .ok (.istore 5, 2) := d_of dm_X2_readInto_c0 15 (q := (23, .istore 5, 2)) rfl
theorem dX2_readInto_25 : decode cX2_readInto 25 = .ok (.iload 5, 2) := d_of dm_X2_readInto_c0 16 (q := (25, .iload 5, 2)) rfl
theorem dX2_readInto_27 : decode cX2_readInto 27 = .ok (.aload_n 0, 1) := d_of dm_X2_readInto_c0 17 (q := (27, .aload_n 0, 1)) rfl
theorem dX2_readInto_28 : decode cX2_readInto 28 = .ok (.getfield 15, 3) := d_of dm_X2_readInto_c0 18 (q := (28, .getfield 15, 3)) rfl
theorem dX2_readInto_31 : decode cX2_readInto 31 = .ok (.if_icmp .ge 78, 3) := d_of dm_X2_readInto_c0 19 (q := (31, .if_icmp .ge 78, 3)) rfl
theorem dX2_readInto_34 : decode cX2_readInto 34 = .ok (.aload_n 0, 1) := d_of dm_X2_readInto_c0 20 (q := (34, .aload_n 0, 1)) rfl
theorem dX2_readInto_35 : decode cX2_readInto 35 = .ok (.getfield 9, 3) := d_of dm_X2_readInto_c0 21 (q := (35, .getfield 9, 3)) rfl
theorem dX2_readInto_38 : decode cX2_readInto 38 = .ok (.iload 5, 2) := d_of dm_X2_readInto_c0 22 (q := (38, .iload 5, 2)) rfl
theorem dX2_readInto_40 : decode cX2_readInto 40 = .ok (.iaload, 1) := d_of dm_X2_readInto_c0 23 (q := (40, .iaload, 1)) rfl
theorem dX2_readInto_41 : decode cX2_readInto 41 = .ok (.bipush 59, 2) := d_of dm_X2_readInto_c0 24 (q := (41, .bipush 59, 2)) rfl
def dl_X2_readInto_c25 : List (Nat × Instr × Nat) := [(43, .if_icmp .ne 60, 3), (46, .iload 5, 2), (48, .iload 4, 2), (50, .iconst 2, 1), (51, .iadd, 1), (52, .if_icmp .lt 51, 3), (55, .aload_n 1, 1), (56, .aload_n 0, 1), (57, .getfield 9, 3), (60, .iload 4, 2), (62, .iaload, 1), (63, .aload_n 0, 1), (64, .getfield 9, 3), (67, .iload 4, 2), (69, .iconst 1, 1), (70, .iadd, 1), (71, .iaload, 1), (72, .aload_n 0, 1), (73, .getfield 9, 3), (76, .iload 4, 2), (78, .iconst 2, 1), (79, .iadd, 1), (80, .iaload, 1), (81, .invokevirtual 23, 3), (84, .ifCond .ne 10, 3)]
set_option maxRecDepth 100000 in
theorem dm_X2_readInto_c25 : dl_X2_readInto_c25.all (fun q => decide (decode cX2_readInto q.1 = .ok q.2)) = true := by decide +kernel
theorem dX2_readInto_43 : decode cX2_readInto 43 = .ok (.if_icmp .ne 60, 3) := d_of dm_X2_readInto_c25 0 (q := (43, .if_icmp .ne 60, 3)) rfl
theorem dX2_readInto_46 : decode cX2_readInto 46 = .ok (.iload 5, 2) := d_of dm_X2_readInto_c25 1 (q := (46, .iload 5, 2)) rfl
theorem dX2_readInto_48 : decode cX2_readInto 48 = .ok (.iload 4, 2) := d_of dm_X2_readInto_c25 2 (q := (48, .iload 4, 2)) rfl
theorem dX2_readInto_50 : decode cX2_readInto 50 = .ok (.iconst 2, 1) := d_of dm_X2_readInto_c25 3 (q := (50, .iconst 2, 1)) rfl
theorem dX2_readInto_51 : decode cX2_readInto 51 = .ok (.iadd, 1) := d_of dm_X2_readInto_c25 4 (q := (51, .iadd, 1)) rfl
theorem dX2_readInto_52 : decode cX2_readInto 52 = .ok (.if_icmp .lt 51, 3) := d_of dm_X2_readInto_c25 5 (q := (52, .if_icmp .lt 51, 3)) rfl
theorem dX2_readInto_55 : decode cX2_readInto 55 = .ok (.aload_n 1, 1) := d_of dm_X2_readInto_c25 6 (q := (55, .aload_n 1, 1)) rfl
theorem dX2_readInto_56 : decode cX2_readInto 56 = .ok (.aload_n 0, 1) := d_of dm_X2_readInto_c25 7 (q := (56, .aload_n 0, 1)) rfl
theorem dX2_readInto_57 : decode cX2_readInto 57 = .ok (.getfield 9, 3) := d_of dm_X2_readInto_c25 8 (q := (57, .getfield 9, 3)) rfl
theorem dX2_readInto_60 : decode cX2_readInto 60 = .ok (.iload 4, 2) := d_of dm_X2_readInto_c25 9 (q := (60, .iload 4, 2)) rfl
theorem dX2_readInto_62 : decode cX2_readInto 62 = .ok (.iaload, 1) := d_of dm_X2_readInto_c25 10 (q := (62, .iaload, 1)) rfl
theorem dX2_readInto_63 : decode cX2_readInto 63 = .ok (.aload_n 0, 1) := d_of dm_X2_readInto_c25 11 (q := (63, .aload_n 0, 1)) rfl
theorem dX2_readInto_64 : decode cX2_readInto 64 = .ok (.getfield 9, 3) := d_of dm_X2_readInto_c25 12 (q := (64, .getfield 9, 3)) rfl
theorem dX2_readInto_67 : decode cX2_readInto 67 = .ok (.iload 4, 2) := d_of dm_X2_readInto_c25 13 (q := (67, .iload 4, 2)) rfl
theorem dX2_readInto_69 : decode cX2_readInto 69 = .ok (.iconst 1, 1) := d_of dm_X2_readInto_c25 14 (q := (69, .iconst 1, 1)) rfl
theorem dX2_readInto_70 : decode cX2_readInto 70 = .ok (.iadd, 1) := d_of dm_X2_readInto_c25 15 (q := (70, .iadd, 1)) rfl
theorem dX2_readInto_71 : decode cX2_readInto 71 = .ok (.iaload, 1) := d_of dm_X2_readInto_c25 16 (q := (71, .iaload, 1)) rfl
theorem dX2_readInto_72 : decode cX2_readInto 72 = .ok (.aload_n 0, 1) := d_of dm_X2_readInto_c25 17 (q := (72, .aload_n 0, 1)) rfl
theorem dX2_readInto_73 : decode cX2_readInto 73 = .ok (.getfield 9, 3) := d_of dm_X2_readInto_c25 18 (q := (73, .getfield 9, 3)) rfl
theorem dX2_readInto_76 : decode cX2_readInto 76 = .ok (.iload 4, 2) := d_of dm_X2_readInto_c25 19 (q := (76, .iload 4, 2)) rfl
theorem dX2_readInto_78 : decode cX2_readInto 78 = .ok (.iconst 2, 1) := d_of dm_X2_readInto_c25 20 (q := (78, .iconst 2, 1)) rfl
theorem dX2_readInto_79 : decode cX2_readInto 79 = .ok (.iadd, 1) := d_of dm_X2_readInto_c25 21 (q := (79, .iadd, 1)) rfl
theorem dX2_readInto_80 : decode cX2_readInto 80 = .ok (.iaload, 1) := d_of dm_X2_readInto_c25 22 (q := (80, .iaload, 1)) rfl
theorem dX2_readInto_81 : decode cX2_readInto 81 = .ok (.invokevirtual 23, 3) := d_of dm_X2_readInto_c25 23 (q := (81, .invokevirtual 23, 3)) rfl
theorem dX2_readInto_84 : decode cX2_readInto 84 = .ok (.ifCond .ne 10, 3) := d_of dm_X2_readInto_c25 24 (q := (84, .ifCond .ne 10, 3)) rfl
def dl_X2_readInto_c50 : List (Nat × Instr × Nat) := [(87, .sipush (-2000), 3), (90, .iload 4, 2), (92, .isub, 1), (93, .ireturn, 1), (94, .iinc 3 1, 3), (97, .iload 5, 2), (99, .iconst 1, 1), (100, .iadd, 1), (101, .istore 4, 2), (103, .iinc 5 1, 3), (106, .goto (-81), 3), (109, .iload_n 3, 1), (110, .ireturn, 1)]
set_option maxRecDepth 100000 in
theorem dm_X2_readInto_c50 : dl_X2_readInto_c50.all (fun q => decide (decode cX2_readInto q.1 = .ok q.2)) = true := by decide +kernel
theorem dX2_readInto_87 : decode cX2_readInto 87 = .ok (.sipush (-2000), 3) := d_of dm_X2_readInto_c50 0 (q := (87, .sipush (-2000), 3)) rfl
theorem dX2_readInto_90 : decode cX2_readInto 90 = .ok (.iload 4, 2) := d_of dm_X2_readInto_c50 1 (q := (90, .iload 4, 2)) rfl
theorem dX2_readInto_92 : decode cX2_readInto 92 = .ok (.isub, 1) := d_of dm_X2_readInto_c50 2 (q := (92, .isub, 1)) rfl
theorem dX2_readInto_93 : decode cX2_readInto 93 = .ok (.ireturn, 1) := d_of dm_X2_readInto_c50 3 (q := (93, .ireturn, 1)) rfl
theorem dX2_readInto_94 : decode cX2_readInto 94 = .ok (.iinc 3 1, 3) := d_of dm_X2_readInto_c50 4 (q := (94, .iinc 3 1, 3)) rfl
theorem dX2_readInto_97 : decode cX2_readInto 97 = .ok (.iload 5, 2) := d_of dm_X2_readInto_c50 5 (q := (97, .iload 5, 2)) rfl
theorem dX2_readInto_99 : decode cX2_readInto 99 = .ok (.iconst 1, 1) := d_of dm_X2_readInto_c50 6 (q := (99, .iconst 1, 1)) rfl
theorem dX2_readInto_100 : decode cX2_readInto 100 = .ok (.iadd, 1) := d_of dm_X2_readInto_c50 7 (q := (100, .iadd, 1)) rfl
theorem dX2_readInto_101 : decode cX2_readInto 101 = .ok (.istore 4, 2) := d_of dm_X2_readInto_c50 8 (q := (101, .istore 4, 2)) rfl
theorem dX2_readInto_103 : decode cX2_readInto 103 = .ok (.iinc 5 1, 3) := d_of dm_X2_readInto_c50 9 (q := (103, .iinc 5 1, 3)) rfl
theorem dX2_readInto_106 : decode cX2_readInto 106 = .ok (.goto (-81), 3) := d_of dm_X2_readInto_c50 10 (q := (106, .goto (-81), 3)) rfl
theorem dX2_readInto_109 : decode cX2_readInto 109 = .ok (.iload_n 3, 1) := d_of dm_X2_readInto_c50 11 (q := (109, .iload_n 3, 1)) rfl
theorem dX2_readInto_110 : decode cX2_readInto 110 = .ok (.ireturn, 1) := d_of dm_X2_readInto_c50 12 (q := (110, .ireturn, 1)) rfl
def dl_X2_firstUnfit_c0 : List (Nat × Instr × Nat) := [(0, .iconst 0, 1), (1, .istore_n 1, 1), (2, .iconst 0, 1), (3, .istore_n 2, 1), (4, .iload_n 2, 1), (5, .aload_n 0, 1), (6, .getfield 15, 3), (9, .if_icmp .ge 47, 3), (12, .aload_n 0, 1), (13, .getfield 9, 3), (16, .iload_n 1, 1), (17, .iaload, 1), (18, .iload_n 2, 1), (19, .iload_n 1, 1), (20, .isub, 1), (21, .aload_n 0, 1), (22, .getfield 9, 3), (25, .iload_n 2, 1), (26, .iaload, 1), (27, .invokestatic 29, 3), (30, .ifCond .ne 5, 3), (33, .iload_n 2, 1), (34, .ireturn, 1), (35, .aload_n 0, 1), (36, .getfield 9, 3)]
set_option maxRecDepth 100000 in
theorem dm_X2_firstUnfit_c0 : dl_X2_firstUnfit_c0.all (fun q => decide (decode cX2_firstUnfit q.1 = .ok q.2)) = true := by decide +kernel
theorem dX2_firstUnfit_0 : decode cX2_firstUnfit 0 = .ok (.iconst 0, 1) := d_of dm_X2_firstUnfit_c0 0 (q := (0, .iconst 0, 1)) rfl
theorem dX2_firstUnfit_1 : decode cX2_firstUnfit 1 = .ok (.istore_n 1, 1) := d_of dm_X2_firstUnfit_c0 1 (q := (1, .istore_n 1, 1)) rfl
theorem dX2_firstUnfit_2 : decode cX2_firstUnfit 2 = .ok (.iconst 0, 1) := d_of dm_X2_firstUnfit_c0 2 (q := (2, .iconst 0, 1)) rfl
theorem dX2_firstUnfit_3 : decode cX2_firstUnfit 3 = .ok (.istore_n 2, 1) := d_of dm_X2_firstUnfit_c0 3 (q := (3, .istore_n 2, 1)) rfl
theorem dX2_firstUnfit_4 : decode cX2_firstUnfit 4 = .ok (.iload_n 2, 1) := d_of dm_X2_firstUnfit_c0 4 (q := (4, .iload_n 2, 1)) rfl
theorem dX2_firstUnfit_5 : decode cX2_firstUnfit 5 = .ok (.aload_n 0, 1) := d_of dm_X2_firstUnfit_c0 5 (q := (5, .aload_n 0, 1)) rfl
theorem dX2_firstUnfit_6 : decode cX2_firstUnfit 6 = .ok (.getfield 15, 3) := d_of dm_X2_firstUnfit_c0 6 (q := (6, .getfield 15, 3)) rfl
theorem dX2_firstUnfit_9 : decode cX2_firstUnfit 9 = .ok (.if_icmp .ge 47, 3) := d_of dm_X2_firstUnfit_c0 7 (q := (9, .if_icmp .ge 47, 3)) rfl
theorem dX2_firstUnfit_12 : decode cX2_firstUnfit 12 = .ok (.aload_n 0, 1) := d_of dm_X2_firstUnfit_c0 8 (q := (12, .aload_n 0, 1)) rfl
theorem dX2_firstUnfit_13 : decode cX2_firstUnfit 13 = .ok (.getfield 9, 3) := d_of dm_X2_firstUnfit_c0 9 (q := (13, .getfield 9, 3)) rfl
theorem dX2_firstUnfit_16 : decode cX2_firstUnfit 16 = .ok (.iload_n 1, 1) := d_of dm_X2_firstUnfit_c0 10 (q := (16, .iload_n 1, 1)) rfl
theorem dX2_firstUnfit_17 : decode cX2_firstUnfit 17 = .ok (.iaload, 1) := d_of dm_X2_firstUnfit_c0 11 (q := (17, .iaload, 1)) rfl
theorem dX2_firstUnfit_18 : decode cX2_firstUnfit 18 = .ok (.iload_n 2, 1) := d_of dm_X2_firstUnfit_c0 12 (q := (18, .iload_n 2, 1)) rfl
theorem dX2_firstUnfit_19 : decode cX2_firstUnfit 19 = .ok (.iload_n 1, 1) := d_of dm_X2_firstUnfit_c0 13 (q := (19, .iload_n 1, 1)) rfl
theorem dX2_firstUnfit_20 : decode cX2_firstUnfit 20 = .ok (.isub, 1) := d_of dm_X2_firstUnfit_c0 14 (q := (20, .isub, 1)) rfl
theorem dX2_firstUnfit_21 : decode cX2_firstUnfit 21 = .ok (.aload_n 0, 1) := d_of dm_X2_firstUnfit_c0 15 (q := (21, .aload_n 0, 1)) rfl
theorem dX2_firstUnfit_22 : decode cX2_firstUnfit 22 = .ok (.getfield 9, 3) := d_of dm_X2_firstUnfit_c0 16 (q := (22, .getfield 9, 3)) rfl
theorem dX2_firstUnfit_25 : decode cX2_firstUnfit 25 = .ok (.iload_n 2, 1) := d_of dm_X2_firstUnfit_c0 17 (q := (25, .iload_n 2, 1)) rfl
theorem dX2_firstUnfit_26 : decode cX2_firstUnfit 26 = .ok (.iaload, 1) := d_of dm_X2_firstUnfit_c0 18 (q := (26, .iaload, 1)) rfl
theorem dX2_firstUnfit_27 : decode cX2_firstUnfit 27 = .ok (.invokestatic 29, 3) := d_of dm_X2_firstUnfit_c0 19 (q := (27, .invokestatic 29, 3)) rfl
theorem dX2_firstUnfit_30 : decode cX2_firstUnfit 30 = .ok (.ifCond .ne 5, 3) := d_of dm_X2_firstUnfit_c0 20 (q := (30, .ifCond .ne 5, 3)) rfl
theorem dX2_firstUnfit_33 : decode cX2_firstUnfit 33 = .ok (.iload_n 2, 1) := d_of dm_X2_firstUnfit_c0 21 (q := (33, .iload_n 2, 1)) rfl
theorem dX2_firstUnfit_34 : decode cX2_firstUnfit 34 = .ok (.ireturn, 1) := d_of dm_X2_firstUnfit_c0 22 (q := (34, .ireturn, 1)) rfl
theorem dX2_firstUnfit_35 : decode cX2_firstUnfit 35 = .ok (.aload_n 0, 1) := d_of dm_X2_firstUnfit_c0 23 (q := (35, .aload_n 0, 1)) rfl
theorem dX2_firstUnfit_36 : decode cX2_firstUnfit 36 = .ok (.getfield 9, 3) := d_of dm_X2_firstUnfit_c0 24 (q := (36, .getfield 9, 3)) rfl
def dl_X2_firstUnfit_c25 : List (Nat × Instr × Nat) := [(39, .iload_n 2, 1), (40, .iaload, 1), (41, .bipush 59, 2), (43, .if_icmp .ne 7, 3), (46, .iload_n 2, 1), (47, .iconst 1, 1), (48, .iadd, 1), (49, .istore_n 1, 1), (50, .iinc 2 1, 3), (53, .goto (-49), 3), (56, .aload_n 0, 1), (57, .getfield 15, 3), (60, .ifCond .le 16, 3), (63, .iload_n 1, 1), (64, .aload_n 0, 1), (65, .getfield 15, 3), (68, .if_icmp .ne 8, 3), (71, .bipush (-9), 2), (73, .goto 7, 3), (76, .aload_n 0, 1), (77, .getfield 15, 3), (80, .ireturn, 1)]
set_option maxRecDepth 100000 in
theorem dm_X2_firstUnfit_c25 : dl_X2_firstUnfit_c25.all (fun q => decide (decode cX2_firstUnfit q.1 = .ok q.2)) = true := by decide +kernel
theorem dX2_firstUnfit_39 : decode cX2_firstUnfit 39 = .ok (.iload_n 2, 1) := d_of dm_X2_firstUnfit_c25 0 (q := (39, .iload_n 2, 1)) rfl
theorem dX2_firstUnfit_40 : decode cX2_firstUnfit 40 = .ok (.iaload, 1) := d_of dm_X2_firstUnfit_c25 1 (q := (40, .iaload, 1)) rfl
theorem dX2_firstUnfit_41 : decode cX2_firstUnfit 41 = .ok (.bipush 59, 2) := d_of dm_X2_firstUnfit_c25 2 (q := (41, .bipush 59, 2)) rfl
theorem dX2_firstUnfit_43 : decode cX2_firstUnfit 43 = .ok (.if_icmp .ne 7, 3) := d_of dm_X2_firstUnfit_c25 3 (q := (43, .if_icmp .ne 7, 3)) rfl
theorem dX2_firstUnfit_46 : decode cX2_firstUnfit 46 = .ok (.iload_n 2, 1) := d_of dm_X2_firstUnfit_c25 4 (q := (46, .iload_n 2, 1)) rfl
theorem dX2_firstUnfit_47 : decode cX2_firstUnfit 47 = .ok (.iconst 1, 1) := d_of dm_X2_firstUnfit_c25 5 (q := (47, .iconst 1, 1)) rfl
theorem dX2_firstUnfit_48 : decode cX2_firstUnfit 48 = .ok (.iadd, 1) := d_of dm_X2_firstUnfit_c25 6 (q := (48, .iadd, 1)) rfl
theorem dX2_firstUnfit_49 : decode cX2_firstUnfit 49 = .ok (.istore_n 1, 1) := d_of dm_X2_firstUnfit_c25 7 (q := (49, .istore_n 1, 1)) rfl
theorem dX2_firstUnfit_50 : decode cX2_firstUnfit 50 = .ok (.iinc 2 1, 3) := d_of dm_X2_firstUnfit_c25 8 (q := (50, .iinc 2 1, 3)) rfl
theorem dX2_firstUnfit_53 : decode cX2_firstUnfit 53 = .ok (.goto (-49), 3) := d_of dm_X2_firstUnfit_c25 9 (q := (53, .goto (-49), 3)) rfl
theorem dX2_firstUnfit_56 : decode cX2_firstUnfit 56 = .ok (.aload_n 0, 1) := d_of dm_X2_firstUnfit_c25 10 (q := (56, .aload_n 0, 1)) rfl
theorem dX2_firstUnfit_57 : decode cX2_firstUnfit 57 = .ok (.getfield 15, 3) := d_of dm_X2_firstUnfit_c25 11 (q := (57, .getfield 15, 3)) rfl
theorem dX2_firstUnfit_60 : decode cX2_firstUnfit 60 = .ok (.ifCond .le 16, 3) := d_of dm_X2_firstUnfit_c25 12 (q := (60, .ifCond .le 16, 3)) rfl
theorem dX2_firstUnfit_63 : decode cX2_firstUnfit 63 = .ok (.iload_n 1, 1) := d_of dm_X2_firstUnfit_c25 13 (q := (63, .iload_n 1, 1)) rfl
theorem dX2_firstUnfit_64 : decode cX2_firstUnfit 64 = .ok (.aload_n 0, 1) := d_of dm_X2_firstUnfit_c25 14 (q := (64, .aload_n 0, 1)) rfl
theorem dX2_firstUnfit_65 : decode cX2_firstUnfit 65 = .ok (.getfield 15, 3) := d_of dm_X2_firstUnfit_c25 15 (q := (65, .getfield 15, 3)) rfl
theorem dX2_firstUnfit_68 : decode cX2_firstUnfit 68 = .ok (.if_icmp .ne 8, 3) := d_of dm_X2_firstUnfit_c25 16 (q := (68, .if_icmp .ne 8, 3)) rfl
theorem dX2_firstUnfit_71 : decode cX2_firstUnfit 71 = .ok (.bipush (-9), 2) := d_of dm_X2_firstUnfit_c25 17 (q := (71, .bipush (-9), 2)) rfl
theorem dX2_firstUnfit_73 : decode cX2_firstUnfit 73 = .ok (.goto 7, 3) := d_of dm_X2_firstUnfit_c25 18 (q := (73, .goto 7, 3)) rfl
theorem dX2_firstUnfit_76 : decode cX2_firstUnfit 76 = .ok (.aload_n 0, 1) := d_of dm_X2_firstUnfit_c25 19 (q := (76, .aload_n 0, 1)) rfl
theorem dX2_firstUnfit_77 : decode cX2_firstUnfit 77 = .ok (.getfield 15, 3) := d_of dm_X2_firstUnfit_c25 20 (q := (77, .getfield 15, 3)) rfl
theorem dX2_firstUnfit_80 : decode cX2_firstUnfit 80 = .ok (.ireturn, 1) := d_of dm_X2_firstUnfit_c25 21 (q := (80, .ireturn, 1)) rfl
def dl_X2_fits_c0 : List (Nat × Instr × Nat) := [(0, .iload_n 0, 1), (1, .invokestatic 32, 3), (4, .istore_n 3, 1), (5, .iload_n 1, 1), (6, .ifCond .ne 13, 3), (9, .iload_n 3, 1), (10, .ifCond .le 7, 3), (13, .iconst 1, 1), (14, .goto 4, 3), (17, .iconst 0, 1), (18, .ireturn, 1), (19, .iload_n 1, 1), (20, .iload_n 3, 1), (21, .iconst 1, 1), (22, .isub, 1), (23, .if_icmp .ne 15, 3), (26, .iload_n 2, 1), (27, .bipush 59, 2), (29, .if_icmp .ne 7, 3), (32, .iconst 1, 1), (33, .goto 4, 3), (36, .iconst 0, 1), (37, .ireturn, 1), (38, .iload_n 0, 1), (39, .bipush 116, 2)]
set_option maxRecDepth 100000 in
theorem dm_X2_fits_c0 : dl_X2_fits_c0.all (fun q => decide (decode cX2_fits q.1 = .ok q.2)) = true := by decide +kernel
theorem dX2_fits_0 : decode cX2_fits 0 = .ok (.iload_n 0, 1) := d_of dm_X2_fits_c0 0 (q := (0, .iload_n 0, 1)) rfl
theorem dX2_fits_1 : decode cX2_fits 1 = .ok (.invokestatic 32, 3) := d_of dm_X2_fits_c0 1 (q := (1, .invokestatic 32, 3)) rfl
theorem dX2_fits_4 : decode cX2_fits 4 = .ok (.istore_n 3, 1) := d_of dm_X2_fits_c0 2 (q := (4, .istore_n 3, 1)) rfl
theorem dX2_fits_5 : decode cX2_fits 5 = .ok (.iload_n 1, 1) := d_of dm_X2_fits_c0 3 (q := (5, .iload_n 1, 1)) rfl
theorem dX2_fits_6 : decode cX2_fits 6 = .ok (.ifCond .ne 13, 3) := d_of dm_X2_fits_c0 4 (q := (6, .ifCond .ne 13, 3)) rfl
theorem dX2_fits_9 : decode cX2_fits 9 = .ok (.iload_n 3, 1) := d_of dm_X2_fits_c0 5 (q := (9, .iload_n 3, 1)) rfl
theorem dX2_fits_10 : decode cX2_fits 10 = .ok (.ifCond .le 7, 3) := d_of dm_X2_fits_c0 6 (q := (10, .ifCond .le 7, 3)) rfl
theorem dX2_fits_13 : decode cX2_fits 13 = .ok (.iconst 1, 1) := d_of dm_X2_fits_c0 7 (q := (13, .iconst 1, 1)) rfl
theorem dX2_fits_14 : decode cX2_fits 14 = .ok (.goto 4, 3) := d_of dm_X2_fits_c0 8 (q := (14, .goto 4, 3)) rfl
theorem dX2_fits_17 : decode cX2_fits 17 = .ok (.iconst 0, 1) := d_of dm_X2_fits_c0 9 (q := (17, .iconst 0, 1)) rfl
theorem dX2_fits_18 : decode cX2_fits 18 = .ok (.ireturn, 1) := d_of dm_X2_fits_c0 10 (q := (18, .ireturn, 1)) rfl
theorem dX2_fits_19 : decode cX2_fits 19 = .ok (.iload_n 1, 1) := d_of dm_X2_fits_c0 11 (q := (19, .iload_n 1, 1)) rfl
theorem dX2_fits_20 : decode cX2_fits 20 = .ok (.iload_n 3, 1) := d_of dm_X2_fits_c0 12 (q := (20, .iload_n 3, 1)) rfl
theorem dX2_fits_21 : decode cX2_fits 21 = .ok (.iconst 1, 1) := d_of dm_X2_fits_c0 13 (q := (21, .iconst 1, 1)) rfl
theorem dX2_fits_22 : decode cX2_fits 22 = .ok (.isub, 1) := d_of dm_X2_fits_c0 14 (q := (22, .isub, 1)) rfl
theorem dX2_fits_23 : decode cX2_fits 23 = .ok (.if_icmp .ne 15, 3) := d_of dm_X2_fits_c0 15 (q := (23, .if_icmp .ne 15, 3)) rfl
theorem dX2_fits_26 : decode cX2_fits 26 = .ok (.iload_n 2, 1) := d_of dm_X2_fits_c0 16 (q := (26, .iload_n 2, 1)) rfl
theorem dX2_fits_27 : decode cX2_fits 27 = .ok (.bipush 59, 2) := d_of dm_X2_fits_c0 17 (q := (27, .bipush 59, 2)) rfl
theorem dX2_fits_29 : decode cX2_fits 29 = .ok (.if_icmp .ne 7, 3) := d_of dm_X2_fits_c0 18 (q := (29, .if_icmp .ne 7, 3)) rfl
theorem dX2_fits_32 : decode cX2_fits 32 = .ok (.iconst 1, 1) := d_of dm_X2_fits_c0 19 (q := (32, .iconst 1, 1)) rfl
theorem dX2_fits_33 : decode cX2_fits 33 = .ok (.goto 4, 3) := d_of dm_X2_fits_c0 20 (q := (33, .goto 4, 3)) rfl
theorem dX2_fits_36 : decode cX2_fits 36 = .ok (.iconst 0, 1) := d_of dm_X2_fits_c0 21 (q := (36, .iconst 0, 1)) rfl
theorem dX2_fits_37 : decode cX2_fits 37 = .ok (.ireturn, 1) := d_of dm_X2_fits_c0 22 (q := (37, .ireturn, 1)) rfl
theorem dX2_fits_38 : decode cX2_fits 38 = .ok (.iload_n 0, 1) := d_of dm_X2_fits_c0 23 (q := (38, .iload_n 0, 1)) rfl
theorem dX2_fits_39 : decode cX2_fits 39 = .ok (.bipush 116, 2) := d_of dm_X2_fits_c0 24 (q := (39, .bipush 116, 2)) rfl
def dl_X2_fits_c25 : List (Nat × Instr × Nat) := [(41, .if_icmp .ne 25, 3), (44, .iload_n 1, 1), (45, .iconst 1, 1), (46, .if_icmp .ne 20, 3), (49, .iload_n 2, 1), (50, .invokestatic 36, 3), (53, .bipush (-9), 2), (55, .if_icmp .eq 7, 3), (58, .iconst 1, 1), (59, .goto 21, 3), (62, .iconst 0, 1), (63, .goto 17, 3), (66, .iload_n 2, 1), (67, .invokestatic 39, 3), (70, .bipush (-9), 2), (72, .if_icmp .eq 7, 3), (75, .iconst 1, 1), (76, .goto 4, 3), (79, .iconst 0, 1), (80, .ireturn, 1)]
set_option maxRecDepth 100000 in
theorem dm_X2_fits_c25 : dl_X2_fits_c25.all (fun q => decide (decode cX2_fits q.1 = .ok q.2)) = true := by decide +kernel
theorem dX2_fits_41 : decode cX2_fits 41 = .ok (.if_icmp .ne 25, 3) := d_of dm_X2_fits_c25 0 (q := (41, .if_icmp .ne 25, 3)) rfl
theorem dX2_fits_44 : decode cX2_fits 44 = .ok (.iload_n 1, 1) := d_of dm_X2_fits_c25 1 (q := (44, .iload_n 1, 1)) rfl
theorem dX2_fits_45 : decode cX2_fits 45 = .ok (.iconst 1, 1) := d_of dm_X2_fits_c25 2 (q := (45, .iconst 1, 1)) rfl
theorem dX2_fits_46 : decode cX2_fits 46 = .ok (.if_icmp .ne 20, 3) := d_of dm_X2_fits_c25 3 (q := (46, .if_icmp .ne 20, 3)) rfl
theorem dX2_fits_49 : decode cX2_fits 49 = .ok (.iload_n 2, 1) := d_of dm_X2_fits_c25 4 (q := (49, .iload_n 2, 1)) rfl
theorem dX2_fits_50 : decode cX2_fits 50 = .ok (.invokestatic 36, 3) := d_of dm_X2_fits_c25 5 (q := (50, .invokestatic 36, 3)) rfl
theorem dX2_fits_53 : decode cX2_fits 53 = .ok (.bipush (-9), 2) := d_of dm_X2_fits_c25 6 (q := (53, .bipush (-9), 2)) rfl
theorem dX2_fits_55 : decode cX2_fits 55 = .ok (.if_icmp .eq 7, 3) := d_of dm_X2_fits_c25 7 (q := (55, .if_icmp .eq 7, 3)) rfl
theorem dX2_fits_58 : decode cX2_fits 58 = .ok (.iconst 1, 1) := d_of dm_X2_fits_c25 8 (q := (58, .iconst 1, 1)) rfl
theorem dX2_fits_59 : decode cX2_fits 59 = .ok (.goto 21, 3) := d_of dm_X2_fits_c25 9 (q := (59, .goto 21, 3)) rfl
theorem dX2_fits_62 : decode cX2_fits 62 = .ok (.iconst 0, 1) := d_of dm_X2_fits_c25 10 (q := (62, .iconst 0, 1)) rfl
theorem dX2_fits_63 : decode cX2_fits 63 = .ok (.goto 17, 3) := d_of dm_X2_fits_c25 11 (q := (63, .goto 17, 3)) rfl
theorem dX2_fits_66 : decode cX2_fits 66 = .ok (.iload_n 2, 1) := d_of dm_X2_fits_c25 12 (q := (66, .iload_n 2, 1)) rfl
theorem dX2_fits_67 : decode cX2_fits 67 = .ok (.invokestatic 39, 3) := d_of dm_X2_fits_c25 13 (q := (67, .invokestatic 39, 3)) rfl
theorem dX2_fits_70 : decode cX2_fits 70 = .ok (.bipush (-9), 2) := d_of dm_X2_fits_c25 14 (q := (70, .bipush (-9), 2)) rfl
theorem dX2_fits_72 : decode cX2_fits 72 = .ok (.if_icmp .eq 7, 3) := d_of dm_X2_fits_c25 15 (q := (72, .if_icmp .eq 7, 3)) rfl
theorem dX2_fits_75 : decode cX2_fits 75 = .ok (.iconst 1, 1) := d_of dm_X2_fits_c25 16 (q := (75, .iconst 1, 1)) rfl
theorem dX2_fits_76 : decode cX2_fits 76 = .ok (.goto 4, 3) := d_of dm_X2_fits_c25 17 (q := (76, .goto 4, 3)) rfl
theorem dX2_fits_79 : decode cX2_fits 79 = .ok (.iconst 0, 1) := d_of dm_X2_fits_c25 18 (q := (79, .iconst 0, 1)) rfl
theorem dX2_fits_80 : decode cX2_fits 80 = .ok (.ireturn, 1) := d_of dm_X2_fits_c25 19 (q := (80, .ireturn, 1)) rfl
def dl_X2_statementLength_c0 : List (Nat × Instr × Nat) := [(0, .iload_n 0, 1), (1, .tableswitch 91 99 116 #[89, 91, 91, 91, 91, 89, 91, 91, 91, 87, 87, 91, 87, 91, 91, 91, 91, 87], 87), (88, .iconst 4, 1), (89, .ireturn, 1), (90, .iconst 3, 1), (91, .ireturn, 1), (92, .iconst 0, 1), (93, .ireturn, 1)]
set_option maxRecDepth 100000 in
theorem dm_X2_statementLength_c0 : dl_X2_statementLength_c0.all (fun q => decide (decode cX2_statementLength q.1 = .ok q.2)) = true := by decide +kernel
theorem dX2_statementLength_0 : decode cX2_statementLength 0 = .ok (.iload_n 0, 1) := d_of dm_X2_statementLength_c0 0 (q := (0, .iload_n 0, 1)) rfl
theorem dX2_statementLength_1 : decode cX2_statementLength 1 = .ok (.tableswitch 91 99 116 #[89, 91, 91, 91, 91, 89, 91, 91, 91, 87, 87, 91, 87, 91, 91, 91, 91, 87], 87) := d_of dm_X2_statementLength_c0 1 (q := (1, .tableswitch 91 99 116 #[89, 91, 91, 91, 91, 89, 91, 91, 91, 87, 87, 91, 87, 91, 91, 91, 91, 87], 87)) rfl
theorem dX2_statementLength_88 : decode cX2_statementLength 88 = .ok (.iconst 4, 1) := d_of dm_X2_statementLength_c0 2 (q := (88, .iconst 4, 1)) rfl
theorem dX2_statementLength_89 : decode cX2_statementLength 89 = .ok (.ireturn, 1) := d_of dm_X2_statementLength_c0 3 (q := (89, .ireturn, 1)) rfl
theorem dX2_statementLength_90 : decode cX2_statementLength 90 = .ok (.iconst 3, 1) := d_of dm_X2_statementLength_c0 4 (q := (90, .iconst 3, 1)) rfl
theorem dX2_statementLength_91 : decode cX2_statementLength 91 = .ok (.ireturn, 1) := d_of dm_X2_statementLength_c0 5 (q := (91, .ireturn, 1)) rfl
theorem dX2_statementLength_92 : decode cX2_statementLength 92 = .ok (.iconst 0, 1) := d_of dm_X2_statementLength_c0 6 (q := (92, .iconst 0, 1)) rfl
theorem dX2_statementLength_93 : decode cX2_statementLength 93 = .ok (.ireturn, 1) := d_of dm_X2_statementLength_c0 7 (q := (93, .ireturn, 1)) rfl
def dl_X2_digit_c0 : List (Nat × Instr × Nat) := [(0, .iload_n 0, 1), (1, .bipush 48, 2), (3, .if_icmp .lt 16, 3), (6, .iload_n 0, 1), (7, .bipush 57, 2), (9, .if_icmp .gt 10, 3), (12, .iload_n 0, 1), (13, .bipush 48, 2), (15, .isub, 1), (16, .goto 5, 3), (19, .bipush (-9), 2), (21, .ireturn, 1)]
set_option maxRecDepth 100000 in
theorem dm_X2_digit_c0 : dl_X2_digit_c0.all (fun q => decide (decode cX2_digit q.1 = .ok q.2)) = true := by decide +kernel
theorem dX2_digit_0 : decode cX2_digit 0 = .ok (.iload_n 0, 1) := d_of dm_X2_digit_c0 0 (q := (0, .iload_n 0, 1)) rfl
theorem dX2_digit_1 : decode cX2_digit 1 = .ok (.bipush 48, 2) := d_of dm_X2_digit_c0 1 (q := (1, .bipush 48, 2)) rfl
theorem dX2_digit_3 : decode cX2_digit 3 = .ok (.if_icmp .lt 16, 3) := d_of dm_X2_digit_c0 2 (q := (3, .if_icmp .lt 16, 3)) rfl
theorem dX2_digit_6 : decode cX2_digit 6 = .ok (.iload_n 0, 1) := d_of dm_X2_digit_c0 3 (q := (6, .iload_n 0, 1)) rfl
theorem dX2_digit_7 : decode cX2_digit 7 = .ok (.bipush 57, 2) := d_of dm_X2_digit_c0 4 (q := (7, .bipush 57, 2)) rfl
theorem dX2_digit_9 : decode cX2_digit 9 = .ok (.if_icmp .gt 10, 3) := d_of dm_X2_digit_c0 5 (q := (9, .if_icmp .gt 10, 3)) rfl
theorem dX2_digit_12 : decode cX2_digit 12 = .ok (.iload_n 0, 1) := d_of dm_X2_digit_c0 6 (q := (12, .iload_n 0, 1)) rfl
theorem dX2_digit_13 : decode cX2_digit 13 = .ok (.bipush 48, 2) := d_of dm_X2_digit_c0 7 (q := (13, .bipush 48, 2)) rfl
theorem dX2_digit_15 : decode cX2_digit 15 = .ok (.isub, 1) := d_of dm_X2_digit_c0 8 (q := (15, .isub, 1)) rfl
theorem dX2_digit_16 : decode cX2_digit 16 = .ok (.goto 5, 3) := d_of dm_X2_digit_c0 9 (q := (16, .goto 5, 3)) rfl
theorem dX2_digit_19 : decode cX2_digit 19 = .ok (.bipush (-9), 2) := d_of dm_X2_digit_c0 10 (q := (19, .bipush (-9), 2)) rfl
theorem dX2_digit_21 : decode cX2_digit 21 = .ok (.ireturn, 1) := d_of dm_X2_digit_c0 11 (q := (21, .ireturn, 1)) rfl
def dl_X2_kind_c0 : List (Nat × Instr × Nat) := [(0, .iload_n 0, 1), (1, .lookupswitch 71 #[(98, 65), (109, 69), (110, 67), (115, 63), (116, 59), (119, 61)], 59), (60, .iconst 0, 1), (61, .ireturn, 1), (62, .iconst 1, 1), (63, .ireturn, 1), (64, .iconst 2, 1), (65, .ireturn, 1), (66, .iconst 3, 1), (67, .ireturn, 1), (68, .iconst 4, 1), (69, .ireturn, 1), (70, .iconst 5, 1), (71, .ireturn, 1), (72, .bipush (-9), 2), (74, .ireturn, 1)]
set_option maxRecDepth 100000 in
theorem dm_X2_kind_c0 : dl_X2_kind_c0.all (fun q => decide (decode cX2_kind q.1 = .ok q.2)) = true := by decide +kernel
theorem dX2_kind_0 : decode cX2_kind 0 = .ok (.iload_n 0, 1) := d_of dm_X2_kind_c0 0 (q := (0, .iload_n 0, 1)) rfl
theorem dX2_kind_1 : decode cX2_kind 1 = .ok (.lookupswitch 71 #[(98, 65), (109, 69), (110, 67), (115, 63), (116, 59), (119, 61)], 59) := d_of dm_X2_kind_c0 1 (q := (1, .lookupswitch 71 #[(98, 65), (109, 69), (110, 67), (115, 63), (116, 59), (119, 61)], 59)) rfl
theorem dX2_kind_60 : decode cX2_kind 60 = .ok (.iconst 0, 1) := d_of dm_X2_kind_c0 2 (q := (60, .iconst 0, 1)) rfl
theorem dX2_kind_61 : decode cX2_kind 61 = .ok (.ireturn, 1) := d_of dm_X2_kind_c0 3 (q := (61, .ireturn, 1)) rfl
theorem dX2_kind_62 : decode cX2_kind 62 = .ok (.iconst 1, 1) := d_of dm_X2_kind_c0 4 (q := (62, .iconst 1, 1)) rfl
theorem dX2_kind_63 : decode cX2_kind 63 = .ok (.ireturn, 1) := d_of dm_X2_kind_c0 5 (q := (63, .ireturn, 1)) rfl
theorem dX2_kind_64 : decode cX2_kind 64 = .ok (.iconst 2, 1) := d_of dm_X2_kind_c0 6 (q := (64, .iconst 2, 1)) rfl
theorem dX2_kind_65 : decode cX2_kind 65 = .ok (.ireturn, 1) := d_of dm_X2_kind_c0 7 (q := (65, .ireturn, 1)) rfl
theorem dX2_kind_66 : decode cX2_kind 66 = .ok (.iconst 3, 1) := d_of dm_X2_kind_c0 8 (q := (66, .iconst 3, 1)) rfl
theorem dX2_kind_67 : decode cX2_kind 67 = .ok (.ireturn, 1) := d_of dm_X2_kind_c0 9 (q := (67, .ireturn, 1)) rfl
theorem dX2_kind_68 : decode cX2_kind 68 = .ok (.iconst 4, 1) := d_of dm_X2_kind_c0 10 (q := (68, .iconst 4, 1)) rfl
theorem dX2_kind_69 : decode cX2_kind 69 = .ok (.ireturn, 1) := d_of dm_X2_kind_c0 11 (q := (69, .ireturn, 1)) rfl
theorem dX2_kind_70 : decode cX2_kind 70 = .ok (.iconst 5, 1) := d_of dm_X2_kind_c0 12 (q := (70, .iconst 5, 1)) rfl
theorem dX2_kind_71 : decode cX2_kind 71 = .ok (.ireturn, 1) := d_of dm_X2_kind_c0 13 (q := (71, .ireturn, 1)) rfl
theorem dX2_kind_72 : decode cX2_kind 72 = .ok (.bipush (-9), 2) := d_of dm_X2_kind_c0 14 (q := (72, .bipush (-9), 2)) rfl
theorem dX2_kind_74 : decode cX2_kind 74 = .ok (.ireturn, 1) := d_of dm_X2_kind_c0 15 (q := (74, .ireturn, 1)) rfl
def dl_X3_init_c0 : List (Nat × Instr × Nat) := [(0, .aload_n 0, 1), (1, .invokespecial 1, 3), (4, .aload_n 0, 1), (5, .new 7, 3), (8, .dup, 1), (9, .invokespecial 9, 3), (12, .putfield 10, 3), (15, .aload_n 0, 1), (16, .new 7, 3), (19, .dup, 1), (20, .invokespecial 9, 3), (23, .putfield 16, 3), (26, .aload_n 0, 1), (27, .new 7, 3), (30, .dup, 1), (31, .invokespecial 9, 3), (34, .putfield 19, 3), (37, .aload_n 0, 1), (38, .iconst 0, 1), (39, .putfield 22, 3), (42, .aload_n 0, 1), (43, .new 26, 3), (46, .dup, 1), (47, .invokespecial 28, 3), (50, .putfield 29, 3)]
set_option maxRecDepth 100000 in
theorem dm_X3_init_c0 : dl_X3_init_c0.all (fun q => decide (decode cX3_init q.1 = .ok q.2)) = true := by decide +kernel
theorem dX3_init_0 : decode cX3_init 0 = .ok (.aload_n 0, 1) := d_of dm_X3_init_c0 0 (q := (0, .aload_n 0, 1)) rfl
theorem dX3_init_1 : decode cX3_init 1 = .ok (.invokespecial 1, 3) := d_of dm_X3_init_c0 1 (q := (1, .invokespecial 1, 3)) rfl
theorem dX3_init_4 : decode cX3_init 4 = .ok (.aload_n 0, 1) := d_of dm_X3_init_c0 2 (q := (4, .aload_n 0, 1)) rfl
theorem dX3_init_5 : decode cX3_init 5 = .ok (.new 7, 3) := d_of dm_X3_init_c0 3 (q := (5, .new 7, 3)) rfl
theorem dX3_init_8 : decode cX3_init 8 = .ok (.dup, 1) := d_of dm_X3_init_c0 4 (q := (8, .dup, 1)) rfl
theorem dX3_init_9 : decode cX3_init 9 = .ok (.invokespecial 9, 3) := d_of dm_X3_init_c0 5 (q := (9, .invokespecial 9, 3)) rfl
theorem dX3_init_12 : decode cX3_init 12 = .ok (.putfield 10, 3) := d_of dm_X3_init_c0 6 (q := (12, .putfield 10, 3)) rfl
theorem dX3_init_15 : decode cX3_init 15 = .ok (.aload_n 0, 1) := d_of dm_X3_init_c0 7 (q := (15, .aload_n 0, 1)) rfl
theorem dX3_init_16 : decode cX3_init 16 = .ok (.new 7, 3) := d_of dm_X3_init_c0 8 (q := (16, .new 7, 3)) rfl
theorem dX3_init_19 : decode cX3_init 19 = .ok (.dup, 1) := d_of dm_X3_init_c0 9 (q := (19, .dup, 1)) rfl
theorem dX3_init_20 : decode cX3_init 20 = .ok (.invokespecial 9, 3) := d_of dm_X3_init_c0 10 (q := (20, .invokespecial 9, 3)) rfl
theorem dX3_init_23 : decode cX3_init 23 = .ok (.putfield 16, 3) := d_of dm_X3_init_c0 11 (q := (23, .putfield 16, 3)) rfl
theorem dX3_init_26 : decode cX3_init 26 = .ok (.aload_n 0, 1) := d_of dm_X3_init_c0 12 (q := (26, .aload_n 0, 1)) rfl
theorem dX3_init_27 : decode cX3_init 27 = .ok (.new 7, 3) := d_of dm_X3_init_c0 13 (q := (27, .new 7, 3)) rfl
theorem dX3_init_30 : decode cX3_init 30 = .ok (.dup, 1) := d_of dm_X3_init_c0 14 (q := (30, .dup, 1)) rfl
theorem dX3_init_31 : decode cX3_init 31 = .ok (.invokespecial 9, 3) := d_of dm_X3_init_c0 15 (q := (31, .invokespecial 9, 3)) rfl
theorem dX3_init_34 : decode cX3_init 34 = .ok (.putfield 19, 3) := d_of dm_X3_init_c0 16 (q := (34, .putfield 19, 3)) rfl
theorem dX3_init_37 : decode cX3_init 37 = .ok (.aload_n 0, 1) := d_of dm_X3_init_c0 17 (q := (37, .aload_n 0, 1)) rfl
theorem dX3_init_38 : decode cX3_init 38 = .ok (.iconst 0, 1) := d_of dm_X3_init_c0 18 (q := (38, .iconst 0, 1)) rfl
theorem dX3_init_39 : decode cX3_init 39 = .ok (.putfield 22, 3) := d_of dm_X3_init_c0 19 (q := (39, .putfield 22, 3)) rfl
theorem dX3_init_42 : decode cX3_init 42 = .ok (.aload_n 0, 1) := d_of dm_X3_init_c0 20 (q := (42, .aload_n 0, 1)) rfl
theorem dX3_init_43 : decode cX3_init 43 = .ok (.new 26, 3) := d_of dm_X3_init_c0 21 (q := (43, .new 26, 3)) rfl
theorem dX3_init_46 : decode cX3_init 46 = .ok (.dup, 1) := d_of dm_X3_init_c0 22 (q := (46, .dup, 1)) rfl
theorem dX3_init_47 : decode cX3_init 47 = .ok (.invokespecial 28, 3) := d_of dm_X3_init_c0 23 (q := (47, .invokespecial 28, 3)) rfl
theorem dX3_init_50 : decode cX3_init 50 = .ok (.putfield 29, 3) := d_of dm_X3_init_c0 24 (q := (50, .putfield 29, 3)) rfl
def dl_X3_init_c25 : List (Nat × Instr × Nat) := [(53, .aload_n 0, 1), (54, .new 33, 3), (57, .dup, 1), (58, .invokespecial 35, 3), (61, .putfield 36, 3), (64, .aload_n 0, 1), (65, .sipush 128, 3), (68, .newarray .int, 2), (70, .putfield 40, 3), (73, .aload_n 0, 1), (74, .bipush 12, 2), (76, .newarray .int, 2), (78, .putfield 44, 3), (81, .aload_n 0, 1), (82, .iconst 0, 1), (83, .putfield 47, 3), (86, .aload_n 0, 1), (87, .bipush 7, 2), (89, .newarray .int, 2), (91, .putfield 51, 3), (94, .return_, 1)]
set_option maxRecDepth 100000 in
theorem dm_X3_init_c25 : dl_X3_init_c25.all (fun q => decide (decode cX3_init q.1 = .ok q.2)) = true := by decide +kernel
theorem dX3_init_53 : decode cX3_init 53 = .ok (.aload_n 0, 1) := d_of dm_X3_init_c25 0 (q := (53, .aload_n 0, 1)) rfl
theorem dX3_init_54 : decode cX3_init 54 = .ok (.new 33, 3) := d_of dm_X3_init_c25 1 (q := (54, .new 33, 3)) rfl
theorem dX3_init_57 : decode cX3_init 57 = .ok (.dup, 1) := d_of dm_X3_init_c25 2 (q := (57, .dup, 1)) rfl
theorem dX3_init_58 : decode cX3_init 58 = .ok (.invokespecial 35, 3) := d_of dm_X3_init_c25 3 (q := (58, .invokespecial 35, 3)) rfl
theorem dX3_init_61 : decode cX3_init 61 = .ok (.putfield 36, 3) := d_of dm_X3_init_c25 4 (q := (61, .putfield 36, 3)) rfl
theorem dX3_init_64 : decode cX3_init 64 = .ok (.aload_n 0, 1) := d_of dm_X3_init_c25 5 (q := (64, .aload_n 0, 1)) rfl
theorem dX3_init_65 : decode cX3_init 65 = .ok (.sipush 128, 3) := d_of dm_X3_init_c25 6 (q := (65, .sipush 128, 3)) rfl
theorem dX3_init_68 : decode cX3_init 68 = .ok (.newarray .int, 2) := d_of dm_X3_init_c25 7 (q := (68, .newarray .int, 2)) rfl
theorem dX3_init_70 : decode cX3_init 70 = .ok (.putfield 40, 3) := d_of dm_X3_init_c25 8 (q := (70, .putfield 40, 3)) rfl
theorem dX3_init_73 : decode cX3_init 73 = .ok (.aload_n 0, 1) := d_of dm_X3_init_c25 9 (q := (73, .aload_n 0, 1)) rfl
theorem dX3_init_74 : decode cX3_init 74 = .ok (.bipush 12, 2) := d_of dm_X3_init_c25 10 (q := (74, .bipush 12, 2)) rfl
theorem dX3_init_76 : decode cX3_init 76 = .ok (.newarray .int, 2) := d_of dm_X3_init_c25 11 (q := (76, .newarray .int, 2)) rfl
theorem dX3_init_78 : decode cX3_init 78 = .ok (.putfield 44, 3) := d_of dm_X3_init_c25 12 (q := (78, .putfield 44, 3)) rfl
theorem dX3_init_81 : decode cX3_init 81 = .ok (.aload_n 0, 1) := d_of dm_X3_init_c25 13 (q := (81, .aload_n 0, 1)) rfl
theorem dX3_init_82 : decode cX3_init 82 = .ok (.iconst 0, 1) := d_of dm_X3_init_c25 14 (q := (82, .iconst 0, 1)) rfl
theorem dX3_init_83 : decode cX3_init 83 = .ok (.putfield 47, 3) := d_of dm_X3_init_c25 15 (q := (83, .putfield 47, 3)) rfl
theorem dX3_init_86 : decode cX3_init 86 = .ok (.aload_n 0, 1) := d_of dm_X3_init_c25 16 (q := (86, .aload_n 0, 1)) rfl
theorem dX3_init_87 : decode cX3_init 87 = .ok (.bipush 7, 2) := d_of dm_X3_init_c25 17 (q := (87, .bipush 7, 2)) rfl
theorem dX3_init_89 : decode cX3_init 89 = .ok (.newarray .int, 2) := d_of dm_X3_init_c25 18 (q := (89, .newarray .int, 2)) rfl
theorem dX3_init_91 : decode cX3_init 91 = .ok (.putfield 51, 3) := d_of dm_X3_init_c25 19 (q := (91, .putfield 51, 3)) rfl
theorem dX3_init_94 : decode cX3_init 94 = .ok (.return_, 1) := d_of dm_X3_init_c25 20 (q := (94, .return_, 1)) rfl
def dl_X3_letter_c0 : List (Nat × Instr × Nat) := [(0, .iload_n 1, 1), (1, .iconst 0, 1), (2, .sipush 255, 3), (5, .invokestatic 54, 3), (8, .istore_n 2, 1), (9, .iload_n 2, 1), (10, .ifCond .eq 9, 3), (13, .aload_n 0, 1), (14, .iload_n 2, 1), (15, .invokevirtual 58, 3), (18, .ireturn, 1), (19, .aload_n 0, 1), (20, .getfield 29, 3), (23, .getfield 62, 3), (26, .bipush 80, 2), (28, .if_icmp .lt 10, 3), (31, .aload_n 0, 1), (32, .bipush (-6), 2), (34, .invokevirtual 58, 3), (37, .ireturn, 1), (38, .aload_n 0, 1), (39, .getfield 29, 3), (42, .iload_n 1, 1), (43, .invokevirtual 65, 3), (46, .ireturn, 1)]
set_option maxRecDepth 100000 in
theorem dm_X3_letter_c0 : dl_X3_letter_c0.all (fun q => decide (decode cX3_letter q.1 = .ok q.2)) = true := by decide +kernel
theorem dX3_letter_0 : decode cX3_letter 0 = .ok (.iload_n 1, 1) := d_of dm_X3_letter_c0 0 (q := (0, .iload_n 1, 1)) rfl
theorem dX3_letter_1 : decode cX3_letter 1 = .ok (.iconst 0, 1) := d_of dm_X3_letter_c0 1 (q := (1, .iconst 0, 1)) rfl
theorem dX3_letter_2 : decode cX3_letter 2 = .ok (.sipush 255, 3) := d_of dm_X3_letter_c0 2 (q := (2, .sipush 255, 3)) rfl
theorem dX3_letter_5 : decode cX3_letter 5 = .ok (.invokestatic 54, 3) := d_of dm_X3_letter_c0 3 (q := (5, .invokestatic 54, 3)) rfl
theorem dX3_letter_8 : decode cX3_letter 8 = .ok (.istore_n 2, 1) := d_of dm_X3_letter_c0 4 (q := (8, .istore_n 2, 1)) rfl
theorem dX3_letter_9 : decode cX3_letter 9 = .ok (.iload_n 2, 1) := d_of dm_X3_letter_c0 5 (q := (9, .iload_n 2, 1)) rfl
theorem dX3_letter_10 : decode cX3_letter 10 = .ok (.ifCond .eq 9, 3) := d_of dm_X3_letter_c0 6 (q := (10, .ifCond .eq 9, 3)) rfl
theorem dX3_letter_13 : decode cX3_letter 13 = .ok (.aload_n 0, 1) := d_of dm_X3_letter_c0 7 (q := (13, .aload_n 0, 1)) rfl
theorem dX3_letter_14 : decode cX3_letter 14 = .ok (.iload_n 2, 1) := d_of dm_X3_letter_c0 8 (q := (14, .iload_n 2, 1)) rfl
theorem dX3_letter_15 : decode cX3_letter 15 = .ok (.invokevirtual 58, 3) := d_of dm_X3_letter_c0 9 (q := (15, .invokevirtual 58, 3)) rfl
theorem dX3_letter_18 : decode cX3_letter 18 = .ok (.ireturn, 1) := d_of dm_X3_letter_c0 10 (q := (18, .ireturn, 1)) rfl
theorem dX3_letter_19 : decode cX3_letter 19 = .ok (.aload_n 0, 1) := d_of dm_X3_letter_c0 11 (q := (19, .aload_n 0, 1)) rfl
theorem dX3_letter_20 : decode cX3_letter 20 = .ok (.getfield 29, 3) := d_of dm_X3_letter_c0 12 (q := (20, .getfield 29, 3)) rfl
theorem dX3_letter_23 : decode cX3_letter 23 = .ok (.getfield 62, 3) := d_of dm_X3_letter_c0 13 (q := (23, .getfield 62, 3)) rfl
theorem dX3_letter_26 : decode cX3_letter 26 = .ok (.bipush 80, 2) := d_of dm_X3_letter_c0 14 (q := (26, .bipush 80, 2)) rfl
theorem dX3_letter_28 : decode cX3_letter 28 = .ok (.if_icmp .lt 10, 3) := d_of dm_X3_letter_c0 15 (q := (28, .if_icmp .lt 10, 3)) rfl
theorem dX3_letter_31 : decode cX3_letter 31 = .ok (.aload_n 0, 1) := d_of dm_X3_letter_c0 16 (q := (31, .aload_n 0, 1)) rfl
theorem dX3_letter_32 : decode cX3_letter 32 = .ok (.bipush (-6), 2) := d_of dm_X3_letter_c0 17 (q := (32, .bipush (-6), 2)) rfl
theorem dX3_letter_34 : decode cX3_letter 34 = .ok (.invokevirtual 58, 3) := d_of dm_X3_letter_c0 18 (q := (34, .invokevirtual 58, 3)) rfl
theorem dX3_letter_37 : decode cX3_letter 37 = .ok (.ireturn, 1) := d_of dm_X3_letter_c0 19 (q := (37, .ireturn, 1)) rfl
theorem dX3_letter_38 : decode cX3_letter 38 = .ok (.aload_n 0, 1) := d_of dm_X3_letter_c0 20 (q := (38, .aload_n 0, 1)) rfl
theorem dX3_letter_39 : decode cX3_letter 39 = .ok (.getfield 29, 3) := d_of dm_X3_letter_c0 21 (q := (39, .getfield 29, 3)) rfl
theorem dX3_letter_42 : decode cX3_letter 42 = .ok (.iload_n 1, 1) := d_of dm_X3_letter_c0 22 (q := (42, .iload_n 1, 1)) rfl
theorem dX3_letter_43 : decode cX3_letter 43 = .ok (.invokevirtual 65, 3) := d_of dm_X3_letter_c0 23 (q := (43, .invokevirtual 65, 3)) rfl
theorem dX3_letter_46 : decode cX3_letter 46 = .ok (.ireturn, 1) := d_of dm_X3_letter_c0 24 (q := (46, .ireturn, 1)) rfl
def dl_X3_house_c0 : List (Nat × Instr × Nat) := [(0, .aload_n 0, 1), (1, .getfield 16, 3), (4, .aload_n 0, 1), (5, .getfield 10, 3), (8, .invokevirtual 68, 3), (11, .aload_n 0, 1), (12, .getfield 29, 3), (15, .aload_n 0, 1), (16, .getfield 16, 3), (19, .invokevirtual 72, 3), (22, .istore_n 1, 1), (23, .iload_n 1, 1), (24, .ifCond .le 14, 3), (27, .aload_n 0, 1), (28, .getfield 10, 3), (31, .aload_n 0, 1), (32, .getfield 16, 3), (35, .invokevirtual 68, 3), (38, .aload_n 0, 1), (39, .getfield 29, 3), (42, .iconst 0, 1), (43, .putfield 62, 3), (46, .iload_n 1, 1), (47, .ireturn, 1)]
set_option maxRecDepth 100000 in
theorem dm_X3_house_c0 : dl_X3_house_c0.all (fun q => decide (decode cX3_house q.1 = .ok q.2)) = true := by decide +kernel
theorem dX3_house_0 : decode cX3_house 0 = .ok (.aload_n 0, 1) := d_of dm_X3_house_c0 0 (q := (0, .aload_n 0, 1)) rfl
theorem dX3_house_1 : decode cX3_house 1 = .ok (.getfield 16, 3) := d_of dm_X3_house_c0 1 (q := (1, .getfield 16, 3)) rfl
theorem dX3_house_4 : decode cX3_house 4 = .ok (.aload_n 0, 1) := d_of dm_X3_house_c0 2 (q := (4, .aload_n 0, 1)) rfl
theorem dX3_house_5 : decode cX3_house 5 = .ok (.getfield 10, 3) := d_of dm_X3_house_c0 3 (q := (5, .getfield 10, 3)) rfl
theorem dX3_house_8 : decode cX3_house 8 = .ok (.invokevirtual 68, 3) := d_of dm_X3_house_c0 4 (q := (8, .invokevirtual 68, 3)) rfl
theorem dX3_house_11 : decode cX3_house 11 = .ok (.aload_n 0, 1) := d_of dm_X3_house_c0 5 (q := (11, .aload_n 0, 1)) rfl
theorem dX3_house_12 : decode cX3_house 12 = .ok (.getfield 29, 3) := d_of dm_X3_house_c0 6 (q := (12, .getfield 29, 3)) rfl
theorem dX3_house_15 : decode cX3_house 15 = .ok (.aload_n 0, 1) := d_of dm_X3_house_c0 7 (q := (15, .aload_n 0, 1)) rfl
theorem dX3_house_16 : decode cX3_house 16 = .ok (.getfield 16, 3) := d_of dm_X3_house_c0 8 (q := (16, .getfield 16, 3)) rfl
theorem dX3_house_19 : decode cX3_house 19 = .ok (.invokevirtual 72, 3) := d_of dm_X3_house_c0 9 (q := (19, .invokevirtual 72, 3)) rfl
theorem dX3_house_22 : decode cX3_house 22 = .ok (.istore_n 1, 1) := d_of dm_X3_house_c0 10 (q := (22, .istore_n 1, 1)) rfl
theorem dX3_house_23 : decode cX3_house 23 = .ok (.iload_n 1, 1) := d_of dm_X3_house_c0 11 (q := (23, .iload_n 1, 1)) rfl
theorem dX3_house_24 : decode cX3_house 24 = .ok (.ifCond .le 14, 3) := d_of dm_X3_house_c0 12 (q := (24, .ifCond .le 14, 3)) rfl
theorem dX3_house_27 : decode cX3_house 27 = .ok (.aload_n 0, 1) := d_of dm_X3_house_c0 13 (q := (27, .aload_n 0, 1)) rfl
theorem dX3_house_28 : decode cX3_house 28 = .ok (.getfield 10, 3) := d_of dm_X3_house_c0 14 (q := (28, .getfield 10, 3)) rfl
theorem dX3_house_31 : decode cX3_house 31 = .ok (.aload_n 0, 1) := d_of dm_X3_house_c0 15 (q := (31, .aload_n 0, 1)) rfl
theorem dX3_house_32 : decode cX3_house 32 = .ok (.getfield 16, 3) := d_of dm_X3_house_c0 16 (q := (32, .getfield 16, 3)) rfl
theorem dX3_house_35 : decode cX3_house 35 = .ok (.invokevirtual 68, 3) := d_of dm_X3_house_c0 17 (q := (35, .invokevirtual 68, 3)) rfl
theorem dX3_house_38 : decode cX3_house 38 = .ok (.aload_n 0, 1) := d_of dm_X3_house_c0 18 (q := (38, .aload_n 0, 1)) rfl
theorem dX3_house_39 : decode cX3_house 39 = .ok (.getfield 29, 3) := d_of dm_X3_house_c0 19 (q := (39, .getfield 29, 3)) rfl
theorem dX3_house_42 : decode cX3_house 42 = .ok (.iconst 0, 1) := d_of dm_X3_house_c0 20 (q := (42, .iconst 0, 1)) rfl
theorem dX3_house_43 : decode cX3_house 43 = .ok (.putfield 62, 3) := d_of dm_X3_house_c0 21 (q := (43, .putfield 62, 3)) rfl
theorem dX3_house_46 : decode cX3_house 46 = .ok (.iload_n 1, 1) := d_of dm_X3_house_c0 22 (q := (46, .iload_n 1, 1)) rfl
theorem dX3_house_47 : decode cX3_house 47 = .ok (.ireturn, 1) := d_of dm_X3_house_c0 23 (q := (47, .ireturn, 1)) rfl
def dl_X3_thing_c0 : List (Nat × Instr × Nat) := [(0, .aload_n 0, 1), (1, .getfield 10, 3), (4, .iload_n 1, 1), (5, .invokevirtual 76, 3), (8, .ifCond .ne 9, 3), (11, .aload_n 0, 1), (12, .iconst (-1), 1), (13, .invokevirtual 58, 3), (16, .ireturn, 1), (17, .iload_n 2, 1), (18, .tableswitch 56 0 2 #[26, 36, 46], 26), (44, .aload_n 0, 1), (45, .getfield 10, 3), (48, .getfield 80, 3), (51, .iload_n 1, 1), (52, .iaload, 1), (53, .ireturn, 1), (54, .aload_n 0, 1), (55, .getfield 10, 3), (58, .getfield 83, 3), (61, .iload_n 1, 1), (62, .iaload, 1), (63, .ireturn, 1), (64, .aload_n 0, 1), (65, .getfield 10, 3)]
set_option maxRecDepth 100000 in
theorem dm_X3_thing_c0 : dl_X3_thing_c0.all (fun q => decide (decode cX3_thing q.1 = .ok q.2)) = true := by decide +kernel
theorem dX3_thing_0 : decode cX3_thing 0 = .ok (.aload_n 0, 1) := d_of dm_X3_thing_c0 0 (q := (0, .aload_n 0, 1)) rfl
theorem dX3_thing_1 : decode cX3_thing 1 = .ok (.getfield 10, 3) := d_of dm_X3_thing_c0 1 (q := (1, .getfield 10, 3)) rfl
theorem dX3_thing_4 : decode cX3_thing 4 = .ok (.iload_n 1, 1) := d_of dm_X3_thing_c0 2 (q := (4, .iload_n 1, 1)) rfl
theorem dX3_thing_5 : decode cX3_thing 5 = .ok (.invokevirtual 76, 3) := d_of dm_X3_thing_c0 3 (q := (5, .invokevirtual 76, 3)) rfl
theorem dX3_thing_8 : decode cX3_thing 8 = .ok (.ifCond .ne 9, 3) := d_of dm_X3_thing_c0 4 (q := (8, .ifCond .ne 9, 3)) rfl
theorem dX3_thing_11 : decode cX3_thing 11 = .ok (.aload_n 0, 1) := d_of dm_X3_thing_c0 5 (q := (11, .aload_n 0, 1)) rfl
theorem dX3_thing_12 : decode cX3_thing 12 = .ok (.iconst (-1), 1) := d_of dm_X3_thing_c0 6 (q := (12, .iconst (-1), 1)) rfl
theorem dX3_thing_13 : decode cX3_thing 13 = .ok (.invokevirtual 58, 3) := d_of dm_X3_thing_c0 7 (q := (13, .invokevirtual 58, 3)) rfl
theorem dX3_thing_16 : decode cX3_thing 16 = .ok (.ireturn, 1) := d_of dm_X3_thing_c0 8 (q := (16, .ireturn, 1)) rfl
theorem dX3_thing_17 : decode cX3_thing 17 = .ok (.iload_n 2, 1) := d_of dm_X3_thing_c0 9 (q := (17, .iload_n 2, 1)) rfl
theorem dX3_thing_18 : decode cX3_thing 18 = .ok (.tableswitch 56 0 2 #[26, 36, 46], 26) := d_of dm_X3_thing_c0 10 (q := (18, .tableswitch 56 0 2 #[26, 36, 46], 26)) rfl
theorem dX3_thing_44 : decode cX3_thing 44 = .ok (.aload_n 0, 1) := d_of dm_X3_thing_c0 11 (q := (44, .aload_n 0, 1)) rfl
theorem dX3_thing_45 : decode cX3_thing 45 = .ok (.getfield 10, 3) := d_of dm_X3_thing_c0 12 (q := (45, .getfield 10, 3)) rfl
theorem dX3_thing_48 : decode cX3_thing 48 = .ok (.getfield 80, 3) := d_of dm_X3_thing_c0 13 (q := (48, .getfield 80, 3)) rfl
theorem dX3_thing_51 : decode cX3_thing 51 = .ok (.iload_n 1, 1) := d_of dm_X3_thing_c0 14 (q := (51, .iload_n 1, 1)) rfl
theorem dX3_thing_52 : decode cX3_thing 52 = .ok (.iaload, 1) := d_of dm_X3_thing_c0 15 (q := (52, .iaload, 1)) rfl
theorem dX3_thing_53 : decode cX3_thing 53 = .ok (.ireturn, 1) := d_of dm_X3_thing_c0 16 (q := (53, .ireturn, 1)) rfl
theorem dX3_thing_54 : decode cX3_thing 54 = .ok (.aload_n 0, 1) := d_of dm_X3_thing_c0 17 (q := (54, .aload_n 0, 1)) rfl
theorem dX3_thing_55 : decode cX3_thing 55 = .ok (.getfield 10, 3) := d_of dm_X3_thing_c0 18 (q := (55, .getfield 10, 3)) rfl
theorem dX3_thing_58 : decode cX3_thing 58 = .ok (.getfield 83, 3) := d_of dm_X3_thing_c0 19 (q := (58, .getfield 83, 3)) rfl
theorem dX3_thing_61 : decode cX3_thing 61 = .ok (.iload_n 1, 1) := d_of dm_X3_thing_c0 20 (q := (61, .iload_n 1, 1)) rfl
theorem dX3_thing_62 : decode cX3_thing 62 = .ok (.iaload, 1) := d_of dm_X3_thing_c0 21 (q := (62, .iaload, 1)) rfl
theorem dX3_thing_63 : decode cX3_thing 63 = .ok (.ireturn, 1) := d_of dm_X3_thing_c0 22 (q := (63, .ireturn, 1)) rfl
theorem dX3_thing_64 : decode cX3_thing 64 = .ok (.aload_n 0, 1) := d_of dm_X3_thing_c0 23 (q := (64, .aload_n 0, 1)) rfl
theorem dX3_thing_65 : decode cX3_thing 65 = .ok (.getfield 10, 3) := d_of dm_X3_thing_c0 24 (q := (65, .getfield 10, 3)) rfl
def dl_X3_thing_c25 : List (Nat × Instr × Nat) := [(68, .getfield 86, 3), (71, .iload_n 1, 1), (72, .iaload, 1), (73, .ireturn, 1), (74, .aload_n 0, 1), (75, .bipush (-2), 2), (77, .invokevirtual 58, 3), (80, .ireturn, 1)]
set_option maxRecDepth 100000 in
theorem dm_X3_thing_c25 : dl_X3_thing_c25.all (fun q => decide (decode cX3_thing q.1 = .ok q.2)) = true := by decide +kernel
theorem dX3_thing_68 : decode cX3_thing 68 = .ok (.getfield 86, 3) := d_of dm_X3_thing_c25 0 (q := (68, .getfield 86, 3)) rfl
theorem dX3_thing_71 : decode cX3_thing 71 = .ok (.iload_n 1, 1) := d_of dm_X3_thing_c25 1 (q := (71, .iload_n 1, 1)) rfl
theorem dX3_thing_72 : decode cX3_thing 72 = .ok (.iaload, 1) := d_of dm_X3_thing_c25 2 (q := (72, .iaload, 1)) rfl
theorem dX3_thing_73 : decode cX3_thing 73 = .ok (.ireturn, 1) := d_of dm_X3_thing_c25 3 (q := (73, .ireturn, 1)) rfl
theorem dX3_thing_74 : decode cX3_thing 74 = .ok (.aload_n 0, 1) := d_of dm_X3_thing_c25 4 (q := (74, .aload_n 0, 1)) rfl
theorem dX3_thing_75 : decode cX3_thing 75 = .ok (.bipush (-2), 2) := d_of dm_X3_thing_c25 5 (q := (75, .bipush (-2), 2)) rfl
theorem dX3_thing_77 : decode cX3_thing 77 = .ok (.invokevirtual 58, 3) := d_of dm_X3_thing_c25 6 (q := (77, .invokevirtual 58, 3)) rfl
theorem dX3_thing_80 : decode cX3_thing 80 = .ok (.ireturn, 1) := d_of dm_X3_thing_c25 7 (q := (80, .ireturn, 1)) rfl
def dl_X3_line_c0 : List (Nat × Instr × Nat) := [(0, .aload_n 0, 1), (1, .getfield 10, 3), (4, .iload_n 1, 1), (5, .invokevirtual 89, 3), (8, .ifCond .ne 9, 3), (11, .aload_n 0, 1), (12, .iconst (-1), 1), (13, .invokevirtual 58, 3), (16, .ireturn, 1), (17, .iload_n 2, 1), (18, .tableswitch 58 0 2 #[26, 36, 46], 26), (44, .aload_n 0, 1), (45, .getfield 10, 3), (48, .getfield 92, 3), (51, .iload_n 1, 1), (52, .iaload, 1), (53, .ireturn, 1), (54, .aload_n 0, 1), (55, .getfield 10, 3), (58, .getfield 95, 3), (61, .iload_n 1, 1), (62, .iaload, 1), (63, .ireturn, 1), (64, .aload_n 0, 1), (65, .getfield 10, 3)]
set_option maxRecDepth 100000 in
theorem dm_X3_line_c0 : dl_X3_line_c0.all (fun q => decide (decode cX3_line q.1 = .ok q.2)) = true := by decide +kernel
theorem dX3_line_0 : decode cX3_line 0 = .ok (.aload_n 0, 1) := d_of dm_X3_line_c0 0 (q := (0, .aload_n 0, 1)) rfl
theorem dX3_line_1 : decode cX3_line 1 = .ok (.getfield 10, 3) := d_of dm_X3_line_c0 1 (q := (1, .getfield 10, 3)) rfl
theorem dX3_line_4 : decode cX3_line 4 = .ok (.iload_n 1, 1) := d_of dm_X3_line_c0 2 (q := (4, .iload_n 1, 1)) rfl
theorem dX3_line_5 : decode cX3_line 5 = .ok (.invokevirtual 89, 3) := d_of dm_X3_line_c0 3 (q := (5, .invokevirtual 89, 3)) rfl
theorem dX3_line_8 : decode cX3_line 8 = .ok (.ifCond .ne 9, 3) := d_of dm_X3_line_c0 4 (q := (8, .ifCond .ne 9, 3)) rfl
theorem dX3_line_11 : decode cX3_line 11 = .ok (.aload_n 0, 1) := d_of dm_X3_line_c0 5 (q := (11, .aload_n 0, 1)) rfl
theorem dX3_line_12 : decode cX3_line 12 = .ok (.iconst (-1), 1) := d_of dm_X3_line_c0 6 (q := (12, .iconst (-1), 1)) rfl
theorem dX3_line_13 : decode cX3_line 13 = .ok (.invokevirtual 58, 3) := d_of dm_X3_line_c0 7 (q := (13, .invokevirtual 58, 3)) rfl
theorem dX3_line_16 : decode cX3_line 16 = .ok (.ireturn, 1) := d_of dm_X3_line_c0 8 (q := (16, .ireturn, 1)) rfl
theorem dX3_line_17 : decode cX3_line 17 = .ok (.iload_n 2, 1) := d_of dm_X3_line_c0 9 (q := (17, .iload_n 2, 1)) rfl
theorem dX3_line_18 : decode cX3_line 18 = .ok (.tableswitch 58 0 2 #[26, 36, 46], 26) := d_of dm_X3_line_c0 10 (q := (18, .tableswitch 58 0 2 #[26, 36, 46], 26)) rfl
theorem dX3_line_44 : decode cX3_line 44 = .ok (.aload_n 0, 1) := d_of dm_X3_line_c0 11 (q := (44, .aload_n 0, 1)) rfl
theorem dX3_line_45 : decode cX3_line 45 = .ok (.getfield 10, 3) := d_of dm_X3_line_c0 12 (q := (45, .getfield 10, 3)) rfl
theorem dX3_line_48 : decode cX3_line 48 = .ok (.getfield 92, 3) := d_of dm_X3_line_c0 13 (q := (48, .getfield 92, 3)) rfl
theorem dX3_line_51 : decode cX3_line 51 = .ok (.iload_n 1, 1) := d_of dm_X3_line_c0 14 (q := (51, .iload_n 1, 1)) rfl
theorem dX3_line_52 : decode cX3_line 52 = .ok (.iaload, 1) := d_of dm_X3_line_c0 15 (q := (52, .iaload, 1)) rfl
theorem dX3_line_53 : decode cX3_line 53 = .ok (.ireturn, 1) := d_of dm_X3_line_c0 16 (q := (53, .ireturn, 1)) rfl
theorem dX3_line_54 : decode cX3_line 54 = .ok (.aload_n 0, 1) := d_of dm_X3_line_c0 17 (q := (54, .aload_n 0, 1)) rfl
theorem dX3_line_55 : decode cX3_line 55 = .ok (.getfield 10, 3) := d_of dm_X3_line_c0 18 (q := (55, .getfield 10, 3)) rfl
theorem dX3_line_58 : decode cX3_line 58 = .ok (.getfield 95, 3) := d_of dm_X3_line_c0 19 (q := (58, .getfield 95, 3)) rfl
theorem dX3_line_61 : decode cX3_line 61 = .ok (.iload_n 1, 1) := d_of dm_X3_line_c0 20 (q := (61, .iload_n 1, 1)) rfl
theorem dX3_line_62 : decode cX3_line 62 = .ok (.iaload, 1) := d_of dm_X3_line_c0 21 (q := (62, .iaload, 1)) rfl
theorem dX3_line_63 : decode cX3_line 63 = .ok (.ireturn, 1) := d_of dm_X3_line_c0 22 (q := (63, .ireturn, 1)) rfl
theorem dX3_line_64 : decode cX3_line 64 = .ok (.aload_n 0, 1) := d_of dm_X3_line_c0 23 (q := (64, .aload_n 0, 1)) rfl
theorem dX3_line_65 : decode cX3_line 65 = .ok (.getfield 10, 3) := d_of dm_X3_line_c0 24 (q := (65, .getfield 10, 3)) rfl
def dl_X3_line_c25 : List (Nat × Instr × Nat) := [(68, .getfield 98, 3), (71, .iload_n 1, 1), (72, .ishr, 1), (73, .iconst 1, 1), (74, .iand, 1), (75, .ireturn, 1), (76, .aload_n 0, 1), (77, .bipush (-2), 2), (79, .invokevirtual 58, 3), (82, .ireturn, 1)]
set_option maxRecDepth 100000 in
theorem dm_X3_line_c25 : dl_X3_line_c25.all (fun q => decide (decode cX3_line q.1 = .ok q.2)) = true := by decide +kernel
theorem dX3_line_68 : decode cX3_line 68 = .ok (.getfield 98, 3) := d_of dm_X3_line_c25 0 (q := (68, .getfield 98, 3)) rfl
theorem dX3_line_71 : decode cX3_line 71 = .ok (.iload_n 1, 1) := d_of dm_X3_line_c25 1 (q := (71, .iload_n 1, 1)) rfl
theorem dX3_line_72 : decode cX3_line 72 = .ok (.ishr, 1) := d_of dm_X3_line_c25 2 (q := (72, .ishr, 1)) rfl
theorem dX3_line_73 : decode cX3_line 73 = .ok (.iconst 1, 1) := d_of dm_X3_line_c25 3 (q := (73, .iconst 1, 1)) rfl
theorem dX3_line_74 : decode cX3_line 74 = .ok (.iand, 1) := d_of dm_X3_line_c25 4 (q := (74, .iand, 1)) rfl
theorem dX3_line_75 : decode cX3_line 75 = .ok (.ireturn, 1) := d_of dm_X3_line_c25 5 (q := (75, .ireturn, 1)) rfl
theorem dX3_line_76 : decode cX3_line 76 = .ok (.aload_n 0, 1) := d_of dm_X3_line_c25 6 (q := (76, .aload_n 0, 1)) rfl
theorem dX3_line_77 : decode cX3_line 77 = .ok (.bipush (-2), 2) := d_of dm_X3_line_c25 7 (q := (77, .bipush (-2), 2)) rfl
theorem dX3_line_79 : decode cX3_line 79 = .ok (.invokevirtual 58, 3) := d_of dm_X3_line_c25 8 (q := (79, .invokevirtual 58, 3)) rfl
theorem dX3_line_82 : decode cX3_line 82 = .ok (.ireturn, 1) := d_of dm_X3_line_c25 9 (q := (82, .ireturn, 1)) rfl
def dl_X3_curtain_c0 : List (Nat × Instr × Nat) := [(0, .aload_n 0, 1), (1, .getfield 10, 3), (4, .iload_n 1, 1), (5, .invokevirtual 89, 3), (8, .ifCond .ne 9, 3), (11, .aload_n 0, 1), (12, .iconst (-1), 1), (13, .invokevirtual 58, 3), (16, .ireturn, 1), (17, .aload_n 0, 1), (18, .getfield 10, 3), (21, .aload_n 0, 1), (22, .getfield 10, 3), (25, .getfield 98, 3), (28, .iconst 1, 1), (29, .iload_n 1, 1), (30, .ishl, 1), (31, .ixor, 1), (32, .invokevirtual 101, 3), (35, .aload_n 0, 1), (36, .getfield 10, 3), (39, .getfield 98, 3), (42, .iload_n 1, 1), (43, .ishr, 1), (44, .iconst 1, 1)]
set_option maxRecDepth 100000 in
theorem dm_X3_curtain_c0 : dl_X3_curtain_c0.all (fun q => decide (decode cX3_curtain q.1 = .ok q.2)) = true := by decide +kernel
theorem dX3_curtain_0 : decode cX3_curtain 0 = .ok (.aload_n 0, 1) := d_of dm_X3_curtain_c0 0 (q := (0, .aload_n 0, 1)) rfl
theorem dX3_curtain_1 : decode cX3_curtain 1 = .ok (.getfield 10, 3) := d_of dm_X3_curtain_c0 1 (q := (1, .getfield 10, 3)) rfl
theorem dX3_curtain_4 : decode cX3_curtain 4 = .ok (.iload_n 1, 1) := d_of dm_X3_curtain_c0 2 (q := (4, .iload_n 1, 1)) rfl
theorem dX3_curtain_5 : decode cX3_curtain 5 = .ok (.invokevirtual 89, 3) := d_of dm_X3_curtain_c0 3 (q := (5, .invokevirtual 89, 3)) rfl
theorem dX3_curtain_8 : decode cX3_curtain 8 = .ok (.ifCond .ne 9, 3) := d_of dm_X3_curtain_c0 4 (q := (8, .ifCond .ne 9, 3)) rfl
theorem dX3_curtain_11 : decode cX3_curtain 11 = .ok (.aload_n 0, 1) := d_of dm_X3_curtain_c0 5 (q := (11, .aload_n 0, 1)) rfl
theorem dX3_curtain_12 : decode cX3_curtain 12 = .ok (.iconst (-1), 1) := d_of dm_X3_curtain_c0 6 (q := (12, .iconst (-1), 1)) rfl
theorem dX3_curtain_13 : decode cX3_curtain 13 = .ok (.invokevirtual 58, 3) := d_of dm_X3_curtain_c0 7 (q := (13, .invokevirtual 58, 3)) rfl
theorem dX3_curtain_16 : decode cX3_curtain 16 = .ok (.ireturn, 1) := d_of dm_X3_curtain_c0 8 (q := (16, .ireturn, 1)) rfl
theorem dX3_curtain_17 : decode cX3_curtain 17 = .ok (.aload_n 0, 1) := d_of dm_X3_curtain_c0 9 (q := (17, .aload_n 0, 1)) rfl
theorem dX3_curtain_18 : decode cX3_curtain 18 = .ok (.getfield 10, 3) := d_of dm_X3_curtain_c0 10 (q := (18, .getfield 10, 3)) rfl
theorem dX3_curtain_21 : decode cX3_curtain 21 = .ok (.aload_n 0, 1) := d_of dm_X3_curtain_c0 11 (q := (21, .aload_n 0, 1)) rfl
theorem dX3_curtain_22 : decode cX3_curtain 22 = .ok (.getfield 10, 3) := d_of dm_X3_curtain_c0 12 (q := (22, .getfield 10, 3)) rfl
theorem dX3_curtain_25 : decode cX3_curtain 25 = .ok (.getfield 98, 3) := d_of dm_X3_curtain_c0 13 (q := (25, .getfield 98, 3)) rfl
theorem dX3_curtain_28 : decode cX3_curtain 28 = .ok (.iconst 1, 1) := d_of dm_X3_curtain_c0 14 (q := (28, .iconst 1, 1)) rfl
theorem dX3_curtain_29 : decode cX3_curtain 29 = .ok (.iload_n 1, 1) := d_of dm_X3_curtain_c0 15 (q := (29, .iload_n 1, 1)) rfl
theorem dX3_curtain_30 : decode cX3_curtain 30 = .ok (.ishl, 1) := d_of dm_X3_curtain_c0 16 (q := (30, .ishl, 1)) rfl
theorem dX3_curtain_31 : decode cX3_curtain 31 = .ok (.ixor, 1) := d_of dm_X3_curtain_c0 17 (q := (31, .ixor, 1)) rfl
theorem dX3_curtain_32 : decode cX3_curtain 32 = .ok (.invokevirtual 101, 3) := d_of dm_X3_curtain_c0 18 (q := (32, .invokevirtual 101, 3)) rfl
theorem dX3_curtain_35 : decode cX3_curtain 35 = .ok (.aload_n 0, 1) := d_of dm_X3_curtain_c0 19 (q := (35, .aload_n 0, 1)) rfl
theorem dX3_curtain_36 : decode cX3_curtain 36 = .ok (.getfield 10, 3) := d_of dm_X3_curtain_c0 20 (q := (36, .getfield 10, 3)) rfl
theorem dX3_curtain_39 : decode cX3_curtain 39 = .ok (.getfield 98, 3) := d_of dm_X3_curtain_c0 21 (q := (39, .getfield 98, 3)) rfl
theorem dX3_curtain_42 : decode cX3_curtain 42 = .ok (.iload_n 1, 1) := d_of dm_X3_curtain_c0 22 (q := (42, .iload_n 1, 1)) rfl
theorem dX3_curtain_43 : decode cX3_curtain 43 = .ok (.ishr, 1) := d_of dm_X3_curtain_c0 23 (q := (43, .ishr, 1)) rfl
theorem dX3_curtain_44 : decode cX3_curtain 44 = .ok (.iconst 1, 1) := d_of dm_X3_curtain_c0 24 (q := (44, .iconst 1, 1)) rfl
def dl_X3_curtain_c25 : List (Nat × Instr × Nat) := [(45, .iand, 1), (46, .ireturn, 1)]
set_option maxRecDepth 100000 in
theorem dm_X3_curtain_c25 : dl_X3_curtain_c25.all (fun q => decide (decode cX3_curtain q.1 = .ok q.2)) = true := by decide +kernel
theorem dX3_curtain_45 : decode cX3_curtain 45 = .ok (.iand, 1) := d_of dm_X3_curtain_c25 0 (q := (45, .iand, 1)) rfl
theorem dX3_curtain_46 : decode cX3_curtain 46 = .ok (.ireturn, 1) := d_of dm_X3_curtain_c25 1 (q := (46, .ireturn, 1)) rfl
def dl_X3_move_c0 : List (Nat × Instr × Nat) := [(0, .aload_n 0, 1), (1, .getfield 10, 3), (4, .iload_n 1, 1), (5, .invokevirtual 76, 3), (8, .ifCond .eq 10, 3), (11, .iload_n 2, 1), (12, .invokestatic 105, 3), (15, .ifCond .ne 9, 3), (18, .aload_n 0, 1), (19, .iconst (-1), 1), (20, .invokevirtual 58, 3), (23, .ireturn, 1), (24, .aload_n 0, 1), (25, .getfield 10, 3), (28, .getfield 83, 3), (31, .iload_n 1, 1), (32, .iaload, 1), (33, .istore_n 3, 1), (34, .aload_n 0, 1), (35, .getfield 10, 3), (38, .getfield 83, 3), (41, .iload_n 1, 1), (42, .iload_n 2, 1), (43, .iastore, 1), (44, .iload_n 3, 1)]
set_option maxRecDepth 100000 in
theorem dm_X3_move_c0 : dl_X3_move_c0.all (fun q => decide (decode cX3_move q.1 = .ok q.2)) = true := by decide +kernel
theorem dX3_move_0 : decode cX3_move 0 = .ok (.aload_n 0, 1) := d_of dm_X3_move_c0 0 (q := (0, .aload_n 0, 1)) rfl
theorem dX3_move_1 : decode cX3_move 1 = .ok (.getfield 10, 3) := d_of dm_X3_move_c0 1 (q := (1, .getfield 10, 3)) rfl
theorem dX3_move_4 : decode cX3_move 4 = .ok (.iload_n 1, 1) := d_of dm_X3_move_c0 2 (q := (4, .iload_n 1, 1)) rfl
theorem dX3_move_5 : decode cX3_move 5 = .ok (.invokevirtual 76, 3) := d_of dm_X3_move_c0 3 (q := (5, .invokevirtual 76, 3)) rfl
theorem dX3_move_8 : decode cX3_move 8 = .ok (.ifCond .eq 10, 3) := d_of dm_X3_move_c0 4 (q := (8, .ifCond .eq 10, 3)) rfl
theorem dX3_move_11 : decode cX3_move 11 = .ok (.iload_n 2, 1) := d_of dm_X3_move_c0 5 (q := (11, .iload_n 2, 1)) rfl
theorem dX3_move_12 : decode cX3_move 12 = .ok (.invokestatic 105, 3) := d_of dm_X3_move_c0 6 (q := (12, .invokestatic 105, 3)) rfl
theorem dX3_move_15 : decode cX3_move 15 = .ok (.ifCond .ne 9, 3) := d_of dm_X3_move_c0 7 (q := (15, .ifCond .ne 9, 3)) rfl
theorem dX3_move_18 : decode cX3_move 18 = .ok (.aload_n 0, 1) := d_of dm_X3_move_c0 8 (q := (18, .aload_n 0, 1)) rfl
theorem dX3_move_19 : decode cX3_move 19 = .ok (.iconst (-1), 1) := d_of dm_X3_move_c0 9 (q := (19, .iconst (-1), 1)) rfl
theorem dX3_move_20 : decode cX3_move 20 = .ok (.invokevirtual 58, 3) := d_of dm_X3_move_c0 10 (q := (20, .invokevirtual 58, 3)) rfl
theorem dX3_move_23 : decode cX3_move 23 = .ok (.ireturn, 1) := d_of dm_X3_move_c0 11 (q := (23, .ireturn, 1)) rfl
theorem dX3_move_24 : decode cX3_move 24 = .ok (.aload_n 0, 1) := d_of dm_X3_move_c0 12 (q := (24, .aload_n 0, 1)) rfl
theorem dX3_move_25 : decode cX3_move 25 = .ok (.getfield 10, 3) := d_of dm_X3_move_c0 13 (q := (25, .getfield 10, 3)) rfl
theorem dX3_move_28 : decode cX3_move 28 = .ok (.getfield 83, 3) := d_of dm_X3_move_c0 14 (q := (28, .getfield 83, 3)) rfl
theorem dX3_move_31 : decode cX3_move 31 = .ok (.iload_n 1, 1) := d_of dm_X3_move_c0 15 (q := (31, .iload_n 1, 1)) rfl
theorem dX3_move_32 : decode cX3_move 32 = .ok (.iaload, 1) := d_of dm_X3_move_c0 16 (q := (32, .iaload, 1)) rfl
theorem dX3_move_33 : decode cX3_move 33 = .ok (.istore_n 3, 1) := d_of dm_X3_move_c0 17 (q := (33, .istore_n 3, 1)) rfl
theorem dX3_move_34 : decode cX3_move 34 = .ok (.aload_n 0, 1) := d_of dm_X3_move_c0 18 (q := (34, .aload_n 0, 1)) rfl
theorem dX3_move_35 : decode cX3_move 35 = .ok (.getfield 10, 3) := d_of dm_X3_move_c0 19 (q := (35, .getfield 10, 3)) rfl
theorem dX3_move_38 : decode cX3_move 38 = .ok (.getfield 83, 3) := d_of dm_X3_move_c0 20 (q := (38, .getfield 83, 3)) rfl
theorem dX3_move_41 : decode cX3_move 41 = .ok (.iload_n 1, 1) := d_of dm_X3_move_c0 21 (q := (41, .iload_n 1, 1)) rfl
theorem dX3_move_42 : decode cX3_move 42 = .ok (.iload_n 2, 1) := d_of dm_X3_move_c0 22 (q := (42, .iload_n 2, 1)) rfl
theorem dX3_move_43 : decode cX3_move 43 = .ok (.iastore, 1) := d_of dm_X3_move_c0 23 (q := (43, .iastore, 1)) rfl
theorem dX3_move_44 : decode cX3_move 44 = .ok (.iload_n 3, 1) := d_of dm_X3_move_c0 24 (q := (44, .iload_n 3, 1)) rfl
def dl_X3_move_c25 : List (Nat × Instr × Nat) := [(45, .ireturn, 1)]
set_option maxRecDepth 100000 in
theorem dm_X3_move_c25 : dl_X3_move_c25.all (fun q => decide (decode cX3_move q.1 = .ok q.2)) = true := by decide +kernel
theorem dX3_move_45 : decode cX3_move 45 = .ok (.ireturn, 1) := d_of dm_X3_move_c25 0 (q := (45, .ireturn, 1)) rfl
def dl_X3_pair_c0 : List (Nat × Instr × Nat) := [(0, .aload_n 0, 1), (1, .getfield 10, 3), (4, .iload_n 1, 1), (5, .invokevirtual 76, 3), (8, .ifCond .eq 19, 3), (11, .aload_n 0, 1), (12, .getfield 10, 3), (15, .iload_n 2, 1), (16, .invokevirtual 76, 3), (19, .ifCond .eq 8, 3), (22, .iload_n 1, 1), (23, .iload_n 2, 1), (24, .if_icmp .ne 9, 3), (27, .aload_n 0, 1), (28, .iconst (-1), 1), (29, .invokevirtual 58, 3), (32, .ireturn, 1), (33, .aload_n 0, 1), (34, .getfield 10, 3), (37, .iload_n 1, 1), (38, .iload_n 2, 1), (39, .invokevirtual 108, 3), (42, .ireturn, 1)]
set_option maxRecDepth 100000 in
theorem dm_X3_pair_c0 : dl_X3_pair_c0.all (fun q => decide (decode cX3_pair q.1 = .ok q.2)) = true := by decide +kernel
theorem dX3_pair_0 : decode cX3_pair 0 = .ok (.aload_n 0, 1) := d_of dm_X3_pair_c0 0 (q := (0, .aload_n 0, 1)) rfl
theorem dX3_pair_1 : decode cX3_pair 1 = .ok (.getfield 10, 3) := d_of dm_X3_pair_c0 1 (q := (1, .getfield 10, 3)) rfl
theorem dX3_pair_4 : decode cX3_pair 4 = .ok (.iload_n 1, 1) := d_of dm_X3_pair_c0 2 (q := (4, .iload_n 1, 1)) rfl
theorem dX3_pair_5 : decode cX3_pair 5 = .ok (.invokevirtual 76, 3) := d_of dm_X3_pair_c0 3 (q := (5, .invokevirtual 76, 3)) rfl
theorem dX3_pair_8 : decode cX3_pair 8 = .ok (.ifCond .eq 19, 3) := d_of dm_X3_pair_c0 4 (q := (8, .ifCond .eq 19, 3)) rfl
theorem dX3_pair_11 : decode cX3_pair 11 = .ok (.aload_n 0, 1) := d_of dm_X3_pair_c0 5 (q := (11, .aload_n 0, 1)) rfl
theorem dX3_pair_12 : decode cX3_pair 12 = .ok (.getfield 10, 3) := d_of dm_X3_pair_c0 6 (q := (12, .getfield 10, 3)) rfl
theorem dX3_pair_15 : decode cX3_pair 15 = .ok (.iload_n 2, 1) := d_of dm_X3_pair_c0 7 (q := (15, .iload_n 2, 1)) rfl
theorem dX3_pair_16 : decode cX3_pair 16 = .ok (.invokevirtual 76, 3) := d_of dm_X3_pair_c0 8 (q := (16, .invokevirtual 76, 3)) rfl
theorem dX3_pair_19 : decode cX3_pair 19 = .ok (.ifCond .eq 8, 3) := d_of dm_X3_pair_c0 9 (q := (19, .ifCond .eq 8, 3)) rfl
theorem dX3_pair_22 : decode cX3_pair 22 = .ok (.iload_n 1, 1) := d_of dm_X3_pair_c0 10 (q := (22, .iload_n 1, 1)) rfl
theorem dX3_pair_23 : decode cX3_pair 23 = .ok (.iload_n 2, 1) := d_of dm_X3_pair_c0 11 (q := (23, .iload_n 2, 1)) rfl
theorem dX3_pair_24 : decode cX3_pair 24 = .ok (.if_icmp .ne 9, 3) := d_of dm_X3_pair_c0 12 (q := (24, .if_icmp .ne 9, 3)) rfl
theorem dX3_pair_27 : decode cX3_pair 27 = .ok (.aload_n 0, 1) := d_of dm_X3_pair_c0 13 (q := (27, .aload_n 0, 1)) rfl
theorem dX3_pair_28 : decode cX3_pair 28 = .ok (.iconst (-1), 1) := d_of dm_X3_pair_c0 14 (q := (28, .iconst (-1), 1)) rfl
theorem dX3_pair_29 : decode cX3_pair 29 = .ok (.invokevirtual 58, 3) := d_of dm_X3_pair_c0 15 (q := (29, .invokevirtual 58, 3)) rfl
theorem dX3_pair_32 : decode cX3_pair 32 = .ok (.ireturn, 1) := d_of dm_X3_pair_c0 16 (q := (32, .ireturn, 1)) rfl
theorem dX3_pair_33 : decode cX3_pair 33 = .ok (.aload_n 0, 1) := d_of dm_X3_pair_c0 17 (q := (33, .aload_n 0, 1)) rfl
theorem dX3_pair_34 : decode cX3_pair 34 = .ok (.getfield 10, 3) := d_of dm_X3_pair_c0 18 (q := (34, .getfield 10, 3)) rfl
theorem dX3_pair_37 : decode cX3_pair 37 = .ok (.iload_n 1, 1) := d_of dm_X3_pair_c0 19 (q := (37, .iload_n 1, 1)) rfl
theorem dX3_pair_38 : decode cX3_pair 38 = .ok (.iload_n 2, 1) := d_of dm_X3_pair_c0 20 (q := (38, .iload_n 2, 1)) rfl
theorem dX3_pair_39 : decode cX3_pair 39 = .ok (.invokevirtual 108, 3) := d_of dm_X3_pair_c0 21 (q := (39, .invokevirtual 108, 3)) rfl
theorem dX3_pair_42 : decode cX3_pair 42 = .ok (.ireturn, 1) := d_of dm_X3_pair_c0 22 (q := (42, .ireturn, 1)) rfl
def dl_X3_hour_c0 : List (Nat × Instr × Nat) := [(0, .iload_n 1, 1), (1, .iconst 0, 1), (2, .bipush 7, 2), (4, .invokestatic 54, 3), (7, .istore_n 2, 1), (8, .iload_n 2, 1), (9, .ifCond .eq 9, 3), (12, .aload_n 0, 1), (13, .iload_n 2, 1), (14, .invokevirtual 58, 3), (17, .ireturn, 1), (18, .aload_n 0, 1), (19, .getfield 10, 3), (22, .getfield 112, 3), (25, .istore_n 3, 1), (26, .aload_n 0, 1), (27, .getfield 10, 3), (30, .iload_n 1, 1), (31, .putfield 112, 3), (34, .iload_n 3, 1), (35, .ireturn, 1)]
set_option maxRecDepth 100000 in
theorem dm_X3_hour_c0 : dl_X3_hour_c0.all (fun q => decide (decode cX3_hour q.1 = .ok q.2)) = true := by decide +kernel
theorem dX3_hour_0 : decode cX3_hour 0 = .ok (.iload_n 1, 1) := d_of dm_X3_hour_c0 0 (q := (0, .iload_n 1, 1)) rfl
theorem dX3_hour_1 : decode cX3_hour 1 = .ok (.iconst 0, 1) := d_of dm_X3_hour_c0 1 (q := (1, .iconst 0, 1)) rfl
theorem dX3_hour_2 : decode cX3_hour 2 = .ok (.bipush 7, 2) := d_of dm_X3_hour_c0 2 (q := (2, .bipush 7, 2)) rfl
theorem dX3_hour_4 : decode cX3_hour 4 = .ok (.invokestatic 54, 3) := d_of dm_X3_hour_c0 3 (q := (4, .invokestatic 54, 3)) rfl
theorem dX3_hour_7 : decode cX3_hour 7 = .ok (.istore_n 2, 1) := d_of dm_X3_hour_c0 4 (q := (7, .istore_n 2, 1)) rfl
theorem dX3_hour_8 : decode cX3_hour 8 = .ok (.iload_n 2, 1) := d_of dm_X3_hour_c0 5 (q := (8, .iload_n 2, 1)) rfl
theorem dX3_hour_9 : decode cX3_hour 9 = .ok (.ifCond .eq 9, 3) := d_of dm_X3_hour_c0 6 (q := (9, .ifCond .eq 9, 3)) rfl
theorem dX3_hour_12 : decode cX3_hour 12 = .ok (.aload_n 0, 1) := d_of dm_X3_hour_c0 7 (q := (12, .aload_n 0, 1)) rfl
theorem dX3_hour_13 : decode cX3_hour 13 = .ok (.iload_n 2, 1) := d_of dm_X3_hour_c0 8 (q := (13, .iload_n 2, 1)) rfl
theorem dX3_hour_14 : decode cX3_hour 14 = .ok (.invokevirtual 58, 3) := d_of dm_X3_hour_c0 9 (q := (14, .invokevirtual 58, 3)) rfl
theorem dX3_hour_17 : decode cX3_hour 17 = .ok (.ireturn, 1) := d_of dm_X3_hour_c0 10 (q := (17, .ireturn, 1)) rfl
theorem dX3_hour_18 : decode cX3_hour 18 = .ok (.aload_n 0, 1) := d_of dm_X3_hour_c0 11 (q := (18, .aload_n 0, 1)) rfl
theorem dX3_hour_19 : decode cX3_hour 19 = .ok (.getfield 10, 3) := d_of dm_X3_hour_c0 12 (q := (19, .getfield 10, 3)) rfl
theorem dX3_hour_22 : decode cX3_hour 22 = .ok (.getfield 112, 3) := d_of dm_X3_hour_c0 13 (q := (22, .getfield 112, 3)) rfl
theorem dX3_hour_25 : decode cX3_hour 25 = .ok (.istore_n 3, 1) := d_of dm_X3_hour_c0 14 (q := (25, .istore_n 3, 1)) rfl
theorem dX3_hour_26 : decode cX3_hour 26 = .ok (.aload_n 0, 1) := d_of dm_X3_hour_c0 15 (q := (26, .aload_n 0, 1)) rfl
theorem dX3_hour_27 : decode cX3_hour 27 = .ok (.getfield 10, 3) := d_of dm_X3_hour_c0 16 (q := (27, .getfield 10, 3)) rfl
theorem dX3_hour_30 : decode cX3_hour 30 = .ok (.iload_n 1, 1) := d_of dm_X3_hour_c0 17 (q := (30, .iload_n 1, 1)) rfl
theorem dX3_hour_31 : decode cX3_hour 31 = .ok (.putfield 112, 3) := d_of dm_X3_hour_c0 18 (q := (31, .putfield 112, 3)) rfl
theorem dX3_hour_34 : decode cX3_hour 34 = .ok (.iload_n 3, 1) := d_of dm_X3_hour_c0 19 (q := (34, .iload_n 3, 1)) rfl
theorem dX3_hour_35 : decode cX3_hour 35 = .ok (.ireturn, 1) := d_of dm_X3_hour_c0 20 (q := (35, .ireturn, 1)) rfl
def dl_X3_seen_c0 : List (Nat × Instr × Nat) := [(0, .iload_n 1, 1), (1, .invokestatic 105, 3), (4, .ifCond .ne 9, 3), (7, .aload_n 0, 1), (8, .iconst (-1), 1), (9, .invokevirtual 58, 3), (12, .ireturn, 1), (13, .iload_n 2, 1), (14, .iconst 0, 1), (15, .bipush 7, 2), (17, .invokestatic 54, 3), (20, .istore_n 3, 1), (21, .iload_n 3, 1), (22, .ifCond .eq 9, 3), (25, .aload_n 0, 1), (26, .iload_n 3, 1), (27, .invokevirtual 58, 3), (30, .ireturn, 1), (31, .iconst 0, 1), (32, .istore 4, 2), (34, .iconst 0, 1), (35, .istore 5, 2), (37, .iload 5, 2), (39, .aload_n 0, 1), (40, .getfield 10, 3)]
set_option maxRecDepth 100000 in
theorem dm_X3_seen_c0 : dl_X3_seen_c0.all (fun q => decide (decode cX3_seen q.1 = .ok q.2)) = true := by decide +kernel
theorem dX3_seen_0 : decode cX3_seen 0 = .ok (.iload_n 1, 1) := d_of dm_X3_seen_c0 0 (q := (0, .iload_n 1, 1)) rfl
theorem dX3_seen_1 : decode cX3_seen 1 = .ok (.invokestatic 105, 3) := d_of dm_X3_seen_c0 1 (q := (1, .invokestatic 105, 3)) rfl
theorem dX3_seen_4 : decode cX3_seen 4 = .ok (.ifCond .ne 9, 3) := d_of dm_X3_seen_c0 2 (q := (4, .ifCond .ne 9, 3)) rfl
theorem dX3_seen_7 : decode cX3_seen 7 = .ok (.aload_n 0, 1) := d_of dm_X3_seen_c0 3 (q := (7, .aload_n 0, 1)) rfl
theorem dX3_seen_8 : decode cX3_seen 8 = .ok (.iconst (-1), 1) := d_of dm_X3_seen_c0 4 (q := (8, .iconst (-1), 1)) rfl
theorem dX3_seen_9 : decode cX3_seen 9 = .ok (.invokevirtual 58, 3) := d_of dm_X3_seen_c0 5 (q := (9, .invokevirtual 58, 3)) rfl
theorem dX3_seen_12 : decode cX3_seen 12 = .ok (.ireturn, 1) := d_of dm_X3_seen_c0 6 (q := (12, .ireturn, 1)) rfl
theorem dX3_seen_13 : decode cX3_seen 13 = .ok (.iload_n 2, 1) := d_of dm_X3_seen_c0 7 (q := (13, .iload_n 2, 1)) rfl
theorem dX3_seen_14 : decode cX3_seen 14 = .ok (.iconst 0, 1) := d_of dm_X3_seen_c0 8 (q := (14, .iconst 0, 1)) rfl
theorem dX3_seen_15 : decode cX3_seen 15 = .ok (.bipush 7, 2) := d_of dm_X3_seen_c0 9 (q := (15, .bipush 7, 2)) rfl
theorem dX3_seen_17 : decode cX3_seen 17 = .ok (.invokestatic 54, 3) := d_of dm_X3_seen_c0 10 (q := (17, .invokestatic 54, 3)) rfl
theorem dX3_seen_20 : decode cX3_seen 20 = .ok (.istore_n 3, 1) := d_of dm_X3_seen_c0 11 (q := (20, .istore_n 3, 1)) rfl
theorem dX3_seen_21 : decode cX3_seen 21 = .ok (.iload_n 3, 1) := d_of dm_X3_seen_c0 12 (q := (21, .iload_n 3, 1)) rfl
theorem dX3_seen_22 : decode cX3_seen 22 = .ok (.ifCond .eq 9, 3) := d_of dm_X3_seen_c0 13 (q := (22, .ifCond .eq 9, 3)) rfl
theorem dX3_seen_25 : decode cX3_seen 25 = .ok (.aload_n 0, 1) := d_of dm_X3_seen_c0 14 (q := (25, .aload_n 0, 1)) rfl
theorem dX3_seen_26 : decode cX3_seen 26 = .ok (.iload_n 3, 1) := d_of dm_X3_seen_c0 15 (q := (26, .iload_n 3, 1)) rfl
theorem dX3_seen_27 : decode cX3_seen 27 = .ok (.invokevirtual 58, 3) := d_of dm_X3_seen_c0 16 (q := (27, .invokevirtual 58, 3)) rfl
theorem dX3_seen_30 : decode cX3_seen 30 = .ok (.ireturn, 1) := d_of dm_X3_seen_c0 17 (q := (30, .ireturn, 1)) rfl
theorem dX3_seen_31 : decode cX3_seen 31 = .ok (.iconst 0, 1) := d_of dm_X3_seen_c0 18 (q := (31, .iconst 0, 1)) rfl
theorem dX3_seen_32 : decode cX3_seen 32 = .ok (.istore 4, 2) := d_of dm_X3_seen_c0 19 (q := (32, .istore 4, 2)) rfl
theorem dX3_seen_34 : decode cX3_seen 34 = .ok (.iconst 0, 1) := d_of dm_X3_seen_c0 20 (q := (34, .iconst 0, 1)) rfl
theorem dX3_seen_35 : decode cX3_seen 35 = .ok (.istore 5, 2) := d_of dm_X3_seen_c0 21 (q := (35, .istore 5, 2)) rfl
theorem dX3_seen_37 : decode cX3_seen 37 = .ok (.iload 5, 2) := d_of dm_X3_seen_c0 22 (q := (37, .iload 5, 2)) rfl
theorem dX3_seen_39 : decode cX3_seen 39 = .ok (.aload_n 0, 1) := d_of dm_X3_seen_c0 23 (q := (39, .aload_n 0, 1)) rfl
theorem dX3_seen_40 : decode cX3_seen 40 = .ok (.getfield 10, 3) := d_of dm_X3_seen_c0 24 (q := (40, .getfield 10, 3)) rfl
def dl_X3_seen_c25 : List (Nat × Instr × Nat) := [(43, .getfield 115, 3), (46, .if_icmp .ge 31, 3), (49, .iload 4, 2), (51, .aload_n 0, 1), (52, .getfield 10, 3), (55, .iload 5, 2), (57, .iload_n 2, 1), (58, .invokevirtual 118, 3), (61, .iload_n 1, 1), (62, .ishr, 1), (63, .iconst 1, 1), (64, .iand, 1), (65, .iload 5, 2), (67, .ishl, 1), (68, .ior, 1), (69, .istore 4, 2), (71, .iinc 5 1, 3), (74, .goto (-37), 3), (77, .iload 4, 2), (79, .ireturn, 1)]
set_option maxRecDepth 100000 in
theorem dm_X3_seen_c25 : dl_X3_seen_c25.all (fun q => decide (decode cX3_seen q.1 = .ok q.2)) = true := by decide +kernel
theorem dX3_seen_43 : decode cX3_seen 43 = .ok (.getfield 115, 3) := d_of dm_X3_seen_c25 0 (q := (43, .getfield 115, 3)) rfl
theorem dX3_seen_46 : decode cX3_seen 46 = .ok (.if_icmp .ge 31, 3) := d_of dm_X3_seen_c25 1 (q := (46, .if_icmp .ge 31, 3)) rfl
theorem dX3_seen_49 : decode cX3_seen 49 = .ok (.iload 4, 2) := d_of dm_X3_seen_c25 2 (q := (49, .iload 4, 2)) rfl
theorem dX3_seen_51 : decode cX3_seen 51 = .ok (.aload_n 0, 1) := d_of dm_X3_seen_c25 3 (q := (51, .aload_n 0, 1)) rfl
theorem dX3_seen_52 : decode cX3_seen 52 = .ok (.getfield 10, 3) := d_of dm_X3_seen_c25 4 (q := (52, .getfield 10, 3)) rfl
theorem dX3_seen_55 : decode cX3_seen 55 = .ok (.iload 5, 2) := d_of dm_X3_seen_c25 5 (q := (55, .iload 5, 2)) rfl
theorem dX3_seen_57 : decode cX3_seen 57 = .ok (.iload_n 2, 1) := d_of dm_X3_seen_c25 6 (q := (57, .iload_n 2, 1)) rfl
theorem dX3_seen_58 : decode cX3_seen 58 = .ok (.invokevirtual 118, 3) := d_of dm_X3_seen_c25 7 (q := (58, .invokevirtual 118, 3)) rfl
theorem dX3_seen_61 : decode cX3_seen 61 = .ok (.iload_n 1, 1) := d_of dm_X3_seen_c25 8 (q := (61, .iload_n 1, 1)) rfl
theorem dX3_seen_62 : decode cX3_seen 62 = .ok (.ishr, 1) := d_of dm_X3_seen_c25 9 (q := (62, .ishr, 1)) rfl
theorem dX3_seen_63 : decode cX3_seen 63 = .ok (.iconst 1, 1) := d_of dm_X3_seen_c25 10 (q := (63, .iconst 1, 1)) rfl
theorem dX3_seen_64 : decode cX3_seen 64 = .ok (.iand, 1) := d_of dm_X3_seen_c25 11 (q := (64, .iand, 1)) rfl
theorem dX3_seen_65 : decode cX3_seen 65 = .ok (.iload 5, 2) := d_of dm_X3_seen_c25 12 (q := (65, .iload 5, 2)) rfl
theorem dX3_seen_67 : decode cX3_seen 67 = .ok (.ishl, 1) := d_of dm_X3_seen_c25 13 (q := (67, .ishl, 1)) rfl
theorem dX3_seen_68 : decode cX3_seen 68 = .ok (.ior, 1) := d_of dm_X3_seen_c25 14 (q := (68, .ior, 1)) rfl
theorem dX3_seen_69 : decode cX3_seen 69 = .ok (.istore 4, 2) := d_of dm_X3_seen_c25 15 (q := (69, .istore 4, 2)) rfl
theorem dX3_seen_71 : decode cX3_seen 71 = .ok (.iinc 5 1, 3) := d_of dm_X3_seen_c25 16 (q := (71, .iinc 5 1, 3)) rfl
theorem dX3_seen_74 : decode cX3_seen 74 = .ok (.goto (-37), 3) := d_of dm_X3_seen_c25 17 (q := (74, .goto (-37), 3)) rfl
theorem dX3_seen_77 : decode cX3_seen 77 = .ok (.iload 4, 2) := d_of dm_X3_seen_c25 18 (q := (77, .iload 4, 2)) rfl
theorem dX3_seen_79 : decode cX3_seen 79 = .ok (.ireturn, 1) := d_of dm_X3_seen_c25 19 (q := (79, .ireturn, 1)) rfl
def dl_X3_from_c0 : List (Nat × Instr × Nat) := [(0, .aload_n 0, 1), (1, .getfield 10, 3), (4, .iload_n 1, 1), (5, .invokevirtual 76, 3), (8, .ifCond .ne 9, 3), (11, .aload_n 0, 1), (12, .iconst (-1), 1), (13, .invokevirtual 58, 3), (16, .ireturn, 1), (17, .iload_n 2, 1), (18, .iconst 0, 1), (19, .bipush 7, 2), (21, .invokestatic 54, 3), (24, .istore_n 3, 1), (25, .iload_n 3, 1), (26, .ifCond .eq 9, 3), (29, .aload_n 0, 1), (30, .iload_n 3, 1), (31, .invokevirtual 58, 3), (34, .ireturn, 1), (35, .aload_n 0, 1), (36, .getfield 10, 3), (39, .iload_n 1, 1), (40, .iload_n 2, 1), (41, .invokevirtual 118, 3)]
set_option maxRecDepth 100000 in
theorem dm_X3_from_c0 : dl_X3_from_c0.all (fun q => decide (decode cX3_from q.1 = .ok q.2)) = true := by decide +kernel
theorem dX3_from_0 : decode cX3_from 0 = .ok (.aload_n 0, 1) := d_of dm_X3_from_c0 0 (q := (0, .aload_n 0, 1)) rfl
theorem dX3_from_1 : decode cX3_from 1 = .ok (.getfield 10, 3) := d_of dm_X3_from_c0 1 (q := (1, .getfield 10, 3)) rfl
theorem dX3_from_4 : decode cX3_from 4 = .ok (.iload_n 1, 1) := d_of dm_X3_from_c0 2 (q := (4, .iload_n 1, 1)) rfl
theorem dX3_from_5 : decode cX3_from 5 = .ok (.invokevirtual 76, 3) := d_of dm_X3_from_c0 3 (q := (5, .invokevirtual 76, 3)) rfl
theorem dX3_from_8 : decode cX3_from 8 = .ok (.ifCond .ne 9, 3) := d_of dm_X3_from_c0 4 (q := (8, .ifCond .ne 9, 3)) rfl
theorem dX3_from_11 : decode cX3_from 11 = .ok (.aload_n 0, 1) := d_of dm_X3_from_c0 5 (q := (11, .aload_n 0, 1)) rfl
theorem dX3_from_12 : decode cX3_from 12 = .ok (.iconst (-1), 1) := d_of dm_X3_from_c0 6 (q := (12, .iconst (-1), 1)) rfl
theorem dX3_from_13 : decode cX3_from 13 = .ok (.invokevirtual 58, 3) := d_of dm_X3_from_c0 7 (q := (13, .invokevirtual 58, 3)) rfl
theorem dX3_from_16 : decode cX3_from 16 = .ok (.ireturn, 1) := d_of dm_X3_from_c0 8 (q := (16, .ireturn, 1)) rfl
theorem dX3_from_17 : decode cX3_from 17 = .ok (.iload_n 2, 1) := d_of dm_X3_from_c0 9 (q := (17, .iload_n 2, 1)) rfl
theorem dX3_from_18 : decode cX3_from 18 = .ok (.iconst 0, 1) := d_of dm_X3_from_c0 10 (q := (18, .iconst 0, 1)) rfl
theorem dX3_from_19 : decode cX3_from 19 = .ok (.bipush 7, 2) := d_of dm_X3_from_c0 11 (q := (19, .bipush 7, 2)) rfl
theorem dX3_from_21 : decode cX3_from 21 = .ok (.invokestatic 54, 3) := d_of dm_X3_from_c0 12 (q := (21, .invokestatic 54, 3)) rfl
theorem dX3_from_24 : decode cX3_from 24 = .ok (.istore_n 3, 1) := d_of dm_X3_from_c0 13 (q := (24, .istore_n 3, 1)) rfl
theorem dX3_from_25 : decode cX3_from 25 = .ok (.iload_n 3, 1) := d_of dm_X3_from_c0 14 (q := (25, .iload_n 3, 1)) rfl
theorem dX3_from_26 : decode cX3_from 26 = .ok (.ifCond .eq 9, 3) := d_of dm_X3_from_c0 15 (q := (26, .ifCond .eq 9, 3)) rfl
theorem dX3_from_29 : decode cX3_from 29 = .ok (.aload_n 0, 1) := d_of dm_X3_from_c0 16 (q := (29, .aload_n 0, 1)) rfl
theorem dX3_from_30 : decode cX3_from 30 = .ok (.iload_n 3, 1) := d_of dm_X3_from_c0 17 (q := (30, .iload_n 3, 1)) rfl
theorem dX3_from_31 : decode cX3_from 31 = .ok (.invokevirtual 58, 3) := d_of dm_X3_from_c0 18 (q := (31, .invokevirtual 58, 3)) rfl
theorem dX3_from_34 : decode cX3_from 34 = .ok (.ireturn, 1) := d_of dm_X3_from_c0 19 (q := (34, .ireturn, 1)) rfl
theorem dX3_from_35 : decode cX3_from 35 = .ok (.aload_n 0, 1) := d_of dm_X3_from_c0 20 (q := (35, .aload_n 0, 1)) rfl
theorem dX3_from_36 : decode cX3_from 36 = .ok (.getfield 10, 3) := d_of dm_X3_from_c0 21 (q := (36, .getfield 10, 3)) rfl
theorem dX3_from_39 : decode cX3_from 39 = .ok (.iload_n 1, 1) := d_of dm_X3_from_c0 22 (q := (39, .iload_n 1, 1)) rfl
theorem dX3_from_40 : decode cX3_from 40 = .ok (.iload_n 2, 1) := d_of dm_X3_from_c0 23 (q := (40, .iload_n 2, 1)) rfl
theorem dX3_from_41 : decode cX3_from 41 = .ok (.invokevirtual 118, 3) := d_of dm_X3_from_c0 24 (q := (41, .invokevirtual 118, 3)) rfl
def dl_X3_from_c25 : List (Nat × Instr × Nat) := [(44, .ireturn, 1)]
set_option maxRecDepth 100000 in
theorem dm_X3_from_c25 : dl_X3_from_c25.all (fun q => decide (decode cX3_from q.1 = .ok q.2)) = true := by decide +kernel
theorem dX3_from_44 : decode cX3_from 44 = .ok (.ireturn, 1) := d_of dm_X3_from_c25 0 (q := (44, .ireturn, 1)) rfl
def dl_X3_sins_c0 : List (Nat × Instr × Nat) := [(0, .iload_n 1, 1), (1, .iconst 0, 1), (2, .bipush 7, 2), (4, .invokestatic 54, 3), (7, .istore_n 3, 1), (8, .iload_n 3, 1), (9, .ifCond .eq 9, 3), (12, .aload_n 0, 1), (13, .iload_n 3, 1), (14, .invokevirtual 58, 3), (17, .ireturn, 1), (18, .iload_n 2, 1), (19, .lookupswitch 43 #[(0, 25), (1, 34)], 25), (44, .aload_n 0, 1), (45, .getfield 10, 3), (48, .iload_n 1, 1), (49, .invokevirtual 121, 3), (52, .ireturn, 1), (53, .aload_n 0, 1), (54, .getfield 10, 3), (57, .iload_n 1, 1), (58, .invokevirtual 124, 3), (61, .ireturn, 1), (62, .aload_n 0, 1), (63, .bipush (-2), 2)]
set_option maxRecDepth 100000 in
theorem dm_X3_sins_c0 : dl_X3_sins_c0.all (fun q => decide (decode cX3_sins q.1 = .ok q.2)) = true := by decide +kernel
theorem dX3_sins_0 : decode cX3_sins 0 = .ok (.iload_n 1, 1) := d_of dm_X3_sins_c0 0 (q := (0, .iload_n 1, 1)) rfl
theorem dX3_sins_1 : decode cX3_sins 1 = .ok (.iconst 0, 1) := d_of dm_X3_sins_c0 1 (q := (1, .iconst 0, 1)) rfl
theorem dX3_sins_2 : decode cX3_sins 2 = .ok (.bipush 7, 2) := d_of dm_X3_sins_c0 2 (q := (2, .bipush 7, 2)) rfl
theorem dX3_sins_4 : decode cX3_sins 4 = .ok (.invokestatic 54, 3) := d_of dm_X3_sins_c0 3 (q := (4, .invokestatic 54, 3)) rfl
theorem dX3_sins_7 : decode cX3_sins 7 = .ok (.istore_n 3, 1) := d_of dm_X3_sins_c0 4 (q := (7, .istore_n 3, 1)) rfl
theorem dX3_sins_8 : decode cX3_sins 8 = .ok (.iload_n 3, 1) := d_of dm_X3_sins_c0 5 (q := (8, .iload_n 3, 1)) rfl
theorem dX3_sins_9 : decode cX3_sins 9 = .ok (.ifCond .eq 9, 3) := d_of dm_X3_sins_c0 6 (q := (9, .ifCond .eq 9, 3)) rfl
theorem dX3_sins_12 : decode cX3_sins 12 = .ok (.aload_n 0, 1) := d_of dm_X3_sins_c0 7 (q := (12, .aload_n 0, 1)) rfl
theorem dX3_sins_13 : decode cX3_sins 13 = .ok (.iload_n 3, 1) := d_of dm_X3_sins_c0 8 (q := (13, .iload_n 3, 1)) rfl
theorem dX3_sins_14 : decode cX3_sins 14 = .ok (.invokevirtual 58, 3) := d_of dm_X3_sins_c0 9 (q := (14, .invokevirtual 58, 3)) rfl
theorem dX3_sins_17 : decode cX3_sins 17 = .ok (.ireturn, 1) := d_of dm_X3_sins_c0 10 (q := (17, .ireturn, 1)) rfl
theorem dX3_sins_18 : decode cX3_sins 18 = .ok (.iload_n 2, 1) := d_of dm_X3_sins_c0 11 (q := (18, .iload_n 2, 1)) rfl
theorem dX3_sins_19 : decode cX3_sins 19 = .ok (.lookupswitch 43 #[(0, 25), (1, 34)], 25) := d_of dm_X3_sins_c0 12 (q := (19, .lookupswitch 43 #[(0, 25), (1, 34)], 25)) rfl
theorem dX3_sins_44 : decode cX3_sins 44 = .ok (.aload_n 0, 1) := d_of dm_X3_sins_c0 13 (q := (44, .aload_n 0, 1)) rfl
theorem dX3_sins_45 : decode cX3_sins 45 = .ok (.getfield 10, 3) := d_of dm_X3_sins_c0 14 (q := (45, .getfield 10, 3)) rfl
theorem dX3_sins_48 : decode cX3_sins 48 = .ok (.iload_n 1, 1) := d_of dm_X3_sins_c0 15 (q := (48, .iload_n 1, 1)) rfl
theorem dX3_sins_49 : decode cX3_sins 49 = .ok (.invokevirtual 121, 3) := d_of dm_X3_sins_c0 16 (q := (49, .invokevirtual 121, 3)) rfl
theorem dX3_sins_52 : decode cX3_sins 52 = .ok (.ireturn, 1) := d_of dm_X3_sins_c0 17 (q := (52, .ireturn, 1)) rfl
theorem dX3_sins_53 : decode cX3_sins 53 = .ok (.aload_n 0, 1) := d_of dm_X3_sins_c0 18 (q := (53, .aload_n 0, 1)) rfl
theorem dX3_sins_54 : decode cX3_sins 54 = .ok (.getfield 10, 3) := d_of dm_X3_sins_c0 19 (q := (54, .getfield 10, 3)) rfl
theorem dX3_sins_57 : decode cX3_sins 57 = .ok (.iload_n 1, 1) := d_of dm_X3_sins_c0 20 (q := (57, .iload_n 1, 1)) rfl
theorem dX3_sins_58 : decode cX3_sins 58 = .ok (.invokevirtual 124, 3) := d_of dm_X3_sins_c0 21 (q := (58, .invokevirtual 124, 3)) rfl
theorem dX3_sins_61 : decode cX3_sins 61 = .ok (.ireturn, 1) := d_of dm_X3_sins_c0 22 (q := (61, .ireturn, 1)) rfl
theorem dX3_sins_62 : decode cX3_sins 62 = .ok (.aload_n 0, 1) := d_of dm_X3_sins_c0 23 (q := (62, .aload_n 0, 1)) rfl
theorem dX3_sins_63 : decode cX3_sins 63 = .ok (.bipush (-2), 2) := d_of dm_X3_sins_c0 24 (q := (63, .bipush (-2), 2)) rfl
def dl_X3_sins_c25 : List (Nat × Instr × Nat) := [(65, .invokevirtual 58, 3), (68, .ireturn, 1)]
set_option maxRecDepth 100000 in
theorem dm_X3_sins_c25 : dl_X3_sins_c25.all (fun q => decide (decode cX3_sins q.1 = .ok q.2)) = true := by decide +kernel
theorem dX3_sins_65 : decode cX3_sins 65 = .ok (.invokevirtual 58, 3) := d_of dm_X3_sins_c25 0 (q := (65, .invokevirtual 58, 3)) rfl
theorem dX3_sins_68 : decode cX3_sins 68 = .ok (.ireturn, 1) := d_of dm_X3_sins_c25 1 (q := (68, .ireturn, 1)) rfl
def dl_X3_day_c0 : List (Nat × Instr × Nat) := [(0, .aload_n 0, 1), (1, .getfield 10, 3), (4, .invokevirtual 127, 3), (7, .ireturn, 1)]
set_option maxRecDepth 100000 in
theorem dm_X3_day_c0 : dl_X3_day_c0.all (fun q => decide (decode cX3_day q.1 = .ok q.2)) = true := by decide +kernel
theorem dX3_day_0 : decode cX3_day 0 = .ok (.aload_n 0, 1) := d_of dm_X3_day_c0 0 (q := (0, .aload_n 0, 1)) rfl
theorem dX3_day_1 : decode cX3_day 1 = .ok (.getfield 10, 3) := d_of dm_X3_day_c0 1 (q := (1, .getfield 10, 3)) rfl
theorem dX3_day_4 : decode cX3_day 4 = .ok (.invokevirtual 127, 3) := d_of dm_X3_day_c0 2 (q := (4, .invokevirtual 127, 3)) rfl
theorem dX3_day_7 : decode cX3_day 7 = .ok (.ireturn, 1) := d_of dm_X3_day_c0 3 (q := (7, .ireturn, 1)) rfl
def dl_X3_curtains_c0 : List (Nat × Instr × Nat) := [(0, .aload_n 0, 1), (1, .getfield 16, 3), (4, .aload_n 0, 1), (5, .getfield 10, 3), (8, .invokevirtual 68, 3), (11, .bipush (-9), 2), (13, .istore_n 1, 1), (14, .bipush 11, 2), (16, .istore_n 2, 1), (17, .iconst 0, 1), (18, .istore_n 3, 1), (19, .iload_n 3, 1), (20, .iconst 1, 1), (21, .aload_n 0, 1), (22, .getfield 10, 3), (25, .getfield 131, 3), (28, .ishl, 1), (29, .if_icmp .ge 53, 3), (32, .iload_n 3, 1), (33, .invokestatic 134, 3), (36, .istore 4, 2), (38, .iload 4, 2), (40, .iload_n 2, 1), (41, .if_icmp .ge 35, 3), (44, .aload_n 0, 1)]
set_option maxRecDepth 100000 in
theorem dm_X3_curtains_c0 : dl_X3_curtains_c0.all (fun q => decide (decode cX3_curtains q.1 = .ok q.2)) = true := by decide +kernel
theorem dX3_curtains_0 : decode cX3_curtains 0 = .ok (.aload_n 0, 1) := d_of dm_X3_curtains_c0 0 (q := (0, .aload_n 0, 1)) rfl
theorem dX3_curtains_1 : decode cX3_curtains 1 = .ok (.getfield 16, 3) := d_of dm_X3_curtains_c0 1 (q := (1, .getfield 16, 3)) rfl
theorem dX3_curtains_4 : decode cX3_curtains 4 = .ok (.aload_n 0, 1) := d_of dm_X3_curtains_c0 2 (q := (4, .aload_n 0, 1)) rfl
theorem dX3_curtains_5 : decode cX3_curtains 5 = .ok (.getfield 10, 3) := d_of dm_X3_curtains_c0 3 (q := (5, .getfield 10, 3)) rfl
theorem dX3_curtains_8 : decode cX3_curtains 8 = .ok (.invokevirtual 68, 3) := d_of dm_X3_curtains_c0 4 (q := (8, .invokevirtual 68, 3)) rfl
theorem dX3_curtains_11 : decode cX3_curtains 11 = .ok (.bipush (-9), 2) := d_of dm_X3_curtains_c0 5 (q := (11, .bipush (-9), 2)) rfl
theorem dX3_curtains_13 : decode cX3_curtains 13 = .ok (.istore_n 1, 1) := d_of dm_X3_curtains_c0 6 (q := (13, .istore_n 1, 1)) rfl
theorem dX3_curtains_14 : decode cX3_curtains 14 = .ok (.bipush 11, 2) := d_of dm_X3_curtains_c0 7 (q := (14, .bipush 11, 2)) rfl
theorem dX3_curtains_16 : decode cX3_curtains 16 = .ok (.istore_n 2, 1) := d_of dm_X3_curtains_c0 8 (q := (16, .istore_n 2, 1)) rfl
theorem dX3_curtains_17 : decode cX3_curtains 17 = .ok (.iconst 0, 1) := d_of dm_X3_curtains_c0 9 (q := (17, .iconst 0, 1)) rfl
theorem dX3_curtains_18 : decode cX3_curtains 18 = .ok (.istore_n 3, 1) := d_of dm_X3_curtains_c0 10 (q := (18, .istore_n 3, 1)) rfl
theorem dX3_curtains_19 : decode cX3_curtains 19 = .ok (.iload_n 3, 1) := d_of dm_X3_curtains_c0 11 (q := (19, .iload_n 3, 1)) rfl
theorem dX3_curtains_20 : decode cX3_curtains 20 = .ok (.iconst 1, 1) := d_of dm_X3_curtains_c0 12 (q := (20, .iconst 1, 1)) rfl
theorem dX3_curtains_21 : decode cX3_curtains 21 = .ok (.aload_n 0, 1) := d_of dm_X3_curtains_c0 13 (q := (21, .aload_n 0, 1)) rfl
theorem dX3_curtains_22 : decode cX3_curtains 22 = .ok (.getfield 10, 3) := d_of dm_X3_curtains_c0 14 (q := (22, .getfield 10, 3)) rfl
theorem dX3_curtains_25 : decode cX3_curtains 25 = .ok (.getfield 131, 3) := d_of dm_X3_curtains_c0 15 (q := (25, .getfield 131, 3)) rfl
theorem dX3_curtains_28 : decode cX3_curtains 28 = .ok (.ishl, 1) := d_of dm_X3_curtains_c0 16 (q := (28, .ishl, 1)) rfl
theorem dX3_curtains_29 : decode cX3_curtains 29 = .ok (.if_icmp .ge 53, 3) := d_of dm_X3_curtains_c0 17 (q := (29, .if_icmp .ge 53, 3)) rfl
theorem dX3_curtains_32 : decode cX3_curtains 32 = .ok (.iload_n 3, 1) := d_of dm_X3_curtains_c0 18 (q := (32, .iload_n 3, 1)) rfl
theorem dX3_curtains_33 : decode cX3_curtains 33 = .ok (.invokestatic 134, 3) := d_of dm_X3_curtains_c0 19 (q := (33, .invokestatic 134, 3)) rfl
theorem dX3_curtains_36 : decode cX3_curtains 36 = .ok (.istore 4, 2) := d_of dm_X3_curtains_c0 20 (q := (36, .istore 4, 2)) rfl
theorem dX3_curtains_38 : decode cX3_curtains 38 = .ok (.iload 4, 2) := d_of dm_X3_curtains_c0 21 (q := (38, .iload 4, 2)) rfl
theorem dX3_curtains_40 : decode cX3_curtains 40 = .ok (.iload_n 2, 1) := d_of dm_X3_curtains_c0 22 (q := (40, .iload_n 2, 1)) rfl
theorem dX3_curtains_41 : decode cX3_curtains 41 = .ok (.if_icmp .ge 35, 3) := d_of dm_X3_curtains_c0 23 (q := (41, .if_icmp .ge 35, 3)) rfl
theorem dX3_curtains_44 : decode cX3_curtains 44 = .ok (.aload_n 0, 1) := d_of dm_X3_curtains_c0 24 (q := (44, .aload_n 0, 1)) rfl
def dl_X3_curtains_c25 : List (Nat × Instr × Nat) := [(45, .getfield 16, 3), (48, .iload_n 3, 1), (49, .invokevirtual 101, 3), (52, .aload_n 0, 1), (53, .getfield 16, 3), (56, .aload_n 0, 1), (57, .getfield 10, 3), (60, .getfield 112, 3), (63, .invokevirtual 124, 3), (66, .bipush (-9), 2), (68, .if_icmp .ne 8, 3), (71, .iload_n 3, 1), (72, .istore_n 1, 1), (73, .iload 4, 2), (75, .istore_n 2, 1), (76, .iinc 3 1, 3), (79, .goto (-60), 3), (82, .iload_n 1, 1), (83, .ireturn, 1)]
set_option maxRecDepth 100000 in
theorem dm_X3_curtains_c25 : dl_X3_curtains_c25.all (fun q => decide (decode cX3_curtains q.1 = .ok q.2)) = true := by decide +kernel
theorem dX3_curtains_45 : decode cX3_curtains 45 = .ok (.getfield 16, 3) := d_of dm_X3_curtains_c25 0 (q := (45, .getfield 16, 3)) rfl
theorem dX3_curtains_48 : decode cX3_curtains 48 = .ok (.iload_n 3, 1) := d_of dm_X3_curtains_c25 1 (q := (48, .iload_n 3, 1)) rfl
theorem dX3_curtains_49 : decode cX3_curtains 49 = .ok (.invokevirtual 101, 3) := d_of dm_X3_curtains_c25 2 (q := (49, .invokevirtual 101, 3)) rfl
theorem dX3_curtains_52 : decode cX3_curtains 52 = .ok (.aload_n 0, 1) := d_of dm_X3_curtains_c25 3 (q := (52, .aload_n 0, 1)) rfl
theorem dX3_curtains_53 : decode cX3_curtains 53 = .ok (.getfield 16, 3) := d_of dm_X3_curtains_c25 4 (q := (53, .getfield 16, 3)) rfl
theorem dX3_curtains_56 : decode cX3_curtains 56 = .ok (.aload_n 0, 1) := d_of dm_X3_curtains_c25 5 (q := (56, .aload_n 0, 1)) rfl
theorem dX3_curtains_57 : decode cX3_curtains 57 = .ok (.getfield 10, 3) := d_of dm_X3_curtains_c25 6 (q := (57, .getfield 10, 3)) rfl
theorem dX3_curtains_60 : decode cX3_curtains 60 = .ok (.getfield 112, 3) := d_of dm_X3_curtains_c25 7 (q := (60, .getfield 112, 3)) rfl
theorem dX3_curtains_63 : decode cX3_curtains 63 = .ok (.invokevirtual 124, 3) := d_of dm_X3_curtains_c25 8 (q := (63, .invokevirtual 124, 3)) rfl
theorem dX3_curtains_66 : decode cX3_curtains 66 = .ok (.bipush (-9), 2) := d_of dm_X3_curtains_c25 9 (q := (66, .bipush (-9), 2)) rfl
theorem dX3_curtains_68 : decode cX3_curtains 68 = .ok (.if_icmp .ne 8, 3) := d_of dm_X3_curtains_c25 10 (q := (68, .if_icmp .ne 8, 3)) rfl
theorem dX3_curtains_71 : decode cX3_curtains 71 = .ok (.iload_n 3, 1) := d_of dm_X3_curtains_c25 11 (q := (71, .iload_n 3, 1)) rfl
theorem dX3_curtains_72 : decode cX3_curtains 72 = .ok (.istore_n 1, 1) := d_of dm_X3_curtains_c25 12 (q := (72, .istore_n 1, 1)) rfl
theorem dX3_curtains_73 : decode cX3_curtains 73 = .ok (.iload 4, 2) := d_of dm_X3_curtains_c25 13 (q := (73, .iload 4, 2)) rfl
theorem dX3_curtains_75 : decode cX3_curtains 75 = .ok (.istore_n 2, 1) := d_of dm_X3_curtains_c25 14 (q := (75, .istore_n 2, 1)) rfl
theorem dX3_curtains_76 : decode cX3_curtains 76 = .ok (.iinc 3 1, 3) := d_of dm_X3_curtains_c25 15 (q := (76, .iinc 3 1, 3)) rfl
theorem dX3_curtains_79 : decode cX3_curtains 79 = .ok (.goto (-60), 3) := d_of dm_X3_curtains_c25 16 (q := (79, .goto (-60), 3)) rfl
theorem dX3_curtains_82 : decode cX3_curtains 82 = .ok (.iload_n 1, 1) := d_of dm_X3_curtains_c25 17 (q := (82, .iload_n 1, 1)) rfl
theorem dX3_curtains_83 : decode cX3_curtains 83 = .ok (.ireturn, 1) := d_of dm_X3_curtains_c25 18 (q := (83, .ireturn, 1)) rfl
def dl_X3_moved_c0 : List (Nat × Instr × Nat) := [(0, .iload_n 1, 1), (1, .ifCond .eq 15, 3), (4, .iload_n 1, 1), (5, .iconst 1, 1), (6, .if_icmp .eq 10, 3), (9, .aload_n 0, 1), (10, .bipush (-2), 2), (12, .invokevirtual 58, 3), (15, .ireturn, 1), (16, .aload_n 0, 1), (17, .getfield 10, 3), (20, .aload_n 0, 1), (21, .getfield 10, 3), (24, .getfield 112, 3), (27, .invokevirtual 124, 3), (30, .bipush (-9), 2), (32, .if_icmp .ne 14, 3), (35, .iload_n 1, 1), (36, .ifCond .ne 7, 3), (39, .iconst 0, 1), (40, .goto 5, 3), (43, .bipush (-9), 2), (45, .ireturn, 1), (46, .aload_n 0, 1), (47, .getfield 16, 3)]
set_option maxRecDepth 100000 in
theorem dm_X3_moved_c0 : dl_X3_moved_c0.all (fun q => decide (decode cX3_moved q.1 = .ok q.2)) = true := by decide +kernel
theorem dX3_moved_0 : decode cX3_moved 0 = .ok (.iload_n 1, 1) := d_of dm_X3_moved_c0 0 (q := (0, .iload_n 1, 1)) rfl
theorem dX3_moved_1 : decode cX3_moved 1 = .ok (.ifCond .eq 15, 3) := d_of dm_X3_moved_c0 1 (q := (1, .ifCond .eq 15, 3)) rfl
theorem dX3_moved_4 : decode cX3_moved 4 = .ok (.iload_n 1, 1) := d_of dm_X3_moved_c0 2 (q := (4, .iload_n 1, 1)) rfl
theorem dX3_moved_5 : decode cX3_moved 5 = .ok (.iconst 1, 1) := d_of dm_X3_moved_c0 3 (q := (5, .iconst 1, 1)) rfl
theorem dX3_moved_6 : decode cX3_moved 6 = .ok (.if_icmp .eq 10, 3) := d_of dm_X3_moved_c0 4 (q := (6, .if_icmp .eq 10, 3)) rfl
theorem dX3_moved_9 : decode cX3_moved 9 = .ok (.aload_n 0, 1) := d_of dm_X3_moved_c0 5 (q := (9, .aload_n 0, 1)) rfl
theorem dX3_moved_10 : decode cX3_moved 10 = .ok (.bipush (-2), 2) := d_of dm_X3_moved_c0 6 (q := (10, .bipush (-2), 2)) rfl
theorem dX3_moved_12 : decode cX3_moved 12 = .ok (.invokevirtual 58, 3) := d_of dm_X3_moved_c0 7 (q := (12, .invokevirtual 58, 3)) rfl
theorem dX3_moved_15 : decode cX3_moved 15 = .ok (.ireturn, 1) := d_of dm_X3_moved_c0 8 (q := (15, .ireturn, 1)) rfl
theorem dX3_moved_16 : decode cX3_moved 16 = .ok (.aload_n 0, 1) := d_of dm_X3_moved_c0 9 (q := (16, .aload_n 0, 1)) rfl
theorem dX3_moved_17 : decode cX3_moved 17 = .ok (.getfield 10, 3) := d_of dm_X3_moved_c0 10 (q := (17, .getfield 10, 3)) rfl
theorem dX3_moved_20 : decode cX3_moved 20 = .ok (.aload_n 0, 1) := d_of dm_X3_moved_c0 11 (q := (20, .aload_n 0, 1)) rfl
theorem dX3_moved_21 : decode cX3_moved 21 = .ok (.getfield 10, 3) := d_of dm_X3_moved_c0 12 (q := (21, .getfield 10, 3)) rfl
theorem dX3_moved_24 : decode cX3_moved 24 = .ok (.getfield 112, 3) := d_of dm_X3_moved_c0 13 (q := (24, .getfield 112, 3)) rfl
theorem dX3_moved_27 : decode cX3_moved 27 = .ok (.invokevirtual 124, 3) := d_of dm_X3_moved_c0 14 (q := (27, .invokevirtual 124, 3)) rfl
theorem dX3_moved_30 : decode cX3_moved 30 = .ok (.bipush (-9), 2) := d_of dm_X3_moved_c0 15 (q := (30, .bipush (-9), 2)) rfl
theorem dX3_moved_32 : decode cX3_moved 32 = .ok (.if_icmp .ne 14, 3) := d_of dm_X3_moved_c0 16 (q := (32, .if_icmp .ne 14, 3)) rfl
theorem dX3_moved_35 : decode cX3_moved 35 = .ok (.iload_n 1, 1) := d_of dm_X3_moved_c0 17 (q := (35, .iload_n 1, 1)) rfl
theorem dX3_moved_36 : decode cX3_moved 36 = .ok (.ifCond .ne 7, 3) := d_of dm_X3_moved_c0 18 (q := (36, .ifCond .ne 7, 3)) rfl
theorem dX3_moved_39 : decode cX3_moved 39 = .ok (.iconst 0, 1) := d_of dm_X3_moved_c0 19 (q := (39, .iconst 0, 1)) rfl
theorem dX3_moved_40 : decode cX3_moved 40 = .ok (.goto 5, 3) := d_of dm_X3_moved_c0 20 (q := (40, .goto 5, 3)) rfl
theorem dX3_moved_43 : decode cX3_moved 43 = .ok (.bipush (-9), 2) := d_of dm_X3_moved_c0 21 (q := (43, .bipush (-9), 2)) rfl
theorem dX3_moved_45 : decode cX3_moved 45 = .ok (.ireturn, 1) := d_of dm_X3_moved_c0 22 (q := (45, .ireturn, 1)) rfl
theorem dX3_moved_46 : decode cX3_moved 46 = .ok (.aload_n 0, 1) := d_of dm_X3_moved_c0 23 (q := (46, .aload_n 0, 1)) rfl
theorem dX3_moved_47 : decode cX3_moved 47 = .ok (.getfield 16, 3) := d_of dm_X3_moved_c0 24 (q := (47, .getfield 16, 3)) rfl
def dl_X3_moved_c25 : List (Nat × Instr × Nat) := [(50, .aload_n 0, 1), (51, .getfield 10, 3), (54, .invokevirtual 68, 3), (57, .aload_n 0, 1), (58, .iconst 0, 1), (59, .invokevirtual 139, 3), (62, .istore_n 2, 1), (63, .iload_n 1, 1), (64, .iconst 1, 1), (65, .if_icmp .ne 5, 3), (68, .iload_n 2, 1), (69, .ireturn, 1), (70, .iload_n 2, 1), (71, .bipush (-9), 2), (73, .if_icmp .eq 5, 3), (76, .iconst 1, 1), (77, .ireturn, 1), (78, .aload_n 0, 1), (79, .invokevirtual 142, 3), (82, .ifCond .eq 7, 3), (85, .iconst 2, 1), (86, .goto 5, 3), (89, .bipush (-9), 2), (91, .ireturn, 1)]
set_option maxRecDepth 100000 in
theorem dm_X3_moved_c25 : dl_X3_moved_c25.all (fun q => decide (decode cX3_moved q.1 = .ok q.2)) = true := by decide +kernel
theorem dX3_moved_50 : decode cX3_moved 50 = .ok (.aload_n 0, 1) := d_of dm_X3_moved_c25 0 (q := (50, .aload_n 0, 1)) rfl
theorem dX3_moved_51 : decode cX3_moved 51 = .ok (.getfield 10, 3) := d_of dm_X3_moved_c25 1 (q := (51, .getfield 10, 3)) rfl
theorem dX3_moved_54 : decode cX3_moved 54 = .ok (.invokevirtual 68, 3) := d_of dm_X3_moved_c25 2 (q := (54, .invokevirtual 68, 3)) rfl
theorem dX3_moved_57 : decode cX3_moved 57 = .ok (.aload_n 0, 1) := d_of dm_X3_moved_c25 3 (q := (57, .aload_n 0, 1)) rfl
theorem dX3_moved_58 : decode cX3_moved 58 = .ok (.iconst 0, 1) := d_of dm_X3_moved_c25 4 (q := (58, .iconst 0, 1)) rfl
theorem dX3_moved_59 : decode cX3_moved 59 = .ok (.invokevirtual 139, 3) := d_of dm_X3_moved_c25 5 (q := (59, .invokevirtual 139, 3)) rfl
theorem dX3_moved_62 : decode cX3_moved 62 = .ok (.istore_n 2, 1) := d_of dm_X3_moved_c25 6 (q := (62, .istore_n 2, 1)) rfl
theorem dX3_moved_63 : decode cX3_moved 63 = .ok (.iload_n 1, 1) := d_of dm_X3_moved_c25 7 (q := (63, .iload_n 1, 1)) rfl
theorem dX3_moved_64 : decode cX3_moved 64 = .ok (.iconst 1, 1) := d_of dm_X3_moved_c25 8 (q := (64, .iconst 1, 1)) rfl
theorem dX3_moved_65 : decode cX3_moved 65 = .ok (.if_icmp .ne 5, 3) := d_of dm_X3_moved_c25 9 (q := (65, .if_icmp .ne 5, 3)) rfl
theorem dX3_moved_68 : decode cX3_moved 68 = .ok (.iload_n 2, 1) := d_of dm_X3_moved_c25 10 (q := (68, .iload_n 2, 1)) rfl
theorem dX3_moved_69 : decode cX3_moved 69 = .ok (.ireturn, 1) := d_of dm_X3_moved_c25 11 (q := (69, .ireturn, 1)) rfl
theorem dX3_moved_70 : decode cX3_moved 70 = .ok (.iload_n 2, 1) := d_of dm_X3_moved_c25 12 (q := (70, .iload_n 2, 1)) rfl
theorem dX3_moved_71 : decode cX3_moved 71 = .ok (.bipush (-9), 2) := d_of dm_X3_moved_c25 13 (q := (71, .bipush (-9), 2)) rfl
theorem dX3_moved_73 : decode cX3_moved 73 = .ok (.if_icmp .eq 5, 3) := d_of dm_X3_moved_c25 14 (q := (73, .if_icmp .eq 5, 3)) rfl
theorem dX3_moved_76 : decode cX3_moved 76 = .ok (.iconst 1, 1) := d_of dm_X3_moved_c25 15 (q := (76, .iconst 1, 1)) rfl
theorem dX3_moved_77 : decode cX3_moved 77 = .ok (.ireturn, 1) := d_of dm_X3_moved_c25 16 (q := (77, .ireturn, 1)) rfl
theorem dX3_moved_78 : decode cX3_moved 78 = .ok (.aload_n 0, 1) := d_of dm_X3_moved_c25 17 (q := (78, .aload_n 0, 1)) rfl
theorem dX3_moved_79 : decode cX3_moved 79 = .ok (.invokevirtual 142, 3) := d_of dm_X3_moved_c25 18 (q := (79, .invokevirtual 142, 3)) rfl
theorem dX3_moved_82 : decode cX3_moved 82 = .ok (.ifCond .eq 7, 3) := d_of dm_X3_moved_c25 19 (q := (82, .ifCond .eq 7, 3)) rfl
theorem dX3_moved_85 : decode cX3_moved 85 = .ok (.iconst 2, 1) := d_of dm_X3_moved_c25 20 (q := (85, .iconst 2, 1)) rfl
theorem dX3_moved_86 : decode cX3_moved 86 = .ok (.goto 5, 3) := d_of dm_X3_moved_c25 21 (q := (86, .goto 5, 3)) rfl
theorem dX3_moved_89 : decode cX3_moved 89 = .ok (.bipush (-9), 2) := d_of dm_X3_moved_c25 22 (q := (89, .bipush (-9), 2)) rfl
theorem dX3_moved_91 : decode cX3_moved 91 = .ok (.ireturn, 1) := d_of dm_X3_moved_c25 23 (q := (91, .ireturn, 1)) rfl
def dl_X3_given_c0 : List (Nat × Instr × Nat) := [(0, .aload_n 0, 1), (1, .getfield 10, 3), (4, .iload_n 1, 1), (5, .invokevirtual 76, 3), (8, .ifCond .ne 9, 3), (11, .aload_n 0, 1), (12, .iconst (-1), 1), (13, .invokevirtual 58, 3), (16, .ireturn, 1), (17, .aload_n 0, 1), (18, .getfield 10, 3), (21, .getfield 86, 3), (24, .iload_n 1, 1), (25, .iaload, 1), (26, .bipush (-9), 2), (28, .if_icmp .eq 10, 3), (31, .aload_n 0, 1), (32, .bipush (-3), 2), (34, .invokevirtual 58, 3), (37, .ireturn, 1), (38, .iconst 0, 1), (39, .istore_n 2, 1), (40, .iconst 0, 1), (41, .istore_n 3, 1), (42, .iload_n 3, 1)]
set_option maxRecDepth 100000 in
theorem dm_X3_given_c0 : dl_X3_given_c0.all (fun q => decide (decode cX3_given q.1 = .ok q.2)) = true := by decide +kernel
theorem dX3_given_0 : decode cX3_given 0 = .ok (.aload_n 0, 1) := d_of dm_X3_given_c0 0 (q := (0, .aload_n 0, 1)) rfl
theorem dX3_given_1 : decode cX3_given 1 = .ok (.getfield 10, 3) := d_of dm_X3_given_c0 1 (q := (1, .getfield 10, 3)) rfl
theorem dX3_given_4 : decode cX3_given 4 = .ok (.iload_n 1, 1) := d_of dm_X3_given_c0 2 (q := (4, .iload_n 1, 1)) rfl
theorem dX3_given_5 : decode cX3_given 5 = .ok (.invokevirtual 76, 3) := d_of dm_X3_given_c0 3 (q := (5, .invokevirtual 76, 3)) rfl
theorem dX3_given_8 : decode cX3_given 8 = .ok (.ifCond .ne 9, 3) := d_of dm_X3_given_c0 4 (q := (8, .ifCond .ne 9, 3)) rfl
theorem dX3_given_11 : decode cX3_given 11 = .ok (.aload_n 0, 1) := d_of dm_X3_given_c0 5 (q := (11, .aload_n 0, 1)) rfl
theorem dX3_given_12 : decode cX3_given 12 = .ok (.iconst (-1), 1) := d_of dm_X3_given_c0 6 (q := (12, .iconst (-1), 1)) rfl
theorem dX3_given_13 : decode cX3_given 13 = .ok (.invokevirtual 58, 3) := d_of dm_X3_given_c0 7 (q := (13, .invokevirtual 58, 3)) rfl
theorem dX3_given_16 : decode cX3_given 16 = .ok (.ireturn, 1) := d_of dm_X3_given_c0 8 (q := (16, .ireturn, 1)) rfl
theorem dX3_given_17 : decode cX3_given 17 = .ok (.aload_n 0, 1) := d_of dm_X3_given_c0 9 (q := (17, .aload_n 0, 1)) rfl
theorem dX3_given_18 : decode cX3_given 18 = .ok (.getfield 10, 3) := d_of dm_X3_given_c0 10 (q := (18, .getfield 10, 3)) rfl
theorem dX3_given_21 : decode cX3_given 21 = .ok (.getfield 86, 3) := d_of dm_X3_given_c0 11 (q := (21, .getfield 86, 3)) rfl
theorem dX3_given_24 : decode cX3_given 24 = .ok (.iload_n 1, 1) := d_of dm_X3_given_c0 12 (q := (24, .iload_n 1, 1)) rfl
theorem dX3_given_25 : decode cX3_given 25 = .ok (.iaload, 1) := d_of dm_X3_given_c0 13 (q := (25, .iaload, 1)) rfl
theorem dX3_given_26 : decode cX3_given 26 = .ok (.bipush (-9), 2) := d_of dm_X3_given_c0 14 (q := (26, .bipush (-9), 2)) rfl
theorem dX3_given_28 : decode cX3_given 28 = .ok (.if_icmp .eq 10, 3) := d_of dm_X3_given_c0 15 (q := (28, .if_icmp .eq 10, 3)) rfl
theorem dX3_given_31 : decode cX3_given 31 = .ok (.aload_n 0, 1) := d_of dm_X3_given_c0 16 (q := (31, .aload_n 0, 1)) rfl
theorem dX3_given_32 : decode cX3_given 32 = .ok (.bipush (-3), 2) := d_of dm_X3_given_c0 17 (q := (32, .bipush (-3), 2)) rfl
theorem dX3_given_34 : decode cX3_given 34 = .ok (.invokevirtual 58, 3) := d_of dm_X3_given_c0 18 (q := (34, .invokevirtual 58, 3)) rfl
theorem dX3_given_37 : decode cX3_given 37 = .ok (.ireturn, 1) := d_of dm_X3_given_c0 19 (q := (37, .ireturn, 1)) rfl
theorem dX3_given_38 : decode cX3_given 38 = .ok (.iconst 0, 1) := d_of dm_X3_given_c0 20 (q := (38, .iconst 0, 1)) rfl
theorem dX3_given_39 : decode cX3_given 39 = .ok (.istore_n 2, 1) := d_of dm_X3_given_c0 21 (q := (39, .istore_n 2, 1)) rfl
theorem dX3_given_40 : decode cX3_given 40 = .ok (.iconst 0, 1) := d_of dm_X3_given_c0 22 (q := (40, .iconst 0, 1)) rfl
theorem dX3_given_41 : decode cX3_given 41 = .ok (.istore_n 3, 1) := d_of dm_X3_given_c0 23 (q := (41, .istore_n 3, 1)) rfl
theorem dX3_given_42 : decode cX3_given 42 = .ok (.iload_n 3, 1) := d_of dm_X3_given_c0 24 (q := (42, .iload_n 3, 1)) rfl
def dl_X3_given_c25 : List (Nat × Instr × Nat) := [(43, .aload_n 0, 1), (44, .getfield 10, 3), (47, .getfield 115, 3), (50, .if_icmp .ge 46, 3), (53, .iload_n 3, 1), (54, .iload_n 1, 1), (55, .if_icmp .eq 35, 3), (58, .aload_n 0, 1), (59, .getfield 10, 3), (62, .getfield 86, 3), (65, .iload_n 3, 1), (66, .iaload, 1), (67, .bipush (-9), 2), (69, .if_icmp .ne 21, 3), (72, .aload_n 0, 1), (73, .getfield 10, 3), (76, .iload_n 1, 1), (77, .iload_n 3, 1), (78, .invokevirtual 146, 3), (81, .ifCond .ne 9, 3), (84, .iload_n 2, 1), (85, .iconst 1, 1), (86, .iload_n 3, 1), (87, .ishl, 1), (88, .ior, 1)]
set_option maxRecDepth 100000 in
theorem dm_X3_given_c25 : dl_X3_given_c25.all (fun q => decide (decode cX3_given q.1 = .ok q.2)) = true := by decide +kernel
theorem dX3_given_43 : decode cX3_given 43 = .ok (.aload_n 0, 1) := d_of dm_X3_given_c25 0 (q := (43, .aload_n 0, 1)) rfl
theorem dX3_given_44 : decode cX3_given 44 = .ok (.getfield 10, 3) := d_of dm_X3_given_c25 1 (q := (44, .getfield 10, 3)) rfl
theorem dX3_given_47 : decode cX3_given 47 = .ok (.getfield 115, 3) := d_of dm_X3_given_c25 2 (q := (47, .getfield 115, 3)) rfl
theorem dX3_given_50 : decode cX3_given 50 = .ok (.if_icmp .ge 46, 3) := d_of dm_X3_given_c25 3 (q := (50, .if_icmp .ge 46, 3)) rfl
theorem dX3_given_53 : decode cX3_given 53 = .ok (.iload_n 3, 1) := d_of dm_X3_given_c25 4 (q := (53, .iload_n 3, 1)) rfl
theorem dX3_given_54 : decode cX3_given 54 = .ok (.iload_n 1, 1) := d_of dm_X3_given_c25 5 (q := (54, .iload_n 1, 1)) rfl
theorem dX3_given_55 : decode cX3_given 55 = .ok (.if_icmp .eq 35, 3) := d_of dm_X3_given_c25 6 (q := (55, .if_icmp .eq 35, 3)) rfl
theorem dX3_given_58 : decode cX3_given 58 = .ok (.aload_n 0, 1) := d_of dm_X3_given_c25 7 (q := (58, .aload_n 0, 1)) rfl
theorem dX3_given_59 : decode cX3_given 59 = .ok (.getfield 10, 3) := d_of dm_X3_given_c25 8 (q := (59, .getfield 10, 3)) rfl
theorem dX3_given_62 : decode cX3_given 62 = .ok (.getfield 86, 3) := d_of dm_X3_given_c25 9 (q := (62, .getfield 86, 3)) rfl
theorem dX3_given_65 : decode cX3_given 65 = .ok (.iload_n 3, 1) := d_of dm_X3_given_c25 10 (q := (65, .iload_n 3, 1)) rfl
theorem dX3_given_66 : decode cX3_given 66 = .ok (.iaload, 1) := d_of dm_X3_given_c25 11 (q := (66, .iaload, 1)) rfl
theorem dX3_given_67 : decode cX3_given 67 = .ok (.bipush (-9), 2) := d_of dm_X3_given_c25 12 (q := (67, .bipush (-9), 2)) rfl
theorem dX3_given_69 : decode cX3_given 69 = .ok (.if_icmp .ne 21, 3) := d_of dm_X3_given_c25 13 (q := (69, .if_icmp .ne 21, 3)) rfl
theorem dX3_given_72 : decode cX3_given 72 = .ok (.aload_n 0, 1) := d_of dm_X3_given_c25 14 (q := (72, .aload_n 0, 1)) rfl
theorem dX3_given_73 : decode cX3_given 73 = .ok (.getfield 10, 3) := d_of dm_X3_given_c25 15 (q := (73, .getfield 10, 3)) rfl
theorem dX3_given_76 : decode cX3_given 76 = .ok (.iload_n 1, 1) := d_of dm_X3_given_c25 16 (q := (76, .iload_n 1, 1)) rfl
theorem dX3_given_77 : decode cX3_given 77 = .ok (.iload_n 3, 1) := d_of dm_X3_given_c25 17 (q := (77, .iload_n 3, 1)) rfl
theorem dX3_given_78 : decode cX3_given 78 = .ok (.invokevirtual 146, 3) := d_of dm_X3_given_c25 18 (q := (78, .invokevirtual 146, 3)) rfl
theorem dX3_given_81 : decode cX3_given 81 = .ok (.ifCond .ne 9, 3) := d_of dm_X3_given_c25 19 (q := (81, .ifCond .ne 9, 3)) rfl
theorem dX3_given_84 : decode cX3_given 84 = .ok (.iload_n 2, 1) := d_of dm_X3_given_c25 20 (q := (84, .iload_n 2, 1)) rfl
theorem dX3_given_85 : decode cX3_given 85 = .ok (.iconst 1, 1) := d_of dm_X3_given_c25 21 (q := (85, .iconst 1, 1)) rfl
theorem dX3_given_86 : decode cX3_given 86 = .ok (.iload_n 3, 1) := d_of dm_X3_given_c25 22 (q := (86, .iload_n 3, 1)) rfl
theorem dX3_given_87 : decode cX3_given 87 = .ok (.ishl, 1) := d_of dm_X3_given_c25 23 (q := (87, .ishl, 1)) rfl
theorem dX3_given_88 : decode cX3_given 88 = .ok (.ior, 1) := d_of dm_X3_given_c25 24 (q := (88, .ior, 1)) rfl
def dl_X3_given_c50 : List (Nat × Instr × Nat) := [(89, .istore_n 2, 1), (90, .iinc 3 1, 3), (93, .goto (-51), 3), (96, .iload_n 2, 1), (97, .ireturn, 1)]
set_option maxRecDepth 100000 in
theorem dm_X3_given_c50 : dl_X3_given_c50.all (fun q => decide (decode cX3_given q.1 = .ok q.2)) = true := by decide +kernel
theorem dX3_given_89 : decode cX3_given 89 = .ok (.istore_n 2, 1) := d_of dm_X3_given_c50 0 (q := (89, .istore_n 2, 1)) rfl
theorem dX3_given_90 : decode cX3_given 90 = .ok (.iinc 3 1, 3) := d_of dm_X3_given_c50 1 (q := (90, .iinc 3 1, 3)) rfl
theorem dX3_given_93 : decode cX3_given 93 = .ok (.goto (-51), 3) := d_of dm_X3_given_c50 2 (q := (93, .goto (-51), 3)) rfl
theorem dX3_given_96 : decode cX3_given 96 = .ok (.iload_n 2, 1) := d_of dm_X3_given_c50 3 (q := (96, .iload_n 2, 1)) rfl
theorem dX3_given_97 : decode cX3_given 97 = .ok (.ireturn, 1) := d_of dm_X3_given_c50 4 (q := (97, .ireturn, 1)) rfl
def dl_X3_pairings_c0 : List (Nat × Instr × Nat) := [(0, .iload_n 1, 1), (1, .ifCond .eq 15, 3), (4, .iload_n 1, 1), (5, .iconst 1, 1), (6, .if_icmp .eq 10, 3), (9, .aload_n 0, 1), (10, .bipush (-2), 2), (12, .invokevirtual 58, 3), (15, .ireturn, 1), (16, .aload_n 0, 1), (17, .getfield 36, 3), (20, .aload_n 0, 1), (21, .getfield 10, 3), (24, .invokevirtual 150, 3), (27, .aload_n 0, 1), (28, .getfield 36, 3), (31, .invokevirtual 153, 3), (34, .iload_n 1, 1), (35, .ifCond .ne 11, 3), (38, .aload_n 0, 1), (39, .getfield 36, 3), (42, .invokevirtual 156, 3), (45, .ireturn, 1), (46, .aload_n 0, 1), (47, .getfield 36, 3)]
set_option maxRecDepth 100000 in
theorem dm_X3_pairings_c0 : dl_X3_pairings_c0.all (fun q => decide (decode cX3_pairings q.1 = .ok q.2)) = true := by decide +kernel
theorem dX3_pairings_0 : decode cX3_pairings 0 = .ok (.iload_n 1, 1) := d_of dm_X3_pairings_c0 0 (q := (0, .iload_n 1, 1)) rfl
theorem dX3_pairings_1 : decode cX3_pairings 1 = .ok (.ifCond .eq 15, 3) := d_of dm_X3_pairings_c0 1 (q := (1, .ifCond .eq 15, 3)) rfl
theorem dX3_pairings_4 : decode cX3_pairings 4 = .ok (.iload_n 1, 1) := d_of dm_X3_pairings_c0 2 (q := (4, .iload_n 1, 1)) rfl
theorem dX3_pairings_5 : decode cX3_pairings 5 = .ok (.iconst 1, 1) := d_of dm_X3_pairings_c0 3 (q := (5, .iconst 1, 1)) rfl
theorem dX3_pairings_6 : decode cX3_pairings 6 = .ok (.if_icmp .eq 10, 3) := d_of dm_X3_pairings_c0 4 (q := (6, .if_icmp .eq 10, 3)) rfl
theorem dX3_pairings_9 : decode cX3_pairings 9 = .ok (.aload_n 0, 1) := d_of dm_X3_pairings_c0 5 (q := (9, .aload_n 0, 1)) rfl
theorem dX3_pairings_10 : decode cX3_pairings 10 = .ok (.bipush (-2), 2) := d_of dm_X3_pairings_c0 6 (q := (10, .bipush (-2), 2)) rfl
theorem dX3_pairings_12 : decode cX3_pairings 12 = .ok (.invokevirtual 58, 3) := d_of dm_X3_pairings_c0 7 (q := (12, .invokevirtual 58, 3)) rfl
theorem dX3_pairings_15 : decode cX3_pairings 15 = .ok (.ireturn, 1) := d_of dm_X3_pairings_c0 8 (q := (15, .ireturn, 1)) rfl
theorem dX3_pairings_16 : decode cX3_pairings 16 = .ok (.aload_n 0, 1) := d_of dm_X3_pairings_c0 9 (q := (16, .aload_n 0, 1)) rfl
theorem dX3_pairings_17 : decode cX3_pairings 17 = .ok (.getfield 36, 3) := d_of dm_X3_pairings_c0 10 (q := (17, .getfield 36, 3)) rfl
theorem dX3_pairings_20 : decode cX3_pairings 20 = .ok (.aload_n 0, 1) := d_of dm_X3_pairings_c0 11 (q := (20, .aload_n 0, 1)) rfl
theorem dX3_pairings_21 : decode cX3_pairings 21 = .ok (.getfield 10, 3) := d_of dm_X3_pairings_c0 12 (q := (21, .getfield 10, 3)) rfl
theorem dX3_pairings_24 : decode cX3_pairings 24 = .ok (.invokevirtual 150, 3) := d_of dm_X3_pairings_c0 13 (q := (24, .invokevirtual 150, 3)) rfl
theorem dX3_pairings_27 : decode cX3_pairings 27 = .ok (.aload_n 0, 1) := d_of dm_X3_pairings_c0 14 (q := (27, .aload_n 0, 1)) rfl
theorem dX3_pairings_28 : decode cX3_pairings 28 = .ok (.getfield 36, 3) := d_of dm_X3_pairings_c0 15 (q := (28, .getfield 36, 3)) rfl
theorem dX3_pairings_31 : decode cX3_pairings 31 = .ok (.invokevirtual 153, 3) := d_of dm_X3_pairings_c0 16 (q := (31, .invokevirtual 153, 3)) rfl
theorem dX3_pairings_34 : decode cX3_pairings 34 = .ok (.iload_n 1, 1) := d_of dm_X3_pairings_c0 17 (q := (34, .iload_n 1, 1)) rfl
theorem dX3_pairings_35 : decode cX3_pairings 35 = .ok (.ifCond .ne 11, 3) := d_of dm_X3_pairings_c0 18 (q := (35, .ifCond .ne 11, 3)) rfl
theorem dX3_pairings_38 : decode cX3_pairings 38 = .ok (.aload_n 0, 1) := d_of dm_X3_pairings_c0 19 (q := (38, .aload_n 0, 1)) rfl
theorem dX3_pairings_39 : decode cX3_pairings 39 = .ok (.getfield 36, 3) := d_of dm_X3_pairings_c0 20 (q := (39, .getfield 36, 3)) rfl
theorem dX3_pairings_42 : decode cX3_pairings 42 = .ok (.invokevirtual 156, 3) := d_of dm_X3_pairings_c0 21 (q := (42, .invokevirtual 156, 3)) rfl
theorem dX3_pairings_45 : decode cX3_pairings 45 = .ok (.ireturn, 1) := d_of dm_X3_pairings_c0 22 (q := (45, .ireturn, 1)) rfl
theorem dX3_pairings_46 : decode cX3_pairings 46 = .ok (.aload_n 0, 1) := d_of dm_X3_pairings_c0 23 (q := (46, .aload_n 0, 1)) rfl
theorem dX3_pairings_47 : decode cX3_pairings 47 = .ok (.getfield 36, 3) := d_of dm_X3_pairings_c0 24 (q := (47, .getfield 36, 3)) rfl
def dl_X3_pairings_c25 : List (Nat × Instr × Nat) := [(50, .iconst 0, 1), (51, .invokevirtual 159, 3), (54, .invokestatic 162, 3), (57, .ireturn, 1)]
set_option maxRecDepth 100000 in
theorem dm_X3_pairings_c25 : dl_X3_pairings_c25.all (fun q => decide (decode cX3_pairings q.1 = .ok q.2)) = true := by decide +kernel
theorem dX3_pairings_50 : decode cX3_pairings 50 = .ok (.iconst 0, 1) := d_of dm_X3_pairings_c25 0 (q := (50, .iconst 0, 1)) rfl
theorem dX3_pairings_51 : decode cX3_pairings 51 = .ok (.invokevirtual 159, 3) := d_of dm_X3_pairings_c25 1 (q := (51, .invokevirtual 159, 3)) rfl
theorem dX3_pairings_54 : decode cX3_pairings 54 = .ok (.invokestatic 162, 3) := d_of dm_X3_pairings_c25 2 (q := (54, .invokestatic 162, 3)) rfl
theorem dX3_pairings_57 : decode cX3_pairings 57 = .ok (.ireturn, 1) := d_of dm_X3_pairings_c25 3 (q := (57, .ireturn, 1)) rfl
def dl_X3_together_c0 : List (Nat × Instr × Nat) := [(0, .iload_n 1, 1), (1, .aload_n 0, 1), (2, .getfield 10, 3), (5, .invokevirtual 165, 3), (8, .iconst (-1), 1), (9, .ixor, 1), (10, .iand, 1), (11, .ifCond .eq 9, 3), (14, .aload_n 0, 1), (15, .iconst (-1), 1), (16, .invokevirtual 58, 3), (19, .ireturn, 1), (20, .aload_n 0, 1), (21, .getfield 10, 3), (24, .getfield 168, 3), (27, .bipush 8, 2), (29, .if_icmp .lt 10, 3), (32, .aload_n 0, 1), (33, .bipush (-6), 2), (35, .invokevirtual 58, 3), (38, .ireturn, 1), (39, .aload_n 0, 1), (40, .getfield 10, 3), (43, .getfield 171, 3), (46, .aload_n 0, 1)]
set_option maxRecDepth 100000 in
theorem dm_X3_together_c0 : dl_X3_together_c0.all (fun q => decide (decode cX3_together q.1 = .ok q.2)) = true := by decide +kernel
theorem dX3_together_0 : decode cX3_together 0 = .ok (.iload_n 1, 1) := d_of dm_X3_together_c0 0 (q := (0, .iload_n 1, 1)) rfl
theorem dX3_together_1 : decode cX3_together 1 = .ok (.aload_n 0, 1) := d_of dm_X3_together_c0 1 (q := (1, .aload_n 0, 1)) rfl
theorem dX3_together_2 : decode cX3_together 2 = .ok (.getfield 10, 3) := d_of dm_X3_together_c0 2 (q := (2, .getfield 10, 3)) rfl
theorem dX3_together_5 : decode cX3_together 5 = .ok (.invokevirtual 165, 3) := d_of dm_X3_together_c0 3 (q := (5, .invokevirtual 165, 3)) rfl
theorem dX3_together_8 : decode cX3_together 8 = .ok (.iconst (-1), 1) := d_of dm_X3_together_c0 4 (q := (8, .iconst (-1), 1)) rfl
theorem dX3_together_9 : decode cX3_together 9 = .ok (.ixor, 1) := d_of dm_X3_together_c0 5 (q := (9, .ixor, 1)) rfl
theorem dX3_together_10 : decode cX3_together 10 = .ok (.iand, 1) := d_of dm_X3_together_c0 6 (q := (10, .iand, 1)) rfl
theorem dX3_together_11 : decode cX3_together 11 = .ok (.ifCond .eq 9, 3) := d_of dm_X3_together_c0 7 (q := (11, .ifCond .eq 9, 3)) rfl
theorem dX3_together_14 : decode cX3_together 14 = .ok (.aload_n 0, 1) := d_of dm_X3_together_c0 8 (q := (14, .aload_n 0, 1)) rfl
theorem dX3_together_15 : decode cX3_together 15 = .ok (.iconst (-1), 1) := d_of dm_X3_together_c0 9 (q := (15, .iconst (-1), 1)) rfl
theorem dX3_together_16 : decode cX3_together 16 = .ok (.invokevirtual 58, 3) := d_of dm_X3_together_c0 10 (q := (16, .invokevirtual 58, 3)) rfl
theorem dX3_together_19 : decode cX3_together 19 = .ok (.ireturn, 1) := d_of dm_X3_together_c0 11 (q := (19, .ireturn, 1)) rfl
theorem dX3_together_20 : decode cX3_together 20 = .ok (.aload_n 0, 1) := d_of dm_X3_together_c0 12 (q := (20, .aload_n 0, 1)) rfl
theorem dX3_together_21 : decode cX3_together 21 = .ok (.getfield 10, 3) := d_of dm_X3_together_c0 13 (q := (21, .getfield 10, 3)) rfl
theorem dX3_together_24 : decode cX3_together 24 = .ok (.getfield 168, 3) := d_of dm_X3_together_c0 14 (q := (24, .getfield 168, 3)) rfl
theorem dX3_together_27 : decode cX3_together 27 = .ok (.bipush 8, 2) := d_of dm_X3_together_c0 15 (q := (27, .bipush 8, 2)) rfl
theorem dX3_together_29 : decode cX3_together 29 = .ok (.if_icmp .lt 10, 3) := d_of dm_X3_together_c0 16 (q := (29, .if_icmp .lt 10, 3)) rfl
theorem dX3_together_32 : decode cX3_together 32 = .ok (.aload_n 0, 1) := d_of dm_X3_together_c0 17 (q := (32, .aload_n 0, 1)) rfl
theorem dX3_together_33 : decode cX3_together 33 = .ok (.bipush (-6), 2) := d_of dm_X3_together_c0 18 (q := (33, .bipush (-6), 2)) rfl
theorem dX3_together_35 : decode cX3_together 35 = .ok (.invokevirtual 58, 3) := d_of dm_X3_together_c0 19 (q := (35, .invokevirtual 58, 3)) rfl
theorem dX3_together_38 : decode cX3_together 38 = .ok (.ireturn, 1) := d_of dm_X3_together_c0 20 (q := (38, .ireturn, 1)) rfl
theorem dX3_together_39 : decode cX3_together 39 = .ok (.aload_n 0, 1) := d_of dm_X3_together_c0 21 (q := (39, .aload_n 0, 1)) rfl
theorem dX3_together_40 : decode cX3_together 40 = .ok (.getfield 10, 3) := d_of dm_X3_together_c0 22 (q := (40, .getfield 10, 3)) rfl
theorem dX3_together_43 : decode cX3_together 43 = .ok (.getfield 171, 3) := d_of dm_X3_together_c0 23 (q := (43, .getfield 171, 3)) rfl
theorem dX3_together_46 : decode cX3_together 46 = .ok (.aload_n 0, 1) := d_of dm_X3_together_c0 24 (q := (46, .aload_n 0, 1)) rfl
def dl_X3_together_c25 : List (Nat × Instr × Nat) := [(47, .getfield 10, 3), (50, .getfield 168, 3), (53, .iload_n 1, 1), (54, .iastore, 1), (55, .aload_n 0, 1), (56, .getfield 10, 3), (59, .dup, 1), (60, .getfield 168, 3), (63, .iconst 1, 1), (64, .iadd, 1), (65, .putfield 168, 3), (68, .aload_n 0, 1), (69, .getfield 10, 3), (72, .getfield 168, 3), (75, .ireturn, 1)]
set_option maxRecDepth 100000 in
theorem dm_X3_together_c25 : dl_X3_together_c25.all (fun q => decide (decode cX3_together q.1 = .ok q.2)) = true := by decide +kernel
theorem dX3_together_47 : decode cX3_together 47 = .ok (.getfield 10, 3) := d_of dm_X3_together_c25 0 (q := (47, .getfield 10, 3)) rfl
theorem dX3_together_50 : decode cX3_together 50 = .ok (.getfield 168, 3) := d_of dm_X3_together_c25 1 (q := (50, .getfield 168, 3)) rfl
theorem dX3_together_53 : decode cX3_together 53 = .ok (.iload_n 1, 1) := d_of dm_X3_together_c25 2 (q := (53, .iload_n 1, 1)) rfl
theorem dX3_together_54 : decode cX3_together 54 = .ok (.iastore, 1) := d_of dm_X3_together_c25 3 (q := (54, .iastore, 1)) rfl
theorem dX3_together_55 : decode cX3_together 55 = .ok (.aload_n 0, 1) := d_of dm_X3_together_c25 4 (q := (55, .aload_n 0, 1)) rfl
theorem dX3_together_56 : decode cX3_together 56 = .ok (.getfield 10, 3) := d_of dm_X3_together_c25 5 (q := (56, .getfield 10, 3)) rfl
theorem dX3_together_59 : decode cX3_together 59 = .ok (.dup, 1) := d_of dm_X3_together_c25 6 (q := (59, .dup, 1)) rfl
theorem dX3_together_60 : decode cX3_together 60 = .ok (.getfield 168, 3) := d_of dm_X3_together_c25 7 (q := (60, .getfield 168, 3)) rfl
theorem dX3_together_63 : decode cX3_together 63 = .ok (.iconst 1, 1) := d_of dm_X3_together_c25 8 (q := (63, .iconst 1, 1)) rfl
theorem dX3_together_64 : decode cX3_together 64 = .ok (.iadd, 1) := d_of dm_X3_together_c25 9 (q := (64, .iadd, 1)) rfl
theorem dX3_together_65 : decode cX3_together 65 = .ok (.putfield 168, 3) := d_of dm_X3_together_c25 10 (q := (65, .putfield 168, 3)) rfl
theorem dX3_together_68 : decode cX3_together 68 = .ok (.aload_n 0, 1) := d_of dm_X3_together_c25 11 (q := (68, .aload_n 0, 1)) rfl
theorem dX3_together_69 : decode cX3_together 69 = .ok (.getfield 10, 3) := d_of dm_X3_together_c25 12 (q := (69, .getfield 10, 3)) rfl
theorem dX3_together_72 : decode cX3_together 72 = .ok (.getfield 168, 3) := d_of dm_X3_together_c25 13 (q := (72, .getfield 168, 3)) rfl
theorem dX3_together_75 : decode cX3_together 75 = .ok (.ireturn, 1) := d_of dm_X3_together_c25 14 (q := (75, .ireturn, 1)) rfl
def dl_X3_may_c0 : List (Nat × Instr × Nat) := [(0, .aload_n 0, 1), (1, .getfield 10, 3), (4, .iload_n 1, 1), (5, .invokevirtual 76, 3), (8, .ifCond .ne 9, 3), (11, .aload_n 0, 1), (12, .iconst (-1), 1), (13, .invokevirtual 58, 3), (16, .ireturn, 1), (17, .aload_n 0, 1), (18, .getfield 36, 3), (21, .aload_n 0, 1), (22, .getfield 10, 3), (25, .invokevirtual 174, 3), (28, .aload_n 0, 1), (29, .getfield 36, 3), (32, .invokevirtual 153, 3), (35, .aload_n 0, 1), (36, .getfield 36, 3), (39, .iload_n 1, 1), (40, .invokevirtual 159, 3), (43, .ireturn, 1)]
set_option maxRecDepth 100000 in
theorem dm_X3_may_c0 : dl_X3_may_c0.all (fun q => decide (decode cX3_may q.1 = .ok q.2)) = true := by decide +kernel
theorem dX3_may_0 : decode cX3_may 0 = .ok (.aload_n 0, 1) := d_of dm_X3_may_c0 0 (q := (0, .aload_n 0, 1)) rfl
theorem dX3_may_1 : decode cX3_may 1 = .ok (.getfield 10, 3) := d_of dm_X3_may_c0 1 (q := (1, .getfield 10, 3)) rfl
theorem dX3_may_4 : decode cX3_may 4 = .ok (.iload_n 1, 1) := d_of dm_X3_may_c0 2 (q := (4, .iload_n 1, 1)) rfl
theorem dX3_may_5 : decode cX3_may 5 = .ok (.invokevirtual 76, 3) := d_of dm_X3_may_c0 3 (q := (5, .invokevirtual 76, 3)) rfl
theorem dX3_may_8 : decode cX3_may 8 = .ok (.ifCond .ne 9, 3) := d_of dm_X3_may_c0 4 (q := (8, .ifCond .ne 9, 3)) rfl
theorem dX3_may_11 : decode cX3_may 11 = .ok (.aload_n 0, 1) := d_of dm_X3_may_c0 5 (q := (11, .aload_n 0, 1)) rfl
theorem dX3_may_12 : decode cX3_may 12 = .ok (.iconst (-1), 1) := d_of dm_X3_may_c0 6 (q := (12, .iconst (-1), 1)) rfl
theorem dX3_may_13 : decode cX3_may 13 = .ok (.invokevirtual 58, 3) := d_of dm_X3_may_c0 7 (q := (13, .invokevirtual 58, 3)) rfl
theorem dX3_may_16 : decode cX3_may 16 = .ok (.ireturn, 1) := d_of dm_X3_may_c0 8 (q := (16, .ireturn, 1)) rfl
theorem dX3_may_17 : decode cX3_may 17 = .ok (.aload_n 0, 1) := d_of dm_X3_may_c0 9 (q := (17, .aload_n 0, 1)) rfl
theorem dX3_may_18 : decode cX3_may 18 = .ok (.getfield 36, 3) := d_of dm_X3_may_c0 10 (q := (18, .getfield 36, 3)) rfl
theorem dX3_may_21 : decode cX3_may 21 = .ok (.aload_n 0, 1) := d_of dm_X3_may_c0 11 (q := (21, .aload_n 0, 1)) rfl
theorem dX3_may_22 : decode cX3_may 22 = .ok (.getfield 10, 3) := d_of dm_X3_may_c0 12 (q := (22, .getfield 10, 3)) rfl
theorem dX3_may_25 : decode cX3_may 25 = .ok (.invokevirtual 174, 3) := d_of dm_X3_may_c0 13 (q := (25, .invokevirtual 174, 3)) rfl
theorem dX3_may_28 : decode cX3_may 28 = .ok (.aload_n 0, 1) := d_of dm_X3_may_c0 14 (q := (28, .aload_n 0, 1)) rfl
theorem dX3_may_29 : decode cX3_may 29 = .ok (.getfield 36, 3) := d_of dm_X3_may_c0 15 (q := (29, .getfield 36, 3)) rfl
theorem dX3_may_32 : decode cX3_may 32 = .ok (.invokevirtual 153, 3) := d_of dm_X3_may_c0 16 (q := (32, .invokevirtual 153, 3)) rfl
theorem dX3_may_35 : decode cX3_may 35 = .ok (.aload_n 0, 1) := d_of dm_X3_may_c0 17 (q := (35, .aload_n 0, 1)) rfl
theorem dX3_may_36 : decode cX3_may 36 = .ok (.getfield 36, 3) := d_of dm_X3_may_c0 18 (q := (36, .getfield 36, 3)) rfl
theorem dX3_may_39 : decode cX3_may 39 = .ok (.iload_n 1, 1) := d_of dm_X3_may_c0 19 (q := (39, .iload_n 1, 1)) rfl
theorem dX3_may_40 : decode cX3_may 40 = .ok (.invokevirtual 159, 3) := d_of dm_X3_may_c0 20 (q := (40, .invokevirtual 159, 3)) rfl
theorem dX3_may_43 : decode cX3_may 43 = .ok (.ireturn, 1) := d_of dm_X3_may_c0 21 (q := (43, .ireturn, 1)) rfl
def dl_X3_ways_c0 : List (Nat × Instr × Nat) := [(0, .aload_n 0, 1), (1, .getfield 36, 3), (4, .aload_n 0, 1), (5, .getfield 10, 3), (8, .invokevirtual 174, 3), (11, .aload_n 0, 1), (12, .getfield 36, 3), (15, .invokevirtual 153, 3), (18, .aload_n 0, 1), (19, .getfield 36, 3), (22, .invokevirtual 156, 3), (25, .ireturn, 1)]
set_option maxRecDepth 100000 in
theorem dm_X3_ways_c0 : dl_X3_ways_c0.all (fun q => decide (decode cX3_ways q.1 = .ok q.2)) = true := by decide +kernel
theorem dX3_ways_0 : decode cX3_ways 0 = .ok (.aload_n 0, 1) := d_of dm_X3_ways_c0 0 (q := (0, .aload_n 0, 1)) rfl
theorem dX3_ways_1 : decode cX3_ways 1 = .ok (.getfield 36, 3) := d_of dm_X3_ways_c0 1 (q := (1, .getfield 36, 3)) rfl
theorem dX3_ways_4 : decode cX3_ways 4 = .ok (.aload_n 0, 1) := d_of dm_X3_ways_c0 2 (q := (4, .aload_n 0, 1)) rfl
theorem dX3_ways_5 : decode cX3_ways 5 = .ok (.getfield 10, 3) := d_of dm_X3_ways_c0 3 (q := (5, .getfield 10, 3)) rfl
theorem dX3_ways_8 : decode cX3_ways 8 = .ok (.invokevirtual 174, 3) := d_of dm_X3_ways_c0 4 (q := (8, .invokevirtual 174, 3)) rfl
theorem dX3_ways_11 : decode cX3_ways 11 = .ok (.aload_n 0, 1) := d_of dm_X3_ways_c0 5 (q := (11, .aload_n 0, 1)) rfl
theorem dX3_ways_12 : decode cX3_ways 12 = .ok (.getfield 36, 3) := d_of dm_X3_ways_c0 6 (q := (12, .getfield 36, 3)) rfl
theorem dX3_ways_15 : decode cX3_ways 15 = .ok (.invokevirtual 153, 3) := d_of dm_X3_ways_c0 7 (q := (15, .invokevirtual 153, 3)) rfl
theorem dX3_ways_18 : decode cX3_ways 18 = .ok (.aload_n 0, 1) := d_of dm_X3_ways_c0 8 (q := (18, .aload_n 0, 1)) rfl
theorem dX3_ways_19 : decode cX3_ways 19 = .ok (.getfield 36, 3) := d_of dm_X3_ways_c0 9 (q := (19, .getfield 36, 3)) rfl
theorem dX3_ways_22 : decode cX3_ways 22 = .ok (.invokevirtual 156, 3) := d_of dm_X3_ways_c0 10 (q := (22, .invokevirtual 156, 3)) rfl
theorem dX3_ways_25 : decode cX3_ways 25 = .ok (.ireturn, 1) := d_of dm_X3_ways_c0 11 (q := (25, .ireturn, 1)) rfl
def dl_X3_feast_c0 : List (Nat × Instr × Nat) := [(0, .iload_n 1, 1), (1, .invokestatic 105, 3), (4, .ifCond .ne 9, 3), (7, .aload_n 0, 1), (8, .iconst (-1), 1), (9, .invokevirtual 58, 3), (12, .ireturn, 1), (13, .iload_n 2, 1), (14, .ifCond .eq 15, 3), (17, .iload_n 2, 1), (18, .iconst 1, 1), (19, .if_icmp .eq 10, 3), (22, .aload_n 0, 1), (23, .bipush (-2), 2), (25, .invokevirtual 58, 3), (28, .ireturn, 1), (29, .aload_n 0, 1), (30, .getfield 10, 3), (33, .getfield 115, 3), (36, .bipush 7, 2), (38, .if_icmp .le 10, 3), (41, .aload_n 0, 1), (42, .bipush (-3), 2), (44, .invokevirtual 58, 3), (47, .ireturn, 1)]
set_option maxRecDepth 100000 in
theorem dm_X3_feast_c0 : dl_X3_feast_c0.all (fun q => decide (decode cX3_feast q.1 = .ok q.2)) = true := by decide +kernel
theorem dX3_feast_0 : decode cX3_feast 0 = .ok (.iload_n 1, 1) := d_of dm_X3_feast_c0 0 (q := (0, .iload_n 1, 1)) rfl
theorem dX3_feast_1 : decode cX3_feast 1 = .ok (.invokestatic 105, 3) := d_of dm_X3_feast_c0 1 (q := (1, .invokestatic 105, 3)) rfl
theorem dX3_feast_4 : decode cX3_feast 4 = .ok (.ifCond .ne 9, 3) := d_of dm_X3_feast_c0 2 (q := (4, .ifCond .ne 9, 3)) rfl
theorem dX3_feast_7 : decode cX3_feast 7 = .ok (.aload_n 0, 1) := d_of dm_X3_feast_c0 3 (q := (7, .aload_n 0, 1)) rfl
theorem dX3_feast_8 : decode cX3_feast 8 = .ok (.iconst (-1), 1) := d_of dm_X3_feast_c0 4 (q := (8, .iconst (-1), 1)) rfl
theorem dX3_feast_9 : decode cX3_feast 9 = .ok (.invokevirtual 58, 3) := d_of dm_X3_feast_c0 5 (q := (9, .invokevirtual 58, 3)) rfl
theorem dX3_feast_12 : decode cX3_feast 12 = .ok (.ireturn, 1) := d_of dm_X3_feast_c0 6 (q := (12, .ireturn, 1)) rfl
theorem dX3_feast_13 : decode cX3_feast 13 = .ok (.iload_n 2, 1) := d_of dm_X3_feast_c0 7 (q := (13, .iload_n 2, 1)) rfl
theorem dX3_feast_14 : decode cX3_feast 14 = .ok (.ifCond .eq 15, 3) := d_of dm_X3_feast_c0 8 (q := (14, .ifCond .eq 15, 3)) rfl
theorem dX3_feast_17 : decode cX3_feast 17 = .ok (.iload_n 2, 1) := d_of dm_X3_feast_c0 9 (q := (17, .iload_n 2, 1)) rfl
theorem dX3_feast_18 : decode cX3_feast 18 = .ok (.iconst 1, 1) := d_of dm_X3_feast_c0 10 (q := (18, .iconst 1, 1)) rfl
theorem dX3_feast_19 : decode cX3_feast 19 = .ok (.if_icmp .eq 10, 3) := d_of dm_X3_feast_c0 11 (q := (19, .if_icmp .eq 10, 3)) rfl
theorem dX3_feast_22 : decode cX3_feast 22 = .ok (.aload_n 0, 1) := d_of dm_X3_feast_c0 12 (q := (22, .aload_n 0, 1)) rfl
theorem dX3_feast_23 : decode cX3_feast 23 = .ok (.bipush (-2), 2) := d_of dm_X3_feast_c0 13 (q := (23, .bipush (-2), 2)) rfl
theorem dX3_feast_25 : decode cX3_feast 25 = .ok (.invokevirtual 58, 3) := d_of dm_X3_feast_c0 14 (q := (25, .invokevirtual 58, 3)) rfl
theorem dX3_feast_28 : decode cX3_feast 28 = .ok (.ireturn, 1) := d_of dm_X3_feast_c0 15 (q := (28, .ireturn, 1)) rfl
theorem dX3_feast_29 : decode cX3_feast 29 = .ok (.aload_n 0, 1) := d_of dm_X3_feast_c0 16 (q := (29, .aload_n 0, 1)) rfl
theorem dX3_feast_30 : decode cX3_feast 30 = .ok (.getfield 10, 3) := d_of dm_X3_feast_c0 17 (q := (30, .getfield 10, 3)) rfl
theorem dX3_feast_33 : decode cX3_feast 33 = .ok (.getfield 115, 3) := d_of dm_X3_feast_c0 18 (q := (33, .getfield 115, 3)) rfl
theorem dX3_feast_36 : decode cX3_feast 36 = .ok (.bipush 7, 2) := d_of dm_X3_feast_c0 19 (q := (36, .bipush 7, 2)) rfl
theorem dX3_feast_38 : decode cX3_feast 38 = .ok (.if_icmp .le 10, 3) := d_of dm_X3_feast_c0 20 (q := (38, .if_icmp .le 10, 3)) rfl
theorem dX3_feast_41 : decode cX3_feast 41 = .ok (.aload_n 0, 1) := d_of dm_X3_feast_c0 21 (q := (41, .aload_n 0, 1)) rfl
theorem dX3_feast_42 : decode cX3_feast 42 = .ok (.bipush (-3), 2) := d_of dm_X3_feast_c0 22 (q := (42, .bipush (-3), 2)) rfl
theorem dX3_feast_44 : decode cX3_feast 44 = .ok (.invokevirtual 58, 3) := d_of dm_X3_feast_c0 23 (q := (44, .invokevirtual 58, 3)) rfl
theorem dX3_feast_47 : decode cX3_feast 47 = .ok (.ireturn, 1) := d_of dm_X3_feast_c0 24 (q := (47, .ireturn, 1)) rfl
def dl_X3_feast_c25 : List (Nat × Instr × Nat) := [(48, .aload_n 0, 1), (49, .getfield 16, 3), (52, .aload_n 0, 1), (53, .getfield 10, 3), (56, .invokevirtual 68, 3), (59, .aload_n 0, 1), (60, .getfield 10, 3), (63, .invokevirtual 165, 3), (66, .istore_n 3, 1), (67, .iload_n 3, 1), (68, .ifCond .lt 21, 3), (71, .aload_n 0, 1), (72, .getfield 40, 3), (75, .iload_n 3, 1), (76, .aload_n 0, 1), (77, .iload_n 3, 1), (78, .iload_n 1, 1), (79, .invokevirtual 177, 3), (82, .iastore, 1), (83, .iinc 3 (-1), 3), (86, .goto (-19), 3), (89, .iload_n 2, 1), (90, .ifCond .ne 12, 3), (93, .aload_n 0, 1), (94, .getfield 40, 3)]
set_option maxRecDepth 100000 in
theorem dm_X3_feast_c25 : dl_X3_feast_c25.all (fun q => decide (decode cX3_feast q.1 = .ok q.2)) = true := by decide +kernel
theorem dX3_feast_48 : decode cX3_feast 48 = .ok (.aload_n 0, 1) := d_of dm_X3_feast_c25 0 (q := (48, .aload_n 0, 1)) rfl
theorem dX3_feast_49 : decode cX3_feast 49 = .ok (.getfield 16, 3) := d_of dm_X3_feast_c25 1 (q := (49, .getfield 16, 3)) rfl
theorem dX3_feast_52 : decode cX3_feast 52 = .ok (.aload_n 0, 1) := d_of dm_X3_feast_c25 2 (q := (52, .aload_n 0, 1)) rfl
theorem dX3_feast_53 : decode cX3_feast 53 = .ok (.getfield 10, 3) := d_of dm_X3_feast_c25 3 (q := (53, .getfield 10, 3)) rfl
theorem dX3_feast_56 : decode cX3_feast 56 = .ok (.invokevirtual 68, 3) := d_of dm_X3_feast_c25 4 (q := (56, .invokevirtual 68, 3)) rfl
theorem dX3_feast_59 : decode cX3_feast 59 = .ok (.aload_n 0, 1) := d_of dm_X3_feast_c25 5 (q := (59, .aload_n 0, 1)) rfl
theorem dX3_feast_60 : decode cX3_feast 60 = .ok (.getfield 10, 3) := d_of dm_X3_feast_c25 6 (q := (60, .getfield 10, 3)) rfl
theorem dX3_feast_63 : decode cX3_feast 63 = .ok (.invokevirtual 165, 3) := d_of dm_X3_feast_c25 7 (q := (63, .invokevirtual 165, 3)) rfl
theorem dX3_feast_66 : decode cX3_feast 66 = .ok (.istore_n 3, 1) := d_of dm_X3_feast_c25 8 (q := (66, .istore_n 3, 1)) rfl
theorem dX3_feast_67 : decode cX3_feast 67 = .ok (.iload_n 3, 1) := d_of dm_X3_feast_c25 9 (q := (67, .iload_n 3, 1)) rfl
theorem dX3_feast_68 : decode cX3_feast 68 = .ok (.ifCond .lt 21, 3) := d_of dm_X3_feast_c25 10 (q := (68, .ifCond .lt 21, 3)) rfl
theorem dX3_feast_71 : decode cX3_feast 71 = .ok (.aload_n 0, 1) := d_of dm_X3_feast_c25 11 (q := (71, .aload_n 0, 1)) rfl
theorem dX3_feast_72 : decode cX3_feast 72 = .ok (.getfield 40, 3) := d_of dm_X3_feast_c25 12 (q := (72, .getfield 40, 3)) rfl
theorem dX3_feast_75 : decode cX3_feast 75 = .ok (.iload_n 3, 1) := d_of dm_X3_feast_c25 13 (q := (75, .iload_n 3, 1)) rfl
theorem dX3_feast_76 : decode cX3_feast 76 = .ok (.aload_n 0, 1) := d_of dm_X3_feast_c25 14 (q := (76, .aload_n 0, 1)) rfl
theorem dX3_feast_77 : decode cX3_feast 77 = .ok (.iload_n 3, 1) := d_of dm_X3_feast_c25 15 (q := (77, .iload_n 3, 1)) rfl
theorem dX3_feast_78 : decode cX3_feast 78 = .ok (.iload_n 1, 1) := d_of dm_X3_feast_c25 16 (q := (78, .iload_n 1, 1)) rfl
theorem dX3_feast_79 : decode cX3_feast 79 = .ok (.invokevirtual 177, 3) := d_of dm_X3_feast_c25 17 (q := (79, .invokevirtual 177, 3)) rfl
theorem dX3_feast_82 : decode cX3_feast 82 = .ok (.iastore, 1) := d_of dm_X3_feast_c25 18 (q := (82, .iastore, 1)) rfl
theorem dX3_feast_83 : decode cX3_feast 83 = .ok (.iinc 3 (-1), 3) := d_of dm_X3_feast_c25 19 (q := (83, .iinc 3 (-1), 3)) rfl
theorem dX3_feast_86 : decode cX3_feast 86 = .ok (.goto (-19), 3) := d_of dm_X3_feast_c25 20 (q := (86, .goto (-19), 3)) rfl
theorem dX3_feast_89 : decode cX3_feast 89 = .ok (.iload_n 2, 1) := d_of dm_X3_feast_c25 21 (q := (89, .iload_n 2, 1)) rfl
theorem dX3_feast_90 : decode cX3_feast 90 = .ok (.ifCond .ne 12, 3) := d_of dm_X3_feast_c25 22 (q := (90, .ifCond .ne 12, 3)) rfl
theorem dX3_feast_93 : decode cX3_feast 93 = .ok (.aload_n 0, 1) := d_of dm_X3_feast_c25 23 (q := (93, .aload_n 0, 1)) rfl
theorem dX3_feast_94 : decode cX3_feast 94 = .ok (.getfield 40, 3) := d_of dm_X3_feast_c25 24 (q := (94, .getfield 40, 3)) rfl
def dl_X3_feast_c50 : List (Nat × Instr × Nat) := [(97, .iconst 0, 1), (98, .iaload, 1), (99, .goto 7, 3), (102, .aload_n 0, 1), (103, .invokevirtual 180, 3), (106, .ireturn, 1)]
set_option maxRecDepth 100000 in
theorem dm_X3_feast_c50 : dl_X3_feast_c50.all (fun q => decide (decode cX3_feast q.1 = .ok q.2)) = true := by decide +kernel
theorem dX3_feast_97 : decode cX3_feast 97 = .ok (.iconst 0, 1) := d_of dm_X3_feast_c50 0 (q := (97, .iconst 0, 1)) rfl
theorem dX3_feast_98 : decode cX3_feast 98 = .ok (.iaload, 1) := d_of dm_X3_feast_c50 1 (q := (98, .iaload, 1)) rfl
theorem dX3_feast_99 : decode cX3_feast 99 = .ok (.goto 7, 3) := d_of dm_X3_feast_c50 2 (q := (99, .goto 7, 3)) rfl
theorem dX3_feast_102 : decode cX3_feast 102 = .ok (.aload_n 0, 1) := d_of dm_X3_feast_c50 3 (q := (102, .aload_n 0, 1)) rfl
theorem dX3_feast_103 : decode cX3_feast 103 = .ok (.invokevirtual 180, 3) := d_of dm_X3_feast_c50 4 (q := (103, .invokevirtual 180, 3)) rfl
theorem dX3_feast_106 : decode cX3_feast 106 = .ok (.ireturn, 1) := d_of dm_X3_feast_c50 5 (q := (106, .ireturn, 1)) rfl
def dl_X3_clean_c0 : List (Nat × Instr × Nat) := [(0, .aload_n 0, 1), (1, .getfield 10, 3), (4, .iload_n 1, 1), (5, .invokevirtual 76, 3), (8, .ifCond .ne 9, 3), (11, .aload_n 0, 1), (12, .iconst (-1), 1), (13, .invokevirtual 58, 3), (16, .ireturn, 1), (17, .aload_n 0, 1), (18, .getfield 16, 3), (21, .aload_n 0, 1), (22, .getfield 10, 3), (25, .invokevirtual 68, 3), (28, .iconst 0, 1), (29, .istore_n 2, 1), (30, .iconst 0, 1), (31, .istore_n 3, 1), (32, .iload_n 3, 1), (33, .bipush 6, 2), (35, .if_icmp .ge 37, 3), (38, .aload_n 0, 1), (39, .getfield 16, 3), (42, .getfield 83, 3), (45, .iload_n 1, 1)]
set_option maxRecDepth 100000 in
theorem dm_X3_clean_c0 : dl_X3_clean_c0.all (fun q => decide (decode cX3_clean q.1 = .ok q.2)) = true := by decide +kernel
theorem dX3_clean_0 : decode cX3_clean 0 = .ok (.aload_n 0, 1) := d_of dm_X3_clean_c0 0 (q := (0, .aload_n 0, 1)) rfl
theorem dX3_clean_1 : decode cX3_clean 1 = .ok (.getfield 10, 3) := d_of dm_X3_clean_c0 1 (q := (1, .getfield 10, 3)) rfl
theorem dX3_clean_4 : decode cX3_clean 4 = .ok (.iload_n 1, 1) := d_of dm_X3_clean_c0 2 (q := (4, .iload_n 1, 1)) rfl
theorem dX3_clean_5 : decode cX3_clean 5 = .ok (.invokevirtual 76, 3) := d_of dm_X3_clean_c0 3 (q := (5, .invokevirtual 76, 3)) rfl
theorem dX3_clean_8 : decode cX3_clean 8 = .ok (.ifCond .ne 9, 3) := d_of dm_X3_clean_c0 4 (q := (8, .ifCond .ne 9, 3)) rfl
theorem dX3_clean_11 : decode cX3_clean 11 = .ok (.aload_n 0, 1) := d_of dm_X3_clean_c0 5 (q := (11, .aload_n 0, 1)) rfl
theorem dX3_clean_12 : decode cX3_clean 12 = .ok (.iconst (-1), 1) := d_of dm_X3_clean_c0 6 (q := (12, .iconst (-1), 1)) rfl
theorem dX3_clean_13 : decode cX3_clean 13 = .ok (.invokevirtual 58, 3) := d_of dm_X3_clean_c0 7 (q := (13, .invokevirtual 58, 3)) rfl
theorem dX3_clean_16 : decode cX3_clean 16 = .ok (.ireturn, 1) := d_of dm_X3_clean_c0 8 (q := (16, .ireturn, 1)) rfl
theorem dX3_clean_17 : decode cX3_clean 17 = .ok (.aload_n 0, 1) := d_of dm_X3_clean_c0 9 (q := (17, .aload_n 0, 1)) rfl
theorem dX3_clean_18 : decode cX3_clean 18 = .ok (.getfield 16, 3) := d_of dm_X3_clean_c0 10 (q := (18, .getfield 16, 3)) rfl
theorem dX3_clean_21 : decode cX3_clean 21 = .ok (.aload_n 0, 1) := d_of dm_X3_clean_c0 11 (q := (21, .aload_n 0, 1)) rfl
theorem dX3_clean_22 : decode cX3_clean 22 = .ok (.getfield 10, 3) := d_of dm_X3_clean_c0 12 (q := (22, .getfield 10, 3)) rfl
theorem dX3_clean_25 : decode cX3_clean 25 = .ok (.invokevirtual 68, 3) := d_of dm_X3_clean_c0 13 (q := (25, .invokevirtual 68, 3)) rfl
theorem dX3_clean_28 : decode cX3_clean 28 = .ok (.iconst 0, 1) := d_of dm_X3_clean_c0 14 (q := (28, .iconst 0, 1)) rfl
theorem dX3_clean_29 : decode cX3_clean 29 = .ok (.istore_n 2, 1) := d_of dm_X3_clean_c0 15 (q := (29, .istore_n 2, 1)) rfl
theorem dX3_clean_30 : decode cX3_clean 30 = .ok (.iconst 0, 1) := d_of dm_X3_clean_c0 16 (q := (30, .iconst 0, 1)) rfl
theorem dX3_clean_31 : decode cX3_clean 31 = .ok (.istore_n 3, 1) := d_of dm_X3_clean_c0 17 (q := (31, .istore_n 3, 1)) rfl
theorem dX3_clean_32 : decode cX3_clean 32 = .ok (.iload_n 3, 1) := d_of dm_X3_clean_c0 18 (q := (32, .iload_n 3, 1)) rfl
theorem dX3_clean_33 : decode cX3_clean 33 = .ok (.bipush 6, 2) := d_of dm_X3_clean_c0 19 (q := (33, .bipush 6, 2)) rfl
theorem dX3_clean_35 : decode cX3_clean 35 = .ok (.if_icmp .ge 37, 3) := d_of dm_X3_clean_c0 20 (q := (35, .if_icmp .ge 37, 3)) rfl
theorem dX3_clean_38 : decode cX3_clean 38 = .ok (.aload_n 0, 1) := d_of dm_X3_clean_c0 21 (q := (38, .aload_n 0, 1)) rfl
theorem dX3_clean_39 : decode cX3_clean 39 = .ok (.getfield 16, 3) := d_of dm_X3_clean_c0 22 (q := (39, .getfield 16, 3)) rfl
theorem dX3_clean_42 : decode cX3_clean 42 = .ok (.getfield 83, 3) := d_of dm_X3_clean_c0 23 (q := (42, .getfield 83, 3)) rfl
theorem dX3_clean_45 : decode cX3_clean 45 = .ok (.iload_n 1, 1) := d_of dm_X3_clean_c0 24 (q := (45, .iload_n 1, 1)) rfl
def dl_X3_clean_c25 : List (Nat × Instr × Nat) := [(46, .iload_n 3, 1), (47, .iastore, 1), (48, .aload_n 0, 1), (49, .getfield 16, 3), (52, .invokevirtual 127, 3), (55, .bipush (-9), 2), (57, .if_icmp .ne 9, 3), (60, .iload_n 2, 1), (61, .iconst 1, 1), (62, .iload_n 3, 1), (63, .ishl, 1), (64, .ior, 1), (65, .istore_n 2, 1), (66, .iinc 3 1, 3), (69, .goto (-37), 3), (72, .iload_n 2, 1), (73, .ireturn, 1)]
set_option maxRecDepth 100000 in
theorem dm_X3_clean_c25 : dl_X3_clean_c25.all (fun q => decide (decode cX3_clean q.1 = .ok q.2)) = true := by decide +kernel
theorem dX3_clean_46 : decode cX3_clean 46 = .ok (.iload_n 3, 1) := d_of dm_X3_clean_c25 0 (q := (46, .iload_n 3, 1)) rfl
theorem dX3_clean_47 : decode cX3_clean 47 = .ok (.iastore, 1) := d_of dm_X3_clean_c25 1 (q := (47, .iastore, 1)) rfl
theorem dX3_clean_48 : decode cX3_clean 48 = .ok (.aload_n 0, 1) := d_of dm_X3_clean_c25 2 (q := (48, .aload_n 0, 1)) rfl
theorem dX3_clean_49 : decode cX3_clean 49 = .ok (.getfield 16, 3) := d_of dm_X3_clean_c25 3 (q := (49, .getfield 16, 3)) rfl
theorem dX3_clean_52 : decode cX3_clean 52 = .ok (.invokevirtual 127, 3) := d_of dm_X3_clean_c25 4 (q := (52, .invokevirtual 127, 3)) rfl
theorem dX3_clean_55 : decode cX3_clean 55 = .ok (.bipush (-9), 2) := d_of dm_X3_clean_c25 5 (q := (55, .bipush (-9), 2)) rfl
theorem dX3_clean_57 : decode cX3_clean 57 = .ok (.if_icmp .ne 9, 3) := d_of dm_X3_clean_c25 6 (q := (57, .if_icmp .ne 9, 3)) rfl
theorem dX3_clean_60 : decode cX3_clean 60 = .ok (.iload_n 2, 1) := d_of dm_X3_clean_c25 7 (q := (60, .iload_n 2, 1)) rfl
theorem dX3_clean_61 : decode cX3_clean 61 = .ok (.iconst 1, 1) := d_of dm_X3_clean_c25 8 (q := (61, .iconst 1, 1)) rfl
theorem dX3_clean_62 : decode cX3_clean 62 = .ok (.iload_n 3, 1) := d_of dm_X3_clean_c25 9 (q := (62, .iload_n 3, 1)) rfl
theorem dX3_clean_63 : decode cX3_clean 63 = .ok (.ishl, 1) := d_of dm_X3_clean_c25 10 (q := (63, .ishl, 1)) rfl
theorem dX3_clean_64 : decode cX3_clean 64 = .ok (.ior, 1) := d_of dm_X3_clean_c25 11 (q := (64, .ior, 1)) rfl
theorem dX3_clean_65 : decode cX3_clean 65 = .ok (.istore_n 2, 1) := d_of dm_X3_clean_c25 12 (q := (65, .istore_n 2, 1)) rfl
theorem dX3_clean_66 : decode cX3_clean 66 = .ok (.iinc 3 1, 3) := d_of dm_X3_clean_c25 13 (q := (66, .iinc 3 1, 3)) rfl
theorem dX3_clean_69 : decode cX3_clean 69 = .ok (.goto (-37), 3) := d_of dm_X3_clean_c25 14 (q := (69, .goto (-37), 3)) rfl
theorem dX3_clean_72 : decode cX3_clean 72 = .ok (.iload_n 2, 1) := d_of dm_X3_clean_c25 15 (q := (72, .iload_n 2, 1)) rfl
theorem dX3_clean_73 : decode cX3_clean 73 = .ok (.ireturn, 1) := d_of dm_X3_clean_c25 16 (q := (73, .ireturn, 1)) rfl
def dl_X3_row_c0 : List (Nat × Instr × Nat) := [(0, .iload_n 1, 1), (1, .iconst 0, 1), (2, .bipush 99, 2), (4, .invokestatic 54, 3), (7, .istore_n 2, 1), (8, .iload_n 2, 1), (9, .ifCond .eq 9, 3), (12, .aload_n 0, 1), (13, .iload_n 2, 1), (14, .invokevirtual 58, 3), (17, .ireturn, 1), (18, .aload_n 0, 1), (19, .getfield 47, 3), (22, .bipush 12, 2), (24, .if_icmp .lt 10, 3), (27, .aload_n 0, 1), (28, .bipush (-6), 2), (30, .invokevirtual 58, 3), (33, .ireturn, 1), (34, .aload_n 0, 1), (35, .getfield 44, 3), (38, .aload_n 0, 1), (39, .getfield 47, 3), (42, .iload_n 1, 1), (43, .iastore, 1)]
set_option maxRecDepth 100000 in
theorem dm_X3_row_c0 : dl_X3_row_c0.all (fun q => decide (decode cX3_row q.1 = .ok q.2)) = true := by decide +kernel
theorem dX3_row_0 : decode cX3_row 0 = .ok (.iload_n 1, 1) := d_of dm_X3_row_c0 0 (q := (0, .iload_n 1, 1)) rfl
theorem dX3_row_1 : decode cX3_row 1 = .ok (.iconst 0, 1) := d_of dm_X3_row_c0 1 (q := (1, .iconst 0, 1)) rfl
theorem dX3_row_2 : decode cX3_row 2 = .ok (.bipush 99, 2) := d_of dm_X3_row_c0 2 (q := (2, .bipush 99, 2)) rfl
theorem dX3_row_4 : decode cX3_row 4 = .ok (.invokestatic 54, 3) := d_of dm_X3_row_c0 3 (q := (4, .invokestatic 54, 3)) rfl
theorem dX3_row_7 : decode cX3_row 7 = .ok (.istore_n 2, 1) := d_of dm_X3_row_c0 4 (q := (7, .istore_n 2, 1)) rfl
theorem dX3_row_8 : decode cX3_row 8 = .ok (.iload_n 2, 1) := d_of dm_X3_row_c0 5 (q := (8, .iload_n 2, 1)) rfl
theorem dX3_row_9 : decode cX3_row 9 = .ok (.ifCond .eq 9, 3) := d_of dm_X3_row_c0 6 (q := (9, .ifCond .eq 9, 3)) rfl
theorem dX3_row_12 : decode cX3_row 12 = .ok (.aload_n 0, 1) := d_of dm_X3_row_c0 7 (q := (12, .aload_n 0, 1)) rfl
theorem dX3_row_13 : decode cX3_row 13 = .ok (.iload_n 2, 1) := d_of dm_X3_row_c0 8 (q := (13, .iload_n 2, 1)) rfl
theorem dX3_row_14 : decode cX3_row 14 = .ok (.invokevirtual 58, 3) := d_of dm_X3_row_c0 9 (q := (14, .invokevirtual 58, 3)) rfl
theorem dX3_row_17 : decode cX3_row 17 = .ok (.ireturn, 1) := d_of dm_X3_row_c0 10 (q := (17, .ireturn, 1)) rfl
theorem dX3_row_18 : decode cX3_row 18 = .ok (.aload_n 0, 1) := d_of dm_X3_row_c0 11 (q := (18, .aload_n 0, 1)) rfl
theorem dX3_row_19 : decode cX3_row 19 = .ok (.getfield 47, 3) := d_of dm_X3_row_c0 12 (q := (19, .getfield 47, 3)) rfl
theorem dX3_row_22 : decode cX3_row 22 = .ok (.bipush 12, 2) := d_of dm_X3_row_c0 13 (q := (22, .bipush 12, 2)) rfl
theorem dX3_row_24 : decode cX3_row 24 = .ok (.if_icmp .lt 10, 3) := d_of dm_X3_row_c0 14 (q := (24, .if_icmp .lt 10, 3)) rfl
theorem dX3_row_27 : decode cX3_row 27 = .ok (.aload_n 0, 1) := d_of dm_X3_row_c0 15 (q := (27, .aload_n 0, 1)) rfl
theorem dX3_row_28 : decode cX3_row 28 = .ok (.bipush (-6), 2) := d_of dm_X3_row_c0 16 (q := (28, .bipush (-6), 2)) rfl
theorem dX3_row_30 : decode cX3_row 30 = .ok (.invokevirtual 58, 3) := d_of dm_X3_row_c0 17 (q := (30, .invokevirtual 58, 3)) rfl
theorem dX3_row_33 : decode cX3_row 33 = .ok (.ireturn, 1) := d_of dm_X3_row_c0 18 (q := (33, .ireturn, 1)) rfl
theorem dX3_row_34 : decode cX3_row 34 = .ok (.aload_n 0, 1) := d_of dm_X3_row_c0 19 (q := (34, .aload_n 0, 1)) rfl
theorem dX3_row_35 : decode cX3_row 35 = .ok (.getfield 44, 3) := d_of dm_X3_row_c0 20 (q := (35, .getfield 44, 3)) rfl
theorem dX3_row_38 : decode cX3_row 38 = .ok (.aload_n 0, 1) := d_of dm_X3_row_c0 21 (q := (38, .aload_n 0, 1)) rfl
theorem dX3_row_39 : decode cX3_row 39 = .ok (.getfield 47, 3) := d_of dm_X3_row_c0 22 (q := (39, .getfield 47, 3)) rfl
theorem dX3_row_42 : decode cX3_row 42 = .ok (.iload_n 1, 1) := d_of dm_X3_row_c0 23 (q := (42, .iload_n 1, 1)) rfl
theorem dX3_row_43 : decode cX3_row 43 = .ok (.iastore, 1) := d_of dm_X3_row_c0 24 (q := (43, .iastore, 1)) rfl
def dl_X3_row_c25 : List (Nat × Instr × Nat) := [(44, .aload_n 0, 1), (45, .dup, 1), (46, .getfield 47, 3), (49, .iconst 1, 1), (50, .iadd, 1), (51, .putfield 47, 3), (54, .aload_n 0, 1), (55, .getfield 47, 3), (58, .ireturn, 1)]
set_option maxRecDepth 100000 in
theorem dm_X3_row_c25 : dl_X3_row_c25.all (fun q => decide (decode cX3_row q.1 = .ok q.2)) = true := by decide +kernel
theorem dX3_row_44 : decode cX3_row 44 = .ok (.aload_n 0, 1) := d_of dm_X3_row_c25 0 (q := (44, .aload_n 0, 1)) rfl
theorem dX3_row_45 : decode cX3_row 45 = .ok (.dup, 1) := d_of dm_X3_row_c25 1 (q := (45, .dup, 1)) rfl
theorem dX3_row_46 : decode cX3_row 46 = .ok (.getfield 47, 3) := d_of dm_X3_row_c25 2 (q := (46, .getfield 47, 3)) rfl
theorem dX3_row_49 : decode cX3_row 49 = .ok (.iconst 1, 1) := d_of dm_X3_row_c25 3 (q := (49, .iconst 1, 1)) rfl
theorem dX3_row_50 : decode cX3_row 50 = .ok (.iadd, 1) := d_of dm_X3_row_c25 4 (q := (50, .iadd, 1)) rfl
theorem dX3_row_51 : decode cX3_row 51 = .ok (.putfield 47, 3) := d_of dm_X3_row_c25 5 (q := (51, .putfield 47, 3)) rfl
theorem dX3_row_54 : decode cX3_row 54 = .ok (.aload_n 0, 1) := d_of dm_X3_row_c25 6 (q := (54, .aload_n 0, 1)) rfl
theorem dX3_row_55 : decode cX3_row 55 = .ok (.getfield 47, 3) := d_of dm_X3_row_c25 7 (q := (55, .getfield 47, 3)) rfl
theorem dX3_row_58 : decode cX3_row 58 = .ok (.ireturn, 1) := d_of dm_X3_row_c25 8 (q := (58, .ireturn, 1)) rfl
def dl_X3_judge_c0 : List (Nat × Instr × Nat) := [(0, .aload_n 0, 1), (1, .invokevirtual 183, 3), (4, .istore_n 1, 1), (5, .aload_n 0, 1), (6, .iconst 0, 1), (7, .putfield 47, 3), (10, .iload_n 1, 1), (11, .ireturn, 1)]
set_option maxRecDepth 100000 in
theorem dm_X3_judge_c0 : dl_X3_judge_c0.all (fun q => decide (decode cX3_judge q.1 = .ok q.2)) = true := by decide +kernel
theorem dX3_judge_0 : decode cX3_judge 0 = .ok (.aload_n 0, 1) := d_of dm_X3_judge_c0 0 (q := (0, .aload_n 0, 1)) rfl
theorem dX3_judge_1 : decode cX3_judge 1 = .ok (.invokevirtual 183, 3) := d_of dm_X3_judge_c0 1 (q := (1, .invokevirtual 183, 3)) rfl
theorem dX3_judge_4 : decode cX3_judge 4 = .ok (.istore_n 1, 1) := d_of dm_X3_judge_c0 2 (q := (4, .istore_n 1, 1)) rfl
theorem dX3_judge_5 : decode cX3_judge 5 = .ok (.aload_n 0, 1) := d_of dm_X3_judge_c0 3 (q := (5, .aload_n 0, 1)) rfl
theorem dX3_judge_6 : decode cX3_judge 6 = .ok (.iconst 0, 1) := d_of dm_X3_judge_c0 4 (q := (6, .iconst 0, 1)) rfl
theorem dX3_judge_7 : decode cX3_judge 7 = .ok (.putfield 47, 3) := d_of dm_X3_judge_c0 5 (q := (7, .putfield 47, 3)) rfl
theorem dX3_judge_10 : decode cX3_judge 10 = .ok (.iload_n 1, 1) := d_of dm_X3_judge_c0 6 (q := (10, .iload_n 1, 1)) rfl
theorem dX3_judge_11 : decode cX3_judge 11 = .ok (.ireturn, 1) := d_of dm_X3_judge_c0 7 (q := (11, .ireturn, 1)) rfl
def dl_X3_seeds_c0 : List (Nat × Instr × Nat) := [(0, .iload_n 1, 1), (1, .iconst 1, 1), (2, .bipush 30, 2), (4, .invokestatic 54, 3), (7, .istore_n 3, 1), (8, .iload_n 3, 1), (9, .ifCond .eq 9, 3), (12, .aload_n 0, 1), (13, .iload_n 3, 1), (14, .invokevirtual 58, 3), (17, .ireturn, 1), (18, .aload_n 0, 1), (19, .getfield 10, 3), (22, .getfield 115, 3), (25, .ifCond .ne 10, 3), (28, .aload_n 0, 1), (29, .bipush (-3), 2), (31, .invokevirtual 58, 3), (34, .ireturn, 1), (35, .aload_n 0, 1), (36, .getfield 16, 3), (39, .aload_n 0, 1), (40, .getfield 10, 3), (43, .invokevirtual 68, 3), (46, .iconst 0, 1)]
set_option maxRecDepth 100000 in
theorem dm_X3_seeds_c0 : dl_X3_seeds_c0.all (fun q => decide (decode cX3_seeds q.1 = .ok q.2)) = true := by decide +kernel
theorem dX3_seeds_0 : decode cX3_seeds 0 = .ok (.iload_n 1, 1) := d_of dm_X3_seeds_c0 0 (q := (0, .iload_n 1, 1)) rfl
theorem dX3_seeds_1 : decode cX3_seeds 1 = .ok (.iconst 1, 1) := d_of dm_X3_seeds_c0 1 (q := (1, .iconst 1, 1)) rfl
theorem dX3_seeds_2 : decode cX3_seeds 2 = .ok (.bipush 30, 2) := d_of dm_X3_seeds_c0 2 (q := (2, .bipush 30, 2)) rfl
theorem dX3_seeds_4 : decode cX3_seeds 4 = .ok (.invokestatic 54, 3) := d_of dm_X3_seeds_c0 3 (q := (4, .invokestatic 54, 3)) rfl
theorem dX3_seeds_7 : decode cX3_seeds 7 = .ok (.istore_n 3, 1) := d_of dm_X3_seeds_c0 4 (q := (7, .istore_n 3, 1)) rfl
theorem dX3_seeds_8 : decode cX3_seeds 8 = .ok (.iload_n 3, 1) := d_of dm_X3_seeds_c0 5 (q := (8, .iload_n 3, 1)) rfl
theorem dX3_seeds_9 : decode cX3_seeds 9 = .ok (.ifCond .eq 9, 3) := d_of dm_X3_seeds_c0 6 (q := (9, .ifCond .eq 9, 3)) rfl
theorem dX3_seeds_12 : decode cX3_seeds 12 = .ok (.aload_n 0, 1) := d_of dm_X3_seeds_c0 7 (q := (12, .aload_n 0, 1)) rfl
theorem dX3_seeds_13 : decode cX3_seeds 13 = .ok (.iload_n 3, 1) := d_of dm_X3_seeds_c0 8 (q := (13, .iload_n 3, 1)) rfl
theorem dX3_seeds_14 : decode cX3_seeds 14 = .ok (.invokevirtual 58, 3) := d_of dm_X3_seeds_c0 9 (q := (14, .invokevirtual 58, 3)) rfl
theorem dX3_seeds_17 : decode cX3_seeds 17 = .ok (.ireturn, 1) := d_of dm_X3_seeds_c0 10 (q := (17, .ireturn, 1)) rfl
theorem dX3_seeds_18 : decode cX3_seeds 18 = .ok (.aload_n 0, 1) := d_of dm_X3_seeds_c0 11 (q := (18, .aload_n 0, 1)) rfl
theorem dX3_seeds_19 : decode cX3_seeds 19 = .ok (.getfield 10, 3) := d_of dm_X3_seeds_c0 12 (q := (19, .getfield 10, 3)) rfl
theorem dX3_seeds_22 : decode cX3_seeds 22 = .ok (.getfield 115, 3) := d_of dm_X3_seeds_c0 13 (q := (22, .getfield 115, 3)) rfl
theorem dX3_seeds_25 : decode cX3_seeds 25 = .ok (.ifCond .ne 10, 3) := d_of dm_X3_seeds_c0 14 (q := (25, .ifCond .ne 10, 3)) rfl
theorem dX3_seeds_28 : decode cX3_seeds 28 = .ok (.aload_n 0, 1) := d_of dm_X3_seeds_c0 15 (q := (28, .aload_n 0, 1)) rfl
theorem dX3_seeds_29 : decode cX3_seeds 29 = .ok (.bipush (-3), 2) := d_of dm_X3_seeds_c0 16 (q := (29, .bipush (-3), 2)) rfl
theorem dX3_seeds_31 : decode cX3_seeds 31 = .ok (.invokevirtual 58, 3) := d_of dm_X3_seeds_c0 17 (q := (31, .invokevirtual 58, 3)) rfl
theorem dX3_seeds_34 : decode cX3_seeds 34 = .ok (.ireturn, 1) := d_of dm_X3_seeds_c0 18 (q := (34, .ireturn, 1)) rfl
theorem dX3_seeds_35 : decode cX3_seeds 35 = .ok (.aload_n 0, 1) := d_of dm_X3_seeds_c0 19 (q := (35, .aload_n 0, 1)) rfl
theorem dX3_seeds_36 : decode cX3_seeds 36 = .ok (.getfield 16, 3) := d_of dm_X3_seeds_c0 20 (q := (36, .getfield 16, 3)) rfl
theorem dX3_seeds_39 : decode cX3_seeds 39 = .ok (.aload_n 0, 1) := d_of dm_X3_seeds_c0 21 (q := (39, .aload_n 0, 1)) rfl
theorem dX3_seeds_40 : decode cX3_seeds 40 = .ok (.getfield 10, 3) := d_of dm_X3_seeds_c0 22 (q := (40, .getfield 10, 3)) rfl
theorem dX3_seeds_43 : decode cX3_seeds 43 = .ok (.invokevirtual 68, 3) := d_of dm_X3_seeds_c0 23 (q := (43, .invokevirtual 68, 3)) rfl
theorem dX3_seeds_46 : decode cX3_seeds 46 = .ok (.iconst 0, 1) := d_of dm_X3_seeds_c0 24 (q := (46, .iconst 0, 1)) rfl
def dl_X3_seeds_c25 : List (Nat × Instr × Nat) := [(47, .istore 4, 2), (49, .iload_n 2, 1), (50, .istore 5, 2), (52, .iconst 0, 1), (53, .istore 6, 2), (55, .iload 6, 2), (57, .iload_n 1, 1), (58, .if_icmp .ge 76, 3), (61, .iload 5, 2), (63, .invokestatic 186, 3), (66, .istore 5, 2), (68, .iload 5, 2), (70, .aload_n 0, 1), (71, .getfield 10, 3), (74, .getfield 115, 3), (77, .invokestatic 189, 3), (80, .istore 7, 2), (82, .iload 5, 2), (84, .invokestatic 186, 3), (87, .istore 5, 2), (89, .aload_n 0, 1), (90, .getfield 16, 3), (93, .getfield 83, 3), (96, .iload 7, 2), (98, .iload 5, 2)]
set_option maxRecDepth 100000 in
theorem dm_X3_seeds_c25 : dl_X3_seeds_c25.all (fun q => decide (decode cX3_seeds q.1 = .ok q.2)) = true := by decide +kernel
theorem dX3_seeds_47 : decode cX3_seeds 47 = .ok (.istore 4, 2) := d_of dm_X3_seeds_c25 0 (q := (47, .istore 4, 2)) rfl
theorem dX3_seeds_49 : decode cX3_seeds 49 = .ok (.iload_n 2, 1) := d_of dm_X3_seeds_c25 1 (q := (49, .iload_n 2, 1)) rfl
theorem dX3_seeds_50 : decode cX3_seeds 50 = .ok (.istore 5, 2) := d_of dm_X3_seeds_c25 2 (q := (50, .istore 5, 2)) rfl
theorem dX3_seeds_52 : decode cX3_seeds 52 = .ok (.iconst 0, 1) := d_of dm_X3_seeds_c25 3 (q := (52, .iconst 0, 1)) rfl
theorem dX3_seeds_53 : decode cX3_seeds 53 = .ok (.istore 6, 2) := d_of dm_X3_seeds_c25 4 (q := (53, .istore 6, 2)) rfl
theorem dX3_seeds_55 : decode cX3_seeds 55 = .ok (.iload 6, 2) := d_of dm_X3_seeds_c25 5 (q := (55, .iload 6, 2)) rfl
theorem dX3_seeds_57 : decode cX3_seeds 57 = .ok (.iload_n 1, 1) := d_of dm_X3_seeds_c25 6 (q := (57, .iload_n 1, 1)) rfl
theorem dX3_seeds_58 : decode cX3_seeds 58 = .ok (.if_icmp .ge 76, 3) := d_of dm_X3_seeds_c25 7 (q := (58, .if_icmp .ge 76, 3)) rfl
theorem dX3_seeds_61 : decode cX3_seeds 61 = .ok (.iload 5, 2) := d_of dm_X3_seeds_c25 8 (q := (61, .iload 5, 2)) rfl
theorem dX3_seeds_63 : decode cX3_seeds 63 = .ok (.invokestatic 186, 3) := d_of dm_X3_seeds_c25 9 (q := (63, .invokestatic 186, 3)) rfl
theorem dX3_seeds_66 : decode cX3_seeds 66 = .ok (.istore 5, 2) := d_of dm_X3_seeds_c25 10 (q := (66, .istore 5, 2)) rfl
theorem dX3_seeds_68 : decode cX3_seeds 68 = .ok (.iload 5, 2) := d_of dm_X3_seeds_c25 11 (q := (68, .iload 5, 2)) rfl
theorem dX3_seeds_70 : decode cX3_seeds 70 = .ok (.aload_n 0, 1) := d_of dm_X3_seeds_c25 12 (q := (70, .aload_n 0, 1)) rfl
theorem dX3_seeds_71 : decode cX3_seeds 71 = .ok (.getfield 10, 3) := d_of dm_X3_seeds_c25 13 (q := (71, .getfield 10, 3)) rfl
theorem dX3_seeds_74 : decode cX3_seeds 74 = .ok (.getfield 115, 3) := d_of dm_X3_seeds_c25 14 (q := (74, .getfield 115, 3)) rfl
theorem dX3_seeds_77 : decode cX3_seeds 77 = .ok (.invokestatic 189, 3) := d_of dm_X3_seeds_c25 15 (q := (77, .invokestatic 189, 3)) rfl
theorem dX3_seeds_80 : decode cX3_seeds 80 = .ok (.istore 7, 2) := d_of dm_X3_seeds_c25 16 (q := (80, .istore 7, 2)) rfl
theorem dX3_seeds_82 : decode cX3_seeds 82 = .ok (.iload 5, 2) := d_of dm_X3_seeds_c25 17 (q := (82, .iload 5, 2)) rfl
theorem dX3_seeds_84 : decode cX3_seeds 84 = .ok (.invokestatic 186, 3) := d_of dm_X3_seeds_c25 18 (q := (84, .invokestatic 186, 3)) rfl
theorem dX3_seeds_87 : decode cX3_seeds 87 = .ok (.istore 5, 2) := d_of dm_X3_seeds_c25 19 (q := (87, .istore 5, 2)) rfl
theorem dX3_seeds_89 : decode cX3_seeds 89 = .ok (.aload_n 0, 1) := d_of dm_X3_seeds_c25 20 (q := (89, .aload_n 0, 1)) rfl
theorem dX3_seeds_90 : decode cX3_seeds 90 = .ok (.getfield 16, 3) := d_of dm_X3_seeds_c25 21 (q := (90, .getfield 16, 3)) rfl
theorem dX3_seeds_93 : decode cX3_seeds 93 = .ok (.getfield 83, 3) := d_of dm_X3_seeds_c25 22 (q := (93, .getfield 83, 3)) rfl
theorem dX3_seeds_96 : decode cX3_seeds 96 = .ok (.iload 7, 2) := d_of dm_X3_seeds_c25 23 (q := (96, .iload 7, 2)) rfl
theorem dX3_seeds_98 : decode cX3_seeds 98 = .ok (.iload 5, 2) := d_of dm_X3_seeds_c25 24 (q := (98, .iload 5, 2)) rfl
def dl_X3_seeds_c50 : List (Nat × Instr × Nat) := [(100, .bipush 6, 2), (102, .invokestatic 189, 3), (105, .iastore, 1), (106, .aload_n 0, 1), (107, .getfield 16, 3), (110, .aload_n 0, 1), (111, .getfield 10, 3), (114, .getfield 112, 3), (117, .invokevirtual 124, 3), (120, .bipush (-9), 2), (122, .if_icmp .eq 6, 3), (125, .iinc 4 1, 3), (128, .iinc 6 1, 3), (131, .goto (-76), 3), (134, .iload 4, 2), (136, .ireturn, 1)]
set_option maxRecDepth 100000 in
theorem dm_X3_seeds_c50 : dl_X3_seeds_c50.all (fun q => decide (decode cX3_seeds q.1 = .ok q.2)) = true := by decide +kernel
theorem dX3_seeds_100 : decode cX3_seeds 100 = .ok (.bipush 6, 2) := d_of dm_X3_seeds_c50 0 (q := (100, .bipush 6, 2)) rfl
theorem dX3_seeds_102 : decode cX3_seeds 102 = .ok (.invokestatic 189, 3) := d_of dm_X3_seeds_c50 1 (q := (102, .invokestatic 189, 3)) rfl
theorem dX3_seeds_105 : decode cX3_seeds 105 = .ok (.iastore, 1) := d_of dm_X3_seeds_c50 2 (q := (105, .iastore, 1)) rfl
theorem dX3_seeds_106 : decode cX3_seeds 106 = .ok (.aload_n 0, 1) := d_of dm_X3_seeds_c50 3 (q := (106, .aload_n 0, 1)) rfl
theorem dX3_seeds_107 : decode cX3_seeds 107 = .ok (.getfield 16, 3) := d_of dm_X3_seeds_c50 4 (q := (107, .getfield 16, 3)) rfl
theorem dX3_seeds_110 : decode cX3_seeds 110 = .ok (.aload_n 0, 1) := d_of dm_X3_seeds_c50 5 (q := (110, .aload_n 0, 1)) rfl
theorem dX3_seeds_111 : decode cX3_seeds 111 = .ok (.getfield 10, 3) := d_of dm_X3_seeds_c50 6 (q := (111, .getfield 10, 3)) rfl
theorem dX3_seeds_114 : decode cX3_seeds 114 = .ok (.getfield 112, 3) := d_of dm_X3_seeds_c50 7 (q := (114, .getfield 112, 3)) rfl
theorem dX3_seeds_117 : decode cX3_seeds 117 = .ok (.invokevirtual 124, 3) := d_of dm_X3_seeds_c50 8 (q := (117, .invokevirtual 124, 3)) rfl
theorem dX3_seeds_120 : decode cX3_seeds 120 = .ok (.bipush (-9), 2) := d_of dm_X3_seeds_c50 9 (q := (120, .bipush (-9), 2)) rfl
theorem dX3_seeds_122 : decode cX3_seeds 122 = .ok (.if_icmp .eq 6, 3) := d_of dm_X3_seeds_c50 10 (q := (122, .if_icmp .eq 6, 3)) rfl
theorem dX3_seeds_125 : decode cX3_seeds 125 = .ok (.iinc 4 1, 3) := d_of dm_X3_seeds_c50 11 (q := (125, .iinc 4 1, 3)) rfl
theorem dX3_seeds_128 : decode cX3_seeds 128 = .ok (.iinc 6 1, 3) := d_of dm_X3_seeds_c50 12 (q := (128, .iinc 6 1, 3)) rfl
theorem dX3_seeds_131 : decode cX3_seeds 131 = .ok (.goto (-76), 3) := d_of dm_X3_seeds_c50 13 (q := (131, .goto (-76), 3)) rfl
theorem dX3_seeds_134 : decode cX3_seeds 134 = .ok (.iload 4, 2) := d_of dm_X3_seeds_c50 14 (q := (134, .iload 4, 2)) rfl
theorem dX3_seeds_136 : decode cX3_seeds 136 = .ok (.ireturn, 1) := d_of dm_X3_seeds_c50 15 (q := (136, .ireturn, 1)) rfl
def dl_X3_image_c0 : List (Nat × Instr × Nat) := [(0, .aload_n 0, 1), (1, .getfield 19, 3), (4, .aload_n 0, 1), (5, .getfield 10, 3), (8, .invokevirtual 68, 3), (11, .aload_n 0, 1), (12, .iconst 1, 1), (13, .putfield 22, 3), (16, .aload_n 0, 1), (17, .getfield 10, 3), (20, .getfield 115, 3), (23, .ireturn, 1)]
set_option maxRecDepth 100000 in
theorem dm_X3_image_c0 : dl_X3_image_c0.all (fun q => decide (decode cX3_image q.1 = .ok q.2)) = true := by decide +kernel
theorem dX3_image_0 : decode cX3_image 0 = .ok (.aload_n 0, 1) := d_of dm_X3_image_c0 0 (q := (0, .aload_n 0, 1)) rfl
theorem dX3_image_1 : decode cX3_image 1 = .ok (.getfield 19, 3) := d_of dm_X3_image_c0 1 (q := (1, .getfield 19, 3)) rfl
theorem dX3_image_4 : decode cX3_image 4 = .ok (.aload_n 0, 1) := d_of dm_X3_image_c0 2 (q := (4, .aload_n 0, 1)) rfl
theorem dX3_image_5 : decode cX3_image 5 = .ok (.getfield 10, 3) := d_of dm_X3_image_c0 3 (q := (5, .getfield 10, 3)) rfl
theorem dX3_image_8 : decode cX3_image 8 = .ok (.invokevirtual 68, 3) := d_of dm_X3_image_c0 4 (q := (8, .invokevirtual 68, 3)) rfl
theorem dX3_image_11 : decode cX3_image 11 = .ok (.aload_n 0, 1) := d_of dm_X3_image_c0 5 (q := (11, .aload_n 0, 1)) rfl
theorem dX3_image_12 : decode cX3_image 12 = .ok (.iconst 1, 1) := d_of dm_X3_image_c0 6 (q := (12, .iconst 1, 1)) rfl
theorem dX3_image_13 : decode cX3_image 13 = .ok (.putfield 22, 3) := d_of dm_X3_image_c0 7 (q := (13, .putfield 22, 3)) rfl
theorem dX3_image_16 : decode cX3_image 16 = .ok (.aload_n 0, 1) := d_of dm_X3_image_c0 8 (q := (16, .aload_n 0, 1)) rfl
theorem dX3_image_17 : decode cX3_image 17 = .ok (.getfield 10, 3) := d_of dm_X3_image_c0 9 (q := (17, .getfield 10, 3)) rfl
theorem dX3_image_20 : decode cX3_image 20 = .ok (.getfield 115, 3) := d_of dm_X3_image_c0 10 (q := (20, .getfield 115, 3)) rfl
theorem dX3_image_23 : decode cX3_image 23 = .ok (.ireturn, 1) := d_of dm_X3_image_c0 11 (q := (23, .ireturn, 1)) rfl
def dl_X3_on_c0 : List (Nat × Instr × Nat) := [(0, .aload_n 0, 1), (1, .getfield 22, 3), (4, .ifCond .ne 10, 3), (7, .aload_n 0, 1), (8, .bipush (-3), 2), (10, .invokevirtual 58, 3), (13, .ireturn, 1), (14, .aload_n 0, 1), (15, .getfield 10, 3), (18, .aload_n 0, 1), (19, .getfield 19, 3), (22, .invokevirtual 68, 3), (25, .aload_n 0, 1), (26, .getfield 10, 3), (29, .getfield 115, 3), (32, .ireturn, 1)]
set_option maxRecDepth 100000 in
theorem dm_X3_on_c0 : dl_X3_on_c0.all (fun q => decide (decode cX3_on q.1 = .ok q.2)) = true := by decide +kernel
theorem dX3_on_0 : decode cX3_on 0 = .ok (.aload_n 0, 1) := d_of dm_X3_on_c0 0 (q := (0, .aload_n 0, 1)) rfl
theorem dX3_on_1 : decode cX3_on 1 = .ok (.getfield 22, 3) := d_of dm_X3_on_c0 1 (q := (1, .getfield 22, 3)) rfl
theorem dX3_on_4 : decode cX3_on 4 = .ok (.ifCond .ne 10, 3) := d_of dm_X3_on_c0 2 (q := (4, .ifCond .ne 10, 3)) rfl
theorem dX3_on_7 : decode cX3_on 7 = .ok (.aload_n 0, 1) := d_of dm_X3_on_c0 3 (q := (7, .aload_n 0, 1)) rfl
theorem dX3_on_8 : decode cX3_on 8 = .ok (.bipush (-3), 2) := d_of dm_X3_on_c0 4 (q := (8, .bipush (-3), 2)) rfl
theorem dX3_on_10 : decode cX3_on 10 = .ok (.invokevirtual 58, 3) := d_of dm_X3_on_c0 5 (q := (10, .invokevirtual 58, 3)) rfl
theorem dX3_on_13 : decode cX3_on 13 = .ok (.ireturn, 1) := d_of dm_X3_on_c0 6 (q := (13, .ireturn, 1)) rfl
theorem dX3_on_14 : decode cX3_on 14 = .ok (.aload_n 0, 1) := d_of dm_X3_on_c0 7 (q := (14, .aload_n 0, 1)) rfl
theorem dX3_on_15 : decode cX3_on 15 = .ok (.getfield 10, 3) := d_of dm_X3_on_c0 8 (q := (15, .getfield 10, 3)) rfl
theorem dX3_on_18 : decode cX3_on 18 = .ok (.aload_n 0, 1) := d_of dm_X3_on_c0 9 (q := (18, .aload_n 0, 1)) rfl
theorem dX3_on_19 : decode cX3_on 19 = .ok (.getfield 19, 3) := d_of dm_X3_on_c0 10 (q := (19, .getfield 19, 3)) rfl
theorem dX3_on_22 : decode cX3_on 22 = .ok (.invokevirtual 68, 3) := d_of dm_X3_on_c0 11 (q := (22, .invokevirtual 68, 3)) rfl
theorem dX3_on_25 : decode cX3_on 25 = .ok (.aload_n 0, 1) := d_of dm_X3_on_c0 12 (q := (25, .aload_n 0, 1)) rfl
theorem dX3_on_26 : decode cX3_on 26 = .ok (.getfield 10, 3) := d_of dm_X3_on_c0 13 (q := (26, .getfield 10, 3)) rfl
theorem dX3_on_29 : decode cX3_on 29 = .ok (.getfield 115, 3) := d_of dm_X3_on_c0 14 (q := (29, .getfield 115, 3)) rfl
theorem dX3_on_32 : decode cX3_on 32 = .ok (.ireturn, 1) := d_of dm_X3_on_c0 15 (q := (32, .ireturn, 1)) rfl
def dl_X3_count_c0 : List (Nat × Instr × Nat) := [(0, .iload_n 1, 1), (1, .tableswitch 111 0 7 #[47, 55, 63, 71, 82, 90, 98, 103], 47), (48, .aload_n 0, 1), (49, .getfield 10, 3), (52, .getfield 115, 3), (55, .ireturn, 1), (56, .aload_n 0, 1), (57, .getfield 10, 3), (60, .getfield 131, 3), (63, .ireturn, 1), (64, .aload_n 0, 1), (65, .getfield 10, 3), (68, .getfield 112, 3), (71, .ireturn, 1), (72, .aload_n 0, 1), (73, .getfield 10, 3), (76, .getfield 98, 3), (79, .invokestatic 134, 3), (82, .ireturn, 1), (83, .aload_n 0, 1), (84, .getfield 10, 3), (87, .invokevirtual 192, 3), (90, .ireturn, 1), (91, .aload_n 0, 1), (92, .getfield 10, 3)]
set_option maxRecDepth 100000 in
theorem dm_X3_count_c0 : dl_X3_count_c0.all (fun q => decide (decode cX3_count q.1 = .ok q.2)) = true := by decide +kernel
theorem dX3_count_0 : decode cX3_count 0 = .ok (.iload_n 1, 1) := d_of dm_X3_count_c0 0 (q := (0, .iload_n 1, 1)) rfl
theorem dX3_count_1 : decode cX3_count 1 = .ok (.tableswitch 111 0 7 #[47, 55, 63, 71, 82, 90, 98, 103], 47) := d_of dm_X3_count_c0 1 (q := (1, .tableswitch 111 0 7 #[47, 55, 63, 71, 82, 90, 98, 103], 47)) rfl
theorem dX3_count_48 : decode cX3_count 48 = .ok (.aload_n 0, 1) := d_of dm_X3_count_c0 2 (q := (48, .aload_n 0, 1)) rfl
theorem dX3_count_49 : decode cX3_count 49 = .ok (.getfield 10, 3) := d_of dm_X3_count_c0 3 (q := (49, .getfield 10, 3)) rfl
theorem dX3_count_52 : decode cX3_count 52 = .ok (.getfield 115, 3) := d_of dm_X3_count_c0 4 (q := (52, .getfield 115, 3)) rfl
theorem dX3_count_55 : decode cX3_count 55 = .ok (.ireturn, 1) := d_of dm_X3_count_c0 5 (q := (55, .ireturn, 1)) rfl
theorem dX3_count_56 : decode cX3_count 56 = .ok (.aload_n 0, 1) := d_of dm_X3_count_c0 6 (q := (56, .aload_n 0, 1)) rfl
theorem dX3_count_57 : decode cX3_count 57 = .ok (.getfield 10, 3) := d_of dm_X3_count_c0 7 (q := (57, .getfield 10, 3)) rfl
theorem dX3_count_60 : decode cX3_count 60 = .ok (.getfield 131, 3) := d_of dm_X3_count_c0 8 (q := (60, .getfield 131, 3)) rfl
theorem dX3_count_63 : decode cX3_count 63 = .ok (.ireturn, 1) := d_of dm_X3_count_c0 9 (q := (63, .ireturn, 1)) rfl
theorem dX3_count_64 : decode cX3_count 64 = .ok (.aload_n 0, 1) := d_of dm_X3_count_c0 10 (q := (64, .aload_n 0, 1)) rfl
theorem dX3_count_65 : decode cX3_count 65 = .ok (.getfield 10, 3) := d_of dm_X3_count_c0 11 (q := (65, .getfield 10, 3)) rfl
theorem dX3_count_68 : decode cX3_count 68 = .ok (.getfield 112, 3) := d_of dm_X3_count_c0 12 (q := (68, .getfield 112, 3)) rfl
theorem dX3_count_71 : decode cX3_count 71 = .ok (.ireturn, 1) := d_of dm_X3_count_c0 13 (q := (71, .ireturn, 1)) rfl
theorem dX3_count_72 : decode cX3_count 72 = .ok (.aload_n 0, 1) := d_of dm_X3_count_c0 14 (q := (72, .aload_n 0, 1)) rfl
theorem dX3_count_73 : decode cX3_count 73 = .ok (.getfield 10, 3) := d_of dm_X3_count_c0 15 (q := (73, .getfield 10, 3)) rfl
theorem dX3_count_76 : decode cX3_count 76 = .ok (.getfield 98, 3) := d_of dm_X3_count_c0 16 (q := (76, .getfield 98, 3)) rfl
theorem dX3_count_79 : decode cX3_count 79 = .ok (.invokestatic 134, 3) := d_of dm_X3_count_c0 17 (q := (79, .invokestatic 134, 3)) rfl
theorem dX3_count_82 : decode cX3_count 82 = .ok (.ireturn, 1) := d_of dm_X3_count_c0 18 (q := (82, .ireturn, 1)) rfl
theorem dX3_count_83 : decode cX3_count 83 = .ok (.aload_n 0, 1) := d_of dm_X3_count_c0 19 (q := (83, .aload_n 0, 1)) rfl
theorem dX3_count_84 : decode cX3_count 84 = .ok (.getfield 10, 3) := d_of dm_X3_count_c0 20 (q := (84, .getfield 10, 3)) rfl
theorem dX3_count_87 : decode cX3_count 87 = .ok (.invokevirtual 192, 3) := d_of dm_X3_count_c0 21 (q := (87, .invokevirtual 192, 3)) rfl
theorem dX3_count_90 : decode cX3_count 90 = .ok (.ireturn, 1) := d_of dm_X3_count_c0 22 (q := (90, .ireturn, 1)) rfl
theorem dX3_count_91 : decode cX3_count 91 = .ok (.aload_n 0, 1) := d_of dm_X3_count_c0 23 (q := (91, .aload_n 0, 1)) rfl
theorem dX3_count_92 : decode cX3_count 92 = .ok (.getfield 10, 3) := d_of dm_X3_count_c0 24 (q := (92, .getfield 10, 3)) rfl
def dl_X3_count_c25 : List (Nat × Instr × Nat) := [(95, .getfield 168, 3), (98, .ireturn, 1), (99, .aload_n 0, 1), (100, .getfield 47, 3), (103, .ireturn, 1), (104, .aload_n 0, 1), (105, .getfield 29, 3), (108, .getfield 62, 3), (111, .ireturn, 1), (112, .iload_n 1, 1), (113, .bipush 11, 2), (115, .if_icmp .lt 21, 3), (118, .iload_n 1, 1), (119, .bipush 16, 2), (121, .if_icmp .gt 15, 3), (124, .aload_n 0, 1), (125, .getfield 51, 3), (128, .iload_n 1, 1), (129, .bipush 10, 2), (131, .isub, 1), (132, .iaload, 1), (133, .goto 5, 3), (136, .bipush (-9), 2), (138, .ireturn, 1)]
set_option maxRecDepth 100000 in
theorem dm_X3_count_c25 : dl_X3_count_c25.all (fun q => decide (decode cX3_count q.1 = .ok q.2)) = true := by decide +kernel
theorem dX3_count_95 : decode cX3_count 95 = .ok (.getfield 168, 3) := d_of dm_X3_count_c25 0 (q := (95, .getfield 168, 3)) rfl
theorem dX3_count_98 : decode cX3_count 98 = .ok (.ireturn, 1) := d_of dm_X3_count_c25 1 (q := (98, .ireturn, 1)) rfl
theorem dX3_count_99 : decode cX3_count 99 = .ok (.aload_n 0, 1) := d_of dm_X3_count_c25 2 (q := (99, .aload_n 0, 1)) rfl
theorem dX3_count_100 : decode cX3_count 100 = .ok (.getfield 47, 3) := d_of dm_X3_count_c25 3 (q := (100, .getfield 47, 3)) rfl
theorem dX3_count_103 : decode cX3_count 103 = .ok (.ireturn, 1) := d_of dm_X3_count_c25 4 (q := (103, .ireturn, 1)) rfl
theorem dX3_count_104 : decode cX3_count 104 = .ok (.aload_n 0, 1) := d_of dm_X3_count_c25 5 (q := (104, .aload_n 0, 1)) rfl
theorem dX3_count_105 : decode cX3_count 105 = .ok (.getfield 29, 3) := d_of dm_X3_count_c25 6 (q := (105, .getfield 29, 3)) rfl
theorem dX3_count_108 : decode cX3_count 108 = .ok (.getfield 62, 3) := d_of dm_X3_count_c25 7 (q := (108, .getfield 62, 3)) rfl
theorem dX3_count_111 : decode cX3_count 111 = .ok (.ireturn, 1) := d_of dm_X3_count_c25 8 (q := (111, .ireturn, 1)) rfl
theorem dX3_count_112 : decode cX3_count 112 = .ok (.iload_n 1, 1) := d_of dm_X3_count_c25 9 (q := (112, .iload_n 1, 1)) rfl
theorem dX3_count_113 : decode cX3_count 113 = .ok (.bipush 11, 2) := d_of dm_X3_count_c25 10 (q := (113, .bipush 11, 2)) rfl
theorem dX3_count_115 : decode cX3_count 115 = .ok (.if_icmp .lt 21, 3) := d_of dm_X3_count_c25 11 (q := (115, .if_icmp .lt 21, 3)) rfl
theorem dX3_count_118 : decode cX3_count 118 = .ok (.iload_n 1, 1) := d_of dm_X3_count_c25 12 (q := (118, .iload_n 1, 1)) rfl
theorem dX3_count_119 : decode cX3_count 119 = .ok (.bipush 16, 2) := d_of dm_X3_count_c25 13 (q := (119, .bipush 16, 2)) rfl
theorem dX3_count_121 : decode cX3_count 121 = .ok (.if_icmp .gt 15, 3) := d_of dm_X3_count_c25 14 (q := (121, .if_icmp .gt 15, 3)) rfl
theorem dX3_count_124 : decode cX3_count 124 = .ok (.aload_n 0, 1) := d_of dm_X3_count_c25 15 (q := (124, .aload_n 0, 1)) rfl
theorem dX3_count_125 : decode cX3_count 125 = .ok (.getfield 51, 3) := d_of dm_X3_count_c25 16 (q := (125, .getfield 51, 3)) rfl
theorem dX3_count_128 : decode cX3_count 128 = .ok (.iload_n 1, 1) := d_of dm_X3_count_c25 17 (q := (128, .iload_n 1, 1)) rfl
theorem dX3_count_129 : decode cX3_count 129 = .ok (.bipush 10, 2) := d_of dm_X3_count_c25 18 (q := (129, .bipush 10, 2)) rfl
theorem dX3_count_131 : decode cX3_count 131 = .ok (.isub, 1) := d_of dm_X3_count_c25 19 (q := (131, .isub, 1)) rfl
theorem dX3_count_132 : decode cX3_count 132 = .ok (.iaload, 1) := d_of dm_X3_count_c25 20 (q := (132, .iaload, 1)) rfl
theorem dX3_count_133 : decode cX3_count 133 = .ok (.goto 5, 3) := d_of dm_X3_count_c25 21 (q := (133, .goto 5, 3)) rfl
theorem dX3_count_136 : decode cX3_count 136 = .ok (.bipush (-9), 2) := d_of dm_X3_count_c25 22 (q := (136, .bipush (-9), 2)) rfl
theorem dX3_count_138 : decode cX3_count 138 = .ok (.ireturn, 1) := d_of dm_X3_count_c25 23 (q := (138, .ireturn, 1)) rfl
def dl_X3_refuse_c0 : List (Nat × Instr × Nat) := [(0, .aload_n 0, 1), (1, .getfield 51, 3), (4, .iload_n 1, 1), (5, .ineg, 1), (6, .dup2, 1), (7, .iaload, 1), (8, .iconst 1, 1), (9, .iadd, 1), (10, .iastore, 1), (11, .iload_n 1, 1), (12, .ireturn, 1)]
set_option maxRecDepth 100000 in
theorem dm_X3_refuse_c0 : dl_X3_refuse_c0.all (fun q => decide (decode cX3_refuse q.1 = .ok q.2)) = true := by decide +kernel
theorem dX3_refuse_0 : decode cX3_refuse 0 = .ok (.aload_n 0, 1) := d_of dm_X3_refuse_c0 0 (q := (0, .aload_n 0, 1)) rfl
theorem dX3_refuse_1 : decode cX3_refuse 1 = .ok (.getfield 51, 3) := d_of dm_X3_refuse_c0 1 (q := (1, .getfield 51, 3)) rfl
theorem dX3_refuse_4 : decode cX3_refuse 4 = .ok (.iload_n 1, 1) := d_of dm_X3_refuse_c0 2 (q := (4, .iload_n 1, 1)) rfl
theorem dX3_refuse_5 : decode cX3_refuse 5 = .ok (.ineg, 1) := d_of dm_X3_refuse_c0 3 (q := (5, .ineg, 1)) rfl
theorem dX3_refuse_6 : decode cX3_refuse 6 = .ok (.dup2, 1) := d_of dm_X3_refuse_c0 4 (q := (6, .dup2, 1)) rfl
theorem dX3_refuse_7 : decode cX3_refuse 7 = .ok (.iaload, 1) := d_of dm_X3_refuse_c0 5 (q := (7, .iaload, 1)) rfl
theorem dX3_refuse_8 : decode cX3_refuse 8 = .ok (.iconst 1, 1) := d_of dm_X3_refuse_c0 6 (q := (8, .iconst 1, 1)) rfl
theorem dX3_refuse_9 : decode cX3_refuse 9 = .ok (.iadd, 1) := d_of dm_X3_refuse_c0 7 (q := (9, .iadd, 1)) rfl
theorem dX3_refuse_10 : decode cX3_refuse 10 = .ok (.iastore, 1) := d_of dm_X3_refuse_c0 8 (q := (10, .iastore, 1)) rfl
theorem dX3_refuse_11 : decode cX3_refuse 11 = .ok (.iload_n 1, 1) := d_of dm_X3_refuse_c0 9 (q := (11, .iload_n 1, 1)) rfl
theorem dX3_refuse_12 : decode cX3_refuse 12 = .ok (.ireturn, 1) := d_of dm_X3_refuse_c0 10 (q := (12, .ireturn, 1)) rfl
def dl_X3_outOf_c0 : List (Nat × Instr × Nat) := [(0, .iload_n 0, 1), (1, .iload_n 1, 1), (2, .if_icmp .ge 6, 3), (5, .bipush (-4), 2), (7, .ireturn, 1), (8, .iload_n 0, 1), (9, .iload_n 2, 1), (10, .if_icmp .le 8, 3), (13, .bipush (-6), 2), (15, .goto 4, 3), (18, .iconst 0, 1), (19, .ireturn, 1)]
set_option maxRecDepth 100000 in
theorem dm_X3_outOf_c0 : dl_X3_outOf_c0.all (fun q => decide (decode cX3_outOf q.1 = .ok q.2)) = true := by decide +kernel
theorem dX3_outOf_0 : decode cX3_outOf 0 = .ok (.iload_n 0, 1) := d_of dm_X3_outOf_c0 0 (q := (0, .iload_n 0, 1)) rfl
theorem dX3_outOf_1 : decode cX3_outOf 1 = .ok (.iload_n 1, 1) := d_of dm_X3_outOf_c0 1 (q := (1, .iload_n 1, 1)) rfl
theorem dX3_outOf_2 : decode cX3_outOf 2 = .ok (.if_icmp .ge 6, 3) := d_of dm_X3_outOf_c0 2 (q := (2, .if_icmp .ge 6, 3)) rfl
theorem dX3_outOf_5 : decode cX3_outOf 5 = .ok (.bipush (-4), 2) := d_of dm_X3_outOf_c0 3 (q := (5, .bipush (-4), 2)) rfl
theorem dX3_outOf_7 : decode cX3_outOf 7 = .ok (.ireturn, 1) := d_of dm_X3_outOf_c0 4 (q := (7, .ireturn, 1)) rfl
theorem dX3_outOf_8 : decode cX3_outOf 8 = .ok (.iload_n 0, 1) := d_of dm_X3_outOf_c0 5 (q := (8, .iload_n 0, 1)) rfl
theorem dX3_outOf_9 : decode cX3_outOf 9 = .ok (.iload_n 2, 1) := d_of dm_X3_outOf_c0 6 (q := (9, .iload_n 2, 1)) rfl
theorem dX3_outOf_10 : decode cX3_outOf 10 = .ok (.if_icmp .le 8, 3) := d_of dm_X3_outOf_c0 7 (q := (10, .if_icmp .le 8, 3)) rfl
theorem dX3_outOf_13 : decode cX3_outOf 13 = .ok (.bipush (-6), 2) := d_of dm_X3_outOf_c0 8 (q := (13, .bipush (-6), 2)) rfl
theorem dX3_outOf_15 : decode cX3_outOf 15 = .ok (.goto 4, 3) := d_of dm_X3_outOf_c0 9 (q := (15, .goto 4, 3)) rfl
theorem dX3_outOf_18 : decode cX3_outOf 18 = .ok (.iconst 0, 1) := d_of dm_X3_outOf_c0 10 (q := (18, .iconst 0, 1)) rfl
theorem dX3_outOf_19 : decode cX3_outOf 19 = .ok (.ireturn, 1) := d_of dm_X3_outOf_c0 11 (q := (19, .ireturn, 1)) rfl
def dl_X3_isRoom_c0 : List (Nat × Instr × Nat) := [(0, .iload_n 0, 1), (1, .ifCond .lt 13, 3), (4, .iload_n 0, 1), (5, .bipush 6, 2), (7, .if_icmp .ge 7, 3), (10, .iconst 1, 1), (11, .goto 4, 3), (14, .iconst 0, 1), (15, .ireturn, 1)]
set_option maxRecDepth 100000 in
theorem dm_X3_isRoom_c0 : dl_X3_isRoom_c0.all (fun q => decide (decode cX3_isRoom q.1 = .ok q.2)) = true := by decide +kernel
theorem dX3_isRoom_0 : decode cX3_isRoom 0 = .ok (.iload_n 0, 1) := d_of dm_X3_isRoom_c0 0 (q := (0, .iload_n 0, 1)) rfl
theorem dX3_isRoom_1 : decode cX3_isRoom 1 = .ok (.ifCond .lt 13, 3) := d_of dm_X3_isRoom_c0 1 (q := (1, .ifCond .lt 13, 3)) rfl
theorem dX3_isRoom_4 : decode cX3_isRoom 4 = .ok (.iload_n 0, 1) := d_of dm_X3_isRoom_c0 2 (q := (4, .iload_n 0, 1)) rfl
theorem dX3_isRoom_5 : decode cX3_isRoom 5 = .ok (.bipush 6, 2) := d_of dm_X3_isRoom_c0 3 (q := (5, .bipush 6, 2)) rfl
theorem dX3_isRoom_7 : decode cX3_isRoom 7 = .ok (.if_icmp .ge 7, 3) := d_of dm_X3_isRoom_c0 4 (q := (7, .if_icmp .ge 7, 3)) rfl
theorem dX3_isRoom_10 : decode cX3_isRoom 10 = .ok (.iconst 1, 1) := d_of dm_X3_isRoom_c0 5 (q := (10, .iconst 1, 1)) rfl
theorem dX3_isRoom_11 : decode cX3_isRoom 11 = .ok (.goto 4, 3) := d_of dm_X3_isRoom_c0 6 (q := (11, .goto 4, 3)) rfl
theorem dX3_isRoom_14 : decode cX3_isRoom 14 = .ok (.iconst 0, 1) := d_of dm_X3_isRoom_c0 7 (q := (14, .iconst 0, 1)) rfl
theorem dX3_isRoom_15 : decode cX3_isRoom 15 = .ok (.ireturn, 1) := d_of dm_X3_isRoom_c0 8 (q := (15, .ireturn, 1)) rfl
def dl_X3_firstCure_c0 : List (Nat × Instr × Nat) := [(0, .iload_n 1, 1), (1, .istore_n 2, 1), (2, .iload_n 2, 1), (3, .aload_n 0, 1), (4, .getfield 16, 3), (7, .getfield 115, 3), (10, .if_icmp .ge 101, 3), (13, .aload_n 0, 1), (14, .getfield 16, 3), (17, .getfield 83, 3), (20, .iload_n 2, 1), (21, .iaload, 1), (22, .istore_n 3, 1), (23, .iconst 0, 1), (24, .istore 4, 2), (26, .iload 4, 2), (28, .bipush 6, 2), (30, .if_icmp .ge 75, 3), (33, .aload_n 0, 1), (34, .getfield 16, 3), (37, .getfield 83, 3), (40, .iload_n 2, 1), (41, .iload 4, 2), (43, .iastore, 1), (44, .iload 4, 2)]
set_option maxRecDepth 100000 in
theorem dm_X3_firstCure_c0 : dl_X3_firstCure_c0.all (fun q => decide (decode cX3_firstCure q.1 = .ok q.2)) = true := by decide +kernel
theorem dX3_firstCure_0 : decode cX3_firstCure 0 = .ok (.iload_n 1, 1) := d_of dm_X3_firstCure_c0 0 (q := (0, .iload_n 1, 1)) rfl
theorem dX3_firstCure_1 : decode cX3_firstCure 1 = .ok (.istore_n 2, 1) := d_of dm_X3_firstCure_c0 1 (q := (1, .istore_n 2, 1)) rfl
theorem dX3_firstCure_2 : decode cX3_firstCure 2 = .ok (.iload_n 2, 1) := d_of dm_X3_firstCure_c0 2 (q := (2, .iload_n 2, 1)) rfl
theorem dX3_firstCure_3 : decode cX3_firstCure 3 = .ok (.aload_n 0, 1) := d_of dm_X3_firstCure_c0 3 (q := (3, .aload_n 0, 1)) rfl
theorem dX3_firstCure_4 : decode cX3_firstCure 4 = .ok (.getfield 16, 3) := d_of dm_X3_firstCure_c0 4 (q := (4, .getfield 16, 3)) rfl
theorem dX3_firstCure_7 : decode cX3_firstCure 7 = .ok (.getfield 115, 3) := d_of dm_X3_firstCure_c0 5 (q := (7, .getfield 115, 3)) rfl
theorem dX3_firstCure_10 : decode cX3_firstCure 10 = .ok (.if_icmp .ge 101, 3) := d_of dm_X3_firstCure_c0 6 (q := (10, .if_icmp .ge 101, 3)) rfl
theorem dX3_firstCure_13 : decode cX3_firstCure 13 = .ok (.aload_n 0, 1) := d_of dm_X3_firstCure_c0 7 (q := (13, .aload_n 0, 1)) rfl
theorem dX3_firstCure_14 : decode cX3_firstCure 14 = .ok (.getfield 16, 3) := d_of dm_X3_firstCure_c0 8 (q := (14, .getfield 16, 3)) rfl
theorem dX3_firstCure_17 : decode cX3_firstCure 17 = .ok (.getfield 83, 3) := d_of dm_X3_firstCure_c0 9 (q := (17, .getfield 83, 3)) rfl
theorem dX3_firstCure_20 : decode cX3_firstCure 20 = .ok (.iload_n 2, 1) := d_of dm_X3_firstCure_c0 10 (q := (20, .iload_n 2, 1)) rfl
theorem dX3_firstCure_21 : decode cX3_firstCure 21 = .ok (.iaload, 1) := d_of dm_X3_firstCure_c0 11 (q := (21, .iaload, 1)) rfl
theorem dX3_firstCure_22 : decode cX3_firstCure 22 = .ok (.istore_n 3, 1) := d_of dm_X3_firstCure_c0 12 (q := (22, .istore_n 3, 1)) rfl
theorem dX3_firstCure_23 : decode cX3_firstCure 23 = .ok (.iconst 0, 1) := d_of dm_X3_firstCure_c0 13 (q := (23, .iconst 0, 1)) rfl
theorem dX3_firstCure_24 : decode cX3_firstCure 24 = .ok (.istore 4, 2) := d_of dm_X3_firstCure_c0 14 (q := (24, .istore 4, 2)) rfl
theorem dX3_firstCure_26 : decode cX3_firstCure 26 = .ok (.iload 4, 2) := d_of dm_X3_firstCure_c0 15 (q := (26, .iload 4, 2)) rfl
theorem dX3_firstCure_28 : decode cX3_firstCure 28 = .ok (.bipush 6, 2) := d_of dm_X3_firstCure_c0 16 (q := (28, .bipush 6, 2)) rfl
theorem dX3_firstCure_30 : decode cX3_firstCure 30 = .ok (.if_icmp .ge 75, 3) := d_of dm_X3_firstCure_c0 17 (q := (30, .if_icmp .ge 75, 3)) rfl
theorem dX3_firstCure_33 : decode cX3_firstCure 33 = .ok (.aload_n 0, 1) := d_of dm_X3_firstCure_c0 18 (q := (33, .aload_n 0, 1)) rfl
theorem dX3_firstCure_34 : decode cX3_firstCure 34 = .ok (.getfield 16, 3) := d_of dm_X3_firstCure_c0 19 (q := (34, .getfield 16, 3)) rfl
theorem dX3_firstCure_37 : decode cX3_firstCure 37 = .ok (.getfield 83, 3) := d_of dm_X3_firstCure_c0 20 (q := (37, .getfield 83, 3)) rfl
theorem dX3_firstCure_40 : decode cX3_firstCure 40 = .ok (.iload_n 2, 1) := d_of dm_X3_firstCure_c0 21 (q := (40, .iload_n 2, 1)) rfl
theorem dX3_firstCure_41 : decode cX3_firstCure 41 = .ok (.iload 4, 2) := d_of dm_X3_firstCure_c0 22 (q := (41, .iload 4, 2)) rfl
theorem dX3_firstCure_43 : decode cX3_firstCure 43 = .ok (.iastore, 1) := d_of dm_X3_firstCure_c0 23 (q := (43, .iastore, 1)) rfl
theorem dX3_firstCure_44 : decode cX3_firstCure 44 = .ok (.iload 4, 2) := d_of dm_X3_firstCure_c0 24 (q := (44, .iload 4, 2)) rfl
def dl_X3_firstCure_c25 : List (Nat × Instr × Nat) := [(46, .iload_n 3, 1), (47, .if_icmp .eq 26, 3), (50, .aload_n 0, 1), (51, .getfield 16, 3), (54, .aload_n 0, 1), (55, .getfield 10, 3), (58, .getfield 112, 3), (61, .invokevirtual 124, 3), (64, .bipush (-9), 2), (66, .if_icmp .ne 7, 3), (69, .iconst 1, 1), (70, .goto 4, 3), (73, .iconst 0, 1), (74, .istore 5, 2), (76, .aload_n 0, 1), (77, .getfield 16, 3), (80, .getfield 83, 3), (83, .iload_n 2, 1), (84, .iload_n 3, 1), (85, .iastore, 1), (86, .iload 5, 2), (88, .ifCond .eq 11, 3), (91, .bipush 10, 2), (93, .iload_n 2, 1), (94, .imul, 1)]
set_option maxRecDepth 100000 in
theorem dm_X3_firstCure_c25 : dl_X3_firstCure_c25.all (fun q => decide (decode cX3_firstCure q.1 = .ok q.2)) = true := by decide +kernel
theorem dX3_firstCure_46 : decode cX3_firstCure 46 = .ok (.iload_n 3, 1) := d_of dm_X3_firstCure_c25 0 (q := (46, .iload_n 3, 1)) rfl
theorem dX3_firstCure_47 : decode cX3_firstCure 47 = .ok (.if_icmp .eq 26, 3) := d_of dm_X3_firstCure_c25 1 (q := (47, .if_icmp .eq 26, 3)) rfl
theorem dX3_firstCure_50 : decode cX3_firstCure 50 = .ok (.aload_n 0, 1) := d_of dm_X3_firstCure_c25 2 (q := (50, .aload_n 0, 1)) rfl
theorem dX3_firstCure_51 : decode cX3_firstCure 51 = .ok (.getfield 16, 3) := d_of dm_X3_firstCure_c25 3 (q := (51, .getfield 16, 3)) rfl
theorem dX3_firstCure_54 : decode cX3_firstCure 54 = .ok (.aload_n 0, 1) := d_of dm_X3_firstCure_c25 4 (q := (54, .aload_n 0, 1)) rfl
theorem dX3_firstCure_55 : decode cX3_firstCure 55 = .ok (.getfield 10, 3) := d_of dm_X3_firstCure_c25 5 (q := (55, .getfield 10, 3)) rfl
theorem dX3_firstCure_58 : decode cX3_firstCure 58 = .ok (.getfield 112, 3) := d_of dm_X3_firstCure_c25 6 (q := (58, .getfield 112, 3)) rfl
theorem dX3_firstCure_61 : decode cX3_firstCure 61 = .ok (.invokevirtual 124, 3) := d_of dm_X3_firstCure_c25 7 (q := (61, .invokevirtual 124, 3)) rfl
theorem dX3_firstCure_64 : decode cX3_firstCure 64 = .ok (.bipush (-9), 2) := d_of dm_X3_firstCure_c25 8 (q := (64, .bipush (-9), 2)) rfl
theorem dX3_firstCure_66 : decode cX3_firstCure 66 = .ok (.if_icmp .ne 7, 3) := d_of dm_X3_firstCure_c25 9 (q := (66, .if_icmp .ne 7, 3)) rfl
theorem dX3_firstCure_69 : decode cX3_firstCure 69 = .ok (.iconst 1, 1) := d_of dm_X3_firstCure_c25 10 (q := (69, .iconst 1, 1)) rfl
theorem dX3_firstCure_70 : decode cX3_firstCure 70 = .ok (.goto 4, 3) := d_of dm_X3_firstCure_c25 11 (q := (70, .goto 4, 3)) rfl
theorem dX3_firstCure_73 : decode cX3_firstCure 73 = .ok (.iconst 0, 1) := d_of dm_X3_firstCure_c25 12 (q := (73, .iconst 0, 1)) rfl
theorem dX3_firstCure_74 : decode cX3_firstCure 74 = .ok (.istore 5, 2) := d_of dm_X3_firstCure_c25 13 (q := (74, .istore 5, 2)) rfl
theorem dX3_firstCure_76 : decode cX3_firstCure 76 = .ok (.aload_n 0, 1) := d_of dm_X3_firstCure_c25 14 (q := (76, .aload_n 0, 1)) rfl
theorem dX3_firstCure_77 : decode cX3_firstCure 77 = .ok (.getfield 16, 3) := d_of dm_X3_firstCure_c25 15 (q := (77, .getfield 16, 3)) rfl
theorem dX3_firstCure_80 : decode cX3_firstCure 80 = .ok (.getfield 83, 3) := d_of dm_X3_firstCure_c25 16 (q := (80, .getfield 83, 3)) rfl
theorem dX3_firstCure_83 : decode cX3_firstCure 83 = .ok (.iload_n 2, 1) := d_of dm_X3_firstCure_c25 17 (q := (83, .iload_n 2, 1)) rfl
theorem dX3_firstCure_84 : decode cX3_firstCure 84 = .ok (.iload_n 3, 1) := d_of dm_X3_firstCure_c25 18 (q := (84, .iload_n 3, 1)) rfl
theorem dX3_firstCure_85 : decode cX3_firstCure 85 = .ok (.iastore, 1) := d_of dm_X3_firstCure_c25 19 (q := (85, .iastore, 1)) rfl
theorem dX3_firstCure_86 : decode cX3_firstCure 86 = .ok (.iload 5, 2) := d_of dm_X3_firstCure_c25 20 (q := (86, .iload 5, 2)) rfl
theorem dX3_firstCure_88 : decode cX3_firstCure 88 = .ok (.ifCond .eq 11, 3) := d_of dm_X3_firstCure_c25 21 (q := (88, .ifCond .eq 11, 3)) rfl
theorem dX3_firstCure_91 : decode cX3_firstCure 91 = .ok (.bipush 10, 2) := d_of dm_X3_firstCure_c25 22 (q := (91, .bipush 10, 2)) rfl
theorem dX3_firstCure_93 : decode cX3_firstCure 93 = .ok (.iload_n 2, 1) := d_of dm_X3_firstCure_c25 23 (q := (93, .iload_n 2, 1)) rfl
theorem dX3_firstCure_94 : decode cX3_firstCure 94 = .ok (.imul, 1) := d_of dm_X3_firstCure_c25 24 (q := (94, .imul, 1)) rfl
def dl_X3_firstCure_c50 : List (Nat × Instr × Nat) := [(95, .iload 4, 2), (97, .iadd, 1), (98, .ireturn, 1), (99, .iinc 4 1, 3), (102, .goto (-76), 3), (105, .iinc 2 1, 3), (108, .goto (-106), 3), (111, .bipush (-9), 2), (113, .ireturn, 1)]
set_option maxRecDepth 100000 in
theorem dm_X3_firstCure_c50 : dl_X3_firstCure_c50.all (fun q => decide (decode cX3_firstCure q.1 = .ok q.2)) = true := by decide +kernel
theorem dX3_firstCure_95 : decode cX3_firstCure 95 = .ok (.iload 4, 2) := d_of dm_X3_firstCure_c50 0 (q := (95, .iload 4, 2)) rfl
theorem dX3_firstCure_97 : decode cX3_firstCure 97 = .ok (.iadd, 1) := d_of dm_X3_firstCure_c50 1 (q := (97, .iadd, 1)) rfl
theorem dX3_firstCure_98 : decode cX3_firstCure 98 = .ok (.ireturn, 1) := d_of dm_X3_firstCure_c50 2 (q := (98, .ireturn, 1)) rfl
theorem dX3_firstCure_99 : decode cX3_firstCure 99 = .ok (.iinc 4 1, 3) := d_of dm_X3_firstCure_c50 3 (q := (99, .iinc 4 1, 3)) rfl
theorem dX3_firstCure_102 : decode cX3_firstCure 102 = .ok (.goto (-76), 3) := d_of dm_X3_firstCure_c50 4 (q := (102, .goto (-76), 3)) rfl
theorem dX3_firstCure_105 : decode cX3_firstCure 105 = .ok (.iinc 2 1, 3) := d_of dm_X3_firstCure_c50 5 (q := (105, .iinc 2 1, 3)) rfl
theorem dX3_firstCure_108 : decode cX3_firstCure 108 = .ok (.goto (-106), 3) := d_of dm_X3_firstCure_c50 6 (q := (108, .goto (-106), 3)) rfl
theorem dX3_firstCure_111 : decode cX3_firstCure 111 = .ok (.bipush (-9), 2) := d_of dm_X3_firstCure_c50 7 (q := (111, .bipush (-9), 2)) rfl
theorem dX3_firstCure_113 : decode cX3_firstCure 113 = .ok (.ireturn, 1) := d_of dm_X3_firstCure_c50 8 (q := (113, .ireturn, 1)) rfl
def dl_X3_twoCure_c0 : List (Nat × Instr × Nat) := [(0, .iconst 0, 1), (1, .istore_n 1, 1), (2, .iload_n 1, 1), (3, .aload_n 0, 1), (4, .getfield 16, 3), (7, .getfield 115, 3), (10, .if_icmp .ge 84, 3), (13, .aload_n 0, 1), (14, .getfield 16, 3), (17, .getfield 83, 3), (20, .iload_n 1, 1), (21, .iaload, 1), (22, .istore_n 2, 1), (23, .iconst 0, 1), (24, .istore_n 3, 1), (25, .iload_n 3, 1), (26, .bipush 6, 2), (28, .if_icmp .ge 60, 3), (31, .aload_n 0, 1), (32, .getfield 16, 3), (35, .getfield 83, 3), (38, .iload_n 1, 1), (39, .iload_n 3, 1), (40, .iastore, 1), (41, .iload_n 3, 1)]
set_option maxRecDepth 100000 in
theorem dm_X3_twoCure_c0 : dl_X3_twoCure_c0.all (fun q => decide (decode cX3_twoCure q.1 = .ok q.2)) = true := by decide +kernel
theorem dX3_twoCure_0 : decode cX3_twoCure 0 = .ok (.iconst 0, 1) := d_of dm_X3_twoCure_c0 0 (q := (0, .iconst 0, 1)) rfl
theorem dX3_twoCure_1 : decode cX3_twoCure 1 = .ok (.istore_n 1, 1) := d_of dm_X3_twoCure_c0 1 (q := (1, .istore_n 1, 1)) rfl
theorem dX3_twoCure_2 : decode cX3_twoCure 2 = .ok (.iload_n 1, 1) := d_of dm_X3_twoCure_c0 2 (q := (2, .iload_n 1, 1)) rfl
theorem dX3_twoCure_3 : decode cX3_twoCure 3 = .ok (.aload_n 0, 1) := d_of dm_X3_twoCure_c0 3 (q := (3, .aload_n 0, 1)) rfl
theorem dX3_twoCure_4 : decode cX3_twoCure 4 = .ok (.getfield 16, 3) := d_of dm_X3_twoCure_c0 4 (q := (4, .getfield 16, 3)) rfl
theorem dX3_twoCure_7 : decode cX3_twoCure 7 = .ok (.getfield 115, 3) := d_of dm_X3_twoCure_c0 5 (q := (7, .getfield 115, 3)) rfl
theorem dX3_twoCure_10 : decode cX3_twoCure 10 = .ok (.if_icmp .ge 84, 3) := d_of dm_X3_twoCure_c0 6 (q := (10, .if_icmp .ge 84, 3)) rfl
theorem dX3_twoCure_13 : decode cX3_twoCure 13 = .ok (.aload_n 0, 1) := d_of dm_X3_twoCure_c0 7 (q := (13, .aload_n 0, 1)) rfl
theorem dX3_twoCure_14 : decode cX3_twoCure 14 = .ok (.getfield 16, 3) := d_of dm_X3_twoCure_c0 8 (q := (14, .getfield 16, 3)) rfl
theorem dX3_twoCure_17 : decode cX3_twoCure 17 = .ok (.getfield 83, 3) := d_of dm_X3_twoCure_c0 9 (q := (17, .getfield 83, 3)) rfl
theorem dX3_twoCure_20 : decode cX3_twoCure 20 = .ok (.iload_n 1, 1) := d_of dm_X3_twoCure_c0 10 (q := (20, .iload_n 1, 1)) rfl
theorem dX3_twoCure_21 : decode cX3_twoCure 21 = .ok (.iaload, 1) := d_of dm_X3_twoCure_c0 11 (q := (21, .iaload, 1)) rfl
theorem dX3_twoCure_22 : decode cX3_twoCure 22 = .ok (.istore_n 2, 1) := d_of dm_X3_twoCure_c0 12 (q := (22, .istore_n 2, 1)) rfl
theorem dX3_twoCure_23 : decode cX3_twoCure 23 = .ok (.iconst 0, 1) := d_of dm_X3_twoCure_c0 13 (q := (23, .iconst 0, 1)) rfl
theorem dX3_twoCure_24 : decode cX3_twoCure 24 = .ok (.istore_n 3, 1) := d_of dm_X3_twoCure_c0 14 (q := (24, .istore_n 3, 1)) rfl
theorem dX3_twoCure_25 : decode cX3_twoCure 25 = .ok (.iload_n 3, 1) := d_of dm_X3_twoCure_c0 15 (q := (25, .iload_n 3, 1)) rfl
theorem dX3_twoCure_26 : decode cX3_twoCure 26 = .ok (.bipush 6, 2) := d_of dm_X3_twoCure_c0 16 (q := (26, .bipush 6, 2)) rfl
theorem dX3_twoCure_28 : decode cX3_twoCure 28 = .ok (.if_icmp .ge 60, 3) := d_of dm_X3_twoCure_c0 17 (q := (28, .if_icmp .ge 60, 3)) rfl
theorem dX3_twoCure_31 : decode cX3_twoCure 31 = .ok (.aload_n 0, 1) := d_of dm_X3_twoCure_c0 18 (q := (31, .aload_n 0, 1)) rfl
theorem dX3_twoCure_32 : decode cX3_twoCure 32 = .ok (.getfield 16, 3) := d_of dm_X3_twoCure_c0 19 (q := (32, .getfield 16, 3)) rfl
theorem dX3_twoCure_35 : decode cX3_twoCure 35 = .ok (.getfield 83, 3) := d_of dm_X3_twoCure_c0 20 (q := (35, .getfield 83, 3)) rfl
theorem dX3_twoCure_38 : decode cX3_twoCure 38 = .ok (.iload_n 1, 1) := d_of dm_X3_twoCure_c0 21 (q := (38, .iload_n 1, 1)) rfl
theorem dX3_twoCure_39 : decode cX3_twoCure 39 = .ok (.iload_n 3, 1) := d_of dm_X3_twoCure_c0 22 (q := (39, .iload_n 3, 1)) rfl
theorem dX3_twoCure_40 : decode cX3_twoCure 40 = .ok (.iastore, 1) := d_of dm_X3_twoCure_c0 23 (q := (40, .iastore, 1)) rfl
theorem dX3_twoCure_41 : decode cX3_twoCure 41 = .ok (.iload_n 3, 1) := d_of dm_X3_twoCure_c0 24 (q := (41, .iload_n 3, 1)) rfl
def dl_X3_twoCure_c25 : List (Nat × Instr × Nat) := [(42, .iload_n 2, 1), (43, .if_icmp .eq 19, 3), (46, .aload_n 0, 1), (47, .iload_n 1, 1), (48, .iconst 1, 1), (49, .iadd, 1), (50, .invokevirtual 139, 3), (53, .bipush (-9), 2), (55, .if_icmp .eq 7, 3), (58, .iconst 1, 1), (59, .goto 4, 3), (62, .iconst 0, 1), (63, .istore 4, 2), (65, .aload_n 0, 1), (66, .getfield 16, 3), (69, .getfield 83, 3), (72, .iload_n 1, 1), (73, .iload_n 2, 1), (74, .iastore, 1), (75, .iload 4, 2), (77, .ifCond .eq 5, 3), (80, .iconst 1, 1), (81, .ireturn, 1), (82, .iinc 3 1, 3), (85, .goto (-60), 3)]
set_option maxRecDepth 100000 in
theorem dm_X3_twoCure_c25 : dl_X3_twoCure_c25.all (fun q => decide (decode cX3_twoCure q.1 = .ok q.2)) = true := by decide +kernel
theorem dX3_twoCure_42 : decode cX3_twoCure 42 = .ok (.iload_n 2, 1) := d_of dm_X3_twoCure_c25 0 (q := (42, .iload_n 2, 1)) rfl
theorem dX3_twoCure_43 : decode cX3_twoCure 43 = .ok (.if_icmp .eq 19, 3) := d_of dm_X3_twoCure_c25 1 (q := (43, .if_icmp .eq 19, 3)) rfl
theorem dX3_twoCure_46 : decode cX3_twoCure 46 = .ok (.aload_n 0, 1) := d_of dm_X3_twoCure_c25 2 (q := (46, .aload_n 0, 1)) rfl
theorem dX3_twoCure_47 : decode cX3_twoCure 47 = .ok (.iload_n 1, 1) := d_of dm_X3_twoCure_c25 3 (q := (47, .iload_n 1, 1)) rfl
theorem dX3_twoCure_48 : decode cX3_twoCure 48 = .ok (.iconst 1, 1) := d_of dm_X3_twoCure_c25 4 (q := (48, .iconst 1, 1)) rfl
theorem dX3_twoCure_49 : decode cX3_twoCure 49 = .ok (.iadd, 1) := d_of dm_X3_twoCure_c25 5 (q := (49, .iadd, 1)) rfl
theorem dX3_twoCure_50 : decode cX3_twoCure 50 = .ok (.invokevirtual 139, 3) := d_of dm_X3_twoCure_c25 6 (q := (50, .invokevirtual 139, 3)) rfl
theorem dX3_twoCure_53 : decode cX3_twoCure 53 = .ok (.bipush (-9), 2) := d_of dm_X3_twoCure_c25 7 (q := (53, .bipush (-9), 2)) rfl
theorem dX3_twoCure_55 : decode cX3_twoCure 55 = .ok (.if_icmp .eq 7, 3) := d_of dm_X3_twoCure_c25 8 (q := (55, .if_icmp .eq 7, 3)) rfl
theorem dX3_twoCure_58 : decode cX3_twoCure 58 = .ok (.iconst 1, 1) := d_of dm_X3_twoCure_c25 9 (q := (58, .iconst 1, 1)) rfl
theorem dX3_twoCure_59 : decode cX3_twoCure 59 = .ok (.goto 4, 3) := d_of dm_X3_twoCure_c25 10 (q := (59, .goto 4, 3)) rfl
theorem dX3_twoCure_62 : decode cX3_twoCure 62 = .ok (.iconst 0, 1) := d_of dm_X3_twoCure_c25 11 (q := (62, .iconst 0, 1)) rfl
theorem dX3_twoCure_63 : decode cX3_twoCure 63 = .ok (.istore 4, 2) := d_of dm_X3_twoCure_c25 12 (q := (63, .istore 4, 2)) rfl
theorem dX3_twoCure_65 : decode cX3_twoCure 65 = .ok (.aload_n 0, 1) := d_of dm_X3_twoCure_c25 13 (q := (65, .aload_n 0, 1)) rfl
theorem dX3_twoCure_66 : decode cX3_twoCure 66 = .ok (.getfield 16, 3) := d_of dm_X3_twoCure_c25 14 (q := (66, .getfield 16, 3)) rfl
theorem dX3_twoCure_69 : decode cX3_twoCure 69 = .ok (.getfield 83, 3) := d_of dm_X3_twoCure_c25 15 (q := (69, .getfield 83, 3)) rfl
theorem dX3_twoCure_72 : decode cX3_twoCure 72 = .ok (.iload_n 1, 1) := d_of dm_X3_twoCure_c25 16 (q := (72, .iload_n 1, 1)) rfl
theorem dX3_twoCure_73 : decode cX3_twoCure 73 = .ok (.iload_n 2, 1) := d_of dm_X3_twoCure_c25 17 (q := (73, .iload_n 2, 1)) rfl
theorem dX3_twoCure_74 : decode cX3_twoCure 74 = .ok (.iastore, 1) := d_of dm_X3_twoCure_c25 18 (q := (74, .iastore, 1)) rfl
theorem dX3_twoCure_75 : decode cX3_twoCure 75 = .ok (.iload 4, 2) := d_of dm_X3_twoCure_c25 19 (q := (75, .iload 4, 2)) rfl
theorem dX3_twoCure_77 : decode cX3_twoCure 77 = .ok (.ifCond .eq 5, 3) := d_of dm_X3_twoCure_c25 20 (q := (77, .ifCond .eq 5, 3)) rfl
theorem dX3_twoCure_80 : decode cX3_twoCure 80 = .ok (.iconst 1, 1) := d_of dm_X3_twoCure_c25 21 (q := (80, .iconst 1, 1)) rfl
theorem dX3_twoCure_81 : decode cX3_twoCure 81 = .ok (.ireturn, 1) := d_of dm_X3_twoCure_c25 22 (q := (81, .ireturn, 1)) rfl
theorem dX3_twoCure_82 : decode cX3_twoCure 82 = .ok (.iinc 3 1, 3) := d_of dm_X3_twoCure_c25 23 (q := (82, .iinc 3 1, 3)) rfl
theorem dX3_twoCure_85 : decode cX3_twoCure 85 = .ok (.goto (-60), 3) := d_of dm_X3_twoCure_c25 24 (q := (85, .goto (-60), 3)) rfl
def dl_X3_twoCure_c50 : List (Nat × Instr × Nat) := [(88, .iinc 1 1, 3), (91, .goto (-89), 3), (94, .iconst 0, 1), (95, .ireturn, 1)]
set_option maxRecDepth 100000 in
theorem dm_X3_twoCure_c50 : dl_X3_twoCure_c50.all (fun q => decide (decode cX3_twoCure q.1 = .ok q.2)) = true := by decide +kernel
theorem dX3_twoCure_88 : decode cX3_twoCure 88 = .ok (.iinc 1 1, 3) := d_of dm_X3_twoCure_c50 0 (q := (88, .iinc 1 1, 3)) rfl
theorem dX3_twoCure_91 : decode cX3_twoCure 91 = .ok (.goto (-89), 3) := d_of dm_X3_twoCure_c50 1 (q := (91, .goto (-89), 3)) rfl
theorem dX3_twoCure_94 : decode cX3_twoCure 94 = .ok (.iconst 0, 1) := d_of dm_X3_twoCure_c50 2 (q := (94, .iconst 0, 1)) rfl
theorem dX3_twoCure_95 : decode cX3_twoCure 95 = .ok (.ireturn, 1) := d_of dm_X3_twoCure_c50 3 (q := (95, .ireturn, 1)) rfl
def dl_X3_ordersBehind_c0 : List (Nat × Instr × Nat) := [(0, .iconst 0, 1), (1, .istore_n 3, 1), (2, .iload_n 3, 1), (3, .aload_n 0, 1), (4, .getfield 10, 3), (7, .getfield 115, 3), (10, .if_icmp .ge 39, 3), (13, .aload_n 0, 1), (14, .getfield 16, 3), (17, .getfield 83, 3), (20, .iload_n 3, 1), (21, .iload_n 1, 1), (22, .iload_n 3, 1), (23, .ishr, 1), (24, .iconst 1, 1), (25, .iand, 1), (26, .ifCond .eq 7, 3), (29, .iload_n 2, 1), (30, .goto 12, 3), (33, .aload_n 0, 1), (34, .getfield 10, 3), (37, .getfield 83, 3), (40, .iload_n 3, 1), (41, .iaload, 1), (42, .iastore, 1)]
set_option maxRecDepth 100000 in
theorem dm_X3_ordersBehind_c0 : dl_X3_ordersBehind_c0.all (fun q => decide (decode cX3_ordersBehind q.1 = .ok q.2)) = true := by decide +kernel
theorem dX3_ordersBehind_0 : decode cX3_ordersBehind 0 = .ok (.iconst 0, 1) := d_of dm_X3_ordersBehind_c0 0 (q := (0, .iconst 0, 1)) rfl
theorem dX3_ordersBehind_1 : decode cX3_ordersBehind 1 = .ok (.istore_n 3, 1) := d_of dm_X3_ordersBehind_c0 1 (q := (1, .istore_n 3, 1)) rfl
theorem dX3_ordersBehind_2 : decode cX3_ordersBehind 2 = .ok (.iload_n 3, 1) := d_of dm_X3_ordersBehind_c0 2 (q := (2, .iload_n 3, 1)) rfl
theorem dX3_ordersBehind_3 : decode cX3_ordersBehind 3 = .ok (.aload_n 0, 1) := d_of dm_X3_ordersBehind_c0 3 (q := (3, .aload_n 0, 1)) rfl
theorem dX3_ordersBehind_4 : decode cX3_ordersBehind 4 = .ok (.getfield 10, 3) := d_of dm_X3_ordersBehind_c0 4 (q := (4, .getfield 10, 3)) rfl
theorem dX3_ordersBehind_7 : decode cX3_ordersBehind 7 = .ok (.getfield 115, 3) := d_of dm_X3_ordersBehind_c0 5 (q := (7, .getfield 115, 3)) rfl
theorem dX3_ordersBehind_10 : decode cX3_ordersBehind 10 = .ok (.if_icmp .ge 39, 3) := d_of dm_X3_ordersBehind_c0 6 (q := (10, .if_icmp .ge 39, 3)) rfl
theorem dX3_ordersBehind_13 : decode cX3_ordersBehind 13 = .ok (.aload_n 0, 1) := d_of dm_X3_ordersBehind_c0 7 (q := (13, .aload_n 0, 1)) rfl
theorem dX3_ordersBehind_14 : decode cX3_ordersBehind 14 = .ok (.getfield 16, 3) := d_of dm_X3_ordersBehind_c0 8 (q := (14, .getfield 16, 3)) rfl
theorem dX3_ordersBehind_17 : decode cX3_ordersBehind 17 = .ok (.getfield 83, 3) := d_of dm_X3_ordersBehind_c0 9 (q := (17, .getfield 83, 3)) rfl
theorem dX3_ordersBehind_20 : decode cX3_ordersBehind 20 = .ok (.iload_n 3, 1) := d_of dm_X3_ordersBehind_c0 10 (q := (20, .iload_n 3, 1)) rfl
theorem dX3_ordersBehind_21 : decode cX3_ordersBehind 21 = .ok (.iload_n 1, 1) := d_of dm_X3_ordersBehind_c0 11 (q := (21, .iload_n 1, 1)) rfl
theorem dX3_ordersBehind_22 : decode cX3_ordersBehind 22 = .ok (.iload_n 3, 1) := d_of dm_X3_ordersBehind_c0 12 (q := (22, .iload_n 3, 1)) rfl
theorem dX3_ordersBehind_23 : decode cX3_ordersBehind 23 = .ok (.ishr, 1) := d_of dm_X3_ordersBehind_c0 13 (q := (23, .ishr, 1)) rfl
theorem dX3_ordersBehind_24 : decode cX3_ordersBehind 24 = .ok (.iconst 1, 1) := d_of dm_X3_ordersBehind_c0 14 (q := (24, .iconst 1, 1)) rfl
theorem dX3_ordersBehind_25 : decode cX3_ordersBehind 25 = .ok (.iand, 1) := d_of dm_X3_ordersBehind_c0 15 (q := (25, .iand, 1)) rfl
theorem dX3_ordersBehind_26 : decode cX3_ordersBehind 26 = .ok (.ifCond .eq 7, 3) := d_of dm_X3_ordersBehind_c0 16 (q := (26, .ifCond .eq 7, 3)) rfl
theorem dX3_ordersBehind_29 : decode cX3_ordersBehind 29 = .ok (.iload_n 2, 1) := d_of dm_X3_ordersBehind_c0 17 (q := (29, .iload_n 2, 1)) rfl
theorem dX3_ordersBehind_30 : decode cX3_ordersBehind 30 = .ok (.goto 12, 3) := d_of dm_X3_ordersBehind_c0 18 (q := (30, .goto 12, 3)) rfl
theorem dX3_ordersBehind_33 : decode cX3_ordersBehind 33 = .ok (.aload_n 0, 1) := d_of dm_X3_ordersBehind_c0 19 (q := (33, .aload_n 0, 1)) rfl
theorem dX3_ordersBehind_34 : decode cX3_ordersBehind 34 = .ok (.getfield 10, 3) := d_of dm_X3_ordersBehind_c0 20 (q := (34, .getfield 10, 3)) rfl
theorem dX3_ordersBehind_37 : decode cX3_ordersBehind 37 = .ok (.getfield 83, 3) := d_of dm_X3_ordersBehind_c0 21 (q := (37, .getfield 83, 3)) rfl
theorem dX3_ordersBehind_40 : decode cX3_ordersBehind 40 = .ok (.iload_n 3, 1) := d_of dm_X3_ordersBehind_c0 22 (q := (40, .iload_n 3, 1)) rfl
theorem dX3_ordersBehind_41 : decode cX3_ordersBehind 41 = .ok (.iaload, 1) := d_of dm_X3_ordersBehind_c0 23 (q := (41, .iaload, 1)) rfl
theorem dX3_ordersBehind_42 : decode cX3_ordersBehind 42 = .ok (.iastore, 1) := d_of dm_X3_ordersBehind_c0 24 (q := (42, .iastore, 1)) rfl
def dl_X3_ordersBehind_c25 : List (Nat × Instr × Nat) := [(43, .iinc 3 1, 3), (46, .goto (-44), 3), (49, .aload_n 0, 1), (50, .getfield 16, 3), (53, .aload_n 0, 1), (54, .getfield 10, 3), (57, .getfield 112, 3), (60, .invokevirtual 124, 3), (63, .bipush (-9), 2), (65, .if_icmp .eq 5, 3), (68, .iconst 0, 1), (69, .ireturn, 1), (70, .iload_n 1, 1), (71, .aload_n 0, 1), (72, .getfield 10, 3), (75, .invokevirtual 165, 3), (78, .if_icmp .ne 5, 3), (81, .iconst 1, 1), (82, .ireturn, 1), (83, .iconst 0, 1), (84, .istore_n 3, 1), (85, .iconst 0, 1), (86, .istore 4, 2), (88, .iload 4, 2), (90, .aload_n 0, 1)]
set_option maxRecDepth 100000 in
theorem dm_X3_ordersBehind_c25 : dl_X3_ordersBehind_c25.all (fun q => decide (decode cX3_ordersBehind q.1 = .ok q.2)) = true := by decide +kernel
theorem dX3_ordersBehind_43 : decode cX3_ordersBehind 43 = .ok (.iinc 3 1, 3) := d_of dm_X3_ordersBehind_c25 0 (q := (43, .iinc 3 1, 3)) rfl
theorem dX3_ordersBehind_46 : decode cX3_ordersBehind 46 = .ok (.goto (-44), 3) := d_of dm_X3_ordersBehind_c25 1 (q := (46, .goto (-44), 3)) rfl
theorem dX3_ordersBehind_49 : decode cX3_ordersBehind 49 = .ok (.aload_n 0, 1) := d_of dm_X3_ordersBehind_c25 2 (q := (49, .aload_n 0, 1)) rfl
theorem dX3_ordersBehind_50 : decode cX3_ordersBehind 50 = .ok (.getfield 16, 3) := d_of dm_X3_ordersBehind_c25 3 (q := (50, .getfield 16, 3)) rfl
theorem dX3_ordersBehind_53 : decode cX3_ordersBehind 53 = .ok (.aload_n 0, 1) := d_of dm_X3_ordersBehind_c25 4 (q := (53, .aload_n 0, 1)) rfl
theorem dX3_ordersBehind_54 : decode cX3_ordersBehind 54 = .ok (.getfield 10, 3) := d_of dm_X3_ordersBehind_c25 5 (q := (54, .getfield 10, 3)) rfl
theorem dX3_ordersBehind_57 : decode cX3_ordersBehind 57 = .ok (.getfield 112, 3) := d_of dm_X3_ordersBehind_c25 6 (q := (57, .getfield 112, 3)) rfl
theorem dX3_ordersBehind_60 : decode cX3_ordersBehind 60 = .ok (.invokevirtual 124, 3) := d_of dm_X3_ordersBehind_c25 7 (q := (60, .invokevirtual 124, 3)) rfl
theorem dX3_ordersBehind_63 : decode cX3_ordersBehind 63 = .ok (.bipush (-9), 2) := d_of dm_X3_ordersBehind_c25 8 (q := (63, .bipush (-9), 2)) rfl
theorem dX3_ordersBehind_65 : decode cX3_ordersBehind 65 = .ok (.if_icmp .eq 5, 3) := d_of dm_X3_ordersBehind_c25 9 (q := (65, .if_icmp .eq 5, 3)) rfl
theorem dX3_ordersBehind_68 : decode cX3_ordersBehind 68 = .ok (.iconst 0, 1) := d_of dm_X3_ordersBehind_c25 10 (q := (68, .iconst 0, 1)) rfl
theorem dX3_ordersBehind_69 : decode cX3_ordersBehind 69 = .ok (.ireturn, 1) := d_of dm_X3_ordersBehind_c25 11 (q := (69, .ireturn, 1)) rfl
theorem dX3_ordersBehind_70 : decode cX3_ordersBehind 70 = .ok (.iload_n 1, 1) := d_of dm_X3_ordersBehind_c25 12 (q := (70, .iload_n 1, 1)) rfl
theorem dX3_ordersBehind_71 : decode cX3_ordersBehind 71 = .ok (.aload_n 0, 1) := d_of dm_X3_ordersBehind_c25 13 (q := (71, .aload_n 0, 1)) rfl
theorem dX3_ordersBehind_72 : decode cX3_ordersBehind 72 = .ok (.getfield 10, 3) := d_of dm_X3_ordersBehind_c25 14 (q := (72, .getfield 10, 3)) rfl
theorem dX3_ordersBehind_75 : decode cX3_ordersBehind 75 = .ok (.invokevirtual 165, 3) := d_of dm_X3_ordersBehind_c25 15 (q := (75, .invokevirtual 165, 3)) rfl
theorem dX3_ordersBehind_78 : decode cX3_ordersBehind 78 = .ok (.if_icmp .ne 5, 3) := d_of dm_X3_ordersBehind_c25 16 (q := (78, .if_icmp .ne 5, 3)) rfl
theorem dX3_ordersBehind_81 : decode cX3_ordersBehind 81 = .ok (.iconst 1, 1) := d_of dm_X3_ordersBehind_c25 17 (q := (81, .iconst 1, 1)) rfl
theorem dX3_ordersBehind_82 : decode cX3_ordersBehind 82 = .ok (.ireturn, 1) := d_of dm_X3_ordersBehind_c25 18 (q := (82, .ireturn, 1)) rfl
theorem dX3_ordersBehind_83 : decode cX3_ordersBehind 83 = .ok (.iconst 0, 1) := d_of dm_X3_ordersBehind_c25 19 (q := (83, .iconst 0, 1)) rfl
theorem dX3_ordersBehind_84 : decode cX3_ordersBehind 84 = .ok (.istore_n 3, 1) := d_of dm_X3_ordersBehind_c25 20 (q := (84, .istore_n 3, 1)) rfl
theorem dX3_ordersBehind_85 : decode cX3_ordersBehind 85 = .ok (.iconst 0, 1) := d_of dm_X3_ordersBehind_c25 21 (q := (85, .iconst 0, 1)) rfl
theorem dX3_ordersBehind_86 : decode cX3_ordersBehind 86 = .ok (.istore 4, 2) := d_of dm_X3_ordersBehind_c25 22 (q := (86, .istore 4, 2)) rfl
theorem dX3_ordersBehind_88 : decode cX3_ordersBehind 88 = .ok (.iload 4, 2) := d_of dm_X3_ordersBehind_c25 23 (q := (88, .iload 4, 2)) rfl
theorem dX3_ordersBehind_90 : decode cX3_ordersBehind 90 = .ok (.aload_n 0, 1) := d_of dm_X3_ordersBehind_c25 24 (q := (90, .aload_n 0, 1)) rfl
def dl_X3_ordersBehind_c50 : List (Nat × Instr × Nat) := [(91, .getfield 10, 3), (94, .getfield 115, 3), (97, .if_icmp .ge 32, 3), (100, .iload_n 1, 1), (101, .iload 4, 2), (103, .ishr, 1), (104, .iconst 1, 1), (105, .iand, 1), (106, .ifCond .ne 17, 3), (109, .iload_n 3, 1), (110, .aload_n 0, 1), (111, .getfield 40, 3), (114, .iload_n 1, 1), (115, .iconst 1, 1), (116, .iload 4, 2), (118, .ishl, 1), (119, .ior, 1), (120, .iaload, 1), (121, .iadd, 1), (122, .istore_n 3, 1), (123, .iinc 4 1, 3), (126, .goto (-38), 3), (129, .iload_n 3, 1), (130, .ireturn, 1)]
set_option maxRecDepth 100000 in
theorem dm_X3_ordersBehind_c50 : dl_X3_ordersBehind_c50.all (fun q => decide (decode cX3_ordersBehind q.1 = .ok q.2)) = true := by decide +kernel
theorem dX3_ordersBehind_91 : decode cX3_ordersBehind 91 = .ok (.getfield 10, 3) := d_of dm_X3_ordersBehind_c50 0 (q := (91, .getfield 10, 3)) rfl
theorem dX3_ordersBehind_94 : decode cX3_ordersBehind 94 = .ok (.getfield 115, 3) := d_of dm_X3_ordersBehind_c50 1 (q := (94, .getfield 115, 3)) rfl
theorem dX3_ordersBehind_97 : decode cX3_ordersBehind 97 = .ok (.if_icmp .ge 32, 3) := d_of dm_X3_ordersBehind_c50 2 (q := (97, .if_icmp .ge 32, 3)) rfl
theorem dX3_ordersBehind_100 : decode cX3_ordersBehind 100 = .ok (.iload_n 1, 1) := d_of dm_X3_ordersBehind_c50 3 (q := (100, .iload_n 1, 1)) rfl
theorem dX3_ordersBehind_101 : decode cX3_ordersBehind 101 = .ok (.iload 4, 2) := d_of dm_X3_ordersBehind_c50 4 (q := (101, .iload 4, 2)) rfl
theorem dX3_ordersBehind_103 : decode cX3_ordersBehind 103 = .ok (.ishr, 1) := d_of dm_X3_ordersBehind_c50 5 (q := (103, .ishr, 1)) rfl
theorem dX3_ordersBehind_104 : decode cX3_ordersBehind 104 = .ok (.iconst 1, 1) := d_of dm_X3_ordersBehind_c50 6 (q := (104, .iconst 1, 1)) rfl
theorem dX3_ordersBehind_105 : decode cX3_ordersBehind 105 = .ok (.iand, 1) := d_of dm_X3_ordersBehind_c50 7 (q := (105, .iand, 1)) rfl
theorem dX3_ordersBehind_106 : decode cX3_ordersBehind 106 = .ok (.ifCond .ne 17, 3) := d_of dm_X3_ordersBehind_c50 8 (q := (106, .ifCond .ne 17, 3)) rfl
theorem dX3_ordersBehind_109 : decode cX3_ordersBehind 109 = .ok (.iload_n 3, 1) := d_of dm_X3_ordersBehind_c50 9 (q := (109, .iload_n 3, 1)) rfl
theorem dX3_ordersBehind_110 : decode cX3_ordersBehind 110 = .ok (.aload_n 0, 1) := d_of dm_X3_ordersBehind_c50 10 (q := (110, .aload_n 0, 1)) rfl
theorem dX3_ordersBehind_111 : decode cX3_ordersBehind 111 = .ok (.getfield 40, 3) := d_of dm_X3_ordersBehind_c50 11 (q := (111, .getfield 40, 3)) rfl
theorem dX3_ordersBehind_114 : decode cX3_ordersBehind 114 = .ok (.iload_n 1, 1) := d_of dm_X3_ordersBehind_c50 12 (q := (114, .iload_n 1, 1)) rfl
theorem dX3_ordersBehind_115 : decode cX3_ordersBehind 115 = .ok (.iconst 1, 1) := d_of dm_X3_ordersBehind_c50 13 (q := (115, .iconst 1, 1)) rfl
theorem dX3_ordersBehind_116 : decode cX3_ordersBehind 116 = .ok (.iload 4, 2) := d_of dm_X3_ordersBehind_c50 14 (q := (116, .iload 4, 2)) rfl
theorem dX3_ordersBehind_118 : decode cX3_ordersBehind 118 = .ok (.ishl, 1) := d_of dm_X3_ordersBehind_c50 15 (q := (118, .ishl, 1)) rfl
theorem dX3_ordersBehind_119 : decode cX3_ordersBehind 119 = .ok (.ior, 1) := d_of dm_X3_ordersBehind_c50 16 (q := (119, .ior, 1)) rfl
theorem dX3_ordersBehind_120 : decode cX3_ordersBehind 120 = .ok (.iaload, 1) := d_of dm_X3_ordersBehind_c50 17 (q := (120, .iaload, 1)) rfl
theorem dX3_ordersBehind_121 : decode cX3_ordersBehind 121 = .ok (.iadd, 1) := d_of dm_X3_ordersBehind_c50 18 (q := (121, .iadd, 1)) rfl
theorem dX3_ordersBehind_122 : decode cX3_ordersBehind 122 = .ok (.istore_n 3, 1) := d_of dm_X3_ordersBehind_c50 19 (q := (122, .istore_n 3, 1)) rfl
theorem dX3_ordersBehind_123 : decode cX3_ordersBehind 123 = .ok (.iinc 4 1, 3) := d_of dm_X3_ordersBehind_c50 20 (q := (123, .iinc 4 1, 3)) rfl
theorem dX3_ordersBehind_126 : decode cX3_ordersBehind 126 = .ok (.goto (-38), 3) := d_of dm_X3_ordersBehind_c50 21 (q := (126, .goto (-38), 3)) rfl
theorem dX3_ordersBehind_129 : decode cX3_ordersBehind 129 = .ok (.iload_n 3, 1) := d_of dm_X3_ordersBehind_c50 22 (q := (129, .iload_n 3, 1)) rfl
theorem dX3_ordersBehind_130 : decode cX3_ordersBehind 130 = .ok (.ireturn, 1) := d_of dm_X3_ordersBehind_c50 23 (q := (130, .ireturn, 1)) rfl
def dl_X3_firstCarried_c0 : List (Nat × Instr × Nat) := [(0, .aload_n 0, 1), (1, .getfield 40, 3), (4, .iconst 0, 1), (5, .iaload, 1), (6, .ifCond .le 35, 3), (9, .iconst 0, 1), (10, .istore_n 1, 1), (11, .iload_n 1, 1), (12, .aload_n 0, 1), (13, .getfield 10, 3), (16, .getfield 115, 3), (19, .if_icmp .ge 22, 3), (22, .aload_n 0, 1), (23, .getfield 40, 3), (26, .iconst 1, 1), (27, .iload_n 1, 1), (28, .ishl, 1), (29, .iaload, 1), (30, .ifCond .le 5, 3), (33, .iload_n 1, 1), (34, .ireturn, 1), (35, .iinc 1 1, 3), (38, .goto (-27), 3), (41, .bipush (-9), 2), (43, .ireturn, 1)]
set_option maxRecDepth 100000 in
theorem dm_X3_firstCarried_c0 : dl_X3_firstCarried_c0.all (fun q => decide (decode cX3_firstCarried q.1 = .ok q.2)) = true := by decide +kernel
theorem dX3_firstCarried_0 : decode cX3_firstCarried 0 = .ok (.aload_n 0, 1) := d_of dm_X3_firstCarried_c0 0 (q := (0, .aload_n 0, 1)) rfl
theorem dX3_firstCarried_1 : decode cX3_firstCarried 1 = .ok (.getfield 40, 3) := d_of dm_X3_firstCarried_c0 1 (q := (1, .getfield 40, 3)) rfl
theorem dX3_firstCarried_4 : decode cX3_firstCarried 4 = .ok (.iconst 0, 1) := d_of dm_X3_firstCarried_c0 2 (q := (4, .iconst 0, 1)) rfl
theorem dX3_firstCarried_5 : decode cX3_firstCarried 5 = .ok (.iaload, 1) := d_of dm_X3_firstCarried_c0 3 (q := (5, .iaload, 1)) rfl
theorem dX3_firstCarried_6 : decode cX3_firstCarried 6 = .ok (.ifCond .le 35, 3) := d_of dm_X3_firstCarried_c0 4 (q := (6, .ifCond .le 35, 3)) rfl
theorem dX3_firstCarried_9 : decode cX3_firstCarried 9 = .ok (.iconst 0, 1) := d_of dm_X3_firstCarried_c0 5 (q := (9, .iconst 0, 1)) rfl
theorem dX3_firstCarried_10 : decode cX3_firstCarried 10 = .ok (.istore_n 1, 1) := d_of dm_X3_firstCarried_c0 6 (q := (10, .istore_n 1, 1)) rfl
theorem dX3_firstCarried_11 : decode cX3_firstCarried 11 = .ok (.iload_n 1, 1) := d_of dm_X3_firstCarried_c0 7 (q := (11, .iload_n 1, 1)) rfl
theorem dX3_firstCarried_12 : decode cX3_firstCarried 12 = .ok (.aload_n 0, 1) := d_of dm_X3_firstCarried_c0 8 (q := (12, .aload_n 0, 1)) rfl
theorem dX3_firstCarried_13 : decode cX3_firstCarried 13 = .ok (.getfield 10, 3) := d_of dm_X3_firstCarried_c0 9 (q := (13, .getfield 10, 3)) rfl
theorem dX3_firstCarried_16 : decode cX3_firstCarried 16 = .ok (.getfield 115, 3) := d_of dm_X3_firstCarried_c0 10 (q := (16, .getfield 115, 3)) rfl
theorem dX3_firstCarried_19 : decode cX3_firstCarried 19 = .ok (.if_icmp .ge 22, 3) := d_of dm_X3_firstCarried_c0 11 (q := (19, .if_icmp .ge 22, 3)) rfl
theorem dX3_firstCarried_22 : decode cX3_firstCarried 22 = .ok (.aload_n 0, 1) := d_of dm_X3_firstCarried_c0 12 (q := (22, .aload_n 0, 1)) rfl
theorem dX3_firstCarried_23 : decode cX3_firstCarried 23 = .ok (.getfield 40, 3) := d_of dm_X3_firstCarried_c0 13 (q := (23, .getfield 40, 3)) rfl
theorem dX3_firstCarried_26 : decode cX3_firstCarried 26 = .ok (.iconst 1, 1) := d_of dm_X3_firstCarried_c0 14 (q := (26, .iconst 1, 1)) rfl
theorem dX3_firstCarried_27 : decode cX3_firstCarried 27 = .ok (.iload_n 1, 1) := d_of dm_X3_firstCarried_c0 15 (q := (27, .iload_n 1, 1)) rfl
theorem dX3_firstCarried_28 : decode cX3_firstCarried 28 = .ok (.ishl, 1) := d_of dm_X3_firstCarried_c0 16 (q := (28, .ishl, 1)) rfl
theorem dX3_firstCarried_29 : decode cX3_firstCarried 29 = .ok (.iaload, 1) := d_of dm_X3_firstCarried_c0 17 (q := (29, .iaload, 1)) rfl
theorem dX3_firstCarried_30 : decode cX3_firstCarried 30 = .ok (.ifCond .le 5, 3) := d_of dm_X3_firstCarried_c0 18 (q := (30, .ifCond .le 5, 3)) rfl
theorem dX3_firstCarried_33 : decode cX3_firstCarried 33 = .ok (.iload_n 1, 1) := d_of dm_X3_firstCarried_c0 19 (q := (33, .iload_n 1, 1)) rfl
theorem dX3_firstCarried_34 : decode cX3_firstCarried 34 = .ok (.ireturn, 1) := d_of dm_X3_firstCarried_c0 20 (q := (34, .ireturn, 1)) rfl
theorem dX3_firstCarried_35 : decode cX3_firstCarried 35 = .ok (.iinc 1 1, 3) := d_of dm_X3_firstCarried_c0 21 (q := (35, .iinc 1 1, 3)) rfl
theorem dX3_firstCarried_38 : decode cX3_firstCarried 38 = .ok (.goto (-27), 3) := d_of dm_X3_firstCarried_c0 22 (q := (38, .goto (-27), 3)) rfl
theorem dX3_firstCarried_41 : decode cX3_firstCarried 41 = .ok (.bipush (-9), 2) := d_of dm_X3_firstCarried_c0 23 (q := (41, .bipush (-9), 2)) rfl
theorem dX3_firstCarried_43 : decode cX3_firstCarried 43 = .ok (.ireturn, 1) := d_of dm_X3_firstCarried_c0 24 (q := (43, .ireturn, 1)) rfl
def dl_X3_firstBadMove_c0 : List (Nat × Instr × Nat) := [(0, .aload_n 0, 1), (1, .getfield 16, 3), (4, .aload_n 0, 1), (5, .getfield 10, 3), (8, .invokevirtual 68, 3), (11, .iconst 0, 1), (12, .istore_n 1, 1), (13, .iload_n 1, 1), (14, .aload_n 0, 1), (15, .getfield 47, 3), (18, .if_icmp .ge 79, 3), (21, .aload_n 0, 1), (22, .getfield 44, 3), (25, .iload_n 1, 1), (26, .iaload, 1), (27, .bipush 10, 2), (29, .idiv, 1), (30, .istore_n 2, 1), (31, .aload_n 0, 1), (32, .getfield 44, 3), (35, .iload_n 1, 1), (36, .iaload, 1), (37, .bipush 10, 2), (39, .irem, 1), (40, .istore_n 3, 1)]
set_option maxRecDepth 100000 in
theorem dm_X3_firstBadMove_c0 : dl_X3_firstBadMove_c0.all (fun q => decide (decode cX3_firstBadMove q.1 = .ok q.2)) = true := by decide +kernel
theorem dX3_firstBadMove_0 : decode cX3_firstBadMove 0 = .ok (.aload_n 0, 1) := d_of dm_X3_firstBadMove_c0 0 (q := (0, .aload_n 0, 1)) rfl
theorem dX3_firstBadMove_1 : decode cX3_firstBadMove 1 = .ok (.getfield 16, 3) := d_of dm_X3_firstBadMove_c0 1 (q := (1, .getfield 16, 3)) rfl
theorem dX3_firstBadMove_4 : decode cX3_firstBadMove 4 = .ok (.aload_n 0, 1) := d_of dm_X3_firstBadMove_c0 2 (q := (4, .aload_n 0, 1)) rfl
theorem dX3_firstBadMove_5 : decode cX3_firstBadMove 5 = .ok (.getfield 10, 3) := d_of dm_X3_firstBadMove_c0 3 (q := (5, .getfield 10, 3)) rfl
theorem dX3_firstBadMove_8 : decode cX3_firstBadMove 8 = .ok (.invokevirtual 68, 3) := d_of dm_X3_firstBadMove_c0 4 (q := (8, .invokevirtual 68, 3)) rfl
theorem dX3_firstBadMove_11 : decode cX3_firstBadMove 11 = .ok (.iconst 0, 1) := d_of dm_X3_firstBadMove_c0 5 (q := (11, .iconst 0, 1)) rfl
theorem dX3_firstBadMove_12 : decode cX3_firstBadMove 12 = .ok (.istore_n 1, 1) := d_of dm_X3_firstBadMove_c0 6 (q := (12, .istore_n 1, 1)) rfl
theorem dX3_firstBadMove_13 : decode cX3_firstBadMove 13 = .ok (.iload_n 1, 1) := d_of dm_X3_firstBadMove_c0 7 (q := (13, .iload_n 1, 1)) rfl
theorem dX3_firstBadMove_14 : decode cX3_firstBadMove 14 = .ok (.aload_n 0, 1) := d_of dm_X3_firstBadMove_c0 8 (q := (14, .aload_n 0, 1)) rfl
theorem dX3_firstBadMove_15 : decode cX3_firstBadMove 15 = .ok (.getfield 47, 3) := d_of dm_X3_firstBadMove_c0 9 (q := (15, .getfield 47, 3)) rfl
theorem dX3_firstBadMove_18 : decode cX3_firstBadMove 18 = .ok (.if_icmp .ge 79, 3) := d_of dm_X3_firstBadMove_c0 10 (q := (18, .if_icmp .ge 79, 3)) rfl
theorem dX3_firstBadMove_21 : decode cX3_firstBadMove 21 = .ok (.aload_n 0, 1) := d_of dm_X3_firstBadMove_c0 11 (q := (21, .aload_n 0, 1)) rfl
theorem dX3_firstBadMove_22 : decode cX3_firstBadMove 22 = .ok (.getfield 44, 3) := d_of dm_X3_firstBadMove_c0 12 (q := (22, .getfield 44, 3)) rfl
theorem dX3_firstBadMove_25 : decode cX3_firstBadMove 25 = .ok (.iload_n 1, 1) := d_of dm_X3_firstBadMove_c0 13 (q := (25, .iload_n 1, 1)) rfl
theorem dX3_firstBadMove_26 : decode cX3_firstBadMove 26 = .ok (.iaload, 1) := d_of dm_X3_firstBadMove_c0 14 (q := (26, .iaload, 1)) rfl
theorem dX3_firstBadMove_27 : decode cX3_firstBadMove 27 = .ok (.bipush 10, 2) := d_of dm_X3_firstBadMove_c0 15 (q := (27, .bipush 10, 2)) rfl
theorem dX3_firstBadMove_29 : decode cX3_firstBadMove 29 = .ok (.idiv, 1) := d_of dm_X3_firstBadMove_c0 16 (q := (29, .idiv, 1)) rfl
theorem dX3_firstBadMove_30 : decode cX3_firstBadMove 30 = .ok (.istore_n 2, 1) := d_of dm_X3_firstBadMove_c0 17 (q := (30, .istore_n 2, 1)) rfl
theorem dX3_firstBadMove_31 : decode cX3_firstBadMove 31 = .ok (.aload_n 0, 1) := d_of dm_X3_firstBadMove_c0 18 (q := (31, .aload_n 0, 1)) rfl
theorem dX3_firstBadMove_32 : decode cX3_firstBadMove 32 = .ok (.getfield 44, 3) := d_of dm_X3_firstBadMove_c0 19 (q := (32, .getfield 44, 3)) rfl
theorem dX3_firstBadMove_35 : decode cX3_firstBadMove 35 = .ok (.iload_n 1, 1) := d_of dm_X3_firstBadMove_c0 20 (q := (35, .iload_n 1, 1)) rfl
theorem dX3_firstBadMove_36 : decode cX3_firstBadMove 36 = .ok (.iaload, 1) := d_of dm_X3_firstBadMove_c0 21 (q := (36, .iaload, 1)) rfl
theorem dX3_firstBadMove_37 : decode cX3_firstBadMove 37 = .ok (.bipush 10, 2) := d_of dm_X3_firstBadMove_c0 22 (q := (37, .bipush 10, 2)) rfl
theorem dX3_firstBadMove_39 : decode cX3_firstBadMove 39 = .ok (.irem, 1) := d_of dm_X3_firstBadMove_c0 23 (q := (39, .irem, 1)) rfl
theorem dX3_firstBadMove_40 : decode cX3_firstBadMove 40 = .ok (.istore_n 3, 1) := d_of dm_X3_firstBadMove_c0 24 (q := (40, .istore_n 3, 1)) rfl
def dl_X3_firstBadMove_c25 : List (Nat × Instr × Nat) := [(41, .aload_n 0, 1), (42, .getfield 16, 3), (45, .iload_n 2, 1), (46, .invokevirtual 76, 3), (49, .ifCond .eq 10, 3), (52, .iload_n 3, 1), (53, .invokestatic 105, 3), (56, .ifCond .ne 5, 3), (59, .iload_n 1, 1), (60, .ireturn, 1), (61, .aload_n 0, 1), (62, .getfield 16, 3), (65, .getfield 83, 3), (68, .iload_n 2, 1), (69, .iload_n 3, 1), (70, .iastore, 1), (71, .aload_n 0, 1), (72, .getfield 16, 3), (75, .iload_n 1, 1), (76, .bipush 7, 2), (78, .invokestatic 195, 3), (81, .invokevirtual 124, 3), (84, .bipush (-9), 2), (86, .if_icmp .eq 5, 3), (89, .iload_n 1, 1)]
set_option maxRecDepth 100000 in
theorem dm_X3_firstBadMove_c25 : dl_X3_firstBadMove_c25.all (fun q => decide (decode cX3_firstBadMove q.1 = .ok q.2)) = true := by decide +kernel
theorem dX3_firstBadMove_41 : decode cX3_firstBadMove 41 = .ok (.aload_n 0, 1) := d_of dm_X3_firstBadMove_c25 0 (q := (41, .aload_n 0, 1)) rfl
theorem dX3_firstBadMove_42 : decode cX3_firstBadMove 42 = .ok (.getfield 16, 3) := d_of dm_X3_firstBadMove_c25 1 (q := (42, .getfield 16, 3)) rfl
theorem dX3_firstBadMove_45 : decode cX3_firstBadMove 45 = .ok (.iload_n 2, 1) := d_of dm_X3_firstBadMove_c25 2 (q := (45, .iload_n 2, 1)) rfl
theorem dX3_firstBadMove_46 : decode cX3_firstBadMove 46 = .ok (.invokevirtual 76, 3) := d_of dm_X3_firstBadMove_c25 3 (q := (46, .invokevirtual 76, 3)) rfl
theorem dX3_firstBadMove_49 : decode cX3_firstBadMove 49 = .ok (.ifCond .eq 10, 3) := d_of dm_X3_firstBadMove_c25 4 (q := (49, .ifCond .eq 10, 3)) rfl
theorem dX3_firstBadMove_52 : decode cX3_firstBadMove 52 = .ok (.iload_n 3, 1) := d_of dm_X3_firstBadMove_c25 5 (q := (52, .iload_n 3, 1)) rfl
theorem dX3_firstBadMove_53 : decode cX3_firstBadMove 53 = .ok (.invokestatic 105, 3) := d_of dm_X3_firstBadMove_c25 6 (q := (53, .invokestatic 105, 3)) rfl
theorem dX3_firstBadMove_56 : decode cX3_firstBadMove 56 = .ok (.ifCond .ne 5, 3) := d_of dm_X3_firstBadMove_c25 7 (q := (56, .ifCond .ne 5, 3)) rfl
theorem dX3_firstBadMove_59 : decode cX3_firstBadMove 59 = .ok (.iload_n 1, 1) := d_of dm_X3_firstBadMove_c25 8 (q := (59, .iload_n 1, 1)) rfl
theorem dX3_firstBadMove_60 : decode cX3_firstBadMove 60 = .ok (.ireturn, 1) := d_of dm_X3_firstBadMove_c25 9 (q := (60, .ireturn, 1)) rfl
theorem dX3_firstBadMove_61 : decode cX3_firstBadMove 61 = .ok (.aload_n 0, 1) := d_of dm_X3_firstBadMove_c25 10 (q := (61, .aload_n 0, 1)) rfl
theorem dX3_firstBadMove_62 : decode cX3_firstBadMove 62 = .ok (.getfield 16, 3) := d_of dm_X3_firstBadMove_c25 11 (q := (62, .getfield 16, 3)) rfl
theorem dX3_firstBadMove_65 : decode cX3_firstBadMove 65 = .ok (.getfield 83, 3) := d_of dm_X3_firstBadMove_c25 12 (q := (65, .getfield 83, 3)) rfl
theorem dX3_firstBadMove_68 : decode cX3_firstBadMove 68 = .ok (.iload_n 2, 1) := d_of dm_X3_firstBadMove_c25 13 (q := (68, .iload_n 2, 1)) rfl
theorem dX3_firstBadMove_69 : decode cX3_firstBadMove 69 = .ok (.iload_n 3, 1) := d_of dm_X3_firstBadMove_c25 14 (q := (69, .iload_n 3, 1)) rfl
theorem dX3_firstBadMove_70 : decode cX3_firstBadMove 70 = .ok (.iastore, 1) := d_of dm_X3_firstBadMove_c25 15 (q := (70, .iastore, 1)) rfl
theorem dX3_firstBadMove_71 : decode cX3_firstBadMove 71 = .ok (.aload_n 0, 1) := d_of dm_X3_firstBadMove_c25 16 (q := (71, .aload_n 0, 1)) rfl
theorem dX3_firstBadMove_72 : decode cX3_firstBadMove 72 = .ok (.getfield 16, 3) := d_of dm_X3_firstBadMove_c25 17 (q := (72, .getfield 16, 3)) rfl
theorem dX3_firstBadMove_75 : decode cX3_firstBadMove 75 = .ok (.iload_n 1, 1) := d_of dm_X3_firstBadMove_c25 18 (q := (75, .iload_n 1, 1)) rfl
theorem dX3_firstBadMove_76 : decode cX3_firstBadMove 76 = .ok (.bipush 7, 2) := d_of dm_X3_firstBadMove_c25 19 (q := (76, .bipush 7, 2)) rfl
theorem dX3_firstBadMove_78 : decode cX3_firstBadMove 78 = .ok (.invokestatic 195, 3) := d_of dm_X3_firstBadMove_c25 20 (q := (78, .invokestatic 195, 3)) rfl
theorem dX3_firstBadMove_81 : decode cX3_firstBadMove 81 = .ok (.invokevirtual 124, 3) := d_of dm_X3_firstBadMove_c25 21 (q := (81, .invokevirtual 124, 3)) rfl
theorem dX3_firstBadMove_84 : decode cX3_firstBadMove 84 = .ok (.bipush (-9), 2) := d_of dm_X3_firstBadMove_c25 22 (q := (84, .bipush (-9), 2)) rfl
theorem dX3_firstBadMove_86 : decode cX3_firstBadMove 86 = .ok (.if_icmp .eq 5, 3) := d_of dm_X3_firstBadMove_c25 23 (q := (86, .if_icmp .eq 5, 3)) rfl
theorem dX3_firstBadMove_89 : decode cX3_firstBadMove 89 = .ok (.iload_n 1, 1) := d_of dm_X3_firstBadMove_c25 24 (q := (89, .iload_n 1, 1)) rfl
def dl_X3_firstBadMove_c50 : List (Nat × Instr × Nat) := [(90, .ireturn, 1), (91, .iinc 1 1, 3), (94, .goto (-81), 3), (97, .bipush (-9), 2), (99, .ireturn, 1)]
set_option maxRecDepth 100000 in
theorem dm_X3_firstBadMove_c50 : dl_X3_firstBadMove_c50.all (fun q => decide (decode cX3_firstBadMove q.1 = .ok q.2)) = true := by decide +kernel
theorem dX3_firstBadMove_90 : decode cX3_firstBadMove 90 = .ok (.ireturn, 1) := d_of dm_X3_firstBadMove_c50 0 (q := (90, .ireturn, 1)) rfl
theorem dX3_firstBadMove_91 : decode cX3_firstBadMove 91 = .ok (.iinc 1 1, 3) := d_of dm_X3_firstBadMove_c50 1 (q := (91, .iinc 1 1, 3)) rfl
theorem dX3_firstBadMove_94 : decode cX3_firstBadMove 94 = .ok (.goto (-81), 3) := d_of dm_X3_firstBadMove_c50 2 (q := (94, .goto (-81), 3)) rfl
theorem dX3_firstBadMove_97 : decode cX3_firstBadMove 97 = .ok (.bipush (-9), 2) := d_of dm_X3_firstBadMove_c50 3 (q := (97, .bipush (-9), 2)) rfl
theorem dX3_firstBadMove_99 : decode cX3_firstBadMove 99 = .ok (.ireturn, 1) := d_of dm_X3_firstBadMove_c50 4 (q := (99, .ireturn, 1)) rfl
def dl_X3_nextSeed_c0 : List (Nat × Instr × Nat) := [(0, .iload_n 0, 1), (1, .ldc 200, 2), (3, .imul, 1), (4, .ldc 201, 2), (6, .iadd, 1), (7, .ireturn, 1)]
set_option maxRecDepth 100000 in
theorem dm_X3_nextSeed_c0 : dl_X3_nextSeed_c0.all (fun q => decide (decode cX3_nextSeed q.1 = .ok q.2)) = true := by decide +kernel
theorem dX3_nextSeed_0 : decode cX3_nextSeed 0 = .ok (.iload_n 0, 1) := d_of dm_X3_nextSeed_c0 0 (q := (0, .iload_n 0, 1)) rfl
theorem dX3_nextSeed_1 : decode cX3_nextSeed 1 = .ok (.ldc 200, 2) := d_of dm_X3_nextSeed_c0 1 (q := (1, .ldc 200, 2)) rfl
theorem dX3_nextSeed_3 : decode cX3_nextSeed 3 = .ok (.imul, 1) := d_of dm_X3_nextSeed_c0 2 (q := (3, .imul, 1)) rfl
theorem dX3_nextSeed_4 : decode cX3_nextSeed 4 = .ok (.ldc 201, 2) := d_of dm_X3_nextSeed_c0 3 (q := (4, .ldc 201, 2)) rfl
theorem dX3_nextSeed_6 : decode cX3_nextSeed 6 = .ok (.iadd, 1) := d_of dm_X3_nextSeed_c0 4 (q := (6, .iadd, 1)) rfl
theorem dX3_nextSeed_7 : decode cX3_nextSeed 7 = .ok (.ireturn, 1) := d_of dm_X3_nextSeed_c0 5 (q := (7, .ireturn, 1)) rfl
def dl_X3_draw_c0 : List (Nat × Instr × Nat) := [(0, .iload_n 1, 1), (1, .ifCond .le 16, 3), (4, .iload_n 0, 1), (5, .ldc 202, 2), (7, .iand, 1), (8, .sipush 256, 3), (11, .idiv, 1), (12, .iload_n 1, 1), (13, .irem, 1), (14, .goto 4, 3), (17, .iconst 0, 1), (18, .ireturn, 1)]
set_option maxRecDepth 100000 in
theorem dm_X3_draw_c0 : dl_X3_draw_c0.all (fun q => decide (decode cX3_draw q.1 = .ok q.2)) = true := by decide +kernel
theorem dX3_draw_0 : decode cX3_draw 0 = .ok (.iload_n 1, 1) := d_of dm_X3_draw_c0 0 (q := (0, .iload_n 1, 1)) rfl
theorem dX3_draw_1 : decode cX3_draw 1 = .ok (.ifCond .le 16, 3) := d_of dm_X3_draw_c0 1 (q := (1, .ifCond .le 16, 3)) rfl
theorem dX3_draw_4 : decode cX3_draw 4 = .ok (.iload_n 0, 1) := d_of dm_X3_draw_c0 2 (q := (4, .iload_n 0, 1)) rfl
theorem dX3_draw_5 : decode cX3_draw 5 = .ok (.ldc 202, 2) := d_of dm_X3_draw_c0 3 (q := (5, .ldc 202, 2)) rfl
theorem dX3_draw_7 : decode cX3_draw 7 = .ok (.iand, 1) := d_of dm_X3_draw_c0 4 (q := (7, .iand, 1)) rfl
theorem dX3_draw_8 : decode cX3_draw 8 = .ok (.sipush 256, 3) := d_of dm_X3_draw_c0 5 (q := (8, .sipush 256, 3)) rfl
theorem dX3_draw_11 : decode cX3_draw 11 = .ok (.idiv, 1) := d_of dm_X3_draw_c0 6 (q := (11, .idiv, 1)) rfl
theorem dX3_draw_12 : decode cX3_draw 12 = .ok (.iload_n 1, 1) := d_of dm_X3_draw_c0 7 (q := (12, .iload_n 1, 1)) rfl
theorem dX3_draw_13 : decode cX3_draw 13 = .ok (.irem, 1) := d_of dm_X3_draw_c0 8 (q := (13, .irem, 1)) rfl
theorem dX3_draw_14 : decode cX3_draw 14 = .ok (.goto 4, 3) := d_of dm_X3_draw_c0 9 (q := (14, .goto 4, 3)) rfl
theorem dX3_draw_17 : decode cX3_draw 17 = .ok (.iconst 0, 1) := d_of dm_X3_draw_c0 10 (q := (17, .iconst 0, 1)) rfl
theorem dX3_draw_18 : decode cX3_draw 18 = .ok (.ireturn, 1) := d_of dm_X3_draw_c0 11 (q := (18, .ireturn, 1)) rfl
def dl_X4_init_c0 : List (Nat × Instr × Nat) := [(0, .aload_n 0, 1), (1, .invokespecial 1, 3), (4, .aload_n 0, 1), (5, .bipush 10, 2), (7, .newarray .int, 2), (9, .putfield 7, 3), (12, .aload_n 0, 1), (13, .bipush 10, 2), (15, .newarray .int, 2), (17, .putfield 13, 3), (20, .aload_n 0, 1), (21, .bipush 8, 2), (23, .newarray .int, 2), (25, .putfield 16, 3), (28, .aload_n 0, 1), (29, .bipush 8, 2), (31, .newarray .int, 2), (33, .putfield 19, 3), (36, .aload_n 0, 1), (37, .bipush 8, 2), (39, .newarray .int, 2), (41, .putfield 22, 3), (44, .aload_n 0, 1), (45, .bipush 8, 2), (47, .newarray .int, 2)]
set_option maxRecDepth 100000 in
theorem dm_X4_init_c0 : dl_X4_init_c0.all (fun q => decide (decode cX4_init q.1 = .ok q.2)) = true := by decide +kernel
theorem dX4_init_0 : decode cX4_init 0 = .ok (.aload_n 0, 1) := d_of dm_X4_init_c0 0 (q := (0, .aload_n 0, 1)) rfl
theorem dX4_init_1 : decode cX4_init 1 = .ok (.invokespecial 1, 3) := d_of dm_X4_init_c0 1 (q := (1, .invokespecial 1, 3)) rfl
theorem dX4_init_4 : decode cX4_init 4 = .ok (.aload_n 0, 1) := d_of dm_X4_init_c0 2 (q := (4, .aload_n 0, 1)) rfl
theorem dX4_init_5 : decode cX4_init 5 = .ok (.bipush 10, 2) := d_of dm_X4_init_c0 3 (q := (5, .bipush 10, 2)) rfl
theorem dX4_init_7 : decode cX4_init 7 = .ok (.newarray .int, 2) := d_of dm_X4_init_c0 4 (q := (7, .newarray .int, 2)) rfl
theorem dX4_init_9 : decode cX4_init 9 = .ok (.putfield 7, 3) := d_of dm_X4_init_c0 5 (q := (9, .putfield 7, 3)) rfl
theorem dX4_init_12 : decode cX4_init 12 = .ok (.aload_n 0, 1) := d_of dm_X4_init_c0 6 (q := (12, .aload_n 0, 1)) rfl
theorem dX4_init_13 : decode cX4_init 13 = .ok (.bipush 10, 2) := d_of dm_X4_init_c0 7 (q := (13, .bipush 10, 2)) rfl
theorem dX4_init_15 : decode cX4_init 15 = .ok (.newarray .int, 2) := d_of dm_X4_init_c0 8 (q := (15, .newarray .int, 2)) rfl
theorem dX4_init_17 : decode cX4_init 17 = .ok (.putfield 13, 3) := d_of dm_X4_init_c0 9 (q := (17, .putfield 13, 3)) rfl
theorem dX4_init_20 : decode cX4_init 20 = .ok (.aload_n 0, 1) := d_of dm_X4_init_c0 10 (q := (20, .aload_n 0, 1)) rfl
theorem dX4_init_21 : decode cX4_init 21 = .ok (.bipush 8, 2) := d_of dm_X4_init_c0 11 (q := (21, .bipush 8, 2)) rfl
theorem dX4_init_23 : decode cX4_init 23 = .ok (.newarray .int, 2) := d_of dm_X4_init_c0 12 (q := (23, .newarray .int, 2)) rfl
theorem dX4_init_25 : decode cX4_init 25 = .ok (.putfield 16, 3) := d_of dm_X4_init_c0 13 (q := (25, .putfield 16, 3)) rfl
theorem dX4_init_28 : decode cX4_init 28 = .ok (.aload_n 0, 1) := d_of dm_X4_init_c0 14 (q := (28, .aload_n 0, 1)) rfl
theorem dX4_init_29 : decode cX4_init 29 = .ok (.bipush 8, 2) := d_of dm_X4_init_c0 15 (q := (29, .bipush 8, 2)) rfl
theorem dX4_init_31 : decode cX4_init 31 = .ok (.newarray .int, 2) := d_of dm_X4_init_c0 16 (q := (31, .newarray .int, 2)) rfl
theorem dX4_init_33 : decode cX4_init 33 = .ok (.putfield 19, 3) := d_of dm_X4_init_c0 17 (q := (33, .putfield 19, 3)) rfl
theorem dX4_init_36 : decode cX4_init 36 = .ok (.aload_n 0, 1) := d_of dm_X4_init_c0 18 (q := (36, .aload_n 0, 1)) rfl
theorem dX4_init_37 : decode cX4_init 37 = .ok (.bipush 8, 2) := d_of dm_X4_init_c0 19 (q := (37, .bipush 8, 2)) rfl
theorem dX4_init_39 : decode cX4_init 39 = .ok (.newarray .int, 2) := d_of dm_X4_init_c0 20 (q := (39, .newarray .int, 2)) rfl
theorem dX4_init_41 : decode cX4_init 41 = .ok (.putfield 22, 3) := d_of dm_X4_init_c0 21 (q := (41, .putfield 22, 3)) rfl
theorem dX4_init_44 : decode cX4_init 44 = .ok (.aload_n 0, 1) := d_of dm_X4_init_c0 22 (q := (44, .aload_n 0, 1)) rfl
theorem dX4_init_45 : decode cX4_init 45 = .ok (.bipush 8, 2) := d_of dm_X4_init_c0 23 (q := (45, .bipush 8, 2)) rfl
theorem dX4_init_47 : decode cX4_init 47 = .ok (.newarray .int, 2) := d_of dm_X4_init_c0 24 (q := (47, .newarray .int, 2)) rfl
def dl_X4_init_c25 : List (Nat × Instr × Nat) := [(49, .putfield 25, 3), (52, .aload_n 0, 1), (53, .bipush 80, 2), (55, .newarray .int, 2), (57, .putfield 28, 3), (60, .aload_n 0, 1), (61, .iconst 2, 1), (62, .newarray .int, 2), (64, .putfield 31, 3), (67, .aload_n 0, 1), (68, .bipush 12, 2), (70, .newarray .int, 2), (72, .putfield 34, 3), (75, .aload_n 0, 1), (76, .bipush 7, 2), (78, .newarray .int, 2), (80, .putfield 37, 3), (83, .aload_n 0, 1), (84, .bipush 57, 2), (86, .newarray .int, 2), (88, .putfield 40, 3), (91, .aload_n 0, 1), (92, .bipush 57, 2), (94, .newarray .int, 2), (96, .putfield 43, 3)]
set_option maxRecDepth 100000 in
theorem dm_X4_init_c25 : dl_X4_init_c25.all (fun q => decide (decode cX4_init q.1 = .ok q.2)) = true := by decide +kernel
theorem dX4_init_49 : decode cX4_init 49 = .ok (.putfield 25, 3) := d_of dm_X4_init_c25 0 (q := (49, .putfield 25, 3)) rfl
theorem dX4_init_52 : decode cX4_init 52 = .ok (.aload_n 0, 1) := d_of dm_X4_init_c25 1 (q := (52, .aload_n 0, 1)) rfl
theorem dX4_init_53 : decode cX4_init 53 = .ok (.bipush 80, 2) := d_of dm_X4_init_c25 2 (q := (53, .bipush 80, 2)) rfl
theorem dX4_init_55 : decode cX4_init 55 = .ok (.newarray .int, 2) := d_of dm_X4_init_c25 3 (q := (55, .newarray .int, 2)) rfl
theorem dX4_init_57 : decode cX4_init 57 = .ok (.putfield 28, 3) := d_of dm_X4_init_c25 4 (q := (57, .putfield 28, 3)) rfl
theorem dX4_init_60 : decode cX4_init 60 = .ok (.aload_n 0, 1) := d_of dm_X4_init_c25 5 (q := (60, .aload_n 0, 1)) rfl
theorem dX4_init_61 : decode cX4_init 61 = .ok (.iconst 2, 1) := d_of dm_X4_init_c25 6 (q := (61, .iconst 2, 1)) rfl
theorem dX4_init_62 : decode cX4_init 62 = .ok (.newarray .int, 2) := d_of dm_X4_init_c25 7 (q := (62, .newarray .int, 2)) rfl
theorem dX4_init_64 : decode cX4_init 64 = .ok (.putfield 31, 3) := d_of dm_X4_init_c25 8 (q := (64, .putfield 31, 3)) rfl
theorem dX4_init_67 : decode cX4_init 67 = .ok (.aload_n 0, 1) := d_of dm_X4_init_c25 9 (q := (67, .aload_n 0, 1)) rfl
theorem dX4_init_68 : decode cX4_init 68 = .ok (.bipush 12, 2) := d_of dm_X4_init_c25 10 (q := (68, .bipush 12, 2)) rfl
theorem dX4_init_70 : decode cX4_init 70 = .ok (.newarray .int, 2) := d_of dm_X4_init_c25 11 (q := (70, .newarray .int, 2)) rfl
theorem dX4_init_72 : decode cX4_init 72 = .ok (.putfield 34, 3) := d_of dm_X4_init_c25 12 (q := (72, .putfield 34, 3)) rfl
theorem dX4_init_75 : decode cX4_init 75 = .ok (.aload_n 0, 1) := d_of dm_X4_init_c25 13 (q := (75, .aload_n 0, 1)) rfl
theorem dX4_init_76 : decode cX4_init 76 = .ok (.bipush 7, 2) := d_of dm_X4_init_c25 14 (q := (76, .bipush 7, 2)) rfl
theorem dX4_init_78 : decode cX4_init 78 = .ok (.newarray .int, 2) := d_of dm_X4_init_c25 15 (q := (78, .newarray .int, 2)) rfl
theorem dX4_init_80 : decode cX4_init 80 = .ok (.putfield 37, 3) := d_of dm_X4_init_c25 16 (q := (80, .putfield 37, 3)) rfl
theorem dX4_init_83 : decode cX4_init 83 = .ok (.aload_n 0, 1) := d_of dm_X4_init_c25 17 (q := (83, .aload_n 0, 1)) rfl
theorem dX4_init_84 : decode cX4_init 84 = .ok (.bipush 57, 2) := d_of dm_X4_init_c25 18 (q := (84, .bipush 57, 2)) rfl
theorem dX4_init_86 : decode cX4_init 86 = .ok (.newarray .int, 2) := d_of dm_X4_init_c25 19 (q := (86, .newarray .int, 2)) rfl
theorem dX4_init_88 : decode cX4_init 88 = .ok (.putfield 40, 3) := d_of dm_X4_init_c25 20 (q := (88, .putfield 40, 3)) rfl
theorem dX4_init_91 : decode cX4_init 91 = .ok (.aload_n 0, 1) := d_of dm_X4_init_c25 21 (q := (91, .aload_n 0, 1)) rfl
theorem dX4_init_92 : decode cX4_init 92 = .ok (.bipush 57, 2) := d_of dm_X4_init_c25 22 (q := (92, .bipush 57, 2)) rfl
theorem dX4_init_94 : decode cX4_init 94 = .ok (.newarray .int, 2) := d_of dm_X4_init_c25 23 (q := (94, .newarray .int, 2)) rfl
theorem dX4_init_96 : decode cX4_init 96 = .ok (.putfield 43, 3) := d_of dm_X4_init_c25 24 (q := (96, .putfield 43, 3)) rfl
def dl_X4_init_c50 : List (Nat × Instr × Nat) := [(99, .aload_n 0, 1), (100, .bipush 8, 2), (102, .newarray .int, 2), (104, .putfield 46, 3), (107, .aload_n 0, 1), (108, .sipush 256, 3), (111, .newarray .int, 2), (113, .putfield 49, 3), (116, .return_, 1)]
set_option maxRecDepth 100000 in
theorem dm_X4_init_c50 : dl_X4_init_c50.all (fun q => decide (decode cX4_init q.1 = .ok q.2)) = true := by decide +kernel
theorem dX4_init_99 : decode cX4_init 99 = .ok (.aload_n 0, 1) := d_of dm_X4_init_c50 0 (q := (99, .aload_n 0, 1)) rfl
theorem dX4_init_100 : decode cX4_init 100 = .ok (.bipush 8, 2) := d_of dm_X4_init_c50 1 (q := (100, .bipush 8, 2)) rfl
theorem dX4_init_102 : decode cX4_init 102 = .ok (.newarray .int, 2) := d_of dm_X4_init_c50 2 (q := (102, .newarray .int, 2)) rfl
theorem dX4_init_104 : decode cX4_init 104 = .ok (.putfield 46, 3) := d_of dm_X4_init_c50 3 (q := (104, .putfield 46, 3)) rfl
theorem dX4_init_107 : decode cX4_init 107 = .ok (.aload_n 0, 1) := d_of dm_X4_init_c50 4 (q := (107, .aload_n 0, 1)) rfl
theorem dX4_init_108 : decode cX4_init 108 = .ok (.sipush 256, 3) := d_of dm_X4_init_c50 5 (q := (108, .sipush 256, 3)) rfl
theorem dX4_init_111 : decode cX4_init 111 = .ok (.newarray .int, 2) := d_of dm_X4_init_c50 6 (q := (111, .newarray .int, 2)) rfl
theorem dX4_init_113 : decode cX4_init 113 = .ok (.putfield 49, 3) := d_of dm_X4_init_c50 7 (q := (113, .putfield 49, 3)) rfl
theorem dX4_init_116 : decode cX4_init 116 = .ok (.return_, 1) := d_of dm_X4_init_c50 8 (q := (116, .return_, 1)) rfl
def dl_X4_no_c0 : List (Nat × Instr × Nat) := [(0, .aload_n 0, 1), (1, .getfield 37, 3), (4, .iload_n 1, 1), (5, .ineg, 1), (6, .dup2, 1), (7, .iaload, 1), (8, .iconst 1, 1), (9, .iadd, 1), (10, .iastore, 1), (11, .iload_n 1, 1), (12, .ireturn, 1)]
set_option maxRecDepth 100000 in
theorem dm_X4_no_c0 : dl_X4_no_c0.all (fun q => decide (decode cX4_no q.1 = .ok q.2)) = true := by decide +kernel
theorem dX4_no_0 : decode cX4_no 0 = .ok (.aload_n 0, 1) := d_of dm_X4_no_c0 0 (q := (0, .aload_n 0, 1)) rfl
theorem dX4_no_1 : decode cX4_no 1 = .ok (.getfield 37, 3) := d_of dm_X4_no_c0 1 (q := (1, .getfield 37, 3)) rfl
theorem dX4_no_4 : decode cX4_no 4 = .ok (.iload_n 1, 1) := d_of dm_X4_no_c0 2 (q := (4, .iload_n 1, 1)) rfl
theorem dX4_no_5 : decode cX4_no 5 = .ok (.ineg, 1) := d_of dm_X4_no_c0 3 (q := (5, .ineg, 1)) rfl
theorem dX4_no_6 : decode cX4_no 6 = .ok (.dup2, 1) := d_of dm_X4_no_c0 4 (q := (6, .dup2, 1)) rfl
theorem dX4_no_7 : decode cX4_no 7 = .ok (.iaload, 1) := d_of dm_X4_no_c0 5 (q := (7, .iaload, 1)) rfl
theorem dX4_no_8 : decode cX4_no 8 = .ok (.iconst 1, 1) := d_of dm_X4_no_c0 6 (q := (8, .iconst 1, 1)) rfl
theorem dX4_no_9 : decode cX4_no 9 = .ok (.iadd, 1) := d_of dm_X4_no_c0 7 (q := (9, .iadd, 1)) rfl
theorem dX4_no_10 : decode cX4_no 10 = .ok (.iastore, 1) := d_of dm_X4_no_c0 8 (q := (10, .iastore, 1)) rfl
theorem dX4_no_11 : decode cX4_no 11 = .ok (.iload_n 1, 1) := d_of dm_X4_no_c0 9 (q := (11, .iload_n 1, 1)) rfl
theorem dX4_no_12 : decode cX4_no 12 = .ok (.ireturn, 1) := d_of dm_X4_no_c0 10 (q := (12, .ireturn, 1)) rfl
def dl_X4_within_c0 : List (Nat × Instr × Nat) := [(0, .iload_n 0, 1), (1, .iload_n 1, 1), (2, .if_icmp .lt 12, 3), (5, .iload_n 0, 1), (6, .iload_n 2, 1), (7, .if_icmp .gt 7, 3), (10, .iconst 1, 1), (11, .goto 4, 3), (14, .iconst 0, 1), (15, .ireturn, 1)]
set_option maxRecDepth 100000 in
theorem dm_X4_within_c0 : dl_X4_within_c0.all (fun q => decide (decode cX4_within q.1 = .ok q.2)) = true := by decide +kernel
theorem dX4_within_0 : decode cX4_within 0 = .ok (.iload_n 0, 1) := d_of dm_X4_within_c0 0 (q := (0, .iload_n 0, 1)) rfl
theorem dX4_within_1 : decode cX4_within 1 = .ok (.iload_n 1, 1) := d_of dm_X4_within_c0 1 (q := (1, .iload_n 1, 1)) rfl
theorem dX4_within_2 : decode cX4_within 2 = .ok (.if_icmp .lt 12, 3) := d_of dm_X4_within_c0 2 (q := (2, .if_icmp .lt 12, 3)) rfl
theorem dX4_within_5 : decode cX4_within 5 = .ok (.iload_n 0, 1) := d_of dm_X4_within_c0 3 (q := (5, .iload_n 0, 1)) rfl
theorem dX4_within_6 : decode cX4_within 6 = .ok (.iload_n 2, 1) := d_of dm_X4_within_c0 4 (q := (6, .iload_n 2, 1)) rfl
theorem dX4_within_7 : decode cX4_within 7 = .ok (.if_icmp .gt 7, 3) := d_of dm_X4_within_c0 5 (q := (7, .if_icmp .gt 7, 3)) rfl
theorem dX4_within_10 : decode cX4_within 10 = .ok (.iconst 1, 1) := d_of dm_X4_within_c0 6 (q := (10, .iconst 1, 1)) rfl
theorem dX4_within_11 : decode cX4_within 11 = .ok (.goto 4, 3) := d_of dm_X4_within_c0 7 (q := (11, .goto 4, 3)) rfl
theorem dX4_within_14 : decode cX4_within 14 = .ok (.iconst 0, 1) := d_of dm_X4_within_c0 8 (q := (14, .iconst 0, 1)) rfl
theorem dX4_within_15 : decode cX4_within 15 = .ok (.ireturn, 1) := d_of dm_X4_within_c0 9 (q := (15, .ireturn, 1)) rfl
def dl_X4_has_c0 : List (Nat × Instr × Nat) := [(0, .iload_n 0, 1), (1, .iload_n 1, 1), (2, .ishr, 1), (3, .iconst 1, 1), (4, .iand, 1), (5, .iconst 1, 1), (6, .if_icmp .ne 7, 3), (9, .iconst 1, 1), (10, .goto 4, 3), (13, .iconst 0, 1), (14, .ireturn, 1)]
set_option maxRecDepth 100000 in
theorem dm_X4_has_c0 : dl_X4_has_c0.all (fun q => decide (decode cX4_has q.1 = .ok q.2)) = true := by decide +kernel
theorem dX4_has_0 : decode cX4_has 0 = .ok (.iload_n 0, 1) := d_of dm_X4_has_c0 0 (q := (0, .iload_n 0, 1)) rfl
theorem dX4_has_1 : decode cX4_has 1 = .ok (.iload_n 1, 1) := d_of dm_X4_has_c0 1 (q := (1, .iload_n 1, 1)) rfl
theorem dX4_has_2 : decode cX4_has 2 = .ok (.ishr, 1) := d_of dm_X4_has_c0 2 (q := (2, .ishr, 1)) rfl
theorem dX4_has_3 : decode cX4_has 3 = .ok (.iconst 1, 1) := d_of dm_X4_has_c0 3 (q := (3, .iconst 1, 1)) rfl
theorem dX4_has_4 : decode cX4_has 4 = .ok (.iand, 1) := d_of dm_X4_has_c0 4 (q := (4, .iand, 1)) rfl
theorem dX4_has_5 : decode cX4_has 5 = .ok (.iconst 1, 1) := d_of dm_X4_has_c0 5 (q := (5, .iconst 1, 1)) rfl
theorem dX4_has_6 : decode cX4_has 6 = .ok (.if_icmp .ne 7, 3) := d_of dm_X4_has_c0 6 (q := (6, .if_icmp .ne 7, 3)) rfl
theorem dX4_has_9 : decode cX4_has 9 = .ok (.iconst 1, 1) := d_of dm_X4_has_c0 7 (q := (9, .iconst 1, 1)) rfl
theorem dX4_has_10 : decode cX4_has 10 = .ok (.goto 4, 3) := d_of dm_X4_has_c0 8 (q := (10, .goto 4, 3)) rfl
theorem dX4_has_13 : decode cX4_has 13 = .ok (.iconst 0, 1) := d_of dm_X4_has_c0 9 (q := (13, .iconst 0, 1)) rfl
theorem dX4_has_14 : decode cX4_has 14 = .ok (.ireturn, 1) := d_of dm_X4_has_c0 10 (q := (14, .ireturn, 1)) rfl
def dl_X4_isThing_c0 : List (Nat × Instr × Nat) := [(0, .iload_n 1, 1), (1, .iconst 0, 1), (2, .aload_n 0, 1), (3, .getfield 52, 3), (6, .iconst 1, 1), (7, .isub, 1), (8, .invokestatic 56, 3), (11, .ireturn, 1)]
set_option maxRecDepth 100000 in
theorem dm_X4_isThing_c0 : dl_X4_isThing_c0.all (fun q => decide (decode cX4_isThing q.1 = .ok q.2)) = true := by decide +kernel
theorem dX4_isThing_0 : decode cX4_isThing 0 = .ok (.iload_n 1, 1) := d_of dm_X4_isThing_c0 0 (q := (0, .iload_n 1, 1)) rfl
theorem dX4_isThing_1 : decode cX4_isThing 1 = .ok (.iconst 0, 1) := d_of dm_X4_isThing_c0 1 (q := (1, .iconst 0, 1)) rfl
theorem dX4_isThing_2 : decode cX4_isThing 2 = .ok (.aload_n 0, 1) := d_of dm_X4_isThing_c0 2 (q := (2, .aload_n 0, 1)) rfl
theorem dX4_isThing_3 : decode cX4_isThing 3 = .ok (.getfield 52, 3) := d_of dm_X4_isThing_c0 3 (q := (3, .getfield 52, 3)) rfl
theorem dX4_isThing_6 : decode cX4_isThing 6 = .ok (.iconst 1, 1) := d_of dm_X4_isThing_c0 4 (q := (6, .iconst 1, 1)) rfl
theorem dX4_isThing_7 : decode cX4_isThing 7 = .ok (.isub, 1) := d_of dm_X4_isThing_c0 5 (q := (7, .isub, 1)) rfl
theorem dX4_isThing_8 : decode cX4_isThing 8 = .ok (.invokestatic 56, 3) := d_of dm_X4_isThing_c0 6 (q := (8, .invokestatic 56, 3)) rfl
theorem dX4_isThing_11 : decode cX4_isThing 11 = .ok (.ireturn, 1) := d_of dm_X4_isThing_c0 7 (q := (11, .ireturn, 1)) rfl
def dl_X4_isLine_c0 : List (Nat × Instr × Nat) := [(0, .iload_n 1, 1), (1, .iconst 0, 1), (2, .aload_n 0, 1), (3, .getfield 60, 3), (6, .iconst 1, 1), (7, .isub, 1), (8, .invokestatic 56, 3), (11, .ireturn, 1)]
set_option maxRecDepth 100000 in
theorem dm_X4_isLine_c0 : dl_X4_isLine_c0.all (fun q => decide (decode cX4_isLine q.1 = .ok q.2)) = true := by decide +kernel
theorem dX4_isLine_0 : decode cX4_isLine 0 = .ok (.iload_n 1, 1) := d_of dm_X4_isLine_c0 0 (q := (0, .iload_n 1, 1)) rfl
theorem dX4_isLine_1 : decode cX4_isLine 1 = .ok (.iconst 0, 1) := d_of dm_X4_isLine_c0 1 (q := (1, .iconst 0, 1)) rfl
theorem dX4_isLine_2 : decode cX4_isLine 2 = .ok (.aload_n 0, 1) := d_of dm_X4_isLine_c0 2 (q := (2, .aload_n 0, 1)) rfl
theorem dX4_isLine_3 : decode cX4_isLine 3 = .ok (.getfield 60, 3) := d_of dm_X4_isLine_c0 3 (q := (3, .getfield 60, 3)) rfl
theorem dX4_isLine_6 : decode cX4_isLine 6 = .ok (.iconst 1, 1) := d_of dm_X4_isLine_c0 4 (q := (6, .iconst 1, 1)) rfl
theorem dX4_isLine_7 : decode cX4_isLine 7 = .ok (.isub, 1) := d_of dm_X4_isLine_c0 5 (q := (7, .isub, 1)) rfl
theorem dX4_isLine_8 : decode cX4_isLine 8 = .ok (.invokestatic 56, 3) := d_of dm_X4_isLine_c0 6 (q := (8, .invokestatic 56, 3)) rfl
theorem dX4_isLine_11 : decode cX4_isLine 11 = .ok (.ireturn, 1) := d_of dm_X4_isLine_c0 7 (q := (11, .ireturn, 1)) rfl
def dl_X4_isRoom_c0 : List (Nat × Instr × Nat) := [(0, .iload_n 0, 1), (1, .iconst 0, 1), (2, .iconst 5, 1), (3, .invokestatic 56, 3), (6, .ireturn, 1)]
set_option maxRecDepth 100000 in
theorem dm_X4_isRoom_c0 : dl_X4_isRoom_c0.all (fun q => decide (decode cX4_isRoom q.1 = .ok q.2)) = true := by decide +kernel
theorem dX4_isRoom_0 : decode cX4_isRoom 0 = .ok (.iload_n 0, 1) := d_of dm_X4_isRoom_c0 0 (q := (0, .iload_n 0, 1)) rfl
theorem dX4_isRoom_1 : decode cX4_isRoom 1 = .ok (.iconst 0, 1) := d_of dm_X4_isRoom_c0 1 (q := (1, .iconst 0, 1)) rfl
theorem dX4_isRoom_2 : decode cX4_isRoom 2 = .ok (.iconst 5, 1) := d_of dm_X4_isRoom_c0 2 (q := (2, .iconst 5, 1)) rfl
theorem dX4_isRoom_3 : decode cX4_isRoom 3 = .ok (.invokestatic 56, 3) := d_of dm_X4_isRoom_c0 3 (q := (3, .invokestatic 56, 3)) rfl
theorem dX4_isRoom_6 : decode cX4_isRoom 6 = .ok (.ireturn, 1) := d_of dm_X4_isRoom_c0 4 (q := (6, .ireturn, 1)) rfl
def dl_X4_letter_c0 : List (Nat × Instr × Nat) := [(0, .iload_n 1, 1), (1, .ifCond .ge 10, 3), (4, .aload_n 0, 1), (5, .bipush (-4), 2), (7, .invokevirtual 63, 3), (10, .ireturn, 1), (11, .iload_n 1, 1), (12, .sipush 255, 3), (15, .if_icmp .gt 12, 3), (18, .aload_n 0, 1), (19, .getfield 67, 3), (22, .bipush 80, 2), (24, .if_icmp .ne 10, 3), (27, .aload_n 0, 1), (28, .bipush (-6), 2), (30, .invokevirtual 63, 3), (33, .ireturn, 1), (34, .aload_n 0, 1), (35, .getfield 28, 3), (38, .aload_n 0, 1), (39, .dup, 1), (40, .getfield 67, 3), (43, .dup_x1, 1), (44, .iconst 1, 1), (45, .iadd, 1)]
set_option maxRecDepth 100000 in
theorem dm_X4_letter_c0 : dl_X4_letter_c0.all (fun q => decide (decode cX4_letter q.1 = .ok q.2)) = true := by decide +kernel
theorem dX4_letter_0 : decode cX4_letter 0 = .ok (.iload_n 1, 1) := d_of dm_X4_letter_c0 0 (q := (0, .iload_n 1, 1)) rfl
theorem dX4_letter_1 : decode cX4_letter 1 = .ok (.ifCond .ge 10, 3) := d_of dm_X4_letter_c0 1 (q := (1, .ifCond .ge 10, 3)) rfl
theorem dX4_letter_4 : decode cX4_letter 4 = .ok (.aload_n 0, 1) := d_of dm_X4_letter_c0 2 (q := (4, .aload_n 0, 1)) rfl
theorem dX4_letter_5 : decode cX4_letter 5 = .ok (.bipush (-4), 2) := d_of dm_X4_letter_c0 3 (q := (5, .bipush (-4), 2)) rfl
theorem dX4_letter_7 : decode cX4_letter 7 = .ok (.invokevirtual 63, 3) := d_of dm_X4_letter_c0 4 (q := (7, .invokevirtual 63, 3)) rfl
theorem dX4_letter_10 : decode cX4_letter 10 = .ok (.ireturn, 1) := d_of dm_X4_letter_c0 5 (q := (10, .ireturn, 1)) rfl
theorem dX4_letter_11 : decode cX4_letter 11 = .ok (.iload_n 1, 1) := d_of dm_X4_letter_c0 6 (q := (11, .iload_n 1, 1)) rfl
theorem dX4_letter_12 : decode cX4_letter 12 = .ok (.sipush 255, 3) := d_of dm_X4_letter_c0 7 (q := (12, .sipush 255, 3)) rfl
theorem dX4_letter_15 : decode cX4_letter 15 = .ok (.if_icmp .gt 12, 3) := d_of dm_X4_letter_c0 8 (q := (15, .if_icmp .gt 12, 3)) rfl
theorem dX4_letter_18 : decode cX4_letter 18 = .ok (.aload_n 0, 1) := d_of dm_X4_letter_c0 9 (q := (18, .aload_n 0, 1)) rfl
theorem dX4_letter_19 : decode cX4_letter 19 = .ok (.getfield 67, 3) := d_of dm_X4_letter_c0 10 (q := (19, .getfield 67, 3)) rfl
theorem dX4_letter_22 : decode cX4_letter 22 = .ok (.bipush 80, 2) := d_of dm_X4_letter_c0 11 (q := (22, .bipush 80, 2)) rfl
theorem dX4_letter_24 : decode cX4_letter 24 = .ok (.if_icmp .ne 10, 3) := d_of dm_X4_letter_c0 12 (q := (24, .if_icmp .ne 10, 3)) rfl
theorem dX4_letter_27 : decode cX4_letter 27 = .ok (.aload_n 0, 1) := d_of dm_X4_letter_c0 13 (q := (27, .aload_n 0, 1)) rfl
theorem dX4_letter_28 : decode cX4_letter 28 = .ok (.bipush (-6), 2) := d_of dm_X4_letter_c0 14 (q := (28, .bipush (-6), 2)) rfl
theorem dX4_letter_30 : decode cX4_letter 30 = .ok (.invokevirtual 63, 3) := d_of dm_X4_letter_c0 15 (q := (30, .invokevirtual 63, 3)) rfl
theorem dX4_letter_33 : decode cX4_letter 33 = .ok (.ireturn, 1) := d_of dm_X4_letter_c0 16 (q := (33, .ireturn, 1)) rfl
theorem dX4_letter_34 : decode cX4_letter 34 = .ok (.aload_n 0, 1) := d_of dm_X4_letter_c0 17 (q := (34, .aload_n 0, 1)) rfl
theorem dX4_letter_35 : decode cX4_letter 35 = .ok (.getfield 28, 3) := d_of dm_X4_letter_c0 18 (q := (35, .getfield 28, 3)) rfl
theorem dX4_letter_38 : decode cX4_letter 38 = .ok (.aload_n 0, 1) := d_of dm_X4_letter_c0 19 (q := (38, .aload_n 0, 1)) rfl
theorem dX4_letter_39 : decode cX4_letter 39 = .ok (.dup, 1) := d_of dm_X4_letter_c0 20 (q := (39, .dup, 1)) rfl
theorem dX4_letter_40 : decode cX4_letter 40 = .ok (.getfield 67, 3) := d_of dm_X4_letter_c0 21 (q := (40, .getfield 67, 3)) rfl
theorem dX4_letter_43 : decode cX4_letter 43 = .ok (.dup_x1, 1) := d_of dm_X4_letter_c0 22 (q := (43, .dup_x1, 1)) rfl
theorem dX4_letter_44 : decode cX4_letter 44 = .ok (.iconst 1, 1) := d_of dm_X4_letter_c0 23 (q := (44, .iconst 1, 1)) rfl
theorem dX4_letter_45 : decode cX4_letter 45 = .ok (.iadd, 1) := d_of dm_X4_letter_c0 24 (q := (45, .iadd, 1)) rfl
def dl_X4_letter_c25 : List (Nat × Instr × Nat) := [(46, .putfield 67, 3), (49, .iload_n 1, 1), (50, .iastore, 1), (51, .aload_n 0, 1), (52, .getfield 67, 3), (55, .ireturn, 1)]
set_option maxRecDepth 100000 in
theorem dm_X4_letter_c25 : dl_X4_letter_c25.all (fun q => decide (decode cX4_letter q.1 = .ok q.2)) = true := by decide +kernel
theorem dX4_letter_46 : decode cX4_letter 46 = .ok (.putfield 67, 3) := d_of dm_X4_letter_c25 0 (q := (46, .putfield 67, 3)) rfl
theorem dX4_letter_49 : decode cX4_letter 49 = .ok (.iload_n 1, 1) := d_of dm_X4_letter_c25 1 (q := (49, .iload_n 1, 1)) rfl
theorem dX4_letter_50 : decode cX4_letter 50 = .ok (.iastore, 1) := d_of dm_X4_letter_c25 2 (q := (50, .iastore, 1)) rfl
theorem dX4_letter_51 : decode cX4_letter 51 = .ok (.aload_n 0, 1) := d_of dm_X4_letter_c25 3 (q := (51, .aload_n 0, 1)) rfl
theorem dX4_letter_52 : decode cX4_letter 52 = .ok (.getfield 67, 3) := d_of dm_X4_letter_c25 4 (q := (52, .getfield 67, 3)) rfl
theorem dX4_letter_55 : decode cX4_letter 55 = .ok (.ireturn, 1) := d_of dm_X4_letter_c25 5 (q := (55, .ireturn, 1)) rfl
def dl_X4_is_c0 : List (Nat × Instr × Nat) := [(0, .aload_n 0, 1), (1, .getfield 70, 3), (4, .aload_n 0, 1), (5, .getfield 67, 3), (8, .if_icmp .eq 16, 3), (11, .aload_n 0, 1), (12, .getfield 28, 3), (15, .aload_n 0, 1), (16, .getfield 70, 3), (19, .iaload, 1), (20, .iload_n 1, 1), (21, .if_icmp .eq 5, 3), (24, .iconst 0, 1), (25, .ireturn, 1), (26, .aload_n 0, 1), (27, .dup, 1), (28, .getfield 70, 3), (31, .iconst 1, 1), (32, .iadd, 1), (33, .putfield 70, 3), (36, .iconst 1, 1), (37, .ireturn, 1)]
set_option maxRecDepth 100000 in
theorem dm_X4_is_c0 : dl_X4_is_c0.all (fun q => decide (decode cX4_is q.1 = .ok q.2)) = true := by decide +kernel
theorem dX4_is_0 : decode cX4_is 0 = .ok (.aload_n 0, 1) := d_of dm_X4_is_c0 0 (q := (0, .aload_n 0, 1)) rfl
theorem dX4_is_1 : decode cX4_is 1 = .ok (.getfield 70, 3) := d_of dm_X4_is_c0 1 (q := (1, .getfield 70, 3)) rfl
theorem dX4_is_4 : decode cX4_is 4 = .ok (.aload_n 0, 1) := d_of dm_X4_is_c0 2 (q := (4, .aload_n 0, 1)) rfl
theorem dX4_is_5 : decode cX4_is 5 = .ok (.getfield 67, 3) := d_of dm_X4_is_c0 3 (q := (5, .getfield 67, 3)) rfl
theorem dX4_is_8 : decode cX4_is 8 = .ok (.if_icmp .eq 16, 3) := d_of dm_X4_is_c0 4 (q := (8, .if_icmp .eq 16, 3)) rfl
theorem dX4_is_11 : decode cX4_is 11 = .ok (.aload_n 0, 1) := d_of dm_X4_is_c0 5 (q := (11, .aload_n 0, 1)) rfl
theorem dX4_is_12 : decode cX4_is 12 = .ok (.getfield 28, 3) := d_of dm_X4_is_c0 6 (q := (12, .getfield 28, 3)) rfl
theorem dX4_is_15 : decode cX4_is 15 = .ok (.aload_n 0, 1) := d_of dm_X4_is_c0 7 (q := (15, .aload_n 0, 1)) rfl
theorem dX4_is_16 : decode cX4_is 16 = .ok (.getfield 70, 3) := d_of dm_X4_is_c0 8 (q := (16, .getfield 70, 3)) rfl
theorem dX4_is_19 : decode cX4_is 19 = .ok (.iaload, 1) := d_of dm_X4_is_c0 9 (q := (19, .iaload, 1)) rfl
theorem dX4_is_20 : decode cX4_is 20 = .ok (.iload_n 1, 1) := d_of dm_X4_is_c0 10 (q := (20, .iload_n 1, 1)) rfl
theorem dX4_is_21 : decode cX4_is 21 = .ok (.if_icmp .eq 5, 3) := d_of dm_X4_is_c0 11 (q := (21, .if_icmp .eq 5, 3)) rfl
theorem dX4_is_24 : decode cX4_is 24 = .ok (.iconst 0, 1) := d_of dm_X4_is_c0 12 (q := (24, .iconst 0, 1)) rfl
theorem dX4_is_25 : decode cX4_is 25 = .ok (.ireturn, 1) := d_of dm_X4_is_c0 13 (q := (25, .ireturn, 1)) rfl
theorem dX4_is_26 : decode cX4_is 26 = .ok (.aload_n 0, 1) := d_of dm_X4_is_c0 14 (q := (26, .aload_n 0, 1)) rfl
theorem dX4_is_27 : decode cX4_is 27 = .ok (.dup, 1) := d_of dm_X4_is_c0 15 (q := (27, .dup, 1)) rfl
theorem dX4_is_28 : decode cX4_is 28 = .ok (.getfield 70, 3) := d_of dm_X4_is_c0 16 (q := (28, .getfield 70, 3)) rfl
theorem dX4_is_31 : decode cX4_is 31 = .ok (.iconst 1, 1) := d_of dm_X4_is_c0 17 (q := (31, .iconst 1, 1)) rfl
theorem dX4_is_32 : decode cX4_is 32 = .ok (.iadd, 1) := d_of dm_X4_is_c0 18 (q := (32, .iadd, 1)) rfl
theorem dX4_is_33 : decode cX4_is 33 = .ok (.putfield 70, 3) := d_of dm_X4_is_c0 19 (q := (33, .putfield 70, 3)) rfl
theorem dX4_is_36 : decode cX4_is 36 = .ok (.iconst 1, 1) := d_of dm_X4_is_c0 20 (q := (36, .iconst 1, 1)) rfl
theorem dX4_is_37 : decode cX4_is 37 = .ok (.ireturn, 1) := d_of dm_X4_is_c0 21 (q := (37, .ireturn, 1)) rfl
def dl_X4_digit_c0 : List (Nat × Instr × Nat) := [(0, .aload_n 0, 1), (1, .getfield 70, 3), (4, .aload_n 0, 1), (5, .getfield 67, 3), (8, .if_icmp .eq 31, 3), (11, .aload_n 0, 1), (12, .getfield 28, 3), (15, .aload_n 0, 1), (16, .getfield 70, 3), (19, .iaload, 1), (20, .bipush 48, 2), (22, .if_icmp .lt 17, 3), (25, .aload_n 0, 1), (26, .getfield 28, 3), (29, .aload_n 0, 1), (30, .getfield 70, 3), (33, .iaload, 1), (34, .bipush 57, 2), (36, .if_icmp .le 5, 3), (39, .iconst 0, 1), (40, .ireturn, 1), (41, .aload_n 0, 1), (42, .getfield 31, 3), (45, .iload_n 1, 1), (46, .aload_n 0, 1)]
set_option maxRecDepth 100000 in
theorem dm_X4_digit_c0 : dl_X4_digit_c0.all (fun q => decide (decode cX4_digit q.1 = .ok q.2)) = true := by decide +kernel
theorem dX4_digit_0 : decode cX4_digit 0 = .ok (.aload_n 0, 1) := d_of dm_X4_digit_c0 0 (q := (0, .aload_n 0, 1)) rfl
theorem dX4_digit_1 : decode cX4_digit 1 = .ok (.getfield 70, 3) := d_of dm_X4_digit_c0 1 (q := (1, .getfield 70, 3)) rfl
theorem dX4_digit_4 : decode cX4_digit 4 = .ok (.aload_n 0, 1) := d_of dm_X4_digit_c0 2 (q := (4, .aload_n 0, 1)) rfl
theorem dX4_digit_5 : decode cX4_digit 5 = .ok (.getfield 67, 3) := d_of dm_X4_digit_c0 3 (q := (5, .getfield 67, 3)) rfl
theorem dX4_digit_8 : decode cX4_digit 8 = .ok (.if_icmp .eq 31, 3) := d_of dm_X4_digit_c0 4 (q := (8, .if_icmp .eq 31, 3)) rfl
theorem dX4_digit_11 : decode cX4_digit 11 = .ok (.aload_n 0, 1) := d_of dm_X4_digit_c0 5 (q := (11, .aload_n 0, 1)) rfl
theorem dX4_digit_12 : decode cX4_digit 12 = .ok (.getfield 28, 3) := d_of dm_X4_digit_c0 6 (q := (12, .getfield 28, 3)) rfl
theorem dX4_digit_15 : decode cX4_digit 15 = .ok (.aload_n 0, 1) := d_of dm_X4_digit_c0 7 (q := (15, .aload_n 0, 1)) rfl
theorem dX4_digit_16 : decode cX4_digit 16 = .ok (.getfield 70, 3) := d_of dm_X4_digit_c0 8 (q := (16, .getfield 70, 3)) rfl
theorem dX4_digit_19 : decode cX4_digit 19 = .ok (.iaload, 1) := d_of dm_X4_digit_c0 9 (q := (19, .iaload, 1)) rfl
theorem dX4_digit_20 : decode cX4_digit 20 = .ok (.bipush 48, 2) := d_of dm_X4_digit_c0 10 (q := (20, .bipush 48, 2)) rfl
theorem dX4_digit_22 : decode cX4_digit 22 = .ok (.if_icmp .lt 17, 3) := d_of dm_X4_digit_c0 11 (q := (22, .if_icmp .lt 17, 3)) rfl
theorem dX4_digit_25 : decode cX4_digit 25 = .ok (.aload_n 0, 1) := d_of dm_X4_digit_c0 12 (q := (25, .aload_n 0, 1)) rfl
theorem dX4_digit_26 : decode cX4_digit 26 = .ok (.getfield 28, 3) := d_of dm_X4_digit_c0 13 (q := (26, .getfield 28, 3)) rfl
theorem dX4_digit_29 : decode cX4_digit 29 = .ok (.aload_n 0, 1) := d_of dm_X4_digit_c0 14 (q := (29, .aload_n 0, 1)) rfl
theorem dX4_digit_30 : decode cX4_digit 30 = .ok (.getfield 70, 3) := d_of dm_X4_digit_c0 15 (q := (30, .getfield 70, 3)) rfl
theorem dX4_digit_33 : decode cX4_digit 33 = .ok (.iaload, 1) := d_of dm_X4_digit_c0 16 (q := (33, .iaload, 1)) rfl
theorem dX4_digit_34 : decode cX4_digit 34 = .ok (.bipush 57, 2) := d_of dm_X4_digit_c0 17 (q := (34, .bipush 57, 2)) rfl
theorem dX4_digit_36 : decode cX4_digit 36 = .ok (.if_icmp .le 5, 3) := d_of dm_X4_digit_c0 18 (q := (36, .if_icmp .le 5, 3)) rfl
theorem dX4_digit_39 : decode cX4_digit 39 = .ok (.iconst 0, 1) := d_of dm_X4_digit_c0 19 (q := (39, .iconst 0, 1)) rfl
theorem dX4_digit_40 : decode cX4_digit 40 = .ok (.ireturn, 1) := d_of dm_X4_digit_c0 20 (q := (40, .ireturn, 1)) rfl
theorem dX4_digit_41 : decode cX4_digit 41 = .ok (.aload_n 0, 1) := d_of dm_X4_digit_c0 21 (q := (41, .aload_n 0, 1)) rfl
theorem dX4_digit_42 : decode cX4_digit 42 = .ok (.getfield 31, 3) := d_of dm_X4_digit_c0 22 (q := (42, .getfield 31, 3)) rfl
theorem dX4_digit_45 : decode cX4_digit 45 = .ok (.iload_n 1, 1) := d_of dm_X4_digit_c0 23 (q := (45, .iload_n 1, 1)) rfl
theorem dX4_digit_46 : decode cX4_digit 46 = .ok (.aload_n 0, 1) := d_of dm_X4_digit_c0 24 (q := (46, .aload_n 0, 1)) rfl
def dl_X4_digit_c25 : List (Nat × Instr × Nat) := [(47, .getfield 28, 3), (50, .aload_n 0, 1), (51, .dup, 1), (52, .getfield 70, 3), (55, .dup_x1, 1), (56, .iconst 1, 1), (57, .iadd, 1), (58, .putfield 70, 3), (61, .iaload, 1), (62, .bipush 48, 2), (64, .isub, 1), (65, .iastore, 1), (66, .iconst 1, 1), (67, .ireturn, 1)]
set_option maxRecDepth 100000 in
theorem dm_X4_digit_c25 : dl_X4_digit_c25.all (fun q => decide (decode cX4_digit q.1 = .ok q.2)) = true := by decide +kernel
theorem dX4_digit_47 : decode cX4_digit 47 = .ok (.getfield 28, 3) := d_of dm_X4_digit_c25 0 (q := (47, .getfield 28, 3)) rfl
theorem dX4_digit_50 : decode cX4_digit 50 = .ok (.aload_n 0, 1) := d_of dm_X4_digit_c25 1 (q := (50, .aload_n 0, 1)) rfl
theorem dX4_digit_51 : decode cX4_digit 51 = .ok (.dup, 1) := d_of dm_X4_digit_c25 2 (q := (51, .dup, 1)) rfl
theorem dX4_digit_52 : decode cX4_digit 52 = .ok (.getfield 70, 3) := d_of dm_X4_digit_c25 3 (q := (52, .getfield 70, 3)) rfl
theorem dX4_digit_55 : decode cX4_digit 55 = .ok (.dup_x1, 1) := d_of dm_X4_digit_c25 4 (q := (55, .dup_x1, 1)) rfl
theorem dX4_digit_56 : decode cX4_digit 56 = .ok (.iconst 1, 1) := d_of dm_X4_digit_c25 5 (q := (56, .iconst 1, 1)) rfl
theorem dX4_digit_57 : decode cX4_digit 57 = .ok (.iadd, 1) := d_of dm_X4_digit_c25 6 (q := (57, .iadd, 1)) rfl
theorem dX4_digit_58 : decode cX4_digit 58 = .ok (.putfield 70, 3) := d_of dm_X4_digit_c25 7 (q := (58, .putfield 70, 3)) rfl
theorem dX4_digit_61 : decode cX4_digit 61 = .ok (.iaload, 1) := d_of dm_X4_digit_c25 8 (q := (61, .iaload, 1)) rfl
theorem dX4_digit_62 : decode cX4_digit 62 = .ok (.bipush 48, 2) := d_of dm_X4_digit_c25 9 (q := (62, .bipush 48, 2)) rfl
theorem dX4_digit_64 : decode cX4_digit 64 = .ok (.isub, 1) := d_of dm_X4_digit_c25 10 (q := (64, .isub, 1)) rfl
theorem dX4_digit_65 : decode cX4_digit 65 = .ok (.iastore, 1) := d_of dm_X4_digit_c25 11 (q := (65, .iastore, 1)) rfl
theorem dX4_digit_66 : decode cX4_digit 66 = .ok (.iconst 1, 1) := d_of dm_X4_digit_c25 12 (q := (66, .iconst 1, 1)) rfl
theorem dX4_digit_67 : decode cX4_digit 67 = .ok (.ireturn, 1) := d_of dm_X4_digit_c25 13 (q := (67, .ireturn, 1)) rfl
def dl_X4_isOld_c0 : List (Nat × Instr × Nat) := [(0, .iconst 0, 1), (1, .istore_n 3, 1), (2, .iload_n 3, 1), (3, .aload_n 0, 1), (4, .getfield 60, 3), (7, .if_icmp .ge 39, 3), (10, .aload_n 0, 1), (11, .getfield 7, 3), (14, .iload_n 3, 1), (15, .iaload, 1), (16, .iload_n 1, 1), (17, .iload_n 2, 1), (18, .invokestatic 73, 3), (21, .if_icmp .ne 19, 3), (24, .aload_n 0, 1), (25, .getfield 13, 3), (28, .iload_n 3, 1), (29, .iaload, 1), (30, .iload_n 1, 1), (31, .iload_n 2, 1), (32, .invokestatic 79, 3), (35, .if_icmp .ne 5, 3), (38, .iconst 1, 1), (39, .ireturn, 1), (40, .iinc 3 1, 3)]
set_option maxRecDepth 100000 in
theorem dm_X4_isOld_c0 : dl_X4_isOld_c0.all (fun q => decide (decode cX4_isOld q.1 = .ok q.2)) = true := by decide +kernel
theorem dX4_isOld_0 : decode cX4_isOld 0 = .ok (.iconst 0, 1) := d_of dm_X4_isOld_c0 0 (q := (0, .iconst 0, 1)) rfl
theorem dX4_isOld_1 : decode cX4_isOld 1 = .ok (.istore_n 3, 1) := d_of dm_X4_isOld_c0 1 (q := (1, .istore_n 3, 1)) rfl
theorem dX4_isOld_2 : decode cX4_isOld 2 = .ok (.iload_n 3, 1) := d_of dm_X4_isOld_c0 2 (q := (2, .iload_n 3, 1)) rfl
theorem dX4_isOld_3 : decode cX4_isOld 3 = .ok (.aload_n 0, 1) := d_of dm_X4_isOld_c0 3 (q := (3, .aload_n 0, 1)) rfl
theorem dX4_isOld_4 : decode cX4_isOld 4 = .ok (.getfield 60, 3) := d_of dm_X4_isOld_c0 4 (q := (4, .getfield 60, 3)) rfl
theorem dX4_isOld_7 : decode cX4_isOld 7 = .ok (.if_icmp .ge 39, 3) := d_of dm_X4_isOld_c0 5 (q := (7, .if_icmp .ge 39, 3)) rfl
theorem dX4_isOld_10 : decode cX4_isOld 10 = .ok (.aload_n 0, 1) := d_of dm_X4_isOld_c0 6 (q := (10, .aload_n 0, 1)) rfl
theorem dX4_isOld_11 : decode cX4_isOld 11 = .ok (.getfield 7, 3) := d_of dm_X4_isOld_c0 7 (q := (11, .getfield 7, 3)) rfl
theorem dX4_isOld_14 : decode cX4_isOld 14 = .ok (.iload_n 3, 1) := d_of dm_X4_isOld_c0 8 (q := (14, .iload_n 3, 1)) rfl
theorem dX4_isOld_15 : decode cX4_isOld 15 = .ok (.iaload, 1) := d_of dm_X4_isOld_c0 9 (q := (15, .iaload, 1)) rfl
theorem dX4_isOld_16 : decode cX4_isOld 16 = .ok (.iload_n 1, 1) := d_of dm_X4_isOld_c0 10 (q := (16, .iload_n 1, 1)) rfl
theorem dX4_isOld_17 : decode cX4_isOld 17 = .ok (.iload_n 2, 1) := d_of dm_X4_isOld_c0 11 (q := (17, .iload_n 2, 1)) rfl
theorem dX4_isOld_18 : decode cX4_isOld 18 = .ok (.invokestatic 73, 3) := d_of dm_X4_isOld_c0 12 (q := (18, .invokestatic 73, 3)) rfl
theorem dX4_isOld_21 : decode cX4_isOld 21 = .ok (.if_icmp .ne 19, 3) := d_of dm_X4_isOld_c0 13 (q := (21, .if_icmp .ne 19, 3)) rfl
theorem dX4_isOld_24 : decode cX4_isOld 24 = .ok (.aload_n 0, 1) := d_of dm_X4_isOld_c0 14 (q := (24, .aload_n 0, 1)) rfl
theorem dX4_isOld_25 : decode cX4_isOld 25 = .ok (.getfield 13, 3) := d_of dm_X4_isOld_c0 15 (q := (25, .getfield 13, 3)) rfl
theorem dX4_isOld_28 : decode cX4_isOld 28 = .ok (.iload_n 3, 1) := d_of dm_X4_isOld_c0 16 (q := (28, .iload_n 3, 1)) rfl
theorem dX4_isOld_29 : decode cX4_isOld 29 = .ok (.iaload, 1) := d_of dm_X4_isOld_c0 17 (q := (29, .iaload, 1)) rfl
theorem dX4_isOld_30 : decode cX4_isOld 30 = .ok (.iload_n 1, 1) := d_of dm_X4_isOld_c0 18 (q := (30, .iload_n 1, 1)) rfl
theorem dX4_isOld_31 : decode cX4_isOld 31 = .ok (.iload_n 2, 1) := d_of dm_X4_isOld_c0 19 (q := (31, .iload_n 2, 1)) rfl
theorem dX4_isOld_32 : decode cX4_isOld 32 = .ok (.invokestatic 79, 3) := d_of dm_X4_isOld_c0 20 (q := (32, .invokestatic 79, 3)) rfl
theorem dX4_isOld_35 : decode cX4_isOld 35 = .ok (.if_icmp .ne 5, 3) := d_of dm_X4_isOld_c0 21 (q := (35, .if_icmp .ne 5, 3)) rfl
theorem dX4_isOld_38 : decode cX4_isOld 38 = .ok (.iconst 1, 1) := d_of dm_X4_isOld_c0 22 (q := (38, .iconst 1, 1)) rfl
theorem dX4_isOld_39 : decode cX4_isOld 39 = .ok (.ireturn, 1) := d_of dm_X4_isOld_c0 23 (q := (39, .ireturn, 1)) rfl
theorem dX4_isOld_40 : decode cX4_isOld 40 = .ok (.iinc 3 1, 3) := d_of dm_X4_isOld_c0 24 (q := (40, .iinc 3 1, 3)) rfl
def dl_X4_isOld_c25 : List (Nat × Instr × Nat) := [(43, .goto (-41), 3), (46, .iconst 0, 1), (47, .ireturn, 1)]
set_option maxRecDepth 100000 in
theorem dm_X4_isOld_c25 : dl_X4_isOld_c25.all (fun q => decide (decode cX4_isOld q.1 = .ok q.2)) = true := by decide +kernel
theorem dX4_isOld_43 : decode cX4_isOld 43 = .ok (.goto (-41), 3) := d_of dm_X4_isOld_c25 0 (q := (43, .goto (-41), 3)) rfl
theorem dX4_isOld_46 : decode cX4_isOld 46 = .ok (.iconst 0, 1) := d_of dm_X4_isOld_c25 1 (q := (46, .iconst 0, 1)) rfl
theorem dX4_isOld_47 : decode cX4_isOld 47 = .ok (.ireturn, 1) := d_of dm_X4_isOld_c25 2 (q := (47, .ireturn, 1)) rfl
def dl_X4_statement_c0 : List (Nat × Instr × Nat) := [(0, .aload_n 0, 1), (1, .bipush 99, 2), (3, .invokevirtual 82, 3), (6, .ifCond .eq 53, 3), (9, .aload_n 0, 1), (10, .iconst 0, 1), (11, .invokevirtual 86, 3), (14, .ifCond .ne 5, 3), (17, .iconst (-1), 1), (18, .ireturn, 1), (19, .iload_n 1, 1), (20, .ifCond .ne 5, 3), (23, .iconst 1, 1), (24, .ireturn, 1), (25, .aload_n 0, 1), (26, .aload_n 0, 1), (27, .getfield 31, 3), (30, .iconst 0, 1), (31, .iaload, 1), (32, .invokevirtual 89, 3), (35, .ifCond .ne 5, 3), (38, .iconst 0, 1), (39, .ireturn, 1), (40, .aload_n 0, 1), (41, .dup, 1)]
set_option maxRecDepth 100000 in
theorem dm_X4_statement_c0 : dl_X4_statement_c0.all (fun q => decide (decode cX4_statement q.1 = .ok q.2)) = true := by decide +kernel
theorem dX4_statement_0 : decode cX4_statement 0 = .ok (.aload_n 0, 1) := d_of dm_X4_statement_c0 0 (q := (0, .aload_n 0, 1)) rfl
theorem dX4_statement_1 : decode cX4_statement 1 = .ok (.bipush 99, 2) := d_of dm_X4_statement_c0 1 (q := (1, .bipush 99, 2)) rfl
theorem dX4_statement_3 : decode cX4_statement 3 = .ok (.invokevirtual 82, 3) := d_of dm_X4_statement_c0 2 (q := (3, .invokevirtual 82, 3)) rfl
theorem dX4_statement_6 : decode cX4_statement 6 = .ok (.ifCond .eq 53, 3) := d_of dm_X4_statement_c0 3 (q := (6, .ifCond .eq 53, 3)) rfl
theorem dX4_statement_9 : decode cX4_statement 9 = .ok (.aload_n 0, 1) := d_of dm_X4_statement_c0 4 (q := (9, .aload_n 0, 1)) rfl
theorem dX4_statement_10 : decode cX4_statement 10 = .ok (.iconst 0, 1) := d_of dm_X4_statement_c0 5 (q := (10, .iconst 0, 1)) rfl
theorem dX4_statement_11 : decode cX4_statement 11 = .ok (.invokevirtual 86, 3) := d_of dm_X4_statement_c0 6 (q := (11, .invokevirtual 86, 3)) rfl
theorem dX4_statement_14 : decode cX4_statement 14 = .ok (.ifCond .ne 5, 3) := d_of dm_X4_statement_c0 7 (q := (14, .ifCond .ne 5, 3)) rfl
theorem dX4_statement_17 : decode cX4_statement 17 = .ok (.iconst (-1), 1) := d_of dm_X4_statement_c0 8 (q := (17, .iconst (-1), 1)) rfl
theorem dX4_statement_18 : decode cX4_statement 18 = .ok (.ireturn, 1) := d_of dm_X4_statement_c0 9 (q := (18, .ireturn, 1)) rfl
theorem dX4_statement_19 : decode cX4_statement 19 = .ok (.iload_n 1, 1) := d_of dm_X4_statement_c0 10 (q := (19, .iload_n 1, 1)) rfl
theorem dX4_statement_20 : decode cX4_statement 20 = .ok (.ifCond .ne 5, 3) := d_of dm_X4_statement_c0 11 (q := (20, .ifCond .ne 5, 3)) rfl
theorem dX4_statement_23 : decode cX4_statement 23 = .ok (.iconst 1, 1) := d_of dm_X4_statement_c0 12 (q := (23, .iconst 1, 1)) rfl
theorem dX4_statement_24 : decode cX4_statement 24 = .ok (.ireturn, 1) := d_of dm_X4_statement_c0 13 (q := (24, .ireturn, 1)) rfl
theorem dX4_statement_25 : decode cX4_statement 25 = .ok (.aload_n 0, 1) := d_of dm_X4_statement_c0 14 (q := (25, .aload_n 0, 1)) rfl
theorem dX4_statement_26 : decode cX4_statement 26 = .ok (.aload_n 0, 1) := d_of dm_X4_statement_c0 15 (q := (26, .aload_n 0, 1)) rfl
theorem dX4_statement_27 : decode cX4_statement 27 = .ok (.getfield 31, 3) := d_of dm_X4_statement_c0 16 (q := (27, .getfield 31, 3)) rfl
theorem dX4_statement_30 : decode cX4_statement 30 = .ok (.iconst 0, 1) := d_of dm_X4_statement_c0 17 (q := (30, .iconst 0, 1)) rfl
theorem dX4_statement_31 : decode cX4_statement 31 = .ok (.iaload, 1) := d_of dm_X4_statement_c0 18 (q := (31, .iaload, 1)) rfl
theorem dX4_statement_32 : decode cX4_statement 32 = .ok (.invokevirtual 89, 3) := d_of dm_X4_statement_c0 19 (q := (32, .invokevirtual 89, 3)) rfl
theorem dX4_statement_35 : decode cX4_statement 35 = .ok (.ifCond .ne 5, 3) := d_of dm_X4_statement_c0 20 (q := (35, .ifCond .ne 5, 3)) rfl
theorem dX4_statement_38 : decode cX4_statement 38 = .ok (.iconst 0, 1) := d_of dm_X4_statement_c0 21 (q := (38, .iconst 0, 1)) rfl
theorem dX4_statement_39 : decode cX4_statement 39 = .ok (.ireturn, 1) := d_of dm_X4_statement_c0 22 (q := (39, .ireturn, 1)) rfl
theorem dX4_statement_40 : decode cX4_statement 40 = .ok (.aload_n 0, 1) := d_of dm_X4_statement_c0 23 (q := (40, .aload_n 0, 1)) rfl
theorem dX4_statement_41 : decode cX4_statement 41 = .ok (.dup, 1) := d_of dm_X4_statement_c0 24 (q := (41, .dup, 1)) rfl
def dl_X4_statement_c25 : List (Nat × Instr × Nat) := [(42, .getfield 92, 3), (45, .iconst 1, 1), (46, .aload_n 0, 1), (47, .getfield 31, 3), (50, .iconst 0, 1), (51, .iaload, 1), (52, .ishl, 1), (53, .ixor, 1), (54, .putfield 92, 3), (57, .iconst 1, 1), (58, .ireturn, 1), (59, .aload_n 0, 1), (60, .bipush 104, 2), (62, .invokevirtual 82, 3), (65, .ifCond .eq 44, 3), (68, .aload_n 0, 1), (69, .iconst 0, 1), (70, .invokevirtual 86, 3), (73, .ifCond .ne 5, 3), (76, .iconst (-1), 1), (77, .ireturn, 1), (78, .iload_n 1, 1), (79, .ifCond .ne 5, 3), (82, .iconst 1, 1), (83, .ireturn, 1)]
set_option maxRecDepth 100000 in
theorem dm_X4_statement_c25 : dl_X4_statement_c25.all (fun q => decide (decode cX4_statement q.1 = .ok q.2)) = true := by decide +kernel
theorem dX4_statement_42 : decode cX4_statement 42 = .ok (.getfield 92, 3) := d_of dm_X4_statement_c25 0 (q := (42, .getfield 92, 3)) rfl
theorem dX4_statement_45 : decode cX4_statement 45 = .ok (.iconst 1, 1) := d_of dm_X4_statement_c25 1 (q := (45, .iconst 1, 1)) rfl
theorem dX4_statement_46 : decode cX4_statement 46 = .ok (.aload_n 0, 1) := d_of dm_X4_statement_c25 2 (q := (46, .aload_n 0, 1)) rfl
theorem dX4_statement_47 : decode cX4_statement 47 = .ok (.getfield 31, 3) := d_of dm_X4_statement_c25 3 (q := (47, .getfield 31, 3)) rfl
theorem dX4_statement_50 : decode cX4_statement 50 = .ok (.iconst 0, 1) := d_of dm_X4_statement_c25 4 (q := (50, .iconst 0, 1)) rfl
theorem dX4_statement_51 : decode cX4_statement 51 = .ok (.iaload, 1) := d_of dm_X4_statement_c25 5 (q := (51, .iaload, 1)) rfl
theorem dX4_statement_52 : decode cX4_statement 52 = .ok (.ishl, 1) := d_of dm_X4_statement_c25 6 (q := (52, .ishl, 1)) rfl
theorem dX4_statement_53 : decode cX4_statement 53 = .ok (.ixor, 1) := d_of dm_X4_statement_c25 7 (q := (53, .ixor, 1)) rfl
theorem dX4_statement_54 : decode cX4_statement 54 = .ok (.putfield 92, 3) := d_of dm_X4_statement_c25 8 (q := (54, .putfield 92, 3)) rfl
theorem dX4_statement_57 : decode cX4_statement 57 = .ok (.iconst 1, 1) := d_of dm_X4_statement_c25 9 (q := (57, .iconst 1, 1)) rfl
theorem dX4_statement_58 : decode cX4_statement 58 = .ok (.ireturn, 1) := d_of dm_X4_statement_c25 10 (q := (58, .ireturn, 1)) rfl
theorem dX4_statement_59 : decode cX4_statement 59 = .ok (.aload_n 0, 1) := d_of dm_X4_statement_c25 11 (q := (59, .aload_n 0, 1)) rfl
theorem dX4_statement_60 : decode cX4_statement 60 = .ok (.bipush 104, 2) := d_of dm_X4_statement_c25 12 (q := (60, .bipush 104, 2)) rfl
theorem dX4_statement_62 : decode cX4_statement 62 = .ok (.invokevirtual 82, 3) := d_of dm_X4_statement_c25 13 (q := (62, .invokevirtual 82, 3)) rfl
theorem dX4_statement_65 : decode cX4_statement 65 = .ok (.ifCond .eq 44, 3) := d_of dm_X4_statement_c25 14 (q := (65, .ifCond .eq 44, 3)) rfl
theorem dX4_statement_68 : decode cX4_statement 68 = .ok (.aload_n 0, 1) := d_of dm_X4_statement_c25 15 (q := (68, .aload_n 0, 1)) rfl
theorem dX4_statement_69 : decode cX4_statement 69 = .ok (.iconst 0, 1) := d_of dm_X4_statement_c25 16 (q := (69, .iconst 0, 1)) rfl
theorem dX4_statement_70 : decode cX4_statement 70 = .ok (.invokevirtual 86, 3) := d_of dm_X4_statement_c25 17 (q := (70, .invokevirtual 86, 3)) rfl
theorem dX4_statement_73 : decode cX4_statement 73 = .ok (.ifCond .ne 5, 3) := d_of dm_X4_statement_c25 18 (q := (73, .ifCond .ne 5, 3)) rfl
theorem dX4_statement_76 : decode cX4_statement 76 = .ok (.iconst (-1), 1) := d_of dm_X4_statement_c25 19 (q := (76, .iconst (-1), 1)) rfl
theorem dX4_statement_77 : decode cX4_statement 77 = .ok (.ireturn, 1) := d_of dm_X4_statement_c25 20 (q := (77, .ireturn, 1)) rfl
theorem dX4_statement_78 : decode cX4_statement 78 = .ok (.iload_n 1, 1) := d_of dm_X4_statement_c25 21 (q := (78, .iload_n 1, 1)) rfl
theorem dX4_statement_79 : decode cX4_statement 79 = .ok (.ifCond .ne 5, 3) := d_of dm_X4_statement_c25 22 (q := (79, .ifCond .ne 5, 3)) rfl
theorem dX4_statement_82 : decode cX4_statement 82 = .ok (.iconst 1, 1) := d_of dm_X4_statement_c25 23 (q := (82, .iconst 1, 1)) rfl
theorem dX4_statement_83 : decode cX4_statement 83 = .ok (.ireturn, 1) := d_of dm_X4_statement_c25 24 (q := (83, .ireturn, 1)) rfl
def dl_X4_statement_c50 : List (Nat × Instr × Nat) := [(84, .aload_n 0, 1), (85, .getfield 31, 3), (88, .iconst 0, 1), (89, .iaload, 1), (90, .bipush 7, 2), (92, .if_icmp .le 5, 3), (95, .iconst 0, 1), (96, .ireturn, 1), (97, .aload_n 0, 1), (98, .aload_n 0, 1), (99, .getfield 31, 3), (102, .iconst 0, 1), (103, .iaload, 1), (104, .putfield 95, 3), (107, .iconst 1, 1), (108, .ireturn, 1), (109, .aload_n 0, 1), (110, .bipush 116, 2), (112, .invokevirtual 82, 3), (115, .ifCond .eq 143, 3), (118, .aload_n 0, 1), (119, .getfield 70, 3), (122, .aload_n 0, 1), (123, .getfield 67, 3), (126, .if_icmp .ge 32, 3)]
set_option maxRecDepth 100000 in
theorem dm_X4_statement_c50 : dl_X4_statement_c50.all (fun q => decide (decode cX4_statement q.1 = .ok q.2)) = true := by decide +kernel
theorem dX4_statement_84 : decode cX4_statement 84 = .ok (.aload_n 0, 1) := d_of dm_X4_statement_c50 0 (q := (84, .aload_n 0, 1)) rfl
theorem dX4_statement_85 : decode cX4_statement 85 = .ok (.getfield 31, 3) := d_of dm_X4_statement_c50 1 (q := (85, .getfield 31, 3)) rfl
theorem dX4_statement_88 : decode cX4_statement 88 = .ok (.iconst 0, 1) := d_of dm_X4_statement_c50 2 (q := (88, .iconst 0, 1)) rfl
theorem dX4_statement_89 : decode cX4_statement 89 = .ok (.iaload, 1) := d_of dm_X4_statement_c50 3 (q := (89, .iaload, 1)) rfl
theorem dX4_statement_90 : decode cX4_statement 90 = .ok (.bipush 7, 2) := d_of dm_X4_statement_c50 4 (q := (90, .bipush 7, 2)) rfl
theorem dX4_statement_92 : decode cX4_statement 92 = .ok (.if_icmp .le 5, 3) := d_of dm_X4_statement_c50 5 (q := (92, .if_icmp .le 5, 3)) rfl
theorem dX4_statement_95 : decode cX4_statement 95 = .ok (.iconst 0, 1) := d_of dm_X4_statement_c50 6 (q := (95, .iconst 0, 1)) rfl
theorem dX4_statement_96 : decode cX4_statement 96 = .ok (.ireturn, 1) := d_of dm_X4_statement_c50 7 (q := (96, .ireturn, 1)) rfl
theorem dX4_statement_97 : decode cX4_statement 97 = .ok (.aload_n 0, 1) := d_of dm_X4_statement_c50 8 (q := (97, .aload_n 0, 1)) rfl
theorem dX4_statement_98 : decode cX4_statement 98 = .ok (.aload_n 0, 1) := d_of dm_X4_statement_c50 9 (q := (98, .aload_n 0, 1)) rfl
theorem dX4_statement_99 : decode cX4_statement 99 = .ok (.getfield 31, 3) := d_of dm_X4_statement_c50 10 (q := (99, .getfield 31, 3)) rfl
theorem dX4_statement_102 : decode cX4_statement 102 = .ok (.iconst 0, 1) := d_of dm_X4_statement_c50 11 (q := (102, .iconst 0, 1)) rfl
theorem dX4_statement_103 : decode cX4_statement 103 = .ok (.iaload, 1) := d_of dm_X4_statement_c50 12 (q := (103, .iaload, 1)) rfl
theorem dX4_statement_104 : decode cX4_statement 104 = .ok (.putfield 95, 3) := d_of dm_X4_statement_c50 13 (q := (104, .putfield 95, 3)) rfl
theorem dX4_statement_107 : decode cX4_statement 107 = .ok (.iconst 1, 1) := d_of dm_X4_statement_c50 14 (q := (107, .iconst 1, 1)) rfl
theorem dX4_statement_108 : decode cX4_statement 108 = .ok (.ireturn, 1) := d_of dm_X4_statement_c50 15 (q := (108, .ireturn, 1)) rfl
theorem dX4_statement_109 : decode cX4_statement 109 = .ok (.aload_n 0, 1) := d_of dm_X4_statement_c50 16 (q := (109, .aload_n 0, 1)) rfl
theorem dX4_statement_110 : decode cX4_statement 110 = .ok (.bipush 116, 2) := d_of dm_X4_statement_c50 17 (q := (110, .bipush 116, 2)) rfl
theorem dX4_statement_112 : decode cX4_statement 112 = .ok (.invokevirtual 82, 3) := d_of dm_X4_statement_c50 18 (q := (112, .invokevirtual 82, 3)) rfl
theorem dX4_statement_115 : decode cX4_statement 115 = .ok (.ifCond .eq 143, 3) := d_of dm_X4_statement_c50 19 (q := (115, .ifCond .eq 143, 3)) rfl
theorem dX4_statement_118 : decode cX4_statement 118 = .ok (.aload_n 0, 1) := d_of dm_X4_statement_c50 20 (q := (118, .aload_n 0, 1)) rfl
theorem dX4_statement_119 : decode cX4_statement 119 = .ok (.getfield 70, 3) := d_of dm_X4_statement_c50 21 (q := (119, .getfield 70, 3)) rfl
theorem dX4_statement_122 : decode cX4_statement 122 = .ok (.aload_n 0, 1) := d_of dm_X4_statement_c50 22 (q := (122, .aload_n 0, 1)) rfl
theorem dX4_statement_123 : decode cX4_statement 123 = .ok (.getfield 67, 3) := d_of dm_X4_statement_c50 23 (q := (123, .getfield 67, 3)) rfl
theorem dX4_statement_126 : decode cX4_statement 126 = .ok (.if_icmp .ge 32, 3) := d_of dm_X4_statement_c50 24 (q := (126, .if_icmp .ge 32, 3)) rfl
def dl_X4_statement_c75 : List (Nat × Instr × Nat) := [(129, .aload_n 0, 1), (130, .getfield 28, 3), (133, .aload_n 0, 1), (134, .getfield 70, 3), (137, .iaload, 1), (138, .ifCond .le 20, 3), (141, .ldc 98, 2), (143, .aload_n 0, 1), (144, .getfield 28, 3), (147, .aload_n 0, 1), (148, .getfield 70, 3), (151, .iaload, 1), (152, .invokevirtual 100, 3), (155, .goto 4, 3), (158, .iconst (-1), 1), (159, .istore_n 2, 1), (160, .iload_n 2, 1), (161, .ifCond .ge 5, 3), (164, .iconst (-1), 1), (165, .ireturn, 1), (166, .aload_n 0, 1), (167, .dup, 1), (168, .getfield 70, 3), (171, .iconst 1, 1), (172, .iadd, 1)]
set_option maxRecDepth 100000 in
theorem dm_X4_statement_c75 : dl_X4_statement_c75.all (fun q => decide (decode cX4_statement q.1 = .ok q.2)) = true := by decide +kernel
theorem dX4_statement_129 : decode cX4_statement 129 = .ok (.aload_n 0, 1) := d_of dm_X4_statement_c75 0 (q := (129, .aload_n 0, 1)) rfl
theorem dX4_statement_130 : decode cX4_statement 130 = .ok (.getfield 28, 3) := d_of dm_X4_statement_c75 1 (q := (130, .getfield 28, 3)) rfl
theorem dX4_statement_133 : decode cX4_statement 133 = .ok (.aload_n 0, 1) := d_of dm_X4_statement_c75 2 (q := (133, .aload_n 0, 1)) rfl
theorem dX4_statement_134 : decode cX4_statement 134 = .ok (.getfield 70, 3) := d_of dm_X4_statement_c75 3 (q := (134, .getfield 70, 3)) rfl
theorem dX4_statement_137 : decode cX4_statement 137 = .ok (.iaload, 1) := d_of dm_X4_statement_c75 4 (q := (137, .iaload, 1)) rfl
theorem dX4_statement_138 : decode cX4_statement 138 = .ok (.ifCond .le 20, 3) := d_of dm_X4_statement_c75 5 (q := (138, .ifCond .le 20, 3)) rfl
theorem dX4_statement_141 : decode cX4_statement 141 = .ok (.ldc 98, 2) := d_of dm_X4_statement_c75 6 (q := (141, .ldc 98, 2)) rfl
theorem dX4_statement_143 : decode cX4_statement 143 = .ok (.aload_n 0, 1) := d_of dm_X4_statement_c75 7 (q := (143, .aload_n 0, 1)) rfl
theorem dX4_statement_144 : decode cX4_statement 144 = .ok (.getfield 28, 3) := d_of dm_X4_statement_c75 8 (q := (144, .getfield 28, 3)) rfl
theorem dX4_statement_147 : decode cX4_statement 147 = .ok (.aload_n 0, 1) := d_of dm_X4_statement_c75 9 (q := (147, .aload_n 0, 1)) rfl
theorem dX4_statement_148 : decode cX4_statement 148 = .ok (.getfield 70, 3) := d_of dm_X4_statement_c75 10 (q := (148, .getfield 70, 3)) rfl
theorem dX4_statement_151 : decode cX4_statement 151 = .ok (.iaload, 1) := d_of dm_X4_statement_c75 11 (q := (151, .iaload, 1)) rfl
theorem dX4_statement_152 : decode cX4_statement 152 = .ok (.invokevirtual 100, 3) := d_of dm_X4_statement_c75 12 (q := (152, .invokevirtual 100, 3)) rfl
theorem dX4_statement_155 : decode cX4_statement 155 = .ok (.goto 4, 3) := d_of dm_X4_statement_c75 13 (q := (155, .goto 4, 3)) rfl
theorem dX4_statement_158 : decode cX4_statement 158 = .ok (.iconst (-1), 1) := d_of dm_X4_statement_c75 14 (q := (158, .iconst (-1), 1)) rfl
theorem dX4_statement_159 : decode cX4_statement 159 = .ok (.istore_n 2, 1) := d_of dm_X4_statement_c75 15 (q := (159, .istore_n 2, 1)) rfl
theorem dX4_statement_160 : decode cX4_statement 160 = .ok (.iload_n 2, 1) := d_of dm_X4_statement_c75 16 (q := (160, .iload_n 2, 1)) rfl
theorem dX4_statement_161 : decode cX4_statement 161 = .ok (.ifCond .ge 5, 3) := d_of dm_X4_statement_c75 17 (q := (161, .ifCond .ge 5, 3)) rfl
theorem dX4_statement_164 : decode cX4_statement 164 = .ok (.iconst (-1), 1) := d_of dm_X4_statement_c75 18 (q := (164, .iconst (-1), 1)) rfl
theorem dX4_statement_165 : decode cX4_statement 165 = .ok (.ireturn, 1) := d_of dm_X4_statement_c75 19 (q := (165, .ireturn, 1)) rfl
theorem dX4_statement_166 : decode cX4_statement 166 = .ok (.aload_n 0, 1) := d_of dm_X4_statement_c75 20 (q := (166, .aload_n 0, 1)) rfl
theorem dX4_statement_167 : decode cX4_statement 167 = .ok (.dup, 1) := d_of dm_X4_statement_c75 21 (q := (167, .dup, 1)) rfl
theorem dX4_statement_168 : decode cX4_statement 168 = .ok (.getfield 70, 3) := d_of dm_X4_statement_c75 22 (q := (168, .getfield 70, 3)) rfl
theorem dX4_statement_171 : decode cX4_statement 171 = .ok (.iconst 1, 1) := d_of dm_X4_statement_c75 23 (q := (171, .iconst 1, 1)) rfl
theorem dX4_statement_172 : decode cX4_statement 172 = .ok (.iadd, 1) := d_of dm_X4_statement_c75 24 (q := (172, .iadd, 1)) rfl
def dl_X4_statement_c100 : List (Nat × Instr × Nat) := [(173, .putfield 70, 3), (176, .aload_n 0, 1), (177, .iconst 0, 1), (178, .invokevirtual 86, 3), (181, .ifCond .ne 5, 3), (184, .iconst (-1), 1), (185, .ireturn, 1), (186, .iload_n 1, 1), (187, .ifCond .ne 5, 3), (190, .iconst 1, 1), (191, .ireturn, 1), (192, .aload_n 0, 1), (193, .getfield 31, 3), (196, .iconst 0, 1), (197, .iaload, 1), (198, .iconst 5, 1), (199, .if_icmp .gt 12, 3), (202, .aload_n 0, 1), (203, .getfield 52, 3), (206, .bipush 8, 2), (208, .if_icmp .ne 5, 3), (211, .iconst 0, 1), (212, .ireturn, 1), (213, .aload_n 0, 1), (214, .getfield 16, 3)]
set_option maxRecDepth 100000 in
theorem dm_X4_statement_c100 : dl_X4_statement_c100.all (fun q => decide (decode cX4_statement q.1 = .ok q.2)) = true := by decide +kernel
theorem dX4_statement_173 : decode cX4_statement 173 = .ok (.putfield 70, 3) := d_of dm_X4_statement_c100 0 (q := (173, .putfield 70, 3)) rfl
theorem dX4_statement_176 : decode cX4_statement 176 = .ok (.aload_n 0, 1) := d_of dm_X4_statement_c100 1 (q := (176, .aload_n 0, 1)) rfl
theorem dX4_statement_177 : decode cX4_statement 177 = .ok (.iconst 0, 1) := d_of dm_X4_statement_c100 2 (q := (177, .iconst 0, 1)) rfl
theorem dX4_statement_178 : decode cX4_statement 178 = .ok (.invokevirtual 86, 3) := d_of dm_X4_statement_c100 3 (q := (178, .invokevirtual 86, 3)) rfl
theorem dX4_statement_181 : decode cX4_statement 181 = .ok (.ifCond .ne 5, 3) := d_of dm_X4_statement_c100 4 (q := (181, .ifCond .ne 5, 3)) rfl
theorem dX4_statement_184 : decode cX4_statement 184 = .ok (.iconst (-1), 1) := d_of dm_X4_statement_c100 5 (q := (184, .iconst (-1), 1)) rfl
theorem dX4_statement_185 : decode cX4_statement 185 = .ok (.ireturn, 1) := d_of dm_X4_statement_c100 6 (q := (185, .ireturn, 1)) rfl
theorem dX4_statement_186 : decode cX4_statement 186 = .ok (.iload_n 1, 1) := d_of dm_X4_statement_c100 7 (q := (186, .iload_n 1, 1)) rfl
theorem dX4_statement_187 : decode cX4_statement 187 = .ok (.ifCond .ne 5, 3) := d_of dm_X4_statement_c100 8 (q := (187, .ifCond .ne 5, 3)) rfl
theorem dX4_statement_190 : decode cX4_statement 190 = .ok (.iconst 1, 1) := d_of dm_X4_statement_c100 9 (q := (190, .iconst 1, 1)) rfl
theorem dX4_statement_191 : decode cX4_statement 191 = .ok (.ireturn, 1) := d_of dm_X4_statement_c100 10 (q := (191, .ireturn, 1)) rfl
theorem dX4_statement_192 : decode cX4_statement 192 = .ok (.aload_n 0, 1) := d_of dm_X4_statement_c100 11 (q := (192, .aload_n 0, 1)) rfl
theorem dX4_statement_193 : decode cX4_statement 193 = .ok (.getfield 31, 3) := d_of dm_X4_statement_c100 12 (q := (193, .getfield 31, 3)) rfl
theorem dX4_statement_196 : decode cX4_statement 196 = .ok (.iconst 0, 1) := d_of dm_X4_statement_c100 13 (q := (196, .iconst 0, 1)) rfl
theorem dX4_statement_197 : decode cX4_statement 197 = .ok (.iaload, 1) := d_of dm_X4_statement_c100 14 (q := (197, .iaload, 1)) rfl
theorem dX4_statement_198 : decode cX4_statement 198 = .ok (.iconst 5, 1) := d_of dm_X4_statement_c100 15 (q := (198, .iconst 5, 1)) rfl
theorem dX4_statement_199 : decode cX4_statement 199 = .ok (.if_icmp .gt 12, 3) := d_of dm_X4_statement_c100 16 (q := (199, .if_icmp .gt 12, 3)) rfl
theorem dX4_statement_202 : decode cX4_statement 202 = .ok (.aload_n 0, 1) := d_of dm_X4_statement_c100 17 (q := (202, .aload_n 0, 1)) rfl
theorem dX4_statement_203 : decode cX4_statement 203 = .ok (.getfield 52, 3) := d_of dm_X4_statement_c100 18 (q := (203, .getfield 52, 3)) rfl
theorem dX4_statement_206 : decode cX4_statement 206 = .ok (.bipush 8, 2) := d_of dm_X4_statement_c100 19 (q := (206, .bipush 8, 2)) rfl
theorem dX4_statement_208 : decode cX4_statement 208 = .ok (.if_icmp .ne 5, 3) := d_of dm_X4_statement_c100 20 (q := (208, .if_icmp .ne 5, 3)) rfl
theorem dX4_statement_211 : decode cX4_statement 211 = .ok (.iconst 0, 1) := d_of dm_X4_statement_c100 21 (q := (211, .iconst 0, 1)) rfl
theorem dX4_statement_212 : decode cX4_statement 212 = .ok (.ireturn, 1) := d_of dm_X4_statement_c100 22 (q := (212, .ireturn, 1)) rfl
theorem dX4_statement_213 : decode cX4_statement 213 = .ok (.aload_n 0, 1) := d_of dm_X4_statement_c100 23 (q := (213, .aload_n 0, 1)) rfl
theorem dX4_statement_214 : decode cX4_statement 214 = .ok (.getfield 16, 3) := d_of dm_X4_statement_c100 24 (q := (214, .getfield 16, 3)) rfl
def dl_X4_statement_c125 : List (Nat × Instr × Nat) := [(217, .aload_n 0, 1), (218, .getfield 52, 3), (221, .iload_n 2, 1), (222, .iastore, 1), (223, .aload_n 0, 1), (224, .getfield 19, 3), (227, .aload_n 0, 1), (228, .getfield 52, 3), (231, .aload_n 0, 1), (232, .getfield 31, 3), (235, .iconst 0, 1), (236, .iaload, 1), (237, .iastore, 1), (238, .aload_n 0, 1), (239, .getfield 22, 3), (242, .aload_n 0, 1), (243, .dup, 1), (244, .getfield 52, 3), (247, .dup_x1, 1), (248, .iconst 1, 1), (249, .iadd, 1), (250, .putfield 52, 3), (253, .bipush (-9), 2), (255, .iastore, 1), (256, .iconst 1, 1)]
set_option maxRecDepth 100000 in
theorem dm_X4_statement_c125 : dl_X4_statement_c125.all (fun q => decide (decode cX4_statement q.1 = .ok q.2)) = true := by decide +kernel
theorem dX4_statement_217 : decode cX4_statement 217 = .ok (.aload_n 0, 1) := d_of dm_X4_statement_c125 0 (q := (217, .aload_n 0, 1)) rfl
theorem dX4_statement_218 : decode cX4_statement 218 = .ok (.getfield 52, 3) := d_of dm_X4_statement_c125 1 (q := (218, .getfield 52, 3)) rfl
theorem dX4_statement_221 : decode cX4_statement 221 = .ok (.iload_n 2, 1) := d_of dm_X4_statement_c125 2 (q := (221, .iload_n 2, 1)) rfl
theorem dX4_statement_222 : decode cX4_statement 222 = .ok (.iastore, 1) := d_of dm_X4_statement_c125 3 (q := (222, .iastore, 1)) rfl
theorem dX4_statement_223 : decode cX4_statement 223 = .ok (.aload_n 0, 1) := d_of dm_X4_statement_c125 4 (q := (223, .aload_n 0, 1)) rfl
theorem dX4_statement_224 : decode cX4_statement 224 = .ok (.getfield 19, 3) := d_of dm_X4_statement_c125 5 (q := (224, .getfield 19, 3)) rfl
theorem dX4_statement_227 : decode cX4_statement 227 = .ok (.aload_n 0, 1) := d_of dm_X4_statement_c125 6 (q := (227, .aload_n 0, 1)) rfl
theorem dX4_statement_228 : decode cX4_statement 228 = .ok (.getfield 52, 3) := d_of dm_X4_statement_c125 7 (q := (228, .getfield 52, 3)) rfl
theorem dX4_statement_231 : decode cX4_statement 231 = .ok (.aload_n 0, 1) := d_of dm_X4_statement_c125 8 (q := (231, .aload_n 0, 1)) rfl
theorem dX4_statement_232 : decode cX4_statement 232 = .ok (.getfield 31, 3) := d_of dm_X4_statement_c125 9 (q := (232, .getfield 31, 3)) rfl
theorem dX4_statement_235 : decode cX4_statement 235 = .ok (.iconst 0, 1) := d_of dm_X4_statement_c125 10 (q := (235, .iconst 0, 1)) rfl
theorem dX4_statement_236 : decode cX4_statement 236 = .ok (.iaload, 1) := d_of dm_X4_statement_c125 11 (q := (236, .iaload, 1)) rfl
theorem dX4_statement_237 : decode cX4_statement 237 = .ok (.iastore, 1) := d_of dm_X4_statement_c125 12 (q := (237, .iastore, 1)) rfl
theorem dX4_statement_238 : decode cX4_statement 238 = .ok (.aload_n 0, 1) := d_of dm_X4_statement_c125 13 (q := (238, .aload_n 0, 1)) rfl
theorem dX4_statement_239 : decode cX4_statement 239 = .ok (.getfield 22, 3) := d_of dm_X4_statement_c125 14 (q := (239, .getfield 22, 3)) rfl
theorem dX4_statement_242 : decode cX4_statement 242 = .ok (.aload_n 0, 1) := d_of dm_X4_statement_c125 15 (q := (242, .aload_n 0, 1)) rfl
theorem dX4_statement_243 : decode cX4_statement 243 = .ok (.dup, 1) := d_of dm_X4_statement_c125 16 (q := (243, .dup, 1)) rfl
theorem dX4_statement_244 : decode cX4_statement 244 = .ok (.getfield 52, 3) := d_of dm_X4_statement_c125 17 (q := (244, .getfield 52, 3)) rfl
theorem dX4_statement_247 : decode cX4_statement 247 = .ok (.dup_x1, 1) := d_of dm_X4_statement_c125 18 (q := (247, .dup_x1, 1)) rfl
theorem dX4_statement_248 : decode cX4_statement 248 = .ok (.iconst 1, 1) := d_of dm_X4_statement_c125 19 (q := (248, .iconst 1, 1)) rfl
theorem dX4_statement_249 : decode cX4_statement 249 = .ok (.iadd, 1) := d_of dm_X4_statement_c125 20 (q := (249, .iadd, 1)) rfl
theorem dX4_statement_250 : decode cX4_statement 250 = .ok (.putfield 52, 3) := d_of dm_X4_statement_c125 21 (q := (250, .putfield 52, 3)) rfl
theorem dX4_statement_253 : decode cX4_statement 253 = .ok (.bipush (-9), 2) := d_of dm_X4_statement_c125 22 (q := (253, .bipush (-9), 2)) rfl
theorem dX4_statement_255 : decode cX4_statement 255 = .ok (.iastore, 1) := d_of dm_X4_statement_c125 23 (q := (255, .iastore, 1)) rfl
theorem dX4_statement_256 : decode cX4_statement 256 = .ok (.iconst 1, 1) := d_of dm_X4_statement_c125 24 (q := (256, .iconst 1, 1)) rfl
def dl_X4_statement_c150 : List (Nat × Instr × Nat) := [(257, .ireturn, 1), (258, .aload_n 0, 1), (259, .bipush 108, 2), (261, .invokevirtual 82, 3), (264, .istore_n 2, 1), (265, .iload_n 2, 1), (266, .ifCond .ne 16, 3), (269, .aload_n 0, 1), (270, .bipush 111, 2), (272, .invokevirtual 82, 3), (275, .ifCond .eq 7, 3), (278, .iconst 1, 1), (279, .goto 4, 3), (282, .iconst 0, 1), (283, .istore_n 3, 1), (284, .iload_n 2, 1), (285, .ifCond .ne 18, 3), (288, .iload_n 3, 1), (289, .ifCond .ne 14, 3), (292, .aload_n 0, 1), (293, .bipush 109, 2), (295, .invokevirtual 82, 3), (298, .ifCond .ne 5, 3), (301, .iconst (-1), 1), (302, .ireturn, 1)]
set_option maxRecDepth 100000 in
theorem dm_X4_statement_c150 : dl_X4_statement_c150.all (fun q => decide (decode cX4_statement q.1 = .ok q.2)) = true := by decide +kernel
theorem dX4_statement_257 : decode cX4_statement 257 = .ok (.ireturn, 1) := d_of dm_X4_statement_c150 0 (q := (257, .ireturn, 1)) rfl
theorem dX4_statement_258 : decode cX4_statement 258 = .ok (.aload_n 0, 1) := d_of dm_X4_statement_c150 1 (q := (258, .aload_n 0, 1)) rfl
theorem dX4_statement_259 : decode cX4_statement 259 = .ok (.bipush 108, 2) := d_of dm_X4_statement_c150 2 (q := (259, .bipush 108, 2)) rfl
theorem dX4_statement_261 : decode cX4_statement 261 = .ok (.invokevirtual 82, 3) := d_of dm_X4_statement_c150 3 (q := (261, .invokevirtual 82, 3)) rfl
theorem dX4_statement_264 : decode cX4_statement 264 = .ok (.istore_n 2, 1) := d_of dm_X4_statement_c150 4 (q := (264, .istore_n 2, 1)) rfl
theorem dX4_statement_265 : decode cX4_statement 265 = .ok (.iload_n 2, 1) := d_of dm_X4_statement_c150 5 (q := (265, .iload_n 2, 1)) rfl
theorem dX4_statement_266 : decode cX4_statement 266 = .ok (.ifCond .ne 16, 3) := d_of dm_X4_statement_c150 6 (q := (266, .ifCond .ne 16, 3)) rfl
theorem dX4_statement_269 : decode cX4_statement 269 = .ok (.aload_n 0, 1) := d_of dm_X4_statement_c150 7 (q := (269, .aload_n 0, 1)) rfl
theorem dX4_statement_270 : decode cX4_statement 270 = .ok (.bipush 111, 2) := d_of dm_X4_statement_c150 8 (q := (270, .bipush 111, 2)) rfl
theorem dX4_statement_272 : decode cX4_statement 272 = .ok (.invokevirtual 82, 3) := d_of dm_X4_statement_c150 9 (q := (272, .invokevirtual 82, 3)) rfl
theorem dX4_statement_275 : decode cX4_statement 275 = .ok (.ifCond .eq 7, 3) := d_of dm_X4_statement_c150 10 (q := (275, .ifCond .eq 7, 3)) rfl
theorem dX4_statement_278 : decode cX4_statement 278 = .ok (.iconst 1, 1) := d_of dm_X4_statement_c150 11 (q := (278, .iconst 1, 1)) rfl
theorem dX4_statement_279 : decode cX4_statement 279 = .ok (.goto 4, 3) := d_of dm_X4_statement_c150 12 (q := (279, .goto 4, 3)) rfl
theorem dX4_statement_282 : decode cX4_statement 282 = .ok (.iconst 0, 1) := d_of dm_X4_statement_c150 13 (q := (282, .iconst 0, 1)) rfl
theorem dX4_statement_283 : decode cX4_statement 283 = .ok (.istore_n 3, 1) := d_of dm_X4_statement_c150 14 (q := (283, .istore_n 3, 1)) rfl
theorem dX4_statement_284 : decode cX4_statement 284 = .ok (.iload_n 2, 1) := d_of dm_X4_statement_c150 15 (q := (284, .iload_n 2, 1)) rfl
theorem dX4_statement_285 : decode cX4_statement 285 = .ok (.ifCond .ne 18, 3) := d_of dm_X4_statement_c150 16 (q := (285, .ifCond .ne 18, 3)) rfl
theorem dX4_statement_288 : decode cX4_statement 288 = .ok (.iload_n 3, 1) := d_of dm_X4_statement_c150 17 (q := (288, .iload_n 3, 1)) rfl
theorem dX4_statement_289 : decode cX4_statement 289 = .ok (.ifCond .ne 14, 3) := d_of dm_X4_statement_c150 18 (q := (289, .ifCond .ne 14, 3)) rfl
theorem dX4_statement_292 : decode cX4_statement 292 = .ok (.aload_n 0, 1) := d_of dm_X4_statement_c150 19 (q := (292, .aload_n 0, 1)) rfl
theorem dX4_statement_293 : decode cX4_statement 293 = .ok (.bipush 109, 2) := d_of dm_X4_statement_c150 20 (q := (293, .bipush 109, 2)) rfl
theorem dX4_statement_295 : decode cX4_statement 295 = .ok (.invokevirtual 82, 3) := d_of dm_X4_statement_c150 21 (q := (295, .invokevirtual 82, 3)) rfl
theorem dX4_statement_298 : decode cX4_statement 298 = .ok (.ifCond .ne 5, 3) := d_of dm_X4_statement_c150 22 (q := (298, .ifCond .ne 5, 3)) rfl
theorem dX4_statement_301 : decode cX4_statement 301 = .ok (.iconst (-1), 1) := d_of dm_X4_statement_c150 23 (q := (301, .iconst (-1), 1)) rfl
theorem dX4_statement_302 : decode cX4_statement 302 = .ok (.ireturn, 1) := d_of dm_X4_statement_c150 24 (q := (302, .ireturn, 1)) rfl
def dl_X4_statement_c175 : List (Nat × Instr × Nat) := [(303, .aload_n 0, 1), (304, .iconst 0, 1), (305, .invokevirtual 86, 3), (308, .ifCond .eq 11, 3), (311, .aload_n 0, 1), (312, .iconst 1, 1), (313, .invokevirtual 86, 3), (316, .ifCond .ne 5, 3), (319, .iconst (-1), 1), (320, .ireturn, 1), (321, .iload_n 1, 1), (322, .ifCond .ne 5, 3), (325, .iconst 1, 1), (326, .ireturn, 1), (327, .aload_n 0, 1), (328, .getfield 31, 3), (331, .iconst 0, 1), (332, .iaload, 1), (333, .istore 4, 2), (335, .aload_n 0, 1), (336, .getfield 31, 3), (339, .iconst 1, 1), (340, .iaload, 1), (341, .istore 5, 2), (343, .iload_n 2, 1)]
set_option maxRecDepth 100000 in
theorem dm_X4_statement_c175 : dl_X4_statement_c175.all (fun q => decide (decode cX4_statement q.1 = .ok q.2)) = true := by decide +kernel
theorem dX4_statement_303 : decode cX4_statement 303 = .ok (.aload_n 0, 1) := d_of dm_X4_statement_c175 0 (q := (303, .aload_n 0, 1)) rfl
theorem dX4_statement_304 : decode cX4_statement 304 = .ok (.iconst 0, 1) := d_of dm_X4_statement_c175 1 (q := (304, .iconst 0, 1)) rfl
theorem dX4_statement_305 : decode cX4_statement 305 = .ok (.invokevirtual 86, 3) := d_of dm_X4_statement_c175 2 (q := (305, .invokevirtual 86, 3)) rfl
theorem dX4_statement_308 : decode cX4_statement 308 = .ok (.ifCond .eq 11, 3) := d_of dm_X4_statement_c175 3 (q := (308, .ifCond .eq 11, 3)) rfl
theorem dX4_statement_311 : decode cX4_statement 311 = .ok (.aload_n 0, 1) := d_of dm_X4_statement_c175 4 (q := (311, .aload_n 0, 1)) rfl
theorem dX4_statement_312 : decode cX4_statement 312 = .ok (.iconst 1, 1) := d_of dm_X4_statement_c175 5 (q := (312, .iconst 1, 1)) rfl
theorem dX4_statement_313 : decode cX4_statement 313 = .ok (.invokevirtual 86, 3) := d_of dm_X4_statement_c175 6 (q := (313, .invokevirtual 86, 3)) rfl
theorem dX4_statement_316 : decode cX4_statement 316 = .ok (.ifCond .ne 5, 3) := d_of dm_X4_statement_c175 7 (q := (316, .ifCond .ne 5, 3)) rfl
theorem dX4_statement_319 : decode cX4_statement 319 = .ok (.iconst (-1), 1) := d_of dm_X4_statement_c175 8 (q := (319, .iconst (-1), 1)) rfl
theorem dX4_statement_320 : decode cX4_statement 320 = .ok (.ireturn, 1) := d_of dm_X4_statement_c175 9 (q := (320, .ireturn, 1)) rfl
theorem dX4_statement_321 : decode cX4_statement 321 = .ok (.iload_n 1, 1) := d_of dm_X4_statement_c175 10 (q := (321, .iload_n 1, 1)) rfl
theorem dX4_statement_322 : decode cX4_statement 322 = .ok (.ifCond .ne 5, 3) := d_of dm_X4_statement_c175 11 (q := (322, .ifCond .ne 5, 3)) rfl
theorem dX4_statement_325 : decode cX4_statement 325 = .ok (.iconst 1, 1) := d_of dm_X4_statement_c175 12 (q := (325, .iconst 1, 1)) rfl
theorem dX4_statement_326 : decode cX4_statement 326 = .ok (.ireturn, 1) := d_of dm_X4_statement_c175 13 (q := (326, .ireturn, 1)) rfl
theorem dX4_statement_327 : decode cX4_statement 327 = .ok (.aload_n 0, 1) := d_of dm_X4_statement_c175 14 (q := (327, .aload_n 0, 1)) rfl
theorem dX4_statement_328 : decode cX4_statement 328 = .ok (.getfield 31, 3) := d_of dm_X4_statement_c175 15 (q := (328, .getfield 31, 3)) rfl
theorem dX4_statement_331 : decode cX4_statement 331 = .ok (.iconst 0, 1) := d_of dm_X4_statement_c175 16 (q := (331, .iconst 0, 1)) rfl
theorem dX4_statement_332 : decode cX4_statement 332 = .ok (.iaload, 1) := d_of dm_X4_statement_c175 17 (q := (332, .iaload, 1)) rfl
theorem dX4_statement_333 : decode cX4_statement 333 = .ok (.istore 4, 2) := d_of dm_X4_statement_c175 18 (q := (333, .istore 4, 2)) rfl
theorem dX4_statement_335 : decode cX4_statement 335 = .ok (.aload_n 0, 1) := d_of dm_X4_statement_c175 19 (q := (335, .aload_n 0, 1)) rfl
theorem dX4_statement_336 : decode cX4_statement 336 = .ok (.getfield 31, 3) := d_of dm_X4_statement_c175 20 (q := (336, .getfield 31, 3)) rfl
theorem dX4_statement_339 : decode cX4_statement 339 = .ok (.iconst 1, 1) := d_of dm_X4_statement_c175 21 (q := (339, .iconst 1, 1)) rfl
theorem dX4_statement_340 : decode cX4_statement 340 = .ok (.iaload, 1) := d_of dm_X4_statement_c175 22 (q := (340, .iaload, 1)) rfl
theorem dX4_statement_341 : decode cX4_statement 341 = .ok (.istore 5, 2) := d_of dm_X4_statement_c175 23 (q := (341, .istore 5, 2)) rfl
theorem dX4_statement_343 : decode cX4_statement 343 = .ok (.iload_n 2, 1) := d_of dm_X4_statement_c175 24 (q := (343, .iload_n 2, 1)) rfl
def dl_X4_statement_c200 : List (Nat × Instr × Nat) := [(344, .ifCond .eq 89, 3), (347, .iload 4, 2), (349, .invokestatic 105, 3), (352, .ifCond .eq 38, 3), (355, .iload 5, 2), (357, .invokestatic 105, 3), (360, .ifCond .eq 30, 3), (363, .iload 4, 2), (365, .iload 5, 2), (367, .if_icmp .eq 23, 3), (370, .aload_n 0, 1), (371, .iload 4, 2), (373, .iload 5, 2), (375, .invokevirtual 108, 3), (378, .ifCond .ne 12, 3), (381, .aload_n 0, 1), (382, .getfield 60, 3), (385, .bipush 10, 2), (387, .if_icmp .ne 5, 3), (390, .iconst 0, 1), (391, .ireturn, 1), (392, .aload_n 0, 1), (393, .getfield 7, 3), (396, .aload_n 0, 1), (397, .getfield 60, 3)]
set_option maxRecDepth 100000 in
theorem dm_X4_statement_c200 : dl_X4_statement_c200.all (fun q => decide (decode cX4_statement q.1 = .ok q.2)) = true := by decide +kernel
theorem dX4_statement_344 : decode cX4_statement 344 = .ok (.ifCond .eq 89, 3) := d_of dm_X4_statement_c200 0 (q := (344, .ifCond .eq 89, 3)) rfl
theorem dX4_statement_347 : decode cX4_statement 347 = .ok (.iload 4, 2) := d_of dm_X4_statement_c200 1 (q := (347, .iload 4, 2)) rfl
theorem dX4_statement_349 : decode cX4_statement 349 = .ok (.invokestatic 105, 3) := d_of dm_X4_statement_c200 2 (q := (349, .invokestatic 105, 3)) rfl
theorem dX4_statement_352 : decode cX4_statement 352 = .ok (.ifCond .eq 38, 3) := d_of dm_X4_statement_c200 3 (q := (352, .ifCond .eq 38, 3)) rfl
theorem dX4_statement_355 : decode cX4_statement 355 = .ok (.iload 5, 2) := d_of dm_X4_statement_c200 4 (q := (355, .iload 5, 2)) rfl
theorem dX4_statement_357 : decode cX4_statement 357 = .ok (.invokestatic 105, 3) := d_of dm_X4_statement_c200 5 (q := (357, .invokestatic 105, 3)) rfl
theorem dX4_statement_360 : decode cX4_statement 360 = .ok (.ifCond .eq 30, 3) := d_of dm_X4_statement_c200 6 (q := (360, .ifCond .eq 30, 3)) rfl
theorem dX4_statement_363 : decode cX4_statement 363 = .ok (.iload 4, 2) := d_of dm_X4_statement_c200 7 (q := (363, .iload 4, 2)) rfl
theorem dX4_statement_365 : decode cX4_statement 365 = .ok (.iload 5, 2) := d_of dm_X4_statement_c200 8 (q := (365, .iload 5, 2)) rfl
theorem dX4_statement_367 : decode cX4_statement 367 = .ok (.if_icmp .eq 23, 3) := d_of dm_X4_statement_c200 9 (q := (367, .if_icmp .eq 23, 3)) rfl
theorem dX4_statement_370 : decode cX4_statement 370 = .ok (.aload_n 0, 1) := d_of dm_X4_statement_c200 10 (q := (370, .aload_n 0, 1)) rfl
theorem dX4_statement_371 : decode cX4_statement 371 = .ok (.iload 4, 2) := d_of dm_X4_statement_c200 11 (q := (371, .iload 4, 2)) rfl
theorem dX4_statement_373 : decode cX4_statement 373 = .ok (.iload 5, 2) := d_of dm_X4_statement_c200 12 (q := (373, .iload 5, 2)) rfl
theorem dX4_statement_375 : decode cX4_statement 375 = .ok (.invokevirtual 108, 3) := d_of dm_X4_statement_c200 13 (q := (375, .invokevirtual 108, 3)) rfl
theorem dX4_statement_378 : decode cX4_statement 378 = .ok (.ifCond .ne 12, 3) := d_of dm_X4_statement_c200 14 (q := (378, .ifCond .ne 12, 3)) rfl
theorem dX4_statement_381 : decode cX4_statement 381 = .ok (.aload_n 0, 1) := d_of dm_X4_statement_c200 15 (q := (381, .aload_n 0, 1)) rfl
theorem dX4_statement_382 : decode cX4_statement 382 = .ok (.getfield 60, 3) := d_of dm_X4_statement_c200 16 (q := (382, .getfield 60, 3)) rfl
theorem dX4_statement_385 : decode cX4_statement 385 = .ok (.bipush 10, 2) := d_of dm_X4_statement_c200 17 (q := (385, .bipush 10, 2)) rfl
theorem dX4_statement_387 : decode cX4_statement 387 = .ok (.if_icmp .ne 5, 3) := d_of dm_X4_statement_c200 18 (q := (387, .if_icmp .ne 5, 3)) rfl
theorem dX4_statement_390 : decode cX4_statement 390 = .ok (.iconst 0, 1) := d_of dm_X4_statement_c200 19 (q := (390, .iconst 0, 1)) rfl
theorem dX4_statement_391 : decode cX4_statement 391 = .ok (.ireturn, 1) := d_of dm_X4_statement_c200 20 (q := (391, .ireturn, 1)) rfl
theorem dX4_statement_392 : decode cX4_statement 392 = .ok (.aload_n 0, 1) := d_of dm_X4_statement_c200 21 (q := (392, .aload_n 0, 1)) rfl
theorem dX4_statement_393 : decode cX4_statement 393 = .ok (.getfield 7, 3) := d_of dm_X4_statement_c200 22 (q := (393, .getfield 7, 3)) rfl
theorem dX4_statement_396 : decode cX4_statement 396 = .ok (.aload_n 0, 1) := d_of dm_X4_statement_c200 23 (q := (396, .aload_n 0, 1)) rfl
theorem dX4_statement_397 : decode cX4_statement 397 = .ok (.getfield 60, 3) := d_of dm_X4_statement_c200 24 (q := (397, .getfield 60, 3)) rfl
def dl_X4_statement_c225 : List (Nat × Instr × Nat) := [(400, .iload 4, 2), (402, .iload 5, 2), (404, .invokestatic 73, 3), (407, .iastore, 1), (408, .aload_n 0, 1), (409, .getfield 13, 3), (412, .aload_n 0, 1), (413, .dup, 1), (414, .getfield 60, 3), (417, .dup_x1, 1), (418, .iconst 1, 1), (419, .iadd, 1), (420, .putfield 60, 3), (423, .iload 4, 2), (425, .iload 5, 2), (427, .invokestatic 79, 3), (430, .iastore, 1), (431, .iconst 1, 1), (432, .ireturn, 1), (433, .aload_n 0, 1), (434, .iload 4, 2), (436, .invokevirtual 112, 3), (439, .ifCond .ne 5, 3), (442, .iconst 0, 1), (443, .ireturn, 1)]
set_option maxRecDepth 100000 in
theorem dm_X4_statement_c225 : dl_X4_statement_c225.all (fun q => decide (decode cX4_statement q.1 = .ok q.2)) = true := by decide +kernel
theorem dX4_statement_400 : decode cX4_statement 400 = .ok (.iload 4, 2) := d_of dm_X4_statement_c225 0 (q := (400, .iload 4, 2)) rfl
theorem dX4_statement_402 : decode cX4_statement 402 = .ok (.iload 5, 2) := d_of dm_X4_statement_c225 1 (q := (402, .iload 5, 2)) rfl
theorem dX4_statement_404 : decode cX4_statement 404 = .ok (.invokestatic 73, 3) := d_of dm_X4_statement_c225 2 (q := (404, .invokestatic 73, 3)) rfl
theorem dX4_statement_407 : decode cX4_statement 407 = .ok (.iastore, 1) := d_of dm_X4_statement_c225 3 (q := (407, .iastore, 1)) rfl
theorem dX4_statement_408 : decode cX4_statement 408 = .ok (.aload_n 0, 1) := d_of dm_X4_statement_c225 4 (q := (408, .aload_n 0, 1)) rfl
theorem dX4_statement_409 : decode cX4_statement 409 = .ok (.getfield 13, 3) := d_of dm_X4_statement_c225 5 (q := (409, .getfield 13, 3)) rfl
theorem dX4_statement_412 : decode cX4_statement 412 = .ok (.aload_n 0, 1) := d_of dm_X4_statement_c225 6 (q := (412, .aload_n 0, 1)) rfl
theorem dX4_statement_413 : decode cX4_statement 413 = .ok (.dup, 1) := d_of dm_X4_statement_c225 7 (q := (413, .dup, 1)) rfl
theorem dX4_statement_414 : decode cX4_statement 414 = .ok (.getfield 60, 3) := d_of dm_X4_statement_c225 8 (q := (414, .getfield 60, 3)) rfl
theorem dX4_statement_417 : decode cX4_statement 417 = .ok (.dup_x1, 1) := d_of dm_X4_statement_c225 9 (q := (417, .dup_x1, 1)) rfl
theorem dX4_statement_418 : decode cX4_statement 418 = .ok (.iconst 1, 1) := d_of dm_X4_statement_c225 10 (q := (418, .iconst 1, 1)) rfl
theorem dX4_statement_419 : decode cX4_statement 419 = .ok (.iadd, 1) := d_of dm_X4_statement_c225 11 (q := (419, .iadd, 1)) rfl
theorem dX4_statement_420 : decode cX4_statement 420 = .ok (.putfield 60, 3) := d_of dm_X4_statement_c225 12 (q := (420, .putfield 60, 3)) rfl
theorem dX4_statement_423 : decode cX4_statement 423 = .ok (.iload 4, 2) := d_of dm_X4_statement_c225 13 (q := (423, .iload 4, 2)) rfl
theorem dX4_statement_425 : decode cX4_statement 425 = .ok (.iload 5, 2) := d_of dm_X4_statement_c225 14 (q := (425, .iload 5, 2)) rfl
theorem dX4_statement_427 : decode cX4_statement 427 = .ok (.invokestatic 79, 3) := d_of dm_X4_statement_c225 15 (q := (427, .invokestatic 79, 3)) rfl
theorem dX4_statement_430 : decode cX4_statement 430 = .ok (.iastore, 1) := d_of dm_X4_statement_c225 16 (q := (430, .iastore, 1)) rfl
theorem dX4_statement_431 : decode cX4_statement 431 = .ok (.iconst 1, 1) := d_of dm_X4_statement_c225 17 (q := (431, .iconst 1, 1)) rfl
theorem dX4_statement_432 : decode cX4_statement 432 = .ok (.ireturn, 1) := d_of dm_X4_statement_c225 18 (q := (432, .ireturn, 1)) rfl
theorem dX4_statement_433 : decode cX4_statement 433 = .ok (.aload_n 0, 1) := d_of dm_X4_statement_c225 19 (q := (433, .aload_n 0, 1)) rfl
theorem dX4_statement_434 : decode cX4_statement 434 = .ok (.iload 4, 2) := d_of dm_X4_statement_c225 20 (q := (434, .iload 4, 2)) rfl
theorem dX4_statement_436 : decode cX4_statement 436 = .ok (.invokevirtual 112, 3) := d_of dm_X4_statement_c225 21 (q := (436, .invokevirtual 112, 3)) rfl
theorem dX4_statement_439 : decode cX4_statement 439 = .ok (.ifCond .ne 5, 3) := d_of dm_X4_statement_c225 22 (q := (439, .ifCond .ne 5, 3)) rfl
theorem dX4_statement_442 : decode cX4_statement 442 = .ok (.iconst 0, 1) := d_of dm_X4_statement_c225 23 (q := (442, .iconst 0, 1)) rfl
theorem dX4_statement_443 : decode cX4_statement 443 = .ok (.ireturn, 1) := d_of dm_X4_statement_c225 24 (q := (443, .ireturn, 1)) rfl
def dl_X4_statement_c250 : List (Nat × Instr × Nat) := [(444, .iload_n 3, 1), (445, .ifCond .eq 32, 3), (448, .aload_n 0, 1), (449, .iload 5, 2), (451, .invokevirtual 112, 3), (454, .ifCond .eq 10, 3), (457, .iload 4, 2), (459, .iload 5, 2), (461, .if_icmp .ne 5, 3), (464, .iconst 0, 1), (465, .ireturn, 1), (466, .aload_n 0, 1), (467, .iload 4, 2), (469, .iload 5, 2), (471, .invokevirtual 115, 3), (474, .pop, 1), (475, .iconst 1, 1), (476, .ireturn, 1), (477, .iload 5, 2), (479, .invokestatic 105, 3), (482, .ifCond .ne 5, 3), (485, .iconst 0, 1), (486, .ireturn, 1), (487, .aload_n 0, 1), (488, .getfield 19, 3)]
set_option maxRecDepth 100000 in
theorem dm_X4_statement_c250 : dl_X4_statement_c250.all (fun q => decide (decode cX4_statement q.1 = .ok q.2)) = true := by decide +kernel
theorem dX4_statement_444 : decode cX4_statement 444 = .ok (.iload_n 3, 1) := d_of dm_X4_statement_c250 0 (q := (444, .iload_n 3, 1)) rfl
theorem dX4_statement_445 : decode cX4_statement 445 = .ok (.ifCond .eq 32, 3) := d_of dm_X4_statement_c250 1 (q := (445, .ifCond .eq 32, 3)) rfl
theorem dX4_statement_448 : decode cX4_statement 448 = .ok (.aload_n 0, 1) := d_of dm_X4_statement_c250 2 (q := (448, .aload_n 0, 1)) rfl
theorem dX4_statement_449 : decode cX4_statement 449 = .ok (.iload 5, 2) := d_of dm_X4_statement_c250 3 (q := (449, .iload 5, 2)) rfl
theorem dX4_statement_451 : decode cX4_statement 451 = .ok (.invokevirtual 112, 3) := d_of dm_X4_statement_c250 4 (q := (451, .invokevirtual 112, 3)) rfl
theorem dX4_statement_454 : decode cX4_statement 454 = .ok (.ifCond .eq 10, 3) := d_of dm_X4_statement_c250 5 (q := (454, .ifCond .eq 10, 3)) rfl
theorem dX4_statement_457 : decode cX4_statement 457 = .ok (.iload 4, 2) := d_of dm_X4_statement_c250 6 (q := (457, .iload 4, 2)) rfl
theorem dX4_statement_459 : decode cX4_statement 459 = .ok (.iload 5, 2) := d_of dm_X4_statement_c250 7 (q := (459, .iload 5, 2)) rfl
theorem dX4_statement_461 : decode cX4_statement 461 = .ok (.if_icmp .ne 5, 3) := d_of dm_X4_statement_c250 8 (q := (461, .if_icmp .ne 5, 3)) rfl
theorem dX4_statement_464 : decode cX4_statement 464 = .ok (.iconst 0, 1) := d_of dm_X4_statement_c250 9 (q := (464, .iconst 0, 1)) rfl
theorem dX4_statement_465 : decode cX4_statement 465 = .ok (.ireturn, 1) := d_of dm_X4_statement_c250 10 (q := (465, .ireturn, 1)) rfl
theorem dX4_statement_466 : decode cX4_statement 466 = .ok (.aload_n 0, 1) := d_of dm_X4_statement_c250 11 (q := (466, .aload_n 0, 1)) rfl
theorem dX4_statement_467 : decode cX4_statement 467 = .ok (.iload 4, 2) := d_of dm_X4_statement_c250 12 (q := (467, .iload 4, 2)) rfl
theorem dX4_statement_469 : decode cX4_statement 469 = .ok (.iload 5, 2) := d_of dm_X4_statement_c250 13 (q := (469, .iload 5, 2)) rfl
theorem dX4_statement_471 : decode cX4_statement 471 = .ok (.invokevirtual 115, 3) := d_of dm_X4_statement_c250 14 (q := (471, .invokevirtual 115, 3)) rfl
theorem dX4_statement_474 : decode cX4_statement 474 = .ok (.pop, 1) := d_of dm_X4_statement_c250 15 (q := (474, .pop, 1)) rfl
theorem dX4_statement_475 : decode cX4_statement 475 = .ok (.iconst 1, 1) := d_of dm_X4_statement_c250 16 (q := (475, .iconst 1, 1)) rfl
theorem dX4_statement_476 : decode cX4_statement 476 = .ok (.ireturn, 1) := d_of dm_X4_statement_c250 17 (q := (476, .ireturn, 1)) rfl
theorem dX4_statement_477 : decode cX4_statement 477 = .ok (.iload 5, 2) := d_of dm_X4_statement_c250 18 (q := (477, .iload 5, 2)) rfl
theorem dX4_statement_479 : decode cX4_statement 479 = .ok (.invokestatic 105, 3) := d_of dm_X4_statement_c250 19 (q := (479, .invokestatic 105, 3)) rfl
theorem dX4_statement_482 : decode cX4_statement 482 = .ok (.ifCond .ne 5, 3) := d_of dm_X4_statement_c250 20 (q := (482, .ifCond .ne 5, 3)) rfl
theorem dX4_statement_485 : decode cX4_statement 485 = .ok (.iconst 0, 1) := d_of dm_X4_statement_c250 21 (q := (485, .iconst 0, 1)) rfl
theorem dX4_statement_486 : decode cX4_statement 486 = .ok (.ireturn, 1) := d_of dm_X4_statement_c250 22 (q := (486, .ireturn, 1)) rfl
theorem dX4_statement_487 : decode cX4_statement 487 = .ok (.aload_n 0, 1) := d_of dm_X4_statement_c250 23 (q := (487, .aload_n 0, 1)) rfl
theorem dX4_statement_488 : decode cX4_statement 488 = .ok (.getfield 19, 3) := d_of dm_X4_statement_c250 24 (q := (488, .getfield 19, 3)) rfl
def dl_X4_statement_c275 : List (Nat × Instr × Nat) := [(491, .iload 4, 2), (493, .iload 5, 2), (495, .iastore, 1), (496, .iconst 1, 1), (497, .ireturn, 1)]
set_option maxRecDepth 100000 in
theorem dm_X4_statement_c275 : dl_X4_statement_c275.all (fun q => decide (decode cX4_statement q.1 = .ok q.2)) = true := by decide +kernel
theorem dX4_statement_491 : decode cX4_statement 491 = .ok (.iload 4, 2) := d_of dm_X4_statement_c275 0 (q := (491, .iload 4, 2)) rfl
theorem dX4_statement_493 : decode cX4_statement 493 = .ok (.iload 5, 2) := d_of dm_X4_statement_c275 1 (q := (493, .iload 5, 2)) rfl
theorem dX4_statement_495 : decode cX4_statement 495 = .ok (.iastore, 1) := d_of dm_X4_statement_c275 2 (q := (495, .iastore, 1)) rfl
theorem dX4_statement_496 : decode cX4_statement 496 = .ok (.iconst 1, 1) := d_of dm_X4_statement_c275 3 (q := (496, .iconst 1, 1)) rfl
theorem dX4_statement_497 : decode cX4_statement 497 = .ok (.ireturn, 1) := d_of dm_X4_statement_c275 4 (q := (497, .ireturn, 1)) rfl
def dl_X4_house_c0 : List (Nat × Instr × Nat) := [(0, .aload_n 0, 1), (1, .iconst 0, 1), (2, .putfield 70, 3), (5, .iconst 1, 1), (6, .istore_n 1, 1), (7, .iload_n 1, 1), (8, .ifCond .eq 45, 3), (11, .aload_n 0, 1), (12, .iconst 0, 1), (13, .invokevirtual 118, 3), (16, .iconst 1, 1), (17, .if_icmp .ne 16, 3), (20, .aload_n 0, 1), (21, .bipush 59, 2), (23, .invokevirtual 82, 3), (26, .ifCond .eq 7, 3), (29, .iconst 1, 1), (30, .goto 4, 3), (33, .iconst 0, 1), (34, .istore_n 1, 1), (35, .iload_n 1, 1), (36, .ifCond .eq (-29), 3), (39, .aload_n 0, 1), (40, .getfield 70, 3), (43, .aload_n 0, 1)]
set_option maxRecDepth 100000 in
theorem dm_X4_house_c0 : dl_X4_house_c0.all (fun q => decide (decode cX4_house q.1 = .ok q.2)) = true := by decide +kernel
theorem dX4_house_0 : decode cX4_house 0 = .ok (.aload_n 0, 1) := d_of dm_X4_house_c0 0 (q := (0, .aload_n 0, 1)) rfl
theorem dX4_house_1 : decode cX4_house 1 = .ok (.iconst 0, 1) := d_of dm_X4_house_c0 1 (q := (1, .iconst 0, 1)) rfl
theorem dX4_house_2 : decode cX4_house 2 = .ok (.putfield 70, 3) := d_of dm_X4_house_c0 2 (q := (2, .putfield 70, 3)) rfl
theorem dX4_house_5 : decode cX4_house 5 = .ok (.iconst 1, 1) := d_of dm_X4_house_c0 3 (q := (5, .iconst 1, 1)) rfl
theorem dX4_house_6 : decode cX4_house 6 = .ok (.istore_n 1, 1) := d_of dm_X4_house_c0 4 (q := (6, .istore_n 1, 1)) rfl
theorem dX4_house_7 : decode cX4_house 7 = .ok (.iload_n 1, 1) := d_of dm_X4_house_c0 5 (q := (7, .iload_n 1, 1)) rfl
theorem dX4_house_8 : decode cX4_house 8 = .ok (.ifCond .eq 45, 3) := d_of dm_X4_house_c0 6 (q := (8, .ifCond .eq 45, 3)) rfl
theorem dX4_house_11 : decode cX4_house 11 = .ok (.aload_n 0, 1) := d_of dm_X4_house_c0 7 (q := (11, .aload_n 0, 1)) rfl
theorem dX4_house_12 : decode cX4_house 12 = .ok (.iconst 0, 1) := d_of dm_X4_house_c0 8 (q := (12, .iconst 0, 1)) rfl
theorem dX4_house_13 : decode cX4_house 13 = .ok (.invokevirtual 118, 3) := d_of dm_X4_house_c0 9 (q := (13, .invokevirtual 118, 3)) rfl
theorem dX4_house_16 : decode cX4_house 16 = .ok (.iconst 1, 1) := d_of dm_X4_house_c0 10 (q := (16, .iconst 1, 1)) rfl
theorem dX4_house_17 : decode cX4_house 17 = .ok (.if_icmp .ne 16, 3) := d_of dm_X4_house_c0 11 (q := (17, .if_icmp .ne 16, 3)) rfl
theorem dX4_house_20 : decode cX4_house 20 = .ok (.aload_n 0, 1) := d_of dm_X4_house_c0 12 (q := (20, .aload_n 0, 1)) rfl
theorem dX4_house_21 : decode cX4_house 21 = .ok (.bipush 59, 2) := d_of dm_X4_house_c0 13 (q := (21, .bipush 59, 2)) rfl
theorem dX4_house_23 : decode cX4_house 23 = .ok (.invokevirtual 82, 3) := d_of dm_X4_house_c0 14 (q := (23, .invokevirtual 82, 3)) rfl
theorem dX4_house_26 : decode cX4_house 26 = .ok (.ifCond .eq 7, 3) := d_of dm_X4_house_c0 15 (q := (26, .ifCond .eq 7, 3)) rfl
theorem dX4_house_29 : decode cX4_house 29 = .ok (.iconst 1, 1) := d_of dm_X4_house_c0 16 (q := (29, .iconst 1, 1)) rfl
theorem dX4_house_30 : decode cX4_house 30 = .ok (.goto 4, 3) := d_of dm_X4_house_c0 17 (q := (30, .goto 4, 3)) rfl
theorem dX4_house_33 : decode cX4_house 33 = .ok (.iconst 0, 1) := d_of dm_X4_house_c0 18 (q := (33, .iconst 0, 1)) rfl
theorem dX4_house_34 : decode cX4_house 34 = .ok (.istore_n 1, 1) := d_of dm_X4_house_c0 19 (q := (34, .istore_n 1, 1)) rfl
theorem dX4_house_35 : decode cX4_house 35 = .ok (.iload_n 1, 1) := d_of dm_X4_house_c0 20 (q := (35, .iload_n 1, 1)) rfl
theorem dX4_house_36 : decode cX4_house 36 = .ok (.ifCond .eq (-29), 3) := d_of dm_X4_house_c0 21 (q := (36, .ifCond .eq (-29), 3)) rfl
theorem dX4_house_39 : decode cX4_house 39 = .ok (.aload_n 0, 1) := d_of dm_X4_house_c0 22 (q := (39, .aload_n 0, 1)) rfl
theorem dX4_house_40 : decode cX4_house 40 = .ok (.getfield 70, 3) := d_of dm_X4_house_c0 23 (q := (40, .getfield 70, 3)) rfl
theorem dX4_house_43 : decode cX4_house 43 = .ok (.aload_n 0, 1) := d_of dm_X4_house_c0 24 (q := (43, .aload_n 0, 1)) rfl
def dl_X4_house_c25 : List (Nat × Instr × Nat) := [(44, .getfield 67, 3), (47, .if_icmp .ne (-40), 3), (50, .goto 3, 3), (53, .iload_n 1, 1), (54, .ifCond .ne 17, 3), (57, .aload_n 0, 1), (58, .iconst 0, 1), (59, .putfield 67, 3), (62, .sipush (-1000), 3), (65, .aload_n 0, 1), (66, .getfield 70, 3), (69, .isub, 1), (70, .ireturn, 1), (71, .aload_n 0, 1), (72, .aload_n 0, 1), (73, .getfield 43, 3), (76, .invokevirtual 122, 3), (79, .aload_n 0, 1), (80, .iconst 0, 1), (81, .putfield 70, 3), (84, .iconst 0, 1), (85, .istore_n 2, 1), (86, .aload_n 0, 1), (87, .getfield 70, 3), (90, .aload_n 0, 1)]
set_option maxRecDepth 100000 in
theorem dm_X4_house_c25 : dl_X4_house_c25.all (fun q => decide (decode cX4_house q.1 = .ok q.2)) = true := by decide +kernel
theorem dX4_house_44 : decode cX4_house 44 = .ok (.getfield 67, 3) := d_of dm_X4_house_c25 0 (q := (44, .getfield 67, 3)) rfl
theorem dX4_house_47 : decode cX4_house 47 = .ok (.if_icmp .ne (-40), 3) := d_of dm_X4_house_c25 1 (q := (47, .if_icmp .ne (-40), 3)) rfl
theorem dX4_house_50 : decode cX4_house 50 = .ok (.goto 3, 3) := d_of dm_X4_house_c25 2 (q := (50, .goto 3, 3)) rfl
theorem dX4_house_53 : decode cX4_house 53 = .ok (.iload_n 1, 1) := d_of dm_X4_house_c25 3 (q := (53, .iload_n 1, 1)) rfl
theorem dX4_house_54 : decode cX4_house 54 = .ok (.ifCond .ne 17, 3) := d_of dm_X4_house_c25 4 (q := (54, .ifCond .ne 17, 3)) rfl
theorem dX4_house_57 : decode cX4_house 57 = .ok (.aload_n 0, 1) := d_of dm_X4_house_c25 5 (q := (57, .aload_n 0, 1)) rfl
theorem dX4_house_58 : decode cX4_house 58 = .ok (.iconst 0, 1) := d_of dm_X4_house_c25 6 (q := (58, .iconst 0, 1)) rfl
theorem dX4_house_59 : decode cX4_house 59 = .ok (.putfield 67, 3) := d_of dm_X4_house_c25 7 (q := (59, .putfield 67, 3)) rfl
theorem dX4_house_62 : decode cX4_house 62 = .ok (.sipush (-1000), 3) := d_of dm_X4_house_c25 8 (q := (62, .sipush (-1000), 3)) rfl
theorem dX4_house_65 : decode cX4_house 65 = .ok (.aload_n 0, 1) := d_of dm_X4_house_c25 9 (q := (65, .aload_n 0, 1)) rfl
theorem dX4_house_66 : decode cX4_house 66 = .ok (.getfield 70, 3) := d_of dm_X4_house_c25 10 (q := (66, .getfield 70, 3)) rfl
theorem dX4_house_69 : decode cX4_house 69 = .ok (.isub, 1) := d_of dm_X4_house_c25 11 (q := (69, .isub, 1)) rfl
theorem dX4_house_70 : decode cX4_house 70 = .ok (.ireturn, 1) := d_of dm_X4_house_c25 12 (q := (70, .ireturn, 1)) rfl
theorem dX4_house_71 : decode cX4_house 71 = .ok (.aload_n 0, 1) := d_of dm_X4_house_c25 13 (q := (71, .aload_n 0, 1)) rfl
theorem dX4_house_72 : decode cX4_house 72 = .ok (.aload_n 0, 1) := d_of dm_X4_house_c25 14 (q := (72, .aload_n 0, 1)) rfl
theorem dX4_house_73 : decode cX4_house 73 = .ok (.getfield 43, 3) := d_of dm_X4_house_c25 15 (q := (73, .getfield 43, 3)) rfl
theorem dX4_house_76 : decode cX4_house 76 = .ok (.invokevirtual 122, 3) := d_of dm_X4_house_c25 16 (q := (76, .invokevirtual 122, 3)) rfl
theorem dX4_house_79 : decode cX4_house 79 = .ok (.aload_n 0, 1) := d_of dm_X4_house_c25 17 (q := (79, .aload_n 0, 1)) rfl
theorem dX4_house_80 : decode cX4_house 80 = .ok (.iconst 0, 1) := d_of dm_X4_house_c25 18 (q := (80, .iconst 0, 1)) rfl
theorem dX4_house_81 : decode cX4_house 81 = .ok (.putfield 70, 3) := d_of dm_X4_house_c25 19 (q := (81, .putfield 70, 3)) rfl
theorem dX4_house_84 : decode cX4_house 84 = .ok (.iconst 0, 1) := d_of dm_X4_house_c25 20 (q := (84, .iconst 0, 1)) rfl
theorem dX4_house_85 : decode cX4_house 85 = .ok (.istore_n 2, 1) := d_of dm_X4_house_c25 21 (q := (85, .istore_n 2, 1)) rfl
theorem dX4_house_86 : decode cX4_house 86 = .ok (.aload_n 0, 1) := d_of dm_X4_house_c25 22 (q := (86, .aload_n 0, 1)) rfl
theorem dX4_house_87 : decode cX4_house 87 = .ok (.getfield 70, 3) := d_of dm_X4_house_c25 23 (q := (87, .getfield 70, 3)) rfl
theorem dX4_house_90 : decode cX4_house 90 = .ok (.aload_n 0, 1) := d_of dm_X4_house_c25 24 (q := (90, .aload_n 0, 1)) rfl
def dl_X4_house_c50 : List (Nat × Instr × Nat) := [(91, .getfield 67, 3), (94, .if_icmp .ge 48, 3), (97, .aload_n 0, 1), (98, .getfield 70, 3), (101, .istore_n 3, 1), (102, .aload_n 0, 1), (103, .iconst 1, 1), (104, .invokevirtual 118, 3), (107, .ifCond .ne 22, 3), (110, .aload_n 0, 1), (111, .aload_n 0, 1), (112, .getfield 43, 3), (115, .invokevirtual 126, 3), (118, .aload_n 0, 1), (119, .iconst 0, 1), (120, .putfield 67, 3), (123, .sipush (-2000), 3), (126, .iload_n 3, 1), (127, .isub, 1), (128, .ireturn, 1), (129, .aload_n 0, 1), (130, .bipush 59, 2), (132, .invokevirtual 82, 3), (135, .pop, 1), (136, .iinc 2 1, 3)]
set_option maxRecDepth 100000 in
theorem dm_X4_house_c50 : dl_X4_house_c50.all (fun q => decide (decode cX4_house q.1 = .ok q.2)) = true := by decide +kernel
theorem dX4_house_91 : decode cX4_house 91 = .ok (.getfield 67, 3) := d_of dm_X4_house_c50 0 (q := (91, .getfield 67, 3)) rfl
theorem dX4_house_94 : decode cX4_house 94 = .ok (.if_icmp .ge 48, 3) := d_of dm_X4_house_c50 1 (q := (94, .if_icmp .ge 48, 3)) rfl
theorem dX4_house_97 : decode cX4_house 97 = .ok (.aload_n 0, 1) := d_of dm_X4_house_c50 2 (q := (97, .aload_n 0, 1)) rfl
theorem dX4_house_98 : decode cX4_house 98 = .ok (.getfield 70, 3) := d_of dm_X4_house_c50 3 (q := (98, .getfield 70, 3)) rfl
theorem dX4_house_101 : decode cX4_house 101 = .ok (.istore_n 3, 1) := d_of dm_X4_house_c50 4 (q := (101, .istore_n 3, 1)) rfl
theorem dX4_house_102 : decode cX4_house 102 = .ok (.aload_n 0, 1) := d_of dm_X4_house_c50 5 (q := (102, .aload_n 0, 1)) rfl
theorem dX4_house_103 : decode cX4_house 103 = .ok (.iconst 1, 1) := d_of dm_X4_house_c50 6 (q := (103, .iconst 1, 1)) rfl
theorem dX4_house_104 : decode cX4_house 104 = .ok (.invokevirtual 118, 3) := d_of dm_X4_house_c50 7 (q := (104, .invokevirtual 118, 3)) rfl
theorem dX4_house_107 : decode cX4_house 107 = .ok (.ifCond .ne 22, 3) := d_of dm_X4_house_c50 8 (q := (107, .ifCond .ne 22, 3)) rfl
theorem dX4_house_110 : decode cX4_house 110 = .ok (.aload_n 0, 1) := d_of dm_X4_house_c50 9 (q := (110, .aload_n 0, 1)) rfl
theorem dX4_house_111 : decode cX4_house 111 = .ok (.aload_n 0, 1) := d_of dm_X4_house_c50 10 (q := (111, .aload_n 0, 1)) rfl
theorem dX4_house_112 : decode cX4_house 112 = .ok (.getfield 43, 3) := d_of dm_X4_house_c50 11 (q := (112, .getfield 43, 3)) rfl
theorem dX4_house_115 : decode cX4_house 115 = .ok (.invokevirtual 126, 3) := d_of dm_X4_house_c50 12 (q := (115, .invokevirtual 126, 3)) rfl
theorem dX4_house_118 : decode cX4_house 118 = .ok (.aload_n 0, 1) := d_of dm_X4_house_c50 13 (q := (118, .aload_n 0, 1)) rfl
theorem dX4_house_119 : decode cX4_house 119 = .ok (.iconst 0, 1) := d_of dm_X4_house_c50 14 (q := (119, .iconst 0, 1)) rfl
theorem dX4_house_120 : decode cX4_house 120 = .ok (.putfield 67, 3) := d_of dm_X4_house_c50 15 (q := (120, .putfield 67, 3)) rfl
theorem dX4_house_123 : decode cX4_house 123 = .ok (.sipush (-2000), 3) := d_of dm_X4_house_c50 16 (q := (123, .sipush (-2000), 3)) rfl
theorem dX4_house_126 : decode cX4_house 126 = .ok (.iload_n 3, 1) := d_of dm_X4_house_c50 17 (q := (126, .iload_n 3, 1)) rfl
theorem dX4_house_127 : decode cX4_house 127 = .ok (.isub, 1) := d_of dm_X4_house_c50 18 (q := (127, .isub, 1)) rfl
theorem dX4_house_128 : decode cX4_house 128 = .ok (.ireturn, 1) := d_of dm_X4_house_c50 19 (q := (128, .ireturn, 1)) rfl
theorem dX4_house_129 : decode cX4_house 129 = .ok (.aload_n 0, 1) := d_of dm_X4_house_c50 20 (q := (129, .aload_n 0, 1)) rfl
theorem dX4_house_130 : decode cX4_house 130 = .ok (.bipush 59, 2) := d_of dm_X4_house_c50 21 (q := (130, .bipush 59, 2)) rfl
theorem dX4_house_132 : decode cX4_house 132 = .ok (.invokevirtual 82, 3) := d_of dm_X4_house_c50 22 (q := (132, .invokevirtual 82, 3)) rfl
theorem dX4_house_135 : decode cX4_house 135 = .ok (.pop, 1) := d_of dm_X4_house_c50 23 (q := (135, .pop, 1)) rfl
theorem dX4_house_136 : decode cX4_house 136 = .ok (.iinc 2 1, 3) := d_of dm_X4_house_c50 24 (q := (136, .iinc 2 1, 3)) rfl
def dl_X4_house_c75 : List (Nat × Instr × Nat) := [(139, .goto (-53), 3), (142, .aload_n 0, 1), (143, .iconst 0, 1), (144, .putfield 67, 3), (147, .iload_n 2, 1), (148, .ireturn, 1)]
set_option maxRecDepth 100000 in
theorem dm_X4_house_c75 : dl_X4_house_c75.all (fun q => decide (decode cX4_house q.1 = .ok q.2)) = true := by decide +kernel
theorem dX4_house_139 : decode cX4_house 139 = .ok (.goto (-53), 3) := d_of dm_X4_house_c75 0 (q := (139, .goto (-53), 3)) rfl
theorem dX4_house_142 : decode cX4_house 142 = .ok (.aload_n 0, 1) := d_of dm_X4_house_c75 1 (q := (142, .aload_n 0, 1)) rfl
theorem dX4_house_143 : decode cX4_house 143 = .ok (.iconst 0, 1) := d_of dm_X4_house_c75 2 (q := (143, .iconst 0, 1)) rfl
theorem dX4_house_144 : decode cX4_house 144 = .ok (.putfield 67, 3) := d_of dm_X4_house_c75 3 (q := (144, .putfield 67, 3)) rfl
theorem dX4_house_147 : decode cX4_house 147 = .ok (.iload_n 2, 1) := d_of dm_X4_house_c75 4 (q := (147, .iload_n 2, 1)) rfl
theorem dX4_house_148 : decode cX4_house 148 = .ok (.ireturn, 1) := d_of dm_X4_house_c75 5 (q := (148, .ireturn, 1)) rfl
def dl_X4_give_c0 : List (Nat × Instr × Nat) := [(0, .aload_n 0, 1), (1, .getfield 22, 3), (4, .iload_n 1, 1), (5, .iaload, 1), (6, .iload_n 2, 1), (7, .if_icmp .ne 5, 3), (10, .iconst 0, 1), (11, .ireturn, 1), (12, .iconst 0, 1), (13, .istore_n 3, 1), (14, .iconst 0, 1), (15, .istore 4, 2), (17, .iload 4, 2), (19, .aload_n 0, 1), (20, .getfield 52, 3), (23, .if_icmp .ge 58, 3), (26, .iload 4, 2), (28, .iload_n 1, 1), (29, .if_icmp .eq 46, 3), (32, .iload 4, 2), (34, .iload_n 2, 1), (35, .if_icmp .eq 40, 3), (38, .aload_n 0, 1), (39, .getfield 22, 3), (42, .iload 4, 2)]
set_option maxRecDepth 100000 in
theorem dm_X4_give_c0 : dl_X4_give_c0.all (fun q => decide (decode cX4_give q.1 = .ok q.2)) = true := by decide +kernel
theorem dX4_give_0 : decode cX4_give 0 = .ok (.aload_n 0, 1) := d_of dm_X4_give_c0 0 (q := (0, .aload_n 0, 1)) rfl
theorem dX4_give_1 : decode cX4_give 1 = .ok (.getfield 22, 3) := d_of dm_X4_give_c0 1 (q := (1, .getfield 22, 3)) rfl
theorem dX4_give_4 : decode cX4_give 4 = .ok (.iload_n 1, 1) := d_of dm_X4_give_c0 2 (q := (4, .iload_n 1, 1)) rfl
theorem dX4_give_5 : decode cX4_give 5 = .ok (.iaload, 1) := d_of dm_X4_give_c0 3 (q := (5, .iaload, 1)) rfl
theorem dX4_give_6 : decode cX4_give 6 = .ok (.iload_n 2, 1) := d_of dm_X4_give_c0 4 (q := (6, .iload_n 2, 1)) rfl
theorem dX4_give_7 : decode cX4_give 7 = .ok (.if_icmp .ne 5, 3) := d_of dm_X4_give_c0 5 (q := (7, .if_icmp .ne 5, 3)) rfl
theorem dX4_give_10 : decode cX4_give 10 = .ok (.iconst 0, 1) := d_of dm_X4_give_c0 6 (q := (10, .iconst 0, 1)) rfl
theorem dX4_give_11 : decode cX4_give 11 = .ok (.ireturn, 1) := d_of dm_X4_give_c0 7 (q := (11, .ireturn, 1)) rfl
theorem dX4_give_12 : decode cX4_give 12 = .ok (.iconst 0, 1) := d_of dm_X4_give_c0 8 (q := (12, .iconst 0, 1)) rfl
theorem dX4_give_13 : decode cX4_give 13 = .ok (.istore_n 3, 1) := d_of dm_X4_give_c0 9 (q := (13, .istore_n 3, 1)) rfl
theorem dX4_give_14 : decode cX4_give 14 = .ok (.iconst 0, 1) := d_of dm_X4_give_c0 10 (q := (14, .iconst 0, 1)) rfl
theorem dX4_give_15 : decode cX4_give 15 = .ok (.istore 4, 2) := d_of dm_X4_give_c0 11 (q := (15, .istore 4, 2)) rfl
theorem dX4_give_17 : decode cX4_give 17 = .ok (.iload 4, 2) := d_of dm_X4_give_c0 12 (q := (17, .iload 4, 2)) rfl
theorem dX4_give_19 : decode cX4_give 19 = .ok (.aload_n 0, 1) := d_of dm_X4_give_c0 13 (q := (19, .aload_n 0, 1)) rfl
theorem dX4_give_20 : decode cX4_give 20 = .ok (.getfield 52, 3) := d_of dm_X4_give_c0 14 (q := (20, .getfield 52, 3)) rfl
theorem dX4_give_23 : decode cX4_give 23 = .ok (.if_icmp .ge 58, 3) := d_of dm_X4_give_c0 15 (q := (23, .if_icmp .ge 58, 3)) rfl
theorem dX4_give_26 : decode cX4_give 26 = .ok (.iload 4, 2) := d_of dm_X4_give_c0 16 (q := (26, .iload 4, 2)) rfl
theorem dX4_give_28 : decode cX4_give 28 = .ok (.iload_n 1, 1) := d_of dm_X4_give_c0 17 (q := (28, .iload_n 1, 1)) rfl
theorem dX4_give_29 : decode cX4_give 29 = .ok (.if_icmp .eq 46, 3) := d_of dm_X4_give_c0 18 (q := (29, .if_icmp .eq 46, 3)) rfl
theorem dX4_give_32 : decode cX4_give 32 = .ok (.iload 4, 2) := d_of dm_X4_give_c0 19 (q := (32, .iload 4, 2)) rfl
theorem dX4_give_34 : decode cX4_give 34 = .ok (.iload_n 2, 1) := d_of dm_X4_give_c0 20 (q := (34, .iload_n 2, 1)) rfl
theorem dX4_give_35 : decode cX4_give 35 = .ok (.if_icmp .eq 40, 3) := d_of dm_X4_give_c0 21 (q := (35, .if_icmp .eq 40, 3)) rfl
theorem dX4_give_38 : decode cX4_give 38 = .ok (.aload_n 0, 1) := d_of dm_X4_give_c0 22 (q := (38, .aload_n 0, 1)) rfl
theorem dX4_give_39 : decode cX4_give 39 = .ok (.getfield 22, 3) := d_of dm_X4_give_c0 23 (q := (39, .getfield 22, 3)) rfl
theorem dX4_give_42 : decode cX4_give 42 = .ok (.iload 4, 2) := d_of dm_X4_give_c0 24 (q := (42, .iload 4, 2)) rfl
def dl_X4_give_c25 : List (Nat × Instr × Nat) := [(44, .iaload, 1), (45, .iload_n 1, 1), (46, .if_icmp .eq 17, 3), (49, .aload_n 0, 1), (50, .getfield 22, 3), (53, .iload 4, 2), (55, .iaload, 1), (56, .iload_n 2, 1), (57, .if_icmp .eq 6, 3), (60, .goto 15, 3), (63, .aload_n 0, 1), (64, .getfield 22, 3), (67, .iload 4, 2), (69, .bipush (-9), 2), (71, .iastore, 1), (72, .iinc 3 1, 3), (75, .iinc 4 1, 3), (78, .goto (-61), 3), (81, .aload_n 0, 1), (82, .getfield 22, 3), (85, .iload_n 1, 1), (86, .iload_n 2, 1), (87, .iastore, 1), (88, .aload_n 0, 1), (89, .getfield 22, 3)]
set_option maxRecDepth 100000 in
theorem dm_X4_give_c25 : dl_X4_give_c25.all (fun q => decide (decode cX4_give q.1 = .ok q.2)) = true := by decide +kernel
theorem dX4_give_44 : decode cX4_give 44 = .ok (.iaload, 1) := d_of dm_X4_give_c25 0 (q := (44, .iaload, 1)) rfl
theorem dX4_give_45 : decode cX4_give 45 = .ok (.iload_n 1, 1) := d_of dm_X4_give_c25 1 (q := (45, .iload_n 1, 1)) rfl
theorem dX4_give_46 : decode cX4_give 46 = .ok (.if_icmp .eq 17, 3) := d_of dm_X4_give_c25 2 (q := (46, .if_icmp .eq 17, 3)) rfl
theorem dX4_give_49 : decode cX4_give 49 = .ok (.aload_n 0, 1) := d_of dm_X4_give_c25 3 (q := (49, .aload_n 0, 1)) rfl
theorem dX4_give_50 : decode cX4_give 50 = .ok (.getfield 22, 3) := d_of dm_X4_give_c25 4 (q := (50, .getfield 22, 3)) rfl
theorem dX4_give_53 : decode cX4_give 53 = .ok (.iload 4, 2) := d_of dm_X4_give_c25 5 (q := (53, .iload 4, 2)) rfl
theorem dX4_give_55 : decode cX4_give 55 = .ok (.iaload, 1) := d_of dm_X4_give_c25 6 (q := (55, .iaload, 1)) rfl
theorem dX4_give_56 : decode cX4_give 56 = .ok (.iload_n 2, 1) := d_of dm_X4_give_c25 7 (q := (56, .iload_n 2, 1)) rfl
theorem dX4_give_57 : decode cX4_give 57 = .ok (.if_icmp .eq 6, 3) := d_of dm_X4_give_c25 8 (q := (57, .if_icmp .eq 6, 3)) rfl
theorem dX4_give_60 : decode cX4_give 60 = .ok (.goto 15, 3) := d_of dm_X4_give_c25 9 (q := (60, .goto 15, 3)) rfl
theorem dX4_give_63 : decode cX4_give 63 = .ok (.aload_n 0, 1) := d_of dm_X4_give_c25 10 (q := (63, .aload_n 0, 1)) rfl
theorem dX4_give_64 : decode cX4_give 64 = .ok (.getfield 22, 3) := d_of dm_X4_give_c25 11 (q := (64, .getfield 22, 3)) rfl
theorem dX4_give_67 : decode cX4_give 67 = .ok (.iload 4, 2) := d_of dm_X4_give_c25 12 (q := (67, .iload 4, 2)) rfl
theorem dX4_give_69 : decode cX4_give 69 = .ok (.bipush (-9), 2) := d_of dm_X4_give_c25 13 (q := (69, .bipush (-9), 2)) rfl
theorem dX4_give_71 : decode cX4_give 71 = .ok (.iastore, 1) := d_of dm_X4_give_c25 14 (q := (71, .iastore, 1)) rfl
theorem dX4_give_72 : decode cX4_give 72 = .ok (.iinc 3 1, 3) := d_of dm_X4_give_c25 15 (q := (72, .iinc 3 1, 3)) rfl
theorem dX4_give_75 : decode cX4_give 75 = .ok (.iinc 4 1, 3) := d_of dm_X4_give_c25 16 (q := (75, .iinc 4 1, 3)) rfl
theorem dX4_give_78 : decode cX4_give 78 = .ok (.goto (-61), 3) := d_of dm_X4_give_c25 17 (q := (78, .goto (-61), 3)) rfl
theorem dX4_give_81 : decode cX4_give 81 = .ok (.aload_n 0, 1) := d_of dm_X4_give_c25 18 (q := (81, .aload_n 0, 1)) rfl
theorem dX4_give_82 : decode cX4_give 82 = .ok (.getfield 22, 3) := d_of dm_X4_give_c25 19 (q := (82, .getfield 22, 3)) rfl
theorem dX4_give_85 : decode cX4_give 85 = .ok (.iload_n 1, 1) := d_of dm_X4_give_c25 20 (q := (85, .iload_n 1, 1)) rfl
theorem dX4_give_86 : decode cX4_give 86 = .ok (.iload_n 2, 1) := d_of dm_X4_give_c25 21 (q := (86, .iload_n 2, 1)) rfl
theorem dX4_give_87 : decode cX4_give 87 = .ok (.iastore, 1) := d_of dm_X4_give_c25 22 (q := (87, .iastore, 1)) rfl
theorem dX4_give_88 : decode cX4_give 88 = .ok (.aload_n 0, 1) := d_of dm_X4_give_c25 23 (q := (88, .aload_n 0, 1)) rfl
theorem dX4_give_89 : decode cX4_give 89 = .ok (.getfield 22, 3) := d_of dm_X4_give_c25 24 (q := (89, .getfield 22, 3)) rfl
def dl_X4_give_c50 : List (Nat × Instr × Nat) := [(92, .iload_n 2, 1), (93, .iload_n 1, 1), (94, .iastore, 1), (95, .iload_n 3, 1), (96, .ireturn, 1)]
set_option maxRecDepth 100000 in
theorem dm_X4_give_c50 : dl_X4_give_c50.all (fun q => decide (decode cX4_give q.1 = .ok q.2)) = true := by decide +kernel
theorem dX4_give_92 : decode cX4_give 92 = .ok (.iload_n 2, 1) := d_of dm_X4_give_c50 0 (q := (92, .iload_n 2, 1)) rfl
theorem dX4_give_93 : decode cX4_give 93 = .ok (.iload_n 1, 1) := d_of dm_X4_give_c50 1 (q := (93, .iload_n 1, 1)) rfl
theorem dX4_give_94 : decode cX4_give 94 = .ok (.iastore, 1) := d_of dm_X4_give_c50 2 (q := (94, .iastore, 1)) rfl
theorem dX4_give_95 : decode cX4_give 95 = .ok (.iload_n 3, 1) := d_of dm_X4_give_c50 3 (q := (95, .iload_n 3, 1)) rfl
theorem dX4_give_96 : decode cX4_give 96 = .ok (.ireturn, 1) := d_of dm_X4_give_c50 4 (q := (96, .ireturn, 1)) rfl
def dl_X4_thing_c0 : List (Nat × Instr × Nat) := [(0, .aload_n 0, 1), (1, .iload_n 1, 1), (2, .invokevirtual 112, 3), (5, .ifCond .ne 9, 3), (8, .aload_n 0, 1), (9, .iconst (-1), 1), (10, .invokevirtual 63, 3), (13, .ireturn, 1), (14, .iload_n 2, 1), (15, .iconst 0, 1), (16, .iconst 2, 1), (17, .invokestatic 56, 3), (20, .ifCond .ne 10, 3), (23, .aload_n 0, 1), (24, .bipush (-2), 2), (26, .invokevirtual 63, 3), (29, .ireturn, 1), (30, .iload_n 2, 1), (31, .ifCond .ne 12, 3), (34, .aload_n 0, 1), (35, .getfield 16, 3), (38, .iload_n 1, 1), (39, .iaload, 1), (40, .goto 23, 3), (43, .iload_n 2, 1)]
set_option maxRecDepth 100000 in
theorem dm_X4_thing_c0 : dl_X4_thing_c0.all (fun q => decide (decode cX4_thing q.1 = .ok q.2)) = true := by decide +kernel
theorem dX4_thing_0 : decode cX4_thing 0 = .ok (.aload_n 0, 1) := d_of dm_X4_thing_c0 0 (q := (0, .aload_n 0, 1)) rfl
theorem dX4_thing_1 : decode cX4_thing 1 = .ok (.iload_n 1, 1) := d_of dm_X4_thing_c0 1 (q := (1, .iload_n 1, 1)) rfl
theorem dX4_thing_2 : decode cX4_thing 2 = .ok (.invokevirtual 112, 3) := d_of dm_X4_thing_c0 2 (q := (2, .invokevirtual 112, 3)) rfl
theorem dX4_thing_5 : decode cX4_thing 5 = .ok (.ifCond .ne 9, 3) := d_of dm_X4_thing_c0 3 (q := (5, .ifCond .ne 9, 3)) rfl
theorem dX4_thing_8 : decode cX4_thing 8 = .ok (.aload_n 0, 1) := d_of dm_X4_thing_c0 4 (q := (8, .aload_n 0, 1)) rfl
theorem dX4_thing_9 : decode cX4_thing 9 = .ok (.iconst (-1), 1) := d_of dm_X4_thing_c0 5 (q := (9, .iconst (-1), 1)) rfl
theorem dX4_thing_10 : decode cX4_thing 10 = .ok (.invokevirtual 63, 3) := d_of dm_X4_thing_c0 6 (q := (10, .invokevirtual 63, 3)) rfl
theorem dX4_thing_13 : decode cX4_thing 13 = .ok (.ireturn, 1) := d_of dm_X4_thing_c0 7 (q := (13, .ireturn, 1)) rfl
theorem dX4_thing_14 : decode cX4_thing 14 = .ok (.iload_n 2, 1) := d_of dm_X4_thing_c0 8 (q := (14, .iload_n 2, 1)) rfl
theorem dX4_thing_15 : decode cX4_thing 15 = .ok (.iconst 0, 1) := d_of dm_X4_thing_c0 9 (q := (15, .iconst 0, 1)) rfl
theorem dX4_thing_16 : decode cX4_thing 16 = .ok (.iconst 2, 1) := d_of dm_X4_thing_c0 10 (q := (16, .iconst 2, 1)) rfl
theorem dX4_thing_17 : decode cX4_thing 17 = .ok (.invokestatic 56, 3) := d_of dm_X4_thing_c0 11 (q := (17, .invokestatic 56, 3)) rfl
theorem dX4_thing_20 : decode cX4_thing 20 = .ok (.ifCond .ne 10, 3) := d_of dm_X4_thing_c0 12 (q := (20, .ifCond .ne 10, 3)) rfl
theorem dX4_thing_23 : decode cX4_thing 23 = .ok (.aload_n 0, 1) := d_of dm_X4_thing_c0 13 (q := (23, .aload_n 0, 1)) rfl
theorem dX4_thing_24 : decode cX4_thing 24 = .ok (.bipush (-2), 2) := d_of dm_X4_thing_c0 14 (q := (24, .bipush (-2), 2)) rfl
theorem dX4_thing_26 : decode cX4_thing 26 = .ok (.invokevirtual 63, 3) := d_of dm_X4_thing_c0 15 (q := (26, .invokevirtual 63, 3)) rfl
theorem dX4_thing_29 : decode cX4_thing 29 = .ok (.ireturn, 1) := d_of dm_X4_thing_c0 16 (q := (29, .ireturn, 1)) rfl
theorem dX4_thing_30 : decode cX4_thing 30 = .ok (.iload_n 2, 1) := d_of dm_X4_thing_c0 17 (q := (30, .iload_n 2, 1)) rfl
theorem dX4_thing_31 : decode cX4_thing 31 = .ok (.ifCond .ne 12, 3) := d_of dm_X4_thing_c0 18 (q := (31, .ifCond .ne 12, 3)) rfl
theorem dX4_thing_34 : decode cX4_thing 34 = .ok (.aload_n 0, 1) := d_of dm_X4_thing_c0 19 (q := (34, .aload_n 0, 1)) rfl
theorem dX4_thing_35 : decode cX4_thing 35 = .ok (.getfield 16, 3) := d_of dm_X4_thing_c0 20 (q := (35, .getfield 16, 3)) rfl
theorem dX4_thing_38 : decode cX4_thing 38 = .ok (.iload_n 1, 1) := d_of dm_X4_thing_c0 21 (q := (38, .iload_n 1, 1)) rfl
theorem dX4_thing_39 : decode cX4_thing 39 = .ok (.iaload, 1) := d_of dm_X4_thing_c0 22 (q := (39, .iaload, 1)) rfl
theorem dX4_thing_40 : decode cX4_thing 40 = .ok (.goto 23, 3) := d_of dm_X4_thing_c0 23 (q := (40, .goto 23, 3)) rfl
theorem dX4_thing_43 : decode cX4_thing 43 = .ok (.iload_n 2, 1) := d_of dm_X4_thing_c0 24 (q := (43, .iload_n 2, 1)) rfl
def dl_X4_thing_c25 : List (Nat × Instr × Nat) := [(44, .iconst 1, 1), (45, .if_icmp .ne 12, 3), (48, .aload_n 0, 1), (49, .getfield 19, 3), (52, .iload_n 1, 1), (53, .iaload, 1), (54, .goto 9, 3), (57, .aload_n 0, 1), (58, .getfield 22, 3), (61, .iload_n 1, 1), (62, .iaload, 1), (63, .ireturn, 1)]
set_option maxRecDepth 100000 in
theorem dm_X4_thing_c25 : dl_X4_thing_c25.all (fun q => decide (decode cX4_thing q.1 = .ok q.2)) = true := by decide +kernel
theorem dX4_thing_44 : decode cX4_thing 44 = .ok (.iconst 1, 1) := d_of dm_X4_thing_c25 0 (q := (44, .iconst 1, 1)) rfl
theorem dX4_thing_45 : decode cX4_thing 45 = .ok (.if_icmp .ne 12, 3) := d_of dm_X4_thing_c25 1 (q := (45, .if_icmp .ne 12, 3)) rfl
theorem dX4_thing_48 : decode cX4_thing 48 = .ok (.aload_n 0, 1) := d_of dm_X4_thing_c25 2 (q := (48, .aload_n 0, 1)) rfl
theorem dX4_thing_49 : decode cX4_thing 49 = .ok (.getfield 19, 3) := d_of dm_X4_thing_c25 3 (q := (49, .getfield 19, 3)) rfl
theorem dX4_thing_52 : decode cX4_thing 52 = .ok (.iload_n 1, 1) := d_of dm_X4_thing_c25 4 (q := (52, .iload_n 1, 1)) rfl
theorem dX4_thing_53 : decode cX4_thing 53 = .ok (.iaload, 1) := d_of dm_X4_thing_c25 5 (q := (53, .iaload, 1)) rfl
theorem dX4_thing_54 : decode cX4_thing 54 = .ok (.goto 9, 3) := d_of dm_X4_thing_c25 6 (q := (54, .goto 9, 3)) rfl
theorem dX4_thing_57 : decode cX4_thing 57 = .ok (.aload_n 0, 1) := d_of dm_X4_thing_c25 7 (q := (57, .aload_n 0, 1)) rfl
theorem dX4_thing_58 : decode cX4_thing 58 = .ok (.getfield 22, 3) := d_of dm_X4_thing_c25 8 (q := (58, .getfield 22, 3)) rfl
theorem dX4_thing_61 : decode cX4_thing 61 = .ok (.iload_n 1, 1) := d_of dm_X4_thing_c25 9 (q := (61, .iload_n 1, 1)) rfl
theorem dX4_thing_62 : decode cX4_thing 62 = .ok (.iaload, 1) := d_of dm_X4_thing_c25 10 (q := (62, .iaload, 1)) rfl
theorem dX4_thing_63 : decode cX4_thing 63 = .ok (.ireturn, 1) := d_of dm_X4_thing_c25 11 (q := (63, .ireturn, 1)) rfl
