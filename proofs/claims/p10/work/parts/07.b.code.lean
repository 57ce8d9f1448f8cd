/-! THE METHODS' INSTRUCTIONS, held against their bytes: piece 2 -/
/-- FriarLists$TextReader.readsLine()Z -/
def mj_k88 : List (Nat × Instr × Nat) := [(0, .aload_n 0, 1), (1, .invokevirtual 70, 3), (4, .istore_n 1, 1), (5, .iload_n 1, 1), (6, .ifCond .ge 5, 3), (9, .iconst 0, 1), (10, .ireturn, 1), (11, .iload_n 1, 1), (12, .iconst 1, 1), (13, .if_icmp .ne 8, 3), (16, .bipush (-3), 2), (18, .goto 18, 3), (21, .aload_n 0, 1), (22, .iload_n 1, 1), (23, .iconst 2, 1), (24, .if_icmp .ne 7, 3), (27, .iconst 5, 1), (28, .goto 5, 3), (31, .bipush 9, 2), (33, .invokevirtual 73, 3), (36, .istore_n 2, 1), (37, .iload_n 2, 1), (38, .iconst (-1), 1), (39, .if_icmp .eq 31, 3), (42, .iload_n 1, 1), (43, .iconst 2, 1), (44, .if_icmp .ne 12, 3), (47, .aload_n 0, 1), (48, .ldc 77, 2), (50, .invokevirtual 79, 3), (53, .ifCond .eq 17, 3), (56, .iload_n 1, 1), (57, .iconst 1, 1), (58, .if_icmp .ne 14, 3), (61, .aload_n 0, 1), (62, .ldc 82, 2), (64, .invokevirtual 66, 3), (67, .ifCond .ne 5, 3), (70, .iconst 0, 1), (71, .ireturn, 1), (72, .aload_n 0, 1), (73, .getfield 24, 3), (76, .invokevirtual 84, 3), (79, .istore_n 3, 1), (80, .aload_n 0, 1), (81, .getfield 24, 3), (84, .iload_n 3, 1), (85, .iconst 0, 1), (86, .iload_n 1, 1), (87, .invokevirtual 87, 3), (90, .aload_n 0, 1), (91, .getfield 24, 3), (94, .iload_n 3, 1), (95, .iconst 1, 1), (96, .iload_n 2, 1), (97, .invokevirtual 87, 3), (100, .aload_n 0, 1), (101, .getfield 24, 3), (104, .iload_n 3, 1), (105, .iconst 2, 1), (106, .aload_n 0, 1), (107, .getfield 28, 3), (110, .getfield 91, 3), (113, .invokevirtual 87, 3), (116, .iload_n 1, 1), (117, .iconst 2, 1), (118, .if_icmp .eq 17, 3), (121, .iload_n 1, 1), (122, .iconst 3, 1), (123, .if_icmp .eq 16, 3), (126, .aload_n 0, 1), (127, .ldc 82, 2), (129, .invokevirtual 79, 3), (132, .ifCond .eq 7, 3), (135, .iconst 1, 1), (136, .goto 4, 3), (139, .iconst 0, 1), (140, .istore 4, 2), (142, .iload 4, 2), (144, .ifCond .eq 13, 3), (147, .aload_n 0, 1), (148, .iconst 0, 1), (149, .invokevirtual 94, 3), (152, .ifCond .ne 5, 3), (155, .iconst 0, 1), (156, .ireturn, 1), (157, .aload_n 0, 1), (158, .getfield 24, 3), (161, .iload_n 3, 1), (162, .iconst 3, 1), (163, .aload_n 0, 1), (164, .getfield 28, 3), (167, .getfield 91, 3), (170, .invokevirtual 87, 3), (173, .aload_n 0, 1), (174, .ldc 98, 2), (176, .invokevirtual 79, 3), (179, .ireturn, 1)]
set_option maxRecDepth 100000 in
theorem mj_e88 : mj_b 88 = prog_5_method_8_code := rfl
set_option maxRecDepth 100000 in
theorem mj_d88 : mj_k88.all (fun q => decide (decode prog_5_method_8_code q.1 = .ok (q.2.1, q.2.2))) = true := dq_all (by decide +kernel)
/-- FriarLists$TextReader.readsSort()I -/
def mj_k89 : List (Nat × Instr × Nat) := [(0, .aload_n 0, 1), (1, .ldc 100, 2), (3, .invokevirtual 79, 3), (6, .ifCond .eq 7, 3), (9, .iconst 0, 1), (10, .goto 43, 3), (13, .aload_n 0, 1), (14, .ldc 102, 2), (16, .invokevirtual 79, 3), (19, .ifCond .eq 7, 3), (22, .iconst 1, 1), (23, .goto 30, 3), (26, .aload_n 0, 1), (27, .ldc 104, 2), (29, .invokevirtual 79, 3), (32, .ifCond .eq 7, 3), (35, .iconst 2, 1), (36, .goto 17, 3), (39, .aload_n 0, 1), (40, .ldc 106, 2), (42, .invokevirtual 79, 3), (45, .ifCond .eq 7, 3), (48, .iconst 3, 1), (49, .goto 4, 3), (52, .iconst (-1), 1), (53, .ireturn, 1)]
set_option maxRecDepth 100000 in
theorem mj_e89 : mj_b 89 = prog_5_method_9_code := rfl
set_option maxRecDepth 100000 in
theorem mj_d89 : mj_k89.all (fun q => decide (decode prog_5_method_9_code q.1 = .ok (q.2.1, q.2.2))) = true := dq_all (by decide +kernel)
/-- FriarLists$TextReader.passes(Ljava/lang/String;)Z -/
def mj_k90 : List (Nat × Instr × Nat) := [(0, .aload_n 0, 1), (1, .aload_n 1, 1), (2, .invokevirtual 66, 3), (5, .ifCond .ne 5, 3), (8, .iconst 0, 1), (9, .ireturn, 1), (10, .aload_n 0, 1), (11, .invokevirtual 40, 3), (14, .iconst 1, 1), (15, .ireturn, 1)]
set_option maxRecDepth 100000 in
theorem mj_e90 : mj_b 90 = prog_5_method_6_code := rfl
set_option maxRecDepth 100000 in
theorem mj_d90 : mj_k90.all (fun q => decide (decode prog_5_method_6_code q.1 = .ok (q.2.1, q.2.2))) = true := dq_all (by decide +kernel)
/-- FriarLists$TextReader.isAt(Ljava/lang/String;)Z -/
def mj_k91 : List (Nat × Instr × Nat) := [(0, .aload_n 0, 1), (1, .getfield 34, 3), (4, .aload_n 0, 1), (5, .getfield 31, 3), (8, .isub, 1), (9, .aload_n 1, 1), (10, .invokevirtual 56, 3), (13, .if_icmp .ne 22, 3), (16, .aload_n 0, 1), (17, .getfield 31, 3), (20, .ifCond .lt 15, 3), (23, .aload_n 0, 1), (24, .getfield 34, 3), (27, .aload_n 0, 1), (28, .getfield 9, 3), (31, .arraylength, 1), (32, .if_icmp .le 5, 3), (35, .iconst 0, 1), (36, .ireturn, 1), (37, .iconst 0, 1), (38, .istore_n 2, 1), (39, .iload_n 2, 1), (40, .aload_n 1, 1), (41, .invokevirtual 56, 3), (44, .if_icmp .ge 30, 3), (47, .aload_n 0, 1), (48, .getfield 9, 3), (51, .aload_n 0, 1), (52, .getfield 31, 3), (55, .iload_n 2, 1), (56, .iadd, 1), (57, .iaload, 1), (58, .aload_n 1, 1), (59, .iload_n 2, 1), (60, .invokevirtual 62, 3), (63, .if_icmp .eq 5, 3), (66, .iconst 0, 1), (67, .ireturn, 1), (68, .iinc 2 1, 3), (71, .goto (-32), 3), (74, .iconst 1, 1), (75, .ireturn, 1)]
set_option maxRecDepth 100000 in
theorem mj_e91 : mj_b 91 = prog_5_method_5_code := rfl
set_option maxRecDepth 100000 in
theorem mj_d91 : mj_k91.all (fun q => decide (decode prog_5_method_5_code q.1 = .ok (q.2.1, q.2.2))) = true := dq_all (by decide +kernel)
/-- FriarLists$TextReader.readsNumber(I)I -/
def mj_k92 : List (Nat × Instr × Nat) := [(0, .aload_n 0, 1), (1, .getfield 34, 3), (4, .aload_n 0, 1), (5, .getfield 31, 3), (8, .if_icmp .le 35, 3), (11, .aload_n 0, 1), (12, .getfield 34, 3), (15, .aload_n 0, 1), (16, .getfield 31, 3), (19, .isub, 1), (20, .iconst 3, 1), (21, .if_icmp .gt 22, 3), (24, .aload_n 0, 1), (25, .getfield 31, 3), (28, .ifCond .lt 15, 3), (31, .aload_n 0, 1), (32, .getfield 34, 3), (35, .aload_n 0, 1), (36, .getfield 9, 3), (39, .arraylength, 1), (40, .if_icmp .le 5, 3), (43, .iconst (-1), 1), (44, .ireturn, 1), (45, .iconst 0, 1), (46, .istore_n 2, 1), (47, .aload_n 0, 1), (48, .getfield 31, 3), (51, .istore_n 3, 1), (52, .iload_n 3, 1), (53, .aload_n 0, 1), (54, .getfield 34, 3), (57, .if_icmp .ge 48, 3), (60, .aload_n 0, 1), (61, .getfield 9, 3), (64, .iload_n 3, 1), (65, .iaload, 1), (66, .bipush 48, 2), (68, .if_icmp .lt 14, 3), (71, .aload_n 0, 1), (72, .getfield 9, 3), (75, .iload_n 3, 1), (76, .iaload, 1), (77, .bipush 57, 2), (79, .if_icmp .le 5, 3), (82, .iconst (-1), 1), (83, .ireturn, 1), (84, .iload_n 2, 1), (85, .bipush 10, 2), (87, .imul, 1), (88, .aload_n 0, 1), (89, .getfield 9, 3), (92, .iload_n 3, 1), (93, .iaload, 1), (94, .iadd, 1), (95, .bipush 48, 2), (97, .isub, 1), (98, .istore_n 2, 1), (99, .iinc 3 1, 3), (102, .goto (-50), 3), (105, .iload_n 2, 1), (106, .iload_n 1, 1), (107, .if_icmp .le 5, 3), (110, .iconst (-1), 1), (111, .ireturn, 1), (112, .aload_n 0, 1), (113, .invokevirtual 40, 3), (116, .iload_n 2, 1), (117, .ireturn, 1)]
set_option maxRecDepth 100000 in
theorem mj_e92 : mj_b 92 = prog_5_method_7_code := rfl
set_option maxRecDepth 100000 in
theorem mj_d92 : mj_k92.all (fun q => decide (decode prog_5_method_7_code q.1 = .ok (q.2.1, q.2.2))) = true := dq_all (by decide +kernel)
/-- FriarLists$TextReader.readsCondition(I)Z -/
def mj_k93 : List (Nat × Instr × Nat) := [(0, .iconst 0, 1), (1, .istore_n 2, 1), (2, .iload_n 2, 1), (3, .sipush 250, 3), (6, .if_icmp .ge 80, 3), (9, .aload_n 0, 1), (10, .iload_n 1, 1), (11, .invokevirtual 108, 3), (14, .ifCond .ne 5, 3), (17, .iconst 0, 1), (18, .ireturn, 1), (19, .iconst 0, 1), (20, .istore_n 3, 1), (21, .iload_n 3, 1), (22, .sipush 250, 3), (25, .if_icmp .ge 34, 3), (28, .aload_n 0, 1), (29, .ldc 111, 2), (31, .invokevirtual 79, 3), (34, .ifCond .eq 25, 3), (37, .aload_n 0, 1), (38, .iload_n 1, 1), (39, .invokevirtual 108, 3), (42, .ifCond .ne 5, 3), (45, .iconst 0, 1), (46, .ireturn, 1), (47, .aload_n 0, 1), (48, .bipush 9, 2), (50, .invokevirtual 113, 3), (53, .iinc 3 1, 3), (56, .goto (-35), 3), (59, .iload_n 2, 1), (60, .ifCond .le 9, 3), (63, .aload_n 0, 1), (64, .bipush 10, 2), (66, .invokevirtual 113, 3), (69, .aload_n 0, 1), (70, .ldc 117, 2), (72, .invokevirtual 79, 3), (75, .ifCond .ne 5, 3), (78, .iconst 1, 1), (79, .ireturn, 1), (80, .iinc 2 1, 3), (83, .goto (-81), 3), (86, .iconst 0, 1), (87, .ireturn, 1)]
set_option maxRecDepth 100000 in
theorem mj_e93 : mj_b 93 = prog_5_method_10_code := rfl
set_option maxRecDepth 100000 in
theorem mj_d93 : mj_k93.all (fun q => decide (decode prog_5_method_10_code q.1 = .ok (q.2.1, q.2.2))) = true := dq_all (by decide +kernel)
/-- FriarLists$TextReader.readsOne(I)Z -/
def mj_k94 : List (Nat × Instr × Nat) := [(0, .iconst 0, 1), (1, .istore_n 2, 1), (2, .iconst 0, 1), (3, .istore_n 3, 1), (4, .iload_n 3, 1), (5, .sipush 250, 3), (8, .if_icmp .ge 28, 3), (11, .aload_n 0, 1), (12, .ldc 119, 2), (14, .invokevirtual 79, 3), (17, .ifCond .eq 19, 3), (20, .iload_n 2, 1), (21, .ifCond .ne 7, 3), (24, .iconst 1, 1), (25, .goto 4, 3), (28, .iconst 0, 1), (29, .istore_n 2, 1), (30, .iinc 3 1, 3), (33, .goto (-29), 3), (36, .aload_n 0, 1), (37, .ldc 121, 2), (39, .invokevirtual 66, 3), (42, .ifCond .eq 35, 3), (45, .iload_n 1, 1), (46, .iconst 4, 1), (47, .if_icmp .lt 5, 3), (50, .iconst 0, 1), (51, .ireturn, 1), (52, .aload_n 0, 1), (53, .invokevirtual 40, 3), (56, .aload_n 0, 1), (57, .iload_n 1, 1), (58, .iconst 1, 1), (59, .iadd, 1), (60, .invokevirtual 94, 3), (63, .ifCond .eq 12, 3), (66, .aload_n 0, 1), (67, .ldc 123, 2), (69, .invokevirtual 79, 3), (72, .ifCond .ne 49, 3), (75, .iconst 0, 1), (76, .ireturn, 1), (77, .aload_n 0, 1), (78, .ldc 125, 2), (80, .invokevirtual 79, 3), (83, .ifCond .eq 8, 3), (86, .bipush 6, 2), (88, .goto 21, 3), (91, .aload_n 0, 1), (92, .ldc 127, 2), (94, .invokevirtual 79, 3), (97, .ifCond .eq 8, 3), (100, .bipush 7, 2), (102, .goto 7, 3), (105, .aload_n 0, 1), (106, .invokevirtual 129, 3), (109, .istore_n 3, 1), (110, .iload_n 3, 1), (111, .ifCond .ge 5, 3), (114, .iconst 0, 1), (115, .ireturn, 1), (116, .aload_n 0, 1), (117, .iload_n 3, 1), (118, .invokevirtual 113, 3), (121, .iload_n 2, 1), (122, .ifCond .eq 9, 3), (125, .aload_n 0, 1), (126, .bipush 8, 2), (128, .invokevirtual 113, 3), (131, .iconst 1, 1), (132, .ireturn, 1)]
set_option maxRecDepth 100000 in
theorem mj_e94 : mj_b 94 = prog_5_method_11_code := rfl
set_option maxRecDepth 100000 in
theorem mj_d94 : mj_k94.all (fun q => decide (decode prog_5_method_11_code q.1 = .ok (q.2.1, q.2.2))) = true := dq_all (by decide +kernel)
/-- FriarLists$TextReader.readsFact()I -/
def mj_k95 : List (Nat × Instr × Nat) := [(0, .aload_n 0, 1), (1, .ldc 132, 2), (3, .invokevirtual 79, 3), (6, .ifCond .eq 7, 3), (9, .iconst 0, 1), (10, .goto 69, 3), (13, .aload_n 0, 1), (14, .ldc 134, 2), (16, .invokevirtual 79, 3), (19, .ifCond .eq 7, 3), (22, .iconst 1, 1), (23, .goto 56, 3), (26, .aload_n 0, 1), (27, .ldc 136, 2), (29, .invokevirtual 79, 3), (32, .ifCond .eq 7, 3), (35, .iconst 2, 1), (36, .goto 43, 3), (39, .aload_n 0, 1), (40, .ldc 138, 2), (42, .invokevirtual 79, 3), (45, .ifCond .eq 7, 3), (48, .iconst 3, 1), (49, .goto 30, 3), (52, .aload_n 0, 1), (53, .ldc 140, 2), (55, .invokevirtual 79, 3), (58, .ifCond .eq 7, 3), (61, .iconst 4, 1), (62, .goto 17, 3), (65, .aload_n 0, 1), (66, .ldc 142, 2), (68, .invokevirtual 79, 3), (71, .ifCond .eq 7, 3), (74, .iconst 5, 1), (75, .goto 4, 3), (78, .iconst (-1), 1), (79, .istore_n 1, 1), (80, .iload_n 1, 1), (81, .ifCond .ge 5, 3), (84, .iconst (-1), 1), (85, .ireturn, 1), (86, .aload_n 0, 1), (87, .ldc 144, 2), (89, .invokevirtual 79, 3), (92, .ifCond .eq 7, 3), (95, .iconst 0, 1), (96, .goto 30, 3), (99, .aload_n 0, 1), (100, .ldc 146, 2), (102, .invokevirtual 79, 3), (105, .ifCond .eq 7, 3), (108, .iconst 1, 1), (109, .goto 17, 3), (112, .aload_n 0, 1), (113, .ldc 148, 2), (115, .invokevirtual 79, 3), (118, .ifCond .eq 7, 3), (121, .iconst 2, 1), (122, .goto 4, 3), (125, .iconst (-1), 1), (126, .istore_n 2, 1), (127, .iload_n 2, 1), (128, .ifCond .ge 5, 3), (131, .iconst (-1), 1), (132, .ireturn, 1), (133, .aload_n 0, 1), (134, .sipush 999, 3), (137, .invokevirtual 73, 3), (140, .istore_n 3, 1), (141, .iload_n 3, 1), (142, .ifCond .ge 7, 3), (145, .iconst (-1), 1), (146, .goto 13, 3), (149, .iload_n 3, 1), (150, .bipush 6, 2), (152, .ishl, 1), (153, .iload_n 2, 1), (154, .iconst 4, 1), (155, .ishl, 1), (156, .ior, 1), (157, .iload_n 1, 1), (158, .ior, 1), (159, .ireturn, 1)]
set_option maxRecDepth 100000 in
theorem mj_e95 : mj_b 95 = prog_5_method_12_code := rfl
set_option maxRecDepth 100000 in
theorem mj_d95 : mj_k95.all (fun q => decide (decode prog_5_method_12_code q.1 = .ok (q.2.1, q.2.2))) = true := dq_all (by decide +kernel)
/-- FriarLists$TextReader.addStep(I)V -/
def mj_k96 : List (Nat × Instr × Nat) := [(0, .aload_n 0, 1), (1, .getfield 28, 3), (4, .invokevirtual 150, 3), (7, .ifCond .eq 4, 3), (10, .return_, 1), (11, .aload_n 0, 1), (12, .getfield 28, 3), (15, .aload_n 0, 1), (16, .getfield 28, 3), (19, .getfield 91, 3), (22, .iconst 0, 1), (23, .iload_n 1, 1), (24, .invokevirtual 87, 3), (27, .aload_n 0, 1), (28, .getfield 28, 3), (31, .dup, 1), (32, .getfield 91, 3), (35, .iconst 1, 1), (36, .iadd, 1), (37, .putfield 91, 3), (40, .return_, 1)]
set_option maxRecDepth 100000 in
theorem mj_e96 : mj_b 96 = prog_5_method_13_code := rfl
set_option maxRecDepth 100000 in
theorem mj_d96 : mj_k96.all (fun q => decide (decode prog_5_method_13_code q.1 = .ok (q.2.1, q.2.2))) = true := dq_all (by decide +kernel)
/-- FriarLists$Lists.addVersion(LFriarLists$TextReader;)I -/
def mj_k97 : List (Nat × Instr × Nat) := [(0, .aload_n 0, 1), (1, .getfield 54, 3), (4, .invokevirtual 116, 3), (7, .istore_n 2, 1), (8, .aload_n 0, 1), (9, .getfield 54, 3), (12, .iload_n 2, 1), (13, .iconst 0, 1), (14, .aload_n 0, 1), (15, .getfield 9, 3), (18, .invokevirtual 78, 3), (21, .aload_n 0, 1), (22, .getfield 54, 3), (25, .iload_n 2, 1), (26, .iconst 1, 1), (27, .aload_n 1, 1), (28, .getfield 152, 3), (31, .getfield 98, 3), (34, .invokevirtual 78, 3), (37, .iload_n 2, 1), (38, .bipush 64, 2), (40, .imul, 1), (41, .istore_n 3, 1), (42, .iconst 0, 1), (43, .istore 4, 2), (45, .iload 4, 2), (47, .aload_n 1, 1), (48, .getfield 152, 3), (51, .getfield 98, 3), (54, .if_icmp .ge 102, 3), (57, .iload_n 2, 1), (58, .bipush 9, 2), (60, .imul, 1), (61, .iload 4, 2), (63, .iadd, 1), (64, .istore 5, 2), (66, .aload_n 0, 1), (67, .getfield 57, 3), (70, .iload 5, 2), (72, .iconst 0, 1), (73, .aload_n 1, 1), (74, .getfield 152, 3), (77, .iload 4, 2), (79, .iconst 0, 1), (80, .invokevirtual 105, 3), (83, .invokevirtual 78, 3), (86, .aload_n 0, 1), (87, .getfield 57, 3), (90, .iload 5, 2), (92, .iconst 1, 1), (93, .aload_n 1, 1), (94, .getfield 152, 3), (97, .iload 4, 2), (99, .iconst 1, 1), (100, .invokevirtual 105, 3), (103, .invokevirtual 78, 3), (106, .aload_n 0, 1), (107, .getfield 57, 3), (110, .iload 5, 2), (112, .iconst 2, 1), (113, .iload_n 3, 1), (114, .aload_n 1, 1), (115, .getfield 152, 3), (118, .iload 4, 2), (120, .iconst 2, 1), (121, .invokevirtual 105, 3), (124, .iadd, 1), (125, .invokevirtual 78, 3), (128, .aload_n 0, 1), (129, .getfield 57, 3), (132, .iload 5, 2), (134, .iconst 3, 1), (135, .iload_n 3, 1), (136, .aload_n 1, 1), (137, .getfield 152, 3), (140, .iload 4, 2), (142, .iconst 3, 1), (143, .invokevirtual 105, 3), (146, .iadd, 1), (147, .invokevirtual 78, 3), (150, .iinc 4 1, 3), (153, .goto (-108), 3), (156, .iconst 0, 1), (157, .istore 4, 2), (159, .iload 4, 2), (161, .aload_n 1, 1), (162, .getfield 155, 3), (165, .getfield 98, 3), (168, .if_icmp .ge 31, 3), (171, .aload_n 0, 1), (172, .getfield 60, 3), (175, .iload_n 3, 1), (176, .iload 4, 2), (178, .iadd, 1), (179, .iconst 0, 1), (180, .aload_n 1, 1), (181, .getfield 155, 3), (184, .iload 4, 2), (186, .iconst 0, 1), (187, .invokevirtual 105, 3), (190, .invokevirtual 78, 3), (193, .iinc 4 1, 3), (196, .goto (-37), 3), (199, .iload_n 2, 1), (200, .ireturn, 1)]
set_option maxRecDepth 100000 in
theorem mj_e97 : mj_b 97 = prog_2_method_23_code := rfl
set_option maxRecDepth 100000 in
theorem mj_d97 : mj_k97.all (fun q => decide (decode prog_2_method_23_code q.1 = .ok (q.2.1, q.2.2))) = true := dq_all (by decide +kernel)
/-- FriarLists.version(II)I -/
def mj_k98 : List (Nat × Instr × Nat) := [(0, .aload_n 0, 1), (1, .getfield 10, 3), (4, .getfield 207, 3), (7, .iload_n 1, 1), (8, .invokevirtual 95, 3), (11, .ifCond .ne 5, 3), (14, .iconst (-1), 1), (15, .ireturn, 1), (16, .aload_n 0, 1), (17, .getfield 10, 3), (20, .getfield 207, 3), (23, .iload_n 1, 1), (24, .iconst 1, 1), (25, .invokevirtual 105, 3), (28, .istore_n 3, 1), (29, .iload_n 2, 1), (30, .ifCond .ne 5, 3), (33, .iload_n 3, 1), (34, .ireturn, 1), (35, .iload_n 2, 1), (36, .iconst 1, 1), (37, .if_icmp .ne 16, 3), (40, .aload_n 0, 1), (41, .getfield 10, 3), (44, .getfield 207, 3), (47, .iload_n 1, 1), (48, .iconst 0, 1), (49, .invokevirtual 105, 3), (52, .ireturn, 1), (53, .iload_n 2, 1), (54, .bipush 10, 2), (56, .bipush 9, 2), (58, .iload_n 3, 1), (59, .iadd, 1), (60, .invokestatic 66, 3), (63, .ifCond .eq 24, 3), (66, .aload_n 0, 1), (67, .getfield 10, 3), (70, .getfield 214, 3), (73, .iload_n 1, 1), (74, .bipush 9, 2), (76, .imul, 1), (77, .iload_n 2, 1), (78, .iadd, 1), (79, .bipush 10, 2), (81, .isub, 1), (82, .iconst 0, 1), (83, .invokevirtual 105, 3), (86, .ireturn, 1), (87, .iload_n 2, 1), (88, .bipush 30, 2), (90, .bipush 29, 2), (92, .iload_n 3, 1), (93, .iadd, 1), (94, .invokestatic 66, 3), (97, .ifCond .eq 24, 3), (100, .aload_n 0, 1), (101, .getfield 10, 3), (104, .getfield 214, 3), (107, .iload_n 1, 1), (108, .bipush 9, 2), (110, .imul, 1), (111, .iload_n 2, 1), (112, .iadd, 1), (113, .bipush 30, 2), (115, .isub, 1), (116, .iconst 1, 1), (117, .invokevirtual 105, 3), (120, .ireturn, 1), (121, .iconst (-1), 1), (122, .ireturn, 1)]
set_option maxRecDepth 100000 in
theorem mj_e98 : mj_b 98 = prog_1_method_25_code := rfl
set_option maxRecDepth 100000 in
theorem mj_d98 : mj_k98.all (fun q => decide (decode prog_1_method_25_code q.1 = .ok (q.2.1, q.2.2))) = true := dq_all (by decide +kernel)
/-- FriarLists.rank(II)I -/
def mj_k99 : List (Nat × Instr × Nat) := [(0, .aload_n 0, 1), (1, .getfield 10, 3), (4, .getfield 84, 3), (7, .iload_n 1, 1), (8, .invokevirtual 95, 3), (11, .ifCond .eq 10, 3), (14, .iload_n 2, 1), (15, .invokestatic 139, 3), (18, .ifCond .ne 5, 3), (21, .iconst (-1), 1), (22, .ireturn, 1), (23, .aload_n 0, 1), (24, .getfield 10, 3), (27, .iload_n 1, 1), (28, .iload_n 2, 1), (29, .invokevirtual 217, 3), (32, .ireturn, 1)]
set_option maxRecDepth 100000 in
theorem mj_e99 : mj_b 99 = prog_1_method_26_code := rfl
set_option maxRecDepth 100000 in
theorem mj_d99 : mj_k99.all (fun q => decide (decode prog_1_method_26_code q.1 = .ok (q.2.1, q.2.2))) = true := dq_all (by decide +kernel)
/-- FriarLists$Lists.rankOf(II)I -/
def mj_k100 : List (Nat × Instr × Nat) := [(0, .aload_n 0, 1), (1, .iload_n 2, 1), (2, .invokevirtual 156, 3), (5, .istore_n 3, 1), (6, .aload_n 0, 1), (7, .iload_n 3, 1), (8, .invokevirtual 159, 3), (11, .istore 4, 2), (13, .iload 4, 2), (15, .aload_n 0, 1), (16, .iload_n 3, 1), (17, .invokevirtual 162, 3), (20, .if_icmp .ge 44, 3), (23, .aload_n 0, 1), (24, .getfield 57, 3), (27, .iload 4, 2), (29, .iconst 0, 1), (30, .invokevirtual 105, 3), (33, .ifCond .ne 25, 3), (36, .aload_n 0, 1), (37, .iload 4, 2), (39, .iload_n 1, 1), (40, .iload_n 2, 1), (41, .invokevirtual 165, 3), (44, .ifCond .eq 14, 3), (47, .aload_n 0, 1), (48, .getfield 57, 3), (51, .iload 4, 2), (53, .iconst 1, 1), (54, .invokevirtual 105, 3), (57, .ireturn, 1), (58, .iinc 4 1, 3), (61, .goto (-48), 3), (64, .bipush 9, 2), (66, .ireturn, 1)]
set_option maxRecDepth 100000 in
theorem mj_e100 : mj_b 100 = prog_2_method_27_code := rfl
set_option maxRecDepth 100000 in
theorem mj_d100 : mj_k100.all (fun q => decide (decode prog_2_method_27_code q.1 = .ok (q.2.1, q.2.2))) = true := dq_all (by decide +kernel)
/-- FriarLists.barred(II)I -/
def mj_k101 : List (Nat × Instr × Nat) := [(0, .aload_n 0, 1), (1, .getfield 10, 3), (4, .getfield 84, 3), (7, .iload_n 1, 1), (8, .invokevirtual 95, 3), (11, .ifCond .eq 10, 3), (14, .iload_n 2, 1), (15, .invokestatic 139, 3), (18, .ifCond .ne 5, 3), (21, .iconst (-1), 1), (22, .ireturn, 1), (23, .aload_n 0, 1), (24, .getfield 10, 3), (27, .iload_n 1, 1), (28, .iload_n 2, 1), (29, .invokevirtual 220, 3), (32, .ifCond .eq 7, 3), (35, .iconst 1, 1), (36, .goto 4, 3), (39, .iconst 0, 1), (40, .ireturn, 1)]
set_option maxRecDepth 100000 in
theorem mj_e101 : mj_b 101 = prog_1_method_27_code := rfl
set_option maxRecDepth 100000 in
theorem mj_d101 : mj_k101.all (fun q => decide (decode prog_1_method_27_code q.1 = .ok (q.2.1, q.2.2))) = true := dq_all (by decide +kernel)
/-- FriarLists$Lists.isBarred(II)Z -/
def mj_k102 : List (Nat × Instr × Nat) := [(0, .aload_n 0, 1), (1, .iload_n 2, 1), (2, .invokevirtual 156, 3), (5, .istore_n 3, 1), (6, .aload_n 0, 1), (7, .iload_n 3, 1), (8, .invokevirtual 159, 3), (11, .istore 4, 2), (13, .iload 4, 2), (15, .aload_n 0, 1), (16, .iload_n 3, 1), (17, .invokevirtual 162, 3), (20, .if_icmp .ge 36, 3), (23, .aload_n 0, 1), (24, .getfield 57, 3), (27, .iload 4, 2), (29, .iconst 0, 1), (30, .invokevirtual 105, 3), (33, .iconst 1, 1), (34, .if_icmp .ne 16, 3), (37, .aload_n 0, 1), (38, .iload 4, 2), (40, .iload_n 1, 1), (41, .iload_n 2, 1), (42, .invokevirtual 165, 3), (45, .ifCond .eq 5, 3), (48, .iconst 1, 1), (49, .ireturn, 1), (50, .iinc 4 1, 3), (53, .goto (-40), 3), (56, .iconst 0, 1), (57, .ireturn, 1)]
set_option maxRecDepth 100000 in
theorem mj_e102 : mj_b 102 = prog_2_method_28_code := rfl
set_option maxRecDepth 100000 in
theorem mj_d102 : mj_k102.all (fun q => decide (decode prog_2_method_28_code q.1 = .ok (q.2.1, q.2.2))) = true := dq_all (by decide +kernel)
/-- FriarLists.may(III)I -/
def mj_k103 : List (Nat × Instr × Nat) := [(0, .aload_n 0, 1), (1, .getfield 10, 3), (4, .getfield 186, 3), (7, .iload_n 1, 1), (8, .invokevirtual 95, 3), (11, .ifCond .eq 24, 3), (14, .aload_n 0, 1), (15, .getfield 10, 3), (18, .getfield 84, 3), (21, .iload_n 2, 1), (22, .invokevirtual 95, 3), (25, .ifCond .eq 10, 3), (28, .iload_n 3, 1), (29, .invokestatic 139, 3), (32, .ifCond .ne 5, 3), (35, .iconst (-1), 1), (36, .ireturn, 1), (37, .aload_n 0, 1), (38, .getfield 10, 3), (41, .iload_n 1, 1), (42, .iload_n 2, 1), (43, .iload_n 3, 1), (44, .invokevirtual 224, 3), (47, .ifCond .eq 7, 3), (50, .iconst 1, 1), (51, .goto 4, 3), (54, .iconst 0, 1), (55, .ireturn, 1)]
set_option maxRecDepth 100000 in
theorem mj_e103 : mj_b 103 = prog_1_method_28_code := rfl
set_option maxRecDepth 100000 in
theorem mj_d103 : mj_k103.all (fun q => decide (decode prog_1_method_28_code q.1 = .ok (q.2.1, q.2.2))) = true := dq_all (by decide +kernel)
/-- FriarLists.proof(II)I -/
def mj_k104 : List (Nat × Instr × Nat) := [(0, .aload_n 0, 1), (1, .getfield 10, 3), (4, .getfield 84, 3), (7, .iload_n 1, 1), (8, .invokevirtual 95, 3), (11, .ifCond .eq 10, 3), (14, .iload_n 2, 1), (15, .invokestatic 151, 3), (18, .ifCond .ne 5, 3), (21, .iconst (-1), 1), (22, .ireturn, 1), (23, .aload_n 0, 1), (24, .getfield 10, 3), (27, .getfield 227, 3), (30, .invokevirtual 87, 3), (33, .ifCond .eq 6, 3), (36, .bipush (-2), 2), (38, .ireturn, 1), (39, .aload_n 0, 1), (40, .getfield 10, 3), (43, .getfield 227, 3), (46, .invokevirtual 129, 3), (49, .istore_n 3, 1), (50, .aload_n 0, 1), (51, .getfield 10, 3), (54, .getfield 227, 3), (57, .iload_n 3, 1), (58, .iconst 0, 1), (59, .iload_n 1, 1), (60, .invokevirtual 62, 3), (63, .aload_n 0, 1), (64, .getfield 10, 3), (67, .getfield 227, 3), (70, .iload_n 3, 1), (71, .iconst 1, 1), (72, .iload_n 2, 1), (73, .invokevirtual 62, 3), (76, .aload_n 0, 1), (77, .getfield 10, 3), (80, .iload_n 1, 1), (81, .invokevirtual 230, 3), (84, .ireturn, 1)]
set_option maxRecDepth 100000 in
theorem mj_e104 : mj_b 104 = prog_1_method_29_code := rfl
set_option maxRecDepth 100000 in
theorem mj_d104 : mj_k104.all (fun q => decide (decode prog_1_method_29_code q.1 = .ok (q.2.1, q.2.2))) = true := dq_all (by decide +kernel)
/-- FriarLists$Lists.proofsThatCount(I)I -/
def mj_k105 : List (Nat × Instr × Nat) := [(0, .iconst 0, 1), (1, .istore_n 2, 1), (2, .iconst 0, 1), (3, .istore_n 3, 1), (4, .iload_n 3, 1), (5, .aload_n 0, 1), (6, .getfield 63, 3), (9, .getfield 98, 3), (12, .if_icmp .ge 45, 3), (15, .aload_n 0, 1), (16, .getfield 63, 3), (19, .iload_n 3, 1), (20, .iconst 1, 1), (21, .invokevirtual 105, 3), (24, .istore 4, 2), (26, .aload_n 0, 1), (27, .getfield 63, 3), (30, .iload_n 3, 1), (31, .iconst 0, 1), (32, .invokevirtual 105, 3), (35, .iload_n 1, 1), (36, .if_icmp .ne 15, 3), (39, .iload 4, 2), (41, .ifCond .lt 10, 3), (44, .iload_n 2, 1), (45, .iconst 1, 1), (46, .iload 4, 2), (48, .ishl, 1), (49, .ior, 1), (50, .istore_n 2, 1), (51, .iinc 3 1, 3), (54, .goto (-50), 3), (57, .iload_n 2, 1), (58, .invokestatic 168, 3), (61, .ireturn, 1)]
set_option maxRecDepth 100000 in
theorem mj_e105 : mj_b 105 = prog_2_method_31_code := rfl
set_option maxRecDepth 100000 in
theorem mj_d105 : mj_k105.all (fun q => decide (decode prog_2_method_31_code q.1 = .ok (q.2.1, q.2.2))) = true := dq_all (by decide +kernel)
/-- FriarLists.rate(IIII)I -/
def mj_k106 : List (Nat × Instr × Nat) := [(0, .iload_n 1, 1), (1, .invokestatic 233, 3), (4, .ifCond .eq 34, 3), (7, .iload_n 2, 1), (8, .invokestatic 236, 3), (11, .ifCond .eq 27, 3), (14, .iload_n 3, 1), (15, .invokestatic 236, 3), (18, .ifCond .eq 20, 3), (21, .iload_n 2, 1), (22, .iload_n 3, 1), (23, .if_icmp .eq 15, 3), (26, .iload 4, 2), (28, .iconst 1, 1), (29, .sipush 3000, 3), (32, .invokestatic 66, 3), (35, .ifCond .ne 5, 3), (38, .iconst (-1), 1), (39, .ireturn, 1), (40, .aload_n 0, 1), (41, .getfield 10, 3), (44, .getfield 239, 3), (47, .iload_n 1, 1), (48, .iload_n 2, 1), (49, .iconst 3, 1), (50, .imul, 1), (51, .iload_n 3, 1), (52, .iadd, 1), (53, .iload 4, 2), (55, .invokevirtual 116, 3), (58, .ireturn, 1)]
set_option maxRecDepth 100000 in
theorem mj_e106 : mj_b 106 = prog_1_method_30_code := rfl
set_option maxRecDepth 100000 in
theorem mj_d106 : mj_k106.all (fun q => decide (decode prog_1_method_30_code q.1 = .ok (q.2.1, q.2.2))) = true := dq_all (by decide +kernel)
/-- FriarLists.isPort(I)Z -/
def mj_k107 : List (Nat × Instr × Nat) := [(0, .iload_n 0, 1), (1, .iconst 0, 1), (2, .iconst 4, 1), (3, .invokestatic 66, 3), (6, .ireturn, 1)]
set_option maxRecDepth 100000 in
theorem mj_e107 : mj_b 107 = prog_1_method_74_code := rfl
set_option maxRecDepth 100000 in
theorem mj_d107 : mj_k107.all (fun q => decide (decode prog_1_method_74_code q.1 = .ok (q.2.1, q.2.2))) = true := dq_all (by decide +kernel)
/-- FriarLists.isCoin(I)Z -/
def mj_k108 : List (Nat × Instr × Nat) := [(0, .iload_n 0, 1), (1, .iconst 0, 1), (2, .iconst 2, 1), (3, .invokestatic 66, 3), (6, .ireturn, 1)]
set_option maxRecDepth 100000 in
theorem mj_e108 : mj_b 108 = prog_1_method_76_code := rfl
set_option maxRecDepth 100000 in
theorem mj_d108 : mj_k108.all (fun q => decide (decode prog_1_method_76_code q.1 = .ok (q.2.1, q.2.2))) = true := dq_all (by decide +kernel)
/-- FriarLists.sails(III)I -/
def mj_k109 : List (Nat × Instr × Nat) := [(0, .iload_n 1, 1), (1, .invokestatic 233, 3), (4, .ifCond .eq 26, 3), (7, .iload_n 2, 1), (8, .invokestatic 233, 3), (11, .ifCond .eq 19, 3), (14, .iload_n 1, 1), (15, .iload_n 2, 1), (16, .if_icmp .eq 14, 3), (19, .iload_n 3, 1), (20, .iconst 0, 1), (21, .sipush 999, 3), (24, .invokestatic 66, 3), (27, .ifCond .ne 5, 3), (30, .iconst (-1), 1), (31, .ireturn, 1), (32, .aload_n 0, 1), (33, .getfield 10, 3), (36, .getfield 242, 3), (39, .iload_n 2, 1), (40, .iload_n 1, 1), (41, .iload_n 3, 1), (42, .invokevirtual 62, 3), (45, .aload_n 0, 1), (46, .getfield 10, 3), (49, .getfield 242, 3), (52, .iload_n 1, 1), (53, .iload_n 2, 1), (54, .iload_n 3, 1), (55, .invokevirtual 116, 3), (58, .ireturn, 1)]
set_option maxRecDepth 100000 in
theorem mj_e109 : mj_b 109 = prog_1_method_31_code := rfl
set_option maxRecDepth 100000 in
theorem mj_d109 : mj_k109.all (fun q => decide (decode prog_1_method_31_code q.1 = .ok (q.2.1, q.2.2))) = true := dq_all (by decide +kernel)
/-- FriarLists.brought(IIII)I -/
def mj_k110 : List (Nat × Instr × Nat) := [(0, .iload_n 1, 1), (1, .invokestatic 120, 3), (4, .ifCond .eq 28, 3), (7, .iload_n 2, 1), (8, .invokestatic 236, 3), (11, .ifCond .eq 21, 3), (14, .iload_n 3, 1), (15, .invokestatic 236, 3), (18, .ifCond .eq 14, 3), (21, .iload 4, 2), (23, .iconst 1, 1), (24, .ldc 245, 2), (26, .invokestatic 66, 3), (29, .ifCond .ne 5, 3), (32, .iconst (-1), 1), (33, .ireturn, 1), (34, .aload_n 0, 1), (35, .getfield 33, 3), (38, .aload_n 0, 1), (39, .getfield 10, 3), (42, .iload_n 1, 1), (43, .iload_n 2, 1), (44, .iload_n 3, 1), (45, .iload 4, 2), (47, .invokevirtual 246, 3), (50, .ireturn, 1)]
set_option maxRecDepth 100000 in
theorem mj_e110 : mj_b 110 = prog_1_method_32_code := rfl
set_option maxRecDepth 100000 in
theorem mj_d110 : mj_k110.all (fun q => decide (decode prog_1_method_32_code q.1 = .ok (q.2.1, q.2.2))) = true := dq_all (by decide +kernel)
/-- FriarLists$Ways.mostBrought(LFriarLists$Lists;IIII)I -/
def mj_k111 : List (Nat × Instr × Nat) := [(0, .aload_n 0, 1), (1, .bipush (-3), 2), (3, .putfield 40, 3), (6, .aload_n 0, 1), (7, .getfield 33, 3), (10, .iconst 0, 1), (11, .invokevirtual 69, 3), (14, .aload_n 0, 1), (15, .getfield 33, 3), (18, .iconst 0, 1), (19, .iload_n 3, 1), (20, .iload 5, 2), (22, .invokevirtual 73, 3), (25, .aload_n 0, 1), (26, .aload_n 1, 1), (27, .iconst 0, 1), (28, .iconst 0, 1), (29, .iload_n 2, 1), (30, .iload 4, 2), (32, .iconst 0, 1), (33, .invokevirtual 76, 3), (36, .aload_n 0, 1), (37, .getfield 40, 3), (40, .ireturn, 1)]
set_option maxRecDepth 100000 in
theorem mj_e111 : mj_b 111 = prog_6_method_7_code := rfl
set_option maxRecDepth 100000 in
theorem mj_d111 : mj_k111.all (fun q => decide (decode prog_6_method_7_code q.1 = .ok (q.2.1, q.2.2))) = true := dq_all (by decide +kernel)
/-- FriarLists$Ways.carryTo(LFriarLists$Lists;IIIII)V -/
def mj_k112 : List (Nat × Instr × Nat) := [(0, .iload_n 3, 1), (1, .iconst 5, 1), (2, .if_icmp .lt 4, 3), (5, .return_, 1), (6, .iconst 0, 1), (7, .istore 7, 2), (9, .iload 7, 2), (11, .iconst 3, 1), (12, .if_icmp .ge 28, 3), (15, .aload_n 0, 1), (16, .getfield 37, 3), (19, .iload_n 3, 1), (20, .iload 7, 2), (22, .aload_n 0, 1), (23, .aload_n 1, 1), (24, .iload_n 2, 1), (25, .iload_n 3, 1), (26, .iload 7, 2), (28, .invokevirtual 79, 3), (31, .invokevirtual 73, 3), (34, .iinc 7 1, 3), (37, .goto (-28), 3), (40, .iload_n 2, 1), (41, .iload 4, 2), (43, .if_icmp .ne 27, 3), (46, .aload_n 0, 1), (47, .aload_n 0, 1), (48, .getfield 40, 3), (51, .aload_n 0, 1), (52, .getfield 37, 3), (55, .iload_n 3, 1), (56, .iload 5, 2), (58, .invokevirtual 59, 3), (61, .invokestatic 83, 3), (64, .putfield 40, 3), (67, .goto 20, 3), (70, .aload_n 0, 1), (71, .aload_n 1, 1), (72, .iload_n 2, 1), (73, .iload_n 3, 1), (74, .iload 4, 2), (76, .iload 5, 2), (78, .iload 6, 2), (80, .iconst 1, 1), (81, .iload_n 2, 1), (82, .ishl, 1), (83, .ior, 1), (84, .invokevirtual 88, 3), (87, .return_, 1)]
set_option maxRecDepth 100000 in
theorem mj_e112 : mj_b 112 = prog_6_method_8_code := rfl
set_option maxRecDepth 100000 in
theorem mj_d112 : mj_k112.all (fun q => decide (decode prog_6_method_8_code q.1 = .ok (q.2.1, q.2.2))) = true := dq_all (by decide +kernel)
/-- FriarLists$Ways.mostOf(LFriarLists$Lists;III)I -/
def mj_k113 : List (Nat × Instr × Nat) := [(0, .aload_n 0, 1), (1, .getfield 33, 3), (4, .iload_n 3, 1), (5, .iload 4, 2), (7, .invokevirtual 59, 3), (10, .istore 5, 2), (12, .iconst 0, 1), (13, .istore 6, 2), (15, .iload 6, 2), (17, .iconst 3, 1), (18, .if_icmp .ge 63, 3), (21, .iload 6, 2), (23, .iload 4, 2), (25, .if_icmp .ne 6, 3), (28, .goto 47, 3), (31, .aload_n 0, 1), (32, .getfield 33, 3), (35, .iload_n 3, 1), (36, .iload 6, 2), (38, .invokevirtual 59, 3), (41, .i2l, 1), (42, .aload_n 1, 1), (43, .getfield 91, 3), (46, .iload_n 2, 1), (47, .iload 6, 2), (49, .iconst 3, 1), (50, .imul, 1), (51, .iload 4, 2), (53, .iadd, 1), (54, .invokevirtual 59, 3), (57, .i2l, 1), (58, .lmul, 1), (59, .ldc2_w 94, 3), (62, .ldiv, 1), (63, .lstore 7, 2), (65, .iload 5, 2), (67, .lload 7, 2), (69, .l2i, 1), (70, .invokestatic 83, 3), (73, .istore 5, 2), (75, .iinc 6 1, 3), (78, .goto (-63), 3), (81, .iload 5, 2), (83, .ireturn, 1)]
set_option maxRecDepth 100000 in
theorem mj_e113 : mj_b 113 = prog_6_method_10_code := rfl
set_option maxRecDepth 100000 in
theorem mj_d113 : mj_k113.all (fun q => decide (decode prog_6_method_10_code q.1 = .ok (q.2.1, q.2.2))) = true := dq_all (by decide +kernel)
/-- FriarLists$Ways.carryOn(LFriarLists$Lists;IIIII)V -/
def mj_k114 : List (Nat × Instr × Nat) := [(0, .iconst 0, 1), (1, .istore 7, 2), (3, .iload 7, 2), (5, .iconst 5, 1), (6, .if_icmp .ge 91, 3), (9, .aload_n 1, 1), (10, .getfield 54, 3), (13, .iload_n 2, 1), (14, .iload 7, 2), (16, .invokevirtual 59, 3), (19, .bipush 100, 2), (21, .if_icmp .lt 70, 3), (24, .iload 6, 2), (26, .iload 7, 2), (28, .ishr, 1), (29, .iconst 1, 1), (30, .iand, 1), (31, .iconst 1, 1), (32, .if_icmp .ne 6, 3), (35, .goto 56, 3), (38, .iconst 0, 1), (39, .istore 8, 2), (41, .iload 8, 2), (43, .iconst 3, 1), (44, .if_icmp .ge 31, 3), (47, .aload_n 0, 1), (48, .getfield 33, 3), (51, .iload_n 3, 1), (52, .iconst 1, 1), (53, .iadd, 1), (54, .iload 8, 2), (56, .aload_n 0, 1), (57, .getfield 37, 3), (60, .iload_n 3, 1), (61, .iload 8, 2), (63, .invokevirtual 59, 3), (66, .invokevirtual 73, 3), (69, .iinc 8 1, 3), (72, .goto (-31), 3), (75, .aload_n 0, 1), (76, .aload_n 1, 1), (77, .iload 7, 2), (79, .iload_n 3, 1), (80, .iconst 1, 1), (81, .iadd, 1), (82, .iload 4, 2), (84, .iload 5, 2), (86, .iload 6, 2), (88, .invokevirtual 76, 3), (91, .iinc 7 1, 3), (94, .goto (-91), 3), (97, .return_, 1)]
set_option maxRecDepth 100000 in
theorem mj_e114 : mj_b 114 = prog_6_method_9_code := rfl
set_option maxRecDepth 100000 in
theorem mj_d114 : mj_k114.all (fun q => decide (decode prog_6_method_9_code q.1 = .ok (q.2.1, q.2.2))) = true := dq_all (by decide +kernel)
/-- FriarLists.road(III)I -/
def mj_k115 : List (Nat × Instr × Nat) := [(0, .iload_n 1, 1), (1, .invokestatic 120, 3), (4, .ifCond .eq 17, 3), (7, .iload_n 2, 1), (8, .iconst 1, 1), (9, .bipush 99, 2), (11, .invokestatic 66, 3), (14, .ifCond .eq 7, 3), (17, .iload_n 3, 1), (18, .ifCond .ge 5, 3), (21, .iconst (-1), 1), (22, .ireturn, 1), (23, .aload_n 0, 1), (24, .getfield 33, 3), (27, .aload_n 0, 1), (28, .getfield 10, 3), (31, .iload_n 1, 1), (32, .iload_n 2, 1), (33, .invokevirtual 250, 3), (36, .ifCond .ne 6, 3), (39, .bipush (-3), 2), (41, .ireturn, 1), (42, .iload_n 3, 1), (43, .ifCond .ne 13, 3), (46, .iload_n 2, 1), (47, .aload_n 0, 1), (48, .getfield 33, 3), (51, .getfield 254, 3), (54, .isub, 1), (55, .ireturn, 1), (56, .iload_n 3, 1), (57, .iconst 1, 1), (58, .if_icmp .ne 11, 3), (61, .aload_n 0, 1), (62, .getfield 33, 3), (65, .getfield 257, 3), (68, .ireturn, 1), (69, .aload_n 0, 1), (70, .getfield 33, 3), (73, .iload_n 3, 1), (74, .iconst 2, 1), (75, .isub, 1), (76, .invokevirtual 260, 3), (79, .ireturn, 1)]
set_option maxRecDepth 100000 in
theorem mj_e115 : mj_b 115 = prog_1_method_33_code := rfl
set_option maxRecDepth 100000 in
theorem mj_d115 : mj_k115.all (fun q => decide (decode prog_1_method_33_code q.1 = .ok (q.2.1, q.2.2))) = true := dq_all (by decide +kernel)
/-- FriarLists$Ways.findRoad(LFriarLists$Lists;II)Z -/
def mj_k116 : List (Nat × Instr × Nat) := [(0, .aload_n 0, 1), (1, .iconst 0, 1), (2, .putfield 18, 3), (5, .aload_n 0, 1), (6, .aload_n 1, 1), (7, .iload_n 2, 1), (8, .iconst 0, 1), (9, .iload_n 3, 1), (10, .iconst 0, 1), (11, .iconst 0, 1), (12, .invokevirtual 43, 3), (15, .aload_n 0, 1), (16, .getfield 18, 3), (19, .ifCond .le 7, 3), (22, .iconst 1, 1), (23, .goto 4, 3), (26, .iconst 0, 1), (27, .ireturn, 1)]
set_option maxRecDepth 100000 in
theorem mj_e116 : mj_b 116 = prog_6_method_2_code := rfl
set_option maxRecDepth 100000 in
theorem mj_d116 : mj_k116.all (fun q => decide (decode prog_6_method_2_code q.1 = .ok (q.2.1, q.2.2))) = true := dq_all (by decide +kernel)
/-- FriarLists$Ways.walkTo(LFriarLists$Lists;IIIII)V -/
def mj_k117 : List (Nat × Instr × Nat) := [(0, .iload_n 3, 1), (1, .ifCond .lt 12, 3), (4, .iload_n 3, 1), (5, .aload_n 0, 1), (6, .getfield 9, 3), (9, .arraylength, 1), (10, .if_icmp .lt 4, 3), (13, .return_, 1), (14, .aload_n 0, 1), (15, .getfield 9, 3), (18, .iload_n 3, 1), (19, .iload_n 2, 1), (20, .iastore, 1), (21, .iload_n 2, 1), (22, .ifCond .ne 17, 3), (25, .aload_n 0, 1), (26, .iload_n 3, 1), (27, .iconst 1, 1), (28, .iadd, 1), (29, .iload 4, 2), (31, .iload 5, 2), (33, .invokevirtual 47, 3), (36, .goto 22, 3), (39, .aload_n 0, 1), (40, .aload_n 1, 1), (41, .iload_n 2, 1), (42, .iload_n 3, 1), (43, .iconst 1, 1), (44, .iadd, 1), (45, .iload 4, 2), (47, .iload 5, 2), (49, .iload 6, 2), (51, .iconst 1, 1), (52, .iload_n 2, 1), (53, .ishl, 1), (54, .ior, 1), (55, .invokevirtual 51, 3), (58, .return_, 1)]
set_option maxRecDepth 100000 in
theorem mj_e117 : mj_b 117 = prog_6_method_4_code := rfl
set_option maxRecDepth 100000 in
theorem mj_d117 : mj_k117.all (fun q => decide (decode prog_6_method_4_code q.1 = .ok (q.2.1, q.2.2))) = true := dq_all (by decide +kernel)
/-- FriarLists$Ways.takeIfBetter(III)V -/
def mj_k118 : List (Nat × Instr × Nat) := [(0, .iload_n 2, 1), (1, .aload_n 0, 1), (2, .getfield 22, 3), (5, .if_icmp .gt 19, 3), (8, .iload_n 2, 1), (9, .aload_n 0, 1), (10, .getfield 22, 3), (13, .if_icmp .ne 15, 3), (16, .iload_n 3, 1), (17, .aload_n 0, 1), (18, .getfield 25, 3), (21, .if_icmp .ge 7, 3), (24, .iconst 1, 1), (25, .goto 4, 3), (28, .iconst 0, 1), (29, .istore 4, 2), (31, .aload_n 0, 1), (32, .getfield 18, 3), (35, .ifCond .le 9, 3), (38, .iload 4, 2), (40, .ifCond .ne 4, 3), (43, .return_, 1), (44, .aload_n 0, 1), (45, .iload_n 1, 1), (46, .putfield 18, 3), (49, .aload_n 0, 1), (50, .iload_n 2, 1), (51, .putfield 22, 3), (54, .aload_n 0, 1), (55, .iload_n 3, 1), (56, .putfield 25, 3), (59, .aload_n 0, 1), (60, .getfield 9, 3), (63, .iconst 0, 1), (64, .aload_n 0, 1), (65, .getfield 15, 3), (68, .iconst 0, 1), (69, .iconst 5, 1), (70, .invokestatic 63, 3), (73, .return_, 1)]
set_option maxRecDepth 100000 in
theorem mj_e118 : mj_b 118 = prog_6_method_6_code := rfl
set_option maxRecDepth 100000 in
theorem mj_d118 : mj_k118.all (fun q => decide (decode prog_6_method_6_code q.1 = .ok (q.2.1, q.2.2))) = true := dq_all (by decide +kernel)
/-- FriarLists$Ways.walkOn(LFriarLists$Lists;IIIII)V -/
def mj_k119 : List (Nat × Instr × Nat) := [(0, .iconst 0, 1), (1, .istore 7, 2), (3, .iload 7, 2), (5, .iconst 5, 1), (6, .if_icmp .ge 81, 3), (9, .aload_n 1, 1), (10, .getfield 54, 3), (13, .iload_n 2, 1), (14, .iload 7, 2), (16, .invokevirtual 59, 3), (19, .istore 8, 2), (21, .iload 8, 2), (23, .bipush 100, 2), (25, .if_icmp .lt 56, 3), (28, .iload 6, 2), (30, .iload 7, 2), (32, .ishr, 1), (33, .iconst 1, 1), (34, .iand, 1), (35, .iconst 1, 1), (36, .if_icmp .ne 6, 3), (39, .goto 42, 3), (42, .iload 4, 2), (44, .iload 8, 2), (46, .bipush 100, 2), (48, .irem, 1), (49, .imul, 1), (50, .bipush 99, 2), (52, .iadd, 1), (53, .bipush 100, 2), (55, .idiv, 1), (56, .istore 9, 2), (58, .aload_n 0, 1), (59, .aload_n 1, 1), (60, .iload 7, 2), (62, .iload_n 3, 1), (63, .iload 4, 2), (65, .iload 9, 2), (67, .isub, 1), (68, .iload 5, 2), (70, .iload 8, 2), (72, .bipush 100, 2), (74, .idiv, 1), (75, .iadd, 1), (76, .iload 6, 2), (78, .invokevirtual 43, 3), (81, .iinc 7 1, 3), (84, .goto (-81), 3), (87, .return_, 1)]
set_option maxRecDepth 100000 in
theorem mj_e119 : mj_b 119 = prog_6_method_5_code := rfl
set_option maxRecDepth 100000 in
theorem mj_d119 : mj_k119.all (fun q => decide (decode prog_6_method_5_code q.1 = .ok (q.2.1, q.2.2))) = true := dq_all (by decide +kernel)
/-- FriarLists$Ways.portOfRoad(I)I -/
def mj_k120 : List (Nat × Instr × Nat) := [(0, .iload_n 1, 1), (1, .ifCond .lt 29, 3), (4, .iload_n 1, 1), (5, .aload_n 0, 1), (6, .getfield 18, 3), (9, .if_icmp .ge 21, 3), (12, .iload_n 1, 1), (13, .aload_n 0, 1), (14, .getfield 15, 3), (17, .arraylength, 1), (18, .if_icmp .ge 12, 3), (21, .aload_n 0, 1), (22, .getfield 15, 3), (25, .iload_n 1, 1), (26, .iaload, 1), (27, .goto 5, 3), (30, .bipush (-3), 2), (32, .ireturn, 1)]
set_option maxRecDepth 100000 in
theorem mj_e120 : mj_b 120 = prog_6_method_3_code := rfl
set_option maxRecDepth 100000 in
theorem mj_d120 : mj_k120.all (fun q => decide (decode prog_6_method_3_code q.1 = .ok (q.2.1, q.2.2))) = true := dq_all (by decide +kernel)
/-- FriarLists.mole(II)I -/
def mj_k121 : List (Nat × Instr × Nat) := [(0, .iload_n 1, 1), (1, .invokestatic 120, 3), (4, .ifCond .eq 13, 3), (7, .iload_n 2, 1), (8, .iconst 0, 1), (9, .ldc 245, 2), (11, .invokestatic 66, 3), (14, .ifCond .ne 5, 3), (17, .iconst (-1), 1), (18, .ireturn, 1), (19, .aload_n 0, 1), (20, .iload_n 1, 1), (21, .invokevirtual 263, 3), (24, .aload_n 0, 1), (25, .iload_n 2, 1), (26, .invokevirtual 266, 3), (29, .istore_n 3, 1), (30, .aload_n 0, 1), (31, .iload_n 3, 1), (32, .invokevirtual 269, 3), (35, .iload_n 3, 1), (36, .ireturn, 1)]
set_option maxRecDepth 100000 in
theorem mj_e121 : mj_b 121 = prog_1_method_34_code := rfl
set_option maxRecDepth 100000 in
theorem mj_d121 : mj_k121.all (fun q => decide (decode prog_1_method_34_code q.1 = .ok (q.2.1, q.2.2))) = true := dq_all (by decide +kernel)
/-- FriarLists.gatherOffers(I)V -/
def mj_k122 : List (Nat × Instr × Nat) := [(0, .aload_n 0, 1), (1, .getfield 42, 3), (4, .invokevirtual 272, 3), (7, .iconst 0, 1), (8, .istore_n 2, 1), (9, .iload_n 2, 1), (10, .aload_n 0, 1), (11, .getfield 10, 3), (14, .getfield 84, 3), (17, .getfield 174, 3), (20, .if_icmp .ge 111, 3), (23, .aload_n 0, 1), (24, .getfield 42, 3), (27, .invokevirtual 87, 3), (30, .ifCond .ne 101, 3), (33, .aload_n 0, 1), (34, .getfield 10, 3), (37, .iload_n 2, 1), (38, .invokevirtual 275, 3), (41, .iload_n 1, 1), (42, .if_icmp .ne 83, 3), (45, .aload_n 0, 1), (46, .getfield 10, 3), (49, .iload_n 2, 1), (50, .invokevirtual 278, 3), (53, .ifCond .ne 6, 3), (56, .goto 69, 3), (59, .aload_n 0, 1), (60, .getfield 42, 3), (63, .invokevirtual 129, 3), (66, .istore_n 3, 1), (67, .aload_n 0, 1), (68, .getfield 42, 3), (71, .iload_n 3, 1), (72, .iconst 0, 1), (73, .iload_n 2, 1), (74, .invokevirtual 62, 3), (77, .aload_n 0, 1), (78, .getfield 42, 3), (81, .iload_n 3, 1), (82, .iconst 1, 1), (83, .aload_n 0, 1), (84, .getfield 10, 3), (87, .iload_n 2, 1), (88, .aload_n 0, 1), (89, .getfield 10, 3), (92, .getfield 70, 3), (95, .invokevirtual 142, 3), (98, .invokevirtual 62, 3), (101, .aload_n 0, 1), (102, .getfield 42, 3), (105, .iload_n 3, 1), (106, .iconst 2, 1), (107, .aload_n 0, 1), (108, .getfield 10, 3), (111, .iload_n 2, 1), (112, .aload_n 0, 1), (113, .getfield 10, 3), (116, .getfield 70, 3), (119, .invokevirtual 217, 3), (122, .invokevirtual 62, 3), (125, .iinc 2 1, 3), (128, .goto (-119), 3), (131, .return_, 1)]
set_option maxRecDepth 100000 in
theorem mj_e122 : mj_b 122 = prog_1_method_35_code := rfl
set_option maxRecDepth 100000 in
theorem mj_d122 : mj_k122.all (fun q => decide (decode prog_1_method_35_code q.1 = .ok (q.2.1, q.2.2))) = true := dq_all (by decide +kernel)
/-- FriarLists$Lists.canBeBought(I)Z -/
def mj_k123 : List (Nat × Instr × Nat) := [(0, .aload_n 0, 1), (1, .getfield 23, 3), (4, .iload_n 1, 1), (5, .bipush 6, 2), (7, .invokevirtual 105, 3), (10, .ifCond .ne 15, 3), (13, .aload_n 0, 1), (14, .iload_n 1, 1), (15, .aload_n 0, 1), (16, .getfield 9, 3), (19, .invokevirtual 176, 3), (22, .ifCond .eq 5, 3), (25, .iconst 0, 1), (26, .ireturn, 1), (27, .aload_n 0, 1), (28, .iload_n 1, 1), (29, .invokevirtual 180, 3), (32, .aload_n 0, 1), (33, .invokevirtual 183, 3), (36, .if_icmp .lt 7, 3), (39, .iconst 1, 1), (40, .goto 4, 3), (43, .iconst 0, 1), (44, .ireturn, 1)]
set_option maxRecDepth 100000 in
theorem mj_e123 : mj_b 123 = prog_2_method_35_code := rfl
set_option maxRecDepth 100000 in
theorem mj_d123 : mj_k123.all (fun q => decide (decode prog_2_method_35_code q.1 = .ok (q.2.1, q.2.2))) = true := dq_all (by decide +kernel)
/-- FriarLists$Lists.proofsWanted()I -/
def mj_k124 : List (Nat × Instr × Nat) := [(0, .aload_n 0, 1), (1, .aload_n 0, 1), (2, .getfield 9, 3), (5, .invokevirtual 156, 3), (8, .istore_n 1, 1), (9, .iconst 0, 1), (10, .istore_n 2, 1), (11, .aload_n 0, 1), (12, .iload_n 1, 1), (13, .invokevirtual 159, 3), (16, .istore_n 3, 1), (17, .iload_n 3, 1), (18, .aload_n 0, 1), (19, .iload_n 1, 1), (20, .invokevirtual 162, 3), (23, .if_icmp .ge 32, 3), (26, .aload_n 0, 1), (27, .getfield 57, 3), (30, .iload_n 3, 1), (31, .iconst 0, 1), (32, .invokevirtual 105, 3), (35, .iconst 3, 1), (36, .if_icmp .ne 13, 3), (39, .aload_n 0, 1), (40, .getfield 57, 3), (43, .iload_n 3, 1), (44, .iconst 1, 1), (45, .invokevirtual 105, 3), (48, .istore_n 2, 1), (49, .iinc 3 1, 3), (52, .goto (-35), 3), (55, .iload_n 2, 1), (56, .ireturn, 1)]
set_option maxRecDepth 100000 in
theorem mj_e124 : mj_b 124 = prog_2_method_30_code := rfl
set_option maxRecDepth 100000 in
theorem mj_d124 : mj_k124.all (fun q => decide (decode prog_2_method_30_code q.1 = .ok (q.2.1, q.2.2))) = true := dq_all (by decide +kernel)
/-- FriarLists.chooseOffers(I)I -/
def mj_k125 : List (Nat × Instr × Nat) := [(0, .iconst 0, 1), (1, .istore_n 2, 1), (2, .iconst 0, 1), (3, .istore_n 3, 1), (4, .iload_n 1, 1), (5, .istore 4, 2), (7, .iconst 0, 1), (8, .istore 5, 2), (10, .iload 5, 2), (12, .aload_n 0, 1), (13, .getfield 42, 3), (16, .getfield 174, 3), (19, .if_icmp .ge 67, 3), (22, .aload_n 0, 1), (23, .iload_n 3, 1), (24, .invokevirtual 281, 3), (27, .istore 6, 2), (29, .iload_n 3, 1), (30, .iconst 1, 1), (31, .iload 6, 2), (33, .ishl, 1), (34, .ior, 1), (35, .istore_n 3, 1), (36, .aload_n 0, 1), (37, .getfield 42, 3), (40, .iload 6, 2), (42, .iconst 1, 1), (43, .invokevirtual 105, 3), (46, .istore 7, 2), (48, .iload 7, 2), (50, .iload 4, 2), (52, .if_icmp .le 6, 3), (55, .goto 25, 3), (58, .iload 4, 2), (60, .iload 7, 2), (62, .isub, 1), (63, .istore 4, 2), (65, .iload_n 2, 1), (66, .iconst 1, 1), (67, .aload_n 0, 1), (68, .getfield 42, 3), (71, .iload 6, 2), (73, .iconst 0, 1), (74, .invokevirtual 105, 3), (77, .ishl, 1), (78, .ior, 1), (79, .istore_n 2, 1), (80, .iinc 5 1, 3), (83, .goto (-73), 3), (86, .iload_n 2, 1), (87, .ireturn, 1)]
set_option maxRecDepth 100000 in
theorem mj_e125 : mj_b 125 = prog_1_method_36_code := rfl
set_option maxRecDepth 100000 in
theorem mj_d125 : mj_k125.all (fun q => decide (decode prog_1_method_36_code q.1 = .ok (q.2.1, q.2.2))) = true := dq_all (by decide +kernel)
/-- FriarLists.firstOffer(I)I -/
def mj_k126 : List (Nat × Instr × Nat) := [(0, .iconst (-1), 1), (1, .istore_n 2, 1), (2, .iconst 0, 1), (3, .istore_n 3, 1), (4, .iload_n 3, 1), (5, .aload_n 0, 1), (6, .getfield 42, 3), (9, .getfield 174, 3), (12, .if_icmp .ge 32, 3), (15, .iload_n 1, 1), (16, .iload_n 3, 1), (17, .ishr, 1), (18, .iconst 1, 1), (19, .iand, 1), (20, .ifCond .ne 18, 3), (23, .iload_n 2, 1), (24, .ifCond .lt 12, 3), (27, .aload_n 0, 1), (28, .iload_n 3, 1), (29, .iload_n 2, 1), (30, .invokevirtual 284, 3), (33, .ifCond .eq 5, 3), (36, .iload_n 3, 1), (37, .istore_n 2, 1), (38, .iinc 3 1, 3), (41, .goto (-37), 3), (44, .iload_n 2, 1), (45, .ireturn, 1)]
set_option maxRecDepth 100000 in
theorem mj_e126 : mj_b 126 = prog_1_method_37_code := rfl
set_option maxRecDepth 100000 in
theorem mj_d126 : mj_k126.all (fun q => decide (decode prog_1_method_37_code q.1 = .ok (q.2.1, q.2.2))) = true := dq_all (by decide +kernel)
/-- FriarLists.isAhead(II)Z -/
def mj_k127 : List (Nat × Instr × Nat) := [(0, .aload_n 0, 1), (1, .getfield 42, 3), (4, .iload_n 1, 1), (5, .iconst 2, 1), (6, .invokevirtual 105, 3), (9, .istore_n 3, 1), (10, .aload_n 0, 1), (11, .getfield 42, 3), (14, .iload_n 2, 1), (15, .iconst 2, 1), (16, .invokevirtual 105, 3), (19, .istore 4, 2), (21, .iload_n 3, 1), (22, .iload 4, 2), (24, .if_icmp .eq 15, 3), (27, .iload_n 3, 1), (28, .iload 4, 2), (30, .if_icmp .ge 7, 3), (33, .iconst 1, 1), (34, .goto 4, 3), (37, .iconst 0, 1), (38, .ireturn, 1), (39, .aload_n 0, 1), (40, .getfield 42, 3), (43, .iload_n 1, 1), (44, .iconst 1, 1), (45, .invokevirtual 105, 3), (48, .aload_n 0, 1), (49, .getfield 42, 3), (52, .iload_n 2, 1), (53, .iconst 1, 1), (54, .invokevirtual 105, 3), (57, .if_icmp .ge 7, 3), (60, .iconst 1, 1), (61, .goto 4, 3), (64, .iconst 0, 1), (65, .ireturn, 1)]
set_option maxRecDepth 100000 in
theorem mj_e127 : mj_b 127 = prog_1_method_38_code := rfl
set_option maxRecDepth 100000 in
theorem mj_d127 : mj_k127.all (fun q => decide (decode prog_1_method_38_code q.1 = .ok (q.2.1, q.2.2))) = true := dq_all (by decide +kernel)
/-- FriarLists.writeRows(I)V -/
def mj_k128 : List (Nat × Instr × Nat) := [(0, .aload_n 0, 1), (1, .getfield 46, 3), (4, .invokevirtual 272, 3), (7, .iconst 0, 1), (8, .istore_n 2, 1), (9, .iload_n 2, 1), (10, .aload_n 0, 1), (11, .getfield 42, 3), (14, .getfield 174, 3), (17, .if_icmp .ge 69, 3), (20, .aload_n 0, 1), (21, .getfield 42, 3), (24, .iload_n 2, 1), (25, .iconst 0, 1), (26, .invokevirtual 105, 3), (29, .istore_n 3, 1), (30, .iload_n 1, 1), (31, .iload_n 3, 1), (32, .ishr, 1), (33, .iconst 1, 1), (34, .iand, 1), (35, .ifCond .ne 6, 3), (38, .goto 42, 3), (41, .aload_n 0, 1), (42, .getfield 46, 3), (45, .invokevirtual 129, 3), (48, .istore 4, 2), (50, .aload_n 0, 1), (51, .getfield 46, 3), (54, .iload 4, 2), (56, .iconst 0, 1), (57, .iload_n 3, 1), (58, .invokevirtual 62, 3), (61, .aload_n 0, 1), (62, .getfield 46, 3), (65, .iload 4, 2), (67, .iconst 1, 1), (68, .aload_n 0, 1), (69, .getfield 42, 3), (72, .iload_n 2, 1), (73, .iconst 1, 1), (74, .invokevirtual 105, 3), (77, .invokevirtual 62, 3), (80, .iinc 2 1, 3), (83, .goto (-74), 3), (86, .return_, 1)]
set_option maxRecDepth 100000 in
theorem mj_e128 : mj_b 128 = prog_1_method_39_code := rfl
set_option maxRecDepth 100000 in
theorem mj_d128 : mj_k128.all (fun q => decide (decode prog_1_method_39_code q.1 = .ok (q.2.1, q.2.2))) = true := dq_all (by decide +kernel)
/-- FriarLists.row(II)I -/
def mj_k129 : List (Nat × Instr × Nat) := [(0, .aload_n 0, 1), (1, .getfield 46, 3), (4, .iload_n 1, 1), (5, .invokevirtual 95, 3), (8, .ifCond .eq 12, 3), (11, .iload_n 2, 1), (12, .iconst 0, 1), (13, .iconst 1, 1), (14, .invokestatic 66, 3), (17, .ifCond .ne 6, 3), (20, .bipush (-9), 2), (22, .ireturn, 1), (23, .aload_n 0, 1), (24, .getfield 46, 3), (27, .iload_n 1, 1), (28, .iload_n 2, 1), (29, .invokevirtual 105, 3), (32, .ireturn, 1)]
set_option maxRecDepth 100000 in
theorem mj_e129 : mj_b 129 = prog_1_method_40_code := rfl
set_option maxRecDepth 100000 in
theorem mj_d129 : mj_k129.all (fun q => decide (decode prog_1_method_40_code q.1 = .ok (q.2.1, q.2.2))) = true := dq_all (by decide +kernel)
/-- FriarLists.alterRow(III)I -/
def mj_k130 : List (Nat × Instr × Nat) := [(0, .aload_n 0, 1), (1, .getfield 46, 3), (4, .iload_n 1, 1), (5, .invokevirtual 95, 3), (8, .ifCond .eq 12, 3), (11, .iload_n 2, 1), (12, .iconst 0, 1), (13, .iconst 1, 1), (14, .invokestatic 66, 3), (17, .ifCond .ne 6, 3), (20, .bipush (-9), 2), (22, .ireturn, 1), (23, .aload_n 0, 1), (24, .getfield 46, 3), (27, .iload_n 1, 1), (28, .iload_n 2, 1), (29, .iload_n 3, 1), (30, .invokevirtual 116, 3), (33, .ireturn, 1)]
set_option maxRecDepth 100000 in
theorem mj_e130 : mj_b 130 = prog_1_method_41_code := rfl
set_option maxRecDepth 100000 in
theorem mj_d130 : mj_k130.all (fun q => decide (decode prog_1_method_41_code q.1 = .ok (q.2.1, q.2.2))) = true := dq_all (by decide +kernel)
/-- FriarLists.judge(II)I -/
def mj_k131 : List (Nat × Instr × Nat) := [(0, .iload_n 1, 1), (1, .invokestatic 120, 3), (4, .ifCond .eq 13, 3), (7, .iload_n 2, 1), (8, .iconst 0, 1), (9, .ldc 245, 2), (11, .invokestatic 66, 3), (14, .ifCond .ne 5, 3), (17, .iconst (-1), 1), (18, .ireturn, 1), (19, .iconst (-1), 1), (20, .istore_n 3, 1), (21, .iconst 0, 1), (22, .istore 4, 2), (24, .iconst 0, 1), (25, .istore 5, 2), (27, .iload 5, 2), (29, .aload_n 0, 1), (30, .getfield 46, 3), (33, .getfield 174, 3), (36, .if_icmp .ge 131, 3), (39, .aload_n 0, 1), (40, .getfield 46, 3), (43, .iload 5, 2), (45, .iconst 0, 1), (46, .invokevirtual 105, 3), (49, .istore 6, 2), (51, .aload_n 0, 1), (52, .getfield 10, 3), (55, .getfield 84, 3), (58, .iload 6, 2), (60, .invokevirtual 95, 3), (63, .ifCond .eq 9, 3), (66, .iload 6, 2), (68, .iload_n 3, 1), (69, .if_icmp .gt 8, 3), (72, .iload 5, 2), (74, .iconst 1, 1), (75, .iadd, 1), (76, .ireturn, 1), (77, .aload_n 0, 1), (78, .getfield 10, 3), (81, .iload 6, 2), (83, .invokevirtual 275, 3), (86, .iload_n 1, 1), (87, .if_icmp .ne 15, 3), (90, .aload_n 0, 1), (91, .getfield 10, 3), (94, .iload 6, 2), (96, .invokevirtual 278, 3), (99, .ifCond .ne 8, 3), (102, .iload 5, 2), (104, .iconst 1, 1), (105, .iadd, 1), (106, .ireturn, 1), (107, .aload_n 0, 1), (108, .getfield 10, 3), (111, .iload 6, 2), (113, .aload_n 0, 1), (114, .getfield 10, 3), (117, .getfield 70, 3), (120, .invokevirtual 142, 3), (123, .istore 7, 2), (125, .iload 4, 2), (127, .iload 7, 2), (129, .iadd, 1), (130, .istore 4, 2), (132, .aload_n 0, 1), (133, .getfield 46, 3), (136, .iload 5, 2), (138, .iconst 1, 1), (139, .invokevirtual 105, 3), (142, .iload 7, 2), (144, .if_icmp .ne 9, 3), (147, .iload 4, 2), (149, .iload_n 2, 1), (150, .if_icmp .le 8, 3), (153, .iload 5, 2), (155, .iconst 1, 1), (156, .iadd, 1), (157, .ireturn, 1), (158, .iload 6, 2), (160, .istore_n 3, 1), (161, .iinc 5 1, 3), (164, .goto (-137), 3), (167, .iconst 0, 1), (168, .ireturn, 1)]
set_option maxRecDepth 100000 in
theorem mj_e131 : mj_b 131 = prog_1_method_42_code := rfl
set_option maxRecDepth 100000 in
theorem mj_d131 : mj_k131.all (fun q => decide (decode prog_1_method_42_code q.1 = .ok (q.2.1, q.2.2))) = true := dq_all (by decide +kernel)
/-- FriarLists.buy(II)I -/
def mj_k132 : List (Nat × Instr × Nat) := [(0, .aload_n 0, 1), (1, .getfield 10, 3), (4, .getfield 84, 3), (7, .iload_n 1, 1), (8, .invokevirtual 95, 3), (11, .ifCond .eq 22, 3), (14, .iload_n 2, 1), (15, .iconst (-1), 1), (16, .if_icmp .eq 19, 3), (19, .aload_n 0, 1), (20, .getfield 10, 3), (23, .getfield 186, 3), (26, .iload_n 2, 1), (27, .invokevirtual 95, 3), (30, .ifCond .ne 5, 3), (33, .iconst (-1), 1), (34, .ireturn, 1), (35, .aload_n 0, 1), (36, .getfield 10, 3), (39, .iload_n 1, 1), (40, .aload_n 0, 1), (41, .getfield 10, 3), (44, .getfield 70, 3), (47, .invokevirtual 142, 3), (50, .istore_n 3, 1), (51, .aload_n 0, 1), (52, .getfield 10, 3), (55, .iload_n 1, 1), (56, .invokevirtual 278, 3), (59, .ifCond .eq 16, 3), (62, .aload_n 0, 1), (63, .getfield 10, 3), (66, .iload_n 2, 1), (67, .iload_n 1, 1), (68, .iload_n 3, 1), (69, .invokevirtual 287, 3), (72, .ifCond .ne 6, 3), (75, .bipush (-4), 2), (77, .ireturn, 1), (78, .aload_n 0, 1), (79, .getfield 10, 3), (82, .iload_n 2, 1), (83, .iload_n 1, 1), (84, .iload_n 3, 1), (85, .invokevirtual 290, 3), (88, .iload_n 3, 1), (89, .ireturn, 1)]
set_option maxRecDepth 100000 in
theorem mj_e132 : mj_b 132 = prog_1_method_43_code := rfl
set_option maxRecDepth 100000 in
theorem mj_d132 : mj_k132.all (fun q => decide (decode prog_1_method_43_code q.1 = .ok (q.2.1, q.2.2))) = true := dq_all (by decide +kernel)
/-- FriarLists$Lists.canPay(III)Z -/
def mj_k133 : List (Nat × Instr × Nat) := [(0, .iload_n 1, 1), (1, .iconst (-1), 1), (2, .if_icmp .ne 17, 3), (5, .aload_n 0, 1), (6, .getfield 15, 3), (9, .iload_n 3, 1), (10, .if_icmp .lt 7, 3), (13, .iconst 1, 1), (14, .goto 4, 3), (17, .iconst 0, 1), (18, .ireturn, 1), (19, .aload_n 0, 1), (20, .iload_n 1, 1), (21, .iload_n 2, 1), (22, .aload_n 0, 1), (23, .getfield 9, 3), (26, .invokevirtual 148, 3), (29, .ifCond .eq 20, 3), (32, .aload_n 0, 1), (33, .getfield 51, 3), (36, .iload_n 1, 1), (37, .iconst 1, 1), (38, .invokevirtual 105, 3), (41, .iload_n 3, 1), (42, .if_icmp .lt 7, 3), (45, .iconst 1, 1), (46, .goto 4, 3), (49, .iconst 0, 1), (50, .ireturn, 1)]
set_option maxRecDepth 100000 in
theorem mj_e133 : mj_b 133 = prog_2_method_36_code := rfl
set_option maxRecDepth 100000 in
theorem mj_d133 : mj_k133.all (fun q => decide (decode prog_2_method_36_code q.1 = .ok (q.2.1, q.2.2))) = true := dq_all (by decide +kernel)
/-- FriarLists$Lists.pay(III)V -/
def mj_k134 : List (Nat × Instr × Nat) := [(0, .iload_n 1, 1), (1, .iconst (-1), 1), (2, .if_icmp .ne 16, 3), (5, .aload_n 0, 1), (6, .dup, 1), (7, .getfield 15, 3), (10, .iload_n 3, 1), (11, .isub, 1), (12, .putfield 15, 3), (15, .goto 34, 3), (18, .aload_n 0, 1), (19, .getfield 51, 3), (22, .iload_n 1, 1), (23, .iconst 1, 1), (24, .aload_n 0, 1), (25, .getfield 51, 3), (28, .iload_n 1, 1), (29, .iconst 1, 1), (30, .invokevirtual 105, 3), (33, .iload_n 3, 1), (34, .isub, 1), (35, .invokevirtual 78, 3), (38, .aload_n 0, 1), (39, .getfield 23, 3), (42, .iload_n 2, 1), (43, .bipush 11, 2), (45, .iload_n 1, 1), (46, .invokevirtual 78, 3), (49, .aload_n 0, 1), (50, .getfield 23, 3), (53, .iload_n 2, 1), (54, .bipush 6, 2), (56, .iconst 1, 1), (57, .invokevirtual 78, 3), (60, .aload_n 0, 1), (61, .getfield 23, 3), (64, .iload_n 2, 1), (65, .bipush 10, 2), (67, .iload_n 3, 1), (68, .invokevirtual 78, 3), (71, .return_, 1)]
set_option maxRecDepth 100000 in
theorem mj_e134 : mj_b 134 = prog_2_method_37_code := rfl
set_option maxRecDepth 100000 in
theorem mj_d134 : mj_k134.all (fun q => decide (decode prog_2_method_37_code q.1 = .ok (q.2.1, q.2.2))) = true := dq_all (by decide +kernel)
/-- FriarLists.twice(I)I -/
def mj_k135 : List (Nat × Instr × Nat) := [(0, .aload_n 0, 1), (1, .getfield 10, 3), (4, .getfield 84, 3), (7, .iload_n 1, 1), (8, .invokevirtual 95, 3), (11, .ifCond .ne 5, 3), (14, .iconst (-1), 1), (15, .ireturn, 1), (16, .aload_n 0, 1), (17, .getfield 10, 3), (20, .getfield 84, 3), (23, .iload_n 1, 1), (24, .bipush 13, 2), (26, .iconst 1, 1), (27, .invokevirtual 62, 3), (30, .aload_n 0, 1), (31, .getfield 10, 3), (34, .iload_n 1, 1), (35, .invokevirtual 102, 3), (38, .ifCond .eq 7, 3), (41, .iconst 1, 1), (42, .goto 4, 3), (45, .iconst 0, 1), (46, .ireturn, 1)]
set_option maxRecDepth 100000 in
theorem mj_e135 : mj_b 135 = prog_1_method_44_code := rfl
set_option maxRecDepth 100000 in
theorem mj_d135 : mj_k135.all (fun q => decide (decode prog_1_method_44_code q.1 = .ok (q.2.1, q.2.2))) = true := dq_all (by decide +kernel)
/-- FriarLists.waits(IIIIII)I -/
def mj_k136 : List (Nat × Instr × Nat) := [(0, .iload_n 1, 1), (1, .iconst 1, 1), (2, .sipush 9999, 3), (5, .invokestatic 66, 3), (8, .ifCond .eq 25, 3), (11, .iload_n 2, 1), (12, .iconst 0, 1), (13, .sipush 999, 3), (16, .invokestatic 66, 3), (19, .ifCond .eq 14, 3), (22, .iload_n 3, 1), (23, .iconst 0, 1), (24, .sipush 999, 3), (27, .invokestatic 66, 3), (30, .ifCond .ne 5, 3), (33, .iconst (-1), 1), (34, .ireturn, 1), (35, .iload 4, 2), (37, .iconst 0, 1), (38, .bipush 6, 2), (40, .invokestatic 66, 3), (43, .ifCond .eq 25, 3), (46, .iload 5, 2), (48, .iconst 0, 1), (49, .sipush 9999, 3), (52, .invokestatic 66, 3), (55, .ifCond .eq 13, 3), (58, .iload 6, 2), (60, .iconst 0, 1), (61, .iconst 1, 1), (62, .invokestatic 66, 3), (65, .ifCond .ne 5, 3), (68, .iconst (-1), 1), (69, .ireturn, 1), (70, .iload_n 1, 1), (71, .istore 7, 2), (73, .iconst 0, 1), (74, .istore 8, 2), (76, .iconst 1, 1), (77, .istore 9, 2), (79, .iload 9, 2), (81, .iload 4, 2), (83, .iconst 1, 1), (84, .iadd, 1), (85, .if_icmp .gt 60, 3), (88, .iload 9, 2), (90, .iload 4, 2), (92, .if_icmp .le 8, 3), (95, .iload 5, 2), (97, .goto 13, 3), (100, .iconst 1, 1), (101, .iload_n 1, 1), (102, .iload_n 2, 1), (103, .iload 9, 2), (105, .imul, 1), (106, .isub, 1), (107, .invokestatic 293, 3), (110, .istore 10, 2), (112, .iload_n 3, 1), (113, .iload 9, 2), (115, .imul, 1), (116, .iload 10, 2), (118, .iadd, 1), (119, .istore 11, 2), (121, .iload 11, 2), (123, .iload 7, 2), (125, .if_icmp .lt 6, 3), (128, .goto 11, 3), (131, .iload 11, 2), (133, .istore 7, 2), (135, .iload 9, 2), (137, .istore 8, 2), (139, .iinc 9 1, 3), (142, .goto (-63), 3), (145, .iload 6, 2), (147, .ifCond .ne 8, 3), (150, .iload 7, 2), (152, .goto 5, 3), (155, .iload 8, 2), (157, .ireturn, 1)]
set_option maxRecDepth 100000 in
theorem mj_e136 : mj_b 136 = prog_1_method_45_code := rfl
set_option maxRecDepth 100000 in
theorem mj_d136 : mj_k136.all (fun q => decide (decode prog_1_method_45_code q.1 = .ok (q.2.1, q.2.2))) = true := dq_all (by decide +kernel)
/-- FriarLists.ship(II)I -/
def mj_k137 : List (Nat × Instr × Nat) := [(0, .iload_n 1, 1), (1, .invokestatic 120, 3), (4, .ifCond .eq 13, 3), (7, .iload_n 2, 1), (8, .iconst 1, 1), (9, .bipush 16, 2), (11, .invokestatic 66, 3), (14, .ifCond .ne 5, 3), (17, .iconst (-1), 1), (18, .ireturn, 1), (19, .aload_n 0, 1), (20, .getfield 10, 3), (23, .getfield 298, 3), (26, .invokevirtual 87, 3), (29, .ifCond .eq 6, 3), (32, .bipush (-2), 2), (34, .ireturn, 1), (35, .aload_n 0, 1), (36, .getfield 10, 3), (39, .getfield 298, 3), (42, .invokevirtual 129, 3), (45, .istore_n 3, 1), (46, .aload_n 0, 1), (47, .getfield 10, 3), (50, .getfield 298, 3), (53, .iload_n 3, 1), (54, .iconst 0, 1), (55, .iload_n 1, 1), (56, .invokevirtual 62, 3), (59, .aload_n 0, 1), (60, .getfield 10, 3), (63, .getfield 298, 3), (66, .iload_n 3, 1), (67, .iconst 1, 1), (68, .iload_n 2, 1), (69, .invokevirtual 62, 3), (72, .aload_n 0, 1), (73, .getfield 10, 3), (76, .getfield 298, 3), (79, .iload_n 3, 1), (80, .iconst 2, 1), (81, .bipush (-3), 2), (83, .invokevirtual 62, 3), (86, .iload_n 3, 1), (87, .ireturn, 1)]
set_option maxRecDepth 100000 in
theorem mj_e137 : mj_b 137 = prog_1_method_46_code := rfl
set_option maxRecDepth 100000 in
theorem mj_d137 : mj_k137.all (fun q => decide (decode prog_1_method_46_code q.1 = .ok (q.2.1, q.2.2))) = true := dq_all (by decide +kernel)
/-- FriarLists.aboard(II)I -/
def mj_k138 : List (Nat × Instr × Nat) := [(0, .aload_n 0, 1), (1, .getfield 10, 3), (4, .getfield 84, 3), (7, .iload_n 1, 1), (8, .invokevirtual 95, 3), (11, .ifCond .eq 17, 3), (14, .aload_n 0, 1), (15, .getfield 10, 3), (18, .getfield 298, 3), (21, .iload_n 2, 1), (22, .invokevirtual 95, 3), (25, .ifCond .ne 5, 3), (28, .iconst (-1), 1), (29, .ireturn, 1), (30, .aload_n 0, 1), (31, .getfield 10, 3), (34, .iload_n 1, 1), (35, .iload_n 2, 1), (36, .invokevirtual 301, 3), (39, .ifCond .ne 6, 3), (42, .bipush (-4), 2), (44, .ireturn, 1), (45, .aload_n 0, 1), (46, .getfield 10, 3), (49, .getfield 84, 3), (52, .iload_n 1, 1), (53, .bipush 12, 2), (55, .iload_n 2, 1), (56, .invokevirtual 62, 3), (59, .aload_n 0, 1), (60, .getfield 10, 3), (63, .iload_n 2, 1), (64, .invokevirtual 304, 3), (67, .ireturn, 1)]
set_option maxRecDepth 100000 in
theorem mj_e138 : mj_b 138 = prog_1_method_47_code := rfl
set_option maxRecDepth 100000 in
theorem mj_d138 : mj_k138.all (fun q => decide (decode prog_1_method_47_code q.1 = .ok (q.2.1, q.2.2))) = true := dq_all (by decide +kernel)
/-- FriarLists$Lists.canGoAboard(II)Z -/
def mj_k139 : List (Nat × Instr × Nat) := [(0, .aload_n 0, 1), (1, .getfield 23, 3), (4, .iload_n 1, 1), (5, .bipush 6, 2), (7, .invokevirtual 105, 3), (10, .iconst 1, 1), (11, .if_icmp .ne 22, 3), (14, .aload_n 0, 1), (15, .getfield 23, 3), (18, .iload_n 1, 1), (19, .bipush 12, 2), (21, .invokevirtual 105, 3), (24, .bipush (-3), 2), (26, .if_icmp .ne 7, 3), (29, .iconst 1, 1), (30, .goto 4, 3), (33, .iconst 0, 1), (34, .istore_n 3, 1), (35, .iload_n 3, 1), (36, .ifCond .eq 28, 3), (39, .aload_n 0, 1), (40, .iload_n 2, 1), (41, .invokevirtual 189, 3), (44, .ifCond .ne 20, 3), (47, .aload_n 0, 1), (48, .iload_n 1, 1), (49, .invokevirtual 123, 3), (52, .aload_n 0, 1), (53, .getfield 72, 3), (56, .iload_n 2, 1), (57, .iconst 0, 1), (58, .invokevirtual 105, 3), (61, .if_icmp .eq 5, 3), (64, .iconst 0, 1), (65, .ireturn, 1), (66, .aload_n 0, 1), (67, .iload_n 2, 1), (68, .invokevirtual 192, 3), (71, .aload_n 0, 1), (72, .getfield 72, 3), (75, .iload_n 2, 1), (76, .iconst 1, 1), (77, .invokevirtual 105, 3), (80, .if_icmp .ge 7, 3), (83, .iconst 1, 1), (84, .goto 4, 3), (87, .iconst 0, 1), (88, .ireturn, 1)]
set_option maxRecDepth 100000 in
theorem mj_e139 : mj_b 139 = prog_2_method_42_code := rfl
set_option maxRecDepth 100000 in
theorem mj_d139 : mj_k139.all (fun q => decide (decode prog_2_method_42_code q.1 = .ok (q.2.1, q.2.2))) = true := dq_all (by decide +kernel)
/-- FriarLists$Lists.hasSailed(I)Z -/
def mj_k140 : List (Nat × Instr × Nat) := [(0, .aload_n 0, 1), (1, .getfield 72, 3), (4, .iload_n 1, 1), (5, .iconst 2, 1), (6, .invokevirtual 105, 3), (9, .bipush (-3), 2), (11, .if_icmp .eq 7, 3), (14, .iconst 1, 1), (15, .goto 4, 3), (18, .iconst 0, 1), (19, .ireturn, 1)]
set_option maxRecDepth 100000 in
theorem mj_e140 : mj_b 140 = prog_2_method_39_code := rfl
set_option maxRecDepth 100000 in
theorem mj_d140 : mj_k140.all (fun q => decide (decode prog_2_method_39_code q.1 = .ok (q.2.1, q.2.2))) = true := dq_all (by decide +kernel)
/-- FriarLists$Lists.countAboard(I)I -/
def mj_k141 : List (Nat × Instr × Nat) := [(0, .iconst 0, 1), (1, .istore_n 2, 1), (2, .iconst 0, 1), (3, .istore_n 3, 1), (4, .iload_n 3, 1), (5, .aload_n 0, 1), (6, .getfield 23, 3), (9, .getfield 98, 3), (12, .if_icmp .ge 21, 3), (15, .aload_n 0, 1), (16, .iload_n 3, 1), (17, .iload_n 1, 1), (18, .invokevirtual 186, 3), (21, .ifCond .eq 6, 3), (24, .iinc 2 1, 3), (27, .iinc 3 1, 3), (30, .goto (-26), 3), (33, .iload_n 2, 1), (34, .ireturn, 1)]
set_option maxRecDepth 100000 in
theorem mj_e141 : mj_b 141 = prog_2_method_41_code := rfl
set_option maxRecDepth 100000 in
theorem mj_d141 : mj_k141.all (fun q => decide (decode prog_2_method_41_code q.1 = .ok (q.2.1, q.2.2))) = true := dq_all (by decide +kernel)
/-- FriarLists$Lists.isAboard(II)Z -/
def mj_k142 : List (Nat × Instr × Nat) := [(0, .aload_n 0, 1), (1, .getfield 23, 3), (4, .iload_n 1, 1), (5, .bipush 6, 2), (7, .invokevirtual 105, 3), (10, .iconst 1, 1), (11, .if_icmp .ne 21, 3), (14, .aload_n 0, 1), (15, .getfield 23, 3), (18, .iload_n 1, 1), (19, .bipush 12, 2), (21, .invokevirtual 105, 3), (24, .iload_n 2, 1), (25, .if_icmp .ne 7, 3), (28, .iconst 1, 1), (29, .goto 4, 3), (32, .iconst 0, 1), (33, .ireturn, 1)]
set_option maxRecDepth 100000 in
theorem mj_e142 : mj_b 142 = prog_2_method_40_code := rfl
set_option maxRecDepth 100000 in
theorem mj_d142 : mj_k142.all (fun q => decide (decode prog_2_method_40_code q.1 = .ok (q.2.1, q.2.2))) = true := dq_all (by decide +kernel)
/-- FriarLists.sail(I)I -/
def mj_k143 : List (Nat × Instr × Nat) := [(0, .aload_n 0, 1), (1, .getfield 10, 3), (4, .getfield 298, 3), (7, .iload_n 1, 1), (8, .invokevirtual 95, 3), (11, .ifCond .ne 5, 3), (14, .iconst (-1), 1), (15, .ireturn, 1), (16, .aload_n 0, 1), (17, .getfield 10, 3), (20, .iload_n 1, 1), (21, .invokevirtual 304, 3), (24, .istore_n 2, 1), (25, .aload_n 0, 1), (26, .getfield 10, 3), (29, .iload_n 1, 1), (30, .invokevirtual 307, 3), (33, .ifCond .ne 7, 3), (36, .iload_n 2, 1), (37, .ifCond .ne 6, 3), (40, .bipush (-4), 2), (42, .ireturn, 1), (43, .aload_n 0, 1), (44, .getfield 33, 3), (47, .aload_n 0, 1), (48, .getfield 10, 3), (51, .aload_n 0, 1), (52, .getfield 10, 3), (55, .getfield 298, 3), (58, .iload_n 1, 1), (59, .iconst 0, 1), (60, .invokevirtual 105, 3), (63, .iload_n 2, 1), (64, .invokevirtual 250, 3), (67, .ifCond .ne 6, 3), (70, .bipush (-3), 2), (72, .ireturn, 1), (73, .aload_n 0, 1), (74, .getfield 10, 3), (77, .iload_n 1, 1), (78, .aload_n 0, 1), (79, .getfield 10, 3), (82, .getfield 70, 3), (85, .aload_n 0, 1), (86, .getfield 33, 3), (89, .getfield 257, 3), (92, .iadd, 1), (93, .invokevirtual 310, 3), (96, .aload_n 0, 1), (97, .getfield 10, 3), (100, .getfield 298, 3), (103, .iload_n 1, 1), (104, .iconst 2, 1), (105, .invokevirtual 105, 3), (108, .ireturn, 1)]
set_option maxRecDepth 100000 in
theorem mj_e143 : mj_b 143 = prog_1_method_48_code := rfl
set_option maxRecDepth 100000 in
theorem mj_d143 : mj_k143.all (fun q => decide (decode prog_1_method_48_code q.1 = .ok (q.2.1, q.2.2))) = true := dq_all (by decide +kernel)
/-- FriarLists$Lists.setSail(II)V -/
def mj_k144 : List (Nat × Instr × Nat) := [(0, .aload_n 0, 1), (1, .getfield 72, 3), (4, .iload_n 1, 1), (5, .iconst 2, 1), (6, .iload_n 2, 1), (7, .invokevirtual 78, 3), (10, .iconst 0, 1), (11, .istore_n 3, 1), (12, .iload_n 3, 1), (13, .aload_n 0, 1), (14, .getfield 23, 3), (17, .getfield 98, 3), (20, .if_icmp .ge 50, 3), (23, .aload_n 0, 1), (24, .iload_n 3, 1), (25, .iload_n 1, 1), (26, .invokevirtual 186, 3), (29, .ifCond .ne 6, 3), (32, .goto 32, 3), (35, .aload_n 0, 1), (36, .getfield 23, 3), (39, .iload_n 3, 1), (40, .bipush 6, 2), (42, .iconst 2, 1), (43, .invokevirtual 78, 3), (46, .aload_n 0, 1), (47, .iload_n 3, 1), (48, .invokevirtual 112, 3), (51, .ifCond .eq 13, 3), (54, .aload_n 0, 1), (55, .getfield 72, 3), (58, .iload_n 1, 1), (59, .iconst 3, 1), (60, .iconst 1, 1), (61, .invokevirtual 78, 3), (64, .iinc 3 1, 3), (67, .goto (-55), 3), (70, .return_, 1)]
set_option maxRecDepth 100000 in
theorem mj_e144 : mj_b 144 = prog_2_method_43_code := rfl
set_option maxRecDepth 100000 in
theorem mj_d144 : mj_k144.all (fun q => decide (decode prog_2_method_43_code q.1 = .ok (q.2.1, q.2.2))) = true := dq_all (by decide +kernel)
/-- FriarLists.voyage(III)I -/
def mj_k145 : List (Nat × Instr × Nat) := [(0, .iload_n 1, 1), (1, .iconst 1, 1), (2, .sipush 999, 3), (5, .invokestatic 66, 3), (8, .ifCond .eq 22, 3), (11, .iload_n 2, 1), (12, .iconst 1, 1), (13, .bipush 9, 2), (15, .invokestatic 66, 3), (18, .ifCond .eq 12, 3), (21, .iload_n 3, 1), (22, .iconst 0, 1), (23, .iconst 3, 1), (24, .invokestatic 66, 3), (27, .ifCond .ne 5, 3), (30, .iconst (-1), 1), (31, .ireturn, 1), (32, .aload_n 0, 1), (33, .getfield 10, 3), (36, .getfield 313, 3), (39, .invokevirtual 87, 3), (42, .ifCond .eq 6, 3), (45, .bipush (-2), 2), (47, .ireturn, 1), (48, .aload_n 0, 1), (49, .getfield 10, 3), (52, .getfield 313, 3), (55, .invokevirtual 129, 3), (58, .istore 4, 2), (60, .aload_n 0, 1), (61, .getfield 10, 3), (64, .getfield 313, 3), (67, .iload 4, 2), (69, .iconst 0, 1), (70, .iload_n 1, 1), (71, .invokevirtual 62, 3), (74, .aload_n 0, 1), (75, .getfield 10, 3), (78, .getfield 313, 3), (81, .iload 4, 2), (83, .iconst 1, 1), (84, .iload_n 2, 1), (85, .invokevirtual 62, 3), (88, .aload_n 0, 1), (89, .getfield 10, 3), (92, .getfield 313, 3), (95, .iload 4, 2), (97, .iconst 2, 1), (98, .iload_n 3, 1), (99, .invokevirtual 62, 3), (102, .aload_n 0, 1), (103, .getfield 10, 3), (106, .getfield 313, 3), (109, .getfield 174, 3), (112, .ireturn, 1)]
set_option maxRecDepth 100000 in
theorem mj_e145 : mj_b 145 = prog_1_method_49_code := rfl
set_option maxRecDepth 100000 in
theorem mj_d145 : mj_k145.all (fun q => decide (decode prog_1_method_49_code q.1 = .ok (q.2.1, q.2.2))) = true := dq_all (by decide +kernel)
/-- FriarLists.years(II)I -/
def mj_k146 : List (Nat × Instr × Nat) := [(0, .iload_n 1, 1), (1, .iconst 0, 1), (2, .ldc 245, 2), (4, .invokestatic 66, 3), (7, .ifCond .eq 13, 3), (10, .iload_n 2, 1), (11, .bipush (-2), 2), (13, .iconst 3, 1), (14, .invokestatic 66, 3), (17, .ifCond .ne 5, 3), (20, .iconst (-1), 1), (21, .ireturn, 1), (22, .aload_n 0, 1), (23, .getfield 10, 3), (26, .iload_n 1, 1), (27, .invokevirtual 316, 3), (30, .istore_n 3, 1), (31, .iload_n 2, 1), (32, .iconst (-1), 1), (33, .if_icmp .ne 5, 3), (36, .iload_n 3, 1), (37, .ireturn, 1), (38, .iload_n 2, 1), (39, .bipush (-2), 2), (41, .if_icmp .ne 12, 3), (44, .aload_n 0, 1), (45, .getfield 10, 3), (48, .iload_n 3, 1), (49, .invokevirtual 319, 3), (52, .ireturn, 1), (53, .aload_n 0, 1), (54, .getfield 10, 3), (57, .iload_n 3, 1), (58, .invokevirtual 322, 3), (61, .iload_n 2, 1), (62, .invokestatic 326, 3), (65, .lshr, 1), (66, .ldc2_w 195, 3), (69, .land, 1), (70, .l2i, 1), (71, .ireturn, 1)]
set_option maxRecDepth 100000 in
theorem mj_e146 : mj_b 146 = prog_1_method_50_code := rfl
set_option maxRecDepth 100000 in
theorem mj_d146 : mj_k146.all (fun q => decide (decode prog_1_method_50_code q.1 = .ok (q.2.1, q.2.2))) = true := dq_all (by decide +kernel)
/-- FriarLists$Lists.bestVoyages(I)I -/
def mj_k147 : List (Nat × Instr × Nat) := [(0, .iconst 0, 1), (1, .istore_n 2, 1), (2, .iconst 0, 1), (3, .istore_n 3, 1), (4, .lconst 0, 1), (5, .lstore 4, 2), (7, .iconst 1, 1), (8, .istore 6, 2), (10, .iload 6, 2), (12, .iconst 1, 1), (13, .aload_n 0, 1), (14, .getfield 75, 3), (17, .getfield 98, 3), (20, .ishl, 1), (21, .if_icmp .ge 66, 3), (24, .aload_n 0, 1), (25, .iload 6, 2), (27, .invokevirtual 198, 3), (30, .istore 7, 2), (32, .aload_n 0, 1), (33, .iload 6, 2), (35, .invokevirtual 201, 3), (38, .lstore 8, 2), (40, .iload 7, 2), (42, .iload_n 1, 1), (43, .if_icmp .gt 38, 3), (46, .lload 8, 2), (48, .lload 4, 2), (50, .lcmp, 1), (51, .ifCond .lt 30, 3), (54, .lload 8, 2), (56, .lload 4, 2), (58, .lcmp, 1), (59, .ifCond .ne 12, 3), (62, .iload 7, 2), (64, .iload_n 3, 1), (65, .if_icmp .lt 6, 3), (68, .goto 13, 3), (71, .iload 6, 2), (73, .istore_n 2, 1), (74, .iload 7, 2), (76, .istore_n 3, 1), (77, .lload 8, 2), (79, .lstore 4, 2), (81, .iinc 6 1, 3), (84, .goto (-74), 3), (87, .iload_n 2, 1), (88, .ireturn, 1)]
set_option maxRecDepth 100000 in
theorem mj_e147 : mj_b 147 = prog_2_method_46_code := rfl
set_option maxRecDepth 100000 in
theorem mj_d147 : mj_k147.all (fun q => decide (decode prog_2_method_46_code q.1 = .ok (q.2.1, q.2.2))) = true := dq_all (by decide +kernel)
/-- FriarLists$Lists.costOf(I)I -/
def mj_k148 : List (Nat × Instr × Nat) := [(0, .iconst 0, 1), (1, .istore_n 2, 1), (2, .iconst 0, 1), (3, .istore_n 3, 1), (4, .iload_n 3, 1), (5, .aload_n 0, 1), (6, .getfield 75, 3), (9, .getfield 98, 3), (12, .if_icmp .ge 30, 3), (15, .iload_n 1, 1), (16, .iload_n 3, 1), (17, .ishr, 1), (18, .iconst 1, 1), (19, .iand, 1), (20, .iconst 1, 1), (21, .if_icmp .ne 15, 3), (24, .iload_n 2, 1), (25, .aload_n 0, 1), (26, .getfield 75, 3), (29, .iload_n 3, 1), (30, .iconst 0, 1), (31, .invokevirtual 105, 3), (34, .iadd, 1), (35, .istore_n 2, 1), (36, .iinc 3 1, 3), (39, .goto (-35), 3), (42, .iload_n 2, 1), (43, .ireturn, 1)]
set_option maxRecDepth 100000 in
theorem mj_e148 : mj_b 148 = prog_2_method_44_code := rfl
set_option maxRecDepth 100000 in
theorem mj_d148 : mj_k148.all (fun q => decide (decode prog_2_method_44_code q.1 = .ok (q.2.1, q.2.2))) = true := dq_all (by decide +kernel)
/-- FriarLists$Lists.worthOf(I)J -/
def mj_k149 : List (Nat × Instr × Nat) := [(0, .lconst 0, 1), (1, .lstore_n 2, 1), (2, .iconst 0, 1), (3, .istore 4, 2), (5, .iload 4, 2), (7, .aload_n 0, 1), (8, .getfield 75, 3), (11, .getfield 98, 3), (14, .if_icmp .ge 49, 3), (17, .iload_n 1, 1), (18, .iload 4, 2), (20, .ishr, 1), (21, .iconst 1, 1), (22, .iand, 1), (23, .ifCond .ne 6, 3), (26, .goto 31, 3), (29, .lload_n 2, 1), (30, .aload_n 0, 1), (31, .getfield 75, 3), (34, .iload 4, 2), (36, .iconst 1, 1), (37, .invokevirtual 105, 3), (40, .i2l, 1), (41, .aload_n 0, 1), (42, .getfield 75, 3), (45, .iload 4, 2), (47, .iconst 2, 1), (48, .invokevirtual 105, 3), (51, .invokestatic 195, 3), (54, .lshl, 1), (55, .ladd, 1), (56, .lstore_n 2, 1), (57, .iinc 4 1, 3), (60, .goto (-55), 3), (63, .lload_n 2, 1), (64, .lreturn, 1)]
set_option maxRecDepth 100000 in
theorem mj_e149 : mj_b 149 = prog_2_method_45_code := rfl
set_option maxRecDepth 100000 in
theorem mj_d149 : mj_k149.all (fun q => decide (decode prog_2_method_45_code q.1 = .ok (q.2.1, q.2.2))) = true := dq_all (by decide +kernel)
/-- FriarLists.worthShift(I)I -/
def mj_k150 : List (Nat × Instr × Nat) := [(0, .bipush 8, 2), (2, .iconst 3, 1), (3, .iload_n 0, 1), (4, .isub, 1), (5, .imul, 1), (6, .ireturn, 1)]
set_option maxRecDepth 100000 in
theorem mj_e150 : mj_b 150 = prog_1_method_79_code := rfl
set_option maxRecDepth 100000 in
theorem mj_d150 : mj_k150.all (fun q => decide (decode prog_1_method_79_code q.1 = .ok (q.2.1, q.2.2))) = true := dq_all (by decide +kernel)
/-- FriarLists.sheet(III)I -/
def mj_k151 : List (Nat × Instr × Nat) := [(0, .aload_n 0, 1), (1, .getfield 49, 3), (4, .iload_n 1, 1), (5, .invokevirtual 329, 3), (8, .ifCond .eq 18, 3), (11, .iload_n 2, 1), (12, .iconst (-1), 1), (13, .iconst 4, 1), (14, .invokestatic 66, 3), (17, .ifCond .eq 9, 3), (20, .iload_n 3, 1), (21, .bipush 40, 2), (23, .if_icmp .le 5, 3), (26, .iconst (-1), 1), (27, .ireturn, 1), (28, .iload_n 2, 1), (29, .iconst (-1), 1), (30, .if_icmp .eq 10, 3), (33, .iload_n 3, 1), (34, .ifCond .ge 6, 3), (37, .bipush (-14), 2), (39, .ireturn, 1), (40, .aload_n 0, 1), (41, .getfield 49, 3), (44, .iload_n 1, 1), (45, .invokevirtual 332, 3), (48, .aload_n 0, 1), (49, .getfield 49, 3), (52, .iload_n 1, 1), (53, .iconst 0, 1), (54, .iload_n 2, 1), (55, .invokevirtual 62, 3), (58, .aload_n 0, 1), (59, .getfield 49, 3), (62, .iload_n 1, 1), (63, .iconst 1, 1), (64, .iload_n 2, 1), (65, .iconst (-1), 1), (66, .if_icmp .ne 7, 3), (69, .iconst 0, 1), (70, .goto 4, 3), (73, .iload_n 3, 1), (74, .invokevirtual 62, 3), (77, .iconst 1, 1), (78, .ireturn, 1)]
set_option maxRecDepth 100000 in
theorem mj_e151 : mj_b 151 = prog_1_method_51_code := rfl
set_option maxRecDepth 100000 in
theorem mj_d151 : mj_k151.all (fun q => decide (decode prog_1_method_51_code q.1 = .ok (q.2.1, q.2.2))) = true := dq_all (by decide +kernel)
