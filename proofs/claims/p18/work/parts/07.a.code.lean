/-! THE METHODS' INSTRUCTIONS, held against their bytes: piece 1 -/
/-- FriarLists.<init>()V -/
def mj_k0 : List (Nat × Instr × Nat) := [(0, .aload_n 0, 1), (1, .invokespecial 1, 3), (4, .aload_n 0, 1), (5, .new 7, 3), (8, .dup, 1), (9, .invokespecial 9, 3), (12, .putfield 10, 3), (15, .aload_n 0, 1), (16, .new 7, 3), (19, .dup, 1), (20, .invokespecial 9, 3), (23, .putfield 16, 3), (26, .aload_n 0, 1), (27, .iconst 0, 1), (28, .putfield 19, 3), (31, .aload_n 0, 1), (32, .new 23, 3), (35, .dup, 1), (36, .invokespecial 25, 3), (39, .putfield 26, 3), (42, .aload_n 0, 1), (43, .new 30, 3), (46, .dup, 1), (47, .invokespecial 32, 3), (50, .putfield 33, 3), (53, .aload_n 0, 1), (54, .new 37, 3), (57, .dup, 1), (58, .bipush 12, 2), (60, .iconst 3, 1), (61, .invokespecial 39, 3), (64, .putfield 42, 3), (67, .aload_n 0, 1), (68, .new 37, 3), (71, .dup, 1), (72, .bipush 12, 2), (74, .iconst 2, 1), (75, .invokespecial 39, 3), (78, .putfield 46, 3), (81, .aload_n 0, 1), (82, .new 37, 3), (85, .dup, 1), (86, .iconst 4, 1), (87, .bipush 42, 2), (89, .invokespecial 39, 3), (92, .putfield 49, 3), (95, .aload_n 0, 1), (96, .new 37, 3), (99, .dup, 1), (100, .iconst 4, 1), (101, .iconst 3, 1), (102, .invokespecial 39, 3), (105, .putfield 52, 3), (108, .aload_n 0, 1), (109, .new 55, 3), (112, .dup, 1), (113, .invokespecial 57, 3), (116, .putfield 58, 3), (119, .iconst 0, 1), (120, .istore_n 1, 1), (121, .iload_n 1, 1), (122, .iconst 4, 1), (123, .if_icmp .ge 29, 3), (126, .aload_n 0, 1), (127, .getfield 49, 3), (130, .iload_n 1, 1), (131, .iconst 0, 1), (132, .iconst (-1), 1), (133, .invokevirtual 62, 3), (136, .aload_n 0, 1), (137, .getfield 52, 3), (140, .iload_n 1, 1), (141, .iconst 0, 1), (142, .iconst 5, 1), (143, .invokevirtual 62, 3), (146, .iinc 1 1, 3), (149, .goto (-28), 3), (152, .return_, 1)]
theorem mj_e0 : mj_b 0 = mj_b 0 := rfl
set_option maxRecDepth 100000 in
theorem mj_d0 : mj_k0.all (fun q => decide (decode (mj_b 0) q.1 = .ok (q.2.1, q.2.2))) = true := dq_all (by decide +kernel)
/-- FriarLists$Lists.<init>()V -/
def mj_k2 : List (Nat × Instr × Nat) := [(0, .aload_n 0, 1), (1, .invokespecial 3, 3), (4, .aload_n 0, 1), (5, .iconst 0, 1), (6, .putfield 9, 3), (9, .aload_n 0, 1), (10, .iconst 0, 1), (11, .putfield 15, 3), (14, .aload_n 0, 1), (15, .new 18, 3), (18, .dup, 1), (19, .bipush 16, 2), (21, .bipush 15, 2), (23, .invokespecial 20, 3), (26, .putfield 23, 3), (29, .aload_n 0, 1), (30, .new 18, 3), (33, .dup, 1), (34, .iconst 5, 1), (35, .iconst 1, 1), (36, .invokespecial 20, 3), (39, .putfield 27, 3), (42, .aload_n 0, 1), (43, .new 18, 3), (46, .dup, 1), (47, .bipush 12, 2), (49, .iconst 3, 1), (50, .invokespecial 20, 3), (53, .putfield 30, 3), (56, .aload_n 0, 1), (57, .new 18, 3), (60, .dup, 1), (61, .iconst 5, 1), (62, .iconst 1, 1), (63, .invokespecial 20, 3), (66, .putfield 33, 3), (69, .aload_n 0, 1), (70, .new 18, 3), (73, .dup, 1), (74, .iconst 4, 1), (75, .iconst 1, 1), (76, .invokespecial 20, 3), (79, .putfield 36, 3), (82, .aload_n 0, 1), (83, .new 18, 3), (86, .dup, 1), (87, .bipush 27, 2), (89, .iconst 1, 1), (90, .invokespecial 20, 3), (93, .putfield 39, 3), (96, .aload_n 0, 1), (97, .new 18, 3), (100, .dup, 1), (101, .bipush 6, 2), (103, .iconst 2, 1), (104, .invokespecial 20, 3), (107, .putfield 42, 3), (110, .aload_n 0, 1), (111, .new 18, 3), (114, .dup, 1), (115, .bipush 24, 2), (117, .iconst 1, 1), (118, .invokespecial 20, 3), (121, .putfield 45, 3), (124, .aload_n 0, 1), (125, .new 18, 3), (128, .dup, 1), (129, .bipush 12, 2), (131, .iconst 4, 1), (132, .invokespecial 20, 3), (135, .putfield 48, 3), (138, .aload_n 0, 1), (139, .new 18, 3), (142, .dup, 1), (143, .bipush 6, 2), (145, .iconst 2, 1), (146, .invokespecial 20, 3), (149, .putfield 51, 3), (152, .aload_n 0, 1), (153, .new 18, 3), (156, .dup, 1), (157, .bipush 8, 2), (159, .iconst 2, 1), (160, .invokespecial 20, 3), (163, .putfield 54, 3), (166, .aload_n 0, 1), (167, .new 18, 3), (170, .dup, 1), (171, .bipush 72, 2), (173, .iconst 4, 1), (174, .invokespecial 20, 3), (177, .putfield 57, 3), (180, .aload_n 0, 1), (181, .new 18, 3), (184, .dup, 1), (185, .sipush 512, 3), (188, .iconst 1, 1), (189, .invokespecial 20, 3), (192, .putfield 60, 3), (195, .aload_n 0, 1), (196, .new 18, 3), (199, .dup, 1), (200, .bipush 20, 2), (202, .iconst 2, 1), (203, .invokespecial 20, 3), (206, .putfield 63, 3), (209, .aload_n 0, 1), (210, .new 18, 3), (213, .dup, 1), (214, .iconst 5, 1), (215, .bipush 9, 2), (217, .invokespecial 20, 3), (220, .putfield 66, 3), (223, .aload_n 0, 1), (224, .new 18, 3), (227, .dup, 1), (228, .iconst 5, 1), (229, .iconst 5, 1), (230, .invokespecial 20, 3), (233, .putfield 69, 3), (236, .aload_n 0, 1), (237, .new 18, 3), (240, .dup, 1), (241, .iconst 4, 1), (242, .iconst 4, 1), (243, .invokespecial 20, 3), (246, .putfield 72, 3), (249, .aload_n 0, 1), (250, .new 18, 3), (253, .dup, 1), (254, .bipush 8, 2), (256, .iconst 3, 1), (257, .invokespecial 20, 3), (260, .putfield 75, 3), (263, .iconst 0, 1), (264, .istore_n 1, 1), (265, .iload_n 1, 1), (266, .iconst 5, 1), (267, .if_icmp .ge 19, 3), (270, .aload_n 0, 1), (271, .getfield 27, 3), (274, .iload_n 1, 1), (275, .iconst 0, 1), (276, .iconst 1, 1), (277, .invokevirtual 78, 3), (280, .iinc 1 1, 3), (283, .goto (-18), 3), (286, .iconst 0, 1), (287, .istore_n 1, 1), (288, .iload_n 1, 1), (289, .iconst 5, 1), (290, .if_icmp .ge 45, 3), (293, .aload_n 0, 1), (294, .getfield 33, 3), (297, .iload_n 1, 1), (298, .iconst 0, 1), (299, .iconst 4, 1), (300, .invokevirtual 78, 3), (303, .iconst 0, 1), (304, .istore_n 2, 1), (305, .iload_n 2, 1), (306, .bipush 9, 2), (308, .if_icmp .ge 21, 3), (311, .aload_n 0, 1), (312, .getfield 66, 3), (315, .iload_n 1, 1), (316, .iload_n 2, 1), (317, .sipush 1000, 3), (320, .invokevirtual 78, 3), (323, .iinc 2 1, 3), (326, .goto (-21), 3), (329, .iinc 1 1, 3), (332, .goto (-44), 3), (335, .iconst 1, 1), (336, .istore_n 1, 1), (337, .iload_n 1, 1), (338, .ldc 82, 2), (340, .invokevirtual 84, 3), (343, .if_icmp .gt 29, 3), (346, .aload_n 0, 1), (347, .getfield 39, 3), (350, .iload_n 1, 1), (351, .iconst 0, 1), (352, .ldc 82, 2), (354, .iload_n 1, 1), (355, .iconst 1, 1), (356, .isub, 1), (357, .invokevirtual 90, 3), (360, .bipush 48, 2), (362, .isub, 1), (363, .invokevirtual 78, 3), (366, .iinc 1 1, 3), (369, .goto (-32), 3), (372, .return_, 1)]
theorem mj_e2 : mj_b 2 = mj_b 2 := rfl
set_option maxRecDepth 100000 in
theorem mj_d2 : mj_k2.all (fun q => decide (decode (mj_b 2) q.1 = .ok (q.2.1, q.2.2))) = true := dq_all (by decide +kernel)
/-- FriarLists$Table.<init>(II)V -/
def mj_k3 : List (Nat × Instr × Nat) := [(0, .aload_n 0, 1), (1, .invokespecial 1, 3), (4, .aload_n 0, 1), (5, .iconst 0, 1), (6, .putfield 7, 3), (9, .aload_n 0, 1), (10, .iload_n 1, 1), (11, .iconst 0, 1), (12, .invokestatic 13, 3), (15, .putfield 19, 3), (18, .aload_n 0, 1), (19, .iload_n 2, 1), (20, .iconst 0, 1), (21, .invokestatic 13, 3), (24, .putfield 22, 3), (27, .aload_n 0, 1), (28, .aload_n 0, 1), (29, .getfield 19, 3), (32, .aload_n 0, 1), (33, .getfield 22, 3), (36, .imul, 1), (37, .newarray .int, 2), (39, .putfield 25, 3), (42, .return_, 1)]
theorem mj_e3 : mj_b 3 = mj_b 3 := rfl
set_option maxRecDepth 100000 in
theorem mj_d3 : mj_k3.all (fun q => decide (decode (mj_b 3) q.1 = .ok (q.2.1, q.2.2))) = true := dq_all (by decide +kernel)
/-- FriarLists$Table.set(III)V -/
def mj_k5 : List (Nat × Instr × Nat) := [(0, .iload_n 1, 1), (1, .ifCond .lt 23, 3), (4, .iload_n 1, 1), (5, .aload_n 0, 1), (6, .getfield 19, 3), (9, .if_icmp .ge 15, 3), (12, .iload_n 2, 1), (13, .ifCond .lt 11, 3), (16, .iload_n 2, 1), (17, .aload_n 0, 1), (18, .getfield 22, 3), (21, .if_icmp .lt 4, 3), (24, .return_, 1), (25, .aload_n 0, 1), (26, .getfield 25, 3), (29, .iload_n 1, 1), (30, .aload_n 0, 1), (31, .getfield 22, 3), (34, .imul, 1), (35, .iload_n 2, 1), (36, .iadd, 1), (37, .iload_n 3, 1), (38, .iastore, 1), (39, .return_, 1)]
theorem mj_e5 : mj_b 5 = mj_b 5 := rfl
set_option maxRecDepth 100000 in
theorem mj_d5 : mj_k5.all (fun q => decide (decode (mj_b 5) q.1 = .ok (q.2.1, q.2.2))) = true := dq_all (by decide +kernel)
/-- java/lang/String.length()I -/
def mj_k6 : List (Nat × Instr × Nat) := [(0, .aload_n 0, 1), (1, .getfield 9, 3), (4, .arraylength, 1), (5, .aload_n 0, 1), (6, .invokevirtual 335, 3), (9, .ishr, 1), (10, .ireturn, 1)]
theorem mj_e6 : mj_b 6 = mj_b 6 := rfl
set_option maxRecDepth 100000 in
theorem mj_d6 : mj_k6.all (fun q => decide (decode (mj_b 6) q.1 = .ok (q.2.1, q.2.2))) = true := dq_all (by decide +kernel)
/-- java/lang/String.coder()B -/
def mj_k7 : List (Nat × Instr × Nat) := [(0, .getstatic 38, 3), (3, .ifCond .eq 10, 3), (6, .aload_n 0, 1), (7, .getfield 15, 3), (10, .goto 4, 3), (13, .iconst 1, 1), (14, .ireturn, 1)]
theorem mj_e7 : mj_b 7 = mj_b 7 := rfl
set_option maxRecDepth 100000 in
theorem mj_d7 : mj_k7.all (fun q => decide (decode (mj_b 7) q.1 = .ok (q.2.1, q.2.2))) = true := dq_all (by decide +kernel)
/-- java/lang/String.charAt(I)C -/
def mj_k8 : List (Nat × Instr × Nat) := [(0, .aload_n 0, 1), (1, .invokevirtual 492, 3), (4, .ifCond .eq 12, 3), (7, .aload_n 0, 1), (8, .getfield 9, 3), (11, .iload_n 1, 1), (12, .invokestatic 495, 3), (15, .ireturn, 1), (16, .aload_n 0, 1), (17, .getfield 9, 3), (20, .iload_n 1, 1), (21, .invokestatic 498, 3), (24, .ireturn, 1)]
theorem mj_e8 : mj_b 8 = mj_b 8 := rfl
set_option maxRecDepth 100000 in
theorem mj_d8 : mj_k8.all (fun q => decide (decode (mj_b 8) q.1 = .ok (q.2.1, q.2.2))) = true := dq_all (by decide +kernel)
/-- java/lang/String.isLatin1()Z -/
def mj_k9 : List (Nat × Instr × Nat) := [(0, .getstatic 38, 3), (3, .ifCond .eq 14, 3), (6, .aload_n 0, 1), (7, .getfield 15, 3), (10, .ifCond .ne 7, 3), (13, .iconst 1, 1), (14, .goto 4, 3), (17, .iconst 0, 1), (18, .ireturn, 1)]
theorem mj_e9 : mj_b 9 = mj_b 9 := rfl
set_option maxRecDepth 100000 in
theorem mj_d9 : mj_k9.all (fun q => decide (decode (mj_b 9) q.1 = .ok (q.2.1, q.2.2))) = true := dq_all (by decide +kernel)
/-- java/lang/StringLatin1.charAt([BI)C -/
def mj_k10 : List (Nat × Instr × Nat) := [(0, .iload_n 1, 1), (1, .aload_n 0, 1), (2, .arraylength, 1), (3, .invokestatic 9, 3), (6, .aload_n 0, 1), (7, .iload_n 1, 1), (8, .baload, 1), (9, .sipush 255, 3), (12, .iand, 1), (13, .i2c, 1), (14, .ireturn, 1)]
theorem mj_e10 : mj_b 10 = mj_b 10 := rfl
set_option maxRecDepth 100000 in
theorem mj_d10 : mj_k10.all (fun q => decide (decode (mj_b 10) q.1 = .ok (q.2.1, q.2.2))) = true := dq_all (by decide +kernel)
/-- java/lang/String.checkIndex(II)V -/
def mj_k11 : List (Nat × Instr × Nat) := [(0, .iload_n 0, 1), (1, .iload_n 1, 1), (2, .getstatic 1053, 3), (5, .invokestatic 1059, 3), (8, .pop, 1), (9, .return_, 1)]
theorem mj_e11 : mj_b 11 = mj_b 11 := rfl
set_option maxRecDepth 100000 in
theorem mj_d11 : mj_k11.all (fun q => decide (decode (mj_b 11) q.1 = .ok (q.2.1, q.2.2))) = true := dq_all (by decide +kernel)
/-- jdk/internal/util/Preconditions.checkIndex(IILjava/util/function/BiFunction;)I -/
def mj_k12 : List (Nat × Instr × Nat) := [(0, .iload_n 0, 1), (1, .ifCond .lt 8, 3), (4, .iload_n 0, 1), (5, .iload_n 1, 1), (6, .if_icmp .lt 10, 3), (9, .aload_n 2, 1), (10, .iload_n 0, 1), (11, .iload_n 1, 1), (12, .invokestatic 95, 3), (15, .athrow, 1), (16, .iload_n 0, 1), (17, .ireturn, 1)]
theorem mj_e12 : mj_b 12 = mj_b 12 := rfl
set_option maxRecDepth 100000 in
theorem mj_d12 : mj_k12.all (fun q => decide (decode (mj_b 12) q.1 = .ok (q.2.1, q.2.2))) = true := dq_all (by decide +kernel)
/-- FriarLists$TextReader.<init>()V -/
def mj_k17 : List (Nat × Instr × Nat) := [(0, .aload_n 0, 1), (1, .invokespecial 3, 3), (4, .aload_n 0, 1), (5, .sipush 250, 3), (8, .newarray .int, 2), (10, .putfield 9, 3), (13, .aload_n 0, 1), (14, .iconst 0, 1), (15, .putfield 15, 3), (18, .aload_n 0, 1), (19, .new 19, 3), (22, .dup, 1), (23, .bipush 9, 2), (25, .iconst 4, 1), (26, .invokespecial 21, 3), (29, .putfield 24, 3), (32, .aload_n 0, 1), (33, .new 19, 3), (36, .dup, 1), (37, .bipush 64, 2), (39, .iconst 1, 1), (40, .invokespecial 21, 3), (43, .putfield 28, 3), (46, .aload_n 0, 1), (47, .iconst 0, 1), (48, .putfield 31, 3), (51, .aload_n 0, 1), (52, .iconst 0, 1), (53, .putfield 34, 3), (56, .return_, 1)]
theorem mj_e17 : mj_b 17 = mj_b 17 := rfl
set_option maxRecDepth 100000 in
theorem mj_d17 : mj_k17.all (fun q => decide (decode (mj_b 17) q.1 = .ok (q.2.1, q.2.2))) = true := dq_all (by decide +kernel)
/-- FriarLists$Ways.<init>()V -/
def mj_k18 : List (Nat × Instr × Nat) := [(0, .aload_n 0, 1), (1, .invokespecial 3, 3), (4, .aload_n 0, 1), (5, .iconst 5, 1), (6, .newarray .int, 2), (8, .putfield 9, 3), (11, .aload_n 0, 1), (12, .iconst 5, 1), (13, .newarray .int, 2), (15, .putfield 15, 3), (18, .aload_n 0, 1), (19, .iconst 0, 1), (20, .putfield 18, 3), (23, .aload_n 0, 1), (24, .iconst 0, 1), (25, .putfield 22, 3), (28, .aload_n 0, 1), (29, .iconst 0, 1), (30, .putfield 25, 3), (33, .aload_n 0, 1), (34, .new 28, 3), (37, .dup, 1), (38, .iconst 5, 1), (39, .iconst 3, 1), (40, .invokespecial 30, 3), (43, .putfield 33, 3), (46, .aload_n 0, 1), (47, .new 28, 3), (50, .dup, 1), (51, .iconst 5, 1), (52, .iconst 3, 1), (53, .invokespecial 30, 3), (56, .putfield 37, 3), (59, .aload_n 0, 1), (60, .bipush (-3), 2), (62, .putfield 40, 3), (65, .return_, 1)]
theorem mj_e18 : mj_b 18 = mj_b 18 := rfl
set_option maxRecDepth 100000 in
theorem mj_d18 : mj_k18.all (fun q => decide (decode (mj_b 18) q.1 = .ok (q.2.1, q.2.2))) = true := dq_all (by decide +kernel)
/-- FriarLists$Paper.<init>()V -/
def mj_k19 : List (Nat × Instr × Nat) := [(0, .aload_n 0, 1), (1, .invokespecial 3, 3), (4, .aload_n 0, 1), (5, .iconst 0, 1), (6, .putfield 9, 3), (9, .aload_n 0, 1), (10, .iconst 0, 1), (11, .putfield 15, 3), (14, .aload_n 0, 1), (15, .iconst 0, 1), (16, .putfield 18, 3), (19, .aload_n 0, 1), (20, .iconst 0, 1), (21, .putfield 21, 3), (24, .aload_n 0, 1), (25, .new 25, 3), (28, .dup, 1), (29, .bipush 30, 2), (31, .iconst 1, 1), (32, .invokespecial 27, 3), (35, .putfield 30, 3), (38, .return_, 1)]
theorem mj_e19 : mj_b 19 = mj_b 19 := rfl
set_option maxRecDepth 100000 in
theorem mj_d19 : mj_k19.all (fun q => decide (decode (mj_b 19) q.1 = .ok (q.2.1, q.2.2))) = true := dq_all (by decide +kernel)
/-- FriarLists.weeks(I)I -/
def mj_k20 : List (Nat × Instr × Nat) := [(0, .iload_n 1, 1), (1, .iconst 1, 1), (2, .sipush 200, 3), (5, .invokestatic 66, 3), (8, .ifCond .ne 5, 3), (11, .iconst (-1), 1), (12, .ireturn, 1), (13, .aload_n 0, 1), (14, .getfield 10, 3), (17, .getfield 70, 3), (20, .iload_n 1, 1), (21, .iadd, 1), (22, .sipush 1999, 3), (25, .if_icmp .le 6, 3), (28, .bipush (-4), 2), (30, .ireturn, 1), (31, .iconst 0, 1), (32, .istore_n 2, 1), (33, .iload_n 2, 1), (34, .iload_n 1, 1), (35, .if_icmp .ge 16, 3), (38, .aload_n 0, 1), (39, .getfield 10, 3), (42, .invokevirtual 74, 3), (45, .iinc 2 1, 3), (48, .goto (-15), 3), (51, .aload_n 0, 1), (52, .getfield 10, 3), (55, .getfield 70, 3), (58, .ireturn, 1)]
theorem mj_e20 : mj_b 20 = mj_b 20 := rfl
set_option maxRecDepth 100000 in
theorem mj_d20 : mj_k20.all (fun q => decide (decode (mj_b 20) q.1 = .ok (q.2.1, q.2.2))) = true := dq_all (by decide +kernel)
/-- FriarLists.within(III)Z -/
def mj_k21 : List (Nat × Instr × Nat) := [(0, .iload_n 0, 1), (1, .iload_n 1, 1), (2, .if_icmp .lt 12, 3), (5, .iload_n 0, 1), (6, .iload_n 2, 1), (7, .if_icmp .gt 7, 3), (10, .iconst 1, 1), (11, .goto 4, 3), (14, .iconst 0, 1), (15, .ireturn, 1)]
theorem mj_e21 : mj_b 21 = mj_b 21 := rfl
set_option maxRecDepth 100000 in
theorem mj_d21 : mj_k21.all (fun q => decide (decode (mj_b 21) q.1 = .ok (q.2.1, q.2.2))) = true := dq_all (by decide +kernel)
/-- FriarLists$Lists.nextWeek()V -/
def mj_k22 : List (Nat × Instr × Nat) := [(0, .aload_n 0, 1), (1, .dup, 1), (2, .getfield 9, 3), (5, .iconst 1, 1), (6, .iadd, 1), (7, .putfield 9, 3), (10, .iconst 0, 1), (11, .istore_n 1, 1), (12, .iload_n 1, 1), (13, .aload_n 0, 1), (14, .getfield 23, 3), (17, .getfield 98, 3), (20, .if_icmp .ge 14, 3), (23, .aload_n 0, 1), (24, .iload_n 1, 1), (25, .invokevirtual 101, 3), (28, .iinc 1 1, 3), (31, .goto (-19), 3), (34, .iconst 0, 1), (35, .istore_n 1, 1), (36, .iload_n 1, 1), (37, .aload_n 0, 1), (38, .getfield 72, 3), (41, .getfield 98, 3), (44, .if_icmp .ge 30, 3), (47, .aload_n 0, 1), (48, .getfield 72, 3), (51, .iload_n 1, 1), (52, .iconst 2, 1), (53, .invokevirtual 105, 3), (56, .aload_n 0, 1), (57, .getfield 9, 3), (60, .if_icmp .ne 8, 3), (63, .aload_n 0, 1), (64, .iload_n 1, 1), (65, .invokevirtual 109, 3), (68, .iinc 1 1, 3), (71, .goto (-35), 3), (74, .iconst 0, 1), (75, .istore_n 1, 1), (76, .iload_n 1, 1), (77, .aload_n 0, 1), (78, .getfield 23, 3), (81, .getfield 98, 3), (84, .if_icmp .ge 51, 3), (87, .aload_n 0, 1), (88, .getfield 23, 3), (91, .iload_n 1, 1), (92, .bipush 6, 2), (94, .invokevirtual 105, 3), (97, .iconst 3, 1), (98, .if_icmp .ne 31, 3), (101, .aload_n 0, 1), (102, .getfield 23, 3), (105, .iload_n 1, 1), (106, .bipush 14, 2), (108, .invokevirtual 105, 3), (111, .aload_n 0, 1), (112, .getfield 9, 3), (115, .if_icmp .ne 14, 3), (118, .aload_n 0, 1), (119, .getfield 23, 3), (122, .iload_n 1, 1), (123, .bipush 6, 2), (125, .iconst 4, 1), (126, .invokevirtual 78, 3), (129, .iinc 1 1, 3), (132, .goto (-56), 3), (135, .return_, 1)]
theorem mj_e22 : mj_b 22 = mj_b 22 := rfl
set_option maxRecDepth 100000 in
theorem mj_d22 : mj_k22.all (fun q => decide (decode (mj_b 22) q.1 = .ok (q.2.1, q.2.2))) = true := dq_all (by decide +kernel)
/-- FriarLists$Lists.dieOfSickness(I)V -/
def mj_k23 : List (Nat × Instr × Nat) := [(0, .aload_n 0, 1), (1, .iload_n 1, 1), (2, .invokevirtual 112, 3), (5, .ifCond .eq 27, 3), (8, .aload_n 0, 1), (9, .getfield 23, 3), (12, .iload_n 1, 1), (13, .bipush 7, 2), (15, .invokevirtual 105, 3), (18, .bipush 6, 2), (20, .iadd, 1), (21, .aload_n 0, 1), (22, .getfield 9, 3), (25, .if_icmp .ne 7, 3), (28, .iconst 1, 1), (29, .goto 4, 3), (32, .iconst 0, 1), (33, .istore_n 2, 1), (34, .iload_n 2, 1), (35, .ifCond .eq 29, 3), (38, .aload_n 0, 1), (39, .getfield 23, 3), (42, .iload_n 1, 1), (43, .bipush 6, 2), (45, .invokevirtual 105, 3), (48, .iconst 4, 1), (49, .if_icmp .ge 15, 3), (52, .aload_n 0, 1), (53, .getfield 23, 3), (56, .iload_n 1, 1), (57, .bipush 6, 2), (59, .bipush 7, 2), (61, .invokevirtual 78, 3), (64, .return_, 1)]
theorem mj_e23 : mj_b 23 = mj_b 23 := rfl
set_option maxRecDepth 100000 in
theorem mj_d23 : mj_k23.all (fun q => decide (decode (mj_b 23) q.1 = .ok (q.2.1, q.2.2))) = true := dq_all (by decide +kernel)
/-- FriarLists$Lists.isSick(I)Z -/
def mj_k24 : List (Nat × Instr × Nat) := [(0, .aload_n 0, 1), (1, .getfield 23, 3), (4, .iload_n 1, 1), (5, .bipush 7, 2), (7, .invokevirtual 105, 3), (10, .bipush (-3), 2), (12, .if_icmp .eq 7, 3), (15, .iconst 1, 1), (16, .goto 4, 3), (19, .iconst 0, 1), (20, .ireturn, 1)]
theorem mj_e24 : mj_b 24 = mj_b 24 := rfl
set_option maxRecDepth 100000 in
theorem mj_d24 : mj_k24.all (fun q => decide (decode (mj_b 24) q.1 = .ok (q.2.1, q.2.2))) = true := dq_all (by decide +kernel)
/-- FriarLists$Table.get(II)I -/
def mj_k25 : List (Nat × Instr × Nat) := [(0, .iload_n 1, 1), (1, .ifCond .lt 23, 3), (4, .iload_n 1, 1), (5, .aload_n 0, 1), (6, .getfield 19, 3), (9, .if_icmp .ge 15, 3), (12, .iload_n 2, 1), (13, .ifCond .lt 11, 3), (16, .iload_n 2, 1), (17, .aload_n 0, 1), (18, .getfield 22, 3), (21, .if_icmp .lt 5, 3), (24, .iconst 0, 1), (25, .ireturn, 1), (26, .aload_n 0, 1), (27, .getfield 25, 3), (30, .iload_n 1, 1), (31, .aload_n 0, 1), (32, .getfield 22, 3), (35, .imul, 1), (36, .iload_n 2, 1), (37, .iadd, 1), (38, .iaload, 1), (39, .ireturn, 1)]
theorem mj_e25 : mj_b 25 = mj_b 25 := rfl
set_option maxRecDepth 100000 in
theorem mj_d25 : mj_k25.all (fun q => decide (decode (mj_b 25) q.1 = .ok (q.2.1, q.2.2))) = true := dq_all (by decide +kernel)
/-- FriarLists$Lists.comeToTheMole(I)V -/
def mj_k26 : List (Nat × Instr × Nat) := [(0, .aload_n 0, 1), (1, .getfield 9, 3), (4, .aload_n 0, 1), (5, .getfield 72, 3), (8, .iload_n 1, 1), (9, .iconst 3, 1), (10, .invokevirtual 105, 3), (13, .iconst 1, 1), (14, .if_icmp .ne 8, 3), (17, .bipush 6, 2), (19, .goto 4, 3), (22, .iconst 2, 1), (23, .iadd, 1), (24, .istore_n 2, 1), (25, .iconst 0, 1), (26, .istore_n 3, 1), (27, .iload_n 3, 1), (28, .aload_n 0, 1), (29, .getfield 23, 3), (32, .getfield 98, 3), (35, .if_icmp .ge 62, 3), (38, .aload_n 0, 1), (39, .getfield 23, 3), (42, .iload_n 3, 1), (43, .bipush 6, 2), (45, .invokevirtual 105, 3), (48, .iconst 2, 1), (49, .if_icmp .ne 42, 3), (52, .aload_n 0, 1), (53, .getfield 23, 3), (56, .iload_n 3, 1), (57, .bipush 12, 2), (59, .invokevirtual 105, 3), (62, .iload_n 1, 1), (63, .if_icmp .eq 6, 3), (66, .goto 25, 3), (69, .aload_n 0, 1), (70, .getfield 23, 3), (73, .iload_n 3, 1), (74, .bipush 6, 2), (76, .iconst 3, 1), (77, .invokevirtual 78, 3), (80, .aload_n 0, 1), (81, .getfield 23, 3), (84, .iload_n 3, 1), (85, .bipush 14, 2), (87, .iload_n 2, 1), (88, .invokevirtual 78, 3), (91, .iinc 3 1, 3), (94, .goto (-67), 3), (97, .return_, 1)]
theorem mj_e26 : mj_b 26 = mj_b 26 := rfl
set_option maxRecDepth 100000 in
theorem mj_d26 : mj_k26.all (fun q => decide (decode (mj_b 26) q.1 = .ok (q.2.1, q.2.2))) = true := dq_all (by decide +kernel)
/-- FriarLists.captive(IIIII)I -/
def mj_k27 : List (Nat × Instr × Nat) := [(0, .iload_n 1, 1), (1, .invokestatic 77, 3), (4, .ifCond .eq 20, 3), (7, .iload_n 2, 1), (8, .invokestatic 81, 3), (11, .ifCond .eq 13, 3), (14, .iload_n 3, 1), (15, .iconst 1, 1), (16, .bipush 90, 2), (18, .invokestatic 66, 3), (21, .ifCond .ne 5, 3), (24, .iconst (-1), 1), (25, .ireturn, 1), (26, .iload 4, 2), (28, .iconst 0, 1), (29, .aload_n 0, 1), (30, .getfield 10, 3), (33, .getfield 70, 3), (36, .invokestatic 66, 3), (39, .ifCond .eq 15, 3), (42, .iload 5, 2), (44, .iconst 1, 1), (45, .sipush 999, 3), (48, .invokestatic 66, 3), (51, .ifCond .ne 5, 3), (54, .iconst (-1), 1), (55, .ireturn, 1), (56, .aload_n 0, 1), (57, .getfield 10, 3), (60, .getfield 84, 3), (63, .invokevirtual 87, 3), (66, .ifCond .eq 6, 3), (69, .bipush (-2), 2), (71, .ireturn, 1), (72, .aload_n 0, 1), (73, .getfield 10, 3), (76, .iload_n 1, 1), (77, .iload_n 2, 1), (78, .iload_n 3, 1), (79, .iload 4, 2), (81, .iload 5, 2), (83, .invokevirtual 91, 3), (86, .ireturn, 1)]
theorem mj_e27 : mj_b 27 = mj_b 27 := rfl
set_option maxRecDepth 100000 in
theorem mj_d27 : mj_k27.all (fun q => decide (decode (mj_b 27) q.1 = .ok (q.2.1, q.2.2))) = true := dq_all (by decide +kernel)
/-- FriarLists.isName(I)Z -/
def mj_k28 : List (Nat × Instr × Nat) := [(0, .iload_n 0, 1), (1, .iconst 1, 1), (2, .ldc_w 387, 3), (5, .invokestatic 66, 3), (8, .ifCond .ne 5, 3), (11, .iconst 0, 1), (12, .ireturn, 1), (13, .iload_n 0, 1), (14, .istore_n 1, 1), (15, .iconst 0, 1), (16, .istore_n 2, 1), (17, .iload_n 2, 1), (18, .bipush 6, 2), (20, .if_icmp .ge 27, 3), (23, .iload_n 1, 1), (24, .ifCond .le 23, 3), (27, .iload_n 1, 1), (28, .bipush 27, 2), (30, .irem, 1), (31, .ifCond .ne 5, 3), (34, .iconst 0, 1), (35, .ireturn, 1), (36, .iload_n 1, 1), (37, .bipush 27, 2), (39, .idiv, 1), (40, .istore_n 1, 1), (41, .iinc 2 1, 3), (44, .goto (-27), 3), (47, .iconst 1, 1), (48, .ireturn, 1)]
theorem mj_e28 : mj_b 28 = mj_b 28 := rfl
set_option maxRecDepth 100000 in
theorem mj_d28 : mj_k28.all (fun q => decide (decode (mj_b 28) q.1 = .ok (q.2.1, q.2.2))) = true := dq_all (by decide +kernel)
/-- FriarLists.isWho(I)Z -/
def mj_k29 : List (Nat × Instr × Nat) := [(0, .iload_n 0, 1), (1, .iconst 0, 1), (2, .sipush 599, 3), (5, .invokestatic 66, 3), (8, .ifCond .eq 26, 3), (11, .iload_n 0, 1), (12, .bipush 10, 2), (14, .idiv, 1), (15, .bipush 10, 2), (17, .irem, 1), (18, .iconst 4, 1), (19, .if_icmp .ge 15, 3), (22, .iload_n 0, 1), (23, .bipush 10, 2), (25, .irem, 1), (26, .iconst 5, 1), (27, .if_icmp .ge 7, 3), (30, .iconst 1, 1), (31, .goto 4, 3), (34, .iconst 0, 1), (35, .ireturn, 1)]
theorem mj_e29 : mj_b 29 = mj_b 29 := rfl
set_option maxRecDepth 100000 in
theorem mj_d29 : mj_k29.all (fun q => decide (decode (mj_b 29) q.1 = .ok (q.2.1, q.2.2))) = true := dq_all (by decide +kernel)
/-- FriarLists$Table.isFull()Z -/
def mj_k30 : List (Nat × Instr × Nat) := [(0, .aload_n 0, 1), (1, .getfield 7, 3), (4, .aload_n 0, 1), (5, .getfield 19, 3), (8, .if_icmp .lt 7, 3), (11, .iconst 1, 1), (12, .goto 4, 3), (15, .iconst 0, 1), (16, .ireturn, 1)]
theorem mj_e30 : mj_b 30 = mj_b 30 := rfl
set_option maxRecDepth 100000 in
theorem mj_d30 : mj_k30.all (fun q => decide (decode (mj_b 30) q.1 = .ok (q.2.1, q.2.2))) = true := dq_all (by decide +kernel)
/-- FriarLists$Lists.addCaptive(IIIII)I -/
def mj_k31 : List (Nat × Instr × Nat) := [(0, .aload_n 0, 1), (1, .getfield 23, 3), (4, .invokevirtual 116, 3), (7, .istore 6, 2), (9, .aload_n 0, 1), (10, .getfield 23, 3), (13, .iload 6, 2), (15, .iconst 0, 1), (16, .iload_n 1, 1), (17, .invokevirtual 78, 3), (20, .aload_n 0, 1), (21, .getfield 23, 3), (24, .iload 6, 2), (26, .iconst 1, 1), (27, .iload_n 2, 1), (28, .bipush 100, 2), (30, .idiv, 1), (31, .invokevirtual 78, 3), (34, .aload_n 0, 1), (35, .getfield 23, 3), (38, .iload 6, 2), (40, .iconst 2, 1), (41, .iload_n 2, 1), (42, .bipush 10, 2), (44, .idiv, 1), (45, .bipush 10, 2), (47, .irem, 1), (48, .invokevirtual 78, 3), (51, .aload_n 0, 1), (52, .getfield 23, 3), (55, .iload 6, 2), (57, .iconst 3, 1), (58, .iload_n 2, 1), (59, .bipush 10, 2), (61, .irem, 1), (62, .invokevirtual 78, 3), (65, .aload_n 0, 1), (66, .getfield 23, 3), (69, .iload 6, 2), (71, .bipush 9, 2), (73, .iload_n 3, 1), (74, .invokevirtual 78, 3), (77, .aload_n 0, 1), (78, .getfield 23, 3), (81, .iload 6, 2), (83, .iconst 4, 1), (84, .iload 4, 2), (86, .invokevirtual 78, 3), (89, .aload_n 0, 1), (90, .getfield 23, 3), (93, .iload 6, 2), (95, .iconst 5, 1), (96, .iload 5, 2), (98, .invokevirtual 78, 3), (101, .aload_n 0, 1), (102, .getfield 23, 3), (105, .iload 6, 2), (107, .bipush 7, 2), (109, .bipush (-3), 2), (111, .invokevirtual 78, 3), (114, .aload_n 0, 1), (115, .getfield 23, 3), (118, .iload 6, 2), (120, .bipush 11, 2), (122, .bipush (-3), 2), (124, .invokevirtual 78, 3), (127, .aload_n 0, 1), (128, .getfield 23, 3), (131, .iload 6, 2), (133, .bipush 12, 2), (135, .bipush (-3), 2), (137, .invokevirtual 78, 3), (140, .iload 6, 2), (142, .ireturn, 1)]
theorem mj_e31 : mj_b 31 = mj_b 31 := rfl
set_option maxRecDepth 100000 in
theorem mj_d31 : mj_k31.all (fun q => decide (decode (mj_b 31) q.1 = .ok (q.2.1, q.2.2))) = true := dq_all (by decide +kernel)
/-- FriarLists$Table.add()I -/
def mj_k32 : List (Nat × Instr × Nat) := [(0, .aload_n 0, 1), (1, .invokevirtual 29, 3), (4, .ifCond .eq 10, 3), (7, .aload_n 0, 1), (8, .getfield 7, 3), (11, .iconst 1, 1), (12, .isub, 1), (13, .ireturn, 1), (14, .aload_n 0, 1), (15, .aload_n 0, 1), (16, .getfield 7, 3), (19, .invokevirtual 33, 3), (22, .aload_n 0, 1), (23, .dup, 1), (24, .getfield 7, 3), (27, .iconst 1, 1), (28, .iadd, 1), (29, .putfield 7, 3), (32, .aload_n 0, 1), (33, .getfield 7, 3), (36, .iconst 1, 1), (37, .isub, 1), (38, .ireturn, 1)]
theorem mj_e32 : mj_b 32 = mj_b 32 := rfl
set_option maxRecDepth 100000 in
theorem mj_d32 : mj_k32.all (fun q => decide (decode (mj_b 32) q.1 = .ok (q.2.1, q.2.2))) = true := dq_all (by decide +kernel)
/-- FriarLists$Table.zero(I)V -/
def mj_k33 : List (Nat × Instr × Nat) := [(0, .iconst 0, 1), (1, .istore_n 2, 1), (2, .iload_n 2, 1), (3, .aload_n 0, 1), (4, .getfield 22, 3), (7, .if_icmp .ge 16, 3), (10, .aload_n 0, 1), (11, .iload_n 1, 1), (12, .iload_n 2, 1), (13, .iconst 0, 1), (14, .invokevirtual 37, 3), (17, .iinc 2 1, 3), (20, .goto (-18), 3), (23, .return_, 1)]
theorem mj_e33 : mj_b 33 = mj_b 33 := rfl
set_option maxRecDepth 100000 in
theorem mj_d33 : mj_k33.all (fun q => decide (decode (mj_b 33) q.1 = .ok (q.2.1, q.2.2))) = true := dq_all (by decide +kernel)
/-- FriarLists.of(II)I -/
def mj_k34 : List (Nat × Instr × Nat) := [(0, .aload_n 0, 1), (1, .getfield 10, 3), (4, .getfield 84, 3), (7, .iload_n 1, 1), (8, .invokevirtual 95, 3), (11, .ifCond .eq 13, 3), (14, .iload_n 2, 1), (15, .iconst 0, 1), (16, .bipush 13, 2), (18, .invokestatic 66, 3), (21, .ifCond .ne 5, 3), (24, .iconst (-1), 1), (25, .ireturn, 1), (26, .iload_n 2, 1), (27, .bipush 9, 2), (29, .if_icmp .ne 12, 3), (32, .aload_n 0, 1), (33, .getfield 10, 3), (36, .iload_n 1, 1), (37, .invokevirtual 98, 3), (40, .ireturn, 1), (41, .iload_n 2, 1), (42, .bipush 13, 2), (44, .if_icmp .ne 20, 3), (47, .aload_n 0, 1), (48, .getfield 10, 3), (51, .iload_n 1, 1), (52, .invokevirtual 102, 3), (55, .ifCond .eq 7, 3), (58, .iconst 1, 1), (59, .goto 4, 3), (62, .iconst 0, 1), (63, .ireturn, 1), (64, .aload_n 0, 1), (65, .getfield 10, 3), (68, .getfield 84, 3), (71, .iload_n 1, 1), (72, .iload_n 2, 1), (73, .invokevirtual 105, 3), (76, .ireturn, 1)]
theorem mj_e34 : mj_b 34 = mj_b 34 := rfl
set_option maxRecDepth 100000 in
theorem mj_d34 : mj_k34.all (fun q => decide (decode (mj_b 34) q.1 = .ok (q.2.1, q.2.2))) = true := dq_all (by decide +kernel)
/-- FriarLists$Table.has(I)Z -/
def mj_k35 : List (Nat × Instr × Nat) := [(0, .iload_n 1, 1), (1, .ifCond .lt 15, 3), (4, .iload_n 1, 1), (5, .aload_n 0, 1), (6, .getfield 7, 3), (9, .if_icmp .ge 7, 3), (12, .iconst 1, 1), (13, .goto 4, 3), (16, .iconst 0, 1), (17, .ireturn, 1)]
theorem mj_e35 : mj_b 35 = mj_b 35 := rfl
set_option maxRecDepth 100000 in
theorem mj_d35 : mj_k35.all (fun q => decide (decode (mj_b 35) q.1 = .ok (q.2.1, q.2.2))) = true := dq_all (by decide +kernel)
/-- FriarLists$Lists.ageNow(I)I -/
def mj_k36 : List (Nat × Instr × Nat) := [(0, .aload_n 0, 1), (1, .iconst 0, 1), (2, .iload_n 1, 1), (3, .aload_n 0, 1), (4, .getfield 9, 3), (7, .invokevirtual 119, 3), (10, .ireturn, 1)]
theorem mj_e36 : mj_b 36 = mj_b 36 := rfl
set_option maxRecDepth 100000 in
theorem mj_d36 : mj_k36.all (fun q => decide (decode (mj_b 36) q.1 = .ok (q.2.1, q.2.2))) = true := dq_all (by decide +kernel)
/-- FriarLists$Lists.factOf(III)I -/
def mj_k37 : List (Nat × Instr × Nat) := [(0, .iconst 0, 1), (1, .iload_n 3, 1), (2, .aload_n 0, 1), (3, .getfield 23, 3), (6, .iload_n 2, 1), (7, .iconst 4, 1), (8, .invokevirtual 105, 3), (11, .isub, 1), (12, .invokestatic 137, 3), (15, .istore 4, 2), (17, .iload_n 1, 1), (18, .tableswitch 84 0 4 #[34, 51, 54, 64, 74], 34), (52, .aload_n 0, 1), (53, .getfield 23, 3), (56, .iload_n 2, 1), (57, .bipush 9, 2), (59, .invokevirtual 105, 3), (62, .iload 4, 2), (64, .bipush 52, 2), (66, .idiv, 1), (67, .iadd, 1), (68, .ireturn, 1), (69, .iload 4, 2), (71, .ireturn, 1), (72, .aload_n 0, 1), (73, .getfield 23, 3), (76, .iload_n 2, 1), (77, .iconst 2, 1), (78, .invokevirtual 105, 3), (81, .ireturn, 1), (82, .aload_n 0, 1), (83, .getfield 23, 3), (86, .iload_n 2, 1), (87, .iconst 1, 1), (88, .invokevirtual 105, 3), (91, .ireturn, 1), (92, .aload_n 0, 1), (93, .getfield 23, 3), (96, .iload_n 2, 1), (97, .iconst 5, 1), (98, .invokevirtual 105, 3), (101, .ireturn, 1), (102, .aload_n 0, 1), (103, .getfield 23, 3), (106, .iload_n 2, 1), (107, .iconst 3, 1), (108, .invokevirtual 105, 3), (111, .ireturn, 1)]
theorem mj_e37 : mj_b 37 = mj_b 37 := rfl
set_option maxRecDepth 100000 in
theorem mj_d37 : mj_k37.all (fun q => decide (decode (mj_b 37) q.1 = .ok (q.2.1, q.2.2))) = true := dq_all (by decide +kernel)
/-- FriarLists$Lists.isPaidTwice(I)Z -/
def mj_k38 : List (Nat × Instr × Nat) := [(0, .aload_n 0, 1), (1, .getfield 23, 3), (4, .iload_n 1, 1), (5, .bipush 10, 2), (7, .invokevirtual 105, 3), (10, .ifCond .le 21, 3), (13, .aload_n 0, 1), (14, .getfield 23, 3), (17, .iload_n 1, 1), (18, .bipush 13, 2), (20, .invokevirtual 105, 3), (23, .iconst 1, 1), (24, .if_icmp .ne 7, 3), (27, .iconst 1, 1), (28, .goto 4, 3), (31, .iconst 0, 1), (32, .ireturn, 1)]
theorem mj_e38 : mj_b 38 = mj_b 38 := rfl
set_option maxRecDepth 100000 in
theorem mj_d38 : mj_k38.all (fun q => decide (decode (mj_b 38) q.1 = .ok (q.2.1, q.2.2))) = true := dq_all (by decide +kernel)
/-- FriarLists.sick(IZ)I -/
def mj_k39 : List (Nat × Instr × Nat) := [(0, .aload_n 0, 1), (1, .getfield 10, 3), (4, .getfield 84, 3), (7, .iload_n 1, 1), (8, .invokevirtual 95, 3), (11, .ifCond .ne 5, 3), (14, .iconst (-1), 1), (15, .ireturn, 1), (16, .aload_n 0, 1), (17, .getfield 10, 3), (20, .getfield 84, 3), (23, .iload_n 1, 1), (24, .bipush 6, 2), (26, .invokevirtual 105, 3), (29, .iconst 4, 1), (30, .if_icmp .lt 6, 3), (33, .bipush (-4), 2), (35, .ireturn, 1), (36, .aload_n 0, 1), (37, .getfield 10, 3), (40, .iload_n 1, 1), (41, .invokevirtual 109, 3), (44, .iload_n 2, 1), (45, .if_icmp .ne 5, 3), (48, .iconst 0, 1), (49, .ireturn, 1), (50, .aload_n 0, 1), (51, .getfield 10, 3), (54, .iload_n 1, 1), (55, .iload_n 2, 1), (56, .invokevirtual 112, 3), (59, .iconst 1, 1), (60, .ireturn, 1)]
theorem mj_e39 : mj_b 39 = mj_b 39 := rfl
set_option maxRecDepth 100000 in
theorem mj_d39 : mj_k39.all (fun q => decide (decode (mj_b 39) q.1 = .ok (q.2.1, q.2.2))) = true := dq_all (by decide +kernel)
/-- FriarLists$Lists.tellSick(IZ)V -/
def mj_k40 : List (Nat × Instr × Nat) := [(0, .aload_n 0, 1), (1, .getfield 23, 3), (4, .iload_n 1, 1), (5, .bipush 7, 2), (7, .iload_n 2, 1), (8, .ifCond .eq 10, 3), (11, .aload_n 0, 1), (12, .getfield 9, 3), (15, .goto 5, 3), (18, .bipush (-3), 2), (20, .invokevirtual 78, 3), (23, .iload_n 2, 1), (24, .ifCond .eq 36, 3), (27, .aload_n 0, 1), (28, .getfield 23, 3), (31, .iload_n 1, 1), (32, .bipush 6, 2), (34, .invokevirtual 105, 3), (37, .iconst 2, 1), (38, .if_icmp .ne 22, 3), (41, .aload_n 0, 1), (42, .getfield 72, 3), (45, .aload_n 0, 1), (46, .getfield 23, 3), (49, .iload_n 1, 1), (50, .bipush 12, 2), (52, .invokevirtual 105, 3), (55, .iconst 3, 1), (56, .iconst 1, 1), (57, .invokevirtual 78, 3), (60, .return_, 1)]
theorem mj_e40 : mj_b 40 = mj_b 40 := rfl
set_option maxRecDepth 100000 in
theorem mj_d40 : mj_k40.all (fun q => decide (decode (mj_b 40) q.1 = .ok (q.2.1, q.2.2))) = true := dq_all (by decide +kernel)
/-- FriarLists.turned(IZ)I -/
def mj_k41 : List (Nat × Instr × Nat) := [(0, .aload_n 0, 1), (1, .getfield 10, 3), (4, .getfield 84, 3), (7, .iload_n 1, 1), (8, .invokevirtual 95, 3), (11, .ifCond .ne 5, 3), (14, .iconst (-1), 1), (15, .ireturn, 1), (16, .aload_n 0, 1), (17, .getfield 10, 3), (20, .getfield 84, 3), (23, .iload_n 1, 1), (24, .bipush 8, 2), (26, .iload_n 2, 1), (27, .ifCond .eq 7, 3), (30, .iconst 1, 1), (31, .goto 4, 3), (34, .iconst 0, 1), (35, .invokevirtual 116, 3), (38, .ireturn, 1)]
theorem mj_e41 : mj_b 41 = mj_b 41 := rfl
set_option maxRecDepth 100000 in
theorem mj_d41 : mj_k41.all (fun q => decide (decode (mj_b 41) q.1 = .ok (q.2.1, q.2.2))) = true := dq_all (by decide +kernel)
/-- FriarLists$Table.change(III)I -/
def mj_k42 : List (Nat × Instr × Nat) := [(0, .aload_n 0, 1), (1, .iload_n 1, 1), (2, .iload_n 2, 1), (3, .invokevirtual 41, 3), (6, .istore 4, 2), (8, .aload_n 0, 1), (9, .iload_n 1, 1), (10, .iload_n 2, 1), (11, .iload_n 3, 1), (12, .invokevirtual 37, 3), (15, .iload 4, 2), (17, .ireturn, 1)]
theorem mj_e42 : mj_b 42 = mj_b 42 := rfl
set_option maxRecDepth 100000 in
theorem mj_d42 : mj_k42.all (fun q => decide (decode (mj_b 42) q.1 = .ok (q.2.1, q.2.2))) = true := dq_all (by decide +kernel)
/-- FriarLists.lose(II)I -/
def mj_k43 : List (Nat × Instr × Nat) := [(0, .aload_n 0, 1), (1, .getfield 10, 3), (4, .getfield 84, 3), (7, .iload_n 1, 1), (8, .invokevirtual 95, 3), (11, .ifCond .eq 13, 3), (14, .iload_n 2, 1), (15, .iconst 5, 1), (16, .bipush 7, 2), (18, .invokestatic 66, 3), (21, .ifCond .ne 5, 3), (24, .iconst (-1), 1), (25, .ireturn, 1), (26, .aload_n 0, 1), (27, .getfield 10, 3), (30, .getfield 84, 3), (33, .iload_n 1, 1), (34, .bipush 6, 2), (36, .invokevirtual 105, 3), (39, .ifCond .eq 6, 3), (42, .bipush (-4), 2), (44, .ireturn, 1), (45, .aload_n 0, 1), (46, .getfield 10, 3), (49, .getfield 84, 3), (52, .iload_n 1, 1), (53, .bipush 6, 2), (55, .iload_n 2, 1), (56, .invokevirtual 62, 3), (59, .iconst 1, 1), (60, .ireturn, 1)]
theorem mj_e43 : mj_b 43 = mj_b 43 := rfl
set_option maxRecDepth 100000 in
theorem mj_d43 : mj_k43.all (fun q => decide (decode (mj_b 43) q.1 = .ok (q.2.1, q.2.2))) = true := dq_all (by decide +kernel)
/-- FriarLists.master(II)I -/
def mj_k44 : List (Nat × Instr × Nat) := [(0, .iload_n 1, 1), (1, .iconst 0, 1), (2, .iconst 4, 1), (3, .invokestatic 66, 3), (6, .ifCond .eq 10, 3), (9, .iload_n 2, 1), (10, .invokestatic 120, 3), (13, .ifCond .ne 5, 3), (16, .iconst (-1), 1), (17, .ireturn, 1), (18, .aload_n 0, 1), (19, .getfield 10, 3), (22, .getfield 123, 3), (25, .iload_n 1, 1), (26, .iconst 0, 1), (27, .iload_n 2, 1), (28, .invokevirtual 116, 3), (31, .ireturn, 1)]
theorem mj_e44 : mj_b 44 = mj_b 44 := rfl
set_option maxRecDepth 100000 in
theorem mj_d44 : mj_k44.all (fun q => decide (decode (mj_b 44) q.1 = .ok (q.2.1, q.2.2))) = true := dq_all (by decide +kernel)
/-- FriarLists.isFarPort(I)Z -/
def mj_k45 : List (Nat × Instr × Nat) := [(0, .iload_n 0, 1), (1, .iconst 1, 1), (2, .iconst 4, 1), (3, .invokestatic 66, 3), (6, .ireturn, 1)]
theorem mj_e45 : mj_b 45 = mj_b 45 := rfl
set_option maxRecDepth 100000 in
theorem mj_d45 : mj_k45.all (fun q => decide (decode (mj_b 45) q.1 = .ok (q.2.1, q.2.2))) = true := dq_all (by decide +kernel)
/-- FriarLists.news(II)I -/
def mj_k46 : List (Nat × Instr × Nat) := [(0, .iload_n 1, 1), (1, .iconst (-1), 1), (2, .if_icmp .eq 19, 3), (5, .aload_n 0, 1), (6, .getfield 10, 3), (9, .getfield 84, 3), (12, .iload_n 1, 1), (13, .invokevirtual 95, 3), (16, .ifCond .ne 5, 3), (19, .iconst (-1), 1), (20, .ireturn, 1), (21, .iload_n 2, 1), (22, .iconst 1, 1), (23, .bipush 9, 2), (25, .invokestatic 66, 3), (28, .ifCond .ne 5, 3), (31, .iconst (-1), 1), (32, .ireturn, 1), (33, .aload_n 0, 1), (34, .getfield 10, 3), (37, .getfield 126, 3), (40, .invokevirtual 87, 3), (43, .ifCond .eq 6, 3), (46, .bipush (-2), 2), (48, .ireturn, 1), (49, .aload_n 0, 1), (50, .getfield 10, 3), (53, .getfield 126, 3), (56, .invokevirtual 129, 3), (59, .istore_n 3, 1), (60, .aload_n 0, 1), (61, .getfield 10, 3), (64, .getfield 126, 3), (67, .iload_n 3, 1), (68, .iconst 0, 1), (69, .iload_n 1, 1), (70, .invokevirtual 62, 3), (73, .aload_n 0, 1), (74, .getfield 10, 3), (77, .getfield 126, 3), (80, .iload_n 3, 1), (81, .iconst 1, 1), (82, .iload_n 2, 1), (83, .invokevirtual 62, 3), (86, .aload_n 0, 1), (87, .getfield 10, 3), (90, .getfield 126, 3), (93, .iload_n 3, 1), (94, .iconst 2, 1), (95, .aload_n 0, 1), (96, .getfield 10, 3), (99, .getfield 70, 3), (102, .invokevirtual 62, 3), (105, .iload_n 3, 1), (106, .ireturn, 1)]
theorem mj_e46 : mj_b 46 = mj_b 46 := rfl
set_option maxRecDepth 100000 in
theorem mj_d46 : mj_k46.all (fun q => decide (decode (mj_b 46) q.1 = .ok (q.2.1, q.2.2))) = true := dq_all (by decide +kernel)
/-- FriarLists.lag(II)I -/
def mj_k47 : List (Nat × Instr × Nat) := [(0, .iload_n 1, 1), (1, .invokestatic 120, 3), (4, .ifCond .eq 13, 3), (7, .iload_n 2, 1), (8, .iconst 1, 1), (9, .bipush 20, 2), (11, .invokestatic 66, 3), (14, .ifCond .ne 5, 3), (17, .iconst (-1), 1), (18, .ireturn, 1), (19, .aload_n 0, 1), (20, .getfield 10, 3), (23, .getfield 133, 3), (26, .iload_n 1, 1), (27, .iconst 0, 1), (28, .iload_n 2, 1), (29, .invokevirtual 116, 3), (32, .ireturn, 1)]
theorem mj_e47 : mj_b 47 = mj_b 47 := rfl
set_option maxRecDepth 100000 in
theorem mj_d47 : mj_k47.all (fun q => decide (decode (mj_b 47) q.1 = .ok (q.2.1, q.2.2))) = true := dq_all (by decide +kernel)
/-- FriarLists.premium(II)I -/
def mj_k48 : List (Nat × Instr × Nat) := [(0, .iload_n 1, 1), (1, .iconst 0, 1), (2, .iconst 3, 1), (3, .invokestatic 66, 3), (6, .ifCond .eq 14, 3), (9, .iload_n 2, 1), (10, .iconst 0, 1), (11, .sipush 500, 3), (14, .invokestatic 66, 3), (17, .ifCond .ne 5, 3), (20, .iconst (-1), 1), (21, .ireturn, 1), (22, .aload_n 0, 1), (23, .getfield 10, 3), (26, .getfield 136, 3), (29, .iload_n 1, 1), (30, .iconst 0, 1), (31, .iload_n 2, 1), (32, .invokevirtual 116, 3), (35, .ireturn, 1)]
theorem mj_e48 : mj_b 48 = mj_b 48 := rfl
set_option maxRecDepth 100000 in
theorem mj_d48 : mj_k48.all (fun q => decide (decode (mj_b 48) q.1 = .ok (q.2.1, q.2.2))) = true := dq_all (by decide +kernel)
/-- FriarLists.ask(II)I -/
def mj_k49 : List (Nat × Instr × Nat) := [(0, .aload_n 0, 1), (1, .getfield 10, 3), (4, .getfield 84, 3), (7, .iload_n 1, 1), (8, .invokevirtual 95, 3), (11, .ifCond .eq 10, 3), (14, .iload_n 2, 1), (15, .invokestatic 139, 3), (18, .ifCond .ne 5, 3), (21, .iconst (-1), 1), (22, .ireturn, 1), (23, .aload_n 0, 1), (24, .getfield 10, 3), (27, .iload_n 1, 1), (28, .iload_n 2, 1), (29, .invokevirtual 142, 3), (32, .ireturn, 1)]
theorem mj_e49 : mj_b 49 = mj_b 49 := rfl
set_option maxRecDepth 100000 in
theorem mj_d49 : mj_k49.all (fun q => decide (decode (mj_b 49) q.1 = .ok (q.2.1, q.2.2))) = true := dq_all (by decide +kernel)
/-- FriarLists.isWeek(I)Z -/
def mj_k50 : List (Nat × Instr × Nat) := [(0, .iload_n 0, 1), (1, .iconst 0, 1), (2, .sipush 1999, 3), (5, .invokestatic 66, 3), (8, .ireturn, 1)]
theorem mj_e50 : mj_b 50 = mj_b 50 := rfl
set_option maxRecDepth 100000 in
theorem mj_d50 : mj_k50.all (fun q => decide (decode (mj_b 50) q.1 = .ok (q.2.1, q.2.2))) = true := dq_all (by decide +kernel)
/-- FriarLists$Lists.askFor(II)I -/
def mj_k51 : List (Nat × Instr × Nat) := [(0, .aload_n 0, 1), (1, .getfield 23, 3), (4, .iload_n 1, 1), (5, .iconst 5, 1), (6, .invokevirtual 105, 3), (9, .aload_n 0, 1), (10, .getfield 36, 3), (13, .aload_n 0, 1), (14, .getfield 23, 3), (17, .iload_n 1, 1), (18, .iconst 2, 1), (19, .invokevirtual 105, 3), (22, .iconst 0, 1), (23, .invokevirtual 105, 3), (26, .iadd, 1), (27, .istore_n 3, 1), (28, .aload_n 0, 1), (29, .getfield 33, 3), (32, .aload_n 0, 1), (33, .iload_n 1, 1), (34, .invokevirtual 123, 3), (37, .iconst 0, 1), (38, .invokevirtual 105, 3), (41, .istore 4, 2), (43, .bipush 100, 2), (45, .istore 5, 2), (47, .iconst 0, 1), (48, .istore 6, 2), (50, .iload 6, 2), (52, .aload_n 0, 1), (53, .getfield 30, 3), (56, .getfield 98, 3), (59, .if_icmp .ge 80, 3), (62, .aload_n 0, 1), (63, .getfield 30, 3), (66, .iload 6, 2), (68, .iconst 0, 1), (69, .invokevirtual 105, 3), (72, .istore 7, 2), (74, .aload_n 0, 1), (75, .getfield 30, 3), (78, .iload 6, 2), (80, .iconst 2, 1), (81, .invokevirtual 105, 3), (84, .iload 4, 2), (86, .iadd, 1), (87, .iload_n 2, 1), (88, .if_icmp .gt 7, 3), (91, .iconst 1, 1), (92, .goto 4, 3), (95, .iconst 0, 1), (96, .istore 8, 2), (98, .iload 8, 2), (100, .ifCond .eq 33, 3), (103, .iload 7, 2), (105, .iload_n 1, 1), (106, .if_icmp .eq 9, 3), (109, .iload 7, 2), (111, .iconst (-1), 1), (112, .if_icmp .ne 21, 3), (115, .iload 5, 2), (117, .bipush 10, 2), (119, .aload_n 0, 1), (120, .getfield 30, 3), (123, .iload 6, 2), (125, .iconst 1, 1), (126, .invokevirtual 105, 3), (129, .imul, 1), (130, .iadd, 1), (131, .istore 5, 2), (133, .iinc 6 1, 3), (136, .goto (-86), 3), (139, .iload_n 3, 1), (140, .iload 5, 2), (142, .imul, 1), (143, .bipush 100, 2), (145, .idiv, 1), (146, .ireturn, 1)]
theorem mj_e51 : mj_b 51 = mj_b 51 := rfl
set_option maxRecDepth 100000 in
theorem mj_d51 : mj_k51.all (fun q => decide (decode (mj_b 51) q.1 = .ok (q.2.1, q.2.2))) = true := dq_all (by decide +kernel)
/-- FriarLists$Lists.portOf(I)I -/
def mj_k52 : List (Nat × Instr × Nat) := [(0, .aload_n 0, 1), (1, .getfield 27, 3), (4, .aload_n 0, 1), (5, .getfield 23, 3), (8, .iload_n 1, 1), (9, .iconst 3, 1), (10, .invokevirtual 105, 3), (13, .iconst 0, 1), (14, .invokevirtual 105, 3), (17, .ireturn, 1)]
theorem mj_e52 : mj_b 52 = mj_b 52 := rfl
set_option maxRecDepth 100000 in
theorem mj_d52 : mj_k52.all (fun q => decide (decode (mj_b 52) q.1 = .ok (q.2.1, q.2.2))) = true := dq_all (by decide +kernel)
/-- FriarLists.sound(II)I -/
def mj_k53 : List (Nat × Instr × Nat) := [(0, .iload_n 1, 1), (1, .iconst 1, 1), (2, .bipush 26, 2), (4, .invokestatic 66, 3), (7, .ifCond .eq 12, 3), (10, .iload_n 2, 1), (11, .iconst 0, 1), (12, .iconst 5, 1), (13, .invokestatic 66, 3), (16, .ifCond .ne 5, 3), (19, .iconst (-1), 1), (20, .ireturn, 1), (21, .aload_n 0, 1), (22, .getfield 10, 3), (25, .getfield 145, 3), (28, .iload_n 1, 1), (29, .iconst 0, 1), (30, .iload_n 2, 1), (31, .invokevirtual 116, 3), (34, .ireturn, 1)]
theorem mj_e53 : mj_b 53 = mj_b 53 := rfl
set_option maxRecDepth 100000 in
theorem mj_d53 : mj_k53.all (fun q => decide (decode (mj_b 53) q.1 = .ok (q.2.1, q.2.2))) = true := dq_all (by decide +kernel)
/-- FriarLists.key(I)I -/
def mj_k54 : List (Nat × Instr × Nat) := [(0, .iload_n 1, 1), (1, .invokestatic 77, 3), (4, .ifCond .ne 5, 3), (7, .iconst (-1), 1), (8, .ireturn, 1), (9, .aload_n 0, 1), (10, .getfield 10, 3), (13, .iload_n 1, 1), (14, .invokevirtual 148, 3), (17, .ireturn, 1)]
theorem mj_e54 : mj_b 54 = mj_b 54 := rfl
set_option maxRecDepth 100000 in
theorem mj_d54 : mj_k54.all (fun q => decide (decode (mj_b 54) q.1 = .ok (q.2.1, q.2.2))) = true := dq_all (by decide +kernel)
/-- FriarLists$Lists.keyOf(I)I -/
def mj_k55 : List (Nat × Instr × Nat) := [(0, .iconst 0, 1), (1, .istore_n 2, 1), (2, .iconst 0, 1), (3, .istore_n 3, 1), (4, .ldc 127, 2), (6, .istore 4, 2), (8, .iload_n 1, 1), (9, .istore 5, 2), (11, .iconst 0, 1), (12, .istore 6, 2), (14, .iload 6, 2), (16, .bipush 6, 2), (18, .if_icmp .ge 78, 3), (21, .iload 4, 2), (23, .ifCond .le 73, 3), (26, .iload 5, 2), (28, .iload 4, 2), (30, .idiv, 1), (31, .istore 7, 2), (33, .iload 5, 2), (35, .iload 4, 2), (37, .irem, 1), (38, .istore 5, 2), (40, .iload 4, 2), (42, .bipush 27, 2), (44, .idiv, 1), (45, .istore 4, 2), (47, .iload 7, 2), (49, .ifCond .ne 7, 3), (52, .iconst 0, 1), (53, .goto 13, 3), (56, .aload_n 0, 1), (57, .getfield 39, 3), (60, .iload 7, 2), (62, .iconst 0, 1), (63, .invokevirtual 105, 3), (66, .istore 8, 2), (68, .iload 8, 2), (70, .ifCond .eq 17, 3), (73, .iload 8, 2), (75, .iload_n 3, 1), (76, .if_icmp .eq 11, 3), (79, .iload_n 2, 1), (80, .bipush 10, 2), (82, .imul, 1), (83, .iload 8, 2), (85, .iadd, 1), (86, .istore_n 2, 1), (87, .iload 8, 2), (89, .istore_n 3, 1), (90, .iinc 6 1, 3), (93, .goto (-79), 3), (96, .iload_n 2, 1), (97, .ireturn, 1)]
theorem mj_e55 : mj_b 55 = mj_b 55 := rfl
set_option maxRecDepth 100000 in
theorem mj_d55 : mj_k55.all (fun q => decide (decode (mj_b 55) q.1 = .ok (q.2.1, q.2.2))) = true := dq_all (by decide +kernel)
/-- FriarLists.meant(II)I -/
def mj_k56 : List (Nat × Instr × Nat) := [(0, .iload_n 1, 1), (1, .invokestatic 77, 3), (4, .ifCond .eq 10, 3), (7, .iload_n 2, 1), (8, .invokestatic 151, 3), (11, .ifCond .ne 5, 3), (14, .iconst (-1), 1), (15, .ireturn, 1), (16, .aload_n 0, 1), (17, .getfield 10, 3), (20, .iload_n 1, 1), (21, .iload_n 2, 1), (22, .invokevirtual 154, 3), (25, .ireturn, 1)]
theorem mj_e56 : mj_b 56 = mj_b 56 := rfl
set_option maxRecDepth 100000 in
theorem mj_d56 : mj_k56.all (fun q => decide (decode (mj_b 56) q.1 = .ok (q.2.1, q.2.2))) = true := dq_all (by decide +kernel)
/-- FriarLists.isParishOrAny(I)Z -/
def mj_k57 : List (Nat × Instr × Nat) := [(0, .iload_n 0, 1), (1, .iconst (-1), 1), (2, .iconst 5, 1), (3, .invokestatic 66, 3), (6, .ireturn, 1)]
theorem mj_e57 : mj_b 57 = mj_b 57 := rfl
set_option maxRecDepth 100000 in
theorem mj_d57 : mj_k57.all (fun q => decide (decode (mj_b 57) q.1 = .ok (q.2.1, q.2.2))) = true := dq_all (by decide +kernel)
/-- FriarLists$Lists.alike(II)I -/
def mj_k58 : List (Nat × Instr × Nat) := [(0, .aload_n 0, 1), (1, .iload_n 1, 1), (2, .invokevirtual 128, 3), (5, .istore_n 3, 1), (6, .iconst 0, 1), (7, .istore 4, 2), (9, .iconst 0, 1), (10, .istore 5, 2), (12, .iload 5, 2), (14, .aload_n 0, 1), (15, .getfield 23, 3), (18, .getfield 98, 3), (21, .if_icmp .ge 67, 3), (24, .iload_n 2, 1), (25, .iconst (-1), 1), (26, .if_icmp .eq 17, 3), (29, .aload_n 0, 1), (30, .getfield 23, 3), (33, .iload 5, 2), (35, .iconst 1, 1), (36, .invokevirtual 105, 3), (39, .iload_n 2, 1), (40, .if_icmp .ne 7, 3), (43, .iconst 1, 1), (44, .goto 4, 3), (47, .iconst 0, 1), (48, .istore 6, 2), (50, .iload 6, 2), (52, .ifCond .eq 30, 3), (55, .aload_n 0, 1), (56, .aload_n 0, 1), (57, .getfield 23, 3), (60, .iload 5, 2), (62, .iconst 0, 1), (63, .invokevirtual 105, 3), (66, .invokevirtual 128, 3), (69, .iload_n 3, 1), (70, .if_icmp .ne 12, 3), (73, .iload 4, 2), (75, .iconst 1, 1), (76, .iload 5, 2), (78, .ishl, 1), (79, .ior, 1), (80, .istore 4, 2), (82, .iinc 5 1, 3), (85, .goto (-73), 3), (88, .iload 4, 2), (90, .ireturn, 1)]
theorem mj_e58 : mj_b 58 = mj_b 58 := rfl
set_option maxRecDepth 100000 in
theorem mj_d58 : mj_k58.all (fun q => decide (decode (mj_b 58) q.1 = .ok (q.2.1, q.2.2))) = true := dq_all (by decide +kernel)
/-- FriarLists.question(II)I -/
def mj_k59 : List (Nat × Instr × Nat) := [(0, .iload_n 1, 1), (1, .invokestatic 77, 3), (4, .ifCond .eq 10, 3), (7, .iload_n 2, 1), (8, .invokestatic 151, 3), (11, .ifCond .ne 5, 3), (14, .iconst (-1), 1), (15, .ireturn, 1), (16, .aload_n 0, 1), (17, .getfield 10, 3), (20, .iload_n 1, 1), (21, .iload_n 2, 1), (22, .invokevirtual 154, 3), (25, .istore_n 3, 1), (26, .iload_n 3, 1), (27, .invokestatic 157, 3), (30, .iconst 2, 1), (31, .if_icmp .ge 6, 3), (34, .bipush (-3), 2), (36, .ireturn, 1), (37, .aload_n 0, 1), (38, .getfield 10, 3), (41, .iload_n 3, 1), (42, .invokevirtual 162, 3), (45, .ireturn, 1)]
theorem mj_e59 : mj_b 59 = mj_b 59 := rfl
set_option maxRecDepth 100000 in
theorem mj_d59 : mj_k59.all (fun q => decide (decode (mj_b 59) q.1 = .ok (q.2.1, q.2.2))) = true := dq_all (by decide +kernel)
/-- java/lang/Integer.bitCount(I)I -/
def mj_k60 : List (Nat × Instr × Nat) := [(0, .iload_n 0, 1), (1, .iload_n 0, 1), (2, .iconst 1, 1), (3, .iushr, 1), (4, .ldc_w 265, 3), (7, .iand, 1), (8, .isub, 1), (9, .istore_n 0, 1), (10, .iload_n 0, 1), (11, .ldc_w 266, 3), (14, .iand, 1), (15, .iload_n 0, 1), (16, .iconst 2, 1), (17, .iushr, 1), (18, .ldc_w 266, 3), (21, .iand, 1), (22, .iadd, 1), (23, .istore_n 0, 1), (24, .iload_n 0, 1), (25, .iload_n 0, 1), (26, .iconst 4, 1), (27, .iushr, 1), (28, .iadd, 1), (29, .ldc_w 267, 3), (32, .iand, 1), (33, .istore_n 0, 1), (34, .iload_n 0, 1), (35, .iload_n 0, 1), (36, .bipush 8, 2), (38, .iushr, 1), (39, .iadd, 1), (40, .istore_n 0, 1), (41, .iload_n 0, 1), (42, .iload_n 0, 1), (43, .bipush 16, 2), (45, .iushr, 1), (46, .iadd, 1), (47, .istore_n 0, 1), (48, .iload_n 0, 1), (49, .bipush 63, 2), (51, .iand, 1), (52, .ireturn, 1)]
theorem mj_e60 : mj_b 60 = mj_b 60 := rfl
set_option maxRecDepth 100000 in
theorem mj_d60 : mj_k60.all (fun q => decide (decode (mj_b 60) q.1 = .ok (q.2.1, q.2.2))) = true := dq_all (by decide +kernel)
/-- FriarLists$Lists.bestQuestion(I)I -/
def mj_k61 : List (Nat × Instr × Nat) := [(0, .iconst 0, 1), (1, .istore_n 2, 1), (2, .aload_n 0, 1), (3, .iload_n 1, 1), (4, .iconst 0, 1), (5, .invokevirtual 131, 3), (8, .istore_n 3, 1), (9, .iconst 1, 1), (10, .istore 4, 2), (12, .iload 4, 2), (14, .iconst 4, 1), (15, .if_icmp .ge 33, 3), (18, .aload_n 0, 1), (19, .iload_n 1, 1), (20, .iload 4, 2), (22, .invokevirtual 131, 3), (25, .istore 5, 2), (27, .iload 5, 2), (29, .iload_n 3, 1), (30, .if_icmp .lt 6, 3), (33, .goto 9, 3), (36, .iload 4, 2), (38, .istore_n 2, 1), (39, .iload 5, 2), (41, .istore_n 3, 1), (42, .iinc 4 1, 3), (45, .goto (-33), 3), (48, .iload_n 2, 1), (49, .ireturn, 1)]
theorem mj_e61 : mj_b 61 = mj_b 61 := rfl
set_option maxRecDepth 100000 in
theorem mj_d61 : mj_k61.all (fun q => decide (decode (mj_b 61) q.1 = .ok (q.2.1, q.2.2))) = true := dq_all (by decide +kernel)
/-- FriarLists$Lists.greatestGroup(II)I -/
def mj_k62 : List (Nat × Instr × Nat) := [(0, .iconst 0, 1), (1, .istore_n 3, 1), (2, .iconst 0, 1), (3, .istore 4, 2), (5, .iload 4, 2), (7, .aload_n 0, 1), (8, .getfield 23, 3), (11, .getfield 98, 3), (14, .if_icmp .ge 32, 3), (17, .iload_n 1, 1), (18, .iload 4, 2), (20, .ishr, 1), (21, .iconst 1, 1), (22, .iand, 1), (23, .iconst 1, 1), (24, .if_icmp .ne 16, 3), (27, .iload_n 3, 1), (28, .aload_n 0, 1), (29, .iload 4, 2), (31, .iload_n 1, 1), (32, .iload_n 2, 1), (33, .invokevirtual 134, 3), (36, .invokestatic 137, 3), (39, .istore_n 3, 1), (40, .iinc 4 1, 3), (43, .goto (-38), 3), (46, .iload_n 3, 1), (47, .ireturn, 1)]
theorem mj_e62 : mj_b 62 = mj_b 62 := rfl
set_option maxRecDepth 100000 in
theorem mj_d62 : mj_k62.all (fun q => decide (decode (mj_b 62) q.1 = .ok (q.2.1, q.2.2))) = true := dq_all (by decide +kernel)
/-- FriarLists$Lists.groupOf(III)I -/
def mj_k63 : List (Nat × Instr × Nat) := [(0, .iconst 0, 1), (1, .istore 4, 2), (3, .iconst 0, 1), (4, .istore 5, 2), (6, .iload 5, 2), (8, .aload_n 0, 1), (9, .getfield 23, 3), (12, .getfield 98, 3), (15, .if_icmp .ge 38, 3), (18, .iload_n 2, 1), (19, .iload 5, 2), (21, .ishr, 1), (22, .iconst 1, 1), (23, .iand, 1), (24, .iconst 1, 1), (25, .if_icmp .ne 22, 3), (28, .aload_n 0, 1), (29, .iload_n 3, 1), (30, .iload 5, 2), (32, .invokevirtual 142, 3), (35, .aload_n 0, 1), (36, .iload_n 3, 1), (37, .iload_n 1, 1), (38, .invokevirtual 142, 3), (41, .if_icmp .ne 6, 3), (44, .iinc 4 1, 3), (47, .iinc 5 1, 3), (50, .goto (-44), 3), (53, .iload 4, 2), (55, .ireturn, 1)]
theorem mj_e63 : mj_b 63 = mj_b 63 := rfl
set_option maxRecDepth 100000 in
theorem mj_d63 : mj_k63.all (fun q => decide (decode (mj_b 63) q.1 = .ok (q.2.1, q.2.2))) = true := dq_all (by decide +kernel)
/-- FriarLists$Lists.answerTo(II)I -/
def mj_k64 : List (Nat × Instr × Nat) := [(0, .iload_n 1, 1), (1, .tableswitch 57 0 2 #[27, 37, 47], 27), (28, .aload_n 0, 1), (29, .getfield 23, 3), (32, .iload_n 2, 1), (33, .iconst 1, 1), (34, .invokevirtual 105, 3), (37, .ireturn, 1), (38, .aload_n 0, 1), (39, .getfield 23, 3), (42, .iload_n 2, 1), (43, .iconst 2, 1), (44, .invokevirtual 105, 3), (47, .ireturn, 1), (48, .aload_n 0, 1), (49, .getfield 23, 3), (52, .iload_n 2, 1), (53, .iconst 3, 1), (54, .invokevirtual 105, 3), (57, .ireturn, 1), (58, .aload_n 0, 1), (59, .iload_n 2, 1), (60, .invokevirtual 145, 3), (63, .bipush 10, 2), (65, .idiv, 1), (66, .ireturn, 1)]
theorem mj_e64 : mj_b 64 = mj_b 64 := rfl
set_option maxRecDepth 100000 in
theorem mj_d64 : mj_k64.all (fun q => decide (decode (mj_b 64) q.1 = .ok (q.2.1, q.2.2))) = true := dq_all (by decide +kernel)
/-- FriarLists.alms(II)I -/
def mj_k65 : List (Nat × Instr × Nat) := [(0, .iload_n 1, 1), (1, .invokestatic 165, 3), (4, .ifCond .eq 13, 3), (7, .iload_n 2, 1), (8, .iconst 1, 1), (9, .bipush 99, 2), (11, .invokestatic 66, 3), (14, .ifCond .ne 5, 3), (17, .iconst (-1), 1), (18, .ireturn, 1), (19, .aload_n 0, 1), (20, .getfield 10, 3), (23, .getfield 168, 3), (26, .invokevirtual 87, 3), (29, .ifCond .eq 6, 3), (32, .bipush (-2), 2), (34, .ireturn, 1), (35, .aload_n 0, 1), (36, .getfield 10, 3), (39, .getfield 168, 3), (42, .aload_n 0, 1), (43, .getfield 10, 3), (46, .getfield 168, 3), (49, .invokevirtual 129, 3), (52, .iconst 0, 1), (53, .iload_n 2, 1), (54, .invokevirtual 62, 3), (57, .aload_n 0, 1), (58, .getfield 10, 3), (61, .getfield 171, 3), (64, .iload_n 1, 1), (65, .iconst 0, 1), (66, .aload_n 0, 1), (67, .getfield 10, 3), (70, .getfield 171, 3), (73, .iload_n 1, 1), (74, .iconst 0, 1), (75, .invokevirtual 105, 3), (78, .iload_n 2, 1), (79, .iadd, 1), (80, .invokevirtual 62, 3), (83, .aload_n 0, 1), (84, .getfield 10, 3), (87, .getfield 168, 3), (90, .getfield 174, 3), (93, .ireturn, 1)]
theorem mj_e65 : mj_b 65 = mj_b 65 := rfl
set_option maxRecDepth 100000 in
theorem mj_d65 : mj_k65.all (fun q => decide (decode (mj_b 65) q.1 = .ok (q.2.1, q.2.2))) = true := dq_all (by decide +kernel)
/-- FriarLists.isParish(I)Z -/
def mj_k66 : List (Nat × Instr × Nat) := [(0, .iload_n 0, 1), (1, .iconst 0, 1), (2, .iconst 5, 1), (3, .invokestatic 66, 3), (6, .ireturn, 1)]
theorem mj_e66 : mj_b 66 = mj_b 66 := rfl
set_option maxRecDepth 100000 in
theorem mj_d66 : mj_k66.all (fun q => decide (decode (mj_b 66) q.1 = .ok (q.2.1, q.2.2))) = true := dq_all (by decide +kernel)
/-- FriarLists.openBox(III)I -/
def mj_k67 : List (Nat × Instr × Nat) := [(0, .iload_n 1, 1), (1, .invokestatic 165, 3), (4, .ifCond .eq 24, 3), (7, .iload_n 2, 1), (8, .iconst 0, 1), (9, .bipush 7, 2), (11, .invokestatic 66, 3), (14, .ifCond .eq 14, 3), (17, .iload_n 3, 1), (18, .iconst 0, 1), (19, .sipush 9999, 3), (22, .invokestatic 66, 3), (25, .ifCond .ne 5, 3), (28, .iconst (-1), 1), (29, .ireturn, 1), (30, .aload_n 0, 1), (31, .getfield 10, 3), (34, .getfield 177, 3), (37, .invokevirtual 87, 3), (40, .ifCond .eq 6, 3), (43, .bipush (-2), 2), (45, .ireturn, 1), (46, .aload_n 0, 1), (47, .getfield 10, 3), (50, .iload_n 1, 1), (51, .iload_n 2, 1), (52, .iload_n 3, 1), (53, .invokevirtual 180, 3), (56, .ireturn, 1)]
theorem mj_e67 : mj_b 67 = mj_b 67 := rfl
set_option maxRecDepth 100000 in
theorem mj_d67 : mj_k67.all (fun q => decide (decode (mj_b 67) q.1 = .ok (q.2.1, q.2.2))) = true := dq_all (by decide +kernel)
/-- FriarLists$Lists.addOpening(III)I -/
def mj_k68 : List (Nat × Instr × Nat) := [(0, .aload_n 0, 1), (1, .getfield 48, 3), (4, .invokevirtual 116, 3), (7, .istore 4, 2), (9, .aload_n 0, 1), (10, .getfield 48, 3), (13, .iload 4, 2), (15, .iconst 0, 1), (16, .iload_n 1, 1), (17, .invokevirtual 78, 3), (20, .aload_n 0, 1), (21, .getfield 48, 3), (24, .iload 4, 2), (26, .iconst 1, 1), (27, .iload_n 2, 1), (28, .invokevirtual 78, 3), (31, .aload_n 0, 1), (32, .getfield 48, 3), (35, .iload 4, 2), (37, .iconst 2, 1), (38, .aload_n 0, 1), (39, .getfield 42, 3), (42, .iload_n 1, 1), (43, .iconst 0, 1), (44, .invokevirtual 105, 3), (47, .iload_n 3, 1), (48, .isub, 1), (49, .invokevirtual 78, 3), (52, .aload_n 0, 1), (53, .getfield 48, 3), (56, .iload 4, 2), (58, .iconst 3, 1), (59, .aload_n 0, 1), (60, .getfield 42, 3), (63, .iload_n 1, 1), (64, .iconst 1, 1), (65, .invokevirtual 105, 3), (68, .invokevirtual 78, 3), (71, .aload_n 0, 1), (72, .getfield 42, 3), (75, .iload_n 1, 1), (76, .iconst 0, 1), (77, .iconst 0, 1), (78, .invokevirtual 78, 3), (81, .aload_n 0, 1), (82, .getfield 42, 3), (85, .iload_n 1, 1), (86, .iconst 1, 1), (87, .aload_n 0, 1), (88, .getfield 9, 3), (91, .invokevirtual 78, 3), (94, .aload_n 0, 1), (95, .dup, 1), (96, .getfield 15, 3), (99, .iload_n 3, 1), (100, .iadd, 1), (101, .putfield 15, 3), (104, .iload 4, 2), (106, .ireturn, 1)]
theorem mj_e68 : mj_b 68 = mj_b 68 := rfl
set_option maxRecDepth 100000 in
theorem mj_d68 : mj_k68.all (fun q => decide (decode (mj_b 68) q.1 = .ok (q.2.1, q.2.2))) = true := dq_all (by decide +kernel)
/-- FriarLists.lack(I)I -/
def mj_k69 : List (Nat × Instr × Nat) := [(0, .aload_n 0, 1), (1, .getfield 10, 3), (4, .getfield 177, 3), (7, .iload_n 1, 1), (8, .invokevirtual 95, 3), (11, .ifCond .ne 5, 3), (14, .iconst (-1), 1), (15, .ireturn, 1), (16, .aload_n 0, 1), (17, .getfield 10, 3), (20, .getfield 177, 3), (23, .iload_n 1, 1), (24, .iconst 2, 1), (25, .invokevirtual 105, 3), (28, .sipush 10000, 3), (31, .iadd, 1), (32, .ireturn, 1)]
theorem mj_e69 : mj_b 69 = mj_b 69 := rfl
set_option maxRecDepth 100000 in
theorem mj_d69 : mj_k69.all (fun q => decide (decode (mj_b 69) q.1 = .ok (q.2.1, q.2.2))) = true := dq_all (by decide +kernel)
/-- FriarLists.shortSince(I)I -/
def mj_k70 : List (Nat × Instr × Nat) := [(0, .iload_n 1, 1), (1, .invokestatic 165, 3), (4, .ifCond .ne 5, 3), (7, .iconst (-1), 1), (8, .ireturn, 1), (9, .aload_n 0, 1), (10, .getfield 10, 3), (13, .iload_n 1, 1), (14, .invokevirtual 183, 3), (17, .ireturn, 1)]
theorem mj_e70 : mj_b 70 = mj_b 70 := rfl
set_option maxRecDepth 100000 in
theorem mj_d70 : mj_k70.all (fun q => decide (decode (mj_b 70) q.1 = .ok (q.2.1, q.2.2))) = true := dq_all (by decide +kernel)
/-- FriarLists$Lists.weekOfFirstLack(I)I -/
def mj_k71 : List (Nat × Instr × Nat) := [(0, .iconst 0, 1), (1, .istore_n 2, 1), (2, .iload_n 2, 1), (3, .aload_n 0, 1), (4, .getfield 48, 3), (7, .getfield 98, 3), (10, .if_icmp .ge 54, 3), (13, .aload_n 0, 1), (14, .getfield 48, 3), (17, .iload_n 2, 1), (18, .iconst 0, 1), (19, .invokevirtual 105, 3), (22, .iload_n 1, 1), (23, .if_icmp .ne 7, 3), (26, .iconst 1, 1), (27, .goto 4, 3), (30, .iconst 0, 1), (31, .istore_n 3, 1), (32, .iload_n 3, 1), (33, .ifCond .eq 25, 3), (36, .aload_n 0, 1), (37, .getfield 48, 3), (40, .iload_n 2, 1), (41, .iconst 2, 1), (42, .invokevirtual 105, 3), (45, .ifCond .le 13, 3), (48, .aload_n 0, 1), (49, .getfield 48, 3), (52, .iload_n 2, 1), (53, .iconst 3, 1), (54, .invokevirtual 105, 3), (57, .ireturn, 1), (58, .iinc 2 1, 3), (61, .goto (-59), 3), (64, .bipush (-3), 2), (66, .ireturn, 1)]
theorem mj_e71 : mj_b 71 = mj_b 71 := rfl
set_option maxRecDepth 100000 in
theorem mj_d71 : mj_k71.all (fun q => decide (decode (mj_b 71) q.1 = .ok (q.2.1, q.2.2))) = true := dq_all (by decide +kernel)
/-- FriarLists.legacy(I)I -/
def mj_k72 : List (Nat × Instr × Nat) := [(0, .iload_n 1, 1), (1, .iconst 1, 1), (2, .sipush 9999, 3), (5, .invokestatic 66, 3), (8, .ifCond .ne 5, 3), (11, .iconst (-1), 1), (12, .ireturn, 1), (13, .aload_n 0, 1), (14, .getfield 10, 3), (17, .getfield 186, 3), (20, .invokevirtual 87, 3), (23, .ifCond .eq 6, 3), (26, .bipush (-2), 2), (28, .ireturn, 1), (29, .aload_n 0, 1), (30, .getfield 10, 3), (33, .getfield 186, 3), (36, .invokevirtual 129, 3), (39, .istore_n 2, 1), (40, .aload_n 0, 1), (41, .getfield 10, 3), (44, .getfield 186, 3), (47, .iload_n 2, 1), (48, .iconst 0, 1), (49, .iload_n 1, 1), (50, .invokevirtual 62, 3), (53, .aload_n 0, 1), (54, .getfield 10, 3), (57, .getfield 186, 3), (60, .iload_n 2, 1), (61, .iconst 1, 1), (62, .iload_n 1, 1), (63, .invokevirtual 62, 3), (66, .iload_n 2, 1), (67, .ireturn, 1)]
theorem mj_e72 : mj_b 72 = mj_b 72 := rfl
set_option maxRecDepth 100000 in
theorem mj_d72 : mj_k72.all (fun q => decide (decode (mj_b 72) q.1 = .ok (q.2.1, q.2.2))) = true := dq_all (by decide +kernel)
/-- FriarLists.legacyOf(II)I -/
def mj_k73 : List (Nat × Instr × Nat) := [(0, .aload_n 0, 1), (1, .getfield 10, 3), (4, .getfield 186, 3), (7, .iload_n 1, 1), (8, .invokevirtual 95, 3), (11, .ifCond .eq 12, 3), (14, .iload_n 2, 1), (15, .iconst 0, 1), (16, .iconst 2, 1), (17, .invokestatic 66, 3), (20, .ifCond .ne 5, 3), (23, .iconst (-1), 1), (24, .ireturn, 1), (25, .iload_n 2, 1), (26, .iconst 2, 1), (27, .if_icmp .ne 14, 3), (30, .aload_n 0, 1), (31, .getfield 10, 3), (34, .iload_n 1, 1), (35, .invokevirtual 189, 3), (38, .goto 15, 3), (41, .aload_n 0, 1), (42, .getfield 10, 3), (45, .getfield 186, 3), (48, .iload_n 1, 1), (49, .iload_n 2, 1), (50, .invokevirtual 105, 3), (53, .ireturn, 1)]
theorem mj_e73 : mj_b 73 = mj_b 73 := rfl
set_option maxRecDepth 100000 in
theorem mj_d73 : mj_k73.all (fun q => decide (decode (mj_b 73) q.1 = .ok (q.2.1, q.2.2))) = true := dq_all (by decide +kernel)
/-- FriarLists$Lists.amissOf(I)I -/
def mj_k74 : List (Nat × Instr × Nat) := [(0, .iconst 0, 1), (1, .istore_n 2, 1), (2, .iconst 0, 1), (3, .istore_n 3, 1), (4, .iload_n 3, 1), (5, .aload_n 0, 1), (6, .getfield 23, 3), (9, .getfield 98, 3), (12, .if_icmp .ge 49, 3), (15, .aload_n 0, 1), (16, .getfield 23, 3), (19, .iload_n 3, 1), (20, .bipush 11, 2), (22, .invokevirtual 105, 3), (25, .iload_n 1, 1), (26, .if_icmp .ne 29, 3), (29, .aload_n 0, 1), (30, .iload_n 1, 1), (31, .iload_n 3, 1), (32, .aload_n 0, 1), (33, .getfield 9, 3), (36, .invokevirtual 148, 3), (39, .ifCond .ne 16, 3), (42, .iload_n 2, 1), (43, .aload_n 0, 1), (44, .getfield 23, 3), (47, .iload_n 3, 1), (48, .bipush 10, 2), (50, .invokevirtual 105, 3), (53, .iadd, 1), (54, .istore_n 2, 1), (55, .iinc 3 1, 3), (58, .goto (-54), 3), (61, .iload_n 2, 1), (62, .ireturn, 1)]
theorem mj_e74 : mj_b 74 = mj_b 74 := rfl
set_option maxRecDepth 100000 in
theorem mj_d74 : mj_k74.all (fun q => decide (decode (mj_b 74) q.1 = .ok (q.2.1, q.2.2))) = true := dq_all (by decide +kernel)
/-- FriarLists$Lists.mayBuy(III)Z -/
def mj_k75 : List (Nat × Instr × Nat) := [(0, .aload_n 0, 1), (1, .iload_n 3, 1), (2, .invokevirtual 156, 3), (5, .istore 4, 2), (7, .aload_n 0, 1), (8, .iload 4, 2), (10, .invokevirtual 159, 3), (13, .istore 5, 2), (15, .iload 5, 2), (17, .aload_n 0, 1), (18, .iload 4, 2), (20, .invokevirtual 162, 3), (23, .if_icmp .ge 58, 3), (26, .aload_n 0, 1), (27, .getfield 57, 3), (30, .iload 5, 2), (32, .iconst 0, 1), (33, .invokevirtual 105, 3), (36, .iconst 2, 1), (37, .if_icmp .ne 21, 3), (40, .aload_n 0, 1), (41, .getfield 57, 3), (44, .iload 5, 2), (46, .iconst 1, 1), (47, .invokevirtual 105, 3), (50, .iload_n 1, 1), (51, .if_icmp .ne 7, 3), (54, .iconst 1, 1), (55, .goto 4, 3), (58, .iconst 0, 1), (59, .istore 6, 2), (61, .iload 6, 2), (63, .ifCond .eq 12, 3), (66, .aload_n 0, 1), (67, .iload 5, 2), (69, .iload_n 2, 1), (70, .iload_n 3, 1), (71, .invokevirtual 165, 3), (74, .ireturn, 1), (75, .iinc 5 1, 3), (78, .goto (-63), 3), (81, .iconst 1, 1), (82, .ireturn, 1)]
theorem mj_e75 : mj_b 75 = mj_b 75 := rfl
set_option maxRecDepth 100000 in
theorem mj_d75 : mj_k75.all (fun q => decide (decode (mj_b 75) q.1 = .ok (q.2.1, q.2.2))) = true := dq_all (by decide +kernel)
/-- FriarLists$Lists.rulesOf(I)I -/
def mj_k76 : List (Nat × Instr × Nat) := [(0, .iconst (-1), 1), (1, .istore_n 2, 1), (2, .iconst 0, 1), (3, .istore_n 3, 1), (4, .iload_n 3, 1), (5, .aload_n 0, 1), (6, .getfield 54, 3), (9, .getfield 98, 3), (12, .if_icmp .ge 24, 3), (15, .aload_n 0, 1), (16, .getfield 54, 3), (19, .iload_n 3, 1), (20, .iconst 0, 1), (21, .invokevirtual 105, 3), (24, .iload_n 1, 1), (25, .if_icmp .gt 5, 3), (28, .iload_n 3, 1), (29, .istore_n 2, 1), (30, .iinc 3 1, 3), (33, .goto (-29), 3), (36, .iload_n 2, 1), (37, .ireturn, 1)]
theorem mj_e76 : mj_b 76 = mj_b 76 := rfl
set_option maxRecDepth 100000 in
theorem mj_d76 : mj_k76.all (fun q => decide (decode (mj_b 76) q.1 = .ok (q.2.1, q.2.2))) = true := dq_all (by decide +kernel)
/-- FriarLists$Lists.firstLine(I)I -/
def mj_k77 : List (Nat × Instr × Nat) := [(0, .iload_n 1, 1), (1, .ifCond .ge 7, 3), (4, .iconst 0, 1), (5, .goto 7, 3), (8, .iload_n 1, 1), (9, .bipush 9, 2), (11, .imul, 1), (12, .ireturn, 1)]
theorem mj_e77 : mj_b 77 = mj_b 77 := rfl
set_option maxRecDepth 100000 in
theorem mj_d77 : mj_k77.all (fun q => decide (decode (mj_b 77) q.1 = .ok (q.2.1, q.2.2))) = true := dq_all (by decide +kernel)
/-- FriarLists$Lists.endOfLines(I)I -/
def mj_k78 : List (Nat × Instr × Nat) := [(0, .iload_n 1, 1), (1, .ifCond .ge 7, 3), (4, .iconst 0, 1), (5, .goto 17, 3), (8, .iload_n 1, 1), (9, .bipush 9, 2), (11, .imul, 1), (12, .aload_n 0, 1), (13, .getfield 54, 3), (16, .iload_n 1, 1), (17, .iconst 1, 1), (18, .invokevirtual 105, 3), (21, .iadd, 1), (22, .ireturn, 1)]
theorem mj_e78 : mj_b 78 = mj_b 78 := rfl
set_option maxRecDepth 100000 in
theorem mj_d78 : mj_k78.all (fun q => decide (decode (mj_b 78) q.1 = .ok (q.2.1, q.2.2))) = true := dq_all (by decide +kernel)
/-- FriarLists$Lists.holds(III)Z -/
def mj_k79 : List (Nat × Instr × Nat) := [(0, .iconst 1, 1), (1, .istore 4, 2), (3, .aload_n 0, 1), (4, .getfield 57, 3), (7, .iload_n 1, 1), (8, .iconst 2, 1), (9, .invokevirtual 105, 3), (12, .istore 5, 2), (14, .iload 5, 2), (16, .aload_n 0, 1), (17, .getfield 57, 3), (20, .iload_n 1, 1), (21, .iconst 3, 1), (22, .invokevirtual 105, 3), (25, .if_icmp .ge 128, 3), (28, .aload_n 0, 1), (29, .getfield 60, 3), (32, .iload 5, 2), (34, .iconst 0, 1), (35, .invokevirtual 105, 3), (38, .istore 6, 2), (40, .iload 4, 2), (42, .iconst 1, 1), (43, .iand, 1), (44, .istore 7, 2), (46, .iload 4, 2), (48, .iconst 1, 1), (49, .iushr, 1), (50, .istore 8, 2), (52, .iload 6, 2), (54, .bipush 15, 2), (56, .iand, 1), (57, .tableswitch 67 8 10 #[27, 36, 57], 27), (84, .iload 4, 2), (86, .iconst 1, 1), (87, .ixor, 1), (88, .istore 4, 2), (90, .goto 57, 3), (93, .iload 7, 2), (95, .iconst 1, 1), (96, .if_icmp .ne 8, 3), (99, .iload 8, 2), (101, .goto 8, 3), (104, .iload 8, 2), (106, .bipush (-2), 2), (108, .iand, 1), (109, .istore 4, 2), (111, .goto 36, 3), (114, .iload 8, 2), (116, .iload 7, 2), (118, .ior, 1), (119, .istore 4, 2), (121, .goto 26, 3), (124, .iload 4, 2), (126, .iconst 1, 1), (127, .ishl, 1), (128, .aload_n 0, 1), (129, .iload 6, 2), (131, .iload_n 2, 1), (132, .iload_n 3, 1), (133, .invokevirtual 173, 3), (136, .ifCond .eq 7, 3), (139, .iconst 1, 1), (140, .goto 4, 3), (143, .iconst 0, 1), (144, .ior, 1), (145, .istore 4, 2), (147, .iinc 5 1, 3), (150, .goto (-136), 3), (153, .iload 4, 2), (155, .iconst 1, 1), (156, .iand, 1), (157, .iconst 1, 1), (158, .if_icmp .ne 7, 3), (161, .iconst 1, 1), (162, .goto 4, 3), (165, .iconst 0, 1), (166, .ireturn, 1)]
theorem mj_e79 : mj_b 79 = mj_b 79 := rfl
set_option maxRecDepth 100000 in
theorem mj_d79 : mj_k79.all (fun q => decide (decode (mj_b 79) q.1 = .ok (q.2.1, q.2.2))) = true := dq_all (by decide +kernel)
/-- FriarLists$Lists.isTrue(III)Z -/
def mj_k80 : List (Nat × Instr × Nat) := [(0, .iload_n 1, 1), (1, .bipush 15, 2), (3, .iand, 1), (4, .istore 4, 2), (6, .iload 4, 2), (8, .bipush 6, 2), (10, .if_icmp .ne 31, 3), (13, .aload_n 0, 1), (14, .iload_n 2, 1), (15, .invokevirtual 112, 3), (18, .ifCond .eq 21, 3), (21, .aload_n 0, 1), (22, .getfield 23, 3), (25, .iload_n 2, 1), (26, .bipush 7, 2), (28, .invokevirtual 105, 3), (31, .iload_n 3, 1), (32, .if_icmp .gt 7, 3), (35, .iconst 1, 1), (36, .goto 4, 3), (39, .iconst 0, 1), (40, .ireturn, 1), (41, .iload 4, 2), (43, .bipush 7, 2), (45, .if_icmp .ne 23, 3), (48, .aload_n 0, 1), (49, .getfield 23, 3), (52, .iload_n 2, 1), (53, .bipush 8, 2), (55, .invokevirtual 105, 3), (58, .iconst 1, 1), (59, .if_icmp .ne 7, 3), (62, .iconst 1, 1), (63, .goto 4, 3), (66, .iconst 0, 1), (67, .ireturn, 1), (68, .aload_n 0, 1), (69, .iload 4, 2), (71, .iload_n 2, 1), (72, .iload_n 3, 1), (73, .invokevirtual 119, 3), (76, .istore 5, 2), (78, .iload_n 1, 1), (79, .bipush 6, 2), (81, .ishr, 1), (82, .istore 6, 2), (84, .iload_n 1, 1), (85, .iconst 4, 1), (86, .ishr, 1), (87, .iconst 3, 1), (88, .iand, 1), (89, .lookupswitch 53 #[(0, 27), (1, 40)], 27), (116, .iload 5, 2), (118, .iload 6, 2), (120, .if_icmp .ge 7, 3), (123, .iconst 1, 1), (124, .goto 4, 3), (127, .iconst 0, 1), (128, .ireturn, 1), (129, .iload 5, 2), (131, .iload 6, 2), (133, .if_icmp .ne 7, 3), (136, .iconst 1, 1), (137, .goto 4, 3), (140, .iconst 0, 1), (141, .ireturn, 1), (142, .iload 5, 2), (144, .iload 6, 2), (146, .if_icmp .le 7, 3), (149, .iconst 1, 1), (150, .goto 4, 3), (153, .iconst 0, 1), (154, .ireturn, 1)]
theorem mj_e80 : mj_b 80 = mj_b 80 := rfl
set_option maxRecDepth 100000 in
theorem mj_d80 : mj_k80.all (fun q => decide (decode (mj_b 80) q.1 = .ok (q.2.1, q.2.2))) = true := dq_all (by decide +kernel)
/-- FriarLists.feed(JI)I -/
def mj_k81 : List (Nat × Instr × Nat) := [(0, .iload_n 3, 1), (1, .iconst 1, 1), (2, .bipush 8, 2), (4, .invokestatic 66, 3), (7, .ifCond .ne 5, 3), (10, .iconst (-1), 1), (11, .ireturn, 1), (12, .aload_n 0, 1), (13, .getfield 26, 3), (16, .getfield 192, 3), (19, .iload_n 3, 1), (20, .iadd, 1), (21, .sipush 250, 3), (24, .if_icmp .le 6, 3), (27, .bipush (-2), 2), (29, .ireturn, 1), (30, .iconst 0, 1), (31, .istore 4, 2), (33, .iload 4, 2), (35, .iload_n 3, 1), (36, .if_icmp .ge 28, 3), (39, .aload_n 0, 1), (40, .getfield 26, 3), (43, .lload_n 1, 1), (44, .bipush 8, 2), (46, .iload 4, 2), (48, .imul, 1), (49, .lushr, 1), (50, .ldc2_w 195, 3), (53, .land, 1), (54, .l2i, 1), (55, .invokevirtual 197, 3), (58, .iinc 4 1, 3), (61, .goto (-28), 3), (64, .aload_n 0, 1), (65, .getfield 26, 3), (68, .getfield 192, 3), (71, .ireturn, 1)]
theorem mj_e81 : mj_b 81 = mj_b 81 := rfl
set_option maxRecDepth 100000 in
theorem mj_d81 : mj_k81.all (fun q => decide (decode (mj_b 81) q.1 = .ok (q.2.1, q.2.2))) = true := dq_all (by decide +kernel)
/-- FriarLists$TextReader.takes(I)V -/
def mj_k82 : List (Nat × Instr × Nat) := [(0, .aload_n 0, 1), (1, .getfield 15, 3), (4, .ifCond .lt 15, 3), (7, .aload_n 0, 1), (8, .getfield 15, 3), (11, .aload_n 0, 1), (12, .getfield 9, 3), (15, .arraylength, 1), (16, .if_icmp .lt 4, 3), (19, .return_, 1), (20, .aload_n 0, 1), (21, .getfield 9, 3), (24, .aload_n 0, 1), (25, .getfield 15, 3), (28, .iload_n 1, 1), (29, .iastore, 1), (30, .aload_n 0, 1), (31, .dup, 1), (32, .getfield 15, 3), (35, .iconst 1, 1), (36, .iadd, 1), (37, .putfield 15, 3), (40, .return_, 1)]
theorem mj_e82 : mj_b 82 = mj_b 82 := rfl
set_option maxRecDepth 100000 in
theorem mj_d82 : mj_k82.all (fun q => decide (decode (mj_b 82) q.1 = .ok (q.2.1, q.2.2))) = true := dq_all (by decide +kernel)
/-- FriarLists.read()I -/
def mj_k83 : List (Nat × Instr × Nat) := [(0, .aload_n 0, 1), (1, .getfield 26, 3), (4, .invokevirtual 201, 3), (7, .istore_n 1, 1), (8, .aload_n 0, 1), (9, .getfield 26, 3), (12, .iconst 0, 1), (13, .putfield 192, 3), (16, .iload_n 1, 1), (17, .ifCond .ne 14, 3), (20, .bipush (-100), 2), (22, .aload_n 0, 1), (23, .getfield 26, 3), (26, .getfield 204, 3), (29, .isub, 1), (30, .ireturn, 1), (31, .aload_n 0, 1), (32, .getfield 10, 3), (35, .getfield 207, 3), (38, .invokevirtual 87, 3), (41, .ifCond .eq 6, 3), (44, .bipush (-2), 2), (46, .ireturn, 1), (47, .aload_n 0, 1), (48, .getfield 10, 3), (51, .aload_n 0, 1), (52, .getfield 26, 3), (55, .invokevirtual 210, 3), (58, .ireturn, 1)]
theorem mj_e83 : mj_b 83 = mj_b 83 := rfl
set_option maxRecDepth 100000 in
theorem mj_d83 : mj_k83.all (fun q => decide (decode (mj_b 83) q.1 = .ok (q.2.1, q.2.2))) = true := dq_all (by decide +kernel)
/-- FriarLists$TextReader.readsText()Z -/
def mj_k84 : List (Nat × Instr × Nat) := [(0, .aload_n 0, 1), (1, .getfield 24, 3), (4, .invokevirtual 37, 3), (7, .aload_n 0, 1), (8, .getfield 28, 3), (11, .invokevirtual 37, 3), (14, .aload_n 0, 1), (15, .iconst 0, 1), (16, .putfield 34, 3), (19, .aload_n 0, 1), (20, .invokevirtual 40, 3), (23, .iconst 0, 1), (24, .istore_n 1, 1), (25, .iload_n 1, 1), (26, .bipush 9, 2), (28, .if_icmp .ge 29, 3), (31, .aload_n 0, 1), (32, .getfield 31, 3), (35, .aload_n 0, 1), (36, .getfield 15, 3), (39, .if_icmp .ge 18, 3), (42, .aload_n 0, 1), (43, .invokevirtual 43, 3), (46, .ifCond .ne 5, 3), (49, .iconst 0, 1), (50, .ireturn, 1), (51, .iinc 1 1, 3), (54, .goto (-29), 3), (57, .aload_n 0, 1), (58, .getfield 31, 3), (61, .aload_n 0, 1), (62, .getfield 15, 3), (65, .if_icmp .lt 7, 3), (68, .iconst 1, 1), (69, .goto 4, 3), (72, .iconst 0, 1), (73, .ireturn, 1)]
theorem mj_e84 : mj_b 84 = mj_b 84 := rfl
set_option maxRecDepth 100000 in
theorem mj_d84 : mj_k84.all (fun q => decide (decode (mj_b 84) q.1 = .ok (q.2.1, q.2.2))) = true := dq_all (by decide +kernel)
/-- FriarLists$Table.clear()V -/
def mj_k85 : List (Nat × Instr × Nat) := [(0, .aload_n 0, 1), (1, .iconst 0, 1), (2, .putfield 7, 3), (5, .return_, 1)]
theorem mj_e85 : mj_b 85 = mj_b 85 := rfl
set_option maxRecDepth 100000 in
theorem mj_d85 : mj_k85.all (fun q => decide (decode (mj_b 85) q.1 = .ok (q.2.1, q.2.2))) = true := dq_all (by decide +kernel)
/-- FriarLists$TextReader.lookOn()V -/
def mj_k86 : List (Nat × Instr × Nat) := [(0, .aload_n 0, 1), (1, .getfield 15, 3), (4, .aload_n 0, 1), (5, .getfield 9, 3), (8, .arraylength, 1), (9, .invokestatic 47, 3), (12, .istore_n 1, 1), (13, .aload_n 0, 1), (14, .aload_n 0, 1), (15, .getfield 34, 3), (18, .iconst 0, 1), (19, .invokestatic 53, 3), (22, .putfield 31, 3), (25, .aload_n 0, 1), (26, .getfield 31, 3), (29, .iload_n 1, 1), (30, .if_icmp .ge 30, 3), (33, .aload_n 0, 1), (34, .getfield 9, 3), (37, .aload_n 0, 1), (38, .getfield 31, 3), (41, .iaload, 1), (42, .bipush 32, 2), (44, .if_icmp .ne 16, 3), (47, .aload_n 0, 1), (48, .dup, 1), (49, .getfield 31, 3), (52, .iconst 1, 1), (53, .iadd, 1), (54, .putfield 31, 3), (57, .goto (-32), 3), (60, .aload_n 0, 1), (61, .aload_n 0, 1), (62, .getfield 31, 3), (65, .putfield 34, 3), (68, .aload_n 0, 1), (69, .getfield 31, 3), (72, .iload_n 1, 1), (73, .if_icmp .lt 4, 3), (76, .return_, 1), (77, .aload_n 0, 1), (78, .getfield 9, 3), (81, .aload_n 0, 1), (82, .getfield 31, 3), (85, .iaload, 1), (86, .istore_n 2, 1), (87, .aload_n 0, 1), (88, .dup, 1), (89, .getfield 34, 3), (92, .iconst 1, 1), (93, .iadd, 1), (94, .putfield 34, 3), (97, .iload_n 2, 1), (98, .bipush 97, 2), (100, .if_icmp .lt 13, 3), (103, .iload_n 2, 1), (104, .bipush 122, 2), (106, .if_icmp .gt 7, 3), (109, .iconst 1, 1), (110, .goto 4, 3), (113, .iconst 0, 1), (114, .istore_n 3, 1), (115, .iload_n 2, 1), (116, .bipush 48, 2), (118, .if_icmp .lt 13, 3), (121, .iload_n 2, 1), (122, .bipush 57, 2), (124, .if_icmp .gt 7, 3), (127, .iconst 1, 1), (128, .goto 4, 3), (131, .iconst 0, 1), (132, .istore 4, 2), (134, .iload_n 3, 1), (135, .ifCond .ne 9, 3), (138, .iload 4, 2), (140, .ifCond .ne 4, 3), (143, .return_, 1), (144, .iload_n 3, 1), (145, .ifCond .eq 8, 3), (148, .bipush 97, 2), (150, .goto 5, 3), (153, .bipush 48, 2), (155, .istore 5, 2), (157, .iload_n 3, 1), (158, .ifCond .eq 8, 3), (161, .bipush 122, 2), (163, .goto 5, 3), (166, .bipush 57, 2), (168, .istore 6, 2), (170, .aload_n 0, 1), (171, .getfield 34, 3), (174, .iload_n 1, 1), (175, .if_icmp .ge 44, 3), (178, .aload_n 0, 1), (179, .getfield 9, 3), (182, .aload_n 0, 1), (183, .getfield 34, 3), (186, .iaload, 1), (187, .iload 5, 2), (189, .if_icmp .lt 30, 3), (192, .aload_n 0, 1), (193, .getfield 9, 3), (196, .aload_n 0, 1), (197, .getfield 34, 3), (200, .iaload, 1), (201, .iload 6, 2), (203, .if_icmp .gt 16, 3), (206, .aload_n 0, 1), (207, .dup, 1), (208, .getfield 34, 3), (211, .iconst 1, 1), (212, .iadd, 1), (213, .putfield 34, 3), (216, .goto (-46), 3), (219, .return_, 1)]
theorem mj_e86 : mj_b 86 = mj_b 86 := rfl
set_option maxRecDepth 100000 in
theorem mj_d86 : mj_k86.all (fun q => decide (decode (mj_b 86) q.1 = .ok (q.2.1, q.2.2))) = true := dq_all (by decide +kernel)
