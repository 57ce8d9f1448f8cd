/-! THE TEXTS, the component: conditions -/
section
set_option maxRecDepth 100000
theorem kf_0 : hp_chk gV0 1000 22 95 (0, [], [], [], [(0, .inr (0, 75))], []) [] [(3, [], [], [(0, .inr (0, 75))], [.inr (1, 12), .inr (0, 75)], [], [], mMU)] = true := by decide +kernel
theorem kf_s0 : hp_chk gV0 1000 22 95 (6, [], [], [], [(0, .inr (0, 75))], [.inl (ae_k 1)]) [] [(89, [], [], [(0, .inr (0, 75)), (1, .inl (ae_k 0))], [.inr (1, 18), .inr (0, 75)], [], [], mMU)] = true := by decide +kernel
theorem kf_n0 : hp_chk gV0 1000 22 95 (6, [], [], [], [(0, .inr (0, 75))], [.inl (ae_k 0)]) [] [(16, [], [], [(0, .inr (0, 75))], [.inr (1, 13), .inr (0, 75)], [], [], mMU)] = true := by decide +kernel
theorem kf_s1 : hp_chk gV0 1000 22 95 (19, [], [], [], [(0, .inr (0, 75))], [.inl (ae_k 1)]) [] [(89, [], [], [(0, .inr (0, 75)), (1, .inl (ae_k 1))], [.inr (1, 18), .inr (0, 75)], [], [], mMU)] = true := by decide +kernel
theorem kf_n1 : hp_chk gV0 1000 22 95 (19, [], [], [], [(0, .inr (0, 75))], [.inl (ae_k 0)]) [] [(29, [], [], [(0, .inr (0, 75))], [.inr (1, 14), .inr (0, 75)], [], [], mMU)] = true := by decide +kernel
theorem kf_s2 : hp_chk gV0 1000 22 95 (32, [], [], [], [(0, .inr (0, 75))], [.inl (ae_k 1)]) [] [(89, [], [], [(0, .inr (0, 75)), (1, .inl (ae_k 2))], [.inr (1, 18), .inr (0, 75)], [], [], mMU)] = true := by decide +kernel
theorem kf_n2 : hp_chk gV0 1000 22 95 (32, [], [], [], [(0, .inr (0, 75))], [.inl (ae_k 0)]) [] [(42, [], [], [(0, .inr (0, 75))], [.inr (1, 15), .inr (0, 75)], [], [], mMU)] = true := by decide +kernel
theorem kf_s3 : hp_chk gV0 1000 22 95 (45, [], [], [], [(0, .inr (0, 75))], [.inl (ae_k 1)]) [] [(89, [], [], [(0, .inr (0, 75)), (1, .inl (ae_k 3))], [.inr (1, 18), .inr (0, 75)], [], [], mMU)] = true := by decide +kernel
theorem kf_n3 : hp_chk gV0 1000 22 95 (45, [], [], [], [(0, .inr (0, 75))], [.inl (ae_k 0)]) [] [(55, [], [], [(0, .inr (0, 75))], [.inr (1, 16), .inr (0, 75)], [], [], mMU)] = true := by decide +kernel
theorem kf_s4 : hp_chk gV0 1000 22 95 (58, [], [], [], [(0, .inr (0, 75))], [.inl (ae_k 1)]) [] [(89, [], [], [(0, .inr (0, 75)), (1, .inl (ae_k 4))], [.inr (1, 18), .inr (0, 75)], [], [], mMU)] = true := by decide +kernel
theorem kf_n4 : hp_chk gV0 1000 22 95 (58, [], [], [], [(0, .inr (0, 75))], [.inl (ae_k 0)]) [] [(68, [], [], [(0, .inr (0, 75))], [.inr (1, 17), .inr (0, 75)], [], [], mMU)] = true := by decide +kernel
theorem kf_s5 : hp_chk gV0 1000 22 95 (71, [], [], [], [(0, .inr (0, 75))], [.inl (ae_k 1)]) [] [(89, [], [], [(0, .inr (0, 75)), (1, .inl (ae_k 5))], [.inr (1, 18), .inr (0, 75)], [], [], mMU)] = true := by decide +kernel
theorem kf_n5 : hp_chk gV0 1000 22 95 (71, [], [], [], [(0, .inr (0, 75))], [.inl (ae_k 0)]) [] [(85, [], [], [], [.inl (ae_k (-1))], [], [], mMU)] = true := by decide +kernel
theorem kf_t0 : hp_chk gV0 1000 22 95 (92, [(0, 5)], [], [], [(0, .inr (0, 75)), (1, .inl (ae_s 0))], [.inl (ae_k 1)]) [] [(137, [(0, 5)], [], [(0, .inr (0, 75)), (1, .inl (ae_s 0)), (2, .inl (ae_k 0))], [.inl (ae_k 999), .inr (0, 75)], [], [], mMU)] = true := by decide +kernel
theorem kf_u0 : hp_chk gV0 1000 22 95 (92, [(0, 5)], [], [], [(0, .inr (0, 75)), (1, .inl (ae_s 0))], [.inl (ae_k 0)]) [] [(102, [(0, 5)], [], [(0, .inr (0, 75)), (1, .inl (ae_s 0))], [.inr (1, 19), .inr (0, 75)], [], [], mMU)] = true := by decide +kernel
theorem kf_t1 : hp_chk gV0 1000 22 95 (105, [(0, 5)], [], [], [(0, .inr (0, 75)), (1, .inl (ae_s 0))], [.inl (ae_k 1)]) [] [(137, [(0, 5)], [], [(0, .inr (0, 75)), (1, .inl (ae_s 0)), (2, .inl (ae_k 1))], [.inl (ae_k 999), .inr (0, 75)], [], [], mMU)] = true := by decide +kernel
theorem kf_u1 : hp_chk gV0 1000 22 95 (105, [(0, 5)], [], [], [(0, .inr (0, 75)), (1, .inl (ae_s 0))], [.inl (ae_k 0)]) [] [(115, [(0, 5)], [], [(0, .inr (0, 75)), (1, .inl (ae_s 0))], [.inr (1, 20), .inr (0, 75)], [], [], mMU)] = true := by decide +kernel
theorem kf_t2 : hp_chk gV0 1000 22 95 (118, [(0, 5)], [], [], [(0, .inr (0, 75)), (1, .inl (ae_s 0))], [.inl (ae_k 1)]) [] [(137, [(0, 5)], [], [(0, .inr (0, 75)), (1, .inl (ae_s 0)), (2, .inl (ae_k 2))], [.inl (ae_k 999), .inr (0, 75)], [], [], mMU)] = true := by decide +kernel
theorem kf_u2 : hp_chk gV0 1000 22 95 (118, [(0, 5)], [], [], [(0, .inr (0, 75)), (1, .inl (ae_s 0))], [.inl (ae_k 0)]) [] [(132, [(0, 5)], [], [], [.inl (ae_k (-1))], [], [], mMU)] = true := by decide +kernel
theorem kf_v0 : hp_chk gV0 1000 22 95 (140, [(0, 5), (0, 2)], [], [], [(0, .inr (0, 75)), (1, .inl (ae_s 0)), (2, .inl (ae_s 1))], [.inl (ae_k (-1))]) [] [(159, [(0, 5), (0, 2)], [], [], [.inl (ae_k (-1))], [], [], mMU)] = true := by decide +kernel
theorem kf_v1 : hp_chk gV0 1000 22 95 (140, [(0, 5), (0, 2), (0, 999)], [], [], [(0, .inr (0, 75)), (1, .inl (ae_s 0)), (2, .inl (ae_s 1))], [.inl (ae_s 2)]) [] [(149, [(0, 5), (0, 2), (0, 999)], [], [(0, .inr (0, 75)), (1, .inl (ae_s 0)), (2, .inl (ae_s 1)), (3, .inl (ae_s 2))], [], [], [], mMU)] = true := by decide +kernel
theorem ko_0 : ∀ g, g < 5 → hp_chk gV0 1000 (2 * g + 23) 94 (0, [(0, 4)], [], [], [(0, .inr (0, 75)), (1, .inl (ae_s 0))], []) [] [(4, [(0, 4)], [], [(0, .inr (0, 75)), (1, .inl (ae_s 0)), (2, .inl (ae_k 0)), (3, .inl (ae_k 0))], [], [], [], mMU)] = true := by decide +kernel
theorem ko_1 : ∀ g, g < 5 → hp_chk gV0 1000 (2 * g + 23) 94 (4, [(0, 4), (0, 1), (0, 249)], [], [], [(0, .inr (0, 75)), (1, .inl (ae_s 0)), (2, .inl (ae_s 1)), (3, .inl (ae_s 2))], []) [] [(14, [(0, 4), (0, 1), (0, 249)], [], [(0, .inr (0, 75)), (1, .inl (ae_s 0)), (2, .inl (ae_s 1)), (3, .inl (ae_s 2))], [.inr (1, 7), .inr (0, 75)], [], [], mMU)] = true := by decide +kernel
theorem ko_2 : ∀ g, g < 5 → hp_chk gV0 1000 (2 * g + 23) 94 (4, [(0, 4), (0, 1)], [], [], [(0, .inr (0, 75)), (1, .inl (ae_s 0)), (2, .inl (ae_s 1)), (3, .inl (ae_k 250))], []) [] [(39, [(0, 4), (0, 1)], [], [(0, .inr (0, 75)), (1, .inl (ae_s 0)), (2, .inl (ae_s 1))], [.inr (1, 8), .inr (0, 75)], [], [], mMU)] = true := by decide +kernel
theorem ko_3 : ∀ g, g < 5 → hp_chk gV0 1000 (2 * g + 23) 94 (17, [(0, 4), (0, 1), (0, 249)], [], [], [(0, .inr (0, 75)), (1, .inl (ae_s 0)), (2, .inl (ae_s 1)), (3, .inl (ae_s 2))], [.inl (ae_k 1)]) [] [(4, [(0, 4), (0, 1), (0, 249)], [], [(0, .inr (0, 75)), (1, .inl (ae_s 0)), (2, .inl (([(1, (-1))], 1))), (3, .inl (([(2, 1)], 1)))], [], [], [], mMU)] = true := by decide +kernel
theorem ko_4 : ∀ g, g < 5 → hp_chk gV0 1000 (2 * g + 23) 94 (17, [(0, 4), (0, 1)], [], [], [(0, .inr (0, 75)), (1, .inl (ae_s 0)), (2, .inl (ae_s 1))], [.inl (ae_k 0)]) [] [(39, [(0, 4), (0, 1)], [], [(0, .inr (0, 75)), (1, .inl (ae_s 0)), (2, .inl (ae_s 1))], [.inr (1, 8), .inr (0, 75)], [], [], mMU)] = true := by decide +kernel
theorem ko_5 : ∀ g, g < 5 → hp_chk gV0 1000 (2 * g + 23) 94 (42, [], [], [], [(0, .inr (0, 75)), (1, .inl (ae_k 4))], [.inl (ae_k 1)]) [] [(51, [], [], [], [.inl (ae_k 0)], [], [], mMU)] = true := by decide +kernel
theorem ko_6 : ∀ g, g < 5 → hp_chk gV0 1000 (2 * g + 23) 94 (42, [(0, 3), (0, 1)], [], [], [(0, .inr (0, 75)), (1, .inl (ae_s 0)), (2, .inl (ae_s 1))], [.inl (ae_k 1)]) [] [(53, [(0, 3), (0, 1)], [], [(0, .inr (0, 75)), (1, .inl (ae_s 0)), (2, .inl (ae_s 1))], [.inr (0, 75)], [], [], mMU)] = true := by decide +kernel
theorem ko_7 : ∀ g, g < 5 → hp_chk gV0 1000 (2 * g + 23) 94 (56, [(0, 3), (0, 1)], [], [], [(0, .inr (0, 75)), (1, .inl (ae_s 0)), (2, .inl (ae_s 1))], []) [] [(60, [(0, 3), (0, 1)], [], [(0, .inr (0, 75)), (1, .inl (ae_s 0)), (2, .inl (ae_s 1))], [.inl (([(0, 1)], 1)), .inr (0, 75)], [], [], mMU)] = true := by decide +kernel
theorem ko_8 : ∀ g, g < 5 → hp_chk gV0 1000 (2 * g + 23) 94 (63, [(0, 4), (0, 1)], [], [], [(0, .inr (0, 75)), (1, .inl (ae_s 0)), (2, .inl (ae_s 1))], [.inl (ae_k 1)]) [] [(69, [(0, 4), (0, 1)], [], [(0, .inr (0, 75)), (1, .inl (ae_s 0)), (2, .inl (ae_s 1))], [.inr (1, 9), .inr (0, 75)], [], [], mMU)] = true := by decide +kernel
theorem ko_9 : ∀ g, g < 5 → hp_chk gV0 1000 (2 * g + 23) 94 (63, [], [], [], [], [.inl (ae_k 0)]) [] [(76, [], [], [], [.inl (ae_k 0)], [], [], mMU)] = true := by decide +kernel
theorem ko_a : ∀ g, g < 5 → hp_chk gV0 1000 (2 * g + 23) 94 (72, [(0, 4), (0, 1)], [], [], [(0, .inr (0, 75)), (1, .inl (ae_s 0)), (2, .inl (ae_s 1))], [.inl (ae_k 1)]) [] [(121, [(0, 4), (0, 1)], [], [(0, .inr (0, 75)), (1, .inl (ae_s 0)), (2, .inl (ae_s 1))], [], [], [], mMU)] = true := by decide +kernel
theorem ko_b : ∀ g, g < 5 → hp_chk gV0 1000 (2 * g + 23) 94 (72, [], [], [], [], [.inl (ae_k 0)]) [] [(76, [], [], [], [.inl (ae_k 0)], [], [], mMU)] = true := by decide +kernel
theorem ko_c : ∀ g, g < 5 → hp_chk gV0 1000 (2 * g + 23) 94 (42, [(0, 4), (0, 1)], [], [], [(0, .inr (0, 75)), (1, .inl (ae_s 0)), (2, .inl (ae_s 1))], [.inl (ae_k 0)]) [] [(80, [(0, 4), (0, 1)], [], [(0, .inr (0, 75)), (1, .inl (ae_s 0)), (2, .inl (ae_s 1))], [.inr (1, 10), .inr (0, 75)], [], [], mMU)] = true := by decide +kernel
theorem ko_d : ∀ g, g < 5 → hp_chk gV0 1000 (2 * g + 23) 94 (83, [(0, 4), (0, 1)], [], [], [(0, .inr (0, 75)), (1, .inl (ae_s 0)), (2, .inl (ae_s 1))], [.inl (ae_k 1)]) [] [(118, [(0, 4), (0, 1)], [], [(0, .inr (0, 75)), (1, .inl (ae_s 0)), (2, .inl (ae_s 1))], [.inl (ae_k 6), .inr (0, 75)], [], [], mMU)] = true := by decide +kernel
theorem ko_e : ∀ g, g < 5 → hp_chk gV0 1000 (2 * g + 23) 94 (83, [(0, 4), (0, 1)], [], [], [(0, .inr (0, 75)), (1, .inl (ae_s 0)), (2, .inl (ae_s 1))], [.inl (ae_k 0)]) [] [(94, [(0, 4), (0, 1)], [], [(0, .inr (0, 75)), (1, .inl (ae_s 0)), (2, .inl (ae_s 1))], [.inr (1, 11), .inr (0, 75)], [], [], mMU)] = true := by decide +kernel
theorem ko_f : ∀ g, g < 5 → hp_chk gV0 1000 (2 * g + 23) 94 (97, [(0, 4), (0, 1)], [], [], [(0, .inr (0, 75)), (1, .inl (ae_s 0)), (2, .inl (ae_s 1))], [.inl (ae_k 1)]) [] [(118, [(0, 4), (0, 1)], [], [(0, .inr (0, 75)), (1, .inl (ae_s 0)), (2, .inl (ae_s 1))], [.inl (ae_k 7), .inr (0, 75)], [], [], mMU)] = true := by decide +kernel
theorem ko_g : ∀ g, g < 5 → hp_chk gV0 1000 (2 * g + 23) 94 (97, [(0, 4), (0, 1)], [], [], [(0, .inr (0, 75)), (1, .inl (ae_s 0)), (2, .inl (ae_s 1))], [.inl (ae_k 0)]) [] [(106, [(0, 4), (0, 1)], [], [(0, .inr (0, 75)), (1, .inl (ae_s 0)), (2, .inl (ae_s 1))], [.inr (0, 75)], [], [], mMU)] = true := by decide +kernel
theorem ko_h : ∀ g, g < 5 → hp_chk gV0 1000 (2 * g + 23) 94 (109, [(0, 4), (0, 1), (0, aI1)], [], [], [(0, .inr (0, 75)), (1, .inl (ae_s 0)), (2, .inl (ae_s 1))], [.inl (ae_s 2)]) [] [(118, [(0, 4), (0, 1), (0, aI1)], [], [(0, .inr (0, 75)), (1, .inl (ae_s 0)), (2, .inl (ae_s 1))], [.inl (ae_s 2), .inr (0, 75)], [], [], mMU)] = true := by decide +kernel
theorem ko_i : ∀ g, g < 5 → hp_chk gV0 1000 (2 * g + 23) 94 (109, [(aI0, (-1))], [], [], [], [.inl (ae_s 0)]) [] [(115, [(aI0, (-1))], [], [], [.inl (ae_k 0)], [], [], mMU)] = true := by decide +kernel
theorem ko_j : ∀ g, g < 5 → hp_chk gV0 1000 (2 * g + 23) 94 (121, [], [], [], [(0, .inr (0, 75)), (2, .inl (ae_k 0))], []) [] [(132, [], [], [], [.inl (ae_k 1)], [], [], mMU)] = true := by decide +kernel
theorem ko_k : ∀ g, g < 5 → hp_chk gV0 1000 (2 * g + 23) 94 (121, [], [], [], [(0, .inr (0, 75)), (2, .inl (ae_k 1))], []) [] [(128, [], [], [], [.inl (ae_k 8), .inr (0, 75)], [], [], mMU)] = true := by decide +kernel
theorem ko_l : ∀ g, g < 5 → hp_chk gV0 1000 (2 * g + 23) 94 (131, [], [], [], [], []) [] [(132, [], [], [], [.inl (ae_k 1)], [], [], mMU)] = true := by decide +kernel
theorem kd_0 : ∀ g, g < 5 → hp_chk gV0 1000 (2 * g + 24) 93 (0, [(0, 4)], [], [], [(0, .inr (0, 75)), (1, .inl (ae_s 0))], []) [] [(2, [(0, 4)], [], [(0, .inr (0, 75)), (1, .inl (ae_s 0)), (2, .inl (ae_k 0))], [], [], [], mMU)] = true := by decide +kernel
theorem kd_1 : ∀ g, g < 5 → hp_chk gV0 1000 (2 * g + 24) 93 (2, [(0, 4), (0, 249)], [], [], [(0, .inr (0, 75)), (1, .inl (ae_s 0)), (2, .inl (ae_s 1))], []) [] [(11, [(0, 4), (0, 249)], [], [(0, .inr (0, 75)), (1, .inl (ae_s 0)), (2, .inl (ae_s 1))], [.inl (ae_s 0), .inr (0, 75)], [], [], mMU)] = true := by decide +kernel
theorem kd_2 : ∀ g, g < 5 → hp_chk gV0 1000 (2 * g + 24) 93 (2, [], [], [], [(2, .inl (ae_k 250))], []) [] [(87, [], [], [], [.inl (ae_k 0)], [], [], mMU)] = true := by decide +kernel
theorem kd_3 : ∀ g, g < 5 → hp_chk gV0 1000 (2 * g + 24) 93 (14, [(0, 4), (0, 249)], [], [], [(0, .inr (0, 75)), (1, .inl (ae_s 0)), (2, .inl (ae_s 1))], [.inl (ae_k 1)]) [] [(21, [(0, 4), (0, 249)], [], [(0, .inr (0, 75)), (1, .inl (ae_s 0)), (2, .inl (ae_s 1)), (3, .inl (ae_k 0))], [], [], [], mMU)] = true := by decide +kernel
theorem kd_4 : ∀ g, g < 5 → hp_chk gV0 1000 (2 * g + 24) 93 (14, [], [], [], [], [.inl (ae_k 0)]) [] [(18, [], [], [], [.inl (ae_k 0)], [], [], mMU)] = true := by decide +kernel
theorem kd_5 : ∀ g, g < 5 → hp_chk gV0 1000 (2 * g + 24) 93 (21, [(0, 4), (0, 249), (0, 249)], [], [], [(0, .inr (0, 75)), (1, .inl (ae_s 0)), (2, .inl (ae_s 1)), (3, .inl (ae_s 2))], []) [] [(31, [(0, 4), (0, 249), (0, 249)], [], [(0, .inr (0, 75)), (1, .inl (ae_s 0)), (2, .inl (ae_s 1)), (3, .inl (ae_s 2))], [.inr (1, 21), .inr (0, 75)], [], [], mMU)] = true := by decide +kernel
theorem kd_6 : ∀ g, g < 5 → hp_chk gV0 1000 (2 * g + 24) 93 (21, [(0, 4), (0, 249)], [], [], [(0, .inr (0, 75)), (1, .inl (ae_s 0)), (2, .inl (ae_s 1)), (3, .inl (ae_k 250))], []) [] [(59, [(0, 4), (0, 249)], [], [(0, .inr (0, 75)), (1, .inl (ae_s 0)), (2, .inl (ae_s 1))], [], [], [], mMU)] = true := by decide +kernel
theorem kd_7 : ∀ g, g < 5 → hp_chk gV0 1000 (2 * g + 24) 93 (34, [(0, 4), (0, 249), (0, 249)], [], [], [(0, .inr (0, 75)), (1, .inl (ae_s 0)), (2, .inl (ae_s 1)), (3, .inl (ae_s 2))], [.inl (ae_k 1)]) [] [(39, [(0, 4), (0, 249), (0, 249)], [], [(0, .inr (0, 75)), (1, .inl (ae_s 0)), (2, .inl (ae_s 1)), (3, .inl (ae_s 2))], [.inl (ae_s 0), .inr (0, 75)], [], [], mMU)] = true := by decide +kernel
theorem kd_8 : ∀ g, g < 5 → hp_chk gV0 1000 (2 * g + 24) 93 (34, [(0, 4), (0, 249)], [], [], [(0, .inr (0, 75)), (1, .inl (ae_s 0)), (2, .inl (ae_s 1))], [.inl (ae_k 0)]) [] [(59, [(0, 4), (0, 249)], [], [(0, .inr (0, 75)), (1, .inl (ae_s 0)), (2, .inl (ae_s 1))], [], [], [], mMU)] = true := by decide +kernel
theorem kd_9 : ∀ g, g < 5 → hp_chk gV0 1000 (2 * g + 24) 93 (42, [(0, 4), (0, 249), (0, 249)], [], [], [(0, .inr (0, 75)), (1, .inl (ae_s 0)), (2, .inl (ae_s 1)), (3, .inl (ae_s 2))], [.inl (ae_k 1)]) [] [(50, [(0, 4), (0, 249), (0, 249)], [], [(0, .inr (0, 75)), (1, .inl (ae_s 0)), (2, .inl (ae_s 1)), (3, .inl (ae_s 2))], [.inl (ae_k 9), .inr (0, 75)], [], [], mMU)] = true := by decide +kernel
theorem kd_a : ∀ g, g < 5 → hp_chk gV0 1000 (2 * g + 24) 93 (42, [], [], [], [], [.inl (ae_k 0)]) [] [(46, [], [], [], [.inl (ae_k 0)], [], [], mMU)] = true := by decide +kernel
theorem kd_b : ∀ g, g < 5 → hp_chk gV0 1000 (2 * g + 24) 93 (53, [(0, 4), (0, 249), (0, 249)], [], [], [(0, .inr (0, 75)), (1, .inl (ae_s 0)), (2, .inl (ae_s 1)), (3, .inl (ae_s 2))], []) [] [(21, [(0, 4), (0, 249), (0, 249)], [], [(0, .inr (0, 75)), (1, .inl (ae_s 0)), (2, .inl (ae_s 1)), (3, .inl (([(2, 1)], 1)))], [], [], [], mMU)] = true := by decide +kernel
theorem kd_c : ∀ g, g < 5 → hp_chk gV0 1000 (2 * g + 24) 93 (59, [(0, 4)], [], [], [(0, .inr (0, 75)), (1, .inl (ae_s 0)), (2, .inl (ae_k 0))], []) [] [(72, [(0, 4)], [], [(0, .inr (0, 75)), (1, .inl (ae_s 0)), (2, .inl (ae_k 0))], [.inr (1, 22), .inr (0, 75)], [], [], mMU)] = true := by decide +kernel
theorem kd_d : ∀ g, g < 5 → hp_chk gV0 1000 (2 * g + 24) 93 (59, [(0, 4), (1, 249)], [], [], [(0, .inr (0, 75)), (1, .inl (ae_s 0)), (2, .inl (ae_s 1))], []) [] [(66, [(0, 4), (1, 249)], [], [(0, .inr (0, 75)), (1, .inl (ae_s 0)), (2, .inl (ae_s 1))], [.inl (ae_k 10), .inr (0, 75)], [], [], mMU)] = true := by decide +kernel
theorem kd_e : ∀ g, g < 5 → hp_chk gV0 1000 (2 * g + 24) 93 (69, [(0, 4), (0, 249)], [], [], [(0, .inr (0, 75)), (1, .inl (ae_s 0)), (2, .inl (ae_s 1))], []) [] [(72, [(0, 4), (0, 249)], [], [(0, .inr (0, 75)), (1, .inl (ae_s 0)), (2, .inl (ae_s 1))], [.inr (1, 22), .inr (0, 75)], [], [], mMU)] = true := by decide +kernel
theorem kd_f : ∀ g, g < 5 → hp_chk gV0 1000 (2 * g + 24) 93 (75, [(0, 4), (0, 249)], [], [], [(0, .inr (0, 75)), (1, .inl (ae_s 0)), (2, .inl (ae_s 1))], [.inl (ae_k 1)]) [] [(2, [(0, 4), (0, 249)], [], [(0, .inr (0, 75)), (1, .inl (ae_s 0)), (2, .inl (([(1, 1)], 1)))], [], [], [], mMU)] = true := by decide +kernel
theorem kd_g : ∀ g, g < 5 → hp_chk gV0 1000 (2 * g + 24) 93 (75, [], [], [], [], [.inl (ae_k 0)]) [] [(79, [], [], [], [.inl (ae_k 1)], [], [], mMU)] = true := by decide +kernel
def ka_I : aInst := ((96, [aF], [], [.inr (0, 75), .inl (ae_s 0)], [], [79, 80], 5, [([], [], none, [])]), [])
theorem ka_k : ak_inst (aG00 []) 100000 ka_I = true := by decide +kernel
theorem kf_dA : decode (mj_b 95) 149 = .ok (.iload_n 3, 1) := by decide +kernel
theorem kf_dB : decode (mj_b 95) 150 = .ok (.bipush 6, 2) := by decide +kernel
theorem kf_dC : decode (mj_b 95) 152 = .ok (.ishl, 1) := by decide +kernel
theorem kf_dD : decode (mj_b 95) 153 = .ok (.iload_n 2, 1) := by decide +kernel
theorem kf_dE : decode (mj_b 95) 154 = .ok (.iconst 4, 1) := by decide +kernel
theorem kf_dF : decode (mj_b 95) 155 = .ok (.ishl, 1) := by decide +kernel
theorem kf_dG : decode (mj_b 95) 156 = .ok (.ior, 1) := by decide +kernel
theorem kf_dH : decode (mj_b 95) 157 = .ok (.iload_n 1, 1) := by decide +kernel
theorem kf_dI : decode (mj_b 95) 158 = .ok (.ior, 1) := by decide +kernel
theorem kf_dJ : decode (mj_b 95) 159 = .ok (.ireturn, 1) := by decide +kernel
theorem kf_z6 : ∀ k, k < 1000 → 0 ≤ (Int32.ofNat k <<< ((Int8.ofInt 6).toInt32 &&& 31)).toInt := by decide +kernel
theorem kf_z4 : ∀ k, k < 3 → 0 ≤ (Int32.ofNat k <<< (Int32.ofInt 4 &&& 31)).toInt := by decide +kernel
theorem kf_rx : mj_rx 95 = some .int := by decide +kernel
end
section RT
variable {E : mj_E} {Q : Option Value → va_W → Prop} {al : List Nat} {w w0 w1 w2 : va_W} {T : Nat → Int} {n : Nat}
/-- calls, on with what comes of them -/
theorem kp_call (hf : E.2.2.2.1.category = 1) (hT : ∀ σ : List Int, aTb E σ aTabs) (H : kT w0 T n) (hv : kv E al w0 w) {i : Nat} {s : Nat} {ls : tLs} (hs : kS w T n s ls) {d y pc : Nat} {lv : List (Nat × av)} {rest : List av} (hi : i < 24) (hi1 : 1 ≤ i) (hy : y < mj_lawNo) (hd : 21 ≤ d)
    (hc : ak_callat gV0 (d + 1) y pc lv (.inr (1, i) :: .inr (0, 75) :: rest) ([], [], [], [], []) = some (90, [.inr (0, 75), .inr (1, i)], rest))
    (h1 : tw i T n s = true → ∀ w2, kv E al w0 w2 → kS w2 T n (tX T n s) ls → hG E al (d + 1) y (pc + 3) lv (.inl (ae_k 1) :: rest) [] w2 Q)
    (h0 : tw i T n s = false → hG E al (d + 1) y (pc + 3) lv (.inl (ae_k 0) :: rest) [] w Q) : hG E al (d + 1) y pc lv (.inr (1, i) :: .inr (0, 75) :: rest) [] w Q := by
  have HV : hOk E al gV0 (fun _ => True) := hOkV hf hT (fun _ _ _ _ h => h)
  refine hp_callV HV (d := d) (y2 := 90) (as := [.inr (0, 75), .inr (1, i)]) (rest := rest) (R := fun z w2 => (tw i T n s = true ∧ z.toInt = 1 ∧ kv E al w0 w2 ∧ hD [75] w w2 ∧ kS w2 T n (tX T n s) ls) ∨ (tw i T n s = false ∧ z.toInt = 0 ∧ w2 = w)) hy hc (hW.e (J := fun _ => True) hv.1 trivial) (fun AS hA => (kp_mj hf hT H hv hi hi1 hs hA).weaken hd (Nat.le_refl _) (Nat.le_refl _) (fun v w2 h => h)) (fun z w2 hR => ?_)
  rcases hR with ⟨e, hz, a, -, b⟩ | ⟨e, hz, rfl⟩
  · rw [hz]
    exact h1 e w2 a b
  · rw [hz]
    exact h0 e
theorem ki_call (hf : E.2.2.2.1.category = 1) (hT : ∀ σ : List Int, aTb E σ aTabs) (H : kT w0 T n) (hv : kv E al w0 w) {i : Nat} {s : Nat} {ls : tLs} (hs : kS w T n s ls) {d y pc : Nat} {lv : List (Nat × av)} {rest : List av} (hi : i < 24) (hi1 : 1 ≤ i) (hy : y < mj_lawNo) (hd : 20 ≤ d)
    (hc : ak_callat gV0 (d + 1) y pc lv (.inr (1, i) :: .inr (0, 75) :: rest) ([], [], [], [], []) = some (91, [.inr (0, 75), .inr (1, i)], rest))
    (h1 : tw i T n s = true → hG E al (d + 1) y (pc + 3) lv (.inl (ae_k 1) :: rest) [] w Q)
    (h0 : tw i T n s = false → hG E al (d + 1) y (pc + 3) lv (.inl (ae_k 0) :: rest) [] w Q) : hG E al (d + 1) y pc lv (.inr (1, i) :: .inr (0, 75) :: rest) [] w Q := by
  have HV : hOk E al gV0 (fun _ => True) := hOkV hf hT (fun _ _ _ _ h => h)
  refine hp_callV HV (d := d) (y2 := 91) (as := [.inr (0, 75), .inr (1, i)]) (rest := rest) (R := fun z w2 => z.toInt = (if tw i T n s = true then 1 else 0) ∧ w2 = w) hy hc (hW.e (J := fun _ => True) hv.1 trivial) (fun AS hA => (ki_mj hf hT H hv hi hi1 hs hA).weaken hd (Nat.le_refl _) (Nat.le_refl _) (fun v w2 h => h)) (fun z w2 hR => ?_)
  obtain ⟨hz, rfl⟩ := hR
  rw [hz]
  by_cases e : tw i T n s = true
  · rw [if_pos e]
    exact h1 e
  · rw [if_neg e]
    exact h0 (by simpa using e)
theorem kn_call (hf : E.2.2.2.1.category = 1) (hT : ∀ σ : List Int, aTb E σ aTabs) (H : kT w0 T n) (hv : kv E al w0 w) {g : Nat} {s : Nat} {ls : tLs} (hs : kS w T n s ls) {d y pc : Nat} {lv : List (Nat × av)} {rest : List av} (hg : g ≤ 999) (hy : y < mj_lawNo) (hd : 21 ≤ d)
    (hc : ak_callat gV0 (d + 1) y pc lv (.inl (ae_k (g : Int)) :: .inr (0, 75) :: rest) ([], [], [], [], []) = some (92, [.inr (0, 75), .inl (ae_k (g : Int))], rest))
    (h1 : tN g T n s ≠ -1 → ∀ w2, kv E al w0 w2 → kS w2 T n (tX T n s) ls → hG E al (d + 1) y (pc + 3) lv (.inl (ae_k (tN g T n s)) :: rest) [] w2 Q)
    (h0 : tN g T n s = -1 → hG E al (d + 1) y (pc + 3) lv (.inl (ae_k (-1)) :: rest) [] w Q) : hG E al (d + 1) y pc lv (.inl (ae_k (g : Int)) :: .inr (0, 75) :: rest) [] w Q := by
  have HV : hOk E al gV0 (fun _ => True) := hOkV hf hT (fun _ _ _ _ h => h)
  refine hp_callV HV (d := d) (y2 := 92) (as := [.inr (0, 75), .inl (ae_k (g : Int))]) (rest := rest) (R := fun z w2 => z.toInt = tN g T n s ∧ kv E al w0 w2 ∧ hD [75] w w2 ∧ (tN g T n s = -1 ∧ w2 = w ∨ tN g T n s ≠ -1 ∧ kS w2 T n (tX T n s) ls)) hy hc (hW.e (J := fun _ => True) hv.1 trivial) (fun AS hA => (kn_mj hf hT H hv hg hs hA).weaken hd (Nat.le_refl _) (Nat.le_refl _) (fun v w2 h => h)) (fun z w2 hR => ?_)
  obtain ⟨hz, a, -, b⟩ := hR
  rw [hz]
  rcases b with ⟨e, rfl⟩ | ⟨e, b⟩
  · rw [e]
    exact h0 e
  · exact h1 e w2 a b
theorem kl_call (hf : E.2.2.2.1.category = 1) (hT : ∀ σ : List Int, aTb E σ aTabs) (H : kT w0 T n) (hv : kv E al w0 w) {s : Nat} {ls : tLs} (hs : kS w T n s ls) {d y pc : Nat} {lv : List (Nat × av)} {rest : List av} (hy : y < mj_lawNo) (hd : 20 ≤ d)
    (hc : ak_callat gV0 (d + 1) y pc lv (.inr (0, 75) :: rest) ([], [], [], [], []) = some (86, [.inr (0, 75)], rest))
    (hk : ∀ w2, kv E al w0 w2 → kS w2 T n (tX T n s) ls → hG E al (d + 1) y (pc + 3) lv rest [] w2 Q) : hG E al (d + 1) y pc lv (.inr (0, 75) :: rest) [] w Q := by
  have HV : hOk E al gV0 (fun _ => True) := hOkV hf hT (fun _ _ _ _ h => h)
  have be := tE_le (T := T) hs.1
  refine hp_call HV (d := d) (y2 := 86) (as := [.inr (0, 75)]) (rest := rest) (R := fun w3 => kv E al w0 w3 ∧ hD [75] w w3 ∧ kS w3 T n (tX T n s) ls) hy hc (hW.e (J := fun _ => True) hv.1 trivial) (fun AS hA => (kl_mj hf hT H hv hs.2.1 be.2 hs.2.2.2.1 hA).weaken hd (Nat.le_refl _) (Nat.le_refl _) (fun v w3 h => ⟨h.1, h.2.1, h.2.2.1, hs.tok h.2.2.1 (tX_le hs.1).2 h.2.2.2.1 h.2.2.2.2.1 h.2.2.2.2.2⟩)) (fun w3 hR => ?_)
  exact hk w3 hR.1 hR.2.2
/-- addStep -/
theorem ka_mj (hf : E.2.2.2.1.category = 1) (hT : ∀ σ : List Int, aTb E σ aTabs) (hv : kv E al w0 w) {s : Nat} {ls : tLs} (hs : kS w T n s ls) {x : Int} {AS : List Value} (hA : gL E al [] [.inr (0, 75), .inl (ae_k x)] AS) :
    MJ E 20 0 0 (mj_in0 96 AS w) (fun v w2 => v = none ∧ kv E al w0 w2 ∧ kS w2 T n s ls) := by
  obtain ⟨a5, a6, a7, d⟩ := hv
  obtain ⟨v0, u0, rfl, g1, v1, u1, rfl, ⟨z, rfl, hz⟩, g2⟩ := hA
  have ez : z.toInt = x := hz.of_k
  refine (ai00L hf hT (cs := []) (fun c hc => by cases hc) (q := ka_I) (by decide) ka_k [x] _ w (hEv.ok (σ := [x]) (env := [aF]) ⟨by rw [← ez]; exact ⟨i32_lo z, i32_hi z⟩, trivial⟩) aFs.nil ⟨v0, _, rfl, g1, _, u1, rfl, ⟨z, rfl, by rw [ez]; exact aV.s rfl⟩, g2⟩ aHh.nil a5 a6 a7 20 (by decide)).weaken (Nat.le_refl _) (Nat.le_refl _) (Nat.le_refl _) (fun v w2 h => ?_)
  obtain ⟨cs, hcs, r, h1, h2, h3, h4, h5, h6, h7, h8, h9⟩ := h
  have hcs := List.mem_singleton.mp hcs
  subst hcs
  have dd : hD [79, 80] w w2 := ⟨h8, fun c hc => h9 c hc⟩
  exact ⟨h3, ⟨h5, h6, h7, d.trans (dd.more (by decide))⟩, hs.stp dd⟩
theorem ka_call (hf : E.2.2.2.1.category = 1) (hT : ∀ σ : List Int, aTb E σ aTabs) (hv : kv E al w0 w) {s : Nat} {ls : tLs} (hs : kS w T n s ls) {x : Int} {d y pc : Nat} {lv : List (Nat × av)} {rest : List av} (hy : y < mj_lawNo) (hd : 20 ≤ d)
    (hc : ak_callat gV0 (d + 1) y pc lv (.inl (ae_k x) :: .inr (0, 75) :: rest) ([], [], [], [], []) = some (96, [.inr (0, 75), .inl (ae_k x)], rest))
    (hk : ∀ w2, kv E al w0 w2 → kS w2 T n s ls → hG E al (d + 1) y (pc + 3) lv rest [] w2 Q) : hG E al (d + 1) y pc lv (.inl (ae_k x) :: .inr (0, 75) :: rest) [] w Q := by
  have HV : hOk E al gV0 (fun _ => True) := hOkV hf hT (fun _ _ _ _ h => h)
  refine hp_call HV (d := d) (y2 := 96) (as := [.inr (0, 75), .inl (ae_k x)]) (rest := rest) (R := fun w3 => kv E al w0 w3 ∧ kS w3 T n s ls) hy hc (hW.e (J := fun _ => True) hv.1 trivial) (fun AS hA => (ka_mj hf hT hv hs hA).weaken hd (Nat.le_refl _) (Nat.le_refl _) (fun v w3 h => h)) (fun w3 hR => ?_)
  exact hk w3 hR.1 hR.2
theorem kret {d y pc : Nat} {lv : List (Nat × av)} {b : Nat} (hb : b < 2) (hy : y < mj_lawNo) (hr : (mj_jmp y pc).map (·.2.1) = [.ireturn] ++ ((mj_jmp y pc).map (·.2.1)).drop 1) (hx : mj_rx y = some .boolean) (hq : ∀ z : Int32, z.toInt = (b : Int) → Q (some (.int z)) w) : hG E al d y pc lv [.inl (ae_k (b : Int))] [] w Q :=
  hp_retI (ty := .boolean) (x := (b : Int)) hy hr hx (aV.k _) (fun n hn => by
    rcases (by omega : b = 0 ∨ b = 1) with rfl | rfl
    · rw [show n = 0 from Int32.toInt_inj.mp (by rw [hn]; rfl)]; decide
    · rw [show n = 1 from Int32.toInt_inj.mp (by rw [hn]; rfl)]; decide) hq
theorem i32_or0 {a b : Int32} (ha : 0 ≤ a.toInt) (hb : 0 ≤ b.toInt) : 0 ≤ (a ||| b).toInt := by
  have h : ∀ {x : Int32}, 0 ≤ x.toInt → x.toBitVec.msb = false := fun {x} h => by
    rw [BitVec.msb_eq_toInt]
    exact decide_eq_false (by rw [Int32.toInt_toBitVec]; omega)
  show 0 ≤ (a.toBitVec ||| b.toBitVec).toInt
  exact BitVec.toInt_nonneg_of_msb_false (by rw [BitVec.msb_or, h ha, h hb]; rfl)
theorem n_ior {d y pc : Nat} {lx : List (Nat × Value)} {ST : List Value} {a b c : Int32} (hd : decode (mj_b y) pc = .ok (.ior, 1)) (hc : a ||| b = c) (h : nG E d y (pc + 1) lx (.int c :: ST) w Q) : nG E d y pc lx (.int b :: .int a :: ST) w Q := by
  subst hc
  exact n_nx hd (fun LV _ => ⟨rfl, a, b, ST, rfl, rfl⟩) h
/-- a fact, behind the shifts -/
theorem kf_end {f g v : Nat} (hv0 : v < 1000) (hg : g < 3) (hf5 : f < 6) (hQ : ∀ z : Int32, 0 ≤ z.toInt → Q (some (.int z)) w) : hG E al 22 95 149 [(0, .inr (0, 75)), (1, .inl (ae_k (f : Int))), (2, .inl (ae_k (g : Int))), (3, .inl (ae_k (v : Int)))] [] [] w Q := by
  intro LV ST h1 h2
  have h2 : ST = [] := h2
  subst h2
  obtain ⟨_, m1, x1, rfl, e1⟩ := h1 (1, .inl (ae_k (f : Int))) (by simp)
  obtain ⟨_, m2, x2, rfl, e2⟩ := h1 (2, .inl (ae_k (g : Int))) (by simp)
  obtain ⟨_, m3, x3, rfl, e3⟩ := h1 (3, .inl (ae_k (v : Int))) (by simp)
  have e1 : x1.toInt = (f : Int) := e1.of_k
  have e2 : x2.toInt = (g : Int) := e2.of_k
  have e3 : x3.toInt = (v : Int) := e3.of_k
  have ex : ∀ {x : Int32} {k : Nat}, x.toInt = (k : Int) → k < 1000 → x = Int32.ofNat k := fun {x k} h hk => Int32.toInt_inj.mp (by rw [h, Int32.toInt_ofNat_of_lt (by omega)])
  have p3 : 0 ≤ (x3 <<< ((Int8.ofInt 6).toInt32 &&& 31)).toInt := by rw [ex e3 hv0]; exact kf_z6 v hv0
  have p2 : 0 ≤ (x2 <<< (Int32.ofInt 4 &&& 31)).toInt := by rw [ex e2 (by omega)]; exact kf_z4 g hg
  refine (show nG E 22 95 149 [(1, Value.int x1), (2, .int x2), (3, .int x3)] [] w Q from ?_) LV (fun q hq => ?_)
  · refine n_iln (k := 3) (v := x3) kf_dA (List.mem_cons_of_mem _ (List.mem_cons_of_mem _ List.mem_cons_self)) (n_bi kf_dB rfl (n_ishl kf_dC rfl (n_iln (k := 2) (v := x2) kf_dD (List.mem_cons_of_mem _ List.mem_cons_self) (n_k kf_dE rfl (n_ishl kf_dF rfl (n_ior kf_dG rfl (n_iln (k := 1) (v := x1) kf_dH List.mem_cons_self (n_ior kf_dI rfl ?_))))))))
    exact n_reti (ty := .int) kf_dJ (by rw [(mj_li_use (by decide)).2, kf_rx]) rfl (hQ _ (i32_or0 (i32_or0 p3 p2) (by rw [e1]; omega)))
  · simp only [List.mem_cons, List.not_mem_nil, or_false] at hq
    rcases hq with rfl | rfl | rfl
    · exact m1
    · exact m2
    · exact m3
/-- what readsFact answers; s: where the operand begins -/
def kfQ (E : mj_E) (al : List Nat) (w0 : va_W) (T : Nat → Int) (n : Nat) (ls : tLs) (s : Nat) (v : Option Value) (w2 : va_W) : Prop := ∃ z : Int32, v = some (.int z) ∧ ∃ s2, kv E al w0 w2 ∧ kS w2 T n s2 ls ∧ ((0 ≤ z.toInt ∧ s < s2 ∧ ∀ o, run T n 5 o ls s = run T n 8 o ls s2) ∨ (z.toInt < 0 ∧ ∀ o, run T n 5 o ls s = ((s2 : Int), ls)))
/-- behind the fact -/
theorem kf_89 (hf : E.2.2.2.1.category = 1) (hT : ∀ σ : List Int, aTb E σ aTabs) (H : kT w0 T n) (hv : kv E al w0 w) {s s1 : Nat} {ls : tLs} (hs : kS w T n s1 ls) (hss : s < s1) (hr : ∀ o, run T n 5 o ls s = run T n 6 o ls s1) {f : Nat} (hf5 : f < 6) : hG E al 22 95 89 [(0, .inr (0, 75)), (1, .inl (ae_k (f : Int)))] [.inr (1, 18), .inr (0, 75)] [] w (kfQ E al w0 T n ls s) := by
  have hs1 := hs.1
  have num : ∀ (g : Nat) (w2 : va_W), g < 3 → kv E al w0 w2 → kS w2 T n (tX T n s1) ls → (∀ o, run T n 5 o ls s = run T n 7 o ls (tX T n s1)) → hG E al 22 95 137 [(0, .inr (0, 75)), (1, .inl (ae_k (f : Int))), (2, .inl (ae_k (g : Int)))] [.inl (ae_k ((999 : Nat) : Int)), .inr (0, 75)] [] w2 (kfQ E al w0 T n ls s) := by
    intro g w2 hg hv2 hs2 hr2
    have x1 := tX_le (T := T) hs1
    have x2 := tX_le (T := T) hs2.1
    refine kn_call hf hT H hv2 hs2 (d := 21) (by decide) (by decide) (by decide) (by rfl) (fun e w3 hv3 hs3 => ?_) (fun e => ?_)
    · have b := tN_b (T := T) (n := n) (s := tX T n s1) (g := ((999 : Nat) : Int)) (by decide)
      obtain ⟨v, ev⟩ : ∃ v : Nat, tN ((999 : Nat) : Int) T n (tX T n s1) = (v : Int) := ⟨(tN ((999 : Nat) : Int) T n (tX T n s1)).toNat, by omega⟩
      rw [ev] at b ⊢
      refine ky_go hf hT hv3.1 (by decide) (ρ := [(f : Int), (g : Int), (v : Int)]) kf_v1 ⟨⟨by omega, by omega⟩, ⟨by omega, by omega⟩, ⟨by omega, by omega⟩, trivial⟩ aFs.nil aHh.nil (by rfl) (by rfl) (lEr (lEi (ev_s rfl) (lEi (ev_s rfl) lE0))) (sEi (ev_s rfl) sE0) (lvk2 := [(0, .inr (0, 75)), (1, .inl (ae_k ((f : Int)))), (2, .inl (ae_k ((g : Int)))), (3, .inl (ae_k ((v : Int))))]) (lEr (lEi (ev_s rfl) (lEi (ev_s rfl) (lEi (ev_s rfl) lE0)))) (stk2 := []) sE0 ?_
      refine kf_end (by omega) hg hf5 (fun z hz => ⟨z, rfl, tX T n (tX T n s1), hv3, hs3, Or.inl ⟨hz, by omega, fun o => ?_⟩⟩)
      rw [hr2 o]
      exact run_go (q := (8, o, ls)) (by
        show (if tN 999 T n (tX T n s1) = -1 then none else some (8, o, ls)) = _
        exact if_neg (fun q => e q))
    · skip
      refine ky_go hf hT hv2.1 (by decide) (ρ := [(f : Int), (g : Int)]) kf_v0 ⟨⟨by omega, by omega⟩, ⟨by omega, by omega⟩, trivial⟩ aFs.nil aHh.nil (by rfl) (by rfl) (lEr (lEi (ev_s rfl) (lEi (ev_s rfl) lE0))) (sEi ae_ev_k sE0) (lvk2 := []) lE0 (stk2 := [.inl (ae_k ((-1)))]) (sEi ae_ev_k sE0) ?_
      refine hp_retI (pc := 159) (ty := .int) (x := -1) (by decide) (by decide +kernel) (by decide +kernel) (aV.k _) (fun n hn => rfl) (fun z hz => ⟨z, rfl, tX T n s1, hv2, hs2, Or.inr ⟨by omega, fun o => ?_⟩⟩)
      rw [hr2 o]
      exact run_no (by
        show (if tN 999 T n (tX T n s1) = -1 then none else some (8, o, ls)) = none
        exact if_pos e) (Or.inr (by decide))
  refine kp_call hf hT H hv hs (d := 21) (by decide) (by decide) (by decide) (by decide) (by rfl) (fun e0 w2 hv2 hs2 => ?_) (fun e0 => ?_)
  · skip
    refine ky_go hf hT hv2.1 (by decide) (ρ := [(f : Int)]) kf_t0 ⟨⟨by omega, by omega⟩, trivial⟩ aFs.nil aHh.nil (by rfl) (by rfl) (lEr (lEi (ev_s rfl) lE0)) (sEi ae_ev_k sE0) (lvk2 := [(0, .inr (0, 75)), (1, .inl (ae_k ((f : Int)))), (2, .inl (ae_k (0)))]) (lEr (lEi (ev_s rfl) (lEi ae_ev_k lE0))) (stk2 := [.inl (ae_k (999)), .inr (0, 75)]) (sEi ae_ev_k (sEr sE0)) ?_
    exact num 0 w2 (by decide) hv2 hs2 (fun o => by
      rw [hr o]
      exact run_go (q := (7, o, ls)) (by simp [tStep, e0]))
  refine ky_go hf hT hv.1 (by decide) (ρ := [(f : Int)]) kf_u0 ⟨⟨by omega, by omega⟩, trivial⟩ aFs.nil aHh.nil (by rfl) (by rfl) (lEr (lEi (ev_s rfl) lE0)) (sEi ae_ev_k sE0) (lvk2 := [(0, .inr (0, 75)), (1, .inl (ae_k ((f : Int))))]) (lEr (lEi (ev_s rfl) lE0)) (stk2 := [.inr (1, 19), .inr (0, 75)]) (sEr (sEr sE0)) ?_
  refine kp_call hf hT H hv hs (d := 21) (by decide) (by decide) (by decide) (by decide) (by rfl) (fun e1 w2 hv2 hs2 => ?_) (fun e1 => ?_)
  · skip
    refine ky_go hf hT hv2.1 (by decide) (ρ := [(f : Int)]) kf_t1 ⟨⟨by omega, by omega⟩, trivial⟩ aFs.nil aHh.nil (by rfl) (by rfl) (lEr (lEi (ev_s rfl) lE0)) (sEi ae_ev_k sE0) (lvk2 := [(0, .inr (0, 75)), (1, .inl (ae_k ((f : Int)))), (2, .inl (ae_k (1)))]) (lEr (lEi (ev_s rfl) (lEi ae_ev_k lE0))) (stk2 := [.inl (ae_k (999)), .inr (0, 75)]) (sEi ae_ev_k (sEr sE0)) ?_
    exact num 1 w2 (by decide) hv2 hs2 (fun o => by
      rw [hr o]
      exact run_go (q := (7, o, ls)) (by simp [tStep, e0, e1]))
  refine ky_go hf hT hv.1 (by decide) (ρ := [(f : Int)]) kf_u1 ⟨⟨by omega, by omega⟩, trivial⟩ aFs.nil aHh.nil (by rfl) (by rfl) (lEr (lEi (ev_s rfl) lE0)) (sEi ae_ev_k sE0) (lvk2 := [(0, .inr (0, 75)), (1, .inl (ae_k ((f : Int))))]) (lEr (lEi (ev_s rfl) lE0)) (stk2 := [.inr (1, 20), .inr (0, 75)]) (sEr (sEr sE0)) ?_
  refine kp_call hf hT H hv hs (d := 21) (by decide) (by decide) (by decide) (by decide) (by rfl) (fun e2 w2 hv2 hs2 => ?_) (fun e2 => ?_)
  · skip
    refine ky_go hf hT hv2.1 (by decide) (ρ := [(f : Int)]) kf_t2 ⟨⟨by omega, by omega⟩, trivial⟩ aFs.nil aHh.nil (by rfl) (by rfl) (lEr (lEi (ev_s rfl) lE0)) (sEi ae_ev_k sE0) (lvk2 := [(0, .inr (0, 75)), (1, .inl (ae_k ((f : Int)))), (2, .inl (ae_k (2)))]) (lEr (lEi (ev_s rfl) (lEi ae_ev_k lE0))) (stk2 := [.inl (ae_k (999)), .inr (0, 75)]) (sEi ae_ev_k (sEr sE0)) ?_
    exact num 2 w2 (by decide) hv2 hs2 (fun o => by
      rw [hr o]
      exact run_go (q := (7, o, ls)) (by simp [tStep, e0, e1, e2]))
  refine ky_go hf hT hv.1 (by decide) (ρ := [(f : Int)]) kf_u2 ⟨⟨by omega, by omega⟩, trivial⟩ aFs.nil aHh.nil (by rfl) (by rfl) (lEr (lEi (ev_s rfl) lE0)) (sEi ae_ev_k sE0) (lvk2 := []) lE0 (stk2 := [.inl (ae_k ((-1)))]) (sEi ae_ev_k sE0) ?_
  refine hp_retI (pc := 132) (ty := .int) (x := -1) (by decide) (by decide +kernel) (by decide +kernel) (aV.k _) (fun n hn => rfl) (fun z hz => ⟨z, rfl, s1, hv, hs, Or.inr ⟨by omega, fun o => ?_⟩⟩)
  rw [hr o]
  exact run_no (by simp [tStep, e0, e1, e2]) (Or.inr (by decide))
/-- readsFact -/
theorem kf_mj (hf : E.2.2.2.1.category = 1) (hT : ∀ σ : List Int, aTb E σ aTabs) (H : kT w0 T n) (hv : kv E al w0 w) {s : Nat} {ls : tLs} (hs : kS w T n s ls) (h7 : tw 7 T n s = false) (h8 : tw 8 T n s = false) (h10 : tw 10 T n s = false) (h11 : tw 11 T n s = false) {AS : List Value} (hA : gL E al [] [.inr (0, 75)] AS) : MJ E 22 0 0 (mj_in0 95 AS w) (kfQ E al w0 T n ls s) := by
  refine hG.in0 hf (d := 22) (as := [.inr (0, 75)]) ?_ hA
  show hG E al 22 95 0 [(0, .inr (0, 75))] [] [] w _
  refine ky_go hf hT hv.1 (by decide) (ρ := []) kf_0 trivial aFs.nil aHh.nil (by rfl) (by rfl) (lEr lE0) sE0 (lvk2 := [(0, .inr (0, 75))]) (lEr lE0) (stk2 := [.inr (1, 12), .inr (0, 75)]) (sEr (sEr sE0)) ?_
  refine kp_call hf hT H hv hs (d := 21) (by decide) (by decide) (by decide) (by decide) (by rfl) (fun e0 w2 hv2 hs2 => ?_) (fun e0 => ?_)
  · skip
    refine ky_go hf hT hv2.1 (by decide) (ρ := []) kf_s0 trivial aFs.nil aHh.nil (by rfl) (by rfl) (lEr lE0) (sEi ae_ev_k sE0) (lvk2 := [(0, .inr (0, 75)), (1, .inl (ae_k (0)))]) (lEr (lEi ae_ev_k lE0)) (stk2 := [.inr (1, 18), .inr (0, 75)]) (sEr (sEr sE0)) ?_
    exact kf_89 hf hT H hv2 hs2 (f := 0) (by have := tX_lt (T := T) (tw_lt e0); omega) (fun o => run_go (q := (6, o, ls)) (by simp [tStep, h7, h8, h10, h11, e0])) (by decide)
  refine ky_go hf hT hv.1 (by decide) (ρ := []) kf_n0 trivial aFs.nil aHh.nil (by rfl) (by rfl) (lEr lE0) (sEi ae_ev_k sE0) (lvk2 := [(0, .inr (0, 75))]) (lEr lE0) (stk2 := [.inr (1, 13), .inr (0, 75)]) (sEr (sEr sE0)) ?_
  refine kp_call hf hT H hv hs (d := 21) (by decide) (by decide) (by decide) (by decide) (by rfl) (fun e1 w2 hv2 hs2 => ?_) (fun e1 => ?_)
  · skip
    refine ky_go hf hT hv2.1 (by decide) (ρ := []) kf_s1 trivial aFs.nil aHh.nil (by rfl) (by rfl) (lEr lE0) (sEi ae_ev_k sE0) (lvk2 := [(0, .inr (0, 75)), (1, .inl (ae_k (1)))]) (lEr (lEi ae_ev_k lE0)) (stk2 := [.inr (1, 18), .inr (0, 75)]) (sEr (sEr sE0)) ?_
    exact kf_89 hf hT H hv2 hs2 (f := 1) (by have := tX_lt (T := T) (tw_lt e1); omega) (fun o => run_go (q := (6, o, ls)) (by simp [tStep, h7, h8, h10, h11, e0, e1])) (by decide)
  refine ky_go hf hT hv.1 (by decide) (ρ := []) kf_n1 trivial aFs.nil aHh.nil (by rfl) (by rfl) (lEr lE0) (sEi ae_ev_k sE0) (lvk2 := [(0, .inr (0, 75))]) (lEr lE0) (stk2 := [.inr (1, 14), .inr (0, 75)]) (sEr (sEr sE0)) ?_
  refine kp_call hf hT H hv hs (d := 21) (by decide) (by decide) (by decide) (by decide) (by rfl) (fun e2 w2 hv2 hs2 => ?_) (fun e2 => ?_)
  · skip
    refine ky_go hf hT hv2.1 (by decide) (ρ := []) kf_s2 trivial aFs.nil aHh.nil (by rfl) (by rfl) (lEr lE0) (sEi ae_ev_k sE0) (lvk2 := [(0, .inr (0, 75)), (1, .inl (ae_k (2)))]) (lEr (lEi ae_ev_k lE0)) (stk2 := [.inr (1, 18), .inr (0, 75)]) (sEr (sEr sE0)) ?_
    exact kf_89 hf hT H hv2 hs2 (f := 2) (by have := tX_lt (T := T) (tw_lt e2); omega) (fun o => run_go (q := (6, o, ls)) (by simp [tStep, h7, h8, h10, h11, e0, e1, e2])) (by decide)
  refine ky_go hf hT hv.1 (by decide) (ρ := []) kf_n2 trivial aFs.nil aHh.nil (by rfl) (by rfl) (lEr lE0) (sEi ae_ev_k sE0) (lvk2 := [(0, .inr (0, 75))]) (lEr lE0) (stk2 := [.inr (1, 15), .inr (0, 75)]) (sEr (sEr sE0)) ?_
  refine kp_call hf hT H hv hs (d := 21) (by decide) (by decide) (by decide) (by decide) (by rfl) (fun e3 w2 hv2 hs2 => ?_) (fun e3 => ?_)
  · skip
    refine ky_go hf hT hv2.1 (by decide) (ρ := []) kf_s3 trivial aFs.nil aHh.nil (by rfl) (by rfl) (lEr lE0) (sEi ae_ev_k sE0) (lvk2 := [(0, .inr (0, 75)), (1, .inl (ae_k (3)))]) (lEr (lEi ae_ev_k lE0)) (stk2 := [.inr (1, 18), .inr (0, 75)]) (sEr (sEr sE0)) ?_
    exact kf_89 hf hT H hv2 hs2 (f := 3) (by have := tX_lt (T := T) (tw_lt e3); omega) (fun o => run_go (q := (6, o, ls)) (by simp [tStep, h7, h8, h10, h11, e0, e1, e2, e3])) (by decide)
  refine ky_go hf hT hv.1 (by decide) (ρ := []) kf_n3 trivial aFs.nil aHh.nil (by rfl) (by rfl) (lEr lE0) (sEi ae_ev_k sE0) (lvk2 := [(0, .inr (0, 75))]) (lEr lE0) (stk2 := [.inr (1, 16), .inr (0, 75)]) (sEr (sEr sE0)) ?_
  refine kp_call hf hT H hv hs (d := 21) (by decide) (by decide) (by decide) (by decide) (by rfl) (fun e4 w2 hv2 hs2 => ?_) (fun e4 => ?_)
  · skip
    refine ky_go hf hT hv2.1 (by decide) (ρ := []) kf_s4 trivial aFs.nil aHh.nil (by rfl) (by rfl) (lEr lE0) (sEi ae_ev_k sE0) (lvk2 := [(0, .inr (0, 75)), (1, .inl (ae_k (4)))]) (lEr (lEi ae_ev_k lE0)) (stk2 := [.inr (1, 18), .inr (0, 75)]) (sEr (sEr sE0)) ?_
    exact kf_89 hf hT H hv2 hs2 (f := 4) (by have := tX_lt (T := T) (tw_lt e4); omega) (fun o => run_go (q := (6, o, ls)) (by simp [tStep, h7, h8, h10, h11, e0, e1, e2, e3, e4])) (by decide)
  refine ky_go hf hT hv.1 (by decide) (ρ := []) kf_n4 trivial aFs.nil aHh.nil (by rfl) (by rfl) (lEr lE0) (sEi ae_ev_k sE0) (lvk2 := [(0, .inr (0, 75))]) (lEr lE0) (stk2 := [.inr (1, 17), .inr (0, 75)]) (sEr (sEr sE0)) ?_
  refine kp_call hf hT H hv hs (d := 21) (by decide) (by decide) (by decide) (by decide) (by rfl) (fun e5 w2 hv2 hs2 => ?_) (fun e5 => ?_)
  · skip
    refine ky_go hf hT hv2.1 (by decide) (ρ := []) kf_s5 trivial aFs.nil aHh.nil (by rfl) (by rfl) (lEr lE0) (sEi ae_ev_k sE0) (lvk2 := [(0, .inr (0, 75)), (1, .inl (ae_k (5)))]) (lEr (lEi ae_ev_k lE0)) (stk2 := [.inr (1, 18), .inr (0, 75)]) (sEr (sEr sE0)) ?_
    exact kf_89 hf hT H hv2 hs2 (f := 5) (by have := tX_lt (T := T) (tw_lt e5); omega) (fun o => run_go (q := (6, o, ls)) (by simp [tStep, h7, h8, h10, h11, e0, e1, e2, e3, e4, e5])) (by decide)
  refine ky_go hf hT hv.1 (by decide) (ρ := []) kf_n5 trivial aFs.nil aHh.nil (by rfl) (by rfl) (lEr lE0) (sEi ae_ev_k sE0) (lvk2 := []) lE0 (stk2 := [.inl (ae_k ((-1)))]) (sEi ae_ev_k sE0) ?_
  exact hp_retI (pc := 85) (ty := .int) (x := -1) (by decide) (by decide +kernel) (by decide +kernel) (aV.k _) (fun n hn => rfl) (fun z hz => ⟨z, rfl, s, hv, hs, Or.inr ⟨by omega, fun o => run_no (by simp [tStep, h7, h8, h10, h11, e0, e1, e2, e3, e4, e5]) (Or.inr (by decide))⟩⟩)
def onP (E : mj_E) (al : List Nat) (w0 : va_W) (T : Nat → Int) (n g : Nat) : Prop := ∀ (o : Nat) (ls : tLs) (s : Nat) (w : va_W), o + g = 4 → kv E al w0 w → kS w T n s ls → ∀ AS, gL E al [] [.inr (0, 75), .inl (ae_k (o : Int))] AS → MJ E (2 * g + 23) 0 0 (mj_in0 94 AS w) (fun v w2 => ∃ z : Int32, v = some (.int z) ∧ ∃ s2, kv E al w0 w2 ∧ kS w2 T n s2 ls ∧ ((z.toInt = 1 ∧ s < s2 ∧ run T n 5 o ls s = run T n 8 o ls s2) ∨ (z.toInt = 0 ∧ run T n 5 o ls s = ((s2 : Int), ls))))
def coP (E : mj_E) (al : List Nat) (w0 : va_W) (T : Nat → Int) (n g : Nat) : Prop := ∀ (o : Nat) (ls : tLs) (s : Nat) (w : va_W), o + g = 4 → kv E al w0 w → kS w T n s ls → ∀ AS, gL E al [] [.inr (0, 75), .inl (ae_k (o : Int))] AS → MJ E (2 * g + 24) 0 0 (mj_in0 93 AS w) (fun v w2 => ∃ z : Int32, v = some (.int z) ∧ ∃ s2, kv E al w0 w2 ∧ kS w2 T n s2 ls ∧ ((z.toInt = 1 ∧ s < s2 ∧ run T n 5 o ls s = run T n 8 o ls s2 ∧ tw 21 T n s2 = false ∧ tw 22 T n s2 = false) ∨ (z.toInt = 0 ∧ run T n 5 o ls s = ((s2 : Int), ls))))
/-- behind an operand -/
theorem ko_121 (hf : E.2.2.2.1.category = 1) (hT : ∀ σ : List Int, aTb E σ aTabs) {g : Nat} (hg : g < 5) (hv : kv E al w0 w) {s2 : Nat} {ls : tLs} (hs : kS w T n s2 ls) {b : Nat} (hb : b < 2) {lv : List (Nat × av)} (h0 : (0, .inr (0, 75)) ∈ lv) (h2 : (2, .inl (ae_k (b : Int))) ∈ lv) (hQ : ∀ (z : Int32) (w2 : va_W), z.toInt = 1 → kv E al w0 w2 → kS w2 T n s2 ls → Q (some (.int z)) w2) : hG E al (2 * g + 23) 94 121 lv [] [] w Q := by
  refine hG.sub (lv2 := [(0, .inr (0, 75)), (2, .inl (ae_k (b : Int)))]) ?_ (fun q hq => by
    simp only [List.mem_cons, List.not_mem_nil, or_false] at hq
    rcases hq with rfl | rfl
    · exact h0
    · exact h2)
  rcases (by omega : b = 0 ∨ b = 1) with rfl | rfl
  · skip
    refine ky_go hf hT hv.1 (by decide) (ρ := []) (ko_j g hg) trivial aFs.nil aHh.nil (by rfl) (by rfl) (lEr (lEi ae_ev_k lE0)) sE0 (lvk2 := []) lE0 (stk2 := [.inl (ae_k (1))]) (sEi ae_ev_k sE0) ?_
    exact kret (pc := 132) (b := 1) (by decide) (by decide) (by decide +kernel) (by decide +kernel) (fun z hz => hQ z w hz hv hs)
  · skip
    refine ky_go hf hT hv.1 (by decide) (ρ := []) (ko_k g hg) trivial aFs.nil aHh.nil (by rfl) (by rfl) (lEr (lEi ae_ev_k lE0)) sE0 (lvk2 := []) lE0 (stk2 := [.inl (ae_k (8)), .inr (0, 75)]) (sEi ae_ev_k (sEr sE0)) ?_
    refine ka_call hf hT hv hs (d := 2 * g + 22) (by decide) (by omega) (by rfl) (fun w2 hv2 hs2 => ?_)
    refine ky_go hf hT hv2.1 (by decide) (ρ := []) (ko_l g hg) trivial aFs.nil aHh.nil (by rfl) (by rfl) lE0 sE0 (lvk2 := []) lE0 (stk2 := [.inl (ae_k (1))]) (sEi ae_ev_k sE0) ?_
    exact kret (pc := 132) (b := 1) (by decide) (by decide) (by decide +kernel) (by decide +kernel) (fun z hz => hQ z w2 hz hv2 hs2)
theorem ko_118 (hf : E.2.2.2.1.category = 1) (hT : ∀ σ : List Int, aTb E σ aTabs) {g : Nat} (hg : g < 5) (hv : kv E al w0 w) {s2 : Nat} {ls : tLs} (hs : kS w T n s2 ls) {o b : Nat} (hb : b < 2) {x : Int} (hQ : ∀ (z : Int32) (w2 : va_W), z.toInt = 1 → kv E al w0 w2 → kS w2 T n s2 ls → Q (some (.int z)) w2) : hG E al (2 * g + 23) 94 118 [(0, .inr (0, 75)), (1, .inl (ae_k (o : Int))), (2, .inl (ae_k (b : Int)))] [.inl (ae_k x), .inr (0, 75)] [] w Q :=
  ka_call hf hT hv hs (d := 2 * g + 22) (by decide) (by omega) (by rfl) (fun w2 hv2 hs2 => ko_121 hf hT hg hv2 hs2 hb (by simp) (by simp) hQ)
/-- the operand, behind the nots -/
theorem ko_39 (hf : E.2.2.2.1.category = 1) (hT : ∀ σ : List Int, aTb E σ aTabs) (H : kT w0 T n) {g : Nat} (hg : g < 5) (IH : ∀ g1, g1 + 1 = g → coP E al w0 T n g1) (hv : kv E al w0 w) {s0 s : Nat} {ls : tLs} (hs : kS w T n s ls) {o b : Nat} (ho : o + g = 4) (hb : b < 2) (hss : s0 ≤ s) (h7 : tw 7 T n s = false) (hr : run T n 5 o ls s0 = run T n 5 o ls s) :
    hG E al (2 * g + 23) 94 39 [(0, .inr (0, 75)), (1, .inl (ae_k (o : Int))), (2, .inl (ae_k (b : Int)))] [.inr (1, 8), .inr (0, 75)] [] w (fun v w2 => ∃ z : Int32, v = some (.int z) ∧ ∃ s2, kv E al w0 w2 ∧ kS w2 T n s2 ls ∧ ((z.toInt = 1 ∧ s0 < s2 ∧ run T n 5 o ls s0 = run T n 8 o ls s2) ∨ (z.toInt = 0 ∧ run T n 5 o ls s0 = ((s2 : Int), ls)))) := by
  rw [hr]
  have x1 := tX_le (T := T) hs.1
  refine ki_call hf hT H hv hs (d := 2 * g + 22) (by decide) (by decide) (by decide) (by omega) (by rfl) (fun h8 => ?_) (fun h8 => ?_)
  · have x2 := tX_lt (T := T) (tw_lt h8)
    rcases (show g = 0 ∨ ∃ g1, g1 + 1 = g from (Nat.eq_zero_or_pos g).imp id (fun h => ⟨g - 1, by omega⟩)) with rfl | ⟨g1, rfl⟩
    · have e : o = 4 := by omega
      subst e
      refine hG.sub (lv2 := [(0, .inr (0, 75)), (1, .inl (ae_k 4))]) ?_ (fun q hq => by
        simp only [List.mem_cons, List.not_mem_nil, or_false] at hq
        rcases hq with rfl | rfl
        · simp
        · simp)
      refine ky_go hf hT hv.1 (by decide) (ρ := []) (ko_5 0 (by decide)) trivial aFs.nil aHh.nil (by rfl) (by rfl) (lEr (lEi ae_ev_k lE0)) (sEi ae_ev_k sE0) (lvk2 := []) lE0 (stk2 := [.inl (ae_k (0))]) (sEi ae_ev_k sE0) ?_
      exact kret (pc := 51) (b := 0) (by decide) (by decide) (by decide +kernel) (by decide +kernel) (fun z hz => ⟨z, rfl, s, hv, hs, Or.inr ⟨hz, run_no (by simp [tStep, h7, h8]) (Or.inr (by decide))⟩⟩)
    · skip
      refine ky_go hf hT hv.1 (by decide) (ρ := [(o : Int), (b : Int)]) (ko_6 (g1 + 1) hg) ⟨⟨by omega, by omega⟩, ⟨by omega, by omega⟩, trivial⟩ aFs.nil aHh.nil (by rfl) (by rfl) (lEr (lEi (ev_s rfl) (lEi (ev_s rfl) lE0))) (sEi ae_ev_k sE0) (lvk2 := [(0, .inr (0, 75)), (1, .inl (ae_k ((o : Int)))), (2, .inl (ae_k ((b : Int))))]) (lEr (lEi (ev_s rfl) (lEi (ev_s rfl) lE0))) (stk2 := [.inr (0, 75)]) (sEr sE0) ?_
      refine kl_call hf hT H hv hs (d := 2 * (g1 + 1) + 22) (by decide) (by omega) (by rfl) (fun w2 hv2 hs2 => ?_)
      refine ky_go hf hT hv2.1 (by decide) (ρ := [(o : Int), (b : Int)]) (ko_7 (g1 + 1) hg) ⟨⟨by omega, by omega⟩, ⟨by omega, by omega⟩, trivial⟩ aFs.nil aHh.nil (by rfl) (by rfl) (lEr (lEi (ev_s rfl) (lEi (ev_s rfl) lE0))) sE0 (lvk2 := [(0, .inr (0, 75)), (1, .inl (ae_k ((o : Int)))), (2, .inl (ae_k ((b : Int))))]) (lEr (lEi (ev_s rfl) (lEi (ev_s rfl) lE0))) (stk2 := [.inl (ae_k (((o + 1 : Nat) : Int))), .inr (0, 75)]) (sEi (by simp only [ae_ev, ae_el, ae_s, ae_k, List.getD_cons_zero, List.getD_cons_succ]; omega) (sEr sE0)) ?_
      have HV : hOk E al gV0 (fun _ => True) := hOkV hf hT (fun _ _ _ _ h => h)
      have st : run T n 5 o ls s = run T n 5 (o + 1) ls (tX T n s) := run_go (q := (5, o + 1, ls)) (by simp [tStep, h7, h8]; omega)
      rw [st]
      refine hp_callV HV (d := 2 * (g1 + 1) + 22) (y2 := 93) (as := [.inr (0, 75), .inl (ae_k ((o + 1 : Nat) : Int))]) (rest := []) (R := fun z w3 => ∃ s2, kv E al w0 w3 ∧ kS w3 T n s2 ls ∧ ((z.toInt = 1 ∧ tX T n s < s2 ∧ run T n 5 (o + 1) ls (tX T n s) = run T n 8 (o + 1) ls s2 ∧ tw 21 T n s2 = false ∧ tw 22 T n s2 = false) ∨ (z.toInt = 0 ∧ run T n 5 (o + 1) ls (tX T n s) = ((s2 : Int), ls)))) (by decide) (by rfl) (hW.e (J := fun _ => True) hv2.1 trivial) (fun AS hA => (IH g1 rfl (o + 1) ls (tX T n s) w2 (by omega) hv2 hs2 AS hA).weaken (by omega) (Nat.le_refl _) (Nat.le_refl _) (fun v w3 h => h)) (fun z w3 hR => ?_)
      obtain ⟨s2, hv3, hs3, ⟨hz, q1, q2, q3, q4⟩ | ⟨hz, q1⟩⟩ := hR
      · rw [hz, q2]
        refine ky_go hf hT hv3.1 (by decide) (ρ := [(o : Int), (b : Int)]) (ko_8 (g1 + 1) hg) ⟨⟨by omega, by omega⟩, ⟨by omega, by omega⟩, trivial⟩ aFs.nil aHh.nil (by rfl) (by rfl) (lEr (lEi (ev_s rfl) (lEi (ev_s rfl) lE0))) (sEi ae_ev_k sE0) (lvk2 := [(0, .inr (0, 75)), (1, .inl (ae_k ((o : Int)))), (2, .inl (ae_k ((b : Int))))]) (lEr (lEi (ev_s rfl) (lEi (ev_s rfl) lE0))) (stk2 := [.inr (1, 9), .inr (0, 75)]) (sEr (sEr sE0)) ?_
        refine kp_call hf hT H hv3 hs3 (d := 2 * (g1 + 1) + 22) (by decide) (by decide) (by decide) (by omega) (by rfl) (fun h9 w4 hv4 hs4 => ?_) (fun h9 => ?_)
        · have x3 := tX_lt (T := T) (tw_lt h9)
          have st2 : run T n 8 (o + 1) ls s2 = run T n 8 o ls (tX T n s2) := run_go (q := (8, o, ls)) (by simp [tStep, q3, q4, h9])
          rw [st2]
          refine ky_go hf hT hv4.1 (by decide) (ρ := [(o : Int), (b : Int)]) (ko_a (g1 + 1) hg) ⟨⟨by omega, by omega⟩, ⟨by omega, by omega⟩, trivial⟩ aFs.nil aHh.nil (by rfl) (by rfl) (lEr (lEi (ev_s rfl) (lEi (ev_s rfl) lE0))) (sEi ae_ev_k sE0) (lvk2 := [(0, .inr (0, 75)), (1, .inl (ae_k ((o : Int)))), (2, .inl (ae_k ((b : Int))))]) (lEr (lEi (ev_s rfl) (lEi (ev_s rfl) lE0))) (stk2 := []) sE0 ?_
          exact ko_121 hf hT hg hv4 hs4 hb (by simp) (by simp) (fun z w5 hz hv5 hs5 => ⟨z, rfl, tX T n s2, hv5, hs5, Or.inl ⟨hz, by omega, rfl⟩⟩)
        · refine hG.sub (lv2 := []) ?_ (fun q hq => by cases hq)
          refine ky_go hf hT hv3.1 (by decide) (ρ := []) (ko_b (g1 + 1) hg) trivial aFs.nil aHh.nil (by rfl) (by rfl) lE0 (sEi ae_ev_k sE0) (lvk2 := []) lE0 (stk2 := [.inl (ae_k (0))]) (sEi ae_ev_k sE0) ?_
          exact kret (pc := 76) (b := 0) (by decide) (by decide) (by decide +kernel) (by decide +kernel) (fun z hz => ⟨z, rfl, s2, hv3, hs3, Or.inr ⟨hz, run_no (by simp [tStep, q3, q4, h9]) (Or.inr (by decide))⟩⟩)
      · rw [hz, q1]
        refine hG.sub (lv2 := []) ?_ (fun q hq => by cases hq)
        refine ky_go hf hT hv3.1 (by decide) (ρ := []) (ko_9 (g1 + 1) hg) trivial aFs.nil aHh.nil (by rfl) (by rfl) lE0 (sEi ae_ev_k sE0) (lvk2 := []) lE0 (stk2 := [.inl (ae_k (0))]) (sEi ae_ev_k sE0) ?_
        exact kret (pc := 76) (b := 0) (by decide) (by decide) (by decide +kernel) (by decide +kernel) (fun z hz => ⟨z, rfl, s2, hv3, hs3, Or.inr ⟨hz, rfl⟩⟩)
  · skip
    refine ky_go hf hT hv.1 (by decide) (ρ := [(o : Int), (b : Int)]) (ko_c g hg) ⟨⟨by omega, by omega⟩, ⟨by omega, by omega⟩, trivial⟩ aFs.nil aHh.nil (by rfl) (by rfl) (lEr (lEi (ev_s rfl) (lEi (ev_s rfl) lE0))) (sEi ae_ev_k sE0) (lvk2 := [(0, .inr (0, 75)), (1, .inl (ae_k ((o : Int)))), (2, .inl (ae_k ((b : Int))))]) (lEr (lEi (ev_s rfl) (lEi (ev_s rfl) lE0))) (stk2 := [.inr (1, 10), .inr (0, 75)]) (sEr (sEr sE0)) ?_
    refine kp_call hf hT H hv hs (d := 2 * g + 22) (by decide) (by decide) (by decide) (by omega) (by rfl) (fun h10 w2 hv2 hs2 => ?_) (fun h10 => ?_)
    · have x2 := tX_lt (T := T) (tw_lt h10)
      refine ky_go hf hT hv2.1 (by decide) (ρ := [(o : Int), (b : Int)]) (ko_d g hg) ⟨⟨by omega, by omega⟩, ⟨by omega, by omega⟩, trivial⟩ aFs.nil aHh.nil (by rfl) (by rfl) (lEr (lEi (ev_s rfl) (lEi (ev_s rfl) lE0))) (sEi ae_ev_k sE0) (lvk2 := [(0, .inr (0, 75)), (1, .inl (ae_k ((o : Int)))), (2, .inl (ae_k ((b : Int))))]) (lEr (lEi (ev_s rfl) (lEi (ev_s rfl) lE0))) (stk2 := [.inl (ae_k (6)), .inr (0, 75)]) (sEi ae_ev_k (sEr sE0)) ?_
      exact ko_118 hf hT hg hv2 hs2 hb (fun z w5 hz hv5 hs5 => ⟨z, rfl, tX T n s, hv5, hs5, Or.inl ⟨hz, by omega, run_go (q := (8, o, ls)) (by simp [tStep, h7, h8, h10])⟩⟩)
    refine ky_go hf hT hv.1 (by decide) (ρ := [(o : Int), (b : Int)]) (ko_e g hg) ⟨⟨by omega, by omega⟩, ⟨by omega, by omega⟩, trivial⟩ aFs.nil aHh.nil (by rfl) (by rfl) (lEr (lEi (ev_s rfl) (lEi (ev_s rfl) lE0))) (sEi ae_ev_k sE0) (lvk2 := [(0, .inr (0, 75)), (1, .inl (ae_k ((o : Int)))), (2, .inl (ae_k ((b : Int))))]) (lEr (lEi (ev_s rfl) (lEi (ev_s rfl) lE0))) (stk2 := [.inr (1, 11), .inr (0, 75)]) (sEr (sEr sE0)) ?_
    refine kp_call hf hT H hv hs (d := 2 * g + 22) (by decide) (by decide) (by decide) (by omega) (by rfl) (fun h11 w2 hv2 hs2 => ?_) (fun h11 => ?_)
    · have x2 := tX_lt (T := T) (tw_lt h11)
      refine ky_go hf hT hv2.1 (by decide) (ρ := [(o : Int), (b : Int)]) (ko_f g hg) ⟨⟨by omega, by omega⟩, ⟨by omega, by omega⟩, trivial⟩ aFs.nil aHh.nil (by rfl) (by rfl) (lEr (lEi (ev_s rfl) (lEi (ev_s rfl) lE0))) (sEi ae_ev_k sE0) (lvk2 := [(0, .inr (0, 75)), (1, .inl (ae_k ((o : Int)))), (2, .inl (ae_k ((b : Int))))]) (lEr (lEi (ev_s rfl) (lEi (ev_s rfl) lE0))) (stk2 := [.inl (ae_k (7)), .inr (0, 75)]) (sEi ae_ev_k (sEr sE0)) ?_
      exact ko_118 hf hT hg hv2 hs2 hb (fun z w5 hz hv5 hs5 => ⟨z, rfl, tX T n s, hv5, hs5, Or.inl ⟨hz, by omega, run_go (q := (8, o, ls)) (by simp [tStep, h7, h8, h10, h11])⟩⟩)
    refine ky_go hf hT hv.1 (by decide) (ρ := [(o : Int), (b : Int)]) (ko_g g hg) ⟨⟨by omega, by omega⟩, ⟨by omega, by omega⟩, trivial⟩ aFs.nil aHh.nil (by rfl) (by rfl) (lEr (lEi (ev_s rfl) (lEi (ev_s rfl) lE0))) (sEi ae_ev_k sE0) (lvk2 := [(0, .inr (0, 75)), (1, .inl (ae_k ((o : Int)))), (2, .inl (ae_k ((b : Int))))]) (lEr (lEi (ev_s rfl) (lEi (ev_s rfl) lE0))) (stk2 := [.inr (0, 75)]) (sEr sE0) ?_
    have HV : hOk E al gV0 (fun _ => True) := hOkV hf hT (fun _ _ _ _ h => h)
    refine hp_callV HV (d := 2 * g + 22) (y2 := 95) (as := [.inr (0, 75)]) (rest := []) (R := fun z w2 => ∃ s2, kv E al w0 w2 ∧ kS w2 T n s2 ls ∧ ((0 ≤ z.toInt ∧ s < s2 ∧ ∀ o, run T n 5 o ls s = run T n 8 o ls s2) ∨ (z.toInt < 0 ∧ ∀ o, run T n 5 o ls s = ((s2 : Int), ls)))) (by decide) (by rfl) (hW.e (J := fun _ => True) hv.1 trivial) (fun AS hA => (kf_mj hf hT H hv hs h7 h8 h10 h11 hA).weaken (by omega) (Nat.le_refl _) (Nat.le_refl _) (fun v w3 h => h)) (fun z w2 hR => ?_)
    have bz : aI0 ≤ z.toInt ∧ z.toInt ≤ aI1 := ⟨i32_lo z, i32_hi z⟩
    obtain ⟨s2, hv2, hs2, ⟨hz, q1, q2⟩ | ⟨hz, q1⟩⟩ := hR
    · skip
      refine ky_go hf hT hv2.1 (by decide) (ρ := [(o : Int), (b : Int), z.toInt]) (ko_h g hg) ⟨⟨by omega, by omega⟩, ⟨by omega, by omega⟩, ⟨by omega, by omega⟩, trivial⟩ aFs.nil aHh.nil (by rfl) (by rfl) (lEr (lEi (ev_s rfl) (lEi (ev_s rfl) lE0))) (sEi (ev_s rfl) sE0) (lvk2 := [(0, .inr (0, 75)), (1, .inl (ae_k ((o : Int)))), (2, .inl (ae_k ((b : Int))))]) (lEr (lEi (ev_s rfl) (lEi (ev_s rfl) lE0))) (stk2 := [.inl (ae_k (z.toInt)), .inr (0, 75)]) (sEi (ev_s rfl) (sEr sE0)) ?_
      exact ko_118 hf hT hg hv2 hs2 hb (fun z w5 hz hv5 hs5 => ⟨z, rfl, s2, hv5, hs5, Or.inl ⟨hz, by omega, q2 o⟩⟩)
    · refine hG.sub (lv2 := []) ?_ (fun q hq => by cases hq)
      refine ky_go hf hT hv2.1 (by decide) (ρ := [z.toInt]) (ko_i g hg) ⟨⟨by omega, by omega⟩, trivial⟩ aFs.nil aHh.nil (by rfl) (by rfl) lE0 (sEi (ev_s rfl) sE0) (lvk2 := []) lE0 (stk2 := [.inl (ae_k (0))]) (sEi ae_ev_k sE0) ?_
      exact kret (pc := 115) (b := 0) (by decide) (by decide) (by decide +kernel) (by decide +kernel) (fun z hz => ⟨z, rfl, s2, hv2, hs2, Or.inr ⟨hz, q1 o⟩⟩)
theorem ko_lp (hf : E.2.2.2.1.category = 1) (hT : ∀ σ : List Int, aTb E σ aTabs) (H : kT w0 T n) {g : Nat} (hg : g < 5) (IH : ∀ g1, g1 + 1 = g → coP E al w0 T n g1) {s0 : Nat} {ls : tLs} {o : Nat} (ho : o + g = 4) :
    ∀ (m s i b : Nat) (w : va_W), n - s ≤ m → i ≤ s → b < 2 → kv E al w0 w → kS w T n s ls → s0 ≤ s → run T n 5 o ls s0 = run T n 5 o ls s →
    hG E al (2 * g + 23) 94 4 [(0, .inr (0, 75)), (1, .inl (ae_k (o : Int))), (2, .inl (ae_k (b : Int))), (3, .inl (ae_k (i : Int)))] [] [] w (fun v w2 => ∃ z : Int32, v = some (.int z) ∧ ∃ s2, kv E al w0 w2 ∧ kS w2 T n s2 ls ∧ ((z.toInt = 1 ∧ s0 < s2 ∧ run T n 5 o ls s0 = run T n 8 o ls s2) ∨ (z.toInt = 0 ∧ run T n 5 o ls s0 = ((s2 : Int), ls)))) := by
  have bn := H.1
  intro m
  induction m with
  | zero =>
    intro s i b w hm hi hb hv hs hss hr
    have hs1 := hs.1
    have h7 : tw 7 T n s = false := tw_ge (by omega)
    by_cases c : i < 250
    · skip
      refine ky_go hf hT hv.1 (by decide) (ρ := [(o : Int), (b : Int), (i : Int)]) (ko_1 g hg) ⟨⟨by omega, by omega⟩, ⟨by omega, by omega⟩, ⟨by omega, by omega⟩, trivial⟩ aFs.nil aHh.nil (by rfl) (by rfl) (lEr (lEi (ev_s rfl) (lEi (ev_s rfl) (lEi (ev_s rfl) lE0)))) sE0 (lvk2 := [(0, .inr (0, 75)), (1, .inl (ae_k ((o : Int)))), (2, .inl (ae_k ((b : Int)))), (3, .inl (ae_k ((i : Int))))]) (lEr (lEi (ev_s rfl) (lEi (ev_s rfl) (lEi (ev_s rfl) lE0)))) (stk2 := [.inr (1, 7), .inr (0, 75)]) (sEr (sEr sE0)) ?_
      refine kp_call hf hT H hv hs (d := 2 * g + 22) (by decide) (by decide) (by decide) (by omega) (by rfl) (fun h w2 hv2 hs2 => by rw [h7] at h; cases h) (fun _ => ?_)
      refine hG.sub (lv2 := [(0, .inr (0, 75)), (1, .inl (ae_k (o : Int))), (2, .inl (ae_k (b : Int)))]) ?_ (fun q hq => by
        simp only [List.mem_cons, List.not_mem_nil, or_false] at hq
        rcases hq with rfl | rfl | rfl <;> simp)
      refine ky_go hf hT hv.1 (by decide) (ρ := [(o : Int), (b : Int)]) (ko_4 g hg) ⟨⟨by omega, by omega⟩, ⟨by omega, by omega⟩, trivial⟩ aFs.nil aHh.nil (by rfl) (by rfl) (lEr (lEi (ev_s rfl) (lEi (ev_s rfl) lE0))) (sEi ae_ev_k sE0) (lvk2 := [(0, .inr (0, 75)), (1, .inl (ae_k ((o : Int)))), (2, .inl (ae_k ((b : Int))))]) (lEr (lEi (ev_s rfl) (lEi (ev_s rfl) lE0))) (stk2 := [.inr (1, 8), .inr (0, 75)]) (sEr (sEr sE0)) ?_
      exact ko_39 hf hT H hg IH hv hs ho hb hss h7 hr
    · have e : i = 250 := by omega
      subst e
      refine ky_go hf hT hv.1 (by decide) (ρ := [(o : Int), (b : Int)]) (ko_2 g hg) ⟨⟨by omega, by omega⟩, ⟨by omega, by omega⟩, trivial⟩ aFs.nil aHh.nil (by rfl) (by rfl) (lEr (lEi (ev_s rfl) (lEi (ev_s rfl) (lEi ae_ev_k lE0)))) sE0 (lvk2 := [(0, .inr (0, 75)), (1, .inl (ae_k ((o : Int)))), (2, .inl (ae_k ((b : Int))))]) (lEr (lEi (ev_s rfl) (lEi (ev_s rfl) lE0))) (stk2 := [.inr (1, 8), .inr (0, 75)]) (sEr (sEr sE0)) ?_
      exact ko_39 hf hT H hg IH hv hs ho hb hss h7 hr
  | succ m ih =>
    intro s i b w hm hi hb hv hs hss hr
    have hs1 := hs.1
    by_cases c : i < 250
    · skip
      refine ky_go hf hT hv.1 (by decide) (ρ := [(o : Int), (b : Int), (i : Int)]) (ko_1 g hg) ⟨⟨by omega, by omega⟩, ⟨by omega, by omega⟩, ⟨by omega, by omega⟩, trivial⟩ aFs.nil aHh.nil (by rfl) (by rfl) (lEr (lEi (ev_s rfl) (lEi (ev_s rfl) (lEi (ev_s rfl) lE0)))) sE0 (lvk2 := [(0, .inr (0, 75)), (1, .inl (ae_k ((o : Int)))), (2, .inl (ae_k ((b : Int)))), (3, .inl (ae_k ((i : Int))))]) (lEr (lEi (ev_s rfl) (lEi (ev_s rfl) (lEi (ev_s rfl) lE0)))) (stk2 := [.inr (1, 7), .inr (0, 75)]) (sEr (sEr sE0)) ?_
      refine kp_call hf hT H hv hs (d := 2 * g + 22) (by decide) (by decide) (by decide) (by omega) (by rfl) (fun h w2 hv2 hs2 => ?_) (fun h7 => ?_)
      · have x2 := tX_lt (T := T) (tw_lt h)
        refine ky_go hf hT hv2.1 (by decide) (ρ := [(o : Int), (b : Int), (i : Int)]) (ko_3 g hg) ⟨⟨by omega, by omega⟩, ⟨by omega, by omega⟩, ⟨by omega, by omega⟩, trivial⟩ aFs.nil aHh.nil (by rfl) (by rfl) (lEr (lEi (ev_s rfl) (lEi (ev_s rfl) (lEi (ev_s rfl) lE0)))) (sEi ae_ev_k sE0) (lvk2 := [(0, .inr (0, 75)), (1, .inl (ae_k ((o : Int)))), (2, .inl (ae_k (((1 - b : Nat) : Int)))), (3, .inl (ae_k (((i + 1 : Nat) : Int))))]) (lEr (lEi (ev_s rfl) (lEi (by simp only [ae_ev, ae_el, ae_s, ae_k, List.getD_cons_zero, List.getD_cons_succ]; omega) (lEi (by simp only [ae_ev, ae_el, ae_s, ae_k, List.getD_cons_zero, List.getD_cons_succ]; omega) lE0)))) (stk2 := []) sE0 ?_
        exact ih (tX T n s) (i + 1) (1 - b) w2 (by omega) (by omega) (by omega) hv2 hs2 (by omega) (hr.trans (run_go (q := (5, o, ls)) (by simp [tStep, h])))
      · refine hG.sub (lv2 := [(0, .inr (0, 75)), (1, .inl (ae_k (o : Int))), (2, .inl (ae_k (b : Int)))]) ?_ (fun q hq => by
          simp only [List.mem_cons, List.not_mem_nil, or_false] at hq
          rcases hq with rfl | rfl | rfl <;> simp)
        refine ky_go hf hT hv.1 (by decide) (ρ := [(o : Int), (b : Int)]) (ko_4 g hg) ⟨⟨by omega, by omega⟩, ⟨by omega, by omega⟩, trivial⟩ aFs.nil aHh.nil (by rfl) (by rfl) (lEr (lEi (ev_s rfl) (lEi (ev_s rfl) lE0))) (sEi ae_ev_k sE0) (lvk2 := [(0, .inr (0, 75)), (1, .inl (ae_k ((o : Int)))), (2, .inl (ae_k ((b : Int))))]) (lEr (lEi (ev_s rfl) (lEi (ev_s rfl) lE0))) (stk2 := [.inr (1, 8), .inr (0, 75)]) (sEr (sEr sE0)) ?_
        exact ko_39 hf hT H hg IH hv hs ho hb hss h7 hr
    · have e : i = 250 := by omega
      subst e
      refine ky_go hf hT hv.1 (by decide) (ρ := [(o : Int), (b : Int)]) (ko_2 g hg) ⟨⟨by omega, by omega⟩, ⟨by omega, by omega⟩, trivial⟩ aFs.nil aHh.nil (by rfl) (by rfl) (lEr (lEi (ev_s rfl) (lEi (ev_s rfl) (lEi ae_ev_k lE0)))) sE0 (lvk2 := [(0, .inr (0, 75)), (1, .inl (ae_k ((o : Int)))), (2, .inl (ae_k ((b : Int))))]) (lEr (lEi (ev_s rfl) (lEi (ev_s rfl) lE0))) (stk2 := [.inr (1, 8), .inr (0, 75)]) (sEr (sEr sE0)) ?_
      exact ko_39 hf hT H hg IH hv hs ho hb hss (tw_ge (by omega)) hr
theorem ko_mj (hf : E.2.2.2.1.category = 1) (hT : ∀ σ : List Int, aTb E σ aTabs) (H : kT w0 T n) {g : Nat} (hg : g < 5) (IH : ∀ g1, g1 + 1 = g → coP E al w0 T n g1) : onP E al w0 T n g := by
  intro o ls s w ho hv hs AS hA
  refine hG.in0 hf (d := 2 * g + 23) (as := [.inr (0, 75), .inl (ae_k (o : Int))]) ?_ hA
  show hG E al (2 * g + 23) 94 0 [(0, .inr (0, 75)), (1, .inl (ae_k (o : Int)))] [] [] w _
  refine ky_go hf hT hv.1 (by decide) (ρ := [(o : Int)]) (ko_0 g hg) ⟨⟨by omega, by omega⟩, trivial⟩ aFs.nil aHh.nil (by rfl) (by rfl) (lEr (lEi (ev_s rfl) lE0)) sE0 (lvk2 := [(0, .inr (0, 75)), (1, .inl (ae_k ((o : Int)))), (2, .inl (ae_k (0))), (3, .inl (ae_k (0)))]) (lEr (lEi (ev_s rfl) (lEi ae_ev_k (lEi ae_ev_k lE0)))) (stk2 := []) sE0 ?_
  exact ko_lp hf hT H hg IH ho (n - s) s 0 0 w (Nat.le_refl _) (Nat.zero_le _) (by decide) hv hs (Nat.le_refl _) rfl
/-- operands behind and -/
theorem kd_in (hf : E.2.2.2.1.category = 1) (hT : ∀ σ : List Int, aTb E σ aTabs) (H : kT w0 T n) {g : Nat} (hg : g < 5) (IH : onP E al w0 T n g) {s0 sb : Nat} {ls : tLs} {o i : Nat} (ho : o + g = 4) (hi : i < 250)
    (hk : ∀ (s : Nat) (w : va_W), kv E al w0 w → kS w T n s ls → sb < s → i < s → run T n 5 o ls s0 = run T n 8 o ls s → tw 21 T n s = false → hG E al (2 * g + 24) 93 59 [(0, .inr (0, 75)), (1, .inl (ae_k (o : Int))), (2, .inl (ae_k (i : Int)))] [] [] w (fun v w2 => ∃ z : Int32, v = some (.int z) ∧ ∃ s2, kv E al w0 w2 ∧ kS w2 T n s2 ls ∧ ((z.toInt = 1 ∧ s0 < s2 ∧ run T n 5 o ls s0 = run T n 8 o ls s2 ∧ tw 21 T n s2 = false ∧ tw 22 T n s2 = false) ∨ (z.toInt = 0 ∧ run T n 5 o ls s0 = ((s2 : Int), ls))))) :
    ∀ (m s j : Nat) (w : va_W), n - s ≤ m → j ≤ s → kv E al w0 w → kS w T n s ls → sb < s → i < s → run T n 5 o ls s0 = run T n 8 o ls s → hG E al (2 * g + 24) 93 21 [(0, .inr (0, 75)), (1, .inl (ae_k (o : Int))), (2, .inl (ae_k (i : Int))), (3, .inl (ae_k (j : Int)))] [] [] w (fun v w2 => ∃ z : Int32, v = some (.int z) ∧ ∃ s2, kv E al w0 w2 ∧ kS w2 T n s2 ls ∧ ((z.toInt = 1 ∧ s0 < s2 ∧ run T n 5 o ls s0 = run T n 8 o ls s2 ∧ tw 21 T n s2 = false ∧ tw 22 T n s2 = false) ∨ (z.toInt = 0 ∧ run T n 5 o ls s0 = ((s2 : Int), ls)))) := by
  have bn := H.1
  have HV : hOk E al gV0 (fun _ => True) := hOkV hf hT (fun _ _ _ _ h => h)
  intro m
  induction m with
  | zero =>
    intro s j w hm hj hv hs hss his hr
    have hs1 := hs.1
    have h21 : tw 21 T n s = false := tw_ge (by omega)
    by_cases c : j < 250
    · skip
      refine ky_go hf hT hv.1 (by decide) (ρ := [(o : Int), (i : Int), (j : Int)]) (kd_5 g hg) ⟨⟨by omega, by omega⟩, ⟨by omega, by omega⟩, ⟨by omega, by omega⟩, trivial⟩ aFs.nil aHh.nil (by rfl) (by rfl) (lEr (lEi (ev_s rfl) (lEi (ev_s rfl) (lEi (ev_s rfl) lE0)))) sE0 (lvk2 := [(0, .inr (0, 75)), (1, .inl (ae_k ((o : Int)))), (2, .inl (ae_k ((i : Int)))), (3, .inl (ae_k ((j : Int))))]) (lEr (lEi (ev_s rfl) (lEi (ev_s rfl) (lEi (ev_s rfl) lE0)))) (stk2 := [.inr (1, 21), .inr (0, 75)]) (sEr (sEr sE0)) ?_
      refine kp_call hf hT H hv hs (d := 2 * g + 23) (by decide) (by decide) (by decide) (by omega) (by rfl) (fun h w2 hv2 hs2 => by rw [h21] at h; cases h) (fun _ => ?_)
      refine hG.sub (lv2 := [(0, .inr (0, 75)), (1, .inl (ae_k (o : Int))), (2, .inl (ae_k (i : Int)))]) ?_ (fun q hq => by
        simp only [List.mem_cons, List.not_mem_nil, or_false] at hq
        rcases hq with rfl | rfl | rfl <;> simp)
      refine ky_go hf hT hv.1 (by decide) (ρ := [(o : Int), (i : Int)]) (kd_8 g hg) ⟨⟨by omega, by omega⟩, ⟨by omega, by omega⟩, trivial⟩ aFs.nil aHh.nil (by rfl) (by rfl) (lEr (lEi (ev_s rfl) (lEi (ev_s rfl) lE0))) (sEi ae_ev_k sE0) (lvk2 := [(0, .inr (0, 75)), (1, .inl (ae_k ((o : Int)))), (2, .inl (ae_k ((i : Int))))]) (lEr (lEi (ev_s rfl) (lEi (ev_s rfl) lE0))) (stk2 := []) sE0 ?_
      exact hk s w hv hs hss his hr h21
    · have e : j = 250 := by omega
      subst e
      refine ky_go hf hT hv.1 (by decide) (ρ := [(o : Int), (i : Int)]) (kd_6 g hg) ⟨⟨by omega, by omega⟩, ⟨by omega, by omega⟩, trivial⟩ aFs.nil aHh.nil (by rfl) (by rfl) (lEr (lEi (ev_s rfl) (lEi (ev_s rfl) (lEi ae_ev_k lE0)))) sE0 (lvk2 := [(0, .inr (0, 75)), (1, .inl (ae_k ((o : Int)))), (2, .inl (ae_k ((i : Int))))]) (lEr (lEi (ev_s rfl) (lEi (ev_s rfl) lE0))) (stk2 := []) sE0 ?_
      exact hk s w hv hs hss his hr h21
  | succ m ih =>
    intro s j w hm hj hv hs hss his hr
    have hs1 := hs.1
    by_cases c : j < 250
    · skip
      refine ky_go hf hT hv.1 (by decide) (ρ := [(o : Int), (i : Int), (j : Int)]) (kd_5 g hg) ⟨⟨by omega, by omega⟩, ⟨by omega, by omega⟩, ⟨by omega, by omega⟩, trivial⟩ aFs.nil aHh.nil (by rfl) (by rfl) (lEr (lEi (ev_s rfl) (lEi (ev_s rfl) (lEi (ev_s rfl) lE0)))) sE0 (lvk2 := [(0, .inr (0, 75)), (1, .inl (ae_k ((o : Int)))), (2, .inl (ae_k ((i : Int)))), (3, .inl (ae_k ((j : Int))))]) (lEr (lEi (ev_s rfl) (lEi (ev_s rfl) (lEi (ev_s rfl) lE0)))) (stk2 := [.inr (1, 21), .inr (0, 75)]) (sEr (sEr sE0)) ?_
      refine kp_call hf hT H hv hs (d := 2 * g + 23) (by decide) (by decide) (by decide) (by omega) (by rfl) (fun h w2 hv2 hs2 => ?_) (fun h21 => ?_)
      · have x2 := tX_lt (T := T) (tw_lt h)
        have st : run T n 8 o ls s = run T n 5 o ls (tX T n s) := run_go (q := (5, o, ls)) (by simp [tStep, h])
        refine ky_go hf hT hv2.1 (by decide) (ρ := [(o : Int), (i : Int), (j : Int)]) (kd_7 g hg) ⟨⟨by omega, by omega⟩, ⟨by omega, by omega⟩, ⟨by omega, by omega⟩, trivial⟩ aFs.nil aHh.nil (by rfl) (by rfl) (lEr (lEi (ev_s rfl) (lEi (ev_s rfl) (lEi (ev_s rfl) lE0)))) (sEi ae_ev_k sE0) (lvk2 := [(0, .inr (0, 75)), (1, .inl (ae_k ((o : Int)))), (2, .inl (ae_k ((i : Int)))), (3, .inl (ae_k ((j : Int))))]) (lEr (lEi (ev_s rfl) (lEi (ev_s rfl) (lEi (ev_s rfl) lE0)))) (stk2 := [.inl (ae_k ((o : Int))), .inr (0, 75)]) (sEi (ev_s rfl) (sEr sE0)) ?_
        refine hp_callV HV (d := 2 * g + 23) (y2 := 94) (as := [.inr (0, 75), .inl (ae_k (o : Int))]) (rest := []) (R := fun z w3 => ∃ s2, kv E al w0 w3 ∧ kS w3 T n s2 ls ∧ ((z.toInt = 1 ∧ tX T n s < s2 ∧ run T n 5 o ls (tX T n s) = run T n 8 o ls s2) ∨ (z.toInt = 0 ∧ run T n 5 o ls (tX T n s) = ((s2 : Int), ls)))) (by decide) (by rfl) (hW.e (J := fun _ => True) hv2.1 trivial) (fun AS hA => IH o ls (tX T n s) w2 ho hv2 hs2 AS hA) (fun z w3 hR => ?_)
        obtain ⟨s2, hv3, hs3, ⟨hz, q1, q2⟩ | ⟨hz, q1⟩⟩ := hR
        · rw [hz]
          refine ky_go hf hT hv3.1 (by decide) (ρ := [(o : Int), (i : Int), (j : Int)]) (kd_9 g hg) ⟨⟨by omega, by omega⟩, ⟨by omega, by omega⟩, ⟨by omega, by omega⟩, trivial⟩ aFs.nil aHh.nil (by rfl) (by rfl) (lEr (lEi (ev_s rfl) (lEi (ev_s rfl) (lEi (ev_s rfl) lE0)))) (sEi ae_ev_k sE0) (lvk2 := [(0, .inr (0, 75)), (1, .inl (ae_k ((o : Int)))), (2, .inl (ae_k ((i : Int)))), (3, .inl (ae_k ((j : Int))))]) (lEr (lEi (ev_s rfl) (lEi (ev_s rfl) (lEi (ev_s rfl) lE0)))) (stk2 := [.inl (ae_k (9)), .inr (0, 75)]) (sEi ae_ev_k (sEr sE0)) ?_
          refine ka_call hf hT hv3 hs3 (d := 2 * g + 23) (by decide) (by omega) (by rfl) (fun w4 hv4 hs4 => ?_)
          refine ky_go hf hT hv4.1 (by decide) (ρ := [(o : Int), (i : Int), (j : Int)]) (kd_b g hg) ⟨⟨by omega, by omega⟩, ⟨by omega, by omega⟩, ⟨by omega, by omega⟩, trivial⟩ aFs.nil aHh.nil (by rfl) (by rfl) (lEr (lEi (ev_s rfl) (lEi (ev_s rfl) (lEi (ev_s rfl) lE0)))) sE0 (lvk2 := [(0, .inr (0, 75)), (1, .inl (ae_k ((o : Int)))), (2, .inl (ae_k ((i : Int)))), (3, .inl (ae_k (((j + 1 : Nat) : Int))))]) (lEr (lEi (ev_s rfl) (lEi (ev_s rfl) (lEi (by simp only [ae_ev, ae_el, ae_s, ae_k, List.getD_cons_zero, List.getD_cons_succ]; omega) lE0)))) (stk2 := []) sE0 ?_
          exact ih s2 (j + 1) w4 (by have := hs4.1; omega) (by omega) hv4 hs4 (by omega) (by omega) ((hr.trans st).trans q2)
        · rw [hz]
          refine hG.sub (lv2 := []) ?_ (fun q hq => by cases hq)
          refine ky_go hf hT hv3.1 (by decide) (ρ := []) (kd_a g hg) trivial aFs.nil aHh.nil (by rfl) (by rfl) lE0 (sEi ae_ev_k sE0) (lvk2 := []) lE0 (stk2 := [.inl (ae_k (0))]) (sEi ae_ev_k sE0) ?_
          exact kret (pc := 46) (b := 0) (by decide) (by decide) (by decide +kernel) (by decide +kernel) (fun z hz => ⟨z, rfl, s2, hv3, hs3, Or.inr ⟨hz, (hr.trans st).trans q1⟩⟩)
      · refine hG.sub (lv2 := [(0, .inr (0, 75)), (1, .inl (ae_k (o : Int))), (2, .inl (ae_k (i : Int)))]) ?_ (fun q hq => by
          simp only [List.mem_cons, List.not_mem_nil, or_false] at hq
          rcases hq with rfl | rfl | rfl <;> simp)
        refine ky_go hf hT hv.1 (by decide) (ρ := [(o : Int), (i : Int)]) (kd_8 g hg) ⟨⟨by omega, by omega⟩, ⟨by omega, by omega⟩, trivial⟩ aFs.nil aHh.nil (by rfl) (by rfl) (lEr (lEi (ev_s rfl) (lEi (ev_s rfl) lE0))) (sEi ae_ev_k sE0) (lvk2 := [(0, .inr (0, 75)), (1, .inl (ae_k ((o : Int)))), (2, .inl (ae_k ((i : Int))))]) (lEr (lEi (ev_s rfl) (lEi (ev_s rfl) lE0))) (stk2 := []) sE0 ?_
        exact hk s w hv hs hss his hr h21
    · have e : j = 250 := by omega
      subst e
      refine ky_go hf hT hv.1 (by decide) (ρ := [(o : Int), (i : Int)]) (kd_6 g hg) ⟨⟨by omega, by omega⟩, ⟨by omega, by omega⟩, trivial⟩ aFs.nil aHh.nil (by rfl) (by rfl) (lEr (lEi (ev_s rfl) (lEi (ev_s rfl) (lEi ae_ev_k lE0)))) sE0 (lvk2 := [(0, .inr (0, 75)), (1, .inl (ae_k ((o : Int)))), (2, .inl (ae_k ((i : Int))))]) (lEr (lEi (ev_s rfl) (lEi (ev_s rfl) lE0))) (stk2 := []) sE0 ?_
      exact hk s w hv hs hss his hr (tw_ge (by omega))
theorem kd_go (hf : E.2.2.2.1.category = 1) (hT : ∀ σ : List Int, aTb E σ aTabs) (H : kT w0 T n) {g : Nat} (hg : g < 5) (IH : onP E al w0 T n g) {s0 : Nat} {ls : tLs} {o : Nat} (ho : o + g = 4) :
    ∀ (m s i : Nat) (w : va_W), n - s ≤ m → i ≤ s → kv E al w0 w → kS w T n s ls → s0 ≤ s → run T n 5 o ls s0 = run T n 5 o ls s → hG E al (2 * g + 24) 93 2 [(0, .inr (0, 75)), (1, .inl (ae_k (o : Int))), (2, .inl (ae_k (i : Int)))] [] [] w (fun v w2 => ∃ z : Int32, v = some (.int z) ∧ ∃ s2, kv E al w0 w2 ∧ kS w2 T n s2 ls ∧ ((z.toInt = 1 ∧ s0 < s2 ∧ run T n 5 o ls s0 = run T n 8 o ls s2 ∧ tw 21 T n s2 = false ∧ tw 22 T n s2 = false) ∨ (z.toInt = 0 ∧ run T n 5 o ls s0 = ((s2 : Int), ls)))) := by
  have bn := H.1
  have HV : hOk E al gV0 (fun _ => True) := hOkV hf hT (fun _ _ _ _ h => h)
  intro m
  induction m with
  | zero =>
    intro s i w hm hi hv hs hss hr
    have hs1 := hs.1
    have fl : run T n 5 o ls s = ((s : Int), ls) := run_no (tStep_ge (by omega)) (Or.inr (by decide))
    by_cases c : i < 250
    · skip
      refine ky_go hf hT hv.1 (by decide) (ρ := [(o : Int), (i : Int)]) (kd_1 g hg) ⟨⟨by omega, by omega⟩, ⟨by omega, by omega⟩, trivial⟩ aFs.nil aHh.nil (by rfl) (by rfl) (lEr (lEi (ev_s rfl) (lEi (ev_s rfl) lE0))) sE0 (lvk2 := [(0, .inr (0, 75)), (1, .inl (ae_k ((o : Int)))), (2, .inl (ae_k ((i : Int))))]) (lEr (lEi (ev_s rfl) (lEi (ev_s rfl) lE0))) (stk2 := [.inl (ae_k ((o : Int))), .inr (0, 75)]) (sEi (ev_s rfl) (sEr sE0)) ?_
      refine hp_callV HV (d := 2 * g + 23) (y2 := 94) (as := [.inr (0, 75), .inl (ae_k (o : Int))]) (rest := []) (R := fun z w3 => ∃ s2, kv E al w0 w3 ∧ kS w3 T n s2 ls ∧ ((z.toInt = 1 ∧ s < s2 ∧ run T n 5 o ls (s) = run T n 8 o ls s2) ∨ (z.toInt = 0 ∧ run T n 5 o ls (s) = ((s2 : Int), ls)))) (by decide) (by rfl) (hW.e (J := fun _ => True) hv.1 trivial) (fun AS hA => IH o ls (s) w ho hv hs AS hA) (fun z w3 hR => ?_)
      obtain ⟨s2, hv3, hs3, ⟨hz, q1, q2⟩ | ⟨hz, q1⟩⟩ := hR
      · exact absurd hs3.1 (by omega)
      · rw [hz]
        refine hG.sub (lv2 := []) ?_ (fun q hq => by cases hq)
        refine ky_go hf hT hv3.1 (by decide) (ρ := []) (kd_4 g hg) trivial aFs.nil aHh.nil (by rfl) (by rfl) lE0 (sEi ae_ev_k sE0) (lvk2 := []) lE0 (stk2 := [.inl (ae_k (0))]) (sEi ae_ev_k sE0) ?_
        exact kret (pc := 18) (b := 0) (by decide) (by decide) (by decide +kernel) (by decide +kernel) (fun z hz => ⟨z, rfl, s2, hv3, hs3, Or.inr ⟨hz, hr.trans q1⟩⟩)
    · have e : i = 250 := by omega
      subst e
      refine hG.sub (lv2 := [(2, .inl (ae_k 250))]) ?_ (fun q hq => by simp only [List.mem_singleton] at hq; simp [hq])
      refine ky_go hf hT hv.1 (by decide) (ρ := []) (kd_2 g hg) trivial aFs.nil aHh.nil (by rfl) (by rfl) (lEi ae_ev_k lE0) sE0 (lvk2 := []) lE0 (stk2 := [.inl (ae_k (0))]) (sEi ae_ev_k sE0) ?_
      exact kret (pc := 87) (b := 0) (by decide) (by decide) (by decide +kernel) (by decide +kernel) (fun z hz => ⟨z, rfl, s, hv, hs, Or.inr ⟨hz, hr.trans fl⟩⟩)
  | succ m ih =>
    intro s i w hm hi hv hs hss hr
    have hs1 := hs.1
    by_cases c : i < 250
    · skip
      refine ky_go hf hT hv.1 (by decide) (ρ := [(o : Int), (i : Int)]) (kd_1 g hg) ⟨⟨by omega, by omega⟩, ⟨by omega, by omega⟩, trivial⟩ aFs.nil aHh.nil (by rfl) (by rfl) (lEr (lEi (ev_s rfl) (lEi (ev_s rfl) lE0))) sE0 (lvk2 := [(0, .inr (0, 75)), (1, .inl (ae_k ((o : Int)))), (2, .inl (ae_k ((i : Int))))]) (lEr (lEi (ev_s rfl) (lEi (ev_s rfl) lE0))) (stk2 := [.inl (ae_k ((o : Int))), .inr (0, 75)]) (sEi (ev_s rfl) (sEr sE0)) ?_
      refine hp_callV HV (d := 2 * g + 23) (y2 := 94) (as := [.inr (0, 75), .inl (ae_k (o : Int))]) (rest := []) (R := fun z w3 => ∃ s2, kv E al w0 w3 ∧ kS w3 T n s2 ls ∧ ((z.toInt = 1 ∧ s < s2 ∧ run T n 5 o ls (s) = run T n 8 o ls s2) ∨ (z.toInt = 0 ∧ run T n 5 o ls (s) = ((s2 : Int), ls)))) (by decide) (by rfl) (hW.e (J := fun _ => True) hv.1 trivial) (fun AS hA => IH o ls (s) w ho hv hs AS hA) (fun z w3 hR => ?_)
      obtain ⟨s2, hv3, hs3, ⟨hz, q1, q2⟩ | ⟨hz, q1⟩⟩ := hR
      · rw [hz]
        refine ky_go hf hT hv3.1 (by decide) (ρ := [(o : Int), (i : Int)]) (kd_3 g hg) ⟨⟨by omega, by omega⟩, ⟨by omega, by omega⟩, trivial⟩ aFs.nil aHh.nil (by rfl) (by rfl) (lEr (lEi (ev_s rfl) (lEi (ev_s rfl) lE0))) (sEi ae_ev_k sE0) (lvk2 := [(0, .inr (0, 75)), (1, .inl (ae_k ((o : Int)))), (2, .inl (ae_k ((i : Int)))), (3, .inl (ae_k (0)))]) (lEr (lEi (ev_s rfl) (lEi (ev_s rfl) (lEi ae_ev_k lE0)))) (stk2 := []) sE0 ?_
        refine kd_in (sb := s) hf hT H hg IH ho c (fun s3 w4 hv4 hs4 p1 p2 p3 p4 => ?_) (n - s2) s2 0 w3 (Nat.le_refl _) (Nat.zero_le _) hv3 hs3 (by omega) (by omega) (hr.trans q2)
        have fin : ∀ w5, kv E al w0 w5 → kS w5 T n s3 ls → hG E al (2 * g + 24) 93 72 [(0, .inr (0, 75)), (1, .inl (ae_k (o : Int))), (2, .inl (ae_k (i : Int)))] [.inr (1, 22), .inr (0, 75)] [] w5 (fun v w2 => ∃ z : Int32, v = some (.int z) ∧ ∃ s2, kv E al w0 w2 ∧ kS w2 T n s2 ls ∧ ((z.toInt = 1 ∧ s0 < s2 ∧ run T n 5 o ls s0 = run T n 8 o ls s2 ∧ tw 21 T n s2 = false ∧ tw 22 T n s2 = false) ∨ (z.toInt = 0 ∧ run T n 5 o ls s0 = ((s2 : Int), ls)))) := by
          intro w5 hv5 hs5
          refine kp_call hf hT H hv5 hs5 (d := 2 * g + 23) (by decide) (by decide) (by decide) (by omega) (by rfl) (fun h w6 hv6 hs6 => ?_) (fun h22 => ?_)
          · have x2 := tX_lt (T := T) (tw_lt h)
            have st : run T n 8 o ls s3 = run T n 5 o ls (tX T n s3) := run_go (q := (5, o, ls)) (by simp [tStep, h])
            refine ky_go hf hT hv6.1 (by decide) (ρ := [(o : Int), (i : Int)]) (kd_f g hg) ⟨⟨by omega, by omega⟩, ⟨by omega, by omega⟩, trivial⟩ aFs.nil aHh.nil (by rfl) (by rfl) (lEr (lEi (ev_s rfl) (lEi (ev_s rfl) lE0))) (sEi ae_ev_k sE0) (lvk2 := [(0, .inr (0, 75)), (1, .inl (ae_k ((o : Int)))), (2, .inl (ae_k (((i + 1 : Nat) : Int))))]) (lEr (lEi (ev_s rfl) (lEi (by simp only [ae_ev, ae_el, ae_s, ae_k, List.getD_cons_zero, List.getD_cons_succ]; omega) lE0))) (stk2 := []) sE0 ?_
            exact ih (tX T n s3) (i + 1) w6 (by omega) (by omega) hv6 hs6 (by omega) (p3.trans st)
          · refine hG.sub (lv2 := []) ?_ (fun q hq => by cases hq)
            refine ky_go hf hT hv5.1 (by decide) (ρ := []) (kd_g g hg) trivial aFs.nil aHh.nil (by rfl) (by rfl) lE0 (sEi ae_ev_k sE0) (lvk2 := []) lE0 (stk2 := [.inl (ae_k (1))]) (sEi ae_ev_k sE0) ?_
            exact kret (pc := 79) (b := 1) (by decide) (by decide) (by decide +kernel) (by decide +kernel) (fun z hz => ⟨z, rfl, s3, hv5, hs5, Or.inl ⟨hz, by omega, p3, p4, h22⟩⟩)
        by_cases i0 : i = 0
        · subst i0
          refine ky_go hf hT hv4.1 (by decide) (ρ := [(o : Int)]) (kd_c g hg) ⟨⟨by omega, by omega⟩, trivial⟩ aFs.nil aHh.nil (by rfl) (by rfl) (lEr (lEi (ev_s rfl) (lEi ae_ev_k lE0))) sE0 (lvk2 := [(0, .inr (0, 75)), (1, .inl (ae_k ((o : Int)))), (2, .inl (ae_k (0)))]) (lEr (lEi (ev_s rfl) (lEi ae_ev_k lE0))) (stk2 := [.inr (1, 22), .inr (0, 75)]) (sEr (sEr sE0)) ?_
          exact fin w4 hv4 hs4
        · skip
          refine ky_go hf hT hv4.1 (by decide) (ρ := [(o : Int), (i : Int)]) (kd_d g hg) ⟨⟨by omega, by omega⟩, ⟨by omega, by omega⟩, trivial⟩ aFs.nil aHh.nil (by rfl) (by rfl) (lEr (lEi (ev_s rfl) (lEi (ev_s rfl) lE0))) sE0 (lvk2 := [(0, .inr (0, 75)), (1, .inl (ae_k ((o : Int)))), (2, .inl (ae_k ((i : Int))))]) (lEr (lEi (ev_s rfl) (lEi (ev_s rfl) lE0))) (stk2 := [.inl (ae_k (10)), .inr (0, 75)]) (sEi ae_ev_k (sEr sE0)) ?_
          refine ka_call hf hT hv4 hs4 (d := 2 * g + 23) (by decide) (by omega) (by rfl) (fun w5 hv5 hs5 => ?_)
          refine ky_go hf hT hv5.1 (by decide) (ρ := [(o : Int), (i : Int)]) (kd_e g hg) ⟨⟨by omega, by omega⟩, ⟨by omega, by omega⟩, trivial⟩ aFs.nil aHh.nil (by rfl) (by rfl) (lEr (lEi (ev_s rfl) (lEi (ev_s rfl) lE0))) sE0 (lvk2 := [(0, .inr (0, 75)), (1, .inl (ae_k ((o : Int)))), (2, .inl (ae_k ((i : Int))))]) (lEr (lEi (ev_s rfl) (lEi (ev_s rfl) lE0))) (stk2 := [.inr (1, 22), .inr (0, 75)]) (sEr (sEr sE0)) ?_
          exact fin w5 hv5 hs5
      · rw [hz]
        refine hG.sub (lv2 := []) ?_ (fun q hq => by cases hq)
        refine ky_go hf hT hv3.1 (by decide) (ρ := []) (kd_4 g hg) trivial aFs.nil aHh.nil (by rfl) (by rfl) lE0 (sEi ae_ev_k sE0) (lvk2 := []) lE0 (stk2 := [.inl (ae_k (0))]) (sEi ae_ev_k sE0) ?_
        exact kret (pc := 18) (b := 0) (by decide) (by decide) (by decide +kernel) (by decide +kernel) (fun z hz => ⟨z, rfl, s2, hv3, hs3, Or.inr ⟨hz, hr.trans q1⟩⟩)
    · have e : i = 250 := by omega
      subst e
      refine hG.sub (lv2 := [(2, .inl (ae_k 250))]) ?_ (fun q hq => by simp only [List.mem_singleton] at hq; simp [hq])
      refine ky_go hf hT hv.1 (by decide) (ρ := []) (kd_2 g hg) trivial aFs.nil aHh.nil (by rfl) (by rfl) (lEi ae_ev_k lE0) sE0 (lvk2 := []) lE0 (stk2 := [.inl (ae_k (0))]) (sEi ae_ev_k sE0) ?_
      exact kret (pc := 87) (b := 0) (by decide) (by decide) (by decide +kernel) (by decide +kernel) (fun z hz => ⟨z, rfl, s, hv, hs, Or.inr ⟨hz, hr.trans (run_no (tStep_ge (by omega)) (Or.inr (by decide)))⟩⟩)
theorem kd_mj (hf : E.2.2.2.1.category = 1) (hT : ∀ σ : List Int, aTb E σ aTabs) (H : kT w0 T n) {g : Nat} (hg : g < 5) (IH : onP E al w0 T n g) : coP E al w0 T n g := by
  intro o ls s w ho hv hs AS hA
  refine hG.in0 hf (d := 2 * g + 24) (as := [.inr (0, 75), .inl (ae_k (o : Int))]) ?_ hA
  show hG E al (2 * g + 24) 93 0 [(0, .inr (0, 75)), (1, .inl (ae_k (o : Int)))] [] [] w _
  refine ky_go hf hT hv.1 (by decide) (ρ := [(o : Int)]) (kd_0 g hg) ⟨⟨by omega, by omega⟩, trivial⟩ aFs.nil aHh.nil (by rfl) (by rfl) (lEr (lEi (ev_s rfl) lE0)) sE0 (lvk2 := [(0, .inr (0, 75)), (1, .inl (ae_k ((o : Int)))), (2, .inl (ae_k (0)))]) (lEr (lEi (ev_s rfl) (lEi ae_ev_k lE0))) (stk2 := []) sE0 ?_
  exact kd_go hf hT H hg IH ho (n - s) s 0 w (Nat.le_refl _) (Nat.zero_le _) hv hs (Nat.le_refl _) rfl
/-- conditions, however deep -/
theorem kd_all (hf : E.2.2.2.1.category = 1) (hT : ∀ σ : List Int, aTb E σ aTabs) (H : kT w0 T n) : ∀ g, g < 5 → coP E al w0 T n g := by
  intro g
  induction g with
  | zero => exact fun h => kd_mj hf hT H h (ko_mj hf hT H h (fun g1 e => by omega))
  | succ g ih => exact fun h => kd_mj hf hT H h (ko_mj hf hT H h (fun g1 e => by
      have e : g1 = g := by omega
      subst e
      exact ih (by omega)))
end RT
