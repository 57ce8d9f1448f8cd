/-! THE TEXTS, the reference: tokens -/
def bx_A : List ((Int × Int) × (Int × Int)) := [((0, 0), (aI0, aI1)), ((1, 1), (aI0, 922)), ((1, 1), (924, 315903)), ((1, 1), (315905, 380629)), ((1, 1), (380631, 10983955)), ((1, 1), (10983957, 12325518)), ((1, 1), (12325520, 187455941)), ((1, 1), (187455943, 230475328)), ((1, 1), (230475330, 298503039)), ((1, 1), (298503041, aI1)), ((2, 2), (aI0, aI1)), ((3, 3), (aI0, aI1))]
theorem bx_A_of {k v : Int} (hk : 0 ≤ k ∧ k ≤ 3) (hv : aI0 ≤ v ∧ v ≤ aI1) (h0 : ¬ (k = 1 ∧ v = 380630)) (h1 : ¬ (k = 1 ∧ v = 298503040)) (h2 : ¬ (k = 1 ∧ v = 923)) (h3 : ¬ (k = 1 ∧ v = 12325519)) (h4 : ¬ (k = 1 ∧ v = 10983956)) (h5 : ¬ (k = 1 ∧ v = 230475329)) (h6 : ¬ (k = 1 ∧ v = 315904)) (h7 : ¬ (k = 1 ∧ v = 187455942))  : ∃ b ∈ bx_A, (b.1.1 ≤ k ∧ k ≤ b.1.2) ∧ b.2.1 ≤ v ∧ v ≤ b.2.2 := by
  rcases (by omega : k = 0 ∨ k = 1 ∨ k = 2 ∨ k = 3) with rfl | rfl | rfl | rfl
  · exact ⟨_, List.mem_of_getElem? (i := 0) rfl, ⟨by decide, by decide⟩, hv⟩
  · rcases (by omega : (v ≤ 922) ∨ (924 ≤ v ∧ v ≤ 315903) ∨ (315905 ≤ v ∧ v ≤ 380629) ∨ (380631 ≤ v ∧ v ≤ 10983955) ∨ (10983957 ≤ v ∧ v ≤ 12325518) ∨ (12325520 ≤ v ∧ v ≤ 187455941) ∨ (187455943 ≤ v ∧ v ≤ 230475328) ∨ (230475330 ≤ v ∧ v ≤ 298503039) ∨ (298503041 ≤ v)) with c | c | c | c | c | c | c | c | c
    · exact ⟨_, List.mem_of_getElem? (i := 1) rfl, ⟨by decide, by decide⟩, hv.1, c⟩
    · exact ⟨_, List.mem_of_getElem? (i := 2) rfl, ⟨by decide, by decide⟩, c.1, c.2⟩
    · exact ⟨_, List.mem_of_getElem? (i := 3) rfl, ⟨by decide, by decide⟩, c.1, c.2⟩
    · exact ⟨_, List.mem_of_getElem? (i := 4) rfl, ⟨by decide, by decide⟩, c.1, c.2⟩
    · exact ⟨_, List.mem_of_getElem? (i := 5) rfl, ⟨by decide, by decide⟩, c.1, c.2⟩
    · exact ⟨_, List.mem_of_getElem? (i := 6) rfl, ⟨by decide, by decide⟩, c.1, c.2⟩
    · exact ⟨_, List.mem_of_getElem? (i := 7) rfl, ⟨by decide, by decide⟩, c.1, c.2⟩
    · exact ⟨_, List.mem_of_getElem? (i := 8) rfl, ⟨by decide, by decide⟩, c.1, c.2⟩
    · exact ⟨_, List.mem_of_getElem? (i := 9) rfl, ⟨by decide, by decide⟩, c, hv.2⟩
  · exact ⟨_, List.mem_of_getElem? (i := 10) rfl, ⟨by decide, by decide⟩, hv⟩
  · exact ⟨_, List.mem_of_getElem? (i := 11) rfl, ⟨by decide, by decide⟩, hv⟩
def bx_S : List ((Int × Int) × (Int × Int)) := [((0, 0), (aI0, aI1)), ((1, 1), (aI0, aI1)), ((2, 2), (aI0, aI1)), ((3, 3), (aI0, 59)), ((3, 3), (63, aI1))]
theorem bx_S_of {k v : Int} (hk : 0 ≤ k ∧ k ≤ 3) (hv : aI0 ≤ v ∧ v ≤ aI1)  (g0 : ¬ (k = 3 ∧ v = 60)) (g1 : ¬ (k = 3 ∧ v = 61)) (g2 : ¬ (k = 3 ∧ v = 62)) : ∃ b ∈ bx_S, (b.1.1 ≤ k ∧ k ≤ b.1.2) ∧ b.2.1 ≤ v ∧ v ≤ b.2.2 := by
  rcases (by omega : k = 0 ∨ k = 1 ∨ k = 2 ∨ k = 3) with rfl | rfl | rfl | rfl
  · exact ⟨_, List.mem_of_getElem? (i := 0) rfl, ⟨by decide, by decide⟩, hv⟩
  · exact ⟨_, List.mem_of_getElem? (i := 1) rfl, ⟨by decide, by decide⟩, hv⟩
  · exact ⟨_, List.mem_of_getElem? (i := 2) rfl, ⟨by decide, by decide⟩, hv⟩
  · rcases (by omega : (v ≤ 59) ∨ (63 ≤ v)) with c | c
    · exact ⟨_, List.mem_of_getElem? (i := 3) rfl, ⟨by decide, by decide⟩, hv.1, c⟩
    · exact ⟨_, List.mem_of_getElem? (i := 4) rfl, ⟨by decide, by decide⟩, c, hv.2⟩
section
set_option maxRecDepth 100000
theorem ra_0 : hp_chk gV0 1000 2 233 (0, [(0, 250)], [], [((99, ae_k 22), ae_s 0)], [(0, .inr (0, 99))], []) [] [(5, [(0, 250)], [], [(0, .inr (0, 99)), (1, .inl (ae_s 0))], [], [], [], mMU)] = true := by decide +kernel
theorem ra_1 : hp_chk gV0 1000 2 233 (5, [(0, 250), (0, 249)], [([(0, (-1)), (1, 1)], 1)], [((99, ae_k 19), ae_s 0), ((118, ae_s 1), ae_k 32)], [(0, .inr (0, 99)), (1, .inl (ae_s 1))], []) [] [(5, [(0, 250), (0, 249)], [], [(0, .inr (0, 99)), (1, .inl (([(1, 1)], 1)))], [], [], [], mMU)] = true := by decide +kernel
theorem ra_2 : hp_chk gV0 1000 2 233 (5, [(0, 250)], [], [((99, ae_k 19), ae_s 0)], [(0, .inr (0, 99)), (1, .inl (ae_s 0))], []) [] [(30, [(0, 250)], [], [(0, .inr (0, 99)), (1, .inl (ae_s 0))], [], [], [], mMU)] = true := by decide +kernel
theorem ra_3 : hp_chk gV0 1000 2 233 (5, [(0, 250), (0, 249), (aI0, 31)], [([(0, (-1)), (1, 1)], 1)], [((99, ae_k 19), ae_s 0), ((118, ae_s 1), ae_s 2)], [(0, .inr (0, 99)), (1, .inl (ae_s 1))], []) [] [(30, [(0, 250), (0, 249), (aI0, 31)], [], [(0, .inr (0, 99)), (1, .inl (ae_s 1))], [], [], [], mMU)] = true := by decide +kernel
theorem ra_4 : hp_chk gV0 1000 2 233 (5, [(0, 250), (0, 249), (33, aI1)], [([(0, (-1)), (1, 1)], 1)], [((99, ae_k 19), ae_s 0), ((118, ae_s 1), ae_s 2)], [(0, .inr (0, 99)), (1, .inl (ae_s 1))], []) [] [(30, [(0, 250), (0, 249), (33, aI1)], [], [(0, .inr (0, 99)), (1, .inl (ae_s 1))], [], [], [], mMU)] = true := by decide +kernel
theorem ra_5 : lp_chk gR 2 233 (30, [(0, 250)], [], [((99, ae_k 19), ae_s 0)], [(0, .inr (0, 99)), (1, .inl (ae_s 0))], []) 265 [] [] [(99, some (ae_k 22, ae_s 0)), (99, some (ae_k 20, ae_k 0)), (99, some (ae_k 23, ae_k 0)), (99, some (ae_k 21, ae_s 0))] = true := by decide +kernel
theorem ra_6a : lp_chk gR 2 233 (30, [(0, 250), (0, 249), (aI0, 47)], [([(0, (-1)), (1, 1)], 1)], [((99, ae_k 19), ae_s 0), ((118, ae_s 1), ae_s 2)], [(0, .inr (0, 99)), (1, .inl (ae_s 1))], []) 265 [] [] [(99, some (ae_k 22, ([(1, 1)], 1))), (99, some (ae_k 23, ae_s 2)), (99, some (ae_k 20, ae_k 3)), (99, some (ae_k 23, ae_k 0)), (99, some (ae_k 21, ae_s 1))] = true := by decide +kernel
theorem ra_6b : lp_chk gR 2 233 (30, [(0, 250), (0, 249), (58, 96)], [([(0, (-1)), (1, 1)], 1)], [((99, ae_k 19), ae_s 0), ((118, ae_s 1), ae_s 2)], [(0, .inr (0, 99)), (1, .inl (ae_s 1))], []) 265 [] [] [(99, some (ae_k 22, ([(1, 1)], 1))), (99, some (ae_k 23, ae_s 2)), (99, some (ae_k 20, ae_k 3)), (99, some (ae_k 23, ae_k 0)), (99, some (ae_k 21, ae_s 1))] = true := by decide +kernel
theorem ra_6c : lp_chk gR 2 233 (30, [(0, 250), (0, 249), (123, aI1)], [([(0, (-1)), (1, 1)], 1)], [((99, ae_k 19), ae_s 0), ((118, ae_s 1), ae_s 2)], [(0, .inr (0, 99)), (1, .inl (ae_s 1))], []) 265 [] [] [(99, some (ae_k 22, ([(1, 1)], 1))), (99, some (ae_k 23, ae_s 2)), (99, some (ae_k 20, ae_k 3)), (99, some (ae_k 23, ae_k 0)), (99, some (ae_k 21, ae_s 1))] = true := by decide +kernel
theorem ra_7 : lp_chk gR 2 233 (30, [(0, 250), (0, 249), (97, 122)], [([(0, (-1)), (1, 1)], 1)], [((99, ae_k 19), ae_s 0), ((118, ae_s 1), ae_s 2)], [(0, .inr (0, 99)), (1, .inl (ae_s 1))], []) 73 [(0, .inr (0, 99)), (1, .inl (ae_s 1))] [] [(99, some (ae_k 20, ae_k 1)), (99, some (ae_k 23, ae_k 0)), (99, some (ae_k 21, ae_s 1))] = true := by decide +kernel
theorem ra_8 : lp_chk gR 2 233 (30, [(0, 250), (0, 249), (48, 57)], [([(0, (-1)), (1, 1)], 1)], [((99, ae_k 19), ae_s 0), ((118, ae_s 1), ae_s 2)], [(0, .inr (0, 99)), (1, .inl (ae_s 1))], []) 178 [(0, .inr (0, 99)), (1, .inl (ae_s 1))] [] [(99, some (ae_k 20, ae_k 2)), (99, some (ae_k 23, ae_k 0)), (99, some (ae_k 21, ae_s 1))] = true := by decide +kernel
theorem ra_9 : lp_chk gR 2 233 (73, [(0, 250), (0, 249), (0, 249), (0, 14348906), (97, 122)], [([(0, (-1)), (1, 1)], 1), ([(1, (-1)), (2, 1)], 0), ([(1, 1), (2, (-1))], (-5))], [((99, ae_k 19), ae_s 0), ((118, ae_s 1), ae_s 4), ((99, ae_k 21), ae_s 2), ((99, ae_k 23), ae_s 3)], [(0, .inr (0, 99)), (1, .inl (ae_s 1))], []) 73 [(0, .inr (0, 99)), (1, .inl (([(1, 1)], 1)))] [] [(99, some (ae_k 23, ([(3, 27), (4, 1)], (-96))))] = true := by decide +kernel
theorem ra_a : lp_chk gR 2 233 (73, [(0, 250), (0, 249), (0, 249), (97, 122)], [([(0, (-1)), (1, 1)], 1), ([(1, (-1)), (2, 1)], 6)], [((99, ae_k 19), ae_s 0), ((118, ae_s 1), ae_s 3), ((99, ae_k 21), ae_s 2)], [(0, .inr (0, 99)), (1, .inl (ae_s 1))], []) 73 [(0, .inr (0, 99)), (1, .inl (([(1, 1)], 1)))] [] [(99, some (ae_k 23, ae_k 0))] = true := by decide +kernel
theorem ra_b : hp_chk gV0 1000 2 233 (73, [(0, 250)], [], [((99, ae_k 19), ae_s 0)], [(0, .inr (0, 99)), (1, .inl (ae_s 0))], []) [] [(135, [(0, 250)], [], [(0, .inr (0, 99)), (1, .inl (ae_s 0))], [], [], [], mMU)] = true := by decide +kernel
theorem ra_c : hp_chk gV0 1000 2 233 (73, [(0, 250), (0, 249), (aI0, 96)], [([(0, (-1)), (1, 1)], 1)], [((99, ae_k 19), ae_s 0), ((118, ae_s 1), ae_s 2)], [(0, .inr (0, 99)), (1, .inl (ae_s 1))], []) [] [(135, [(0, 250), (0, 249), (aI0, 96)], [], [(0, .inr (0, 99)), (1, .inl (ae_s 1))], [], [], [], mMU)] = true := by decide +kernel
theorem ra_d : hp_chk gV0 1000 2 233 (73, [(0, 250), (0, 249), (123, aI1)], [([(0, (-1)), (1, 1)], 1)], [((99, ae_k 19), ae_s 0), ((118, ae_s 1), ae_s 2)], [(0, .inr (0, 99)), (1, .inl (ae_s 1))], []) [] [(135, [(0, 250), (0, 249), (123, aI1)], [], [(0, .inr (0, 99)), (1, .inl (ae_s 1))], [], [], [], mMU)] = true := by decide +kernel
theorem ra_e : lp_chk gR 2 233 (135, [(0, 250), (0, 249), aF], [([(0, (-1)), (1, 1)], 0), ([(0, 1), (1, (-1))], (-6))], [((99, ae_k 21), ae_s 1), ((99, ae_k 23), ae_s 2)], [(0, .inr (0, 99)), (1, .inl (ae_s 0))], []) 265 [] [] [(99, some (ae_k 22, ae_s 0)), (99, some (ae_k 23, ae_s 2))] = true := by decide +kernel
theorem ra_f : lp_chk gR 2 233 (135, [(0, 250), (0, 249)], [([(0, (-1)), (1, 1)], 7)], [((99, ae_k 21), ae_s 1)], [(0, .inr (0, 99)), (1, .inl (ae_s 0))], []) 265 [] [] [(99, some (ae_k 22, ae_s 0)), (99, some (ae_k 23, ae_k 0))] = true := by decide +kernel
theorem ra_g : lp_chk gR 2 233 (178, [(0, 250), (0, 249), (0, 249), (0, 99), (48, 57)], [([(0, (-1)), (1, 1)], 1), ([(1, (-1)), (2, 1)], 0), ([(1, 1), (2, (-1))], (-2))], [((99, ae_k 19), ae_s 0), ((118, ae_s 1), ae_s 4), ((99, ae_k 21), ae_s 2), ((99, ae_k 23), ae_s 3)], [(0, .inr (0, 99)), (1, .inl (ae_s 1))], []) 178 [(0, .inr (0, 99)), (1, .inl (([(1, 1)], 1)))] [] [(99, some (ae_k 23, ([(3, 10), (4, 1)], (-48))))] = true := by decide +kernel
theorem ra_h : lp_chk gR 2 233 (178, [(0, 250), (0, 249), (0, 249), (0, 999), (48, 57)], [([(0, (-1)), (1, 1)], 1), ([(1, (-1)), (2, 1)], 3)], [((99, ae_k 19), ae_s 0), ((118, ae_s 1), ae_s 4), ((99, ae_k 21), ae_s 2), ((99, ae_k 23), ae_s 3)], [(0, .inr (0, 99)), (1, .inl (ae_s 1))], []) 178 [(0, .inr (0, 99)), (1, .inl (([(1, 1)], 1)))] [] [(99, some (ae_k 23, ae_s 3))] = true := by decide +kernel
theorem ra_i : lp_chk gR 2 233 (178, [(0, 250)], [], [((99, ae_k 19), ae_s 0)], [(0, .inr (0, 99)), (1, .inl (ae_s 0))], []) 265 [] [] [(99, some (ae_k 22, ae_s 0))] = true := by decide +kernel
theorem ra_j : lp_chk gR 2 233 (178, [(0, 250), (0, 249), (aI0, 47)], [([(0, (-1)), (1, 1)], 1)], [((99, ae_k 19), ae_s 0), ((118, ae_s 1), ae_s 2)], [(0, .inr (0, 99)), (1, .inl (ae_s 1))], []) 265 [] [] [(99, some (ae_k 22, ae_s 1))] = true := by decide +kernel
theorem ra_k : lp_chk gR 2 233 (178, [(0, 250), (0, 249), (58, aI1)], [([(0, (-1)), (1, 1)], 1)], [((99, ae_k 19), ae_s 0), ((118, ae_s 1), ae_s 2)], [(0, .inr (0, 99)), (1, .inl (ae_s 1))], []) 265 [] [] [(99, some (ae_k 22, ae_s 1))] = true := by decide +kernel
theorem rw1_0 : hp_chk gV0 1000 4 241 (0, [(aI0, (-1))], [], [((99, ae_k 24), ae_s 0)], [(0, .inr (0, 99)), (1, .inl (ae_k 1))], []) [] [(12, [(aI0, (-1))], [], [], [.inr (0, 99)], [], [], mMU)] = true := by decide +kernel
theorem rw1_1 : hp_chk gV0 1000 4 241 (15, [], [], [], [], []) [] [(22, [], [], [], [], [], [], mMU)] = true := by decide +kernel
theorem rw1_2 : lp_chk gR 4 241 (0, [(aI0, (-1)), (0, 250)], [], [((99, ae_k 24), ae_s 0), ((99, ae_k 21), ae_s 1)], [(0, .inr (0, 99)), (1, .inl (ae_k 0))], []) 22 [] [] [(99, some (ae_k 24, ae_s 1))] = true := by decide +kernel
theorem rn_0 : hp_chk gV0 1000 5 240 (0, [(aI0, (-1)), (0, 250), (0, 250), aF, (0, 999)], [([(1, (-1)), (2, 1)], (-3)), ([(3, 1), (4, (-1))], 0)], [((99, ae_k 24), ae_s 0), ((99, ae_k 21), ae_s 1), ((99, ae_k 22), ae_s 2), ((99, ae_k 20), ae_k 2), ((99, ae_k 23), ae_s 3)], [(0, .inr (0, 99)), (1, .inl (ae_s 4))], []) [] [(39, [(aI0, (-1)), (0, 250), (0, 250), aF, (0, 999)], [], [(2, .inl (ae_s 3))], [.inr (0, 99)], [], [], mMU)] = true := by decide +kernel
theorem rn_1 : hp_chk gV0 1000 5 240 (42, [aF], [], [], [(2, .inl (ae_s 0))], []) [] [(50, [aF], [], [], [.inl (ae_s 0)], [], [], mMU)] = true := by decide +kernel
theorem rn_2 : lp_chk gR 5 240 (0, [(aI0, (-1)), (0, 250), aF, (0, 999), (0, 1)], [], [((99, ae_k 24), ae_s 0), ((99, ae_k 21), ae_s 1), ((99, ae_k 20), ae_s 4), ((99, ae_k 23), ae_s 2)], [(0, .inr (0, 99)), (1, .inl (ae_s 3))], []) 50 [] [.inl (ae_s 2)] [(99, some (ae_k 24, ae_s 1))] = true := by decide +kernel
theorem rn_3 : lp_chk gR 5 240 (0, [(aI0, (-1)), (0, 250), aF, (0, 999), (3, 3)], [], [((99, ae_k 24), ae_s 0), ((99, ae_k 21), ae_s 1), ((99, ae_k 20), ae_s 4), ((99, ae_k 23), ae_s 2)], [(0, .inr (0, 99)), (1, .inl (ae_s 3))], []) 50 [] [.inl (ae_s 2)] [(99, some (ae_k 24, ae_s 1))] = true := by decide +kernel
theorem rn_4 : lp_chk gR 5 240 (0, [(aI0, (-1)), (0, 250), (0, 250), aF, (0, 999)], [([(1, 1), (2, (-1))], 4)], [((99, ae_k 24), ae_s 0), ((99, ae_k 21), ae_s 1), ((99, ae_k 22), ae_s 2), ((99, ae_k 20), ae_k 2), ((99, ae_k 23), ae_s 3)], [(0, .inr (0, 99)), (1, .inl (ae_s 4))], []) 50 [] [.inl (ae_s 3)] [(99, some (ae_k 24, ae_s 1))] = true := by decide +kernel
theorem rn_5 : lp_chk gR 5 240 (0, [(aI0, (-1)), (0, 250), (0, 250), aF, (0, 999)], [([(1, (-1)), (2, 1)], (-3)), ([(3, (-1)), (4, 1)], 1)], [((99, ae_k 24), ae_s 0), ((99, ae_k 21), ae_s 1), ((99, ae_k 22), ae_s 2), ((99, ae_k 20), ae_k 2), ((99, ae_k 23), ae_s 3)], [(0, .inr (0, 99)), (1, .inl (ae_s 4))], []) 50 [] [.inl (ae_s 3)] [(99, some (ae_k 24, ae_s 1))] = true := by decide +kernel
theorem rh_0 : hp_chk gV0 1000 5 243 (0, [aF, (0, 256)], [], [((99, ae_k 29), ae_s 1)], [(0, .inr (0, 99)), (1, .inl (ae_s 0))], []) [] [(9, [aF, (0, 256)], [], [(0, .inr (0, 99))], [.inl (ae_s 0), .inl (ae_s 1), .inr (0, 121)], [], [], mMU)] = true := by decide +kernel
theorem rh_1 : lp_chk gR 5 243 (10, [(0, 255)], [], [((99, ae_k 29), ae_s 0)], [(0, .inr (0, 99))], []) 21 [] [.inr (0, 99)] [(99, some (ae_k 29, ([(0, 1)], 1)))] = true := by decide +kernel
theorem rq_s1 : hp_chk gV0 1000 6 245 (0, [], [], [((99, ae_k 20), ae_k 1), ((99, ae_k 23), ae_k 380630)], [(0, .inr (0, 99))], []) [] [(36, [], [], [(0, .inr (0, 99))], [.inl (ae_k 1), .inr (0, 99)], [], [], mMU)] = true := by decide +kernel
theorem rq_s2 : hp_chk gV0 1000 6 245 (0, [], [], [((99, ae_k 20), ae_k 1), ((99, ae_k 23), ae_k 298503040)], [(0, .inr (0, 99))], []) [] [(36, [], [], [(0, .inr (0, 99))], [.inl (ae_k 2), .inr (0, 99)], [], [], mMU)] = true := by decide +kernel
theorem rq_t : hp_chk gV0 1000 6 245 (39, [], [], [], [(0, .inr (0, 99))], []) [] [(40, [], [], [], [.inr (0, 99)], [], [], mMU)] = true := by decide +kernel
theorem rq_f0 : hp_chk gV0 1000 6 245 (0, [], [], [((99, ae_k 20), ae_k 1), ((99, ae_k 23), ae_k 923)], [(0, .inr (0, 99))], []) [] [(59, [], [], [(0, .inr (0, 99)), (1, .inl (ae_k 0))], [.inl (ae_k 1), .inr (0, 99)], [], [], mMU)] = true := by decide +kernel
theorem rq_f1 : hp_chk gV0 1000 6 245 (0, [], [], [((99, ae_k 20), ae_k 1), ((99, ae_k 23), ae_k 12325519)], [(0, .inr (0, 99))], []) [] [(59, [], [], [(0, .inr (0, 99)), (1, .inl (ae_k 1))], [.inl (ae_k 1), .inr (0, 99)], [], [], mMU)] = true := by decide +kernel
theorem rq_f2 : hp_chk gV0 1000 6 245 (0, [], [], [((99, ae_k 20), ae_k 1), ((99, ae_k 23), ae_k 10983956)], [(0, .inr (0, 99))], []) [] [(59, [], [], [(0, .inr (0, 99)), (1, .inl (ae_k 2))], [.inl (ae_k 1), .inr (0, 99)], [], [], mMU)] = true := by decide +kernel
theorem rq_f3 : hp_chk gV0 1000 6 245 (0, [], [], [((99, ae_k 20), ae_k 1), ((99, ae_k 23), ae_k 230475329)], [(0, .inr (0, 99))], []) [] [(59, [], [], [(0, .inr (0, 99)), (1, .inl (ae_k 3))], [.inl (ae_k 1), .inr (0, 99)], [], [], mMU)] = true := by decide +kernel
theorem rq_f4 : hp_chk gV0 1000 6 245 (0, [], [], [((99, ae_k 20), ae_k 1), ((99, ae_k 23), ae_k 315904)], [(0, .inr (0, 99))], []) [] [(59, [], [], [(0, .inr (0, 99)), (1, .inl (ae_k 4))], [.inl (ae_k 1), .inr (0, 99)], [], [], mMU)] = true := by decide +kernel
theorem rq_f5 : hp_chk gV0 1000 6 245 (0, [], [], [((99, ae_k 20), ae_k 1), ((99, ae_k 23), ae_k 187455942)], [(0, .inr (0, 99))], []) [] [(59, [], [], [(0, .inr (0, 99)), (1, .inl (ae_k 5))], [.inl (ae_k 1), .inr (0, 99)], [], [], mMU)] = true := by decide +kernel
theorem rq_n : ∀ b ∈ bx_A, hp_chk gV0 1000 6 245 (0, [b.1, b.2], [], [((99, ae_k 20), ae_s 0), ((99, ae_k 23), ae_s 1)], [(0, .inr (0, 99))], []) [] [(59, [b.1, b.2], [], [(0, .inr (0, 99)), (1, .inl (ae_k (-1)))], [.inl (ae_k 0), .inr (0, 99)], [], [], mMU)] = true := by decide +kernel
theorem rq_g0 : hp_chk gV0 1000 6 245 (62, [(0, 5)], [], [((99, ae_k 20), ae_k 3), ((99, ae_k 23), ae_k 60)], [(0, .inr (0, 99)), (1, .inl (ae_s 0))], []) [] [(113, [(0, 5)], [], [(0, .inr (0, 99)), (1, .inl (ae_s 0)), (2, .inl (ae_k 0))], [.inl (ae_k 1), .inr (0, 99)], [], [], mMU)] = true := by decide +kernel
theorem rq_g1 : hp_chk gV0 1000 6 245 (62, [(0, 5)], [], [((99, ae_k 20), ae_k 3), ((99, ae_k 23), ae_k 61)], [(0, .inr (0, 99)), (1, .inl (ae_s 0))], []) [] [(113, [(0, 5)], [], [(0, .inr (0, 99)), (1, .inl (ae_s 0)), (2, .inl (ae_k 1))], [.inl (ae_k 1), .inr (0, 99)], [], [], mMU)] = true := by decide +kernel
theorem rq_g2 : hp_chk gV0 1000 6 245 (62, [(0, 5)], [], [((99, ae_k 20), ae_k 3), ((99, ae_k 23), ae_k 62)], [(0, .inr (0, 99)), (1, .inl (ae_s 0))], []) [] [(113, [(0, 5)], [], [(0, .inr (0, 99)), (1, .inl (ae_s 0)), (2, .inl (ae_k 2))], [.inl (ae_k 1), .inr (0, 99)], [], [], mMU)] = true := by decide +kernel
theorem rq_h : ∀ b ∈ bx_S, hp_chk gV0 1000 6 245 (62, [(0, 5), b.1, b.2], [], [((99, ae_k 20), ae_s 1), ((99, ae_k 23), ae_s 2)], [(0, .inr (0, 99)), (1, .inl (ae_s 0))], []) [] [(113, [(0, 5), b.1, b.2], [], [(0, .inr (0, 99)), (1, .inl (ae_s 0)), (2, .inl (ae_k (-1)))], [.inl (ae_k 0), .inr (0, 99)], [], [], mMU)] = true := by decide +kernel
theorem rq_i : hp_chk gV0 1000 6 245 (116, [(0, 5), (0, 2)], [], [], [(0, .inr (0, 99)), (1, .inl (ae_s 0)), (2, .inl (ae_s 1))], []) [] [(120, [(0, 5), (0, 2)], [], [(0, .inr (0, 99)), (1, .inl (ae_s 0)), (2, .inl (ae_s 1))], [.inl (ae_k 999), .inr (0, 99)], [], [], mMU)] = true := by decide +kernel
theorem rq_j : hp_chk gV0 1000 6 245 (123, [(0, 5), (0, 2), (0, 999), (aI0, (-1))], [], [((99, ae_k 24), ae_s 3)], [(0, .inr (0, 99)), (1, .inl (ae_s 0)), (2, .inl (ae_s 1))], [.inl (ae_s 2)]) [] [(149, [(0, 5), (0, 2), (0, 999), (aI0, (-1))], [], [(0, .inr (0, 99))], [.inl (([(0, 4000), (1, 1000), (2, 1)], 10000)), .inr (0, 99)], [], [], mMU)] = true := by decide +kernel
theorem rq_k : hp_chk gV0 1000 6 245 (123, [(0, aI1), aF], [], [((99, ae_k 24), ae_s 0)], [(0, .inr (0, 99))], [.inl (ae_s 1)]) [] [(152, [(0, aI1), aF], [], [], [], [], [], mMU)] = true := by decide +kernel
theorem rq_l : hp_chk gV0 1000 6 245 (116, [(0, aI1), aF], [], [((99, ae_k 24), ae_s 0), ((99, ae_k 23), ae_s 1)], [(0, .inr (0, 99))], []) [] [(152, [(0, aI1), aF], [], [], [], [], [], mMU)] = true := by decide +kernel
theorem rq_m : hp_chk gV0 1000 6 245 (62, [(0, aI1), aF, (0, 3)], [], [((99, ae_k 24), ae_s 0), ((99, ae_k 23), ae_s 1), ((99, ae_k 20), ae_s 2)], [(0, .inr (0, 99))], []) [] [(152, [(0, aI1), aF, (0, 3)], [], [], [], [], [], mMU)] = true := by decide +kernel
end
section RR
variable {E : mj_E} {Q : Option Value → va_W → Prop} {al : List Nat} {w w0 w1 w2 ws : va_W} {T : Nat → Int} {n : Nat} {ρ : List Int}
/-- a piece by its log, the whole invariant kept -/
theorem kz_lg (H : hOk E al gR jJ) (h : hI E al jJ ws) {d y pc pc2 : Nat} (hy : y < mj_lawNo) {ρ : List Int} {env : List (Int × Int)} {fs : List ae} {h0 : aH} {lv lv2 lvk lvk2 : List (Nat × av)} {st st2 stk stk2 : List av} {log : aW}
    (hc : lp_chk gR d y (pc, env, fs, h0, lv, st) pc2 lv2 st2 log = true) (h1 : hEv ρ env) (h2 : aFs ρ fs) (h3 : aHh ρ ws h0) (r1 : lv.all (fun q => av_rg ρ.length q.2) = true) (r2 : st.all (av_rg ρ.length) = true)
    (e1 : lvE ρ lv = lvk) (e2 : st.map (avE ρ) = stk) (e3 : lvE ρ lv2 = lvk2) (e4 : st2.map (avE ρ) = stk2)
    (hq : ∀ w2, hI E al jJ w2 → hD (log.map (·.1)) ws w2 → (∀ c k, jS w2 c k = lg_ap ρ c (jS ws c) log k) → hG E al d y pc2 lvk2 stk2 [] w2 Q) : hG E al d y pc lvk stk [] ws Q :=
  (lp_go (p := (pc, env, fs, h0, lv, st)) H hy hc ⟨h1.ok, h2, h3, h.1, h.2.1, h.2.2⟩ (fun w2 b1 b2 b3 b4 b5 => (hq w2 ⟨b1, b2, b3⟩ b4 b5).ofK e3 e4)).toK r1 r2 e1 e2
theorem jFS {J : va_W → Prop} (h : hI E al J w) (i : Nat) : jF w i = jS w 99 i := by
  obtain ⟨a, ⟨ci, vs⟩, hw⟩ := h.obj
  unfold jF jS
  rw [hw]
  rfl
theorem rsl {J : va_W → Prop} (h : hI E al J w) {i : Nat} {b : Int × Int} (hb : aM[i]? = some (.inr b)) {x : Int} (hx : jF w i = x) : aSl w 99 i x := by
  rw [← hx]
  exact ((h.1.fld aLay_99).2 i b hb).1
/-- the tape -/
def rtT (w : va_W) (T : Nat → Int) (n : Nat) : Prop := n ≤ 250 ∧ (∀ i, i < n → jS w 118 i = T i) ∧ ∀ i, aI0 ≤ T i ∧ T i ≤ aI1
theorem jL_118 : ∀ k, k < 250 → (jLay 118 k).isSome = true := by decide +kernel
theorem rtT.sl {J : va_W → Prop} (HT : rtT w T n) (h : hI E al J w) {k : Nat} (hk : k < n) : aSl w 118 k (T k) := by
  rw [← HT.2.1 k hk]
  exact jLay_sl h.1 (jL_118 k (by have := HT.1; omega))
theorem rtT.more {cs : List Nat} (HT : rtT w T n) (hd : hD cs w w2) (hc : 118 ∉ cs) : rtT w2 T n := ⟨HT.1, fun i hi => (jS.at (hd.2 118 hc)).trans (HT.2.1 i hi), HT.2.2⟩
/-- the token that is looked at -/
def rtk (w : va_W) (T : Nat → Int) (n s : Nat) : Prop := s ≤ n ∧ jF w 19 = (n : Int) ∧ jF w 20 = tK T n s ∧ jF w 21 = (s : Int) ∧ jF w 22 = (tE T n s : Int) ∧ jF w 23 = tV T n s
theorem rtk.t {s : Nat} (h : rtk w T n s) (ht : rT w w2) : rtk w2 T n s := by
  obtain ⟨h0, h1, h2, h3, h4, h5⟩ := h
  obtain ⟨t1, t2, t3, t4, t5, t6⟩ := ht
  exact ⟨h0, t1.trans h1, t2.trans h2, t3.trans h3, t4.trans h4, t5.trans h5⟩
theorem tK_b {s : Nat} : 0 ≤ tK T n s ∧ tK T n s ≤ 3 := by
  unfold tK
  repeat' split
  all_goals omega
theorem v10_3 {s : Nat} : ∀ k, k ≤ 3 → (∀ i, i < k → 48 ≤ T (s + i) ∧ T (s + i) ≤ 57) → 0 ≤ v10 T s k ∧ (k ≤ 2 → v10 T s k ≤ 99) ∧ v10 T s k ≤ 999 := by
  intro k hk d
  match k, hk, d with
  | 0, _, _ => exact ⟨Int.le_refl 0, fun _ => (by decide : (0 : Int) ≤ 99), (by decide : (0 : Int) ≤ 999)⟩
  | 1, _, d =>
    have d0 := d 0 (by omega)
    show 0 ≤ 10 * 0 + T (s + 0) - 48 ∧ (_ → 10 * 0 + T (s + 0) - 48 ≤ 99) ∧ 10 * 0 + T (s + 0) - 48 ≤ 999
    omega
  | 2, _, d =>
    have d0 := d 0 (by omega)
    have d1 := d 1 (by omega)
    show 0 ≤ 10 * (10 * 0 + T (s + 0) - 48) + T (s + 1) - 48 ∧ (_ → 10 * (10 * 0 + T (s + 0) - 48) + T (s + 1) - 48 ≤ 99) ∧ 10 * (10 * 0 + T (s + 0) - 48) + T (s + 1) - 48 ≤ 999
    omega
  | 3, _, d =>
    have d0 := d 0 (by omega)
    have d1 := d 1 (by omega)
    have d2 := d 2 (by omega)
    show 0 ≤ 10 * (10 * (10 * 0 + T (s + 0) - 48) + T (s + 1) - 48) + T (s + 2) - 48 ∧ (_ → 10 * (10 * (10 * 0 + T (s + 0) - 48) + T (s + 1) - 48) + T (s + 2) - 48 ≤ 99) ∧ 10 * (10 * (10 * 0 + T (s + 0) - 48) + T (s + 1) - 48) + T (s + 2) - 48 ≤ 999
    omega
  | k + 4, hk, _ => omega
theorem v27_5 {s : Nat} : ∀ k, k ≤ 5 → (∀ i, i < k → 97 ≤ T (s + i) ∧ T (s + i) ≤ 122) → 0 ≤ v27 T s k ∧ v27 T s k ≤ 14348906 := by
  intro k hk d
  have z : v27 T s 0 = 0 := rfl
  have s0 : v27 T s 1 = 27 * v27 T s 0 + T (s + 0) - 96 := rfl
  have s1 : v27 T s 2 = 27 * v27 T s 1 + T (s + 1) - 96 := rfl
  have s2 : v27 T s 3 = 27 * v27 T s 2 + T (s + 2) - 96 := rfl
  have s3 : v27 T s 4 = 27 * v27 T s 3 + T (s + 3) - 96 := rfl
  have s4 : v27 T s 5 = 27 * v27 T s 4 + T (s + 4) - 96 := rfl
  have p := fun k (h : ∀ i, i < k → 97 ≤ T (s + i) ∧ T (s + i) ≤ 122) => (v27_p (T := T) (s := s) k h).1
  refine ⟨p k d, ?_⟩
  match k, hk, d with
  | 0, _, _ => omega
  | 1, _, d =>
    have d0 := d 0 (by omega)
    omega
  | 2, _, d =>
    have d0 := d 0 (by omega)
    have d1 := d 1 (by omega)
    omega
  | 3, _, d =>
    have d0 := d 0 (by omega)
    have d1 := d 1 (by omega)
    have d2 := d 2 (by omega)
    omega
  | 4, _, d =>
    have d0 := d 0 (by omega)
    have d1 := d 1 (by omega)
    have d2 := d 2 (by omega)
    have d3 := d 3 (by omega)
    omega
  | 5, _, d =>
    have d0 := d 0 (by omega)
    have d1 := d 1 (by omega)
    have d2 := d 2 (by omega)
    have d3 := d 3 (by omega)
    have d4 := d 4 (by omega)
    omega
  | k + 6, hk, _ => omega
/-- a good state's kind -/
theorem rtk.K {s : Nat} (hk : rtk w T n s) (hg : jF w 24 < 0) : ∃ t, t < 4 ∧ rK t w ∧ (t : Int) = tK T n s := by
  obtain ⟨h0, h1, h2, h3, h4, h5⟩ := hk
  have kb := tK_b (T := T) (n := n) (s := s)
  have be := tE_le (T := T) h0
  obtain ⟨t, ht⟩ : ∃ t : Nat, tK T n s = (t : Int) := ⟨(tK T n s).toNat, by omega⟩
  refine ⟨t, by omega, ⟨fun _ => by omega, fun _ => hg, fun h => by omega, fun h => ?_, fun _ => by omega, fun h1 h3 => ?_⟩, ht.symm⟩
  · subst h
    obtain ⟨hs, hd⟩ := tK_2 (show tK T n s = 2 by omega)
    rw [h5, (tK_d hs hd).2]
    have := v10_3 (T := T) (s := s) (min 3 (tE T n s - s)) (by omega) (fun i hi => tE_dig (i := s + i) hs hd (by omega) (by omega))
    exact ⟨this.1, this.2.2⟩
  · have hs : s < n := by
      by_cases e : s < n
      · exact e
      · have : tK T n s = 0 := by
          unfold tK
          rw [if_pos (by omega)]
        omega
    have := tE_lt (T := T) hs
    omega
theorem rtk.K4 {s : Nat} (hk : rtk w T n s) (hg : 0 ≤ jF w 24) : rK 4 w := by
  obtain ⟨h0, h1, h2, h3, h4, h5⟩ := hk
  have be := tE_le (T := T) h0
  exact ⟨fun h => by omega, fun h => by omega, fun _ => hg, fun h => by omega, fun _ => by omega, fun h h2 => by omega⟩
/-- advance: blanks -/
theorem ra_sk (hf : E.2.2.2.1.category = 1) (hT : ∀ σ : List Int, aTb E σ aTabs) (H : hOk E al gR jJ) (h : hI E al jJ w) (HT : rtT w T n) (h19 : jF w 19 = (n : Int)) : ∀ (m p : Nat), n - p ≤ m → p ≤ n → hG E al 2 233 30 [(0, .inr (0, 99)), (1, .inl (ae_k ((tS T n p : Nat) : Int)))] [] [] w Q → hG E al 2 233 5 [(0, .inr (0, 99)), (1, .inl (ae_k (p : Int)))] [] [] w Q := by
  have bn := HT.1
  have s19 := rsl h (i := 19) (b := (0, 250)) (by decide +kernel) h19
  intro m
  induction m with
  | zero =>
    intro p hm hp hk
    have e : p = n := by omega
    subst e
    rw [tS_eq, if_neg (by omega)] at hk
    refine ky_go hf hT h.1 (by decide) (ρ := [(p : Int)]) ra_2 ⟨⟨by omega, by omega⟩, trivial⟩ aFs.nil (aHh.cons (kn1 (i := 19) (by decide) rfl (ev_s rfl) s19) aHh.nil) (by rfl) (by rfl) (lEr (lEi (ev_s rfl) lE0)) sE0 (lvk2 := [(0, .inr (0, 99)), (1, .inl (ae_k ((p : Int))))]) (lEr (lEi (ev_s rfl) lE0)) (stk2 := []) sE0 ?_
    exact hk
  | succ m ih =>
    intro p hm hp hk
    rw [tS_eq] at hk
    by_cases hpn : p < n
    · have st := HT.sl h hpn
      have bt := HT.2.2 p
      by_cases t0 : T p = 32
      · rw [if_pos ⟨hpn, t0⟩] at hk
        rw [t0] at st
        refine ky_go hf hT h.1 (by decide) (ρ := [(n : Int), (p : Int)]) ra_1 ⟨⟨by omega, by omega⟩, ⟨by omega, by omega⟩, trivial⟩ (aFs.cons rfl (by simp only [ae_ev, ae_el, ae_s, ae_k, List.getD_cons_zero, List.getD_cons_succ]; omega) aFs.nil) (aHh.cons (kn1 (i := 19) (by decide) rfl (ev_s rfl) s19) (aHh.cons (kns (by decide) rfl rfl (i := p) (ev_s rfl) ae_ev_k st) aHh.nil)) (by rfl) (by rfl) (lEr (lEi (ev_s rfl) lE0)) sE0 (lvk2 := [(0, .inr (0, 99)), (1, .inl (ae_k (((p + 1 : Nat) : Int))))]) (lEr (lEi (by simp only [ae_ev, ae_el, ae_s, ae_k, List.getD_cons_zero, List.getD_cons_succ]; omega) lE0)) (stk2 := []) sE0 ?_
        exact ih (p + 1) (by omega) (by omega) hk
      · rw [if_neg (fun q => t0 q.2)] at hk
        by_cases t1 : T p < 32
        · refine ky_go hf hT h.1 (by decide) (ρ := [(n : Int), (p : Int), (T p)]) ra_3 ⟨⟨by omega, by omega⟩, ⟨by omega, by omega⟩, ⟨by omega, by omega⟩, trivial⟩ (aFs.cons rfl (by simp only [ae_ev, ae_el, ae_s, ae_k, List.getD_cons_zero, List.getD_cons_succ]; omega) aFs.nil) (aHh.cons (kn1 (i := 19) (by decide) rfl (ev_s rfl) s19) (aHh.cons (kns (by decide) rfl rfl (i := p) (ev_s rfl) (ev_s rfl) st) aHh.nil)) (by rfl) (by rfl) (lEr (lEi (ev_s rfl) lE0)) sE0 (lvk2 := [(0, .inr (0, 99)), (1, .inl (ae_k ((p : Int))))]) (lEr (lEi (ev_s rfl) lE0)) (stk2 := []) sE0 ?_
          exact hk
        · refine ky_go hf hT h.1 (by decide) (ρ := [(n : Int), (p : Int), (T p)]) ra_4 ⟨⟨by omega, by omega⟩, ⟨by omega, by omega⟩, ⟨by omega, by omega⟩, trivial⟩ (aFs.cons rfl (by simp only [ae_ev, ae_el, ae_s, ae_k, List.getD_cons_zero, List.getD_cons_succ]; omega) aFs.nil) (aHh.cons (kn1 (i := 19) (by decide) rfl (ev_s rfl) s19) (aHh.cons (kns (by decide) rfl rfl (i := p) (ev_s rfl) (ev_s rfl) st) aHh.nil)) (by rfl) (by rfl) (lEr (lEi (ev_s rfl) lE0)) sE0 (lvk2 := [(0, .inr (0, 99)), (1, .inl (ae_k ((p : Int))))]) (lEr (lEi (ev_s rfl) lE0)) (stk2 := []) sE0 ?_
          exact hk
    · have e : p = n := by omega
      rw [if_neg (fun q => hpn q.1)] at hk
      subst e
      refine ky_go hf hT h.1 (by decide) (ρ := [(p : Int)]) ra_2 ⟨⟨by omega, by omega⟩, trivial⟩ aFs.nil (aHh.cons (kn1 (i := 19) (by decide) rfl (ev_s rfl) s19) aHh.nil) (by rfl) (by rfl) (lEr (lEi (ev_s rfl) lE0)) sE0 (lvk2 := [(0, .inr (0, 99)), (1, .inl (ae_k ((p : Int))))]) (lEr (lEi (ev_s rfl) lE0)) (stk2 := []) sE0 ?_
      exact hk
/-- advance: letters -/
theorem ra_wl (hf : E.2.2.2.1.category = 1) (hT : ∀ σ : List Int, aTb E σ aTabs) (H : hOk E al gR jJ) {s e : Nat} (hss : s < n) (hle : 97 ≤ T s ∧ T s ≤ 122) (he : tE T n s = e) (hQ : ∀ w2, hI E al jJ w2 → hD [99] ws w2 → rtk w2 T n s → jF w2 24 = jF ws 24 → jF w2 28 = jF ws 28 → jF w2 29 = jF ws 29 → Q none w2) : ∀ (m p : Nat) (w : va_W), n - p ≤ m → s ≤ p → p ≤ n → tR T n 97 122 p = e → hI E al jJ w → rtT w T n → hD [99] ws w → jF w 19 = (n : Int) → jF w 20 = 1 → jF w 21 = (s : Int) → jF w 23 = (if p ≤ s + 6 then v27 T s (p - s) else 0) → jF w 24 = jF ws 24 → jF w 28 = jF ws 28 → jF w 29 = jF ws 29 → hG E al 2 233 73 [(0, .inr (0, 99)), (1, .inl (ae_k (p : Int)))] [] [] w Q := by
  have HV : hOk E al gV0 (fun _ => True) := hOkV hf hT (fun _ _ _ _ h => h)
  have kk : tK T n s = 1 := by
    unfold tK
    rw [if_neg (by omega), if_pos hle]
  -- the end of the word
  have fin : ∀ (w : va_W), s ≤ e → e ≤ n → hI E al jJ w → hD [99] ws w → jF w 19 = (n : Int) → jF w 20 = 1 → jF w 21 = (s : Int) → jF w 23 = (if e ≤ s + 6 then v27 T s (e - s) else 0) → jF w 24 = jF ws 24 → jF w 28 = jF ws 28 → jF w 29 = jF ws 29 → n ≤ 250 → hG E al 2 233 135 [(0, .inr (0, 99)), (1, .inl (ae_k (e : Int)))] [] [] w Q := by
    intro w hse hen h hd h19 h20 h21 h23 h24 h28 h29 bn
    have s21 := rsl h (i := 21) (b := (0, 250)) (by decide +kernel) h21
    by_cases c : e ≤ s + 6
    · rw [if_pos c] at h23
      have s23 := rsl h (i := 23) (b := aF) (by decide +kernel) h23
      have bv := h.f (i := 23) (b := aF) (by decide +kernel)
      rw [h23] at bv
      refine kz_lg H h (by decide) (ρ := [(e : Int), (s : Int), (v27 T s (e - s))]) ra_e ⟨⟨by omega, by omega⟩, ⟨by omega, by omega⟩, bv, trivial⟩ (aFs.cons rfl (by simp only [ae_ev, ae_el, ae_s, ae_k, List.getD_cons_zero, List.getD_cons_succ]; omega) (aFs.cons rfl (by simp only [ae_ev, ae_el, ae_s, ae_k, List.getD_cons_zero, List.getD_cons_succ]; omega) aFs.nil)) (aHh.cons (kn1 (i := 21) (by decide) rfl (ev_s rfl) s21) (aHh.cons (kn1 (i := 23) (by decide) rfl (ev_s rfl) s23) aHh.nil)) (by rfl) (by rfl) (lEr (lEi (ev_s rfl) lE0)) sE0 (lvk2 := []) lE0 (stk2 := []) sE0 (fun w2 b1 b4 b5 => ?_)
      have f19 : jF w2 19 = jF w 19 := by
        rw [jFS b1 19, jFS h 19, b5 99 19]
        simp [lg_ap, ae_ev, ae_el, ae_s, ae_k]
      have f20 : jF w2 20 = jF w 20 := by
        rw [jFS b1 20, jFS h 20, b5 99 20]
        simp [lg_ap, ae_ev, ae_el, ae_s, ae_k]
      have f21 : jF w2 21 = jF w 21 := by
        rw [jFS b1 21, jFS h 21, b5 99 21]
        simp [lg_ap, ae_ev, ae_el, ae_s, ae_k]
      have f22 : jF w2 22 = (e : Int) := by
        rw [jFS b1 22, b5 99 22]
        simp [lg_ap, ae_ev, ae_el, ae_s, ae_k]
        try omega
      have f23 : jF w2 23 = v27 T s (e - s) := by
        rw [jFS b1 23, b5 99 23]
        simp [lg_ap, ae_ev, ae_el, ae_s, ae_k]
        try omega
      have f24 : jF w2 24 = jF w 24 := by
        rw [jFS b1 24, jFS h 24, b5 99 24]
        simp [lg_ap, ae_ev, ae_el, ae_s, ae_k]
      have f28 : jF w2 28 = jF w 28 := by
        rw [jFS b1 28, jFS h 28, b5 99 28]
        simp [lg_ap, ae_ev, ae_el, ae_s, ae_k]
      have f29 : jF w2 29 = jF w 29 := by
        rw [jFS b1 29, jFS h 29, b5 99 29]
        simp [lg_ap, ae_ev, ae_el, ae_s, ae_k]
      exact hp_ret HV (by decide) (by decide +kernel) (by decide +kernel) (hQ w2 b1 (hd.trans (b4.more (by decide))) ⟨by omega, f19.trans h19, by rw [f20, h20, kk], f21.trans h21, by rw [f22, he], by
        unfold tV
        rw [if_neg (by omega), if_pos hle, he, if_pos c]
        exact f23⟩ (f24.trans h24) (f28.trans h28) (f29.trans h29))
    · skip
      refine kz_lg H h (by decide) (ρ := [(e : Int), (s : Int)]) ra_f ⟨⟨by omega, by omega⟩, ⟨by omega, by omega⟩, trivial⟩ (aFs.cons rfl (by simp only [ae_ev, ae_el, ae_s, ae_k, List.getD_cons_zero, List.getD_cons_succ]; omega) aFs.nil) (aHh.cons (kn1 (i := 21) (by decide) rfl (ev_s rfl) s21) aHh.nil) (by rfl) (by rfl) (lEr (lEi (ev_s rfl) lE0)) sE0 (lvk2 := []) lE0 (stk2 := []) sE0 (fun w2 b1 b4 b5 => ?_)
      have f19 : jF w2 19 = jF w 19 := by
        rw [jFS b1 19, jFS h 19, b5 99 19]
        simp [lg_ap, ae_ev, ae_el, ae_s, ae_k]
      have f20 : jF w2 20 = jF w 20 := by
        rw [jFS b1 20, jFS h 20, b5 99 20]
        simp [lg_ap, ae_ev, ae_el, ae_s, ae_k]
      have f21 : jF w2 21 = jF w 21 := by
        rw [jFS b1 21, jFS h 21, b5 99 21]
        simp [lg_ap, ae_ev, ae_el, ae_s, ae_k]
      have f22 : jF w2 22 = (e : Int) := by
        rw [jFS b1 22, b5 99 22]
        simp [lg_ap, ae_ev, ae_el, ae_s, ae_k]
        try omega
      have f23 : jF w2 23 = 0 := by
        rw [jFS b1 23, b5 99 23]
        simp [lg_ap, ae_ev, ae_el, ae_s, ae_k]
        try omega
      have f24 : jF w2 24 = jF w 24 := by
        rw [jFS b1 24, jFS h 24, b5 99 24]
        simp [lg_ap, ae_ev, ae_el, ae_s, ae_k]
      have f28 : jF w2 28 = jF w 28 := by
        rw [jFS b1 28, jFS h 28, b5 99 28]
        simp [lg_ap, ae_ev, ae_el, ae_s, ae_k]
      have f29 : jF w2 29 = jF w 29 := by
        rw [jFS b1 29, jFS h 29, b5 99 29]
        simp [lg_ap, ae_ev, ae_el, ae_s, ae_k]
      exact hp_ret HV (by decide) (by decide +kernel) (by decide +kernel) (hQ w2 b1 (hd.trans (b4.more (by decide))) ⟨by omega, f19.trans h19, by rw [f20, h20, kk], f21.trans h21, by rw [f22, he], by
        unfold tV
        rw [if_neg (by omega), if_pos hle, he, if_neg c]
        exact f23⟩ (f24.trans h24) (f28.trans h28) (f29.trans h29))
  intro m
  induction m with
  | zero =>
    intro p w hm hsp hpn hr h HT hd h19 h20 h21 h23 h24 h28 h29
    have bn := HT.1
    have e0 : p = n := by omega
    rw [tR_eq, if_neg (by omega)] at hr
    subst hr
    have s19 := rsl h (i := 19) (b := (0, 250)) (by decide +kernel) h19
    rw [← e0] at s19
    refine ky_go hf hT h.1 (by decide) (ρ := [(p : Int)]) ra_b ⟨⟨by omega, by omega⟩, trivial⟩ aFs.nil (aHh.cons (kn1 (i := 19) (by decide) rfl (ev_s rfl) s19) aHh.nil) (by rfl) (by rfl) (lEr (lEi (ev_s rfl) lE0)) sE0 (lvk2 := [(0, .inr (0, 99)), (1, .inl (ae_k ((p : Int))))]) (lEr (lEi (ev_s rfl) lE0)) (stk2 := []) sE0 ?_
    exact fin w hsp hpn h hd h19 h20 h21 h23 h24 h28 h29 bn
  | succ m ih =>
    intro p w hm hsp hpn hr h HT hd h19 h20 h21 h23 h24 h28 h29
    have bn := HT.1
    have s19 := rsl h (i := 19) (b := (0, 250)) (by decide +kernel) h19
    have s21 := rsl h (i := 21) (b := (0, 250)) (by decide +kernel) h21
    by_cases c : p < n
    · have st := HT.sl h c
      have bt := HT.2.2 p
      by_cases t0 : 97 ≤ T p ∧ T p ≤ 122
      · rw [tR_eq, if_pos ⟨c, t0⟩] at hr
        by_cases c6 : p < s + 6
        · rw [if_pos (by omega)] at h23
          have s23 := rsl h (i := 23) (b := aF) (by decide +kernel) h23
          have hlp : p < tE T n s := by
            rw [he, ← hr]
            have := tR_le (T := T) (n := n) (lo := 97) (hi := 122) (p := p + 1) (by omega)
            omega
          have vb := v27_5 (T := T) (s := s) (p - s) (by omega) (fun i hi => tE_let (T := T) (n := n) (s := s) (i := s + i) hss hle (by omega) (by omega))
          refine kz_lg H h (by decide) (ρ := [(n : Int), (p : Int), (s : Int), (v27 T s (p - s)), (T p)]) ra_9 ⟨⟨by omega, by omega⟩, ⟨by omega, by omega⟩, ⟨by omega, by omega⟩, ⟨by omega, by omega⟩, ⟨by omega, by omega⟩, trivial⟩ (aFs.cons rfl (by simp only [ae_ev, ae_el, ae_s, ae_k, List.getD_cons_zero, List.getD_cons_succ]; omega) (aFs.cons rfl (by simp only [ae_ev, ae_el, ae_s, ae_k, List.getD_cons_zero, List.getD_cons_succ]; omega) (aFs.cons rfl (by simp only [ae_ev, ae_el, ae_s, ae_k, List.getD_cons_zero, List.getD_cons_succ]; omega) aFs.nil))) (aHh.cons (kn1 (i := 19) (by decide) rfl (ev_s rfl) s19) (aHh.cons (kns (by decide) rfl rfl (i := p) (ev_s rfl) (ev_s rfl) st) (aHh.cons (kn1 (i := 21) (by decide) rfl (ev_s rfl) s21) (aHh.cons (kn1 (i := 23) (by decide) rfl (ev_s rfl) s23) aHh.nil)))) (by rfl) (by rfl) (lEr (lEi (ev_s rfl) lE0)) sE0 (lvk2 := [(0, .inr (0, 99)), (1, .inl (ae_k (((p + 1 : Nat) : Int))))]) (lEr (lEi (by simp only [ae_ev, ae_el, ae_s, ae_k, List.getD_cons_zero, List.getD_cons_succ]; omega) lE0)) (stk2 := []) sE0 (fun w2 b1 b4 b5 => ?_)
          have f19 : jF w2 19 = jF w 19 := by
            rw [jFS b1 19, jFS h 19, b5 99 19]
            simp [lg_ap, ae_ev, ae_el, ae_s, ae_k]
          have f20 : jF w2 20 = jF w 20 := by
            rw [jFS b1 20, jFS h 20, b5 99 20]
            simp [lg_ap, ae_ev, ae_el, ae_s, ae_k]
          have f21 : jF w2 21 = jF w 21 := by
            rw [jFS b1 21, jFS h 21, b5 99 21]
            simp [lg_ap, ae_ev, ae_el, ae_s, ae_k]
          have f22 : jF w2 22 = jF w 22 := by
            rw [jFS b1 22, jFS h 22, b5 99 22]
            simp [lg_ap, ae_ev, ae_el, ae_s, ae_k]
          have f23 : jF w2 23 = 27 * v27 T s (p - s) + T p - 96 := by
            rw [jFS b1 23, b5 99 23]
            simp [lg_ap, ae_ev, ae_el, ae_s, ae_k]
            try omega
          have f24 : jF w2 24 = jF w 24 := by
            rw [jFS b1 24, jFS h 24, b5 99 24]
            simp [lg_ap, ae_ev, ae_el, ae_s, ae_k]
          have f28 : jF w2 28 = jF w 28 := by
            rw [jFS b1 28, jFS h 28, b5 99 28]
            simp [lg_ap, ae_ev, ae_el, ae_s, ae_k]
          have f29 : jF w2 29 = jF w 29 := by
            rw [jFS b1 29, jFS h 29, b5 99 29]
            simp [lg_ap, ae_ev, ae_el, ae_s, ae_k]
          refine ih (p + 1) w2 (by omega) (by omega) (by omega) hr b1 (HT.more b4 (by decide)) (hd.trans (b4.more (by decide))) (f19.trans h19) (f20.trans h20) (f21.trans h21) ?_ (f24.trans h24) (f28.trans h28) (f29.trans h29)
          rw [if_pos (by omega), f23, show p + 1 - s = (p - s) + 1 by omega]
          show _ = 27 * v27 T s (p - s) + T (s + (p - s)) - 96
          rw [show s + (p - s) = p by omega]
        · skip
          refine kz_lg H h (by decide) (ρ := [(n : Int), (p : Int), (s : Int), (T p)]) ra_a ⟨⟨by omega, by omega⟩, ⟨by omega, by omega⟩, ⟨by omega, by omega⟩, ⟨by omega, by omega⟩, trivial⟩ (aFs.cons rfl (by simp only [ae_ev, ae_el, ae_s, ae_k, List.getD_cons_zero, List.getD_cons_succ]; omega) (aFs.cons rfl (by simp only [ae_ev, ae_el, ae_s, ae_k, List.getD_cons_zero, List.getD_cons_succ]; omega) aFs.nil)) (aHh.cons (kn1 (i := 19) (by decide) rfl (ev_s rfl) s19) (aHh.cons (kns (by decide) rfl rfl (i := p) (ev_s rfl) (ev_s rfl) st) (aHh.cons (kn1 (i := 21) (by decide) rfl (ev_s rfl) s21) aHh.nil))) (by rfl) (by rfl) (lEr (lEi (ev_s rfl) lE0)) sE0 (lvk2 := [(0, .inr (0, 99)), (1, .inl (ae_k (((p + 1 : Nat) : Int))))]) (lEr (lEi (by simp only [ae_ev, ae_el, ae_s, ae_k, List.getD_cons_zero, List.getD_cons_succ]; omega) lE0)) (stk2 := []) sE0 (fun w2 b1 b4 b5 => ?_)
          have f19 : jF w2 19 = jF w 19 := by
            rw [jFS b1 19, jFS h 19, b5 99 19]
            simp [lg_ap, ae_ev, ae_el, ae_s, ae_k]
          have f20 : jF w2 20 = jF w 20 := by
            rw [jFS b1 20, jFS h 20, b5 99 20]
            simp [lg_ap, ae_ev, ae_el, ae_s, ae_k]
          have f21 : jF w2 21 = jF w 21 := by
            rw [jFS b1 21, jFS h 21, b5 99 21]
            simp [lg_ap, ae_ev, ae_el, ae_s, ae_k]
          have f22 : jF w2 22 = jF w 22 := by
            rw [jFS b1 22, jFS h 22, b5 99 22]
            simp [lg_ap, ae_ev, ae_el, ae_s, ae_k]
          have f23 : jF w2 23 = 0 := by
            rw [jFS b1 23, b5 99 23]
            simp [lg_ap, ae_ev, ae_el, ae_s, ae_k]
            try omega
          have f24 : jF w2 24 = jF w 24 := by
            rw [jFS b1 24, jFS h 24, b5 99 24]
            simp [lg_ap, ae_ev, ae_el, ae_s, ae_k]
          have f28 : jF w2 28 = jF w 28 := by
            rw [jFS b1 28, jFS h 28, b5 99 28]
            simp [lg_ap, ae_ev, ae_el, ae_s, ae_k]
          have f29 : jF w2 29 = jF w 29 := by
            rw [jFS b1 29, jFS h 29, b5 99 29]
            simp [lg_ap, ae_ev, ae_el, ae_s, ae_k]
          exact ih (p + 1) w2 (by omega) (by omega) (by omega) hr b1 (HT.more b4 (by decide)) (hd.trans (b4.more (by decide))) (f19.trans h19) (f20.trans h20) (f21.trans h21) (by rw [if_neg (by omega)]; exact f23) (f24.trans h24) (f28.trans h28) (f29.trans h29)
      · rw [tR_eq, if_neg (fun q => t0 q.2)] at hr
        subst hr
        by_cases t1 : T p < 97
        · refine ky_go hf hT h.1 (by decide) (ρ := [(n : Int), (p : Int), (T p)]) ra_c ⟨⟨by omega, by omega⟩, ⟨by omega, by omega⟩, ⟨by omega, by omega⟩, trivial⟩ (aFs.cons rfl (by simp only [ae_ev, ae_el, ae_s, ae_k, List.getD_cons_zero, List.getD_cons_succ]; omega) aFs.nil) (aHh.cons (kn1 (i := 19) (by decide) rfl (ev_s rfl) s19) (aHh.cons (kns (by decide) rfl rfl (i := p) (ev_s rfl) (ev_s rfl) st) aHh.nil)) (by rfl) (by rfl) (lEr (lEi (ev_s rfl) lE0)) sE0 (lvk2 := [(0, .inr (0, 99)), (1, .inl (ae_k ((p : Int))))]) (lEr (lEi (ev_s rfl) lE0)) (stk2 := []) sE0 ?_
          exact fin w hsp hpn h hd h19 h20 h21 h23 h24 h28 h29 bn
        · refine ky_go hf hT h.1 (by decide) (ρ := [(n : Int), (p : Int), (T p)]) ra_d ⟨⟨by omega, by omega⟩, ⟨by omega, by omega⟩, ⟨by omega, by omega⟩, trivial⟩ (aFs.cons rfl (by simp only [ae_ev, ae_el, ae_s, ae_k, List.getD_cons_zero, List.getD_cons_succ]; omega) aFs.nil) (aHh.cons (kn1 (i := 19) (by decide) rfl (ev_s rfl) s19) (aHh.cons (kns (by decide) rfl rfl (i := p) (ev_s rfl) (ev_s rfl) st) aHh.nil)) (by rfl) (by rfl) (lEr (lEi (ev_s rfl) lE0)) sE0 (lvk2 := [(0, .inr (0, 99)), (1, .inl (ae_k ((p : Int))))]) (lEr (lEi (ev_s rfl) lE0)) (stk2 := []) sE0 ?_
          exact fin w hsp hpn h hd h19 h20 h21 h23 h24 h28 h29 bn
    · have e0 : p = n := by omega
      rw [tR_eq, if_neg (by omega)] at hr
      subst hr
      rw [← e0] at s19
      refine ky_go hf hT h.1 (by decide) (ρ := [(p : Int)]) ra_b ⟨⟨by omega, by omega⟩, trivial⟩ aFs.nil (aHh.cons (kn1 (i := 19) (by decide) rfl (ev_s rfl) s19) aHh.nil) (by rfl) (by rfl) (lEr (lEi (ev_s rfl) lE0)) sE0 (lvk2 := [(0, .inr (0, 99)), (1, .inl (ae_k ((p : Int))))]) (lEr (lEi (ev_s rfl) lE0)) (stk2 := []) sE0 ?_
      exact fin w hsp hpn h hd h19 h20 h21 h23 h24 h28 h29 bn
/-- advance: digits -/
theorem ra_dl (hf : E.2.2.2.1.category = 1) (hT : ∀ σ : List Int, aTb E σ aTabs) (H : hOk E al gR jJ) {s e : Nat} (hss : s < n) (hle : 48 ≤ T s ∧ T s ≤ 57) (he : tE T n s = e) (hQ : ∀ w2, hI E al jJ w2 → hD [99] ws w2 → rtk w2 T n s → jF w2 24 = jF ws 24 → jF w2 28 = jF ws 28 → jF w2 29 = jF ws 29 → Q none w2) : ∀ (m p : Nat) (w : va_W), n - p ≤ m → s ≤ p → p ≤ n → tR T n 48 57 p = e → hI E al jJ w → rtT w T n → hD [99] ws w → jF w 19 = (n : Int) → jF w 20 = 2 → jF w 21 = (s : Int) → jF w 23 = v10 T s (min 3 (p - s)) → jF w 24 = jF ws 24 → jF w 28 = jF ws 28 → jF w 29 = jF ws 29 → hG E al 2 233 178 [(0, .inr (0, 99)), (1, .inl (ae_k (p : Int)))] [] [] w Q := by
  have HV : hOk E al gV0 (fun _ => True) := hOkV hf hT (fun _ _ _ _ h => h)
  obtain ⟨kk, kv2⟩ := tK_d hss hle
  intro m
  induction m with
  | zero =>
    intro p w hm hsp hpn hr h HT hd h19 h20 h21 h23 h24 h28 h29
    have bn := HT.1
    have e0 : p = n := by omega
    rw [tR_eq, if_neg (by omega)] at hr
    subst hr
    have s19 := rsl h (i := 19) (b := (0, 250)) (by decide +kernel) h19
    rw [← e0] at s19
    refine kz_lg H h (by decide) (ρ := [(p : Int)]) ra_i ⟨⟨by omega, by omega⟩, trivial⟩ aFs.nil (aHh.cons (kn1 (i := 19) (by decide) rfl (ev_s rfl) s19) aHh.nil) (by rfl) (by rfl) (lEr (lEi (ev_s rfl) lE0)) sE0 (lvk2 := []) lE0 (stk2 := []) sE0 (fun w2 b1 b4 b5 => ?_)
    have f19 : jF w2 19 = jF w 19 := by
      rw [jFS b1 19, jFS h 19, b5 99 19]
      simp [lg_ap, ae_ev, ae_el, ae_s, ae_k]
    have f20 : jF w2 20 = jF w 20 := by
      rw [jFS b1 20, jFS h 20, b5 99 20]
      simp [lg_ap, ae_ev, ae_el, ae_s, ae_k]
    have f21 : jF w2 21 = jF w 21 := by
      rw [jFS b1 21, jFS h 21, b5 99 21]
      simp [lg_ap, ae_ev, ae_el, ae_s, ae_k]
    have f22 : jF w2 22 = (p : Int) := by
      rw [jFS b1 22, b5 99 22]
      simp [lg_ap, ae_ev, ae_el, ae_s, ae_k]
      try omega
    have f23 : jF w2 23 = jF w 23 := by
      rw [jFS b1 23, jFS h 23, b5 99 23]
      simp [lg_ap, ae_ev, ae_el, ae_s, ae_k]
    have f24 : jF w2 24 = jF w 24 := by
      rw [jFS b1 24, jFS h 24, b5 99 24]
      simp [lg_ap, ae_ev, ae_el, ae_s, ae_k]
    have f28 : jF w2 28 = jF w 28 := by
      rw [jFS b1 28, jFS h 28, b5 99 28]
      simp [lg_ap, ae_ev, ae_el, ae_s, ae_k]
    have f29 : jF w2 29 = jF w 29 := by
      rw [jFS b1 29, jFS h 29, b5 99 29]
      simp [lg_ap, ae_ev, ae_el, ae_s, ae_k]
    exact hp_ret HV (by decide) (by decide +kernel) (by decide +kernel) (hQ w2 b1 (hd.trans (b4.more (by decide))) ⟨by omega, f19.trans h19, by rw [f20, h20, kk], f21.trans h21, by rw [f22, he], by rw [f23, h23, kv2, he]⟩ (f24.trans h24) (f28.trans h28) (f29.trans h29))
  | succ m ih =>
    intro p w hm hsp hpn hr h HT hd h19 h20 h21 h23 h24 h28 h29
    have bn := HT.1
    have s19 := rsl h (i := 19) (b := (0, 250)) (by decide +kernel) h19
    have s21 := rsl h (i := 21) (b := (0, 250)) (by decide +kernel) h21
    by_cases c : p < n
    · have st := HT.sl h c
      have bt := HT.2.2 p
      by_cases t0 : 48 ≤ T p ∧ T p ≤ 57
      · rw [tR_eq, if_pos ⟨c, t0⟩] at hr
        have hlp : p < tE T n s := by
          rw [he, ← hr]
          have := tR_le (T := T) (n := n) (lo := 48) (hi := 57) (p := p + 1) (by omega)
          omega
        have vb := v10_3 (T := T) (s := s) (min 3 (p - s)) (by omega) (fun i hi => tE_dig (T := T) (n := n) (s := s) (i := s + i) hss hle (by omega) (by omega))
        have s23 := rsl h (i := 23) (b := aF) (by decide +kernel) h23
        by_cases c3 : p < s + 3
        · have vb2 := vb.2.1 (by omega)
          refine kz_lg H h (by decide) (ρ := [(n : Int), (p : Int), (s : Int), (v10 T s (min 3 (p - s))), (T p)]) ra_g ⟨⟨by omega, by omega⟩, ⟨by omega, by omega⟩, ⟨by omega, by omega⟩, ⟨by omega, by omega⟩, ⟨by omega, by omega⟩, trivial⟩ (aFs.cons rfl (by simp only [ae_ev, ae_el, ae_s, ae_k, List.getD_cons_zero, List.getD_cons_succ]; omega) (aFs.cons rfl (by simp only [ae_ev, ae_el, ae_s, ae_k, List.getD_cons_zero, List.getD_cons_succ]; omega) (aFs.cons rfl (by simp only [ae_ev, ae_el, ae_s, ae_k, List.getD_cons_zero, List.getD_cons_succ]; omega) aFs.nil))) (aHh.cons (kn1 (i := 19) (by decide) rfl (ev_s rfl) s19) (aHh.cons (kns (by decide) rfl rfl (i := p) (ev_s rfl) (ev_s rfl) st) (aHh.cons (kn1 (i := 21) (by decide) rfl (ev_s rfl) s21) (aHh.cons (kn1 (i := 23) (by decide) rfl (ev_s rfl) s23) aHh.nil)))) (by rfl) (by rfl) (lEr (lEi (ev_s rfl) lE0)) sE0 (lvk2 := [(0, .inr (0, 99)), (1, .inl (ae_k (((p + 1 : Nat) : Int))))]) (lEr (lEi (by simp only [ae_ev, ae_el, ae_s, ae_k, List.getD_cons_zero, List.getD_cons_succ]; omega) lE0)) (stk2 := []) sE0 (fun w2 b1 b4 b5 => ?_)
          have f19 : jF w2 19 = jF w 19 := by
            rw [jFS b1 19, jFS h 19, b5 99 19]
            simp [lg_ap, ae_ev, ae_el, ae_s, ae_k]
          have f20 : jF w2 20 = jF w 20 := by
            rw [jFS b1 20, jFS h 20, b5 99 20]
            simp [lg_ap, ae_ev, ae_el, ae_s, ae_k]
          have f21 : jF w2 21 = jF w 21 := by
            rw [jFS b1 21, jFS h 21, b5 99 21]
            simp [lg_ap, ae_ev, ae_el, ae_s, ae_k]
          have f22 : jF w2 22 = jF w 22 := by
            rw [jFS b1 22, jFS h 22, b5 99 22]
            simp [lg_ap, ae_ev, ae_el, ae_s, ae_k]
          have f23 : jF w2 23 = 10 * v10 T s (min 3 (p - s)) + T p - 48 := by
            rw [jFS b1 23, b5 99 23]
            simp [lg_ap, ae_ev, ae_el, ae_s, ae_k]
            try omega
          have f24 : jF w2 24 = jF w 24 := by
            rw [jFS b1 24, jFS h 24, b5 99 24]
            simp [lg_ap, ae_ev, ae_el, ae_s, ae_k]
          have f28 : jF w2 28 = jF w 28 := by
            rw [jFS b1 28, jFS h 28, b5 99 28]
            simp [lg_ap, ae_ev, ae_el, ae_s, ae_k]
          have f29 : jF w2 29 = jF w 29 := by
            rw [jFS b1 29, jFS h 29, b5 99 29]
            simp [lg_ap, ae_ev, ae_el, ae_s, ae_k]
          refine ih (p + 1) w2 (by omega) (by omega) (by omega) hr b1 (HT.more b4 (by decide)) (hd.trans (b4.more (by decide))) (f19.trans h19) (f20.trans h20) (f21.trans h21) ?_ (f24.trans h24) (f28.trans h28) (f29.trans h29)
          rw [f23, show min 3 (p - s) = p - s by omega, show min 3 (p + 1 - s) = (p - s) + 1 by omega]
          show _ = 10 * v10 T s (p - s) + T (s + (p - s)) - 48
          rw [show s + (p - s) = p by omega]
        · skip
          refine kz_lg H h (by decide) (ρ := [(n : Int), (p : Int), (s : Int), (v10 T s (min 3 (p - s))), (T p)]) ra_h ⟨⟨by omega, by omega⟩, ⟨by omega, by omega⟩, ⟨by omega, by omega⟩, ⟨by omega, by omega⟩, ⟨by omega, by omega⟩, trivial⟩ (aFs.cons rfl (by simp only [ae_ev, ae_el, ae_s, ae_k, List.getD_cons_zero, List.getD_cons_succ]; omega) (aFs.cons rfl (by simp only [ae_ev, ae_el, ae_s, ae_k, List.getD_cons_zero, List.getD_cons_succ]; omega) aFs.nil)) (aHh.cons (kn1 (i := 19) (by decide) rfl (ev_s rfl) s19) (aHh.cons (kns (by decide) rfl rfl (i := p) (ev_s rfl) (ev_s rfl) st) (aHh.cons (kn1 (i := 21) (by decide) rfl (ev_s rfl) s21) (aHh.cons (kn1 (i := 23) (by decide) rfl (ev_s rfl) s23) aHh.nil)))) (by rfl) (by rfl) (lEr (lEi (ev_s rfl) lE0)) sE0 (lvk2 := [(0, .inr (0, 99)), (1, .inl (ae_k (((p + 1 : Nat) : Int))))]) (lEr (lEi (by simp only [ae_ev, ae_el, ae_s, ae_k, List.getD_cons_zero, List.getD_cons_succ]; omega) lE0)) (stk2 := []) sE0 (fun w2 b1 b4 b5 => ?_)
          have f19 : jF w2 19 = jF w 19 := by
            rw [jFS b1 19, jFS h 19, b5 99 19]
            simp [lg_ap, ae_ev, ae_el, ae_s, ae_k]
          have f20 : jF w2 20 = jF w 20 := by
            rw [jFS b1 20, jFS h 20, b5 99 20]
            simp [lg_ap, ae_ev, ae_el, ae_s, ae_k]
          have f21 : jF w2 21 = jF w 21 := by
            rw [jFS b1 21, jFS h 21, b5 99 21]
            simp [lg_ap, ae_ev, ae_el, ae_s, ae_k]
          have f22 : jF w2 22 = jF w 22 := by
            rw [jFS b1 22, jFS h 22, b5 99 22]
            simp [lg_ap, ae_ev, ae_el, ae_s, ae_k]
          have f23 : jF w2 23 = v10 T s (min 3 (p - s)) := by
            rw [jFS b1 23, b5 99 23]
            simp [lg_ap, ae_ev, ae_el, ae_s, ae_k]
            try omega
          have f24 : jF w2 24 = jF w 24 := by
            rw [jFS b1 24, jFS h 24, b5 99 24]
            simp [lg_ap, ae_ev, ae_el, ae_s, ae_k]
          have f28 : jF w2 28 = jF w 28 := by
            rw [jFS b1 28, jFS h 28, b5 99 28]
            simp [lg_ap, ae_ev, ae_el, ae_s, ae_k]
          have f29 : jF w2 29 = jF w 29 := by
            rw [jFS b1 29, jFS h 29, b5 99 29]
            simp [lg_ap, ae_ev, ae_el, ae_s, ae_k]
          refine ih (p + 1) w2 (by omega) (by omega) (by omega) hr b1 (HT.more b4 (by decide)) (hd.trans (b4.more (by decide))) (f19.trans h19) (f20.trans h20) (f21.trans h21) ?_ (f24.trans h24) (f28.trans h28) (f29.trans h29)
          rw [f23, show min 3 (p - s) = min 3 (p + 1 - s) by omega]
      · rw [tR_eq, if_neg (fun q => t0 q.2)] at hr
        subst hr
        by_cases t1 : T p < 48
        · refine kz_lg H h (by decide) (ρ := [(n : Int), (p : Int), (T p)]) ra_j ⟨⟨by omega, by omega⟩, ⟨by omega, by omega⟩, ⟨by omega, by omega⟩, trivial⟩ (aFs.cons rfl (by simp only [ae_ev, ae_el, ae_s, ae_k, List.getD_cons_zero, List.getD_cons_succ]; omega) aFs.nil) (aHh.cons (kn1 (i := 19) (by decide) rfl (ev_s rfl) s19) (aHh.cons (kns (by decide) rfl rfl (i := p) (ev_s rfl) (ev_s rfl) st) aHh.nil)) (by rfl) (by rfl) (lEr (lEi (ev_s rfl) lE0)) sE0 (lvk2 := []) lE0 (stk2 := []) sE0 (fun w2 b1 b4 b5 => ?_)
          have f19 : jF w2 19 = jF w 19 := by
            rw [jFS b1 19, jFS h 19, b5 99 19]
            simp [lg_ap, ae_ev, ae_el, ae_s, ae_k]
          have f20 : jF w2 20 = jF w 20 := by
            rw [jFS b1 20, jFS h 20, b5 99 20]
            simp [lg_ap, ae_ev, ae_el, ae_s, ae_k]
          have f21 : jF w2 21 = jF w 21 := by
            rw [jFS b1 21, jFS h 21, b5 99 21]
            simp [lg_ap, ae_ev, ae_el, ae_s, ae_k]
          have f22 : jF w2 22 = (p : Int) := by
            rw [jFS b1 22, b5 99 22]
            simp [lg_ap, ae_ev, ae_el, ae_s, ae_k]
            try omega
          have f23 : jF w2 23 = jF w 23 := by
            rw [jFS b1 23, jFS h 23, b5 99 23]
            simp [lg_ap, ae_ev, ae_el, ae_s, ae_k]
          have f24 : jF w2 24 = jF w 24 := by
            rw [jFS b1 24, jFS h 24, b5 99 24]
            simp [lg_ap, ae_ev, ae_el, ae_s, ae_k]
          have f28 : jF w2 28 = jF w 28 := by
            rw [jFS b1 28, jFS h 28, b5 99 28]
            simp [lg_ap, ae_ev, ae_el, ae_s, ae_k]
          have f29 : jF w2 29 = jF w 29 := by
            rw [jFS b1 29, jFS h 29, b5 99 29]
            simp [lg_ap, ae_ev, ae_el, ae_s, ae_k]
          exact hp_ret HV (by decide) (by decide +kernel) (by decide +kernel) (hQ w2 b1 (hd.trans (b4.more (by decide))) ⟨by omega, f19.trans h19, by rw [f20, h20, kk], f21.trans h21, by rw [f22, he], by rw [f23, h23, kv2, he]⟩ (f24.trans h24) (f28.trans h28) (f29.trans h29))
        · refine kz_lg H h (by decide) (ρ := [(n : Int), (p : Int), (T p)]) ra_k ⟨⟨by omega, by omega⟩, ⟨by omega, by omega⟩, ⟨by omega, by omega⟩, trivial⟩ (aFs.cons rfl (by simp only [ae_ev, ae_el, ae_s, ae_k, List.getD_cons_zero, List.getD_cons_succ]; omega) aFs.nil) (aHh.cons (kn1 (i := 19) (by decide) rfl (ev_s rfl) s19) (aHh.cons (kns (by decide) rfl rfl (i := p) (ev_s rfl) (ev_s rfl) st) aHh.nil)) (by rfl) (by rfl) (lEr (lEi (ev_s rfl) lE0)) sE0 (lvk2 := []) lE0 (stk2 := []) sE0 (fun w2 b1 b4 b5 => ?_)
          have f19 : jF w2 19 = jF w 19 := by
            rw [jFS b1 19, jFS h 19, b5 99 19]
            simp [lg_ap, ae_ev, ae_el, ae_s, ae_k]
          have f20 : jF w2 20 = jF w 20 := by
            rw [jFS b1 20, jFS h 20, b5 99 20]
            simp [lg_ap, ae_ev, ae_el, ae_s, ae_k]
          have f21 : jF w2 21 = jF w 21 := by
            rw [jFS b1 21, jFS h 21, b5 99 21]
            simp [lg_ap, ae_ev, ae_el, ae_s, ae_k]
          have f22 : jF w2 22 = (p : Int) := by
            rw [jFS b1 22, b5 99 22]
            simp [lg_ap, ae_ev, ae_el, ae_s, ae_k]
            try omega
          have f23 : jF w2 23 = jF w 23 := by
            rw [jFS b1 23, jFS h 23, b5 99 23]
            simp [lg_ap, ae_ev, ae_el, ae_s, ae_k]
          have f24 : jF w2 24 = jF w 24 := by
            rw [jFS b1 24, jFS h 24, b5 99 24]
            simp [lg_ap, ae_ev, ae_el, ae_s, ae_k]
          have f28 : jF w2 28 = jF w 28 := by
            rw [jFS b1 28, jFS h 28, b5 99 28]
            simp [lg_ap, ae_ev, ae_el, ae_s, ae_k]
          have f29 : jF w2 29 = jF w 29 := by
            rw [jFS b1 29, jFS h 29, b5 99 29]
            simp [lg_ap, ae_ev, ae_el, ae_s, ae_k]
          exact hp_ret HV (by decide) (by decide +kernel) (by decide +kernel) (hQ w2 b1 (hd.trans (b4.more (by decide))) ⟨by omega, f19.trans h19, by rw [f20, h20, kk], f21.trans h21, by rw [f22, he], by rw [f23, h23, kv2, he]⟩ (f24.trans h24) (f28.trans h28) (f29.trans h29))
    · have e0 : p = n := by omega
      rw [tR_eq, if_neg (by omega)] at hr
      subst hr
      rw [← e0] at s19
      refine kz_lg H h (by decide) (ρ := [(p : Int)]) ra_i ⟨⟨by omega, by omega⟩, trivial⟩ aFs.nil (aHh.cons (kn1 (i := 19) (by decide) rfl (ev_s rfl) s19) aHh.nil) (by rfl) (by rfl) (lEr (lEi (ev_s rfl) lE0)) sE0 (lvk2 := []) lE0 (stk2 := []) sE0 (fun w2 b1 b4 b5 => ?_)
      have f19 : jF w2 19 = jF w 19 := by
        rw [jFS b1 19, jFS h 19, b5 99 19]
        simp [lg_ap, ae_ev, ae_el, ae_s, ae_k]
      have f20 : jF w2 20 = jF w 20 := by
        rw [jFS b1 20, jFS h 20, b5 99 20]
        simp [lg_ap, ae_ev, ae_el, ae_s, ae_k]
      have f21 : jF w2 21 = jF w 21 := by
        rw [jFS b1 21, jFS h 21, b5 99 21]
        simp [lg_ap, ae_ev, ae_el, ae_s, ae_k]
      have f22 : jF w2 22 = (p : Int) := by
        rw [jFS b1 22, b5 99 22]
        simp [lg_ap, ae_ev, ae_el, ae_s, ae_k]
        try omega
      have f23 : jF w2 23 = jF w 23 := by
        rw [jFS b1 23, jFS h 23, b5 99 23]
        simp [lg_ap, ae_ev, ae_el, ae_s, ae_k]
      have f24 : jF w2 24 = jF w 24 := by
        rw [jFS b1 24, jFS h 24, b5 99 24]
        simp [lg_ap, ae_ev, ae_el, ae_s, ae_k]
      have f28 : jF w2 28 = jF w 28 := by
        rw [jFS b1 28, jFS h 28, b5 99 28]
        simp [lg_ap, ae_ev, ae_el, ae_s, ae_k]
      have f29 : jF w2 29 = jF w 29 := by
        rw [jFS b1 29, jFS h 29, b5 99 29]
        simp [lg_ap, ae_ev, ae_el, ae_s, ae_k]
      exact hp_ret HV (by decide) (by decide +kernel) (by decide +kernel) (hQ w2 b1 (hd.trans (b4.more (by decide))) ⟨by omega, f19.trans h19, by rw [f20, h20, kk], f21.trans h21, by rw [f22, he], by rw [f23, h23, kv2, he]⟩ (f24.trans h24) (f28.trans h28) (f29.trans h29))
/-- advance -/
theorem ra_mj (hf : E.2.2.2.1.category = 1) (hT : ∀ σ : List Int, aTb E σ aTabs) (H : hOk E al gR jJ) (h : hI E al jJ w) (HT : rtT w T n) (h19 : jF w 19 = (n : Int)) {p : Nat} (hp : p ≤ n) (h22 : jF w 22 = (p : Int)) {AS : List Value} (hA : gL E al [] [.inr (0, 99)] AS) :
    MJ E 2 0 0 (mj_in0 233 AS w) (fun v w2 => v = none ∧ hI E al jJ w2 ∧ hD [99] w w2 ∧ rtk w2 T n (tS T n p) ∧ jF w2 24 = jF w 24 ∧ jF w2 28 = jF w 28 ∧ jF w2 29 = jF w 29) := by
  have HV : hOk E al gV0 (fun _ => True) := hOkV hf hT (fun _ _ _ _ h => h)
  have bn := HT.1
  have s22 := rsl h (i := 22) (b := (0, 250)) (by decide +kernel) h22
  have s19 := rsl h (i := 19) (b := (0, 250)) (by decide +kernel) h19
  refine hG.in0 hf (d := 2) (as := [.inr (0, 99)]) ?_ hA
  show hG E al 2 233 0 [(0, .inr (0, 99))] [] [] w _
  refine ky_go hf hT h.1 (by decide) (ρ := [(p : Int)]) ra_0 ⟨⟨by omega, by omega⟩, trivial⟩ aFs.nil (aHh.cons (kn1 (i := 22) (by decide) rfl (ev_s rfl) s22) aHh.nil) (by rfl) (by rfl) (lEr lE0) sE0 (lvk2 := [(0, .inr (0, 99)), (1, .inl (ae_k ((p : Int))))]) (lEr (lEi (ev_s rfl) lE0)) (stk2 := []) sE0 ?_
  refine ra_sk hf hT H h HT h19 (n - p) p (Nat.le_refl _) hp ?_
  obtain ⟨s, hs⟩ : ∃ s, tS T n p = s := ⟨_, rfl⟩
  have bs := tS_le (T := T) hp
  rw [hs] at bs ⊢
  by_cases hsn : s < n
  · have st := HT.sl h hsn
    have bt := HT.2.2 s
    by_cases tw : 97 ≤ T s ∧ T s ≤ 122
    · refine kz_lg H h (by decide) (ρ := [(n : Int), (s : Int), (T s)]) ra_7 ⟨⟨by omega, by omega⟩, ⟨by omega, by omega⟩, ⟨by omega, by omega⟩, trivial⟩ (aFs.cons rfl (by simp only [ae_ev, ae_el, ae_s, ae_k, List.getD_cons_zero, List.getD_cons_succ]; omega) aFs.nil) (aHh.cons (kn1 (i := 19) (by decide) rfl (ev_s rfl) s19) (aHh.cons (kns (by decide) rfl rfl (i := s) (ev_s rfl) (ev_s rfl) st) aHh.nil)) (by rfl) (by rfl) (lEr (lEi (ev_s rfl) lE0)) sE0 (lvk2 := [(0, .inr (0, 99)), (1, .inl (ae_k ((s : Int))))]) (lEr (lEi (ev_s rfl) lE0)) (stk2 := []) sE0 (fun w2 b1 b4 b5 => ?_)
      have f19 : jF w2 19 = jF w 19 := by
        rw [jFS b1 19, jFS h 19, b5 99 19]
        simp [lg_ap, ae_ev, ae_el, ae_s, ae_k]
      have f20 : jF w2 20 = 1 := by
        rw [jFS b1 20, b5 99 20]
        simp [lg_ap, ae_ev, ae_el, ae_s, ae_k]
        try omega
      have f21 : jF w2 21 = (s : Int) := by
        rw [jFS b1 21, b5 99 21]
        simp [lg_ap, ae_ev, ae_el, ae_s, ae_k]
        try omega
      have f22 : jF w2 22 = jF w 22 := by
        rw [jFS b1 22, jFS h 22, b5 99 22]
        simp [lg_ap, ae_ev, ae_el, ae_s, ae_k]
      have f23 : jF w2 23 = 0 := by
        rw [jFS b1 23, b5 99 23]
        simp [lg_ap, ae_ev, ae_el, ae_s, ae_k]
        try omega
      have f24 : jF w2 24 = jF w 24 := by
        rw [jFS b1 24, jFS h 24, b5 99 24]
        simp [lg_ap, ae_ev, ae_el, ae_s, ae_k]
      have f28 : jF w2 28 = jF w 28 := by
        rw [jFS b1 28, jFS h 28, b5 99 28]
        simp [lg_ap, ae_ev, ae_el, ae_s, ae_k]
      have f29 : jF w2 29 = jF w 29 := by
        rw [jFS b1 29, jFS h 29, b5 99 29]
        simp [lg_ap, ae_ev, ae_el, ae_s, ae_k]
      have ev := tE_w hsn tw
      have e1 : tR T n 97 122 s = tR T n 97 122 (s + 1) := by rw [tR_eq, if_pos ⟨hsn, tw⟩]
      exact ra_wl (ws := w) hf hT H hsn tw rfl (fun w3 g1 g2 g3 g4 g5 g6 => ⟨rfl, g1, g2, g3, g4, g5, g6⟩) (n - s) s w2 (Nat.le_refl _) (Nat.le_refl _) bs.2 (e1.trans ev.symm) b1 (HT.more b4 (by decide)) (b4.more (by decide)) (f19.trans h19) f20 f21 (by rw [if_pos (by omega), Nat.sub_self]; exact f23) f24 f28 f29
    by_cases td : 48 ≤ T s ∧ T s ≤ 57
    · refine kz_lg H h (by decide) (ρ := [(n : Int), (s : Int), (T s)]) ra_8 ⟨⟨by omega, by omega⟩, ⟨by omega, by omega⟩, ⟨by omega, by omega⟩, trivial⟩ (aFs.cons rfl (by simp only [ae_ev, ae_el, ae_s, ae_k, List.getD_cons_zero, List.getD_cons_succ]; omega) aFs.nil) (aHh.cons (kn1 (i := 19) (by decide) rfl (ev_s rfl) s19) (aHh.cons (kns (by decide) rfl rfl (i := s) (ev_s rfl) (ev_s rfl) st) aHh.nil)) (by rfl) (by rfl) (lEr (lEi (ev_s rfl) lE0)) sE0 (lvk2 := [(0, .inr (0, 99)), (1, .inl (ae_k ((s : Int))))]) (lEr (lEi (ev_s rfl) lE0)) (stk2 := []) sE0 (fun w2 b1 b4 b5 => ?_)
      have f19 : jF w2 19 = jF w 19 := by
        rw [jFS b1 19, jFS h 19, b5 99 19]
        simp [lg_ap, ae_ev, ae_el, ae_s, ae_k]
      have f20 : jF w2 20 = 2 := by
        rw [jFS b1 20, b5 99 20]
        simp [lg_ap, ae_ev, ae_el, ae_s, ae_k]
        try omega
      have f21 : jF w2 21 = (s : Int) := by
        rw [jFS b1 21, b5 99 21]
        simp [lg_ap, ae_ev, ae_el, ae_s, ae_k]
        try omega
      have f22 : jF w2 22 = jF w 22 := by
        rw [jFS b1 22, jFS h 22, b5 99 22]
        simp [lg_ap, ae_ev, ae_el, ae_s, ae_k]
      have f23 : jF w2 23 = 0 := by
        rw [jFS b1 23, b5 99 23]
        simp [lg_ap, ae_ev, ae_el, ae_s, ae_k]
        try omega
      have f24 : jF w2 24 = jF w 24 := by
        rw [jFS b1 24, jFS h 24, b5 99 24]
        simp [lg_ap, ae_ev, ae_el, ae_s, ae_k]
      have f28 : jF w2 28 = jF w 28 := by
        rw [jFS b1 28, jFS h 28, b5 99 28]
        simp [lg_ap, ae_ev, ae_el, ae_s, ae_k]
      have f29 : jF w2 29 = jF w 29 := by
        rw [jFS b1 29, jFS h 29, b5 99 29]
        simp [lg_ap, ae_ev, ae_el, ae_s, ae_k]
      have ev := tE_d hsn td
      have e1 : tR T n 48 57 s = tR T n 48 57 (s + 1) := by rw [tR_eq, if_pos ⟨hsn, td⟩]
      exact ra_dl (ws := w) hf hT H hsn td rfl (fun w3 g1 g2 g3 g4 g5 g6 => ⟨rfl, g1, g2, g3, g4, g5, g6⟩) (n - s) s w2 (Nat.le_refl _) (Nat.le_refl _) bs.2 (e1.trans ev.symm) b1 (HT.more b4 (by decide)) (b4.more (by decide)) (f19.trans h19) f20 f21 (by rw [show min 3 (s - s) = 0 by omega]; exact f23) f24 f28 f29
    have kk : tK T n s = 3 := by
      unfold tK
      rw [if_neg (by omega), if_neg tw, if_neg td]
    have vv : tV T n s = T s := by
      unfold tV
      rw [if_neg (by omega), if_neg tw, if_neg td]
    by_cases c0 : T s < 48
    · refine kz_lg H h (by decide) (ρ := [(n : Int), (s : Int), (T s)]) ra_6a ⟨⟨by omega, by omega⟩, ⟨by omega, by omega⟩, ⟨by omega, by omega⟩, trivial⟩ (aFs.cons rfl (by simp only [ae_ev, ae_el, ae_s, ae_k, List.getD_cons_zero, List.getD_cons_succ]; omega) aFs.nil) (aHh.cons (kn1 (i := 19) (by decide) rfl (ev_s rfl) s19) (aHh.cons (kns (by decide) rfl rfl (i := s) (ev_s rfl) (ev_s rfl) st) aHh.nil)) (by rfl) (by rfl) (lEr (lEi (ev_s rfl) lE0)) sE0 (lvk2 := []) lE0 (stk2 := []) sE0 (fun w2 b1 b4 b5 => ?_)
      have f19 : jF w2 19 = jF w 19 := by
        rw [jFS b1 19, jFS h 19, b5 99 19]
        simp [lg_ap, ae_ev, ae_el, ae_s, ae_k]
      have f20 : jF w2 20 = 3 := by
        rw [jFS b1 20, b5 99 20]
        simp [lg_ap, ae_ev, ae_el, ae_s, ae_k]
        try omega
      have f21 : jF w2 21 = (s : Int) := by
        rw [jFS b1 21, b5 99 21]
        simp [lg_ap, ae_ev, ae_el, ae_s, ae_k]
        try omega
      have f22 : jF w2 22 = (s : Int) + 1 := by
        rw [jFS b1 22, b5 99 22]
        simp [lg_ap, ae_ev, ae_el, ae_s, ae_k]
        try omega
      have f23 : jF w2 23 = T s := by
        rw [jFS b1 23, b5 99 23]
        simp [lg_ap, ae_ev, ae_el, ae_s, ae_k]
        try omega
      have f24 : jF w2 24 = jF w 24 := by
        rw [jFS b1 24, jFS h 24, b5 99 24]
        simp [lg_ap, ae_ev, ae_el, ae_s, ae_k]
      have f28 : jF w2 28 = jF w 28 := by
        rw [jFS b1 28, jFS h 28, b5 99 28]
        simp [lg_ap, ae_ev, ae_el, ae_s, ae_k]
      have f29 : jF w2 29 = jF w 29 := by
        rw [jFS b1 29, jFS h 29, b5 99 29]
        simp [lg_ap, ae_ev, ae_el, ae_s, ae_k]
      exact hp_ret HV (by decide) (by decide +kernel) (by decide +kernel) ⟨rfl, b1, b4.more (by decide), ⟨bs.2, f19.trans h19, f20.trans kk.symm, f21, by rw [f22, tE_m hsn tw td]; omega, f23.trans vv.symm⟩, f24, f28, f29⟩
    by_cases c1 : T s ≤ 96
    · refine kz_lg H h (by decide) (ρ := [(n : Int), (s : Int), (T s)]) ra_6b ⟨⟨by omega, by omega⟩, ⟨by omega, by omega⟩, ⟨by omega, by omega⟩, trivial⟩ (aFs.cons rfl (by simp only [ae_ev, ae_el, ae_s, ae_k, List.getD_cons_zero, List.getD_cons_succ]; omega) aFs.nil) (aHh.cons (kn1 (i := 19) (by decide) rfl (ev_s rfl) s19) (aHh.cons (kns (by decide) rfl rfl (i := s) (ev_s rfl) (ev_s rfl) st) aHh.nil)) (by rfl) (by rfl) (lEr (lEi (ev_s rfl) lE0)) sE0 (lvk2 := []) lE0 (stk2 := []) sE0 (fun w2 b1 b4 b5 => ?_)
      have f19 : jF w2 19 = jF w 19 := by
        rw [jFS b1 19, jFS h 19, b5 99 19]
        simp [lg_ap, ae_ev, ae_el, ae_s, ae_k]
      have f20 : jF w2 20 = 3 := by
        rw [jFS b1 20, b5 99 20]
        simp [lg_ap, ae_ev, ae_el, ae_s, ae_k]
        try omega
      have f21 : jF w2 21 = (s : Int) := by
        rw [jFS b1 21, b5 99 21]
        simp [lg_ap, ae_ev, ae_el, ae_s, ae_k]
        try omega
      have f22 : jF w2 22 = (s : Int) + 1 := by
        rw [jFS b1 22, b5 99 22]
        simp [lg_ap, ae_ev, ae_el, ae_s, ae_k]
        try omega
      have f23 : jF w2 23 = T s := by
        rw [jFS b1 23, b5 99 23]
        simp [lg_ap, ae_ev, ae_el, ae_s, ae_k]
        try omega
      have f24 : jF w2 24 = jF w 24 := by
        rw [jFS b1 24, jFS h 24, b5 99 24]
        simp [lg_ap, ae_ev, ae_el, ae_s, ae_k]
      have f28 : jF w2 28 = jF w 28 := by
        rw [jFS b1 28, jFS h 28, b5 99 28]
        simp [lg_ap, ae_ev, ae_el, ae_s, ae_k]
      have f29 : jF w2 29 = jF w 29 := by
        rw [jFS b1 29, jFS h 29, b5 99 29]
        simp [lg_ap, ae_ev, ae_el, ae_s, ae_k]
      exact hp_ret HV (by decide) (by decide +kernel) (by decide +kernel) ⟨rfl, b1, b4.more (by decide), ⟨bs.2, f19.trans h19, f20.trans kk.symm, f21, by rw [f22, tE_m hsn tw td]; omega, f23.trans vv.symm⟩, f24, f28, f29⟩
    refine kz_lg H h (by decide) (ρ := [(n : Int), (s : Int), (T s)]) ra_6c ⟨⟨by omega, by omega⟩, ⟨by omega, by omega⟩, ⟨by omega, by omega⟩, trivial⟩ (aFs.cons rfl (by simp only [ae_ev, ae_el, ae_s, ae_k, List.getD_cons_zero, List.getD_cons_succ]; omega) aFs.nil) (aHh.cons (kn1 (i := 19) (by decide) rfl (ev_s rfl) s19) (aHh.cons (kns (by decide) rfl rfl (i := s) (ev_s rfl) (ev_s rfl) st) aHh.nil)) (by rfl) (by rfl) (lEr (lEi (ev_s rfl) lE0)) sE0 (lvk2 := []) lE0 (stk2 := []) sE0 (fun w2 b1 b4 b5 => ?_)
    have f19 : jF w2 19 = jF w 19 := by
      rw [jFS b1 19, jFS h 19, b5 99 19]
      simp [lg_ap, ae_ev, ae_el, ae_s, ae_k]
    have f20 : jF w2 20 = 3 := by
      rw [jFS b1 20, b5 99 20]
      simp [lg_ap, ae_ev, ae_el, ae_s, ae_k]
      try omega
    have f21 : jF w2 21 = (s : Int) := by
      rw [jFS b1 21, b5 99 21]
      simp [lg_ap, ae_ev, ae_el, ae_s, ae_k]
      try omega
    have f22 : jF w2 22 = (s : Int) + 1 := by
      rw [jFS b1 22, b5 99 22]
      simp [lg_ap, ae_ev, ae_el, ae_s, ae_k]
      try omega
    have f23 : jF w2 23 = T s := by
      rw [jFS b1 23, b5 99 23]
      simp [lg_ap, ae_ev, ae_el, ae_s, ae_k]
      try omega
    have f24 : jF w2 24 = jF w 24 := by
      rw [jFS b1 24, jFS h 24, b5 99 24]
      simp [lg_ap, ae_ev, ae_el, ae_s, ae_k]
    have f28 : jF w2 28 = jF w 28 := by
      rw [jFS b1 28, jFS h 28, b5 99 28]
      simp [lg_ap, ae_ev, ae_el, ae_s, ae_k]
    have f29 : jF w2 29 = jF w 29 := by
      rw [jFS b1 29, jFS h 29, b5 99 29]
      simp [lg_ap, ae_ev, ae_el, ae_s, ae_k]
    exact hp_ret HV (by decide) (by decide +kernel) (by decide +kernel) ⟨rfl, b1, b4.more (by decide), ⟨bs.2, f19.trans h19, f20.trans kk.symm, f21, by rw [f22, tE_m hsn tw td]; omega, f23.trans vv.symm⟩, f24, f28, f29⟩
  · have e : s = n := by omega
    subst e
    refine kz_lg H h (by decide) (ρ := [(s : Int)]) ra_5 ⟨⟨by omega, by omega⟩, trivial⟩ aFs.nil (aHh.cons (kn1 (i := 19) (by decide) rfl (ev_s rfl) s19) aHh.nil) (by rfl) (by rfl) (lEr (lEi (ev_s rfl) lE0)) sE0 (lvk2 := []) lE0 (stk2 := []) sE0 (fun w2 b1 b4 b5 => ?_)
    have f19 : jF w2 19 = jF w 19 := by
      rw [jFS b1 19, jFS h 19, b5 99 19]
      simp [lg_ap, ae_ev, ae_el, ae_s, ae_k]
    have f20 : jF w2 20 = 0 := by
      rw [jFS b1 20, b5 99 20]
      simp [lg_ap, ae_ev, ae_el, ae_s, ae_k]
      try omega
    have f21 : jF w2 21 = (s : Int) := by
      rw [jFS b1 21, b5 99 21]
      simp [lg_ap, ae_ev, ae_el, ae_s, ae_k]
      try omega
    have f22 : jF w2 22 = (s : Int) := by
      rw [jFS b1 22, b5 99 22]
      simp [lg_ap, ae_ev, ae_el, ae_s, ae_k]
      try omega
    have f23 : jF w2 23 = 0 := by
      rw [jFS b1 23, b5 99 23]
      simp [lg_ap, ae_ev, ae_el, ae_s, ae_k]
      try omega
    have f24 : jF w2 24 = jF w 24 := by
      rw [jFS b1 24, jFS h 24, b5 99 24]
      simp [lg_ap, ae_ev, ae_el, ae_s, ae_k]
    have f28 : jF w2 28 = jF w 28 := by
      rw [jFS b1 28, jFS h 28, b5 99 28]
      simp [lg_ap, ae_ev, ae_el, ae_s, ae_k]
    have f29 : jF w2 29 = jF w 29 := by
      rw [jFS b1 29, jFS h 29, b5 99 29]
      simp [lg_ap, ae_ev, ae_el, ae_s, ae_k]
    have kk : tK T s s = 0 := by
      unfold tK
      rw [if_pos (Nat.le_refl _)]
    have vv : tV T s s = 0 := by
      unfold tV
      rw [if_pos (Nat.le_refl _)]
    exact hp_ret HV (by decide) (by decide +kernel) (by decide +kernel) ⟨rfl, b1, b4.more (by decide), ⟨Nat.le_refl _, f19.trans h19, f20.trans kk.symm, f21, by rw [f22, tE_ge (Nat.le_refl _)], f23.trans vv.symm⟩, f24, f28, f29⟩
end RR
