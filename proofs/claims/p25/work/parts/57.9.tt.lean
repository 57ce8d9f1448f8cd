/-! THE TEXTS, the reference: lines, read -/
def bx_L : List ((Int × Int) × (Int × Int)) := [((0, 0), (aI0, aI1)), ((1, 1), (aI0, 1502)), ((1, 1), (1504, 240022)), ((1, 1), (240024, 355411)), ((1, 1), (355413, 8868695)), ((1, 1), (8868697, aI1)), ((2, 2), (aI0, aI1)), ((3, 3), (aI0, aI1))]
theorem bx_L_of {k v : Int} (hk : 0 ≤ k ∧ k ≤ 3) (hv : aI0 ≤ v ∧ v ≤ aI1) (h0 : ¬ (k = 1 ∧ v = 355412)) (h1 : ¬ (k = 1 ∧ v = 1503)) (h2 : ¬ (k = 1 ∧ v = 240023)) (h3 : ¬ (k = 1 ∧ v = 8868696))  : ∃ b ∈ bx_L, (b.1.1 ≤ k ∧ k ≤ b.1.2) ∧ b.2.1 ≤ v ∧ v ≤ b.2.2 := by
  rcases (by omega : k = 0 ∨ k = 1 ∨ k = 2 ∨ k = 3) with rfl | rfl | rfl | rfl
  · exact ⟨_, List.mem_of_getElem? (i := 0) rfl, ⟨by decide, by decide⟩, hv⟩
  · rcases (by omega : (v ≤ 1502) ∨ (1504 ≤ v ∧ v ≤ 240022) ∨ (240024 ≤ v ∧ v ≤ 355411) ∨ (355413 ≤ v ∧ v ≤ 8868695) ∨ (8868697 ≤ v)) with c | c | c | c | c
    · exact ⟨_, List.mem_of_getElem? (i := 1) rfl, ⟨by decide, by decide⟩, hv.1, c⟩
    · exact ⟨_, List.mem_of_getElem? (i := 2) rfl, ⟨by decide, by decide⟩, c.1, c.2⟩
    · exact ⟨_, List.mem_of_getElem? (i := 3) rfl, ⟨by decide, by decide⟩, c.1, c.2⟩
    · exact ⟨_, List.mem_of_getElem? (i := 4) rfl, ⟨by decide, by decide⟩, c.1, c.2⟩
    · exact ⟨_, List.mem_of_getElem? (i := 5) rfl, ⟨by decide, by decide⟩, c, hv.2⟩
  · exact ⟨_, List.mem_of_getElem? (i := 6) rfl, ⟨by decide, by decide⟩, hv⟩
  · exact ⟨_, List.mem_of_getElem? (i := 7) rfl, ⟨by decide, by decide⟩, hv⟩
def bx_I : List ((Int × Int) × (Int × Int)) := [((0, 0), (aI0, aI1)), ((1, 1), (aI0, 248)), ((1, 1), (250, aI1)), ((2, 2), (aI0, aI1)), ((3, 3), (aI0, aI1))]
theorem bx_I_of {k v : Int} (hk : 0 ≤ k ∧ k ≤ 3) (hv : aI0 ≤ v ∧ v ≤ aI1) (h0 : ¬ (k = 1 ∧ v = 249))  : ∃ b ∈ bx_I, (b.1.1 ≤ k ∧ k ≤ b.1.2) ∧ b.2.1 ≤ v ∧ v ≤ b.2.2 := by
  rcases (by omega : k = 0 ∨ k = 1 ∨ k = 2 ∨ k = 3) with rfl | rfl | rfl | rfl
  · exact ⟨_, List.mem_of_getElem? (i := 0) rfl, ⟨by decide, by decide⟩, hv⟩
  · rcases (by omega : (v ≤ 248) ∨ (250 ≤ v)) with c | c
    · exact ⟨_, List.mem_of_getElem? (i := 1) rfl, ⟨by decide, by decide⟩, hv.1, c⟩
    · exact ⟨_, List.mem_of_getElem? (i := 2) rfl, ⟨by decide, by decide⟩, c, hv.2⟩
  · exact ⟨_, List.mem_of_getElem? (i := 3) rfl, ⟨by decide, by decide⟩, hv⟩
  · exact ⟨_, List.mem_of_getElem? (i := 4) rfl, ⟨by decide, by decide⟩, hv⟩
def bx_B : List ((Int × Int) × (Int × Int)) := [((0, 0), (aI0, aI1)), ((1, 1), (aI0, 55368)), ((1, 1), (55370, aI1)), ((2, 2), (aI0, aI1)), ((3, 3), (aI0, aI1))]
theorem bx_B_of {k v : Int} (hk : 0 ≤ k ∧ k ≤ 3) (hv : aI0 ≤ v ∧ v ≤ aI1) (h0 : ¬ (k = 1 ∧ v = 55369))  : ∃ b ∈ bx_B, (b.1.1 ≤ k ∧ k ≤ b.1.2) ∧ b.2.1 ≤ v ∧ v ≤ b.2.2 := by
  rcases (by omega : k = 0 ∨ k = 1 ∨ k = 2 ∨ k = 3) with rfl | rfl | rfl | rfl
  · exact ⟨_, List.mem_of_getElem? (i := 0) rfl, ⟨by decide, by decide⟩, hv⟩
  · rcases (by omega : (v ≤ 55368) ∨ (55370 ≤ v)) with c | c
    · exact ⟨_, List.mem_of_getElem? (i := 1) rfl, ⟨by decide, by decide⟩, hv.1, c⟩
    · exact ⟨_, List.mem_of_getElem? (i := 2) rfl, ⟨by decide, by decide⟩, c, hv.2⟩
  · exact ⟨_, List.mem_of_getElem? (i := 3) rfl, ⟨by decide, by decide⟩, hv⟩
  · exact ⟨_, List.mem_of_getElem? (i := 4) rfl, ⟨by decide, by decide⟩, hv⟩
def bx_E : List ((Int × Int) × (Int × Int)) := [((0, 0), (aI0, aI1)), ((1, 1), (aI0, aI1)), ((2, 2), (aI0, aI1)), ((3, 3), (aI0, 58)), ((3, 3), (60, aI1))]
theorem bx_E_of {k v : Int} (hk : 0 ≤ k ∧ k ≤ 3) (hv : aI0 ≤ v ∧ v ≤ aI1)  (g0 : ¬ (k = 3 ∧ v = 59)) : ∃ b ∈ bx_E, (b.1.1 ≤ k ∧ k ≤ b.1.2) ∧ b.2.1 ≤ v ∧ v ≤ b.2.2 := by
  rcases (by omega : k = 0 ∨ k = 1 ∨ k = 2 ∨ k = 3) with rfl | rfl | rfl | rfl
  · exact ⟨_, List.mem_of_getElem? (i := 0) rfl, ⟨by decide, by decide⟩, hv⟩
  · exact ⟨_, List.mem_of_getElem? (i := 1) rfl, ⟨by decide, by decide⟩, hv⟩
  · exact ⟨_, List.mem_of_getElem? (i := 2) rfl, ⟨by decide, by decide⟩, hv⟩
  · rcases (by omega : (v ≤ 58) ∨ (60 ≤ v)) with c | c
    · exact ⟨_, List.mem_of_getElem? (i := 3) rfl, ⟨by decide, by decide⟩, hv.1, c⟩
    · exact ⟨_, List.mem_of_getElem? (i := 4) rfl, ⟨by decide, by decide⟩, c, hv.2⟩
section
set_option maxRecDepth 100000
theorem rl_0 : ∀ b ∈ bx_L, lp_chk gR 10 237 (0, [(0, 9), (aI0, (-1)), (0, 250), b.1, b.2], [], [((99, ae_k 24), ae_s 1), ((99, ae_k 21), ae_s 2), ((99, ae_k 20), ae_s 3), ((99, ae_k 23), ae_s 4)], [(0, .inr (0, 99)), (1, .inl (ae_s 0))], []) 72 [] [] [(99, some (ae_k 24, ae_s 2))] = true := by decide +kernel
theorem rl_10 : lp_chk gR 10 237 (0, [(aI0, (-1)), (0, 250)], [], [((99, ae_k 24), ae_s 0), ((99, ae_k 21), ae_s 1), ((99, ae_k 20), ae_k 1), ((99, ae_k 23), ae_k 355412)], [(0, .inr (0, 99)), (1, .inl (ae_k 9))], []) 72 [] [] [(99, some (ae_k 24, ae_s 1))] = true := by decide +kernel
theorem rl_20 : hp_chk gV0 1000 10 237 (0, [(0, 8)], [], [((99, ae_k 20), ae_k 1), ((99, ae_k 23), ae_k 355412)], [(0, .inr (0, 99)), (1, .inl (ae_s 0))], []) [] [(74, [(0, 8)], [], [(0, .inr (0, 99)), (1, .inl (ae_s 0)), (2, .inl (ae_k 0))], [.inr (0, 99)], [], [], mMU)] = true := by decide +kernel
theorem rl_11 : lp_chk gR 10 237 (0, [(aI0, (-1)), (0, 250)], [], [((99, ae_k 24), ae_s 0), ((99, ae_k 21), ae_s 1), ((99, ae_k 20), ae_k 1), ((99, ae_k 23), ae_k 1503)], [(0, .inr (0, 99)), (1, .inl (ae_k 9))], []) 72 [] [] [(99, some (ae_k 24, ae_s 1))] = true := by decide +kernel
theorem rl_21 : hp_chk gV0 1000 10 237 (0, [(0, 8)], [], [((99, ae_k 20), ae_k 1), ((99, ae_k 23), ae_k 1503)], [(0, .inr (0, 99)), (1, .inl (ae_s 0))], []) [] [(74, [(0, 8)], [], [(0, .inr (0, 99)), (1, .inl (ae_s 0)), (2, .inl (ae_k 1))], [.inr (0, 99)], [], [], mMU)] = true := by decide +kernel
theorem rl_12 : lp_chk gR 10 237 (0, [(aI0, (-1)), (0, 250)], [], [((99, ae_k 24), ae_s 0), ((99, ae_k 21), ae_s 1), ((99, ae_k 20), ae_k 1), ((99, ae_k 23), ae_k 240023)], [(0, .inr (0, 99)), (1, .inl (ae_k 9))], []) 72 [] [] [(99, some (ae_k 24, ae_s 1))] = true := by decide +kernel
theorem rl_22 : hp_chk gV0 1000 10 237 (0, [(0, 8)], [], [((99, ae_k 20), ae_k 1), ((99, ae_k 23), ae_k 240023)], [(0, .inr (0, 99)), (1, .inl (ae_s 0))], []) [] [(74, [(0, 8)], [], [(0, .inr (0, 99)), (1, .inl (ae_s 0)), (2, .inl (ae_k 2))], [.inr (0, 99)], [], [], mMU)] = true := by decide +kernel
theorem rl_13 : lp_chk gR 10 237 (0, [(aI0, (-1)), (0, 250)], [], [((99, ae_k 24), ae_s 0), ((99, ae_k 21), ae_s 1), ((99, ae_k 20), ae_k 1), ((99, ae_k 23), ae_k 8868696)], [(0, .inr (0, 99)), (1, .inl (ae_k 9))], []) 72 [] [] [(99, some (ae_k 24, ae_s 1))] = true := by decide +kernel
theorem rl_23 : hp_chk gV0 1000 10 237 (0, [(0, 8)], [], [((99, ae_k 20), ae_k 1), ((99, ae_k 23), ae_k 8868696)], [(0, .inr (0, 99)), (1, .inl (ae_s 0))], []) [] [(74, [(0, 8)], [], [(0, .inr (0, 99)), (1, .inl (ae_s 0)), (2, .inl (ae_k 3))], [.inr (0, 99)], [], [], mMU)] = true := by decide +kernel
theorem rl_3 : hp_chk gV0 1000 10 237 (77, [(0, 8), (0, 3)], [], [], [(0, .inr (0, 99)), (1, .inl (ae_s 0)), (2, .inl (ae_s 1))], []) [] [(87, [(0, 8), (0, 3)], [], [(0, .inr (0, 99)), (1, .inl (ae_s 0)), (2, .inl (ae_s 1)), (3, .inl (([(0, 4)], 0)))], [.inl (ae_s 1), .inl (([(0, 4)], 0)), .inr (0, 119)], [], [], mMU)] = true := by decide +kernel
theorem rl_4 : hp_chk gV0 1000 10 237 (88, [(0, 8)], [], [], [(0, .inr (0, 99)), (1, .inl (ae_s 0)), (2, .inl (ae_k 1)), (3, .inl (([(0, 4)], 0)))], []) [] [(120, [(0, 8)], [], [(0, .inr (0, 99)), (1, .inl (ae_s 0)), (2, .inl (ae_k 1)), (3, .inl (([(0, 4)], 0)))], [.inl (ae_k (-3)), .inl (([(0, 4)], 1)), .inr (0, 119)], [], [], mMU)] = true := by decide +kernel
theorem rl_50 : hp_chk gV0 1000 10 237 (88, [(0, 8)], [], [], [(0, .inr (0, 99)), (1, .inl (ae_s 0)), (2, .inl (ae_k 0)), (3, .inl (([(0, 4)], 0)))], []) [] [(117, [(0, 8)], [], [(0, .inr (0, 99)), (1, .inl (ae_s 0)), (2, .inl (ae_k 0)), (3, .inl (([(0, 4)], 0)))], [.inl (ae_k 9), .inr (0, 99), .inl (([(0, 4)], 1)), .inr (0, 119)], [], [], mMU)] = true := by decide +kernel
theorem rl_52 : hp_chk gV0 1000 10 237 (88, [(0, 8)], [], [], [(0, .inr (0, 99)), (1, .inl (ae_s 0)), (2, .inl (ae_k 2)), (3, .inl (([(0, 4)], 0)))], []) [] [(117, [(0, 8)], [], [(0, .inr (0, 99)), (1, .inl (ae_s 0)), (2, .inl (ae_k 2)), (3, .inl (([(0, 4)], 0)))], [.inl (ae_k 5), .inr (0, 99), .inl (([(0, 4)], 1)), .inr (0, 119)], [], [], mMU)] = true := by decide +kernel
theorem rl_53 : hp_chk gV0 1000 10 237 (88, [(0, 8)], [], [], [(0, .inr (0, 99)), (1, .inl (ae_s 0)), (2, .inl (ae_k 3)), (3, .inl (([(0, 4)], 0)))], []) [] [(117, [(0, 8)], [], [(0, .inr (0, 99)), (1, .inl (ae_s 0)), (2, .inl (ae_k 3)), (3, .inl (([(0, 4)], 0)))], [.inl (ae_k 9), .inr (0, 99), .inl (([(0, 4)], 1)), .inr (0, 119)], [], [], mMU)] = true := by decide +kernel
theorem rl_6 : hp_chk gV0 1000 10 237 (121, [(0, 8), (0, 3), (0, 256)], [], [((99, ae_k 28), ae_s 2)], [(0, .inr (0, 99)), (1, .inl (ae_s 0)), (2, .inl (ae_s 1)), (3, .inl (([(0, 4)], 0)))], []) [] [(132, [(0, 8), (0, 3), (0, 256)], [], [(0, .inr (0, 99)), (1, .inl (ae_s 0)), (2, .inl (ae_s 1)), (3, .inl (([(0, 4)], 0)))], [.inl (ae_s 2), .inl (([(0, 4)], 2)), .inr (0, 119)], [], [], mMU)] = true := by decide +kernel
theorem rl_7 : hp_chk gV0 1000 10 237 (133, [(0, 8)], [], [((99, ae_k 20), ae_k 1), ((99, ae_k 23), ae_k 249)], [(0, .inr (0, 99)), (1, .inl (ae_s 0)), (2, .inl (ae_k 1)), (3, .inl (([(0, 4)], 0)))], []) [] [(146, [(0, 8)], [], [(0, .inr (0, 99)), (3, .inl (([(0, 4)], 0)))], [.inl (ae_k 1), .inr (0, 99)], [], [], mMU)] = true := by decide +kernel
theorem rl_8 : ∀ b ∈ bx_I, hp_chk gV0 1000 10 237 (133, [(0, 8), b.1, b.2], [], [((99, ae_k 20), ae_s 1), ((99, ae_k 23), ae_s 2)], [(0, .inr (0, 99)), (1, .inl (ae_s 0)), (2, .inl (ae_k 1)), (3, .inl (([(0, 4)], 0)))], []) [] [(146, [(0, 8), b.1, b.2], [], [(0, .inr (0, 99)), (3, .inl (([(0, 4)], 0)))], [.inl (ae_k 0), .inr (0, 99)], [], [], mMU)] = true := by decide +kernel
theorem rl_9 : hp_chk gV0 1000 10 237 (149, [(0, 8)], [], [], [(0, .inr (0, 99)), (3, .inl (([(0, 4)], 0)))], []) [] [(150, [(0, 8)], [], [(0, .inr (0, 99)), (3, .inl (([(0, 4)], 0)))], [.inr (0, 99)], [], [], mMU)] = true := by decide +kernel
theorem rl_a : hp_chk gV0 1000 10 237 (153, [(0, 8)], [], [], [(0, .inr (0, 99)), (3, .inl (([(0, 4)], 0)))], []) [] [(208, [(0, 8)], [], [(0, .inr (0, 99)), (3, .inl (([(0, 4)], 0)))], [], [], [], mMU)] = true := by decide +kernel
theorem rl_b : hp_chk gV0 1000 10 237 (133, [(0, 8)], [], [((99, ae_k 20), ae_k 1), ((99, ae_k 23), ae_k 55369)], [(0, .inr (0, 99)), (1, .inl (ae_s 0)), (2, .inl (ae_k 2)), (3, .inl (([(0, 4)], 0)))], []) [] [(169, [(0, 8)], [], [(0, .inr (0, 99)), (3, .inl (([(0, 4)], 0)))], [.inl (ae_k 1), .inr (0, 99)], [], [], mMU)] = true := by decide +kernel
theorem rl_c : ∀ b ∈ bx_B, hp_chk gV0 1000 10 237 (133, [(0, 8), b.1, b.2], [], [((99, ae_k 20), ae_s 1), ((99, ae_k 23), ae_s 2)], [(0, .inr (0, 99)), (1, .inl (ae_s 0)), (2, .inl (ae_k 2)), (3, .inl (([(0, 4)], 0)))], []) [] [(169, [(0, 8), b.1, b.2], [], [(0, .inr (0, 99)), (3, .inl (([(0, 4)], 0)))], [.inl (ae_k 0), .inr (0, 99)], [], [], mMU)] = true := by decide +kernel
theorem rl_d : hp_chk gV0 1000 10 237 (172, [(0, 8)], [], [], [(0, .inr (0, 99)), (3, .inl (([(0, 4)], 0)))], []) [] [(173, [(0, 8)], [], [(0, .inr (0, 99)), (3, .inl (([(0, 4)], 0)))], [.inr (0, 99)], [], [], mMU)] = true := by decide +kernel
theorem rl_e : hp_chk gV0 1000 10 237 (176, [(0, 8)], [], [], [(0, .inr (0, 99)), (3, .inl (([(0, 4)], 0)))], []) [] [(208, [(0, 8)], [], [(0, .inr (0, 99)), (3, .inl (([(0, 4)], 0)))], [], [], [], mMU)] = true := by decide +kernel
theorem rl_f : hp_chk gV0 1000 10 237 (133, [(0, 8), (0, aI1), (0, 3), aF], [], [((99, ae_k 24), ae_s 1), ((99, ae_k 20), ae_s 2), ((99, ae_k 23), ae_s 3)], [(0, .inr (0, 99)), (1, .inl (ae_s 0)), (2, .inl (ae_k 2)), (3, .inl (([(0, 4)], 0)))], []) [] [(173, [(0, 8), (0, aI1), (0, 3), aF], [], [(0, .inr (0, 99)), (3, .inl (([(0, 4)], 0)))], [.inr (0, 99)], [], [], mMU)] = true := by decide +kernel
theorem rl_g : hp_chk gV0 1000 10 237 (133, [(0, 8), (aI0, (-1))], [], [((99, ae_k 24), ae_s 1), ((99, ae_k 20), ae_k 1), ((99, ae_k 23), ae_k 249)], [(0, .inr (0, 99)), (1, .inl (ae_s 0)), (2, .inl (ae_k 0)), (3, .inl (([(0, 4)], 0)))], []) [] [(201, [(0, 8), (aI0, (-1))], [], [(0, .inr (0, 99)), (3, .inl (([(0, 4)], 0)))], [.inr (0, 99)], [], [], mMU)] = true := by decide +kernel
theorem rl_h : hp_chk gV0 1000 10 237 (204, [(0, 8)], [], [], [(0, .inr (0, 99)), (3, .inl (([(0, 4)], 0)))], []) [] [(205, [(0, 8)], [], [(0, .inr (0, 99)), (3, .inl (([(0, 4)], 0)))], [.inr (0, 99)], [], [], mMU)] = true := by decide +kernel
theorem rl_i : ∀ b ∈ bx_I, hp_chk gV0 1000 10 237 (133, [(0, 8), (aI0, (-1)), b.1, b.2], [], [((99, ae_k 24), ae_s 1), ((99, ae_k 20), ae_s 2), ((99, ae_k 23), ae_s 3)], [(0, .inr (0, 99)), (1, .inl (ae_s 0)), (2, .inl (ae_k 0)), (3, .inl (([(0, 4)], 0)))], []) [] [(208, [(0, 8), (aI0, (-1)), b.1, b.2], [], [(0, .inr (0, 99)), (3, .inl (([(0, 4)], 0)))], [], [], [], mMU)] = true := by decide +kernel
theorem rl_j : hp_chk gV0 1000 10 237 (133, [(0, 8), (0, aI1)], [], [((99, ae_k 24), ae_s 1)], [(0, .inr (0, 99)), (1, .inl (ae_s 0)), (2, .inl (ae_k 0)), (3, .inl (([(0, 4)], 0)))], []) [] [(208, [(0, 8), (0, aI1)], [], [(0, .inr (0, 99)), (3, .inl (([(0, 4)], 0)))], [], [], [], mMU)] = true := by decide +kernel
theorem rl_k : hp_chk gV0 1000 10 237 (133, [(0, 8)], [], [], [(0, .inr (0, 99)), (1, .inl (ae_s 0)), (2, .inl (ae_k 3)), (3, .inl (([(0, 4)], 0)))], []) [] [(208, [(0, 8)], [], [(0, .inr (0, 99)), (3, .inl (([(0, 4)], 0)))], [], [], [], mMU)] = true := by decide +kernel
theorem rl_l : hp_chk gV0 1000 10 237 (208, [(0, 8), (0, 256), (0, 256)], [], [((99, ae_k 28), ae_s 1), ((119, ([(0, 4)], 2)), ae_s 2)], [(0, .inr (0, 99)), (3, .inl (([(0, 4)], 0)))], []) [] [(228, [(0, 8), (0, 256), (0, 256)], [], [(0, .inr (0, 99))], [.inl (([(1, 1), (2, (-1))], 0)), .inl (([(0, 4)], 3)), .inr (0, 119)], [], [], mMU)] = true := by decide +kernel
theorem rl_m : hp_chk gV0 1000 10 237 (229, [], [], [((99, ae_k 20), ae_k 3), ((99, ae_k 23), ae_k 59)], [(0, .inr (0, 99))], []) [] [(236, [], [], [(0, .inr (0, 99))], [.inl (ae_k 1), .inr (0, 99)], [], [], mMU)] = true := by decide +kernel
theorem rl_n : ∀ b ∈ bx_E, hp_chk gV0 1000 10 237 (229, [b.1, b.2], [], [((99, ae_k 20), ae_s 0), ((99, ae_k 23), ae_s 1)], [(0, .inr (0, 99))], []) [] [(236, [b.1, b.2], [], [(0, .inr (0, 99))], [.inl (ae_k 0), .inr (0, 99)], [], [], mMU)] = true := by decide +kernel
theorem rl_o : hp_chk gV0 1000 10 237 (229, [(0, aI1), (0, 3), aF], [], [((99, ae_k 24), ae_s 0), ((99, ae_k 20), ae_s 1), ((99, ae_k 23), ae_s 2)], [(0, .inr (0, 99))], []) [] [(239, [(0, aI1), (0, 3), aF], [], [], [], [], [], mMU)] = true := by decide +kernel
theorem rz_0 : lp_chk gR 12 232 (0, [], [], [], [(0, .inr (0, 99))], []) 16 [(0, .inr (0, 99))] [.inr (0, 99)] [(99, some (ae_k 28, ae_k 0)), (99, some (ae_k 22, ae_k 0)), (99, some (ae_k 24, ae_k (-1)))] = true := by decide +kernel
theorem rz_1 : hp_chk gV0 1000 12 232 (19, [], [], [], [(0, .inr (0, 99))], []) [] [(21, [], [], [(0, .inr (0, 99)), (1, .inl (ae_k 0))], [], [], [], mMU)] = true := by decide +kernel
theorem rz_2 : hp_chk gV0 1000 12 232 (21, [(0, 10), (1, 3), (aI0, (-1))], [], [((99, ae_k 24), ae_s 2), ((99, ae_k 20), ae_s 1)], [(0, .inr (0, 99)), (1, .inl (ae_s 0))], []) [] [(37, [(0, 10), (1, 3), (aI0, (-1))], [], [(0, .inr (0, 99)), (1, .inl (ae_s 0))], [.inl (ae_s 0), .inr (0, 99)], [], [], mMU)] = true := by decide +kernel
theorem rz_3 : hp_chk gV0 1000 12 232 (40, [(0, 9)], [], [], [(0, .inr (0, 99)), (1, .inl (ae_s 0))], []) [] [(21, [(0, 9)], [], [(0, .inr (0, 99)), (1, .inl (([(0, 1)], 1)))], [], [], [], mMU)] = true := by decide +kernel
theorem rz_4 : hp_chk gV0 1000 12 232 (21, [(0, 10)], [], [((99, ae_k 20), ae_k 0)], [(0, .inr (0, 99)), (1, .inl (ae_s 0))], []) [] [(46, [(0, 10)], [], [(0, .inr (0, 99)), (1, .inl (ae_s 0))], [], [], [], mMU)] = true := by decide +kernel
theorem rz_5 : hp_chk gV0 1000 12 232 (21, [(0, 10), (0, aI1), (0, 3)], [], [((99, ae_k 24), ae_s 1), ((99, ae_k 20), ae_s 2)], [(0, .inr (0, 99)), (1, .inl (ae_s 0))], []) [] [(46, [(0, 10), (0, aI1), (0, 3)], [], [(0, .inr (0, 99)), (1, .inl (ae_s 0))], [], [], [], mMU)] = true := by decide +kernel
theorem rz_6 : lp_chk gR 12 232 (46, [(0, 250)], [], [((99, ae_k 24), ae_s 0)], [(0, .inr (0, 99))], []) 65 [] [.inl (([(0, (-1))], (-100)))] [(99, some (ae_k 19, ae_k 0))] = true := by decide +kernel
theorem rz_7 : lp_chk gR 12 232 (46, [(aI0, (-1))], [], [((99, ae_k 24), ae_s 0), ((100, ae_k 6), ae_k 8)], [(0, .inr (0, 99))], []) 82 [] [.inl (ae_k (-2))] [(99, some (ae_k 19, ae_k 0))] = true := by decide +kernel
theorem rz_8 : lp_chk gR 12 232 (46, [(aI0, (-1)), (0, 9), (0, 7)], [], [((99, ae_k 24), ae_s 0), ((100, ae_k 6), ae_s 2)], [(0, .inr (0, 99)), (1, .inl (ae_s 1))], []) 83 [(0, .inr (0, 99)), (1, .inl (ae_s 1)), (2, .inl (ae_s 2))] [] [(99, some (ae_k 19, ae_k 0))] = true := by decide +kernel
/-- the end, told: symbols n, v, how many signs -/
def rz_cE : aCon := (232, [(0, 9), (0, 7), (0, 256), aF], [], [], [], [100], 12, [([], [], some (.inl (ae_s 1)), [((100, ae_k 6), ([(1, 1)], 1)), ((100, ae_k 0), ae_s 3)])])
theorem rz_kE : ak_ends rz_cE.2.1.length rz_cE (ak_run gW 100000 12 rz_cE.1 rz_cE.2.1.length [] [] none false (mj_jmp rz_cE.1 142) (rw_lvk (ae_s 2)) [] (rz_cE.2.1, rz_cE.2.2.1, [], [((99, ae_k 28), ae_s 2), ((100, ae_k 6), ae_s 1), ((100, ae_k 0), ae_s 3)], [])) = true := by decide +kernel
end
section RR
variable {E : mj_E} {Q : Option Value → va_W → Prop} {al : List Nat} {w w0 w1 w2 ws ws0 wb : va_W} {T : Nat → Int} {n : Nat} {ρ : List Int}
/-- what wantLine leaves -/
def rlQ (E : mj_E) (al : List Nat) (ws0 : va_W) (T : Nat → Int) (n s0 : Nat) (ls : tLs) (v : Option Value) (w : va_W) : Prop := wl_post E al ws0 (ls.length : Int) v w ∧ ((jF w 24 < 0 ∧ ∃ s2 so v', s0 < s2 ∧ rtk w T n s2 ∧ run T n 0 0 ls s0 = run T n 0 0 (ls ++ [(so, v')]) s2 ∧ (jR w 119 (4 * ls.length)).toInt = so ∧ (jR w 119 (4 * ls.length + 1)).toInt = v') ∨ (0 ≤ jF w 24 ∧ (∃ s2, rtk w T n s2) ∧ (run T n 0 0 ls s0).1 = jF w 24))
/-- the last store of a line -/
theorem rl_208 (hf : E.2.2.2.1.category = 1) (hT : ∀ σ : List Int, aTb E σ aTabs) (H : hOk E al gR jJ) (h0 : hI E al jJ ws0) {ls : tLs} (hj8 : ls.length ≤ 8) (hL : lB E al ws0 w (ls.length : Int)) (h2 : (jR w 119 (4 * ls.length + 2)).toInt = jF ws0 28)
    (hq : ∀ (w3 : va_W) (z : Int32), lB E al ws0 w3 (ls.length : Int) → hD [119] w w3 → rT w w3 → jF w3 28 = jF w 28 → jR w3 120 = jR w 120 → z.toInt = jF w 28 - jF ws0 28 → jR w3 119 = upd (jR w 119) (4 * ls.length + 3) z → hG E al 10 237 229 [(0, .inr (0, 99))] [] [] w3 Q) : hG E al 10 237 208 [(0, .inr (0, 99)), (3, .inl (ae_k (4 * (ls.length : Int))))] [] [] w Q := by
  have h := hL.1
  have b := h.bds
  have b0 := h0.bds
  obtain ⟨w19, r19, k19⟩ := h.1.row aw_119
  have s28 := rsl h (i := 28) (b := (0, 256)) (by decide +kernel) rfl
  have sz := aSl.row r19 (i := 4 * ls.length + 2) (by omega) h2
  refine ky_go hf hT h.1 (by decide) (ρ := [(ls.length : Int), (jF w 28), (jF ws0 28)]) rl_l ⟨⟨by omega, by omega⟩, ⟨by omega, by omega⟩, ⟨by omega, by omega⟩, trivial⟩ aFs.nil (aHh.cons (kn1 (i := 28) (by decide) rfl (ev_s rfl) s28) (aHh.cons (kns (by decide) rfl rfl (i := 4 * ls.length + 2) (by simp only [ae_ev, ae_el, ae_s, ae_k, List.getD_cons_zero, List.getD_cons_succ]; omega) (ev_s rfl) sz) aHh.nil)) (by rfl) (by rfl) (lEr (lEi (by simp only [ae_ev, ae_el, ae_s, ae_k, List.getD_cons_zero, List.getD_cons_succ]; omega) lE0)) sE0 (lvk2 := [(0, .inr (0, 99))]) (lEr lE0) (stk2 := [.inl (ae_k (jF w 28 - jF ws0 28)), .inl (ae_k (4 * (ls.length : Int) + 3)), .inr (0, 119)]) (sEi (by simp only [ae_ev, ae_el, ae_s, ae_k, List.getD_cons_zero, List.getD_cons_succ]; omega) (sEi (by simp only [ae_ev, ae_el, ae_s, ae_k, List.getD_cons_zero, List.getD_cons_succ]; omega) (sEr sE0))) ?_
  refine hp_ias (by decide +kernel) h.1 aw_119 (aV.k _) (aV.k _) (by omega) (by omega) (fun z w3 hz hq3 hj hw => ?_)
  obtain ⟨q, rfl⟩ := hq3
  have e3 : (4 * (ls.length : Int) + 3).toNat = 4 * ls.length + 3 := by omega
  obtain ⟨b1, o, o8, e120⟩ := hL.put (c := 3) (hw (aF_any hz)) hj (by omega) (by decide)
  rw [e3] at hj
  exact hq _ z b1 hD.set o o8 e120 hz hj
/-- a good line's end -/
theorem rl_G (hf : E.2.2.2.1.category = 1) (hT : ∀ σ : List Int, aTb E σ aTabs) (H : hOk E al gR jJ) (h0 : hI E al jJ ws0) (HT0 : rtT ws0 T n) {s0 s : Nat} {ls : tLs} (hk0 : rtk ws0 T n s0) (hj8 : ls.length ≤ 8) (hL : lB E al ws0 w (ls.length : Int)) (h2 : (jR w 119 (4 * ls.length + 2)).toInt = jF ws0 28) (hk : rtk w T n s) (h24 : jF w 24 < 0) (hss : s0 < s) (hR : lR w (ls.length : Int)) (hd : dep (jR w 120) (jF ws0 28).toNat ((jF w 28).toNat - (jF ws0 28).toNat) ≠ none) {so v : Int} (hso : (jR w 119 (4 * ls.length)).toInt = so) (hv : (jR w 119 (4 * ls.length + 1)).toInt = v)
    (h1 : tw 23 T n s = true → run T n 0 0 ls s0 = run T n 0 0 (ls ++ [(so, v)]) (tX T n s)) (hf0 : tw 23 T n s = false → (run T n 0 0 ls s0).1 = (s : Int)) : hG E al 10 237 208 [(0, .inr (0, 99)), (3, .inl (ae_k (4 * (ls.length : Int))))] [] [] w (rlQ E al ws0 T n s0 ls) := by
  have HV : hOk E al gV0 (fun _ => True) := hOkV hf hT (fun _ _ _ _ h => h)
  refine rl_208 hf hT H h0 hj8 hL h2 (fun w3 z b1 d3 o o8 e120 hz hj => ?_)
  have k3 := hk.t o
  have e24 : jF w3 24 = jF w 24 := o.2.2.2.2.2
  have h3 := b1.1
  have HT3 : rtT w3 T n := HT0.more b1.2.1 (by decide)
  have hn := HT3.1
  have kb := tK_b (T := T) (n := n) (s := s)
  have b23 := h3.f (i := 23) (b := aF) (by decide +kernel)
  rw [k3.2.2.2.2.2] at b23
  have s0' := hk0.2.2.2.1
  have s1' := hk.2.2.2.1
  have i0 : (4 * (ls.length : Int)).toNat = 4 * ls.length := by omega
  have i1 : (4 * (ls.length : Int) + 1).toNat = 4 * ls.length + 1 := by omega
  have i2 : (4 * (ls.length : Int) + 2).toNat = 4 * ls.length + 2 := by omega
  have i3 : (4 * (ls.length : Int) + 3).toNat = 4 * ls.length + 3 := by omega
  have fin : ∀ w4, hI E al jJ w4 → hD [99] w3 w4 → jF w4 19 = jF w3 19 → jF w4 28 = jF w3 28 → jF w3 21 ≤ jF w4 21 → lB E al ws0 w4 (ls.length : Int) ∧ lG ws0 w4 (ls.length : Int) ∧ (jR w4 119 (4 * ls.length)).toInt = so ∧ (jR w4 119 (4 * ls.length + 1)).toInt = v := by
    intro w4 h4 d4 f19 f28 f21
    have e119 : jR w4 119 = jR w3 119 := d4.row (by decide)
    have e120b : jR w4 120 = jR w3 120 := d4.row (by decide)
    refine ⟨lB_tok b1 h4 d4 f19 f28 f21, ?_, ?_, ?_⟩
    · unfold lG lR
      unfold lR at hR
      rw [i0, i1] at hR
      rw [i0, i1, i2, i3, e119, e120b, f28, hj, o8, e120, upd_lo (show 4 * ls.length ≠ 4 * ls.length + 3 by omega), upd_lo (show 4 * ls.length + 1 ≠ 4 * ls.length + 3 by omega), upd_lo (show 4 * ls.length + 2 ≠ 4 * ls.length + 3 by omega), upd_at]
      exact ⟨hR, h2, hz, hd⟩
    · rw [e119, hj, upd_lo (by omega)]
      exact hso
    · rw [e119, hj, upd_lo (by omega)]
      exact hv
  have s20 := rsl h3 (i := 20) (b := (0, 3)) (by decide +kernel) k3.2.2.1
  have s23 := rsl h3 (i := 23) (b := aF) (by decide +kernel) k3.2.2.2.2.2
  cases e : tw 23 T n s with
  | true =>
    obtain ⟨q1, q2⟩ := tw_23.mp e
    rw [q1] at s20
    rw [q2] at s23
    have x2 := tX_lt (T := T) (tw_lt e)
    refine ky_go hf hT h3.1 (by decide) (ρ := []) rl_m trivial aFs.nil (aHh.cons (kn1 (i := 20) (by decide) rfl ae_ev_k s20) (aHh.cons (kn1 (i := 23) (by decide) rfl ae_ev_k s23) aHh.nil)) (by rfl) (by rfl) (lEr lE0) sE0 (lvk2 := [(0, .inr (0, 99))]) (lEr lE0) (stk2 := [.inl (ae_k (1)), .inr (0, 99)]) (sEi ae_ev_k (sEr sE0)) ?_
    refine rw_callT hf hT H h3 HT3 k3 (by omega) (d := 9) (by decide) (by decide) (by rfl) (fun w4 m1 m2 m3 m4 m5 m6 => ?_)
    obtain ⟨l1, l2, l3, l4⟩ := fin w4 m1 m2 (m3.2.1.trans k3.2.1.symm) m5 (by rw [k3.2.2.2.1, m3.2.2.2.1]; omega)
    obtain ⟨t, ht, hK, -⟩ := m3.K (by omega)
    have m21 := m3.2.2.2.1
    exact hp_ret HV (by decide) (by decide +kernel) (by decide +kernel) ⟨⟨rfl, l1, t, by omega, hK, fun _ => ⟨by omega, by omega, l2⟩⟩, Or.inl ⟨by omega, tX T n s, so, v, by omega, m3, h1 e, l3, l4⟩⟩
  | false =>
    obtain ⟨b, hb2, q⟩ := bx_E_of (k := tK T n s) (v := tV T n s) kb b23 (twF tw_23 e)
    refine ky_go hf hT h3.1 (by decide) (ρ := [(tK T n s), (tV T n s)]) (rl_n b hb2) ⟨q.1, q.2, trivial⟩ aFs.nil (aHh.cons (kn1 (i := 20) (by decide) rfl (ev_s rfl) s20) (aHh.cons (kn1 (i := 23) (by decide) rfl (ev_s rfl) s23) aHh.nil)) (by rfl) (by rfl) (lEr lE0) sE0 (lvk2 := [(0, .inr (0, 99))]) (lEr lE0) (stk2 := [.inl (ae_k (0)), .inr (0, 99)]) (sEi ae_ev_k (sEr sE0)) ?_
    refine rw_callF hf hT H h3 hn k3 (by omega) (d := 9) (by decide) (by decide) (by rfl) (fun w4 m1 m2 m3 m4 m5 m6 => ?_)
    obtain ⟨l1, l2, l3, l4⟩ := fin w4 m1 m2 (m3.2.1.trans k3.2.1.symm) m5 (by rw [k3.2.2.2.1, m3.2.2.2.1]; omega)
    exact hp_ret HV (by decide) (by decide +kernel) (by decide +kernel) ⟨⟨rfl, l1, 4, by decide, m3.K4 (by omega), fun h => by omega⟩, Or.inr ⟨by omega, ⟨s, m3⟩, by rw [hf0 e, m4]⟩⟩
/-- a line at fault -/
theorem rl_B (hf : E.2.2.2.1.category = 1) (hT : ∀ σ : List Int, aTb E σ aTabs) (H : hOk E al gR jJ) (h0 : hI E al jJ ws0) {s0 s : Nat} {ls : tLs} (hj8 : ls.length ≤ 8) (hL : lB E al ws0 w (ls.length : Int)) (h2 : (jR w 119 (4 * ls.length + 2)).toInt = jF ws0 28) (hk : rtk w T n s) (h24 : 0 ≤ jF w 24) (hr : (run T n 0 0 ls s0).1 = jF w 24) : hG E al 10 237 208 [(0, .inr (0, 99)), (3, .inl (ae_k (4 * (ls.length : Int))))] [] [] w (rlQ E al ws0 T n s0 ls) := by
  have HV : hOk E al gV0 (fun _ => True) := hOkV hf hT (fun _ _ _ _ h => h)
  refine rl_208 hf hT H h0 hj8 hL h2 (fun w3 z b1 d3 o o8 e120 hz hj => ?_)
  have k3 := hk.t o
  have e24 : jF w3 24 = jF w 24 := o.2.2.2.2.2
  have h3 := b1.1
  have b24 := h3.f (i := 24) (b := aF) (by decide +kernel)
  have b23 := h3.f (i := 23) (b := aF) (by decide +kernel)
  have b20 := h3.f (i := 20) (b := (0, 3)) (by decide +kernel)
  have s24 := rsl h3 (i := 24) (b := aF) (by decide +kernel) rfl
  have s20 := rsl h3 (i := 20) (b := (0, 3)) (by decide +kernel) rfl
  have s23 := rsl h3 (i := 23) (b := aF) (by decide +kernel) rfl
  refine ky_go hf hT h3.1 (by decide) (ρ := [(jF w3 24), (jF w3 20), (jF w3 23)]) rl_o ⟨⟨by omega, b24.2⟩, b20, b23, trivial⟩ aFs.nil (aHh.cons (kn1 (i := 24) (by decide) rfl (ev_s rfl) s24) (aHh.cons (kn1 (i := 20) (by decide) rfl (ev_s rfl) s20) (aHh.cons (kn1 (i := 23) (by decide) rfl (ev_s rfl) s23) aHh.nil))) (by rfl) (by rfl) (lEr lE0) sE0 (lvk2 := []) lE0 (stk2 := []) sE0 ?_
  exact hp_ret HV (by decide) (by decide +kernel) (by decide +kernel) ⟨⟨rfl, b1, 4, by decide, k3.K4 (by omega), fun h => by omega⟩, Or.inr ⟨by omega, ⟨s, k3⟩, by rw [e24]; exact hr⟩⟩
/-- a line's world behind wantCond -/
theorem lB.cond {m : Int} (hL : lB E al ws0 w m) (c : cB E al w w2) : lB E al ws0 w2 m ∧ jR w2 119 = jR w 119 := by
  obtain ⟨c1, c2, c3, c4, c5, c6, c7⟩ := c
  obtain ⟨-, m2, m3, m4, m5, m6, m7, m8⟩ := hL
  have b2 := c1.bds
  have e119 : jR w2 119 = jR w 119 := c2.row (by decide)
  exact ⟨⟨c1, m2.trans (c2.more (by simp)), by omega, by omega, by omega, by omega, fun i hi => by rw [c7 i (by omega)]; exact m7 i hi, fun i hi => by rw [e119]; exact m8 i hi⟩, e119⟩
theorem rl_cond (hf : E.2.2.2.1.category = 1) (hT : ∀ σ : List Int, aTb E σ aTabs) (H : hOk E al gR jJ) (h0 : hI E al jJ ws0) (HT0 : rtT ws0 T n) {s0 s : Nat} {ls : tLs} (hk0 : rtk ws0 T n s0) (hj8 : ls.length ≤ 8) (hL : lB E al ws0 w (ls.length : Int)) (h28 : jF w 28 = jF ws0 28) (h2 : (jR w 119 (4 * ls.length + 2)).toInt = jF ws0 28) (hk : rtk w T n s) (h24 : jF w 24 < 0) (hss : s0 < s) (hR : lR w (ls.length : Int)) {so v : Int} (hso : (jR w 119 (4 * ls.length)).toInt = so) (hv : (jR w 119 (4 * ls.length + 1)).toInt = v) (hr : run T n 0 0 ls s0 = run T n 5 0 (ls ++ [(so, v)]) s)
    {pc : Nat} (hc : ak_callat gR (9 + 1) 237 pc [(0, .inr (0, 99)), (3, .inl (ae_k (4 * (ls.length : Int))))] [.inr (0, 99)] ([], [], [], [], []) = some (242, [.inr (0, 99)], []))
    (hq : ∀ w', hI E al jJ w' → hG E al 10 237 208 [(0, .inr (0, 99)), (3, .inl (ae_k (4 * (ls.length : Int))))] [] [] w' (rlQ E al ws0 T n s0 ls) → hG E al 10 237 (pc + 3) [(0, .inr (0, 99)), (3, .inl (ae_k (4 * (ls.length : Int))))] [] [] w' (rlQ E al ws0 T n s0 ls)) : hG E al 10 237 pc [(0, .inr (0, 99)), (3, .inl (ae_k (4 * (ls.length : Int))))] [.inr (0, 99)] [] w (rlQ E al ws0 T n s0 ls) := by
  have h := hL.1
  refine rd_call (d := 9) (R := fun w2 => rcQ E al w T n s (ls ++ [(so, v)]) none w2) H h (by decide) hc (fun AS ha => ?_) (fun w2 hR2 => ?_)
  · exact (rc_mj hf hT H h (HT0.more hL.2.1 (by decide)) hk h24 hL.2.2.2.2.1 ha).weaken (by decide) (Nat.le_refl _) (Nat.le_refl _) (fun v w z => ⟨z.1.1, ⟨rfl, z.1.2⟩, z.2⟩)
  · obtain ⟨⟨-, cb, t, ht, hK, hdd⟩, hF⟩ := hR2
    obtain ⟨l2, e119⟩ := hL.cond cb
    refine hq w2 cb.1 ?_
    rcases hF with ⟨g24, s2, hs2, k2, hr2, t21, t22⟩ | ⟨g24, ⟨s2, k2⟩, hr2⟩
    · have t4 : t < 4 := by
        rcases (by omega : t < 4 ∨ t = 4) with h4 | h4
        · exact h4
        · subst h4
          have := hK.2.2.1 rfl
          omega
      have dp := hdd t4
      rw [h28] at dp
      exact rl_G hf hT H h0 HT0 hk0 hj8 l2 (by rw [e119]; exact h2) k2 g24 (by omega) (by unfold lR at hR ⊢; rw [e119]; exact hR) dp (by rw [e119]; exact hso) (by rw [e119]; exact hv) (fun e => (hr.trans hr2).trans (run_go (q := (0, 0, ls ++ [(so, v)])) (by simp [tStep, t21, t22, e]))) (fun e => by rw [hr, hr2, run_no (by simp [tStep, t21, t22, e]) (Or.inr (by decide))])
    · exact rl_B hf hT H h0 hj8 l2 (by rw [e119]; exact h2) k2 g24 (by rw [hr]; exact hr2)
theorem rl_condB (hf : E.2.2.2.1.category = 1) (hT : ∀ σ : List Int, aTb E σ aTabs) (H : hOk E al gR jJ) (h0 : hI E al jJ ws0) {s0 s : Nat} {ls : tLs} (hj8 : ls.length ≤ 8) (hL : lB E al ws0 w (ls.length : Int)) (h2 : (jR w 119 (4 * ls.length + 2)).toInt = jF ws0 28) (hk : rtk w T n s) (h24 : 0 ≤ jF w 24) (hr : (run T n 0 0 ls s0).1 = jF w 24)
    {pc : Nat} (hc : ak_callat gR (9 + 1) 237 pc [(0, .inr (0, 99)), (3, .inl (ae_k (4 * (ls.length : Int))))] [.inr (0, 99)] ([], [], [], [], []) = some (242, [.inr (0, 99)], []))
    (hq : ∀ w', hI E al jJ w' → hG E al 10 237 208 [(0, .inr (0, 99)), (3, .inl (ae_k (4 * (ls.length : Int))))] [] [] w' (rlQ E al ws0 T n s0 ls) → hG E al 10 237 (pc + 3) [(0, .inr (0, 99)), (3, .inl (ae_k (4 * (ls.length : Int))))] [] [] w' (rlQ E al ws0 T n s0 ls)) : hG E al 10 237 pc [(0, .inr (0, 99)), (3, .inl (ae_k (4 * (ls.length : Int))))] [.inr (0, 99)] [] w (rlQ E al ws0 T n s0 ls) := by
  refine rd_call (d := 9) (R := fun w2 => cB E al w w2 ∧ rtk w2 T n s ∧ jF w2 24 = jF w 24) H hL.1 (by decide) hc (fun AS ha => ?_) (fun w2 hR2 => ?_)
  · exact (rc_mjB hf hT H hL.1 hk h24 hL.2.2.2.2.1 ha).weaken (by decide) (Nat.le_refl _) (Nat.le_refl _) (fun v w z => z)
  · obtain ⟨cb, k2, e24⟩ := hR2
    obtain ⟨l2, e119⟩ := hL.cond cb
    exact hq w2 cb.1 (rl_B hf hT H h0 hj8 l2 (by rw [e119]; exact h2) k2 (by omega) (by rw [e24]; exact hr))
/-- behind the number -/
theorem rl_133G (hf : E.2.2.2.1.category = 1) (hT : ∀ σ : List Int, aTb E σ aTabs) (H : hOk E al gR jJ) (h0 : hI E al jJ ws0) (HT0 : rtT ws0 T n) {s0 s so : Nat} {ls : tLs} (hk0 : rtk ws0 T n s0) (hj8 : ls.length ≤ 8) (hL : lB E al ws0 w (ls.length : Int)) (h28 : jF w 28 = jF ws0 28) (h2 : (jR w 119 (4 * ls.length + 2)).toInt = jF ws0 28) (hk : rtk w T n s) (h24 : jF w 24 < 0) (hss : s0 < s) (hR : lR w (ls.length : Int)) {v : Int} (hso : (jR w 119 (4 * ls.length)).toInt = (so : Int)) (hv : (jR w 119 (4 * ls.length + 1)).toInt = v)
    (hs4 : so < 4) (hv1 : so = 1 → v = -3) (hr : run T n 0 0 ls s0 = if so = 1 then run T n 2 0 ls s else run T n (if so = 0 then 3 else if so = 2 then 4 else 9) 0 (ls ++ [((so : Int), v)]) s) : hG E al 10 237 133 [(0, .inr (0, 99)), (1, .inl (ae_k (ls.length : Int))), (2, .inl (ae_k (so : Int))), (3, .inl (ae_k (4 * (ls.length : Int))))] [] [] w (rlQ E al ws0 T n s0 ls) := by
  have HV : hOk E al gV0 (fun _ => True) := hOkV hf hT (fun _ _ _ _ h => h)
  have h := hL.1
  have HT : rtT w T n := HT0.more hL.2.1 (by decide)
  have hn := HT.1
  have kb := tK_b (T := T) (n := n) (s := s)
  have b24 := h.f (i := 24) (b := aF) (by decide +kernel)
  have b23 := h.f (i := 23) (b := aF) (by decide +kernel)
  rw [hk.2.2.2.2.2] at b23
  have s24 := rsl h (i := 24) (b := aF) (by decide +kernel) rfl
  have s20 := rsl h (i := 20) (b := (0, 3)) (by decide +kernel) hk.2.2.1
  have s23 := rsl h (i := 23) (b := aF) (by decide +kernel) hk.2.2.2.2.2
  have nd : dep (jR w 120) (jF ws0 28).toNat ((jF w 28).toNat - (jF ws0 28).toNat) ≠ none := by
    rw [h28, Nat.sub_self]
    exact fun e => by cases e
  -- a call moves the token alone
  have mv : ∀ w4, hI E al jJ w4 → hD [99] w w4 → jF w4 19 = jF w 19 → jF w4 28 = jF w 28 → jF w 21 ≤ jF w4 21 → lB E al ws0 w4 (ls.length : Int) ∧ (jR w4 119 (4 * ls.length + 2)).toInt = jF ws0 28 ∧ lR w4 (ls.length : Int) ∧ (jR w4 119 (4 * ls.length)).toInt = (so : Int) ∧ (jR w4 119 (4 * ls.length + 1)).toInt = v := by
    intro w4 h4 d4 f19 f28 f21
    have e119 : jR w4 119 = jR w 119 := d4.row (by decide)
    unfold lR at hR ⊢
    rw [e119]
    exact ⟨lB_tok hL h4 d4 f19 f28 f21, h2, hR, hso, hv⟩
  have k21 := hk.2.2.2.1
  rcases (by omega : so = 0 ∨ so = 1 ∨ so = 2 ∨ so = 3) with rfl | rfl | rfl | rfl
  · have hr : run T n 0 0 ls s0 = run T n 3 0 (ls ++ [(((0 : Nat) : Int), v)]) s := hr
    cases e : tw 6 T n s with
    | true =>
      obtain ⟨q1, q2⟩ := tw_6.mp e
      rw [q1] at s20
      rw [q2] at s23
      have x2 := tX_lt (T := T) (tw_lt e)
      refine ky_go hf hT h.1 (by decide) (ρ := [(ls.length : Int), (jF w 24)]) rl_g ⟨⟨by omega, by omega⟩, ⟨b24.1, by omega⟩, trivial⟩ aFs.nil (aHh.cons (kn1 (i := 24) (by decide) rfl (ev_s rfl) s24) (aHh.cons (kn1 (i := 20) (by decide) rfl ae_ev_k s20) (aHh.cons (kn1 (i := 23) (by decide) rfl ae_ev_k s23) aHh.nil))) (by rfl) (by rfl) (lEr (lEi (ev_s rfl) (lEi ae_ev_k (lEi (by simp only [ae_ev, ae_el, ae_s, ae_k, List.getD_cons_zero, List.getD_cons_succ]; omega) lE0)))) sE0 (lvk2 := [(0, .inr (0, 99)), (3, .inl (ae_k (4 * (ls.length : Int))))]) (lEr (lEi (by simp only [ae_ev, ae_el, ae_s, ae_k, List.getD_cons_zero, List.getD_cons_succ]; omega) lE0)) (stk2 := [.inr (0, 99)]) (sEr sE0) ?_
      refine ra_call hf hT H h HT hk (d := 9) (by decide) (by decide) (by rfl) (fun w4 m1 m2 m3 m4 m5 m6 => ?_)
      obtain ⟨l1, l2, l3, l4, l5⟩ := mv w4 m1 m2 (m3.2.1.trans hk.2.1.symm) m5 (by rw [k21, m3.2.2.2.1]; omega)
      refine ky_go hf hT m1.1 (by decide) (ρ := [(ls.length : Int)]) rl_h ⟨⟨by omega, by omega⟩, trivial⟩ aFs.nil aHh.nil (by rfl) (by rfl) (lEr (lEi (by simp only [ae_ev, ae_el, ae_s, ae_k, List.getD_cons_zero, List.getD_cons_succ]; omega) lE0)) sE0 (lvk2 := [(0, .inr (0, 99)), (3, .inl (ae_k (4 * (ls.length : Int))))]) (lEr (lEi (by simp only [ae_ev, ae_el, ae_s, ae_k, List.getD_cons_zero, List.getD_cons_succ]; omega) lE0)) (stk2 := [.inr (0, 99)]) (sEr sE0) ?_
      exact rl_cond hf hT H h0 HT0 hk0 hj8 l1 (by omega) l2 m3 (by omega) (by omega) l3 l4 l5 (hr.trans (run_go (q := (5, 0, ls ++ [(((0 : Nat) : Int), v)])) (by simp [tStep, e]))) (by rfl) (fun w' h' hh => hh)
    | false =>
      obtain ⟨b, hb2, q⟩ := bx_I_of (k := tK T n s) (v := tV T n s) kb b23 (twF tw_6 e)
      refine ky_go hf hT h.1 (by decide) (ρ := [(ls.length : Int), (jF w 24), (tK T n s), (tV T n s)]) (rl_i b hb2) ⟨⟨by omega, by omega⟩, ⟨b24.1, by omega⟩, q.1, q.2, trivial⟩ aFs.nil (aHh.cons (kn1 (i := 24) (by decide) rfl (ev_s rfl) s24) (aHh.cons (kn1 (i := 20) (by decide) rfl (ev_s rfl) s20) (aHh.cons (kn1 (i := 23) (by decide) rfl (ev_s rfl) s23) aHh.nil))) (by rfl) (by rfl) (lEr (lEi (ev_s rfl) (lEi ae_ev_k (lEi (by simp only [ae_ev, ae_el, ae_s, ae_k, List.getD_cons_zero, List.getD_cons_succ]; omega) lE0)))) sE0 (lvk2 := [(0, .inr (0, 99)), (3, .inl (ae_k (4 * (ls.length : Int))))]) (lEr (lEi (by simp only [ae_ev, ae_el, ae_s, ae_k, List.getD_cons_zero, List.getD_cons_succ]; omega) lE0)) (stk2 := []) sE0 ?_
      exact rl_G hf hT H h0 HT0 hk0 hj8 hL h2 hk h24 hss hR nd hso hv (fun e23 => hr.trans (run_go (q := (0, 0, ls ++ [(((0 : Nat) : Int), v)])) (by simp [tStep, e, e23]))) (fun e23 => by rw [hr, run_no (by simp [tStep, e, e23]) (Or.inr (by decide))])
  · have hr : run T n 0 0 ls s0 = run T n 2 0 ls s := hr
    cases e : tw 6 T n s with
    | true =>
      obtain ⟨q1, q2⟩ := tw_6.mp e
      rw [q1] at s20
      rw [q2] at s23
      have x2 := tX_lt (T := T) (tw_lt e)
      refine ky_go hf hT h.1 (by decide) (ρ := [(ls.length : Int)]) rl_7 ⟨⟨by omega, by omega⟩, trivial⟩ aFs.nil (aHh.cons (kn1 (i := 20) (by decide) rfl ae_ev_k s20) (aHh.cons (kn1 (i := 23) (by decide) rfl ae_ev_k s23) aHh.nil)) (by rfl) (by rfl) (lEr (lEi (ev_s rfl) (lEi ae_ev_k (lEi (by simp only [ae_ev, ae_el, ae_s, ae_k, List.getD_cons_zero, List.getD_cons_succ]; omega) lE0)))) sE0 (lvk2 := [(0, .inr (0, 99)), (3, .inl (ae_k (4 * (ls.length : Int))))]) (lEr (lEi (by simp only [ae_ev, ae_el, ae_s, ae_k, List.getD_cons_zero, List.getD_cons_succ]; omega) lE0)) (stk2 := [.inl (ae_k (1)), .inr (0, 99)]) (sEi ae_ev_k (sEr sE0)) ?_
      refine rw_callT hf hT H h HT hk h24 (d := 9) (by decide) (by decide) (by rfl) (fun w4 m1 m2 m3 m4 m5 m6 => ?_)
      obtain ⟨l1, l2, l3, l4, l5⟩ := mv w4 m1 m2 (m3.2.1.trans hk.2.1.symm) m5 (by rw [k21, m3.2.2.2.1]; omega)
      refine ky_go hf hT m1.1 (by decide) (ρ := [(ls.length : Int)]) rl_9 ⟨⟨by omega, by omega⟩, trivial⟩ aFs.nil aHh.nil (by rfl) (by rfl) (lEr (lEi (by simp only [ae_ev, ae_el, ae_s, ae_k, List.getD_cons_zero, List.getD_cons_succ]; omega) lE0)) sE0 (lvk2 := [(0, .inr (0, 99)), (3, .inl (ae_k (4 * (ls.length : Int))))]) (lEr (lEi (by simp only [ae_ev, ae_el, ae_s, ae_k, List.getD_cons_zero, List.getD_cons_succ]; omega) lE0)) (stk2 := [.inr (0, 99)]) (sEr sE0) ?_
      refine rl_cond hf hT H h0 HT0 hk0 hj8 l1 (by omega) l2 m3 (by omega) (by omega) l3 l4 l5 (hr.trans (run_go (q := (5, 0, ls ++ [(((1 : Nat) : Int), v)])) (by rw [hv1 rfl]; simp [tStep, e]))) (by rfl) (fun w' h' hh => ?_)
      refine ky_go hf hT h'.1 (by decide) (ρ := [(ls.length : Int)]) rl_a ⟨⟨by omega, by omega⟩, trivial⟩ aFs.nil aHh.nil (by rfl) (by rfl) (lEr (lEi (by simp only [ae_ev, ae_el, ae_s, ae_k, List.getD_cons_zero, List.getD_cons_succ]; omega) lE0)) sE0 (lvk2 := [(0, .inr (0, 99)), (3, .inl (ae_k (4 * (ls.length : Int))))]) (lEr (lEi (by simp only [ae_ev, ae_el, ae_s, ae_k, List.getD_cons_zero, List.getD_cons_succ]; omega) lE0)) (stk2 := []) sE0 ?_
      exact hh
    | false =>
      obtain ⟨b, hb2, q⟩ := bx_I_of (k := tK T n s) (v := tV T n s) kb b23 (twF tw_6 e)
      refine ky_go hf hT h.1 (by decide) (ρ := [(ls.length : Int), (tK T n s), (tV T n s)]) (rl_8 b hb2) ⟨⟨by omega, by omega⟩, q.1, q.2, trivial⟩ aFs.nil (aHh.cons (kn1 (i := 20) (by decide) rfl (ev_s rfl) s20) (aHh.cons (kn1 (i := 23) (by decide) rfl (ev_s rfl) s23) aHh.nil)) (by rfl) (by rfl) (lEr (lEi (ev_s rfl) (lEi ae_ev_k (lEi (by simp only [ae_ev, ae_el, ae_s, ae_k, List.getD_cons_zero, List.getD_cons_succ]; omega) lE0)))) sE0 (lvk2 := [(0, .inr (0, 99)), (3, .inl (ae_k (4 * (ls.length : Int))))]) (lEr (lEi (by simp only [ae_ev, ae_el, ae_s, ae_k, List.getD_cons_zero, List.getD_cons_succ]; omega) lE0)) (stk2 := [.inl (ae_k (0)), .inr (0, 99)]) (sEi ae_ev_k (sEr sE0)) ?_
      refine rw_callF hf hT H h hn hk h24 (d := 9) (by decide) (by decide) (by rfl) (fun w4 m1 m2 m3 m4 m5 m6 => ?_)
      obtain ⟨l1, l2, l3, l4, l5⟩ := mv w4 m1 m2 (m3.2.1.trans hk.2.1.symm) m5 (by rw [k21, m3.2.2.2.1]; omega)
      refine ky_go hf hT m1.1 (by decide) (ρ := [(ls.length : Int)]) rl_9 ⟨⟨by omega, by omega⟩, trivial⟩ aFs.nil aHh.nil (by rfl) (by rfl) (lEr (lEi (by simp only [ae_ev, ae_el, ae_s, ae_k, List.getD_cons_zero, List.getD_cons_succ]; omega) lE0)) sE0 (lvk2 := [(0, .inr (0, 99)), (3, .inl (ae_k (4 * (ls.length : Int))))]) (lEr (lEi (by simp only [ae_ev, ae_el, ae_s, ae_k, List.getD_cons_zero, List.getD_cons_succ]; omega) lE0)) (stk2 := [.inr (0, 99)]) (sEr sE0) ?_
      refine rl_condB hf hT H h0 hj8 l1 l2 m3 (by omega) (by rw [hr, run_no (by simp [tStep, e]) (Or.inr (by decide)), m4]) (by rfl) (fun w' h' hh => ?_)
      refine ky_go hf hT h'.1 (by decide) (ρ := [(ls.length : Int)]) rl_a ⟨⟨by omega, by omega⟩, trivial⟩ aFs.nil aHh.nil (by rfl) (by rfl) (lEr (lEi (by simp only [ae_ev, ae_el, ae_s, ae_k, List.getD_cons_zero, List.getD_cons_succ]; omega) lE0)) sE0 (lvk2 := [(0, .inr (0, 99)), (3, .inl (ae_k (4 * (ls.length : Int))))]) (lEr (lEi (by simp only [ae_ev, ae_el, ae_s, ae_k, List.getD_cons_zero, List.getD_cons_succ]; omega) lE0)) (stk2 := []) sE0 ?_
      exact hh
  · have hr : run T n 0 0 ls s0 = run T n 4 0 (ls ++ [(((2 : Nat) : Int), v)]) s := hr
    cases e : tw 5 T n s with
    | true =>
      obtain ⟨q1, q2⟩ := tw_5.mp e
      rw [q1] at s20
      rw [q2] at s23
      have x2 := tX_lt (T := T) (tw_lt e)
      refine ky_go hf hT h.1 (by decide) (ρ := [(ls.length : Int)]) rl_b ⟨⟨by omega, by omega⟩, trivial⟩ aFs.nil (aHh.cons (kn1 (i := 20) (by decide) rfl ae_ev_k s20) (aHh.cons (kn1 (i := 23) (by decide) rfl ae_ev_k s23) aHh.nil)) (by rfl) (by rfl) (lEr (lEi (ev_s rfl) (lEi ae_ev_k (lEi (by simp only [ae_ev, ae_el, ae_s, ae_k, List.getD_cons_zero, List.getD_cons_succ]; omega) lE0)))) sE0 (lvk2 := [(0, .inr (0, 99)), (3, .inl (ae_k (4 * (ls.length : Int))))]) (lEr (lEi (by simp only [ae_ev, ae_el, ae_s, ae_k, List.getD_cons_zero, List.getD_cons_succ]; omega) lE0)) (stk2 := [.inl (ae_k (1)), .inr (0, 99)]) (sEi ae_ev_k (sEr sE0)) ?_
      refine rw_callT hf hT H h HT hk h24 (d := 9) (by decide) (by decide) (by rfl) (fun w4 m1 m2 m3 m4 m5 m6 => ?_)
      obtain ⟨l1, l2, l3, l4, l5⟩ := mv w4 m1 m2 (m3.2.1.trans hk.2.1.symm) m5 (by rw [k21, m3.2.2.2.1]; omega)
      refine ky_go hf hT m1.1 (by decide) (ρ := [(ls.length : Int)]) rl_d ⟨⟨by omega, by omega⟩, trivial⟩ aFs.nil aHh.nil (by rfl) (by rfl) (lEr (lEi (by simp only [ae_ev, ae_el, ae_s, ae_k, List.getD_cons_zero, List.getD_cons_succ]; omega) lE0)) sE0 (lvk2 := [(0, .inr (0, 99)), (3, .inl (ae_k (4 * (ls.length : Int))))]) (lEr (lEi (by simp only [ae_ev, ae_el, ae_s, ae_k, List.getD_cons_zero, List.getD_cons_succ]; omega) lE0)) (stk2 := [.inr (0, 99)]) (sEr sE0) ?_
      refine rl_cond hf hT H h0 HT0 hk0 hj8 l1 (by omega) l2 m3 (by omega) (by omega) l3 l4 l5 (hr.trans (run_go (q := (5, 0, ls ++ [(((2 : Nat) : Int), v)])) (by simp [tStep, e]))) (by rfl) (fun w' h' hh => ?_)
      refine ky_go hf hT h'.1 (by decide) (ρ := [(ls.length : Int)]) rl_e ⟨⟨by omega, by omega⟩, trivial⟩ aFs.nil aHh.nil (by rfl) (by rfl) (lEr (lEi (by simp only [ae_ev, ae_el, ae_s, ae_k, List.getD_cons_zero, List.getD_cons_succ]; omega) lE0)) sE0 (lvk2 := [(0, .inr (0, 99)), (3, .inl (ae_k (4 * (ls.length : Int))))]) (lEr (lEi (by simp only [ae_ev, ae_el, ae_s, ae_k, List.getD_cons_zero, List.getD_cons_succ]; omega) lE0)) (stk2 := []) sE0 ?_
      exact hh
    | false =>
      obtain ⟨b, hb2, q⟩ := bx_B_of (k := tK T n s) (v := tV T n s) kb b23 (twF tw_5 e)
      refine ky_go hf hT h.1 (by decide) (ρ := [(ls.length : Int), (tK T n s), (tV T n s)]) (rl_c b hb2) ⟨⟨by omega, by omega⟩, q.1, q.2, trivial⟩ aFs.nil (aHh.cons (kn1 (i := 20) (by decide) rfl (ev_s rfl) s20) (aHh.cons (kn1 (i := 23) (by decide) rfl (ev_s rfl) s23) aHh.nil)) (by rfl) (by rfl) (lEr (lEi (ev_s rfl) (lEi ae_ev_k (lEi (by simp only [ae_ev, ae_el, ae_s, ae_k, List.getD_cons_zero, List.getD_cons_succ]; omega) lE0)))) sE0 (lvk2 := [(0, .inr (0, 99)), (3, .inl (ae_k (4 * (ls.length : Int))))]) (lEr (lEi (by simp only [ae_ev, ae_el, ae_s, ae_k, List.getD_cons_zero, List.getD_cons_succ]; omega) lE0)) (stk2 := [.inl (ae_k (0)), .inr (0, 99)]) (sEi ae_ev_k (sEr sE0)) ?_
      refine rw_callF hf hT H h hn hk h24 (d := 9) (by decide) (by decide) (by rfl) (fun w4 m1 m2 m3 m4 m5 m6 => ?_)
      obtain ⟨l1, l2, l3, l4, l5⟩ := mv w4 m1 m2 (m3.2.1.trans hk.2.1.symm) m5 (by rw [k21, m3.2.2.2.1]; omega)
      refine ky_go hf hT m1.1 (by decide) (ρ := [(ls.length : Int)]) rl_d ⟨⟨by omega, by omega⟩, trivial⟩ aFs.nil aHh.nil (by rfl) (by rfl) (lEr (lEi (by simp only [ae_ev, ae_el, ae_s, ae_k, List.getD_cons_zero, List.getD_cons_succ]; omega) lE0)) sE0 (lvk2 := [(0, .inr (0, 99)), (3, .inl (ae_k (4 * (ls.length : Int))))]) (lEr (lEi (by simp only [ae_ev, ae_el, ae_s, ae_k, List.getD_cons_zero, List.getD_cons_succ]; omega) lE0)) (stk2 := [.inr (0, 99)]) (sEr sE0) ?_
      refine rl_condB hf hT H h0 hj8 l1 l2 m3 (by omega) (by rw [hr, run_no (by simp [tStep, e]) (Or.inr (by decide)), m4]) (by rfl) (fun w' h' hh => ?_)
      refine ky_go hf hT h'.1 (by decide) (ρ := [(ls.length : Int)]) rl_e ⟨⟨by omega, by omega⟩, trivial⟩ aFs.nil aHh.nil (by rfl) (by rfl) (lEr (lEi (by simp only [ae_ev, ae_el, ae_s, ae_k, List.getD_cons_zero, List.getD_cons_succ]; omega) lE0)) sE0 (lvk2 := [(0, .inr (0, 99)), (3, .inl (ae_k (4 * (ls.length : Int))))]) (lEr (lEi (by simp only [ae_ev, ae_el, ae_s, ae_k, List.getD_cons_zero, List.getD_cons_succ]; omega) lE0)) (stk2 := []) sE0 ?_
      exact hh
  · have hr : run T n 0 0 ls s0 = run T n 9 0 (ls ++ [(((3 : Nat) : Int), v)]) s := hr
    refine ky_go hf hT h.1 (by decide) (ρ := [(ls.length : Int)]) rl_k ⟨⟨by omega, by omega⟩, trivial⟩ aFs.nil aHh.nil (by rfl) (by rfl) (lEr (lEi (ev_s rfl) (lEi ae_ev_k (lEi (by simp only [ae_ev, ae_el, ae_s, ae_k, List.getD_cons_zero, List.getD_cons_succ]; omega) lE0)))) sE0 (lvk2 := [(0, .inr (0, 99)), (3, .inl (ae_k (4 * (ls.length : Int))))]) (lEr (lEi (by simp only [ae_ev, ae_el, ae_s, ae_k, List.getD_cons_zero, List.getD_cons_succ]; omega) lE0)) (stk2 := []) sE0 ?_
    exact rl_G hf hT H h0 HT0 hk0 hj8 hL h2 hk h24 hss hR nd hso hv (fun e23 => hr.trans (run_go (q := (0, 0, ls ++ [(((3 : Nat) : Int), v)])) (by simp [tStep, e23]))) (fun e23 => by rw [hr, run_no (by simp [tStep, e23]) (Or.inr (by decide))])
theorem rl_133B (hf : E.2.2.2.1.category = 1) (hT : ∀ σ : List Int, aTb E σ aTabs) (H : hOk E al gR jJ) (h0 : hI E al jJ ws0) {s0 s so : Nat} {ls : tLs} (hj8 : ls.length ≤ 8) (hL : lB E al ws0 w (ls.length : Int)) (h2 : (jR w 119 (4 * ls.length + 2)).toInt = jF ws0 28) (hk : rtk w T n s) (h24 : 0 ≤ jF w 24) (hs4 : so = 0 ∨ so = 2 ∨ so = 3) (hr : (run T n 0 0 ls s0).1 = jF w 24) : hG E al 10 237 133 [(0, .inr (0, 99)), (1, .inl (ae_k (ls.length : Int))), (2, .inl (ae_k (so : Int))), (3, .inl (ae_k (4 * (ls.length : Int))))] [] [] w (rlQ E al ws0 T n s0 ls) := by
  have h := hL.1
  have b24 := h.f (i := 24) (b := aF) (by decide +kernel)
  have b23 := h.f (i := 23) (b := aF) (by decide +kernel)
  have b20 := h.f (i := 20) (b := (0, 3)) (by decide +kernel)
  have s24 := rsl h (i := 24) (b := aF) (by decide +kernel) rfl
  have s20 := rsl h (i := 20) (b := (0, 3)) (by decide +kernel) rfl
  have s23 := rsl h (i := 23) (b := aF) (by decide +kernel) rfl
  rcases hs4 with rfl | rfl | rfl
  · skip
    refine ky_go hf hT h.1 (by decide) (ρ := [(ls.length : Int), (jF w 24)]) rl_j ⟨⟨by omega, by omega⟩, ⟨h24, b24.2⟩, trivial⟩ aFs.nil (aHh.cons (kn1 (i := 24) (by decide) rfl (ev_s rfl) s24) aHh.nil) (by rfl) (by rfl) (lEr (lEi (ev_s rfl) (lEi ae_ev_k (lEi (by simp only [ae_ev, ae_el, ae_s, ae_k, List.getD_cons_zero, List.getD_cons_succ]; omega) lE0)))) sE0 (lvk2 := [(0, .inr (0, 99)), (3, .inl (ae_k (4 * (ls.length : Int))))]) (lEr (lEi (by simp only [ae_ev, ae_el, ae_s, ae_k, List.getD_cons_zero, List.getD_cons_succ]; omega) lE0)) (stk2 := []) sE0 ?_
    exact rl_B hf hT H h0 hj8 hL h2 hk h24 hr
  · skip
    refine ky_go hf hT h.1 (by decide) (ρ := [(ls.length : Int), (jF w 24), (jF w 20), (jF w 23)]) rl_f ⟨⟨by omega, by omega⟩, ⟨h24, b24.2⟩, b20, b23, trivial⟩ aFs.nil (aHh.cons (kn1 (i := 24) (by decide) rfl (ev_s rfl) s24) (aHh.cons (kn1 (i := 20) (by decide) rfl (ev_s rfl) s20) (aHh.cons (kn1 (i := 23) (by decide) rfl (ev_s rfl) s23) aHh.nil))) (by rfl) (by rfl) (lEr (lEi (ev_s rfl) (lEi ae_ev_k (lEi (by simp only [ae_ev, ae_el, ae_s, ae_k, List.getD_cons_zero, List.getD_cons_succ]; omega) lE0)))) sE0 (lvk2 := [(0, .inr (0, 99)), (3, .inl (ae_k (4 * (ls.length : Int))))]) (lEr (lEi (by simp only [ae_ev, ae_el, ae_s, ae_k, List.getD_cons_zero, List.getD_cons_succ]; omega) lE0)) (stk2 := [.inr (0, 99)]) (sEr sE0) ?_
    refine rl_condB hf hT H h0 hj8 hL h2 hk h24 hr (by rfl) (fun w' h' hh => ?_)
    refine ky_go hf hT h'.1 (by decide) (ρ := [(ls.length : Int)]) rl_e ⟨⟨by omega, by omega⟩, trivial⟩ aFs.nil aHh.nil (by rfl) (by rfl) (lEr (lEi (by simp only [ae_ev, ae_el, ae_s, ae_k, List.getD_cons_zero, List.getD_cons_succ]; omega) lE0)) sE0 (lvk2 := [(0, .inr (0, 99)), (3, .inl (ae_k (4 * (ls.length : Int))))]) (lEr (lEi (by simp only [ae_ev, ae_el, ae_s, ae_k, List.getD_cons_zero, List.getD_cons_succ]; omega) lE0)) (stk2 := []) sE0 ?_
    exact hh
  · skip
    refine ky_go hf hT h.1 (by decide) (ρ := [(ls.length : Int)]) rl_k ⟨⟨by omega, by omega⟩, trivial⟩ aFs.nil aHh.nil (by rfl) (by rfl) (lEr (lEi (ev_s rfl) (lEi ae_ev_k (lEi (by simp only [ae_ev, ae_el, ae_s, ae_k, List.getD_cons_zero, List.getD_cons_succ]; omega) lE0)))) sE0 (lvk2 := [(0, .inr (0, 99)), (3, .inl (ae_k (4 * (ls.length : Int))))]) (lEr (lEi (by simp only [ae_ev, ae_el, ae_s, ae_k, List.getD_cons_zero, List.getD_cons_succ]; omega) lE0)) (stk2 := []) sE0 ?_
    exact rl_B hf hT H h0 hj8 hL h2 hk h24 hr
/-- the number and how many signs there are, laid down -/
theorem rl_120 (hf : E.2.2.2.1.category = 1) (hT : ∀ σ : List Int, aTb E σ aTabs) (H : hOk E al gR jJ) (h0 : hI E al jJ ws0) {so : Nat} {ls : tLs} (hj8 : ls.length ≤ 8) (hL : lB E al ws0 w (ls.length : Int)) {v : Int} (hs4 : so < 4)
    (hq : ∀ (w3 : va_W), lB E al ws0 w3 (ls.length : Int) → rT w w3 → jF w3 28 = jF w 28 → (jR w3 119 (4 * ls.length)) = jR w 119 (4 * ls.length) → (jR w3 119 (4 * ls.length + 1)).toInt = v → (jR w3 119 (4 * ls.length + 2)).toInt = jF w 28 → hG E al 10 237 133 [(0, .inr (0, 99)), (1, .inl (ae_k (ls.length : Int))), (2, .inl (ae_k (so : Int))), (3, .inl (ae_k (4 * (ls.length : Int))))] [] [] w3 Q) :
    hG E al 10 237 120 [(0, .inr (0, 99)), (1, .inl (ae_k (ls.length : Int))), (2, .inl (ae_k (so : Int))), (3, .inl (ae_k (4 * (ls.length : Int))))] [.inl (ae_k v), .inl (ae_k (4 * (ls.length : Int) + 1)), .inr (0, 119)] [] w Q := by
  have h := hL.1
  have i1 : (4 * (ls.length : Int) + 1).toNat = 4 * ls.length + 1 := by omega
  have i2 : (4 * (ls.length : Int) + 2).toNat = 4 * ls.length + 2 := by omega
  refine hp_ias (by decide +kernel) h.1 aw_119 (aV.k _) (aV.k _) (by omega) (by omega) (fun z w3 hz hq3 hj hw => ?_)
  obtain ⟨q, rfl⟩ := hq3
  obtain ⟨b1, o, o8, e120⟩ := hL.put (c := 1) (hw (aF_any hz)) hj (by omega) (by decide)
  rw [i1] at hj
  have h3 := b1.1
  have bd3 := h3.bds
  have s28 := rsl h3 (i := 28) (b := (0, 256)) (by decide +kernel) o8
  refine ky_go hf hT h3.1 (by decide) (ρ := [(ls.length : Int), (so : Int), (jF w 28)]) rl_6 ⟨⟨by omega, by omega⟩, ⟨by omega, by omega⟩, ⟨by omega, by omega⟩, trivial⟩ aFs.nil (aHh.cons (kn1 (i := 28) (by decide) rfl (ev_s rfl) s28) aHh.nil) (by rfl) (by rfl) (lEr (lEi (ev_s rfl) (lEi (ev_s rfl) (lEi (by simp only [ae_ev, ae_el, ae_s, ae_k, List.getD_cons_zero, List.getD_cons_succ]; omega) lE0)))) sE0 (lvk2 := [(0, .inr (0, 99)), (1, .inl (ae_k ((ls.length : Int)))), (2, .inl (ae_k ((so : Int)))), (3, .inl (ae_k (4 * (ls.length : Int))))]) (lEr (lEi (ev_s rfl) (lEi (ev_s rfl) (lEi (by simp only [ae_ev, ae_el, ae_s, ae_k, List.getD_cons_zero, List.getD_cons_succ]; omega) lE0)))) (stk2 := [.inl (ae_k ((jF w 28))), .inl (ae_k (4 * (ls.length : Int) + 2)), .inr (0, 119)]) (sEi (ev_s rfl) (sEi (by simp only [ae_ev, ae_el, ae_s, ae_k, List.getD_cons_zero, List.getD_cons_succ]; omega) (sEr sE0))) ?_
  refine hp_ias (by decide +kernel) h3.1 aw_119 (aV.k _) (aV.k _) (by omega) (by omega) (fun z2 w4 hz2 hq4 hj2 hw2 => ?_)
  obtain ⟨q2, rfl⟩ := hq4
  obtain ⟨c1, o2, o28, -⟩ := b1.put (c := 2) (hw2 (aF_any hz2)) hj2 (by omega) (by decide)
  rw [i2] at hj2
  refine hq _ c1 (o.trans o2) (o28.trans o8) ?_ ?_ ?_
  · rw [hj2, upd_lo (by omega), hj, upd_lo (by omega)]
  · rw [hj2, upd_lo (by omega), hj, upd_at]
    exact hz
  · rw [hj2, upd_at]
    exact hz2
/-- wantLine -/
theorem rl_mj (hf : E.2.2.2.1.category = 1) (hT : ∀ σ : List Int, aTb E σ aTabs) (H : hOk E al gR jJ) (h0 : hI E al jJ ws0) (HT0 : rtT ws0 T n) {s0 : Nat} {ls : tLs} (hk0 : rtk ws0 T n s0) (h24 : jF ws0 24 < 0) (h28 : jF ws0 28 ≤ jF ws0 21) (hsn : s0 < n) (hl9 : ls.length ≤ 9) {AS : List Value} (hA : gL E al [] [.inr (0, 99), .inl (ae_k (ls.length : Int))] AS) : MJ E 10 0 0 (mj_in0 237 AS ws0) (rlQ E al ws0 T n s0 ls) := by
  have HV : hOk E al gV0 (fun _ => True) := hOkV hf hT (fun _ _ _ _ h => h)
  have hn := HT0.1
  have bd0 := h0.bds
  have kb := tK_b (T := T) (n := n) (s := s0)
  have b24 := h0.f (i := 24) (b := aF) (by decide +kernel)
  have b23 := h0.f (i := 23) (b := aF) (by decide +kernel)
  rw [hk0.2.2.2.2.2] at b23
  have k21 := hk0.2.2.2.1
  have x2 := tX_lt (T := T) hsn
  have lb : lB E al ws0 ws0 (ls.length : Int) := ⟨h0, hD.refl, rfl, by omega, by omega, by omega, fun _ _ => rfl, fun _ _ => rfl⟩
  have s24 := rsl h0 (i := 24) (b := aF) (by decide +kernel) rfl
  have s21 := rsl h0 (i := 21) (b := (0, 250)) (by decide +kernel) hk0.2.2.2.1
  have s20 := rsl h0 (i := 20) (b := (0, 3)) (by decide +kernel) hk0.2.2.1
  have s23 := rsl h0 (i := 23) (b := aF) (by decide +kernel) hk0.2.2.2.2.2
  -- a fault at once
  have bad : ∀ w2, hI E al jJ w2 → hD [99] ws0 w2 → jF w2 19 = jF ws0 19 → jF w2 20 = jF ws0 20 → jF w2 21 = jF ws0 21 → jF w2 22 = jF ws0 22 → jF w2 23 = jF ws0 23 → jF w2 24 = (s0 : Int) → jF w2 28 = jF ws0 28 → tStep T n 0 0 ls s0 = none → (rlQ E al ws0 T n s0 ls) none w2 := by
    intro w2 g1 g2 f19 f20 f21 f22 f23 f24 f28 hst
    have k2 : rtk w2 T n s0 := ⟨hk0.1, f19.trans hk0.2.1, f20.trans hk0.2.2.1, f21.trans hk0.2.2.2.1, f22.trans hk0.2.2.2.2.1, f23.trans hk0.2.2.2.2.2⟩
    exact ⟨⟨rfl, lB_tok lb g1 g2 f19 f28 (by omega), 4, by decide, k2.K4 (by omega), fun h => by omega⟩, Or.inr ⟨by omega, ⟨s0, k2⟩, by rw [run_no hst (Or.inl hsn), f24]⟩⟩
  refine hG.in0 hf (d := 10) (as := [.inr (0, 99), .inl (ae_k (ls.length : Int))]) ?_ hA
  show hG E al 10 237 0 [(0, .inr (0, 99)), (1, .inl (ae_k (ls.length : Int)))] [] [] ws0 _
  -- a line of a sort
  have good : ∀ so : Nat, so < 4 → ls.length ≤ 8 → run T n 0 0 ls s0 = run T n (tSrt so).1 (tSrt so).2 ls (tX T n s0) → hG E al 10 237 74 [(0, .inr (0, 99)), (1, .inl (ae_k (ls.length : Int))), (2, .inl (ae_k (so : Int)))] [.inr (0, 99)] [] ws0 (rlQ E al ws0 T n s0 ls) := by
    intro so hs4 hj8 hr
    refine ra_call hf hT H h0 HT0 hk0 (d := 9) (by decide) (by decide) (by rfl) (fun w4 m1 m2 m3 m4 m5 m6 => ?_)
    obtain ⟨s, es⟩ : ∃ s, tX T n s0 = s := ⟨_, rfl⟩
    rw [es] at m3 hr x2
    have m21 := m3.2.2.2.1
    have lb4 := lB_tok lb m1 m2 (m3.2.1.trans hk0.2.1.symm) m5 (by omega)
    refine ky_go hf hT m1.1 (by decide) (ρ := [(ls.length : Int), (so : Int)]) rl_3 ⟨⟨by omega, by omega⟩, ⟨by omega, by omega⟩, trivial⟩ aFs.nil aHh.nil (by rfl) (by rfl) (lEr (lEi (ev_s rfl) (lEi (ev_s rfl) lE0))) sE0 (lvk2 := [(0, .inr (0, 99)), (1, .inl (ae_k ((ls.length : Int)))), (2, .inl (ae_k ((so : Int)))), (3, .inl (ae_k (4 * (ls.length : Int))))]) (lEr (lEi (ev_s rfl) (lEi (ev_s rfl) (lEi (by simp only [ae_ev, ae_el, ae_s, ae_k, List.getD_cons_zero, List.getD_cons_succ]; omega) lE0)))) (stk2 := [.inl (ae_k ((so : Int))), .inl (ae_k (4 * (ls.length : Int))), .inr (0, 119)]) (sEi (ev_s rfl) (sEi (by simp only [ae_ev, ae_el, ae_s, ae_k, List.getD_cons_zero, List.getD_cons_succ]; omega) (sEr sE0))) ?_
    refine hp_ias (by decide +kernel) m1.1 aw_119 (aV.k _) (aV.k _) (by omega) (by omega) (fun z w3 hz hq3 hj hw => ?_)
    obtain ⟨q, rfl⟩ := hq3
    obtain ⟨b1, o, o8, -⟩ := lb4.put (c := 0) (hw (aF_any hz)) (by rw [Int.add_zero]; exact hj) (by omega) (by decide)
    rw [show (4 * (ls.length : Int)).toNat = 4 * ls.length by omega] at hj
    have k3 := m3.t o
    have f24 : jF (w4.set 119 q) 24 = jF w4 24 := o.2.2.2.2.2
    have h3 := b1.1
    have HT3 : rtT (w4.set 119 q) T n := HT0.more b1.2.1 (by decide)
    by_cases q1 : so = 1
    · subst q1
      refine ky_go hf hT h3.1 (by decide) (ρ := [(ls.length : Int)]) rl_4 ⟨⟨by omega, by omega⟩, trivial⟩ aFs.nil aHh.nil (by rfl) (by rfl) (lEr (lEi (ev_s rfl) (lEi ae_ev_k (lEi (by simp only [ae_ev, ae_el, ae_s, ae_k, List.getD_cons_zero, List.getD_cons_succ]; omega) lE0)))) sE0 (lvk2 := [(0, .inr (0, 99)), (1, .inl (ae_k ((ls.length : Int)))), (2, .inl (ae_k (1))), (3, .inl (ae_k (4 * (ls.length : Int))))]) (lEr (lEi (ev_s rfl) (lEi ae_ev_k (lEi (by simp only [ae_ev, ae_el, ae_s, ae_k, List.getD_cons_zero, List.getD_cons_succ]; omega) lE0)))) (stk2 := [.inl (ae_k ((-3))), .inl (ae_k (4 * (ls.length : Int) + 1)), .inr (0, 119)]) (sEi ae_ev_k (sEi (by simp only [ae_ev, ae_el, ae_s, ae_k, List.getD_cons_zero, List.getD_cons_succ]; omega) (sEr sE0))) ?_
      refine rl_120 (so := 1) hf hT H h0 hj8 b1 (by decide) (fun w5 c1 c2 c3 c4 c5 c6 => ?_)
      have g24 : jF w5 24 = jF (w4.set 119 q) 24 := c2.2.2.2.2.2
      have c0 : (jR w5 119 (4 * ls.length)).toInt = ((1 : Nat) : Int) := by rw [c4, hj, upd_at]; exact hz
      exact rl_133G hf hT H h0 HT0 hk0 hj8 c1 (by omega) (by omega) (k3.t c2) (by omega) (by omega) (by
        unfold lR
        rw [show (4 * (ls.length : Int)).toNat = 4 * ls.length by omega, c0]
        intro h
        omega) c0 c5 (by decide) (fun _ => rfl) hr
    · have q3 : so = 0 ∨ so = 2 ∨ so = 3 := by omega
      have num : ∀ g : Nat, g = (if so = 2 then 5 else 9) → hG E al 10 237 117 [(0, .inr (0, 99)), (1, .inl (ae_k (ls.length : Int))), (2, .inl (ae_k (so : Int))), (3, .inl (ae_k (4 * (ls.length : Int))))] [.inl (ae_k (g : Int)), .inr (0, 99), .inl (ae_k (4 * (ls.length : Int) + 1)), .inr (0, 119)] [] (w4.set 119 q) (rlQ E al ws0 T n s0 ls) := by
        intro g hg
        have eg : (g : Int) = (if so = 2 then 5 else 9) := by rw [hg]; split <;> rfl
        have bN := tN_b (T := T) (n := n) (s := s) (g := (g : Int)) (by omega)
        refine rn_call hf hT H h3 HT3 k3 (by omega) (g := g) (by rw [hg]; split <;> decide) (d := 9) (by decide) (by decide) (by rfl) (fun e w5 p1 p2 p3 p4 p5 p6 => ?_) (fun e z5 w5 hz5 p1 p2 p3 p4 p5 p6 => ?_)
        · have x3 := tX_lt (T := T) (tN_lt e)
          have lb5 := lB_tok b1 p1 p2 (p3.2.1.trans k3.2.1.symm) p5 (by rw [k3.2.2.2.1, p3.2.2.2.1]; omega)
          refine rl_120 (so := so) hf hT H h0 hj8 lb5 hs4 (fun w6 c1 c2 c3 c4 c5 c6 => ?_)
          have g24 : jF w6 24 = jF w5 24 := c2.2.2.2.2.2
          have e119 : jR w5 119 = jR (w4.set 119 q) 119 := p2.row (by decide)
          have c0 : (jR w6 119 (4 * ls.length)).toInt = (so : Int) := by rw [c4, e119, hj, upd_at]; exact hz
          refine rl_133G hf hT H h0 HT0 hk0 hj8 c1 (by omega) (by omega) (p3.t c2) (by omega) (by omega) ?_ c0 c5 hs4 (fun h => absurd h q1) ?_
          · unfold lR
            rw [show (4 * (ls.length : Int)).toNat = 4 * ls.length by omega, show (4 * (ls.length : Int) + 1).toNat = 4 * ls.length + 1 by omega, c0, c5]
            intro h
            have : (g : Int) ≤ 9 := by rw [eg]; split <;> decide
            omega
          · rw [if_neg q1, hr]
            unfold tSrt
            rw [if_neg q1]
            exact run_go (q := (if so = 0 then 3 else if so = 2 then 4 else 9, 0, ls ++ [((so : Int), tN (g : Int) T n s)])) (by
              show (if tN (if so = 2 then 5 else 9) T n s = -1 then none else some (if so = 0 then 3 else if so = 2 then 4 else 9, 0, ls ++ [((so : Int), tN (if so = 2 then 5 else 9) T n s)])) = _
              rw [← eg, if_neg e])
        · have lb5 := lB_tok b1 p1 p2 (p3.2.1.trans k3.2.1.symm) p5 (by rw [k3.2.2.2.1, p3.2.2.2.1]; omega)
          refine rl_120 (so := so) hf hT H h0 hj8 lb5 hs4 (fun w6 c1 c2 c3 c4 c5 c6 => ?_)
          have g24 : jF w6 24 = jF w5 24 := c2.2.2.2.2.2
          refine rl_133B hf hT H h0 hj8 c1 (by omega) (p3.t c2) (by omega) q3 ?_
          rw [hr]
          unfold tSrt
          rw [if_neg q1]
          show (run T n 1 so ls s).1 = _
          rw [run_no (T := T) (n := n) (k := 1) (o := so) (s := s) (ls := ls) (by
            show (if tN (if so = 2 then 5 else 9) T n s = -1 then none else some (if so = 0 then 3 else if so = 2 then 4 else 9, 0, ls ++ [((so : Int), tN (if so = 2 then 5 else 9) T n s)])) = none
            rw [← eg, if_pos e]) (Or.inr (by decide)), g24, p4]
      rcases q3 with rfl | rfl | rfl
      · skip
        refine ky_go hf hT h3.1 (by decide) (ρ := [(ls.length : Int)]) rl_50 ⟨⟨by omega, by omega⟩, trivial⟩ aFs.nil aHh.nil (by rfl) (by rfl) (lEr (lEi (ev_s rfl) (lEi ae_ev_k (lEi (by simp only [ae_ev, ae_el, ae_s, ae_k, List.getD_cons_zero, List.getD_cons_succ]; omega) lE0)))) sE0 (lvk2 := [(0, .inr (0, 99)), (1, .inl (ae_k ((ls.length : Int)))), (2, .inl (ae_k (0))), (3, .inl (ae_k (4 * (ls.length : Int))))]) (lEr (lEi (ev_s rfl) (lEi ae_ev_k (lEi (by simp only [ae_ev, ae_el, ae_s, ae_k, List.getD_cons_zero, List.getD_cons_succ]; omega) lE0)))) (stk2 := [.inl (ae_k (9)), .inr (0, 99), .inl (ae_k (4 * (ls.length : Int) + 1)), .inr (0, 119)]) (sEi ae_ev_k (sEr (sEi (by simp only [ae_ev, ae_el, ae_s, ae_k, List.getD_cons_zero, List.getD_cons_succ]; omega) (sEr sE0)))) ?_
        exact num 9 (by decide)
      · skip
        refine ky_go hf hT h3.1 (by decide) (ρ := [(ls.length : Int)]) rl_52 ⟨⟨by omega, by omega⟩, trivial⟩ aFs.nil aHh.nil (by rfl) (by rfl) (lEr (lEi (ev_s rfl) (lEi ae_ev_k (lEi (by simp only [ae_ev, ae_el, ae_s, ae_k, List.getD_cons_zero, List.getD_cons_succ]; omega) lE0)))) sE0 (lvk2 := [(0, .inr (0, 99)), (1, .inl (ae_k ((ls.length : Int)))), (2, .inl (ae_k (2))), (3, .inl (ae_k (4 * (ls.length : Int))))]) (lEr (lEi (ev_s rfl) (lEi ae_ev_k (lEi (by simp only [ae_ev, ae_el, ae_s, ae_k, List.getD_cons_zero, List.getD_cons_succ]; omega) lE0)))) (stk2 := [.inl (ae_k (5)), .inr (0, 99), .inl (ae_k (4 * (ls.length : Int) + 1)), .inr (0, 119)]) (sEi ae_ev_k (sEr (sEi (by simp only [ae_ev, ae_el, ae_s, ae_k, List.getD_cons_zero, List.getD_cons_succ]; omega) (sEr sE0)))) ?_
        exact num 5 (by decide)
      · skip
        refine ky_go hf hT h3.1 (by decide) (ρ := [(ls.length : Int)]) rl_53 ⟨⟨by omega, by omega⟩, trivial⟩ aFs.nil aHh.nil (by rfl) (by rfl) (lEr (lEi (ev_s rfl) (lEi ae_ev_k (lEi (by simp only [ae_ev, ae_el, ae_s, ae_k, List.getD_cons_zero, List.getD_cons_succ]; omega) lE0)))) sE0 (lvk2 := [(0, .inr (0, 99)), (1, .inl (ae_k ((ls.length : Int)))), (2, .inl (ae_k (3))), (3, .inl (ae_k (4 * (ls.length : Int))))]) (lEr (lEi (ev_s rfl) (lEi ae_ev_k (lEi (by simp only [ae_ev, ae_el, ae_s, ae_k, List.getD_cons_zero, List.getD_cons_succ]; omega) lE0)))) (stk2 := [.inl (ae_k (9)), .inr (0, 99), .inl (ae_k (4 * (ls.length : Int) + 1)), .inr (0, 119)]) (sEi ae_ev_k (sEr (sEi (by simp only [ae_ev, ae_el, ae_s, ae_k, List.getD_cons_zero, List.getD_cons_succ]; omega) (sEr sE0)))) ?_
        exact num 9 (by decide)
  cases e0 : tw 1 T n s0 with
  | true =>
    obtain ⟨q1, q2⟩ := tw_1.mp e0
    rw [q1] at s20
    rw [q2] at s23
    by_cases l9 : ls.length = 9
    · rw [l9]
      refine kz_lg H h0 (by decide) (ρ := [(jF ws0 24), (s0 : Int)]) rl_10 ⟨⟨b24.1, by omega⟩, ⟨by omega, by omega⟩, trivial⟩ aFs.nil (aHh.cons (kn1 (i := 24) (by decide) rfl (ev_s rfl) s24) (aHh.cons (kn1 (i := 21) (by decide) rfl (ev_s rfl) s21) (aHh.cons (kn1 (i := 20) (by decide) rfl ae_ev_k s20) (aHh.cons (kn1 (i := 23) (by decide) rfl ae_ev_k s23) aHh.nil)))) (by rfl) (by rfl) (lEr (lEi ae_ev_k lE0)) sE0 (lvk2 := []) lE0 (stk2 := []) sE0 (fun w2 b1 b4 b5 => ?_)
      have f19 : jF w2 19 = jF ws0 19 := by
        rw [jFS b1 19, jFS h0 19, b5 99 19]
        simp [lg_ap, ae_ev, ae_el, ae_s, ae_k]
      have f20 : jF w2 20 = jF ws0 20 := by
        rw [jFS b1 20, jFS h0 20, b5 99 20]
        simp [lg_ap, ae_ev, ae_el, ae_s, ae_k]
      have f21 : jF w2 21 = jF ws0 21 := by
        rw [jFS b1 21, jFS h0 21, b5 99 21]
        simp [lg_ap, ae_ev, ae_el, ae_s, ae_k]
      have f22 : jF w2 22 = jF ws0 22 := by
        rw [jFS b1 22, jFS h0 22, b5 99 22]
        simp [lg_ap, ae_ev, ae_el, ae_s, ae_k]
      have f23 : jF w2 23 = jF ws0 23 := by
        rw [jFS b1 23, jFS h0 23, b5 99 23]
        simp [lg_ap, ae_ev, ae_el, ae_s, ae_k]
      have f24 : jF w2 24 = (s0 : Int) := by
        rw [jFS b1 24, b5 99 24]
        simp [lg_ap, ae_ev, ae_el, ae_s, ae_k]
        try omega
      have f28 : jF w2 28 = jF ws0 28 := by
        rw [jFS b1 28, jFS h0 28, b5 99 28]
        simp [lg_ap, ae_ev, ae_el, ae_s, ae_k]
      have f29 : jF w2 29 = jF ws0 29 := by
        rw [jFS b1 29, jFS h0 29, b5 99 29]
        simp [lg_ap, ae_ev, ae_el, ae_s, ae_k]
      exact hp_ret HV (by decide) (by decide +kernel) (by decide +kernel) (bad w2 b1 (b4.more (by decide)) f19 f20 f21 f22 f23 f24 f28 (by simp [tStep, l9]))
    · skip
      refine ky_go hf hT h0.1 (by decide) (ρ := [(ls.length : Int)]) rl_20 ⟨⟨by omega, by omega⟩, trivial⟩ aFs.nil (aHh.cons (kn1 (i := 20) (by decide) rfl ae_ev_k s20) (aHh.cons (kn1 (i := 23) (by decide) rfl ae_ev_k s23) aHh.nil)) (by rfl) (by rfl) (lEr (lEi (ev_s rfl) lE0)) sE0 (lvk2 := [(0, .inr (0, 99)), (1, .inl (ae_k ((ls.length : Int)))), (2, .inl (ae_k (0)))]) (lEr (lEi (ev_s rfl) (lEi ae_ev_k lE0))) (stk2 := [.inr (0, 99)]) (sEr sE0) ?_
      exact good 0 (by decide) (by omega) (run_go (q := (1, 0, ls)) (by simp [tStep, show ¬ 9 ≤ ls.length by omega, e0]))
  | false =>
  cases e1 : tw 2 T n s0 with
  | true =>
    obtain ⟨q1, q2⟩ := tw_2.mp e1
    rw [q1] at s20
    rw [q2] at s23
    by_cases l9 : ls.length = 9
    · rw [l9]
      refine kz_lg H h0 (by decide) (ρ := [(jF ws0 24), (s0 : Int)]) rl_11 ⟨⟨b24.1, by omega⟩, ⟨by omega, by omega⟩, trivial⟩ aFs.nil (aHh.cons (kn1 (i := 24) (by decide) rfl (ev_s rfl) s24) (aHh.cons (kn1 (i := 21) (by decide) rfl (ev_s rfl) s21) (aHh.cons (kn1 (i := 20) (by decide) rfl ae_ev_k s20) (aHh.cons (kn1 (i := 23) (by decide) rfl ae_ev_k s23) aHh.nil)))) (by rfl) (by rfl) (lEr (lEi ae_ev_k lE0)) sE0 (lvk2 := []) lE0 (stk2 := []) sE0 (fun w2 b1 b4 b5 => ?_)
      have f19 : jF w2 19 = jF ws0 19 := by
        rw [jFS b1 19, jFS h0 19, b5 99 19]
        simp [lg_ap, ae_ev, ae_el, ae_s, ae_k]
      have f20 : jF w2 20 = jF ws0 20 := by
        rw [jFS b1 20, jFS h0 20, b5 99 20]
        simp [lg_ap, ae_ev, ae_el, ae_s, ae_k]
      have f21 : jF w2 21 = jF ws0 21 := by
        rw [jFS b1 21, jFS h0 21, b5 99 21]
        simp [lg_ap, ae_ev, ae_el, ae_s, ae_k]
      have f22 : jF w2 22 = jF ws0 22 := by
        rw [jFS b1 22, jFS h0 22, b5 99 22]
        simp [lg_ap, ae_ev, ae_el, ae_s, ae_k]
      have f23 : jF w2 23 = jF ws0 23 := by
        rw [jFS b1 23, jFS h0 23, b5 99 23]
        simp [lg_ap, ae_ev, ae_el, ae_s, ae_k]
      have f24 : jF w2 24 = (s0 : Int) := by
        rw [jFS b1 24, b5 99 24]
        simp [lg_ap, ae_ev, ae_el, ae_s, ae_k]
        try omega
      have f28 : jF w2 28 = jF ws0 28 := by
        rw [jFS b1 28, jFS h0 28, b5 99 28]
        simp [lg_ap, ae_ev, ae_el, ae_s, ae_k]
      have f29 : jF w2 29 = jF ws0 29 := by
        rw [jFS b1 29, jFS h0 29, b5 99 29]
        simp [lg_ap, ae_ev, ae_el, ae_s, ae_k]
      exact hp_ret HV (by decide) (by decide +kernel) (by decide +kernel) (bad w2 b1 (b4.more (by decide)) f19 f20 f21 f22 f23 f24 f28 (by simp [tStep, l9]))
    · skip
      refine ky_go hf hT h0.1 (by decide) (ρ := [(ls.length : Int)]) rl_21 ⟨⟨by omega, by omega⟩, trivial⟩ aFs.nil (aHh.cons (kn1 (i := 20) (by decide) rfl ae_ev_k s20) (aHh.cons (kn1 (i := 23) (by decide) rfl ae_ev_k s23) aHh.nil)) (by rfl) (by rfl) (lEr (lEi (ev_s rfl) lE0)) sE0 (lvk2 := [(0, .inr (0, 99)), (1, .inl (ae_k ((ls.length : Int)))), (2, .inl (ae_k (1)))]) (lEr (lEi (ev_s rfl) (lEi ae_ev_k lE0))) (stk2 := [.inr (0, 99)]) (sEr sE0) ?_
      exact good 1 (by decide) (by omega) (run_go (q := (2, 0, ls)) (by simp [tStep, show ¬ 9 ≤ ls.length by omega, e0, e1]))
  | false =>
  cases e2 : tw 3 T n s0 with
  | true =>
    obtain ⟨q1, q2⟩ := tw_3.mp e2
    rw [q1] at s20
    rw [q2] at s23
    by_cases l9 : ls.length = 9
    · rw [l9]
      refine kz_lg H h0 (by decide) (ρ := [(jF ws0 24), (s0 : Int)]) rl_12 ⟨⟨b24.1, by omega⟩, ⟨by omega, by omega⟩, trivial⟩ aFs.nil (aHh.cons (kn1 (i := 24) (by decide) rfl (ev_s rfl) s24) (aHh.cons (kn1 (i := 21) (by decide) rfl (ev_s rfl) s21) (aHh.cons (kn1 (i := 20) (by decide) rfl ae_ev_k s20) (aHh.cons (kn1 (i := 23) (by decide) rfl ae_ev_k s23) aHh.nil)))) (by rfl) (by rfl) (lEr (lEi ae_ev_k lE0)) sE0 (lvk2 := []) lE0 (stk2 := []) sE0 (fun w2 b1 b4 b5 => ?_)
      have f19 : jF w2 19 = jF ws0 19 := by
        rw [jFS b1 19, jFS h0 19, b5 99 19]
        simp [lg_ap, ae_ev, ae_el, ae_s, ae_k]
      have f20 : jF w2 20 = jF ws0 20 := by
        rw [jFS b1 20, jFS h0 20, b5 99 20]
        simp [lg_ap, ae_ev, ae_el, ae_s, ae_k]
      have f21 : jF w2 21 = jF ws0 21 := by
        rw [jFS b1 21, jFS h0 21, b5 99 21]
        simp [lg_ap, ae_ev, ae_el, ae_s, ae_k]
      have f22 : jF w2 22 = jF ws0 22 := by
        rw [jFS b1 22, jFS h0 22, b5 99 22]
        simp [lg_ap, ae_ev, ae_el, ae_s, ae_k]
      have f23 : jF w2 23 = jF ws0 23 := by
        rw [jFS b1 23, jFS h0 23, b5 99 23]
        simp [lg_ap, ae_ev, ae_el, ae_s, ae_k]
      have f24 : jF w2 24 = (s0 : Int) := by
        rw [jFS b1 24, b5 99 24]
        simp [lg_ap, ae_ev, ae_el, ae_s, ae_k]
        try omega
      have f28 : jF w2 28 = jF ws0 28 := by
        rw [jFS b1 28, jFS h0 28, b5 99 28]
        simp [lg_ap, ae_ev, ae_el, ae_s, ae_k]
      have f29 : jF w2 29 = jF ws0 29 := by
        rw [jFS b1 29, jFS h0 29, b5 99 29]
        simp [lg_ap, ae_ev, ae_el, ae_s, ae_k]
      exact hp_ret HV (by decide) (by decide +kernel) (by decide +kernel) (bad w2 b1 (b4.more (by decide)) f19 f20 f21 f22 f23 f24 f28 (by simp [tStep, l9]))
    · skip
      refine ky_go hf hT h0.1 (by decide) (ρ := [(ls.length : Int)]) rl_22 ⟨⟨by omega, by omega⟩, trivial⟩ aFs.nil (aHh.cons (kn1 (i := 20) (by decide) rfl ae_ev_k s20) (aHh.cons (kn1 (i := 23) (by decide) rfl ae_ev_k s23) aHh.nil)) (by rfl) (by rfl) (lEr (lEi (ev_s rfl) lE0)) sE0 (lvk2 := [(0, .inr (0, 99)), (1, .inl (ae_k ((ls.length : Int)))), (2, .inl (ae_k (2)))]) (lEr (lEi (ev_s rfl) (lEi ae_ev_k lE0))) (stk2 := [.inr (0, 99)]) (sEr sE0) ?_
      exact good 2 (by decide) (by omega) (run_go (q := (1, 2, ls)) (by simp [tStep, show ¬ 9 ≤ ls.length by omega, e0, e1, e2]))
  | false =>
  cases e3 : tw 4 T n s0 with
  | true =>
    obtain ⟨q1, q2⟩ := tw_4.mp e3
    rw [q1] at s20
    rw [q2] at s23
    by_cases l9 : ls.length = 9
    · rw [l9]
      refine kz_lg H h0 (by decide) (ρ := [(jF ws0 24), (s0 : Int)]) rl_13 ⟨⟨b24.1, by omega⟩, ⟨by omega, by omega⟩, trivial⟩ aFs.nil (aHh.cons (kn1 (i := 24) (by decide) rfl (ev_s rfl) s24) (aHh.cons (kn1 (i := 21) (by decide) rfl (ev_s rfl) s21) (aHh.cons (kn1 (i := 20) (by decide) rfl ae_ev_k s20) (aHh.cons (kn1 (i := 23) (by decide) rfl ae_ev_k s23) aHh.nil)))) (by rfl) (by rfl) (lEr (lEi ae_ev_k lE0)) sE0 (lvk2 := []) lE0 (stk2 := []) sE0 (fun w2 b1 b4 b5 => ?_)
      have f19 : jF w2 19 = jF ws0 19 := by
        rw [jFS b1 19, jFS h0 19, b5 99 19]
        simp [lg_ap, ae_ev, ae_el, ae_s, ae_k]
      have f20 : jF w2 20 = jF ws0 20 := by
        rw [jFS b1 20, jFS h0 20, b5 99 20]
        simp [lg_ap, ae_ev, ae_el, ae_s, ae_k]
      have f21 : jF w2 21 = jF ws0 21 := by
        rw [jFS b1 21, jFS h0 21, b5 99 21]
        simp [lg_ap, ae_ev, ae_el, ae_s, ae_k]
      have f22 : jF w2 22 = jF ws0 22 := by
        rw [jFS b1 22, jFS h0 22, b5 99 22]
        simp [lg_ap, ae_ev, ae_el, ae_s, ae_k]
      have f23 : jF w2 23 = jF ws0 23 := by
        rw [jFS b1 23, jFS h0 23, b5 99 23]
        simp [lg_ap, ae_ev, ae_el, ae_s, ae_k]
      have f24 : jF w2 24 = (s0 : Int) := by
        rw [jFS b1 24, b5 99 24]
        simp [lg_ap, ae_ev, ae_el, ae_s, ae_k]
        try omega
      have f28 : jF w2 28 = jF ws0 28 := by
        rw [jFS b1 28, jFS h0 28, b5 99 28]
        simp [lg_ap, ae_ev, ae_el, ae_s, ae_k]
      have f29 : jF w2 29 = jF ws0 29 := by
        rw [jFS b1 29, jFS h0 29, b5 99 29]
        simp [lg_ap, ae_ev, ae_el, ae_s, ae_k]
      exact hp_ret HV (by decide) (by decide +kernel) (by decide +kernel) (bad w2 b1 (b4.more (by decide)) f19 f20 f21 f22 f23 f24 f28 (by simp [tStep, l9]))
    · skip
      refine ky_go hf hT h0.1 (by decide) (ρ := [(ls.length : Int)]) rl_23 ⟨⟨by omega, by omega⟩, trivial⟩ aFs.nil (aHh.cons (kn1 (i := 20) (by decide) rfl ae_ev_k s20) (aHh.cons (kn1 (i := 23) (by decide) rfl ae_ev_k s23) aHh.nil)) (by rfl) (by rfl) (lEr (lEi (ev_s rfl) lE0)) sE0 (lvk2 := [(0, .inr (0, 99)), (1, .inl (ae_k ((ls.length : Int)))), (2, .inl (ae_k (3)))]) (lEr (lEi (ev_s rfl) (lEi ae_ev_k lE0))) (stk2 := [.inr (0, 99)]) (sEr sE0) ?_
      exact good 3 (by decide) (by omega) (run_go (q := (1, 3, ls)) (by simp [tStep, show ¬ 9 ≤ ls.length by omega, e0, e1, e2, e3]))
  | false =>
  obtain ⟨b, hb2, q⟩ := bx_L_of (k := tK T n s0) (v := tV T n s0) kb b23 (twF tw_1 e0) (twF tw_2 e1) (twF tw_3 e2) (twF tw_4 e3)
  refine kz_lg H h0 (by decide) (ρ := [(ls.length : Int), (jF ws0 24), (s0 : Int), (tK T n s0), (tV T n s0)]) (rl_0 b hb2) ⟨⟨by omega, by omega⟩, ⟨b24.1, by omega⟩, ⟨by omega, by omega⟩, q.1, q.2, trivial⟩ aFs.nil (aHh.cons (kn1 (i := 24) (by decide) rfl (ev_s rfl) s24) (aHh.cons (kn1 (i := 21) (by decide) rfl (ev_s rfl) s21) (aHh.cons (kn1 (i := 20) (by decide) rfl (ev_s rfl) s20) (aHh.cons (kn1 (i := 23) (by decide) rfl (ev_s rfl) s23) aHh.nil)))) (by rfl) (by rfl) (lEr (lEi (ev_s rfl) lE0)) sE0 (lvk2 := []) lE0 (stk2 := []) sE0 (fun w2 b1 b4 b5 => ?_)
  have f19 : jF w2 19 = jF ws0 19 := by
    rw [jFS b1 19, jFS h0 19, b5 99 19]
    simp [lg_ap, ae_ev, ae_el, ae_s, ae_k]
  have f20 : jF w2 20 = jF ws0 20 := by
    rw [jFS b1 20, jFS h0 20, b5 99 20]
    simp [lg_ap, ae_ev, ae_el, ae_s, ae_k]
  have f21 : jF w2 21 = jF ws0 21 := by
    rw [jFS b1 21, jFS h0 21, b5 99 21]
    simp [lg_ap, ae_ev, ae_el, ae_s, ae_k]
  have f22 : jF w2 22 = jF ws0 22 := by
    rw [jFS b1 22, jFS h0 22, b5 99 22]
    simp [lg_ap, ae_ev, ae_el, ae_s, ae_k]
  have f23 : jF w2 23 = jF ws0 23 := by
    rw [jFS b1 23, jFS h0 23, b5 99 23]
    simp [lg_ap, ae_ev, ae_el, ae_s, ae_k]
  have f24 : jF w2 24 = (s0 : Int) := by
    rw [jFS b1 24, b5 99 24]
    simp [lg_ap, ae_ev, ae_el, ae_s, ae_k]
    try omega
  have f28 : jF w2 28 = jF ws0 28 := by
    rw [jFS b1 28, jFS h0 28, b5 99 28]
    simp [lg_ap, ae_ev, ae_el, ae_s, ae_k]
  have f29 : jF w2 29 = jF ws0 29 := by
    rw [jFS b1 29, jFS h0 29, b5 99 29]
    simp [lg_ap, ae_ev, ae_el, ae_s, ae_k]
  exact hp_ret HV (by decide) (by decide +kernel) (by decide +kernel) (bad w2 b1 (b4.more (by decide)) f19 f20 f21 f22 f23 f24 f28 (by simp [tStep, e0, e1, e2, e3]))
theorem rz_exit (H : hOk E al gW jW) (h : pW E al wb w) {n v f m : Int} (bn : 0 ≤ n ∧ n ≤ 9) (bv : 0 ≤ v ∧ v ≤ 7) (bf : 0 ≤ f ∧ f ≤ 256) (hf : aSl w 99 28 f) (hv : aSl w 100 6 v) (hm : aSl w 100 0 m) (hq : ∀ (z : Int32) (w2 : va_W), aWd E al aLay w2 → jW w2 → hD [100] w w2 → z.toInt = v → jS w2 100 6 = v + 1 → jS w2 100 0 = m → Q (some (.int z)) w2) :
    hG E al 12 232 142 (rw_K3 n v f) [] [] w Q := by
  refine (hp_ans (ρ := [n, v, f, m]) (c := rz_cE) H (by decide) rz_kE (h.hW ⟨bn, bv, bf, hm.i32, trivial⟩ aFs.nil (aHh.cons (aH1.mk (by decide) rfl rfl (by rw [ae_ev_k]; decide) ?_) (aHh.cons (aH1.mk (by decide) rfl rfl (by rw [ae_ev_k]; decide) ?_) (aHh.cons (aH1.mk (by decide) rfl rfl (by rw [ae_ev_k]; decide) ?_) aHh.nil)))) (fun x w2 hx => ?_)).toK rfl rfl rw_E32 rfl
  · have e : ae_ev [n, v, f, m] (ae_s 2) = f := by simp only [ae_s, ae_ev, ae_el, List.getD_cons_zero, List.getD_cons_succ]; omega
    rw [e, ae_ev_k]
    exact hf
  · have e : ae_ev [n, v, f, m] (ae_s 1) = v := by simp only [ae_s, ae_ev, ae_el, List.getD_cons_zero, List.getD_cons_succ]; omega
    rw [e, ae_ev_k]
    exact hv
  · have e : ae_ev [n, v, f, m] (ae_s 3) = m := by simp only [ae_s, ae_ev, ae_el, List.getD_cons_zero, List.getD_cons_succ]; omega
    rw [e, ae_ev_k]
    exact hm
  · obtain ⟨cs, hcs, r, h1, h2, h3, h4, h5, h6, h7, h8, h9⟩ := hx
    have hcs := List.mem_singleton.mp hcs
    subst hcs
    obtain ⟨u, rfl, z, rfl, hz⟩ := h3
    have er : ∀ k, k < 4 → ([n, v, f, m] ++ r).getD k 0 = [n, v, f, m].getD k 0 := fun k hk => by
      rw [List.getD_eq_getElem?_getD, List.getD_eq_getElem?_getD, List.getElem?_append_left (by simp; omega)]
    refine hq z w2 h5 h7 ⟨h8, fun k hk => h9 k hk⟩ ?_ ?_ ?_
    · rw [hz.ev]
      simp only [ae_s, ae_ev, ae_el, er 1 (by decide), List.getD_cons_zero, List.getD_cons_succ]
      omega
    · rw [jHe_get (c := 100) (i := 6) h4 List.mem_cons_self (by decide)]
      simp only [ae_ev, ae_el, er 1 (by decide), List.getD_cons_zero, List.getD_cons_succ]
      omega
    · rw [jHe_get (c := 100) (i := 0) h4 (List.mem_cons_of_mem _ List.mem_cons_self) (by decide)]
      simp only [ae_s, ae_ev, ae_el, er 3 (by decide), List.getD_cons_zero, List.getD_cons_succ]
      omega
/-- the version is laid down -/
theorem rz_83 (H : hOk E al gW jW) (h : hI E al jJ wb) {n v : Int} (hn0 : 0 ≤ n) (hg : rG wb n) (bv : 0 ≤ v ∧ v ≤ 7) (hv : (jR wb 100 6).toInt = v)
    (hQ : ∀ (z : Int32) (w2 : va_W), z.toInt = v → hI E al jJ w2 → hD [100, 110, 111, 112] wb w2 → jS w2 100 6 = v + 1 → jS w2 100 0 = jS wb 100 0 → (∀ i, i ≠ 2 * v.toNat → i ≠ 2 * v.toNat + 1 → jR w2 110 i = jR wb 110 i) → (jR w2 110 (2 * v.toNat)).toInt = n → (jR w2 110 (2 * v.toNat + 1)).toInt = (jR wb 100 0).toInt → (∀ i, i < 4 * n.toNat → jR w2 111 (36 * v.toNat + i) = jR wb 119 i) → (∀ i, (i < 36 * v.toNat ∨ 36 * v.toNat + 4 * n.toNat ≤ i) → jR w2 111 i = jR wb 111 i) → Q (some (.int z)) w2) : hG E al 12 232 83 (rw_K2 n v) [] [] wb Q := by
  have bn : 0 ≤ n ∧ n ≤ 9 := ⟨hn0, hg.1⟩
  have b := h.bds
  obtain ⟨f, hf⟩ : ∃ f : Nat, jF wb 28 = f := ⟨(jF wb 28).toNat, by omega⟩
  have bf : f ≤ 256 := by omega
  obtain ⟨w00, r00, k00⟩ := h.1.row aw_100
  obtain ⟨w10, r10, k10⟩ := h.1.row aw_110
  obtain ⟨w11, r11, k11⟩ := h.1.row aw_111
  have hLc : ∀ i, i < 4 * n.toNat → (i % 4 = 2 ∨ i % 4 = 3) → 0 ≤ (jR wb 119 i).toInt ∧ (jR wb 119 i).toInt ≤ 256 := by
    intro i hi hm
    obtain ⟨q1, q2, q3, q4, q5⟩ := hg.2 (i / 4) (by omega)
    rcases hm with hm | hm
    · rw [show 4 * (i / 4) + 2 = i by omega] at q2 q4
      omega
    · rw [show 4 * (i / 4) + 3 = i by omega] at q3 q4
      omega
  have p0 : pW E al wb wb := ⟨h.1, ⟨h.2.2.1.2, h.2.2.2⟩, hD.refl⟩
  -- the last stretch
  have last : ∀ w, pW E al wb w → (∀ i, i ≠ 2 * v.toNat → i ≠ 2 * v.toNat + 1 → jR w 110 i = jR wb 110 i) → (jR w 110 (2 * v.toNat)).toInt = n → (jR w 110 (2 * v.toNat + 1)).toInt = (jR wb 100 0).toInt → (∀ i, i < 4 * n.toNat → jR w 111 (36 * v.toNat + i) = jR wb 119 i) → (∀ i, (i < 36 * v.toNat ∨ 36 * v.toNat + 4 * n.toNat ≤ i) → jR w 111 i = jR wb 111 i) → (∀ i, i < f → jR w 112 (256 * v.toNat + i) = jR wb 120 i) → (∀ i, (i < 256 * v.toNat ∨ 256 * v.toNat + f ≤ i) → jR w 112 i = jR wb 112 i) → hG E al 12 232 142 (rw_K3 n v f) [] [] w Q := by
    intro w hp a1 a2 a2b a3 a4 a5 a6
    have d99 : w[(99 : Nat)]? = wb[(99 : Nat)]? := hp.2.2.2 99 (by decide)
    have d100 : w[(100 : Nat)]? = wb[(100 : Nat)]? := hp.2.2.2 100 (by decide)
    have s28 : aSl w 99 28 f := by
      have := ((hp.1.fld aLay_99).2 28 (0, 256) (by decide +kernel)).1
      rw [jF.at d99 28, hf] at this
      exact this
    refine rz_exit H hp bn bv ⟨by omega, by omega⟩ s28 (aSl.at d100 (aSl.row r00 (by decide) hv)) (m := jS wb 100 0) (aSl.at d100 (jLay_sl h.1 (by decide +kernel))) (fun z w2 g1 g2 g3 g4 g5 g50 => hQ z w2 g4 ⟨g1, ?_, ⟨?_, g2.1⟩, g2.2⟩ ((hp.2.2.more (by simp)).trans (g3.more (by simp))) g5 g50 (fun i h1 h2 => by rw [g3.row (by decide)]; exact a1 i h1 h2) (by rw [g3.row (by decide)]; exact a2) (by rw [g3.row (by decide)]; exact a2b) (fun i hi => by rw [g3.row (by decide)]; exact a3 i hi) (fun i hi => by rw [g3.row (by decide)]; exact a4 i hi))
    · obtain ⟨u11, t11, -⟩ := g1.row aw_111
      refine aRs_of (E := E) (fun r hr h101 => ?_) ?_ ⟨u11, t11⟩
      · have := h.2.1 r hr
        unfold aRl at this ⊢
        rw [h101] at this ⊢
        rw [g3.2 101 (by decide), hp.2.2.2 101 (by decide)]
        exact this
      · rw [g3.row (by decide)]
        intro j hz hb
        by_cases hin : 9 * v.toNat ≤ j ∧ j < 9 * v.toNat + n.toNat
        · obtain ⟨q1, -⟩ := hg.2 (j - 9 * v.toNat) (by omega)
          unfold lR at q1
          rw [show (4 * ((j - 9 * v.toNat : Nat) : Int)).toNat = 4 * (j - 9 * v.toNat) by omega, show (4 * ((j - 9 * v.toNat : Nat) : Int) + 1).toNat = 4 * (j - 9 * v.toNat) + 1 by omega] at q1
          rw [show 4 * j + 0 = 36 * v.toNat + 4 * (j - 9 * v.toNat) by omega, a3 _ (by omega)] at hz
          rw [show 4 * j + 1 = 36 * v.toNat + (4 * (j - 9 * v.toNat) + 1) by omega, a3 _ (by omega)]
          exact q1 hz
        · rw [a4 (4 * j + 0) (by omega)] at hz
          rw [a4 (4 * j + 1) (by omega)]
          exact aRs_111 (E := E) h.2.1 ⟨w11, r11⟩ j hz hb
    · rw [g3.row (by decide), g3.row (by decide), g3.row (by decide)]
      refine jV_new (v := v.toNat) (n := n.toNat) (f := f) (by omega) (by omega) bf h.2.2.1.1 (fun j hj => ?_) a1 (by omega) a3 a4 a5 a6 (fun k hk => ?_)
      · exact ⟨(k11 (4 * j + 2) (0, 256) (by omega) (by rw [show ([aF, aF, (0, 256), (0, 256)] : List (Int × Int)).length = 4 from rfl, show (4 * j + 2) % 4 = 2 by omega]; rfl)).1, (k11 (4 * j + 3) (0, 256) (by omega) (by rw [show ([aF, aF, (0, 256), (0, 256)] : List (Int × Int)).length = 4 from rfl, show (4 * j + 3) % 4 = 3 by omega]; rfl)).1⟩
      · obtain ⟨q1, q2, q3, q4, q5⟩ := hg.2 k (by omega)
        exact ⟨q2, q3, by omega, q5⟩
  -- the two rows
  have copy : ∀ w, pW E al wb w → hD [110] wb w → (∀ i, i ≠ 2 * v.toNat → i ≠ 2 * v.toNat + 1 → jR w 110 i = jR wb 110 i) → (jR w 110 (2 * v.toNat)).toInt = n → (jR w 110 (2 * v.toNat + 1)).toInt = (jR wb 100 0).toInt → hG E al 12 232 108 (rw_K2 n v) [] [] w Q := by
    intro w hp hd1 a1 a2 a2b
    have e111 : jR w 111 = jR wb 111 := hd1.row (by decide)
    have e112 : jR w 112 = jR wb 112 := hd1.row (by decide)
    refine rw_glue (ρ := [n, v, 0]) H rw_c108 (hp.hW ⟨bn, bv, by decide, trivial⟩ aFs.nil aHh.nil) rfl rfl rw_E2 rfl rw_E30 rfl ?_
    refine rw_lines H bn bv hLc (4 * n.toNat) 0 w (by omega) hp (fun i hi => by omega) (fun i _ => by rw [e111]) (fun w2 g1 g2 g3 g4 => ?_)
    have e112b : jR w2 112 = jR wb 112 := by rw [g2.row (by decide), e112]
    have e110 : jR w2 110 = jR w 110 := g2.row (by decide)
    refine rw_signs H bn bv bf h hf f 0 w2 (by omega) g1 (fun i hi => by omega) (fun i _ => by rw [e112b]) (fun w3 m1 m2 m3 m4 => ?_)
    have f110 : jR w3 110 = jR w2 110 := m2.row (by decide)
    have f111 : jR w3 111 = jR w2 111 := m2.row (by decide)
    exact last w3 m1 (fun i h1 h2 => by rw [f110, e110]; exact a1 i h1 h2) (by rw [f110, e110]; exact a2) (by rw [f110, e110]; exact a2b) (fun i hi => by rw [f111]; exact g3 i hi) (fun i hi => by rw [f111]; exact g4 i hi) m3 m4
  -- the two stores
  refine rw_glue (ρ := [n, v, 0]) H rw_c83 (p0.hW ⟨bn, bv, by decide, trivial⟩ aFs.nil aHh.nil) rfl rfl rw_E2 rfl rw_E2 (stk2 := [.inl (ae_k n), .inl (ae_k (2 * v)), .inr (0, 110)]) ?_ ?_
  · simp only [avE, rw_at, ae_s, ae_ev, ae_el, List.map_cons, List.map_nil, List.getD_cons_zero, List.getD_cons_succ, Int.one_mul, Int.add_zero]
  refine hp_ias (by decide +kernel) h.1 aw_110 (aV.k _) (aV.k _) (by omega) (by omega) (fun z w3 hz hq3 hj hw => ?_)
  obtain ⟨q, rfl⟩ := hq3
  have d3 : hD [110] wb (wb.set 110 q) := hD.set
  have hp3 : pW E al wb (wb.set 110 q) := ⟨hw (fun c hc => by
      rw [show ([(0, 9), aF] : List (Int × Int)).length = 2 from rfl, show (2 * v).toNat % 2 = 0 by omega] at hc
      cases hc
      exact bn), jW_hD d3 (by decide) (by decide +kernel) p0.2.1, d3.more (by simp)⟩
  have bx := And.intro (i32_lo (jR wb 100 0)) (i32_hi (jR wb 100 0))
  refine rw_glue (ρ := [n, v, (jR wb 100 0).toInt]) H rw_c92 (hp3.hW ⟨bn, bv, bx, trivial⟩ aFs.nil (aHh.cons (aH1.mk (by decide) rfl rfl (by rw [ae_ev_k]; decide) ?_) aHh.nil)) rfl rfl rw_E2 rfl rw_E2 (stk2 := [.inl (ae_k (jR wb 100 0).toInt), .inl (ae_k (2 * v + 1)), .inr (0, 110)]) ?_ ?_
  · have e : ae_ev [n, v, (jR wb 100 0).toInt] (ae_s 2) = (jR wb 100 0).toInt := by simp only [ae_s, ae_ev, ae_el, List.getD_cons_zero, List.getD_cons_succ]; omega
    rw [e, ae_ev_k]
    exact aSl.at (d3.2 100 (by decide)) (aSl.row r00 (by decide) rfl)
  · simp only [avE, rw_at, ae_s, ae_ev, ae_el, List.map_cons, List.map_nil, List.getD_cons_zero, List.getD_cons_succ, Int.one_mul, Int.add_zero]
  refine hp_ias (by decide +kernel) hp3.1 aw_110 (aV.k _) (aV.k _) (by omega) (by omega) (fun z2 w4 hz2 hq4 hj2 hw2 => ?_)
  obtain ⟨q2, rfl⟩ := hq4
  have d4 : hD [110] (wb.set 110 q) ((wb.set 110 q).set 110 q2) := hD.set
  have hp4 : pW E al wb ((wb.set 110 q).set 110 q2) := ⟨hw2 (fun c hc => by
      rw [show ([(0, 9), aF] : List (Int × Int)).length = 2 from rfl, show (2 * v + 1).toNat % 2 = 1 by omega] at hc
      cases hc
      exact bx), jW_hD d4 (by decide) (by decide +kernel) hp3.2.1, hp3.2.2.trans (d4.more (by simp))⟩
  rw [show (2 * v).toNat = 2 * v.toNat by omega] at hj
  rw [show (2 * v + 1).toNat = 2 * v.toNat + 1 by omega, hj] at hj2
  refine copy _ hp4 (d3.trans d4) (fun i h1 h2 => ?_) ?_ ?_
  · rw [hj2, upd_lo h2, upd_lo h1]
  · rw [hj2, upd_lo (by omega), upd_at]
    exact hz
  · rw [hj2, upd_at]
    exact hz2
/-- the lines so far -/
def rzL (w : va_W) (ls : tLs) : Prop := ∀ i, i < ls.length → (jR w 119 (4 * i)).toInt = (ls.getD i (0, 0)).1 ∧ (jR w 119 (4 * i + 1)).toInt = (ls.getD i (0, 0)).2
theorem rzL.add {ls : tLs} {so v : Int} (h : rzL w ls) (e : ∀ i, i < 4 * ls.length → jR w2 119 i = jR w 119 i) (h0 : (jR w2 119 (4 * ls.length)).toInt = so) (h1 : (jR w2 119 (4 * ls.length + 1)).toInt = v) : rzL w2 (ls ++ [(so, v)]) := by
  intro i hi
  have len : (ls ++ [(so, v)]).length = ls.length + 1 := by simp
  by_cases c : i < ls.length
  · have e2 : (ls ++ [(so, v)]).getD i (0, 0) = ls.getD i (0, 0) := by
      rw [List.getD_eq_getElem?_getD, List.getD_eq_getElem?_getD, List.getElem?_append_left c]
    rw [e2, e _ (by omega), e _ (by omega)]
    exact h i c
  · have e3 : i = ls.length := by omega
    subst e3
    have e2 : (ls ++ [(so, v)]).getD ls.length (0, 0) = (so, v) := by
      rw [List.getD_eq_getElem?_getD, List.getElem?_append_right (Nat.le_refl _), Nat.sub_self]
      rfl
    rw [e2]
    exact ⟨h0, h1⟩
/-- line by line: what comes behind the last -/
theorem rz_go (hf : E.2.2.2.1.category = 1) (hT : ∀ σ : List Int, aTb E σ aTabs) (H : hOk E al gR jJ) (h0 : hI E al jJ ws0) (HT0 : rtT ws0 T n) {R : Int × tLs}
    (hx : ∀ (w : va_W) (s : Nat) (ls : tLs), rB E al ws0 w → rtk w T n s → ls.length ≤ 9 → jF w 24 < 0 → R = (-1, ls) → rG w (ls.length : Int) → rzL w ls → hG E al 12 232 46 [(0, .inr (0, 99)), (1, .inl (ae_k (ls.length : Int)))] [] [] w Q)
    (hb : ∀ (w : va_W) (s : Nat) (m : Int), rB E al ws0 w → rtk w T n s → 0 ≤ jF w 24 → R.1 = jF w 24 → hG E al 12 232 46 [(0, .inr (0, 99)), (1, .inl (ae_k m))] [] [] w Q) :
    ∀ (m s : Nat) (ls : tLs) (w : va_W), n - s ≤ m → rB E al ws0 w → rtk w T n s → ls.length ≤ 9 → jF w 24 < 0 → R = run T n 0 0 ls s → rG w (ls.length : Int) → rzL w ls → hG E al 12 232 21 [(0, .inr (0, 99)), (1, .inl (ae_k (ls.length : Int)))] [] [] w Q := by
  have hn := HT0.1
  -- the end
  have fin : ∀ (s : Nat) (ls : tLs) (w : va_W), n ≤ s → rB E al ws0 w → rtk w T n s → ls.length ≤ 9 → jF w 24 < 0 → R = run T n 0 0 ls s → rG w (ls.length : Int) → rzL w ls → hG E al 12 232 21 [(0, .inr (0, 99)), (1, .inl (ae_k (ls.length : Int)))] [] [] w Q := by
    intro s ls w hs hB hk hl h24 hr hG2 hZ
    have k0 : tK T n s = 0 := by
      unfold tK
      rw [if_pos hs]
    have s20 := rsl hB.1 (i := 20) (b := (0, 3)) (by decide +kernel) hk.2.2.1
    rw [k0] at s20
    refine ky_go hf hT hB.1.1 (by decide) (ρ := [(ls.length : Int)]) rz_4 ⟨⟨by omega, by omega⟩, trivial⟩ aFs.nil (aHh.cons (kn1 (i := 20) (by decide) rfl ae_ev_k s20) aHh.nil) (by rfl) (by rfl) (lEr (lEi (ev_s rfl) lE0)) sE0 (lvk2 := [(0, .inr (0, 99)), (1, .inl (ae_k ((ls.length : Int))))]) (lEr (lEi (ev_s rfl) lE0)) (stk2 := []) sE0 ?_
    exact hx w s ls hB hk hl h24 (hr.trans (run_end hs)) hG2 hZ
  intro m
  induction m with
  | zero => exact fun s ls w hm hB hk hl h24 hr hG2 hZ => fin s ls w (by omega) hB hk hl h24 hr hG2 hZ
  | succ m ih =>
    intro s ls w hm hB hk hl h24 hr hG2 hZ
    by_cases hsn : s < n
    case neg => exact fin s ls w (by omega) hB hk hl h24 hr hG2 hZ
    have h := hB.1
    have kb := tK_b (T := T) (n := n) (s := s)
    have k1 : 1 ≤ tK T n s := by
      unfold tK
      rw [if_neg (by omega)]
      repeat' split
      all_goals decide
    have b24 := h.f (i := 24) (b := aF) (by decide +kernel)
    have s24 := rsl h (i := 24) (b := aF) (by decide +kernel) rfl
    have s20 := rsl h (i := 20) (b := (0, 3)) (by decide +kernel) hk.2.2.1
    refine ky_go hf hT h.1 (by decide) (ρ := [(ls.length : Int), (tK T n s), (jF w 24)]) rz_2 ⟨⟨by omega, by omega⟩, ⟨by omega, by omega⟩, ⟨b24.1, by omega⟩, trivial⟩ aFs.nil (aHh.cons (kn1 (i := 24) (by decide) rfl (ev_s rfl) s24) (aHh.cons (kn1 (i := 20) (by decide) rfl (ev_s rfl) s20) aHh.nil)) (by rfl) (by rfl) (lEr (lEi (ev_s rfl) lE0)) sE0 (lvk2 := [(0, .inr (0, 99)), (1, .inl (ae_k ((ls.length : Int))))]) (lEr (lEi (ev_s rfl) lE0)) (stk2 := [.inl (ae_k ((ls.length : Int))), .inr (0, 99)]) (sEi (ev_s rfl) (sEr sE0)) ?_
    refine rd_call (d := 11) (y2 := 237) (as := [.inr (0, 99), .inl (ae_k (ls.length : Int))]) (rest := []) (R := fun w3 => rlQ E al w T n s ls none w3) H h (by decide) (by rfl) (fun AS ha => ?_) (fun w3 hR => ?_)
    · exact (rl_mj hf hT H h (HT0.more hB.2.1 (by decide)) hk h24 hB.2.2 hsn hl ha).weaken (by decide) (Nat.le_refl _) (Nat.le_refl _) (fun v w z => ⟨z.1.1, ⟨rfl, z.1.2⟩, z.2⟩)
    · obtain ⟨⟨-, lb, t, ht, hK, hdd⟩, hF⟩ := hR
      have lb' := lb
      obtain ⟨c1, c2, c3, c4, c5, c6, c7, c8⟩ := lb'
      have hB3 : rB E al ws0 w3 := ⟨c1, hB.2.1.trans c2, c5⟩
      refine ky_go hf hT c1.1 (by decide) (ρ := [(ls.length : Int)]) rz_3 ⟨⟨by omega, by omega⟩, trivial⟩ aFs.nil aHh.nil (by rfl) (by rfl) (lEr (lEi (ev_s rfl) lE0)) sE0 (lvk2 := [(0, .inr (0, 99)), (1, .inl (ae_k (((ls.length : Int) + 1))))]) (lEr (lEi (by simp only [ae_ev, ae_el, ae_s, ae_k, List.getD_cons_zero, List.getD_cons_succ]; omega) lE0)) (stk2 := []) sE0 ?_
      rcases hF with ⟨g24, s2, so, v', hs2, k2, hr2, y0, y1⟩ | ⟨g24, ⟨s2, k2⟩, hr2⟩
      · have t4 : t < 4 := by
          rcases (by omega : t < 4 ∨ t = 4) with h4 | h4
          · exact h4
          · subst h4
            have := hK.2.2.1 rfl
            omega
        obtain ⟨l8, -, lg⟩ := hdd t4
        have len : (ls ++ [(so, v')]).length = ls.length + 1 := by simp
        have eL : ((ls.length : Int) + 1) = ((ls ++ [(so, v')]).length : Int) := by rw [len]; omega
        have k2n := k2.1
        refine (show hG E al 12 232 21 [(0, .inr (0, 99)), (1, .inl (ae_k ((ls ++ [(so, v')]).length : Int)))] [] [] w3 Q → _ from fun x => by rw [← eL] at x; exact x) ?_
        refine ih s2 (ls ++ [(so, v')]) w3 (by omega) hB3 k2 (by omega) g24 (hr.trans hr2) ⟨by omega, fun k hk3 => ?_⟩ (hZ.add (fun i hi => c8 i (by omega)) y0 y1)
        by_cases hkn : (k : Int) < (ls.length : Int)
        · exact lOK.old h lb hkn (hG2.2 k hkn)
        · have e : k = ((ls.length : Int)).toNat := by omega
          rw [e]
          exact lOK.new h (by omega) lb lg
      · have b24c := c1.f (i := 24) (b := aF) (by decide +kernel)
        have b20c := c1.f (i := 20) (b := (0, 3)) (by decide +kernel)
        have r24 := rsl c1 (i := 24) (b := aF) (by decide +kernel) rfl
        have r20 := rsl c1 (i := 20) (b := (0, 3)) (by decide +kernel) rfl
        refine ky_go hf hT c1.1 (by decide) (ρ := [((ls.length : Int) + 1), (jF w3 24), (jF w3 20)]) rz_5 ⟨⟨by omega, by omega⟩, ⟨g24, b24c.2⟩, b20c, trivial⟩ aFs.nil (aHh.cons (kn1 (i := 24) (by decide) rfl (ev_s rfl) r24) (aHh.cons (kn1 (i := 20) (by decide) rfl (ev_s rfl) r20) aHh.nil)) (by rfl) (by rfl) (lEr (lEi (ev_s rfl) lE0)) sE0 (lvk2 := [(0, .inr (0, 99)), (1, .inl (ae_k (((ls.length : Int) + 1))))]) (lEr (lEi (ev_s rfl) lE0)) (stk2 := []) sE0 ?_
        exact hb w3 s2 _ hB3 k2 g24 (by rw [hr]; exact hr2)
/-- read, the reference -/
theorem rz_mj (hf : E.2.2.2.1.category = 1) (hT : ∀ σ : List Int, aTb E σ aTabs) (H : hOk E al gR jJ) (HW : hOk E al gW jW) (h0 : hI E al jJ ws0) (HT0 : rtT ws0 T n) (h19 : jF ws0 19 = (n : Int)) {V : Int} (hV : 0 ≤ V ∧ V ≤ 8) (h6 : jS ws0 100 6 = V) {AS : List Value} (hA : gL E al [] [.inr (0, 99)] AS) :
    MJ E 12 0 0 (mj_in0 232 AS ws0) (fun v w2 => ∃ z : Int32, v = some (.int z) ∧ z.toInt = rdA (run T n 0 0 [] (tS T n 0)).1 V ∧ hI E al jJ w2 ∧ hD [99, 100, 110, 111, 112, 119, 120, 121] ws0 w2 ∧ jS w2 99 19 = 0 ∧ jS w2 100 6 = rdV (run T n 0 0 [] (tS T n 0)).1 V) := by
  have HV : hOk E al gV0 (fun _ => True) := hOkV hf hT (fun _ _ _ _ h => h)
  have hn := HT0.1
  have bd0 := h0.bds
  refine hG.in0 hf (d := 12) (as := [.inr (0, 99)]) ?_ hA
  show hG E al 12 232 0 [(0, .inr (0, 99))] [] [] ws0 _
  refine kz_lg H h0 (by decide) (ρ := []) rz_0 trivial aFs.nil aHh.nil (by rfl) (by rfl) (lEr lE0) sE0 (lvk2 := [(0, .inr (0, 99))]) (lEr lE0) (stk2 := [.inr (0, 99)]) (sEr sE0) (fun w2 b1 b4 b5 => ?_)
  have f19 : jF w2 19 = jF ws0 19 := by
    rw [jFS b1 19, jFS h0 19, b5 99 19]
    simp [lg_ap, ae_ev, ae_el, ae_s, ae_k]
  have f20 : jF w2 20 = jF ws0 20 := by
    rw [jFS b1 20, jFS h0 20, b5 99 20]
    simp [lg_ap, ae_ev, ae_el, ae_s, ae_k]
  have f21 : jF w2 21 = jF ws0 21 := by
    rw [jFS b1 21, jFS h0 21, b5 99 21]
    simp [lg_ap, ae_ev, ae_el, ae_s, ae_k]
  have f22 : jF w2 22 = ((0 : Nat) : Int) := by
    rw [jFS b1 22, b5 99 22]
    simp [lg_ap, ae_ev, ae_el, ae_s, ae_k]
    try omega
  have f23 : jF w2 23 = jF ws0 23 := by
    rw [jFS b1 23, jFS h0 23, b5 99 23]
    simp [lg_ap, ae_ev, ae_el, ae_s, ae_k]
  have f24 : jF w2 24 = -1 := by
    rw [jFS b1 24, b5 99 24]
    simp [lg_ap, ae_ev, ae_el, ae_s, ae_k]
    try omega
  have f28 : jF w2 28 = 0 := by
    rw [jFS b1 28, b5 99 28]
    simp [lg_ap, ae_ev, ae_el, ae_s, ae_k]
    try omega
  have f29 : jF w2 29 = jF ws0 29 := by
    rw [jFS b1 29, jFS h0 29, b5 99 29]
    simp [lg_ap, ae_ev, ae_el, ae_s, ae_k]
  have HT2 : rtT w2 T n := HT0.more b4 (by decide)
  refine hp_call HV (d := 11) (y2 := 233) (as := [.inr (0, 99)]) (rest := []) (R := fun w3 => hI E al jJ w3 ∧ hD [99] w2 w3 ∧ rtk w3 T n (tS T n 0) ∧ jF w3 24 = jF w2 24 ∧ jF w3 28 = jF w2 28 ∧ jF w3 29 = jF w2 29) (by decide) (by rfl) (hW.e (J := fun _ => True) b1.1 trivial) (fun AS hA => (ra_mj hf hT H b1 HT2 (f19.trans h19) (Nat.zero_le n) f22 hA).weaken (by decide) (Nat.le_refl _) (Nat.le_refl _) (fun v w3 h => h)) (fun w3 hR => ?_)
  obtain ⟨g1, g2, g3, g4, g5, g6⟩ := hR
  have d3 : hD [99] ws0 w3 := (b4.more (by decide)).trans g2
  have bd3 := g1.bds
  refine ky_go hf hT g1.1 (by decide) (ρ := []) rz_1 trivial aFs.nil aHh.nil (by rfl) (by rfl) (lEr lE0) sE0 (lvk2 := [(0, .inr (0, 99)), (1, .inl (ae_k ((([] : tLs).length : Int))))]) (lEr (lEi ae_ev_k lE0)) (stk2 := []) sE0 ?_
  -- a version's number, when the lines are read
  have e6 : ∀ w, rB E al ws0 w → jS w 100 6 = V := fun w hB => (jS.at (hB.2.1.2 100 (by decide))).trans h6
  refine rz_go (R := run T n 0 0 [] (tS T n 0)) hf hT H h0 HT0 (fun w s ls hB hk hl h24 hr hG2 hZ => ?_) (fun w s m hB hk h24 hr => ?_) n (tS T n 0) [] w3 (by omega) ⟨g1, d3.more (by simp), by omega⟩ g3 (by decide) (by omega) rfl ⟨by decide, fun k hk => by simp at hk; omega⟩ (fun i hi => absurd hi (Nat.not_lt_zero i))
  · have h := hB.1
    have b24 := h.f (i := 24) (b := aF) (by decide +kernel)
    have s24 := rsl h (i := 24) (b := aF) (by decide +kernel) rfl
    obtain ⟨w00, r00, k00⟩ := h.1.row aw_100
    have q6 : (jR w 100 6).toInt = V := by
      have e := e6 w hB
      unfold jS at e
      rw [r00] at e
      exact e
    have s6 := aSl.row r00 (i := 6) (by decide) q6
    rw [hr]
    by_cases c8 : V = 8
    · rw [c8] at s6
      refine hG.sub (lv2 := [(0, .inr (0, 99))]) ?_ (fun q hq => by simp only [List.mem_singleton] at hq; simp [hq])
      refine kz_lg H h (by decide) (ρ := [(jF w 24)]) rz_7 ⟨⟨b24.1, by omega⟩, trivial⟩ aFs.nil (aHh.cons (kn1 (i := 24) (by decide) rfl (ev_s rfl) s24) (aHh.cons (kn1 (i := 6) (by decide) rfl ae_ev_k s6) aHh.nil)) (by rfl) (by rfl) (lEr lE0) sE0 (lvk2 := []) lE0 (stk2 := [.inl (ae_k ((-2)))]) (sEi ae_ev_k sE0) (fun w4 b1 b4 b5 => ?_)
      have f19 : jS w4 99 19 = 0 := by
        rw [b5 99 19]
        simp [lg_ap, ae_ev, ae_el, ae_s, ae_k]
      exact hp_retI (pc := 82) (ty := .int) (x := -2) (by decide) (by decide +kernel) (by decide +kernel) (aV.k _) (fun n hn => rfl) (fun z hz => ⟨z, rfl, by rw [hz, c8] <;> rfl, b1, (hB.2.1.more (by simp)).trans (b4.more (by simp)), f19, by rw [jS.at (b4.2 100 (by decide)), e6 w hB, c8] <;> rfl⟩)
    · skip
      refine kz_lg H h (by decide) (ρ := [(jF w 24), (ls.length : Int), V]) rz_8 ⟨⟨b24.1, by omega⟩, ⟨by omega, by omega⟩, ⟨by omega, by omega⟩, trivial⟩ aFs.nil (aHh.cons (kn1 (i := 24) (by decide) rfl (ev_s rfl) s24) (aHh.cons (kn1 (i := 6) (by decide) rfl (ev_s rfl) s6) aHh.nil)) (by rfl) (by rfl) (lEr (lEi (ev_s rfl) lE0)) sE0 (lvk2 := [(0, .inr (0, 99)), (1, .inl (ae_k ((ls.length : Int)))), (2, .inl (ae_k (V)))]) (lEr (lEi (ev_s rfl) (lEi (ev_s rfl) lE0))) (stk2 := []) sE0 (fun w4 b1 b4 b5 => ?_)
      have f19 : jS w4 99 19 = 0 := by
        rw [b5 99 19]
        simp [lg_ap, ae_ev, ae_el, ae_s, ae_k]
      have d4 : hD [99] w w4 := b4.more (by decide)
      have f28 : jF w4 28 = jF w 28 := by
        rw [jFS b1 28, jFS h 28, b5 99 28]
        simp [lg_ap, ae_ev, ae_el, ae_s, ae_k]
      have rg2 : rG w4 (ls.length : Int) := ⟨hG2.1, fun k hk => by
        have := hG2.2 k hk
        unfold lOK lR at *
        rw [d4.row (by decide), d4.row (by decide), f28]
        exact this⟩
      refine rz_83 HW b1 (n := (ls.length : Int)) (v := V) (by omega) rg2 ⟨hV.1, by omega⟩ (by rw [d4.row (by decide)]; exact q6) (fun z w5 p1 p2 p3 p4 p40 p5 p6 p7 p8 p9 => ?_)
      refine ⟨z, rfl, ?_, p2, (hB.2.1.more (by simp)).trans ((d4.more (by simp)).trans (p3.more (by simp))), (jS.at (p3.2 99 (by decide))).trans f19, ?_⟩
      · rw [p1]
        unfold rdA
        rw [if_neg (show ¬ (0 : Int) ≤ -1 by decide), if_neg c8]
      · rw [p4]
        unfold rdV
        rw [if_neg (show ¬ (0 : Int) ≤ -1 by decide), if_neg c8]
  · have h := hB.1
    have b24 := h.f (i := 24) (b := aF) (by decide +kernel)
    have s24 := rsl h (i := 24) (b := aF) (by decide +kernel) rfl
    rw [hr]
    -- the fault lies on the tape
    have f250 : jF w 24 ≤ 250 := by
      rw [← hr]
      have := run_le (T := T) (n := n) (k := 0) (o := 0) (ls := []) (s := tS T n 0) (tS_le (Nat.zero_le n)).2
      omega
    refine hG.sub (lv2 := [(0, .inr (0, 99))]) ?_ (fun q hq => by simp only [List.mem_singleton] at hq; simp [hq])
    refine kz_lg H h (by decide) (ρ := [(jF w 24)]) rz_6 ⟨⟨h24, f250⟩, trivial⟩ aFs.nil (aHh.cons (kn1 (i := 24) (by decide) rfl (ev_s rfl) s24) aHh.nil) (by rfl) (by rfl) (lEr lE0) sE0 (lvk2 := []) lE0 (stk2 := [.inl (ae_k (-100 - jF w 24))]) (sEi (by simp only [ae_ev, ae_el, ae_s, ae_k, List.getD_cons_zero, List.getD_cons_succ]; omega) sE0) (fun w4 b1 b4 b5 => ?_)
    have f19 : jS w4 99 19 = 0 := by
      rw [b5 99 19]
      simp [lg_ap, ae_ev, ae_el, ae_s, ae_k]
    refine hp_retI (pc := 65) (ty := .int) (x := -100 - jF w 24) (by decide) (by decide +kernel) (by decide +kernel) (aV.k _) (fun n hn => rfl) (fun z hz => ⟨z, rfl, ?_, b1, (hB.2.1.more (by simp)).trans (b4.more (by simp)), f19, ?_⟩)
    · rw [hz]
      unfold rdA
      rw [if_pos h24]
    · rw [jS.at (b4.2 100 (by decide)), e6 w hB]
      unfold rdV
      rw [if_pos h24]
end RR
/-! READ, with what a version holds: the reference -/
section RR2
variable {E : mj_E} {Q : Option Value → va_W → Prop} {al : List Nat} {w w0 w1 w2 ws ws0 wb : va_W} {T : Nat → Int} {n : Nat} {ρ : List Int}
theorem l110 : aLay[(110 : Nat)]? = some (.inr (0, 16, [(0, 9), (aI0, aI1)])) := rfl
theorem l111 : aLay[(111 : Nat)]? = some (.inr (0, 288, [(aI0, aI1), (aI0, aI1), (0, 256), (0, 256)])) := rfl
theorem l119 : aLay[(119 : Nat)]? = some (.inr (0, 36, [(aI0, aI1)])) := rfl
/-- what read leaves in the reference's lists -/
def vR (R : Int × tLs) (V : Int) (w w2 : va_W) : Prop := if R.1 < 0 ∧ V ≠ 8 then ((∀ k, k ≠ 2 * V.toNat → k ≠ 2 * V.toNat + 1 → jS w2 110 k = jS w 110 k) ∧ jS w2 110 (2 * V.toNat) = (R.2.length : Int) ∧ jS w2 110 (2 * V.toNat + 1) = jS w 100 0 ∧ (∀ j, j < R.2.length → jS w2 111 (36 * V.toNat + 4 * j) = (R.2.getD j (0, 0)).1 ∧ jS w2 111 (36 * V.toNat + 4 * j + 1) = (R.2.getD j (0, 0)).2) ∧ ∀ k, (k < 36 * V.toNat ∨ 36 * V.toNat + 4 * R.2.length ≤ k) → jS w2 111 k = jS w 111 k) else ((∀ k, jS w2 110 k = jS w 110 k) ∧ ∀ k, jS w2 111 k = jS w 111 k)
theorem vR_no {w w2 : va_W} {R : Int × tLs} {V : Int} (h : ¬ (R.1 < 0 ∧ V ≠ 8)) (h1 : ∀ k, jS w2 110 k = jS w 110 k) (h2 : ∀ k, jS w2 111 k = jS w 111 k) : vR R V w w2 := by
  unfold vR
  rw [if_neg h]
  exact ⟨h1, h2⟩
theorem vR_yes {w w2 : va_W} {R : Int × tLs} {V : Int} {v : Nat} (h0 : R.1 < 0) (h8 : V ≠ 8) (e : V.toNat = v) (h1 : ∀ k, k ≠ 2 * v → k ≠ 2 * v + 1 → jS w2 110 k = jS w 110 k) (h2 : jS w2 110 (2 * v) = (R.2.length : Int)) (h3 : jS w2 110 (2 * v + 1) = jS w 100 0) (h4 : ∀ j, j < R.2.length → jS w2 111 (36 * v + 4 * j) = (R.2.getD j (0, 0)).1 ∧ jS w2 111 (36 * v + 4 * j + 1) = (R.2.getD j (0, 0)).2) (h5 : ∀ k, (k < 36 * v ∨ 36 * v + 4 * R.2.length ≤ k) → jS w2 111 k = jS w 111 k) : vR R V w w2 := by
  unfold vR
  rw [if_pos ⟨h0, h8⟩, e]
  exact ⟨h1, h2, h3, h4, h5⟩
/-- read, the reference, with what a version holds -/
theorem rz2_mj (hf : E.2.2.2.1.category = 1) (hT : ∀ σ : List Int, aTb E σ aTabs) (H : hOk E al gR jJ) (HW : hOk E al gW jW) (h0 : hI E al jJ ws0) (HT0 : rtT ws0 T n) (h19 : jF ws0 19 = (n : Int)) {V : Int} (hV : 0 ≤ V ∧ V ≤ 8) (h6 : jS ws0 100 6 = V) {AS : List Value} (hA : gL E al [] [.inr (0, 99)] AS) :
    MJ E 12 0 0 (mj_in0 232 AS ws0) (fun v w2 => ∃ z : Int32, v = some (.int z) ∧ z.toInt = rdA (run T n 0 0 [] (tS T n 0)).1 V ∧ hI E al jJ w2 ∧ hD [99, 100, 110, 111, 112, 119, 120, 121] ws0 w2 ∧ jS w2 99 19 = 0 ∧ jS w2 100 6 = rdV (run T n 0 0 [] (tS T n 0)).1 V ∧ vR (run T n 0 0 [] (tS T n 0)) V ws0 w2 ∧ jS w2 100 0 = jS ws0 100 0) := by
  have HV : hOk E al gV0 (fun _ => True) := hOkV hf hT (fun _ _ _ _ h => h)
  have hn := HT0.1
  have bd0 := h0.bds
  refine hG.in0 hf (d := 12) (as := [.inr (0, 99)]) ?_ hA
  show hG E al 12 232 0 [(0, .inr (0, 99))] [] [] ws0 _
  refine kz_lg H h0 (by decide) (ρ := []) rz_0 trivial aFs.nil aHh.nil (by rfl) (by rfl) (lEr lE0) sE0 (lvk2 := [(0, .inr (0, 99))]) (lEr lE0) (stk2 := [.inr (0, 99)]) (sEr sE0) (fun w2 b1 b4 b5 => ?_)
  have f19 : jF w2 19 = jF ws0 19 := by
    rw [jFS b1 19, jFS h0 19, b5 99 19]
    simp [lg_ap, ae_ev, ae_el, ae_s, ae_k]
  have f20 : jF w2 20 = jF ws0 20 := by
    rw [jFS b1 20, jFS h0 20, b5 99 20]
    simp [lg_ap, ae_ev, ae_el, ae_s, ae_k]
  have f21 : jF w2 21 = jF ws0 21 := by
    rw [jFS b1 21, jFS h0 21, b5 99 21]
    simp [lg_ap, ae_ev, ae_el, ae_s, ae_k]
  have f22 : jF w2 22 = ((0 : Nat) : Int) := by
    rw [jFS b1 22, b5 99 22]
    simp [lg_ap, ae_ev, ae_el, ae_s, ae_k]
    try omega
  have f23 : jF w2 23 = jF ws0 23 := by
    rw [jFS b1 23, jFS h0 23, b5 99 23]
    simp [lg_ap, ae_ev, ae_el, ae_s, ae_k]
  have f24 : jF w2 24 = -1 := by
    rw [jFS b1 24, b5 99 24]
    simp [lg_ap, ae_ev, ae_el, ae_s, ae_k]
    try omega
  have f28 : jF w2 28 = 0 := by
    rw [jFS b1 28, b5 99 28]
    simp [lg_ap, ae_ev, ae_el, ae_s, ae_k]
    try omega
  have f29 : jF w2 29 = jF ws0 29 := by
    rw [jFS b1 29, jFS h0 29, b5 99 29]
    simp [lg_ap, ae_ev, ae_el, ae_s, ae_k]
  have HT2 : rtT w2 T n := HT0.more b4 (by decide)
  refine hp_call HV (d := 11) (y2 := 233) (as := [.inr (0, 99)]) (rest := []) (R := fun w3 => hI E al jJ w3 ∧ hD [99] w2 w3 ∧ rtk w3 T n (tS T n 0) ∧ jF w3 24 = jF w2 24 ∧ jF w3 28 = jF w2 28 ∧ jF w3 29 = jF w2 29) (by decide) (by rfl) (hW.e (J := fun _ => True) b1.1 trivial) (fun AS hA => (ra_mj hf hT H b1 HT2 (f19.trans h19) (Nat.zero_le n) f22 hA).weaken (by decide) (Nat.le_refl _) (Nat.le_refl _) (fun v w3 h => h)) (fun w3 hR => ?_)
  obtain ⟨g1, g2, g3, g4, g5, g6⟩ := hR
  have d3 : hD [99] ws0 w3 := (b4.more (by decide)).trans g2
  have bd3 := g1.bds
  refine ky_go hf hT g1.1 (by decide) (ρ := []) rz_1 trivial aFs.nil aHh.nil (by rfl) (by rfl) (lEr lE0) sE0 (lvk2 := [(0, .inr (0, 99)), (1, .inl (ae_k ((([] : tLs).length : Int))))]) (lEr (lEi ae_ev_k lE0)) (stk2 := []) sE0 ?_
  -- a version's number, when the lines are read
  have e6 : ∀ w, rB E al ws0 w → jS w 100 6 = V := fun w hB => (jS.at (hB.2.1.2 100 (by decide))).trans h6
  refine rz_go (R := run T n 0 0 [] (tS T n 0)) hf hT H h0 HT0 (fun w s ls hB hk hl h24 hr hG2 hZ => ?_) (fun w s m hB hk h24 hr => ?_) n (tS T n 0) [] w3 (by omega) ⟨g1, d3.more (by simp), by omega⟩ g3 (by decide) (by omega) rfl ⟨by decide, fun k hk => by simp at hk; omega⟩ (fun i hi => absurd hi (Nat.not_lt_zero i))
  · have h := hB.1
    have b24 := h.f (i := 24) (b := aF) (by decide +kernel)
    have s24 := rsl h (i := 24) (b := aF) (by decide +kernel) rfl
    obtain ⟨w00, r00, k00⟩ := h.1.row aw_100
    have q6 : (jR w 100 6).toInt = V := by
      have e := e6 w hB
      unfold jS at e
      rw [r00] at e
      exact e
    have s6 := aSl.row r00 (i := 6) (by decide) q6
    rw [hr]
    by_cases c8 : V = 8
    · rw [c8] at s6
      refine hG.sub (lv2 := [(0, .inr (0, 99))]) ?_ (fun q hq => by simp only [List.mem_singleton] at hq; simp [hq])
      refine kz_lg H h (by decide) (ρ := [(jF w 24)]) rz_7 ⟨⟨b24.1, by omega⟩, trivial⟩ aFs.nil (aHh.cons (kn1 (i := 24) (by decide) rfl (ev_s rfl) s24) (aHh.cons (kn1 (i := 6) (by decide) rfl ae_ev_k s6) aHh.nil)) (by rfl) (by rfl) (lEr lE0) sE0 (lvk2 := []) lE0 (stk2 := [.inl (ae_k ((-2)))]) (sEi ae_ev_k sE0) (fun w4 b1 b4 b5 => ?_)
      have f19 : jS w4 99 19 = 0 := by
        rw [b5 99 19]
        simp [lg_ap, ae_ev, ae_el, ae_s, ae_k]
      exact hp_retI (pc := 82) (ty := .int) (x := -2) (by decide) (by decide +kernel) (by decide +kernel) (aV.k _) (fun n hn => rfl) (fun z hz => ⟨z, rfl, by rw [hz, c8] <;> rfl, b1, (hB.2.1.more (by simp)).trans (b4.more (by simp)), f19, by rw [jS.at (b4.2 100 (by decide)), e6 w hB, c8] <;> rfl, vR_no (fun h => h.2 c8) (fun k => (jS.at (b4.2 110 (by decide))).trans (jS.at (hB.2.1.2 110 (by decide)))) (fun k => (jS.at (b4.2 111 (by decide))).trans (jS.at (hB.2.1.2 111 (by decide)))), (jS.at (b4.2 100 (by decide))).trans (jS.at (hB.2.1.2 100 (by decide)))⟩)
    · skip
      refine kz_lg H h (by decide) (ρ := [(jF w 24), (ls.length : Int), V]) rz_8 ⟨⟨b24.1, by omega⟩, ⟨by omega, by omega⟩, ⟨by omega, by omega⟩, trivial⟩ aFs.nil (aHh.cons (kn1 (i := 24) (by decide) rfl (ev_s rfl) s24) (aHh.cons (kn1 (i := 6) (by decide) rfl (ev_s rfl) s6) aHh.nil)) (by rfl) (by rfl) (lEr (lEi (ev_s rfl) lE0)) sE0 (lvk2 := [(0, .inr (0, 99)), (1, .inl (ae_k ((ls.length : Int)))), (2, .inl (ae_k (V)))]) (lEr (lEi (ev_s rfl) (lEi (ev_s rfl) lE0))) (stk2 := []) sE0 (fun w4 b1 b4 b5 => ?_)
      have f19 : jS w4 99 19 = 0 := by
        rw [b5 99 19]
        simp [lg_ap, ae_ev, ae_el, ae_s, ae_k]
      have d4 : hD [99] w w4 := b4.more (by decide)
      have f28 : jF w4 28 = jF w 28 := by
        rw [jFS b1 28, jFS h 28, b5 99 28]
        simp [lg_ap, ae_ev, ae_el, ae_s, ae_k]
      have rg2 : rG w4 (ls.length : Int) := ⟨hG2.1, fun k hk => by
        have := hG2.2 k hk
        unfold lOK lR at *
        rw [d4.row (by decide), d4.row (by decide), f28]
        exact this⟩
      refine rz_83 HW b1 (n := (ls.length : Int)) (v := V) (by omega) rg2 ⟨hV.1, by omega⟩ (by rw [d4.row (by decide)]; exact q6) (fun z w5 p1 p2 p3 p4 p40 p5 p6 p7 p8 p9 => ?_)
      refine ⟨z, rfl, ?_, p2, (hB.2.1.more (by simp)).trans ((d4.more (by simp)).trans (p3.more (by simp))), (jS.at (p3.2 99 (by decide))).trans f19, ?_, ?_, p40.trans ((jS.at (b4.2 100 (by decide))).trans (jS.at (hB.2.1.2 100 (by decide))))⟩
      · rw [p1]
        unfold rdA
        rw [if_neg (show ¬ (0 : Int) ≤ -1 by decide), if_neg c8]
      · rw [p4]
        unfold rdV
        rw [if_neg (show ¬ (0 : Int) ≤ -1 by decide), if_neg c8]
      · have r4 : ∀ (w : va_W) (c N : Nat) (cols : List (Int × Int)), aWd E al aLay w → aLay[c]? = some (.inr (0, N, cols)) → ∀ k, jS w c k = (jR w c k).toInt := fun w c N cols hw hc k => by
          obtain ⟨a, e, -⟩ := hw.row hc
          exact jS.row ⟨a, _, _, _, e⟩
        have q1 : ∀ k, jS w5 110 k = (jR w5 110 k).toInt := r4 w5 110 _ _ p2.1 l110
        have q2 : ∀ k, jS w5 111 k = (jR w5 111 k).toInt := r4 w5 111 _ _ p2.1 l111
        have q3 : ∀ k, jS w4 110 k = (jR w4 110 k).toInt := r4 w4 110 _ _ b1.1 l110
        have q4 : ∀ k, jS w4 111 k = (jR w4 111 k).toInt := r4 w4 111 _ _ b1.1 l111
        have q5 : ∀ k, jS w4 119 k = (jR w4 119 k).toInt := r4 w4 119 _ _ b1.1 l119
        have q6 : ∀ k, jS w 119 k = (jR w 119 k).toInt := r4 w 119 _ _ h.1 l119
        have q7 : ∀ k, jS w4 100 k = (jR w4 100 k).toInt := r4 w4 100 _ _ b1.1 aw_100
        have o0 : ∀ k, jS w4 110 k = jS ws0 110 k := fun k => (jS.at (b4.2 110 (by decide))).trans (jS.at (hB.2.1.2 110 (by decide)))
        have o1 : ∀ k, jS w4 111 k = jS ws0 111 k := fun k => (jS.at (b4.2 111 (by decide))).trans (jS.at (hB.2.1.2 111 (by decide)))
        have o2 : jS w4 100 0 = jS ws0 100 0 := (jS.at (b4.2 100 (by decide))).trans (jS.at (hB.2.1.2 100 (by decide)))
        have o3 : ∀ k, jR w4 119 k = jR w 119 k := fun k => by rw [d4.row (by decide)]
        refine vR_yes (v := V.toNat) (by show (-1 : Int) < 0; decide) c8 rfl (fun k k1 k2 => by rw [q1, p5 k k1 k2, ← q3, o0]) (by rw [q1, p6]) (by rw [q1, p7, ← q7, o2]) (fun j hj => ⟨?_, ?_⟩) (fun k hk => by rw [q2, p9 k (by have hk : k < 36 * V.toNat ∨ 36 * V.toNat + 4 * ls.length ≤ k := hk; omega), ← q4, o1])
        · have hj : j < ls.length := hj
          rw [q2, p8 (4 * j) (by omega), o3]
          exact (hZ j hj).1
        · have hj : j < ls.length := hj
          rw [q2, Nat.add_assoc, p8 (4 * j + 1) (by omega), o3]
          exact (hZ j hj).2
  · have h := hB.1
    have b24 := h.f (i := 24) (b := aF) (by decide +kernel)
    have s24 := rsl h (i := 24) (b := aF) (by decide +kernel) rfl
    -- the fault lies on the tape
    have f250 : jF w 24 ≤ 250 := by
      rw [← hr]
      have := run_le (T := T) (n := n) (k := 0) (o := 0) (ls := []) (s := tS T n 0) (tS_le (Nat.zero_le n)).2
      omega
    refine hG.sub (lv2 := [(0, .inr (0, 99))]) ?_ (fun q hq => by simp only [List.mem_singleton] at hq; simp [hq])
    refine kz_lg H h (by decide) (ρ := [(jF w 24)]) rz_6 ⟨⟨h24, f250⟩, trivial⟩ aFs.nil (aHh.cons (kn1 (i := 24) (by decide) rfl (ev_s rfl) s24) aHh.nil) (by rfl) (by rfl) (lEr lE0) sE0 (lvk2 := []) lE0 (stk2 := [.inl (ae_k (-100 - jF w 24))]) (sEi (by simp only [ae_ev, ae_el, ae_s, ae_k, List.getD_cons_zero, List.getD_cons_succ]; omega) sE0) (fun w4 b1 b4 b5 => ?_)
    have f19 : jS w4 99 19 = 0 := by
      rw [b5 99 19]
      simp [lg_ap, ae_ev, ae_el, ae_s, ae_k]
    refine hp_retI (pc := 65) (ty := .int) (x := -100 - jF w 24) (by decide) (by decide +kernel) (by decide +kernel) (aV.k _) (fun n hn => rfl) (fun z hz => ⟨z, rfl, ?_, b1, (hB.2.1.more (by simp)).trans (b4.more (by simp)), f19, ?_, vR_no (fun h => by have := h.1; omega) (fun k => (jS.at (b4.2 110 (by decide))).trans (jS.at (hB.2.1.2 110 (by decide)))) (fun k => (jS.at (b4.2 111 (by decide))).trans (jS.at (hB.2.1.2 111 (by decide)))), (jS.at (b4.2 100 (by decide))).trans (jS.at (hB.2.1.2 100 (by decide)))⟩)
    · rw [hz, hr]
      unfold rdA
      rw [if_pos h24]
    · rw [jS.at (b4.2 100 (by decide)), e6 w hB, hr]
      unfold rdV
      rw [if_pos h24]
end RR2
