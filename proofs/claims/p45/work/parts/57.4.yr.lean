/-! YEARS, the reference: which set is the better; the loop over the sets -/
def ib_p (a b : Nat → Int) (c cb : Int) : Prop := b 0 < a 0 ∨ (a 0 = b 0 ∧ (b 1 < a 1 ∨ (a 1 = b 1 ∧ (b 2 < a 2 ∨ (a 2 = b 2 ∧ (b 3 < a 3 ∨ (a 3 = b 3 ∧ c < cb)))))))
def ib_g0 : lgT := ([(0, 7992), (0, 7992), (0, 72), (0, 72)], [([(2, (-1)), (3, 1)], 1)], [.inr (0, 99), .inl (ae_s 0), .inl (ae_s 1)], [((130, ae_k 0), ae_s 2), ((131, ae_k 0), ae_s 3)], ae_k 1, [])
def ib_l0 : lgT := ([(0, 7992), (0, 7992), (0, 72), (0, 72)], [([(2, 1), (3, (-1))], 1)], [.inr (0, 99), .inl (ae_s 0), .inl (ae_s 1)], [((130, ae_k 0), ae_s 2), ((131, ae_k 0), ae_s 3)], ae_k 0, [])
def ib_g1 : lgT := ([(0, 7992), (0, 7992), (0, 72), (0, 72), (0, 72)], [([(3, (-1)), (4, 1)], 1)], [.inr (0, 99), .inl (ae_s 0), .inl (ae_s 1)], [((130, ae_k 0), ae_s 2), ((131, ae_k 0), ae_s 2), ((130, ae_k 1), ae_s 3), ((131, ae_k 1), ae_s 4)], ae_k 1, [])
def ib_l1 : lgT := ([(0, 7992), (0, 7992), (0, 72), (0, 72), (0, 72)], [([(3, 1), (4, (-1))], 1)], [.inr (0, 99), .inl (ae_s 0), .inl (ae_s 1)], [((130, ae_k 0), ae_s 2), ((131, ae_k 0), ae_s 2), ((130, ae_k 1), ae_s 3), ((131, ae_k 1), ae_s 4)], ae_k 0, [])
def ib_g2 : lgT := ([(0, 7992), (0, 7992), (0, 72), (0, 72), (0, 72), (0, 72)], [([(4, (-1)), (5, 1)], 1)], [.inr (0, 99), .inl (ae_s 0), .inl (ae_s 1)], [((130, ae_k 0), ae_s 2), ((131, ae_k 0), ae_s 2), ((130, ae_k 1), ae_s 3), ((131, ae_k 1), ae_s 3), ((130, ae_k 2), ae_s 4), ((131, ae_k 2), ae_s 5)], ae_k 1, [])
def ib_l2 : lgT := ([(0, 7992), (0, 7992), (0, 72), (0, 72), (0, 72), (0, 72)], [([(4, 1), (5, (-1))], 1)], [.inr (0, 99), .inl (ae_s 0), .inl (ae_s 1)], [((130, ae_k 0), ae_s 2), ((131, ae_k 0), ae_s 2), ((130, ae_k 1), ae_s 3), ((131, ae_k 1), ae_s 3), ((130, ae_k 2), ae_s 4), ((131, ae_k 2), ae_s 5)], ae_k 0, [])
def ib_g3 : lgT := ([(0, 7992), (0, 7992), (0, 72), (0, 72), (0, 72), (0, 72), (0, 72)], [([(5, (-1)), (6, 1)], 1)], [.inr (0, 99), .inl (ae_s 0), .inl (ae_s 1)], [((130, ae_k 0), ae_s 2), ((131, ae_k 0), ae_s 2), ((130, ae_k 1), ae_s 3), ((131, ae_k 1), ae_s 3), ((130, ae_k 2), ae_s 4), ((131, ae_k 2), ae_s 4), ((130, ae_k 3), ae_s 5), ((131, ae_k 3), ae_s 6)], ae_k 1, [])
def ib_l3 : lgT := ([(0, 7992), (0, 7992), (0, 72), (0, 72), (0, 72), (0, 72), (0, 72)], [([(5, 1), (6, (-1))], 1)], [.inr (0, 99), .inl (ae_s 0), .inl (ae_s 1)], [((130, ae_k 0), ae_s 2), ((131, ae_k 0), ae_s 2), ((130, ae_k 1), ae_s 3), ((131, ae_k 1), ae_s 3), ((130, ae_k 2), ae_s 4), ((131, ae_k 2), ae_s 4), ((130, ae_k 3), ae_s 5), ((131, ae_k 3), ae_s 6)], ae_k 0, [])
def ib_g4 : lgT := ([(0, 7992), (0, 7992), (0, 72), (0, 72), (0, 72), (0, 72)], [([(0, 1), (1, (-1))], 1)], [.inr (0, 99), .inl (ae_s 0), .inl (ae_s 1)], [((130, ae_k 0), ae_s 2), ((131, ae_k 0), ae_s 2), ((130, ae_k 1), ae_s 3), ((131, ae_k 1), ae_s 3), ((130, ae_k 2), ae_s 4), ((131, ae_k 2), ae_s 4), ((130, ae_k 3), ae_s 5), ((131, ae_k 3), ae_s 5), ((130, ae_k 4), ae_k 0), ((131, ae_k 4), ae_k 0), ((130, ae_k 5), ae_k 0), ((131, ae_k 5), ae_k 0), ((130, ae_k 6), ae_k 0), ((131, ae_k 6), ae_k 0), ((130, ae_k 7), ae_k 0), ((131, ae_k 7), ae_k 0), ((130, ae_k 8), ae_k 0), ((131, ae_k 8), ae_k 0), ((130, ae_k 9), ae_k 0), ((131, ae_k 9), ae_k 0)], ae_k 1, [])
def ib_l4 : lgT := ([(0, 7992), (0, 7992), (0, 72), (0, 72), (0, 72), (0, 72)], [([(0, (-1)), (1, 1)], 0)], [.inr (0, 99), .inl (ae_s 0), .inl (ae_s 1)], [((130, ae_k 0), ae_s 2), ((131, ae_k 0), ae_s 2), ((130, ae_k 1), ae_s 3), ((131, ae_k 1), ae_s 3), ((130, ae_k 2), ae_s 4), ((131, ae_k 2), ae_s 4), ((130, ae_k 3), ae_s 5), ((131, ae_k 3), ae_s 5), ((130, ae_k 4), ae_k 0), ((131, ae_k 4), ae_k 0), ((130, ae_k 5), ae_k 0), ((131, ae_k 5), ae_k 0), ((130, ae_k 6), ae_k 0), ((131, ae_k 6), ae_k 0), ((130, ae_k 7), ae_k 0), ((131, ae_k 7), ae_k 0), ((130, ae_k 8), ae_k 0), ((131, ae_k 8), ae_k 0), ((130, ae_k 9), ae_k 0), ((131, ae_k 9), ae_k 0)], ae_k 0, [])
section
set_option maxRecDepth 100000
theorem ib_g0_k : lg_chk (aG00 []) 80 273 ib_g0 = true := by decide +kernel
theorem ib_l0_k : lg_chk (aG00 []) 80 273 ib_l0 = true := by decide +kernel
theorem ib_g1_k : lg_chk (aG00 []) 80 273 ib_g1 = true := by decide +kernel
theorem ib_l1_k : lg_chk (aG00 []) 80 273 ib_l1 = true := by decide +kernel
theorem ib_g2_k : lg_chk (aG00 []) 80 273 ib_g2 = true := by decide +kernel
theorem ib_l2_k : lg_chk (aG00 []) 80 273 ib_l2 = true := by decide +kernel
theorem ib_g3_k : lg_chk (aG00 []) 80 273 ib_g3 = true := by decide +kernel
theorem ib_l3_k : lg_chk (aG00 []) 80 273 ib_l3 = true := by decide +kernel
theorem ib_g4_k : lg_chk (aG00 []) 80 273 ib_g4 = true := by decide +kernel
theorem ib_l4_k : lg_chk (aG00 []) 80 273 ib_l4 = true := by decide +kernel
theorem yr_b1 : hp_chk gV0 1000 85 288 (0, [aF, aF], [([(0, 1)], 1)], [], [(0, .inr (0, 99)), (1, .inl (ae_s 0)), (2, .inl (ae_s 1))], []) [] [(22, [aF, aF], [], [], [.inl (ae_k (-1))], [], [], mMU)] = true := by decide +kernel
theorem yr_b2 : hp_chk gV0 1000 85 288 (0, [aF, aF], [([(0, (-1))], 100000)], [], [(0, .inr (0, 99)), (1, .inl (ae_s 0)), (2, .inl (ae_s 1))], []) [] [(22, [aF, aF], [], [], [.inl (ae_k (-1))], [], [], mMU)] = true := by decide +kernel
theorem yr_b3 : hp_chk gV0 1000 85 288 (0, [(0, 99999), aF], [([(1, 1)], 3)], [], [(0, .inr (0, 99)), (1, .inl (ae_s 0)), (2, .inl (ae_s 1))], []) [] [(22, [(0, 99999), aF], [], [], [.inl (ae_k (-1))], [], [], mMU)] = true := by decide +kernel
theorem yr_b4 : hp_chk gV0 1000 85 288 (0, [(0, 99999), aF], [([(1, (-1))], 4)], [], [(0, .inr (0, 99)), (1, .inl (ae_s 0)), (2, .inl (ae_s 1))], []) [] [(22, [(0, 99999), aF], [], [], [.inl (ae_k (-1))], [], [], mMU)] = true := by decide +kernel
theorem yr_p0 : hp_chk gV0 1000 85 288 (0, [(0, 99999), ((-2), 3)], [], [], [(0, .inr (0, 99)), (1, .inl (ae_s 0)), (2, .inl (ae_s 1))], []) [] [(31, [(0, 99999), ((-2), 3)], [], [(0, .inr (0, 99)), (1, .inl (ae_s 0)), (2, .inl (ae_s 1)), (3, .inl (ae_k 0)), (4, .inl (ae_k 0)), (5, .inl (ae_k 0))], [], [], [], mMU)] = true := by decide +kernel
theorem yr_p1 : lp_chk (aG00 []) 85 288 (31, [(0, 99999), ((-2), 3), (0, 9)], [], [], [(0, .inr (0, 99)), (1, .inl (ae_s 0)), (2, .inl (ae_s 1)), (3, .inl (ae_k 0)), (4, .inl (ae_k 0)), (5, .inl (ae_s 2))], []) 31 [(0, .inr (0, 99)), (1, .inl (ae_s 0)), (2, .inl (ae_s 1)), (3, .inl (ae_k 0)), (4, .inl (ae_k 0)), (5, .inl (([(2, 1)], 1)))] [] [(130, some (ae_s 2, ae_k 0)), (131, some (ae_s 2, ae_k 0))] = true := by decide +kernel
theorem yr_p2 : hp_chk gV0 1000 85 288 (31, [(0, 99999), ((-2), 3)], [], [], [(0, .inr (0, 99)), (1, .inl (ae_s 0)), (2, .inl (ae_s 1)), (3, .inl (ae_k 0)), (4, .inl (ae_k 0)), (5, .inl (ae_k 10))], []) [] [(63, [(0, 99999), ((-2), 3)], [], [(0, .inr (0, 99)), (1, .inl (ae_s 0)), (2, .inl (ae_s 1)), (3, .inl (ae_k 0)), (4, .inl (ae_k 0)), (5, .inl (ae_k 1))], [], [], [], mMU)] = true := by decide +kernel
theorem yr_o1 : hp_chk gV0 1000 85 288 (63, [(0, 99999), ((-2), 3), (0, 255), (0, 7992), (1, 256), (0, 8)], [], [((100, ae_k 9), ae_s 5)], [(0, .inr (0, 99)), (1, .inl (ae_s 0)), (2, .inl (ae_s 1)), (3, .inl (ae_s 2)), (4, .inl (ae_s 3)), (5, .inl (ae_s 4))], []) [] [(73, [(0, 99999), ((-2), 3), (0, 255), (0, 7992), (1, 256), (0, 8)], [], [(0, .inr (0, 99)), (1, .inl (ae_s 0)), (2, .inl (ae_s 1)), (3, .inl (ae_s 2)), (4, .inl (ae_s 3)), (5, .inl (ae_s 4))], [.inl (ae_s 5), .inl (ae_k 1), .inl (ae_s 4)], [], [], mMU)] = true := by decide +kernel
theorem yr_oX : hp_chk gV0 1000 85 288 (74, [(0, 99999), ((-2), 3), (0, 255), (0, 7992), (1, 256), (1, 256)], [([(4, (-1)), (5, 1)], 0)], [], [(0, .inr (0, 99)), (1, .inl (ae_s 0)), (2, .inl (ae_s 1)), (3, .inl (ae_s 2)), (4, .inl (ae_s 3)), (5, .inl (ae_s 4))], [.inl (ae_s 5), .inl (ae_s 4)]) [] [(243, [(0, 99999), ((-2), 3), (0, 255), (0, 7992), (1, 256), (1, 256)], [], [(0, .inr (0, 99)), (1, .inl (ae_s 0)), (2, .inl (ae_s 1)), (3, .inl (ae_s 2)), (4, .inl (ae_s 3)), (5, .inl (ae_s 4))], [], [], [], mMU)] = true := by decide +kernel
theorem yr_oG : hp_chk gV0 1000 85 288 (74, [(0, 99999), ((-2), 3), (0, 255), (0, 7992), (1, 256), (1, 256)], [([(4, 1), (5, (-1))], 1)], [], [(0, .inr (0, 99)), (1, .inl (ae_s 0)), (2, .inl (ae_s 1)), (3, .inl (ae_s 2)), (4, .inl (ae_s 3)), (5, .inl (ae_s 4))], [.inl (ae_s 5), .inl (ae_s 4)]) [] [(83, [(0, 99999), ((-2), 3), (0, 255), (0, 7992), (1, 256), (1, 256)], [], [(0, .inr (0, 99)), (1, .inl (ae_s 0)), (2, .inl (ae_s 1)), (3, .inl (ae_s 2)), (4, .inl (ae_s 3)), (5, .inl (ae_s 4)), (6, .inl (ae_k 0)), (7, .inl (ae_k 0))], [], [], [], mMU)] = true := by decide +kernel
theorem yr_z1 : lp_chk (aG00 []) 85 288 (83, [(0, 99999), ((-2), 3), (0, 255), (0, 7992), (1, 256), (0, 3)], [], [], [(0, .inr (0, 99)), (1, .inl (ae_s 0)), (2, .inl (ae_s 1)), (3, .inl (ae_s 2)), (4, .inl (ae_s 3)), (5, .inl (ae_s 4)), (6, .inl (ae_k 0)), (7, .inl (ae_s 5))], []) 83 [(0, .inr (0, 99)), (1, .inl (ae_s 0)), (2, .inl (ae_s 1)), (3, .inl (ae_s 2)), (4, .inl (ae_s 3)), (5, .inl (ae_s 4)), (6, .inl (ae_k 0)), (7, .inl (([(5, 1)], 1)))] [] [(130, some (ae_s 5, ae_k 0))] = true := by decide +kernel
theorem yr_z2 : hp_chk gV0 1000 85 288 (83, [(0, 99999), ((-2), 3), (0, 255), (0, 7992), (1, 256)], [], [], [(0, .inr (0, 99)), (1, .inl (ae_s 0)), (2, .inl (ae_s 1)), (3, .inl (ae_s 2)), (4, .inl (ae_s 3)), (5, .inl (ae_s 4)), (6, .inl (ae_k 0)), (7, .inl (ae_k 4))], []) [] [(106, [(0, 99999), ((-2), 3), (0, 255), (0, 7992), (1, 256)], [], [(0, .inr (0, 99)), (1, .inl (ae_s 0)), (2, .inl (ae_s 1)), (3, .inl (ae_s 2)), (4, .inl (ae_s 3)), (5, .inl (ae_s 4)), (6, .inl (ae_k 0)), (7, .inl (ae_k 0))], [], [], [], mMU)] = true := by decide +kernel
theorem yr_i1 : hp_chk gV0 1000 85 288 (106, [(0, 99999), ((-2), 3), (0, 255), (0, 7992), (1, 256), (0, 7992), (0, 7), (0, 8)], [([(6, 1), (7, (-1))], 1)], [((100, ae_k 9), ae_s 7)], [(0, .inr (0, 99)), (1, .inl (ae_s 0)), (2, .inl (ae_s 1)), (3, .inl (ae_s 2)), (4, .inl (ae_s 3)), (5, .inl (ae_s 4)), (6, .inl (ae_s 5)), (7, .inl (ae_s 6))], []) [] [(124, [(0, 99999), ((-2), 3), (0, 255), (0, 7992), (1, 256), (0, 7992), (0, 7), (0, 8)], [], [(0, .inr (0, 99)), (1, .inl (ae_s 0)), (2, .inl (ae_s 1)), (3, .inl (ae_s 2)), (4, .inl (ae_s 3)), (5, .inl (ae_s 4)), (6, .inl (ae_s 5)), (7, .inl (ae_s 6))], [.inl (ae_s 6), .inl (ae_s 4), .inl (ae_s 5)], [], [], mMU)] = true := by decide +kernel
theorem yr_i2_0 : hp_chk gV0 1000 85 288 (127, [(0, 99999), ((-2), 3), (0, 255), (0, 7992), (1, 256), (0, 7992), (0, 7), (0, 999), (0, 3), (0, 72)], [], [((117, ([(6, 3)], 0)), ae_s 7), ((117, ([(6, 3)], 2)), ae_s 8), ((130, ae_s 8), ae_s 9)], [(0, .inr (0, 99)), (1, .inl (ae_s 0)), (2, .inl (ae_s 1)), (3, .inl (ae_s 2)), (4, .inl (ae_s 3)), (5, .inl (ae_s 4)), (6, .inl (ae_s 5)), (7, .inl (ae_s 6))], [.inl (ae_k 0), .inl (ae_s 5)]) [] [(161, [(0, 99999), ((-2), 3), (0, 255), (0, 7992), (1, 256), (0, 7992), (0, 7), (0, 999), (0, 3), (0, 72)], [], [(0, .inr (0, 99)), (1, .inl (ae_s 0)), (2, .inl (ae_s 1)), (3, .inl (ae_s 2)), (4, .inl (ae_s 3)), (5, .inl (ae_s 4)), (6, .inl (ae_s 5)), (7, .inl (ae_s 6))], [.inl (ae_s 6), .inl (ae_s 4), .inl (ae_s 9), .inl (ae_s 8), .inr (0, 130)], [], [], mMU)] = true := by decide +kernel
theorem yr_i3_0 : lp_chk (aG00 []) 85 288 (164, [(0, 99999), ((-2), 3), (0, 255), (0, 7992), (1, 256), (0, 7992), (0, 7), (0, 9), (0, 3), (0, 72)], [], [((117, ([(6, 3)], 1)), ae_s 7)], [(0, .inr (0, 99)), (1, .inl (ae_s 0)), (2, .inl (ae_s 1)), (3, .inl (ae_s 2)), (4, .inl (ae_s 3)), (5, .inl (ae_s 4)), (6, .inl (ae_s 5)), (7, .inl (ae_s 6))], [.inl (ae_k 0), .inl (ae_s 9), .inl (ae_s 8), .inr (0, 130)]) 106 [(0, .inr (0, 99)), (1, .inl (ae_s 0)), (2, .inl (ae_s 1)), (3, .inl (ae_s 2)), (4, .inl (ae_s 3)), (5, .inl (ae_s 4)), (6, .inl (ae_s 5)), (7, .inl (([(6, 1)], 1)))] [] [(130, some (ae_s 8, ae_s 9))] = true := by decide +kernel
theorem yr_i2_1 : hp_chk gV0 1000 85 288 (127, [(0, 99999), ((-2), 3), (0, 255), (0, 7992), (1, 256), (0, 7992), (0, 7), (0, 999), (0, 3), (0, 72)], [], [((117, ([(6, 3)], 0)), ae_s 7), ((117, ([(6, 3)], 2)), ae_s 8), ((130, ae_s 8), ae_s 9)], [(0, .inr (0, 99)), (1, .inl (ae_s 0)), (2, .inl (ae_s 1)), (3, .inl (ae_s 2)), (4, .inl (ae_s 3)), (5, .inl (ae_s 4)), (6, .inl (ae_s 5)), (7, .inl (ae_s 6))], [.inl (ae_k 1), .inl (ae_s 5)]) [] [(161, [(0, 99999), ((-2), 3), (0, 255), (0, 7992), (1, 256), (0, 7992), (0, 7), (0, 999), (0, 3), (0, 72)], [], [(0, .inr (0, 99)), (1, .inl (ae_s 0)), (2, .inl (ae_s 1)), (3, .inl (ae_s 2)), (4, .inl (ae_s 3)), (5, .inl (ae_s 4)), (6, .inl (([(5, 1), (7, 1)], 0))), (7, .inl (ae_s 6))], [.inl (ae_s 6), .inl (ae_s 4), .inl (ae_s 9), .inl (ae_s 8), .inr (0, 130)], [], [], mMU)] = true := by decide +kernel
theorem yr_i3_1 : lp_chk (aG00 []) 85 288 (164, [(0, 99999), ((-2), 3), (0, 255), (0, 7992), (1, 256), (0, 7992), (0, 7), (0, 9), (0, 3), (0, 72)], [], [((117, ([(6, 3)], 1)), ae_s 7)], [(0, .inr (0, 99)), (1, .inl (ae_s 0)), (2, .inl (ae_s 1)), (3, .inl (ae_s 2)), (4, .inl (ae_s 3)), (5, .inl (ae_s 4)), (6, .inl (ae_s 5)), (7, .inl (ae_s 6))], [.inl (ae_k 1), .inl (ae_s 9), .inl (ae_s 8), .inr (0, 130)]) 106 [(0, .inr (0, 99)), (1, .inl (ae_s 0)), (2, .inl (ae_s 1)), (3, .inl (ae_s 2)), (4, .inl (ae_s 3)), (5, .inl (ae_s 4)), (6, .inl (ae_s 5)), (7, .inl (([(6, 1)], 1)))] [] [(130, some (ae_s 8, ([(7, 1), (9, 1)], 0)))] = true := by decide +kernel
theorem yr_x1 : hp_chk gV0 1000 85 288 (106, [(0, 99999), ((-2), 3), (0, 255), (0, 7992), (1, 256), (0, 7992), (0, 8)], [([(0, 1), (5, (-1))], 1)], [((100, ae_k 9), ae_s 6)], [(0, .inr (0, 99)), (1, .inl (ae_s 0)), (2, .inl (ae_s 1)), (3, .inl (ae_s 2)), (4, .inl (ae_s 3)), (5, .inl (ae_s 4)), (6, .inl (ae_s 5)), (7, .inl (ae_s 6))], []) [] [(63, [(0, 99999), ((-2), 3), (0, 255), (0, 7992), (1, 256), (0, 7992), (0, 8)], [], [(0, .inr (0, 99)), (1, .inl (ae_s 0)), (2, .inl (ae_s 1)), (3, .inl (ae_s 2)), (4, .inl (ae_s 3)), (5, .inl (([(4, 1)], 1)))], [], [], [], mMU)] = true := by decide +kernel
theorem yr_x2 : hp_chk gV0 1000 85 288 (106, [(0, 99999), ((-2), 3), (0, 255), (0, 7992), (1, 256), (0, 7992), (0, 8)], [([(0, (-1)), (5, 1)], 0)], [((100, ae_k 9), ae_s 6)], [(0, .inr (0, 99)), (1, .inl (ae_s 0)), (2, .inl (ae_s 1)), (3, .inl (ae_s 2)), (4, .inl (ae_s 3)), (5, .inl (ae_s 4)), (6, .inl (ae_s 5)), (7, .inl (ae_s 6))], []) [] [(195, [(0, 99999), ((-2), 3), (0, 255), (0, 7992), (1, 256), (0, 7992), (0, 8)], [], [(0, .inr (0, 99)), (1, .inl (ae_s 0)), (2, .inl (ae_s 1)), (3, .inl (ae_s 2)), (4, .inl (ae_s 3)), (5, .inl (ae_s 4)), (6, .inl (ae_s 5))], [.inl (ae_s 3), .inl (ae_s 5), .inr (0, 99)], [], [], mMU)] = true := by decide +kernel
theorem yr_c0 : hp_chk gV0 1000 85 288 (198, [(0, 99999), ((-2), 3), (0, 255), (0, 7992), (1, 256), (0, 7992)], [], [], [(0, .inr (0, 99)), (1, .inl (ae_s 0)), (2, .inl (ae_s 1)), (3, .inl (ae_s 2)), (4, .inl (ae_s 3)), (5, .inl (ae_s 4)), (6, .inl (ae_s 5))], [.inl (ae_k 0)]) [] [(63, [(0, 99999), ((-2), 3), (0, 255), (0, 7992), (1, 256), (0, 7992)], [], [(0, .inr (0, 99)), (1, .inl (ae_s 0)), (2, .inl (ae_s 1)), (3, .inl (ae_s 2)), (4, .inl (ae_s 3)), (5, .inl (([(4, 1)], 1)))], [], [], [], mMU)] = true := by decide +kernel
theorem yr_c1 : hp_chk gV0 1000 85 288 (198, [(0, 99999), ((-2), 3), (0, 255), (0, 7992), (1, 256), (0, 7992)], [], [], [(0, .inr (0, 99)), (1, .inl (ae_s 0)), (2, .inl (ae_s 1)), (3, .inl (ae_s 2)), (4, .inl (ae_s 3)), (5, .inl (ae_s 4)), (6, .inl (ae_s 5))], [.inl (ae_k 1)]) [] [(211, [(0, 99999), ((-2), 3), (0, 255), (0, 7992), (1, 256), (0, 7992)], [], [(0, .inr (0, 99)), (1, .inl (ae_s 0)), (2, .inl (ae_s 1)), (3, .inl (ae_s 4)), (4, .inl (ae_s 5)), (5, .inl (ae_s 4)), (7, .inl (ae_k 0))], [], [], [], mMU)] = true := by decide +kernel
theorem yr_k1 : lp_chk (aG00 []) 85 288 (211, [(0, 99999), ((-2), 3), (1, 256), (0, 7992), (0, 3), (0, 72)], [], [((130, ae_s 4), ae_s 5)], [(0, .inr (0, 99)), (1, .inl (ae_s 0)), (2, .inl (ae_s 1)), (3, .inl (ae_s 2)), (4, .inl (ae_s 3)), (5, .inl (ae_s 2)), (7, .inl (ae_s 4))], []) 211 [(0, .inr (0, 99)), (1, .inl (ae_s 0)), (2, .inl (ae_s 1)), (3, .inl (ae_s 2)), (4, .inl (ae_s 3)), (5, .inl (ae_s 2)), (7, .inl (([(4, 1)], 1)))] [] [(131, some (ae_s 4, ae_s 5))] = true := by decide +kernel
theorem yr_k2 : hp_chk gV0 1000 85 288 (211, [(0, 99999), ((-2), 3), (1, 256), (0, 7992)], [], [], [(0, .inr (0, 99)), (1, .inl (ae_s 0)), (2, .inl (ae_s 1)), (3, .inl (ae_s 2)), (4, .inl (ae_s 3)), (5, .inl (ae_s 2)), (7, .inl (ae_k 4))], []) [] [(63, [(0, 99999), ((-2), 3), (1, 256), (0, 7992)], [], [(0, .inr (0, 99)), (1, .inl (ae_s 0)), (2, .inl (ae_s 1)), (3, .inl (ae_s 2)), (4, .inl (ae_s 3)), (5, .inl (([(2, 1)], 1)))], [], [], [], mMU)] = true := by decide +kernel
theorem yr_e1 : hp_chk gV0 1000 85 288 (243, [(0, 99999), (0, 255), (0, 7992), (1, 256)], [], [], [(0, .inr (0, 99)), (1, .inl (ae_s 0)), (2, .inl (ae_k (-1))), (3, .inl (ae_s 1)), (4, .inl (ae_s 2)), (5, .inl (ae_s 3))], []) [] [(269, [(0, 99999), (0, 255), (0, 7992), (1, 256)], [], [], [.inl (ae_s 1)], [], [], mMU)] = true := by decide +kernel
theorem yr_e2 : hp_chk gV0 1000 85 288 (243, [(0, 99999), (0, 255), (0, 7992), (1, 256)], [], [], [(0, .inr (0, 99)), (1, .inl (ae_s 0)), (2, .inl (ae_k (-2))), (3, .inl (ae_s 1)), (4, .inl (ae_s 2)), (5, .inl (ae_s 3))], []) [] [(269, [(0, 99999), (0, 255), (0, 7992), (1, 256)], [], [], [.inl (ae_s 2)], [], [], mMU)] = true := by decide +kernel
theorem yr_e3 : hp_chk gV0 1000 85 288 (243, [(0, 99999), (0, 3), (0, 255), (0, 7992), (1, 256), (0, 72)], [], [((131, ae_s 1), ae_s 5)], [(0, .inr (0, 99)), (1, .inl (ae_s 0)), (2, .inl (ae_s 1)), (3, .inl (ae_s 2)), (4, .inl (ae_s 3)), (5, .inl (ae_s 4))], []) [] [(269, [(0, 99999), (0, 3), (0, 255), (0, 7992), (1, 256), (0, 72)], [], [], [.inl (ae_s 5)], [], [], mMU)] = true := by decide +kernel
end
section YR
variable {E : mj_E} {Q : Option Value → va_W → Prop} {al : List Nat} {ws w w0 w1 : va_W}
theorem jL_117 : ∀ k, k < 24 → (jLay 117 k).isSome = true := by decide +kernel
theorem jL_130 : ∀ k, k < 10 → (jLay 130 k).isSome = true := by decide +kernel
theorem jL_131 : ∀ k, k < 10 → (jLay 131 k).isSome = true := by decide +kernel
theorem sl130 (h : aWd E al aLay w) {k : Nat} (hk : k < 10) : aSl w 130 k (jS w 130 k) := jLay_sl h (jL_130 k hk)
theorem sl131 (h : aWd E al aLay w) {k : Nat} (hk : k < 10) : aSl w 131 k (jS w 131 k) := jLay_sl h (jL_131 k hk)
theorem ib_mj (hf : E.2.2.2.1.category = 1) (hT : ∀ σ : List Int, aTb E σ aTabs) (a5 : aWd E al aLay w) (a6 : aRs aRules w) (a7 : jJ0 w) {c cb : Int} (hc : 0 ≤ c ∧ c ≤ 7992) (hcb : 0 ≤ cb ∧ cb ≤ 7992)
    (ha : ∀ k, k < 4 → 0 ≤ jS w 130 k ∧ jS w 130 k ≤ 72) (hb : ∀ k, k < 4 → 0 ≤ jS w 131 k ∧ jS w 131 k ≤ 72) (h0 : ∀ k, 4 ≤ k → k < 10 → jS w 130 k = 0 ∧ jS w 131 k = 0) {AS : List Value} (hA : gL E al [] (.inr (0, 99) :: [ae_k c, ae_k cb].map .inl) AS) :
    MJ E 80 0 0 (mj_in0 273 AS w) (fun v w2 => ∃ z : Int32, v = some (.int z) ∧ ((z.toInt = 1 ∧ ib_p (jS w 130) (jS w 131) c cb) ∨ (z.toInt = 0 ∧ ¬ ib_p (jS w 130) (jS w 131) c cb)) ∧ w2 = w) := by
  have a0 := ha 0 (by decide)
  have b0 := hb 0 (by decide)
  have s0 := sl130 a5 (k := 0) (by decide)
  have t0 := sl131 a5 (k := 0) (by decide)
  have a1 := ha 1 (by decide)
  have b1 := hb 1 (by decide)
  have s1 := sl130 a5 (k := 1) (by decide)
  have t1 := sl131 a5 (k := 1) (by decide)
  have a2 := ha 2 (by decide)
  have b2 := hb 2 (by decide)
  have s2 := sl130 a5 (k := 2) (by decide)
  have t2 := sl131 a5 (k := 2) (by decide)
  have a3 := ha 3 (by decide)
  have b3 := hb 3 (by decide)
  have s3 := sl130 a5 (k := 3) (by decide)
  have t3 := sl131 a5 (k := 3) (by decide)
  have s4 := sl130 a5 (k := 4) (by decide)
  have t4 := sl131 a5 (k := 4) (by decide)
  rw [(h0 4 (by decide) (by decide)).1] at s4
  rw [(h0 4 (by decide) (by decide)).2] at t4
  have s5 := sl130 a5 (k := 5) (by decide)
  have t5 := sl131 a5 (k := 5) (by decide)
  rw [(h0 5 (by decide) (by decide)).1] at s5
  rw [(h0 5 (by decide) (by decide)).2] at t5
  have s6 := sl130 a5 (k := 6) (by decide)
  have t6 := sl131 a5 (k := 6) (by decide)
  rw [(h0 6 (by decide) (by decide)).1] at s6
  rw [(h0 6 (by decide) (by decide)).2] at t6
  have s7 := sl130 a5 (k := 7) (by decide)
  have t7 := sl131 a5 (k := 7) (by decide)
  rw [(h0 7 (by decide) (by decide)).1] at s7
  rw [(h0 7 (by decide) (by decide)).2] at t7
  have s8 := sl130 a5 (k := 8) (by decide)
  have t8 := sl131 a5 (k := 8) (by decide)
  rw [(h0 8 (by decide) (by decide)).1] at s8
  rw [(h0 8 (by decide) (by decide)).2] at t8
  have s9 := sl130 a5 (k := 9) (by decide)
  have t9 := sl131 a5 (k := 9) (by decide)
  rw [(h0 9 (by decide) (by decide)).1] at s9
  rw [(h0 9 (by decide) (by decide)).2] at t9
  by_cases g0 : jS w 131 0 < jS w 130 0
  · refine (lg_god hf hT a5 a6 a7 (t := ib_g0) (ρ := [c, cb, jS w 130 0, jS w 131 0]) (self := 99) (es := [ae_s 0, ae_s 1]) (xs := [ae_k c, ae_k cb]) (by decide) ib_g0_k ⟨hc, hcb, a0, b0, trivial⟩ (by rfl) (fun f hf => ?_) (aHh.cons (kn1 (by decide) rfl (ev_s rfl) s0) (aHh.cons (kn1 (by decide) rfl (ev_s rfl) t0) aHh.nil)) rfl (by simp only [List.map_cons, List.map_nil, ae_ev_k, ev_s (ρ := [c, cb, jS w 130 0, jS w 131 0]) (k := 0) (x := c) rfl, ev_s (ρ := [c, cb, jS w 130 0, jS w 131 0]) (k := 1) (x := cb) rfl]) (by rfl) hA).weaken (Nat.le_refl _) (Nat.le_refl _) (Nat.le_refl _) (fun v w2 h => ?_)
    · simp only [ib_g0, List.mem_cons, List.not_mem_nil, or_false] at hf
      subst hf
      simp only [ae_ev, ae_el, List.getD_cons_zero, List.getD_cons_succ]
      omega
    · obtain ⟨z, e1, e2, -, -, -, e6, e7, -⟩ := h
      exact ⟨z, e1, Or.inl ⟨e2.trans ae_ev_k, by unfold ib_p; omega⟩, hD.eq ⟨e7, fun c hc => e6 c (fun q hq => by cases hq)⟩⟩
  by_cases l0 : jS w 130 0 < jS w 131 0
  · refine (lg_god hf hT a5 a6 a7 (t := ib_l0) (ρ := [c, cb, jS w 130 0, jS w 131 0]) (self := 99) (es := [ae_s 0, ae_s 1]) (xs := [ae_k c, ae_k cb]) (by decide) ib_l0_k ⟨hc, hcb, a0, b0, trivial⟩ (by rfl) (fun f hf => ?_) (aHh.cons (kn1 (by decide) rfl (ev_s rfl) s0) (aHh.cons (kn1 (by decide) rfl (ev_s rfl) t0) aHh.nil)) rfl (by simp only [List.map_cons, List.map_nil, ae_ev_k, ev_s (ρ := [c, cb, jS w 130 0, jS w 131 0]) (k := 0) (x := c) rfl, ev_s (ρ := [c, cb, jS w 130 0, jS w 131 0]) (k := 1) (x := cb) rfl]) (by rfl) hA).weaken (Nat.le_refl _) (Nat.le_refl _) (Nat.le_refl _) (fun v w2 h => ?_)
    · simp only [ib_l0, List.mem_cons, List.not_mem_nil, or_false] at hf
      subst hf
      simp only [ae_ev, ae_el, List.getD_cons_zero, List.getD_cons_succ]
      omega
    · obtain ⟨z, e1, e2, -, -, -, e6, e7, -⟩ := h
      exact ⟨z, e1, Or.inr ⟨e2.trans ae_ev_k, by unfold ib_p; omega⟩, hD.eq ⟨e7, fun c hc => e6 c (fun q hq => by cases hq)⟩⟩
  have e0 : jS w 131 0 = jS w 130 0 := by omega
  by_cases g1 : jS w 131 1 < jS w 130 1
  · refine (lg_god hf hT a5 a6 a7 (t := ib_g1) (ρ := [c, cb, jS w 130 0, jS w 130 1, jS w 131 1]) (self := 99) (es := [ae_s 0, ae_s 1]) (xs := [ae_k c, ae_k cb]) (by decide) ib_g1_k ⟨hc, hcb, a0, a1, b1, trivial⟩ (by rfl) (fun f hf => ?_) (aHh.cons (kn1 (by decide) rfl (ev_s rfl) s0) (aHh.cons (kn1 (by decide) rfl (ev_s rfl) (e0 ▸ t0)) (aHh.cons (kn1 (by decide) rfl (ev_s rfl) s1) (aHh.cons (kn1 (by decide) rfl (ev_s rfl) t1) aHh.nil)))) rfl (by simp only [List.map_cons, List.map_nil, ae_ev_k, ev_s (ρ := [c, cb, jS w 130 0, jS w 130 1, jS w 131 1]) (k := 0) (x := c) rfl, ev_s (ρ := [c, cb, jS w 130 0, jS w 130 1, jS w 131 1]) (k := 1) (x := cb) rfl]) (by rfl) hA).weaken (Nat.le_refl _) (Nat.le_refl _) (Nat.le_refl _) (fun v w2 h => ?_)
    · simp only [ib_g1, List.mem_cons, List.not_mem_nil, or_false] at hf
      subst hf
      simp only [ae_ev, ae_el, List.getD_cons_zero, List.getD_cons_succ]
      omega
    · obtain ⟨z, e1, e2, -, -, -, e6, e7, -⟩ := h
      exact ⟨z, e1, Or.inl ⟨e2.trans ae_ev_k, by unfold ib_p; omega⟩, hD.eq ⟨e7, fun c hc => e6 c (fun q hq => by cases hq)⟩⟩
  by_cases l1 : jS w 130 1 < jS w 131 1
  · refine (lg_god hf hT a5 a6 a7 (t := ib_l1) (ρ := [c, cb, jS w 130 0, jS w 130 1, jS w 131 1]) (self := 99) (es := [ae_s 0, ae_s 1]) (xs := [ae_k c, ae_k cb]) (by decide) ib_l1_k ⟨hc, hcb, a0, a1, b1, trivial⟩ (by rfl) (fun f hf => ?_) (aHh.cons (kn1 (by decide) rfl (ev_s rfl) s0) (aHh.cons (kn1 (by decide) rfl (ev_s rfl) (e0 ▸ t0)) (aHh.cons (kn1 (by decide) rfl (ev_s rfl) s1) (aHh.cons (kn1 (by decide) rfl (ev_s rfl) t1) aHh.nil)))) rfl (by simp only [List.map_cons, List.map_nil, ae_ev_k, ev_s (ρ := [c, cb, jS w 130 0, jS w 130 1, jS w 131 1]) (k := 0) (x := c) rfl, ev_s (ρ := [c, cb, jS w 130 0, jS w 130 1, jS w 131 1]) (k := 1) (x := cb) rfl]) (by rfl) hA).weaken (Nat.le_refl _) (Nat.le_refl _) (Nat.le_refl _) (fun v w2 h => ?_)
    · simp only [ib_l1, List.mem_cons, List.not_mem_nil, or_false] at hf
      subst hf
      simp only [ae_ev, ae_el, List.getD_cons_zero, List.getD_cons_succ]
      omega
    · obtain ⟨z, e1, e2, -, -, -, e6, e7, -⟩ := h
      exact ⟨z, e1, Or.inr ⟨e2.trans ae_ev_k, by unfold ib_p; omega⟩, hD.eq ⟨e7, fun c hc => e6 c (fun q hq => by cases hq)⟩⟩
  have e1 : jS w 131 1 = jS w 130 1 := by omega
  by_cases g2 : jS w 131 2 < jS w 130 2
  · refine (lg_god hf hT a5 a6 a7 (t := ib_g2) (ρ := [c, cb, jS w 130 0, jS w 130 1, jS w 130 2, jS w 131 2]) (self := 99) (es := [ae_s 0, ae_s 1]) (xs := [ae_k c, ae_k cb]) (by decide) ib_g2_k ⟨hc, hcb, a0, a1, a2, b2, trivial⟩ (by rfl) (fun f hf => ?_) (aHh.cons (kn1 (by decide) rfl (ev_s rfl) s0) (aHh.cons (kn1 (by decide) rfl (ev_s rfl) (e0 ▸ t0)) (aHh.cons (kn1 (by decide) rfl (ev_s rfl) s1) (aHh.cons (kn1 (by decide) rfl (ev_s rfl) (e1 ▸ t1)) (aHh.cons (kn1 (by decide) rfl (ev_s rfl) s2) (aHh.cons (kn1 (by decide) rfl (ev_s rfl) t2) aHh.nil)))))) rfl (by simp only [List.map_cons, List.map_nil, ae_ev_k, ev_s (ρ := [c, cb, jS w 130 0, jS w 130 1, jS w 130 2, jS w 131 2]) (k := 0) (x := c) rfl, ev_s (ρ := [c, cb, jS w 130 0, jS w 130 1, jS w 130 2, jS w 131 2]) (k := 1) (x := cb) rfl]) (by rfl) hA).weaken (Nat.le_refl _) (Nat.le_refl _) (Nat.le_refl _) (fun v w2 h => ?_)
    · simp only [ib_g2, List.mem_cons, List.not_mem_nil, or_false] at hf
      subst hf
      simp only [ae_ev, ae_el, List.getD_cons_zero, List.getD_cons_succ]
      omega
    · obtain ⟨z, e1, e2, -, -, -, e6, e7, -⟩ := h
      exact ⟨z, e1, Or.inl ⟨e2.trans ae_ev_k, by unfold ib_p; omega⟩, hD.eq ⟨e7, fun c hc => e6 c (fun q hq => by cases hq)⟩⟩
  by_cases l2 : jS w 130 2 < jS w 131 2
  · refine (lg_god hf hT a5 a6 a7 (t := ib_l2) (ρ := [c, cb, jS w 130 0, jS w 130 1, jS w 130 2, jS w 131 2]) (self := 99) (es := [ae_s 0, ae_s 1]) (xs := [ae_k c, ae_k cb]) (by decide) ib_l2_k ⟨hc, hcb, a0, a1, a2, b2, trivial⟩ (by rfl) (fun f hf => ?_) (aHh.cons (kn1 (by decide) rfl (ev_s rfl) s0) (aHh.cons (kn1 (by decide) rfl (ev_s rfl) (e0 ▸ t0)) (aHh.cons (kn1 (by decide) rfl (ev_s rfl) s1) (aHh.cons (kn1 (by decide) rfl (ev_s rfl) (e1 ▸ t1)) (aHh.cons (kn1 (by decide) rfl (ev_s rfl) s2) (aHh.cons (kn1 (by decide) rfl (ev_s rfl) t2) aHh.nil)))))) rfl (by simp only [List.map_cons, List.map_nil, ae_ev_k, ev_s (ρ := [c, cb, jS w 130 0, jS w 130 1, jS w 130 2, jS w 131 2]) (k := 0) (x := c) rfl, ev_s (ρ := [c, cb, jS w 130 0, jS w 130 1, jS w 130 2, jS w 131 2]) (k := 1) (x := cb) rfl]) (by rfl) hA).weaken (Nat.le_refl _) (Nat.le_refl _) (Nat.le_refl _) (fun v w2 h => ?_)
    · simp only [ib_l2, List.mem_cons, List.not_mem_nil, or_false] at hf
      subst hf
      simp only [ae_ev, ae_el, List.getD_cons_zero, List.getD_cons_succ]
      omega
    · obtain ⟨z, e1, e2, -, -, -, e6, e7, -⟩ := h
      exact ⟨z, e1, Or.inr ⟨e2.trans ae_ev_k, by unfold ib_p; omega⟩, hD.eq ⟨e7, fun c hc => e6 c (fun q hq => by cases hq)⟩⟩
  have e2 : jS w 131 2 = jS w 130 2 := by omega
  by_cases g3 : jS w 131 3 < jS w 130 3
  · refine (lg_god hf hT a5 a6 a7 (t := ib_g3) (ρ := [c, cb, jS w 130 0, jS w 130 1, jS w 130 2, jS w 130 3, jS w 131 3]) (self := 99) (es := [ae_s 0, ae_s 1]) (xs := [ae_k c, ae_k cb]) (by decide) ib_g3_k ⟨hc, hcb, a0, a1, a2, a3, b3, trivial⟩ (by rfl) (fun f hf => ?_) (aHh.cons (kn1 (by decide) rfl (ev_s rfl) s0) (aHh.cons (kn1 (by decide) rfl (ev_s rfl) (e0 ▸ t0)) (aHh.cons (kn1 (by decide) rfl (ev_s rfl) s1) (aHh.cons (kn1 (by decide) rfl (ev_s rfl) (e1 ▸ t1)) (aHh.cons (kn1 (by decide) rfl (ev_s rfl) s2) (aHh.cons (kn1 (by decide) rfl (ev_s rfl) (e2 ▸ t2)) (aHh.cons (kn1 (by decide) rfl (ev_s rfl) s3) (aHh.cons (kn1 (by decide) rfl (ev_s rfl) t3) aHh.nil)))))))) rfl (by simp only [List.map_cons, List.map_nil, ae_ev_k, ev_s (ρ := [c, cb, jS w 130 0, jS w 130 1, jS w 130 2, jS w 130 3, jS w 131 3]) (k := 0) (x := c) rfl, ev_s (ρ := [c, cb, jS w 130 0, jS w 130 1, jS w 130 2, jS w 130 3, jS w 131 3]) (k := 1) (x := cb) rfl]) (by rfl) hA).weaken (Nat.le_refl _) (Nat.le_refl _) (Nat.le_refl _) (fun v w2 h => ?_)
    · simp only [ib_g3, List.mem_cons, List.not_mem_nil, or_false] at hf
      subst hf
      simp only [ae_ev, ae_el, List.getD_cons_zero, List.getD_cons_succ]
      omega
    · obtain ⟨z, e1, e2, -, -, -, e6, e7, -⟩ := h
      exact ⟨z, e1, Or.inl ⟨e2.trans ae_ev_k, by unfold ib_p; omega⟩, hD.eq ⟨e7, fun c hc => e6 c (fun q hq => by cases hq)⟩⟩
  by_cases l3 : jS w 130 3 < jS w 131 3
  · refine (lg_god hf hT a5 a6 a7 (t := ib_l3) (ρ := [c, cb, jS w 130 0, jS w 130 1, jS w 130 2, jS w 130 3, jS w 131 3]) (self := 99) (es := [ae_s 0, ae_s 1]) (xs := [ae_k c, ae_k cb]) (by decide) ib_l3_k ⟨hc, hcb, a0, a1, a2, a3, b3, trivial⟩ (by rfl) (fun f hf => ?_) (aHh.cons (kn1 (by decide) rfl (ev_s rfl) s0) (aHh.cons (kn1 (by decide) rfl (ev_s rfl) (e0 ▸ t0)) (aHh.cons (kn1 (by decide) rfl (ev_s rfl) s1) (aHh.cons (kn1 (by decide) rfl (ev_s rfl) (e1 ▸ t1)) (aHh.cons (kn1 (by decide) rfl (ev_s rfl) s2) (aHh.cons (kn1 (by decide) rfl (ev_s rfl) (e2 ▸ t2)) (aHh.cons (kn1 (by decide) rfl (ev_s rfl) s3) (aHh.cons (kn1 (by decide) rfl (ev_s rfl) t3) aHh.nil)))))))) rfl (by simp only [List.map_cons, List.map_nil, ae_ev_k, ev_s (ρ := [c, cb, jS w 130 0, jS w 130 1, jS w 130 2, jS w 130 3, jS w 131 3]) (k := 0) (x := c) rfl, ev_s (ρ := [c, cb, jS w 130 0, jS w 130 1, jS w 130 2, jS w 130 3, jS w 131 3]) (k := 1) (x := cb) rfl]) (by rfl) hA).weaken (Nat.le_refl _) (Nat.le_refl _) (Nat.le_refl _) (fun v w2 h => ?_)
    · simp only [ib_l3, List.mem_cons, List.not_mem_nil, or_false] at hf
      subst hf
      simp only [ae_ev, ae_el, List.getD_cons_zero, List.getD_cons_succ]
      omega
    · obtain ⟨z, e1, e2, -, -, -, e6, e7, -⟩ := h
      exact ⟨z, e1, Or.inr ⟨e2.trans ae_ev_k, by unfold ib_p; omega⟩, hD.eq ⟨e7, fun c hc => e6 c (fun q hq => by cases hq)⟩⟩
  have e3 : jS w 131 3 = jS w 130 3 := by omega
  by_cases g4 : c < cb
  · refine (lg_god hf hT a5 a6 a7 (t := ib_g4) (ρ := [c, cb, jS w 130 0, jS w 130 1, jS w 130 2, jS w 130 3]) (self := 99) (es := [ae_s 0, ae_s 1]) (xs := [ae_k c, ae_k cb]) (by decide) ib_g4_k ⟨hc, hcb, a0, a1, a2, a3, trivial⟩ (by rfl) (fun f hf => ?_) (aHh.cons (kn1 (by decide) rfl (ev_s rfl) s0) (aHh.cons (kn1 (by decide) rfl (ev_s rfl) (e0 ▸ t0)) (aHh.cons (kn1 (by decide) rfl (ev_s rfl) s1) (aHh.cons (kn1 (by decide) rfl (ev_s rfl) (e1 ▸ t1)) (aHh.cons (kn1 (by decide) rfl (ev_s rfl) s2) (aHh.cons (kn1 (by decide) rfl (ev_s rfl) (e2 ▸ t2)) (aHh.cons (kn1 (by decide) rfl (ev_s rfl) s3) (aHh.cons (kn1 (by decide) rfl (ev_s rfl) (e3 ▸ t3)) (aHh.cons (kn1 (by decide) rfl ae_ev_k s4) (aHh.cons (kn1 (by decide) rfl ae_ev_k t4) (aHh.cons (kn1 (by decide) rfl ae_ev_k s5) (aHh.cons (kn1 (by decide) rfl ae_ev_k t5) (aHh.cons (kn1 (by decide) rfl ae_ev_k s6) (aHh.cons (kn1 (by decide) rfl ae_ev_k t6) (aHh.cons (kn1 (by decide) rfl ae_ev_k s7) (aHh.cons (kn1 (by decide) rfl ae_ev_k t7) (aHh.cons (kn1 (by decide) rfl ae_ev_k s8) (aHh.cons (kn1 (by decide) rfl ae_ev_k t8) (aHh.cons (kn1 (by decide) rfl ae_ev_k s9) (aHh.cons (kn1 (by decide) rfl ae_ev_k t9) aHh.nil)))))))))))))))))))) rfl (by simp only [List.map_cons, List.map_nil, ae_ev_k, ev_s (ρ := [c, cb, jS w 130 0, jS w 130 1, jS w 130 2, jS w 130 3]) (k := 0) (x := c) rfl, ev_s (ρ := [c, cb, jS w 130 0, jS w 130 1, jS w 130 2, jS w 130 3]) (k := 1) (x := cb) rfl]) (by rfl) hA).weaken (Nat.le_refl _) (Nat.le_refl _) (Nat.le_refl _) (fun v w2 h => ?_)
    · simp only [ib_g4, List.mem_cons, List.not_mem_nil, or_false] at hf
      subst hf
      simp only [ae_ev, ae_el, List.getD_cons_zero, List.getD_cons_succ]
      omega
    · obtain ⟨z, e1, e2, -, -, -, e6, e7, -⟩ := h
      exact ⟨z, e1, Or.inl ⟨e2.trans ae_ev_k, by unfold ib_p; omega⟩, hD.eq ⟨e7, fun c hc => e6 c (fun q hq => by cases hq)⟩⟩
  · refine (lg_god hf hT a5 a6 a7 (t := ib_l4) (ρ := [c, cb, jS w 130 0, jS w 130 1, jS w 130 2, jS w 130 3]) (self := 99) (es := [ae_s 0, ae_s 1]) (xs := [ae_k c, ae_k cb]) (by decide) ib_l4_k ⟨hc, hcb, a0, a1, a2, a3, trivial⟩ (by rfl) (fun f hf => ?_) (aHh.cons (kn1 (by decide) rfl (ev_s rfl) s0) (aHh.cons (kn1 (by decide) rfl (ev_s rfl) (e0 ▸ t0)) (aHh.cons (kn1 (by decide) rfl (ev_s rfl) s1) (aHh.cons (kn1 (by decide) rfl (ev_s rfl) (e1 ▸ t1)) (aHh.cons (kn1 (by decide) rfl (ev_s rfl) s2) (aHh.cons (kn1 (by decide) rfl (ev_s rfl) (e2 ▸ t2)) (aHh.cons (kn1 (by decide) rfl (ev_s rfl) s3) (aHh.cons (kn1 (by decide) rfl (ev_s rfl) (e3 ▸ t3)) (aHh.cons (kn1 (by decide) rfl ae_ev_k s4) (aHh.cons (kn1 (by decide) rfl ae_ev_k t4) (aHh.cons (kn1 (by decide) rfl ae_ev_k s5) (aHh.cons (kn1 (by decide) rfl ae_ev_k t5) (aHh.cons (kn1 (by decide) rfl ae_ev_k s6) (aHh.cons (kn1 (by decide) rfl ae_ev_k t6) (aHh.cons (kn1 (by decide) rfl ae_ev_k s7) (aHh.cons (kn1 (by decide) rfl ae_ev_k t7) (aHh.cons (kn1 (by decide) rfl ae_ev_k s8) (aHh.cons (kn1 (by decide) rfl ae_ev_k t8) (aHh.cons (kn1 (by decide) rfl ae_ev_k s9) (aHh.cons (kn1 (by decide) rfl ae_ev_k t9) aHh.nil)))))))))))))))))))) rfl (by simp only [List.map_cons, List.map_nil, ae_ev_k, ev_s (ρ := [c, cb, jS w 130 0, jS w 130 1, jS w 130 2, jS w 130 3]) (k := 0) (x := c) rfl, ev_s (ρ := [c, cb, jS w 130 0, jS w 130 1, jS w 130 2, jS w 130 3]) (k := 1) (x := cb) rfl]) (by rfl) hA).weaken (Nat.le_refl _) (Nat.le_refl _) (Nat.le_refl _) (fun v w2 h => ?_)
    · simp only [ib_l4, List.mem_cons, List.not_mem_nil, or_false] at hf
      subst hf
      simp only [ae_ev, ae_el, List.getD_cons_zero, List.getD_cons_succ]
      omega
    · obtain ⟨z, e1, e2, -, -, -, e6, e7, -⟩ := h
      exact ⟨z, e1, Or.inr ⟨e2.trans ae_ev_k, by unfold ib_p; omega⟩, hD.eq ⟨e7, fun c hc => e6 c (fun q hq => by cases hq)⟩⟩
end YR
