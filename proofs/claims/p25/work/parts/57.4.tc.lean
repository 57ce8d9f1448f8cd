/-! THE TEXTS, the component: tokens -/
section
set_option maxRecDepth 100000
theorem kc_l0 : lp_chk (aG00 []) 20 86 (0, [(0, 250), (0, 250)], [], [((75, ae_k 1), ae_s 0), ((75, ae_k 5), ae_s 1)], [(0, .inr (0, 75))], []) 25 [(0, .inr (0, 75)), (1, .inl (ae_s 0))] [] [(75, some (ae_k 4, ae_s 1))] = true := by decide +kernel
theorem kc_l1 : lp_chk (aG00 []) 20 86 (25, [(0, 250), (0, 249)], [([(0, (-1)), (1, 1)], 1)], [((75, ae_k 4), ae_s 1), ((76, ae_s 1), ae_k 32)], [(0, .inr (0, 75)), (1, .inl (ae_s 0))], []) 25 [(0, .inr (0, 75)), (1, .inl (ae_s 0))] [] [(75, some (ae_k 4, ([(1, 1)], 1)))] = true := by decide +kernel
theorem kc_l2 : hp_chk gV0 1000 20 86 (25, [(0, 250)], [], [((75, ae_k 4), ae_s 0)], [(0, .inr (0, 75)), (1, .inl (ae_s 0))], []) [] [(60, [(0, 250)], [], [(0, .inr (0, 75)), (1, .inl (ae_s 0))], [], [], [], mMU)] = true := by decide +kernel
theorem kc_l3 : hp_chk gV0 1000 20 86 (25, [(0, 250), (0, 249), (aI0, 31)], [([(0, (-1)), (1, 1)], 1)], [((75, ae_k 4), ae_s 1), ((76, ae_s 1), ae_s 2)], [(0, .inr (0, 75)), (1, .inl (ae_s 0))], []) [] [(60, [(0, 250), (0, 249), (aI0, 31)], [], [(0, .inr (0, 75)), (1, .inl (ae_s 0))], [], [], [], mMU)] = true := by decide +kernel
theorem kc_l4 : hp_chk gV0 1000 20 86 (25, [(0, 250), (0, 249), (33, aI1)], [([(0, (-1)), (1, 1)], 1)], [((75, ae_k 4), ae_s 1), ((76, ae_s 1), ae_s 2)], [(0, .inr (0, 75)), (1, .inl (ae_s 0))], []) [] [(60, [(0, 250), (0, 249), (33, aI1)], [], [(0, .inr (0, 75)), (1, .inl (ae_s 0))], [], [], [], mMU)] = true := by decide +kernel
theorem kc_l5 : lp_chk (aG00 []) 20 86 (60, [(0, 250)], [], [((75, ae_k 4), ae_s 0)], [(0, .inr (0, 75)), (1, .inl (ae_s 0))], []) 76 [] [] [(75, some (ae_k 5, ae_s 0))] = true := by decide +kernel
theorem kc_l6a : lp_chk (aG00 []) 20 86 (60, [(0, 250), (0, 249), (aI0, 47)], [([(0, (-1)), (1, 1)], 1)], [((75, ae_k 4), ae_s 1), ((76, ae_s 1), ae_s 2)], [(0, .inr (0, 75)), (1, .inl (ae_s 0))], []) 143 [] [] [(75, some (ae_k 5, ([(1, 1)], 1))), (75, some (ae_k 5, ae_s 1))] = true := by decide +kernel
theorem kc_l6b : lp_chk (aG00 []) 20 86 (60, [(0, 250), (0, 249), (58, 96)], [([(0, (-1)), (1, 1)], 1)], [((75, ae_k 4), ae_s 1), ((76, ae_s 1), ae_s 2)], [(0, .inr (0, 75)), (1, .inl (ae_s 0))], []) 143 [] [] [(75, some (ae_k 5, ([(1, 1)], 1))), (75, some (ae_k 5, ae_s 1))] = true := by decide +kernel
theorem kc_l6c : lp_chk (aG00 []) 20 86 (60, [(0, 250), (0, 249), (123, aI1)], [([(0, (-1)), (1, 1)], 1)], [((75, ae_k 4), ae_s 1), ((76, ae_s 1), ae_s 2)], [(0, .inr (0, 75)), (1, .inl (ae_s 0))], []) 143 [] [] [(75, some (ae_k 5, ([(1, 1)], 1))), (75, some (ae_k 5, ae_s 1))] = true := by decide +kernel
theorem kc_l7w : lp_chk (aG00 []) 20 86 (60, [(0, 250), (0, 249), (97, 122)], [([(0, (-1)), (1, 1)], 1)], [((75, ae_k 4), ae_s 1), ((76, ae_s 1), ae_s 2)], [(0, .inr (0, 75)), (1, .inl (ae_s 0))], []) 170 [(0, .inr (0, 75)), (1, .inl (ae_s 0)), (5, .inl (ae_k 97)), (6, .inl (ae_k 122))] [] [(75, some (ae_k 5, ([(1, 1)], 1))), (75, some (ae_k 5, ae_s 1))] = true := by decide +kernel
theorem kc_l8w : lp_chk (aG00 []) 20 86 (170, [(0, 250), (0, 249), (97, 122)], [([(0, (-1)), (1, 1)], 1)], [((75, ae_k 5), ae_s 1), ((76, ae_s 1), ae_s 2)], [(0, .inr (0, 75)), (1, .inl (ae_s 0)), (5, .inl (ae_k 97)), (6, .inl (ae_k 122))], []) 170 [(0, .inr (0, 75)), (1, .inl (ae_s 0)), (5, .inl (ae_k 97)), (6, .inl (ae_k 122))] [] [(75, some (ae_k 5, ([(1, 1)], 1)))] = true := by decide +kernel
theorem kc_l9w : hp_chk gV0 1000 20 86 (170, [(0, 250)], [], [((75, ae_k 5), ae_s 0)], [(0, .inr (0, 75)), (1, .inl (ae_s 0)), (5, .inl (ae_k 97)), (6, .inl (ae_k 122))], []) [] [(219, [(0, 250)], [], [], [], [], [], mMU)] = true := by decide +kernel
theorem kc_lAw : hp_chk gV0 1000 20 86 (170, [(0, 250), (0, 249), (aI0, 96)], [([(0, (-1)), (1, 1)], 1)], [((75, ae_k 5), ae_s 1), ((76, ae_s 1), ae_s 2)], [(0, .inr (0, 75)), (1, .inl (ae_s 0)), (5, .inl (ae_k 97)), (6, .inl (ae_k 122))], []) [] [(219, [(0, 250), (0, 249), (aI0, 96)], [], [], [], [], [], mMU)] = true := by decide +kernel
theorem kc_lBw : hp_chk gV0 1000 20 86 (170, [(0, 250), (0, 249), (123, aI1)], [([(0, (-1)), (1, 1)], 1)], [((75, ae_k 5), ae_s 1), ((76, ae_s 1), ae_s 2)], [(0, .inr (0, 75)), (1, .inl (ae_s 0)), (5, .inl (ae_k 97)), (6, .inl (ae_k 122))], []) [] [(219, [(0, 250), (0, 249), (123, aI1)], [], [], [], [], [], mMU)] = true := by decide +kernel
theorem kc_l7d : lp_chk (aG00 []) 20 86 (60, [(0, 250), (0, 249), (48, 57)], [([(0, (-1)), (1, 1)], 1)], [((75, ae_k 4), ae_s 1), ((76, ae_s 1), ae_s 2)], [(0, .inr (0, 75)), (1, .inl (ae_s 0))], []) 170 [(0, .inr (0, 75)), (1, .inl (ae_s 0)), (5, .inl (ae_k 48)), (6, .inl (ae_k 57))] [] [(75, some (ae_k 5, ([(1, 1)], 1))), (75, some (ae_k 5, ae_s 1))] = true := by decide +kernel
theorem kc_l8d : lp_chk (aG00 []) 20 86 (170, [(0, 250), (0, 249), (48, 57)], [([(0, (-1)), (1, 1)], 1)], [((75, ae_k 5), ae_s 1), ((76, ae_s 1), ae_s 2)], [(0, .inr (0, 75)), (1, .inl (ae_s 0)), (5, .inl (ae_k 48)), (6, .inl (ae_k 57))], []) 170 [(0, .inr (0, 75)), (1, .inl (ae_s 0)), (5, .inl (ae_k 48)), (6, .inl (ae_k 57))] [] [(75, some (ae_k 5, ([(1, 1)], 1)))] = true := by decide +kernel
theorem kc_l9d : hp_chk gV0 1000 20 86 (170, [(0, 250)], [], [((75, ae_k 5), ae_s 0)], [(0, .inr (0, 75)), (1, .inl (ae_s 0)), (5, .inl (ae_k 48)), (6, .inl (ae_k 57))], []) [] [(219, [(0, 250)], [], [], [], [], [], mMU)] = true := by decide +kernel
theorem kc_lAd : hp_chk gV0 1000 20 86 (170, [(0, 250), (0, 249), (aI0, 47)], [([(0, (-1)), (1, 1)], 1)], [((75, ae_k 5), ae_s 1), ((76, ae_s 1), ae_s 2)], [(0, .inr (0, 75)), (1, .inl (ae_s 0)), (5, .inl (ae_k 48)), (6, .inl (ae_k 57))], []) [] [(219, [(0, 250), (0, 249), (aI0, 47)], [], [], [], [], [], mMU)] = true := by decide +kernel
theorem kc_lBd : hp_chk gV0 1000 20 86 (170, [(0, 250), (0, 249), (58, aI1)], [([(0, (-1)), (1, 1)], 1)], [((75, ae_k 5), ae_s 1), ((76, ae_s 1), ae_s 2)], [(0, .inr (0, 75)), (1, .inl (ae_s 0)), (5, .inl (ae_k 48)), (6, .inl (ae_k 57))], []) [] [(219, [(0, 250), (0, 249), (58, aI1)], [], [], [], [], [], mMU)] = true := by decide +kernel
theorem kc_n0 : hp_chk gV0 1000 21 92 (0, [(0, 250)], [], [((75, ae_k 4), ae_s 0), ((75, ae_k 5), ae_s 0)], [(0, .inr (0, 75))], []) [] [(44, [(0, 250)], [], [], [.inl (ae_k (-1))], [], [], mMU)] = true := by decide +kernel
theorem kc_n1 : hp_chk gV0 1000 21 92 (0, [(0, 250), (0, 250), (0, 999)], [([(0, 1), (1, (-1))], 4)], [((75, ae_k 4), ae_s 0), ((75, ae_k 5), ae_s 1)], [(0, .inr (0, 75)), (1, .inl (ae_s 2))], []) [] [(44, [(0, 250), (0, 250), (0, 999)], [], [], [.inl (ae_k (-1))], [], [], mMU)] = true := by decide +kernel
theorem kc_n2 : hp_chk gV0 1000 21 92 (0, [(0, 250), (0, 250), (0, 999)], [([(0, 1), (1, (-1))], 1), ([(0, (-1)), (1, 1)], (-3))], [((75, ae_k 4), ae_s 0), ((75, ae_k 5), ae_s 1)], [(0, .inr (0, 75)), (1, .inl (ae_s 2))], []) [] [(52, [(0, 250), (0, 250), (0, 999)], [], [(0, .inr (0, 75)), (1, .inl (ae_s 2)), (2, .inl (ae_k 0)), (3, .inl (ae_s 0))], [], [], [], mMU)] = true := by decide +kernel
theorem kc_n3 : hp_chk gV0 1000 21 92 (52, [(0, 249), (0, 250), (0, 999), (0, 99), (48, 57)], [([(0, 1), (1, (-1))], 1)], [((75, ae_k 5), ae_s 1), ((76, ae_s 0), ae_s 4)], [(0, .inr (0, 75)), (1, .inl (ae_s 2)), (2, .inl (ae_s 3)), (3, .inl (ae_s 0))], []) [] [(52, [(0, 249), (0, 250), (0, 999), (0, 99), (48, 57)], [], [(0, .inr (0, 75)), (1, .inl (ae_s 2)), (2, .inl (([(3, 10), (4, 1)], (-48)))), (3, .inl (([(0, 1)], 1)))], [], [], [], mMU)] = true := by decide +kernel
theorem kc_n4 : hp_chk gV0 1000 21 92 (52, [(0, 249), (0, 250), (0, 999), (0, 99), (aI0, 47)], [([(0, 1), (1, (-1))], 1)], [((75, ae_k 5), ae_s 1), ((76, ae_s 0), ae_s 4)], [(0, .inr (0, 75)), (1, .inl (ae_s 2)), (2, .inl (ae_s 3)), (3, .inl (ae_s 0))], []) [] [(83, [(0, 249), (0, 250), (0, 999), (0, 99), (aI0, 47)], [], [], [.inl (ae_k (-1))], [], [], mMU)] = true := by decide +kernel
theorem kc_n5 : hp_chk gV0 1000 21 92 (52, [(0, 249), (0, 250), (0, 999), (0, 99), (58, aI1)], [([(0, 1), (1, (-1))], 1)], [((75, ae_k 5), ae_s 1), ((76, ae_s 0), ae_s 4)], [(0, .inr (0, 75)), (1, .inl (ae_s 2)), (2, .inl (ae_s 3)), (3, .inl (ae_s 0))], []) [] [(83, [(0, 249), (0, 250), (0, 999), (0, 99), (58, aI1)], [], [], [.inl (ae_k (-1))], [], [], mMU)] = true := by decide +kernel
theorem kc_n6 : hp_chk gV0 1000 21 92 (52, [(0, 250), (0, 999), (0, 999)], [([(1, (-1)), (2, 1)], 0)], [((75, ae_k 5), ae_s 0)], [(0, .inr (0, 75)), (1, .inl (ae_s 1)), (2, .inl (ae_s 2)), (3, .inl (ae_s 0))], []) [] [(113, [(0, 250), (0, 999), (0, 999)], [], [(2, .inl (ae_s 2))], [.inr (0, 75)], [], [], mMU)] = true := by decide +kernel
theorem kc_n7 : hp_chk gV0 1000 21 92 (52, [(0, 250), (0, 999), (0, 999)], [([(1, 1), (2, (-1))], 1)], [((75, ae_k 5), ae_s 0)], [(0, .inr (0, 75)), (1, .inl (ae_s 1)), (2, .inl (ae_s 2)), (3, .inl (ae_s 0))], []) [] [(111, [(0, 250), (0, 999), (0, 999)], [], [], [.inl (ae_k (-1))], [], [], mMU)] = true := by decide +kernel
theorem kc_n8 : hp_chk gV0 1000 21 92 (116, [(0, 999)], [], [], [(2, .inl (ae_s 0))], []) [] [(117, [(0, 999)], [], [], [.inl (ae_s 0)], [], [], mMU)] = true := by decide +kernel
theorem kc_i0 : ∀ i, i < 24 → hp_chk gV0 1000 20 91 (0, [(0, 250)], [([(0, 1)], (mj_txl i : Int) - 250)], [((75, ae_k 4), ae_s 0), ((75, ae_k 5), ([(0, 1)], (mj_txl i : Int)))], [(0, .inr (0, 75)), (1, .inr (1, i))], []) [] [(39, [(0, 250)], [], [(0, .inr (0, 75)), (1, .inr (1, i)), (2, .inl (ae_k 0))], [], [], [], mMU)] = true := by decide +kernel
theorem kc_i1 : ∀ i, i < 24 → hp_chk gV0 1000 20 91 (0, [(0, 250), (0, 250)], [([(0, (-1)), (1, 1)], 1 - (mj_txl i : Int))], [((75, ae_k 4), ae_s 0), ((75, ae_k 5), ae_s 1)], [(0, .inr (0, 75)), (1, .inr (1, i))], []) [] [(36, [(0, 250), (0, 250)], [], [], [.inl (ae_k 0)], [], [], mMU)] = true := by decide +kernel
theorem kc_i2 : ∀ i, i < 24 → hp_chk gV0 1000 20 91 (0, [(0, 250), (0, 250)], [([(0, 1), (1, (-1))], 1 + (mj_txl i : Int))], [((75, ae_k 4), ae_s 0), ((75, ae_k 5), ae_s 1)], [(0, .inr (0, 75)), (1, .inr (1, i))], []) [] [(36, [(0, 250), (0, 250)], [], [], [.inl (ae_k 0)], [], [], mMU)] = true := by decide +kernel
theorem kc_i3 : ∀ i, i < 24 → hp_chk gV0 1000 20 91 (39, [(0, 250), (0, 25), aF], [([(0, 1)], (mj_txl i : Int) - 250), ([(1, 1)], 1 - (mj_txl i : Int))], [((75, ae_k 4), ae_s 0), ((76, ([(0, 1), (1, 1)], 0)), ae_s 2)], [(0, .inr (0, 75)), (1, .inr (1, i)), (2, .inl (ae_s 1))], []) [] [(60, [(0, 250), (0, 25), aF], [], [(0, .inr (0, 75)), (1, .inr (1, i)), (2, .inl (ae_s 1))], [.inl (ae_s 1), .inr (1, i), .inl (ae_s 2)], [], [], mMU)] = true := by decide +kernel
theorem kc_i4 : ∀ i, i < 24 → hp_chk gV0 1000 20 91 (63, [(0, 25), aF], [], [], [(0, .inr (0, 75)), (1, .inr (1, i)), (2, .inl (ae_s 0))], [.inl (ae_s 1), .inl (ae_s 1)]) [] [(39, [(0, 25), aF], [], [(0, .inr (0, 75)), (1, .inr (1, i)), (2, .inl ([(0, 1)], 1))], [], [], [], mMU)] = true := by decide +kernel
theorem kc_i5 : hp_chk gV0 1000 20 91 (63, [aF, aF], [([(0, (-1)), (1, 1)], 1)], [], [], [.inl (ae_s 0), .inl (ae_s 1)]) [] [(67, [aF, aF], [], [], [.inl (ae_k 0)], [], [], mMU)] = true := by decide +kernel
theorem kc_i6 : hp_chk gV0 1000 20 91 (63, [aF, aF], [([(0, 1), (1, (-1))], 1)], [], [], [.inl (ae_s 0), .inl (ae_s 1)]) [] [(67, [aF, aF], [], [], [.inl (ae_k 0)], [], [], mMU)] = true := by decide +kernel
theorem kc_i7 : ∀ i, i < 24 → hp_chk gV0 1000 20 91 (39, [], [], [], [(0, .inr (0, 75)), (1, .inr (1, i)), (2, .inl (ae_k (mj_txl i : Int)))], []) [] [(75, [], [], [], [.inl (ae_k 1)], [], [], mMU)] = true := by decide +kernel
theorem kc_h0 : ∀ i, i < 24 → hp_chk gV0 1000 19 8 (0, [(0, 25)], [], [], [(0, .inr (1, i)), (1, .inl (ae_s 0))], []) [] [(12, [(0, 25)], [], [], [.inl (ae_s 0), .inr (2, i)], [], [], mMU)] = true := by decide +kernel
theorem kc_h1 : ∀ i, i < 24 → hp_chk gV0 1000 18 10 (0, [(0, 25)], [([(0, 1)], 1 - (mj_txl i : Int))], [], [(0, .inr (2, i)), (1, .inl (ae_s 0))], []) [] [(8, [(0, 25)], [], [], [.inl (ae_s 0), .inr (2, i)], [], [], mMU)] = true := by decide +kernel
theorem kc_p0 : ∀ i, i < 24 → hp_chk gV0 1000 21 90 (0, [], [], [], [(0, .inr (0, 75)), (1, .inr (1, i))], []) [] [(2, [], [], [(0, .inr (0, 75)), (1, .inr (1, i))], [.inr (1, i), .inr (0, 75)], [], [], mMU)] = true := by decide +kernel
theorem kc_p1 : hp_chk gV0 1000 21 90 (5, [], [], [], [], [.inl (ae_k 0)]) [] [(9, [], [], [], [.inl (ae_k 0)], [], [], mMU)] = true := by decide +kernel
theorem kc_p2 : hp_chk gV0 1000 21 90 (5, [], [], [], [(0, .inr (0, 75))], [.inl (ae_k 1)]) [] [(11, [], [], [], [.inr (0, 75)], [], [], mMU)] = true := by decide +kernel
theorem kc_p3 : hp_chk gV0 1000 21 90 (14, [], [], [], [], []) [] [(15, [], [], [], [.inl (ae_k 1)], [], [], mMU)] = true := by decide +kernel
theorem kc_h2 : ∀ i, i < 24 → ∀ k, k < mj_txl i → (((mj_txb i).getD k 0 &&& (Int16.ofInt 255).toInt32).toUInt32 % 65536).toInt32 = (mj_txb i).getD k 0 := by decide +kernel
theorem kc_h3 : ∀ i, i < 24 → ∀ k, k < mj_txl i → narrow .char (.int ((mj_txb i).getD k 0)) = .int ((mj_txb i).getD k 0) := by decide +kernel
theorem kc_h4 : ∀ i, i < 24 → ∀ k, k < mj_txl i → 1 ≤ i → ((mj_txb i).getD k 0).toInt = (wW i).getD k 0 := by decide +kernel
theorem kc_h5 : ∀ i, i < 24 → mj_txl i ≤ 26 ∧ (1 ≤ i → mj_txl i = (wW i).length) := by decide +kernel
theorem kc_dA : decode (mj_b 10) 8 = .ok (.baload, 1) := by decide +kernel
theorem kc_dB : decode (mj_b 10) 9 = .ok (.sipush 255, 3) := by decide +kernel
theorem kc_dC : decode (mj_b 10) 12 = .ok (.iand, 1) := by decide +kernel
theorem kc_dD : decode (mj_b 10) 13 = .ok (.i2c, 1) := by decide +kernel
theorem kc_dE : decode (mj_b 10) 14 = .ok (.ireturn, 1) := by decide +kernel
theorem kc_dF : mj_rx 10 = some .char := by decide +kernel
theorem kc_j1 : (jLay 75 1).isSome = true := by decide +kernel
theorem kc_j4 : (jLay 75 4).isSome = true := by decide +kernel
theorem kc_j5 : (jLay 75 5).isSome = true := by decide +kernel
theorem kc_j76 : ∀ k, k < 250 → (jLay 76 k).isSome = true := by decide +kernel
end
section RT
variable {E : mj_E} {Q : Option Value → va_W → Prop} {al : List Nat} {w w0 w1 w2 : va_W} {T : Nat → Int} {n : Nat}
/-- what the reader may change -/
def kv (E : mj_E) (al : List Nat) (w0 w : va_W) : Prop := aWd E al aLay w ∧ aRs aRules w ∧ jJ0 w ∧ hD [75, 77, 78, 79, 80] w0 w
/-- the tape -/
def kT (w0 : va_W) (T : Nat → Int) (n : Nat) : Prop := n ≤ 250 ∧ (∀ i, i < n → jS w0 76 i = T i) ∧ ∀ i, aI0 ≤ T i ∧ T i ≤ aI1
/-- the token that is looked at, the lines so far -/
def kS (w : va_W) (T : Nat → Int) (n s : Nat) (ls : tLs) : Prop := s ≤ n ∧ jS w 75 1 = (n : Int) ∧ jS w 75 4 = (s : Int) ∧ jS w 75 5 = (tE T n s : Int) ∧ ls.length ≤ 9 ∧ jS w 77 3 = (ls.length : Int) ∧ ∀ i, i < ls.length → jS w 78 (4 * i) = (ls.getD i (0, 0)).1 ∧ jS w 78 (4 * i + 1) = (ls.getD i (0, 0)).2
theorem kT.sl (H : kT w0 T n) (h : kv E al w0 w) {k : Nat} (hk : k < n) : aSl w 76 k (T k) := by
  rw [← H.2.1 k hk, ← jS.at (h.2.2.2.2 76 (by decide))]
  exact jLay_sl h.1 (kc_j76 k (by have := H.1; omega))
theorem ksl {c i : Nat} (a5 : aWd E al aLay w) (hi : (jLay c i).isSome = true) {x : Int} (hx : jS w c i = x) : aSl w c i x := by
  rw [← hx]
  exact jLay_sl a5 hi
theorem kv.log (h : kv E al w0 w) {md : List Nat} (b1 : aWd E al aLay w2) (b2 : aRs aRules w2) (b3 : jJ0 w2) (b4 : hD md w w2) (hm : ∀ c ∈ md, c ∈ [75, 77, 78, 79, 80]) : kv E al w0 w2 := ⟨b1, b2, b3, h.2.2.2.trans (b4.more hm)⟩
/-- a new token -/
theorem kS.tok {s : Nat} {ls : tLs} (h : kS w T n s ls) (hd : hD [75] w w2) {s2 : Nat} (h0 : s2 ≤ n) (h1 : jS w2 75 1 = (n : Int)) (h4 : jS w2 75 4 = (s2 : Int)) (h5 : jS w2 75 5 = (tE T n s2 : Int)) : kS w2 T n s2 ls := by
  obtain ⟨g0, g1, g2, g3, g4, g5, g6⟩ := h
  exact ⟨h0, h1, h4, h5, g4, (jS.at (hd.2 77 (by decide))).trans g5, fun i hi => ⟨(jS.at (hd.2 78 (by decide))).trans (g6 i hi).1, (jS.at (hd.2 78 (by decide))).trans (g6 i hi).2⟩⟩
/-- steps alone are written -/
theorem kS.stp {s : Nat} {ls : tLs} (h : kS w T n s ls) (hd : hD [79, 80] w w2) : kS w2 T n s ls := by
  obtain ⟨g0, g1, g2, g3, g4, g5, g6⟩ := h
  have e : ∀ k, jS w2 75 k = jS w 75 k := fun k => jS.at (hd.2 75 (by decide))
  exact ⟨g0, (e 1).trans g1, (e 4).trans g2, (e 5).trans g3, g4, (jS.at (hd.2 77 (by decide))).trans g5, fun i hi => ⟨(jS.at (hd.2 78 (by decide))).trans (g6 i hi).1, (jS.at (hd.2 78 (by decide))).trans (g6 i hi).2⟩⟩
/-- lookOn: blanks -/
theorem kl_sk (hf : E.2.2.2.1.category = 1) (hT : ∀ σ : List Int, aTb E σ aTabs) (H : kT w0 T n) : ∀ (m q : Nat) (w : va_W), n - q ≤ m → q ≤ n → kv E al w0 w → hD [75] w1 w → jS w 75 1 = (n : Int) → jS w 75 4 = (q : Int) →
    (∀ w2, kv E al w0 w2 → hD [75] w1 w2 → jS w2 75 1 = (n : Int) → jS w2 75 4 = ((tS T n q : Nat) : Int) → hG E al 20 86 60 [(0, .inr (0, 75)), (1, .inl (ae_k (n : Int)))] [] [] w2 Q) → hG E al 20 86 25 [(0, .inr (0, 75)), (1, .inl (ae_k (n : Int)))] [] [] w Q := by
  have bn := H.1
  intro m
  induction m with
  | zero =>
    intro q w hm hq hv hd h1 h4 hk
    have e : q = n := by omega
    subst e
    have s4 := ksl hv.1 kc_j4 h4
    have hk := hk w hv hd h1 (by rw [tS_eq, if_neg (by omega)]; exact h4)
    obtain ⟨a5, a6, a7, d⟩ := hv
    refine ky_go hf hT a5 (by decide) (ρ := [(q : Int)]) kc_l2 ⟨⟨by omega, by omega⟩, trivial⟩ aFs.nil (aHh.cons (kn1 (i := 4) (by decide) rfl (ev_s rfl) s4) aHh.nil) (by rfl) (by rfl) (lEr (lEi (ev_s rfl) lE0)) sE0 (lvk2 := [(0, .inr (0, 75)), (1, .inl (ae_k ((q : Int))))]) (lEr (lEi (ev_s rfl) lE0)) (stk2 := []) sE0 ?_
    exact hk
  | succ m ih =>
    intro q w hm hq hv hd h1 h4 hk
    have s4 := ksl hv.1 kc_j4 h4
    have hv0 := hv
    by_cases hqn : q < n
    · have sl := H.sl hv hqn
      have bt := H.2.2 q
      by_cases t0 : T q = 32
      · rw [t0] at sl
        obtain ⟨a5, a6, a7, d⟩ := hv
        refine ky_lg hf hT a5 a6 a7 (by decide) (ρ := [(n : Int), (q : Int)]) kc_l1 ⟨⟨by omega, by omega⟩, ⟨by omega, by omega⟩, trivial⟩ (aFs.cons rfl (by simp only [ae_ev, ae_el, ae_s, ae_k, List.getD_cons_zero, List.getD_cons_succ]; omega) aFs.nil) (aHh.cons (kn1 (i := 4) (by decide) rfl (ev_s rfl) s4) (aHh.cons (kns (by decide) rfl rfl (i := q) (ev_s rfl) ae_ev_k sl) aHh.nil)) (by rfl) (by rfl) (lEr (lEi (ev_s rfl) lE0)) sE0 (lvk2 := [(0, .inr (0, 75)), (1, .inl (ae_k ((n : Int))))]) (lEr (lEi (ev_s rfl) lE0)) (stk2 := []) sE0 (fun w2 b1 b2 b3 b4 b5 => ?_)
        have f : ∀ k, jS w2 75 k = if k = 4 then ((q + 1 : Nat) : Int) else jS w 75 k := fun k => by
          rw [b5 75 k]
          simp [lg_ap, ae_ev, ae_el, ae_s, ae_k]
        refine ih (q + 1) w2 (by omega) (by omega) (hv0.log b1 b2 b3 b4 (by decide)) (hd.trans b4) (by rw [f]; exact h1) (by rw [f]; rfl) ?_
        rw [tS_eq, if_pos ⟨hqn, t0⟩] at hk
        exact hk
      · have hk := hk w hv hd h1 (by rw [tS_eq, if_neg (fun q => t0 q.2)]; exact h4)
        obtain ⟨a5, a6, a7, d⟩ := hv
        by_cases t1 : T q < 32
        · refine ky_go hf hT a5 (by decide) (ρ := [(n : Int), (q : Int), (T q)]) kc_l3 ⟨⟨by omega, by omega⟩, ⟨by omega, by omega⟩, ⟨by omega, by omega⟩, trivial⟩ (aFs.cons rfl (by simp only [ae_ev, ae_el, ae_s, ae_k, List.getD_cons_zero, List.getD_cons_succ]; omega) aFs.nil) (aHh.cons (kn1 (i := 4) (by decide) rfl (ev_s rfl) s4) (aHh.cons (kns (by decide) rfl rfl (i := q) (ev_s rfl) (ev_s rfl) sl) aHh.nil)) (by rfl) (by rfl) (lEr (lEi (ev_s rfl) lE0)) sE0 (lvk2 := [(0, .inr (0, 75)), (1, .inl (ae_k ((n : Int))))]) (lEr (lEi (ev_s rfl) lE0)) (stk2 := []) sE0 ?_
          exact hk
        · refine ky_go hf hT a5 (by decide) (ρ := [(n : Int), (q : Int), (T q)]) kc_l4 ⟨⟨by omega, by omega⟩, ⟨by omega, by omega⟩, ⟨by omega, by omega⟩, trivial⟩ (aFs.cons rfl (by simp only [ae_ev, ae_el, ae_s, ae_k, List.getD_cons_zero, List.getD_cons_succ]; omega) aFs.nil) (aHh.cons (kn1 (i := 4) (by decide) rfl (ev_s rfl) s4) (aHh.cons (kns (by decide) rfl rfl (i := q) (ev_s rfl) (ev_s rfl) sl) aHh.nil)) (by rfl) (by rfl) (lEr (lEi (ev_s rfl) lE0)) sE0 (lvk2 := [(0, .inr (0, 75)), (1, .inl (ae_k ((n : Int))))]) (lEr (lEi (ev_s rfl) lE0)) (stk2 := []) sE0 ?_
          exact hk
    · have e : q = n := by omega
      subst e
      have hk := hk w hv hd h1 (by rw [tS_eq, if_neg (by omega)]; exact h4)
      obtain ⟨a5, a6, a7, d⟩ := hv
      refine ky_go hf hT a5 (by decide) (ρ := [(q : Int)]) kc_l2 ⟨⟨by omega, by omega⟩, trivial⟩ aFs.nil (aHh.cons (kn1 (i := 4) (by decide) rfl (ev_s rfl) s4) aHh.nil) (by rfl) (by rfl) (lEr (lEi (ev_s rfl) lE0)) sE0 (lvk2 := [(0, .inr (0, 75)), (1, .inl (ae_k ((q : Int))))]) (lEr (lEi (ev_s rfl) lE0)) (stk2 := []) sE0 ?_
      exact hk
/-- lookOn: letters -/
theorem kl_rw (hf : E.2.2.2.1.category = 1) (hT : ∀ σ : List Int, aTb E σ aTabs) (H : kT w0 T n) {s0 : Int} : ∀ (m e : Nat) (w : va_W), n - e ≤ m → e ≤ n → kv E al w0 w → hD [75] w1 w → jS w 75 1 = (n : Int) → jS w 75 4 = s0 → jS w 75 5 = (e : Int) →
    (∀ w2, kv E al w0 w2 → hD [75] w1 w2 → jS w2 75 1 = (n : Int) → jS w2 75 4 = s0 → jS w2 75 5 = ((tR T n 97 122 e : Nat) : Int) → Q none w2) → hG E al 20 86 170 [(0, .inr (0, 75)), (1, .inl (ae_k (n : Int))), (5, .inl (ae_k 97)), (6, .inl (ae_k 122))] [] [] w Q := by
  have bn := H.1
  have HV : hOk E al gV0 (fun _ => True) := hOkV hf hT (fun _ _ _ _ h => h)
  intro m
  induction m with
  | zero =>
    intro e w hm hq hv hd h1 h4 h5 hk
    have e0 : e = n := by omega
    subst e0
    have s5 := ksl hv.1 kc_j5 h5
    have hk := hk w hv hd h1 h4 (by rw [tR_eq, if_neg (by omega)]; exact h5)
    obtain ⟨a5, a6, a7, d⟩ := hv
    refine ky_go hf hT a5 (by decide) (ρ := [(e : Int)]) kc_l9w ⟨⟨by omega, by omega⟩, trivial⟩ aFs.nil (aHh.cons (kn1 (i := 5) (by decide) rfl (ev_s rfl) s5) aHh.nil) (by rfl) (by rfl) (lEr (lEi (ev_s rfl) (lEi ae_ev_k (lEi ae_ev_k lE0)))) sE0 (lvk2 := []) lE0 (stk2 := []) sE0 ?_
    exact hp_ret HV (by decide) (by decide +kernel) (by decide +kernel) hk
  | succ m ih =>
    intro e w hm hq hv hd h1 h4 h5 hk
    have s5 := ksl hv.1 kc_j5 h5
    have hv0 := hv
    by_cases hqn : e < n
    · have sl := H.sl hv hqn
      have bt := H.2.2 e
      by_cases t0 : 97 ≤ T e ∧ T e ≤ 122
      · obtain ⟨a5, a6, a7, d⟩ := hv
        refine ky_lg hf hT a5 a6 a7 (by decide) (ρ := [(n : Int), (e : Int), (T e)]) kc_l8w ⟨⟨by omega, by omega⟩, ⟨by omega, by omega⟩, ⟨by omega, by omega⟩, trivial⟩ (aFs.cons rfl (by simp only [ae_ev, ae_el, ae_s, ae_k, List.getD_cons_zero, List.getD_cons_succ]; omega) aFs.nil) (aHh.cons (kn1 (i := 5) (by decide) rfl (ev_s rfl) s5) (aHh.cons (kns (by decide) rfl rfl (i := e) (ev_s rfl) (ev_s rfl) sl) aHh.nil)) (by rfl) (by rfl) (lEr (lEi (ev_s rfl) (lEi ae_ev_k (lEi ae_ev_k lE0)))) sE0 (lvk2 := [(0, .inr (0, 75)), (1, .inl (ae_k ((n : Int)))), (5, .inl (ae_k (97))), (6, .inl (ae_k (122)))]) (lEr (lEi (ev_s rfl) (lEi ae_ev_k (lEi ae_ev_k lE0)))) (stk2 := []) sE0 (fun w2 b1 b2 b3 b4 b5 => ?_)
        have f : ∀ k, jS w2 75 k = if k = 5 then ((e + 1 : Nat) : Int) else jS w 75 k := fun k => by
          rw [b5 75 k]
          simp [lg_ap, ae_ev, ae_el, ae_s, ae_k]
        refine ih (e + 1) w2 (by omega) (by omega) (hv0.log b1 b2 b3 b4 (by decide)) (hd.trans b4) (by rw [f]; exact h1) (by rw [f]; exact h4) (by rw [f]; rfl) ?_
        rw [tR_eq, if_pos ⟨hqn, t0⟩] at hk
        exact hk
      · have hk := hk w hv hd h1 h4 (by rw [tR_eq, if_neg (fun q => t0 q.2)]; exact h5)
        obtain ⟨a5, a6, a7, d⟩ := hv
        by_cases t1 : T e < 97
        · refine ky_go hf hT a5 (by decide) (ρ := [(n : Int), (e : Int), (T e)]) kc_lAw ⟨⟨by omega, by omega⟩, ⟨by omega, by omega⟩, ⟨by omega, by omega⟩, trivial⟩ (aFs.cons rfl (by simp only [ae_ev, ae_el, ae_s, ae_k, List.getD_cons_zero, List.getD_cons_succ]; omega) aFs.nil) (aHh.cons (kn1 (i := 5) (by decide) rfl (ev_s rfl) s5) (aHh.cons (kns (by decide) rfl rfl (i := e) (ev_s rfl) (ev_s rfl) sl) aHh.nil)) (by rfl) (by rfl) (lEr (lEi (ev_s rfl) (lEi ae_ev_k (lEi ae_ev_k lE0)))) sE0 (lvk2 := []) lE0 (stk2 := []) sE0 ?_
          exact hp_ret HV (by decide) (by decide +kernel) (by decide +kernel) hk
        · refine ky_go hf hT a5 (by decide) (ρ := [(n : Int), (e : Int), (T e)]) kc_lBw ⟨⟨by omega, by omega⟩, ⟨by omega, by omega⟩, ⟨by omega, by omega⟩, trivial⟩ (aFs.cons rfl (by simp only [ae_ev, ae_el, ae_s, ae_k, List.getD_cons_zero, List.getD_cons_succ]; omega) aFs.nil) (aHh.cons (kn1 (i := 5) (by decide) rfl (ev_s rfl) s5) (aHh.cons (kns (by decide) rfl rfl (i := e) (ev_s rfl) (ev_s rfl) sl) aHh.nil)) (by rfl) (by rfl) (lEr (lEi (ev_s rfl) (lEi ae_ev_k (lEi ae_ev_k lE0)))) sE0 (lvk2 := []) lE0 (stk2 := []) sE0 ?_
          exact hp_ret HV (by decide) (by decide +kernel) (by decide +kernel) hk
    · have e0 : e = n := by omega
      subst e0
      have hk := hk w hv hd h1 h4 (by rw [tR_eq, if_neg (by omega)]; exact h5)
      obtain ⟨a5, a6, a7, d⟩ := hv
      refine ky_go hf hT a5 (by decide) (ρ := [(e : Int)]) kc_l9w ⟨⟨by omega, by omega⟩, trivial⟩ aFs.nil (aHh.cons (kn1 (i := 5) (by decide) rfl (ev_s rfl) s5) aHh.nil) (by rfl) (by rfl) (lEr (lEi (ev_s rfl) (lEi ae_ev_k (lEi ae_ev_k lE0)))) sE0 (lvk2 := []) lE0 (stk2 := []) sE0 ?_
      exact hp_ret HV (by decide) (by decide +kernel) (by decide +kernel) hk
/-- lookOn: digits -/
theorem kl_rd (hf : E.2.2.2.1.category = 1) (hT : ∀ σ : List Int, aTb E σ aTabs) (H : kT w0 T n) {s0 : Int} : ∀ (m e : Nat) (w : va_W), n - e ≤ m → e ≤ n → kv E al w0 w → hD [75] w1 w → jS w 75 1 = (n : Int) → jS w 75 4 = s0 → jS w 75 5 = (e : Int) →
    (∀ w2, kv E al w0 w2 → hD [75] w1 w2 → jS w2 75 1 = (n : Int) → jS w2 75 4 = s0 → jS w2 75 5 = ((tR T n 48 57 e : Nat) : Int) → Q none w2) → hG E al 20 86 170 [(0, .inr (0, 75)), (1, .inl (ae_k (n : Int))), (5, .inl (ae_k 48)), (6, .inl (ae_k 57))] [] [] w Q := by
  have bn := H.1
  have HV : hOk E al gV0 (fun _ => True) := hOkV hf hT (fun _ _ _ _ h => h)
  intro m
  induction m with
  | zero =>
    intro e w hm hq hv hd h1 h4 h5 hk
    have e0 : e = n := by omega
    subst e0
    have s5 := ksl hv.1 kc_j5 h5
    have hk := hk w hv hd h1 h4 (by rw [tR_eq, if_neg (by omega)]; exact h5)
    obtain ⟨a5, a6, a7, d⟩ := hv
    refine ky_go hf hT a5 (by decide) (ρ := [(e : Int)]) kc_l9d ⟨⟨by omega, by omega⟩, trivial⟩ aFs.nil (aHh.cons (kn1 (i := 5) (by decide) rfl (ev_s rfl) s5) aHh.nil) (by rfl) (by rfl) (lEr (lEi (ev_s rfl) (lEi ae_ev_k (lEi ae_ev_k lE0)))) sE0 (lvk2 := []) lE0 (stk2 := []) sE0 ?_
    exact hp_ret HV (by decide) (by decide +kernel) (by decide +kernel) hk
  | succ m ih =>
    intro e w hm hq hv hd h1 h4 h5 hk
    have s5 := ksl hv.1 kc_j5 h5
    have hv0 := hv
    by_cases hqn : e < n
    · have sl := H.sl hv hqn
      have bt := H.2.2 e
      by_cases t0 : 48 ≤ T e ∧ T e ≤ 57
      · obtain ⟨a5, a6, a7, d⟩ := hv
        refine ky_lg hf hT a5 a6 a7 (by decide) (ρ := [(n : Int), (e : Int), (T e)]) kc_l8d ⟨⟨by omega, by omega⟩, ⟨by omega, by omega⟩, ⟨by omega, by omega⟩, trivial⟩ (aFs.cons rfl (by simp only [ae_ev, ae_el, ae_s, ae_k, List.getD_cons_zero, List.getD_cons_succ]; omega) aFs.nil) (aHh.cons (kn1 (i := 5) (by decide) rfl (ev_s rfl) s5) (aHh.cons (kns (by decide) rfl rfl (i := e) (ev_s rfl) (ev_s rfl) sl) aHh.nil)) (by rfl) (by rfl) (lEr (lEi (ev_s rfl) (lEi ae_ev_k (lEi ae_ev_k lE0)))) sE0 (lvk2 := [(0, .inr (0, 75)), (1, .inl (ae_k ((n : Int)))), (5, .inl (ae_k (48))), (6, .inl (ae_k (57)))]) (lEr (lEi (ev_s rfl) (lEi ae_ev_k (lEi ae_ev_k lE0)))) (stk2 := []) sE0 (fun w2 b1 b2 b3 b4 b5 => ?_)
        have f : ∀ k, jS w2 75 k = if k = 5 then ((e + 1 : Nat) : Int) else jS w 75 k := fun k => by
          rw [b5 75 k]
          simp [lg_ap, ae_ev, ae_el, ae_s, ae_k]
        refine ih (e + 1) w2 (by omega) (by omega) (hv0.log b1 b2 b3 b4 (by decide)) (hd.trans b4) (by rw [f]; exact h1) (by rw [f]; exact h4) (by rw [f]; rfl) ?_
        rw [tR_eq, if_pos ⟨hqn, t0⟩] at hk
        exact hk
      · have hk := hk w hv hd h1 h4 (by rw [tR_eq, if_neg (fun q => t0 q.2)]; exact h5)
        obtain ⟨a5, a6, a7, d⟩ := hv
        by_cases t1 : T e < 48
        · refine ky_go hf hT a5 (by decide) (ρ := [(n : Int), (e : Int), (T e)]) kc_lAd ⟨⟨by omega, by omega⟩, ⟨by omega, by omega⟩, ⟨by omega, by omega⟩, trivial⟩ (aFs.cons rfl (by simp only [ae_ev, ae_el, ae_s, ae_k, List.getD_cons_zero, List.getD_cons_succ]; omega) aFs.nil) (aHh.cons (kn1 (i := 5) (by decide) rfl (ev_s rfl) s5) (aHh.cons (kns (by decide) rfl rfl (i := e) (ev_s rfl) (ev_s rfl) sl) aHh.nil)) (by rfl) (by rfl) (lEr (lEi (ev_s rfl) (lEi ae_ev_k (lEi ae_ev_k lE0)))) sE0 (lvk2 := []) lE0 (stk2 := []) sE0 ?_
          exact hp_ret HV (by decide) (by decide +kernel) (by decide +kernel) hk
        · refine ky_go hf hT a5 (by decide) (ρ := [(n : Int), (e : Int), (T e)]) kc_lBd ⟨⟨by omega, by omega⟩, ⟨by omega, by omega⟩, ⟨by omega, by omega⟩, trivial⟩ (aFs.cons rfl (by simp only [ae_ev, ae_el, ae_s, ae_k, List.getD_cons_zero, List.getD_cons_succ]; omega) aFs.nil) (aHh.cons (kn1 (i := 5) (by decide) rfl (ev_s rfl) s5) (aHh.cons (kns (by decide) rfl rfl (i := e) (ev_s rfl) (ev_s rfl) sl) aHh.nil)) (by rfl) (by rfl) (lEr (lEi (ev_s rfl) (lEi ae_ev_k (lEi ae_ev_k lE0)))) sE0 (lvk2 := []) lE0 (stk2 := []) sE0 ?_
          exact hp_ret HV (by decide) (by decide +kernel) (by decide +kernel) hk
    · have e0 : e = n := by omega
      subst e0
      have hk := hk w hv hd h1 h4 (by rw [tR_eq, if_neg (by omega)]; exact h5)
      obtain ⟨a5, a6, a7, d⟩ := hv
      refine ky_go hf hT a5 (by decide) (ρ := [(e : Int)]) kc_l9d ⟨⟨by omega, by omega⟩, trivial⟩ aFs.nil (aHh.cons (kn1 (i := 5) (by decide) rfl (ev_s rfl) s5) aHh.nil) (by rfl) (by rfl) (lEr (lEi (ev_s rfl) (lEi ae_ev_k (lEi ae_ev_k lE0)))) sE0 (lvk2 := []) lE0 (stk2 := []) sE0 ?_
      exact hp_ret HV (by decide) (by decide +kernel) (by decide +kernel) hk
/-- lookOn -/
theorem kl_mj (hf : E.2.2.2.1.category = 1) (hT : ∀ σ : List Int, aTb E σ aTabs) (H : kT w0 T n) (hv : kv E al w0 w) (h1 : jS w 75 1 = (n : Int)) {p : Nat} (hp : p ≤ n) (h5 : jS w 75 5 = (p : Int)) {AS : List Value} (hA : gL E al [] [.inr (0, 75)] AS) :
    MJ E 20 0 0 (mj_in0 86 AS w) (fun v w2 => v = none ∧ kv E al w0 w2 ∧ hD [75] w w2 ∧ jS w2 75 1 = (n : Int) ∧ jS w2 75 4 = ((tS T n p : Nat) : Int) ∧ jS w2 75 5 = ((tE T n (tS T n p) : Nat) : Int)) := by
  have bn := H.1
  have HV : hOk E al gV0 (fun _ => True) := hOkV hf hT (fun _ _ _ _ h => h)
  have s1 := ksl hv.1 kc_j1 h1
  have s5 := ksl hv.1 kc_j5 h5
  have hv0 := hv
  obtain ⟨a5, a6, a7, d⟩ := hv
  refine hG.in0 hf (d := 20) (as := [.inr (0, 75)]) ?_ hA
  show hG E al 20 86 0 [(0, .inr (0, 75))] [] [] w _
  refine ky_lg hf hT a5 a6 a7 (by decide) (ρ := [(n : Int), (p : Int)]) kc_l0 ⟨⟨by omega, by omega⟩, ⟨by omega, by omega⟩, trivial⟩ aFs.nil (aHh.cons (kn1 (i := 1) (by decide) rfl (ev_s rfl) s1) (aHh.cons (kn1 (i := 5) (by decide) rfl (ev_s rfl) s5) aHh.nil)) (by rfl) (by rfl) (lEr lE0) sE0 (lvk2 := [(0, .inr (0, 75)), (1, .inl (ae_k ((n : Int))))]) (lEr (lEi (ev_s rfl) lE0)) (stk2 := []) sE0 (fun w2 b1 b2 b3 b4 b5 => ?_)
  have f : ∀ k, jS w2 75 k = if k = 4 then (p : Int) else jS w 75 k := fun k => by
    rw [b5 75 k]
    simp [lg_ap, ae_ev, ae_el, ae_s, ae_k]
  refine kl_sk (w1 := w) hf hT H (n - p) p w2 (Nat.le_refl _) hp (hv0.log b1 b2 b3 b4 (by decide)) b4 (by rw [f]; exact h1) (by rw [f]; rfl) (fun w3 c1 c2 c3 c4 => ?_)
  obtain ⟨s, hs⟩ : ∃ s, tS T n p = s := ⟨_, rfl⟩
  have bs := tS_le (T := T) hp
  rw [hs] at c4 bs ⊢
  have c10 := c1
  have s4 := ksl c1.1 kc_j4 c4
  by_cases hsn : s < n
  · have sl := H.sl c1 hsn
    have bt := H.2.2 s
    obtain ⟨a5, a6, a7, d⟩ := c1
    by_cases tw : 97 ≤ T s ∧ T s ≤ 122
    · refine ky_lg hf hT a5 a6 a7 (by decide) (ρ := [(n : Int), (s : Int), (T s)]) kc_l7w ⟨⟨by omega, by omega⟩, ⟨by omega, by omega⟩, ⟨by omega, by omega⟩, trivial⟩ (aFs.cons rfl (by simp only [ae_ev, ae_el, ae_s, ae_k, List.getD_cons_zero, List.getD_cons_succ]; omega) aFs.nil) (aHh.cons (kn1 (i := 4) (by decide) rfl (ev_s rfl) s4) (aHh.cons (kns (by decide) rfl rfl (i := s) (ev_s rfl) (ev_s rfl) sl) aHh.nil)) (by rfl) (by rfl) (lEr (lEi (ev_s rfl) lE0)) sE0 (lvk2 := [(0, .inr (0, 75)), (1, .inl (ae_k ((n : Int)))), (5, .inl (ae_k (97))), (6, .inl (ae_k (122)))]) (lEr (lEi (ev_s rfl) (lEi ae_ev_k (lEi ae_ev_k lE0)))) (stk2 := []) sE0 (fun w2 b1 b2 b3 b4 b5 => ?_)
      have f : ∀ k, jS w2 75 k = if k = 5 then ((s + 1 : Nat) : Int) else jS w3 75 k := fun k => by
        rw [b5 75 k]
        by_cases hk : k = 5
        · subst hk
          simp [lg_ap, ae_ev, ae_el, ae_s, ae_k]
        · simp [lg_ap, ae_ev, ae_el, ae_s, ae_k, hk]
      refine kl_rw (w1 := w) (s0 := (s : Int)) hf hT H (n - (s + 1)) (s + 1) w2 (Nat.le_refl _) (by omega) (c10.log b1 b2 b3 b4 (by decide)) (c2.trans (b4.more (by decide))) (by rw [f]; exact c3) (by rw [f]; exact c4) (by rw [f]; rfl) (fun w4 g1 g2 g3 g4 g5 => ?_)
      exact ⟨rfl, g1, g2, g3, g4, by rw [tE_w hsn tw]; exact g5⟩
    by_cases td : 48 ≤ T s ∧ T s ≤ 57
    · refine ky_lg hf hT a5 a6 a7 (by decide) (ρ := [(n : Int), (s : Int), (T s)]) kc_l7d ⟨⟨by omega, by omega⟩, ⟨by omega, by omega⟩, ⟨by omega, by omega⟩, trivial⟩ (aFs.cons rfl (by simp only [ae_ev, ae_el, ae_s, ae_k, List.getD_cons_zero, List.getD_cons_succ]; omega) aFs.nil) (aHh.cons (kn1 (i := 4) (by decide) rfl (ev_s rfl) s4) (aHh.cons (kns (by decide) rfl rfl (i := s) (ev_s rfl) (ev_s rfl) sl) aHh.nil)) (by rfl) (by rfl) (lEr (lEi (ev_s rfl) lE0)) sE0 (lvk2 := [(0, .inr (0, 75)), (1, .inl (ae_k ((n : Int)))), (5, .inl (ae_k (48))), (6, .inl (ae_k (57)))]) (lEr (lEi (ev_s rfl) (lEi ae_ev_k (lEi ae_ev_k lE0)))) (stk2 := []) sE0 (fun w2 b1 b2 b3 b4 b5 => ?_)
      have f : ∀ k, jS w2 75 k = if k = 5 then ((s + 1 : Nat) : Int) else jS w3 75 k := fun k => by
        rw [b5 75 k]
        by_cases hk : k = 5
        · subst hk
          simp [lg_ap, ae_ev, ae_el, ae_s, ae_k]
        · simp [lg_ap, ae_ev, ae_el, ae_s, ae_k, hk]
      refine kl_rd (w1 := w) (s0 := (s : Int)) hf hT H (n - (s + 1)) (s + 1) w2 (Nat.le_refl _) (by omega) (c10.log b1 b2 b3 b4 (by decide)) (c2.trans (b4.more (by decide))) (by rw [f]; exact c3) (by rw [f]; exact c4) (by rw [f]; rfl) (fun w4 g1 g2 g3 g4 g5 => ?_)
      exact ⟨rfl, g1, g2, g3, g4, by rw [tE_d hsn td]; exact g5⟩
    by_cases c0 : T s < 48
    · refine ky_lg hf hT a5 a6 a7 (by decide) (ρ := [(n : Int), (s : Int), (T s)]) kc_l6a ⟨⟨by omega, by omega⟩, ⟨by omega, by omega⟩, ⟨by omega, by omega⟩, trivial⟩ (aFs.cons rfl (by simp only [ae_ev, ae_el, ae_s, ae_k, List.getD_cons_zero, List.getD_cons_succ]; omega) aFs.nil) (aHh.cons (kn1 (i := 4) (by decide) rfl (ev_s rfl) s4) (aHh.cons (kns (by decide) rfl rfl (i := s) (ev_s rfl) (ev_s rfl) sl) aHh.nil)) (by rfl) (by rfl) (lEr (lEi (ev_s rfl) lE0)) sE0 (lvk2 := []) lE0 (stk2 := []) sE0 (fun w2 b1 b2 b3 b4 b5 => ?_)
      have f : ∀ k, jS w2 75 k = if k = 5 then ((s + 1 : Nat) : Int) else jS w3 75 k := fun k => by
        rw [b5 75 k]
        by_cases hk : k = 5
        · subst hk
          simp [lg_ap, ae_ev, ae_el, ae_s, ae_k]
        · simp [lg_ap, ae_ev, ae_el, ae_s, ae_k, hk]
      exact hp_ret HV (by decide) (by decide +kernel) (by decide +kernel) ⟨rfl, c10.log b1 b2 b3 b4 (by decide), c2.trans (b4.more (by decide)), by rw [f]; exact c3, by rw [f]; exact c4, by rw [tE_m hsn tw td, f]; rfl⟩
    by_cases c1 : T s ≤ 96
    · refine ky_lg hf hT a5 a6 a7 (by decide) (ρ := [(n : Int), (s : Int), (T s)]) kc_l6b ⟨⟨by omega, by omega⟩, ⟨by omega, by omega⟩, ⟨by omega, by omega⟩, trivial⟩ (aFs.cons rfl (by simp only [ae_ev, ae_el, ae_s, ae_k, List.getD_cons_zero, List.getD_cons_succ]; omega) aFs.nil) (aHh.cons (kn1 (i := 4) (by decide) rfl (ev_s rfl) s4) (aHh.cons (kns (by decide) rfl rfl (i := s) (ev_s rfl) (ev_s rfl) sl) aHh.nil)) (by rfl) (by rfl) (lEr (lEi (ev_s rfl) lE0)) sE0 (lvk2 := []) lE0 (stk2 := []) sE0 (fun w2 b1 b2 b3 b4 b5 => ?_)
      have f : ∀ k, jS w2 75 k = if k = 5 then ((s + 1 : Nat) : Int) else jS w3 75 k := fun k => by
        rw [b5 75 k]
        by_cases hk : k = 5
        · subst hk
          simp [lg_ap, ae_ev, ae_el, ae_s, ae_k]
        · simp [lg_ap, ae_ev, ae_el, ae_s, ae_k, hk]
      exact hp_ret HV (by decide) (by decide +kernel) (by decide +kernel) ⟨rfl, c10.log b1 b2 b3 b4 (by decide), c2.trans (b4.more (by decide)), by rw [f]; exact c3, by rw [f]; exact c4, by rw [tE_m hsn tw td, f]; rfl⟩
    refine ky_lg hf hT a5 a6 a7 (by decide) (ρ := [(n : Int), (s : Int), (T s)]) kc_l6c ⟨⟨by omega, by omega⟩, ⟨by omega, by omega⟩, ⟨by omega, by omega⟩, trivial⟩ (aFs.cons rfl (by simp only [ae_ev, ae_el, ae_s, ae_k, List.getD_cons_zero, List.getD_cons_succ]; omega) aFs.nil) (aHh.cons (kn1 (i := 4) (by decide) rfl (ev_s rfl) s4) (aHh.cons (kns (by decide) rfl rfl (i := s) (ev_s rfl) (ev_s rfl) sl) aHh.nil)) (by rfl) (by rfl) (lEr (lEi (ev_s rfl) lE0)) sE0 (lvk2 := []) lE0 (stk2 := []) sE0 (fun w2 b1 b2 b3 b4 b5 => ?_)
    have f : ∀ k, jS w2 75 k = if k = 5 then ((s + 1 : Nat) : Int) else jS w3 75 k := fun k => by
      rw [b5 75 k]
      by_cases hk : k = 5
      · subst hk
        simp [lg_ap, ae_ev, ae_el, ae_s, ae_k]
      · simp [lg_ap, ae_ev, ae_el, ae_s, ae_k, hk]
    exact hp_ret HV (by decide) (by decide +kernel) (by decide +kernel) ⟨rfl, c10.log b1 b2 b3 b4 (by decide), c2.trans (b4.more (by decide)), by rw [f]; exact c3, by rw [f]; exact c4, by rw [tE_m hsn tw td, f]; rfl⟩
  · have e : s = n := by omega
    subst e
    obtain ⟨a5, a6, a7, d⟩ := c1
    refine ky_lg hf hT a5 a6 a7 (by decide) (ρ := [(s : Int)]) kc_l5 ⟨⟨by omega, by omega⟩, trivial⟩ aFs.nil (aHh.cons (kn1 (i := 4) (by decide) rfl (ev_s rfl) s4) aHh.nil) (by rfl) (by rfl) (lEr (lEi (ev_s rfl) lE0)) sE0 (lvk2 := []) lE0 (stk2 := []) sE0 (fun w2 b1 b2 b3 b4 b5 => ?_)
    have f : ∀ k, jS w2 75 k = if k = 5 then (s : Int) else jS w3 75 k := fun k => by
      rw [b5 75 k]
      simp [lg_ap, ae_ev, ae_el, ae_s, ae_k]
    exact hp_ret HV (by decide) (by decide +kernel) (by decide +kernel) ⟨rfl, c10.log b1 b2 b3 b4 (by decide), c2.trans (b4.more (by decide)), by rw [f]; exact c3, by rw [f]; exact c4, by rw [tE_ge (Nat.le_refl _), f]; rfl⟩
/-- charAt of a text -/
theorem kc_lat {i : Nat} (hi : i < 24) {k : Nat} (hk : k < mj_txl i) {κ : Int32} (hκ : κ.toInt = (k : Int)) {LV : List (Nat × Value)} : MJ E 18 0 0 (10, 8, LV, [.int κ, .ref (E.2.1 i)], w) (fun v w2 => v = some (.int ((mj_txb i).getD k 0)) ∧ w2 = w) := by
  have e : κ.toNatClampNeg = k := by rw [show κ.toNatClampNeg = κ.toInt.toNat from rfl, hκ]; omega
  have r := kc_h2 i hi k hk
  refine MJ.nx (pc1 := 9) (lv1 := LV) (st1 := [.int ((mj_txb i).getD k 0)]) (ws1 := w) kc_dA ⟨rfl, κ, E.2.1 i, [], rfl, Or.inr ⟨i, hi, rfl, i32_in (by omega) (by omega), by rw [e]⟩⟩ ?_
  refine MJ.nx (pc1 := 12) (lv1 := LV) (st1 := [.int (Int16.ofInt 255).toInt32, .int ((mj_txb i).getD k 0)]) (ws1 := w) kc_dB ⟨rfl, rfl⟩ ?_
  refine MJ.nx (pc1 := 13) (lv1 := LV) (st1 := [.int ((mj_txb i).getD k 0 &&& (Int16.ofInt 255).toInt32)]) (ws1 := w) kc_dC ⟨rfl, _, _, [], rfl, rfl⟩ ?_
  refine MJ.nx (pc1 := 14) (lv1 := LV) (st1 := [.int ((mj_txb i).getD k 0)]) (ws1 := w) kc_dD ⟨rfl, _, [], rfl, congrArg (fun x => mj_nx 14 LV [Value.int x] w) r.symm⟩ ?_
  exact MJ.rt kc_dE (v := some (.int ((mj_txb i).getD k 0))) ⟨rfl, _, .char, rfl, by rw [(mj_li_use (by decide)).2, kc_dF], kc_h3 i hi k hk, rfl⟩ ⟨rfl, rfl⟩
theorem kc_chr (hf : E.2.2.2.1.category = 1) (hT : ∀ σ : List Int, aTb E σ aTabs) (a5 : aWd E al aLay w) {i : Nat} (hi : i < 24) (hi1 : 1 ≤ i) {k : Nat} (hk : k < mj_txl i) {AS : List Value} (hA : gL E al [] [.inr (1, i), .inl (ae_k (k : Int))] AS) :
    MJ E 19 0 0 (mj_in0 8 AS w) (fun v w2 => ∃ z : Int32, v = some (.int z) ∧ z.toInt = (wW i).getD k 0 ∧ w2 = w) := by
  have HV : hOk E al gV0 (fun _ => True) := hOkV hf hT (fun _ _ _ _ h => h)
  have h5 := (kc_h5 i hi).1
  refine hG.in0 hf (d := 19) (as := [.inr (1, i), .inl (ae_k (k : Int))]) ?_ hA
  show hG E al 19 8 0 [(0, .inr (1, i)), (1, .inl (ae_k (k : Int)))] [] [] w _
  refine ky_go hf hT a5 (by decide) (ρ := [(k : Int)]) (kc_h0 i hi) ⟨⟨by omega, by omega⟩, trivial⟩ aFs.nil aHh.nil (by rfl) (by rfl) (lEr (lEi (ev_s rfl) lE0)) sE0 (lvk2 := []) lE0 (stk2 := [.inl (ae_k (k : Int)), .inr (2, i)]) (sEi (ev_s rfl) (sEr sE0)) ?_
  refine hp_callV HV (d := 18) (y2 := 10) (as := [.inr (2, i), .inl (ae_k (k : Int))]) (rest := []) (R := fun z w2 => z = (mj_txb i).getD k 0 ∧ w2 = w) (by decide) (by rfl) (hW.e (J := fun _ => True) a5 trivial) (fun AS hA => ?_) (fun z w2 hz => ?_)
  · refine (show MJ E 18 0 0 (mj_in0 10 AS w) (fun v w2 => v = some (.int ((mj_txb i).getD k 0)) ∧ w2 = w) from ?_).weaken (Nat.le_refl _) (Nat.le_refl _) (Nat.le_refl _) (fun v w2 h => ⟨_, h.1, rfl, h.2⟩)
    refine hG.in0 hf (d := 18) (as := [.inr (2, i), .inl (ae_k (k : Int))]) ?_ hA
    show hG E al 18 10 0 [(0, .inr (2, i)), (1, .inl (ae_k (k : Int)))] [] [] w _
    refine ky_go hf hT a5 (by decide) (ρ := [(k : Int)]) (kc_h1 i hi) ⟨⟨by omega, by omega⟩, trivial⟩ (aFs.cons rfl (by simp only [ae_ev, ae_el, List.getD_cons_zero]; omega) aFs.nil) aHh.nil (by rfl) (by rfl) (lEr (lEi (ev_s rfl) lE0)) sE0 (lvk2 := []) lE0 (stk2 := [.inl (ae_k (k : Int)), .inr (2, i)]) (sEi (ev_s rfl) (sEr sE0)) ?_
    intro LV ST h1 h2
    obtain ⟨v, u, rfl, ⟨κ, rfl, hκ⟩, v2, u2, rfl, ⟨-, rfl⟩, h3⟩ := h2
    have h3 : u2 = [] := h3
    subst h3
    exact kc_lat hi hk hκ.of_k
  · obtain ⟨rfl, rfl⟩ := hz
    exact hp_retI (pc := 15) (ty := .char) (x := ((mj_txb i).getD k 0).toInt) (by decide) (by decide +kernel) (by decide +kernel) (aV.k _) (fun n hn => by rw [Int32.toInt_inj.mp hn]; exact kc_h3 i hi k hk) (fun z hz => ⟨z, rfl, by rw [hz]; exact kc_h4 i hi k hk hi1, rfl⟩)
/-- isAt: the rest of a text -/
theorem ki_go (hf : E.2.2.2.1.category = 1) (hT : ∀ σ : List Int, aTb E σ aTabs) (H : kT w0 T n) (hv : kv E al w0 w) {i : Nat} (hi : i < 24) (hi1 : 1 ≤ i) {s : Nat} (h4 : jS w 75 4 = (s : Int)) (hs : s + (wW i).length ≤ n) (hQ : ∀ z : Int32, z.toInt = (if (∀ k, k < (wW i).length → T (s + k) = (wW i).getD k 0) then 1 else 0) → Q (some (.int z)) w) :
    ∀ (m k : Nat), k + m = (wW i).length → (∀ j, j < k → T (s + j) = (wW i).getD j 0) → hG E al 20 91 39 [(0, .inr (0, 75)), (1, .inr (1, i)), (2, .inl (ae_k (k : Int)))] [] [] w Q := by
  have bn := H.1
  have HV : hOk E al gV0 (fun _ => True) := hOkV hf hT (fun _ _ _ _ h => h)
  obtain ⟨l26, l⟩ := kc_h5 i hi
  have l := l hi1
  have s4 := ksl hv.1 kc_j4 h4
  intro m
  induction m with
  | zero =>
    intro k hk hb
    have e : k = (wW i).length := by omega
    rw [if_pos (fun j hj => hb j (by omega))] at hQ
    rw [e, ← l]
    refine ky_go hf hT hv.1 (by decide) (ρ := []) (kc_i7 i hi) trivial aFs.nil aHh.nil (by rfl) (by rfl) (lEr (lEr (lEi ae_ev_k lE0))) sE0 (lvk2 := []) lE0 (stk2 := [.inl (ae_k 1)]) (sEi ae_ev_k sE0) ?_
    exact hp_retI (pc := 75) (ty := .boolean) (x := 1) (by decide) (by decide +kernel) (by decide +kernel) (aV.k _) (fun n hn => by rw [show n = 1 from Int32.toInt_inj.mp (by rw [hn]; rfl)]; decide) (fun z hz => hQ z hz)
  | succ m ih =>
    intro k hk hb
    have sl := H.sl hv (k := s + k) (by omega)
    have bt := H.2.2 (s + k)
    refine ky_go hf hT hv.1 (by decide) (ρ := [(s : Int), (k : Int), T (s + k)]) (kc_i3 i hi) ⟨⟨by omega, by omega⟩, ⟨by omega, by omega⟩, bt, trivial⟩ (aFs.cons rfl (by simp only [ae_ev, ae_el, List.getD_cons_zero]; omega) (aFs.cons rfl (by simp only [ae_ev, ae_el, List.getD_cons_zero, List.getD_cons_succ]; omega) aFs.nil)) (aHh.cons (kn1 (i := 4) (by decide) rfl (ev_s rfl) s4) (aHh.cons (kns (by decide) rfl rfl (i := s + k) (by simp only [ae_ev, ae_el, List.getD_cons_zero, List.getD_cons_succ]; omega) (ev_s rfl) sl) aHh.nil)) (by rfl) (by rfl) (lEr (lEr (lEi (ev_s rfl) lE0))) sE0 (lvk2 := [(0, .inr (0, 75)), (1, .inr (1, i)), (2, .inl (ae_k (k : Int)))]) (lEr (lEr (lEi (ev_s rfl) lE0))) (stk2 := [.inl (ae_k (k : Int)), .inr (1, i), .inl (ae_k (T (s + k)))]) (sEi (ev_s rfl) (sEr (sEi (ev_s rfl) sE0))) ?_
    refine hp_callV HV (d := 19) (y2 := 8) (as := [.inr (1, i), .inl (ae_k (k : Int))]) (rest := [.inl (ae_k (T (s + k)))]) (R := fun z w2 => z.toInt = (wW i).getD k 0 ∧ w2 = w) (by decide) (by rfl) (hW.e (J := fun _ => True) hv.1 trivial) (fun AS hA => (kc_chr hf hT hv.1 hi hi1 (by omega) hA).weaken (Nat.le_refl _) (Nat.le_refl _) (Nat.le_refl _) (fun v w2 h => h)) (fun z w2 hz => ?_)
    obtain ⟨ez, rfl⟩ := hz
    have bz : aI0 ≤ z.toInt ∧ z.toInt ≤ aI1 := ⟨i32_lo z, i32_hi z⟩
    by_cases e : T (s + k) = (wW i).getD k 0
    · rw [ez, ← e]
      refine ky_go hf hT hv.1 (by decide) (ρ := [(k : Int), T (s + k)]) (kc_i4 i hi) ⟨⟨by omega, by omega⟩, bt, trivial⟩ aFs.nil aHh.nil (by rfl) (by rfl) (lEr (lEr (lEi (ev_s rfl) lE0))) (sEi (ev_s rfl) (sEi (ev_s rfl) sE0)) (lvk2 := [(0, .inr (0, 75)), (1, .inr (1, i)), (2, .inl (ae_k ((k + 1 : Nat) : Int)))]) (lEr (lEr (lEi (by simp only [ae_ev, ae_el, List.getD_cons_zero]; omega) lE0))) (stk2 := []) sE0 ?_
      refine ih (k + 1) (by omega) (fun j hj => ?_)
      by_cases ej : j = k
      · rw [ej]
        exact e
      · exact hb j (by omega)
    · rw [← ez] at e
      have no : ¬ ∀ k, k < (wW i).length → T (s + k) = (wW i).getD k 0 := fun h => e (by rw [ez]; exact h k (by omega))
      rw [if_neg no] at hQ
      by_cases c : T (s + k) < z.toInt
      · refine hG.sub (lv2 := []) ?_ (fun q hq => by cases hq)
        refine ky_go hf hT hv.1 (by decide) (ρ := [z.toInt, T (s + k)]) kc_i5 ⟨bz, bt, trivial⟩ (aFs.cons rfl (by simp only [ae_ev, ae_el, List.getD_cons_zero, List.getD_cons_succ]; omega) aFs.nil) aHh.nil (by rfl) (by rfl) lE0 (sEi (ev_s rfl) (sEi (ev_s rfl) sE0)) (lvk2 := []) lE0 (stk2 := [.inl (ae_k 0)]) (sEi ae_ev_k sE0) ?_
        exact hp_retI (pc := 67) (ty := .boolean) (x := 0) (by decide) (by decide +kernel) (by decide +kernel) (aV.k _) (fun n hn => by rw [show n = 0 from Int32.toInt_inj.mp (by rw [hn]; rfl)]; decide) (fun z hz => hQ z hz)
      · refine hG.sub (lv2 := []) ?_ (fun q hq => by cases hq)
        refine ky_go hf hT hv.1 (by decide) (ρ := [z.toInt, T (s + k)]) kc_i6 ⟨bz, bt, trivial⟩ (aFs.cons rfl (by simp only [ae_ev, ae_el, List.getD_cons_zero, List.getD_cons_succ]; omega) aFs.nil) aHh.nil (by rfl) (by rfl) lE0 (sEi (ev_s rfl) (sEi (ev_s rfl) sE0)) (lvk2 := []) lE0 (stk2 := [.inl (ae_k 0)]) (sEi ae_ev_k sE0) ?_
        exact hp_retI (pc := 67) (ty := .boolean) (x := 0) (by decide) (by decide +kernel) (by decide +kernel) (aV.k _) (fun n hn => by rw [show n = 0 from Int32.toInt_inj.mp (by rw [hn]; rfl)]; decide) (fun z hz => hQ z hz)

/-- isAt: whether a text is there -/
theorem ki_mj (hf : E.2.2.2.1.category = 1) (hT : ∀ σ : List Int, aTb E σ aTabs) (H : kT w0 T n) (hv : kv E al w0 w) {i : Nat} (hi : i < 24) (hi1 : 1 ≤ i) {s : Nat} {ls : tLs} (hs : kS w T n s ls) {AS : List Value} (hA : gL E al [] [.inr (0, 75), .inr (1, i)] AS) :
    MJ E 20 0 0 (mj_in0 91 AS w) (fun v w2 => ∃ z : Int32, v = some (.int z) ∧ z.toInt = (if tw i T n s = true then 1 else 0) ∧ w2 = w) := by
  have bn := H.1
  obtain ⟨hs0, -, h4, h5, -, -, -⟩ := hs
  obtain ⟨l26, l⟩ := kc_h5 i hi
  have l := l hi1
  have s4 := ksl hv.1 kc_j4 h4
  have s5 := ksl hv.1 kc_j5 h5
  have be := tE_le (T := T) hs0
  refine hG.in0 hf (d := 20) (as := [.inr (0, 75), .inr (1, i)]) ?_ hA
  show hG E al 20 91 0 [(0, .inr (0, 75)), (1, .inr (1, i))] [] [] w _
  have no : tE T n s ≠ s + (wW i).length → ¬ tw i T n s = true := fun h h2 => h (wB_iff.mp h2).1
  by_cases c : tE T n s = s + (wW i).length
  · rw [c] at s5 be
    refine ky_go hf hT hv.1 (by decide) (ρ := [(s : Int)]) (kc_i0 i hi) ⟨⟨by omega, by omega⟩, trivial⟩ (aFs.cons rfl (by simp only [ae_ev, ae_el, List.getD_cons_zero]; omega) aFs.nil) (aHh.cons (kn1 (i := 4) (by decide) rfl (ev_s rfl) s4) (aHh.cons (kn1 (i := 5) (by decide) rfl (by simp only [ae_ev, ae_el, List.getD_cons_zero]; omega) s5) aHh.nil)) (by rfl) (by rfl) (lEr (lEr lE0)) sE0 (lvk2 := [(0, .inr (0, 75)), (1, .inr (1, i)), (2, .inl (ae_k ((0 : Nat) : Int)))]) (lEr (lEr (lEi ae_ev_k lE0))) (stk2 := []) sE0 ?_
    refine ki_go hf hT H hv hi hi1 h4 be.2 (fun z hz => ⟨z, rfl, ?_, rfl⟩) (wW i).length 0 (by omega) (fun j hj => by omega)
    rw [hz]
    by_cases q : ∀ k, k < (wW i).length → T (s + k) = (wW i).getD k 0
    · rw [if_pos q, if_pos (show tw i T n s = true from wB_iff.mpr ⟨c, q⟩)]
    · rw [if_neg q, if_neg (fun h : tw i T n s = true => q (wB_iff.mp h).2)]
  · rw [if_neg (no c)]
    by_cases c2 : tE T n s < s + (wW i).length
    · refine ky_go hf hT hv.1 (by decide) (ρ := [(s : Int), (tE T n s : Int)]) (kc_i1 i hi) ⟨⟨by omega, by omega⟩, ⟨by omega, by omega⟩, trivial⟩ (aFs.cons rfl (by simp only [ae_ev, ae_el, List.getD_cons_zero, List.getD_cons_succ]; omega) aFs.nil) (aHh.cons (kn1 (i := 4) (by decide) rfl (ev_s rfl) s4) (aHh.cons (kn1 (i := 5) (by decide) rfl (ev_s rfl) s5) aHh.nil)) (by rfl) (by rfl) (lEr (lEr lE0)) sE0 (lvk2 := []) lE0 (stk2 := [.inl (ae_k 0)]) (sEi ae_ev_k sE0) ?_
      exact hp_retI (pc := 36) (ty := .boolean) (x := 0) (by decide) (by decide +kernel) (by decide +kernel) (aV.k _) (fun n hn => by rw [show n = 0 from Int32.toInt_inj.mp (by rw [hn]; rfl)]; decide) (fun z hz => ⟨z, rfl, hz, rfl⟩)
    · refine ky_go hf hT hv.1 (by decide) (ρ := [(s : Int), (tE T n s : Int)]) (kc_i2 i hi) ⟨⟨by omega, by omega⟩, ⟨by omega, by omega⟩, trivial⟩ (aFs.cons rfl (by simp only [ae_ev, ae_el, List.getD_cons_zero, List.getD_cons_succ]; omega) aFs.nil) (aHh.cons (kn1 (i := 4) (by decide) rfl (ev_s rfl) s4) (aHh.cons (kn1 (i := 5) (by decide) rfl (ev_s rfl) s5) aHh.nil)) (by rfl) (by rfl) (lEr (lEr lE0)) sE0 (lvk2 := []) lE0 (stk2 := [.inl (ae_k 0)]) (sEi ae_ev_k sE0) ?_
      exact hp_retI (pc := 36) (ty := .boolean) (x := 0) (by decide) (by decide +kernel) (by decide +kernel) (aV.k _) (fun n hn => by rw [show n = 0 from Int32.toInt_inj.mp (by rw [hn]; rfl)]; decide) (fun z hz => ⟨z, rfl, hz, rfl⟩)
/-- passes: on behind a text -/
theorem kp_mj (hf : E.2.2.2.1.category = 1) (hT : ∀ σ : List Int, aTb E σ aTabs) (H : kT w0 T n) (hv : kv E al w0 w) {i : Nat} (hi : i < 24) (hi1 : 1 ≤ i) {s : Nat} {ls : tLs} (hs : kS w T n s ls) {AS : List Value} (hA : gL E al [] [.inr (0, 75), .inr (1, i)] AS) :
    MJ E 21 0 0 (mj_in0 90 AS w) (fun v w2 => ∃ z : Int32, v = some (.int z) ∧ ((tw i T n s = true ∧ z.toInt = 1 ∧ kv E al w0 w2 ∧ hD [75] w w2 ∧ kS w2 T n (tX T n s) ls) ∨ (tw i T n s = false ∧ z.toInt = 0 ∧ w2 = w))) := by
  have HV : hOk E al gV0 (fun _ => True) := hOkV hf hT (fun _ _ _ _ h => h)
  have be := tE_le (T := T) hs.1
  refine hG.in0 hf (d := 21) (as := [.inr (0, 75), .inr (1, i)]) ?_ hA
  show hG E al 21 90 0 [(0, .inr (0, 75)), (1, .inr (1, i))] [] [] w _
  refine ky_go hf hT hv.1 (by decide) (ρ := []) (kc_p0 i hi) trivial aFs.nil aHh.nil (by rfl) (by rfl) (lEr (lEr lE0)) sE0 (lvk2 := [(0, .inr (0, 75)), (1, .inr (1, i))]) (lEr (lEr lE0)) (stk2 := [.inr (1, i), .inr (0, 75)]) (sEr (sEr sE0)) ?_
  refine hp_callV HV (d := 20) (y2 := 91) (as := [.inr (0, 75), .inr (1, i)]) (rest := []) (R := fun z w2 => z.toInt = (if tw i T n s = true then 1 else 0) ∧ w2 = w) (by decide) (by rfl) (hW.e (J := fun _ => True) hv.1 trivial) (fun AS hA => ki_mj hf hT H hv hi hi1 hs hA) (fun z w2 hz => ?_)
  obtain ⟨ez, rfl⟩ := hz
  rw [ez]
  cases hb : tw i T n s with
  | false =>
    rw [if_neg (by decide)]
    refine hG.sub (lv2 := []) ?_ (fun q hq => by cases hq)
    refine ky_go hf hT hv.1 (by decide) (ρ := []) kc_p1 trivial aFs.nil aHh.nil (by rfl) (by rfl) lE0 (sEi ae_ev_k sE0) (lvk2 := []) lE0 (stk2 := [.inl (ae_k 0)]) (sEi ae_ev_k sE0) ?_
    exact hp_retI (pc := 9) (ty := .boolean) (x := 0) (by decide) (by decide +kernel) (by decide +kernel) (aV.k _) (fun n hn => by rw [show n = 0 from Int32.toInt_inj.mp (by rw [hn]; rfl)]; decide) (fun z hz => ⟨z, rfl, Or.inr ⟨rfl, hz, rfl⟩⟩)
  | true =>
    rw [if_pos rfl]
    refine hG.sub (lv2 := [(0, .inr (0, 75))]) ?_ (fun q hq => by simp only [List.mem_singleton] at hq; simp [hq])
    refine ky_go hf hT hv.1 (by decide) (ρ := []) kc_p2 trivial aFs.nil aHh.nil (by rfl) (by rfl) (lEr lE0) (sEi ae_ev_k sE0) (lvk2 := []) lE0 (stk2 := [.inr (0, 75)]) (sEr sE0) ?_
    refine hp_call HV (d := 20) (y2 := 86) (as := [.inr (0, 75)]) (rest := []) (R := fun w3 => kv E al w0 w3 ∧ hD [75] w2 w3 ∧ kS w3 T n (tX T n s) ls) (by decide) (by rfl) (hW.e (J := fun _ => True) hv.1 trivial) (fun AS hA => (kl_mj hf hT H hv hs.2.1 be.2 hs.2.2.2.1 hA).weaken (Nat.le_refl _) (Nat.le_refl _) (Nat.le_refl _) (fun v w3 h => ⟨h.1, h.2.1, h.2.2.1, hs.tok h.2.2.1 (tX_le hs.1).2 h.2.2.2.1 h.2.2.2.2.1 h.2.2.2.2.2⟩)) (fun w3 hR => ?_)
    refine ky_go hf hT hR.1.1 (by decide) (ρ := []) kc_p3 trivial aFs.nil aHh.nil (by rfl) (by rfl) lE0 sE0 (lvk2 := []) lE0 (stk2 := [.inl (ae_k 1)]) (sEi ae_ev_k sE0) ?_
    exact hp_retI (pc := 15) (ty := .boolean) (x := 1) (by decide) (by decide +kernel) (by decide +kernel) (aV.k _) (fun n hn => by rw [show n = 1 from Int32.toInt_inj.mp (by rw [hn]; rfl)]; decide) (fun z hz => ⟨z, rfl, Or.inl ⟨rfl, hz, hR.1, hR.2.1, hR.2.2⟩⟩)
/-- readsNumber -/
theorem kn_go (hf : E.2.2.2.1.category = 1) (hT : ∀ σ : List Int, aTb E σ aTabs) (H : kT w0 T n) (hv : kv E al w0 w) {s g : Nat} (hg : g ≤ 999) {ls : tLs} (hs : kS w T n s ls) (hsn : s < n) (hd : 48 ≤ T s ∧ T s ≤ 57) (h3 : tE T n s ≤ s + 3) (hQ : ∀ (z : Int32) (w2 : va_W), (z.toInt = tN g T n s ∧ kv E al w0 w2 ∧ hD [75] w w2 ∧ (tN g T n s = -1 ∧ w2 = w ∨ tN g T n s ≠ -1 ∧ kS w2 T n (tX T n s) ls)) → Q (some (.int z)) w2) :
    ∀ (m k : Nat), s + k + m = tE T n s → hG E al 21 92 52 [(0, .inr (0, 75)), (1, .inl (ae_k (g : Int))), (2, .inl (ae_k (v10 T s k))), (3, .inl (ae_k ((s + k : Nat) : Int)))] [] [] w Q := by
  have bn := H.1
  have HV : hOk E al gV0 (fun _ => True) := hOkV hf hT (fun _ _ _ _ h => h)
  have be := tE_lt (T := T) hsn
  have s5 := ksl hv.1 kc_j5 hs.2.2.2.1
  have vb : ∀ k, k ≤ 3 → s + k ≤ tE T n s → 0 ≤ v10 T s k ∧ (k ≤ 2 → v10 T s k ≤ 99) ∧ v10 T s k ≤ 999 := by
    intro k hk h
    have d := fun i (h1 : i < k) => tE_dig (T := T) hsn hd (i := s + i) (by omega) (by omega)
    match k, hk, d with
    | 0, _, _ => exact ⟨Int.le_refl 0, fun _ => (by decide : (0 : Int) ≤ 99), (by decide : (0 : Int) ≤ 999)⟩
    | 1, _, d =>
      have d0 := d 0 (by omega)
      show 0 ≤ 10 * 0 + T (s + 0) - 48 ∧ (_ → 10 * 0 + T (s + 0) - 48 ≤ 99) ∧ 10 * 0 + T (s + 0) - 48 ≤ 999
      omega
    | 2, _, d =>
      have d0 := d 0 (by omega)
      have d1 := d 1 (by omega)
      show 0 ≤ 10 * (10 * 0 + T (s + 0) - 48) + T (s + 1) - 48 ∧ (_ → 10 * (10 * 0 + T (s + 0) - 48) + T (s + 1) - 48 ≤ 99) ∧ 10 * (10 * 0 + T (s + 0) - 48) + T (s + 1) - 48 ≤ 999
      omega
    | 3, _, d =>
      have d0 := d 0 (by omega)
      have d1 := d 1 (by omega)
      have d2 := d 2 (by omega)
      show 0 ≤ 10 * (10 * (10 * 0 + T (s + 0) - 48) + T (s + 1) - 48) + T (s + 2) - 48 ∧ (_ → 10 * (10 * (10 * 0 + T (s + 0) - 48) + T (s + 1) - 48) + T (s + 2) - 48 ≤ 99) ∧ 10 * (10 * (10 * 0 + T (s + 0) - 48) + T (s + 1) - 48) + T (s + 2) - 48 ≤ 999
      omega
    | k + 4, hk, _ => omega
  intro m
  induction m with
  | zero =>
    intro k hk
    have e : tE T n s - s = k := by omega
    have v := vb k (by omega) (by omega)
    have hk : s + k = tE T n s := hk
    rw [hk]
    by_cases c : v10 T s k ≤ (g : Int)
    · have et : tN g T n s = v10 T s k := by
        unfold tN
        rw [e, if_pos ⟨hsn, hd, h3, c⟩]
      refine ky_go hf hT hv.1 (by decide) (ρ := [(tE T n s : Int), (g : Int), v10 T s k]) kc_n6 ⟨⟨by omega, by omega⟩, ⟨by omega, by omega⟩, ⟨by omega, by omega⟩, trivial⟩ (aFs.cons rfl (by simp only [ae_ev, ae_el, List.getD_cons_zero, List.getD_cons_succ]; omega) aFs.nil) (aHh.cons (kn1 (i := 5) (by decide) rfl (ev_s rfl) s5) aHh.nil) (by rfl) (by rfl) (lEr (lEi (ev_s rfl) (lEi (ev_s rfl) (lEi (ev_s rfl) lE0)))) sE0 (lvk2 := [(2, .inl (ae_k (v10 T s k)))]) (lEi (ev_s rfl) lE0) (stk2 := [.inr (0, 75)]) (sEr sE0) ?_
      refine hp_call HV (d := 20) (y2 := 86) (as := [.inr (0, 75)]) (rest := []) (R := fun w3 => kv E al w0 w3 ∧ hD [75] w w3 ∧ kS w3 T n (tX T n s) ls) (by decide) (by rfl) (hW.e (J := fun _ => True) hv.1 trivial) (fun AS hA => (kl_mj hf hT H hv hs.2.1 be.2 hs.2.2.2.1 hA).weaken (Nat.le_refl _) (Nat.le_refl _) (Nat.le_refl _) (fun v w3 h => ⟨h.1, h.2.1, h.2.2.1, hs.tok h.2.2.1 (tX_le hs.1).2 h.2.2.2.1 h.2.2.2.2.1 h.2.2.2.2.2⟩)) (fun w3 hR => ?_)
      refine ky_go hf hT hR.1.1 (by decide) (ρ := [v10 T s k]) kc_n8 ⟨⟨by omega, by omega⟩, trivial⟩ aFs.nil aHh.nil (by rfl) (by rfl) (lEi (ev_s rfl) lE0) sE0 (lvk2 := []) lE0 (stk2 := [.inl (ae_k (v10 T s k))]) (sEi (ev_s rfl) sE0) ?_
      exact hp_retI (pc := 117) (ty := .int) (x := v10 T s k) (by decide) (by decide +kernel) (by decide +kernel) (aV.k _) (fun n hn => rfl) (fun z hz => hQ z w3 ⟨by rw [hz, et], hR.1, hR.2.1, Or.inr ⟨by rw [et]; omega, hR.2.2⟩⟩)
    · have et : tN g T n s = -1 := by
        unfold tN
        rw [e, if_neg (fun h => c h.2.2.2)]
      refine ky_go hf hT hv.1 (by decide) (ρ := [(tE T n s : Int), (g : Int), v10 T s k]) kc_n7 ⟨⟨by omega, by omega⟩, ⟨by omega, by omega⟩, ⟨by omega, by omega⟩, trivial⟩ (aFs.cons rfl (by simp only [ae_ev, ae_el, List.getD_cons_zero, List.getD_cons_succ]; omega) aFs.nil) (aHh.cons (kn1 (i := 5) (by decide) rfl (ev_s rfl) s5) aHh.nil) (by rfl) (by rfl) (lEr (lEi (ev_s rfl) (lEi (ev_s rfl) (lEi (ev_s rfl) lE0)))) sE0 (lvk2 := []) lE0 (stk2 := [.inl (ae_k (-1))]) (sEi ae_ev_k sE0) ?_
      exact hp_retI (pc := 111) (ty := .int) (x := -1) (by decide) (by decide +kernel) (by decide +kernel) (aV.k _) (fun n hn => rfl) (fun z hz => hQ z w ⟨by rw [hz, et], hv, hD.refl, Or.inl ⟨et, rfl⟩⟩)
  | succ m ih =>
    intro k hk
    have v := vb k (by omega) (by omega)
    have v2 := v.2.1 (by omega)
    have sl := H.sl hv (k := s + k) (by omega)
    have bt := tE_dig (T := T) hsn hd (i := s + k) (by omega) (by omega)
    refine ky_go hf hT hv.1 (by decide) (ρ := [((s + k : Nat) : Int), (tE T n s : Int), (g : Int), v10 T s k, T (s + k)]) kc_n3 ⟨⟨by omega, by omega⟩, ⟨by omega, by omega⟩, ⟨by omega, by omega⟩, ⟨by omega, by omega⟩, bt, trivial⟩ (aFs.cons rfl (by simp only [ae_ev, ae_el, List.getD_cons_zero, List.getD_cons_succ]; omega) aFs.nil) (aHh.cons (kn1 (i := 5) (by decide) rfl (ev_s rfl) s5) (aHh.cons (kns (by decide) rfl rfl (i := s + k) (ev_s rfl) (ev_s rfl) sl) aHh.nil)) (by rfl) (by rfl) (lEr (lEi (ev_s rfl) (lEi (ev_s rfl) (lEi (ev_s rfl) lE0)))) sE0 (lvk2 := [(0, .inr (0, 75)), (1, .inl (ae_k (g : Int))), (2, .inl (ae_k (v10 T s (k + 1)))), (3, .inl (ae_k ((s + (k + 1) : Nat) : Int)))]) (lEr (lEi (ev_s rfl) (lEi (by show _ = 10 * v10 T s k + T (s + k) - 48; simp only [ae_ev, ae_el, List.getD_cons_zero, List.getD_cons_succ]; omega) (lEi (by simp only [ae_ev, ae_el, List.getD_cons_zero, List.getD_cons_succ]; omega) lE0)))) (stk2 := []) sE0 ?_
    exact ih (k + 1) (by omega)
theorem kn_mj (hf : E.2.2.2.1.category = 1) (hT : ∀ σ : List Int, aTb E σ aTabs) (H : kT w0 T n) (hv : kv E al w0 w) {s g : Nat} (hg : g ≤ 999) {ls : tLs} (hs : kS w T n s ls) {AS : List Value} (hA : gL E al [] [.inr (0, 75), .inl (ae_k (g : Int))] AS) :
    MJ E 21 0 0 (mj_in0 92 AS w) (fun v w2 => ∃ z : Int32, v = some (.int z) ∧ (z.toInt = tN g T n s ∧ kv E al w0 w2 ∧ hD [75] w w2 ∧ (tN g T n s = -1 ∧ w2 = w ∨ tN g T n s ≠ -1 ∧ kS w2 T n (tX T n s) ls))) := by
  have bn := H.1
  have s4 := ksl hv.1 kc_j4 hs.2.2.1
  have s5 := ksl hv.1 kc_j5 hs.2.2.2.1
  have be := tE_le (T := T) hs.1
  have hs0 := hs.1
  refine hG.in0 hf (d := 21) (as := [.inr (0, 75), .inl (ae_k (g : Int))]) ?_ hA
  show hG E al 21 92 0 [(0, .inr (0, 75)), (1, .inl (ae_k (g : Int)))] [] [] w _
  have bad : tN g T n s = -1 → ∀ z : Int32, z.toInt = -1 → ∃ z2 : Int32, some (Value.int z) = some (.int z2) ∧ (z2.toInt = tN g T n s ∧ kv E al w0 w ∧ hD [75] w w ∧ (tN g T n s = -1 ∧ w = w ∨ tN g T n s ≠ -1 ∧ kS w T n (tX T n s) ls)) := fun h z hz => ⟨z, rfl, by rw [hz, h], hv, hD.refl, Or.inl ⟨h, rfl⟩⟩
  by_cases c0 : tE T n s = s
  · have et : tN g T n s = -1 := by
      unfold tN
      rw [if_neg (fun h => by have := tE_lt (T := T) h.1; omega)]
    rw [c0] at s5
    refine hG.sub (lv2 := [(0, .inr (0, 75))]) ?_ (fun q hq => by simp only [List.mem_singleton] at hq; simp [hq])
    refine ky_go hf hT hv.1 (by decide) (ρ := [(s : Int)]) kc_n0 ⟨⟨by omega, by omega⟩, trivial⟩ aFs.nil (aHh.cons (kn1 (i := 4) (by decide) rfl (ev_s rfl) s4) (aHh.cons (kn1 (i := 5) (by decide) rfl (ev_s rfl) s5) aHh.nil)) (by rfl) (by rfl) (lEr lE0) sE0 (lvk2 := []) lE0 (stk2 := [.inl (ae_k (-1))]) (sEi ae_ev_k sE0) ?_
    exact hp_retI (pc := 44) (ty := .int) (x := -1) (by decide) (by decide +kernel) (by decide +kernel) (aV.k _) (fun n hn => rfl) (fun z hz => bad et z hz)
  have hsn : s < n := by
    by_cases h : s < n
    · exact h
    · exact absurd (tE_ge (by omega)) c0
  by_cases c1 : s + 4 ≤ tE T n s
  · have et : tN g T n s = -1 := by
      unfold tN
      rw [if_neg (fun h => by omega)]
    refine ky_go hf hT hv.1 (by decide) (ρ := [(s : Int), (tE T n s : Int), (g : Int)]) kc_n1 ⟨⟨by omega, by omega⟩, ⟨by omega, by omega⟩, ⟨by omega, by omega⟩, trivial⟩ (aFs.cons rfl (by simp only [ae_ev, ae_el, List.getD_cons_zero, List.getD_cons_succ]; omega) aFs.nil) (aHh.cons (kn1 (i := 4) (by decide) rfl (ev_s rfl) s4) (aHh.cons (kn1 (i := 5) (by decide) rfl (ev_s rfl) s5) aHh.nil)) (by rfl) (by rfl) (lEr (lEi (ev_s rfl) lE0)) sE0 (lvk2 := []) lE0 (stk2 := [.inl (ae_k (-1))]) (sEi ae_ev_k sE0) ?_
    exact hp_retI (pc := 44) (ty := .int) (x := -1) (by decide) (by decide +kernel) (by decide +kernel) (aV.k _) (fun n hn => rfl) (fun z hz => bad et z hz)
  refine ky_go hf hT hv.1 (by decide) (ρ := [(s : Int), (tE T n s : Int), (g : Int)]) kc_n2 ⟨⟨by omega, by omega⟩, ⟨by omega, by omega⟩, ⟨by omega, by omega⟩, trivial⟩ (aFs.cons rfl (by simp only [ae_ev, ae_el, List.getD_cons_zero, List.getD_cons_succ]; omega) (aFs.cons rfl (by simp only [ae_ev, ae_el, List.getD_cons_zero, List.getD_cons_succ]; omega) aFs.nil)) (aHh.cons (kn1 (i := 4) (by decide) rfl (ev_s rfl) s4) (aHh.cons (kn1 (i := 5) (by decide) rfl (ev_s rfl) s5) aHh.nil)) (by rfl) (by rfl) (lEr (lEi (ev_s rfl) lE0)) sE0 (lvk2 := [(0, .inr (0, 75)), (1, .inl (ae_k (g : Int))), (2, .inl (ae_k 0)), (3, .inl (ae_k ((s + 0 : Nat) : Int)))]) (lEr (lEi (ev_s rfl) (lEi ae_ev_k (lEi (ev_s rfl) lE0)))) (stk2 := []) sE0 ?_
  by_cases hd : 48 ≤ T s ∧ T s ≤ 57
  · exact kn_go hf hT H hv hg hs hsn hd (by omega) (fun z w2 h => ⟨z, rfl, h⟩) (tE T n s - s) 0 (by omega)
  · have et : tN g T n s = -1 := by
      unfold tN
      rw [if_neg (fun h => hd h.2.1)]
    have sl := H.sl hv hsn
    have bt := H.2.2 s
    by_cases c2 : T s < 48
    · refine ky_go hf hT hv.1 (by decide) (ρ := [(s : Int), (tE T n s : Int), (g : Int), 0, T s]) kc_n4 ⟨⟨by omega, by omega⟩, ⟨by omega, by omega⟩, ⟨by omega, by omega⟩, ⟨by omega, by omega⟩, ⟨bt.1, by omega⟩, trivial⟩ (aFs.cons rfl (by simp only [ae_ev, ae_el, List.getD_cons_zero, List.getD_cons_succ]; omega) aFs.nil) (aHh.cons (kn1 (i := 5) (by decide) rfl (ev_s rfl) s5) (aHh.cons (kns (by decide) rfl rfl (i := s) (ev_s rfl) (ev_s rfl) sl) aHh.nil)) (by rfl) (by rfl) (lEr (lEi (ev_s rfl) (lEi (ev_s rfl) (lEi (ev_s rfl) lE0)))) sE0 (lvk2 := []) lE0 (stk2 := [.inl (ae_k (-1))]) (sEi ae_ev_k sE0) ?_
      exact hp_retI (pc := 83) (ty := .int) (x := -1) (by decide) (by decide +kernel) (by decide +kernel) (aV.k _) (fun n hn => rfl) (fun z hz => bad et z hz)
    · refine ky_go hf hT hv.1 (by decide) (ρ := [(s : Int), (tE T n s : Int), (g : Int), 0, T s]) kc_n5 ⟨⟨by omega, by omega⟩, ⟨by omega, by omega⟩, ⟨by omega, by omega⟩, ⟨by omega, by omega⟩, ⟨by omega, bt.2⟩, trivial⟩ (aFs.cons rfl (by simp only [ae_ev, ae_el, List.getD_cons_zero, List.getD_cons_succ]; omega) aFs.nil) (aHh.cons (kn1 (i := 5) (by decide) rfl (ev_s rfl) s5) (aHh.cons (kns (by decide) rfl rfl (i := s) (ev_s rfl) (ev_s rfl) sl) aHh.nil)) (by rfl) (by rfl) (lEr (lEi (ev_s rfl) (lEi (ev_s rfl) (lEi (ev_s rfl) lE0)))) sE0 (lvk2 := []) lE0 (stk2 := [.inl (ae_k (-1))]) (sEi ae_ev_k sE0) ?_
      exact hp_retI (pc := 83) (ty := .int) (x := -1) (by decide) (by decide +kernel) (by decide +kernel) (aV.k _) (fun n hn => rfl) (fun z hz => bad et z hz)
end RT
