/-! THE LAW'S TURN: from its head to each case, from each case to its step; checked -/
def laE : List (Int × Int) := [(0, 3584), (0, 3584)]
def laLv : List (Nat × av) := [(0, .inr (3, 2)), (1, .inr (0, 0)), (2, .inr (0, 99)), (3, .inl (ae_s 1))]
def laLv0 : List (Nat × av) := [(0, .inr (3, 2)), (1, .inr (0, 0)), (2, .inr (0, 99))]
def laLv7 : List (Nat × av) := [(0, .inr (3, 2)), (1, .inr (0, 0)), (2, .inr (0, 99)), (3, .inl (ae_inc (ae_s 1) 7))]
def laMd : List Nat := [0, 1, 2, 3, 4, 5, 6, 7, 8, 9, 10, 11, 12, 13, 14, 15, 16, 17, 18, 19, 20, 21, 22, 23, 24, 25, 26, 27, 28, 29, 30, 31, 32, 33, 34, 35, 36, 37, 38, 39, 40, 41, 42, 43, 44, 45, 46, 47, 48, 49, 50, 51, 52, 53, 54, 55, 56, 57, 58, 59, 60, 61, 62, 63, 64, 65, 66, 67, 68, 69, 70, 71, 72, 73, 74, 75, 76, 77, 78, 79, 80, 81, 82, 83, 84, 85, 86, 87, 88, 89, 90, 91, 92, 93, 94, 95, 96, 97, 98, 99, 100, 101, 102, 103, 104, 105, 106, 107, 108, 109, 110, 111, 112, 113, 114, 115, 116, 117, 118, 119, 120, 121, 122, 123, 124, 125, 126, 127, 128, 129, 130, 131, 132, 133, 134, 135, 136, 137, 138, 139, 140]
def laF7 : List ae := [([(0, (-1)), (1, 1)], 7)]
def laT (t : Nat) : aCut := (t, laE, laF7, laLv, [], [], [], ae_k 5)
def laU (t : Nat) : aCut := (t, laE, laF7, laLv, [], [], laMd, mMU)
def laB : aCut := (2224, laE, [], laLv, [.inl (ae_k 1)], [], [], mMU)
def laTs_0 : List Nat := [268, 291, 354, 387, 436, 485]
def laTs_1 : List Nat := [518, 551, 584, 617, 650, 683]
def laTs_2 : List Nat := [716, 739, 772, 805, 881, 904]
def laTs_3 : List Nat := [927, 950, 983, 1046, 1059, 1092]
def laTs_4 : List Nat := [1125, 1158, 1201, 1234, 1287, 1330]
def laTs_5 : List Nat := [1383, 1426, 1459, 1492, 1535, 1568]
def laTs_6 : List Nat := [1601, 1624, 1699, 1732, 1765, 1788]
def laTs_7 : List Nat := [1831, 1864, 1907, 1950, 1993, 2026]
def laTs_8 : List Nat := [2069, 2102, 2145, 2168]
def laTs : List Nat := laTs_0 ++ (laTs_1 ++ (laTs_2 ++ (laTs_3 ++ (laTs_4 ++ (laTs_5 ++ (laTs_6 ++ (laTs_7 ++ (laTs_8))))))))
def laSp : List Nat := [2217, 838, 2191, 2204]
def laIs : List aCut := laTs.map laT
def laBs : List aCut := laB :: laSp.map laU
def laCs : List aCon := ac_read :: aCs_72
def laTab : List (ae × Int × Int) := [(ae_k 7, (-1), 5), (ae_k 28, 10, 71), (ae_s 0, aI0, aI1)]
def laG : aG := (aLay, aRules, laTab, aProt, laCs)
def laG1 : aG := (aLay, aRules, laTab, [], [])
def laK (t : Nat) : Bool := hp_c laG 100000 86 320 2 (hp_f [2217] (laIs ++ laBs)) (laT t)
/-- a piece of the law that changes nothing -/
def laP (pc : Nat) (st : List av) (pc2 : Nat) (lv2 : List (Nat × av)) (st2 : List av) : Bool := hp_e laG1 100000 86 320 pc laE [] [] laLv st (hp_f [pc2] ([] ++ [(pc2, laE, [], lv2, st2, [], [], mMU)]))
section
set_option maxRecDepth 100000
theorem la_k0 : laTs_0.all laK = true := by decide +kernel
theorem la_k1 : laTs_1.all laK = true := by decide +kernel
theorem la_k2 : laTs_2.all laK = true := by decide +kernel
theorem la_k3 : laTs_3.all laK = true := by decide +kernel
theorem la_k4 : laTs_4.all laK = true := by decide +kernel
theorem la_k5 : laTs_5.all laK = true := by decide +kernel
theorem la_k6 : laTs_6.all laK = true := by decide +kernel
theorem la_k7 : laTs_7.all laK = true := by decide +kernel
theorem la_k8 : laTs_8.all laK = true := by decide +kernel
theorem la_kh : hp_e laG 100000 86 320 18 laE [([(0, (-1)), (1, 1)], 0)] [] laLv [] (hp_f (2224 :: (laSp ++ laTs)) (laIs ++ laBs)) = true := by decide +kernel
theorem la_ke : hp_e laG1 100000 86 320 16 [(0, 3584)] [] [] laLv0 [] (hp_f [18] ([] ++ [(18, [(0, 3584)], [], [(0, .inr (3, 2)), (1, .inr (0, 0)), (2, .inr (0, 99)), (3, .inl (ae_k 0))], [], [], [], mMU)])) = true := by decide +kernel
theorem la_kn : laP 2217 [] 18 laLv7 [] = true := by decide +kernel
theorem la_kl : (laIs ++ laBs).all (fun T => decide (2 ≤ T.2.1.length)) = true := by decide +kernel
end
theorem la_kts : ∀ t ∈ laTs, laK t = true := by
  unfold laTs
  exact List.forall_mem_append.mpr ⟨List.all_eq_true.mp la_k0, List.forall_mem_append.mpr ⟨List.all_eq_true.mp la_k1, List.forall_mem_append.mpr ⟨List.all_eq_true.mp la_k2, List.forall_mem_append.mpr ⟨List.all_eq_true.mp la_k3, List.forall_mem_append.mpr ⟨List.all_eq_true.mp la_k4, List.forall_mem_append.mpr ⟨List.all_eq_true.mp la_k5, List.forall_mem_append.mpr ⟨List.all_eq_true.mp la_k6, List.forall_mem_append.mpr ⟨List.all_eq_true.mp la_k7, List.all_eq_true.mp la_k8⟩⟩⟩⟩⟩⟩⟩⟩
