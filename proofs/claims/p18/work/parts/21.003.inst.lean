def ai_8 : aInst := ((25, [aF, aF], [], [.inr (0, 2), .inl (ae_s 0), .inl (ae_s 1)], [], [], 0, [([aF], [], some (.inl (ae_s 2)), [])]), [])
def ai_9 : aInst := ((5, [aF, aF, aF], [], [.inr (0, 2), .inl (ae_s 0), .inl (ae_s 1), .inl (ae_s 2)], [], [3], 0, [([], [], none, [])]), [])
def ai_10 : aInst := ((25, [aF, aF], [], [.inr (0, 34), .inl (ae_s 0), .inl (ae_s 1)], [], [], 0, [([aF], [], some (.inl (ae_s 2)), [])]), [])
def ai_11 : aInst := ((26, [aF], [], [.inr (0, 1), .inl (ae_s 0)], [], [3], 1, [([], [], none, [])]), [(27, [aF, aF, (0, 2147483647), aF], [], [(0, .inr (0, 1)), (1, .inl (ae_s 0)), (2, .inl (ae_s 1)), (3, .inl (ae_s 2))], [], [((1, ae_k 0), ae_s 3)], [3], ([(2, (-1))], 19327352831))])
def ai_12 : aInst := ((22, [], [], [.inr (0, 1)], [], [1, 3], 3, [([], [], none, [])]), [(12, [(0, 2147483647), aF], [], [(0, .inr (0, 1)), (1, .inl (ae_s 0))], [], [((1, ae_k 0), ae_s 1)], [1, 3], ([(0, (-1))], 53687091199)), (36, [(0, 2147483647), aF, aF], [], [(0, .inr (0, 1)), (1, .inl (ae_s 0))], [], [((1, ae_k 0), ae_s 1), ((2, ae_k 3), ae_s 2)], [1, 3], ([(0, (-1))], 36507222015)), (76, [(0, 2147483647), aF, aF, aF], [], [(0, .inr (0, 1)), (1, .inl (ae_s 0))], [], [((1, ae_k 0), ae_s 1), ((2, ae_k 3), ae_s 2), ((34, ae_k 3), ae_s 3)], [1, 3], ([(0, (-1))], 19327352831))])
def ai_13 : aInst := ((20, [aF], [], [.inr (0, 0), .inl (ae_s 0)], [], [1, 3], 4, [([], [], some (.inl (ae_k (-4))), []), ([], [], some (.inl (ae_k (-1))), []), ([aF], [], some (.inl (ae_s 1)), [])]), [(33, [(1, 200), (0, 200)], [], [(0, .inr (0, 0)), (1, .inl (ae_s 0)), (2, .inl (ae_s 1))], [], [], [1, 3], ([(1, (-1))], 19327352831))])
def ai_14 : aInst := ((28, [aF], [], [.inl (ae_s 0)], [], [], 1, [([], [], some (.inl (ae_k 0)), []), ([], [], some (.inl (ae_k 1)), [])]), [(17, [(1, 387420488), (0, 387420488), (0, 6)], [], [(0, .inl (ae_s 0)), (1, .inl (ae_s 1)), (2, .inl (ae_s 2))], [], [], [], ([(1, 1)], 19327352832))])
def ai_15 : aInst := ((33, [aF], [], [.inr (0, 2), .inl (ae_s 0)], [], [3], 1, [([], [], none, [])]), [(2, [aF, (0, 15)], [], [(0, .inr (0, 2)), (1, .inl (ae_s 0)), (2, .inl (ae_s 1))], [], [], [3], ([(1, (-1))], 19327352831))])
def ai_16 : aInst := ((27, [aF, aF, aF, aF, aF], [], [.inr (0, 0), .inl (ae_s 0), .inl (ae_s 1), .inl (ae_s 2), .inl (ae_s 3), .inl (ae_s 4)], [], [2, 3], 4, [([], [], some (.inl (ae_k (-2))), []), ([], [], some (.inl (ae_k (-1))), []), ([((-2147483648), 15)], [], some (.inl (ae_s 5)), [])]), [])
def aIn_8 : List aInst := [ai_8, ai_9, ai_10, ai_11, ai_12, ai_13, ai_14, ai_15, ai_16]
def aCs_8 : List aCon := ak_cons aIn_8 aCs_7
set_option maxRecDepth 100000 in
theorem aChk_8 : ak_chain 100000 aIn_8 aCs_7 = true := by decide +kernel
def ai_17 : aInst := ((35, [aF], [], [.inr (0, 2), .inl (ae_s 0)], [], [], 0, [([], [], some (.inl (ae_k 0)), []), ([], [], some (.inl (ae_k 1)), [])]), [])
def ai_18 : aInst := ((34, [aF, aF], [], [.inr (0, 0), .inl (ae_s 0), .inl (ae_s 1)], [], [], 3, [([], [], some (.inl (ae_k (-1))), []), ([aF], [], some (.inl (ae_s 2)), [])]), [])
def ai_19 : aInst := ((5, [aF, aF, aF], [], [.inr (0, 34), .inl (ae_s 0), .inl (ae_s 1), .inl (ae_s 2)], [], [35], 0, [([], [], none, [])]), [])
def ai_20 : aInst := ((39, [aF, (0, 1)], [], [.inr (0, 0), .inl (ae_s 0), .inl (ae_s 1)], [], [3, 35], 2, [([], [], some (.inl (ae_k (-4))), []), ([], [], some (.inl (ae_k (-1))), []), ([(0, 1)], [], some (.inl (ae_s 2)), [])]), [])
def ai_21 : aInst := ((42, [aF, aF, aF], [], [.inr (0, 2), .inl (ae_s 0), .inl (ae_s 1), .inl (ae_s 2)], [], [3], 1, [([aF], [], some (.inl (ae_s 3)), [])]), [])
def ai_22 : aInst := ((41, [aF, (0, 1)], [], [.inr (0, 0), .inl (ae_s 0), .inl (ae_s 1)], [], [3], 2, [([], [], some (.inl (ae_k (-1))), []), ([aF], [], some (.inl (ae_s 2)), [])]), [])
def ai_23 : aInst := ((43, [aF, aF], [], [.inr (0, 0), .inl (ae_s 0), .inl (ae_s 1)], [], [3], 1, [([], [], some (.inl (ae_k (-4))), []), ([], [], some (.inl (ae_k (-1))), []), ([(1, 1)], [], some (.inl (ae_s 2)), [])]), [])
def ai_24 : aInst := ((25, [aF, aF], [], [.inr (0, 4), .inl (ae_s 0), .inl (ae_s 1)], [], [], 0, [([aF], [], some (.inl (ae_s 2)), [])]), [])
def ai_25 : aInst := ((5, [aF, aF, aF], [], [.inr (0, 4), .inl (ae_s 0), .inl (ae_s 1), .inl (ae_s 2)], [], [5], 0, [([], [], none, [])]), [])
def ai_26 : aInst := ((42, [aF, aF, aF], [], [.inr (0, 4), .inl (ae_s 0), .inl (ae_s 1), .inl (ae_s 2)], [], [5], 1, [([aF], [], some (.inl (ae_s 3)), [])]), [])
def ai_27 : aInst := ((44, [aF, aF], [], [.inr (0, 0), .inl (ae_s 0), .inl (ae_s 1)], [], [5], 2, [([], [], some (.inl (ae_k (-1))), []), ([aF], [], some (.inl (ae_s 2)), [])]), [])
def ai_28 : aInst := ((5, [aF, aF, aF], [], [.inr (0, 6), .inl (ae_s 0), .inl (ae_s 1), .inl (ae_s 2)], [], [7], 0, [([], [], none, [])]), [])
def ai_29 : aInst := ((33, [aF], [], [.inr (0, 6), .inl (ae_s 0)], [], [7], 1, [([], [], none, [])]), [(2, [aF, (0, 3)], [], [(0, .inr (0, 6)), (1, .inl (ae_s 0)), (2, .inl (ae_s 1))], [], [], [7], ([(1, (-1))], 19327352831))])
def aIn_9 : List aInst := [ai_17, ai_18, ai_19, ai_20, ai_21, ai_22, ai_23, ai_24, ai_25, ai_26, ai_27, ai_28, ai_29]
def aCs_9 : List aCon := ak_cons aIn_9 aCs_8
set_option maxRecDepth 100000 in
theorem aChk_9 : ak_chain 100000 aIn_9 aCs_8 = true := by decide +kernel
def ai_30 : aInst := ((46, [aF, aF], [], [.inr (0, 0), .inl (ae_s 0), .inl (ae_s 1)], [], [6, 7], 3, [([], [], some (.inl (ae_k (-2))), []), ([], [], some (.inl (ae_k (-1))), []), ([((-2147483648), 11)], [], some (.inl (ae_s 2)), [])]), [])
def ai_31 : aInst := ((25, [aF, aF], [], [.inr (0, 8), .inl (ae_s 0), .inl (ae_s 1)], [], [], 0, [([aF], [], some (.inl (ae_s 2)), [])]), [])
def ai_32 : aInst := ((5, [aF, aF, aF], [], [.inr (0, 8), .inl (ae_s 0), .inl (ae_s 1), .inl (ae_s 2)], [], [9], 0, [([], [], none, [])]), [])
def ai_33 : aInst := ((42, [aF, aF, aF], [], [.inr (0, 8), .inl (ae_s 0), .inl (ae_s 1), .inl (ae_s 2)], [], [9], 1, [([aF], [], some (.inl (ae_s 3)), [])]), [])
def ai_34 : aInst := ((47, [aF, aF], [], [.inr (0, 0), .inl (ae_s 0), .inl (ae_s 1)], [], [9], 2, [([], [], some (.inl (ae_k (-1))), []), ([aF], [], some (.inl (ae_s 2)), [])]), [])
def ai_35 : aInst := ((25, [aF, aF], [], [.inr (0, 10), .inl (ae_s 0), .inl (ae_s 1)], [], [], 0, [([aF], [], some (.inl (ae_s 2)), [])]), [])
def ai_36 : aInst := ((5, [aF, aF, aF], [], [.inr (0, 10), .inl (ae_s 0), .inl (ae_s 1), .inl (ae_s 2)], [], [11], 0, [([], [], none, [])]), [])
def ai_37 : aInst := ((42, [aF, aF, aF], [], [.inr (0, 10), .inl (ae_s 0), .inl (ae_s 1), .inl (ae_s 2)], [], [11], 1, [([aF], [], some (.inl (ae_s 3)), [])]), [])
def ai_38 : aInst := ((48, [aF, aF], [], [.inr (0, 0), .inl (ae_s 0), .inl (ae_s 1)], [], [11], 2, [([], [], some (.inl (ae_k (-1))), []), ([aF], [], some (.inl (ae_s 2)), [])]), [])
def ai_39 : aInst := ((25, [aF, aF], [], [.inr (0, 6), .inl (ae_s 0), .inl (ae_s 1)], [], [], 0, [([aF], [], some (.inl (ae_s 2)), [])]), [])
def ai_40 : aInst := ((51, [aF, aF], [], [.inr (0, 1), .inl (ae_s 0), .inl (ae_s 1)], [], [], 2, [([aF], [], some (.inl (ae_s 2)), [])]), [(50, [aF, aF, aF, aF, aF, (0, 2147483647)], [], [(0, .inr (0, 1)), (1, .inl (ae_s 0)), (2, .inl (ae_s 1)), (3, .inl (ae_s 2)), (4, .inl (ae_s 3)), (5, .inl (ae_s 4)), (6, .inl (ae_s 5))], [], [], [], ([(5, (-1))], 19327352831))])
def aIn_10 : List aInst := [ai_30, ai_31, ai_32, ai_33, ai_34, ai_35, ai_36, ai_37, ai_38, ai_39, ai_40]
def aCs_10 : List aCon := ak_cons aIn_10 aCs_9
set_option maxRecDepth 100000 in
theorem aChk_10 : ak_chain 100000 aIn_10 aCs_9 = true := by decide +kernel
def ai_41 : aInst := ((49, [aF, aF], [], [.inr (0, 0), .inl (ae_s 0), .inl (ae_s 1)], [], [], 3, [([], [], some (.inl (ae_k (-1))), []), ([aF], [], some (.inl (ae_s 2)), [])]), [])
def ai_42 : aInst := ((25, [aF, aF], [], [.inr (0, 12), .inl (ae_s 0), .inl (ae_s 1)], [], [], 0, [([aF], [], some (.inl (ae_s 2)), [])]), [])
def ai_43 : aInst := ((5, [aF, aF, aF], [], [.inr (0, 12), .inl (ae_s 0), .inl (ae_s 1), .inl (ae_s 2)], [], [13], 0, [([], [], none, [])]), [])
def ai_44 : aInst := ((42, [aF, aF, aF], [], [.inr (0, 12), .inl (ae_s 0), .inl (ae_s 1), .inl (ae_s 2)], [], [13], 1, [([aF], [], some (.inl (ae_s 3)), [])]), [])
def ai_45 : aInst := ((53, [aF, aF], [], [.inr (0, 0), .inl (ae_s 0), .inl (ae_s 1)], [], [13], 2, [([], [], some (.inl (ae_k (-1))), []), ([aF], [], some (.inl (ae_s 2)), [])]), [])
def ai_46 : aInst := ((55, [aF], [], [.inr (0, 1), .inl (ae_s 0)], [], [], 1, [([aF], [], some (.inl (ae_s 1)), [])]), [(14, [aF, aF, aF, (0, 14348907), aF, (0, 6)], [], [(0, .inr (0, 1)), (1, .inl (ae_s 0)), (2, .inl (ae_s 1)), (3, .inl (ae_s 2)), (4, .inl (ae_s 3)), (5, .inl (ae_s 4)), (6, .inl (ae_s 5))], [], [], [], ([(3, 1)], 19327352832))])
def ai_47 : aInst := ((54, [aF], [], [.inr (0, 0), .inl (ae_s 0)], [], [], 2, [([], [], some (.inl (ae_k (-1))), []), ([aF], [], some (.inl (ae_s 1)), [])]), [])
def ai_48 : aInst := ((58, [aF, aF], [], [.inr (0, 1), .inl (ae_s 0), .inl (ae_s 1)], [], [], 2, [([aF], [], some (.inl (ae_s 2)), [])]), [(12, [aF, aF, aF, aF, (0, 2147483647)], [], [(0, .inr (0, 1)), (1, .inl (ae_s 0)), (2, .inl (ae_s 1)), (3, .inl (ae_s 2)), (4, .inl (ae_s 3)), (5, .inl (ae_s 4))], [], [], [], ([(4, (-1))], 19327352831))])
def ai_49 : aInst := ((56, [aF, aF], [], [.inr (0, 0), .inl (ae_s 0), .inl (ae_s 1)], [], [], 3, [([], [], some (.inl (ae_k (-1))), []), ([aF], [], some (.inl (ae_s 2)), [])]), [])
def ai_50 : aInst := ((63, [aF, aF, aF], [], [.inr (0, 1), .inl (ae_s 0), .inl (ae_s 1), .inl (ae_s 2)], [], [], 4, [([aF], [], some (.inl (ae_s 3)), [])]), [(6, [aF, aF, aF, aF, (0, 2147483647)], [], [(0, .inr (0, 1)), (1, .inl (ae_s 0)), (2, .inl (ae_s 1)), (3, .inl (ae_s 2)), (4, .inl (ae_s 3)), (5, .inl (ae_s 4))], [], [], [], ([(4, (-1))], 19327352831))])
def aIn_11 : List aInst := [ai_41, ai_42, ai_43, ai_44, ai_45, ai_46, ai_47, ai_48, ai_49, ai_50]
def aCs_11 : List aCon := ak_cons aIn_11 aCs_10
set_option maxRecDepth 100000 in
theorem aChk_11 : ak_chain 100000 aIn_11 aCs_10 = true := by decide +kernel
