def ai_217 : aInst := ((35, [aF], [], [.inr (0, 34), .inl (ae_s 0)], [], [], 0, [([], [], some (.inl (ae_k 0)), []), ([], [], some (.inl (ae_k 1)), [])]), [])
def ai_218 : aInst := ((141, [aF], [], [.inr (0, 1), .inl (ae_s 0)], [], [], 2, [([aF], [], some (.inl (ae_s 1)), [])]), [(4, [aF, aF, (0, 2147483647)], [], [(0, .inr (0, 1)), (1, .inl (ae_s 0)), (2, .inl (ae_s 1)), (3, .inl (ae_s 2))], [], [], [], ([(2, (-1))], 19327352831))])
def ai_219 : aInst := ((138, [aF, aF], [], [.inr (0, 0), .inl (ae_s 0), .inl (ae_s 1)], [], [3], 4, [([], [], some (.inl (ae_k (-4))), []), ([], [], some (.inl (ae_k (-1))), []), ([aF], [], some (.inl (ae_s 2)), [])]), [])
def ai_220 : aInst := ((144, [aF, aF], [], [.inr (0, 1), .inl (ae_s 0), .inl (ae_s 1)], [], [3, 35], 2, [([], [], none, [])]), [(12, [aF, aF, (0, 2147483647)], [], [(0, .inr (0, 1)), (1, .inl (ae_s 0)), (2, .inl (ae_s 1)), (3, .inl (ae_s 2))], [], [], [3, 35], ([(2, (-1))], 19327352831))])
def ai_221 : aInst := ((143, [aF], [], [.inr (0, 0), .inl (ae_s 0)], [], [3, 35, 81, 82, 83], 12, [([aF], [], some (.inl (ae_s 1)), [])]), [])
def aIn_36 : List aInst := [ai_217, ai_218, ai_219, ai_220, ai_221]
def aCs_36 : List aCon := ak_cons aIn_36 aCs_35
set_option maxRecDepth 100000 in
theorem aChk_36 : ak_chain 100000 aIn_36 aCs_35 = true := by decide +kernel
def ai_222 : aInst := ((5, [aF, aF, aF], [], [.inr (0, 36), .inl (ae_s 0), .inl (ae_s 1), .inl (ae_s 2)], [], [37], 0, [([], [], none, [])]), [])
def ai_223 : aInst := ((33, [aF], [], [.inr (0, 36), .inl (ae_s 0)], [], [37], 1, [([], [], none, [])]), [(2, [aF, (0, 3)], [], [(0, .inr (0, 36)), (1, .inl (ae_s 0)), (2, .inl (ae_s 1))], [], [], [37], ([(1, (-1))], 19327352831))])
def ai_224 : aInst := ((145, [aF, aF, aF], [], [.inr (0, 0), .inl (ae_s 0), .inl (ae_s 1), .inl (ae_s 2)], [], [36, 37], 3, [([], [], some (.inl (ae_k (-2))), []), ([], [], some (.inl (ae_k (-1))), []), ([((-2147483647), 8)], [], some (.inl (ae_s 3)), [])]), [])
def ai_225 : aInst := ((25, [aF, aF], [], [.inr (0, 36), .inl (ae_s 0), .inl (ae_s 1)], [], [], 0, [([aF], [], some (.inl (ae_s 2)), [])]), [])
def ai_226 : aInst := ((148, [aF], [], [.inr (0, 1), .inl (ae_s 0)], [], [], 1, [([aF], [], some (.inl (ae_s 1)), [])]), [(4, [aF, aF, (0, 2147483647)], [], [(0, .inr (0, 1)), (1, .inl (ae_s 0)), (2, .inl (ae_s 1)), (3, .inl (ae_s 2))], [], [], [], ([(2, (-1))], 19327352831))])
def ai_227 : aInst := ((149, [aF], [], [.inr (0, 1), .inl (ae_s 0)], [], [], 1, [([], [], some (.inr (4, 0)), [])]), [(5, [aF, (0, 2147483647)], [], [(0, .inr (0, 1)), (1, .inl (ae_s 0)), (2, .inr (4, 0)), (4, .inl (ae_s 1))], [], [], [], ([(1, (-1))], 19327352831))])
def ai_228 : aInst := ((147, [aF], [], [.inr (0, 1), .inl (ae_s 0)], [], [], 2, [([(0, 2147483646)], [], some (.inl (ae_s 1)), [])]), [(10, [aF, (0, 2147483646), aF, (1, 2147483647)], [], [(0, .inr (0, 1)), (1, .inl (ae_s 0)), (2, .inl (ae_s 1)), (3, .inl (ae_s 2)), (4, .inr (4, 0)), (6, .inl (ae_s 3))], [], [], [], ([(3, (-1))], 19327352831))])
def ai_229 : aInst := ((146, [aF, aF], [], [.inr (0, 0), .inl (ae_s 0), .inl (ae_s 1)], [], [], 3, [([], [], some (.inl (ae_k (-1))), []), ([aF], [], some (.inl (ae_s 2)), [])]), [])
def ai_230 : aInst := ((5, [aF, aF, aF], [], [.inr (0, 92), .inl (ae_s 0), .inl (ae_s 1), .inl (ae_s 2)], [], [93], 0, [([], [], none, [])]), [])
def ai_231 : aInst := ((33, [aF], [], [.inr (0, 92), .inl (ae_s 0)], [], [93], 1, [([], [], none, [])]), [(2, [aF, (0, 42)], [], [(0, .inr (0, 92)), (1, .inl (ae_s 0)), (2, .inl (ae_s 1))], [], [], [93], ([(1, (-1))], 19327352831))])
def aIn_37 : List aInst := [ai_222, ai_223, ai_224, ai_225, ai_226, ai_227, ai_228, ai_229, ai_230, ai_231]
def aCs_37 : List aCon := ak_cons aIn_37 aCs_36
set_option maxRecDepth 100000 in
theorem aChk_37 : ak_chain 100000 aIn_37 aCs_36 = true := by decide +kernel
def ai_232 : aInst := ((151, [aF, aF, aF], [], [.inr (0, 0), .inl (ae_s 0), .inl (ae_s 1), .inl (ae_s 2)], [], [93], 2, [([], [], some (.inl (ae_k (-14))), []), ([], [], some (.inl (ae_k (-1))), []), ([(1, 1)], [], some (.inl (ae_s 3)), [])]), [])
def ai_233 : aInst := ((25, [aF, aF], [], [.inr (0, 92), .inl (ae_s 0), .inl (ae_s 1)], [], [], 0, [([aF], [], some (.inl (ae_s 2)), [])]), [])
def ai_234 : aInst := ((153, [aF, aF, aF], [], [.inr (0, 0), .inl (ae_s 0), .inl (ae_s 1), .inl (ae_s 2)], [], [93], 1, [([((-12), 1)], [], some (.inl (ae_s 3)), [])]), [])
def ai_235 : aInst := ((155, [aF, aF, aF], [], [.inr (0, 0), .inl (ae_s 0), .inl (ae_s 1), .inl (ae_s 2)], [], [], 2, [([aF], [], some (.inl (ae_s 3)), [])]), [])
def ai_236 : aInst := ((157, [aF, aF], [], [.inr (0, 0), .inl (ae_s 0), .inl (ae_s 1)], [], [2, 3], 5, [([((-2147483648), 15)], [], some (.inl (ae_s 2)), [])]), [])
def aIn_38 : List aInst := [ai_232, ai_233, ai_234, ai_235, ai_236]
def aCs_38 : List aCon := ak_cons aIn_38 aCs_37
set_option maxRecDepth 100000 in
theorem aChk_38 : ak_chain 100000 aIn_38 aCs_37 = true := by decide +kernel
def ai_237 : aInst := ((35, [aF], [], [.inr (0, 16), .inl (ae_s 0)], [], [], 0, [([], [], some (.inl (ae_k 0)), []), ([], [], some (.inl (ae_k 1)), [])]), [])
def ai_238 : aInst := ((5, [aF, aF, aF], [], [.inr (0, 94), .inl (ae_s 0), .inl (ae_s 1), .inl (ae_s 2)], [], [95], 0, [([], [], none, [])]), [])
def ai_239 : aInst := ((158, [aF, aF, aF], [], [.inr (0, 0), .inl (ae_s 0), .inl (ae_s 1), .inl (ae_s 2)], [], [95], 2, [([], [], some (.inl (ae_k (-1))), []), ([(1, 1)], [], some (.inl (ae_s 3)), [])]), [])
def ai_240 : aInst := ((25, [aF, aF], [], [.inr (0, 94), .inl (ae_s 0), .inl (ae_s 1)], [], [], 0, [([aF], [], some (.inl (ae_s 2)), [])]), [])
def ai_241 : aInst := ((25, [aF, aF], [], [.inr (0, 16), .inl (ae_s 0), .inl (ae_s 1)], [], [], 0, [([aF], [], some (.inl (ae_s 2)), [])]), [])
def ai_242 : aInst := ((167, [aF], [], [.inr (0, 96), .inl (ae_s 0)], [], [], 0, [([], [], some (.inl (ae_k 0)), []), ([], [], some (.inl (ae_k 1)), [])]), [(7, [aF, aF, (0, 7), aF], [], [(0, .inr (0, 96)), (1, .inl (ae_s 0)), (2, .inl (ae_s 1)), (3, .inl (ae_s 2))], [], [((96, ae_k 0), ae_s 3)], [], ([(2, (-1))], 19327352831))])
def ai_243 : aInst := ((161, [aF, aF], [], [.inr (0, 0), .inl (ae_s 0), .inl (ae_s 1)], [], [96], 3, [([aF], [], some (.inl (ae_s 2)), [])]), [])
def aIn_39 : List aInst := [ai_237, ai_238, ai_239, ai_240, ai_241, ai_242, ai_243]
def aCs_39 : List aCon := ak_cons aIn_39 aCs_38
set_option maxRecDepth 100000 in
theorem aChk_39 : ak_chain 100000 aIn_39 aCs_38 = true := by decide +kernel
