def ai_191 : aInst := ((119, [aF, aF, aF, aF], [], [.inr (0, 81), .inr (0, 1), .inl (ae_s 0), .inl (ae_k 3), .inl (ae_s 1), .inl (ae_s 2), .inl (ae_s 3)], [], [81, 82, 83], 5, [([], [], none, [])]), [(3, [aF, aF, aF, aF, (0, 5)], [], [(0, .inr (0, 81)), (1, .inr (0, 1)), (2, .inl (ae_s 0)), (3, .inl (ae_k 3)), (4, .inl (ae_s 1)), (5, .inl (ae_s 2)), (6, .inl (ae_s 3)), (7, .inl (ae_s 4))], [], [], [81, 82, 83], ([(4, (-1))], 19327352831))])
def ai_192 : aInst := ((119, [aF, aF, aF, aF], [], [.inr (0, 81), .inr (0, 1), .inl (ae_s 0), .inl (ae_k 2), .inl (ae_s 1), .inl (ae_s 2), .inl (ae_s 3)], [], [81, 82, 83], 7, [([], [], none, [])]), [(3, [aF, aF, aF, aF, (0, 5)], [], [(0, .inr (0, 81)), (1, .inr (0, 1)), (2, .inl (ae_s 0)), (3, .inl (ae_k 2)), (4, .inl (ae_s 1)), (5, .inl (ae_s 2)), (6, .inl (ae_s 3)), (7, .inl (ae_s 4))], [], [], [81, 82, 83], ([(4, (-1))], 19327352831))])
def ai_193 : aInst := ((119, [aF, aF, aF, aF], [], [.inr (0, 81), .inr (0, 1), .inl (ae_s 0), .inl (ae_k 1), .inl (ae_s 1), .inl (ae_s 2), .inl (ae_s 3)], [], [81, 82, 83], 9, [([], [], none, [])]), [(3, [aF, aF, aF, aF, (0, 5)], [], [(0, .inr (0, 81)), (1, .inr (0, 1)), (2, .inl (ae_s 0)), (3, .inl (ae_k 1)), (4, .inl (ae_s 1)), (5, .inl (ae_s 2)), (6, .inl (ae_s 3)), (7, .inl (ae_s 4))], [], [], [81, 82, 83], ([(4, (-1))], 19327352831))])
def aIn_32 : List aInst := [ai_191, ai_192, ai_193]
def aCs_32 : List aCon := ak_cons aIn_32 aCs_31
set_option maxRecDepth 100000 in
theorem aChk_32 : ak_chain 100000 aIn_32 aCs_31 = true := by decide +kernel
def ai_194 : aInst := ((115, [aF, aF, aF], [], [.inr (0, 0), .inl (ae_s 0), .inl (ae_s 1), .inl (ae_s 2)], [], [81, 82, 83], 12, [([], [], some (.inl (ae_k (-3))), []), ([], [], some (.inl (ae_k (-1))), []), ([aF], [], some (.inl (ae_s 3)), [])]), [])
def ai_195 : aInst := ((124, [], [], [.inr (0, 1)], [], [], 2, [([aF], [], some (.inl (ae_s 0)), [])]), [(17, [((-1), 2147483646), aF, aF, aF], [], [(0, .inr (0, 1)), (1, .inl (ae_s 0)), (2, .inl (ae_s 1)), (3, .inl (ae_s 2))], [], [((1, ae_k 0), ae_s 3)], [], ([(2, (-1))], 19327352831))])
def ai_196 : aInst := ((5, [aF, aF, aF], [], [.inr (0, 88), .inl (ae_s 0), .inl (ae_s 1), .inl (ae_s 2)], [], [89], 0, [([], [], none, [])]), [])
def ai_197 : aInst := ((33, [aF], [], [.inr (0, 88), .inl (ae_s 0)], [], [89], 1, [([], [], none, [])]), [(2, [aF, (0, 3)], [], [(0, .inr (0, 88)), (1, .inl (ae_s 0)), (2, .inl (ae_s 1))], [], [], [89], ([(1, (-1))], 19327352831))])
def ai_198 : aInst := ((122, [aF], [], [.inr (0, 0), .inl (ae_s 0)], [], [88, 89], 6, [([], [], none, [])]), [(9, [aF, (0, 2147483647), (0, 12)], [], [(0, .inr (0, 0)), (1, .inl (ae_s 0)), (2, .inl (ae_s 1))], [], [((88, ae_k 3), ae_s 2)], [88, 89], ([(1, (-1))], 19327352831))])
def ai_199 : aInst := ((25, [aF, aF], [], [.inr (0, 88), .inl (ae_s 0), .inl (ae_s 1)], [], [], 0, [([aF], [], some (.inl (ae_s 2)), [])]), [])
def ai_200 : aInst := ((126, [aF], [], [.inr (0, 0), .inl (ae_s 0)], [], [], 2, [([((-1), 2147483646)], [], some (.inl (ae_s 1)), [])]), [(4, [aF, ((-1), 2147483646), (0, 2147483647)], [], [(0, .inr (0, 0)), (1, .inl (ae_s 0)), (2, .inl (ae_s 1)), (3, .inl (ae_s 2))], [], [], [], ([(2, (-1))], 19327352831))])
def aIn_33 : List aInst := [ai_194, ai_195, ai_196, ai_197, ai_198, ai_199, ai_200]
def aCs_33 : List aCon := ak_cons aIn_33 aCs_32
set_option maxRecDepth 100000 in
theorem aChk_33 : ak_chain 100000 aIn_33 aCs_32 = true := by decide +kernel
def ai_201 : aInst := ((125, [aF], [], [.inr (0, 0), .inl (ae_s 0)], [], [], 3, [([aF], [], some (.inl (ae_s 1)), [])]), [(10, [aF, aF, aF, aF, (0, 2147483647)], [], [(0, .inr (0, 0)), (1, .inl (ae_s 0)), (2, .inl (ae_s 1)), (3, .inl (ae_s 2)), (4, .inl (ae_s 3)), (5, .inl (ae_s 4))], [], [], [], ([(4, (-1))], 19327352831))])
def ai_202 : aInst := ((5, [aF, aF, aF], [], [.inr (0, 90), .inl (ae_s 0), .inl (ae_s 1), .inl (ae_s 2)], [], [91], 0, [([], [], none, [])]), [])
def ai_203 : aInst := ((33, [aF], [], [.inr (0, 90), .inl (ae_s 0)], [], [91], 1, [([], [], none, [])]), [(2, [aF, (0, 2)], [], [(0, .inr (0, 90)), (1, .inl (ae_s 0)), (2, .inl (ae_s 1))], [], [], [91], ([(1, (-1))], 19327352831))])
def ai_204 : aInst := ((128, [aF], [], [.inr (0, 0), .inl (ae_s 0)], [], [90, 91], 3, [([], [], none, [])]), [(9, [aF, (0, 2147483647), (0, 12)], [], [(0, .inr (0, 0)), (1, .inl (ae_s 0)), (2, .inl (ae_s 1))], [], [((90, ae_k 3), ae_s 2)], [90, 91], ([(1, (-1))], 19327352831))])
def ai_205 : aInst := ((121, [aF, aF], [], [.inr (0, 0), .inl (ae_s 0), .inl (ae_s 1)], [], [88, 89, 90, 91], 7, [([], [], some (.inl (ae_k (-1))), []), ([aF], [], some (.inl (ae_s 2)), [])]), [])
def ai_206 : aInst := ((35, [aF], [], [.inr (0, 90), .inl (ae_s 0)], [], [], 0, [([], [], some (.inl (ae_k 0)), []), ([], [], some (.inl (ae_k 1)), [])]), [])
def ai_207 : aInst := ((25, [aF, aF], [], [.inr (0, 90), .inl (ae_s 0), .inl (ae_s 1)], [], [], 0, [([aF], [], some (.inl (ae_s 2)), [])]), [])
def ai_208 : aInst := ((129, [aF, aF], [], [.inr (0, 0), .inl (ae_s 0), .inl (ae_s 1)], [], [], 1, [([], [], some (.inl (ae_k (-9))), []), ([aF], [], some (.inl (ae_s 2)), [])]), [])
def ai_209 : aInst := ((42, [aF, aF, aF], [], [.inr (0, 90), .inl (ae_s 0), .inl (ae_s 1), .inl (ae_s 2)], [], [91], 1, [([aF], [], some (.inl (ae_s 3)), [])]), [])
def ai_210 : aInst := ((130, [aF, aF, aF], [], [.inr (0, 0), .inl (ae_s 0), .inl (ae_s 1), .inl (ae_s 2)], [], [91], 2, [([], [], some (.inl (ae_k (-9))), []), ([aF], [], some (.inl (ae_s 3)), [])]), [])
def ai_211 : aInst := ((131, [aF, aF], [], [.inr (0, 0), .inl (ae_s 0), .inl (ae_s 1)], [], [], 6, [([], [], some (.inl (ae_k (-1))), []), ([(0, 2147483647)], [], some (.inl (ae_s 2)), [])]), [(27, [(1, 4), (0, 99999), ((-1), 2147483647), ((-2147483648), 99999), (0, 2147483647)], [], [(0, .inr (0, 0)), (1, .inl (ae_s 0)), (2, .inl (ae_s 1)), (3, .inl (ae_s 2)), (4, .inl (ae_s 3)), (5, .inl (ae_s 4))], [], [], [], ([(2, (-1))], 19327352831))])
def aIn_34 : List aInst := [ai_201, ai_202, ai_203, ai_204, ai_205, ai_206, ai_207, ai_208, ai_209, ai_210, ai_211]
def aCs_34 : List aCon := ak_cons aIn_34 aCs_33
set_option maxRecDepth 100000 in
theorem aChk_34 : ak_chain 100000 aIn_34 aCs_33 = true := by decide +kernel
def ai_212 : aInst := ((132, [aF, aF], [], [.inr (0, 0), .inl (ae_s 0), .inl (ae_s 1)], [], [1, 3, 21], 6, [([], [], some (.inl (ae_k (-4))), []), ([], [], some (.inl (ae_k (-1))), []), ([aF], [], some (.inl (ae_s 2)), [])]), [])
def ai_213 : aInst := ((135, [aF], [], [.inr (0, 0), .inl (ae_s 0)], [], [3], 2, [([], [], some (.inl (ae_k (-1))), []), ([(0, 1)], [], some (.inl (ae_s 1)), [])]), [])
def ai_214 : aInst := ((136, [aF, aF, aF, aF, aF, aF], [], [.inr (0, 0), .inl (ae_s 0), .inl (ae_s 1), .inl (ae_s 2), .inl (ae_s 3), .inl (ae_s 4), .inl (ae_s 5)], [], [], 1, [([], [], some (.inl (ae_k (-1))), []), ([((-2147483648), 9999)], [], some (.inl (ae_s 6)), [])]), [(79, [(1, 9999), (0, 999), (0, 999), (0, 6), (0, 9999), (0, 1), ((-2147483648), 9999), (0, 7), (1, 8)], [], [(0, .inr (0, 0)), (1, .inl (ae_s 0)), (2, .inl (ae_s 1)), (3, .inl (ae_s 2)), (4, .inl (ae_s 3)), (5, .inl (ae_s 4)), (6, .inl (ae_s 5)), (7, .inl (ae_s 6)), (8, .inl (ae_s 7)), (9, .inl (ae_s 8))], [], [], [], ([(8, (-1))], 19327352831))])
def ai_215 : aInst := ((33, [aF], [], [.inr (0, 34), .inl (ae_s 0)], [], [35], 1, [([], [], none, [])]), [(2, [aF, (0, 4)], [], [(0, .inr (0, 34)), (1, .inl (ae_s 0)), (2, .inl (ae_s 1))], [], [], [35], ([(1, (-1))], 19327352831))])
def ai_216 : aInst := ((137, [aF, aF], [], [.inr (0, 0), .inl (ae_s 0), .inl (ae_s 1)], [], [34, 35], 3, [([], [], some (.inl (ae_k (-2))), []), ([], [], some (.inl (ae_k (-1))), []), ([((-2147483648), 3)], [], some (.inl (ae_s 2)), [])]), [])
def aIn_35 : List aInst := [ai_212, ai_213, ai_214, ai_215, ai_216]
def aCs_35 : List aCon := ak_cons aIn_35 aCs_34
set_option maxRecDepth 100000 in
theorem aChk_35 : ak_chain 100000 aIn_35 aCs_34 = true := by decide +kernel
