def ai_135 : aInst := ((93, [], [], [.inr (0, 75), .inl (ae_k 2)], [], [75, 79, 80], 12, [([], [], some (.inl (ae_k 0)), []), ([], [], some (.inl (ae_k 1)), [])]), [(2, [(0, 250)], [], [(0, .inr (0, 75)), (1, .inl (ae_k 2)), (2, .inl (ae_s 0))], [], [], [75, 79, 80], ([(0, (-274877906944))], 10035028776097996079103)), (21, [(0, 249), (0, 250)], [], [(0, .inr (0, 75)), (1, .inl (ae_k 2)), (2, .inl (ae_s 0)), (3, .inl (ae_s 1))], [], [], [75, 79, 80], ([(0, (-274877906944)), (1, (-1))], 10035028775842445524991))])
def ai_136 : aInst := ((94, [], [], [.inr (0, 75), .inl (ae_k 1)], [], [75, 79, 80], 13, [([], [], some (.inl (ae_k 0)), []), ([], [], some (.inl (ae_k 1)), [])]), [(4, [(0, 1), (0, 250)], [], [(0, .inr (0, 75)), (1, .inl (ae_k 1)), (2, .inl (ae_s 0)), (3, .inl (ae_s 1))], [], [], [75], ([(1, (-1))], 19327352831))])
def aIn_24 : List aInst := [ai_135, ai_136]
def aCs_24 : List aCon := ak_cons aIn_24 aCs_23
set_option maxRecDepth 100000 in
theorem aChk_24 : ak_chain 100000 aIn_24 aCs_23 = true := by decide +kernel
def ai_137 : aInst := ((93, [], [], [.inr (0, 75), .inl (ae_k 1)], [], [75, 79, 80], 14, [([], [], some (.inl (ae_k 0)), []), ([], [], some (.inl (ae_k 1)), [])]), [(2, [(0, 250)], [], [(0, .inr (0, 75)), (1, .inl (ae_k 1)), (2, .inl (ae_s 0))], [], [], [75, 79, 80], ([(0, (-274877906944))], 10035028776097996079103)), (21, [(0, 249), (0, 250)], [], [(0, .inr (0, 75)), (1, .inl (ae_k 1)), (2, .inl (ae_s 0)), (3, .inl (ae_s 1))], [], [], [75, 79, 80], ([(0, (-274877906944)), (1, (-1))], 10035028775842445524991))])
def ai_138 : aInst := ((94, [], [], [.inr (0, 75), .inl (ae_k 0)], [], [75, 79, 80], 15, [([], [], some (.inl (ae_k 0)), []), ([], [], some (.inl (ae_k 1)), [])]), [(4, [(0, 1), (0, 250)], [], [(0, .inr (0, 75)), (1, .inl (ae_k 0)), (2, .inl (ae_s 0)), (3, .inl (ae_s 1))], [], [], [75], ([(1, (-1))], 19327352831))])
def aIn_25 : List aInst := [ai_137, ai_138]
def aCs_25 : List aCon := ak_cons aIn_25 aCs_24
set_option maxRecDepth 100000 in
theorem aChk_25 : ak_chain 100000 aIn_25 aCs_24 = true := by decide +kernel
def ai_139 : aInst := ((93, [], [], [.inr (0, 75), .inl (ae_k 0)], [], [75, 79, 80], 16, [([], [], some (.inl (ae_k 0)), []), ([], [], some (.inl (ae_k 1)), [])]), [(2, [(0, 250)], [], [(0, .inr (0, 75)), (1, .inl (ae_k 0)), (2, .inl (ae_s 0))], [], [], [75, 79, 80], ([(0, (-274877906944))], 10035028776097996079103)), (21, [(0, 249), (0, 250)], [], [(0, .inr (0, 75)), (1, .inl (ae_k 0)), (2, .inl (ae_s 0)), (3, .inl (ae_s 1))], [], [], [75, 79, 80], ([(0, (-274877906944)), (1, (-1))], 10035028775842445524991))])
def ai_140 : aInst := ((91, [], [], [.inr (0, 75), .inr (1, 5)], [], [], 4, [([], [], some (.inl (ae_k 0)), []), ([], [], some (.inl (ae_k 1)), [])]), [(39, [(0, 4), (0, 246), (4, 250)], [], [(0, .inr (0, 75)), (1, .inr (1, 5)), (2, .inl (ae_s 0))], [], [((75, ae_k 4), ae_s 1), ((75, ae_k 5), ae_s 2)], [], ([(0, (-1))], 19327352831))])
def ai_141 : aInst := ((90, [], [], [.inr (0, 75), .inr (1, 5)], [], [75], 5, [([], [], some (.inl (ae_k 0)), []), ([], [], some (.inl (ae_k 1)), [])]), [])
def ai_142 : aInst := ((84, [], [], [.inr (0, 75)], [], [75, 77, 78, 79, 80], 18, [([], [], some (.inl (ae_k 0)), []), ([], [], some (.inl (ae_k 1)), [])]), [(25, [(0, 9), (0, 9), aF], [], [(0, .inr (0, 75)), (1, .inl (ae_s 0))], [], [((77, ae_k 3), ae_s 1), ((79, ae_k 3), ae_s 2)], [75, 77, 78, 79, 80], ([(0, (-1))], 19327352831))])
def aIn_26 : List aInst := [ai_139, ai_140, ai_141, ai_142]
def aCs_26 : List aCon := ak_cons aIn_26 aCs_25
set_option maxRecDepth 100000 in
theorem aChk_26 : ak_chain 100000 aIn_26 aCs_25 = true := by decide +kernel
def ai_145 : aInst := ((25, [aF, aF], [], [.inr (0, 77), .inl (ae_s 0), .inl (ae_s 1)], [], [], 0, [([aF], [], some (.inl (ae_s 2)), [])]), [])
def ai_147 : aInst := ((25, [aF, aF], [], [.inr (0, 79), .inl (ae_s 0), .inl (ae_s 1)], [], [], 0, [([aF], [], some (.inl (ae_s 2)), [])]), [])
def ai_148 : aInst := ((5, [aF, aF, aF], [], [.inr (0, 26), .inl (ae_s 0), .inl (ae_s 1), .inl (ae_s 2)], [], [27], 0, [([], [], none, [])]), [])
def ai_151 : aInst := ((35, [aF], [], [.inr (0, 22), .inl (ae_s 0)], [], [], 0, [([], [], some (.inl (ae_k 0)), []), ([], [], some (.inl (ae_k 1)), [])]), [])
def ai_152 : aInst := ((98, [aF, aF], [], [.inr (0, 0), .inl (ae_s 0), .inl (ae_s 1)], [], [], 1, [([], [], some (.inl (ae_k (-1))), []), ([aF], [], some (.inl (ae_s 2)), [])]), [])
def ai_153 : aInst := ((100, [aF, aF], [], [.inr (0, 1), .inl (ae_s 0), .inl (ae_s 1)], [], [], 4, [([aF], [], some (.inl (ae_s 2)), [])]), [(13, [aF, aF, ((-1), 2147483646), aF], [], [(0, .inr (0, 1)), (1, .inl (ae_s 0)), (2, .inl (ae_s 1)), (3, .inl (ae_s 2)), (4, .inl (ae_s 3))], [], [], [], ([(3, (-1))], 19327352831))])
def aIn_27 : List aInst := [ai_145, ai_147, ai_148, ai_151, ai_152, ai_153]
def aCs_27 : List aCon := ak_cons aIn_27 aCs_26
set_option maxRecDepth 100000 in
theorem aChk_27 : ak_chain 100000 aIn_27 aCs_26 = true := by decide +kernel
