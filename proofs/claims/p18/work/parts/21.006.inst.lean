def ai_123 : aInst := ((5, [aF, aF, aF], [], [.inr (0, 79), .inl (ae_s 0), .inl (ae_s 1), .inl (ae_s 2)], [], [80], 0, [([], [], none, [])]), [])
def ai_124 : aInst := ((94, [], [], [.inr (0, 75), .inl (ae_k 4)], [], [75, 79, 80], 7, [([], [], some (.inl (ae_k 0)), []), ([], [], some (.inl (ae_k 1)), [])]), [(4, [(0, 1), (0, 250)], [], [(0, .inr (0, 75)), (1, .inl (ae_k 4)), (2, .inl (ae_s 0)), (3, .inl (ae_s 1))], [], [], [75], ([(1, (-1))], 19327352831))])
def aIn_20 : List aInst := [ai_123, ai_124]
def aCs_20 : List aCon := ak_cons aIn_20 aCs_19
set_option maxRecDepth 100000 in
theorem aChk_20 : ak_chain 100000 aIn_20 aCs_19 = true := by decide +kernel
def ai_125 : aInst := ((91, [], [], [.inr (0, 75), .inr (1, 21)], [], [], 4, [([], [], some (.inl (ae_k 0)), []), ([], [], some (.inl (ae_k 1)), [])]), [(39, [(0, 3), (0, 247), (3, 250)], [], [(0, .inr (0, 75)), (1, .inr (1, 21)), (2, .inl (ae_s 0))], [], [((75, ae_k 4), ae_s 1), ((75, ae_k 5), ae_s 2)], [], ([(0, (-1))], 19327352831))])
def ai_126 : aInst := ((90, [], [], [.inr (0, 75), .inr (1, 21)], [], [75], 5, [([], [], some (.inl (ae_k 0)), []), ([], [], some (.inl (ae_k 1)), [])]), [])
def ai_127 : aInst := ((91, [], [], [.inr (0, 75), .inr (1, 22)], [], [], 4, [([], [], some (.inl (ae_k 0)), []), ([], [], some (.inl (ae_k 1)), [])]), [(39, [(0, 2), (0, 248), (2, 250)], [], [(0, .inr (0, 75)), (1, .inr (1, 22)), (2, .inl (ae_s 0))], [], [((75, ae_k 4), ae_s 1), ((75, ae_k 5), ae_s 2)], [], ([(0, (-1))], 19327352831))])
def ai_128 : aInst := ((90, [], [], [.inr (0, 75), .inr (1, 22)], [], [75], 5, [([], [], some (.inl (ae_k 0)), []), ([], [], some (.inl (ae_k 1)), [])]), [])
def ai_129 : aInst := ((93, [], [], [.inr (0, 75), .inl (ae_k 4)], [], [75, 79, 80], 8, [([], [], some (.inl (ae_k 0)), []), ([], [], some (.inl (ae_k 1)), [])]), [(2, [(0, 250)], [], [(0, .inr (0, 75)), (1, .inl (ae_k 4)), (2, .inl (ae_s 0))], [], [], [75, 79, 80], ([(0, (-274877906944))], 10035028776097996079103)), (21, [(0, 249), (0, 250)], [], [(0, .inr (0, 75)), (1, .inl (ae_k 4)), (2, .inl (ae_s 0)), (3, .inl (ae_s 1))], [], [], [75, 79, 80], ([(0, (-274877906944)), (1, (-1))], 10035028775842445524991))])
def ai_130 : aInst := ((91, [], [], [.inr (0, 75), .inr (1, 9)], [], [], 4, [([], [], some (.inl (ae_k 0)), []), ([], [], some (.inl (ae_k 1)), [])]), [(39, [(0, 1), (0, 249), (1, 250)], [], [(0, .inr (0, 75)), (1, .inr (1, 9)), (2, .inl (ae_s 0))], [], [((75, ae_k 4), ae_s 1), ((75, ae_k 5), ae_s 2)], [], ([(0, (-1))], 19327352831))])
def aIn_21 : List aInst := [ai_125, ai_126, ai_127, ai_128, ai_129, ai_130]
def aCs_21 : List aCon := ak_cons aIn_21 aCs_20
set_option maxRecDepth 100000 in
theorem aChk_21 : ak_chain 100000 aIn_21 aCs_20 = true := by decide +kernel
def ai_131 : aInst := ((90, [], [], [.inr (0, 75), .inr (1, 9)], [], [75], 5, [([], [], some (.inl (ae_k 0)), []), ([], [], some (.inl (ae_k 1)), [])]), [])
def ai_132 : aInst := ((94, [], [], [.inr (0, 75), .inl (ae_k 3)], [], [75, 79, 80], 9, [([], [], some (.inl (ae_k 0)), []), ([], [], some (.inl (ae_k 1)), [])]), [(4, [(0, 1), (0, 250)], [], [(0, .inr (0, 75)), (1, .inl (ae_k 3)), (2, .inl (ae_s 0)), (3, .inl (ae_s 1))], [], [], [75], ([(1, (-1))], 19327352831))])
def aIn_22 : List aInst := [ai_131, ai_132]
def aCs_22 : List aCon := ak_cons aIn_22 aCs_21
set_option maxRecDepth 100000 in
theorem aChk_22 : ak_chain 100000 aIn_22 aCs_21 = true := by decide +kernel
def ai_133 : aInst := ((93, [], [], [.inr (0, 75), .inl (ae_k 3)], [], [75, 79, 80], 10, [([], [], some (.inl (ae_k 0)), []), ([], [], some (.inl (ae_k 1)), [])]), [(2, [(0, 250)], [], [(0, .inr (0, 75)), (1, .inl (ae_k 3)), (2, .inl (ae_s 0))], [], [], [75, 79, 80], ([(0, (-274877906944))], 10035028776097996079103)), (21, [(0, 249), (0, 250)], [], [(0, .inr (0, 75)), (1, .inl (ae_k 3)), (2, .inl (ae_s 0)), (3, .inl (ae_s 1))], [], [], [75, 79, 80], ([(0, (-274877906944)), (1, (-1))], 10035028775842445524991))])
def ai_134 : aInst := ((94, [], [], [.inr (0, 75), .inl (ae_k 2)], [], [75, 79, 80], 11, [([], [], some (.inl (ae_k 0)), []), ([], [], some (.inl (ae_k 1)), [])]), [(4, [(0, 1), (0, 250)], [], [(0, .inr (0, 75)), (1, .inl (ae_k 2)), (2, .inl (ae_s 0)), (3, .inl (ae_s 1))], [], [], [75], ([(1, (-1))], 19327352831))])
def aIn_23 : List aInst := [ai_133, ai_134]
def aCs_23 : List aCon := ak_cons aIn_23 aCs_22
set_option maxRecDepth 100000 in
theorem aChk_23 : ak_chain 100000 aIn_23 aCs_22 = true := by decide +kernel
