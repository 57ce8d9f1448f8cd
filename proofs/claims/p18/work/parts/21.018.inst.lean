def ai_411 : aInst := ((286, [aF], [], [.inr (0, 99), .inl (ae_s 0)], [], [99, 101, 116, 123, 126], 9, [([aF], [], some (.inl (ae_s 1)), [])]), [(78, [(0, 3), aF, (0, 16), aF], [], [(0, .inr (0, 99)), (1, .inl (ae_s 0)), (2, .inl (ae_s 1)), (3, .inl (ae_s 2))], [], [((99, ae_k 38), ae_s 3)], [99, 101, 116, 123, 126], ([(2, (-1))], 19327352831))])
def ai_412 : aInst := ((287, [aF, aF, aF], [], [.inr (0, 99), .inl (ae_s 0), .inl (ae_s 1), .inl (ae_s 2)], [], [100, 117], 1, [([], [], some (.inl (ae_k (-2))), []), ([], [], some (.inl (ae_k (-1))), []), ([(1, 8)], [], some (.inl (ae_s 3)), [])]), [])
def ai_413 : aInst := ((288, [aF, aF], [], [.inr (0, 99), .inl (ae_s 0), .inl (ae_s 1)], [], [130, 131], 1, [([], [], some (.inl (ae_k (-1))), []), ([aF], [], some (.inl (ae_s 2)), [])]), [(31, [(0, 99999), ((-2), 3), (0, 10)], [], [(0, .inr (0, 99)), (1, .inl (ae_s 0)), (2, .inl (ae_s 1)), (3, .inl (ae_k 0)), (4, .inl (ae_k 0)), (5, .inl (ae_s 2))], [], [], [130, 131], ([(2, (-274877906944))], 24202128224706931720191)), (63, [(0, 99999), ((-2), 3), aF, aF, ((-2147483647), 2147483647)], [], [(0, .inr (0, 99)), (1, .inl (ae_s 0)), (2, .inl (ae_s 1)), (3, .inl (ae_s 2)), (4, .inl (ae_s 3)), (5, .inl (ae_s 4))], [], [], [130, 131], ([(4, (-274877906944))], 19479761741837286506495)), (83, [(0, 99999), ((-2), 3), aF, aF, ((-2147483648), 2147483646), (0, 4)], [], [(0, .inr (0, 99)), (1, .inl (ae_s 0)), (2, .inl (ae_s 1)), (3, .inl (ae_s 2)), (4, .inl (ae_s 3)), (5, .inl (ae_s 4)), (6, .inl (ae_k 0)), (7, .inl (ae_s 5))], [], [], [130, 131], ([(4, (-274877906944)), (5, (-1))], 19479761741616095690751)), (106, [(0, 99999), ((-2), 3), aF, aF, ((-2147483648), 2147483646), aF, (0, 8)], [], [(0, .inr (0, 99)), (1, .inl (ae_s 0)), (2, .inl (ae_s 1)), (3, .inl (ae_s 2)), (4, .inl (ae_s 3)), (5, .inl (ae_s 4)), (6, .inl (ae_s 5)), (7, .inl (ae_s 6))], [], [], [130, 131], ([(4, (-274877906944)), (6, (-1))], 19479761741598915821567)), (211, [(0, 99999), ((-2), 3), ((-2147483648), 2147483646), ((-2147483648), 99999), ((-2147483648), 2147483646), ((-2147483648), 99999), (0, 4)], [], [(0, .inr (0, 99)), (1, .inl (ae_s 0)), (2, .inl (ae_s 1)), (3, .inl (ae_s 2)), (4, .inl (ae_s 3)), (5, .inl (ae_s 4)), (6, .inl (ae_s 5)), (7, .inl (ae_s 6))], [], [], [130, 131], ([(4, (-274877906944)), (6, (-1))], 19479761741581735952383))])
def ai_414 : aInst := ((289, [aF, aF, aF], [], [.inr (0, 99), .inl (ae_s 0), .inl (ae_s 1), .inl (ae_s 2)], [], [133, 134, 135], 2, [([], [], some (.inl (ae_k (-14))), []), ([], [], some (.inl (ae_k (-1))), []), ([(1, 1)], [], some (.inl (ae_s 3)), [])]), [(64, [(0, 3), ((-1), 4), aF, (0, 40)], [], [(0, .inr (0, 99)), (1, .inl (ae_s 0)), (2, .inl (ae_s 1)), (3, .inl (ae_s 2)), (4, .inl (ae_s 3))], [], [], [133, 134, 135], ([(3, (-1))], 19327352831))])
def aIn_68 : List aInst := [ai_411, ai_412, ai_413, ai_414]
def aCs_68 : List aCon := ak_cons aIn_68 aCs_67
set_option maxRecDepth 100000 in
theorem aChk_68 : ak_chain 100000 aIn_68 aCs_67 = true := by decide +kernel
def ai_415 : aInst := ((291, [aF, aF, aF], [], [.inr (0, 99), .inl (ae_s 0), .inl (ae_s 1), .inl (ae_s 2)], [], [135], 2, [([((-12), 1)], [], some (.inl (ae_s 3)), [])]), [])
def ai_416 : aInst := ((293, [aF, aF, aF], [], [.inr (0, 99), .inl (ae_s 0), .inl (ae_s 1), .inl (ae_s 2)], [], [], 2, [([aF], [], some (.inl (ae_s 3)), [])]), [])
def ai_417 : aInst := ((295, [aF, aF], [], [.inr (0, 99), .inl (ae_s 0), .inl (ae_s 1)], [], [100, 101], 2, [([((-13), 15)], [], some (.inl (ae_s 2)), [])]), [])
def ai_418 : aInst := ((296, [aF, aF, aF], [], [.inr (0, 99), .inl (ae_s 0), .inl (ae_s 1), .inl (ae_s 2)], [], [136, 137, 138], 3, [([], [], some (.inl (ae_k (-1))), []), ([(1, 1)], [], some (.inl (ae_s 3)), [])]), [])
def aIn_69 : List aInst := [ai_415, ai_416, ai_417, ai_418]
def aCs_69 : List aCon := ak_cons aIn_69 aCs_68
set_option maxRecDepth 100000 in
theorem aChk_69 : ak_chain 100000 aIn_69 aCs_68 = true := by decide +kernel
def ai_419 : aInst := ((298, [aF, aF], [], [.inr (0, 99), .inl (ae_s 0), .inl (ae_s 1)], [], [], 4, [([aF], [], some (.inl (ae_s 2)), [])]), [])
def aIn_70 : List aInst := [ai_419]
def aCs_70 : List aCon := ak_cons aIn_70 aCs_69
set_option maxRecDepth 100000 in
theorem aChk_70 : ak_chain 100000 aIn_70 aCs_69 = true := by decide +kernel
def ai_420 : aInst := ((301, [aF, aF, aF], [], [.inr (0, 99), .inl (ae_s 0), .inl (ae_s 1), .inl (ae_s 2)], [], [99, 139], 7, [([], [], some (.inl (ae_k (-15))), []), ([aF], [], some (.inl (ae_s 3)), [])]), [])
def aIn_71 : List aInst := [ai_420]
def aCs_71 : List aCon := ak_cons aIn_71 aCs_70
set_option maxRecDepth 100000 in
theorem aChk_71 : ak_chain 100000 aIn_71 aCs_70 = true := by decide +kernel
