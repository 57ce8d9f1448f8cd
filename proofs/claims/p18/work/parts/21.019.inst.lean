def ai_421 : aInst := ((312, [aF], [], [.inr (0, 99), .inl (ae_s 0)], [], [], 1, [([], [], some (.inl (ae_k (-3))), []), ([aF], [], some (.inl (ae_s 1)), [])]), [])
def ai_422 : aInst := ((315, [aF], [], [.inr (0, 99), .inl (ae_s 0)], [], [], 1, [([aF], [], some (.inl (ae_s 1)), [])]), [(4, [aF, aF, (0, 16)], [], [(0, .inr (0, 99)), (1, .inl (ae_s 0)), (2, .inl (ae_s 1)), (3, .inl (ae_s 2))], [], [], [], ([(2, (-1))], 19327352831))])
def ai_423 : aInst := ((314, [], [], [.inr (0, 99)], [], [], 0, [([aF], [], some (.inl (ae_s 0)), [])]), [(4, [aF, (0, 12)], [], [(0, .inr (0, 99)), (1, .inl (ae_s 0)), (2, .inl (ae_s 1))], [], [], [], ([(1, (-1))], 19327352831))])
def ai_424 : aInst := ((313, [aF], [], [.inr (0, 99), .inl (ae_s 0)], [], [], 2, [([], [], some (.inl (ae_k (-1))), []), ([aF], [], some (.inl (ae_s 1)), [])]), [])
def aIn_72 : List aInst := [ai_421, ai_422, ai_423, ai_424]
def aCs_72 : List aCon := ak_cons aIn_72 aCs_71
set_option maxRecDepth 100000 in
theorem aChk_72 : ak_chain 100000 aIn_72 aCs_71 = true := by decide +kernel
