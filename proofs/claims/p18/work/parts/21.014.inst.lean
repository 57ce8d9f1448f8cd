def ai_318 : aInst := ((170, [aF, aF, aF], [], [.inr (0, 96), .inl (ae_s 0), .inl (ae_s 1), .inl (ae_s 2), .inl (ae_k 5)], [], [96, 97, 98], 73, [([aF], [], some (.inl (ae_s 3)), [])]), [])
def ai_319 : aInst := ((171, [aF, aF], [], [.inr (0, 96), .inl (ae_s 0), .inl (ae_s 1), .inl (ae_k 5)], [], [96, 97, 98], 74, [([aF], [], some (.inl (ae_s 2)), [])]), [])
def ai_320 : aInst := ((170, [aF, aF, aF], [], [.inr (0, 96), .inl (ae_s 0), .inl (ae_s 1), .inl (ae_s 2), .inl (ae_k 4)], [], [96, 97, 98], 75, [([aF], [], some (.inl (ae_s 3)), [])]), [])
def ai_321 : aInst := ((171, [aF, aF], [], [.inr (0, 96), .inl (ae_s 0), .inl (ae_s 1), .inl (ae_k 4)], [], [96, 97, 98], 76, [([aF], [], some (.inl (ae_s 2)), [])]), [])
def ai_322 : aInst := ((170, [aF, aF, aF], [], [.inr (0, 96), .inl (ae_s 0), .inl (ae_s 1), .inl (ae_s 2), .inl (ae_k 3)], [], [96, 97, 98], 77, [([aF], [], some (.inl (ae_s 3)), [])]), [])
def ai_323 : aInst := ((171, [aF, aF], [], [.inr (0, 96), .inl (ae_s 0), .inl (ae_s 1), .inl (ae_k 3)], [], [96, 97, 98], 78, [([aF], [], some (.inl (ae_s 2)), [])]), [])
def aIn_52 : List aInst := [ai_318, ai_319, ai_320, ai_321, ai_322, ai_323]
def aCs_52 : List aCon := ak_cons aIn_52 aCs_51
set_option maxRecDepth 100000 in
theorem aChk_52 : ak_chain 100000 aIn_52 aCs_51 = true := by decide +kernel
def ai_324 : aInst := ((170, [aF, aF, aF], [], [.inr (0, 96), .inl (ae_s 0), .inl (ae_s 1), .inl (ae_s 2), .inl (ae_k 2)], [], [96, 97, 98], 79, [([aF], [], some (.inl (ae_s 3)), [])]), [])
def ai_325 : aInst := ((171, [aF, aF], [], [.inr (0, 96), .inl (ae_s 0), .inl (ae_s 1), .inl (ae_k 2)], [], [96, 97, 98], 80, [([aF], [], some (.inl (ae_s 2)), [])]), [])
def ai_326 : aInst := ((170, [aF, aF, aF], [], [.inr (0, 96), .inl (ae_s 0), .inl (ae_s 1), .inl (ae_s 2), .inl (ae_k 1)], [], [96, 97, 98], 81, [([aF], [], some (.inl (ae_s 3)), [])]), [])
def ai_327 : aInst := ((171, [aF, aF], [], [.inr (0, 96), .inl (ae_s 0), .inl (ae_s 1), .inl (ae_k 1)], [], [96, 97, 98], 82, [([aF], [], some (.inl (ae_s 2)), [])]), [])
def ai_328 : aInst := ((170, [aF, aF, aF], [], [.inr (0, 96), .inl (ae_s 0), .inl (ae_s 1), .inl (ae_s 2), .inl (ae_k 0)], [], [96, 97, 98], 83, [([aF], [], some (.inl (ae_s 3)), [])]), [])
def ai_329 : aInst := ((168, [aF, aF, aF], [], [.inr (0, 0), .inl (ae_s 0), .inl (ae_s 1), .inl (ae_s 2)], [], [96, 97, 98], 85, [([], [], some (.inl (ae_k (-15))), []), ([aF], [], some (.inl (ae_s 3)), [])]), [])
def aIn_53 : List aInst := [ai_324, ai_325, ai_326, ai_327, ai_328, ai_329]
def aCs_53 : List aCon := ak_cons aIn_53 aCs_52
set_option maxRecDepth 100000 in
theorem aChk_53 : ak_chain 100000 aIn_53 aCs_52 = true := by decide +kernel
def ai_330 : aInst := ((35, [aF], [], [.inr (0, 97), .inl (ae_s 0)], [], [], 0, [([], [], some (.inl (ae_k 0)), []), ([], [], some (.inl (ae_k 1)), [])]), [])
def ai_331 : aInst := ((25, [aF, aF], [], [.inr (0, 97), .inl (ae_s 0), .inl (ae_s 1)], [], [], 0, [([aF], [], some (.inl (ae_s 2)), [])]), [])
def ai_332 : aInst := ((173, [aF], [], [.inr (0, 0), .inl (ae_s 0)], [], [], 1, [([], [], some (.inl (ae_k (-3))), []), ([aF], [], some (.inl (ae_s 1)), [])]), [])
def ai_333 : aInst := ((176, [], [], [.inr (0, 1)], [], [], 1, [([aF], [], some (.inl (ae_s 0)), [])]), [(4, [aF, (0, 2147483647)], [], [(0, .inr (0, 1)), (1, .inl (ae_s 0)), (2, .inl (ae_s 1))], [], [], [], ([(1, (-1))], 19327352831))])
def ai_334 : aInst := ((175, [aF], [], [.inr (0, 1), .inl (ae_s 0)], [], [], 1, [([aF], [], some (.inl (ae_s 1)), [])]), [(4, [aF, aF, (0, 2147483647)], [], [(0, .inr (0, 1)), (1, .inl (ae_s 0)), (2, .inl (ae_s 1)), (3, .inl (ae_s 2))], [], [], [], ([(2, (-1))], 19327352831))])
def ai_335 : aInst := ((174, [aF], [], [.inr (0, 0), .inl (ae_s 0)], [], [], 2, [([], [], some (.inl (ae_k (-1))), []), ([aF], [], some (.inl (ae_s 1)), [])]), [])
def aIn_54 : List aInst := [ai_330, ai_331, ai_332, ai_333, ai_334, ai_335]
def aCs_54 : List aCon := ak_cons aIn_54 aCs_53
set_option maxRecDepth 100000 in
theorem aChk_54 : ak_chain 100000 aIn_54 aCs_53 = true := by decide +kernel
def ai_338 : aInst := ((187, [(0, 0)], [], [.inr (0, 99), .inl (ae_s 0)], [], [101], 1, [([], [], none, [])]), [(2, [(0, 0), (0, 16)], [], [(0, .inr (0, 99)), (1, .inl (ae_s 0)), (2, .inl (ae_s 1))], [], [], [101], ([(1, (-1))], 19327352831))])
def ai_339 : aInst := ((187, [(0, 1)], [], [.inr (0, 99), .inl (ae_s 0)], [], [101], 1, [([], [], none, [])]), [(2, [(0, 1), (0, 16)], [], [(0, .inr (0, 99)), (1, .inl (ae_s 0)), (2, .inl (ae_s 1))], [], [], [101], ([(1, (-1))], 19327352831))])
def aIn_55 : List aInst := [ai_338, ai_339]
def aCs_55 : List aCon := ak_cons aIn_55 aCs_54
set_option maxRecDepth 100000 in
theorem aChk_55 : ak_chain 100000 aIn_55 aCs_54 = true := by decide +kernel
