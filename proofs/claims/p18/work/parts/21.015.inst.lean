def ai_340 : aInst := ((187, [(0, 3)], [], [.inr (0, 99), .inl (ae_s 0)], [], [101], 1, [([], [], none, [])]), [(2, [(0, 3), (0, 16)], [], [(0, .inr (0, 99)), (1, .inl (ae_s 0)), (2, .inl (ae_s 1))], [], [], [101], ([(1, (-1))], 19327352831))])
def ai_341 : aInst := ((184, [], [], [.inr (0, 99)], [], [101], 2, [([], [], none, [])]), [(9, [aF, (0, 16)], [], [(0, .inr (0, 99)), (1, .inl (ae_s 0)), (2, .inl (ae_s 1))], [], [], [101], ([(1, (-1))], 53687091199)), (71, [aF, (0, 4)], [], [(0, .inr (0, 99)), (1, .inl (ae_s 0)), (2, .inl (ae_s 1))], [], [], [101], ([(1, (-1))], 36507222015)), (109, [aF, (0, 16)], [], [(0, .inr (0, 99)), (1, .inl (ae_s 0)), (2, .inl (ae_s 1))], [], [], [101], ([(1, (-1))], 19327352831))])
def ai_342 : aInst := ((182, [aF], [], [.inr (0, 99), .inl (ae_s 0)], [], [100, 101], 3, [([], [], some (.inl (ae_k (-4))), []), ([], [], some (.inl (ae_k (-1))), []), ([aF], [], some (.inl (ae_s 1)), [])]), [(32, [(1, 200), (0, 200)], [], [(0, .inr (0, 99)), (1, .inl (ae_s 0)), (2, .inl (ae_s 1))], [], [], [100, 101], ([(1, (-1))], 19327352831))])
def ai_343 : aInst := ((189, [aF], [], [.inl (ae_s 0)], [], [], 0, [([], [], some (.inl (ae_k 0)), []), ([], [], some (.inl (ae_k 1)), [])]), [(4, [aF, aF, aF], [], [(0, .inl (ae_s 0)), (1, .inl (ae_s 1)), (2, .inl (ae_s 2))], [], [], [], ([(2, 1)], 19327352832))])
def ai_344 : aInst := ((188, [aF, aF, aF, aF, aF], [], [.inr (0, 99), .inl (ae_s 0), .inl (ae_s 1), .inl (ae_s 2), .inl (ae_s 3), .inl (ae_s 4)], [], [100, 101], 1, [([], [], some (.inl (ae_k (-2))), []), ([], [], some (.inl (ae_k (-1))), []), ([(0, 15)], [], some (.inl (ae_s 5)), [])]), [])
def aIn_56 : List aInst := [ai_340, ai_341, ai_342, ai_343, ai_344]
def aCs_56 : List aCon := ak_cons aIn_56 aCs_55
set_option maxRecDepth 100000 in
theorem aChk_56 : ak_chain 100000 aIn_56 aCs_55 = true := by decide +kernel
def ai_345 : aInst := ((190, [aF, aF], [], [.inr (0, 99), .inl (ae_s 0), .inl (ae_s 1)], [], [], 3, [([], [], some (.inl (ae_k (-3))), []), ([], [], some (.inl (ae_k (-1))), []), ([aF], [], some (.inl (ae_s 2)), [])]), [])
def ai_346 : aInst := ((195, [aF, (0, 1)], [], [.inr (0, 99), .inl (ae_s 0), .inl (ae_s 1)], [], [101, 116], 2, [([], [], some (.inl (ae_k (-4))), []), ([], [], some (.inl (ae_k (-1))), []), ([(0, 1)], [], some (.inl (ae_s 2)), [])]), [])
def ai_347 : aInst := ((196, [aF, (0, 1)], [], [.inr (0, 99), .inl (ae_s 0), .inl (ae_s 1)], [], [101], 2, [([], [], some (.inl (ae_k (-1))), []), ([aF], [], some (.inl (ae_s 2)), [])]), [])
def ai_348 : aInst := ((197, [aF, aF], [], [.inr (0, 99), .inl (ae_s 0), .inl (ae_s 1)], [], [101], 2, [([], [], some (.inl (ae_k (-4))), []), ([], [], some (.inl (ae_k (-1))), []), ([(1, 1)], [], some (.inl (ae_s 2)), [])]), [])
def aIn_57 : List aInst := [ai_345, ai_346, ai_347, ai_348]
def aCs_57 : List aCon := ak_cons aIn_57 aCs_56
set_option maxRecDepth 100000 in
theorem aChk_57 : ak_chain 100000 aIn_57 aCs_56 = true := by decide +kernel
def ai_349 : aInst := ((198, [aF, aF], [], [.inr (0, 99), .inl (ae_s 0), .inl (ae_s 1)], [], [102], 1, [([], [], some (.inl (ae_k (-1))), []), ([(0, 4)], [], some (.inl (ae_s 2)), [])]), [])
def ai_350 : aInst := ((199, [aF, aF], [], [.inr (0, 99), .inl (ae_s 0), .inl (ae_s 1)], [], [100, 106], 2, [([], [], some (.inl (ae_k (-2))), []), ([], [], some (.inl (ae_k (-1))), []), ([(0, 11)], [], some (.inl (ae_s 2)), [])]), [])
def ai_351 : aInst := ((200, [aF, aF], [], [.inr (0, 99), .inl (ae_s 0), .inl (ae_s 1)], [], [103], 1, [([], [], some (.inl (ae_k (-1))), []), ([aF], [], some (.inl (ae_s 2)), [])]), [])
def ai_352 : aInst := ((201, [aF, aF], [], [.inr (0, 99), .inl (ae_s 0), .inl (ae_s 1)], [], [104], 1, [([], [], some (.inl (ae_k (-1))), []), ([aF], [], some (.inl (ae_s 2)), [])]), [])
def ai_353 : aInst := ((204, [(0, 15), (0, 1999)], [], [.inr (0, 99), .inl (ae_s 0), .inl (ae_s 1)], [], [], 1, [([aF], [], some (.inl (ae_s 2)), [])]), [(5, [(0, 15), (0, 1999), aF, (0, 12)], [], [(0, .inr (0, 99)), (1, .inl (ae_s 0)), (2, .inl (ae_s 1)), (3, .inl (ae_s 2)), (4, .inl (ae_s 3))], [], [], [], ([(3, (-1))], 19327352831))])
def ai_354 : aInst := ((202, [aF, aF], [], [.inr (0, 99), .inl (ae_s 0), .inl (ae_s 1)], [], [], 2, [([], [], some (.inl (ae_k (-1))), []), ([aF], [], some (.inl (ae_s 2)), [])]), [])
def aIn_58 : List aInst := [ai_349, ai_350, ai_351, ai_352, ai_353, ai_354]
def aCs_58 : List aCon := ak_cons aIn_58 aCs_57
set_option maxRecDepth 100000 in
theorem aChk_58 : ak_chain 100000 aIn_58 aCs_57 = true := by decide +kernel
def ai_355 : aInst := ((205, [aF, aF], [], [.inr (0, 99), .inl (ae_s 0), .inl (ae_s 1)], [], [105], 1, [([], [], some (.inl (ae_k (-1))), []), ([aF], [], some (.inl (ae_s 2)), [])]), [])
def ai_356 : aInst := ((207, [aF], [], [.inr (0, 99), .inl (ae_s 0)], [], [], 0, [([aF], [], some (.inl (ae_s 1)), [])]), [(7, [aF, aF, aF, aF], [], [(0, .inr (0, 99)), (1, .inl (ae_s 0)), (2, .inl (ae_s 1)), (3, .inl (ae_s 2)), (4, .inl (ae_s 3))], [], [], [], ([(3, 1)], 19327352832))])
def ai_357 : aInst := ((206, [aF], [], [.inr (0, 99), .inl (ae_s 0)], [], [], 1, [([], [], some (.inl (ae_k (-1))), []), ([aF], [], some (.inl (ae_s 1)), [])]), [])
def ai_358 : aInst := ((211, [aF, aF], [], [.inr (0, 99), .inl (ae_s 0), .inl (ae_s 1)], [], [], 1, [([aF], [], some (.inl (ae_s 2)), [])]), [(12, [aF, aF, aF, aF, (0, 16)], [], [(0, .inr (0, 99)), (1, .inl (ae_s 0)), (2, .inl (ae_s 1)), (3, .inl (ae_s 2)), (4, .inl (ae_s 3)), (5, .inl (ae_s 4))], [], [], [], ([(4, (-1))], 19327352831))])
def ai_359 : aInst := ((208, [aF, aF], [], [.inr (0, 99), .inl (ae_s 0), .inl (ae_s 1)], [], [], 3, [([], [], some (.inl (ae_k (-1))), []), ([aF], [], some (.inl (ae_s 2)), [])]), [])
def ai_360 : aInst := ((213, [aF], [], [.inl (ae_s 0)], [], [], 0, [([aF], [], some (.inl (ae_s 1)), [])]), [(4, [aF, aF, (0, 16)], [], [(0, .inl (ae_s 0)), (1, .inl (ae_s 1)), (2, .inl (ae_s 2))], [], [], [], ([(2, (-1))], 19327352831))])
def ai_361 : aInst := ((214, [aF, aF], [], [.inr (0, 99), .inl (ae_s 0), .inl (ae_s 1)], [], [], 4, [([(0, 2147483647)], [], some (.inl (ae_s 2)), [])]), [(5, [aF, aF, (0, 2147483647), (0, 16)], [], [(0, .inr (0, 99)), (1, .inl (ae_s 0)), (2, .inl (ae_s 1)), (3, .inl (ae_s 2)), (4, .inl (ae_s 3))], [], [], [], ([(3, (-274877906944))], 10035028776097996079103)), (22, [aF, aF, (0, 2147483647), (0, 15), aF, (0, 16)], [], [(0, .inr (0, 99)), (1, .inl (ae_s 0)), (2, .inl (ae_s 1)), (3, .inl (ae_s 2)), (4, .inl (ae_s 3)), (5, .inl (ae_s 4)), (6, .inl (ae_s 5))], [], [], [], ([(3, (-274877906944)), (5, (-1))], 10035028775842445524991))])
def aIn_59 : List aInst := [ai_355, ai_356, ai_357, ai_358, ai_359, ai_360, ai_361]
def aCs_59 : List aCon := ak_cons aIn_59 aCs_58
set_option maxRecDepth 100000 in
theorem aChk_59 : ak_chain 100000 aIn_59 aCs_58 = true := by decide +kernel
