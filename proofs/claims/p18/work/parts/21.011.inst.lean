def ai_244 : aInst := ((5, [aF, aF, aF], [], [.inr (0, 97), .inl (ae_s 0), .inl (ae_s 1), .inl (ae_s 2)], [], [98], 0, [([], [], none, [])]), [])
def ai_245 : aInst := ((33, [aF], [], [.inr (0, 97), .inl (ae_s 0)], [], [98], 1, [([], [], none, [])]), [(2, [aF, (0, 1)], [], [(0, .inr (0, 97)), (1, .inl (ae_s 0)), (2, .inl (ae_s 1))], [], [], [98], ([(1, (-1))], 19327352831))])
def ai_246 : aInst := ((170, [aF, aF, aF], [], [.inr (0, 96), .inl (ae_s 0), .inl (ae_s 1), .inl (ae_s 2), .inl (ae_k 41)], [], [], 0, [([(0, 0)], [], some (.inl (ae_s 3)), [])]), [])
def ai_247 : aInst := ((171, [aF, aF], [], [.inr (0, 96), .inl (ae_s 0), .inl (ae_s 1), .inl (ae_k 41)], [], [96], 1, [([], [], some (.inl (ae_k (-7))), []), ([aF], [], some (.inl (ae_s 2)), [])]), [])
def ai_248 : aInst := ((170, [aF, aF, aF], [], [.inr (0, 96), .inl (ae_s 0), .inl (ae_s 1), .inl (ae_s 2), .inl (ae_k 40)], [], [96, 97, 98], 3, [([], [], some (.inl (ae_k (-7))), []), ([aF], [], some (.inl (ae_s 3)), [])]), [])
def ai_249 : aInst := ((171, [aF, aF], [], [.inr (0, 96), .inl (ae_s 0), .inl (ae_s 1), .inl (ae_k 40)], [], [96, 97, 98], 4, [([aF], [], some (.inl (ae_s 2)), [])]), [])
def ai_250 : aInst := ((170, [aF, aF, aF], [], [.inr (0, 96), .inl (ae_s 0), .inl (ae_s 1), .inl (ae_s 2), .inl (ae_k 39)], [], [96, 97, 98], 5, [([aF], [], some (.inl (ae_s 3)), [])]), [])
def ai_251 : aInst := ((171, [aF, aF], [], [.inr (0, 96), .inl (ae_s 0), .inl (ae_s 1), .inl (ae_k 39)], [], [96, 97, 98], 6, [([aF], [], some (.inl (ae_s 2)), [])]), [])
def aIn_40 : List aInst := [ai_244, ai_245, ai_246, ai_247, ai_248, ai_249, ai_250, ai_251]
def aCs_40 : List aCon := ak_cons aIn_40 aCs_39
set_option maxRecDepth 100000 in
theorem aChk_40 : ak_chain 100000 aIn_40 aCs_39 = true := by decide +kernel
def ai_252 : aInst := ((170, [aF, aF, aF], [], [.inr (0, 96), .inl (ae_s 0), .inl (ae_s 1), .inl (ae_s 2), .inl (ae_k 38)], [], [96, 97, 98], 7, [([aF], [], some (.inl (ae_s 3)), [])]), [])
def ai_253 : aInst := ((171, [aF, aF], [], [.inr (0, 96), .inl (ae_s 0), .inl (ae_s 1), .inl (ae_k 38)], [], [96, 97, 98], 8, [([aF], [], some (.inl (ae_s 2)), [])]), [])
def ai_254 : aInst := ((170, [aF, aF, aF], [], [.inr (0, 96), .inl (ae_s 0), .inl (ae_s 1), .inl (ae_s 2), .inl (ae_k 37)], [], [96, 97, 98], 9, [([aF], [], some (.inl (ae_s 3)), [])]), [])
def ai_255 : aInst := ((171, [aF, aF], [], [.inr (0, 96), .inl (ae_s 0), .inl (ae_s 1), .inl (ae_k 37)], [], [96, 97, 98], 10, [([aF], [], some (.inl (ae_s 2)), [])]), [])
def ai_256 : aInst := ((170, [aF, aF, aF], [], [.inr (0, 96), .inl (ae_s 0), .inl (ae_s 1), .inl (ae_s 2), .inl (ae_k 36)], [], [96, 97, 98], 11, [([aF], [], some (.inl (ae_s 3)), [])]), [])
def ai_257 : aInst := ((171, [aF, aF], [], [.inr (0, 96), .inl (ae_s 0), .inl (ae_s 1), .inl (ae_k 36)], [], [96, 97, 98], 12, [([aF], [], some (.inl (ae_s 2)), [])]), [])
def aIn_41 : List aInst := [ai_252, ai_253, ai_254, ai_255, ai_256, ai_257]
def aCs_41 : List aCon := ak_cons aIn_41 aCs_40
set_option maxRecDepth 100000 in
theorem aChk_41 : ak_chain 100000 aIn_41 aCs_40 = true := by decide +kernel
def ai_258 : aInst := ((170, [aF, aF, aF], [], [.inr (0, 96), .inl (ae_s 0), .inl (ae_s 1), .inl (ae_s 2), .inl (ae_k 35)], [], [96, 97, 98], 13, [([aF], [], some (.inl (ae_s 3)), [])]), [])
def ai_259 : aInst := ((171, [aF, aF], [], [.inr (0, 96), .inl (ae_s 0), .inl (ae_s 1), .inl (ae_k 35)], [], [96, 97, 98], 14, [([aF], [], some (.inl (ae_s 2)), [])]), [])
def ai_260 : aInst := ((170, [aF, aF, aF], [], [.inr (0, 96), .inl (ae_s 0), .inl (ae_s 1), .inl (ae_s 2), .inl (ae_k 34)], [], [96, 97, 98], 15, [([aF], [], some (.inl (ae_s 3)), [])]), [])
def ai_261 : aInst := ((171, [aF, aF], [], [.inr (0, 96), .inl (ae_s 0), .inl (ae_s 1), .inl (ae_k 34)], [], [96, 97, 98], 16, [([aF], [], some (.inl (ae_s 2)), [])]), [])
def ai_262 : aInst := ((170, [aF, aF, aF], [], [.inr (0, 96), .inl (ae_s 0), .inl (ae_s 1), .inl (ae_s 2), .inl (ae_k 33)], [], [96, 97, 98], 17, [([aF], [], some (.inl (ae_s 3)), [])]), [])
def ai_263 : aInst := ((171, [aF, aF], [], [.inr (0, 96), .inl (ae_s 0), .inl (ae_s 1), .inl (ae_k 33)], [], [96, 97, 98], 18, [([aF], [], some (.inl (ae_s 2)), [])]), [])
def aIn_42 : List aInst := [ai_258, ai_259, ai_260, ai_261, ai_262, ai_263]
def aCs_42 : List aCon := ak_cons aIn_42 aCs_41
set_option maxRecDepth 100000 in
theorem aChk_42 : ak_chain 100000 aIn_42 aCs_41 = true := by decide +kernel
def ai_264 : aInst := ((170, [aF, aF, aF], [], [.inr (0, 96), .inl (ae_s 0), .inl (ae_s 1), .inl (ae_s 2), .inl (ae_k 32)], [], [96, 97, 98], 19, [([aF], [], some (.inl (ae_s 3)), [])]), [])
def ai_265 : aInst := ((171, [aF, aF], [], [.inr (0, 96), .inl (ae_s 0), .inl (ae_s 1), .inl (ae_k 32)], [], [96, 97, 98], 20, [([aF], [], some (.inl (ae_s 2)), [])]), [])
def ai_266 : aInst := ((170, [aF, aF, aF], [], [.inr (0, 96), .inl (ae_s 0), .inl (ae_s 1), .inl (ae_s 2), .inl (ae_k 31)], [], [96, 97, 98], 21, [([aF], [], some (.inl (ae_s 3)), [])]), [])
def ai_267 : aInst := ((171, [aF, aF], [], [.inr (0, 96), .inl (ae_s 0), .inl (ae_s 1), .inl (ae_k 31)], [], [96, 97, 98], 22, [([aF], [], some (.inl (ae_s 2)), [])]), [])
def ai_268 : aInst := ((170, [aF, aF, aF], [], [.inr (0, 96), .inl (ae_s 0), .inl (ae_s 1), .inl (ae_s 2), .inl (ae_k 30)], [], [96, 97, 98], 23, [([aF], [], some (.inl (ae_s 3)), [])]), [])
def ai_269 : aInst := ((171, [aF, aF], [], [.inr (0, 96), .inl (ae_s 0), .inl (ae_s 1), .inl (ae_k 30)], [], [96, 97, 98], 24, [([aF], [], some (.inl (ae_s 2)), [])]), [])
def aIn_43 : List aInst := [ai_264, ai_265, ai_266, ai_267, ai_268, ai_269]
def aCs_43 : List aCon := ak_cons aIn_43 aCs_42
set_option maxRecDepth 100000 in
theorem aChk_43 : ak_chain 100000 aIn_43 aCs_42 = true := by decide +kernel
