def ai_270 : aInst := ((170, [aF, aF, aF], [], [.inr (0, 96), .inl (ae_s 0), .inl (ae_s 1), .inl (ae_s 2), .inl (ae_k 29)], [], [96, 97, 98], 25, [([aF], [], some (.inl (ae_s 3)), [])]), [])
def ai_271 : aInst := ((171, [aF, aF], [], [.inr (0, 96), .inl (ae_s 0), .inl (ae_s 1), .inl (ae_k 29)], [], [96, 97, 98], 26, [([aF], [], some (.inl (ae_s 2)), [])]), [])
def ai_272 : aInst := ((170, [aF, aF, aF], [], [.inr (0, 96), .inl (ae_s 0), .inl (ae_s 1), .inl (ae_s 2), .inl (ae_k 28)], [], [96, 97, 98], 27, [([aF], [], some (.inl (ae_s 3)), [])]), [])
def ai_273 : aInst := ((171, [aF, aF], [], [.inr (0, 96), .inl (ae_s 0), .inl (ae_s 1), .inl (ae_k 28)], [], [96, 97, 98], 28, [([aF], [], some (.inl (ae_s 2)), [])]), [])
def ai_274 : aInst := ((170, [aF, aF, aF], [], [.inr (0, 96), .inl (ae_s 0), .inl (ae_s 1), .inl (ae_s 2), .inl (ae_k 27)], [], [96, 97, 98], 29, [([aF], [], some (.inl (ae_s 3)), [])]), [])
def ai_275 : aInst := ((171, [aF, aF], [], [.inr (0, 96), .inl (ae_s 0), .inl (ae_s 1), .inl (ae_k 27)], [], [96, 97, 98], 30, [([aF], [], some (.inl (ae_s 2)), [])]), [])
def aIn_44 : List aInst := [ai_270, ai_271, ai_272, ai_273, ai_274, ai_275]
def aCs_44 : List aCon := ak_cons aIn_44 aCs_43
set_option maxRecDepth 100000 in
theorem aChk_44 : ak_chain 100000 aIn_44 aCs_43 = true := by decide +kernel
def ai_276 : aInst := ((170, [aF, aF, aF], [], [.inr (0, 96), .inl (ae_s 0), .inl (ae_s 1), .inl (ae_s 2), .inl (ae_k 26)], [], [96, 97, 98], 31, [([aF], [], some (.inl (ae_s 3)), [])]), [])
def ai_277 : aInst := ((171, [aF, aF], [], [.inr (0, 96), .inl (ae_s 0), .inl (ae_s 1), .inl (ae_k 26)], [], [96, 97, 98], 32, [([aF], [], some (.inl (ae_s 2)), [])]), [])
def ai_278 : aInst := ((170, [aF, aF, aF], [], [.inr (0, 96), .inl (ae_s 0), .inl (ae_s 1), .inl (ae_s 2), .inl (ae_k 25)], [], [96, 97, 98], 33, [([aF], [], some (.inl (ae_s 3)), [])]), [])
def ai_279 : aInst := ((171, [aF, aF], [], [.inr (0, 96), .inl (ae_s 0), .inl (ae_s 1), .inl (ae_k 25)], [], [96, 97, 98], 34, [([aF], [], some (.inl (ae_s 2)), [])]), [])
def ai_280 : aInst := ((170, [aF, aF, aF], [], [.inr (0, 96), .inl (ae_s 0), .inl (ae_s 1), .inl (ae_s 2), .inl (ae_k 24)], [], [96, 97, 98], 35, [([aF], [], some (.inl (ae_s 3)), [])]), [])
def ai_281 : aInst := ((171, [aF, aF], [], [.inr (0, 96), .inl (ae_s 0), .inl (ae_s 1), .inl (ae_k 24)], [], [96, 97, 98], 36, [([aF], [], some (.inl (ae_s 2)), [])]), [])
def aIn_45 : List aInst := [ai_276, ai_277, ai_278, ai_279, ai_280, ai_281]
def aCs_45 : List aCon := ak_cons aIn_45 aCs_44
set_option maxRecDepth 100000 in
theorem aChk_45 : ak_chain 100000 aIn_45 aCs_44 = true := by decide +kernel
def ai_282 : aInst := ((170, [aF, aF, aF], [], [.inr (0, 96), .inl (ae_s 0), .inl (ae_s 1), .inl (ae_s 2), .inl (ae_k 23)], [], [96, 97, 98], 37, [([aF], [], some (.inl (ae_s 3)), [])]), [])
def ai_283 : aInst := ((171, [aF, aF], [], [.inr (0, 96), .inl (ae_s 0), .inl (ae_s 1), .inl (ae_k 23)], [], [96, 97, 98], 38, [([aF], [], some (.inl (ae_s 2)), [])]), [])
def ai_284 : aInst := ((170, [aF, aF, aF], [], [.inr (0, 96), .inl (ae_s 0), .inl (ae_s 1), .inl (ae_s 2), .inl (ae_k 22)], [], [96, 97, 98], 39, [([aF], [], some (.inl (ae_s 3)), [])]), [])
def ai_285 : aInst := ((171, [aF, aF], [], [.inr (0, 96), .inl (ae_s 0), .inl (ae_s 1), .inl (ae_k 22)], [], [96, 97, 98], 40, [([aF], [], some (.inl (ae_s 2)), [])]), [])
def ai_286 : aInst := ((170, [aF, aF, aF], [], [.inr (0, 96), .inl (ae_s 0), .inl (ae_s 1), .inl (ae_s 2), .inl (ae_k 21)], [], [96, 97, 98], 41, [([aF], [], some (.inl (ae_s 3)), [])]), [])
def ai_287 : aInst := ((171, [aF, aF], [], [.inr (0, 96), .inl (ae_s 0), .inl (ae_s 1), .inl (ae_k 21)], [], [96, 97, 98], 42, [([aF], [], some (.inl (ae_s 2)), [])]), [])
def aIn_46 : List aInst := [ai_282, ai_283, ai_284, ai_285, ai_286, ai_287]
def aCs_46 : List aCon := ak_cons aIn_46 aCs_45
set_option maxRecDepth 100000 in
theorem aChk_46 : ak_chain 100000 aIn_46 aCs_45 = true := by decide +kernel
def ai_288 : aInst := ((170, [aF, aF, aF], [], [.inr (0, 96), .inl (ae_s 0), .inl (ae_s 1), .inl (ae_s 2), .inl (ae_k 20)], [], [96, 97, 98], 43, [([aF], [], some (.inl (ae_s 3)), [])]), [])
def ai_289 : aInst := ((171, [aF, aF], [], [.inr (0, 96), .inl (ae_s 0), .inl (ae_s 1), .inl (ae_k 20)], [], [96, 97, 98], 44, [([aF], [], some (.inl (ae_s 2)), [])]), [])
def ai_290 : aInst := ((170, [aF, aF, aF], [], [.inr (0, 96), .inl (ae_s 0), .inl (ae_s 1), .inl (ae_s 2), .inl (ae_k 19)], [], [96, 97, 98], 45, [([aF], [], some (.inl (ae_s 3)), [])]), [])
def ai_291 : aInst := ((171, [aF, aF], [], [.inr (0, 96), .inl (ae_s 0), .inl (ae_s 1), .inl (ae_k 19)], [], [96, 97, 98], 46, [([aF], [], some (.inl (ae_s 2)), [])]), [])
def ai_292 : aInst := ((170, [aF, aF, aF], [], [.inr (0, 96), .inl (ae_s 0), .inl (ae_s 1), .inl (ae_s 2), .inl (ae_k 18)], [], [96, 97, 98], 47, [([aF], [], some (.inl (ae_s 3)), [])]), [])
def ai_293 : aInst := ((171, [aF, aF], [], [.inr (0, 96), .inl (ae_s 0), .inl (ae_s 1), .inl (ae_k 18)], [], [96, 97, 98], 48, [([aF], [], some (.inl (ae_s 2)), [])]), [])
def aIn_47 : List aInst := [ai_288, ai_289, ai_290, ai_291, ai_292, ai_293]
def aCs_47 : List aCon := ak_cons aIn_47 aCs_46
set_option maxRecDepth 100000 in
theorem aChk_47 : ak_chain 100000 aIn_47 aCs_46 = true := by decide +kernel
