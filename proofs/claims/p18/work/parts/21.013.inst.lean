def ai_294 : aInst := ((170, [aF, aF, aF], [], [.inr (0, 96), .inl (ae_s 0), .inl (ae_s 1), .inl (ae_s 2), .inl (ae_k 17)], [], [96, 97, 98], 49, [([aF], [], some (.inl (ae_s 3)), [])]), [])
def ai_295 : aInst := ((171, [aF, aF], [], [.inr (0, 96), .inl (ae_s 0), .inl (ae_s 1), .inl (ae_k 17)], [], [96, 97, 98], 50, [([aF], [], some (.inl (ae_s 2)), [])]), [])
def ai_296 : aInst := ((170, [aF, aF, aF], [], [.inr (0, 96), .inl (ae_s 0), .inl (ae_s 1), .inl (ae_s 2), .inl (ae_k 16)], [], [96, 97, 98], 51, [([aF], [], some (.inl (ae_s 3)), [])]), [])
def ai_297 : aInst := ((171, [aF, aF], [], [.inr (0, 96), .inl (ae_s 0), .inl (ae_s 1), .inl (ae_k 16)], [], [96, 97, 98], 52, [([aF], [], some (.inl (ae_s 2)), [])]), [])
def ai_298 : aInst := ((170, [aF, aF, aF], [], [.inr (0, 96), .inl (ae_s 0), .inl (ae_s 1), .inl (ae_s 2), .inl (ae_k 15)], [], [96, 97, 98], 53, [([aF], [], some (.inl (ae_s 3)), [])]), [])
def ai_299 : aInst := ((171, [aF, aF], [], [.inr (0, 96), .inl (ae_s 0), .inl (ae_s 1), .inl (ae_k 15)], [], [96, 97, 98], 54, [([aF], [], some (.inl (ae_s 2)), [])]), [])
def aIn_48 : List aInst := [ai_294, ai_295, ai_296, ai_297, ai_298, ai_299]
def aCs_48 : List aCon := ak_cons aIn_48 aCs_47
set_option maxRecDepth 100000 in
theorem aChk_48 : ak_chain 100000 aIn_48 aCs_47 = true := by decide +kernel
def ai_300 : aInst := ((170, [aF, aF, aF], [], [.inr (0, 96), .inl (ae_s 0), .inl (ae_s 1), .inl (ae_s 2), .inl (ae_k 14)], [], [96, 97, 98], 55, [([aF], [], some (.inl (ae_s 3)), [])]), [])
def ai_301 : aInst := ((171, [aF, aF], [], [.inr (0, 96), .inl (ae_s 0), .inl (ae_s 1), .inl (ae_k 14)], [], [96, 97, 98], 56, [([aF], [], some (.inl (ae_s 2)), [])]), [])
def ai_302 : aInst := ((170, [aF, aF, aF], [], [.inr (0, 96), .inl (ae_s 0), .inl (ae_s 1), .inl (ae_s 2), .inl (ae_k 13)], [], [96, 97, 98], 57, [([aF], [], some (.inl (ae_s 3)), [])]), [])
def ai_303 : aInst := ((171, [aF, aF], [], [.inr (0, 96), .inl (ae_s 0), .inl (ae_s 1), .inl (ae_k 13)], [], [96, 97, 98], 58, [([aF], [], some (.inl (ae_s 2)), [])]), [])
def ai_304 : aInst := ((170, [aF, aF, aF], [], [.inr (0, 96), .inl (ae_s 0), .inl (ae_s 1), .inl (ae_s 2), .inl (ae_k 12)], [], [96, 97, 98], 59, [([aF], [], some (.inl (ae_s 3)), [])]), [])
def ai_305 : aInst := ((171, [aF, aF], [], [.inr (0, 96), .inl (ae_s 0), .inl (ae_s 1), .inl (ae_k 12)], [], [96, 97, 98], 60, [([aF], [], some (.inl (ae_s 2)), [])]), [])
def aIn_49 : List aInst := [ai_300, ai_301, ai_302, ai_303, ai_304, ai_305]
def aCs_49 : List aCon := ak_cons aIn_49 aCs_48
set_option maxRecDepth 100000 in
theorem aChk_49 : ak_chain 100000 aIn_49 aCs_48 = true := by decide +kernel
def ai_306 : aInst := ((170, [aF, aF, aF], [], [.inr (0, 96), .inl (ae_s 0), .inl (ae_s 1), .inl (ae_s 2), .inl (ae_k 11)], [], [96, 97, 98], 61, [([aF], [], some (.inl (ae_s 3)), [])]), [])
def ai_307 : aInst := ((171, [aF, aF], [], [.inr (0, 96), .inl (ae_s 0), .inl (ae_s 1), .inl (ae_k 11)], [], [96, 97, 98], 62, [([aF], [], some (.inl (ae_s 2)), [])]), [])
def ai_308 : aInst := ((170, [aF, aF, aF], [], [.inr (0, 96), .inl (ae_s 0), .inl (ae_s 1), .inl (ae_s 2), .inl (ae_k 10)], [], [96, 97, 98], 63, [([aF], [], some (.inl (ae_s 3)), [])]), [])
def ai_309 : aInst := ((171, [aF, aF], [], [.inr (0, 96), .inl (ae_s 0), .inl (ae_s 1), .inl (ae_k 10)], [], [96, 97, 98], 64, [([aF], [], some (.inl (ae_s 2)), [])]), [])
def ai_310 : aInst := ((170, [aF, aF, aF], [], [.inr (0, 96), .inl (ae_s 0), .inl (ae_s 1), .inl (ae_s 2), .inl (ae_k 9)], [], [96, 97, 98], 65, [([aF], [], some (.inl (ae_s 3)), [])]), [])
def ai_311 : aInst := ((171, [aF, aF], [], [.inr (0, 96), .inl (ae_s 0), .inl (ae_s 1), .inl (ae_k 9)], [], [96, 97, 98], 66, [([aF], [], some (.inl (ae_s 2)), [])]), [])
def aIn_50 : List aInst := [ai_306, ai_307, ai_308, ai_309, ai_310, ai_311]
def aCs_50 : List aCon := ak_cons aIn_50 aCs_49
set_option maxRecDepth 100000 in
theorem aChk_50 : ak_chain 100000 aIn_50 aCs_49 = true := by decide +kernel
def ai_312 : aInst := ((170, [aF, aF, aF], [], [.inr (0, 96), .inl (ae_s 0), .inl (ae_s 1), .inl (ae_s 2), .inl (ae_k 8)], [], [96, 97, 98], 67, [([aF], [], some (.inl (ae_s 3)), [])]), [])
def ai_313 : aInst := ((171, [aF, aF], [], [.inr (0, 96), .inl (ae_s 0), .inl (ae_s 1), .inl (ae_k 8)], [], [96, 97, 98], 68, [([aF], [], some (.inl (ae_s 2)), [])]), [])
def ai_314 : aInst := ((170, [aF, aF, aF], [], [.inr (0, 96), .inl (ae_s 0), .inl (ae_s 1), .inl (ae_s 2), .inl (ae_k 7)], [], [96, 97, 98], 69, [([aF], [], some (.inl (ae_s 3)), [])]), [])
def ai_315 : aInst := ((171, [aF, aF], [], [.inr (0, 96), .inl (ae_s 0), .inl (ae_s 1), .inl (ae_k 7)], [], [96, 97, 98], 70, [([aF], [], some (.inl (ae_s 2)), [])]), [])
def ai_316 : aInst := ((170, [aF, aF, aF], [], [.inr (0, 96), .inl (ae_s 0), .inl (ae_s 1), .inl (ae_s 2), .inl (ae_k 6)], [], [96, 97, 98], 71, [([aF], [], some (.inl (ae_s 3)), [])]), [])
def ai_317 : aInst := ((171, [aF, aF], [], [.inr (0, 96), .inl (ae_s 0), .inl (ae_s 1), .inl (ae_k 6)], [], [96, 97, 98], 72, [([aF], [], some (.inl (ae_s 2)), [])]), [])
def aIn_51 : List aInst := [ai_312, ai_313, ai_314, ai_315, ai_316, ai_317]
def aCs_51 : List aCon := ak_cons aIn_51 aCs_50
set_option maxRecDepth 100000 in
theorem aChk_51 : ak_chain 100000 aIn_51 aCs_50 = true := by decide +kernel
