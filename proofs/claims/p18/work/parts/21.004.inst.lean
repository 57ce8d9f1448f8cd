def ai_51 : aInst := ((62, [aF, aF], [], [.inr (0, 1), .inl (ae_s 0), .inl (ae_s 1)], [], [], 5, [([(0, 2147483647)], [], some (.inl (ae_s 2)), [])]), [(5, [aF, aF, (0, 2147483647), (0, 2147483647)], [], [(0, .inr (0, 1)), (1, .inl (ae_s 0)), (2, .inl (ae_s 1)), (3, .inl (ae_s 2)), (4, .inl (ae_s 3))], [], [], [], ([(3, (-1))], 19327352831))])
def ai_52 : aInst := ((61, [aF], [], [.inr (0, 1), .inl (ae_s 0)], [], [], 6, [([(0, 3)], [], some (.inl (ae_s 1)), [])]), [(12, [aF, (0, 3), (0, 2147483647), (1, 4)], [], [(0, .inr (0, 1)), (1, .inl (ae_s 0)), (2, .inl (ae_s 1)), (3, .inl (ae_s 2)), (4, .inl (ae_s 3))], [], [], [], ([(3, (-1))], 19327352831))])
def ai_53 : aInst := ((59, [aF, aF], [], [.inr (0, 0), .inl (ae_s 0), .inl (ae_s 1)], [], [], 7, [([], [], some (.inl (ae_k (-3))), []), ([], [], some (.inl (ae_k (-1))), []), ([(0, 3)], [], some (.inl (ae_s 2)), [])]), [])
def ai_54 : aInst := ((5, [aF, aF, aF], [], [.inr (0, 16), .inl (ae_s 0), .inl (ae_s 1), .inl (ae_s 2)], [], [17], 0, [([], [], none, [])]), [])
def ai_55 : aInst := ((33, [aF], [], [.inr (0, 16), .inl (ae_s 0)], [], [17], 1, [([], [], none, [])]), [(2, [aF, (0, 1)], [], [(0, .inr (0, 16)), (1, .inl (ae_s 0)), (2, .inl (ae_s 1))], [], [], [17], ([(1, (-1))], 19327352831))])
def ai_56 : aInst := ((25, [aF, aF], [], [.inr (0, 14), .inl (ae_s 0), .inl (ae_s 1)], [], [], 0, [([aF], [], some (.inl (ae_s 2)), [])]), [])
def ai_57 : aInst := ((5, [aF, aF, aF], [], [.inr (0, 14), .inl (ae_s 0), .inl (ae_s 1), .inl (ae_s 2)], [], [15], 0, [([], [], none, [])]), [])
def ai_58 : aInst := ((65, [aF, aF], [], [.inr (0, 0), .inl (ae_s 0), .inl (ae_s 1)], [], [15, 16, 17], 3, [([], [], some (.inl (ae_k (-2))), []), ([], [], some (.inl (ae_k (-1))), []), ([((-2147483647), 24)], [], some (.inl (ae_s 2)), [])]), [])
def ai_59 : aInst := ((5, [aF, aF, aF], [], [.inr (0, 18), .inl (ae_s 0), .inl (ae_s 1), .inl (ae_s 2)], [], [19], 0, [([], [], none, [])]), [])
def ai_60 : aInst := ((33, [aF], [], [.inr (0, 18), .inl (ae_s 0)], [], [19], 1, [([], [], none, [])]), [(2, [aF, (0, 4)], [], [(0, .inr (0, 18)), (1, .inl (ae_s 0)), (2, .inl (ae_s 1))], [], [], [19], ([(1, (-1))], 19327352831))])
def aIn_12 : List aInst := [ai_51, ai_52, ai_53, ai_54, ai_55, ai_56, ai_57, ai_58, ai_59, ai_60]
def aCs_12 : List aCon := ak_cons aIn_12 aCs_11
set_option maxRecDepth 100000 in
theorem aChk_12 : ak_chain 100000 aIn_12 aCs_11 = true := by decide +kernel
def ai_62 : aInst := ((35, [aF], [], [.inr (0, 18), .inl (ae_s 0)], [], [], 0, [([], [], some (.inl (ae_k 0)), []), ([], [], some (.inl (ae_k 1)), [])]), [])
def ai_63 : aInst := ((25, [aF, aF], [], [.inr (0, 18), .inl (ae_s 0), .inl (ae_s 1)], [], [], 0, [([aF], [], some (.inl (ae_s 2)), [])]), [])
def ai_64 : aInst := ((69, [aF], [], [.inr (0, 0), .inl (ae_s 0)], [], [], 1, [([], [], some (.inl (ae_k (-1))), []), ([aF], [], some (.inl (ae_s 1)), [])]), [])
def ai_65 : aInst := ((71, [aF], [], [.inr (0, 1), .inl (ae_s 0)], [], [], 1, [([], [], some (.inl (ae_k (-3))), []), ([aF], [], some (.inl (ae_s 1)), [])]), [(2, [aF, (0, 2147483647)], [], [(0, .inr (0, 1)), (1, .inl (ae_s 0)), (2, .inl (ae_s 1))], [], [], [], ([(1, (-1))], 19327352831))])
def ai_66 : aInst := ((70, [aF], [], [.inr (0, 0), .inl (ae_s 0)], [], [], 2, [([], [], some (.inl (ae_k (-3))), []), ([], [], some (.inl (ae_k (-1))), []), ([aF], [], some (.inl (ae_s 1)), [])]), [])
def ai_67 : aInst := ((5, [aF, aF, aF], [], [.inr (0, 20), .inl (ae_s 0), .inl (ae_s 1), .inl (ae_s 2)], [], [21], 0, [([], [], none, [])]), [])
def ai_68 : aInst := ((33, [aF], [], [.inr (0, 20), .inl (ae_s 0)], [], [21], 1, [([], [], none, [])]), [(2, [aF, (0, 2)], [], [(0, .inr (0, 20)), (1, .inl (ae_s 0)), (2, .inl (ae_s 1))], [], [], [21], ([(1, (-1))], 19327352831))])
def ai_69 : aInst := ((72, [aF], [], [.inr (0, 0), .inl (ae_s 0)], [], [20, 21], 3, [([], [], some (.inl (ae_k (-2))), []), ([], [], some (.inl (ae_k (-1))), []), ([((-2147483648), 5)], [], some (.inl (ae_s 1)), [])]), [])
def ai_70 : aInst := ((35, [aF], [], [.inr (0, 20), .inl (ae_s 0)], [], [], 0, [([], [], some (.inl (ae_k 0)), []), ([], [], some (.inl (ae_k 1)), [])]), [])
def ai_71 : aInst := ((25, [aF, aF], [], [.inr (0, 20), .inl (ae_s 0), .inl (ae_s 1)], [], [], 0, [([aF], [], some (.inl (ae_s 2)), [])]), [])
def ai_72 : aInst := ((25, [aF, aF], [], [.inr (0, 22), .inl (ae_s 0), .inl (ae_s 1)], [], [], 0, [([aF], [], some (.inl (ae_s 2)), [])]), [])
def ai_73 : aInst := ((76, [aF], [], [.inr (0, 1), .inl (ae_s 0)], [], [], 1, [([((-1), 2147483646)], [], some (.inl (ae_s 1)), [])]), [(4, [aF, ((-1), 2147483646), (0, 2147483647)], [], [(0, .inr (0, 1)), (1, .inl (ae_s 0)), (2, .inl (ae_s 1)), (3, .inl (ae_s 2))], [], [], [], ([(2, (-1))], 19327352831))])
def ai_74 : aInst := ((25, [aF, aF], [], [.inr (0, 24), .inl (ae_s 0), .inl (ae_s 1)], [], [], 0, [([aF], [], some (.inl (ae_s 2)), [])]), [])
def ai_75 : aInst := ((25, [aF, aF], [], [.inr (0, 26), .inl (ae_s 0), .inl (ae_s 1)], [], [], 0, [([aF], [], some (.inl (ae_s 2)), [])]), [])
def ai_76 : aInst := ((79, [aF, aF, aF], [], [.inr (0, 1), .inl (ae_s 0), .inl (ae_s 1), .inl (ae_s 2)], [], [], 3, [([], [], some (.inl (ae_k 0)), []), ([], [], some (.inl (ae_k 1)), [])]), [(14, [aF, aF, aF, aF, aF], [], [(0, .inr (0, 1)), (1, .inl (ae_s 0)), (2, .inl (ae_s 1)), (3, .inl (ae_s 2)), (4, .inl (ae_s 3)), (5, .inl (ae_s 4))], [], [], [], ([(4, (-1))], 19327352831))])
def aIn_13 : List aInst := [ai_62, ai_63, ai_64, ai_65, ai_66, ai_67, ai_68, ai_69, ai_70, ai_71, ai_72, ai_73, ai_74, ai_75, ai_76]
def aCs_13 : List aCon := ak_cons aIn_13 aCs_12
set_option maxRecDepth 100000 in
theorem aChk_13 : ak_chain 100000 aIn_13 aCs_12 = true := by decide +kernel
def ai_77 : aInst := ((75, [aF, aF, aF], [], [.inr (0, 1), .inl (ae_s 0), .inl (ae_s 1), .inl (ae_s 2)], [], [], 4, [([], [], some (.inl (ae_k 0)), []), ([], [], some (.inl (ae_k 1)), [])]), [(15, [aF, aF, aF, ((-1), 2147483646), aF], [], [(0, .inr (0, 1)), (1, .inl (ae_s 0)), (2, .inl (ae_s 1)), (3, .inl (ae_s 2)), (4, .inl (ae_s 3)), (5, .inl (ae_s 4))], [], [], [], ([(4, (-1))], 19327352831))])
def ai_78 : aInst := ((74, [aF], [], [.inr (0, 1), .inl (ae_s 0)], [], [], 5, [([aF], [], some (.inl (ae_s 1)), [])]), [(4, [aF, aF, (0, 2147483647)], [], [(0, .inr (0, 1)), (1, .inl (ae_s 0)), (2, .inl (ae_s 1)), (3, .inl (ae_s 2))], [], [], [], ([(2, (-1))], 19327352831))])
def ai_79 : aInst := ((73, [aF, aF], [], [.inr (0, 0), .inl (ae_s 0), .inl (ae_s 1)], [], [], 6, [([], [], some (.inl (ae_k (-1))), []), ([aF], [], some (.inl (ae_s 2)), [])]), [])
def ai_80 : aInst := ((81, [aF], [], [.inr (0, 0), .inr (4, 0), .inl (ae_s 0)], [], [75, 76], 1, [([], [], some (.inl (ae_k (-2))), []), ([], [], some (.inl (ae_k (-1))), []), ([(0, 250)], [], some (.inl (ae_s 1)), [])]), [(33, [(1, 8), (0, 8), (0, 250)], [], [(0, .inr (0, 0)), (1, .inr (4, 0)), (3, .inl (ae_s 0)), (4, .inl (ae_s 1))], [], [((75, ae_k 1), ae_s 2)], [75, 76], ([(1, (-1))], 19327352831))])
def ai_81 : aInst := ((86, [], [], [.inr (0, 75)], [], [75], 1, [([], [], none, [])]), [(25, [(0, 250), (0, 250), (0, 250), (0, 250)], [], [(0, .inr (0, 75)), (1, .inl (ae_s 0))], [], [((75, ae_k 1), ae_s 1), ((75, ae_k 4), ae_s 2), ((75, ae_k 5), ae_s 3)], [75], ([(2, (-1))], 36507222015)), (170, [(1, 250), (48, 122), (0, 1), (0, 1), (48, 97), (57, 122), (0, 250), (0, 249), (1, 250)], [], [(0, .inr (0, 75)), (1, .inl (ae_s 0)), (2, .inl (ae_s 1)), (3, .inl (ae_s 2)), (4, .inl (ae_s 3)), (5, .inl (ae_s 4)), (6, .inl (ae_s 5))], [], [((75, ae_k 1), ae_s 6), ((75, ae_k 4), ae_s 7), ((75, ae_k 5), ae_s 8)], [75], ([(8, (-1))], 19327352831))])
def ai_82 : aInst := ((91, [], [], [.inr (0, 75), .inr (1, 1)], [], [], 4, [([], [], some (.inl (ae_k 0)), []), ([], [], some (.inl (ae_k 1)), [])]), [(39, [(0, 4), (0, 246), (4, 250)], [], [(0, .inr (0, 75)), (1, .inr (1, 1)), (2, .inl (ae_s 0))], [], [((75, ae_k 4), ae_s 1), ((75, ae_k 5), ae_s 2)], [], ([(0, (-1))], 19327352831))])
def aIn_14 : List aInst := [ai_77, ai_78, ai_79, ai_80, ai_81, ai_82]
def aCs_14 : List aCon := ak_cons aIn_14 aCs_13
set_option maxRecDepth 100000 in
theorem aChk_14 : ak_chain 100000 aIn_14 aCs_13 = true := by decide +kernel
def ai_83 : aInst := ((90, [], [], [.inr (0, 75), .inr (1, 1)], [], [75], 5, [([], [], some (.inl (ae_k 0)), []), ([], [], some (.inl (ae_k 1)), [])]), [])
def ai_84 : aInst := ((91, [], [], [.inr (0, 75), .inr (1, 2)], [], [], 4, [([], [], some (.inl (ae_k 0)), []), ([], [], some (.inl (ae_k 1)), [])]), [(39, [(0, 3), (0, 247), (3, 250)], [], [(0, .inr (0, 75)), (1, .inr (1, 2)), (2, .inl (ae_s 0))], [], [((75, ae_k 4), ae_s 1), ((75, ae_k 5), ae_s 2)], [], ([(0, (-1))], 19327352831))])
def ai_85 : aInst := ((90, [], [], [.inr (0, 75), .inr (1, 2)], [], [75], 5, [([], [], some (.inl (ae_k 0)), []), ([], [], some (.inl (ae_k 1)), [])]), [])
def ai_86 : aInst := ((91, [], [], [.inr (0, 75), .inr (1, 3)], [], [], 4, [([], [], some (.inl (ae_k 0)), []), ([], [], some (.inl (ae_k 1)), [])]), [(39, [(0, 4), (0, 246), (4, 250)], [], [(0, .inr (0, 75)), (1, .inr (1, 3)), (2, .inl (ae_s 0))], [], [((75, ae_k 4), ae_s 1), ((75, ae_k 5), ae_s 2)], [], ([(0, (-1))], 19327352831))])
def ai_87 : aInst := ((90, [], [], [.inr (0, 75), .inr (1, 3)], [], [75], 5, [([], [], some (.inl (ae_k 0)), []), ([], [], some (.inl (ae_k 1)), [])]), [])
def ai_88 : aInst := ((91, [], [], [.inr (0, 75), .inr (1, 4)], [], [], 4, [([], [], some (.inl (ae_k 0)), []), ([], [], some (.inl (ae_k 1)), [])]), [(39, [(0, 5), (0, 245), (5, 250)], [], [(0, .inr (0, 75)), (1, .inr (1, 4)), (2, .inl (ae_s 0))], [], [((75, ae_k 4), ae_s 1), ((75, ae_k 5), ae_s 2)], [], ([(0, (-1))], 19327352831))])
def ai_89 : aInst := ((90, [], [], [.inr (0, 75), .inr (1, 4)], [], [75], 5, [([], [], some (.inl (ae_k 0)), []), ([], [], some (.inl (ae_k 1)), [])]), [])
def ai_90 : aInst := ((92, [aF], [], [.inr (0, 75), .inl (ae_s 0)], [], [75], 2, [([], [], some (.inl (ae_k (-1))), []), ([aF], [], some (.inl (ae_s 1)), [])]), [(52, [aF, aF, (0, 250), (0, 249), (1, 250)], [], [(0, .inr (0, 75)), (1, .inl (ae_s 0)), (2, .inl (ae_s 1)), (3, .inl (ae_s 2))], [], [((75, ae_k 4), ae_s 3), ((75, ae_k 5), ae_s 4)], [], ([(2, (-1))], 19327352831))])
def ai_91 : aInst := ((5, [aF, aF, aF], [], [.inr (0, 77), .inl (ae_s 0), .inl (ae_s 1), .inl (ae_s 2)], [], [78], 0, [([], [], none, [])]), [])
def ai_92 : aInst := ((33, [aF], [], [.inr (0, 77), .inl (ae_s 0)], [], [78], 1, [([], [], none, [])]), [(2, [aF, (0, 4)], [], [(0, .inr (0, 77)), (1, .inl (ae_s 0)), (2, .inl (ae_s 1))], [], [], [78], ([(1, (-1))], 19327352831))])
def aIn_15 : List aInst := [ai_83, ai_84, ai_85, ai_86, ai_87, ai_88, ai_89, ai_90, ai_91, ai_92]
def aCs_15 : List aCon := ak_cons aIn_15 aCs_14
set_option maxRecDepth 100000 in
theorem aChk_15 : ak_chain 100000 aIn_15 aCs_14 = true := by decide +kernel
