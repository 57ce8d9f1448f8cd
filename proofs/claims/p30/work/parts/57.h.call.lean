/-! THE CALL WHOSE ANSWERS ARE COMPARED: by templates (facts, arguments, answer, the slots behind it, each side's cuts); both sides keep to the same ones -/
section LAW
variable {E : mj_E} {Q : Option Value → va_W → Prop}
def xE : List (Int × Int) := List.replicate 4 aF ++ jLv.map (fun q => (q.2.2.2.2.2.1, q.2.2.2.2.2.2))
def xC (y self : Nat) (cells : List (Nat × Nat)) (md : List Nat) (dep : Nat) (t : xT) (cuts : List aCut) : aInst := ((y, xE, t.1, .inr (0, self) :: t.2.1.map .inl, jHe cells (jSs 4), md, dep, [([], [], some (.inl t.2.2.1), jHe cells t.2.2.2.1)]), cuts)
def xT_0 : xT := ([([(0, 1)], 1)], [ae_s 0, ae_s 1, ae_s 2, ae_s 3], ae_k (-1), [ae_s 4, ae_s 5, ae_s 6, ae_s 7, ae_s 8, ae_s 9, ae_s 10, ae_s 11, ae_s 12, ae_s 13, ae_s 14, ae_s 15, ae_s 16, ae_s 17, ae_s 18, ae_s 19, ae_s 20, ae_s 21, ae_s 22, ae_s 23, ae_s 24, ae_s 25, ae_s 26, ae_s 27, ae_s 28, ae_s 29, ae_s 30, ae_s 31, ae_s 32, ae_s 33, ae_s 34, ae_s 35, ae_s 36, ae_s 37, ae_s 38, ae_s 39, ae_s 40, ae_s 41, ae_s 42, ae_s 43, ae_s 44, ae_s 45, ae_s 46, ae_s 47, ae_s 48], [], [])
def xT_1 : xT := ([([(0, (-1))], 5)], [ae_s 0, ae_s 1, ae_s 2, ae_s 3], ae_k (-1), [ae_s 4, ae_s 5, ae_s 6, ae_s 7, ae_s 8, ae_s 9, ae_s 10, ae_s 11, ae_s 12, ae_s 13, ae_s 14, ae_s 15, ae_s 16, ae_s 17, ae_s 18, ae_s 19, ae_s 20, ae_s 21, ae_s 22, ae_s 23, ae_s 24, ae_s 25, ae_s 26, ae_s 27, ae_s 28, ae_s 29, ae_s 30, ae_s 31, ae_s 32, ae_s 33, ae_s 34, ae_s 35, ae_s 36, ae_s 37, ae_s 38, ae_s 39, ae_s 40, ae_s 41, ae_s 42, ae_s 43, ae_s 44, ae_s 45, ae_s 46, ae_s 47, ae_s 48], [], [])
def xT_2 : xT := ([([(1, 1)], 1)], [ae_s 0, ae_s 1, ae_s 2, ae_s 3], ae_k (-1), [ae_s 4, ae_s 5, ae_s 6, ae_s 7, ae_s 8, ae_s 9, ae_s 10, ae_s 11, ae_s 12, ae_s 13, ae_s 14, ae_s 15, ae_s 16, ae_s 17, ae_s 18, ae_s 19, ae_s 20, ae_s 21, ae_s 22, ae_s 23, ae_s 24, ae_s 25, ae_s 26, ae_s 27, ae_s 28, ae_s 29, ae_s 30, ae_s 31, ae_s 32, ae_s 33, ae_s 34, ae_s 35, ae_s 36, ae_s 37, ae_s 38, ae_s 39, ae_s 40, ae_s 41, ae_s 42, ae_s 43, ae_s 44, ae_s 45, ae_s 46, ae_s 47, ae_s 48], [], [])
def xT_3 : xT := ([([(1, (-1))], 3)], [ae_s 0, ae_s 1, ae_s 2, ae_s 3], ae_k (-1), [ae_s 4, ae_s 5, ae_s 6, ae_s 7, ae_s 8, ae_s 9, ae_s 10, ae_s 11, ae_s 12, ae_s 13, ae_s 14, ae_s 15, ae_s 16, ae_s 17, ae_s 18, ae_s 19, ae_s 20, ae_s 21, ae_s 22, ae_s 23, ae_s 24, ae_s 25, ae_s 26, ae_s 27, ae_s 28, ae_s 29, ae_s 30, ae_s 31, ae_s 32, ae_s 33, ae_s 34, ae_s 35, ae_s 36, ae_s 37, ae_s 38, ae_s 39, ae_s 40, ae_s 41, ae_s 42, ae_s 43, ae_s 44, ae_s 45, ae_s 46, ae_s 47, ae_s 48], [], [])
def xT_4 : xT := ([([(2, 1)], 1)], [ae_s 0, ae_s 1, ae_s 2, ae_s 3], ae_k (-1), [ae_s 4, ae_s 5, ae_s 6, ae_s 7, ae_s 8, ae_s 9, ae_s 10, ae_s 11, ae_s 12, ae_s 13, ae_s 14, ae_s 15, ae_s 16, ae_s 17, ae_s 18, ae_s 19, ae_s 20, ae_s 21, ae_s 22, ae_s 23, ae_s 24, ae_s 25, ae_s 26, ae_s 27, ae_s 28, ae_s 29, ae_s 30, ae_s 31, ae_s 32, ae_s 33, ae_s 34, ae_s 35, ae_s 36, ae_s 37, ae_s 38, ae_s 39, ae_s 40, ae_s 41, ae_s 42, ae_s 43, ae_s 44, ae_s 45, ae_s 46, ae_s 47, ae_s 48], [], [])
def xT_5 : xT := ([([(2, (-1))], 3)], [ae_s 0, ae_s 1, ae_s 2, ae_s 3], ae_k (-1), [ae_s 4, ae_s 5, ae_s 6, ae_s 7, ae_s 8, ae_s 9, ae_s 10, ae_s 11, ae_s 12, ae_s 13, ae_s 14, ae_s 15, ae_s 16, ae_s 17, ae_s 18, ae_s 19, ae_s 20, ae_s 21, ae_s 22, ae_s 23, ae_s 24, ae_s 25, ae_s 26, ae_s 27, ae_s 28, ae_s 29, ae_s 30, ae_s 31, ae_s 32, ae_s 33, ae_s 34, ae_s 35, ae_s 36, ae_s 37, ae_s 38, ae_s 39, ae_s 40, ae_s 41, ae_s 42, ae_s 43, ae_s 44, ae_s 45, ae_s 46, ae_s 47, ae_s 48], [], [])
def xT_6 : xT := ([ae_s 3], [ae_s 0, ae_s 1, ae_s 2, ae_s 3], ae_k (-1), [ae_s 4, ae_s 5, ae_s 6, ae_s 7, ae_s 8, ae_s 9, ae_s 10, ae_s 11, ae_s 12, ae_s 13, ae_s 14, ae_s 15, ae_s 16, ae_s 17, ae_s 18, ae_s 19, ae_s 20, ae_s 21, ae_s 22, ae_s 23, ae_s 24, ae_s 25, ae_s 26, ae_s 27, ae_s 28, ae_s 29, ae_s 30, ae_s 31, ae_s 32, ae_s 33, ae_s 34, ae_s 35, ae_s 36, ae_s 37, ae_s 38, ae_s 39, ae_s 40, ae_s 41, ae_s 42, ae_s 43, ae_s 44, ae_s 45, ae_s 46, ae_s 47, ae_s 48], [], [])
def xT_7 : xT := ([([(3, (-1))], 3001)], [ae_s 0, ae_s 1, ae_s 2, ae_s 3], ae_k (-1), [ae_s 4, ae_s 5, ae_s 6, ae_s 7, ae_s 8, ae_s 9, ae_s 10, ae_s 11, ae_s 12, ae_s 13, ae_s 14, ae_s 15, ae_s 16, ae_s 17, ae_s 18, ae_s 19, ae_s 20, ae_s 21, ae_s 22, ae_s 23, ae_s 24, ae_s 25, ae_s 26, ae_s 27, ae_s 28, ae_s 29, ae_s 30, ae_s 31, ae_s 32, ae_s 33, ae_s 34, ae_s 35, ae_s 36, ae_s 37, ae_s 38, ae_s 39, ae_s 40, ae_s 41, ae_s 42, ae_s 43, ae_s 44, ae_s 45, ae_s 46, ae_s 47, ae_s 48], [], [])
def xT_8 : xT := ([([(3, (-1))], 1), ([(3, 1)], (-3000))], [ae_k 0, ae_k 0, ae_k 0, ae_s 3], ae_k (-1), [ae_s 4, ae_s 5, ae_s 6, ae_s 7, ae_s 8, ae_s 9, ae_s 10, ae_s 11, ae_s 12, ae_s 13, ae_s 14, ae_s 15, ae_s 16, ae_s 17, ae_s 18, ae_s 19, ae_s 20, ae_s 21, ae_s 22, ae_s 23, ae_s 24, ae_s 25, ae_s 26, ae_s 27, ae_s 28, ae_s 29, ae_s 30, ae_s 31, ae_s 32, ae_s 33, ae_s 34, ae_s 35, ae_s 36, ae_s 37, ae_s 38, ae_s 39, ae_s 40, ae_s 41, ae_s 42, ae_s 43, ae_s 44, ae_s 45, ae_s 46, ae_s 47, ae_s 48], [], [])
def xT_9 : xT := ([([(3, (-1))], 1), ([(3, 1)], (-3000))], [ae_k 0, ae_k 0, ae_k 1, ae_s 3], ae_s 5, [ae_s 4, ae_s 3, ae_s 6, ae_s 7, ae_s 8, ae_s 9, ae_s 10, ae_s 11, ae_s 12, ae_s 13, ae_s 14, ae_s 15, ae_s 16, ae_s 17, ae_s 18, ae_s 19, ae_s 20, ae_s 21, ae_s 22, ae_s 23, ae_s 24, ae_s 25, ae_s 26, ae_s 27, ae_s 28, ae_s 29, ae_s 30, ae_s 31, ae_s 32, ae_s 33, ae_s 34, ae_s 35, ae_s 36, ae_s 37, ae_s 38, ae_s 39, ae_s 40, ae_s 41, ae_s 42, ae_s 43, ae_s 44, ae_s 45, ae_s 46, ae_s 47, ae_s 48], [], [])
def xT_10 : xT := ([([(3, (-1))], 1), ([(3, 1)], (-3000))], [ae_k 0, ae_k 0, ae_k 2, ae_s 3], ae_s 6, [ae_s 4, ae_s 5, ae_s 3, ae_s 7, ae_s 8, ae_s 9, ae_s 10, ae_s 11, ae_s 12, ae_s 13, ae_s 14, ae_s 15, ae_s 16, ae_s 17, ae_s 18, ae_s 19, ae_s 20, ae_s 21, ae_s 22, ae_s 23, ae_s 24, ae_s 25, ae_s 26, ae_s 27, ae_s 28, ae_s 29, ae_s 30, ae_s 31, ae_s 32, ae_s 33, ae_s 34, ae_s 35, ae_s 36, ae_s 37, ae_s 38, ae_s 39, ae_s 40, ae_s 41, ae_s 42, ae_s 43, ae_s 44, ae_s 45, ae_s 46, ae_s 47, ae_s 48], [], [])
def xT_11 : xT := ([([(3, (-1))], 1), ([(3, 1)], (-3000))], [ae_k 0, ae_k 1, ae_k 0, ae_s 3], ae_s 7, [ae_s 4, ae_s 5, ae_s 6, ae_s 3, ae_s 8, ae_s 9, ae_s 10, ae_s 11, ae_s 12, ae_s 13, ae_s 14, ae_s 15, ae_s 16, ae_s 17, ae_s 18, ae_s 19, ae_s 20, ae_s 21, ae_s 22, ae_s 23, ae_s 24, ae_s 25, ae_s 26, ae_s 27, ae_s 28, ae_s 29, ae_s 30, ae_s 31, ae_s 32, ae_s 33, ae_s 34, ae_s 35, ae_s 36, ae_s 37, ae_s 38, ae_s 39, ae_s 40, ae_s 41, ae_s 42, ae_s 43, ae_s 44, ae_s 45, ae_s 46, ae_s 47, ae_s 48], [], [])
def xT_12 : xT := ([([(3, (-1))], 1), ([(3, 1)], (-3000))], [ae_k 0, ae_k 1, ae_k 1, ae_s 3], ae_k (-1), [ae_s 4, ae_s 5, ae_s 6, ae_s 7, ae_s 8, ae_s 9, ae_s 10, ae_s 11, ae_s 12, ae_s 13, ae_s 14, ae_s 15, ae_s 16, ae_s 17, ae_s 18, ae_s 19, ae_s 20, ae_s 21, ae_s 22, ae_s 23, ae_s 24, ae_s 25, ae_s 26, ae_s 27, ae_s 28, ae_s 29, ae_s 30, ae_s 31, ae_s 32, ae_s 33, ae_s 34, ae_s 35, ae_s 36, ae_s 37, ae_s 38, ae_s 39, ae_s 40, ae_s 41, ae_s 42, ae_s 43, ae_s 44, ae_s 45, ae_s 46, ae_s 47, ae_s 48], [], [])
def xT_13 : xT := ([([(3, (-1))], 1), ([(3, 1)], (-3000))], [ae_k 0, ae_k 1, ae_k 2, ae_s 3], ae_s 9, [ae_s 4, ae_s 5, ae_s 6, ae_s 7, ae_s 8, ae_s 3, ae_s 10, ae_s 11, ae_s 12, ae_s 13, ae_s 14, ae_s 15, ae_s 16, ae_s 17, ae_s 18, ae_s 19, ae_s 20, ae_s 21, ae_s 22, ae_s 23, ae_s 24, ae_s 25, ae_s 26, ae_s 27, ae_s 28, ae_s 29, ae_s 30, ae_s 31, ae_s 32, ae_s 33, ae_s 34, ae_s 35, ae_s 36, ae_s 37, ae_s 38, ae_s 39, ae_s 40, ae_s 41, ae_s 42, ae_s 43, ae_s 44, ae_s 45, ae_s 46, ae_s 47, ae_s 48], [], [])
def xT_14 : xT := ([([(3, (-1))], 1), ([(3, 1)], (-3000))], [ae_k 0, ae_k 2, ae_k 0, ae_s 3], ae_s 10, [ae_s 4, ae_s 5, ae_s 6, ae_s 7, ae_s 8, ae_s 9, ae_s 3, ae_s 11, ae_s 12, ae_s 13, ae_s 14, ae_s 15, ae_s 16, ae_s 17, ae_s 18, ae_s 19, ae_s 20, ae_s 21, ae_s 22, ae_s 23, ae_s 24, ae_s 25, ae_s 26, ae_s 27, ae_s 28, ae_s 29, ae_s 30, ae_s 31, ae_s 32, ae_s 33, ae_s 34, ae_s 35, ae_s 36, ae_s 37, ae_s 38, ae_s 39, ae_s 40, ae_s 41, ae_s 42, ae_s 43, ae_s 44, ae_s 45, ae_s 46, ae_s 47, ae_s 48], [], [])
def xT_15 : xT := ([([(3, (-1))], 1), ([(3, 1)], (-3000))], [ae_k 0, ae_k 2, ae_k 1, ae_s 3], ae_s 11, [ae_s 4, ae_s 5, ae_s 6, ae_s 7, ae_s 8, ae_s 9, ae_s 10, ae_s 3, ae_s 12, ae_s 13, ae_s 14, ae_s 15, ae_s 16, ae_s 17, ae_s 18, ae_s 19, ae_s 20, ae_s 21, ae_s 22, ae_s 23, ae_s 24, ae_s 25, ae_s 26, ae_s 27, ae_s 28, ae_s 29, ae_s 30, ae_s 31, ae_s 32, ae_s 33, ae_s 34, ae_s 35, ae_s 36, ae_s 37, ae_s 38, ae_s 39, ae_s 40, ae_s 41, ae_s 42, ae_s 43, ae_s 44, ae_s 45, ae_s 46, ae_s 47, ae_s 48], [], [])
def xT_16 : xT := ([([(3, (-1))], 1), ([(3, 1)], (-3000))], [ae_k 0, ae_k 2, ae_k 2, ae_s 3], ae_k (-1), [ae_s 4, ae_s 5, ae_s 6, ae_s 7, ae_s 8, ae_s 9, ae_s 10, ae_s 11, ae_s 12, ae_s 13, ae_s 14, ae_s 15, ae_s 16, ae_s 17, ae_s 18, ae_s 19, ae_s 20, ae_s 21, ae_s 22, ae_s 23, ae_s 24, ae_s 25, ae_s 26, ae_s 27, ae_s 28, ae_s 29, ae_s 30, ae_s 31, ae_s 32, ae_s 33, ae_s 34, ae_s 35, ae_s 36, ae_s 37, ae_s 38, ae_s 39, ae_s 40, ae_s 41, ae_s 42, ae_s 43, ae_s 44, ae_s 45, ae_s 46, ae_s 47, ae_s 48], [], [])
def xT_17 : xT := ([([(3, (-1))], 1), ([(3, 1)], (-3000))], [ae_k 1, ae_k 0, ae_k 0, ae_s 3], ae_k (-1), [ae_s 4, ae_s 5, ae_s 6, ae_s 7, ae_s 8, ae_s 9, ae_s 10, ae_s 11, ae_s 12, ae_s 13, ae_s 14, ae_s 15, ae_s 16, ae_s 17, ae_s 18, ae_s 19, ae_s 20, ae_s 21, ae_s 22, ae_s 23, ae_s 24, ae_s 25, ae_s 26, ae_s 27, ae_s 28, ae_s 29, ae_s 30, ae_s 31, ae_s 32, ae_s 33, ae_s 34, ae_s 35, ae_s 36, ae_s 37, ae_s 38, ae_s 39, ae_s 40, ae_s 41, ae_s 42, ae_s 43, ae_s 44, ae_s 45, ae_s 46, ae_s 47, ae_s 48], [], [])
def xT_18 : xT := ([([(3, (-1))], 1), ([(3, 1)], (-3000))], [ae_k 1, ae_k 0, ae_k 1, ae_s 3], ae_s 14, [ae_s 4, ae_s 5, ae_s 6, ae_s 7, ae_s 8, ae_s 9, ae_s 10, ae_s 11, ae_s 12, ae_s 13, ae_s 3, ae_s 15, ae_s 16, ae_s 17, ae_s 18, ae_s 19, ae_s 20, ae_s 21, ae_s 22, ae_s 23, ae_s 24, ae_s 25, ae_s 26, ae_s 27, ae_s 28, ae_s 29, ae_s 30, ae_s 31, ae_s 32, ae_s 33, ae_s 34, ae_s 35, ae_s 36, ae_s 37, ae_s 38, ae_s 39, ae_s 40, ae_s 41, ae_s 42, ae_s 43, ae_s 44, ae_s 45, ae_s 46, ae_s 47, ae_s 48], [], [])
def xT_19 : xT := ([([(3, (-1))], 1), ([(3, 1)], (-3000))], [ae_k 1, ae_k 0, ae_k 2, ae_s 3], ae_s 15, [ae_s 4, ae_s 5, ae_s 6, ae_s 7, ae_s 8, ae_s 9, ae_s 10, ae_s 11, ae_s 12, ae_s 13, ae_s 14, ae_s 3, ae_s 16, ae_s 17, ae_s 18, ae_s 19, ae_s 20, ae_s 21, ae_s 22, ae_s 23, ae_s 24, ae_s 25, ae_s 26, ae_s 27, ae_s 28, ae_s 29, ae_s 30, ae_s 31, ae_s 32, ae_s 33, ae_s 34, ae_s 35, ae_s 36, ae_s 37, ae_s 38, ae_s 39, ae_s 40, ae_s 41, ae_s 42, ae_s 43, ae_s 44, ae_s 45, ae_s 46, ae_s 47, ae_s 48], [], [])
def xT_20 : xT := ([([(3, (-1))], 1), ([(3, 1)], (-3000))], [ae_k 1, ae_k 1, ae_k 0, ae_s 3], ae_s 16, [ae_s 4, ae_s 5, ae_s 6, ae_s 7, ae_s 8, ae_s 9, ae_s 10, ae_s 11, ae_s 12, ae_s 13, ae_s 14, ae_s 15, ae_s 3, ae_s 17, ae_s 18, ae_s 19, ae_s 20, ae_s 21, ae_s 22, ae_s 23, ae_s 24, ae_s 25, ae_s 26, ae_s 27, ae_s 28, ae_s 29, ae_s 30, ae_s 31, ae_s 32, ae_s 33, ae_s 34, ae_s 35, ae_s 36, ae_s 37, ae_s 38, ae_s 39, ae_s 40, ae_s 41, ae_s 42, ae_s 43, ae_s 44, ae_s 45, ae_s 46, ae_s 47, ae_s 48], [], [])
def xT_21 : xT := ([([(3, (-1))], 1), ([(3, 1)], (-3000))], [ae_k 1, ae_k 1, ae_k 1, ae_s 3], ae_k (-1), [ae_s 4, ae_s 5, ae_s 6, ae_s 7, ae_s 8, ae_s 9, ae_s 10, ae_s 11, ae_s 12, ae_s 13, ae_s 14, ae_s 15, ae_s 16, ae_s 17, ae_s 18, ae_s 19, ae_s 20, ae_s 21, ae_s 22, ae_s 23, ae_s 24, ae_s 25, ae_s 26, ae_s 27, ae_s 28, ae_s 29, ae_s 30, ae_s 31, ae_s 32, ae_s 33, ae_s 34, ae_s 35, ae_s 36, ae_s 37, ae_s 38, ae_s 39, ae_s 40, ae_s 41, ae_s 42, ae_s 43, ae_s 44, ae_s 45, ae_s 46, ae_s 47, ae_s 48], [], [])
def xT_22 : xT := ([([(3, (-1))], 1), ([(3, 1)], (-3000))], [ae_k 1, ae_k 1, ae_k 2, ae_s 3], ae_s 18, [ae_s 4, ae_s 5, ae_s 6, ae_s 7, ae_s 8, ae_s 9, ae_s 10, ae_s 11, ae_s 12, ae_s 13, ae_s 14, ae_s 15, ae_s 16, ae_s 17, ae_s 3, ae_s 19, ae_s 20, ae_s 21, ae_s 22, ae_s 23, ae_s 24, ae_s 25, ae_s 26, ae_s 27, ae_s 28, ae_s 29, ae_s 30, ae_s 31, ae_s 32, ae_s 33, ae_s 34, ae_s 35, ae_s 36, ae_s 37, ae_s 38, ae_s 39, ae_s 40, ae_s 41, ae_s 42, ae_s 43, ae_s 44, ae_s 45, ae_s 46, ae_s 47, ae_s 48], [], [])
def xT_23 : xT := ([([(3, (-1))], 1), ([(3, 1)], (-3000))], [ae_k 1, ae_k 2, ae_k 0, ae_s 3], ae_s 19, [ae_s 4, ae_s 5, ae_s 6, ae_s 7, ae_s 8, ae_s 9, ae_s 10, ae_s 11, ae_s 12, ae_s 13, ae_s 14, ae_s 15, ae_s 16, ae_s 17, ae_s 18, ae_s 3, ae_s 20, ae_s 21, ae_s 22, ae_s 23, ae_s 24, ae_s 25, ae_s 26, ae_s 27, ae_s 28, ae_s 29, ae_s 30, ae_s 31, ae_s 32, ae_s 33, ae_s 34, ae_s 35, ae_s 36, ae_s 37, ae_s 38, ae_s 39, ae_s 40, ae_s 41, ae_s 42, ae_s 43, ae_s 44, ae_s 45, ae_s 46, ae_s 47, ae_s 48], [], [])
def xT_24 : xT := ([([(3, (-1))], 1), ([(3, 1)], (-3000))], [ae_k 1, ae_k 2, ae_k 1, ae_s 3], ae_s 20, [ae_s 4, ae_s 5, ae_s 6, ae_s 7, ae_s 8, ae_s 9, ae_s 10, ae_s 11, ae_s 12, ae_s 13, ae_s 14, ae_s 15, ae_s 16, ae_s 17, ae_s 18, ae_s 19, ae_s 3, ae_s 21, ae_s 22, ae_s 23, ae_s 24, ae_s 25, ae_s 26, ae_s 27, ae_s 28, ae_s 29, ae_s 30, ae_s 31, ae_s 32, ae_s 33, ae_s 34, ae_s 35, ae_s 36, ae_s 37, ae_s 38, ae_s 39, ae_s 40, ae_s 41, ae_s 42, ae_s 43, ae_s 44, ae_s 45, ae_s 46, ae_s 47, ae_s 48], [], [])
def xT_25 : xT := ([([(3, (-1))], 1), ([(3, 1)], (-3000))], [ae_k 1, ae_k 2, ae_k 2, ae_s 3], ae_k (-1), [ae_s 4, ae_s 5, ae_s 6, ae_s 7, ae_s 8, ae_s 9, ae_s 10, ae_s 11, ae_s 12, ae_s 13, ae_s 14, ae_s 15, ae_s 16, ae_s 17, ae_s 18, ae_s 19, ae_s 20, ae_s 21, ae_s 22, ae_s 23, ae_s 24, ae_s 25, ae_s 26, ae_s 27, ae_s 28, ae_s 29, ae_s 30, ae_s 31, ae_s 32, ae_s 33, ae_s 34, ae_s 35, ae_s 36, ae_s 37, ae_s 38, ae_s 39, ae_s 40, ae_s 41, ae_s 42, ae_s 43, ae_s 44, ae_s 45, ae_s 46, ae_s 47, ae_s 48], [], [])
def xT_26 : xT := ([([(3, (-1))], 1), ([(3, 1)], (-3000))], [ae_k 2, ae_k 0, ae_k 0, ae_s 3], ae_k (-1), [ae_s 4, ae_s 5, ae_s 6, ae_s 7, ae_s 8, ae_s 9, ae_s 10, ae_s 11, ae_s 12, ae_s 13, ae_s 14, ae_s 15, ae_s 16, ae_s 17, ae_s 18, ae_s 19, ae_s 20, ae_s 21, ae_s 22, ae_s 23, ae_s 24, ae_s 25, ae_s 26, ae_s 27, ae_s 28, ae_s 29, ae_s 30, ae_s 31, ae_s 32, ae_s 33, ae_s 34, ae_s 35, ae_s 36, ae_s 37, ae_s 38, ae_s 39, ae_s 40, ae_s 41, ae_s 42, ae_s 43, ae_s 44, ae_s 45, ae_s 46, ae_s 47, ae_s 48], [], [])
def xT_27 : xT := ([([(3, (-1))], 1), ([(3, 1)], (-3000))], [ae_k 2, ae_k 0, ae_k 1, ae_s 3], ae_s 23, [ae_s 4, ae_s 5, ae_s 6, ae_s 7, ae_s 8, ae_s 9, ae_s 10, ae_s 11, ae_s 12, ae_s 13, ae_s 14, ae_s 15, ae_s 16, ae_s 17, ae_s 18, ae_s 19, ae_s 20, ae_s 21, ae_s 22, ae_s 3, ae_s 24, ae_s 25, ae_s 26, ae_s 27, ae_s 28, ae_s 29, ae_s 30, ae_s 31, ae_s 32, ae_s 33, ae_s 34, ae_s 35, ae_s 36, ae_s 37, ae_s 38, ae_s 39, ae_s 40, ae_s 41, ae_s 42, ae_s 43, ae_s 44, ae_s 45, ae_s 46, ae_s 47, ae_s 48], [], [])
def xT_28 : xT := ([([(3, (-1))], 1), ([(3, 1)], (-3000))], [ae_k 2, ae_k 0, ae_k 2, ae_s 3], ae_s 24, [ae_s 4, ae_s 5, ae_s 6, ae_s 7, ae_s 8, ae_s 9, ae_s 10, ae_s 11, ae_s 12, ae_s 13, ae_s 14, ae_s 15, ae_s 16, ae_s 17, ae_s 18, ae_s 19, ae_s 20, ae_s 21, ae_s 22, ae_s 23, ae_s 3, ae_s 25, ae_s 26, ae_s 27, ae_s 28, ae_s 29, ae_s 30, ae_s 31, ae_s 32, ae_s 33, ae_s 34, ae_s 35, ae_s 36, ae_s 37, ae_s 38, ae_s 39, ae_s 40, ae_s 41, ae_s 42, ae_s 43, ae_s 44, ae_s 45, ae_s 46, ae_s 47, ae_s 48], [], [])
def xT_29 : xT := ([([(3, (-1))], 1), ([(3, 1)], (-3000))], [ae_k 2, ae_k 1, ae_k 0, ae_s 3], ae_s 25, [ae_s 4, ae_s 5, ae_s 6, ae_s 7, ae_s 8, ae_s 9, ae_s 10, ae_s 11, ae_s 12, ae_s 13, ae_s 14, ae_s 15, ae_s 16, ae_s 17, ae_s 18, ae_s 19, ae_s 20, ae_s 21, ae_s 22, ae_s 23, ae_s 24, ae_s 3, ae_s 26, ae_s 27, ae_s 28, ae_s 29, ae_s 30, ae_s 31, ae_s 32, ae_s 33, ae_s 34, ae_s 35, ae_s 36, ae_s 37, ae_s 38, ae_s 39, ae_s 40, ae_s 41, ae_s 42, ae_s 43, ae_s 44, ae_s 45, ae_s 46, ae_s 47, ae_s 48], [], [])
def xT_30 : xT := ([([(3, (-1))], 1), ([(3, 1)], (-3000))], [ae_k 2, ae_k 1, ae_k 1, ae_s 3], ae_k (-1), [ae_s 4, ae_s 5, ae_s 6, ae_s 7, ae_s 8, ae_s 9, ae_s 10, ae_s 11, ae_s 12, ae_s 13, ae_s 14, ae_s 15, ae_s 16, ae_s 17, ae_s 18, ae_s 19, ae_s 20, ae_s 21, ae_s 22, ae_s 23, ae_s 24, ae_s 25, ae_s 26, ae_s 27, ae_s 28, ae_s 29, ae_s 30, ae_s 31, ae_s 32, ae_s 33, ae_s 34, ae_s 35, ae_s 36, ae_s 37, ae_s 38, ae_s 39, ae_s 40, ae_s 41, ae_s 42, ae_s 43, ae_s 44, ae_s 45, ae_s 46, ae_s 47, ae_s 48], [], [])
def xT_31 : xT := ([([(3, (-1))], 1), ([(3, 1)], (-3000))], [ae_k 2, ae_k 1, ae_k 2, ae_s 3], ae_s 27, [ae_s 4, ae_s 5, ae_s 6, ae_s 7, ae_s 8, ae_s 9, ae_s 10, ae_s 11, ae_s 12, ae_s 13, ae_s 14, ae_s 15, ae_s 16, ae_s 17, ae_s 18, ae_s 19, ae_s 20, ae_s 21, ae_s 22, ae_s 23, ae_s 24, ae_s 25, ae_s 26, ae_s 3, ae_s 28, ae_s 29, ae_s 30, ae_s 31, ae_s 32, ae_s 33, ae_s 34, ae_s 35, ae_s 36, ae_s 37, ae_s 38, ae_s 39, ae_s 40, ae_s 41, ae_s 42, ae_s 43, ae_s 44, ae_s 45, ae_s 46, ae_s 47, ae_s 48], [], [])
def xT_32 : xT := ([([(3, (-1))], 1), ([(3, 1)], (-3000))], [ae_k 2, ae_k 2, ae_k 0, ae_s 3], ae_s 28, [ae_s 4, ae_s 5, ae_s 6, ae_s 7, ae_s 8, ae_s 9, ae_s 10, ae_s 11, ae_s 12, ae_s 13, ae_s 14, ae_s 15, ae_s 16, ae_s 17, ae_s 18, ae_s 19, ae_s 20, ae_s 21, ae_s 22, ae_s 23, ae_s 24, ae_s 25, ae_s 26, ae_s 27, ae_s 3, ae_s 29, ae_s 30, ae_s 31, ae_s 32, ae_s 33, ae_s 34, ae_s 35, ae_s 36, ae_s 37, ae_s 38, ae_s 39, ae_s 40, ae_s 41, ae_s 42, ae_s 43, ae_s 44, ae_s 45, ae_s 46, ae_s 47, ae_s 48], [], [])
def xT_33 : xT := ([([(3, (-1))], 1), ([(3, 1)], (-3000))], [ae_k 2, ae_k 2, ae_k 1, ae_s 3], ae_s 29, [ae_s 4, ae_s 5, ae_s 6, ae_s 7, ae_s 8, ae_s 9, ae_s 10, ae_s 11, ae_s 12, ae_s 13, ae_s 14, ae_s 15, ae_s 16, ae_s 17, ae_s 18, ae_s 19, ae_s 20, ae_s 21, ae_s 22, ae_s 23, ae_s 24, ae_s 25, ae_s 26, ae_s 27, ae_s 28, ae_s 3, ae_s 30, ae_s 31, ae_s 32, ae_s 33, ae_s 34, ae_s 35, ae_s 36, ae_s 37, ae_s 38, ae_s 39, ae_s 40, ae_s 41, ae_s 42, ae_s 43, ae_s 44, ae_s 45, ae_s 46, ae_s 47, ae_s 48], [], [])
def xT_34 : xT := ([([(3, (-1))], 1), ([(3, 1)], (-3000))], [ae_k 2, ae_k 2, ae_k 2, ae_s 3], ae_k (-1), [ae_s 4, ae_s 5, ae_s 6, ae_s 7, ae_s 8, ae_s 9, ae_s 10, ae_s 11, ae_s 12, ae_s 13, ae_s 14, ae_s 15, ae_s 16, ae_s 17, ae_s 18, ae_s 19, ae_s 20, ae_s 21, ae_s 22, ae_s 23, ae_s 24, ae_s 25, ae_s 26, ae_s 27, ae_s 28, ae_s 29, ae_s 30, ae_s 31, ae_s 32, ae_s 33, ae_s 34, ae_s 35, ae_s 36, ae_s 37, ae_s 38, ae_s 39, ae_s 40, ae_s 41, ae_s 42, ae_s 43, ae_s 44, ae_s 45, ae_s 46, ae_s 47, ae_s 48], [], [])
def xT_35 : xT := ([([(3, (-1))], 1), ([(3, 1)], (-3000))], [ae_k 3, ae_k 0, ae_k 0, ae_s 3], ae_k (-1), [ae_s 4, ae_s 5, ae_s 6, ae_s 7, ae_s 8, ae_s 9, ae_s 10, ae_s 11, ae_s 12, ae_s 13, ae_s 14, ae_s 15, ae_s 16, ae_s 17, ae_s 18, ae_s 19, ae_s 20, ae_s 21, ae_s 22, ae_s 23, ae_s 24, ae_s 25, ae_s 26, ae_s 27, ae_s 28, ae_s 29, ae_s 30, ae_s 31, ae_s 32, ae_s 33, ae_s 34, ae_s 35, ae_s 36, ae_s 37, ae_s 38, ae_s 39, ae_s 40, ae_s 41, ae_s 42, ae_s 43, ae_s 44, ae_s 45, ae_s 46, ae_s 47, ae_s 48], [], [])
def xT_36 : xT := ([([(3, (-1))], 1), ([(3, 1)], (-3000))], [ae_k 3, ae_k 0, ae_k 1, ae_s 3], ae_s 32, [ae_s 4, ae_s 5, ae_s 6, ae_s 7, ae_s 8, ae_s 9, ae_s 10, ae_s 11, ae_s 12, ae_s 13, ae_s 14, ae_s 15, ae_s 16, ae_s 17, ae_s 18, ae_s 19, ae_s 20, ae_s 21, ae_s 22, ae_s 23, ae_s 24, ae_s 25, ae_s 26, ae_s 27, ae_s 28, ae_s 29, ae_s 30, ae_s 31, ae_s 3, ae_s 33, ae_s 34, ae_s 35, ae_s 36, ae_s 37, ae_s 38, ae_s 39, ae_s 40, ae_s 41, ae_s 42, ae_s 43, ae_s 44, ae_s 45, ae_s 46, ae_s 47, ae_s 48], [], [])
def xT_37 : xT := ([([(3, (-1))], 1), ([(3, 1)], (-3000))], [ae_k 3, ae_k 0, ae_k 2, ae_s 3], ae_s 33, [ae_s 4, ae_s 5, ae_s 6, ae_s 7, ae_s 8, ae_s 9, ae_s 10, ae_s 11, ae_s 12, ae_s 13, ae_s 14, ae_s 15, ae_s 16, ae_s 17, ae_s 18, ae_s 19, ae_s 20, ae_s 21, ae_s 22, ae_s 23, ae_s 24, ae_s 25, ae_s 26, ae_s 27, ae_s 28, ae_s 29, ae_s 30, ae_s 31, ae_s 32, ae_s 3, ae_s 34, ae_s 35, ae_s 36, ae_s 37, ae_s 38, ae_s 39, ae_s 40, ae_s 41, ae_s 42, ae_s 43, ae_s 44, ae_s 45, ae_s 46, ae_s 47, ae_s 48], [], [])
def xT_38 : xT := ([([(3, (-1))], 1), ([(3, 1)], (-3000))], [ae_k 3, ae_k 1, ae_k 0, ae_s 3], ae_s 34, [ae_s 4, ae_s 5, ae_s 6, ae_s 7, ae_s 8, ae_s 9, ae_s 10, ae_s 11, ae_s 12, ae_s 13, ae_s 14, ae_s 15, ae_s 16, ae_s 17, ae_s 18, ae_s 19, ae_s 20, ae_s 21, ae_s 22, ae_s 23, ae_s 24, ae_s 25, ae_s 26, ae_s 27, ae_s 28, ae_s 29, ae_s 30, ae_s 31, ae_s 32, ae_s 33, ae_s 3, ae_s 35, ae_s 36, ae_s 37, ae_s 38, ae_s 39, ae_s 40, ae_s 41, ae_s 42, ae_s 43, ae_s 44, ae_s 45, ae_s 46, ae_s 47, ae_s 48], [], [])
def xT_39 : xT := ([([(3, (-1))], 1), ([(3, 1)], (-3000))], [ae_k 3, ae_k 1, ae_k 1, ae_s 3], ae_k (-1), [ae_s 4, ae_s 5, ae_s 6, ae_s 7, ae_s 8, ae_s 9, ae_s 10, ae_s 11, ae_s 12, ae_s 13, ae_s 14, ae_s 15, ae_s 16, ae_s 17, ae_s 18, ae_s 19, ae_s 20, ae_s 21, ae_s 22, ae_s 23, ae_s 24, ae_s 25, ae_s 26, ae_s 27, ae_s 28, ae_s 29, ae_s 30, ae_s 31, ae_s 32, ae_s 33, ae_s 34, ae_s 35, ae_s 36, ae_s 37, ae_s 38, ae_s 39, ae_s 40, ae_s 41, ae_s 42, ae_s 43, ae_s 44, ae_s 45, ae_s 46, ae_s 47, ae_s 48], [], [])
def xT_40 : xT := ([([(3, (-1))], 1), ([(3, 1)], (-3000))], [ae_k 3, ae_k 1, ae_k 2, ae_s 3], ae_s 36, [ae_s 4, ae_s 5, ae_s 6, ae_s 7, ae_s 8, ae_s 9, ae_s 10, ae_s 11, ae_s 12, ae_s 13, ae_s 14, ae_s 15, ae_s 16, ae_s 17, ae_s 18, ae_s 19, ae_s 20, ae_s 21, ae_s 22, ae_s 23, ae_s 24, ae_s 25, ae_s 26, ae_s 27, ae_s 28, ae_s 29, ae_s 30, ae_s 31, ae_s 32, ae_s 33, ae_s 34, ae_s 35, ae_s 3, ae_s 37, ae_s 38, ae_s 39, ae_s 40, ae_s 41, ae_s 42, ae_s 43, ae_s 44, ae_s 45, ae_s 46, ae_s 47, ae_s 48], [], [])
def xT_41 : xT := ([([(3, (-1))], 1), ([(3, 1)], (-3000))], [ae_k 3, ae_k 2, ae_k 0, ae_s 3], ae_s 37, [ae_s 4, ae_s 5, ae_s 6, ae_s 7, ae_s 8, ae_s 9, ae_s 10, ae_s 11, ae_s 12, ae_s 13, ae_s 14, ae_s 15, ae_s 16, ae_s 17, ae_s 18, ae_s 19, ae_s 20, ae_s 21, ae_s 22, ae_s 23, ae_s 24, ae_s 25, ae_s 26, ae_s 27, ae_s 28, ae_s 29, ae_s 30, ae_s 31, ae_s 32, ae_s 33, ae_s 34, ae_s 35, ae_s 36, ae_s 3, ae_s 38, ae_s 39, ae_s 40, ae_s 41, ae_s 42, ae_s 43, ae_s 44, ae_s 45, ae_s 46, ae_s 47, ae_s 48], [], [])
def xT_42 : xT := ([([(3, (-1))], 1), ([(3, 1)], (-3000))], [ae_k 3, ae_k 2, ae_k 1, ae_s 3], ae_s 38, [ae_s 4, ae_s 5, ae_s 6, ae_s 7, ae_s 8, ae_s 9, ae_s 10, ae_s 11, ae_s 12, ae_s 13, ae_s 14, ae_s 15, ae_s 16, ae_s 17, ae_s 18, ae_s 19, ae_s 20, ae_s 21, ae_s 22, ae_s 23, ae_s 24, ae_s 25, ae_s 26, ae_s 27, ae_s 28, ae_s 29, ae_s 30, ae_s 31, ae_s 32, ae_s 33, ae_s 34, ae_s 35, ae_s 36, ae_s 37, ae_s 3, ae_s 39, ae_s 40, ae_s 41, ae_s 42, ae_s 43, ae_s 44, ae_s 45, ae_s 46, ae_s 47, ae_s 48], [], [])
def xT_43 : xT := ([([(3, (-1))], 1), ([(3, 1)], (-3000))], [ae_k 3, ae_k 2, ae_k 2, ae_s 3], ae_k (-1), [ae_s 4, ae_s 5, ae_s 6, ae_s 7, ae_s 8, ae_s 9, ae_s 10, ae_s 11, ae_s 12, ae_s 13, ae_s 14, ae_s 15, ae_s 16, ae_s 17, ae_s 18, ae_s 19, ae_s 20, ae_s 21, ae_s 22, ae_s 23, ae_s 24, ae_s 25, ae_s 26, ae_s 27, ae_s 28, ae_s 29, ae_s 30, ae_s 31, ae_s 32, ae_s 33, ae_s 34, ae_s 35, ae_s 36, ae_s 37, ae_s 38, ae_s 39, ae_s 40, ae_s 41, ae_s 42, ae_s 43, ae_s 44, ae_s 45, ae_s 46, ae_s 47, ae_s 48], [], [])
def xT_44 : xT := ([([(3, (-1))], 1), ([(3, 1)], (-3000))], [ae_k 4, ae_k 0, ae_k 0, ae_s 3], ae_k (-1), [ae_s 4, ae_s 5, ae_s 6, ae_s 7, ae_s 8, ae_s 9, ae_s 10, ae_s 11, ae_s 12, ae_s 13, ae_s 14, ae_s 15, ae_s 16, ae_s 17, ae_s 18, ae_s 19, ae_s 20, ae_s 21, ae_s 22, ae_s 23, ae_s 24, ae_s 25, ae_s 26, ae_s 27, ae_s 28, ae_s 29, ae_s 30, ae_s 31, ae_s 32, ae_s 33, ae_s 34, ae_s 35, ae_s 36, ae_s 37, ae_s 38, ae_s 39, ae_s 40, ae_s 41, ae_s 42, ae_s 43, ae_s 44, ae_s 45, ae_s 46, ae_s 47, ae_s 48], [], [])
def xT_45 : xT := ([([(3, (-1))], 1), ([(3, 1)], (-3000))], [ae_k 4, ae_k 0, ae_k 1, ae_s 3], ae_s 41, [ae_s 4, ae_s 5, ae_s 6, ae_s 7, ae_s 8, ae_s 9, ae_s 10, ae_s 11, ae_s 12, ae_s 13, ae_s 14, ae_s 15, ae_s 16, ae_s 17, ae_s 18, ae_s 19, ae_s 20, ae_s 21, ae_s 22, ae_s 23, ae_s 24, ae_s 25, ae_s 26, ae_s 27, ae_s 28, ae_s 29, ae_s 30, ae_s 31, ae_s 32, ae_s 33, ae_s 34, ae_s 35, ae_s 36, ae_s 37, ae_s 38, ae_s 39, ae_s 40, ae_s 3, ae_s 42, ae_s 43, ae_s 44, ae_s 45, ae_s 46, ae_s 47, ae_s 48], [], [])
def xT_46 : xT := ([([(3, (-1))], 1), ([(3, 1)], (-3000))], [ae_k 4, ae_k 0, ae_k 2, ae_s 3], ae_s 42, [ae_s 4, ae_s 5, ae_s 6, ae_s 7, ae_s 8, ae_s 9, ae_s 10, ae_s 11, ae_s 12, ae_s 13, ae_s 14, ae_s 15, ae_s 16, ae_s 17, ae_s 18, ae_s 19, ae_s 20, ae_s 21, ae_s 22, ae_s 23, ae_s 24, ae_s 25, ae_s 26, ae_s 27, ae_s 28, ae_s 29, ae_s 30, ae_s 31, ae_s 32, ae_s 33, ae_s 34, ae_s 35, ae_s 36, ae_s 37, ae_s 38, ae_s 39, ae_s 40, ae_s 41, ae_s 3, ae_s 43, ae_s 44, ae_s 45, ae_s 46, ae_s 47, ae_s 48], [], [])
def xT_47 : xT := ([([(3, (-1))], 1), ([(3, 1)], (-3000))], [ae_k 4, ae_k 1, ae_k 0, ae_s 3], ae_s 43, [ae_s 4, ae_s 5, ae_s 6, ae_s 7, ae_s 8, ae_s 9, ae_s 10, ae_s 11, ae_s 12, ae_s 13, ae_s 14, ae_s 15, ae_s 16, ae_s 17, ae_s 18, ae_s 19, ae_s 20, ae_s 21, ae_s 22, ae_s 23, ae_s 24, ae_s 25, ae_s 26, ae_s 27, ae_s 28, ae_s 29, ae_s 30, ae_s 31, ae_s 32, ae_s 33, ae_s 34, ae_s 35, ae_s 36, ae_s 37, ae_s 38, ae_s 39, ae_s 40, ae_s 41, ae_s 42, ae_s 3, ae_s 44, ae_s 45, ae_s 46, ae_s 47, ae_s 48], [], [])
def xT_48 : xT := ([([(3, (-1))], 1), ([(3, 1)], (-3000))], [ae_k 4, ae_k 1, ae_k 1, ae_s 3], ae_k (-1), [ae_s 4, ae_s 5, ae_s 6, ae_s 7, ae_s 8, ae_s 9, ae_s 10, ae_s 11, ae_s 12, ae_s 13, ae_s 14, ae_s 15, ae_s 16, ae_s 17, ae_s 18, ae_s 19, ae_s 20, ae_s 21, ae_s 22, ae_s 23, ae_s 24, ae_s 25, ae_s 26, ae_s 27, ae_s 28, ae_s 29, ae_s 30, ae_s 31, ae_s 32, ae_s 33, ae_s 34, ae_s 35, ae_s 36, ae_s 37, ae_s 38, ae_s 39, ae_s 40, ae_s 41, ae_s 42, ae_s 43, ae_s 44, ae_s 45, ae_s 46, ae_s 47, ae_s 48], [], [])
def xT_49 : xT := ([([(3, (-1))], 1), ([(3, 1)], (-3000))], [ae_k 4, ae_k 1, ae_k 2, ae_s 3], ae_s 45, [ae_s 4, ae_s 5, ae_s 6, ae_s 7, ae_s 8, ae_s 9, ae_s 10, ae_s 11, ae_s 12, ae_s 13, ae_s 14, ae_s 15, ae_s 16, ae_s 17, ae_s 18, ae_s 19, ae_s 20, ae_s 21, ae_s 22, ae_s 23, ae_s 24, ae_s 25, ae_s 26, ae_s 27, ae_s 28, ae_s 29, ae_s 30, ae_s 31, ae_s 32, ae_s 33, ae_s 34, ae_s 35, ae_s 36, ae_s 37, ae_s 38, ae_s 39, ae_s 40, ae_s 41, ae_s 42, ae_s 43, ae_s 44, ae_s 3, ae_s 46, ae_s 47, ae_s 48], [], [])
def xT_50 : xT := ([([(3, (-1))], 1), ([(3, 1)], (-3000))], [ae_k 4, ae_k 2, ae_k 0, ae_s 3], ae_s 46, [ae_s 4, ae_s 5, ae_s 6, ae_s 7, ae_s 8, ae_s 9, ae_s 10, ae_s 11, ae_s 12, ae_s 13, ae_s 14, ae_s 15, ae_s 16, ae_s 17, ae_s 18, ae_s 19, ae_s 20, ae_s 21, ae_s 22, ae_s 23, ae_s 24, ae_s 25, ae_s 26, ae_s 27, ae_s 28, ae_s 29, ae_s 30, ae_s 31, ae_s 32, ae_s 33, ae_s 34, ae_s 35, ae_s 36, ae_s 37, ae_s 38, ae_s 39, ae_s 40, ae_s 41, ae_s 42, ae_s 43, ae_s 44, ae_s 45, ae_s 3, ae_s 47, ae_s 48], [], [])
def xT_51 : xT := ([([(3, (-1))], 1), ([(3, 1)], (-3000))], [ae_k 4, ae_k 2, ae_k 1, ae_s 3], ae_s 47, [ae_s 4, ae_s 5, ae_s 6, ae_s 7, ae_s 8, ae_s 9, ae_s 10, ae_s 11, ae_s 12, ae_s 13, ae_s 14, ae_s 15, ae_s 16, ae_s 17, ae_s 18, ae_s 19, ae_s 20, ae_s 21, ae_s 22, ae_s 23, ae_s 24, ae_s 25, ae_s 26, ae_s 27, ae_s 28, ae_s 29, ae_s 30, ae_s 31, ae_s 32, ae_s 33, ae_s 34, ae_s 35, ae_s 36, ae_s 37, ae_s 38, ae_s 39, ae_s 40, ae_s 41, ae_s 42, ae_s 43, ae_s 44, ae_s 45, ae_s 46, ae_s 3, ae_s 48], [], [])
def xT_52 : xT := ([([(3, (-1))], 1), ([(3, 1)], (-3000))], [ae_k 4, ae_k 2, ae_k 2, ae_s 3], ae_k (-1), [ae_s 4, ae_s 5, ae_s 6, ae_s 7, ae_s 8, ae_s 9, ae_s 10, ae_s 11, ae_s 12, ae_s 13, ae_s 14, ae_s 15, ae_s 16, ae_s 17, ae_s 18, ae_s 19, ae_s 20, ae_s 21, ae_s 22, ae_s 23, ae_s 24, ae_s 25, ae_s 26, ae_s 27, ae_s 28, ae_s 29, ae_s 30, ae_s 31, ae_s 32, ae_s 33, ae_s 34, ae_s 35, ae_s 36, ae_s 37, ae_s 38, ae_s 39, ae_s 40, ae_s 41, ae_s 42, ae_s 43, ae_s 44, ae_s 45, ae_s 46, ae_s 47, ae_s 48], [], [])
def xTs_0 : List xT := [xT_0, xT_1, xT_2, xT_3, xT_4, xT_5, xT_6, xT_7]
def xTs_1 : List xT := [xT_8, xT_9, xT_10, xT_11, xT_12, xT_13, xT_14, xT_15]
def xTs_2 : List xT := [xT_16, xT_17, xT_18, xT_19, xT_20, xT_21, xT_22, xT_23]
def xTs_3 : List xT := [xT_24, xT_25, xT_26, xT_27, xT_28, xT_29, xT_30, xT_31]
def xTs_4 : List xT := [xT_32, xT_33, xT_34, xT_35, xT_36, xT_37, xT_38, xT_39]
def xTs_5 : List xT := [xT_40, xT_41, xT_42, xT_43, xT_44, xT_45, xT_46, xT_47]
def xTs_6 : List xT := [xT_48, xT_49, xT_50, xT_51, xT_52]
def xTs : List xT := xTs_0 ++ (xTs_1 ++ (xTs_2 ++ (xTs_3 ++ (xTs_4 ++ (xTs_5 ++ (xTs_6))))))
def xcs : List aCon := []
def xrs : List aCon := []
def xOk (t : xT) : Bool := ak_inst (aG00 xcs) 100000 (xC 106 0 (jCc 0) xMc 2 t t.2.2.2.2.1) && ak_inst (aG00 xrs) 100000 (xC 257 99 jCr xMr 2 t t.2.2.2.2.2) && t.1.all (fun f => f.1.all (fun q => decide (q.1 < 49))) && t.2.1.all (fun f => f.1.all (fun q => decide (q.1 < 49))) && decide (t.2.2.2.1.length = jLv.length) && (jLv.zip t.2.2.2.1).all (fun p => aP_in (xE, t.1, [], [], []) p.1.2.2.2.2.2.1 p.1.2.2.2.2.2.2 p.2 && p.2.1.all (fun q => decide (q.1 < 49)))
section
set_option maxRecDepth 100000
theorem xk_0 : xTs_0.all xOk = true := by decide +kernel
theorem xk_1 : xTs_1.all xOk = true := by decide +kernel
theorem xk_2 : xTs_2.all xOk = true := by decide +kernel
theorem xk_3 : xTs_3.all xOk = true := by decide +kernel
theorem xk_4 : xTs_4.all xOk = true := by decide +kernel
theorem xk_5 : xTs_5.all xOk = true := by decide +kernel
theorem xk_6 : xTs_6.all xOk = true := by decide +kernel
theorem xE_len : xE.length = 49 := by decide +kernel
theorem lp_g : (la_ldc 1235 1 && la_ldc 1240 2 && la_ldc 1245 3 && la_ldc 1250 4 && la_ldc 1259 1 && la_ldc 1264 2 && la_ldc 1269 3 && la_ldc 1274 4) = true := by decide +kernel
theorem lx_1 : decode (mj_b 320) 1234 = .ok (.aload_n 1, 1) := by decide +kernel
theorem lx_2 : decode (mj_b 320) 1258 = .ok (.aload_n 2, 1) := by decide +kernel
theorem lx_3 : decode (mj_b 320) 1282 = .ok (.if_icmp .eq 935, 3) := by decide +kernel

end
section SIDES
variable {al : List Nat} {ws w w2 : va_W} {L : Nat} {i : Int} {ρ : List Int}
theorem xk : ∀ t ∈ xTs, xOk t = true := by
  unfold xTs
  exact List.forall_mem_append.mpr ⟨List.all_eq_true.mp xk_0, List.forall_mem_append.mpr ⟨List.all_eq_true.mp xk_1, List.forall_mem_append.mpr ⟨List.all_eq_true.mp xk_2, List.forall_mem_append.mpr ⟨List.all_eq_true.mp xk_3, List.forall_mem_append.mpr ⟨List.all_eq_true.mp xk_4, List.forall_mem_append.mpr ⟨List.all_eq_true.mp xk_5, List.all_eq_true.mp xk_6⟩⟩⟩⟩⟩⟩
theorem xcs_ok (hf : E.2.2.2.1.category = 1) (hT : ∀ σ : List Int, aTb E σ aTabs) : ∀ c ∈ xcs, aCO E al (aG00 []) jJ0 c := by
  have h_0 : ∀ c ∈ ([] : List aCon), aCO E al (aG00 []) jJ0 c := fun c hc => by cases hc
  exact h_0
theorem xrs_ok (hf : E.2.2.2.1.category = 1) (hT : ∀ σ : List Int, aTb E σ aTabs) : ∀ c ∈ xrs, aCO E al (aG00 []) jJ0 c := by
  have h_0 : ∀ c ∈ ([] : List aCon), aCO E al (aG00 []) jJ0 c := fun c hc => by cases hc
  exact h_0
/-- a side's call, by a template -/
theorem x_mj (hf : E.2.2.2.1.category = 1) (hT : ∀ σ : List Int, aTb E σ aTabs) {y self : Nat} {cells : List (Nat × Nat)} {md : List Nat} {dep : Nat} {t : xT} {cuts : List aCut} {cs : List aCon} (hcs : ∀ c ∈ cs, aCO E al (aG00 []) jJ0 c) (hy : y < mj_lawNo) (hk : ak_inst (aG00 cs) 100000 (xC y self cells md dep t cuts) = true) (hd : dep ≤ 85)
    (a5 : aWd E al aLay ws) (a6 : aRs aRules ws) (a7 : jJ0 ws) (he : aEv ρ xE) (hfs : aFs ρ t.1) (hl : cells.length = jLv.length) (hcell : ∀ (k : Nat) (c : Nat × Nat), cells[k]? = some c → c.1 < 1000000 ∧ ρ[4 + k]? = some (jS ws c.1 c.2) ∧ aSl ws c.1 c.2 (jS ws c.1 c.2)) {AS : List Value} (ha : gL E al ρ (.inr (0, self) :: t.2.1.map .inl) AS) :
    MJ E 85 0 0 (mj_in0 y AS ws) (fun v w => ∃ z : Int32, v = some (.int z) ∧ z.toInt = ae_ev ρ t.2.2.1 ∧ aWd E al aLay w ∧ aRs aRules w ∧ jJ0 w ∧ hD md ws w ∧ ∀ (k : Nat) (c : Nat × Nat) (e : ae), cells[k]? = some c → t.2.2.2.1[k]? = some e → jS w c.1 c.2 = ae_ev ρ e) := by
  have kn : aHh ρ ws (jHe cells (jSs 4)) := by
    refine jHe_ok (fun k c e h1 h2 => ?_)
    obtain ⟨g1, g2, g3⟩ := hcell k c h1
    obtain ⟨hlt, rfl⟩ := jSs_of h2
    refine ⟨g1, ?_, ?_⟩
    · have := (List.getElem?_eq_some_iff.mp g2).1
      simpa [ae_s] using this
    · rw [ev_s g2]
      exact g3
  refine (ai00L hf hT hcs (q := xC y self cells md dep t cuts) hy hk ρ AS ws he hfs ha kn a5 a6 a7 85 hd).weaken (Nat.le_refl _) (Nat.le_refl _) (Nat.le_refl _) (fun v w h => ?_)
  obtain ⟨cs', hcs', r, h1, h2, h3, h4, h5, h6, h7, h8, h9⟩ := h
  have hcs' := List.mem_singleton.mp hcs'
  subst hcs'
  have hr : r = [] := by
    have e1 := h1.1
    have e2 := he.1
    have e3 : (ρ ++ r).length = (xE ++ []).length := e1
    rw [List.length_append, List.append_nil] at e3
    exact List.eq_nil_of_length_eq_zero (by omega)
  subst hr
  rw [List.append_nil] at h3 h4
  obtain ⟨u, rfl, z, rfl, hz⟩ := h3
  refine ⟨z, rfl, hz.ev, h5, h6, h7, ⟨h8, fun k hk => h9 k hk⟩, fun k c e hc he => ?_⟩
  exact jHe_get h4 (jHe_mem hc he) (hcell k c hc).1
theorem x_cv_0 {S : List Int} (a1 a2 a3 a4 : Int) (h : a1 ≤ (-1)) : ∃ t ∈ xTs, (∀ f ∈ t.1, ae_ev ([a1, a2, a3, a4] ++ S) f ≤ 0) ∧ t.2.1.map (ae_ev ([a1, a2, a3, a4] ++ S)) = [a1, a2, a3, a4] := by
  have e0 : ([a1, a2, a3, a4] ++ S).getD 0 0 = a1 := rfl
  have e1 : ([a1, a2, a3, a4] ++ S).getD 1 0 = a2 := rfl
  have e2 : ([a1, a2, a3, a4] ++ S).getD 2 0 = a3 := rfl
  have e3 : ([a1, a2, a3, a4] ++ S).getD 3 0 = a4 := rfl
  refine ⟨xT_0, List.mem_of_getElem? (i := 0) (by rfl), fun f hf => ?_, ?_⟩
  · simp only [xT_0, List.mem_cons, List.not_mem_nil, or_false] at hf
    rcases hf with rfl <;> (simp only [ae_ev, ae_el, ae_s, ae_k, e0, e1, e2, e3]; omega)
  · simp only [xT_0, List.map_cons, List.map_nil, ae_ev, ae_el, ae_s, ae_k, e0, e1, e2, e3, List.cons.injEq, and_true]
    omega
theorem x_cv_1 {S : List Int} (a1 a2 a3 a4 : Int) (h : 5 ≤ a1) : ∃ t ∈ xTs, (∀ f ∈ t.1, ae_ev ([a1, a2, a3, a4] ++ S) f ≤ 0) ∧ t.2.1.map (ae_ev ([a1, a2, a3, a4] ++ S)) = [a1, a2, a3, a4] := by
  have e0 : ([a1, a2, a3, a4] ++ S).getD 0 0 = a1 := rfl
  have e1 : ([a1, a2, a3, a4] ++ S).getD 1 0 = a2 := rfl
  have e2 : ([a1, a2, a3, a4] ++ S).getD 2 0 = a3 := rfl
  have e3 : ([a1, a2, a3, a4] ++ S).getD 3 0 = a4 := rfl
  refine ⟨xT_1, List.mem_of_getElem? (i := 1) (by rfl), fun f hf => ?_, ?_⟩
  · simp only [xT_1, List.mem_cons, List.not_mem_nil, or_false] at hf
    rcases hf with rfl <;> (simp only [ae_ev, ae_el, ae_s, ae_k, e0, e1, e2, e3]; omega)
  · simp only [xT_1, List.map_cons, List.map_nil, ae_ev, ae_el, ae_s, ae_k, e0, e1, e2, e3, List.cons.injEq, and_true]
    omega
theorem x_cv_2 {S : List Int} (a1 a2 a3 a4 : Int) (h : a2 ≤ (-1)) : ∃ t ∈ xTs, (∀ f ∈ t.1, ae_ev ([a1, a2, a3, a4] ++ S) f ≤ 0) ∧ t.2.1.map (ae_ev ([a1, a2, a3, a4] ++ S)) = [a1, a2, a3, a4] := by
  have e0 : ([a1, a2, a3, a4] ++ S).getD 0 0 = a1 := rfl
  have e1 : ([a1, a2, a3, a4] ++ S).getD 1 0 = a2 := rfl
  have e2 : ([a1, a2, a3, a4] ++ S).getD 2 0 = a3 := rfl
  have e3 : ([a1, a2, a3, a4] ++ S).getD 3 0 = a4 := rfl
  refine ⟨xT_2, List.mem_of_getElem? (i := 2) (by rfl), fun f hf => ?_, ?_⟩
  · simp only [xT_2, List.mem_cons, List.not_mem_nil, or_false] at hf
    rcases hf with rfl <;> (simp only [ae_ev, ae_el, ae_s, ae_k, e0, e1, e2, e3]; omega)
  · simp only [xT_2, List.map_cons, List.map_nil, ae_ev, ae_el, ae_s, ae_k, e0, e1, e2, e3, List.cons.injEq, and_true]
    omega
theorem x_cv_3 {S : List Int} (a1 a2 a3 a4 : Int) (h : 3 ≤ a2) : ∃ t ∈ xTs, (∀ f ∈ t.1, ae_ev ([a1, a2, a3, a4] ++ S) f ≤ 0) ∧ t.2.1.map (ae_ev ([a1, a2, a3, a4] ++ S)) = [a1, a2, a3, a4] := by
  have e0 : ([a1, a2, a3, a4] ++ S).getD 0 0 = a1 := rfl
  have e1 : ([a1, a2, a3, a4] ++ S).getD 1 0 = a2 := rfl
  have e2 : ([a1, a2, a3, a4] ++ S).getD 2 0 = a3 := rfl
  have e3 : ([a1, a2, a3, a4] ++ S).getD 3 0 = a4 := rfl
  refine ⟨xT_3, List.mem_of_getElem? (i := 3) (by rfl), fun f hf => ?_, ?_⟩
  · simp only [xT_3, List.mem_cons, List.not_mem_nil, or_false] at hf
    rcases hf with rfl <;> (simp only [ae_ev, ae_el, ae_s, ae_k, e0, e1, e2, e3]; omega)
  · simp only [xT_3, List.map_cons, List.map_nil, ae_ev, ae_el, ae_s, ae_k, e0, e1, e2, e3, List.cons.injEq, and_true]
    omega
theorem x_cv_4 {S : List Int} (a1 a2 a3 a4 : Int) (h : a3 ≤ (-1)) : ∃ t ∈ xTs, (∀ f ∈ t.1, ae_ev ([a1, a2, a3, a4] ++ S) f ≤ 0) ∧ t.2.1.map (ae_ev ([a1, a2, a3, a4] ++ S)) = [a1, a2, a3, a4] := by
  have e0 : ([a1, a2, a3, a4] ++ S).getD 0 0 = a1 := rfl
  have e1 : ([a1, a2, a3, a4] ++ S).getD 1 0 = a2 := rfl
  have e2 : ([a1, a2, a3, a4] ++ S).getD 2 0 = a3 := rfl
  have e3 : ([a1, a2, a3, a4] ++ S).getD 3 0 = a4 := rfl
  refine ⟨xT_4, List.mem_of_getElem? (i := 4) (by rfl), fun f hf => ?_, ?_⟩
  · simp only [xT_4, List.mem_cons, List.not_mem_nil, or_false] at hf
    rcases hf with rfl <;> (simp only [ae_ev, ae_el, ae_s, ae_k, e0, e1, e2, e3]; omega)
  · simp only [xT_4, List.map_cons, List.map_nil, ae_ev, ae_el, ae_s, ae_k, e0, e1, e2, e3, List.cons.injEq, and_true]
    omega
theorem x_cv_5 {S : List Int} (a1 a2 a3 a4 : Int) (h : 3 ≤ a3) : ∃ t ∈ xTs, (∀ f ∈ t.1, ae_ev ([a1, a2, a3, a4] ++ S) f ≤ 0) ∧ t.2.1.map (ae_ev ([a1, a2, a3, a4] ++ S)) = [a1, a2, a3, a4] := by
  have e0 : ([a1, a2, a3, a4] ++ S).getD 0 0 = a1 := rfl
  have e1 : ([a1, a2, a3, a4] ++ S).getD 1 0 = a2 := rfl
  have e2 : ([a1, a2, a3, a4] ++ S).getD 2 0 = a3 := rfl
  have e3 : ([a1, a2, a3, a4] ++ S).getD 3 0 = a4 := rfl
  refine ⟨xT_5, List.mem_of_getElem? (i := 5) (by rfl), fun f hf => ?_, ?_⟩
  · simp only [xT_5, List.mem_cons, List.not_mem_nil, or_false] at hf
    rcases hf with rfl <;> (simp only [ae_ev, ae_el, ae_s, ae_k, e0, e1, e2, e3]; omega)
  · simp only [xT_5, List.map_cons, List.map_nil, ae_ev, ae_el, ae_s, ae_k, e0, e1, e2, e3, List.cons.injEq, and_true]
    omega
theorem x_cv_6 {S : List Int} (a1 a2 a3 a4 : Int) (h : a4 ≤ 0) : ∃ t ∈ xTs, (∀ f ∈ t.1, ae_ev ([a1, a2, a3, a4] ++ S) f ≤ 0) ∧ t.2.1.map (ae_ev ([a1, a2, a3, a4] ++ S)) = [a1, a2, a3, a4] := by
  have e0 : ([a1, a2, a3, a4] ++ S).getD 0 0 = a1 := rfl
  have e1 : ([a1, a2, a3, a4] ++ S).getD 1 0 = a2 := rfl
  have e2 : ([a1, a2, a3, a4] ++ S).getD 2 0 = a3 := rfl
  have e3 : ([a1, a2, a3, a4] ++ S).getD 3 0 = a4 := rfl
  refine ⟨xT_6, List.mem_of_getElem? (i := 6) (by rfl), fun f hf => ?_, ?_⟩
  · simp only [xT_6, List.mem_cons, List.not_mem_nil, or_false] at hf
    rcases hf with rfl <;> (simp only [ae_ev, ae_el, ae_s, ae_k, e0, e1, e2, e3]; omega)
  · simp only [xT_6, List.map_cons, List.map_nil, ae_ev, ae_el, ae_s, ae_k, e0, e1, e2, e3, List.cons.injEq, and_true]
    omega
theorem x_cv_7 {S : List Int} (a1 a2 a3 a4 : Int) (h : 3001 ≤ a4) : ∃ t ∈ xTs, (∀ f ∈ t.1, ae_ev ([a1, a2, a3, a4] ++ S) f ≤ 0) ∧ t.2.1.map (ae_ev ([a1, a2, a3, a4] ++ S)) = [a1, a2, a3, a4] := by
  have e0 : ([a1, a2, a3, a4] ++ S).getD 0 0 = a1 := rfl
  have e1 : ([a1, a2, a3, a4] ++ S).getD 1 0 = a2 := rfl
  have e2 : ([a1, a2, a3, a4] ++ S).getD 2 0 = a3 := rfl
  have e3 : ([a1, a2, a3, a4] ++ S).getD 3 0 = a4 := rfl
  refine ⟨xT_7, List.mem_of_getElem? (i := 7) (by rfl), fun f hf => ?_, ?_⟩
  · simp only [xT_7, List.mem_cons, List.not_mem_nil, or_false] at hf
    rcases hf with rfl <;> (simp only [ae_ev, ae_el, ae_s, ae_k, e0, e1, e2, e3]; omega)
  · simp only [xT_7, List.map_cons, List.map_nil, ae_ev, ae_el, ae_s, ae_k, e0, e1, e2, e3, List.cons.injEq, and_true]
    omega
theorem x_cv_8 {S : List Int} (a1 a2 a3 a4 : Int) (h : a1 = 0 ∧ a2 = 0 ∧ a3 = 0 ∧ 1 ≤ a4 ∧ a4 ≤ 3000) : ∃ t ∈ xTs, (∀ f ∈ t.1, ae_ev ([a1, a2, a3, a4] ++ S) f ≤ 0) ∧ t.2.1.map (ae_ev ([a1, a2, a3, a4] ++ S)) = [a1, a2, a3, a4] := by
  have e0 : ([a1, a2, a3, a4] ++ S).getD 0 0 = a1 := rfl
  have e1 : ([a1, a2, a3, a4] ++ S).getD 1 0 = a2 := rfl
  have e2 : ([a1, a2, a3, a4] ++ S).getD 2 0 = a3 := rfl
  have e3 : ([a1, a2, a3, a4] ++ S).getD 3 0 = a4 := rfl
  refine ⟨xT_8, List.mem_of_getElem? (i := 8) (by rfl), fun f hf => ?_, ?_⟩
  · simp only [xT_8, List.mem_cons, List.not_mem_nil, or_false] at hf
    rcases hf with rfl | rfl <;> (simp only [ae_ev, ae_el, ae_s, ae_k, e0, e1, e2, e3]; omega)
  · simp only [xT_8, List.map_cons, List.map_nil, ae_ev, ae_el, ae_s, ae_k, e0, e1, e2, e3, List.cons.injEq, and_true]
    omega
theorem x_cv_9 {S : List Int} (a1 a2 a3 a4 : Int) (h : a1 = 0 ∧ a2 = 0 ∧ a3 = 1 ∧ 1 ≤ a4 ∧ a4 ≤ 3000) : ∃ t ∈ xTs, (∀ f ∈ t.1, ae_ev ([a1, a2, a3, a4] ++ S) f ≤ 0) ∧ t.2.1.map (ae_ev ([a1, a2, a3, a4] ++ S)) = [a1, a2, a3, a4] := by
  have e0 : ([a1, a2, a3, a4] ++ S).getD 0 0 = a1 := rfl
  have e1 : ([a1, a2, a3, a4] ++ S).getD 1 0 = a2 := rfl
  have e2 : ([a1, a2, a3, a4] ++ S).getD 2 0 = a3 := rfl
  have e3 : ([a1, a2, a3, a4] ++ S).getD 3 0 = a4 := rfl
  refine ⟨xT_9, List.mem_of_getElem? (i := 9) (by rfl), fun f hf => ?_, ?_⟩
  · simp only [xT_9, List.mem_cons, List.not_mem_nil, or_false] at hf
    rcases hf with rfl | rfl <;> (simp only [ae_ev, ae_el, ae_s, ae_k, e0, e1, e2, e3]; omega)
  · simp only [xT_9, List.map_cons, List.map_nil, ae_ev, ae_el, ae_s, ae_k, e0, e1, e2, e3, List.cons.injEq, and_true]
    omega
theorem x_cv_10 {S : List Int} (a1 a2 a3 a4 : Int) (h : a1 = 0 ∧ a2 = 0 ∧ a3 = 2 ∧ 1 ≤ a4 ∧ a4 ≤ 3000) : ∃ t ∈ xTs, (∀ f ∈ t.1, ae_ev ([a1, a2, a3, a4] ++ S) f ≤ 0) ∧ t.2.1.map (ae_ev ([a1, a2, a3, a4] ++ S)) = [a1, a2, a3, a4] := by
  have e0 : ([a1, a2, a3, a4] ++ S).getD 0 0 = a1 := rfl
  have e1 : ([a1, a2, a3, a4] ++ S).getD 1 0 = a2 := rfl
  have e2 : ([a1, a2, a3, a4] ++ S).getD 2 0 = a3 := rfl
  have e3 : ([a1, a2, a3, a4] ++ S).getD 3 0 = a4 := rfl
  refine ⟨xT_10, List.mem_of_getElem? (i := 10) (by rfl), fun f hf => ?_, ?_⟩
  · simp only [xT_10, List.mem_cons, List.not_mem_nil, or_false] at hf
    rcases hf with rfl | rfl <;> (simp only [ae_ev, ae_el, ae_s, ae_k, e0, e1, e2, e3]; omega)
  · simp only [xT_10, List.map_cons, List.map_nil, ae_ev, ae_el, ae_s, ae_k, e0, e1, e2, e3, List.cons.injEq, and_true]
    omega
theorem x_cv_11 {S : List Int} (a1 a2 a3 a4 : Int) (h : a1 = 0 ∧ a2 = 1 ∧ a3 = 0 ∧ 1 ≤ a4 ∧ a4 ≤ 3000) : ∃ t ∈ xTs, (∀ f ∈ t.1, ae_ev ([a1, a2, a3, a4] ++ S) f ≤ 0) ∧ t.2.1.map (ae_ev ([a1, a2, a3, a4] ++ S)) = [a1, a2, a3, a4] := by
  have e0 : ([a1, a2, a3, a4] ++ S).getD 0 0 = a1 := rfl
  have e1 : ([a1, a2, a3, a4] ++ S).getD 1 0 = a2 := rfl
  have e2 : ([a1, a2, a3, a4] ++ S).getD 2 0 = a3 := rfl
  have e3 : ([a1, a2, a3, a4] ++ S).getD 3 0 = a4 := rfl
  refine ⟨xT_11, List.mem_of_getElem? (i := 11) (by rfl), fun f hf => ?_, ?_⟩
  · simp only [xT_11, List.mem_cons, List.not_mem_nil, or_false] at hf
    rcases hf with rfl | rfl <;> (simp only [ae_ev, ae_el, ae_s, ae_k, e0, e1, e2, e3]; omega)
  · simp only [xT_11, List.map_cons, List.map_nil, ae_ev, ae_el, ae_s, ae_k, e0, e1, e2, e3, List.cons.injEq, and_true]
    omega
theorem x_cv_12 {S : List Int} (a1 a2 a3 a4 : Int) (h : a1 = 0 ∧ a2 = 1 ∧ a3 = 1 ∧ 1 ≤ a4 ∧ a4 ≤ 3000) : ∃ t ∈ xTs, (∀ f ∈ t.1, ae_ev ([a1, a2, a3, a4] ++ S) f ≤ 0) ∧ t.2.1.map (ae_ev ([a1, a2, a3, a4] ++ S)) = [a1, a2, a3, a4] := by
  have e0 : ([a1, a2, a3, a4] ++ S).getD 0 0 = a1 := rfl
  have e1 : ([a1, a2, a3, a4] ++ S).getD 1 0 = a2 := rfl
  have e2 : ([a1, a2, a3, a4] ++ S).getD 2 0 = a3 := rfl
  have e3 : ([a1, a2, a3, a4] ++ S).getD 3 0 = a4 := rfl
  refine ⟨xT_12, List.mem_of_getElem? (i := 12) (by rfl), fun f hf => ?_, ?_⟩
  · simp only [xT_12, List.mem_cons, List.not_mem_nil, or_false] at hf
    rcases hf with rfl | rfl <;> (simp only [ae_ev, ae_el, ae_s, ae_k, e0, e1, e2, e3]; omega)
  · simp only [xT_12, List.map_cons, List.map_nil, ae_ev, ae_el, ae_s, ae_k, e0, e1, e2, e3, List.cons.injEq, and_true]
    omega
theorem x_cv_13 {S : List Int} (a1 a2 a3 a4 : Int) (h : a1 = 0 ∧ a2 = 1 ∧ a3 = 2 ∧ 1 ≤ a4 ∧ a4 ≤ 3000) : ∃ t ∈ xTs, (∀ f ∈ t.1, ae_ev ([a1, a2, a3, a4] ++ S) f ≤ 0) ∧ t.2.1.map (ae_ev ([a1, a2, a3, a4] ++ S)) = [a1, a2, a3, a4] := by
  have e0 : ([a1, a2, a3, a4] ++ S).getD 0 0 = a1 := rfl
  have e1 : ([a1, a2, a3, a4] ++ S).getD 1 0 = a2 := rfl
  have e2 : ([a1, a2, a3, a4] ++ S).getD 2 0 = a3 := rfl
  have e3 : ([a1, a2, a3, a4] ++ S).getD 3 0 = a4 := rfl
  refine ⟨xT_13, List.mem_of_getElem? (i := 13) (by rfl), fun f hf => ?_, ?_⟩
  · simp only [xT_13, List.mem_cons, List.not_mem_nil, or_false] at hf
    rcases hf with rfl | rfl <;> (simp only [ae_ev, ae_el, ae_s, ae_k, e0, e1, e2, e3]; omega)
  · simp only [xT_13, List.map_cons, List.map_nil, ae_ev, ae_el, ae_s, ae_k, e0, e1, e2, e3, List.cons.injEq, and_true]
    omega
theorem x_cv_14 {S : List Int} (a1 a2 a3 a4 : Int) (h : a1 = 0 ∧ a2 = 2 ∧ a3 = 0 ∧ 1 ≤ a4 ∧ a4 ≤ 3000) : ∃ t ∈ xTs, (∀ f ∈ t.1, ae_ev ([a1, a2, a3, a4] ++ S) f ≤ 0) ∧ t.2.1.map (ae_ev ([a1, a2, a3, a4] ++ S)) = [a1, a2, a3, a4] := by
  have e0 : ([a1, a2, a3, a4] ++ S).getD 0 0 = a1 := rfl
  have e1 : ([a1, a2, a3, a4] ++ S).getD 1 0 = a2 := rfl
  have e2 : ([a1, a2, a3, a4] ++ S).getD 2 0 = a3 := rfl
  have e3 : ([a1, a2, a3, a4] ++ S).getD 3 0 = a4 := rfl
  refine ⟨xT_14, List.mem_of_getElem? (i := 14) (by rfl), fun f hf => ?_, ?_⟩
  · simp only [xT_14, List.mem_cons, List.not_mem_nil, or_false] at hf
    rcases hf with rfl | rfl <;> (simp only [ae_ev, ae_el, ae_s, ae_k, e0, e1, e2, e3]; omega)
  · simp only [xT_14, List.map_cons, List.map_nil, ae_ev, ae_el, ae_s, ae_k, e0, e1, e2, e3, List.cons.injEq, and_true]
    omega
theorem x_cv_15 {S : List Int} (a1 a2 a3 a4 : Int) (h : a1 = 0 ∧ a2 = 2 ∧ a3 = 1 ∧ 1 ≤ a4 ∧ a4 ≤ 3000) : ∃ t ∈ xTs, (∀ f ∈ t.1, ae_ev ([a1, a2, a3, a4] ++ S) f ≤ 0) ∧ t.2.1.map (ae_ev ([a1, a2, a3, a4] ++ S)) = [a1, a2, a3, a4] := by
  have e0 : ([a1, a2, a3, a4] ++ S).getD 0 0 = a1 := rfl
  have e1 : ([a1, a2, a3, a4] ++ S).getD 1 0 = a2 := rfl
  have e2 : ([a1, a2, a3, a4] ++ S).getD 2 0 = a3 := rfl
  have e3 : ([a1, a2, a3, a4] ++ S).getD 3 0 = a4 := rfl
  refine ⟨xT_15, List.mem_of_getElem? (i := 15) (by rfl), fun f hf => ?_, ?_⟩
  · simp only [xT_15, List.mem_cons, List.not_mem_nil, or_false] at hf
    rcases hf with rfl | rfl <;> (simp only [ae_ev, ae_el, ae_s, ae_k, e0, e1, e2, e3]; omega)
  · simp only [xT_15, List.map_cons, List.map_nil, ae_ev, ae_el, ae_s, ae_k, e0, e1, e2, e3, List.cons.injEq, and_true]
    omega
theorem x_cv_16 {S : List Int} (a1 a2 a3 a4 : Int) (h : a1 = 0 ∧ a2 = 2 ∧ a3 = 2 ∧ 1 ≤ a4 ∧ a4 ≤ 3000) : ∃ t ∈ xTs, (∀ f ∈ t.1, ae_ev ([a1, a2, a3, a4] ++ S) f ≤ 0) ∧ t.2.1.map (ae_ev ([a1, a2, a3, a4] ++ S)) = [a1, a2, a3, a4] := by
  have e0 : ([a1, a2, a3, a4] ++ S).getD 0 0 = a1 := rfl
  have e1 : ([a1, a2, a3, a4] ++ S).getD 1 0 = a2 := rfl
  have e2 : ([a1, a2, a3, a4] ++ S).getD 2 0 = a3 := rfl
  have e3 : ([a1, a2, a3, a4] ++ S).getD 3 0 = a4 := rfl
  refine ⟨xT_16, List.mem_of_getElem? (i := 16) (by rfl), fun f hf => ?_, ?_⟩
  · simp only [xT_16, List.mem_cons, List.not_mem_nil, or_false] at hf
    rcases hf with rfl | rfl <;> (simp only [ae_ev, ae_el, ae_s, ae_k, e0, e1, e2, e3]; omega)
  · simp only [xT_16, List.map_cons, List.map_nil, ae_ev, ae_el, ae_s, ae_k, e0, e1, e2, e3, List.cons.injEq, and_true]
    omega
theorem x_cv_17 {S : List Int} (a1 a2 a3 a4 : Int) (h : a1 = 1 ∧ a2 = 0 ∧ a3 = 0 ∧ 1 ≤ a4 ∧ a4 ≤ 3000) : ∃ t ∈ xTs, (∀ f ∈ t.1, ae_ev ([a1, a2, a3, a4] ++ S) f ≤ 0) ∧ t.2.1.map (ae_ev ([a1, a2, a3, a4] ++ S)) = [a1, a2, a3, a4] := by
  have e0 : ([a1, a2, a3, a4] ++ S).getD 0 0 = a1 := rfl
  have e1 : ([a1, a2, a3, a4] ++ S).getD 1 0 = a2 := rfl
  have e2 : ([a1, a2, a3, a4] ++ S).getD 2 0 = a3 := rfl
  have e3 : ([a1, a2, a3, a4] ++ S).getD 3 0 = a4 := rfl
  refine ⟨xT_17, List.mem_of_getElem? (i := 17) (by rfl), fun f hf => ?_, ?_⟩
  · simp only [xT_17, List.mem_cons, List.not_mem_nil, or_false] at hf
    rcases hf with rfl | rfl <;> (simp only [ae_ev, ae_el, ae_s, ae_k, e0, e1, e2, e3]; omega)
  · simp only [xT_17, List.map_cons, List.map_nil, ae_ev, ae_el, ae_s, ae_k, e0, e1, e2, e3, List.cons.injEq, and_true]
    omega
theorem x_cv_18 {S : List Int} (a1 a2 a3 a4 : Int) (h : a1 = 1 ∧ a2 = 0 ∧ a3 = 1 ∧ 1 ≤ a4 ∧ a4 ≤ 3000) : ∃ t ∈ xTs, (∀ f ∈ t.1, ae_ev ([a1, a2, a3, a4] ++ S) f ≤ 0) ∧ t.2.1.map (ae_ev ([a1, a2, a3, a4] ++ S)) = [a1, a2, a3, a4] := by
  have e0 : ([a1, a2, a3, a4] ++ S).getD 0 0 = a1 := rfl
  have e1 : ([a1, a2, a3, a4] ++ S).getD 1 0 = a2 := rfl
  have e2 : ([a1, a2, a3, a4] ++ S).getD 2 0 = a3 := rfl
  have e3 : ([a1, a2, a3, a4] ++ S).getD 3 0 = a4 := rfl
  refine ⟨xT_18, List.mem_of_getElem? (i := 18) (by rfl), fun f hf => ?_, ?_⟩
  · simp only [xT_18, List.mem_cons, List.not_mem_nil, or_false] at hf
    rcases hf with rfl | rfl <;> (simp only [ae_ev, ae_el, ae_s, ae_k, e0, e1, e2, e3]; omega)
  · simp only [xT_18, List.map_cons, List.map_nil, ae_ev, ae_el, ae_s, ae_k, e0, e1, e2, e3, List.cons.injEq, and_true]
    omega
theorem x_cv_19 {S : List Int} (a1 a2 a3 a4 : Int) (h : a1 = 1 ∧ a2 = 0 ∧ a3 = 2 ∧ 1 ≤ a4 ∧ a4 ≤ 3000) : ∃ t ∈ xTs, (∀ f ∈ t.1, ae_ev ([a1, a2, a3, a4] ++ S) f ≤ 0) ∧ t.2.1.map (ae_ev ([a1, a2, a3, a4] ++ S)) = [a1, a2, a3, a4] := by
  have e0 : ([a1, a2, a3, a4] ++ S).getD 0 0 = a1 := rfl
  have e1 : ([a1, a2, a3, a4] ++ S).getD 1 0 = a2 := rfl
  have e2 : ([a1, a2, a3, a4] ++ S).getD 2 0 = a3 := rfl
  have e3 : ([a1, a2, a3, a4] ++ S).getD 3 0 = a4 := rfl
  refine ⟨xT_19, List.mem_of_getElem? (i := 19) (by rfl), fun f hf => ?_, ?_⟩
  · simp only [xT_19, List.mem_cons, List.not_mem_nil, or_false] at hf
    rcases hf with rfl | rfl <;> (simp only [ae_ev, ae_el, ae_s, ae_k, e0, e1, e2, e3]; omega)
  · simp only [xT_19, List.map_cons, List.map_nil, ae_ev, ae_el, ae_s, ae_k, e0, e1, e2, e3, List.cons.injEq, and_true]
    omega
theorem x_cv_20 {S : List Int} (a1 a2 a3 a4 : Int) (h : a1 = 1 ∧ a2 = 1 ∧ a3 = 0 ∧ 1 ≤ a4 ∧ a4 ≤ 3000) : ∃ t ∈ xTs, (∀ f ∈ t.1, ae_ev ([a1, a2, a3, a4] ++ S) f ≤ 0) ∧ t.2.1.map (ae_ev ([a1, a2, a3, a4] ++ S)) = [a1, a2, a3, a4] := by
  have e0 : ([a1, a2, a3, a4] ++ S).getD 0 0 = a1 := rfl
  have e1 : ([a1, a2, a3, a4] ++ S).getD 1 0 = a2 := rfl
  have e2 : ([a1, a2, a3, a4] ++ S).getD 2 0 = a3 := rfl
  have e3 : ([a1, a2, a3, a4] ++ S).getD 3 0 = a4 := rfl
  refine ⟨xT_20, List.mem_of_getElem? (i := 20) (by rfl), fun f hf => ?_, ?_⟩
  · simp only [xT_20, List.mem_cons, List.not_mem_nil, or_false] at hf
    rcases hf with rfl | rfl <;> (simp only [ae_ev, ae_el, ae_s, ae_k, e0, e1, e2, e3]; omega)
  · simp only [xT_20, List.map_cons, List.map_nil, ae_ev, ae_el, ae_s, ae_k, e0, e1, e2, e3, List.cons.injEq, and_true]
    omega
theorem x_cv_21 {S : List Int} (a1 a2 a3 a4 : Int) (h : a1 = 1 ∧ a2 = 1 ∧ a3 = 1 ∧ 1 ≤ a4 ∧ a4 ≤ 3000) : ∃ t ∈ xTs, (∀ f ∈ t.1, ae_ev ([a1, a2, a3, a4] ++ S) f ≤ 0) ∧ t.2.1.map (ae_ev ([a1, a2, a3, a4] ++ S)) = [a1, a2, a3, a4] := by
  have e0 : ([a1, a2, a3, a4] ++ S).getD 0 0 = a1 := rfl
  have e1 : ([a1, a2, a3, a4] ++ S).getD 1 0 = a2 := rfl
  have e2 : ([a1, a2, a3, a4] ++ S).getD 2 0 = a3 := rfl
  have e3 : ([a1, a2, a3, a4] ++ S).getD 3 0 = a4 := rfl
  refine ⟨xT_21, List.mem_of_getElem? (i := 21) (by rfl), fun f hf => ?_, ?_⟩
  · simp only [xT_21, List.mem_cons, List.not_mem_nil, or_false] at hf
    rcases hf with rfl | rfl <;> (simp only [ae_ev, ae_el, ae_s, ae_k, e0, e1, e2, e3]; omega)
  · simp only [xT_21, List.map_cons, List.map_nil, ae_ev, ae_el, ae_s, ae_k, e0, e1, e2, e3, List.cons.injEq, and_true]
    omega
theorem x_cv_22 {S : List Int} (a1 a2 a3 a4 : Int) (h : a1 = 1 ∧ a2 = 1 ∧ a3 = 2 ∧ 1 ≤ a4 ∧ a4 ≤ 3000) : ∃ t ∈ xTs, (∀ f ∈ t.1, ae_ev ([a1, a2, a3, a4] ++ S) f ≤ 0) ∧ t.2.1.map (ae_ev ([a1, a2, a3, a4] ++ S)) = [a1, a2, a3, a4] := by
  have e0 : ([a1, a2, a3, a4] ++ S).getD 0 0 = a1 := rfl
  have e1 : ([a1, a2, a3, a4] ++ S).getD 1 0 = a2 := rfl
  have e2 : ([a1, a2, a3, a4] ++ S).getD 2 0 = a3 := rfl
  have e3 : ([a1, a2, a3, a4] ++ S).getD 3 0 = a4 := rfl
  refine ⟨xT_22, List.mem_of_getElem? (i := 22) (by rfl), fun f hf => ?_, ?_⟩
  · simp only [xT_22, List.mem_cons, List.not_mem_nil, or_false] at hf
    rcases hf with rfl | rfl <;> (simp only [ae_ev, ae_el, ae_s, ae_k, e0, e1, e2, e3]; omega)
  · simp only [xT_22, List.map_cons, List.map_nil, ae_ev, ae_el, ae_s, ae_k, e0, e1, e2, e3, List.cons.injEq, and_true]
    omega
theorem x_cv_23 {S : List Int} (a1 a2 a3 a4 : Int) (h : a1 = 1 ∧ a2 = 2 ∧ a3 = 0 ∧ 1 ≤ a4 ∧ a4 ≤ 3000) : ∃ t ∈ xTs, (∀ f ∈ t.1, ae_ev ([a1, a2, a3, a4] ++ S) f ≤ 0) ∧ t.2.1.map (ae_ev ([a1, a2, a3, a4] ++ S)) = [a1, a2, a3, a4] := by
  have e0 : ([a1, a2, a3, a4] ++ S).getD 0 0 = a1 := rfl
  have e1 : ([a1, a2, a3, a4] ++ S).getD 1 0 = a2 := rfl
  have e2 : ([a1, a2, a3, a4] ++ S).getD 2 0 = a3 := rfl
  have e3 : ([a1, a2, a3, a4] ++ S).getD 3 0 = a4 := rfl
  refine ⟨xT_23, List.mem_of_getElem? (i := 23) (by rfl), fun f hf => ?_, ?_⟩
  · simp only [xT_23, List.mem_cons, List.not_mem_nil, or_false] at hf
    rcases hf with rfl | rfl <;> (simp only [ae_ev, ae_el, ae_s, ae_k, e0, e1, e2, e3]; omega)
  · simp only [xT_23, List.map_cons, List.map_nil, ae_ev, ae_el, ae_s, ae_k, e0, e1, e2, e3, List.cons.injEq, and_true]
    omega
theorem x_cv_24 {S : List Int} (a1 a2 a3 a4 : Int) (h : a1 = 1 ∧ a2 = 2 ∧ a3 = 1 ∧ 1 ≤ a4 ∧ a4 ≤ 3000) : ∃ t ∈ xTs, (∀ f ∈ t.1, ae_ev ([a1, a2, a3, a4] ++ S) f ≤ 0) ∧ t.2.1.map (ae_ev ([a1, a2, a3, a4] ++ S)) = [a1, a2, a3, a4] := by
  have e0 : ([a1, a2, a3, a4] ++ S).getD 0 0 = a1 := rfl
  have e1 : ([a1, a2, a3, a4] ++ S).getD 1 0 = a2 := rfl
  have e2 : ([a1, a2, a3, a4] ++ S).getD 2 0 = a3 := rfl
  have e3 : ([a1, a2, a3, a4] ++ S).getD 3 0 = a4 := rfl
  refine ⟨xT_24, List.mem_of_getElem? (i := 24) (by rfl), fun f hf => ?_, ?_⟩
  · simp only [xT_24, List.mem_cons, List.not_mem_nil, or_false] at hf
    rcases hf with rfl | rfl <;> (simp only [ae_ev, ae_el, ae_s, ae_k, e0, e1, e2, e3]; omega)
  · simp only [xT_24, List.map_cons, List.map_nil, ae_ev, ae_el, ae_s, ae_k, e0, e1, e2, e3, List.cons.injEq, and_true]
    omega
theorem x_cv_25 {S : List Int} (a1 a2 a3 a4 : Int) (h : a1 = 1 ∧ a2 = 2 ∧ a3 = 2 ∧ 1 ≤ a4 ∧ a4 ≤ 3000) : ∃ t ∈ xTs, (∀ f ∈ t.1, ae_ev ([a1, a2, a3, a4] ++ S) f ≤ 0) ∧ t.2.1.map (ae_ev ([a1, a2, a3, a4] ++ S)) = [a1, a2, a3, a4] := by
  have e0 : ([a1, a2, a3, a4] ++ S).getD 0 0 = a1 := rfl
  have e1 : ([a1, a2, a3, a4] ++ S).getD 1 0 = a2 := rfl
  have e2 : ([a1, a2, a3, a4] ++ S).getD 2 0 = a3 := rfl
  have e3 : ([a1, a2, a3, a4] ++ S).getD 3 0 = a4 := rfl
  refine ⟨xT_25, List.mem_of_getElem? (i := 25) (by rfl), fun f hf => ?_, ?_⟩
  · simp only [xT_25, List.mem_cons, List.not_mem_nil, or_false] at hf
    rcases hf with rfl | rfl <;> (simp only [ae_ev, ae_el, ae_s, ae_k, e0, e1, e2, e3]; omega)
  · simp only [xT_25, List.map_cons, List.map_nil, ae_ev, ae_el, ae_s, ae_k, e0, e1, e2, e3, List.cons.injEq, and_true]
    omega
theorem x_cv_26 {S : List Int} (a1 a2 a3 a4 : Int) (h : a1 = 2 ∧ a2 = 0 ∧ a3 = 0 ∧ 1 ≤ a4 ∧ a4 ≤ 3000) : ∃ t ∈ xTs, (∀ f ∈ t.1, ae_ev ([a1, a2, a3, a4] ++ S) f ≤ 0) ∧ t.2.1.map (ae_ev ([a1, a2, a3, a4] ++ S)) = [a1, a2, a3, a4] := by
  have e0 : ([a1, a2, a3, a4] ++ S).getD 0 0 = a1 := rfl
  have e1 : ([a1, a2, a3, a4] ++ S).getD 1 0 = a2 := rfl
  have e2 : ([a1, a2, a3, a4] ++ S).getD 2 0 = a3 := rfl
  have e3 : ([a1, a2, a3, a4] ++ S).getD 3 0 = a4 := rfl
  refine ⟨xT_26, List.mem_of_getElem? (i := 26) (by rfl), fun f hf => ?_, ?_⟩
  · simp only [xT_26, List.mem_cons, List.not_mem_nil, or_false] at hf
    rcases hf with rfl | rfl <;> (simp only [ae_ev, ae_el, ae_s, ae_k, e0, e1, e2, e3]; omega)
  · simp only [xT_26, List.map_cons, List.map_nil, ae_ev, ae_el, ae_s, ae_k, e0, e1, e2, e3, List.cons.injEq, and_true]
    omega
theorem x_cv_27 {S : List Int} (a1 a2 a3 a4 : Int) (h : a1 = 2 ∧ a2 = 0 ∧ a3 = 1 ∧ 1 ≤ a4 ∧ a4 ≤ 3000) : ∃ t ∈ xTs, (∀ f ∈ t.1, ae_ev ([a1, a2, a3, a4] ++ S) f ≤ 0) ∧ t.2.1.map (ae_ev ([a1, a2, a3, a4] ++ S)) = [a1, a2, a3, a4] := by
  have e0 : ([a1, a2, a3, a4] ++ S).getD 0 0 = a1 := rfl
  have e1 : ([a1, a2, a3, a4] ++ S).getD 1 0 = a2 := rfl
  have e2 : ([a1, a2, a3, a4] ++ S).getD 2 0 = a3 := rfl
  have e3 : ([a1, a2, a3, a4] ++ S).getD 3 0 = a4 := rfl
  refine ⟨xT_27, List.mem_of_getElem? (i := 27) (by rfl), fun f hf => ?_, ?_⟩
  · simp only [xT_27, List.mem_cons, List.not_mem_nil, or_false] at hf
    rcases hf with rfl | rfl <;> (simp only [ae_ev, ae_el, ae_s, ae_k, e0, e1, e2, e3]; omega)
  · simp only [xT_27, List.map_cons, List.map_nil, ae_ev, ae_el, ae_s, ae_k, e0, e1, e2, e3, List.cons.injEq, and_true]
    omega
theorem x_cv_28 {S : List Int} (a1 a2 a3 a4 : Int) (h : a1 = 2 ∧ a2 = 0 ∧ a3 = 2 ∧ 1 ≤ a4 ∧ a4 ≤ 3000) : ∃ t ∈ xTs, (∀ f ∈ t.1, ae_ev ([a1, a2, a3, a4] ++ S) f ≤ 0) ∧ t.2.1.map (ae_ev ([a1, a2, a3, a4] ++ S)) = [a1, a2, a3, a4] := by
  have e0 : ([a1, a2, a3, a4] ++ S).getD 0 0 = a1 := rfl
  have e1 : ([a1, a2, a3, a4] ++ S).getD 1 0 = a2 := rfl
  have e2 : ([a1, a2, a3, a4] ++ S).getD 2 0 = a3 := rfl
  have e3 : ([a1, a2, a3, a4] ++ S).getD 3 0 = a4 := rfl
  refine ⟨xT_28, List.mem_of_getElem? (i := 28) (by rfl), fun f hf => ?_, ?_⟩
  · simp only [xT_28, List.mem_cons, List.not_mem_nil, or_false] at hf
    rcases hf with rfl | rfl <;> (simp only [ae_ev, ae_el, ae_s, ae_k, e0, e1, e2, e3]; omega)
  · simp only [xT_28, List.map_cons, List.map_nil, ae_ev, ae_el, ae_s, ae_k, e0, e1, e2, e3, List.cons.injEq, and_true]
    omega
theorem x_cv_29 {S : List Int} (a1 a2 a3 a4 : Int) (h : a1 = 2 ∧ a2 = 1 ∧ a3 = 0 ∧ 1 ≤ a4 ∧ a4 ≤ 3000) : ∃ t ∈ xTs, (∀ f ∈ t.1, ae_ev ([a1, a2, a3, a4] ++ S) f ≤ 0) ∧ t.2.1.map (ae_ev ([a1, a2, a3, a4] ++ S)) = [a1, a2, a3, a4] := by
  have e0 : ([a1, a2, a3, a4] ++ S).getD 0 0 = a1 := rfl
  have e1 : ([a1, a2, a3, a4] ++ S).getD 1 0 = a2 := rfl
  have e2 : ([a1, a2, a3, a4] ++ S).getD 2 0 = a3 := rfl
  have e3 : ([a1, a2, a3, a4] ++ S).getD 3 0 = a4 := rfl
  refine ⟨xT_29, List.mem_of_getElem? (i := 29) (by rfl), fun f hf => ?_, ?_⟩
  · simp only [xT_29, List.mem_cons, List.not_mem_nil, or_false] at hf
    rcases hf with rfl | rfl <;> (simp only [ae_ev, ae_el, ae_s, ae_k, e0, e1, e2, e3]; omega)
  · simp only [xT_29, List.map_cons, List.map_nil, ae_ev, ae_el, ae_s, ae_k, e0, e1, e2, e3, List.cons.injEq, and_true]
    omega
theorem x_cv_30 {S : List Int} (a1 a2 a3 a4 : Int) (h : a1 = 2 ∧ a2 = 1 ∧ a3 = 1 ∧ 1 ≤ a4 ∧ a4 ≤ 3000) : ∃ t ∈ xTs, (∀ f ∈ t.1, ae_ev ([a1, a2, a3, a4] ++ S) f ≤ 0) ∧ t.2.1.map (ae_ev ([a1, a2, a3, a4] ++ S)) = [a1, a2, a3, a4] := by
  have e0 : ([a1, a2, a3, a4] ++ S).getD 0 0 = a1 := rfl
  have e1 : ([a1, a2, a3, a4] ++ S).getD 1 0 = a2 := rfl
  have e2 : ([a1, a2, a3, a4] ++ S).getD 2 0 = a3 := rfl
  have e3 : ([a1, a2, a3, a4] ++ S).getD 3 0 = a4 := rfl
  refine ⟨xT_30, List.mem_of_getElem? (i := 30) (by rfl), fun f hf => ?_, ?_⟩
  · simp only [xT_30, List.mem_cons, List.not_mem_nil, or_false] at hf
    rcases hf with rfl | rfl <;> (simp only [ae_ev, ae_el, ae_s, ae_k, e0, e1, e2, e3]; omega)
  · simp only [xT_30, List.map_cons, List.map_nil, ae_ev, ae_el, ae_s, ae_k, e0, e1, e2, e3, List.cons.injEq, and_true]
    omega
theorem x_cv_31 {S : List Int} (a1 a2 a3 a4 : Int) (h : a1 = 2 ∧ a2 = 1 ∧ a3 = 2 ∧ 1 ≤ a4 ∧ a4 ≤ 3000) : ∃ t ∈ xTs, (∀ f ∈ t.1, ae_ev ([a1, a2, a3, a4] ++ S) f ≤ 0) ∧ t.2.1.map (ae_ev ([a1, a2, a3, a4] ++ S)) = [a1, a2, a3, a4] := by
  have e0 : ([a1, a2, a3, a4] ++ S).getD 0 0 = a1 := rfl
  have e1 : ([a1, a2, a3, a4] ++ S).getD 1 0 = a2 := rfl
  have e2 : ([a1, a2, a3, a4] ++ S).getD 2 0 = a3 := rfl
  have e3 : ([a1, a2, a3, a4] ++ S).getD 3 0 = a4 := rfl
  refine ⟨xT_31, List.mem_of_getElem? (i := 31) (by rfl), fun f hf => ?_, ?_⟩
  · simp only [xT_31, List.mem_cons, List.not_mem_nil, or_false] at hf
    rcases hf with rfl | rfl <;> (simp only [ae_ev, ae_el, ae_s, ae_k, e0, e1, e2, e3]; omega)
  · simp only [xT_31, List.map_cons, List.map_nil, ae_ev, ae_el, ae_s, ae_k, e0, e1, e2, e3, List.cons.injEq, and_true]
    omega
theorem x_cv_32 {S : List Int} (a1 a2 a3 a4 : Int) (h : a1 = 2 ∧ a2 = 2 ∧ a3 = 0 ∧ 1 ≤ a4 ∧ a4 ≤ 3000) : ∃ t ∈ xTs, (∀ f ∈ t.1, ae_ev ([a1, a2, a3, a4] ++ S) f ≤ 0) ∧ t.2.1.map (ae_ev ([a1, a2, a3, a4] ++ S)) = [a1, a2, a3, a4] := by
  have e0 : ([a1, a2, a3, a4] ++ S).getD 0 0 = a1 := rfl
  have e1 : ([a1, a2, a3, a4] ++ S).getD 1 0 = a2 := rfl
  have e2 : ([a1, a2, a3, a4] ++ S).getD 2 0 = a3 := rfl
  have e3 : ([a1, a2, a3, a4] ++ S).getD 3 0 = a4 := rfl
  refine ⟨xT_32, List.mem_of_getElem? (i := 32) (by rfl), fun f hf => ?_, ?_⟩
  · simp only [xT_32, List.mem_cons, List.not_mem_nil, or_false] at hf
    rcases hf with rfl | rfl <;> (simp only [ae_ev, ae_el, ae_s, ae_k, e0, e1, e2, e3]; omega)
  · simp only [xT_32, List.map_cons, List.map_nil, ae_ev, ae_el, ae_s, ae_k, e0, e1, e2, e3, List.cons.injEq, and_true]
    omega
theorem x_cv_33 {S : List Int} (a1 a2 a3 a4 : Int) (h : a1 = 2 ∧ a2 = 2 ∧ a3 = 1 ∧ 1 ≤ a4 ∧ a4 ≤ 3000) : ∃ t ∈ xTs, (∀ f ∈ t.1, ae_ev ([a1, a2, a3, a4] ++ S) f ≤ 0) ∧ t.2.1.map (ae_ev ([a1, a2, a3, a4] ++ S)) = [a1, a2, a3, a4] := by
  have e0 : ([a1, a2, a3, a4] ++ S).getD 0 0 = a1 := rfl
  have e1 : ([a1, a2, a3, a4] ++ S).getD 1 0 = a2 := rfl
  have e2 : ([a1, a2, a3, a4] ++ S).getD 2 0 = a3 := rfl
  have e3 : ([a1, a2, a3, a4] ++ S).getD 3 0 = a4 := rfl
  refine ⟨xT_33, List.mem_of_getElem? (i := 33) (by rfl), fun f hf => ?_, ?_⟩
  · simp only [xT_33, List.mem_cons, List.not_mem_nil, or_false] at hf
    rcases hf with rfl | rfl <;> (simp only [ae_ev, ae_el, ae_s, ae_k, e0, e1, e2, e3]; omega)
  · simp only [xT_33, List.map_cons, List.map_nil, ae_ev, ae_el, ae_s, ae_k, e0, e1, e2, e3, List.cons.injEq, and_true]
    omega
theorem x_cv_34 {S : List Int} (a1 a2 a3 a4 : Int) (h : a1 = 2 ∧ a2 = 2 ∧ a3 = 2 ∧ 1 ≤ a4 ∧ a4 ≤ 3000) : ∃ t ∈ xTs, (∀ f ∈ t.1, ae_ev ([a1, a2, a3, a4] ++ S) f ≤ 0) ∧ t.2.1.map (ae_ev ([a1, a2, a3, a4] ++ S)) = [a1, a2, a3, a4] := by
  have e0 : ([a1, a2, a3, a4] ++ S).getD 0 0 = a1 := rfl
  have e1 : ([a1, a2, a3, a4] ++ S).getD 1 0 = a2 := rfl
  have e2 : ([a1, a2, a3, a4] ++ S).getD 2 0 = a3 := rfl
  have e3 : ([a1, a2, a3, a4] ++ S).getD 3 0 = a4 := rfl
  refine ⟨xT_34, List.mem_of_getElem? (i := 34) (by rfl), fun f hf => ?_, ?_⟩
  · simp only [xT_34, List.mem_cons, List.not_mem_nil, or_false] at hf
    rcases hf with rfl | rfl <;> (simp only [ae_ev, ae_el, ae_s, ae_k, e0, e1, e2, e3]; omega)
  · simp only [xT_34, List.map_cons, List.map_nil, ae_ev, ae_el, ae_s, ae_k, e0, e1, e2, e3, List.cons.injEq, and_true]
    omega
theorem x_cv_35 {S : List Int} (a1 a2 a3 a4 : Int) (h : a1 = 3 ∧ a2 = 0 ∧ a3 = 0 ∧ 1 ≤ a4 ∧ a4 ≤ 3000) : ∃ t ∈ xTs, (∀ f ∈ t.1, ae_ev ([a1, a2, a3, a4] ++ S) f ≤ 0) ∧ t.2.1.map (ae_ev ([a1, a2, a3, a4] ++ S)) = [a1, a2, a3, a4] := by
  have e0 : ([a1, a2, a3, a4] ++ S).getD 0 0 = a1 := rfl
  have e1 : ([a1, a2, a3, a4] ++ S).getD 1 0 = a2 := rfl
  have e2 : ([a1, a2, a3, a4] ++ S).getD 2 0 = a3 := rfl
  have e3 : ([a1, a2, a3, a4] ++ S).getD 3 0 = a4 := rfl
  refine ⟨xT_35, List.mem_of_getElem? (i := 35) (by rfl), fun f hf => ?_, ?_⟩
  · simp only [xT_35, List.mem_cons, List.not_mem_nil, or_false] at hf
    rcases hf with rfl | rfl <;> (simp only [ae_ev, ae_el, ae_s, ae_k, e0, e1, e2, e3]; omega)
  · simp only [xT_35, List.map_cons, List.map_nil, ae_ev, ae_el, ae_s, ae_k, e0, e1, e2, e3, List.cons.injEq, and_true]
    omega
theorem x_cv_36 {S : List Int} (a1 a2 a3 a4 : Int) (h : a1 = 3 ∧ a2 = 0 ∧ a3 = 1 ∧ 1 ≤ a4 ∧ a4 ≤ 3000) : ∃ t ∈ xTs, (∀ f ∈ t.1, ae_ev ([a1, a2, a3, a4] ++ S) f ≤ 0) ∧ t.2.1.map (ae_ev ([a1, a2, a3, a4] ++ S)) = [a1, a2, a3, a4] := by
  have e0 : ([a1, a2, a3, a4] ++ S).getD 0 0 = a1 := rfl
  have e1 : ([a1, a2, a3, a4] ++ S).getD 1 0 = a2 := rfl
  have e2 : ([a1, a2, a3, a4] ++ S).getD 2 0 = a3 := rfl
  have e3 : ([a1, a2, a3, a4] ++ S).getD 3 0 = a4 := rfl
  refine ⟨xT_36, List.mem_of_getElem? (i := 36) (by rfl), fun f hf => ?_, ?_⟩
  · simp only [xT_36, List.mem_cons, List.not_mem_nil, or_false] at hf
    rcases hf with rfl | rfl <;> (simp only [ae_ev, ae_el, ae_s, ae_k, e0, e1, e2, e3]; omega)
  · simp only [xT_36, List.map_cons, List.map_nil, ae_ev, ae_el, ae_s, ae_k, e0, e1, e2, e3, List.cons.injEq, and_true]
    omega
theorem x_cv_37 {S : List Int} (a1 a2 a3 a4 : Int) (h : a1 = 3 ∧ a2 = 0 ∧ a3 = 2 ∧ 1 ≤ a4 ∧ a4 ≤ 3000) : ∃ t ∈ xTs, (∀ f ∈ t.1, ae_ev ([a1, a2, a3, a4] ++ S) f ≤ 0) ∧ t.2.1.map (ae_ev ([a1, a2, a3, a4] ++ S)) = [a1, a2, a3, a4] := by
  have e0 : ([a1, a2, a3, a4] ++ S).getD 0 0 = a1 := rfl
  have e1 : ([a1, a2, a3, a4] ++ S).getD 1 0 = a2 := rfl
  have e2 : ([a1, a2, a3, a4] ++ S).getD 2 0 = a3 := rfl
  have e3 : ([a1, a2, a3, a4] ++ S).getD 3 0 = a4 := rfl
  refine ⟨xT_37, List.mem_of_getElem? (i := 37) (by rfl), fun f hf => ?_, ?_⟩
  · simp only [xT_37, List.mem_cons, List.not_mem_nil, or_false] at hf
    rcases hf with rfl | rfl <;> (simp only [ae_ev, ae_el, ae_s, ae_k, e0, e1, e2, e3]; omega)
  · simp only [xT_37, List.map_cons, List.map_nil, ae_ev, ae_el, ae_s, ae_k, e0, e1, e2, e3, List.cons.injEq, and_true]
    omega
theorem x_cv_38 {S : List Int} (a1 a2 a3 a4 : Int) (h : a1 = 3 ∧ a2 = 1 ∧ a3 = 0 ∧ 1 ≤ a4 ∧ a4 ≤ 3000) : ∃ t ∈ xTs, (∀ f ∈ t.1, ae_ev ([a1, a2, a3, a4] ++ S) f ≤ 0) ∧ t.2.1.map (ae_ev ([a1, a2, a3, a4] ++ S)) = [a1, a2, a3, a4] := by
  have e0 : ([a1, a2, a3, a4] ++ S).getD 0 0 = a1 := rfl
  have e1 : ([a1, a2, a3, a4] ++ S).getD 1 0 = a2 := rfl
  have e2 : ([a1, a2, a3, a4] ++ S).getD 2 0 = a3 := rfl
  have e3 : ([a1, a2, a3, a4] ++ S).getD 3 0 = a4 := rfl
  refine ⟨xT_38, List.mem_of_getElem? (i := 38) (by rfl), fun f hf => ?_, ?_⟩
  · simp only [xT_38, List.mem_cons, List.not_mem_nil, or_false] at hf
    rcases hf with rfl | rfl <;> (simp only [ae_ev, ae_el, ae_s, ae_k, e0, e1, e2, e3]; omega)
  · simp only [xT_38, List.map_cons, List.map_nil, ae_ev, ae_el, ae_s, ae_k, e0, e1, e2, e3, List.cons.injEq, and_true]
    omega
theorem x_cv_39 {S : List Int} (a1 a2 a3 a4 : Int) (h : a1 = 3 ∧ a2 = 1 ∧ a3 = 1 ∧ 1 ≤ a4 ∧ a4 ≤ 3000) : ∃ t ∈ xTs, (∀ f ∈ t.1, ae_ev ([a1, a2, a3, a4] ++ S) f ≤ 0) ∧ t.2.1.map (ae_ev ([a1, a2, a3, a4] ++ S)) = [a1, a2, a3, a4] := by
  have e0 : ([a1, a2, a3, a4] ++ S).getD 0 0 = a1 := rfl
  have e1 : ([a1, a2, a3, a4] ++ S).getD 1 0 = a2 := rfl
  have e2 : ([a1, a2, a3, a4] ++ S).getD 2 0 = a3 := rfl
  have e3 : ([a1, a2, a3, a4] ++ S).getD 3 0 = a4 := rfl
  refine ⟨xT_39, List.mem_of_getElem? (i := 39) (by rfl), fun f hf => ?_, ?_⟩
  · simp only [xT_39, List.mem_cons, List.not_mem_nil, or_false] at hf
    rcases hf with rfl | rfl <;> (simp only [ae_ev, ae_el, ae_s, ae_k, e0, e1, e2, e3]; omega)
  · simp only [xT_39, List.map_cons, List.map_nil, ae_ev, ae_el, ae_s, ae_k, e0, e1, e2, e3, List.cons.injEq, and_true]
    omega
theorem x_cv_40 {S : List Int} (a1 a2 a3 a4 : Int) (h : a1 = 3 ∧ a2 = 1 ∧ a3 = 2 ∧ 1 ≤ a4 ∧ a4 ≤ 3000) : ∃ t ∈ xTs, (∀ f ∈ t.1, ae_ev ([a1, a2, a3, a4] ++ S) f ≤ 0) ∧ t.2.1.map (ae_ev ([a1, a2, a3, a4] ++ S)) = [a1, a2, a3, a4] := by
  have e0 : ([a1, a2, a3, a4] ++ S).getD 0 0 = a1 := rfl
  have e1 : ([a1, a2, a3, a4] ++ S).getD 1 0 = a2 := rfl
  have e2 : ([a1, a2, a3, a4] ++ S).getD 2 0 = a3 := rfl
  have e3 : ([a1, a2, a3, a4] ++ S).getD 3 0 = a4 := rfl
  refine ⟨xT_40, List.mem_of_getElem? (i := 40) (by rfl), fun f hf => ?_, ?_⟩
  · simp only [xT_40, List.mem_cons, List.not_mem_nil, or_false] at hf
    rcases hf with rfl | rfl <;> (simp only [ae_ev, ae_el, ae_s, ae_k, e0, e1, e2, e3]; omega)
  · simp only [xT_40, List.map_cons, List.map_nil, ae_ev, ae_el, ae_s, ae_k, e0, e1, e2, e3, List.cons.injEq, and_true]
    omega
theorem x_cv_41 {S : List Int} (a1 a2 a3 a4 : Int) (h : a1 = 3 ∧ a2 = 2 ∧ a3 = 0 ∧ 1 ≤ a4 ∧ a4 ≤ 3000) : ∃ t ∈ xTs, (∀ f ∈ t.1, ae_ev ([a1, a2, a3, a4] ++ S) f ≤ 0) ∧ t.2.1.map (ae_ev ([a1, a2, a3, a4] ++ S)) = [a1, a2, a3, a4] := by
  have e0 : ([a1, a2, a3, a4] ++ S).getD 0 0 = a1 := rfl
  have e1 : ([a1, a2, a3, a4] ++ S).getD 1 0 = a2 := rfl
  have e2 : ([a1, a2, a3, a4] ++ S).getD 2 0 = a3 := rfl
  have e3 : ([a1, a2, a3, a4] ++ S).getD 3 0 = a4 := rfl
  refine ⟨xT_41, List.mem_of_getElem? (i := 41) (by rfl), fun f hf => ?_, ?_⟩
  · simp only [xT_41, List.mem_cons, List.not_mem_nil, or_false] at hf
    rcases hf with rfl | rfl <;> (simp only [ae_ev, ae_el, ae_s, ae_k, e0, e1, e2, e3]; omega)
  · simp only [xT_41, List.map_cons, List.map_nil, ae_ev, ae_el, ae_s, ae_k, e0, e1, e2, e3, List.cons.injEq, and_true]
    omega
theorem x_cv_42 {S : List Int} (a1 a2 a3 a4 : Int) (h : a1 = 3 ∧ a2 = 2 ∧ a3 = 1 ∧ 1 ≤ a4 ∧ a4 ≤ 3000) : ∃ t ∈ xTs, (∀ f ∈ t.1, ae_ev ([a1, a2, a3, a4] ++ S) f ≤ 0) ∧ t.2.1.map (ae_ev ([a1, a2, a3, a4] ++ S)) = [a1, a2, a3, a4] := by
  have e0 : ([a1, a2, a3, a4] ++ S).getD 0 0 = a1 := rfl
  have e1 : ([a1, a2, a3, a4] ++ S).getD 1 0 = a2 := rfl
  have e2 : ([a1, a2, a3, a4] ++ S).getD 2 0 = a3 := rfl
  have e3 : ([a1, a2, a3, a4] ++ S).getD 3 0 = a4 := rfl
  refine ⟨xT_42, List.mem_of_getElem? (i := 42) (by rfl), fun f hf => ?_, ?_⟩
  · simp only [xT_42, List.mem_cons, List.not_mem_nil, or_false] at hf
    rcases hf with rfl | rfl <;> (simp only [ae_ev, ae_el, ae_s, ae_k, e0, e1, e2, e3]; omega)
  · simp only [xT_42, List.map_cons, List.map_nil, ae_ev, ae_el, ae_s, ae_k, e0, e1, e2, e3, List.cons.injEq, and_true]
    omega
theorem x_cv_43 {S : List Int} (a1 a2 a3 a4 : Int) (h : a1 = 3 ∧ a2 = 2 ∧ a3 = 2 ∧ 1 ≤ a4 ∧ a4 ≤ 3000) : ∃ t ∈ xTs, (∀ f ∈ t.1, ae_ev ([a1, a2, a3, a4] ++ S) f ≤ 0) ∧ t.2.1.map (ae_ev ([a1, a2, a3, a4] ++ S)) = [a1, a2, a3, a4] := by
  have e0 : ([a1, a2, a3, a4] ++ S).getD 0 0 = a1 := rfl
  have e1 : ([a1, a2, a3, a4] ++ S).getD 1 0 = a2 := rfl
  have e2 : ([a1, a2, a3, a4] ++ S).getD 2 0 = a3 := rfl
  have e3 : ([a1, a2, a3, a4] ++ S).getD 3 0 = a4 := rfl
  refine ⟨xT_43, List.mem_of_getElem? (i := 43) (by rfl), fun f hf => ?_, ?_⟩
  · simp only [xT_43, List.mem_cons, List.not_mem_nil, or_false] at hf
    rcases hf with rfl | rfl <;> (simp only [ae_ev, ae_el, ae_s, ae_k, e0, e1, e2, e3]; omega)
  · simp only [xT_43, List.map_cons, List.map_nil, ae_ev, ae_el, ae_s, ae_k, e0, e1, e2, e3, List.cons.injEq, and_true]
    omega
theorem x_cv_44 {S : List Int} (a1 a2 a3 a4 : Int) (h : a1 = 4 ∧ a2 = 0 ∧ a3 = 0 ∧ 1 ≤ a4 ∧ a4 ≤ 3000) : ∃ t ∈ xTs, (∀ f ∈ t.1, ae_ev ([a1, a2, a3, a4] ++ S) f ≤ 0) ∧ t.2.1.map (ae_ev ([a1, a2, a3, a4] ++ S)) = [a1, a2, a3, a4] := by
  have e0 : ([a1, a2, a3, a4] ++ S).getD 0 0 = a1 := rfl
  have e1 : ([a1, a2, a3, a4] ++ S).getD 1 0 = a2 := rfl
  have e2 : ([a1, a2, a3, a4] ++ S).getD 2 0 = a3 := rfl
  have e3 : ([a1, a2, a3, a4] ++ S).getD 3 0 = a4 := rfl
  refine ⟨xT_44, List.mem_of_getElem? (i := 44) (by rfl), fun f hf => ?_, ?_⟩
  · simp only [xT_44, List.mem_cons, List.not_mem_nil, or_false] at hf
    rcases hf with rfl | rfl <;> (simp only [ae_ev, ae_el, ae_s, ae_k, e0, e1, e2, e3]; omega)
  · simp only [xT_44, List.map_cons, List.map_nil, ae_ev, ae_el, ae_s, ae_k, e0, e1, e2, e3, List.cons.injEq, and_true]
    omega
theorem x_cv_45 {S : List Int} (a1 a2 a3 a4 : Int) (h : a1 = 4 ∧ a2 = 0 ∧ a3 = 1 ∧ 1 ≤ a4 ∧ a4 ≤ 3000) : ∃ t ∈ xTs, (∀ f ∈ t.1, ae_ev ([a1, a2, a3, a4] ++ S) f ≤ 0) ∧ t.2.1.map (ae_ev ([a1, a2, a3, a4] ++ S)) = [a1, a2, a3, a4] := by
  have e0 : ([a1, a2, a3, a4] ++ S).getD 0 0 = a1 := rfl
  have e1 : ([a1, a2, a3, a4] ++ S).getD 1 0 = a2 := rfl
  have e2 : ([a1, a2, a3, a4] ++ S).getD 2 0 = a3 := rfl
  have e3 : ([a1, a2, a3, a4] ++ S).getD 3 0 = a4 := rfl
  refine ⟨xT_45, List.mem_of_getElem? (i := 45) (by rfl), fun f hf => ?_, ?_⟩
  · simp only [xT_45, List.mem_cons, List.not_mem_nil, or_false] at hf
    rcases hf with rfl | rfl <;> (simp only [ae_ev, ae_el, ae_s, ae_k, e0, e1, e2, e3]; omega)
  · simp only [xT_45, List.map_cons, List.map_nil, ae_ev, ae_el, ae_s, ae_k, e0, e1, e2, e3, List.cons.injEq, and_true]
    omega
theorem x_cv_46 {S : List Int} (a1 a2 a3 a4 : Int) (h : a1 = 4 ∧ a2 = 0 ∧ a3 = 2 ∧ 1 ≤ a4 ∧ a4 ≤ 3000) : ∃ t ∈ xTs, (∀ f ∈ t.1, ae_ev ([a1, a2, a3, a4] ++ S) f ≤ 0) ∧ t.2.1.map (ae_ev ([a1, a2, a3, a4] ++ S)) = [a1, a2, a3, a4] := by
  have e0 : ([a1, a2, a3, a4] ++ S).getD 0 0 = a1 := rfl
  have e1 : ([a1, a2, a3, a4] ++ S).getD 1 0 = a2 := rfl
  have e2 : ([a1, a2, a3, a4] ++ S).getD 2 0 = a3 := rfl
  have e3 : ([a1, a2, a3, a4] ++ S).getD 3 0 = a4 := rfl
  refine ⟨xT_46, List.mem_of_getElem? (i := 46) (by rfl), fun f hf => ?_, ?_⟩
  · simp only [xT_46, List.mem_cons, List.not_mem_nil, or_false] at hf
    rcases hf with rfl | rfl <;> (simp only [ae_ev, ae_el, ae_s, ae_k, e0, e1, e2, e3]; omega)
  · simp only [xT_46, List.map_cons, List.map_nil, ae_ev, ae_el, ae_s, ae_k, e0, e1, e2, e3, List.cons.injEq, and_true]
    omega
theorem x_cv_47 {S : List Int} (a1 a2 a3 a4 : Int) (h : a1 = 4 ∧ a2 = 1 ∧ a3 = 0 ∧ 1 ≤ a4 ∧ a4 ≤ 3000) : ∃ t ∈ xTs, (∀ f ∈ t.1, ae_ev ([a1, a2, a3, a4] ++ S) f ≤ 0) ∧ t.2.1.map (ae_ev ([a1, a2, a3, a4] ++ S)) = [a1, a2, a3, a4] := by
  have e0 : ([a1, a2, a3, a4] ++ S).getD 0 0 = a1 := rfl
  have e1 : ([a1, a2, a3, a4] ++ S).getD 1 0 = a2 := rfl
  have e2 : ([a1, a2, a3, a4] ++ S).getD 2 0 = a3 := rfl
  have e3 : ([a1, a2, a3, a4] ++ S).getD 3 0 = a4 := rfl
  refine ⟨xT_47, List.mem_of_getElem? (i := 47) (by rfl), fun f hf => ?_, ?_⟩
  · simp only [xT_47, List.mem_cons, List.not_mem_nil, or_false] at hf
    rcases hf with rfl | rfl <;> (simp only [ae_ev, ae_el, ae_s, ae_k, e0, e1, e2, e3]; omega)
  · simp only [xT_47, List.map_cons, List.map_nil, ae_ev, ae_el, ae_s, ae_k, e0, e1, e2, e3, List.cons.injEq, and_true]
    omega
theorem x_cv_48 {S : List Int} (a1 a2 a3 a4 : Int) (h : a1 = 4 ∧ a2 = 1 ∧ a3 = 1 ∧ 1 ≤ a4 ∧ a4 ≤ 3000) : ∃ t ∈ xTs, (∀ f ∈ t.1, ae_ev ([a1, a2, a3, a4] ++ S) f ≤ 0) ∧ t.2.1.map (ae_ev ([a1, a2, a3, a4] ++ S)) = [a1, a2, a3, a4] := by
  have e0 : ([a1, a2, a3, a4] ++ S).getD 0 0 = a1 := rfl
  have e1 : ([a1, a2, a3, a4] ++ S).getD 1 0 = a2 := rfl
  have e2 : ([a1, a2, a3, a4] ++ S).getD 2 0 = a3 := rfl
  have e3 : ([a1, a2, a3, a4] ++ S).getD 3 0 = a4 := rfl
  refine ⟨xT_48, List.mem_of_getElem? (i := 48) (by rfl), fun f hf => ?_, ?_⟩
  · simp only [xT_48, List.mem_cons, List.not_mem_nil, or_false] at hf
    rcases hf with rfl | rfl <;> (simp only [ae_ev, ae_el, ae_s, ae_k, e0, e1, e2, e3]; omega)
  · simp only [xT_48, List.map_cons, List.map_nil, ae_ev, ae_el, ae_s, ae_k, e0, e1, e2, e3, List.cons.injEq, and_true]
    omega
theorem x_cv_49 {S : List Int} (a1 a2 a3 a4 : Int) (h : a1 = 4 ∧ a2 = 1 ∧ a3 = 2 ∧ 1 ≤ a4 ∧ a4 ≤ 3000) : ∃ t ∈ xTs, (∀ f ∈ t.1, ae_ev ([a1, a2, a3, a4] ++ S) f ≤ 0) ∧ t.2.1.map (ae_ev ([a1, a2, a3, a4] ++ S)) = [a1, a2, a3, a4] := by
  have e0 : ([a1, a2, a3, a4] ++ S).getD 0 0 = a1 := rfl
  have e1 : ([a1, a2, a3, a4] ++ S).getD 1 0 = a2 := rfl
  have e2 : ([a1, a2, a3, a4] ++ S).getD 2 0 = a3 := rfl
  have e3 : ([a1, a2, a3, a4] ++ S).getD 3 0 = a4 := rfl
  refine ⟨xT_49, List.mem_of_getElem? (i := 49) (by rfl), fun f hf => ?_, ?_⟩
  · simp only [xT_49, List.mem_cons, List.not_mem_nil, or_false] at hf
    rcases hf with rfl | rfl <;> (simp only [ae_ev, ae_el, ae_s, ae_k, e0, e1, e2, e3]; omega)
  · simp only [xT_49, List.map_cons, List.map_nil, ae_ev, ae_el, ae_s, ae_k, e0, e1, e2, e3, List.cons.injEq, and_true]
    omega
theorem x_cv_50 {S : List Int} (a1 a2 a3 a4 : Int) (h : a1 = 4 ∧ a2 = 2 ∧ a3 = 0 ∧ 1 ≤ a4 ∧ a4 ≤ 3000) : ∃ t ∈ xTs, (∀ f ∈ t.1, ae_ev ([a1, a2, a3, a4] ++ S) f ≤ 0) ∧ t.2.1.map (ae_ev ([a1, a2, a3, a4] ++ S)) = [a1, a2, a3, a4] := by
  have e0 : ([a1, a2, a3, a4] ++ S).getD 0 0 = a1 := rfl
  have e1 : ([a1, a2, a3, a4] ++ S).getD 1 0 = a2 := rfl
  have e2 : ([a1, a2, a3, a4] ++ S).getD 2 0 = a3 := rfl
  have e3 : ([a1, a2, a3, a4] ++ S).getD 3 0 = a4 := rfl
  refine ⟨xT_50, List.mem_of_getElem? (i := 50) (by rfl), fun f hf => ?_, ?_⟩
  · simp only [xT_50, List.mem_cons, List.not_mem_nil, or_false] at hf
    rcases hf with rfl | rfl <;> (simp only [ae_ev, ae_el, ae_s, ae_k, e0, e1, e2, e3]; omega)
  · simp only [xT_50, List.map_cons, List.map_nil, ae_ev, ae_el, ae_s, ae_k, e0, e1, e2, e3, List.cons.injEq, and_true]
    omega
theorem x_cv_51 {S : List Int} (a1 a2 a3 a4 : Int) (h : a1 = 4 ∧ a2 = 2 ∧ a3 = 1 ∧ 1 ≤ a4 ∧ a4 ≤ 3000) : ∃ t ∈ xTs, (∀ f ∈ t.1, ae_ev ([a1, a2, a3, a4] ++ S) f ≤ 0) ∧ t.2.1.map (ae_ev ([a1, a2, a3, a4] ++ S)) = [a1, a2, a3, a4] := by
  have e0 : ([a1, a2, a3, a4] ++ S).getD 0 0 = a1 := rfl
  have e1 : ([a1, a2, a3, a4] ++ S).getD 1 0 = a2 := rfl
  have e2 : ([a1, a2, a3, a4] ++ S).getD 2 0 = a3 := rfl
  have e3 : ([a1, a2, a3, a4] ++ S).getD 3 0 = a4 := rfl
  refine ⟨xT_51, List.mem_of_getElem? (i := 51) (by rfl), fun f hf => ?_, ?_⟩
  · simp only [xT_51, List.mem_cons, List.not_mem_nil, or_false] at hf
    rcases hf with rfl | rfl <;> (simp only [ae_ev, ae_el, ae_s, ae_k, e0, e1, e2, e3]; omega)
  · simp only [xT_51, List.map_cons, List.map_nil, ae_ev, ae_el, ae_s, ae_k, e0, e1, e2, e3, List.cons.injEq, and_true]
    omega
theorem x_cv_52 {S : List Int} (a1 a2 a3 a4 : Int) (h : a1 = 4 ∧ a2 = 2 ∧ a3 = 2 ∧ 1 ≤ a4 ∧ a4 ≤ 3000) : ∃ t ∈ xTs, (∀ f ∈ t.1, ae_ev ([a1, a2, a3, a4] ++ S) f ≤ 0) ∧ t.2.1.map (ae_ev ([a1, a2, a3, a4] ++ S)) = [a1, a2, a3, a4] := by
  have e0 : ([a1, a2, a3, a4] ++ S).getD 0 0 = a1 := rfl
  have e1 : ([a1, a2, a3, a4] ++ S).getD 1 0 = a2 := rfl
  have e2 : ([a1, a2, a3, a4] ++ S).getD 2 0 = a3 := rfl
  have e3 : ([a1, a2, a3, a4] ++ S).getD 3 0 = a4 := rfl
  refine ⟨xT_52, List.mem_of_getElem? (i := 52) (by rfl), fun f hf => ?_, ?_⟩
  · simp only [xT_52, List.mem_cons, List.not_mem_nil, or_false] at hf
    rcases hf with rfl | rfl <;> (simp only [ae_ev, ae_el, ae_s, ae_k, e0, e1, e2, e3]; omega)
  · simp only [xT_52, List.map_cons, List.map_nil, ae_ev, ae_el, ae_s, ae_k, e0, e1, e2, e3, List.cons.injEq, and_true]
    omega
/-- one of the templates fits -/
theorem x_cov {S : List Int} (a1 a2 a3 a4 : Int) (_hb : ∀ (k : Nat) (b : Int × Int), xE[k]? = some b → b.1 ≤ ([a1, a2, a3, a4] ++ S).getD k 0 ∧ ([a1, a2, a3, a4] ++ S).getD k 0 ≤ b.2) : ∃ t ∈ xTs, (∀ f ∈ t.1, ae_ev ([a1, a2, a3, a4] ++ S) f ≤ 0) ∧ t.2.1.map (ae_ev ([a1, a2, a3, a4] ++ S)) = [a1, a2, a3, a4] := by
  by_cases n0 : a1 ≤ (-1)
  · exact x_cv_0 a1 a2 a3 a4 n0
  by_cases n1 : 5 ≤ a1
  · exact x_cv_1 a1 a2 a3 a4 n1
  by_cases n2 : a2 ≤ (-1)
  · exact x_cv_2 a1 a2 a3 a4 n2
  by_cases n3 : 3 ≤ a2
  · exact x_cv_3 a1 a2 a3 a4 n3
  by_cases n4 : a3 ≤ (-1)
  · exact x_cv_4 a1 a2 a3 a4 n4
  by_cases n5 : 3 ≤ a3
  · exact x_cv_5 a1 a2 a3 a4 n5
  by_cases n6 : a4 ≤ 0
  · exact x_cv_6 a1 a2 a3 a4 n6
  by_cases n7 : 3001 ≤ a4
  · exact x_cv_7 a1 a2 a3 a4 n7
  have v0 : 1 ≤ a4 := by omega
  have v1 : a4 ≤ 3000 := by omega
  rcases (by omega : a1 = 0 ∨ a1 = 1 ∨ a1 = 2 ∨ a1 = 3 ∨ a1 = 4) with g0 | g0 | g0 | g0 | g0
  · skip
    rcases (by omega : a2 = 0 ∨ a2 = 1 ∨ a2 = 2) with g1 | g1 | g1
    · skip
      rcases (by omega : a3 = 0 ∨ a3 = 1 ∨ a3 = 2) with g2 | g2 | g2
      · skip
        exact x_cv_8 a1 a2 a3 a4 ⟨g0, g1, g2, v0, v1⟩
      · skip
        exact x_cv_9 a1 a2 a3 a4 ⟨g0, g1, g2, v0, v1⟩
      · skip
        exact x_cv_10 a1 a2 a3 a4 ⟨g0, g1, g2, v0, v1⟩
    · skip
      rcases (by omega : a3 = 0 ∨ a3 = 1 ∨ a3 = 2) with g2 | g2 | g2
      · skip
        exact x_cv_11 a1 a2 a3 a4 ⟨g0, g1, g2, v0, v1⟩
      · skip
        exact x_cv_12 a1 a2 a3 a4 ⟨g0, g1, g2, v0, v1⟩
      · skip
        exact x_cv_13 a1 a2 a3 a4 ⟨g0, g1, g2, v0, v1⟩
    · skip
      rcases (by omega : a3 = 0 ∨ a3 = 1 ∨ a3 = 2) with g2 | g2 | g2
      · skip
        exact x_cv_14 a1 a2 a3 a4 ⟨g0, g1, g2, v0, v1⟩
      · skip
        exact x_cv_15 a1 a2 a3 a4 ⟨g0, g1, g2, v0, v1⟩
      · skip
        exact x_cv_16 a1 a2 a3 a4 ⟨g0, g1, g2, v0, v1⟩
  · skip
    rcases (by omega : a2 = 0 ∨ a2 = 1 ∨ a2 = 2) with g1 | g1 | g1
    · skip
      rcases (by omega : a3 = 0 ∨ a3 = 1 ∨ a3 = 2) with g2 | g2 | g2
      · skip
        exact x_cv_17 a1 a2 a3 a4 ⟨g0, g1, g2, v0, v1⟩
      · skip
        exact x_cv_18 a1 a2 a3 a4 ⟨g0, g1, g2, v0, v1⟩
      · skip
        exact x_cv_19 a1 a2 a3 a4 ⟨g0, g1, g2, v0, v1⟩
    · skip
      rcases (by omega : a3 = 0 ∨ a3 = 1 ∨ a3 = 2) with g2 | g2 | g2
      · skip
        exact x_cv_20 a1 a2 a3 a4 ⟨g0, g1, g2, v0, v1⟩
      · skip
        exact x_cv_21 a1 a2 a3 a4 ⟨g0, g1, g2, v0, v1⟩
      · skip
        exact x_cv_22 a1 a2 a3 a4 ⟨g0, g1, g2, v0, v1⟩
    · skip
      rcases (by omega : a3 = 0 ∨ a3 = 1 ∨ a3 = 2) with g2 | g2 | g2
      · skip
        exact x_cv_23 a1 a2 a3 a4 ⟨g0, g1, g2, v0, v1⟩
      · skip
        exact x_cv_24 a1 a2 a3 a4 ⟨g0, g1, g2, v0, v1⟩
      · skip
        exact x_cv_25 a1 a2 a3 a4 ⟨g0, g1, g2, v0, v1⟩
  · skip
    rcases (by omega : a2 = 0 ∨ a2 = 1 ∨ a2 = 2) with g1 | g1 | g1
    · skip
      rcases (by omega : a3 = 0 ∨ a3 = 1 ∨ a3 = 2) with g2 | g2 | g2
      · skip
        exact x_cv_26 a1 a2 a3 a4 ⟨g0, g1, g2, v0, v1⟩
      · skip
        exact x_cv_27 a1 a2 a3 a4 ⟨g0, g1, g2, v0, v1⟩
      · skip
        exact x_cv_28 a1 a2 a3 a4 ⟨g0, g1, g2, v0, v1⟩
    · skip
      rcases (by omega : a3 = 0 ∨ a3 = 1 ∨ a3 = 2) with g2 | g2 | g2
      · skip
        exact x_cv_29 a1 a2 a3 a4 ⟨g0, g1, g2, v0, v1⟩
      · skip
        exact x_cv_30 a1 a2 a3 a4 ⟨g0, g1, g2, v0, v1⟩
      · skip
        exact x_cv_31 a1 a2 a3 a4 ⟨g0, g1, g2, v0, v1⟩
    · skip
      rcases (by omega : a3 = 0 ∨ a3 = 1 ∨ a3 = 2) with g2 | g2 | g2
      · skip
        exact x_cv_32 a1 a2 a3 a4 ⟨g0, g1, g2, v0, v1⟩
      · skip
        exact x_cv_33 a1 a2 a3 a4 ⟨g0, g1, g2, v0, v1⟩
      · skip
        exact x_cv_34 a1 a2 a3 a4 ⟨g0, g1, g2, v0, v1⟩
  · skip
    rcases (by omega : a2 = 0 ∨ a2 = 1 ∨ a2 = 2) with g1 | g1 | g1
    · skip
      rcases (by omega : a3 = 0 ∨ a3 = 1 ∨ a3 = 2) with g2 | g2 | g2
      · skip
        exact x_cv_35 a1 a2 a3 a4 ⟨g0, g1, g2, v0, v1⟩
      · skip
        exact x_cv_36 a1 a2 a3 a4 ⟨g0, g1, g2, v0, v1⟩
      · skip
        exact x_cv_37 a1 a2 a3 a4 ⟨g0, g1, g2, v0, v1⟩
    · skip
      rcases (by omega : a3 = 0 ∨ a3 = 1 ∨ a3 = 2) with g2 | g2 | g2
      · skip
        exact x_cv_38 a1 a2 a3 a4 ⟨g0, g1, g2, v0, v1⟩
      · skip
        exact x_cv_39 a1 a2 a3 a4 ⟨g0, g1, g2, v0, v1⟩
      · skip
        exact x_cv_40 a1 a2 a3 a4 ⟨g0, g1, g2, v0, v1⟩
    · skip
      rcases (by omega : a3 = 0 ∨ a3 = 1 ∨ a3 = 2) with g2 | g2 | g2
      · skip
        exact x_cv_41 a1 a2 a3 a4 ⟨g0, g1, g2, v0, v1⟩
      · skip
        exact x_cv_42 a1 a2 a3 a4 ⟨g0, g1, g2, v0, v1⟩
      · skip
        exact x_cv_43 a1 a2 a3 a4 ⟨g0, g1, g2, v0, v1⟩
  · skip
    rcases (by omega : a2 = 0 ∨ a2 = 1 ∨ a2 = 2) with g1 | g1 | g1
    · skip
      rcases (by omega : a3 = 0 ∨ a3 = 1 ∨ a3 = 2) with g2 | g2 | g2
      · skip
        exact x_cv_44 a1 a2 a3 a4 ⟨g0, g1, g2, v0, v1⟩
      · skip
        exact x_cv_45 a1 a2 a3 a4 ⟨g0, g1, g2, v0, v1⟩
      · skip
        exact x_cv_46 a1 a2 a3 a4 ⟨g0, g1, g2, v0, v1⟩
    · skip
      rcases (by omega : a3 = 0 ∨ a3 = 1 ∨ a3 = 2) with g2 | g2 | g2
      · skip
        exact x_cv_47 a1 a2 a3 a4 ⟨g0, g1, g2, v0, v1⟩
      · skip
        exact x_cv_48 a1 a2 a3 a4 ⟨g0, g1, g2, v0, v1⟩
      · skip
        exact x_cv_49 a1 a2 a3 a4 ⟨g0, g1, g2, v0, v1⟩
    · skip
      rcases (by omega : a3 = 0 ∨ a3 = 1 ∨ a3 = 2) with g2 | g2 | g2
      · skip
        exact x_cv_50 a1 a2 a3 a4 ⟨g0, g1, g2, v0, v1⟩
      · skip
        exact x_cv_51 a1 a2 a3 a4 ⟨g0, g1, g2, v0, v1⟩
      · skip
        exact x_cv_52 a1 a2 a3 a4 ⟨g0, g1, g2, v0, v1⟩
set_option maxRecDepth 100000 in
/-- both sides are called, their answers compared -/
theorem la_xH (hf : E.2.2.2.1.category = 1) (hT : ∀ σ : List Int, aTb E σ aTabs) (hL : L ≤ 3584) (hE : (E.2.2.1 2).2.1 = L) (H1 : hOkL E al laG1 (fun _ => True) [(L : Int), i] 2) (h : laI E al L i w) (hj : jJ w) (h7 : i + 7 ≤ L)
    (hq : ∀ w2, laI E al L i w2 → jJ w2 → hG E al 86 320 2217 laLv [] [(L : Int), i] w2 Q) : hG E al 86 320 1234 laLv [] [(L : Int), i] w Q := by
  have lg := lp_g
  simp only [Bool.and_eq_true] at lg
  obtain ⟨⟨⟨⟨⟨⟨⟨q0, q1⟩, q2⟩, q3⟩, q4⟩, q5⟩, q6⟩, q7⟩ := lg
  obtain ⟨jx0, jx1, jx2⟩ := hj.2
  have hx : ∀ k : Int, aI0 ≤ (laX E (i + k)).toInt ∧ (laX E (i + k)).toInt ≤ aI1 := fun k => ⟨i32_lo _, i32_hi _⟩
  have hlen : ([(laX E (i + 1)).toInt, (laX E (i + 2)).toInt, (laX E (i + 3)).toInt, (laX E (i + 4)).toInt] ++ jVs w (jCc 0)).length = 49 := by
    rw [List.length_append, jVs_len, ← xE_len]
    simp [xE] <;> omega
  have he : aEv ([(laX E (i + 1)).toInt, (laX E (i + 2)).toInt, (laX E (i + 3)).toInt, (laX E (i + 4)).toInt] ++ jVs w (jCc 0)) xE := by
    refine ⟨by rw [hlen, xE_len], fun k x b hk hb => ?_⟩
    by_cases hlt : k < 4
    · rw [List.getElem?_append_left (by simpa using hlt)] at hk
      unfold xE at hb
      rw [List.getElem?_append_left (by simpa using hlt), List.getElem?_replicate] at hb
      rw [if_pos hlt] at hb
      cases hb
      match k, hlt, hk with
      | 0, _, hk =>
        cases hk
        exact hx 1
      | 1, _, hk =>
        cases hk
        exact hx 2
      | 2, _, hk =>
        cases hk
        exact hx 3
      | 3, _, hk =>
        cases hk
        exact hx 4
      | n + 4, hlt, _ => omega
    · rw [List.getElem?_append_right (by simpa using Nat.le_of_not_lt hlt)] at hk
      unfold xE at hb
      rw [List.getElem?_append_right (by simpa using Nat.le_of_not_lt hlt), List.getElem?_map] at hb
      simp only [List.length_cons, List.length_nil, List.length_replicate] at hk hb
      have hl := (List.getElem?_eq_some_iff.mp hk).1
      rw [jVs_len] at hl
      have hq0 := List.getElem?_eq_getElem hl
      have hk2 := jVs_get (w := w) (up := 0) hq0
      rw [hq0] at hb
      cases hb
      have e := Option.some.inj (hk2.symm.trans hk)
      have hm := List.mem_of_getElem? hq0
      rw [← e]
      exact (jx1 _ hm).2
  obtain ⟨t, ht, hfs, hargs⟩ := x_cov (S := jVs w (jCc 0)) (laX E (i + 1)).toInt (laX E (i + 2)).toInt (laX E (i + 3)).toInt (laX E (i + 4)).toInt (fun k b hb => he.ev hb)
  have kt := xk t ht
  unfold xOk at kt
  simp only [Bool.and_eq_true, decide_eq_true_eq] at kt
  obtain ⟨⟨⟨⟨⟨kc, kr⟩, ks⟩, ka⟩, kl⟩, kb⟩ := kt
  have hfs : aFs ([(laX E (i + 1)).toInt, (laX E (i + 2)).toInt, (laX E (i + 3)).toInt, (laX E (i + 4)).toInt] ++ jVs w (jCc 0)) t.1 := aFs.mk (by rw [hlen]; exact ks) hfs
  have hre : ∀ {AS : List Value} {self : Nat}, gL E al [(L : Int), i] (.inr (0, self) :: [ae_k (laX E (i + 1)).toInt, ae_k (laX E (i + 2)).toInt, ae_k (laX E (i + 3)).toInt, ae_k (laX E (i + 4)).toInt].map .inl) AS → gL E al ([(laX E (i + 1)).toInt, (laX E (i + 2)).toInt, (laX E (i + 3)).toInt, (laX E (i + 4)).toInt] ++ jVs w (jCc 0)) (.inr (0, self) :: t.2.1.map .inl) AS := by
    intro AS self ha
    obtain ⟨v, u, rfl, h1, h2⟩ := ha
    refine ⟨v, u, rfl, h1, gL_re ?_ (by rw [hlen]; exact ka) h2⟩
    rw [hargs]
    simp [ae_ev_k]
  refine la_al1 lx_1 ?_
  refine la_arg q0 (by decide) hL hE ⟨h.1.1, h7⟩ ?_
  refine la_arg q1 (by decide) hL hE ⟨h.1.1, h7⟩ ?_
  refine la_arg q2 (by decide) hL hE ⟨h.1.1, h7⟩ ?_
  refine la_arg q3 (by decide) hL hE ⟨h.1.1, h7⟩ ?_
  refine law_callV (d := 85) (y2 := 106) (as := [.inr (0, 0), .inl (ae_k (laX E (i + 1)).toInt), .inl (ae_k (laX E (i + 2)).toInt), .inl (ae_k (laX E (i + 3)).toInt), .inl (ae_k (laX E (i + 4)).toInt)]) (rest := []) mj_li_law H1 (by rfl) (h.hW hL) (fun AS ha => x_mj hf hT (xcs_ok hf hT) (by decide) kc (by decide) h.2.1 h.2.2 hj.1 he hfs (by simp [jCc]) (fun k c hc => ?_) (hre ha)) (fun z w1 hR => ?_)
  · obtain ⟨q, hq1, rfl⟩ := jCc_of hc
    have hm := List.mem_of_getElem? hq1
    have hlt := (jLy_ok hm).1.1
    refine ⟨by show q.1 + 0 < 1000000; omega, ?_, jLay_sl h.2.1 (jLy_ok hm).2.2.1⟩
    rw [List.getElem?_append_right (by simp)]
    simp only [List.length_cons, List.length_nil, Nat.zero_add, Nat.add_sub_cancel_left]
    exact jVs_get hq1
  obtain ⟨g0, g1, g2, g3, g4, g5⟩ := hR
  have h1 : laI E al L i w1 := ⟨h.1, g1, g2⟩
  refine la_al2 lx_2 ?_
  refine la_arg q4 (by decide) hL hE ⟨h.1.1, h7⟩ ?_
  refine la_arg q5 (by decide) hL hE ⟨h.1.1, h7⟩ ?_
  refine la_arg q6 (by decide) hL hE ⟨h.1.1, h7⟩ ?_
  refine la_arg q7 (by decide) hL hE ⟨h.1.1, h7⟩ ?_
  refine law_callV (d := 85) (y2 := 257) (as := [.inr (0, 99), .inl (ae_k (laX E (i + 1)).toInt), .inl (ae_k (laX E (i + 2)).toInt), .inl (ae_k (laX E (i + 3)).toInt), .inl (ae_k (laX E (i + 4)).toInt)]) (rest := [.inl (ae_k z.toInt)]) mj_li_law H1 (by rfl) (h1.hW hL) (fun AS ha => x_mj hf hT (xrs_ok hf hT) (by decide) kr (by decide) g1 g2 g3 he hfs (by simp [jCr]) (fun k c hc => ?_) (hre ha)) (fun z2 w2 hR => ?_)
  · obtain ⟨q, hq1, rfl⟩ := jCr_of hc
    have hm := List.mem_of_getElem? hq1
    have hlt := (jLy_ok hm).1.2
    obtain ⟨d1, d2, d3, d4, d5, d6, d7, d8, d9, d10, d11, d12, d13⟩ := jMd_all q hm
    refine ⟨by show q.2.2.1 < 1000000; omega, ?_, jLay_sl g1 (jLy_ok hm).2.1⟩
    rw [List.getElem?_append_right (by simp)]
    simp only [List.length_cons, List.length_nil, Nat.zero_add, Nat.add_sub_cancel_left]
    rw [jVs_get hq1, jS.at (g4.2 _ d13), ← (jx1 q hm).1]
    rfl
  obtain ⟨m0, m1, m2, m3, m4, m5⟩ := hR
  have h2 : laI E al L i w2 := ⟨h.1, m1, m2⟩
  have ez : z = z2 := i32_inj (g0.trans m0.symm)
  subst ez
  have done : jJ w2 := by
    refine ⟨m3, ?_, fun q hm => ?_, fun hk q hm => ?_⟩
    · rw [jS.at (m4.2 0 jM_0.2.1), jS.at (g4.2 0 jM_0.1), jS.at (m4.2 99 jM_0.2.2.2.1), jS.at (g4.2 99 jM_0.2.2.1)]
      exact jx0
    · obtain ⟨k, hk⟩ := List.getElem?_of_mem hm
      obtain ⟨d1, d2, d3, d4, d5, d6, d7, d8, d9, d10, d11, d12, d13⟩ := jMd_all q hm
      have hkl : k < t.2.2.2.1.length := by rw [kl]; exact (List.getElem?_eq_some_iff.mp hk).1
      have hek := List.getElem?_eq_getElem hkl
      have u1 := g5 k _ _ (jCc_get hk) hek
      have u2 := m5 k _ _ (jCr_get hk) hek
      have hz : (q, t.2.2.2.1[k]) ∈ jLv.zip t.2.2.2.1 := List.mem_of_getElem? (i := k) (List.getElem?_zip_eq_some.mpr ⟨hk, hek⟩)
      have b := List.all_eq_true.mp kb _ hz
      rw [Bool.and_eq_true] at b
      have b2 := aPv.in (P := (xE, t.1, [], [], [])) ⟨he, hfs, fun z hz => by cases hz⟩ b.1 (aV.mk (by rw [hlen]; exact b.2))
      unfold jO
      rw [jS.at (m4.2 _ d4)]
      refine ⟨u1.trans u2.symm, ?_⟩
      have u1 : jS w1 q.1 q.2.1 = _ := u1
      rw [u1]
      exact b2
    · obtain ⟨d1, d2, d3, d4, d5, d6, d7, d8, d9, d10, d11, d12, d13⟩ := jMd_all q hm
      unfold jO
      rw [jS.at (m4.2 _ d9), jS.at (g4.2 _ d8), jS.at (m4.2 140 jM_0.2.2.2.2.2), jS.at (g4.2 140 jM_0.2.2.2.2.1)]
      exact jx2 (by rw [← jS.at (g4.2 0 jM_0.1), ← jS.at (m4.2 0 jM_0.2.1)]; exact hk) q hm
  exact la_eq lx_3 (by show mj_go 1282 935 2217; unfold mj_go; decide) (hq w2 h2 done)
end SIDES
end LAW
