/-! THE READER, by hand: wantCond (242), its pieces. Symbol 0 is open, 1 (where free) asks -/
def rHN (n m : Nat) (cw : Int) : aH := [((99, ae_k 19), ae_s n), ((99, ae_k 20), ae_s m), ((99, ae_k 21), ae_s (m + 1)), ((99, ae_k 22), ae_s (m + 2)), ((99, ae_k 23), ae_s (m + 3)), ((99, ae_k 24), ae_s (m + 4)), ((99, ae_k 28), ae_s (n + 6)), ((99, ae_k 29), ae_inc (ae_s (n + 7)) cw)]
def wc_lv (o : ae) (a m : Int) : List (Nat × av) := [(0, .inr (0, 99)), (1, .inl o), (2, .inl (ae_k a)), (3, .inl (ae_k m))]
def wc_lva (m : Int) : List (Nat × av) := [(0, .inr (0, 99)), (1, .inl (ae_s 0)), (2, .inl (ae_s 1)), (3, .inl (ae_k m))]
def wc_K (o a m : Int) : List (Nat × av) := [(0, .inr (0, 99)), (1, .inl (ae_k o)), (2, .inl (ae_k a)), (3, .inl (ae_k m))]
def wc_K4 (o a m x : Int) : List (Nat × av) := [(0, .inr (0, 99)), (1, .inl (ae_k o)), (2, .inl (ae_k a)), (3, .inl (ae_k m)), (4, .inl (ae_k x))]
def wc_lv4 (o : ae) (a m : Int) (x : ae) : List (Nat × av) := [(0, .inr (0, 99)), (1, .inl o), (2, .inl (ae_k a)), (3, .inl (ae_k m)), (4, .inl x)]
/-- the state stays: template -/
def rCt (pc : Nat) (env0 : List (Int × Int)) (s : Nat) (lv : List (Nat × av)) (st : List av) : aCut := (pc, env0 ++ rEnv s, [] ++ rFs s env0.length, lv, st, [] ++ rH env0.length, [], mMU)
def rPt (pc : Nat) (env0 : List (Int × Int)) (s : Nat) (fs : List ae) (lv : List (Nat × av)) (st : List av) : aPc := (pc, env0 ++ rEnv s, fs ++ rFs s env0.length, [] ++ rH env0.length, lv, st)
/-- the token has moved: template -/
def rMt (pc : Nat) (env0 : List (Int × Int)) (s t : Nat) (p cw : Int) (lv : List (Nat × av)) (st : List av) : aCut := (pc, (env0 ++ rEnv s) ++ rEM t, [] ++ rLM env0.length (env0.length + 8) p ++ rFM t env0.length (env0.length + 8), lv, st, [] ++ rHN env0.length (env0.length + 8) cw, [99], mMU)
def wc_P0 (s : Nat) : aPc := rPt 0 [] s [] wa_lv0 []
def wc_B0 (s : Nat) : List aCut := [(11, rEnv s ++ rEnv s, rEqs 0 8 [(0, 0), (1, 0), (2, 0), (3, 0), (4, 0), (5, 0), (6, 0)] ++ [ae_s 15] ++ rFs s 8, wc_lv (ae_k 0) 1 1, [], [] ++ rH 8, [99], mMU)]
def wc_PA (s : Nat) : aPc := rPt 11 [(0, 4)] s [] (wc_lv (ae_s 0) 1 1) []
def wc_BA (s : Nat) : List aCut := rCt 78 [(0, 4)] s (wc_lv (ae_s 0) 1 1) [.inr (0, 99)] ::
  (if 1 ≤ s then [rCt 38 [(0, 4)] s (wc_lv (ae_s 0) 1 1) [.inl (ae_k 3), .inr (0, 99)], rCt 68 [(0, 3)] s (wc_lv (ae_s 0) 1 1) [.inl (ae_k 6), .inr (0, 99)], rMt 11 [(0, 4)] s 4 0 0 (wc_lv (ae_s 0) 1 1) []] else [])
def wc_PB (s : Nat) : aPc := rPt 11 [(0, 4)] s [] (wc_lv (ae_s 0) 0 1) []
def wc_BB (s : Nat) : List aCut := rCt 151 [(1, 4)] s (wc_lv (ae_s 0) 0 1) [.inl (ae_k 5), .inr (0, 99)] :: rCt 11 [(0, 0)] s (wc_lv (ae_s 0) 0 0) [] ::
  (if 1 ≤ s then [4, 5].map (fun x => rCt 131 [(0, 4)] s (wc_lv4 (ae_s 0) 0 1 (ae_k x)) [.inl (ae_k x), .inr (0, 99)]) else [])
def wc_PE (s : Nat) : aPc := rPt 154 [(1, 4)] s [([(8, -1)], 1)] (wc_lv (ae_s 0) 0 1) []
def wc_BE (s : Nat) : List aCut := (if 1 ≤ s then [0, 1, 2, 3].map (fun t => rMt 179 [(1, 4)] s t 1 (-1) (wc_lv (ae_inc (ae_s 0) (-1)) 0 1) [.inl (ae_k 3), .inr (0, 99)]) else []) ++ [rMt 179 [(1, 4)] s 4 0 (-1) (wc_lv (ae_inc (ae_s 0) (-1)) 0 1) [.inl (ae_k 3), .inr (0, 99)]]
theorem wc_c0 : ∀ s, s < 5 → hp_chk gR 100000 8 242 (wc_P0 s) [] (wc_B0 s) = true := by decide +kernel
theorem wc_cA : ∀ s, s < 4 → hp_chk gR 100000 8 242 (wc_PA s) [] (wc_BA s) = true := by decide +kernel
theorem wc_cB : ∀ s, s < 4 → hp_chk gR 100000 8 242 (wc_PB s) [] (wc_BB s) = true := by decide +kernel
theorem wc_cE : ∀ s, s < 4 → hp_chk gR 100000 8 242 (wc_PE s) [] (wc_BE s) = true := by decide +kernel
theorem wc_cC : hp_chk gR 100000 8 242 (rPt 11 [(0, 4), (0, 1)] 4 [] (wc_lva 1) []) [] [rCt 192 [(0, 4), (0, 1)] 4 wa_lv0 [.inl (ae_k 5), .inr (0, 99)]] = true := by decide +kernel
theorem wc_cD : hp_chk gR 100000 8 242 (rPt 11 [(0, 4), (0, 1)] 5 [] (wc_lva 0) []) [] [rCt 192 [(0, 4), (0, 1)] 5 wa_lv0 [.inl (ae_k 5), .inr (0, 99)]] = true := by decide +kernel
theorem wc_c41 : hp_chk gR 100000 8 242 (rPt 41 [(0, 4)] 5 [] (wc_lv (ae_s 0) 1 1) []) [] [rCt 11 [(0, 4)] 5 (wc_lv (ae_s 0) 1 1) []] = true := by decide +kernel
theorem wc_c71 : hp_chk gR 100000 8 242 (rPt 71 [(0, 3)] 5 [] (wc_lv (ae_s 0) 1 1) []) [] [rCt 11 [(0, 3)] 5 (wc_lv (ae_inc (ae_s 0) 1) 1 1) []] = true := by decide +kernel
theorem wc_c81 : hp_chk gR 100000 8 242 (rPt 81 [(0, 4)] 5 [] (wc_lv (ae_s 0) 1 1) []) [] [rCt 83 [(0, 4)] 5 (wc_lv (ae_s 0) 1 1) [.inl (ae_k 3), .inr (0, 99)]] = true := by decide +kernel
theorem wc_c86 : hp_chk gR 100000 8 242 (rPt 86 [(0, 4)] 5 [] (wc_lv (ae_s 0) 1 1) []) [] [rCt 11 [(0, 4)] 5 (wc_lv (ae_s 0) 0 1) []] = true := by decide +kernel
theorem wc_c134 : ∀ x ∈ ([4, 5] : List Int), hp_chk gR 100000 8 242 (rPt 134 [(0, 4)] 5 [] (wc_lv4 (ae_s 0) 0 1 (ae_k x)) []) [] [rCt 137 [(0, 4)] 5 (wc_lv4 (ae_s 0) 0 1 (ae_k x)) [.inl (ae_k x), .inr (0, 99)]] = true := by decide +kernel
theorem wc_c140 : ∀ x ∈ ([4, 5] : List Int), hp_chk gR 100000 8 242 (rPt 140 [(0, 4)] 5 [] (wc_lv4 (ae_s 0) 0 1 (ae_k x)) []) [] [rCt 11 [(0, 4)] 5 (wc_lv (ae_s 0) 1 1) []] = true := by decide +kernel
theorem wc_c182 : hp_chk gR 100000 8 242 (rPt 182 [(0, 3)] 5 [] (wc_lv (ae_s 0) 0 1) []) [] [rCt 11 [(0, 3)] 5 (wc_lv (ae_s 0) 0 1) []] = true := by decide +kernel
