/-! THE READER, by hand: wantLine (237), its pieces. Symbol 0 is the line's number, 1 its sort (or what was emitted before) -/
def wl_at (c : Int) : ae := ([(0, 4)], c)
def wl_lv (so : ae) : List (Nat × av) := [(0, .inr (0, 99)), (1, .inl (ae_s 0)), (2, .inl so), (3, .inl (wl_at 0))]
def wl_lv3 : List (Nat × av) := [(0, .inr (0, 99)), (3, .inl (wl_at 0))]
def wl_K (n so : Int) : List (Nat × av) := [(0, .inr (0, 99)), (1, .inl (ae_k n)), (2, .inl (ae_k so)), (3, .inl (ae_k (4 * n)))]
def wl_K3 (n : Int) : List (Nat × av) := [(0, .inr (0, 99)), (3, .inl (ae_k (4 * n)))]
def wl_st (x : ae) (c : Int) : List av := [.inl x, .inl (wl_at c), .inr (0, 119)]
def wl_P0 (s : Nat) : aPc := rPt 0 [(0, 9)] s [] (wa_lv1 0) []
def wl_I0 (s : Nat) : List aCut := [(73, ([(0, 8)] ++ rEnv s) ++ [(0, 3)], rFs s 1, wa_lv2 0 9, [], rH 1, [], ae_k 5)]
def wl_B0 (s : Nat) : List aCut := rMt 72 [(0, 9)] s 4 0 0 wa_lv0 [] ::
  [0, 1, 2, 3].map (fun t => (87, (([(0, 8)] ++ rEnv s) ++ [(0, 3)]) ++ rEM t, [] ++ rLM 1 10 1 ++ rFM t 1 10, wl_lv (ae_s 9), wl_st (ae_s 9) 0, [] ++ rHN 1 10 0, [99], mMU))
theorem wl_c0 : ∀ s, s < 4 → 1 ≤ s → hp_chk gR 100000 10 237 (wl_P0 s) (wl_I0 s) (wl_B0 s) = true := by decide +kernel
def wl_P88 (s : Nat) : aPc := rPt 88 [(0, 8), (0, 3)] s [] (wl_lv (ae_s 1)) []
def wl_B88 (s : Nat) : List aCut := rCt 120 [(0, 8), (1, 1)] s (wl_lv (ae_s 1)) (wl_st (ae_k (-3)) 1) ::
  [0, 1, 2, 3, 4].map (fun t => (120, ([(0, 8), (0, 3)] ++ rEnv s) ++ rEM t, (if t < 4 then [([(6, -1)], 0), ([(6, 1)], -9)] else []) ++ rLM 2 10 0 ++ rFM t 2 10, wl_lv (ae_s 1), wl_st (ae_s 6) 1, [] ++ rHN 2 10 0, [99], mMU))
theorem wl_c88 : ∀ s, s < 4 → hp_chk gR 100000 10 237 (wl_P88 s) [] (wl_B88 s) = true := by decide +kernel
theorem wl_c121 : hp_chk gR 100000 10 237 (rPt 121 [(0, 8), (0, 3)] 5 [] (wl_lv (ae_s 1)) []) [] [rCt 132 [(0, 8), (0, 3)] 5 (wl_lv (ae_s 1)) (wl_st (ae_s 8) 2)] = true := by decide +kernel
def wl_ts (s : Nat) : List Nat := if s < 4 then [0, 1, 2, 3, 4] else [4]
def wl_P133 (s : Nat) : aPc := rPt 133 [(0, 8), (0, 3)] s [] (wl_lv (ae_s 1)) []
def wl_B133 (s : Nat) : List aCut := rCt 208 [(0, 8), (0, 3)] s (wl_lv (ae_s 1)) [] ::
  (wl_ts s).flatMap (fun t => [150, 173, 205].map (fun pc => rMt pc [(0, 8), (0, 3)] s t 0 0 (wl_lv (ae_s 1)) [.inr (0, 99)]))
theorem wl_c133 : ∀ s, s < 5 → hp_chk gR 100000 10 237 (wl_P133 s) [] (wl_B133 s) = true := by decide +kernel
def wl_P153 (pc : Nat) : aPc := (pc, [(0, 8), (0, 256)] ++ rEnv 5, [] ++ rFs 5 2, [((119, wl_at 2), ae_s 1)] ++ rH 2, wl_lv3, [])
def wl_B153 : List aCut := [rCt 228 [(0, 8), (0, 256)] 5 wl_lv3 (wl_st ([(1, -1), (8, 1)], 0) 3)]
theorem wl_c153 : ∀ pc ∈ [153, 176, 208], hp_chk gR 100000 10 237 (wl_P153 pc) [] wl_B153 = true := by decide +kernel
def wl_P229 (s : Nat) : aPc := rPt 229 [] s [] wa_lv0 []
def wl_B229 (s : Nat) : List aCut := (wl_ts s).map (fun t => rMt 239 [] s t 0 0 wa_lv0 [])
theorem wl_c229 : ∀ s, s < 5 → hp_chk gR 100000 10 237 (wl_P229 s) [] (wl_B229 s) = true := by decide +kernel
