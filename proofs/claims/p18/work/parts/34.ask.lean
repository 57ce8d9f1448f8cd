/-! THE READER, by hand: wantAsk (245) -/
def wa_lv0 : List (Nat × av) := [(0, .inr (0, 99))]
def wa_lv1 (k : Nat) : List (Nat × av) := [(0, .inr (0, 99)), (1, .inl (ae_s k))]
def wa_lv2 (k j : Nat) : List (Nat × av) := [(0, .inr (0, 99)), (1, .inl (ae_s k)), (2, .inl (ae_s j))]
def wa_lv3 (k j i : Nat) : List (Nat × av) := [(0, .inr (0, 99)), (1, .inl (ae_s k)), (2, .inl (ae_s j)), (3, .inl (ae_s i))]
def wa_b (t : Nat) (a : Int) : Int × Int := (if t < 4 then 0 else -1, a)
def wa_p (t : Nat) : Int := if t < 4 then 1 else 0
def wa_P (s : Nat) : aPc := (0, [] ++ rEnv s, [] ++ rFs s 0, [] ++ rH 0, wa_lv0, [])
def wa_49 (s : Nat) : aCut := (49, rEnv s ++ [(-1, if s = 1 then 5 else -1)], rFs s 0, wa_lv1 8, [], rH 0, [], ae_k 10)
def wa_62 (s t : Nat) : aCut := (62, (rEnv s ++ [wa_b t 5]) ++ rEM t, rLM 0 9 (wa_p t) ++ rFM t 0 9, wa_lv1 8, [], rHM 0 9, [99], ae_k 8)
def wa_103 (s t : Nat) : aCut := (103, (rEnv s ++ [wa_b t 5, (-1, if 3 ≤ t then 2 else -1)]) ++ rEM t, rLM 0 10 (wa_p t) ++ rFM t 0 10, wa_lv2 8 9, [], rHM 0 10, [99], ae_k 6)
def wa_116 (s t : Nat) : aCut := (116, (rEnv s ++ [wa_b t 5, wa_b t 2]) ++ rEM t, rLM 0 10 (wa_p t) ++ rFM t 0 10, wa_lv2 8 9, [], rHM 0 10, [99], ae_k 4)
def wa_I (s : Nat) : List aCut := [wa_49 s, wa_62 s 0, wa_62 s 1, wa_62 s 2, wa_62 s 3, wa_62 s 4, wa_103 s 0, wa_103 s 1, wa_103 s 2, wa_103 s 3, wa_103 s 4, wa_116 s 0, wa_116 s 1, wa_116 s 2, wa_116 s 3, wa_116 s 4]
def wa_BS (s : Nat) : List aCut := if s = 1 then [1, 2].map (fun c => (36, [] ++ rEnv s, [] ++ rFs s 0, wa_lv0, [.inl (ae_k c), .inr (0, 99)], [] ++ rH 0, [], mMU)) else []
def wa_BA (s : Nat) : List aCut := [0, 1, 2, 3].map (fun t => (131, (rEnv s ++ [(0, 5), (0, 2), (0, 999)]) ++ rEM t, [] ++ rLM 0 11 1 ++ rFM t 0 11, wa_lv3 8 9 10, [], [] ++ rHM 0 11, [99], mMU))
def wa_BB (s : Nat) : List aCut := [(152, rEnv s ++ rEM 4, [] ++ rLM 0 8 0 ++ rFM 4 0 8, wa_lv0, [], [] ++ rHM 0 8, [99], mMU)]
def wa_B (s : Nat) : List aCut := wa_BS s ++ (wa_BA s ++ wa_BB s)
def wa_C (s : Nat) : List aCut := wa_I s ++ wa_B s
def wa_P39 : aPc := (39, [] ++ rEnv 1, [] ++ rFs 1 0, [] ++ rH 0, wa_lv0, [])
def wa_B39 : List aCut := [0, 1, 2, 3].map (fun t => (43, rEnv 1 ++ rEM t, [] ++ rLM 0 8 1 ++ rFM t 0 8, wa_lv0, [], [] ++ rHM 0 8, [99], mMU))
def wa_P131 (t : Nat) : aPc := (131, [(0, 5), (0, 2), (0, 999)] ++ rEnv t, [] ++ rFs t 3, [] ++ rH 3, wa_lv3 0 1 2, [])
def wa_B149 (t : Nat) : List aCut := [(149, [(0, 5), (0, 2), (0, 999)] ++ rEnv t, [] ++ rFs t 3, wa_lv0, [.inl ([(0, 4000), (1, 1000), (2, 1)], 10000), .inr (0, 99)], [] ++ rH 3, [], mMU)]
def wa_ck (s : Nat) (pcs : List Nat) (T : aCut) : Bool := hp_c gR 100000 6 245 8 (hp_f pcs (wa_I s ++ wa_B s)) T
theorem wa_ce : ∀ s, s < 4 → hp_e gR 100000 6 245 0 ([] ++ rEnv s) ([] ++ rFs s 0) ([] ++ rH 0) wa_lv0 [] (hp_f [36, 49] (wa_I s ++ wa_B s)) = true := by decide +kernel
theorem wa_c49 : ∀ s, s < 4 → wa_ck s [62] (wa_49 s) = true := by decide +kernel
theorem wa_c62 : ∀ s, s < 4 → ∀ t, t < 5 → wa_ck s [103] (wa_62 s t) = true := by decide +kernel
theorem wa_c103 : ∀ s, s < 4 → ∀ t, t < 5 → wa_ck s [116] (wa_103 s t) = true := by decide +kernel
theorem wa_c116 : ∀ s, s < 4 → ∀ t, t < 5 → wa_ck s [131, 152] (wa_116 s t) = true := by decide +kernel
theorem wa_c3 : ∀ s, s < 4 → (wa_I s ++ wa_B s).all (fun T => decide (8 ≤ T.2.1.length)) = true := by decide +kernel
theorem wa_c39 : hp_chk gR 100000 6 245 wa_P39 [] wa_B39 = true := by decide +kernel
theorem wa_c131 : ∀ t, t < 4 → hp_chk gR 100000 6 245 (wa_P131 t) [] (wa_B149 t) = true := by decide +kernel
