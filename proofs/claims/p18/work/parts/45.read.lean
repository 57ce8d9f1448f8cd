/-! THE READER, by hand: read (232), its pieces -/
theorem hp_ans {E : mj_E} {al : List Nat} {G : aG} {J : va_W → Prop} {ρ : List Int} {ws : va_W} {Q : Option Value → va_W → Prop} (H : hOk E al G J) {f d pc : Nat} {c : aCon} {h : aH} {lv : List (Nat × av)} {st : List av} (hy : c.1 < mj_lawNo)
    (hr : ak_ends c.2.1.length c (ak_run G f d c.1 c.2.1.length [] [] none false (mj_jmp c.1 pc) lv st (c.2.1, c.2.2.1, [], h, [])) = true) (hW0 : hW E al G J ρ c.2.1 c.2.2.1 h ws) (hq : ∀ x w, aCs E al G J c ρ ws x w → Q x w) : hG E al d c.1 pc lv st ρ ws Q := by
  obtain ⟨ends, e1, e2⟩ := ak_ends_ok hr
  refine hp_run H (Bs := []) hy e1 hW0 (fun T hT => by cases hT) (fun q hq0 => ?_)
  obtain ⟨v, g3, g4⟩ := e2 q hq0
  unfold aQ
  rw [g3]
  intro r x w hv hS
  obtain ⟨cs, k1, k2⟩ := List.any_eq_true.mp g4
  obtain ⟨r2, m⟩ := ak_end1_ok (npre := c.2.1.length) rfl k2 hW0.1 (fun k hk => by rw [List.getElem?_append_left (by rw [hW0.1.1]; exact hk)]) hS hv
  exact hq x w ⟨cs, k1, r2, m⟩
def re_P0 : aPc := rPt 0 [] 5 [] wa_lv0 []
def re_B0 : List aCut := [0, 1, 2, 3].map (fun t => (21, rEnv 5 ++ rEnv t, rEqs 0 8 [(0, 0)] ++ [ae_s 14] ++ rFs t 8, [(0, .inr (0, 99)), (1, .inl (ae_k 0))], [], [] ++ rH 8, [99], mMU))
theorem re_c0 : hp_chk gR 100000 12 232 re_P0 [] re_B0 = true := by decide +kernel
def re_P21 (s : Nat) : aPc := rPt 21 [(0, 10)] s [] (wa_lv1 0) []
def re_B21 (s : Nat) : List aCut := (if 1 ≤ s ∧ s ≤ 3 then rCt 37 [(0, 10)] s (wa_lv1 0) [.inl (ae_s 0), .inr (0, 99)] else rCt 46 [(0, 10)] s (wa_lv1 0) []) :: []
theorem re_c21 : ∀ s, s < 5 → hp_chk gR 100000 12 232 (re_P21 s) [] (re_B21 s) = true := by decide +kernel
theorem re_c40 : hp_chk gR 100000 12 232 (rPt 40 [(0, 9)] 5 [] (wa_lv1 0) []) [] [rCt 21 [(0, 9)] 5 [(0, .inr (0, 99)), (1, .inl (ae_inc (ae_s 0) 1))] []] = true := by decide +kernel
/-- at fault -/
def re_cF : aCon := (232, rEnv 4, [] ++ rFs 4 0, [], [], [99], 12, [([aF], [], some (.inl (ae_s 8)), [])])
theorem re_kF : ak_ends re_cF.2.1.length re_cF (ak_run gR 100000 12 re_cF.1 re_cF.2.1.length [] [] none false (mj_jmp re_cF.1 46) wa_lv0 [] (re_cF.2.1, re_cF.2.2.1, [], [] ++ rH 0, [])) = true := by decide +kernel
/-- eight versions stand -/
def re_c8 : aCon := (232, rEnv 6, [] ++ rFs 6 0, [], [], [99], 12, [([aF], [], some (.inl (ae_s 8)), [])])
theorem re_k8 : ak_ends re_c8.2.1.length re_c8 (ak_run gR 100000 12 re_c8.1 re_c8.2.1.length [] [] none false (mj_jmp re_c8.1 46) wa_lv0 [] (re_c8.2.1, re_c8.2.2.1, [], [((100, ae_k 6), ae_k 8)] ++ rH 0, [])) = true := by decide +kernel
/-- room for one more: symbols n, v -/
def re_P46 : aPc := (46, [(0, 9), (0, 7)] ++ rEnv 6, [] ++ rFs 6 2, [((100, ae_k 6), ae_s 1)] ++ rH 2, wa_lv1 0, [])
def re_B46 : List aCut := [(83, [(0, 9), (0, 7)] ++ rEnv 6, [], wa_lv2 0 1, [], [((99, ae_k 28), ae_s 8)], [99], mMU)]
theorem re_c46 : hp_chk gR 100000 12 232 re_P46 [] re_B46 = true := by decide +kernel
/-! behind that: rows that are not written by the evaluator alone; no rules, what is kept alone -/
def gW : aG := (aLay, [], aTabs, aProt, [])
def jW (ws : va_W) : Prop := jK (jR ws 140) ∧ jX ws
theorem jW_hD {cs : List Nat} {w w2 : va_W} (hd : hD cs w w2) (h1 : 140 ∉ cs) (h2 : jXp.all (fun q => decide (q % 1000 ∉ cs)) = true) (h : jW w) : jW w2 := by
  unfold jW at h ⊢
  rw [hd.row h1]
  exact ⟨h.1, jX_prot _ _ (hd.prot h2) h.2⟩
def rw_e : List (Int × Int) := [(0, 9), (0, 7), aF]
def rw_at (x c : Int) : ae := ([(1, x)], c)
def rw_C (pc : Nat) (env : List (Int × Int)) (lv : List (Nat × av)) (st : List av) : aCut := (pc, env, [], lv, st, [], [], mMU)
def rw_P83 : aPc := (83, rw_e, [], [], wa_lv2 0 1, [])
def rw_B83 : List aCut := [rw_C 91 rw_e (wa_lv2 0 1) [.inl (ae_s 0), .inl (rw_at 2 0), .inr (0, 110)]]
theorem rw_c83 : hp_chk gW 100000 12 232 rw_P83 [] rw_B83 = true := by decide +kernel
def rw_P92 : aPc := (92, rw_e, [], [((100, ae_k 0), ae_s 2)], wa_lv2 0 1, [])
def rw_B92 : List aCut := [rw_C 107 rw_e (wa_lv2 0 1) [.inl (ae_s 2), .inl (rw_at 2 1), .inr (0, 110)]]
theorem rw_c92 : hp_chk gW 100000 12 232 rw_P92 [] rw_B92 = true := by decide +kernel
def rw_P108 : aPc := (108, rw_e, [], [], wa_lv2 0 1, [])
def rw_lvk (k : ae) : List (Nat × av) := [(0, .inr (0, 99)), (1, .inl (ae_s 0)), (2, .inl (ae_s 1)), (3, .inl k)]
def rw_B108 : List aCut := [rw_C 110 rw_e (rw_lvk (ae_k 0)) []]
theorem rw_c108 : hp_chk gW 100000 12 232 rw_P108 [] rw_B108 = true := by decide +kernel
/-- symbols n, v, the value, k -/
def rw_ek (m : Int) : List (Int × Int) := [(0, 9), (0, 7), aF, (0, m)]
def rw_P110 : aPc := (110, rw_ek 35, [([(0, -4), (3, 1)], 1)], [((119, ae_s 3), ae_s 2)], rw_lvk (ae_s 3), [])
def rw_B110 : List aCut := [rw_C 133 (rw_ek 35) (rw_lvk (ae_s 3)) [.inl (ae_s 2), .inl ([(1, 36), (3, 1)], 0), .inr (0, 111)]]
theorem rw_c110 : hp_chk gW 100000 12 232 rw_P110 [] rw_B110 = true := by decide +kernel
def rw_P134 : aPc := (134, rw_ek 35, [], [], rw_lvk (ae_s 3), [])
def rw_B134 : List aCut := [rw_C 110 (rw_ek 35) (rw_lvk (ae_inc (ae_s 3) 1)) []]
theorem rw_c134 : hp_chk gW 100000 12 232 rw_P134 [] rw_B134 = true := by decide +kernel
def rw_PX : aPc := (110, rw_e, [], [], rw_lvk ([(0, 4)], 0), [])
def rw_BX : List aCut := [rw_C 142 rw_e (rw_lvk (ae_k 0)) []]
theorem rw_cX : hp_chk gW 100000 12 232 rw_PX [] rw_BX = true := by decide +kernel
/-- symbols n, v, the value, k, how many signs -/
def rw_es : List (Int × Int) := [(0, 9), (0, 7), aF, (0, 255), (0, 256)]
def rw_P142 : aPc := (142, rw_es, [([(3, 1), (4, -1)], 1)], [((99, ae_k 28), ae_s 4), ((120, ae_s 3), ae_s 2)], rw_lvk (ae_s 3), [])
def rw_B142 : List aCut := [rw_C 167 rw_es (rw_lvk (ae_s 3)) [.inl (ae_s 2), .inl ([(1, 256), (3, 1)], 0), .inr (0, 112)]]
theorem rw_c142 : hp_chk gW 100000 12 232 rw_P142 [] rw_B142 = true := by decide +kernel
def rw_P168 : aPc := (168, rw_es, [], [], rw_lvk (ae_s 3), [])
def rw_B168 : List aCut := [rw_C 142 rw_es (rw_lvk (ae_inc (ae_s 3) 1)) []]
theorem rw_c168 : hp_chk gW 100000 12 232 rw_P168 [] rw_B168 = true := by decide +kernel
/-- the end: symbols n, v, how many signs -/
def rw_cE : aCon := (232, [(0, 9), (0, 7), (0, 256)], [], [], [], [100], 12, [([aF], [], some (.inl (ae_s 3)), [])])
theorem rw_kE : ak_ends rw_cE.2.1.length rw_cE (ak_run gW 100000 12 rw_cE.1 rw_cE.2.1.length [] [] none false (mj_jmp rw_cE.1 142) (rw_lvk (ae_s 2)) [] (rw_cE.2.1, rw_cE.2.2.1, [], [((99, ae_k 28), ae_s 2), ((100, ae_k 6), ae_s 1)], [])) = true := by decide +kernel
