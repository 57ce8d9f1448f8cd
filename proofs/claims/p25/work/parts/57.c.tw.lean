/-! WEEKS GO BY, both sides: now, and what stays -/
def ai_nw : aInst := ((22, [(0, 1998)], [], [.inr (0, 1)], [((1, ae_k 0), ae_s 0)], [1, 3], 3, [([], [], none, [((1, ae_k 0), ([(0, 1)], 1))])]), [(12, [(0, 1998), (0, 2147483647)], [], [(0, .inr (0, 1)), (1, .inl (ae_s 1))], [], [((1, ae_k 0), ([(0, 1)], 1))], [1, 3], ([(1, (-1))], 53687091199)), (36, [(0, 1998), (0, 2147483647), aF], [], [(0, .inr (0, 1)), (1, .inl (ae_s 1))], [], [((1, ae_k 0), ([(0, 1)], 1)), ((2, ae_k 3), ae_s 2)], [1, 3], ([(1, (-1))], 36507222015)), (76, [(0, 1998), (0, 2147483647), aF, aF], [], [(0, .inr (0, 1)), (1, .inl (ae_s 1))], [], [((1, ae_k 0), ([(0, 1)], 1)), ((2, ae_k 3), ae_s 2), ((34, ae_k 3), ae_s 3)], [1, 3], ([(1, (-1))], 19327352831))])
def wcs : List aCon := [ai_nw.1, ai_11.1, ai_10.1, ai_9.1, ai_8.1]
section
set_option maxRecDepth 100000
theorem wcs_k0 : ak_inst (aG00 []) 100000 ai_8 = true := by decide +kernel
theorem wcs_k1 : ak_inst (aG00 [ai_8.1]) 100000 ai_9 = true := by decide +kernel
theorem wcs_k2 : ak_inst (aG00 [ai_9.1, ai_8.1]) 100000 ai_10 = true := by decide +kernel
theorem wcs_k3 : ak_inst (aG00 [ai_10.1, ai_9.1, ai_8.1]) 100000 ai_11 = true := by decide +kernel
theorem wcs_k4 : ak_inst (aG00 [ai_11.1, ai_10.1, ai_9.1, ai_8.1]) 100000 ai_nw = true := by decide +kernel
end
theorem wcs_ok {E : mj_E} {al : List Nat} (hf : E.2.2.2.1.category = 1) (hT : ∀ σ : List Int, aTb E σ aTabs) : ∀ c ∈ wcs, aCO E al (aG00 []) jJ0 c := by
  have h_0 : ∀ c ∈ ([] : List aCon), aCO E al (aG00 []) jJ0 c := fun c hc => by cases hc
  have h_1 : ∀ c ∈ [ai_8.1], aCO E al (aG00 []) jJ0 c := List.forall_mem_cons.mpr ⟨ai00L hf hT h_0 (q := ai_8) (by decide) wcs_k0, h_0⟩
  have h_2 : ∀ c ∈ [ai_9.1, ai_8.1], aCO E al (aG00 []) jJ0 c := List.forall_mem_cons.mpr ⟨ai00L hf hT h_1 (q := ai_9) (by decide) wcs_k1, h_1⟩
  have h_3 : ∀ c ∈ [ai_10.1, ai_9.1, ai_8.1], aCO E al (aG00 []) jJ0 c := List.forall_mem_cons.mpr ⟨ai00L hf hT h_2 (q := ai_10) (by decide) wcs_k2, h_2⟩
  have h_4 : ∀ c ∈ [ai_11.1, ai_10.1, ai_9.1, ai_8.1], aCO E al (aG00 []) jJ0 c := List.forall_mem_cons.mpr ⟨ai00L hf hT h_3 (q := ai_11) (by decide) wcs_k3, h_3⟩
  have h_5 : ∀ c ∈ [ai_nw.1, ai_11.1, ai_10.1, ai_9.1, ai_8.1], aCO E al (aG00 []) jJ0 c := List.forall_mem_cons.mpr ⟨ai00L hf hT h_4 (q := ai_nw) (by decide) wcs_k4, h_4⟩
  exact h_5
def wrs : List aCon := [ai_341.1, ai_340.1]
section
set_option maxRecDepth 100000
theorem wrs_k0 : ak_inst (aG00 []) 100000 ai_340 = true := by decide +kernel
theorem wrs_k1 : ak_inst (aG00 [ai_340.1]) 100000 ai_341 = true := by decide +kernel
end
theorem wrs_ok {E : mj_E} {al : List Nat} (hf : E.2.2.2.1.category = 1) (hT : ∀ σ : List Int, aTb E σ aTabs) : ∀ c ∈ wrs, aCO E al (aG00 []) jJ0 c := by
  have h_0 : ∀ c ∈ ([] : List aCon), aCO E al (aG00 []) jJ0 c := fun c hc => by cases hc
  have h_1 : ∀ c ∈ [ai_340.1], aCO E al (aG00 []) jJ0 c := List.forall_mem_cons.mpr ⟨ai00L hf hT h_0 (q := ai_340) (by decide) wrs_k0, h_0⟩
  have h_2 : ∀ c ∈ [ai_341.1, ai_340.1], aCO E al (aG00 []) jJ0 c := List.forall_mem_cons.mpr ⟨ai00L hf hT h_1 (q := ai_341) (by decide) wrs_k1, h_1⟩
  exact h_2
def wk_c0 : aInst := ((20, [aF, (0, 1999)], [ae_s 0], [.inr (0, 0), .inl (ae_s 0)], [((1, ae_k 0), ae_s 1)], [1, 3], 4, [([], [], some (.inl (ae_k (-1))), [((1, ae_k 0), ae_s 1)])]), [])
def wk_c1 : aInst := ((20, [aF, (0, 1999)], [([(0, (-1))], 201)], [.inr (0, 0), .inl (ae_s 0)], [((1, ae_k 0), ae_s 1)], [1, 3], 4, [([], [], some (.inl (ae_k (-1))), [((1, ae_k 0), ae_s 1)])]), [])
def wk_c2 : aInst := ((20, [aF, (0, 1999)], [([(0, (-1))], 1), ([(0, 1)], (-200)), ([(0, (-1)), (1, (-1))], 2000)], [.inr (0, 0), .inl (ae_s 0)], [((1, ae_k 0), ae_s 1)], [1, 3], 4, [([], [], some (.inl (ae_k (-4))), [((1, ae_k 0), ae_s 1)])]), [])
def wk_c3 : aInst := ((20, [aF, (0, 1999)], [([(0, (-1))], 1), ([(0, 1)], (-200)), ([(0, 1), (1, 1)], (-1999))], [.inr (0, 0), .inl (ae_s 0)], [((1, ae_k 0), ae_s 1)], [1, 3], 4, [([], [], some (.inl (([(0, 1), (1, 1)], 0))), [((1, ae_k 0), ([(0, 1), (1, 1)], 0))])]), [(33, [(1, 200), (0, 1999), (0, 200)], [([(0, 1), (1, 1)], (-1999)), ([(0, (-1)), (2, 1)], 0)], [(0, .inr (0, 0)), (1, .inl (ae_s 0)), (2, .inl (ae_s 2))], [], [((1, ae_k 0), ([(1, 1), (2, 1)], 0))], [1, 3], ([(2, (-1))], 19327352831))])
def wk_r0 : aInst := ((182, [aF, (0, 1999), (0, 24), (0, 12)], [ae_s 0], [.inr (0, 99), .inl (ae_s 0)], [((100, ae_k 0), ae_s 1), ((100, ae_k 3), ae_s 2), ((100, ae_k 6), ae_s 3)], [100, 101], 3, [([], [], some (.inl (ae_k (-1))), [((100, ae_k 0), ae_s 1), ((100, ae_k 3), ae_s 2), ((100, ae_k 6), ae_s 3)])]), [])
def wk_r1 : aInst := ((182, [aF, (0, 1999), (0, 24), (0, 12)], [([(0, (-1))], 201)], [.inr (0, 99), .inl (ae_s 0)], [((100, ae_k 0), ae_s 1), ((100, ae_k 3), ae_s 2), ((100, ae_k 6), ae_s 3)], [100, 101], 3, [([], [], some (.inl (ae_k (-1))), [((100, ae_k 0), ae_s 1), ((100, ae_k 3), ae_s 2), ((100, ae_k 6), ae_s 3)])]), [])
def wk_r2 : aInst := ((182, [aF, (0, 1999), (0, 24), (0, 12)], [([(0, (-1))], 1), ([(0, 1)], (-200)), ([(0, (-1)), (1, (-1))], 2000)], [.inr (0, 99), .inl (ae_s 0)], [((100, ae_k 0), ae_s 1), ((100, ae_k 3), ae_s 2), ((100, ae_k 6), ae_s 3)], [100, 101], 3, [([], [], some (.inl (ae_k (-4))), [((100, ae_k 0), ae_s 1), ((100, ae_k 3), ae_s 2), ((100, ae_k 6), ae_s 3)])]), [])
def wk_r3 : aInst := ((182, [aF, (0, 1999), (0, 24), (0, 12)], [([(0, (-1))], 1), ([(0, 1)], (-200)), ([(0, 1), (1, 1)], (-1999))], [.inr (0, 99), .inl (ae_s 0)], [((100, ae_k 0), ae_s 1), ((100, ae_k 3), ae_s 2), ((100, ae_k 6), ae_s 3)], [100, 101], 3, [([], [], some (.inl (([(0, 1), (1, 1)], 0))), [((100, ae_k 0), ([(0, 1), (1, 1)], 0)), ((100, ae_k 3), ae_s 2), ((100, ae_k 6), ae_s 3)])]), [(32, [(1, 200), (0, 1999), (0, 24), (0, 12), (0, 200)], [([(0, 1), (1, 1)], (-1999)), ([(0, (-1)), (4, 1)], 0)], [(0, .inr (0, 99)), (1, .inl (ae_s 0)), (2, .inl (ae_s 4))], [], [((100, ae_k 0), ([(1, 1), (4, 1)], 0)), ((100, ae_k 3), ae_s 2), ((100, ae_k 6), ae_s 3)], [100, 101], ([(4, (-1))], 19327352831))])
section
set_option maxRecDepth 100000
theorem wk_ck0 : ak_inst (aG00 wcs) 100000 wk_c0 = true := by decide +kernel
theorem wk_ck1 : ak_inst (aG00 wcs) 100000 wk_c1 = true := by decide +kernel
theorem wk_ck2 : ak_inst (aG00 wcs) 100000 wk_c2 = true := by decide +kernel
theorem wk_ck3 : ak_inst (aG00 wcs) 100000 wk_c3 = true := by decide +kernel
theorem wk_rk0 : ak_inst (aG00 wrs) 100000 wk_r0 = true := by decide +kernel
theorem wk_rk1 : ak_inst (aG00 wrs) 100000 wk_r1 = true := by decide +kernel
theorem wk_rk2 : ak_inst (aG00 wrs) 100000 wk_r2 = true := by decide +kernel
theorem wk_rk3 : ak_inst (aG00 wrs) 100000 wk_r3 = true := by decide +kernel
end
def wk_F (a s : Int) : Int := if 1 ≤ a ∧ a ≤ 200 ∧ a + s ≤ 1999 then a + s else s
section WEEKS
variable {E : mj_E} {al : List Nat} {ws : va_W}
theorem wk_cmj (hf : E.2.2.2.1.category = 1) (hT : ∀ σ : List Int, aTb E σ aTabs) (a5 : aWd E al aLay ws) (a6 : aRs aRules ws) (a7 : jJ0 ws) {a s : Int} (x1 : aI0 ≤ a ∧ a ≤ aI1) (h0 : jS ws 1 0 = s) (b0 : 0 ≤ s ∧ s ≤ 1999) {AS : List Value} (ha : gL E al [] (.inr (0, 0) :: [ae_k a].map .inl) AS) :
    MJ E 85 0 0 (mj_in0 20 AS ws) (fun v w => ∃ z : Int32, v = some (.int z) ∧ aWd E al aLay w ∧ aRs aRules w ∧ jJ0 w ∧ hD [1, 3] ws w ∧ jS w 1 0 = wk_F a s) := by
  have s0 : aSl ws 1 0 s := by rw [← h0]; exact jLay_sl a5 (by decide +kernel)
  have ha2 : gL E al [a, s] (.inr (0, 0) :: [ae_s 0].map .inl) AS := by
    obtain ⟨v, u, rfl, g1, g2⟩ := ha
    exact ⟨v, u, rfl, g1, gL_re (by simp only [List.map_cons, List.map_nil, ae_ev_k, ev_s (ρ := [a, s]) (k := 0) (x := a) rfl]) (by rfl) g2⟩
  by_cases c0 : a ≤ 0
  · refine (ai00L hf hT (wcs_ok hf hT) (q := wk_c0) (by decide) wk_ck0 [a, s] AS ws (hEv.ok (σ := [a, s]) (env := [aF, (0, 1999)]) ⟨x1, b0, trivial⟩) (aFs.cons rfl (by simp only [ae_ev, ae_el, ae_s, List.getD_cons_zero, List.getD_cons_succ]; omega) aFs.nil) ha2 (aHh.cons (kn1 (i := 0) (by decide) rfl (ev_s rfl) s0) aHh.nil) a5 a6 a7 85 (by decide)).weaken (Nat.le_refl _) (Nat.le_refl _) (Nat.le_refl _) (fun v w h => ?_)
    obtain ⟨cs, hcs, r, h1, h2, h3, h4, h5, h6, h7, h8, h9⟩ := h
    have hcs := List.mem_singleton.mp hcs
    subst hcs
    obtain ⟨u, rfl, z, rfl, hz⟩ := h3
    refine ⟨z, rfl, h5, h6, h7, ⟨h8, fun k hk => h9 k hk⟩, ?_⟩
    · rw [jHe_get (c := 1) (i := 0) h4 List.mem_cons_self (by decide)]
      unfold wk_F
      rw [if_neg (by omega)]
      exact ev_s rfl
  by_cases c1 : 201 ≤ a
  · refine (ai00L hf hT (wcs_ok hf hT) (q := wk_c1) (by decide) wk_ck1 [a, s] AS ws (hEv.ok (σ := [a, s]) (env := [aF, (0, 1999)]) ⟨x1, b0, trivial⟩) (aFs.cons rfl (by simp only [ae_ev, ae_el, List.getD_cons_zero, List.getD_cons_succ]; omega) aFs.nil) ha2 (aHh.cons (kn1 (i := 0) (by decide) rfl (ev_s rfl) s0) aHh.nil) a5 a6 a7 85 (by decide)).weaken (Nat.le_refl _) (Nat.le_refl _) (Nat.le_refl _) (fun v w h => ?_)
    obtain ⟨cs, hcs, r, h1, h2, h3, h4, h5, h6, h7, h8, h9⟩ := h
    have hcs := List.mem_singleton.mp hcs
    subst hcs
    obtain ⟨u, rfl, z, rfl, hz⟩ := h3
    refine ⟨z, rfl, h5, h6, h7, ⟨h8, fun k hk => h9 k hk⟩, ?_⟩
    · rw [jHe_get (c := 1) (i := 0) h4 List.mem_cons_self (by decide)]
      unfold wk_F
      rw [if_neg (by omega)]
      exact ev_s rfl
  by_cases c2 : 2000 ≤ a + s
  · refine (ai00L hf hT (wcs_ok hf hT) (q := wk_c2) (by decide) wk_ck2 [a, s] AS ws (hEv.ok (σ := [a, s]) (env := [aF, (0, 1999)]) ⟨x1, b0, trivial⟩) (aFs.cons rfl (by simp only [ae_ev, ae_el, List.getD_cons_zero, List.getD_cons_succ]; omega) (aFs.cons rfl (by simp only [ae_ev, ae_el, List.getD_cons_zero, List.getD_cons_succ]; omega) (aFs.cons rfl (by simp only [ae_ev, ae_el, List.getD_cons_zero, List.getD_cons_succ]; omega) aFs.nil))) ha2 (aHh.cons (kn1 (i := 0) (by decide) rfl (ev_s rfl) s0) aHh.nil) a5 a6 a7 85 (by decide)).weaken (Nat.le_refl _) (Nat.le_refl _) (Nat.le_refl _) (fun v w h => ?_)
    obtain ⟨cs, hcs, r, h1, h2, h3, h4, h5, h6, h7, h8, h9⟩ := h
    have hcs := List.mem_singleton.mp hcs
    subst hcs
    obtain ⟨u, rfl, z, rfl, hz⟩ := h3
    refine ⟨z, rfl, h5, h6, h7, ⟨h8, fun k hk => h9 k hk⟩, ?_⟩
    · rw [jHe_get (c := 1) (i := 0) h4 List.mem_cons_self (by decide)]
      unfold wk_F
      rw [if_neg (by omega)]
      exact ev_s rfl
  refine (ai00L hf hT (wcs_ok hf hT) (q := wk_c3) (by decide) wk_ck3 [a, s] AS ws (hEv.ok (σ := [a, s]) (env := [aF, (0, 1999)]) ⟨x1, b0, trivial⟩) (aFs.cons rfl (by simp only [ae_ev, ae_el, List.getD_cons_zero, List.getD_cons_succ]; omega) (aFs.cons rfl (by simp only [ae_ev, ae_el, List.getD_cons_zero, List.getD_cons_succ]; omega) (aFs.cons rfl (by simp only [ae_ev, ae_el, List.getD_cons_zero, List.getD_cons_succ]; omega) aFs.nil))) ha2 (aHh.cons (kn1 (i := 0) (by decide) rfl (ev_s rfl) s0) aHh.nil) a5 a6 a7 85 (by decide)).weaken (Nat.le_refl _) (Nat.le_refl _) (Nat.le_refl _) (fun v w h => ?_)
  obtain ⟨cs, hcs, r, h1, h2, h3, h4, h5, h6, h7, h8, h9⟩ := h
  have hcs := List.mem_singleton.mp hcs
  subst hcs
  obtain ⟨u, rfl, z, rfl, hz⟩ := h3
  refine ⟨z, rfl, h5, h6, h7, ⟨h8, fun k hk => h9 k hk⟩, ?_⟩
  · rw [jHe_get (c := 1) (i := 0) h4 List.mem_cons_self (by decide)]
    unfold wk_F
    rw [if_pos (by omega)]
    simp only [ae_ev, ae_el, List.cons_append, List.nil_append, List.getD_cons_zero, List.getD_cons_succ]; omega
theorem wk_rmj (hf : E.2.2.2.1.category = 1) (hT : ∀ σ : List Int, aTb E σ aTabs) (a5 : aWd E al aLay ws) (a6 : aRs aRules ws) (a7 : jJ0 ws) {a s n m : Int} (x1 : aI0 ≤ a ∧ a ≤ aI1) (h0 : jS ws 100 0 = s) (h1 : jS ws 100 3 = n) (h2 : jS ws 100 6 = m) (b0 : 0 ≤ s ∧ s ≤ 1999) (b1 : 0 ≤ n ∧ n ≤ 24) (b2 : 0 ≤ m ∧ m ≤ 12) {AS : List Value} (ha : gL E al [] (.inr (0, 99) :: [ae_k a].map .inl) AS) :
    MJ E 85 0 0 (mj_in0 182 AS ws) (fun v w => ∃ z : Int32, v = some (.int z) ∧ aWd E al aLay w ∧ aRs aRules w ∧ jJ0 w ∧ hD [100, 101] ws w ∧ jS w 100 0 = wk_F a s ∧ jS w 100 3 = n ∧ jS w 100 6 = m) := by
  have s0 : aSl ws 100 0 s := by rw [← h0]; exact jLay_sl a5 (by decide +kernel)
  have s1 : aSl ws 100 3 n := by rw [← h1]; exact jLay_sl a5 (by decide +kernel)
  have s2 : aSl ws 100 6 m := by rw [← h2]; exact jLay_sl a5 (by decide +kernel)
  have ha2 : gL E al [a, s, n, m] (.inr (0, 99) :: [ae_s 0].map .inl) AS := by
    obtain ⟨v, u, rfl, g1, g2⟩ := ha
    exact ⟨v, u, rfl, g1, gL_re (by simp only [List.map_cons, List.map_nil, ae_ev_k, ev_s (ρ := [a, s, n, m]) (k := 0) (x := a) rfl]) (by rfl) g2⟩
  by_cases c0 : a ≤ 0
  · refine (ai00L hf hT (wrs_ok hf hT) (q := wk_r0) (by decide) wk_rk0 [a, s, n, m] AS ws (hEv.ok (σ := [a, s, n, m]) (env := [aF, (0, 1999), (0, 24), (0, 12)]) ⟨x1, b0, b1, b2, trivial⟩) (aFs.cons rfl (by simp only [ae_ev, ae_el, ae_s, List.getD_cons_zero, List.getD_cons_succ]; omega) aFs.nil) ha2 (aHh.cons (kn1 (i := 0) (by decide) rfl (ev_s rfl) s0) (aHh.cons (kn1 (i := 3) (by decide) rfl (ev_s rfl) s1) (aHh.cons (kn1 (i := 6) (by decide) rfl (ev_s rfl) s2) aHh.nil))) a5 a6 a7 85 (by decide)).weaken (Nat.le_refl _) (Nat.le_refl _) (Nat.le_refl _) (fun v w h => ?_)
    obtain ⟨cs, hcs, r, h1, h2, h3, h4, h5, h6, h7, h8, h9⟩ := h
    have hcs := List.mem_singleton.mp hcs
    subst hcs
    obtain ⟨u, rfl, z, rfl, hz⟩ := h3
    refine ⟨z, rfl, h5, h6, h7, ⟨h8, fun k hk => h9 k hk⟩, ?_, ?_, ?_⟩
    · rw [jHe_get (c := 100) (i := 0) h4 List.mem_cons_self (by decide)]
      unfold wk_F
      rw [if_neg (by omega)]
      exact ev_s rfl
    · rw [jHe_get (c := 100) (i := 3) h4 (List.mem_cons_of_mem _ List.mem_cons_self) (by decide)]
      exact ev_s rfl
    · rw [jHe_get (c := 100) (i := 6) h4 (List.mem_cons_of_mem _ (List.mem_cons_of_mem _ List.mem_cons_self)) (by decide)]
      exact ev_s rfl
  by_cases c1 : 201 ≤ a
  · refine (ai00L hf hT (wrs_ok hf hT) (q := wk_r1) (by decide) wk_rk1 [a, s, n, m] AS ws (hEv.ok (σ := [a, s, n, m]) (env := [aF, (0, 1999), (0, 24), (0, 12)]) ⟨x1, b0, b1, b2, trivial⟩) (aFs.cons rfl (by simp only [ae_ev, ae_el, List.getD_cons_zero, List.getD_cons_succ]; omega) aFs.nil) ha2 (aHh.cons (kn1 (i := 0) (by decide) rfl (ev_s rfl) s0) (aHh.cons (kn1 (i := 3) (by decide) rfl (ev_s rfl) s1) (aHh.cons (kn1 (i := 6) (by decide) rfl (ev_s rfl) s2) aHh.nil))) a5 a6 a7 85 (by decide)).weaken (Nat.le_refl _) (Nat.le_refl _) (Nat.le_refl _) (fun v w h => ?_)
    obtain ⟨cs, hcs, r, h1, h2, h3, h4, h5, h6, h7, h8, h9⟩ := h
    have hcs := List.mem_singleton.mp hcs
    subst hcs
    obtain ⟨u, rfl, z, rfl, hz⟩ := h3
    refine ⟨z, rfl, h5, h6, h7, ⟨h8, fun k hk => h9 k hk⟩, ?_, ?_, ?_⟩
    · rw [jHe_get (c := 100) (i := 0) h4 List.mem_cons_self (by decide)]
      unfold wk_F
      rw [if_neg (by omega)]
      exact ev_s rfl
    · rw [jHe_get (c := 100) (i := 3) h4 (List.mem_cons_of_mem _ List.mem_cons_self) (by decide)]
      exact ev_s rfl
    · rw [jHe_get (c := 100) (i := 6) h4 (List.mem_cons_of_mem _ (List.mem_cons_of_mem _ List.mem_cons_self)) (by decide)]
      exact ev_s rfl
  by_cases c2 : 2000 ≤ a + s
  · refine (ai00L hf hT (wrs_ok hf hT) (q := wk_r2) (by decide) wk_rk2 [a, s, n, m] AS ws (hEv.ok (σ := [a, s, n, m]) (env := [aF, (0, 1999), (0, 24), (0, 12)]) ⟨x1, b0, b1, b2, trivial⟩) (aFs.cons rfl (by simp only [ae_ev, ae_el, List.getD_cons_zero, List.getD_cons_succ]; omega) (aFs.cons rfl (by simp only [ae_ev, ae_el, List.getD_cons_zero, List.getD_cons_succ]; omega) (aFs.cons rfl (by simp only [ae_ev, ae_el, List.getD_cons_zero, List.getD_cons_succ]; omega) aFs.nil))) ha2 (aHh.cons (kn1 (i := 0) (by decide) rfl (ev_s rfl) s0) (aHh.cons (kn1 (i := 3) (by decide) rfl (ev_s rfl) s1) (aHh.cons (kn1 (i := 6) (by decide) rfl (ev_s rfl) s2) aHh.nil))) a5 a6 a7 85 (by decide)).weaken (Nat.le_refl _) (Nat.le_refl _) (Nat.le_refl _) (fun v w h => ?_)
    obtain ⟨cs, hcs, r, h1, h2, h3, h4, h5, h6, h7, h8, h9⟩ := h
    have hcs := List.mem_singleton.mp hcs
    subst hcs
    obtain ⟨u, rfl, z, rfl, hz⟩ := h3
    refine ⟨z, rfl, h5, h6, h7, ⟨h8, fun k hk => h9 k hk⟩, ?_, ?_, ?_⟩
    · rw [jHe_get (c := 100) (i := 0) h4 List.mem_cons_self (by decide)]
      unfold wk_F
      rw [if_neg (by omega)]
      exact ev_s rfl
    · rw [jHe_get (c := 100) (i := 3) h4 (List.mem_cons_of_mem _ List.mem_cons_self) (by decide)]
      exact ev_s rfl
    · rw [jHe_get (c := 100) (i := 6) h4 (List.mem_cons_of_mem _ (List.mem_cons_of_mem _ List.mem_cons_self)) (by decide)]
      exact ev_s rfl
  refine (ai00L hf hT (wrs_ok hf hT) (q := wk_r3) (by decide) wk_rk3 [a, s, n, m] AS ws (hEv.ok (σ := [a, s, n, m]) (env := [aF, (0, 1999), (0, 24), (0, 12)]) ⟨x1, b0, b1, b2, trivial⟩) (aFs.cons rfl (by simp only [ae_ev, ae_el, List.getD_cons_zero, List.getD_cons_succ]; omega) (aFs.cons rfl (by simp only [ae_ev, ae_el, List.getD_cons_zero, List.getD_cons_succ]; omega) (aFs.cons rfl (by simp only [ae_ev, ae_el, List.getD_cons_zero, List.getD_cons_succ]; omega) aFs.nil))) ha2 (aHh.cons (kn1 (i := 0) (by decide) rfl (ev_s rfl) s0) (aHh.cons (kn1 (i := 3) (by decide) rfl (ev_s rfl) s1) (aHh.cons (kn1 (i := 6) (by decide) rfl (ev_s rfl) s2) aHh.nil))) a5 a6 a7 85 (by decide)).weaken (Nat.le_refl _) (Nat.le_refl _) (Nat.le_refl _) (fun v w h => ?_)
  obtain ⟨cs, hcs, r, h1, h2, h3, h4, h5, h6, h7, h8, h9⟩ := h
  have hcs := List.mem_singleton.mp hcs
  subst hcs
  obtain ⟨u, rfl, z, rfl, hz⟩ := h3
  refine ⟨z, rfl, h5, h6, h7, ⟨h8, fun k hk => h9 k hk⟩, ?_, ?_, ?_⟩
  · rw [jHe_get (c := 100) (i := 0) h4 List.mem_cons_self (by decide)]
    unfold wk_F
    rw [if_pos (by omega)]
    simp only [ae_ev, ae_el, List.cons_append, List.nil_append, List.getD_cons_zero, List.getD_cons_succ]; omega
  · rw [jHe_get (c := 100) (i := 3) h4 (List.mem_cons_of_mem _ List.mem_cons_self) (by decide)]
    exact ev_s rfl
  · rw [jHe_get (c := 100) (i := 6) h4 (List.mem_cons_of_mem _ (List.mem_cons_of_mem _ List.mem_cons_self)) (by decide)]
    exact ev_s rfl
end WEEKS
/-! what the heads share -/
section LAW
variable {E : mj_E} {Q : Option Value → va_W → Prop}
section SIDES
variable {al : List Nat} {ws w w2 : va_W} {L : Nat} {i : Int} {ρ : List Int}
theorem re_as {es : List ae} (hes : es.all (fun e => e.1.isEmpty) = true) {AS : List Value} {self : Nat} (ha : gL E al [(L : Int), i] (.inr (0, self) :: es.map .inl) AS) : gL E al [] (.inr (0, self) :: es.map .inl) AS := by
  obtain ⟨v, u, rfl, h1, h2⟩ := ha
  have key : ∀ e ∈ es, e.1 = [] := fun e he => List.isEmpty_iff.mp (List.all_eq_true.mp hes e he)
  refine ⟨v, u, rfl, h1, gL_re (σ := [(L : Int), i]) ?_ ?_ h2⟩
  · refine List.map_congr_left (fun e he => ?_)
    unfold ae_ev
    rw [key e he]
    rfl
  · refine List.all_eq_true.mpr (fun e he => ?_)
    rw [key e he]
    rfl
end SIDES
end LAW
