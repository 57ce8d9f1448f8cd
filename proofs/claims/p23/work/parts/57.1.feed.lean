/-! FEED AND READ: the tape's length on both sides -/
section INSTS
variable {E : mj_E}
end INSTS
def fd_c0 : aInst := ((81, [aF, (0, 250)], [ae_s 0], [.inr (0, 0), .inr (4, 0), .inl (ae_s 0)], [((75, ae_k 1), ae_s 1)], [75, 76], 1, [([], [], some (.inl (ae_k (-1))), [((75, ae_k 1), ae_s 1)])]), [])
def fd_c1 : aInst := ((81, [aF, (0, 250)], [([(0, (-1))], 9)], [.inr (0, 0), .inr (4, 0), .inl (ae_s 0)], [((75, ae_k 1), ae_s 1)], [75, 76], 1, [([], [], some (.inl (ae_k (-1))), [((75, ae_k 1), ae_s 1)])]), [])
def fd_c2 : aInst := ((81, [aF, (0, 250)], [([(0, (-1))], 1), ([(0, 1)], (-8)), ([(0, (-1)), (1, (-1))], 251)], [.inr (0, 0), .inr (4, 0), .inl (ae_s 0)], [((75, ae_k 1), ae_s 1)], [75, 76], 1, [([], [], some (.inl (ae_k (-2))), [((75, ae_k 1), ae_s 1)])]), [])
def fd_c3 : aInst := ((81, [aF, (0, 250)], [([(0, (-1))], 1), ([(0, 1)], (-8)), ([(0, 1), (1, 1)], (-250))], [.inr (0, 0), .inr (4, 0), .inl (ae_s 0)], [((75, ae_k 1), ae_s 1)], [75, 76], 1, [([], [], some (.inl (([(0, 1), (1, 1)], 0))), [((75, ae_k 1), ([(0, 1), (1, 1)], 0))])]), [(33, [(1, 8), (0, 250), (0, 8)], [([(0, 1), (1, 1)], (-250)), ([(0, (-1)), (2, 1)], 0)], [(0, .inr (0, 0)), (1, .inr (4, 0)), (3, .inl (ae_s 0)), (4, .inl (ae_s 2))], [], [((75, ae_k 1), ([(1, 1), (2, 1)], 0))], [75, 76], ([(2, (-1))], 1000))])
def fd_r0 : aInst := ((231, [aF, (0, 250), (0, 1)], [ae_s 0], [.inr (0, 99), .inr (4, 0), .inl (ae_s 0)], [((99, ae_k 19), ae_s 1), ((99, ae_k 59), ae_s 2)], [99, 118], 1, [([], [], some (.inl (ae_k (-1))), [((99, ae_k 19), ae_s 1), ((99, ae_k 59), ae_s 2)])]), [])
def fd_r1 : aInst := ((231, [aF, (0, 250), (0, 1)], [([(0, (-1))], 9)], [.inr (0, 99), .inr (4, 0), .inl (ae_s 0)], [((99, ae_k 19), ae_s 1), ((99, ae_k 59), ae_s 2)], [99, 118], 1, [([], [], some (.inl (ae_k (-1))), [((99, ae_k 19), ae_s 1), ((99, ae_k 59), ae_s 2)])]), [])
def fd_r2 : aInst := ((231, [aF, (0, 250), (0, 1)], [([(0, (-1))], 1), ([(0, 1)], (-8)), ([(0, (-1)), (1, (-1))], 251)], [.inr (0, 99), .inr (4, 0), .inl (ae_s 0)], [((99, ae_k 19), ae_s 1), ((99, ae_k 59), ae_s 2)], [99, 118], 1, [([], [], some (.inl (ae_k (-2))), [((99, ae_k 19), ae_s 1), ((99, ae_k 59), ae_s 2)])]), [])
def fd_r3 : aInst := ((231, [aF, (0, 250), (0, 1)], [([(0, (-1))], 1), ([(0, 1)], (-8)), ([(0, 1), (1, 1)], (-250))], [.inr (0, 99), .inr (4, 0), .inl (ae_s 0)], [((99, ae_k 19), ae_s 1), ((99, ae_k 59), ae_s 2)], [99, 118], 1, [([], [], some (.inl (([(0, 1), (1, 1)], 0))), [((99, ae_k 19), ([(0, 1), (1, 1)], 0)), ((99, ae_k 59), ae_s 2)])]), [(30, [(1, 8), (0, 250), (0, 1), (0, 8)], [([(0, 1), (1, 1)], (-250)), ([(0, (-1)), (3, 1)], 0)], [(0, .inr (0, 99)), (1, .inr (4, 0)), (3, .inl (ae_s 0)), (4, .inl (ae_s 3))], [], [((99, ae_k 19), ([(1, 1), (3, 1)], 0)), ((99, ae_k 59), ae_s 2)], [99, 118], ([(3, (-1))], 1000))])
def ai_cr : aInst := ((83, [], [], [.inr (0, 0)], [], [22, 23, 25, 27, 75, 77, 78, 79, 80], 19, [([aF], [], some (.inl (ae_s 0)), [((75, ae_k 1), ae_k 0)])]), [])
section
set_option maxRecDepth 100000
theorem fd_ck0 : ak_inst (aG00 []) 100000 fd_c0 = true := by decide +kernel
theorem fd_ck1 : ak_inst (aG00 []) 100000 fd_c1 = true := by decide +kernel
theorem fd_ck2 : ak_inst (aG00 []) 100000 fd_c2 = true := by decide +kernel
theorem fd_ck3 : ak_inst (aG00 []) 100000 fd_c3 = true := by decide +kernel
theorem fd_rk0 : ak_inst (aG00 []) 100000 fd_r0 = true := by decide +kernel
theorem fd_rk1 : ak_inst (aG00 []) 100000 fd_r1 = true := by decide +kernel
theorem fd_rk2 : ak_inst (aG00 []) 100000 fd_r2 = true := by decide +kernel
theorem fd_rk3 : ak_inst (aG00 []) 100000 fd_r3 = true := by decide +kernel
theorem cr_k : ak_inst gT 100000 ai_cr = true := by decide +kernel
end
def fd_F (a s : Int) : Int := if 1 ≤ a ∧ a ≤ 8 ∧ a + s ≤ 250 then a + s else s
def fd_A (a s : Int) : Int := if a ≤ 0 ∨ 9 ≤ a then -1 else if 251 ≤ a + s then -2 else a + s
section FEED
variable {E : mj_E} {al : List Nat} {ws : va_W}
theorem fd_cmj (hf : E.2.2.2.1.category = 1) (hT : ∀ σ : List Int, aTb E σ aTabs) (a5 : aWd E al aLay ws) (a6 : aRs aRules ws) (a7 : jJ0 ws) {a s : Int} (x1 : aI0 ≤ a ∧ a ≤ aI1) (h0 : jS ws 75 1 = s) (b0 : 0 ≤ s ∧ s ≤ 250) {AS : List Value} (ha : gL E al [] [.inr (0, 0), .inr (4, 0), .inl (ae_k a)] AS) :
    MJ E 85 0 0 (mj_in0 81 AS ws) (fun v w => ∃ z : Int32, v = some (.int z) ∧ z.toInt = fd_A a s ∧ aWd E al aLay w ∧ aRs aRules w ∧ jJ0 w ∧ hD [75, 76] ws w ∧ jS w 75 1 = fd_F a s) := by
  have s0 : aSl ws 75 1 s := by rw [← h0]; exact jLay_sl a5 (by decide +kernel)
  have ha2 : gL E al [a, s] [.inr (0, 0), .inr (4, 0), .inl (ae_s 0)] AS := by
    obtain ⟨v, u, rfl, g1, v2, u2, rfl, g2, g3⟩ := ha
    refine ⟨v, _, rfl, g1, v2, u2, rfl, g2, ?_⟩
    exact gL_re (es := [ae_k a]) (es2 := [ae_s 0]) (by simp only [List.map_cons, List.map_nil, ae_ev_k, ev_s (ρ := [a, s]) (k := 0) (x := a) rfl]) (by rfl) g3
  by_cases c0 : a ≤ 0
  · refine (ai00L hf hT (fun c hc => by cases hc) (q := fd_c0) (by decide) fd_ck0 [a, s] AS ws (hEv.ok (σ := [a, s]) (env := [aF, (0, 250)]) ⟨x1, b0, trivial⟩) (aFs.cons rfl (by simp only [ae_ev, ae_el, ae_s, List.getD_cons_zero, List.getD_cons_succ]; omega) aFs.nil) ha2 (aHh.cons (kn1 (i := 1) (by decide) rfl (ev_s rfl) s0) aHh.nil) a5 a6 a7 85 (by decide)).weaken (Nat.le_refl _) (Nat.le_refl _) (Nat.le_refl _) (fun v w h => ?_)
    obtain ⟨cs, hcs, r, h1, h2, h3, h4, h5, h6, h7, h8, h9⟩ := h
    have hcs := List.mem_singleton.mp hcs
    subst hcs
    obtain ⟨u, rfl, z, rfl, hz⟩ := h3
    refine ⟨z, rfl, ?_, h5, h6, h7, ⟨h8, fun k hk => h9 k hk⟩, ?_⟩
    · rw [hz.ev]
      unfold fd_A
      rw [if_pos (Or.inl c0)]
      exact ae_ev_k
    · rw [jHe_get (c := 75) (i := 1) h4 List.mem_cons_self (by decide)]
      unfold fd_F
      rw [if_neg (by omega)]
      exact ev_s rfl
  by_cases c1 : 9 ≤ a
  · refine (ai00L hf hT (fun c hc => by cases hc) (q := fd_c1) (by decide) fd_ck1 [a, s] AS ws (hEv.ok (σ := [a, s]) (env := [aF, (0, 250)]) ⟨x1, b0, trivial⟩) (aFs.cons rfl (by simp only [ae_ev, ae_el, ae_s, List.getD_cons_zero, List.getD_cons_succ]; omega) aFs.nil) ha2 (aHh.cons (kn1 (i := 1) (by decide) rfl (ev_s rfl) s0) aHh.nil) a5 a6 a7 85 (by decide)).weaken (Nat.le_refl _) (Nat.le_refl _) (Nat.le_refl _) (fun v w h => ?_)
    obtain ⟨cs, hcs, r, h1, h2, h3, h4, h5, h6, h7, h8, h9⟩ := h
    have hcs := List.mem_singleton.mp hcs
    subst hcs
    obtain ⟨u, rfl, z, rfl, hz⟩ := h3
    refine ⟨z, rfl, ?_, h5, h6, h7, ⟨h8, fun k hk => h9 k hk⟩, ?_⟩
    · rw [hz.ev]
      unfold fd_A
      rw [if_pos (Or.inr c1)]
      exact ae_ev_k
    · rw [jHe_get (c := 75) (i := 1) h4 List.mem_cons_self (by decide)]
      unfold fd_F
      rw [if_neg (by omega)]
      exact ev_s rfl
  by_cases c2 : 251 ≤ a + s
  · refine (ai00L hf hT (fun c hc => by cases hc) (q := fd_c2) (by decide) fd_ck2 [a, s] AS ws (hEv.ok (σ := [a, s]) (env := [aF, (0, 250)]) ⟨x1, b0, trivial⟩) (aFs.cons rfl (by simp only [ae_ev, ae_el, ae_s, List.getD_cons_zero, List.getD_cons_succ]; omega) (aFs.cons rfl (by simp only [ae_ev, ae_el, ae_s, List.getD_cons_zero, List.getD_cons_succ]; omega) (aFs.cons rfl (by simp only [ae_ev, ae_el, ae_s, List.getD_cons_zero, List.getD_cons_succ]; omega) aFs.nil))) ha2 (aHh.cons (kn1 (i := 1) (by decide) rfl (ev_s rfl) s0) aHh.nil) a5 a6 a7 85 (by decide)).weaken (Nat.le_refl _) (Nat.le_refl _) (Nat.le_refl _) (fun v w h => ?_)
    obtain ⟨cs, hcs, r, h1, h2, h3, h4, h5, h6, h7, h8, h9⟩ := h
    have hcs := List.mem_singleton.mp hcs
    subst hcs
    obtain ⟨u, rfl, z, rfl, hz⟩ := h3
    refine ⟨z, rfl, ?_, h5, h6, h7, ⟨h8, fun k hk => h9 k hk⟩, ?_⟩
    · rw [hz.ev]
      unfold fd_A
      rw [if_neg (by omega), if_pos c2]
      exact ae_ev_k
    · rw [jHe_get (c := 75) (i := 1) h4 List.mem_cons_self (by decide)]
      unfold fd_F
      rw [if_neg (by omega)]
      exact ev_s rfl
  refine (ai00L hf hT (fun c hc => by cases hc) (q := fd_c3) (by decide) fd_ck3 [a, s] AS ws (hEv.ok (σ := [a, s]) (env := [aF, (0, 250)]) ⟨x1, b0, trivial⟩) (aFs.cons rfl (by simp only [ae_ev, ae_el, ae_s, List.getD_cons_zero, List.getD_cons_succ]; omega) (aFs.cons rfl (by simp only [ae_ev, ae_el, ae_s, List.getD_cons_zero, List.getD_cons_succ]; omega) (aFs.cons rfl (by simp only [ae_ev, ae_el, ae_s, List.getD_cons_zero, List.getD_cons_succ]; omega) aFs.nil))) ha2 (aHh.cons (kn1 (i := 1) (by decide) rfl (ev_s rfl) s0) aHh.nil) a5 a6 a7 85 (by decide)).weaken (Nat.le_refl _) (Nat.le_refl _) (Nat.le_refl _) (fun v w h => ?_)
  obtain ⟨cs, hcs, r, h1, h2, h3, h4, h5, h6, h7, h8, h9⟩ := h
  have hcs := List.mem_singleton.mp hcs
  subst hcs
  obtain ⟨u, rfl, z, rfl, hz⟩ := h3
  refine ⟨z, rfl, ?_, h5, h6, h7, ⟨h8, fun k hk => h9 k hk⟩, ?_⟩
  · rw [hz.ev]
    unfold fd_A
    rw [if_neg (by omega), if_neg c2]
    simp only [ae_ev, ae_el, List.cons_append, List.nil_append, List.getD_cons_zero, List.getD_cons_succ]; omega
  · rw [jHe_get (c := 75) (i := 1) h4 List.mem_cons_self (by decide)]
    unfold fd_F
    rw [if_pos (by omega)]
    simp only [ae_ev, ae_el, List.cons_append, List.nil_append, List.getD_cons_zero, List.getD_cons_succ]; omega
theorem fd_rmj (hf : E.2.2.2.1.category = 1) (hT : ∀ σ : List Int, aTb E σ aTabs) (a5 : aWd E al aLay ws) (a6 : aRs aRules ws) (a7 : jJ0 ws) {a s k : Int} (x1 : aI0 ≤ a ∧ a ≤ aI1) (h0 : jS ws 99 19 = s) (h1 : jS ws 99 59 = k) (b0 : 0 ≤ s ∧ s ≤ 250) (b1 : 0 ≤ k ∧ k ≤ 1) {AS : List Value} (ha : gL E al [] [.inr (0, 99), .inr (4, 0), .inl (ae_k a)] AS) :
    MJ E 85 0 0 (mj_in0 231 AS ws) (fun v w => ∃ z : Int32, v = some (.int z) ∧ z.toInt = fd_A a s ∧ aWd E al aLay w ∧ aRs aRules w ∧ jJ0 w ∧ hD [99, 118] ws w ∧ jS w 99 19 = fd_F a s ∧ jS w 99 59 = k) := by
  have s0 : aSl ws 99 19 s := by rw [← h0]; exact jLay_sl a5 (by decide +kernel)
  have s1 : aSl ws 99 59 k := by rw [← h1]; exact jLay_sl a5 (by decide +kernel)
  have ha2 : gL E al [a, s, k] [.inr (0, 99), .inr (4, 0), .inl (ae_s 0)] AS := by
    obtain ⟨v, u, rfl, g1, v2, u2, rfl, g2, g3⟩ := ha
    refine ⟨v, _, rfl, g1, v2, u2, rfl, g2, ?_⟩
    exact gL_re (es := [ae_k a]) (es2 := [ae_s 0]) (by simp only [List.map_cons, List.map_nil, ae_ev_k, ev_s (ρ := [a, s, k]) (k := 0) (x := a) rfl]) (by rfl) g3
  by_cases c0 : a ≤ 0
  · refine (ai00L hf hT (fun c hc => by cases hc) (q := fd_r0) (by decide) fd_rk0 [a, s, k] AS ws (hEv.ok (σ := [a, s, k]) (env := [aF, (0, 250), (0, 1)]) ⟨x1, b0, b1, trivial⟩) (aFs.cons rfl (by simp only [ae_ev, ae_el, ae_s, List.getD_cons_zero, List.getD_cons_succ]; omega) aFs.nil) ha2 (aHh.cons (kn1 (i := 19) (by decide) rfl (ev_s rfl) s0) (aHh.cons (kn1 (i := 59) (by decide) rfl (ev_s rfl) s1) aHh.nil)) a5 a6 a7 85 (by decide)).weaken (Nat.le_refl _) (Nat.le_refl _) (Nat.le_refl _) (fun v w h => ?_)
    obtain ⟨cs, hcs, r, h1, h2, h3, h4, h5, h6, h7, h8, h9⟩ := h
    have hcs := List.mem_singleton.mp hcs
    subst hcs
    obtain ⟨u, rfl, z, rfl, hz⟩ := h3
    refine ⟨z, rfl, ?_, h5, h6, h7, ⟨h8, fun k hk => h9 k hk⟩, ?_, ?_⟩
    · rw [hz.ev]
      unfold fd_A
      rw [if_pos (Or.inl c0)]
      exact ae_ev_k
    · rw [jHe_get (c := 99) (i := 19) h4 List.mem_cons_self (by decide)]
      unfold fd_F
      rw [if_neg (by omega)]
      exact ev_s rfl
    · rw [jHe_get (c := 99) (i := 59) h4 (List.mem_cons_of_mem _ List.mem_cons_self) (by decide)]
      exact ev_s rfl
  by_cases c1 : 9 ≤ a
  · refine (ai00L hf hT (fun c hc => by cases hc) (q := fd_r1) (by decide) fd_rk1 [a, s, k] AS ws (hEv.ok (σ := [a, s, k]) (env := [aF, (0, 250), (0, 1)]) ⟨x1, b0, b1, trivial⟩) (aFs.cons rfl (by simp only [ae_ev, ae_el, ae_s, List.getD_cons_zero, List.getD_cons_succ]; omega) aFs.nil) ha2 (aHh.cons (kn1 (i := 19) (by decide) rfl (ev_s rfl) s0) (aHh.cons (kn1 (i := 59) (by decide) rfl (ev_s rfl) s1) aHh.nil)) a5 a6 a7 85 (by decide)).weaken (Nat.le_refl _) (Nat.le_refl _) (Nat.le_refl _) (fun v w h => ?_)
    obtain ⟨cs, hcs, r, h1, h2, h3, h4, h5, h6, h7, h8, h9⟩ := h
    have hcs := List.mem_singleton.mp hcs
    subst hcs
    obtain ⟨u, rfl, z, rfl, hz⟩ := h3
    refine ⟨z, rfl, ?_, h5, h6, h7, ⟨h8, fun k hk => h9 k hk⟩, ?_, ?_⟩
    · rw [hz.ev]
      unfold fd_A
      rw [if_pos (Or.inr c1)]
      exact ae_ev_k
    · rw [jHe_get (c := 99) (i := 19) h4 List.mem_cons_self (by decide)]
      unfold fd_F
      rw [if_neg (by omega)]
      exact ev_s rfl
    · rw [jHe_get (c := 99) (i := 59) h4 (List.mem_cons_of_mem _ List.mem_cons_self) (by decide)]
      exact ev_s rfl
  by_cases c2 : 251 ≤ a + s
  · refine (ai00L hf hT (fun c hc => by cases hc) (q := fd_r2) (by decide) fd_rk2 [a, s, k] AS ws (hEv.ok (σ := [a, s, k]) (env := [aF, (0, 250), (0, 1)]) ⟨x1, b0, b1, trivial⟩) (aFs.cons rfl (by simp only [ae_ev, ae_el, ae_s, List.getD_cons_zero, List.getD_cons_succ]; omega) (aFs.cons rfl (by simp only [ae_ev, ae_el, ae_s, List.getD_cons_zero, List.getD_cons_succ]; omega) (aFs.cons rfl (by simp only [ae_ev, ae_el, ae_s, List.getD_cons_zero, List.getD_cons_succ]; omega) aFs.nil))) ha2 (aHh.cons (kn1 (i := 19) (by decide) rfl (ev_s rfl) s0) (aHh.cons (kn1 (i := 59) (by decide) rfl (ev_s rfl) s1) aHh.nil)) a5 a6 a7 85 (by decide)).weaken (Nat.le_refl _) (Nat.le_refl _) (Nat.le_refl _) (fun v w h => ?_)
    obtain ⟨cs, hcs, r, h1, h2, h3, h4, h5, h6, h7, h8, h9⟩ := h
    have hcs := List.mem_singleton.mp hcs
    subst hcs
    obtain ⟨u, rfl, z, rfl, hz⟩ := h3
    refine ⟨z, rfl, ?_, h5, h6, h7, ⟨h8, fun k hk => h9 k hk⟩, ?_, ?_⟩
    · rw [hz.ev]
      unfold fd_A
      rw [if_neg (by omega), if_pos c2]
      exact ae_ev_k
    · rw [jHe_get (c := 99) (i := 19) h4 List.mem_cons_self (by decide)]
      unfold fd_F
      rw [if_neg (by omega)]
      exact ev_s rfl
    · rw [jHe_get (c := 99) (i := 59) h4 (List.mem_cons_of_mem _ List.mem_cons_self) (by decide)]
      exact ev_s rfl
  refine (ai00L hf hT (fun c hc => by cases hc) (q := fd_r3) (by decide) fd_rk3 [a, s, k] AS ws (hEv.ok (σ := [a, s, k]) (env := [aF, (0, 250), (0, 1)]) ⟨x1, b0, b1, trivial⟩) (aFs.cons rfl (by simp only [ae_ev, ae_el, ae_s, List.getD_cons_zero, List.getD_cons_succ]; omega) (aFs.cons rfl (by simp only [ae_ev, ae_el, ae_s, List.getD_cons_zero, List.getD_cons_succ]; omega) (aFs.cons rfl (by simp only [ae_ev, ae_el, ae_s, List.getD_cons_zero, List.getD_cons_succ]; omega) aFs.nil))) ha2 (aHh.cons (kn1 (i := 19) (by decide) rfl (ev_s rfl) s0) (aHh.cons (kn1 (i := 59) (by decide) rfl (ev_s rfl) s1) aHh.nil)) a5 a6 a7 85 (by decide)).weaken (Nat.le_refl _) (Nat.le_refl _) (Nat.le_refl _) (fun v w h => ?_)
  obtain ⟨cs, hcs, r, h1, h2, h3, h4, h5, h6, h7, h8, h9⟩ := h
  have hcs := List.mem_singleton.mp hcs
  subst hcs
  obtain ⟨u, rfl, z, rfl, hz⟩ := h3
  refine ⟨z, rfl, ?_, h5, h6, h7, ⟨h8, fun k hk => h9 k hk⟩, ?_, ?_⟩
  · rw [hz.ev]
    unfold fd_A
    rw [if_neg (by omega), if_neg c2]
    simp only [ae_ev, ae_el, List.cons_append, List.nil_append, List.getD_cons_zero, List.getD_cons_succ]; omega
  · rw [jHe_get (c := 99) (i := 19) h4 List.mem_cons_self (by decide)]
    unfold fd_F
    rw [if_pos (by omega)]
    simp only [ae_ev, ae_el, List.cons_append, List.nil_append, List.getD_cons_zero, List.getD_cons_succ]; omega
  · rw [jHe_get (c := 99) (i := 59) h4 (List.mem_cons_of_mem _ List.mem_cons_self) (by decide)]
    exact ev_s rfl
theorem cr_mj (hf : E.2.2.2.1.category = 1) (hT : ∀ σ : List Int, aTb E σ aTabs) (a5 : aWd E al aLay ws) (a6 : aRs aRules ws) (a7 : jJ ws) {AS : List Value} (ha : gL E al [] [.inr (0, 0)] AS) :
    MJ E 85 0 0 (mj_in0 83 AS ws) (fun v w => ∃ z : Int32, v = some (.int z) ∧ aWd E al aLay w ∧ aRs aRules w ∧ jJ w ∧ hD [22, 23, 25, 27, 75, 77, 78, 79, 80] ws w ∧ jS w 75 1 = 0) := by
  refine (ak_inst_ok (G := gT) (J := jJ) (q := ai_cr) hf (by show aLay.length < 1000000; decide +kernel) (by show aRok aRules = true; decide +kernel) jJ_prot (la_cons2 hf hT) hT (by decide) cr_k [] AS ws (hEv.ok (σ := []) (env := []) trivial) aFs.nil ha aHh.nil a5 a6 a7 85 (by decide)).weaken (Nat.le_refl _) (Nat.le_refl _) (Nat.le_refl _) (fun v w h => ?_)
  obtain ⟨cs, hcs, r, h1, h2, h3, h4, h5, h6, h7, h8, h9⟩ := h
  have hcs := List.mem_singleton.mp hcs
  subst hcs
  obtain ⟨u, rfl, z, rfl, hz⟩ := h3
  refine ⟨z, rfl, h5, h6, h7, ⟨h8, fun k hk => h9 k hk⟩, ?_⟩
  rw [jHe_get (c := 75) (i := 1) h4 List.mem_cons_self (by decide)]
  exact ae_ev_k
theorem rr_mj (hf : E.2.2.2.1.category = 1) (hT : ∀ σ : List Int, aTb E σ aTabs) (a5 : aWd E al aLay ws) (a6 : aRs aRules ws) (a7 : jJ ws) {AS : List Value} (ha : gL E al [] [.inr (0, 99)] AS) :
    MJ E 85 0 0 (mj_in0 232 AS ws) (fun v w => ∃ z : Int32, v = some (.int z) ∧ aWd E al aLay w ∧ aRs aRules w ∧ jJ w ∧ hD [99, 100, 110, 111, 112, 119, 120, 121] ws w ∧ jS w 99 19 = 0) := by
  refine (read_ok hf hT [] AS ws (hEv.ok (σ := []) (env := []) trivial) aFs.nil ha aHh.nil a5 a6 a7 85 (by decide)).weaken (Nat.le_refl _) (Nat.le_refl _) (Nat.le_refl _) (fun v w h => ?_)
  obtain ⟨cs, hcs, r, h1, h2, h3, h4, h5, h6, h7, h8, h9⟩ := h
  have hcs := List.mem_singleton.mp hcs
  subst hcs
  obtain ⟨u, rfl, z, rfl, hz⟩ := h3
  refine ⟨z, rfl, h5, h6, h7, ⟨h8, fun k hk => h9 k hk⟩, ?_⟩
  rw [jHe_get (c := 99) (i := 19) h4 List.mem_cons_self (by decide)]
  exact ae_ev_k
end FEED
section LAW
variable {E : mj_E} {Q : Option Value → va_W → Prop}
section
set_option maxRecDepth 100000
theorem lf_1 : decode (mj_b 320) 983 = .ok (.aload_n 1, 1) := by decide +kernel
theorem lf_2 : decode (mj_b 320) 1012 = .ok (.aload_n 2, 1) := by decide +kernel
theorem lf_3 : decode (mj_b 320) 1041 = .ok (.if_icmp .eq 1176, 3) := by decide +kernel
def lf_lg (pc : Nat) : Bool := la_ldc pc 1 && decide (decode (mj_b 320) (pc + 5) = .ok (.i2l, 1)) && decide (decode (mj_b 320) (pc + 6) = .ok (.bipush 32, 2)) && decide (decode (mj_b 320) (pc + 8) = .ok (.lshl, 1)) && la_ldc (pc + 9) 2 && decide (decode (mj_b 320) (pc + 14) = .ok (.i2l, 1)) && decide (decode (mj_b 320) (pc + 15) = .ok (.ldc2_w 102, 3)) && decide (decode (mj_b 320) (pc + 18) = .ok (.land, 1)) && decide (decode (mj_b 320) (pc + 19) = .ok (.lor, 1)) && la_ldc (pc + 20) 3
theorem lf_k : (lf_lg 984 && lf_lg 1013) = true := by decide +kernel
theorem lf_kl : (mj_fkl (mj_cn 320) 102).any (fun q => q.2.2.1 == 1) = true := by decide +kernel
theorem lr_0 : decode (mj_b 320) 1046 = .ok (.aload_n 1, 1) := by decide +kernel
theorem lr_2 : decode (mj_b 320) 1050 = .ok (.pop, 1) := by decide +kernel
theorem lr_3 : decode (mj_b 320) 1051 = .ok (.aload_n 2, 1) := by decide +kernel
theorem lr_5 : decode (mj_b 320) 1055 = .ok (.pop, 1) := by decide +kernel

theorem lp_xr : laP 1056 [] 2217 laLv [] = true := by decide +kernel
end
section SIDES
variable {al : List Nat} {ws w w2 : va_W} {L : Nat} {i : Int} {ρ : List Int}
theorem la_i2l {pc : Nat} (d : decode (mj_b 320) pc = .ok (.i2l, 1)) {e : ae} {st : List av} (hq : hG E al 86 320 (pc + 1) laLv (.inr (4, 0) :: st) ρ w Q) : hG E al 86 320 pc laLv (.inl e :: st) ρ w Q := by
  intro LV ST h1 h2
  obtain ⟨v, u, rfl, ⟨n, rfl, -⟩, h3⟩ := h2
  exact MJ.nx d ⟨rfl, n, u, rfl, rfl⟩ (hq LV _ h1 ⟨_, u, rfl, ⟨_, rfl⟩, h3⟩)
theorem la_b32 {pc : Nat} (d : decode (mj_b 320) pc = .ok (.bipush 32, 2)) {st : List av} (hq : hG E al 86 320 (pc + 2) laLv (.inl (ae_k 32) :: st) ρ w Q) : hG E al 86 320 pc laLv st ρ w Q := by
  intro LV ST h1 h2
  refine MJ.nx d ⟨rfl, rfl⟩ (hq LV _ h1 ⟨_, ST, rfl, ⟨_, rfl, ?_⟩, h2⟩)
  rw [show (Int8.ofInt 32).toInt32.toInt = 32 by decide]
  exact aV.k 32
theorem la_shl {pc : Nat} (d : decode (mj_b 320) pc = .ok (.lshl, 1)) {e : ae} {k : Nat} {st : List av} (hq : hG E al 86 320 (pc + 1) laLv (.inr (4, 0) :: st) ρ w Q) : hG E al 86 320 pc laLv (.inl e :: .inr (4, k) :: st) ρ w Q := by
  intro LV ST h1 h2
  obtain ⟨v, u, rfl, ⟨n, rfl, -⟩, v2, u2, rfl, ⟨m, rfl⟩, h3⟩ := h2
  exact MJ.nx d ⟨rfl, m, n, u2, rfl, rfl⟩ (hq LV _ h1 ⟨_, u2, rfl, ⟨_, rfl⟩, h3⟩)
theorem la_ldl {pc ix : Nat} (d : decode (mj_b 320) pc = .ok (.ldc2_w ix, 3)) (hk : (mj_fkl (mj_cn 320) ix).any (fun q => q.2.2.1 == 1) = true) {st : List av} (hq : hG E al 86 320 (pc + 3) laLv (.inr (4, 0) :: st) ρ w Q) : hG E al 86 320 pc laLv st ρ w Q := by
  intro LV ST h1 h2
  cases hm : mj_fkl (mj_cn 320) ix with
  | none => rw [hm] at hk; cases hk
  | some q =>
    rw [hm] at hk
    have hk : q.2.2.1 = 1 := by simpa using hk
    have m := mj_find hm
    obtain ⟨a, b, kd, v, pl⟩ := q
    have hk : kd = 1 := hk
    subst hk
    exact MJ.nx d ⟨rfl, v, pl, m, rfl⟩ (hq LV _ h1 ⟨_, ST, rfl, ⟨_, rfl⟩, h2⟩)
theorem la_land {pc : Nat} (d : decode (mj_b 320) pc = .ok (.land, 1)) {k k2 : Nat} {st : List av} (hq : hG E al 86 320 (pc + 1) laLv (.inr (4, 0) :: st) ρ w Q) : hG E al 86 320 pc laLv (.inr (4, k) :: .inr (4, k2) :: st) ρ w Q := by
  intro LV ST h1 h2
  obtain ⟨v, u, rfl, ⟨n, rfl⟩, v2, u2, rfl, ⟨m, rfl⟩, h3⟩ := h2
  exact MJ.nx d ⟨rfl, m, n, u2, rfl, rfl⟩ (hq LV _ h1 ⟨_, u2, rfl, ⟨_, rfl⟩, h3⟩)
theorem la_lor {pc : Nat} (d : decode (mj_b 320) pc = .ok (.lor, 1)) {k k2 : Nat} {st : List av} (hq : hG E al 86 320 (pc + 1) laLv (.inr (4, 0) :: st) ρ w Q) : hG E al 86 320 pc laLv (.inr (4, k) :: .inr (4, k2) :: st) ρ w Q := by
  intro LV ST h1 h2
  obtain ⟨v, u, rfl, ⟨n, rfl⟩, v2, u2, rfl, ⟨m, rfl⟩, h3⟩ := h2
  exact MJ.nx d ⟨rfl, m, n, u2, rfl, rfl⟩ (hq LV _ h1 ⟨_, u2, rfl, ⟨_, rfl⟩, h3⟩)
/-- the eight bytes and how many of them -/
theorem la_eight {pc : Nat} (hc : lf_lg pc = true) (hL : L ≤ 3584) (hE : (E.2.2.1 2).2.1 = L) (hi : 0 ≤ i ∧ i + 7 ≤ L) {st : List av} (hq : hG E al 86 320 (pc + 25) laLv (.inl (ae_k (laX E (i + 3)).toInt) :: .inr (4, 0) :: st) [(L : Int), i] w Q) : hG E al 86 320 pc laLv st [(L : Int), i] w Q := by
  unfold lf_lg at hc
  simp only [Bool.and_eq_true, decide_eq_true_eq] at hc
  obtain ⟨⟨⟨⟨⟨⟨⟨⟨⟨c1, c2⟩, c3⟩, c4⟩, c5⟩, c6⟩, c7⟩, c8⟩, c9⟩, c10⟩ := hc
  exact la_arg c1 (by decide) hL hE hi (la_i2l c2 (la_b32 c3 (la_shl c4 (la_arg c5 (by decide) hL hE hi (la_i2l c6 (la_ldl c7 lf_kl (la_land c8 (la_lor c9 (la_arg c10 (by decide) hL hE hi hq)))))))))
theorem re_8 {a : Int} {AS : List Value} {self : Nat} (ha : gL E al [(L : Int), i] [.inr (0, self), .inr (4, 0), .inl (ae_k a)] AS) : gL E al [] [.inr (0, self), .inr (4, 0), .inl (ae_k a)] AS := by
  obtain ⟨v, u, rfl, g1, v2, u2, rfl, g2, g3⟩ := ha
  exact ⟨v, _, rfl, g1, v2, u2, rfl, g2, gL_re (es := [ae_k a]) (es2 := [ae_k a]) (by simp [ae_ev_k]) (by rfl) g3⟩
set_option maxRecDepth 100000 in
theorem la_feedH (hf : E.2.2.2.1.category = 1) (hT : ∀ σ : List Int, aTb E σ aTabs) (hL : L ≤ 3584) (hE : (E.2.2.1 2).2.1 = L) (H1 : hOkL E al laG1 (fun _ => True) [(L : Int), i] 2) (h : laI E al L i w) (hj : jJ w) (hz : jS w 75 1 = jS w 99 19) (h7 : i + 7 ≤ L)
    (hq : ∀ w2, laI E al L i w2 → jZ w2 → hG E al 86 320 2217 laLv [] [(L : Int), i] w2 Q) : hG E al 86 320 983 laLv [] [(L : Int), i] w Q := by
  have lg := lf_k
  rw [Bool.and_eq_true] at lg
  have hx : aI0 ≤ (laX E (i + 3)).toInt ∧ (laX E (i + 3)).toInt ≤ aI1 := ⟨i32_lo _, i32_hi _⟩
  have bs : 0 ≤ jS w 75 1 ∧ jS w 75 1 ≤ 250 := (jLay_ok h.2.1 (c := 75) (i := 1) (b := (0, 250)) (by decide +kernel)).2
  have bk : 0 ≤ jS w 99 59 ∧ jS w 99 59 ≤ 1 := (jLay_ok h.2.1 (c := 99) (i := 59) (b := (0, 1)) (by decide +kernel)).2
  refine la_al1 lf_1 (la_eight lg.1 hL hE ⟨h.1.1, h7⟩ ?_)
  refine law_callV (d := 85) (y2 := 81) (as := [.inr (0, 0), .inr (4, 0), .inl (ae_k (laX E (i + 3)).toInt)]) (rest := []) mj_li_law H1 (by rfl) (h.hW hL) (fun AS ha => fd_cmj hf hT h.2.1 h.2.2 hj.1 hx (s := jS w 75 1) rfl bs (re_8 ha)) (fun z w1 hR => ?_)
  obtain ⟨g0, g1, g2, g3, g4, g5⟩ := hR
  have h1 : laI E al L i w1 := ⟨h.1, g1, g2⟩
  refine la_al2 lf_2 (la_eight lg.2 hL hE ⟨h.1.1, h7⟩ ?_)
  refine law_callV (d := 85) (y2 := 231) (as := [.inr (0, 99), .inr (4, 0), .inl (ae_k (laX E (i + 3)).toInt)]) (rest := [.inl (ae_k z.toInt)]) mj_li_law H1 (by rfl) (h1.hW hL) (fun AS ha => fd_rmj hf hT g1 g2 g3 hx (s := jS w 75 1) (k := jS w 99 59) ((jS.at (g4.2 99 (by decide))).trans hz.symm) (jS.at (g4.2 99 (by decide))) bs bk (re_8 ha)) (fun z2 w2 hR => ?_)
  obtain ⟨m0, m1, m2, m3, m4, m5, m6⟩ := hR
  have h2 : laI E al L i w2 := ⟨h.1, m1, m2⟩
  have ez : z = z2 := i32_inj (g0.trans m0.symm)
  subst ez
  have done : jZ w2 := by
    refine ⟨⟨m3, ?_, fun q hq => (by have hq : q ∈ ([] : List jQ) := hq; cases hq), fun _ q hq => (by have hq : q ∈ ([] : List jQ) := hq; cases hq)⟩, ?_⟩
    · rw [m6, jS.at (m4.2 0 (by decide)), jS.at (g4.2 0 (by decide))]
      exact hj.2.1
    · rw [jS.at (m4.2 75 (by decide)), g5, m5]
  exact la_eq lf_3 (by show mj_go 1041 1176 2217; unfold mj_go; decide) (hq w2 h2 done)
set_option maxRecDepth 100000 in
theorem la_readH (hf : E.2.2.2.1.category = 1) (hT : ∀ σ : List Int, aTb E σ aTabs) (hL : L ≤ 3584) (H1 : hOkL E al laG1 (fun _ => True) [(L : Int), i] 2) (h : laI E al L i w) (hj : jJ w)
    (hq : ∀ w2, laI E al L i w2 → jZ w2 → hG E al 86 320 2217 laLv [] [(L : Int), i] w2 Q) : hG E al 86 320 1046 laLv [] [(L : Int), i] w Q := by
  have re : ∀ {AS : List Value} {self : Nat}, gL E al [(L : Int), i] [.inr (0, self)] AS → gL E al [] [.inr (0, self)] AS := fun ha => ha
  refine la_al1 lr_0 ?_
  refine law_callV (d := 85) (y2 := 83) (as := [.inr (0, 0)]) (rest := []) mj_li_law H1 (by rfl) (h.hW hL) (fun AS ha => cr_mj hf hT h.2.1 h.2.2 hj (re ha)) (fun z w1 hR => ?_)
  obtain ⟨g1, g2, g3, g4, g5⟩ := hR
  have h1 : laI E al L i w1 := ⟨h.1, g1, g2⟩
  refine la_pop lr_2 (la_al2 lr_3 ?_)
  refine law_callV (d := 85) (y2 := 232) (as := [.inr (0, 99)]) (rest := []) mj_li_law H1 (by rfl) (h1.hW hL) (fun AS ha => rr_mj hf hT g1 g2 g3 (re ha)) (fun z2 w2 hR => ?_)
  obtain ⟨m1, m2, m3, m4, m5⟩ := hR
  have h2 : laI E al L i w2 := ⟨h.1, m1, m2⟩
  have done : jZ w2 := ⟨m3, by rw [jS.at (m4.2 75 (by decide)), g5, m5]⟩
  exact la_pop lr_5 (la_glue H1 hL lp_xr h2 (hq w2 h2 done))
end SIDES
end LAW
