/-! A VERSION, the component: what is written -/
section
set_option maxRecDepth 100000
theorem kv_0 : lp_chk (aG00 []) 34 97 (0, [(0, 7), aF, aF], [], [((22, ae_k 3), ae_s 0), ((1, ae_k 0), ae_s 1), ((77, ae_k 3), ae_s 2)], [(0, .inr (0, 1)), (1, .inr (0, 75))], []) 45 [(0, .inr (0, 1)), (1, .inr (0, 75)), (2, .inl (ae_s 0)), (3, .inl (([(0, 64)], 0))), (4, .inl (ae_k 0))] [] [(23, some (([(0, 2)], 1), ae_s 2)), (23, some (([(0, 2)], 0), ae_s 1)), (22, some (ae_k 3, ([(0, 1)], 1))), (23, some (([(0, 2)], 1), ae_k 0)), (23, some (([(0, 2)], 0), ae_k 0))] = true := by decide +kernel
theorem kv_1 : lp_chk (aG00 []) 34 97 (45, [(0, 7), (0, 8), (0, 9), aF, aF], [([(1, 1), (2, (-1))], 1)], [((77, ae_k 3), ae_s 2), ((78, ([(1, 4)], 0)), ae_s 3), ((78, ([(1, 4)], 1)), ae_s 4)], [(0, .inr (0, 1)), (1, .inr (0, 75)), (2, .inl (ae_s 0)), (3, .inl (([(0, 64)], 0))), (4, .inl (ae_s 1))], []) 106 [(0, .inr (0, 1)), (1, .inr (0, 75)), (2, .inl (ae_s 0)), (3, .inl (([(0, 64)], 0))), (4, .inl (ae_s 1)), (5, .inl (([(0, 9), (1, 1)], 0)))] [] [(25, some (([(0, 36), (1, 4)], 1), ae_s 4)), (25, some (([(0, 36), (1, 4)], 0), ae_s 3))] = true := by decide +kernel
theorem kv_2 : hp_chk gV0 1000 34 97 (106, [(0, 7), (0, 8), aF], [], [((78, ([(1, 4)], 2)), ae_s 2)], [(0, .inr (0, 1)), (1, .inr (0, 75)), (2, .inl (ae_s 0)), (3, .inl (([(0, 64)], 0))), (4, .inl (ae_s 1)), (5, .inl (([(0, 9), (1, 1)], 0)))], []) [] [(124, [(0, 7), (0, 8), aF], [], [(0, .inr (0, 1)), (1, .inr (0, 75)), (2, .inl (ae_s 0)), (3, .inl (([(0, 64)], 0))), (4, .inl (ae_s 1)), (5, .inl (([(0, 9), (1, 1)], 0)))], [.inl (ae_s 2), .inl (([(0, 64)], 0)), .inl (ae_k 2), .inl (([(0, 9), (1, 1)], 0)), .inr (0, 24)], [], [], mMU)] = true := by decide +kernel
theorem kv_3 : lp_chk (aG00 []) 34 97 (125, [(0, 7), (0, 8), aF], [], [], [(0, .inr (0, 1)), (1, .inr (0, 75)), (2, .inl (ae_s 0)), (3, .inl (([(0, 64)], 0))), (4, .inl (ae_s 1)), (5, .inl (([(0, 9), (1, 1)], 0)))], [.inl (ae_s 2), .inl (ae_k 2), .inl (([(0, 9), (1, 1)], 0)), .inr (0, 24)]) 128 [(0, .inr (0, 1)), (1, .inr (0, 75)), (2, .inl (ae_s 0)), (3, .inl (([(0, 64)], 0))), (4, .inl (ae_s 1)), (5, .inl (([(0, 9), (1, 1)], 0)))] [] [(25, some (([(0, 36), (1, 4)], 2), ae_s 2))] = true := by decide +kernel
theorem kv_4 : hp_chk gV0 1000 34 97 (128, [(0, 7), (0, 8), aF], [], [((78, ([(1, 4)], 3)), ae_s 2)], [(0, .inr (0, 1)), (1, .inr (0, 75)), (2, .inl (ae_s 0)), (3, .inl (([(0, 64)], 0))), (4, .inl (ae_s 1)), (5, .inl (([(0, 9), (1, 1)], 0)))], []) [] [(146, [(0, 7), (0, 8), aF], [], [(0, .inr (0, 1)), (1, .inr (0, 75)), (2, .inl (ae_s 0)), (3, .inl (([(0, 64)], 0))), (4, .inl (ae_s 1)), (5, .inl (([(0, 9), (1, 1)], 0)))], [.inl (ae_s 2), .inl (([(0, 64)], 0)), .inl (ae_k 3), .inl (([(0, 9), (1, 1)], 0)), .inr (0, 24)], [], [], mMU)] = true := by decide +kernel
theorem kv_5 : lp_chk (aG00 []) 34 97 (147, [(0, 7), (0, 8), aF], [], [], [(0, .inr (0, 1)), (1, .inr (0, 75)), (2, .inl (ae_s 0)), (3, .inl (([(0, 64)], 0))), (4, .inl (ae_s 1)), (5, .inl (([(0, 9), (1, 1)], 0)))], [.inl (ae_s 2), .inl (ae_k 3), .inl (([(0, 9), (1, 1)], 0)), .inr (0, 24)]) 150 [(0, .inr (0, 1)), (1, .inr (0, 75)), (2, .inl (ae_s 0)), (3, .inl (([(0, 64)], 0))), (4, .inl (ae_s 1)), (5, .inl (([(0, 9), (1, 1)], 0)))] [] [(25, some (([(0, 36), (1, 4)], 3), ae_s 2))] = true := by decide +kernel
theorem kv_6 : hp_chk gV0 1000 34 97 (150, [(0, 7), (0, 8)], [], [], [(0, .inr (0, 1)), (1, .inr (0, 75)), (2, .inl (ae_s 0)), (3, .inl (([(0, 64)], 0))), (4, .inl (ae_s 1)), (5, .inl (([(0, 9), (1, 1)], 0)))], []) [] [(45, [(0, 7), (0, 8)], [], [(0, .inr (0, 1)), (1, .inr (0, 75)), (2, .inl (ae_s 0)), (3, .inl (([(0, 64)], 0))), (4, .inl (([(1, 1)], 1)))], [], [], [], mMU)] = true := by decide +kernel
theorem kv_7 : hp_chk gV0 1000 34 97 (45, [(0, 7), (0, 9)], [], [((77, ae_k 3), ae_s 1)], [(0, .inr (0, 1)), (1, .inr (0, 75)), (2, .inl (ae_s 0)), (3, .inl (([(0, 64)], 0))), (4, .inl (ae_s 1))], []) [] [(159, [(0, 7), (0, 9)], [], [(0, .inr (0, 1)), (1, .inr (0, 75)), (2, .inl (ae_s 0)), (3, .inl (([(0, 64)], 0))), (4, .inl (ae_k 0))], [], [], [], mMU)] = true := by decide +kernel
theorem kv_8 : hp_chk gV0 1000 34 97 (159, [(0, 7), (0, 2147483646), aF], [([(1, 1), (2, (-1))], 1)], [((79, ae_k 3), ae_s 2)], [(0, .inr (0, 1)), (1, .inr (0, 75)), (2, .inl (ae_s 0)), (3, .inl (([(0, 64)], 0))), (4, .inl (ae_s 1))], []) [] [(178, [(0, 7), (0, 2147483646), aF], [], [(0, .inr (0, 1)), (1, .inr (0, 75)), (2, .inl (ae_s 0)), (3, .inl (([(0, 64)], 0))), (4, .inl (ae_s 1))], [.inl (ae_s 1), .inl (([(0, 64)], 0)), .inr (0, 26)], [], [], mMU)] = true := by decide +kernel
theorem kv_9 : hp_chk gV0 1000 34 97 (179, [(0, 7), (0, 63), aF, aF], [], [((80, ae_s 1), ae_s 2)], [(0, .inr (0, 1)), (1, .inr (0, 75)), (2, .inl (ae_s 0)), (3, .inl (([(0, 64)], 0))), (4, .inl (ae_s 1))], [.inl (ae_s 3), .inr (0, 26)]) [] [(190, [(0, 7), (0, 63), aF, aF], [], [(0, .inr (0, 1)), (1, .inr (0, 75)), (2, .inl (ae_s 0)), (3, .inl (([(0, 64)], 0))), (4, .inl (ae_s 1))], [.inl (ae_s 2), .inl (ae_k 0), .inl (ae_s 3), .inr (0, 26)], [], [], mMU)] = true := by decide +kernel
theorem kv_A : hp_chk gV0 1000 34 97 (179, [(0, 7), (64, 2147483646), aF], [], [], [(0, .inr (0, 1)), (1, .inr (0, 75)), (2, .inl (ae_s 0)), (3, .inl (([(0, 64)], 0))), (4, .inl (ae_s 1))], [.inl (ae_s 2), .inr (0, 26)]) [] [(190, [(0, 7), (64, 2147483646), aF], [], [(0, .inr (0, 1)), (1, .inr (0, 75)), (2, .inl (ae_s 0)), (3, .inl (([(0, 64)], 0))), (4, .inl (ae_s 1))], [.inl (ae_k 0), .inl (ae_k 0), .inl (ae_s 2), .inr (0, 26)], [], [], mMU)] = true := by decide +kernel
theorem kv_B : lp_chk (aG00 []) 34 97 (190, [(0, 7), (0, 2147483646), aF, (0, 511)], [], [], [(0, .inr (0, 1)), (1, .inr (0, 75)), (2, .inl (ae_s 0)), (3, .inl (([(0, 64)], 0))), (4, .inl (ae_s 1))], [.inl (ae_s 2), .inl (ae_k 0), .inl (ae_s 3), .inr (0, 26)]) 193 [(0, .inr (0, 1)), (1, .inr (0, 75)), (2, .inl (ae_s 0)), (3, .inl (([(0, 64)], 0))), (4, .inl (ae_s 1))] [] [(27, some (ae_s 3, ae_s 2))] = true := by decide +kernel
theorem kv_C : hp_chk gV0 1000 34 97 (190, [(0, 7), (0, 2147483646), aF, (aI0, (-1))], [], [], [(0, .inr (0, 1)), (1, .inr (0, 75)), (2, .inl (ae_s 0)), (3, .inl (([(0, 64)], 0))), (4, .inl (ae_s 1))], [.inl (ae_s 2), .inl (ae_k 0), .inl (ae_s 3), .inr (0, 26)]) [] [(193, [(0, 7), (0, 2147483646), aF, (aI0, (-1))], [], [(0, .inr (0, 1)), (1, .inr (0, 75)), (2, .inl (ae_s 0)), (3, .inl (([(0, 64)], 0))), (4, .inl (ae_s 1))], [], [], [], mMU)] = true := by decide +kernel
theorem kv_D : hp_chk gV0 1000 34 97 (190, [(0, 7), (0, 2147483646), aF, (512, aI1)], [], [], [(0, .inr (0, 1)), (1, .inr (0, 75)), (2, .inl (ae_s 0)), (3, .inl (([(0, 64)], 0))), (4, .inl (ae_s 1))], [.inl (ae_s 2), .inl (ae_k 0), .inl (ae_s 3), .inr (0, 26)]) [] [(193, [(0, 7), (0, 2147483646), aF, (512, aI1)], [], [(0, .inr (0, 1)), (1, .inr (0, 75)), (2, .inl (ae_s 0)), (3, .inl (([(0, 64)], 0))), (4, .inl (ae_s 1))], [], [], [], mMU)] = true := by decide +kernel
theorem kv_E : hp_chk gV0 1000 34 97 (193, [(0, 7), (0, 2147483646)], [], [], [(0, .inr (0, 1)), (1, .inr (0, 75)), (2, .inl (ae_s 0)), (3, .inl (([(0, 64)], 0))), (4, .inl (ae_s 1))], []) [] [(159, [(0, 7), (0, 2147483646)], [], [(0, .inr (0, 1)), (1, .inr (0, 75)), (2, .inl (ae_s 0)), (3, .inl (([(0, 64)], 0))), (4, .inl (([(1, 1)], 1)))], [], [], [], mMU)] = true := by decide +kernel
theorem kv_F : hp_chk gV0 1000 34 97 (159, [(0, 7), (0, aI1), aF], [([(1, (-1)), (2, 1)], 0)], [((79, ae_k 3), ae_s 2)], [(0, .inr (0, 1)), (1, .inr (0, 75)), (2, .inl (ae_s 0)), (3, .inl (([(0, 64)], 0))), (4, .inl (ae_s 1))], []) [] [(200, [(0, 7), (0, aI1), aF], [], [], [.inl (ae_s 0)], [], [], mMU)] = true := by decide +kernel
theorem kv_d1 : decode (mj_b 97) 124 = .ok (.iadd, 1) := by decide +kernel
theorem kv_d2 : decode (mj_b 97) 146 = .ok (.iadd, 1) := by decide +kernel
theorem kv_d3 : decode (mj_b 97) 178 = .ok (.iadd, 1) := by decide +kernel
theorem kc_j10 : (jLay 1 0).isSome = true := by decide +kernel
theorem kc_j78 : ∀ k, k < 36 → (jLay 78 k).isSome = true := by decide +kernel
theorem kc_j80 : ∀ k, k < 64 → (jLay 80 k).isSome = true := by decide +kernel
end
section VS
variable {E : mj_E} {Q : Option Value → va_W → Prop} {al : List Nat} {w w0 w1 w2 : va_W}
/-- a sum, whatever it is -/
theorem hg_add {d pc : Nat} {lv : List (Nat × av)} {st : List av} {x y : Int} (hd : decode (mj_b 97) pc = .ok (.iadd, 1)) (h : ∀ z : Int32, hG E al d 97 (pc + 1) lv (.inl (ae_k z.toInt) :: st) [] w Q) : hG E al d 97 pc lv (.inl (ae_k x) :: .inl (ae_k y) :: st) [] w Q := by
  intro LV ST h1 h2
  obtain ⟨v1, u1, rfl, ⟨n1, rfl, e1⟩, v2, u2, rfl, ⟨n2, rfl, e2⟩, h3⟩ := h2
  exact MJ.nx hd ⟨rfl, _, _, _, rfl, rfl⟩ (h _ LV _ h1 ⟨_, u2, rfl, ⟨_, rfl, aV.k _⟩, h3⟩)
/-- a version, so far i of its lines -/
def aw (E : mj_E) (al : List Nat) (w0 w : va_W) (v c i : Nat) : Prop := (aWd E al aLay w ∧ aRs aRules w ∧ jJ0 w ∧ hD [22, 23, 25, 27] w0 w) ∧ jS w 22 3 = (v : Int) + 1 ∧ (∀ k, jS w 23 k = if k = 2 * v + 1 then (c : Int) else if k = 2 * v then jS w0 1 0 else jS w0 23 k) ∧ (∀ j, j < i → jS w 25 (36 * v + 4 * j) = jS w0 78 (4 * j) ∧ jS w 25 (36 * v + 4 * j + 1) = jS w0 78 (4 * j + 1)) ∧ ∀ k, (k < 36 * v ∨ 36 * v + 36 ≤ k) → jS w 25 k = jS w0 25 k
theorem aw.put {v c i : Nat} (h : aw E al w0 w v c i) (b1 : aWd E al aLay w2) (b2 : aRs aRules w2) (b3 : jJ0 w2) (b4 : hD [25] w w2) (hi : i < 9) (f : ∀ k, (k < 36 * v + 4 * i ∨ 36 * v + 4 * i + 4 ≤ k) → jS w2 25 k = jS w 25 k) : aw E al w0 w2 v c i := by
  obtain ⟨⟨h1, h2, h3, h4⟩, h5, h6, h7, h8⟩ := h
  refine ⟨⟨b1, b2, b3, h4.trans (b4.more (by decide))⟩, (jS.at (b4.2 22 (by decide))).trans h5, fun k => (jS.at (b4.2 23 (by decide))).trans (h6 k), fun j hj => ?_, fun k hk => ?_⟩
  · rw [f _ (by omega), f _ (by omega)]
    exact h7 j hj
  · rw [f k (by omega)]
    exact h8 k hk
theorem aw.log {v c i : Nat} (h : aw E al w0 w v c i) (b1 : aWd E al aLay w2) (b2 : aRs aRules w2) (b3 : jJ0 w2) (b4 : hD [27] w w2) : aw E al w0 w2 v c i := by
  obtain ⟨⟨h1, h2, h3, h4⟩, h5, h6, h7, h8⟩ := h
  have e : ∀ k, jS w2 25 k = jS w 25 k := fun k => jS.at (b4.2 25 (by decide))
  exact ⟨⟨b1, b2, b3, h4.trans (b4.more (by decide))⟩, (jS.at (b4.2 22 (by decide))).trans h5, fun k => (jS.at (b4.2 23 (by decide))).trans (h6 k), fun j hj => ⟨(e _).trans (h7 j hj).1, (e _).trans (h7 j hj).2⟩, fun k hk => (e k).trans (h8 k hk)⟩
/-- a step is set, or lies beyond -/
theorem aw_set (hf : E.2.2.2.1.category = 1) (hT : ∀ σ : List Int, aTb E σ aTabs) {v c j : Nat} (hv : v ≤ 7) (hj : (j : Int) + 1 ≤ aI1) {x z : Int} (bx : aI0 ≤ x ∧ x ≤ aI1) (bz : aI0 ≤ z ∧ z ≤ aI1) (h : aw E al w0 w v c c) (hk : ∀ w2, aw E al w0 w2 v c c → hG E al 34 97 193 [(0, .inr (0, 1)), (1, .inr (0, 75)), (2, .inl (ae_k (v : Int))), (3, .inl (ae_k (64 * (v : Int)))), (4, .inl (ae_k (j : Int)))] [] [] w2 Q) : hG E al 34 97 190 [(0, .inr (0, 1)), (1, .inr (0, 75)), (2, .inl (ae_k (v : Int))), (3, .inl (ae_k (64 * (v : Int)))), (4, .inl (ae_k (j : Int)))] [.inl (ae_k x), .inl (ae_k 0), .inl (ae_k z), .inr (0, 26)] [] w Q := by
  have e1 : aI1 = 2147483647 := rfl
  have e0 : aI0 = -2147483648 := rfl
  have h0 := h
  obtain ⟨⟨a5, a6, a7, d⟩, -⟩ := h
  by_cases z0 : z < 0
  · skip
    refine ky_go hf hT a5 (by decide) (ρ := [(v : Int), (j : Int), x, z]) kv_C ⟨⟨by omega, by omega⟩, ⟨by omega, by omega⟩, bx, ⟨by omega, by omega⟩, trivial⟩ aFs.nil aHh.nil (by rfl) (by rfl) (lEr (lEr (lEi (ev_s rfl) (lEi (by simp only [ae_ev, ae_el, ae_s, ae_k, List.getD_cons_zero, List.getD_cons_succ]; omega) (lEi (ev_s rfl) lE0))))) (sEi (ev_s rfl) (sEi ae_ev_k (sEi (ev_s rfl) (sEr sE0)))) (lvk2 := [(0, .inr (0, 1)), (1, .inr (0, 75)), (2, .inl (ae_k ((v : Int)))), (3, .inl (ae_k ((64 * (v : Int))))), (4, .inl (ae_k ((j : Int))))]) (lEr (lEr (lEi (ev_s rfl) (lEi (by simp only [ae_ev, ae_el, ae_s, ae_k, List.getD_cons_zero, List.getD_cons_succ]; omega) (lEi (ev_s rfl) lE0))))) (stk2 := []) sE0 ?_
    exact hk w h0
  by_cases z1 : z ≤ 511
  · skip
    refine ky_lg hf hT a5 a6 a7 (by decide) (ρ := [(v : Int), (j : Int), x, z]) kv_B ⟨⟨by omega, by omega⟩, ⟨by omega, by omega⟩, bx, ⟨by omega, by omega⟩, trivial⟩ aFs.nil aHh.nil (by rfl) (by rfl) (lEr (lEr (lEi (ev_s rfl) (lEi (by simp only [ae_ev, ae_el, ae_s, ae_k, List.getD_cons_zero, List.getD_cons_succ]; omega) (lEi (ev_s rfl) lE0))))) (sEi (ev_s rfl) (sEi ae_ev_k (sEi (ev_s rfl) (sEr sE0)))) (lvk2 := [(0, .inr (0, 1)), (1, .inr (0, 75)), (2, .inl (ae_k ((v : Int)))), (3, .inl (ae_k ((64 * (v : Int))))), (4, .inl (ae_k ((j : Int))))]) (lEr (lEr (lEi (ev_s rfl) (lEi (by simp only [ae_ev, ae_el, ae_s, ae_k, List.getD_cons_zero, List.getD_cons_succ]; omega) (lEi (ev_s rfl) lE0))))) (stk2 := []) sE0 (fun w2 b1 b2 b3 b4 b5 => ?_)
    exact hk w2 (h0.log b1 b2 b3 b4)
  · skip
    refine ky_go hf hT a5 (by decide) (ρ := [(v : Int), (j : Int), x, z]) kv_D ⟨⟨by omega, by omega⟩, ⟨by omega, by omega⟩, bx, ⟨by omega, by omega⟩, trivial⟩ aFs.nil aHh.nil (by rfl) (by rfl) (lEr (lEr (lEi (ev_s rfl) (lEi (by simp only [ae_ev, ae_el, ae_s, ae_k, List.getD_cons_zero, List.getD_cons_succ]; omega) (lEi (ev_s rfl) lE0))))) (sEi (ev_s rfl) (sEi ae_ev_k (sEi (ev_s rfl) (sEr sE0)))) (lvk2 := [(0, .inr (0, 1)), (1, .inr (0, 75)), (2, .inl (ae_k ((v : Int)))), (3, .inl (ae_k ((64 * (v : Int))))), (4, .inl (ae_k ((j : Int))))]) (lEr (lEr (lEi (ev_s rfl) (lEi (by simp only [ae_ev, ae_el, ae_s, ae_k, List.getD_cons_zero, List.getD_cons_succ]; omega) (lEi (ev_s rfl) lE0))))) (stk2 := []) sE0 ?_
    exact hk w h0
/-- the steps -/
theorem aw_st (hf : E.2.2.2.1.category = 1) (hT : ∀ σ : List Int, aTb E σ aTabs) {v c : Nat} (hv : v ≤ 7) (hQ : ∀ w, aw E al w0 w v c c → hG E al 34 97 200 [] [.inl (ae_k (v : Int))] [] w Q) : ∀ (m j : Nat) (w : va_W), (j : Int) ≤ aI1 → (jS w0 79 3 - (j : Int)).toNat ≤ m → aw E al w0 w v c c → hG E al 34 97 159 [(0, .inr (0, 1)), (1, .inr (0, 75)), (2, .inl (ae_k (v : Int))), (3, .inl (ae_k (64 * (v : Int)))), (4, .inl (ae_k (j : Int)))] [] [] w Q := by
  have e1 : aI1 = 2147483647 := rfl
  have e0 : aI0 = -2147483648 := rfl
  intro m
  induction m with
  | zero =>
    intro j w hj hm h
    have h0 := h
    obtain ⟨⟨a5, a6, a7, d⟩, -⟩ := h
    have e9 : jS w 79 3 = jS w0 79 3 := jS.at (d.2 79 (by decide))
    have s9 := ksl a5 kc_j79 e9
    have b9 := s9.i32
    refine ky_go hf hT a5 (by decide) (ρ := [(v : Int), (j : Int), (jS w0 79 3)]) kv_F ⟨⟨by omega, by omega⟩, ⟨by omega, by omega⟩, b9, trivial⟩ (aFs.cons rfl (by simp only [ae_ev, ae_el, ae_s, ae_k, List.getD_cons_zero, List.getD_cons_succ]; omega) aFs.nil) (aHh.cons (kn1 (i := 3) (by decide) rfl (ev_s rfl) s9) aHh.nil) (by rfl) (by rfl) (lEr (lEr (lEi (ev_s rfl) (lEi (by simp only [ae_ev, ae_el, ae_s, ae_k, List.getD_cons_zero, List.getD_cons_succ]; omega) (lEi (ev_s rfl) lE0))))) sE0 (lvk2 := []) lE0 (stk2 := [.inl (ae_k ((v : Int)))]) (sEi (ev_s rfl) sE0) ?_
    exact hQ w h0
  | succ m ih =>
    intro j w hj hm h
    have h0 := h
    obtain ⟨⟨a5, a6, a7, d⟩, -⟩ := h
    have e9 : jS w 79 3 = jS w0 79 3 := jS.at (d.2 79 (by decide))
    have s9 := ksl a5 kc_j79 e9
    have b9 := s9.i32
    by_cases hc : jS w0 79 3 ≤ (j : Int)
    · skip
      refine ky_go hf hT a5 (by decide) (ρ := [(v : Int), (j : Int), (jS w0 79 3)]) kv_F ⟨⟨by omega, by omega⟩, ⟨by omega, by omega⟩, b9, trivial⟩ (aFs.cons rfl (by simp only [ae_ev, ae_el, ae_s, ae_k, List.getD_cons_zero, List.getD_cons_succ]; omega) aFs.nil) (aHh.cons (kn1 (i := 3) (by decide) rfl (ev_s rfl) s9) aHh.nil) (by rfl) (by rfl) (lEr (lEr (lEi (ev_s rfl) (lEi (by simp only [ae_ev, ae_el, ae_s, ae_k, List.getD_cons_zero, List.getD_cons_succ]; omega) (lEi (ev_s rfl) lE0))))) sE0 (lvk2 := []) lE0 (stk2 := [.inl (ae_k ((v : Int)))]) (sEi (ev_s rfl) sE0) ?_
      exact hQ w h0
    · have hk : ∀ w2, aw E al w0 w2 v c c → hG E al 34 97 193 [(0, .inr (0, 1)), (1, .inr (0, 75)), (2, .inl (ae_k (v : Int))), (3, .inl (ae_k (64 * (v : Int)))), (4, .inl (ae_k (j : Int)))] [] [] w2 Q := fun w2 h2 => by
        have a5 := h2.1.1
        refine ky_go hf hT a5 (by decide) (ρ := [(v : Int), (j : Int)]) kv_E ⟨⟨by omega, by omega⟩, ⟨by omega, by omega⟩, trivial⟩ aFs.nil aHh.nil (by rfl) (by rfl) (lEr (lEr (lEi (ev_s rfl) (lEi (by simp only [ae_ev, ae_el, ae_s, ae_k, List.getD_cons_zero, List.getD_cons_succ]; omega) (lEi (ev_s rfl) lE0))))) sE0 (lvk2 := [(0, .inr (0, 1)), (1, .inr (0, 75)), (2, .inl (ae_k ((v : Int)))), (3, .inl (ae_k ((64 * (v : Int))))), (4, .inl (ae_k (((j + 1 : Nat) : Int))))]) (lEr (lEr (lEi (ev_s rfl) (lEi (by simp only [ae_ev, ae_el, ae_s, ae_k, List.getD_cons_zero, List.getD_cons_succ]; omega) (lEi (by simp only [ae_ev, ae_el, ae_s, ae_k, List.getD_cons_zero, List.getD_cons_succ]; omega) lE0))))) (stk2 := []) sE0 ?_
        exact ih (j + 1) w2 (by omega) (by omega) h2
      refine ky_go hf hT a5 (by decide) (ρ := [(v : Int), (j : Int), (jS w0 79 3)]) kv_8 ⟨⟨by omega, by omega⟩, ⟨by omega, by omega⟩, b9, trivial⟩ (aFs.cons rfl (by simp only [ae_ev, ae_el, ae_s, ae_k, List.getD_cons_zero, List.getD_cons_succ]; omega) aFs.nil) (aHh.cons (kn1 (i := 3) (by decide) rfl (ev_s rfl) s9) aHh.nil) (by rfl) (by rfl) (lEr (lEr (lEi (ev_s rfl) (lEi (by simp only [ae_ev, ae_el, ae_s, ae_k, List.getD_cons_zero, List.getD_cons_succ]; omega) (lEi (ev_s rfl) lE0))))) sE0 (lvk2 := [(0, .inr (0, 1)), (1, .inr (0, 75)), (2, .inl (ae_k ((v : Int)))), (3, .inl (ae_k ((64 * (v : Int))))), (4, .inl (ae_k ((j : Int))))]) (lEr (lEr (lEi (ev_s rfl) (lEi (by simp only [ae_ev, ae_el, ae_s, ae_k, List.getD_cons_zero, List.getD_cons_succ]; omega) (lEi (ev_s rfl) lE0))))) (stk2 := [.inl (ae_k ((j : Int))), .inl (ae_k ((64 * (v : Int)))), .inr (0, 26)]) (sEi (ev_s rfl) (sEi (by simp only [ae_ev, ae_el, ae_s, ae_k, List.getD_cons_zero, List.getD_cons_succ]; omega) (sEr sE0))) ?_
      refine hg_add kv_d3 (fun z => ?_)
      have bz : aI0 ≤ z.toInt ∧ z.toInt ≤ aI1 := ⟨i32_lo z, i32_hi z⟩
      by_cases j64 : j ≤ 63
      · have s80 := jLay_sl a5 (kc_j80 j (by omega))
        have b80 := s80.i32
        refine ky_go hf hT a5 (by decide) (ρ := [(v : Int), (j : Int), (jS w 80 j), z.toInt]) kv_9 ⟨⟨by omega, by omega⟩, ⟨by omega, by omega⟩, b80, bz, trivial⟩ aFs.nil (aHh.cons (kns (by decide) rfl rfl (i := j) (ev_s rfl) (ev_s rfl) s80) aHh.nil) (by rfl) (by rfl) (lEr (lEr (lEi (ev_s rfl) (lEi (by simp only [ae_ev, ae_el, ae_s, ae_k, List.getD_cons_zero, List.getD_cons_succ]; omega) (lEi (ev_s rfl) lE0))))) (sEi (ev_s rfl) (sEr sE0)) (lvk2 := [(0, .inr (0, 1)), (1, .inr (0, 75)), (2, .inl (ae_k ((v : Int)))), (3, .inl (ae_k ((64 * (v : Int))))), (4, .inl (ae_k ((j : Int))))]) (lEr (lEr (lEi (ev_s rfl) (lEi (by simp only [ae_ev, ae_el, ae_s, ae_k, List.getD_cons_zero, List.getD_cons_succ]; omega) (lEi (ev_s rfl) lE0))))) (stk2 := [.inl (ae_k ((jS w 80 j))), .inl (ae_k (0)), .inl (ae_k (z.toInt)), .inr (0, 26)]) (sEi (ev_s rfl) (sEi ae_ev_k (sEi (ev_s rfl) (sEr sE0)))) ?_
        exact aw_set hf hT hv (by omega) b80 bz h0 hk
      · skip
        refine ky_go hf hT a5 (by decide) (ρ := [(v : Int), (j : Int), z.toInt]) kv_A ⟨⟨by omega, by omega⟩, ⟨by omega, by omega⟩, bz, trivial⟩ aFs.nil aHh.nil (by rfl) (by rfl) (lEr (lEr (lEi (ev_s rfl) (lEi (by simp only [ae_ev, ae_el, ae_s, ae_k, List.getD_cons_zero, List.getD_cons_succ]; omega) (lEi (ev_s rfl) lE0))))) (sEi (ev_s rfl) (sEr sE0)) (lvk2 := [(0, .inr (0, 1)), (1, .inr (0, 75)), (2, .inl (ae_k ((v : Int)))), (3, .inl (ae_k ((64 * (v : Int))))), (4, .inl (ae_k ((j : Int))))]) (lEr (lEr (lEi (ev_s rfl) (lEi (by simp only [ae_ev, ae_el, ae_s, ae_k, List.getD_cons_zero, List.getD_cons_succ]; omega) (lEi (ev_s rfl) lE0))))) (stk2 := [.inl (ae_k (0)), .inl (ae_k (0)), .inl (ae_k (z.toInt)), .inr (0, 26)]) (sEi ae_ev_k (sEi ae_ev_k (sEi (ev_s rfl) (sEr sE0)))) ?_
        exact aw_set hf hT hv (by omega) ⟨by omega, by omega⟩ bz h0 hk
/-- the lines -/
theorem aw_ln (hf : E.2.2.2.1.category = 1) (hT : ∀ σ : List Int, aTb E σ aTabs) {v c : Nat} (hv : v ≤ 7) (hc : c ≤ 9) (h7 : jS w0 77 3 = (c : Int)) (hQ : ∀ w, aw E al w0 w v c c → hG E al 34 97 159 [(0, .inr (0, 1)), (1, .inr (0, 75)), (2, .inl (ae_k (v : Int))), (3, .inl (ae_k (64 * (v : Int)))), (4, .inl (ae_k ((0 : Nat) : Int)))] [] [] w Q) : ∀ (m i : Nat) (w : va_W), i + m = c → aw E al w0 w v c i → hG E al 34 97 45 [(0, .inr (0, 1)), (1, .inr (0, 75)), (2, .inl (ae_k (v : Int))), (3, .inl (ae_k (64 * (v : Int)))), (4, .inl (ae_k (i : Int)))] [] [] w Q := by
  intro m
  induction m with
  | zero =>
    intro i w hi h
    have e : i = c := by omega
    subst e
    have h0 := h
    obtain ⟨⟨a5, a6, a7, d⟩, -⟩ := h
    have s7 := ksl a5 kc_j77 ((jS.at (d.2 77 (by decide))).trans h7)
    refine ky_go hf hT a5 (by decide) (ρ := [(v : Int), (i : Int)]) kv_7 ⟨⟨by omega, by omega⟩, ⟨by omega, by omega⟩, trivial⟩ aFs.nil (aHh.cons (kn1 (i := 3) (by decide) rfl (ev_s rfl) s7) aHh.nil) (by rfl) (by rfl) (lEr (lEr (lEi (ev_s rfl) (lEi (by simp only [ae_ev, ae_el, ae_s, ae_k, List.getD_cons_zero, List.getD_cons_succ]; omega) (lEi (ev_s rfl) lE0))))) sE0 (lvk2 := [(0, .inr (0, 1)), (1, .inr (0, 75)), (2, .inl (ae_k ((v : Int)))), (3, .inl (ae_k ((64 * (v : Int))))), (4, .inl (ae_k (((0 : Nat) : Int))))]) (lEr (lEr (lEi (ev_s rfl) (lEi (by simp only [ae_ev, ae_el, ae_s, ae_k, List.getD_cons_zero, List.getD_cons_succ]; omega) (lEi ae_ev_k lE0))))) (stk2 := []) sE0 ?_
    exact hQ w h0
  | succ m ih =>
    intro i w hi h
    have h0 := h
    obtain ⟨⟨a5, a6, a7, d⟩, -⟩ := h
    have s7 := ksl a5 kc_j77 ((jS.at (d.2 77 (by decide))).trans h7)
    have e78 : ∀ k, jS w 78 k = jS w0 78 k := fun k => jS.at (d.2 78 (by decide))
    have s0 := ksl a5 (kc_j78 (4 * i) (by omega)) (e78 _)
    have s1 := ksl a5 (kc_j78 (4 * i + 1) (by omega)) (e78 _)
    have q0 := s0.i32
    have q1 := s1.i32
    refine ky_lg hf hT a5 a6 a7 (by decide) (ρ := [(v : Int), (i : Int), (c : Int), (jS w0 78 (4 * i)), (jS w0 78 (4 * i + 1))]) kv_1 ⟨⟨by omega, by omega⟩, ⟨by omega, by omega⟩, ⟨by omega, by omega⟩, q0, q1, trivial⟩ (aFs.cons rfl (by simp only [ae_ev, ae_el, ae_s, ae_k, List.getD_cons_zero, List.getD_cons_succ]; omega) aFs.nil) (aHh.cons (kn1 (i := 3) (by decide) rfl (ev_s rfl) s7) (aHh.cons (kns (by decide) rfl rfl (i := (4 * i)) (by simp only [ae_ev, ae_el, ae_s, ae_k, List.getD_cons_zero, List.getD_cons_succ]; omega) (ev_s rfl) s0) (aHh.cons (kns (by decide) rfl rfl (i := (4 * i + 1)) (by simp only [ae_ev, ae_el, ae_s, ae_k, List.getD_cons_zero, List.getD_cons_succ]; omega) (ev_s rfl) s1) aHh.nil))) (by rfl) (by rfl) (lEr (lEr (lEi (ev_s rfl) (lEi (by simp only [ae_ev, ae_el, ae_s, ae_k, List.getD_cons_zero, List.getD_cons_succ]; omega) (lEi (ev_s rfl) lE0))))) sE0 (lvk2 := [(0, .inr (0, 1)), (1, .inr (0, 75)), (2, .inl (ae_k ((v : Int)))), (3, .inl (ae_k ((64 * (v : Int))))), (4, .inl (ae_k ((i : Int)))), (5, .inl (ae_k ((9 * (v : Int) + (i : Int)))))]) (lEr (lEr (lEi (ev_s rfl) (lEi (by simp only [ae_ev, ae_el, ae_s, ae_k, List.getD_cons_zero, List.getD_cons_succ]; omega) (lEi (ev_s rfl) (lEi (by simp only [ae_ev, ae_el, ae_s, ae_k, List.getD_cons_zero, List.getD_cons_succ]; omega) lE0)))))) (stk2 := []) sE0 (fun w2 b1 b2 b3 b4 b5 => ?_)
    have f : ∀ k, jS w2 25 k = if k = 36 * v + 4 * i + 1 then jS w0 78 (4 * i + 1) else if k = 36 * v + 4 * i then jS w0 78 (4 * i) else jS w 25 k := fun k => by
      have x1 : (ae_ev [(v : Int), (i : Int), (c : Int), jS w0 78 (4 * i), jS w0 78 (4 * i + 1)] ([(0, 36), (1, 4)], 1)).toNat = 36 * v + 4 * i + 1 := by
        simp only [ae_ev, ae_el, List.getD_cons_zero, List.getD_cons_succ]
        omega
      have x0 : (ae_ev [(v : Int), (i : Int), (c : Int), jS w0 78 (4 * i), jS w0 78 (4 * i + 1)] ([(0, 36), (1, 4)], 0)).toNat = 36 * v + 4 * i := by
        simp only [ae_ev, ae_el, List.getD_cons_zero, List.getD_cons_succ]
        omega
      rw [b5 25 k]
      simp only [lg_ap, x0, x1]
      simp [ae_ev, ae_el, ae_s, ae_k]
    have hA := h0.put b1 b2 b3 (b4.more (by decide)) (by omega) (fun k hk => by rw [f k, if_neg (by omega), if_neg (by omega)])
    have eA0 : jS w2 25 (36 * v + 4 * i) = jS w0 78 (4 * i) := by rw [f, if_neg (by omega), if_pos rfl]
    have eA1 : jS w2 25 (36 * v + 4 * i + 1) = jS w0 78 (4 * i + 1) := by rw [f, if_pos rfl]
    clear b1 b2 b3 b4 b5 f
    have hA0 := hA
    obtain ⟨⟨a5, a6, a7, d2⟩, -⟩ := hA
    have s2 := jLay_sl a5 (kc_j78 (4 * i + 2) (by omega))
    have q2 := s2.i32
    refine ky_go hf hT a5 (by decide) (ρ := [(v : Int), (i : Int), (jS w2 78 (4 * i + 2))]) kv_2 ⟨⟨by omega, by omega⟩, ⟨by omega, by omega⟩, q2, trivial⟩ aFs.nil (aHh.cons (kns (by decide) rfl rfl (i := (4 * i + 2)) (by simp only [ae_ev, ae_el, ae_s, ae_k, List.getD_cons_zero, List.getD_cons_succ]; omega) (ev_s rfl) s2) aHh.nil) (by rfl) (by rfl) (lEr (lEr (lEi (ev_s rfl) (lEi (by simp only [ae_ev, ae_el, ae_s, ae_k, List.getD_cons_zero, List.getD_cons_succ]; omega) (lEi (ev_s rfl) (lEi (by simp only [ae_ev, ae_el, ae_s, ae_k, List.getD_cons_zero, List.getD_cons_succ]; omega) lE0)))))) sE0 (lvk2 := [(0, .inr (0, 1)), (1, .inr (0, 75)), (2, .inl (ae_k ((v : Int)))), (3, .inl (ae_k ((64 * (v : Int))))), (4, .inl (ae_k ((i : Int)))), (5, .inl (ae_k ((9 * (v : Int) + (i : Int)))))]) (lEr (lEr (lEi (ev_s rfl) (lEi (by simp only [ae_ev, ae_el, ae_s, ae_k, List.getD_cons_zero, List.getD_cons_succ]; omega) (lEi (ev_s rfl) (lEi (by simp only [ae_ev, ae_el, ae_s, ae_k, List.getD_cons_zero, List.getD_cons_succ]; omega) lE0)))))) (stk2 := [.inl (ae_k ((jS w2 78 (4 * i + 2)))), .inl (ae_k ((64 * (v : Int)))), .inl (ae_k (2)), .inl (ae_k ((9 * (v : Int) + (i : Int)))), .inr (0, 24)]) (sEi (ev_s rfl) (sEi (by simp only [ae_ev, ae_el, ae_s, ae_k, List.getD_cons_zero, List.getD_cons_succ]; omega) (sEi ae_ev_k (sEi (by simp only [ae_ev, ae_el, ae_s, ae_k, List.getD_cons_zero, List.getD_cons_succ]; omega) (sEr sE0))))) ?_
    refine hg_add kv_d1 (fun z => ?_)
    have bz : aI0 ≤ z.toInt ∧ z.toInt ≤ aI1 := ⟨i32_lo z, i32_hi z⟩

    refine ky_lg hf hT a5 a6 a7 (by decide) (ρ := [(v : Int), (i : Int), z.toInt]) kv_3 ⟨⟨by omega, by omega⟩, ⟨by omega, by omega⟩, bz, trivial⟩ aFs.nil aHh.nil (by rfl) (by rfl) (lEr (lEr (lEi (ev_s rfl) (lEi (by simp only [ae_ev, ae_el, ae_s, ae_k, List.getD_cons_zero, List.getD_cons_succ]; omega) (lEi (ev_s rfl) (lEi (by simp only [ae_ev, ae_el, ae_s, ae_k, List.getD_cons_zero, List.getD_cons_succ]; omega) lE0)))))) (sEi (ev_s rfl) (sEi ae_ev_k (sEi (by simp only [ae_ev, ae_el, ae_s, ae_k, List.getD_cons_zero, List.getD_cons_succ]; omega) (sEr sE0)))) (lvk2 := [(0, .inr (0, 1)), (1, .inr (0, 75)), (2, .inl (ae_k ((v : Int)))), (3, .inl (ae_k ((64 * (v : Int))))), (4, .inl (ae_k ((i : Int)))), (5, .inl (ae_k ((9 * (v : Int) + (i : Int)))))]) (lEr (lEr (lEi (ev_s rfl) (lEi (by simp only [ae_ev, ae_el, ae_s, ae_k, List.getD_cons_zero, List.getD_cons_succ]; omega) (lEi (ev_s rfl) (lEi (by simp only [ae_ev, ae_el, ae_s, ae_k, List.getD_cons_zero, List.getD_cons_succ]; omega) lE0)))))) (stk2 := []) sE0 (fun w3 b1 b2 b3 b4 b5 => ?_)
    have f : ∀ k, jS w3 25 k = if k = 36 * v + 4 * i + 2 then z.toInt else jS w2 25 k := fun k => by
      have x1 : (ae_ev [(v : Int), (i : Int), z.toInt] ([(0, 36), (1, 4)], 2)).toNat = 36 * v + 4 * i + 2 := by
        simp only [ae_ev, ae_el, List.getD_cons_zero, List.getD_cons_succ]
        omega
      rw [b5 25 k]
      simp only [lg_ap, x1]
      simp [ae_ev, ae_el, ae_s, ae_k]
    have hB := hA0.put b1 b2 b3 (b4.more (by decide)) (by omega) (fun k hk => by rw [f k, if_neg (by omega)])
    have eB0 : jS w3 25 (36 * v + 4 * i) = jS w0 78 (4 * i) := by rw [f, if_neg (by omega), eA0]
    have eB1 : jS w3 25 (36 * v + 4 * i + 1) = jS w0 78 (4 * i + 1) := by rw [f, if_neg (by omega), eA1]
    clear b1 b2 b3 b4 b5 f
    have hB0 := hB
    obtain ⟨⟨a5, a6, a7, d3⟩, -⟩ := hB
    have s3 := jLay_sl a5 (kc_j78 (4 * i + 3) (by omega))
    have q3 := s3.i32
    refine ky_go hf hT a5 (by decide) (ρ := [(v : Int), (i : Int), (jS w3 78 (4 * i + 3))]) kv_4 ⟨⟨by omega, by omega⟩, ⟨by omega, by omega⟩, q3, trivial⟩ aFs.nil (aHh.cons (kns (by decide) rfl rfl (i := (4 * i + 3)) (by simp only [ae_ev, ae_el, ae_s, ae_k, List.getD_cons_zero, List.getD_cons_succ]; omega) (ev_s rfl) s3) aHh.nil) (by rfl) (by rfl) (lEr (lEr (lEi (ev_s rfl) (lEi (by simp only [ae_ev, ae_el, ae_s, ae_k, List.getD_cons_zero, List.getD_cons_succ]; omega) (lEi (ev_s rfl) (lEi (by simp only [ae_ev, ae_el, ae_s, ae_k, List.getD_cons_zero, List.getD_cons_succ]; omega) lE0)))))) sE0 (lvk2 := [(0, .inr (0, 1)), (1, .inr (0, 75)), (2, .inl (ae_k ((v : Int)))), (3, .inl (ae_k ((64 * (v : Int))))), (4, .inl (ae_k ((i : Int)))), (5, .inl (ae_k ((9 * (v : Int) + (i : Int)))))]) (lEr (lEr (lEi (ev_s rfl) (lEi (by simp only [ae_ev, ae_el, ae_s, ae_k, List.getD_cons_zero, List.getD_cons_succ]; omega) (lEi (ev_s rfl) (lEi (by simp only [ae_ev, ae_el, ae_s, ae_k, List.getD_cons_zero, List.getD_cons_succ]; omega) lE0)))))) (stk2 := [.inl (ae_k ((jS w3 78 (4 * i + 3)))), .inl (ae_k ((64 * (v : Int)))), .inl (ae_k (3)), .inl (ae_k ((9 * (v : Int) + (i : Int)))), .inr (0, 24)]) (sEi (ev_s rfl) (sEi (by simp only [ae_ev, ae_el, ae_s, ae_k, List.getD_cons_zero, List.getD_cons_succ]; omega) (sEi ae_ev_k (sEi (by simp only [ae_ev, ae_el, ae_s, ae_k, List.getD_cons_zero, List.getD_cons_succ]; omega) (sEr sE0))))) ?_
    refine hg_add kv_d2 (fun y => ?_)
    have by0 : aI0 ≤ y.toInt ∧ y.toInt ≤ aI1 := ⟨i32_lo y, i32_hi y⟩
    have bY := by0
    refine ky_lg hf hT a5 a6 a7 (by decide) (ρ := [(v : Int), (i : Int), y.toInt]) kv_5 ⟨⟨by omega, by omega⟩, ⟨by omega, by omega⟩, bY, trivial⟩ aFs.nil aHh.nil (by rfl) (by rfl) (lEr (lEr (lEi (ev_s rfl) (lEi (by simp only [ae_ev, ae_el, ae_s, ae_k, List.getD_cons_zero, List.getD_cons_succ]; omega) (lEi (ev_s rfl) (lEi (by simp only [ae_ev, ae_el, ae_s, ae_k, List.getD_cons_zero, List.getD_cons_succ]; omega) lE0)))))) (sEi (ev_s rfl) (sEi ae_ev_k (sEi (by simp only [ae_ev, ae_el, ae_s, ae_k, List.getD_cons_zero, List.getD_cons_succ]; omega) (sEr sE0)))) (lvk2 := [(0, .inr (0, 1)), (1, .inr (0, 75)), (2, .inl (ae_k ((v : Int)))), (3, .inl (ae_k ((64 * (v : Int))))), (4, .inl (ae_k ((i : Int)))), (5, .inl (ae_k ((9 * (v : Int) + (i : Int)))))]) (lEr (lEr (lEi (ev_s rfl) (lEi (by simp only [ae_ev, ae_el, ae_s, ae_k, List.getD_cons_zero, List.getD_cons_succ]; omega) (lEi (ev_s rfl) (lEi (by simp only [ae_ev, ae_el, ae_s, ae_k, List.getD_cons_zero, List.getD_cons_succ]; omega) lE0)))))) (stk2 := []) sE0 (fun w4 b1 b2 b3 b4 b5 => ?_)
    have f : ∀ k, jS w4 25 k = if k = 36 * v + 4 * i + 3 then y.toInt else jS w3 25 k := fun k => by
      have x1 : (ae_ev [(v : Int), (i : Int), y.toInt] ([(0, 36), (1, 4)], 3)).toNat = 36 * v + 4 * i + 3 := by
        simp only [ae_ev, ae_el, List.getD_cons_zero, List.getD_cons_succ]
        omega
      rw [b5 25 k]
      simp only [lg_ap, x1]
      simp [ae_ev, ae_el, ae_s, ae_k]
    have hC := hB0.put b1 b2 b3 (b4.more (by decide)) (by omega) (fun k hk => by rw [f k, if_neg (by omega)])
    have eC0 : jS w4 25 (36 * v + 4 * i) = jS w0 78 (4 * i) := by rw [f, if_neg (by omega), eB0]
    have eC1 : jS w4 25 (36 * v + 4 * i + 1) = jS w0 78 (4 * i + 1) := by rw [f, if_neg (by omega), eB1]
    clear b1 b2 b3 b4 b5 f
    have a5 := hC.1.1
    refine ky_go hf hT a5 (by decide) (ρ := [(v : Int), (i : Int)]) kv_6 ⟨⟨by omega, by omega⟩, ⟨by omega, by omega⟩, trivial⟩ aFs.nil aHh.nil (by rfl) (by rfl) (lEr (lEr (lEi (ev_s rfl) (lEi (by simp only [ae_ev, ae_el, ae_s, ae_k, List.getD_cons_zero, List.getD_cons_succ]; omega) (lEi (ev_s rfl) (lEi (by simp only [ae_ev, ae_el, ae_s, ae_k, List.getD_cons_zero, List.getD_cons_succ]; omega) lE0)))))) sE0 (lvk2 := [(0, .inr (0, 1)), (1, .inr (0, 75)), (2, .inl (ae_k ((v : Int)))), (3, .inl (ae_k ((64 * (v : Int))))), (4, .inl (ae_k (((i + 1 : Nat) : Int))))]) (lEr (lEr (lEi (ev_s rfl) (lEi (by simp only [ae_ev, ae_el, ae_s, ae_k, List.getD_cons_zero, List.getD_cons_succ]; omega) (lEi (by simp only [ae_ev, ae_el, ae_s, ae_k, List.getD_cons_zero, List.getD_cons_succ]; omega) lE0))))) (stk2 := []) sE0 ?_
    refine ih (i + 1) w4 (by omega) ⟨hC.1, hC.2.1, hC.2.2.1, fun j hj => ?_, hC.2.2.2.2⟩
    by_cases e : j = i
    · subst e
      exact ⟨eC0, eC1⟩
    · exact hC.2.2.2.1 j (by omega)
/-- addVersion, with what it writes -/
theorem kw2_mj (hf : E.2.2.2.1.category = 1) (hT : ∀ σ : List Int, aTb E σ aTabs) (a5 : aWd E al aLay w) (a6 : aRs aRules w) (a7 : jJ0 w) {v c : Nat} (hv : v ≤ 7) (hc : c ≤ 9) (h3 : jS w 22 3 = (v : Int)) (h7 : jS w 77 3 = (c : Int)) {AS : List Value} (hA : gL E al [] [.inr (0, 1), .inr (0, 75)] AS) :
    MJ E 34 0 0 (mj_in0 97 AS w) (fun x w2 => ∃ z : Int32, x = some (.int z) ∧ z.toInt = (v : Int) ∧ aw E al w w2 v c c) := by
  refine hG.in0 hf (d := 34) (as := [.inr (0, 1), .inr (0, 75)]) ?_ hA
  show hG E al 34 97 0 [(0, .inr (0, 1)), (1, .inr (0, 75))] [] [] w _
  have s3 := ksl a5 kc_j22 h3
  have s7 := ksl a5 kc_j77 h7
  have s1 := jLay_sl a5 kc_j10
  have q1 := s1.i32
  refine ky_lg hf hT a5 a6 a7 (by decide) (ρ := [(v : Int), (jS w 1 0), (c : Int)]) kv_0 ⟨⟨by omega, by omega⟩, q1, s7.i32, trivial⟩ aFs.nil (aHh.cons (kn1 (i := 3) (by decide) rfl (ev_s rfl) s3) (aHh.cons (kn1 (i := 0) (by decide) rfl (ev_s rfl) s1) (aHh.cons (kn1 (i := 3) (by decide) rfl (ev_s rfl) s7) aHh.nil))) (by rfl) (by rfl) (lEr (lEr lE0)) sE0 (lvk2 := [(0, .inr (0, 1)), (1, .inr (0, 75)), (2, .inl (ae_k ((v : Int)))), (3, .inl (ae_k ((64 * (v : Int))))), (4, .inl (ae_k (((0 : Nat) : Int))))]) (lEr (lEr (lEi (ev_s rfl) (lEi (by simp only [ae_ev, ae_el, ae_s, ae_k, List.getD_cons_zero, List.getD_cons_succ]; omega) (lEi ae_ev_k lE0))))) (stk2 := []) sE0 (fun w2 b1 b2 b3 b4 b5 => ?_)
  have f : ∀ k, jS w2 23 k = if k = 2 * v + 1 then (c : Int) else if k = 2 * v then jS w 1 0 else jS w 23 k := fun k => by
    have x1 : (ae_ev [(v : Int), jS w 1 0, (c : Int)] ([(0, 2)], 1)).toNat = 2 * v + 1 := by
      simp only [ae_ev, ae_el, List.getD_cons_zero, List.getD_cons_succ]
      omega
    have x0 : (ae_ev [(v : Int), jS w 1 0, (c : Int)] ([(0, 2)], 0)).toNat = 2 * v := by
      simp only [ae_ev, ae_el, List.getD_cons_zero, List.getD_cons_succ]
      omega
    rw [b5 23 k]
    simp only [lg_ap, x0, x1]
    by_cases e1 : k = 2 * v + 1
    · simp [e1, ae_ev, ae_el, ae_s, ae_k]
    · by_cases e2 : k = 2 * v
      · simp [e1, e2, ae_ev, ae_el, ae_s, ae_k]
      · simp [e1, e2, ae_ev, ae_el, ae_s, ae_k]
  have f3 : jS w2 22 3 = (v : Int) + 1 := by
    rw [b5 22 3]
    simp [lg_ap, ae_ev, ae_el, ae_s, ae_k]
  have e25 : ∀ k, jS w2 25 k = jS w 25 k := fun k => jS.at (b4.2 25 (by decide))
  refine aw_ln (w0 := w) (c := c) hf hT hv hc h7 (fun w3 h3 => ?_) c 0 w2 (by omega) ⟨⟨b1, b2, b3, b4.more (by decide)⟩, f3, f, fun j hj => absurd hj (Nat.not_lt_zero j), fun k _ => e25 k⟩
  refine aw_st (w0 := w) (c := c) hf hT hv (fun w4 h4 => ?_) (jS w 79 3 - ((0 : Nat) : Int)).toNat 0 w3 (by decide) (Nat.le_refl _) h3
  exact hp_retI (pc := 200) (ty := .int) (x := (v : Int)) (by decide) (by decide +kernel) (by decide +kernel) (aV.k _) (fun n hn => rfl) (fun z hz => ⟨z, rfl, hz, h4⟩)
end VS
/-! READ, with what a version holds: the component -/
section RT2
variable {E : mj_E} {Q : Option Value → va_W → Prop} {al : List Nat} {w w0 w1 w2 : va_W} {T : Nat → Int} {n : Nat}
/-- what read leaves in the component's lists -/
def vC (R : Int × tLs) (V : Int) (w w2 : va_W) : Prop := if R.1 < 0 ∧ V ≠ 8 then ((∀ k, jS w2 23 k = if k = 2 * V.toNat + 1 then (R.2.length : Int) else if k = 2 * V.toNat then jS w 1 0 else jS w 23 k) ∧ (∀ j, j < R.2.length → jS w2 25 (36 * V.toNat + 4 * j) = (R.2.getD j (0, 0)).1 ∧ jS w2 25 (36 * V.toNat + 4 * j + 1) = (R.2.getD j (0, 0)).2) ∧ (∀ k, (k < 36 * V.toNat ∨ 36 * V.toNat + 36 ≤ k) → jS w2 25 k = jS w 25 k) ∧ R.2.length ≤ 9) else ((∀ k, jS w2 23 k = jS w 23 k) ∧ ∀ k, jS w2 25 k = jS w 25 k)
theorem vC_no {R : Int × tLs} {V : Int} (h : ¬ (R.1 < 0 ∧ V ≠ 8)) (h1 : ∀ k, jS w2 23 k = jS w 23 k) (h2 : ∀ k, jS w2 25 k = jS w 25 k) : vC R V w w2 := by
  unfold vC
  rw [if_neg h]
  exact ⟨h1, h2⟩
theorem vC_yes {R : Int × tLs} {V : Int} {v : Nat} (h0 : R.1 < 0) (h8 : V ≠ 8) (hv : V = (v : Int)) (h1 : ∀ k, jS w2 23 k = if k = 2 * v + 1 then (R.2.length : Int) else if k = 2 * v then jS w 1 0 else jS w 23 k) (h2 : ∀ j, j < R.2.length → jS w2 25 (36 * v + 4 * j) = (R.2.getD j (0, 0)).1 ∧ jS w2 25 (36 * v + 4 * j + 1) = (R.2.getD j (0, 0)).2) (h3 : ∀ k, (k < 36 * v ∨ 36 * v + 36 ≤ k) → jS w2 25 k = jS w 25 k) (h4 : R.2.length ≤ 9) : vC R V w w2 := by
  have e : V.toNat = v := by omega
  unfold vC
  rw [if_pos ⟨h0, h8⟩, e]
  exact ⟨h1, h2, h3, h4⟩
/-- read, the component, with what a version holds -/
theorem kz2_mj (hf : E.2.2.2.1.category = 1) (hT : ∀ σ : List Int, aTb E σ aTabs) (H : kT w T n) (a5 : aWd E al aLay w) (a6 : aRs aRules w) (a7 : jJ0 w) (h1 : jS w 75 1 = (n : Int)) {V : Int} (hV : 0 ≤ V ∧ V ≤ 8) (h3 : jS w 22 3 = V) {AS : List Value} (hA : gL E al [] [.inr (0, 0)] AS) :
    MJ E 35 0 0 (mj_in0 83 AS w) (fun v w2 => ∃ z : Int32, v = some (.int z) ∧ z.toInt = rdA (run T n 0 0 [] (tS T n 0)).1 V ∧ aWd E al aLay w2 ∧ aRs aRules w2 ∧ jJ0 w2 ∧ hD [75, 77, 78, 79, 80, 22, 23, 25, 27] w w2 ∧ jS w2 75 1 = 0 ∧ jS w2 22 3 = rdV (run T n 0 0 [] (tS T n 0)).1 V ∧ vC (run T n 0 0 [] (tS T n 0)) V w w2) := by
  have HV : hOk E al gV0 (fun _ => True) := hOkV hf hT (fun _ _ _ _ h => h)
  have bn := H.1
  refine hG.in0 hf (d := 35) (as := [.inr (0, 0)]) ?_ hA
  show hG E al 35 83 0 [(0, .inr (0, 0))] [] [] w _
  refine ky_go hf hT a5 (by decide) (ρ := []) kz_0 trivial aFs.nil aHh.nil (by rfl) (by rfl) (lEr lE0) sE0 (lvk2 := [(0, .inr (0, 0))]) (lEr lE0) (stk2 := [.inr (0, 75)]) (sEr sE0) ?_
  refine hp_callV HV (d := 34) (y2 := 84) (as := [.inr (0, 75)]) (rest := []) (R := fun z w2 => ∃ s2 ls2, kv E al w w2 ∧ kS w2 T n s2 ls2 ∧ ((z.toInt = 1 ∧ run T n 0 0 [] (tS T n 0) = (-1, ls2)) ∨ (z.toInt = 0 ∧ (run T n 0 0 [] (tS T n 0)).1 = (s2 : Int)))) (by decide) (by rfl) (hW.e (J := fun _ => True) a5 trivial) (fun AS hA => kt_mj hf hT H a5 a6 a7 h1 hA) (fun z w1 hR => ?_)
  obtain ⟨s2, ls2, hv, hs, q⟩ := hR
  have hs0 := hs.1
  have e22 : jS w1 22 3 = V := (jS.at (hv.2.2.2.2 22 (by decide))).trans h3
  have s22 := ksl hv.1 kc_j22 e22
  have s4 := ksl hv.1 kc_j4 hs.2.2.1
  obtain ⟨a5, a6, a7, d⟩ := hv
  rcases q with ⟨hz, q⟩ | ⟨hz, q⟩
  · rw [hz, q]
    by_cases c8 : V = 8
    · rw [c8] at s22
      refine ky_lg hf hT a5 a6 a7 (by decide) (ρ := []) kz_2 trivial aFs.nil (aHh.cons (kn1 (i := 3) (by decide) rfl ae_ev_k s22) aHh.nil) (by rfl) (by rfl) (lEr lE0) (sEi ae_ev_k sE0) (lvk2 := []) lE0 (stk2 := [.inl (ae_k ((-2)))]) (sEi ae_ev_k sE0) (fun w2 b1 b2 b3 b4 b5 => ?_)
      have f : ∀ k, jS w2 75 k = if k = 1 then 0 else jS w1 75 k := fun k => by
        rw [b5 75 k]
        simp [lg_ap, ae_ev, ae_el, ae_s, ae_k]
      exact hp_retI (pc := 46) (ty := .int) (x := -2) (by decide) (by decide +kernel) (by decide +kernel) (aV.k _) (fun n hn => rfl) (fun z hz => ⟨z, rfl, by rw [hz, c8] <;> rfl, b1, b2, b3, (d.more (by decide)).trans (b4.more (by decide)), by rw [f]; rfl, by rw [jS.at (b4.2 22 (by decide)), e22, c8] <;> rfl, vC_no (fun h => h.2 c8) (fun k => (jS.at (b4.2 23 (by decide))).trans (jS.at (d.2 23 (by decide)))) (fun k => (jS.at (b4.2 25 (by decide))).trans (jS.at (d.2 25 (by decide))))⟩)
    · skip
      refine ky_lg hf hT a5 a6 a7 (by decide) (ρ := [V]) kz_3 ⟨⟨by omega, by omega⟩, trivial⟩ aFs.nil (aHh.cons (kn1 (i := 3) (by decide) rfl (ev_s rfl) s22) aHh.nil) (by rfl) (by rfl) (lEr lE0) (sEi ae_ev_k sE0) (lvk2 := []) lE0 (stk2 := [.inr (0, 75), .inr (0, 1)]) (sEr (sEr sE0)) (fun w2 b1 b2 b3 b4 b5 => ?_)
      have f : ∀ k, jS w2 75 k = if k = 1 then 0 else jS w1 75 k := fun k => by
        rw [b5 75 k]
        simp [lg_ap, ae_ev, ae_el, ae_s, ae_k]
      obtain ⟨v, ev⟩ : ∃ v : Nat, V = (v : Int) := ⟨V.toNat, by omega⟩
      refine hp_callV HV (d := 34) (y2 := 97) (as := [.inr (0, 1), .inr (0, 75)]) (rest := []) (R := fun z w3 => z.toInt = (v : Int) ∧ aw E al w2 w3 v ls2.length ls2.length) (by decide) (by rfl) (hW.e (J := fun _ => True) b1 trivial) (fun AS hA => kw2_mj hf hT b1 b2 b3 (by omega) hs.2.2.2.2.1 (((jS.at (b4.2 22 (by decide))).trans e22).trans ev) ((jS.at (b4.2 77 (by decide))).trans hs.2.2.2.2.2.1) hA) (fun z3 w3 hR => ?_)
      obtain ⟨g0, ⟨g1, g2, g3, g4⟩, g5, g6, g7, g8⟩ := hR
      have g0 : z3.toInt = V := g0.trans ev.symm
      have g5 : jS w3 22 3 = V + 1 := by rw [g5, ev]
      have o1 : jS w2 1 0 = jS w 1 0 := (jS.at (b4.2 1 (by decide))).trans (jS.at (d.2 1 (by decide)))
      have o3 : ∀ k, jS w2 23 k = jS w 23 k := fun k => (jS.at (b4.2 23 (by decide))).trans (jS.at (d.2 23 (by decide)))
      have o5 : ∀ k, jS w2 25 k = jS w 25 k := fun k => (jS.at (b4.2 25 (by decide))).trans (jS.at (d.2 25 (by decide)))
      have o8 : ∀ k, jS w2 78 k = jS w1 78 k := fun k => jS.at (b4.2 78 (by decide))
      have hl := hs.2.2.2.2
      refine hp_retI (pc := 58) (ty := .int) (x := z3.toInt) (by decide) (by decide +kernel) (by decide +kernel) (aV.k _) (fun n hn => rfl) (fun z hz => ⟨z, rfl, ?_, g1, g2, g3, (d.more (by decide)).trans ((b4.more (by decide)).trans (g4.more (by decide))), by rw [jS.at (g4.2 75 (by decide)), f]; rfl, ?_, ?_⟩)
      · rw [hz, g0]
        unfold rdA
        rw [if_neg (show ¬ (0 : Int) ≤ -1 by decide), if_neg c8]
      · rw [g5]
        unfold rdV
        rw [if_neg (show ¬ (0 : Int) ≤ -1 by decide), if_neg c8]
      · subst ev
        refine vC_yes (v := v) (by show (-1 : Int) < 0; decide) c8 rfl (fun k => by rw [g6 k, o1, o3 k]) (fun j hj => ?_) (fun k hk => (g8 k hk).trans (o5 k)) hl.1
        have m := hl.2.2 j hj
        exact ⟨(g7 j hj).1.trans ((o8 _).trans m.1), (g7 j hj).2.trans ((o8 _).trans m.2)⟩
  · rw [hz]
    refine ky_lg hf hT a5 a6 a7 (by decide) (ρ := [(s2 : Int)]) kz_1 ⟨⟨by omega, by omega⟩, trivial⟩ aFs.nil (aHh.cons (kn1 (i := 4) (by decide) rfl (ev_s rfl) s4) aHh.nil) (by rfl) (by rfl) (lEr lE0) (sEi ae_ev_k sE0) (lvk2 := []) lE0 (stk2 := [.inl (ae_k (-100 - (s2 : Int)))]) (sEi (by simp only [ae_ev, ae_el, ae_s, ae_k, List.getD_cons_zero, List.getD_cons_succ]; omega) sE0) (fun w2 b1 b2 b3 b4 b5 => ?_)
    have f : ∀ k, jS w2 75 k = if k = 1 then 0 else jS w1 75 k := fun k => by
      rw [b5 75 k]
      simp [lg_ap, ae_ev, ae_el, ae_s, ae_k]
    refine hp_retI (pc := 30) (ty := .int) (x := -100 - (s2 : Int)) (by decide) (by decide +kernel) (by decide +kernel) (aV.k _) (fun n hn => rfl) (fun z hz => ⟨z, rfl, ?_, b1, b2, b3, (d.more (by decide)).trans (b4.more (by decide)), by rw [f]; rfl, ?_, vC_no (fun h => by have := h.1; omega) (fun k => (jS.at (b4.2 23 (by decide))).trans (jS.at (d.2 23 (by decide)))) (fun k => (jS.at (b4.2 25 (by decide))).trans (jS.at (d.2 25 (by decide))))⟩)
    · rw [hz, q]
      unfold rdA
      rw [if_pos (by omega)]
    · rw [jS.at (b4.2 22 (by decide)), e22, q]
      unfold rdV
      rw [if_pos (by omega)]
end RT2
