/-! THE TEXTS, the component: lines, the text, read -/
section
set_option maxRecDepth 100000
theorem ks_0 : hp_chk gV0 1000 22 89 (0, [], [], [], [(0, .inr (0, 75))], []) [] [(3, [], [], [(0, .inr (0, 75))], [.inr (1, 1), .inr (0, 75)], [], [], mMU)] = true := by decide +kernel
theorem ks_s0 : hp_chk gV0 1000 22 89 (6, [], [], [], [(0, .inr (0, 75))], [.inl (ae_k 1)]) [] [(53, [], [], [], [.inl (ae_k 0)], [], [], mMU)] = true := by decide +kernel
theorem ks_n0 : hp_chk gV0 1000 22 89 (6, [], [], [], [(0, .inr (0, 75))], [.inl (ae_k 0)]) [] [(16, [], [], [(0, .inr (0, 75))], [.inr (1, 2), .inr (0, 75)], [], [], mMU)] = true := by decide +kernel
theorem ks_s1 : hp_chk gV0 1000 22 89 (19, [], [], [], [(0, .inr (0, 75))], [.inl (ae_k 1)]) [] [(53, [], [], [], [.inl (ae_k 1)], [], [], mMU)] = true := by decide +kernel
theorem ks_n1 : hp_chk gV0 1000 22 89 (19, [], [], [], [(0, .inr (0, 75))], [.inl (ae_k 0)]) [] [(29, [], [], [(0, .inr (0, 75))], [.inr (1, 3), .inr (0, 75)], [], [], mMU)] = true := by decide +kernel
theorem ks_s2 : hp_chk gV0 1000 22 89 (32, [], [], [], [(0, .inr (0, 75))], [.inl (ae_k 1)]) [] [(53, [], [], [], [.inl (ae_k 2)], [], [], mMU)] = true := by decide +kernel
theorem ks_n2 : hp_chk gV0 1000 22 89 (32, [], [], [], [(0, .inr (0, 75))], [.inl (ae_k 0)]) [] [(42, [], [], [(0, .inr (0, 75))], [.inr (1, 4), .inr (0, 75)], [], [], mMU)] = true := by decide +kernel
theorem ks_s3 : hp_chk gV0 1000 22 89 (45, [], [], [], [(0, .inr (0, 75))], [.inl (ae_k 1)]) [] [(53, [], [], [], [.inl (ae_k 3)], [], [], mMU)] = true := by decide +kernel
theorem ks_n3 : hp_chk gV0 1000 22 89 (45, [], [], [], [(0, .inr (0, 75))], [.inl (ae_k 0)]) [] [(53, [], [], [], [.inl (ae_k (-1))], [], [], mMU)] = true := by decide +kernel
theorem kq_0 : hp_chk gV0 1000 33 88 (0, [], [], [], [(0, .inr (0, 75))], []) [] [(1, [], [], [(0, .inr (0, 75))], [.inr (0, 75)], [], [], mMU)] = true := by decide +kernel
theorem kq_1 : hp_chk gV0 1000 33 88 (4, [], [], [], [], [.inl (ae_k (-1))]) [] [(10, [], [], [], [.inl (ae_k 0)], [], [], mMU)] = true := by decide +kernel
theorem kq_20 : hp_chk gV0 1000 33 88 (4, [], [], [], [(0, .inr (0, 75))], [.inl (ae_k 0)]) [] [(33, [], [], [(0, .inr (0, 75)), (1, .inl (ae_k 0))], [.inl (ae_k 9), .inr (0, 75)], [], [], mMU)] = true := by decide +kernel
theorem kq_22 : hp_chk gV0 1000 33 88 (4, [], [], [], [(0, .inr (0, 75))], [.inl (ae_k 2)]) [] [(33, [], [], [(0, .inr (0, 75)), (1, .inl (ae_k 2))], [.inl (ae_k 5), .inr (0, 75)], [], [], mMU)] = true := by decide +kernel
theorem kq_23 : hp_chk gV0 1000 33 88 (4, [], [], [], [(0, .inr (0, 75))], [.inl (ae_k 3)]) [] [(33, [], [], [(0, .inr (0, 75)), (1, .inl (ae_k 3))], [.inl (ae_k 9), .inr (0, 75)], [], [], mMU)] = true := by decide +kernel
theorem kq_3 : hp_chk gV0 1000 33 88 (4, [], [], [], [(0, .inr (0, 75))], [.inl (ae_k 1)]) [] [(64, [], [], [(0, .inr (0, 75)), (1, .inl (ae_k 1)), (2, .inl (ae_k (-3)))], [.inr (1, 6), .inr (0, 75)], [], [], mMU)] = true := by decide +kernel
theorem kq_40 : hp_chk gV0 1000 33 88 (36, [], [], [], [(0, .inr (0, 75)), (1, .inl (ae_k 0))], [.inl (ae_k (-1))]) [] [(71, [], [], [], [.inl (ae_k 0)], [], [], mMU)] = true := by decide +kernel
theorem kq_42 : hp_chk gV0 1000 33 88 (36, [], [], [], [(0, .inr (0, 75)), (1, .inl (ae_k 2))], [.inl (ae_k (-1))]) [] [(71, [], [], [], [.inl (ae_k 0)], [], [], mMU)] = true := by decide +kernel
theorem kq_43 : hp_chk gV0 1000 33 88 (36, [], [], [], [(0, .inr (0, 75)), (1, .inl (ae_k 3))], [.inl (ae_k (-1))]) [] [(71, [], [], [], [.inl (ae_k 0)], [], [], mMU)] = true := by decide +kernel
theorem kq_50 : hp_chk gV0 1000 33 88 (36, [(0, 9)], [], [], [(0, .inr (0, 75)), (1, .inl (ae_k 0))], [.inl (ae_s 0)]) [] [(72, [(0, 9)], [], [(0, .inr (0, 75)), (1, .inl (ae_k 0)), (2, .inl (ae_s 0))], [], [], [], mMU)] = true := by decide +kernel
theorem kq_53 : hp_chk gV0 1000 33 88 (36, [(0, 9)], [], [], [(0, .inr (0, 75)), (1, .inl (ae_k 3))], [.inl (ae_s 0)]) [] [(72, [(0, 9)], [], [(0, .inr (0, 75)), (1, .inl (ae_k 3)), (2, .inl (ae_s 0))], [], [], [], mMU)] = true := by decide +kernel
theorem kq_6 : hp_chk gV0 1000 33 88 (36, [(0, 5)], [], [], [(0, .inr (0, 75)), (1, .inl (ae_k 2))], [.inl (ae_s 0)]) [] [(50, [(0, 5)], [], [(0, .inr (0, 75)), (1, .inl (ae_k 2)), (2, .inl (ae_s 0))], [.inr (1, 5), .inr (0, 75)], [], [], mMU)] = true := by decide +kernel
theorem kq_7 : hp_chk gV0 1000 33 88 (53, [(0, 5)], [], [], [(0, .inr (0, 75)), (1, .inl (ae_k 2)), (2, .inl (ae_s 0))], [.inl (ae_k 1)]) [] [(72, [(0, 5)], [], [(0, .inr (0, 75)), (1, .inl (ae_k 2)), (2, .inl (ae_s 0))], [], [], [], mMU)] = true := by decide +kernel
theorem kq_8 : hp_chk gV0 1000 33 88 (53, [], [], [], [], [.inl (ae_k 0)]) [] [(71, [], [], [], [.inl (ae_k 0)], [], [], mMU)] = true := by decide +kernel
theorem kq_9 : hp_chk gV0 1000 33 88 (67, [], [], [], [(0, .inr (0, 75)), (1, .inl (ae_k 1)), (2, .inl (ae_k (-3)))], [.inl (ae_k 1)]) [] [(72, [], [], [(0, .inr (0, 75)), (1, .inl (ae_k 1)), (2, .inl (ae_k (-3)))], [], [], [], mMU)] = true := by decide +kernel
theorem kq_b : hp_chk gV0 1000 33 88 (67, [], [], [], [], [.inl (ae_k 0)]) [] [(71, [], [], [], [.inl (ae_k 0)], [], [], mMU)] = true := by decide +kernel
theorem kq_c : lp_chk (aG00 []) 33 88 (72, [(0, 8), (0, 3), ((-3), 9), aF], [], [((77, ae_k 3), ae_s 0), ((79, ae_k 3), ae_s 3)], [(0, .inr (0, 75)), (1, .inl (ae_s 1)), (2, .inl (ae_s 2))], []) 116 [(0, .inr (0, 75)), (1, .inl (ae_s 1)), (2, .inl (ae_s 2)), (3, .inl (ae_s 0))] [] [(78, some (([(0, 4)], 2), ae_s 3)), (78, some (([(0, 4)], 1), ae_s 2)), (78, some (([(0, 4)], 0), ae_s 1)), (77, some (ae_k 3, ([(0, 1)], 1))), (78, some (([(0, 4)], 3), ae_k 0)), (78, some (([(0, 4)], 2), ae_k 0)), (78, some (([(0, 4)], 1), ae_k 0)), (78, some (([(0, 4)], 0), ae_k 0))] = true := by decide +kernel
theorem kq_d : hp_chk gV0 1000 33 88 (116, [(0, 8)], [], [], [(0, .inr (0, 75)), (3, .inl (ae_s 0)), (1, .inl (ae_k 2))], []) [] [(149, [(0, 8)], [], [(0, .inr (0, 75)), (3, .inl (ae_s 0))], [.inl (ae_k 0), .inr (0, 75)], [], [], mMU)] = true := by decide +kernel
theorem kq_e : hp_chk gV0 1000 33 88 (116, [(0, 8)], [], [], [(0, .inr (0, 75)), (3, .inl (ae_s 0)), (1, .inl (ae_k 3))], []) [] [(157, [(0, 8)], [], [(0, .inr (0, 75)), (3, .inl (ae_s 0))], [], [], [], mMU)] = true := by decide +kernel
theorem kq_f0 : hp_chk gV0 1000 33 88 (116, [(0, 8)], [], [], [(0, .inr (0, 75)), (3, .inl (ae_s 0)), (1, .inl (ae_k 0))], []) [] [(129, [(0, 8)], [], [(0, .inr (0, 75)), (3, .inl (ae_s 0))], [.inr (1, 6), .inr (0, 75)], [], [], mMU)] = true := by decide +kernel
theorem kq_f1 : hp_chk gV0 1000 33 88 (116, [(0, 8)], [], [], [(0, .inr (0, 75)), (3, .inl (ae_s 0)), (1, .inl (ae_k 1))], []) [] [(129, [(0, 8)], [], [(0, .inr (0, 75)), (3, .inl (ae_s 0))], [.inr (1, 6), .inr (0, 75)], [], [], mMU)] = true := by decide +kernel
theorem kq_g : hp_chk gV0 1000 33 88 (132, [(0, 8)], [], [], [(0, .inr (0, 75)), (3, .inl (ae_s 0))], [.inl (ae_k 1)]) [] [(149, [(0, 8)], [], [(0, .inr (0, 75)), (3, .inl (ae_s 0))], [.inl (ae_k 0), .inr (0, 75)], [], [], mMU)] = true := by decide +kernel
theorem kq_h : hp_chk gV0 1000 33 88 (132, [(0, 8)], [], [], [(0, .inr (0, 75)), (3, .inl (ae_s 0))], [.inl (ae_k 0)]) [] [(157, [(0, 8)], [], [(0, .inr (0, 75)), (3, .inl (ae_s 0))], [], [], [], mMU)] = true := by decide +kernel
theorem kq_i : hp_chk gV0 1000 33 88 (152, [(0, 8)], [], [], [(0, .inr (0, 75)), (3, .inl (ae_s 0))], [.inl (ae_k 1)]) [] [(157, [(0, 8)], [], [(0, .inr (0, 75)), (3, .inl (ae_s 0))], [], [], [], mMU)] = true := by decide +kernel
theorem kq_j : hp_chk gV0 1000 33 88 (152, [], [], [], [], [.inl (ae_k 0)]) [] [(156, [], [], [], [.inl (ae_k 0)], [], [], mMU)] = true := by decide +kernel
theorem kq_a : lp_chk (aG00 []) 33 88 (157, [(0, 8), aF], [], [((79, ae_k 3), ae_s 1)], [(0, .inr (0, 75)), (3, .inl (ae_s 0))], []) 176 [] [.inr (1, 23), .inr (0, 75)] [(78, some (([(0, 4)], 3), ae_s 1))] = true := by decide +kernel
theorem kt_0 : lp_chk (aG00 []) 34 84 (0, [], [], [], [(0, .inr (0, 75))], []) 20 [(0, .inr (0, 75))] [.inr (0, 75)] [(75, some (ae_k 5, ae_k 0)), (79, some (ae_k 3, ae_k 0)), (77, some (ae_k 3, ae_k 0))] = true := by decide +kernel
theorem kt_1 : hp_chk gV0 1000 34 84 (23, [], [], [], [(0, .inr (0, 75))], []) [] [(25, [], [], [(0, .inr (0, 75)), (1, .inl (ae_k 0))], [], [], [], mMU)] = true := by decide +kernel
theorem kt_2 : hp_chk gV0 1000 34 84 (25, [(0, 250), (0, 250), (0, 8)], [([(0, (-1)), (1, 1)], 1)], [((75, ae_k 4), ae_s 1), ((75, ae_k 1), ae_s 0)], [(0, .inr (0, 75)), (1, .inl (ae_s 2))], []) [] [(43, [(0, 250), (0, 250), (0, 8)], [], [(0, .inr (0, 75)), (1, .inl (ae_s 2))], [.inr (0, 75)], [], [], mMU)] = true := by decide +kernel
theorem kt_3 : hp_chk gV0 1000 34 84 (46, [(0, 8)], [], [], [(0, .inr (0, 75)), (1, .inl (ae_s 0))], [.inl (ae_k 1)]) [] [(25, [(0, 8)], [], [(0, .inr (0, 75)), (1, .inl (([(0, 1)], 1)))], [], [], [], mMU)] = true := by decide +kernel
theorem kt_4 : hp_chk gV0 1000 34 84 (46, [], [], [], [], [.inl (ae_k 0)]) [] [(50, [], [], [], [.inl (ae_k 0)], [], [], mMU)] = true := by decide +kernel
theorem kt_5 : hp_chk gV0 1000 34 84 (25, [(0, 250), (0, 9)], [], [((75, ae_k 4), ae_s 0), ((75, ae_k 1), ae_s 0)], [(0, .inr (0, 75)), (1, .inl (ae_s 1))], []) [] [(73, [(0, 250), (0, 9)], [], [], [.inl (ae_k 1)], [], [], mMU)] = true := by decide +kernel
theorem kt_6 : hp_chk gV0 1000 34 84 (25, [(0, 250), (0, 250)], [([(0, (-1)), (1, 1)], 1)], [((75, ae_k 4), ae_s 1), ((75, ae_k 1), ae_s 0)], [(0, .inr (0, 75)), (1, .inl (ae_k 9))], []) [] [(73, [(0, 250), (0, 250)], [], [], [.inl (ae_k 0)], [], [], mMU)] = true := by decide +kernel
theorem kz_0 : hp_chk gV0 1000 35 83 (0, [], [], [], [(0, .inr (0, 0))], []) [] [(4, [], [], [(0, .inr (0, 0))], [.inr (0, 75)], [], [], mMU)] = true := by decide +kernel
theorem kz_1 : lp_chk (aG00 []) 35 83 (7, [(0, 250)], [], [((75, ae_k 4), ae_s 0)], [(0, .inr (0, 0))], [.inl (ae_k 0)]) 30 [] [.inl (([(0, (-1))], (-100)))] [(75, some (ae_k 1, ae_k 0))] = true := by decide +kernel
theorem kz_2 : lp_chk (aG00 []) 35 83 (7, [], [], [((22, ae_k 3), ae_k 8)], [(0, .inr (0, 0))], [.inl (ae_k 1)]) 46 [] [.inl (ae_k (-2))] [(75, some (ae_k 1, ae_k 0))] = true := by decide +kernel
theorem kz_3 : lp_chk (aG00 []) 35 83 (7, [(0, 7)], [], [((22, ae_k 3), ae_s 0)], [(0, .inr (0, 0))], [.inl (ae_k 1)]) 55 [] [.inr (0, 75), .inr (0, 1)] [(75, some (ae_k 1, ae_k 0))] = true := by decide +kernel
def kw_I : aInst := ((97, [(0, 7)], [], [.inr (0, 1), .inr (0, 75)], [((22, ae_k 3), ae_s 0)], [22, 23, 25, 27], 3, [([], [], some (.inl (ae_s 0)), [((22, ae_k 3), ([(0, 1)], 1))])]), [(45, [(0, 7), aF, (0, 2147483647), aF, aF], [], [(0, .inr (0, 1)), (1, .inr (0, 75)), (2, .inl (ae_s 0)), (3, .inl (ae_s 1)), (4, .inl (ae_s 2))], [], [((1, ae_k 0), ae_s 3), ((22, ae_k 0), ae_k 8), ((22, ae_k 3), ([(0, 1)], 1)), ((77, ae_k 3), ae_s 4)], [22, 23, 25], ([(2, (-1))], 36507222015)), (159, [(0, 7), aF, (0, 2147483647), aF, aF], [], [(0, .inr (0, 1)), (1, .inr (0, 75)), (2, .inl (ae_s 0)), (3, .inl (ae_s 1)), (4, .inl (ae_s 2))], [], [((1, ae_k 0), ae_s 3), ((22, ae_k 0), ae_k 8), ((22, ae_k 3), ([(0, 1)], 1)), ((77, ae_k 3), ae_s 4)], [22, 23, 25, 27], ([(2, (-1))], 19327352831))])
theorem kw_k : ak_inst (aG00 []) 100000 kw_I = true := by decide +kernel
theorem kc_j79 : (jLay 79 3).isSome = true := by decide +kernel
theorem kc_j77 : (jLay 77 3).isSome = true := by decide +kernel
theorem kc_j22 : (jLay 22 3).isSome = true := by decide +kernel
end
/-- where a line of a sort goes on -/
def tSrt (k : Nat) : Nat × Nat := if k = 1 then (2, 0) else (1, k)
section RT
variable {E : mj_E} {Q : Option Value → va_W → Prop} {al : List Nat} {w w0 w1 w2 : va_W} {T : Nat → Int} {n : Nat}
/-- readsSort -/
theorem ks_mj (hf : E.2.2.2.1.category = 1) (hT : ∀ σ : List Int, aTb E σ aTabs) (H : kT w0 T n) (hv : kv E al w0 w) {s : Nat} {ls : tLs} (hs : kS w T n s ls) {AS : List Value} (hA : gL E al [] [.inr (0, 75)] AS) :
    MJ E 22 0 0 (mj_in0 89 AS w) (fun v w2 => ∃ z : Int32, v = some (.int z) ∧ ((∃ k : Nat, k < 4 ∧ z.toInt = (k : Int) ∧ kv E al w0 w2 ∧ kS w2 T n (tX T n s) ls ∧ s < n ∧ (ls.length < 9 → run T n 0 0 ls s = run T n (tSrt k).1 (tSrt k).2 ls (tX T n s))) ∨ (z.toInt = -1 ∧ kv E al w0 w2 ∧ kS w2 T n s ls ∧ tStep T n 0 0 ls s = none))) := by
  refine hG.in0 hf (d := 22) (as := [.inr (0, 75)]) ?_ hA
  show hG E al 22 89 0 [(0, .inr (0, 75))] [] [] w _
  refine ky_go hf hT hv.1 (by decide) (ρ := []) ks_0 trivial aFs.nil aHh.nil (by rfl) (by rfl) (lEr lE0) sE0 (lvk2 := [(0, .inr (0, 75))]) (lEr lE0) (stk2 := [.inr (1, 1), .inr (0, 75)]) (sEr (sEr sE0)) ?_
  refine kp_call hf hT H hv hs (d := 21) (by decide) (by decide) (by decide) (by decide) (by rfl) (fun e0 w2 hv2 hs2 => ?_) (fun e0 => ?_)
  · skip
    refine ky_go hf hT hv2.1 (by decide) (ρ := []) ks_s0 trivial aFs.nil aHh.nil (by rfl) (by rfl) (lEr lE0) (sEi ae_ev_k sE0) (lvk2 := []) lE0 (stk2 := [.inl (ae_k (0))]) (sEi ae_ev_k sE0) ?_
    exact hp_retI (pc := 53) (ty := .int) (x := 0) (by decide) (by decide +kernel) (by decide +kernel) (aV.k _) (fun n hn => rfl) (fun z hz => ⟨z, rfl, Or.inl ⟨0, by decide, hz, hv2, hs2, tw_lt e0, fun h9 => run_go (q := (1, 0, ls)) (by simp [tStep, show ¬ 9 ≤ ls.length by omega, e0])⟩⟩)
  refine ky_go hf hT hv.1 (by decide) (ρ := []) ks_n0 trivial aFs.nil aHh.nil (by rfl) (by rfl) (lEr lE0) (sEi ae_ev_k sE0) (lvk2 := [(0, .inr (0, 75))]) (lEr lE0) (stk2 := [.inr (1, 2), .inr (0, 75)]) (sEr (sEr sE0)) ?_
  refine kp_call hf hT H hv hs (d := 21) (by decide) (by decide) (by decide) (by decide) (by rfl) (fun e1 w2 hv2 hs2 => ?_) (fun e1 => ?_)
  · skip
    refine ky_go hf hT hv2.1 (by decide) (ρ := []) ks_s1 trivial aFs.nil aHh.nil (by rfl) (by rfl) (lEr lE0) (sEi ae_ev_k sE0) (lvk2 := []) lE0 (stk2 := [.inl (ae_k (1))]) (sEi ae_ev_k sE0) ?_
    exact hp_retI (pc := 53) (ty := .int) (x := 1) (by decide) (by decide +kernel) (by decide +kernel) (aV.k _) (fun n hn => rfl) (fun z hz => ⟨z, rfl, Or.inl ⟨1, by decide, hz, hv2, hs2, tw_lt e1, fun h9 => run_go (q := (2, 0, ls)) (by simp [tStep, show ¬ 9 ≤ ls.length by omega, e0, e1])⟩⟩)
  refine ky_go hf hT hv.1 (by decide) (ρ := []) ks_n1 trivial aFs.nil aHh.nil (by rfl) (by rfl) (lEr lE0) (sEi ae_ev_k sE0) (lvk2 := [(0, .inr (0, 75))]) (lEr lE0) (stk2 := [.inr (1, 3), .inr (0, 75)]) (sEr (sEr sE0)) ?_
  refine kp_call hf hT H hv hs (d := 21) (by decide) (by decide) (by decide) (by decide) (by rfl) (fun e2 w2 hv2 hs2 => ?_) (fun e2 => ?_)
  · skip
    refine ky_go hf hT hv2.1 (by decide) (ρ := []) ks_s2 trivial aFs.nil aHh.nil (by rfl) (by rfl) (lEr lE0) (sEi ae_ev_k sE0) (lvk2 := []) lE0 (stk2 := [.inl (ae_k (2))]) (sEi ae_ev_k sE0) ?_
    exact hp_retI (pc := 53) (ty := .int) (x := 2) (by decide) (by decide +kernel) (by decide +kernel) (aV.k _) (fun n hn => rfl) (fun z hz => ⟨z, rfl, Or.inl ⟨2, by decide, hz, hv2, hs2, tw_lt e2, fun h9 => run_go (q := (1, 2, ls)) (by simp [tStep, show ¬ 9 ≤ ls.length by omega, e0, e1, e2])⟩⟩)
  refine ky_go hf hT hv.1 (by decide) (ρ := []) ks_n2 trivial aFs.nil aHh.nil (by rfl) (by rfl) (lEr lE0) (sEi ae_ev_k sE0) (lvk2 := [(0, .inr (0, 75))]) (lEr lE0) (stk2 := [.inr (1, 4), .inr (0, 75)]) (sEr (sEr sE0)) ?_
  refine kp_call hf hT H hv hs (d := 21) (by decide) (by decide) (by decide) (by decide) (by rfl) (fun e3 w2 hv2 hs2 => ?_) (fun e3 => ?_)
  · skip
    refine ky_go hf hT hv2.1 (by decide) (ρ := []) ks_s3 trivial aFs.nil aHh.nil (by rfl) (by rfl) (lEr lE0) (sEi ae_ev_k sE0) (lvk2 := []) lE0 (stk2 := [.inl (ae_k (3))]) (sEi ae_ev_k sE0) ?_
    exact hp_retI (pc := 53) (ty := .int) (x := 3) (by decide) (by decide +kernel) (by decide +kernel) (aV.k _) (fun n hn => rfl) (fun z hz => ⟨z, rfl, Or.inl ⟨3, by decide, hz, hv2, hs2, tw_lt e3, fun h9 => run_go (q := (1, 3, ls)) (by simp [tStep, show ¬ 9 ≤ ls.length by omega, e0, e1, e2, e3])⟩⟩)
  refine ky_go hf hT hv.1 (by decide) (ρ := []) ks_n3 trivial aFs.nil aHh.nil (by rfl) (by rfl) (lEr lE0) (sEi ae_ev_k sE0) (lvk2 := []) lE0 (stk2 := [.inl (ae_k ((-1)))]) (sEi ae_ev_k sE0) ?_
  exact hp_retI (pc := 53) (ty := .int) (x := -1) (by decide) (by decide +kernel) (by decide +kernel) (aV.k _) (fun n hn => rfl) (fun z hz => ⟨z, rfl, Or.inr ⟨hz, hv, hs, by simp [tStep, e0, e1, e2, e3]⟩⟩)
/-- a slot of the lines alone is written -/
theorem kS.end {s L : Nat} {ls : tLs} (h : kS w T n s ls) (hd : hD [78] w w2) (f : ∀ k, k ≠ 4 * L + 3 → jS w2 78 k = jS w 78 k) : kS w2 T n s ls := by
  obtain ⟨g0, g1, g2, g3, g4, g5, g6⟩ := h
  have e : ∀ k, jS w2 75 k = jS w 75 k := fun k => jS.at (hd.2 75 (by decide))
  exact ⟨g0, (e 1).trans g1, (e 4).trans g2, (e 5).trans g3, g4, (jS.at (hd.2 77 (by decide))).trans g5, fun i hi => ⟨(f _ (by omega)).trans (g6 i hi).1, (f _ (by omega)).trans (g6 i hi).2⟩⟩
/-- a new line -/
theorem kS.line {s : Nat} {ls : tLs} {so v : Int} (h : kS w T n s ls) (hl : ls.length ≤ 8) (hd : hD [78, 77] w w2) (f7 : jS w2 77 3 = (ls.length : Int) + 1) (f0 : jS w2 78 (4 * ls.length) = so) (f1 : jS w2 78 (4 * ls.length + 1) = v) (f : ∀ k, k < 4 * ls.length → jS w2 78 k = jS w 78 k) : kS w2 T n s (ls ++ [(so, v)]) := by
  obtain ⟨g0, g1, g2, g3, g4, g5, g6⟩ := h
  have e : ∀ k, jS w2 75 k = jS w 75 k := fun k => jS.at (hd.2 75 (by decide))
  have len : (ls ++ [(so, v)]).length = ls.length + 1 := by simp
  refine ⟨g0, (e 1).trans g1, (e 4).trans g2, (e 5).trans g3, by omega, by rw [len, f7]; rfl, fun i hi => ?_⟩
  by_cases c : i < ls.length
  · have e2 : (ls ++ [(so, v)]).getD i (0, 0) = ls.getD i (0, 0) := by
      rw [List.getD_eq_getElem?_getD, List.getD_eq_getElem?_getD, List.getElem?_append_left c]
    rw [e2]
    exact ⟨(f _ (by omega)).trans (g6 i c).1, (f _ (by omega)).trans (g6 i c).2⟩
  · have e3 : i = ls.length := by omega
    subst e3
    have e2 : (ls ++ [(so, v)]).getD ls.length (0, 0) = (so, v) := by
      rw [List.getD_eq_getElem?_getD, List.getElem?_append_right (Nat.le_refl _), Nat.sub_self]
      rfl
    rw [e2]
    exact ⟨f0, f1⟩
/-- what readsLine answers -/
def kqQ (E : mj_E) (al : List Nat) (w0 : va_W) (T : Nat → Int) (n : Nat) (len : Nat) (R : Int × tLs) (v : Option Value) (w2 : va_W) : Prop := ∃ z : Int32, v = some (.int z) ∧ ∃ s2 ls2, kv E al w0 w2 ∧ kS w2 T n s2 ls2 ∧ ((z.toInt = 1 ∧ ls2.length = len + 1 ∧ R = run T n 0 0 ls2 s2) ∨ (z.toInt = 0 ∧ R.1 = (s2 : Int)))
/-- the line's end -/
theorem kq_157 (hf : E.2.2.2.1.category = 1) (hT : ∀ σ : List Int, aTb E σ aTabs) (H : kT w0 T n) (hv : kv E al w0 w) {s len : Nat} {ls : tLs} {R : Int × tLs} (hs : kS w T n s ls) {L : Nat} (hL : L ≤ 8) (hl : ls.length = len + 1) (h1 : tw 23 T n s = true → R = run T n 0 0 ls (tX T n s)) (h0 : tw 23 T n s = false → R.1 = (s : Int)) : hG E al 33 88 157 [(0, .inr (0, 75)), (3, .inl (ae_k (L : Int)))] [] [] w (kqQ E al w0 T n len R) := by
  have bc := (jLay_ok hv.1 (c := 79) (i := 3) (b := aF) (by decide +kernel)).2
  have sc := jLay_sl hv.1 kc_j79
  have hv0 := hv
  obtain ⟨a5, a6, a7, d⟩ := hv
  refine ky_lg hf hT a5 a6 a7 (by decide) (ρ := [(L : Int), (jS w 79 3)]) kq_a ⟨⟨by omega, by omega⟩, bc, trivial⟩ aFs.nil (aHh.cons (kn1 (i := 3) (by decide) rfl (ev_s rfl) sc) aHh.nil) (by rfl) (by rfl) (lEr (lEi (ev_s rfl) lE0)) sE0 (lvk2 := []) lE0 (stk2 := [.inr (1, 23), .inr (0, 75)]) (sEr (sEr sE0)) (fun w2 b1 b2 b3 b4 b5 => ?_)
  have f : ∀ k, k ≠ 4 * L + 3 → jS w2 78 k = jS w 78 k := fun k hk => by
    rw [b5 78 k]
    have e : (ae_ev [(L : Int), jS w 79 3] ([(0, 4)], 3)).toNat = 4 * L + 3 := by
      simp only [ae_ev, ae_el, List.getD_cons_zero]
      omega
    simp only [lg_ap, e]
    simp [hk]
  have hs2 := hs.end b4 f
  have hv2 := hv0.log b1 b2 b3 b4 (by decide)
  refine kp_call hf hT H hv2 hs2 (d := 32) (by decide) (by decide) (by decide) (by decide) (by rfl) (fun e w3 hv3 hs3 => ?_) (fun e => ?_)
  · exact kret (pc := 179) (b := 1) (by decide) (by decide) (by decide +kernel) (by decide +kernel) (fun z hz => ⟨z, rfl, tX T n s, ls, hv3, hs3, Or.inl ⟨hz, hl, h1 e⟩⟩)
  · exact kret (pc := 179) (b := 0) (by decide) (by decide) (by decide +kernel) (by decide +kernel) (fun z hz => ⟨z, rfl, s, ls, hv2, hs2, Or.inr ⟨hz, h0 e⟩⟩)
/-- the condition -/
theorem kq_149 (hf : E.2.2.2.1.category = 1) (hT : ∀ σ : List Int, aTb E σ aTabs) (H : kT w0 T n) (hv : kv E al w0 w) {s len : Nat} {ls : tLs} {R : Int × tLs} (hs : kS w T n s ls) {L : Nat} (hL : L ≤ 8) (hl : ls.length = len + 1) (h1 : R = run T n 5 0 ls s) : hG E al 33 88 149 [(0, .inr (0, 75)), (3, .inl (ae_k (L : Int)))] [.inl (ae_k ((0 : Nat) : Int)), .inr (0, 75)] [] w (kqQ E al w0 T n len R) := by
  have HV : hOk E al gV0 (fun _ => True) := hOkV hf hT (fun _ _ _ _ h => h)
  refine hp_callV HV (d := 32) (y2 := 93) (as := [.inr (0, 75), .inl (ae_k ((0 : Nat) : Int))]) (rest := []) (R := fun z w3 => ∃ s2, kv E al w0 w3 ∧ kS w3 T n s2 ls ∧ ((z.toInt = 1 ∧ s < s2 ∧ run T n 5 0 ls s = run T n 8 0 ls s2 ∧ tw 21 T n s2 = false ∧ tw 22 T n s2 = false) ∨ (z.toInt = 0 ∧ run T n 5 0 ls s = ((s2 : Int), ls)))) (by decide) (by rfl) (hW.e (J := fun _ => True) hv.1 trivial) (fun AS hA => kd_all hf hT H 4 (by decide) 0 ls s w (by decide) hv hs AS hA) (fun z w3 hR => ?_)
  obtain ⟨s2, hv3, hs3, ⟨hz, q1, q2, q3, q4⟩ | ⟨hz, q1⟩⟩ := hR
  · rw [hz]
    refine ky_go hf hT hv3.1 (by decide) (ρ := [(L : Int)]) kq_i ⟨⟨by omega, by omega⟩, trivial⟩ aFs.nil aHh.nil (by rfl) (by rfl) (lEr (lEi (ev_s rfl) lE0)) (sEi ae_ev_k sE0) (lvk2 := [(0, .inr (0, 75)), (3, .inl (ae_k ((L : Int))))]) (lEr (lEi (ev_s rfl) lE0)) (stk2 := []) sE0 ?_
    exact kq_157 hf hT H hv3 hs3 hL hl (fun e => by rw [h1, q2]; exact run_go (q := (0, 0, ls)) (by simp [tStep, q3, q4, e])) (fun e => by rw [h1, q2, run_no (by simp [tStep, q3, q4, e]) (Or.inr (by decide))])
  · rw [hz]
    refine hG.sub (lv2 := []) ?_ (fun q hq => by cases hq)
    refine ky_go hf hT hv3.1 (by decide) (ρ := []) kq_j trivial aFs.nil aHh.nil (by rfl) (by rfl) lE0 (sEi ae_ev_k sE0) (lvk2 := []) lE0 (stk2 := [.inl (ae_k (0))]) (sEi ae_ev_k sE0) ?_
    exact kret (pc := 156) (b := 0) (by decide) (by decide) (by decide +kernel) (by decide +kernel) (fun z hz => ⟨z, rfl, s2, ls, hv3, hs3, Or.inr ⟨hz, by rw [h1, q1]⟩⟩)
/-- the line is laid down -/
theorem kq_72 (hf : E.2.2.2.1.category = 1) (hT : ∀ σ : List Int, aTb E σ aTabs) (H : kT w0 T n) (hv : kv E al w0 w) {s : Nat} {ls : tLs} (hs : kS w T n s ls) (hl : ls.length ≤ 8) {so : Nat} {v : Int} (hso : so ≤ 3) (hv9 : -3 ≤ v ∧ v ≤ 9)
    (hk : ∀ w2, kv E al w0 w2 → kS w2 T n s (ls ++ [((so : Int), v)]) → hG E al 33 88 116 [(0, .inr (0, 75)), (1, .inl (ae_k (so : Int))), (2, .inl (ae_k v)), (3, .inl (ae_k (ls.length : Int)))] [] [] w2 Q) : hG E al 33 88 72 [(0, .inr (0, 75)), (1, .inl (ae_k (so : Int))), (2, .inl (ae_k v))] [] [] w Q := by
  have bc := (jLay_ok hv.1 (c := 79) (i := 3) (b := aF) (by decide +kernel)).2
  have sc := jLay_sl hv.1 kc_j79
  have sL := ksl hv.1 kc_j77 hs.2.2.2.2.2.1
  have hv0 := hv
  obtain ⟨a5, a6, a7, d⟩ := hv
  refine ky_lg hf hT a5 a6 a7 (by decide) (ρ := [(ls.length : Int), (so : Int), v, (jS w 79 3)]) kq_c ⟨⟨by omega, by omega⟩, ⟨by omega, by omega⟩, ⟨by omega, by omega⟩, bc, trivial⟩ aFs.nil (aHh.cons (kn1 (i := 3) (by decide) rfl (ev_s rfl) sL) (aHh.cons (kn1 (i := 3) (by decide) rfl (ev_s rfl) sc) aHh.nil)) (by rfl) (by rfl) (lEr (lEi (ev_s rfl) (lEi (ev_s rfl) lE0))) sE0 (lvk2 := [(0, .inr (0, 75)), (1, .inl (ae_k ((so : Int)))), (2, .inl (ae_k (v))), (3, .inl (ae_k ((ls.length : Int))))]) (lEr (lEi (ev_s rfl) (lEi (ev_s rfl) (lEi (ev_s rfl) lE0)))) (stk2 := []) sE0 (fun w2 b1 b2 b3 b4 b5 => ?_)
  obtain ⟨L, hL⟩ : ∃ L, ls.length = L := ⟨_, rfl⟩
  have ev : ∀ c : Int, 0 ≤ c → (ae_ev [(ls.length : Int), (so : Int), v, jS w 79 3] ([(0, 4)], c)).toNat = 4 * ls.length + c.toNat := fun c hc => by
    simp only [ae_ev, ae_el, List.getD_cons_zero]
    omega
  have e0 := ev 0 (by decide)
  have e1 := ev 1 (by decide)
  have e2 := ev 2 (by decide)
  have e3 := ev 3 (by decide)
  have t0 : (0 : Int).toNat = 0 := rfl
  have t1 : (1 : Int).toNat = 1 := rfl
  have t2 : (2 : Int).toNat = 2 := rfl
  have t3 : (3 : Int).toNat = 3 := rfl
  rw [t0, Nat.add_zero] at e0
  rw [t1] at e1
  rw [t2] at e2
  rw [t3] at e3
  have f : ∀ k, jS w2 78 k = if k = 4 * ls.length + 2 then jS w 79 3 else if k = 4 * ls.length + 1 then v else if k = 4 * ls.length then (so : Int) else if k = 4 * ls.length + 3 then 0 else if k = 4 * ls.length + 2 then 0 else if k = 4 * ls.length + 1 then 0 else if k = 4 * ls.length then 0 else jS w 78 k := fun k => by
    rw [b5 78 k]
    simp only [lg_ap, e0, e1, e2, e3]
    simp [ae_ev, ae_el, ae_s, ae_k]
  have f7 : jS w2 77 3 = (ls.length : Int) + 1 := by
    rw [b5 77 3]
    simp [lg_ap, ae_ev, ae_el, ae_s, ae_k]
  refine hk w2 (hv0.log b1 b2 b3 b4 (by decide)) (hs.line hl (b4.more (by decide)) f7 ?_ ?_ (fun k hk => ?_))
  · rw [f, if_neg (by omega), if_neg (by omega), if_pos rfl]
  · rw [f, if_neg (by omega), if_pos rfl]
  · rw [f, if_neg (by omega), if_neg (by omega), if_neg (by omega), if_neg (by omega), if_neg (by omega), if_neg (by omega), if_neg (by omega)]
/-- readsLine -/
theorem kq_mj (hf : E.2.2.2.1.category = 1) (hT : ∀ σ : List Int, aTb E σ aTabs) (H : kT w0 T n) (hv : kv E al w0 w) {s : Nat} {ls : tLs} (hs : kS w T n s ls) (hl : ls.length ≤ 8) (hsn : s < n) {AS : List Value} (hA : gL E al [] [.inr (0, 75)] AS) : MJ E 33 0 0 (mj_in0 88 AS w) (kqQ E al w0 T n ls.length (run T n 0 0 ls s)) := by
  have HV : hOk E al gV0 (fun _ => True) := hOkV hf hT (fun _ _ _ _ h => h)
  refine hG.in0 hf (d := 33) (as := [.inr (0, 75)]) ?_ hA
  show hG E al 33 88 0 [(0, .inr (0, 75))] [] [] w _
  refine ky_go hf hT hv.1 (by decide) (ρ := []) kq_0 trivial aFs.nil aHh.nil (by rfl) (by rfl) (lEr lE0) sE0 (lvk2 := [(0, .inr (0, 75))]) (lEr lE0) (stk2 := [.inr (0, 75)]) (sEr sE0) ?_
  refine hp_callV HV (d := 32) (y2 := 89) (as := [.inr (0, 75)]) (rest := []) (R := fun z w2 => (∃ k : Nat, k < 4 ∧ z.toInt = (k : Int) ∧ kv E al w0 w2 ∧ kS w2 T n (tX T n s) ls ∧ s < n ∧ (ls.length < 9 → run T n 0 0 ls s = run T n (tSrt k).1 (tSrt k).2 ls (tX T n s))) ∨ (z.toInt = -1 ∧ kv E al w0 w2 ∧ kS w2 T n s ls ∧ tStep T n 0 0 ls s = none)) (by decide) (by rfl) (hW.e (J := fun _ => True) hv.1 trivial) (fun AS hA => (ks_mj hf hT H hv hs hA).weaken (by decide) (Nat.le_refl _) (Nat.le_refl _) (fun v w3 h => h)) (fun z w2 hR => ?_)
  rcases hR with ⟨k, hk, hz, hv2, hs2, -, hr⟩ | ⟨hz, hv2, hs2, hr⟩
  · rw [hz, hr (by omega)]
    obtain ⟨s1, e1⟩ : ∃ s1, tX T n s = s1 := ⟨_, rfl⟩
    rw [e1] at hs2 ⊢
    -- the number
    have num : ∀ (so g : Nat), (so = 0 ∨ so = 2 ∨ so = 3) → g = (if so = 2 then 5 else 9) → hG E al 33 88 33 [(0, .inr (0, 75)), (1, .inl (ae_k (so : Int)))] [.inl (ae_k (g : Int)), .inr (0, 75)] [] w2 (kqQ E al w0 T n ls.length (run T n 1 so ls s1)) := by
      intro so g hso hg
      have eg : (g : Int) = (if so = 2 then 5 else 9) := by rw [hg]; split <;> rfl
      have b := tN_b (T := T) (n := n) (s := s1) (g := (g : Int)) (by omega)
      refine kn_call hf hT H hv2 hs2 (d := 32) (by rw [hg]; split <;> decide) (by decide) (by decide) (by rfl) (fun e w3 hv3 hs3 => ?_) (fun e => ?_)
      · have st := run_go (T := T) (n := n) (k := 1) (o := so) (s := s1) (ls := ls) (q := (if so = 0 then 3 else if so = 2 then 4 else 9, 0, ls ++ [((so : Int), tN (g : Int) T n s1)])) (by
          show (if tN (if so = 2 then 5 else 9) T n s1 = -1 then none else some (if so = 0 then 3 else if so = 2 then 4 else 9, 0, ls ++ [((so : Int), tN (if so = 2 then 5 else 9) T n s1)])) = _
          rw [← eg, if_neg e])
        rw [st]
        obtain ⟨s2, e2⟩ : ∃ s2, tX T n s1 = s2 := ⟨_, rfl⟩
        rw [e2] at hs3 ⊢
        obtain ⟨v, ev⟩ : ∃ v : Nat, tN (g : Int) T n s1 = (v : Int) := ⟨(tN (g : Int) T n s1).toNat, by omega⟩
        rw [ev] at b ⊢
        have len : (ls ++ [((so : Int), (v : Int))]).length = ls.length + 1 := by simp
        rcases hso with rfl | rfl | rfl
        · have hg : g = 9 := hg
          subst hg
          refine ky_go hf hT hv3.1 (by decide) (ρ := [(v : Int)]) kq_50 ⟨⟨by omega, by omega⟩, trivial⟩ aFs.nil aHh.nil (by rfl) (by rfl) (lEr (lEi ae_ev_k lE0)) (sEi (ev_s rfl) sE0) (lvk2 := [(0, .inr (0, 75)), (1, .inl (ae_k (0))), (2, .inl (ae_k ((v : Int))))]) (lEr (lEi ae_ev_k (lEi (ev_s rfl) lE0))) (stk2 := []) sE0 ?_
          refine kq_72 hf hT H hv3 hs3 hl (so := 0) (by decide) (by omega) (fun w4 hv4 hs4 => ?_)
          refine hG.sub (lv2 := [(0, .inr (0, 75)), (3, .inl (ae_k (ls.length : Int))), (1, .inl (ae_k ((0 : Nat) : Int)))]) ?_ (fun q hq => by
            simp only [List.mem_cons, List.not_mem_nil, or_false] at hq
            rcases hq with rfl | rfl | rfl <;> simp)
          refine ky_go hf hT hv4.1 (by decide) (ρ := [(ls.length : Int)]) kq_f0 ⟨⟨by omega, by omega⟩, trivial⟩ aFs.nil aHh.nil (by rfl) (by rfl) (lEr (lEi (ev_s rfl) (lEi ae_ev_k lE0))) sE0 (lvk2 := [(0, .inr (0, 75)), (3, .inl (ae_k ((ls.length : Int))))]) (lEr (lEi (ev_s rfl) lE0)) (stk2 := [.inr (1, 6), .inr (0, 75)]) (sEr (sEr sE0)) ?_
          refine kp_call hf hT H hv4 hs4 (d := 32) (by decide) (by decide) (by decide) (by decide) (by rfl) (fun e6 w5 hv5 hs5 => ?_) (fun e6 => ?_)
          · skip
            refine ky_go hf hT hv5.1 (by decide) (ρ := [(ls.length : Int)]) kq_g ⟨⟨by omega, by omega⟩, trivial⟩ aFs.nil aHh.nil (by rfl) (by rfl) (lEr (lEi (ev_s rfl) lE0)) (sEi ae_ev_k sE0) (lvk2 := [(0, .inr (0, 75)), (3, .inl (ae_k ((ls.length : Int))))]) (lEr (lEi (ev_s rfl) lE0)) (stk2 := [.inl (ae_k (0)), .inr (0, 75)]) (sEi ae_ev_k (sEr sE0)) ?_
            exact kq_149 hf hT H hv5 hs5 hl len (run_go (k := 3) (q := (5, 0, ls ++ [(((0 : Nat) : Int), (v : Int))])) (by simp [tStep, e6]))
          · skip
            refine ky_go hf hT hv4.1 (by decide) (ρ := [(ls.length : Int)]) kq_h ⟨⟨by omega, by omega⟩, trivial⟩ aFs.nil aHh.nil (by rfl) (by rfl) (lEr (lEi (ev_s rfl) lE0)) (sEi ae_ev_k sE0) (lvk2 := [(0, .inr (0, 75)), (3, .inl (ae_k ((ls.length : Int))))]) (lEr (lEi (ev_s rfl) lE0)) (stk2 := []) sE0 ?_
            exact kq_157 hf hT H hv4 hs4 hl len (fun e => run_go (k := 3) (q := (0, 0, ls ++ [(((0 : Nat) : Int), (v : Int))])) (by simp [tStep, e6, e])) (fun e => by
              show (run T n 3 0 (ls ++ [(((0 : Nat) : Int), (v : Int))]) s2).1 = _
              rw [run_no (by simp [tStep, e6, e]) (Or.inr (by decide))])
        · have hg : g = 5 := hg
          subst hg
          refine ky_go hf hT hv3.1 (by decide) (ρ := [(v : Int)]) kq_6 ⟨⟨by omega, by omega⟩, trivial⟩ aFs.nil aHh.nil (by rfl) (by rfl) (lEr (lEi ae_ev_k lE0)) (sEi (ev_s rfl) sE0) (lvk2 := [(0, .inr (0, 75)), (1, .inl (ae_k (2))), (2, .inl (ae_k ((v : Int))))]) (lEr (lEi ae_ev_k (lEi (ev_s rfl) lE0))) (stk2 := [.inr (1, 5), .inr (0, 75)]) (sEr (sEr sE0)) ?_
          show hG E al 33 88 50 _ _ _ w3 (kqQ E al w0 T n ls.length (run T n 4 0 (ls ++ [(((2 : Nat) : Int), (v : Int))]) s2))
          refine kp_call hf hT H hv3 hs3 (d := 32) (by decide) (by decide) (by decide) (by decide) (by rfl) (fun e5 w5 hv5 hs5 => ?_) (fun e5 => ?_)
          · skip
            refine ky_go hf hT hv5.1 (by decide) (ρ := [(v : Int)]) kq_7 ⟨⟨by omega, by omega⟩, trivial⟩ aFs.nil aHh.nil (by rfl) (by rfl) (lEr (lEi ae_ev_k (lEi (ev_s rfl) lE0))) (sEi ae_ev_k sE0) (lvk2 := [(0, .inr (0, 75)), (1, .inl (ae_k (2))), (2, .inl (ae_k ((v : Int))))]) (lEr (lEi ae_ev_k (lEi (ev_s rfl) lE0))) (stk2 := []) sE0 ?_
            refine kq_72 hf hT H hv5 hs5 hl (so := 2) (by decide) (by omega) (fun w6 hv6 hs6 => ?_)
            refine hG.sub (lv2 := [(0, .inr (0, 75)), (3, .inl (ae_k (ls.length : Int))), (1, .inl (ae_k ((2 : Nat) : Int)))]) ?_ (fun q hq => by
              simp only [List.mem_cons, List.not_mem_nil, or_false] at hq
              rcases hq with rfl | rfl | rfl <;> simp)
            refine ky_go hf hT hv6.1 (by decide) (ρ := [(ls.length : Int)]) kq_d ⟨⟨by omega, by omega⟩, trivial⟩ aFs.nil aHh.nil (by rfl) (by rfl) (lEr (lEi (ev_s rfl) (lEi ae_ev_k lE0))) sE0 (lvk2 := [(0, .inr (0, 75)), (3, .inl (ae_k ((ls.length : Int))))]) (lEr (lEi (ev_s rfl) lE0)) (stk2 := [.inl (ae_k (0)), .inr (0, 75)]) (sEi ae_ev_k (sEr sE0)) ?_
            exact kq_149 hf hT H hv6 hs6 hl len (run_go (k := 4) (q := (5, 0, ls ++ [(((2 : Nat) : Int), (v : Int))])) (by simp [tStep, e5]))
          · refine hG.sub (lv2 := []) ?_ (fun q hq => by cases hq)
            refine ky_go hf hT hv3.1 (by decide) (ρ := []) kq_8 trivial aFs.nil aHh.nil (by rfl) (by rfl) lE0 (sEi ae_ev_k sE0) (lvk2 := []) lE0 (stk2 := [.inl (ae_k (0))]) (sEi ae_ev_k sE0) ?_
            exact kret (pc := 71) (b := 0) (by decide) (by decide) (by decide +kernel) (by decide +kernel) (fun z hz => ⟨z, rfl, s2, ls, hv3, hs3, Or.inr ⟨hz, by rw [run_no (by simp [tStep, e5]) (Or.inr (by decide))]⟩⟩)
        · have hg : g = 9 := hg
          subst hg
          refine ky_go hf hT hv3.1 (by decide) (ρ := [(v : Int)]) kq_53 ⟨⟨by omega, by omega⟩, trivial⟩ aFs.nil aHh.nil (by rfl) (by rfl) (lEr (lEi ae_ev_k lE0)) (sEi (ev_s rfl) sE0) (lvk2 := [(0, .inr (0, 75)), (1, .inl (ae_k (3))), (2, .inl (ae_k ((v : Int))))]) (lEr (lEi ae_ev_k (lEi (ev_s rfl) lE0))) (stk2 := []) sE0 ?_
          refine kq_72 hf hT H hv3 hs3 hl (so := 3) (by decide) (by omega) (fun w4 hv4 hs4 => ?_)
          refine hG.sub (lv2 := [(0, .inr (0, 75)), (3, .inl (ae_k (ls.length : Int))), (1, .inl (ae_k ((3 : Nat) : Int)))]) ?_ (fun q hq => by
            simp only [List.mem_cons, List.not_mem_nil, or_false] at hq
            rcases hq with rfl | rfl | rfl <;> simp)
          refine ky_go hf hT hv4.1 (by decide) (ρ := [(ls.length : Int)]) kq_e ⟨⟨by omega, by omega⟩, trivial⟩ aFs.nil aHh.nil (by rfl) (by rfl) (lEr (lEi (ev_s rfl) (lEi ae_ev_k lE0))) sE0 (lvk2 := [(0, .inr (0, 75)), (3, .inl (ae_k ((ls.length : Int))))]) (lEr (lEi (ev_s rfl) lE0)) (stk2 := []) sE0 ?_
          exact kq_157 hf hT H hv4 hs4 hl len (fun e => run_go (k := 9) (q := (0, 0, ls ++ [(((3 : Nat) : Int), (v : Int))])) (by simp [tStep, e])) (fun e => by
              show (run T n 9 0 (ls ++ [(((3 : Nat) : Int), (v : Int))]) s2).1 = _
              rw [run_no (by simp [tStep, e]) (Or.inr (by decide))])
      · have st : (run T n 1 so ls s1).1 = (s1 : Int) := by
          rw [run_no (T := T) (n := n) (k := 1) (o := so) (s := s1) (ls := ls) (by
            show (if tN (if so = 2 then 5 else 9) T n s1 = -1 then none else some (if so = 0 then 3 else if so = 2 then 4 else 9, 0, ls ++ [((so : Int), tN (if so = 2 then 5 else 9) T n s1)])) = none
            rw [← eg, if_pos e]) (Or.inr (by decide))]
        rcases hso with rfl | rfl | rfl
        · skip
          refine ky_go hf hT hv2.1 (by decide) (ρ := []) kq_40 trivial aFs.nil aHh.nil (by rfl) (by rfl) (lEr (lEi ae_ev_k lE0)) (sEi ae_ev_k sE0) (lvk2 := []) lE0 (stk2 := [.inl (ae_k (0))]) (sEi ae_ev_k sE0) ?_
          exact kret (pc := 71) (b := 0) (by decide) (by decide) (by decide +kernel) (by decide +kernel) (fun z hz => ⟨z, rfl, s1, ls, hv2, hs2, Or.inr ⟨hz, st⟩⟩)
        · skip
          refine ky_go hf hT hv2.1 (by decide) (ρ := []) kq_42 trivial aFs.nil aHh.nil (by rfl) (by rfl) (lEr (lEi ae_ev_k lE0)) (sEi ae_ev_k sE0) (lvk2 := []) lE0 (stk2 := [.inl (ae_k (0))]) (sEi ae_ev_k sE0) ?_
          exact kret (pc := 71) (b := 0) (by decide) (by decide) (by decide +kernel) (by decide +kernel) (fun z hz => ⟨z, rfl, s1, ls, hv2, hs2, Or.inr ⟨hz, st⟩⟩)
        · skip
          refine ky_go hf hT hv2.1 (by decide) (ρ := []) kq_43 trivial aFs.nil aHh.nil (by rfl) (by rfl) (lEr (lEi ae_ev_k lE0)) (sEi ae_ev_k sE0) (lvk2 := []) lE0 (stk2 := [.inl (ae_k (0))]) (sEi ae_ev_k sE0) ?_
          exact kret (pc := 71) (b := 0) (by decide) (by decide) (by decide +kernel) (by decide +kernel) (fun z hz => ⟨z, rfl, s1, ls, hv2, hs2, Or.inr ⟨hz, st⟩⟩)
    rcases (by omega : k = 0 ∨ k = 1 ∨ k = 2 ∨ k = 3) with rfl | rfl | rfl | rfl
    · skip
      refine ky_go hf hT hv2.1 (by decide) (ρ := []) kq_20 trivial aFs.nil aHh.nil (by rfl) (by rfl) (lEr lE0) (sEi ae_ev_k sE0) (lvk2 := [(0, .inr (0, 75)), (1, .inl (ae_k (0)))]) (lEr (lEi ae_ev_k lE0)) (stk2 := [.inl (ae_k (9)), .inr (0, 75)]) (sEi ae_ev_k (sEr sE0)) ?_
      exact num 0 9 (by decide) (by decide)
    · skip
      refine ky_go hf hT hv2.1 (by decide) (ρ := []) kq_3 trivial aFs.nil aHh.nil (by rfl) (by rfl) (lEr lE0) (sEi ae_ev_k sE0) (lvk2 := [(0, .inr (0, 75)), (1, .inl (ae_k (1))), (2, .inl (ae_k ((-3))))]) (lEr (lEi ae_ev_k (lEi ae_ev_k lE0))) (stk2 := [.inr (1, 6), .inr (0, 75)]) (sEr (sEr sE0)) ?_
      show hG E al 33 88 64 _ _ _ w2 (kqQ E al w0 T n ls.length (run T n 2 0 ls s1))
      refine ki_call hf hT H hv2 hs2 (d := 32) (by decide) (by decide) (by decide) (by decide) (by rfl) (fun e6 => ?_) (fun e6 => ?_)
      · have len : (ls ++ [(((1 : Nat) : Int), (-3 : Int))]).length = ls.length + 1 := by simp
        refine ky_go hf hT hv2.1 (by decide) (ρ := []) kq_9 trivial aFs.nil aHh.nil (by rfl) (by rfl) (lEr (lEi ae_ev_k (lEi ae_ev_k lE0))) (sEi ae_ev_k sE0) (lvk2 := [(0, .inr (0, 75)), (1, .inl (ae_k (1))), (2, .inl (ae_k ((-3))))]) (lEr (lEi ae_ev_k (lEi ae_ev_k lE0))) (stk2 := []) sE0 ?_
        refine kq_72 hf hT H hv2 hs2 hl (so := 1) (v := -3) (by decide) (by decide) (fun w4 hv4 hs4 => ?_)
        refine hG.sub (lv2 := [(0, .inr (0, 75)), (3, .inl (ae_k (ls.length : Int))), (1, .inl (ae_k ((1 : Nat) : Int)))]) ?_ (fun q hq => by
          simp only [List.mem_cons, List.not_mem_nil, or_false] at hq
          rcases hq with rfl | rfl | rfl <;> simp)
        refine ky_go hf hT hv4.1 (by decide) (ρ := [(ls.length : Int)]) kq_f1 ⟨⟨by omega, by omega⟩, trivial⟩ aFs.nil aHh.nil (by rfl) (by rfl) (lEr (lEi (ev_s rfl) (lEi ae_ev_k lE0))) sE0 (lvk2 := [(0, .inr (0, 75)), (3, .inl (ae_k ((ls.length : Int))))]) (lEr (lEi (ev_s rfl) lE0)) (stk2 := [.inr (1, 6), .inr (0, 75)]) (sEr (sEr sE0)) ?_
        refine kp_call hf hT H hv4 hs4 (d := 32) (by decide) (by decide) (by decide) (by decide) (by rfl) (fun _ w5 hv5 hs5 => ?_) (fun e7 => by rw [e6] at e7; cases e7)
        refine ky_go hf hT hv5.1 (by decide) (ρ := [(ls.length : Int)]) kq_g ⟨⟨by omega, by omega⟩, trivial⟩ aFs.nil aHh.nil (by rfl) (by rfl) (lEr (lEi (ev_s rfl) lE0)) (sEi ae_ev_k sE0) (lvk2 := [(0, .inr (0, 75)), (3, .inl (ae_k ((ls.length : Int))))]) (lEr (lEi (ev_s rfl) lE0)) (stk2 := [.inl (ae_k (0)), .inr (0, 75)]) (sEi ae_ev_k (sEr sE0)) ?_
        exact kq_149 hf hT H hv5 hs5 hl len (run_go (k := 2) (q := (5, 0, ls ++ [(((1 : Nat) : Int), (-3 : Int))])) (by simp [tStep, e6]))
      · refine hG.sub (lv2 := []) ?_ (fun q hq => by cases hq)
        refine ky_go hf hT hv2.1 (by decide) (ρ := []) kq_b trivial aFs.nil aHh.nil (by rfl) (by rfl) lE0 (sEi ae_ev_k sE0) (lvk2 := []) lE0 (stk2 := [.inl (ae_k (0))]) (sEi ae_ev_k sE0) ?_
        exact kret (pc := 71) (b := 0) (by decide) (by decide) (by decide +kernel) (by decide +kernel) (fun z hz => ⟨z, rfl, s1, ls, hv2, hs2, Or.inr ⟨hz, by rw [run_no (by simp [tStep, e6]) (Or.inr (by decide))]⟩⟩)
    · skip
      refine ky_go hf hT hv2.1 (by decide) (ρ := []) kq_22 trivial aFs.nil aHh.nil (by rfl) (by rfl) (lEr lE0) (sEi ae_ev_k sE0) (lvk2 := [(0, .inr (0, 75)), (1, .inl (ae_k (2)))]) (lEr (lEi ae_ev_k lE0)) (stk2 := [.inl (ae_k (5)), .inr (0, 75)]) (sEi ae_ev_k (sEr sE0)) ?_
      exact num 2 5 (by decide) (by decide)
    · skip
      refine ky_go hf hT hv2.1 (by decide) (ρ := []) kq_23 trivial aFs.nil aHh.nil (by rfl) (by rfl) (lEr lE0) (sEi ae_ev_k sE0) (lvk2 := [(0, .inr (0, 75)), (1, .inl (ae_k (3)))]) (lEr (lEi ae_ev_k lE0)) (stk2 := [.inl (ae_k (9)), .inr (0, 75)]) (sEi ae_ev_k (sEr sE0)) ?_
      exact num 3 9 (by decide) (by decide)
  · rw [hz]
    refine hG.sub (lv2 := []) ?_ (fun q hq => by cases hq)
    refine ky_go hf hT hv2.1 (by decide) (ρ := []) kq_1 trivial aFs.nil aHh.nil (by rfl) (by rfl) lE0 (sEi ae_ev_k sE0) (lvk2 := []) lE0 (stk2 := [.inl (ae_k (0))]) (sEi ae_ev_k sE0) ?_
    exact kret (pc := 10) (b := 0) (by decide) (by decide) (by decide +kernel) (by decide +kernel) (fun z hz => ⟨z, rfl, s, ls, hv2, hs2, Or.inr ⟨hz, by rw [run_no hr (Or.inl hsn)]⟩⟩)
/-- readsText, line by line -/
def ktQ (E : mj_E) (al : List Nat) (w0 : va_W) (T : Nat → Int) (n : Nat) (R : Int × tLs) (v : Option Value) (w2 : va_W) : Prop := ∃ z : Int32, v = some (.int z) ∧ ∃ s2 ls2, kv E al w0 w2 ∧ kS w2 T n s2 ls2 ∧ ((z.toInt = 1 ∧ R = (-1, ls2)) ∨ (z.toInt = 0 ∧ R.1 = (s2 : Int)))
theorem kt_go (hf : E.2.2.2.1.category = 1) (hT : ∀ σ : List Int, aTb E σ aTabs) (H : kT w0 T n) {R : Int × tLs} : ∀ (m : Nat) (ls : tLs) (s : Nat) (w : va_W), 9 - ls.length ≤ m → kv E al w0 w → kS w T n s ls → R = run T n 0 0 ls s → hG E al 34 84 25 [(0, .inr (0, 75)), (1, .inl (ae_k (ls.length : Int)))] [] [] w (ktQ E al w0 T n R) := by
  have bn := H.1
  have HV : hOk E al gV0 (fun _ => True) := hOkV hf hT (fun _ _ _ _ h => h)
  intro m
  induction m with
  | zero =>
    intro ls s w hm hv hs hr
    have hs0 := hs.1
    have e9 : ls.length = 9 := by have := hs.2.2.2.2.1; omega
    have s1 := ksl hv.1 kc_j1 hs.2.1
    have s4 := ksl hv.1 kc_j4 hs.2.2.1
    by_cases c : s < n
    · rw [e9]
      refine ky_go hf hT hv.1 (by decide) (ρ := [(n : Int), (s : Int)]) kt_6 ⟨⟨by omega, by omega⟩, ⟨by omega, by omega⟩, trivial⟩ (aFs.cons rfl (by simp only [ae_ev, ae_el, ae_s, ae_k, List.getD_cons_zero, List.getD_cons_succ]; omega) aFs.nil) (aHh.cons (kn1 (i := 4) (by decide) rfl (ev_s rfl) s4) (aHh.cons (kn1 (i := 1) (by decide) rfl (ev_s rfl) s1) aHh.nil)) (by rfl) (by rfl) (lEr (lEi ae_ev_k lE0)) sE0 (lvk2 := []) lE0 (stk2 := [.inl (ae_k (0))]) (sEi ae_ev_k sE0) ?_
      exact kret (pc := 73) (b := 0) (by decide) (by decide) (by decide +kernel) (by decide +kernel) (fun z hz => ⟨z, rfl, s, ls, hv, hs, Or.inr ⟨hz, by rw [hr, run_no (by simp [tStep, e9]) (Or.inl c)]⟩⟩)
    · have e : s = n := by omega
      rw [e] at s4
      refine ky_go hf hT hv.1 (by decide) (ρ := [(n : Int), (ls.length : Int)]) kt_5 ⟨⟨by omega, by omega⟩, ⟨by omega, by omega⟩, trivial⟩ aFs.nil (aHh.cons (kn1 (i := 4) (by decide) rfl (ev_s rfl) s4) (aHh.cons (kn1 (i := 1) (by decide) rfl (ev_s rfl) s1) aHh.nil)) (by rfl) (by rfl) (lEr (lEi (ev_s rfl) lE0)) sE0 (lvk2 := []) lE0 (stk2 := [.inl (ae_k (1))]) (sEi ae_ev_k sE0) ?_
      exact kret (pc := 73) (b := 1) (by decide) (by decide) (by decide +kernel) (by decide +kernel) (fun z hz => ⟨z, rfl, s, ls, hv, hs, Or.inl ⟨hz, by rw [hr, run_end (by omega)]⟩⟩)
  | succ m ih =>
    intro ls s w hm hv hs hr
    have hs0 := hs.1
    have l9 := hs.2.2.2.2.1
    have s1 := ksl hv.1 kc_j1 hs.2.1
    have s4 := ksl hv.1 kc_j4 hs.2.2.1
    by_cases c : s < n
    · by_cases e9 : ls.length = 9
      · rw [e9]
        refine ky_go hf hT hv.1 (by decide) (ρ := [(n : Int), (s : Int)]) kt_6 ⟨⟨by omega, by omega⟩, ⟨by omega, by omega⟩, trivial⟩ (aFs.cons rfl (by simp only [ae_ev, ae_el, ae_s, ae_k, List.getD_cons_zero, List.getD_cons_succ]; omega) aFs.nil) (aHh.cons (kn1 (i := 4) (by decide) rfl (ev_s rfl) s4) (aHh.cons (kn1 (i := 1) (by decide) rfl (ev_s rfl) s1) aHh.nil)) (by rfl) (by rfl) (lEr (lEi ae_ev_k lE0)) sE0 (lvk2 := []) lE0 (stk2 := [.inl (ae_k (0))]) (sEi ae_ev_k sE0) ?_
        exact kret (pc := 73) (b := 0) (by decide) (by decide) (by decide +kernel) (by decide +kernel) (fun z hz => ⟨z, rfl, s, ls, hv, hs, Or.inr ⟨hz, by rw [hr, run_no (by simp [tStep, e9]) (Or.inl c)]⟩⟩)
      · skip
        refine ky_go hf hT hv.1 (by decide) (ρ := [(n : Int), (s : Int), (ls.length : Int)]) kt_2 ⟨⟨by omega, by omega⟩, ⟨by omega, by omega⟩, ⟨by omega, by omega⟩, trivial⟩ (aFs.cons rfl (by simp only [ae_ev, ae_el, ae_s, ae_k, List.getD_cons_zero, List.getD_cons_succ]; omega) aFs.nil) (aHh.cons (kn1 (i := 4) (by decide) rfl (ev_s rfl) s4) (aHh.cons (kn1 (i := 1) (by decide) rfl (ev_s rfl) s1) aHh.nil)) (by rfl) (by rfl) (lEr (lEi (ev_s rfl) lE0)) sE0 (lvk2 := [(0, .inr (0, 75)), (1, .inl (ae_k ((ls.length : Int))))]) (lEr (lEi (ev_s rfl) lE0)) (stk2 := [.inr (0, 75)]) (sEr sE0) ?_
        refine hp_callV HV (d := 33) (y2 := 88) (as := [.inr (0, 75)]) (rest := []) (R := fun z w2 => ∃ s2 ls2, kv E al w0 w2 ∧ kS w2 T n s2 ls2 ∧ ((z.toInt = 1 ∧ ls2.length = ls.length + 1 ∧ run T n 0 0 ls s = run T n 0 0 ls2 s2) ∨ (z.toInt = 0 ∧ (run T n 0 0 ls s).1 = (s2 : Int)))) (by decide) (by rfl) (hW.e (J := fun _ => True) hv.1 trivial) (fun AS hA => kq_mj hf hT H hv hs (by omega) c hA) (fun z w2 hR => ?_)
        obtain ⟨s2, ls2, hv2, hs2, ⟨hz, hl2, q⟩ | ⟨hz, q⟩⟩ := hR
        · rw [hz]
          refine ky_go hf hT hv2.1 (by decide) (ρ := [(ls.length : Int)]) kt_3 ⟨⟨by omega, by omega⟩, trivial⟩ aFs.nil aHh.nil (by rfl) (by rfl) (lEr (lEi (ev_s rfl) lE0)) (sEi ae_ev_k sE0) (lvk2 := [(0, .inr (0, 75)), (1, .inl (ae_k ((ls2.length : Int))))]) (lEr (lEi (by simp only [ae_ev, ae_el, ae_s, ae_k, List.getD_cons_zero, List.getD_cons_succ]; omega) lE0)) (stk2 := []) sE0 ?_
          exact ih ls2 s2 w2 (by omega) hv2 hs2 (hr.trans q)
        · rw [hz]
          refine hG.sub (lv2 := []) ?_ (fun q hq => by cases hq)
          refine ky_go hf hT hv2.1 (by decide) (ρ := []) kt_4 trivial aFs.nil aHh.nil (by rfl) (by rfl) lE0 (sEi ae_ev_k sE0) (lvk2 := []) lE0 (stk2 := [.inl (ae_k (0))]) (sEi ae_ev_k sE0) ?_
          exact kret (pc := 50) (b := 0) (by decide) (by decide) (by decide +kernel) (by decide +kernel) (fun z hz => ⟨z, rfl, s2, ls2, hv2, hs2, Or.inr ⟨hz, by rw [hr]; exact q⟩⟩)
    · have e : s = n := by omega
      rw [e] at s4
      refine ky_go hf hT hv.1 (by decide) (ρ := [(n : Int), (ls.length : Int)]) kt_5 ⟨⟨by omega, by omega⟩, ⟨by omega, by omega⟩, trivial⟩ aFs.nil (aHh.cons (kn1 (i := 4) (by decide) rfl (ev_s rfl) s4) (aHh.cons (kn1 (i := 1) (by decide) rfl (ev_s rfl) s1) aHh.nil)) (by rfl) (by rfl) (lEr (lEi (ev_s rfl) lE0)) sE0 (lvk2 := []) lE0 (stk2 := [.inl (ae_k (1))]) (sEi ae_ev_k sE0) ?_
      exact kret (pc := 73) (b := 1) (by decide) (by decide) (by decide +kernel) (by decide +kernel) (fun z hz => ⟨z, rfl, s, ls, hv, hs, Or.inl ⟨hz, by rw [hr, run_end (by omega)]⟩⟩)
/-- readsText -/
theorem kt_mj (hf : E.2.2.2.1.category = 1) (hT : ∀ σ : List Int, aTb E σ aTabs) (H : kT w0 T n) (a5 : aWd E al aLay w0) (a6 : aRs aRules w0) (a7 : jJ0 w0) (h1 : jS w0 75 1 = (n : Int)) {AS : List Value} (hA : gL E al [] [.inr (0, 75)] AS) : MJ E 34 0 0 (mj_in0 84 AS w0) (ktQ E al w0 T n (run T n 0 0 [] (tS T n 0))) := by
  have HV : hOk E al gV0 (fun _ => True) := hOkV hf hT (fun _ _ _ _ h => h)
  have hv0 : kv E al w0 w0 := ⟨a5, a6, a7, hD.refl⟩
  refine hG.in0 hf (d := 34) (as := [.inr (0, 75)]) ?_ hA
  show hG E al 34 84 0 [(0, .inr (0, 75))] [] [] w0 _
  refine ky_lg hf hT a5 a6 a7 (by decide) (ρ := []) kt_0 trivial aFs.nil aHh.nil (by rfl) (by rfl) (lEr lE0) sE0 (lvk2 := [(0, .inr (0, 75))]) (lEr lE0) (stk2 := [.inr (0, 75)]) (sEr sE0) (fun w2 b1 b2 b3 b4 b5 => ?_)
  have hv2 := hv0.log b1 b2 b3 b4 (by decide)
  have f5 : ∀ k, jS w2 75 k = if k = 5 then ((0 : Nat) : Int) else jS w0 75 k := fun k => by
    rw [b5 75 k]
    simp [lg_ap, ae_ev, ae_el, ae_s, ae_k]
  have f7 : jS w2 77 3 = 0 := by
    rw [b5 77 3]
    simp [lg_ap, ae_ev, ae_el, ae_s, ae_k]
  refine hp_call HV (d := 33) (y2 := 86) (as := [.inr (0, 75)]) (rest := []) (R := fun w3 => kv E al w0 w3 ∧ kS w3 T n (tS T n 0) []) (by decide) (by rfl) (hW.e (J := fun _ => True) hv2.1 trivial) (fun AS hA => (kl_mj hf hT H hv2 (by rw [f5]; exact h1) (Nat.zero_le n) (by rw [f5]; rfl) hA).weaken (by decide) (Nat.le_refl _) (Nat.le_refl _) (fun v w3 h => ⟨h.1, h.2.1, (tS_le (Nat.zero_le n)).2, h.2.2.2.1, h.2.2.2.2.1, h.2.2.2.2.2, by decide, (jS.at (h.2.2.1.2 77 (by decide))).trans f7, fun i hi => absurd hi (Nat.not_lt_zero i)⟩)) (fun w3 hR => ?_)
  refine ky_go hf hT hR.1.1 (by decide) (ρ := []) kt_1 trivial aFs.nil aHh.nil (by rfl) (by rfl) (lEr lE0) sE0 (lvk2 := [(0, .inr (0, 75)), (1, .inl (ae_k ((([] : tLs).length : Int))))]) (lEr (lEi ae_ev_k lE0)) (stk2 := []) sE0 ?_
  exact kt_go hf hT H 9 [] (tS T n 0) w3 (by decide) hR.1 hR.2 rfl
/-- what read answers, how many versions there are then -/
def rdA (f : Int) (v : Int) : Int := if 0 ≤ f then -100 - f else if v = 8 then -2 else v
def rdV (f : Int) (v : Int) : Int := if 0 ≤ f then v else if v = 8 then v else v + 1
/-- addVersion -/
theorem kw_mj (hf : E.2.2.2.1.category = 1) (hT : ∀ σ : List Int, aTb E σ aTabs) (a5 : aWd E al aLay w) (a6 : aRs aRules w) (a7 : jJ0 w) {V : Int} (hV : 0 ≤ V ∧ V ≤ 7) (h3 : jS w 22 3 = V) {AS : List Value} (hA : gL E al [] [.inr (0, 1), .inr (0, 75)] AS) :
    MJ E 34 0 0 (mj_in0 97 AS w) (fun v w2 => ∃ z : Int32, v = some (.int z) ∧ z.toInt = V ∧ aWd E al aLay w2 ∧ aRs aRules w2 ∧ jJ0 w2 ∧ hD [22, 23, 25, 27] w w2 ∧ jS w2 22 3 = V + 1) := by
  have s3 := ksl a5 kc_j22 h3
  have hA2 : gL E al [V] [.inr (0, 1), .inr (0, 75)] AS := hA
  refine (ai00L hf hT (cs := []) (fun c hc => by cases hc) (q := kw_I) (by decide) kw_k [V] AS w (hEv.ok (σ := [V]) (env := [(0, 7)]) ⟨hV, trivial⟩) aFs.nil hA2 (aHh.cons (kn1 (i := 3) (by decide) rfl (ev_s rfl) s3) aHh.nil) a5 a6 a7 34 (by decide)).weaken (Nat.le_refl _) (Nat.le_refl _) (Nat.le_refl _) (fun v w2 h => ?_)
  obtain ⟨cs, hcs, r, h1, h2, h3, h4, h5, h6, h7, h8, h9⟩ := h
  have hcs := List.mem_singleton.mp hcs
  subst hcs
  obtain ⟨u, rfl, z, rfl, hz⟩ := h3
  refine ⟨z, rfl, hz.ev.trans (ev_s rfl), h5, h6, h7, ⟨h8, fun c hc => h9 c hc⟩, ?_⟩
  rw [jHe_get (c := 22) (i := 3) h4 List.mem_cons_self (by decide)]
  simp only [ae_ev, ae_el, List.cons_append, List.getD_cons_zero]
  omega
/-- read, the component -/
theorem kz_mj (hf : E.2.2.2.1.category = 1) (hT : ∀ σ : List Int, aTb E σ aTabs) (H : kT w T n) (a5 : aWd E al aLay w) (a6 : aRs aRules w) (a7 : jJ0 w) (h1 : jS w 75 1 = (n : Int)) {V : Int} (hV : 0 ≤ V ∧ V ≤ 8) (h3 : jS w 22 3 = V) {AS : List Value} (hA : gL E al [] [.inr (0, 0)] AS) :
    MJ E 35 0 0 (mj_in0 83 AS w) (fun v w2 => ∃ z : Int32, v = some (.int z) ∧ z.toInt = rdA (run T n 0 0 [] (tS T n 0)).1 V ∧ aWd E al aLay w2 ∧ aRs aRules w2 ∧ jJ0 w2 ∧ hD [75, 77, 78, 79, 80, 22, 23, 25, 27] w w2 ∧ jS w2 75 1 = 0 ∧ jS w2 22 3 = rdV (run T n 0 0 [] (tS T n 0)).1 V) := by
  have HV : hOk E al gV0 (fun _ => True) := hOkV hf hT (fun _ _ _ _ h => h)
  have bn := H.1
  refine hG.in0 hf (d := 35) (as := [.inr (0, 0)]) ?_ hA
  show hG E al 35 83 0 [(0, .inr (0, 0))] [] [] w _
  refine ky_go hf hT a5 (by decide) (ρ := []) kz_0 trivial aFs.nil aHh.nil (by rfl) (by rfl) (lEr lE0) sE0 (lvk2 := [(0, .inr (0, 0))]) (lEr lE0) (stk2 := [.inr (0, 75)]) (sEr sE0) ?_
  refine hp_callV HV (d := 34) (y2 := 84) (as := [.inr (0, 75)]) (rest := []) (R := fun z w2 => ∃ s2 ls2, kv E al w w2 ∧ kS w2 T n s2 ls2 ∧ ((z.toInt = 1 ∧ run T n 0 0 [] (tS T n 0) = (-1, ls2)) ∨ (z.toInt = 0 ∧ (run T n 0 0 [] (tS T n 0)).1 = (s2 : Int)))) (by decide) (by rfl) (hW.e (J := fun _ => True) a5 trivial) (fun AS hA => kt_mj hf hT H a5 a6 a7 h1 hA) (fun z w1 hR => ?_)
  obtain ⟨s2, ls2, hv, hs, q⟩ := hR
  have hs0 := hs.1
  have e22 : jS w1 22 3 = V := (jS.at (hv.2.2.2.2 22 (by decide))).trans h3
  have s22 := ksl hv.1 kc_j22 e22
  have s4 := ksl hv.1 kc_j4 hs.2.2.1
  obtain ⟨a5, a6, a7, d⟩ := hv
  rcases q with ⟨hz, q⟩ | ⟨hz, q⟩
  · rw [hz, q]
    by_cases c8 : V = 8
    · rw [c8] at s22
      refine ky_lg hf hT a5 a6 a7 (by decide) (ρ := []) kz_2 trivial aFs.nil (aHh.cons (kn1 (i := 3) (by decide) rfl ae_ev_k s22) aHh.nil) (by rfl) (by rfl) (lEr lE0) (sEi ae_ev_k sE0) (lvk2 := []) lE0 (stk2 := [.inl (ae_k ((-2)))]) (sEi ae_ev_k sE0) (fun w2 b1 b2 b3 b4 b5 => ?_)
      have f : ∀ k, jS w2 75 k = if k = 1 then 0 else jS w1 75 k := fun k => by
        rw [b5 75 k]
        simp [lg_ap, ae_ev, ae_el, ae_s, ae_k]
      exact hp_retI (pc := 46) (ty := .int) (x := -2) (by decide) (by decide +kernel) (by decide +kernel) (aV.k _) (fun n hn => rfl) (fun z hz => ⟨z, rfl, by rw [hz, c8] <;> rfl, b1, b2, b3, (d.more (by decide)).trans (b4.more (by decide)), by rw [f]; rfl, by rw [jS.at (b4.2 22 (by decide)), e22, c8] <;> rfl⟩)
    · skip
      refine ky_lg hf hT a5 a6 a7 (by decide) (ρ := [V]) kz_3 ⟨⟨by omega, by omega⟩, trivial⟩ aFs.nil (aHh.cons (kn1 (i := 3) (by decide) rfl (ev_s rfl) s22) aHh.nil) (by rfl) (by rfl) (lEr lE0) (sEi ae_ev_k sE0) (lvk2 := []) lE0 (stk2 := [.inr (0, 75), .inr (0, 1)]) (sEr (sEr sE0)) (fun w2 b1 b2 b3 b4 b5 => ?_)
      have f : ∀ k, jS w2 75 k = if k = 1 then 0 else jS w1 75 k := fun k => by
        rw [b5 75 k]
        simp [lg_ap, ae_ev, ae_el, ae_s, ae_k]
      refine hp_callV HV (d := 34) (y2 := 97) (as := [.inr (0, 1), .inr (0, 75)]) (rest := []) (R := fun z w3 => z.toInt = V ∧ aWd E al aLay w3 ∧ aRs aRules w3 ∧ jJ0 w3 ∧ hD [22, 23, 25, 27] w2 w3 ∧ jS w3 22 3 = V + 1) (by decide) (by rfl) (hW.e (J := fun _ => True) b1 trivial) (fun AS hA => kw_mj hf hT b1 b2 b3 ⟨hV.1, by omega⟩ ((jS.at (b4.2 22 (by decide))).trans e22) hA) (fun z3 w3 hR => ?_)
      obtain ⟨g0, g1, g2, g3, g4, g5⟩ := hR
      refine hp_retI (pc := 58) (ty := .int) (x := z3.toInt) (by decide) (by decide +kernel) (by decide +kernel) (aV.k _) (fun n hn => rfl) (fun z hz => ⟨z, rfl, ?_, g1, g2, g3, (d.more (by decide)).trans ((b4.more (by decide)).trans (g4.more (by decide))), by rw [jS.at (g4.2 75 (by decide)), f]; rfl, ?_⟩)
      · rw [hz, g0]
        unfold rdA
        rw [if_neg (show ¬ (0 : Int) ≤ -1 by decide), if_neg c8]
      · rw [g5]
        unfold rdV
        rw [if_neg (show ¬ (0 : Int) ≤ -1 by decide), if_neg c8]
  · rw [hz, q]
    refine ky_lg hf hT a5 a6 a7 (by decide) (ρ := [(s2 : Int)]) kz_1 ⟨⟨by omega, by omega⟩, trivial⟩ aFs.nil (aHh.cons (kn1 (i := 4) (by decide) rfl (ev_s rfl) s4) aHh.nil) (by rfl) (by rfl) (lEr lE0) (sEi ae_ev_k sE0) (lvk2 := []) lE0 (stk2 := [.inl (ae_k (-100 - (s2 : Int)))]) (sEi (by simp only [ae_ev, ae_el, ae_s, ae_k, List.getD_cons_zero, List.getD_cons_succ]; omega) sE0) (fun w2 b1 b2 b3 b4 b5 => ?_)
    have f : ∀ k, jS w2 75 k = if k = 1 then 0 else jS w1 75 k := fun k => by
      rw [b5 75 k]
      simp [lg_ap, ae_ev, ae_el, ae_s, ae_k]
    refine hp_retI (pc := 30) (ty := .int) (x := -100 - (s2 : Int)) (by decide) (by decide +kernel) (by decide +kernel) (aV.k _) (fun n hn => rfl) (fun z hz => ⟨z, rfl, ?_, b1, b2, b3, (d.more (by decide)).trans (b4.more (by decide)), by rw [f]; rfl, ?_⟩)
    · rw [hz]
      unfold rdA
      rw [if_pos (by omega)]
    · rw [jS.at (b4.2 22 (by decide)), e22]
      unfold rdV
      rw [if_pos (by omega)]
end RT
