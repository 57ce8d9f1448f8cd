/-! ROAD, the component -/
section
set_option maxRecDepth 100000
theorem fc_0 : lp_chk (aG00 []) 84 116 (0, [(1, 4), (1, 99)], [], [], [(0, .inr (0, 81)), (1, .inr (0, 1)), (2, .inl (ae_s 0)), (3, .inl (ae_s 1))], []) 12 [(0, .inr (0, 81))] [.inl (ae_k 0), .inl (ae_k 0), .inl (ae_s 1), .inl (ae_k 0), .inl (ae_s 0), .inr (0, 1), .inr (0, 81)] [(81, some (ae_k 2, ae_k 0))] = true := by decide +kernel
theorem fc_1 : hp_chk gV0 1000 84 116 (15, [(1, 5)], [], [((81, ae_k 2), ae_s 0)], [(0, .inr (0, 81))], []) [] [(27, [(1, 5)], [], [], [.inl (ae_k 1)], [], [], mMU)] = true := by decide +kernel
theorem fc_2 : hp_chk gV0 1000 84 116 (15, [], [], [((81, ae_k 2), ae_k 0)], [(0, .inr (0, 81))], []) [] [(27, [], [], [], [.inl (ae_k 0)], [], [], mMU)] = true := by decide +kernel
theorem rc_b1 : hp_chk gV0 1000 85 115 (0, [aF, aF, aF], [ae_s 0], [], [(0, .inr (0, 0)), (1, .inl (ae_s 0)), (2, .inl (ae_s 1)), (3, .inl (ae_s 2))], []) [] [(22, [aF, aF, aF], [], [], [.inl (ae_k (-1))], [], [], mMU)] = true := by decide +kernel
theorem rc_b2 : hp_chk gV0 1000 85 115 (0, [aF, aF, aF], [([(0, (-1))], 5)], [], [(0, .inr (0, 0)), (1, .inl (ae_s 0)), (2, .inl (ae_s 1)), (3, .inl (ae_s 2))], []) [] [(22, [aF, aF, aF], [], [], [.inl (ae_k (-1))], [], [], mMU)] = true := by decide +kernel
theorem rc_b3 : hp_chk gV0 1000 85 115 (0, [(1, 4), aF, aF], [ae_s 1], [], [(0, .inr (0, 0)), (1, .inl (ae_s 0)), (2, .inl (ae_s 1)), (3, .inl (ae_s 2))], []) [] [(22, [(1, 4), aF, aF], [], [], [.inl (ae_k (-1))], [], [], mMU)] = true := by decide +kernel
theorem rc_b4 : hp_chk gV0 1000 85 115 (0, [(1, 4), aF, aF], [([(1, (-1))], 100)], [], [(0, .inr (0, 0)), (1, .inl (ae_s 0)), (2, .inl (ae_s 1)), (3, .inl (ae_s 2))], []) [] [(22, [(1, 4), aF, aF], [], [], [.inl (ae_k (-1))], [], [], mMU)] = true := by decide +kernel
theorem rc_b5 : hp_chk gV0 1000 85 115 (0, [(1, 4), (1, 99), aF], [([(2, 1)], 1)], [], [(0, .inr (0, 0)), (1, .inl (ae_s 0)), (2, .inl (ae_s 1)), (3, .inl (ae_s 2))], []) [] [(22, [(1, 4), (1, 99), aF], [], [], [.inl (ae_k (-1))], [], [], mMU)] = true := by decide +kernel
theorem rc_0 : hp_chk gV0 1000 85 115 (0, [(1, 4), (1, 99), (0, aI1)], [], [], [(0, .inr (0, 0)), (1, .inl (ae_s 0)), (2, .inl (ae_s 1)), (3, .inl (ae_s 2))], []) [] [(33, [(1, 4), (1, 99), (0, aI1)], [], [(0, .inr (0, 0)), (1, .inl (ae_s 0)), (2, .inl (ae_s 1)), (3, .inl (ae_s 2))], [.inl (ae_s 1), .inl (ae_s 0), .inr (0, 1), .inr (0, 81)], [], [], mMU)] = true := by decide +kernel
theorem rc_1 : hp_chk gV0 1000 85 115 (36, [(1, 4), (1, 99), (0, aI1)], [], [], [(0, .inr (0, 0)), (1, .inl (ae_s 0)), (2, .inl (ae_s 1)), (3, .inl (ae_s 2))], [.inl (ae_k 0)]) [] [(41, [(1, 4), (1, 99), (0, aI1)], [], [], [.inl (ae_k (-3))], [], [], mMU)] = true := by decide +kernel
theorem rc_2 : hp_chk gV0 1000 85 115 (36, [(1, 4), (1, 99), (0, 99)], [], [((81, ae_k 3), ae_s 2)], [(0, .inr (0, 0)), (1, .inl (ae_s 0)), (2, .inl (ae_s 1)), (3, .inl (ae_k 0))], [.inl (ae_k 1)]) [] [(55, [(1, 4), (1, 99), (0, 99)], [], [], [.inl (([(1, 1), (2, (-1))], 0))], [], [], mMU)] = true := by decide +kernel
theorem rc_3 : hp_chk gV0 1000 85 115 (36, [(1, 4), (1, 99), (0, 45)], [], [((81, ae_k 4), ae_s 2)], [(0, .inr (0, 0)), (1, .inl (ae_s 0)), (2, .inl (ae_s 1)), (3, .inl (ae_k 1))], [.inl (ae_k 1)]) [] [(68, [(1, 4), (1, 99), (0, 45)], [], [], [.inl (ae_s 2)], [], [], mMU)] = true := by decide +kernel
theorem rc_4 : hp_chk gV0 1000 85 115 (36, [(1, 4), (1, 99), (2, 6), (1, 5), aF], [([(2, 1), (3, (-1))], (-1))], [((81, ae_k 2), ae_s 3), ((83, ([(2, 1)], (-2))), ae_s 4)], [(0, .inr (0, 0)), (1, .inl (ae_s 0)), (2, .inl (ae_s 1)), (3, .inl (ae_s 2))], [.inl (ae_k 1)]) [] [(79, [(1, 4), (1, 99), (2, 6), (1, 5), aF], [], [], [.inl (ae_s 4)], [], [], mMU)] = true := by decide +kernel
theorem rc_5 : hp_chk gV0 1000 85 115 (36, [(1, 4), (1, 99), (2, aI1), (1, 5)], [([(2, (-1)), (3, 1)], 2)], [((81, ae_k 2), ae_s 3)], [(0, .inr (0, 0)), (1, .inl (ae_s 0)), (2, .inl (ae_s 1)), (3, .inl (ae_s 2))], [.inl (ae_k 1)]) [] [(79, [(1, 4), (1, 99), (2, aI1), (1, 5)], [], [], [.inl (ae_k (-3))], [], [], mMU)] = true := by decide +kernel
end
section RE
variable {E : mj_E} {al : List Nat} {w0 w : va_W} {S : Nat → Nat}
/-- the road, and what is told of it -/
def rd_B (S : Nat → Nat) (n port : Nat) : List Nat := (rd_ws S 5 [port]).foldl (rd_tk S n) []
def rd_T (S : Nat → Nat) (n : Nat) (B : List Nat) (what : Int) : Int :=
  if B = [] then -3 else if what = 0 then (n : Int) - (rd_L S n B : Int) else if what = 1 then (rd_W S B : Int) else if what - 2 < (B.length : Int) then (rd_at B (what - 2).toNat : Int) else -3
def rd_R (S : Nat → Nat) (port n what : Int) : Int := if 1 ≤ port ∧ port ≤ 4 ∧ 1 ≤ n ∧ n ≤ 99 ∧ 0 ≤ what then rd_T S n.toNat (rd_B S n.toNat port.toNat) what else -1
theorem jL_83 : ∀ k, k < 5 → (jLay 83 k).isSome = true := by decide +kernel
theorem fr_mj (hf : E.2.2.2.1.category = 1) (hT : ∀ σ : List Int, aTb E σ aTabs) {n port : Nat} (H : cd w S) (hn : 1 ≤ n ∧ n ≤ 99) (hp : 1 ≤ port ∧ port ≤ 4) (a5 : aWd E al aLay w) (a6 : aRs aRules w) (a7 : jJ0 w) {AS : List Value} (hA : gL E al [] [.inr (0, 81), .inr (0, 1), .inl (ae_k (port : Int)), .inl (ae_k (n : Int))] AS) :
    MJ E 84 0 0 (mj_in0 116 AS w) (fun v w2 => ∃ z : Int32, v = some (.int z) ∧ z.toInt = (if rd_B S n port = [] then 0 else 1) ∧ cv E al w w2 ∧ cs S n w2 (rd_B S n port)) := by
  have HV : hOk E al gV0 (fun _ => True) := hOkV hf hT (fun _ _ _ h => h)
  refine hG.in0 hf (d := 84) (as := [.inr (0, 81), .inr (0, 1), .inl (ae_k (port : Int)), .inl (ae_k (n : Int))]) ?_ hA
  show hG E al 84 116 0 [(0, .inr (0, 81)), (1, .inr (0, 1)), (2, .inl (ae_k (port : Int))), (3, .inl (ae_k (n : Int)))] [] [] w _
  refine ky_lg hf hT a5 a6 a7 (by decide) (ρ := [(port : Int), (n : Int)]) fc_0 ⟨⟨by omega, by omega⟩, ⟨by omega, by omega⟩, trivial⟩ aFs.nil aHh.nil (by rfl) (by rfl) (lEr (lEr (lEi (ev_s rfl) (lEi (ev_s rfl) lE0)))) sE0 (lvk2 := [(0, .inr (0, 81))]) (lEr lE0) (stk2 := [.inl (ae_k (0)), .inl (ae_k (0)), .inl (ae_k ((n : Int))), .inl (ae_k (0)), .inl (ae_k ((port : Int))), .inr (0, 1), .inr (0, 81)]) (sEi ae_ev_k (sEi ae_ev_k (sEi (ev_s rfl) (sEi ae_ev_k (sEi (ev_s rfl) (sEr (sEr sE0))))))) (fun w2 b1 b2 b3 b4 b5 => ?_)
  have v2 : cv E al w w2 := ⟨b1, b2, b3, b4.more (by decide)⟩
  have s2 : cs S n w2 [] := ⟨by simp, by rw [b5 81 2]; simp [lg_ap, ae_ev, ae_el, ae_k], fun h => absurd rfl h⟩
  refine hp_call HV (d := 83) (y2 := 117) (as := [.inr (0, 81), .inr (0, 1), .inl (ae_k (port : Int)), .inl (ae_k 0), .inl (ae_k (n : Int)), .inl (ae_k 0), .inl (ae_k 0)]) (rest := []) (by decide) (by rfl) (hW.e (J := fun _ => True) b1 trivial)
    (fun AS h => (wt_mj hf hT H hn.2 5 (by decide) port [] [] w2 rfl (fun q hq => by
      have := List.mem_singleton.mp hq
      omega) v2 (fun i hi => absurd hi (by simp)) s2 AS h).weaken (by decide) (Nat.le_refl _) (Nat.le_refl _) (fun v w h => h)) (fun w3 hR => ?_)
  obtain ⟨r1, r2, r3⟩ := hR
  have r3 : cs S n w3 (rd_B S n port) := r3
  have r10 := r1
  obtain ⟨a5, a6, a7, d⟩ := r1
  have sl : aSl w3 81 2 ((rd_B S n port).length : Int) := by rw [← r3.2.1]; exact jLay_sl a5 (by decide +kernel)
  by_cases e : rd_B S n port = []
  · have sl : aSl w3 81 2 0 := by rw [e] at sl; exact sl
    refine ky_go hf hT a5 (by decide) (ρ := []) fc_2 trivial aFs.nil (aHh.cons (kn1 (i := 2) (by decide) rfl ae_ev_k sl) aHh.nil) (by rfl) (by rfl) (lEr lE0) sE0 (lvk2 := []) lE0 (stk2 := [.inl (ae_k (0))]) (sEi ae_ev_k sE0) ?_
    exact hp_retI (pc := 27) (ty := .boolean) (x := 0) (by decide) (by decide +kernel) (by decide +kernel) (aV.k _) (fun n hn => by rw [show n = 0 from Int32.toInt_inj.mp (by rw [hn]; rfl)]; decide) (fun z hz => ⟨z, rfl, by rw [hz, if_pos e], r10, r3⟩)
  · have l1 : 1 ≤ (rd_B S n port).length := by
      cases h : rd_B S n port with
      | nil => exact absurd h e
      | cons a t => simp
    have l5 := r3.1
    refine ky_go hf hT a5 (by decide) (ρ := [((rd_B S n port).length : Int)]) fc_1 ⟨⟨by omega, by omega⟩, trivial⟩ aFs.nil (aHh.cons (kn1 (i := 2) (by decide) rfl (ev_s rfl) sl) aHh.nil) (by rfl) (by rfl) (lEr lE0) sE0 (lvk2 := []) lE0 (stk2 := [.inl (ae_k (1))]) (sEi ae_ev_k sE0) ?_
    exact hp_retI (pc := 27) (ty := .boolean) (x := 1) (by decide) (by decide +kernel) (by decide +kernel) (aV.k _) (fun n hn => by rw [show n = 1 from Int32.toInt_inj.mp (by rw [hn]; rfl)]; decide) (fun z hz => ⟨z, rfl, by rw [hz, if_neg e], r10, r3⟩)
/-- road, the component -/
theorem rdc_mj (hf : E.2.2.2.1.category = 1) (hT : ∀ σ : List Int, aTb E σ aTabs) (a5 : aWd E al aLay w) (a6 : aRs aRules w) (a7 : jJ0 w) (H : cd w S) {port n what : Int} (hx : aI0 ≤ port ∧ port ≤ aI1) (hy : aI0 ≤ n ∧ n ≤ aI1) (hz : aI0 ≤ what ∧ what ≤ aI1) {AS : List Value} (hA : gL E al [] [.inr (0, 0), .inl (ae_k port), .inl (ae_k n), .inl (ae_k what)] AS) :
    MJ E 85 0 0 (mj_in0 115 AS w) (fun v w2 => ∃ z : Int32, v = some (.int z) ∧ z.toInt = rd_R S port n what ∧ cv E al w w2) := by
  have HV : hOk E al gV0 (fun _ => True) := hOkV hf hT (fun _ _ _ h => h)
  refine hG.in0 hf (d := 85) (as := [.inr (0, 0), .inl (ae_k port), .inl (ae_k n), .inl (ae_k what)]) ?_ hA
  show hG E al 85 115 0 [(0, .inr (0, 0)), (1, .inl (ae_k port)), (2, .inl (ae_k n)), (3, .inl (ae_k what))] [] [] w _
  by_cases b1 : port ≤ 0
  · refine ky_go hf hT a5 (by decide) (ρ := [port, n, what]) rc_b1 ⟨hx, hy, hz, trivial⟩ (aFs.cons rfl (by simp only [ae_ev, ae_el, ae_s, ae_k, List.getD_cons_zero, List.getD_cons_succ]; omega) aFs.nil) aHh.nil (by rfl) (by rfl) (lEr (lEi (ev_s rfl) (lEi (ev_s rfl) (lEi (ev_s rfl) lE0)))) sE0 (lvk2 := []) lE0 (stk2 := [.inl (ae_k ((-1)))]) (sEi ae_ev_k sE0) ?_
    exact hp_retI (pc := 22) (ty := .int) (x := -1) (by decide) (by decide +kernel) (by decide +kernel) (aV.k _) (fun n hn => rfl) (fun z hz => ⟨z, rfl, by rw [hz]; unfold rd_R; rw [if_neg (by omega)], a5, a6, a7, hD.refl⟩)
  by_cases b2 : 5 ≤ port
  · refine ky_go hf hT a5 (by decide) (ρ := [port, n, what]) rc_b2 ⟨hx, hy, hz, trivial⟩ (aFs.cons rfl (by simp only [ae_ev, ae_el, ae_s, ae_k, List.getD_cons_zero, List.getD_cons_succ]; omega) aFs.nil) aHh.nil (by rfl) (by rfl) (lEr (lEi (ev_s rfl) (lEi (ev_s rfl) (lEi (ev_s rfl) lE0)))) sE0 (lvk2 := []) lE0 (stk2 := [.inl (ae_k ((-1)))]) (sEi ae_ev_k sE0) ?_
    exact hp_retI (pc := 22) (ty := .int) (x := -1) (by decide) (by decide +kernel) (by decide +kernel) (aV.k _) (fun n hn => rfl) (fun z hz => ⟨z, rfl, by rw [hz]; unfold rd_R; rw [if_neg (by omega)], a5, a6, a7, hD.refl⟩)
  by_cases b3 : n ≤ 0
  · refine ky_go hf hT a5 (by decide) (ρ := [port, n, what]) rc_b3 ⟨⟨by omega, by omega⟩, hy, hz, trivial⟩ (aFs.cons rfl (by simp only [ae_ev, ae_el, ae_s, ae_k, List.getD_cons_zero, List.getD_cons_succ]; omega) aFs.nil) aHh.nil (by rfl) (by rfl) (lEr (lEi (ev_s rfl) (lEi (ev_s rfl) (lEi (ev_s rfl) lE0)))) sE0 (lvk2 := []) lE0 (stk2 := [.inl (ae_k ((-1)))]) (sEi ae_ev_k sE0) ?_
    exact hp_retI (pc := 22) (ty := .int) (x := -1) (by decide) (by decide +kernel) (by decide +kernel) (aV.k _) (fun n hn => rfl) (fun z hz => ⟨z, rfl, by rw [hz]; unfold rd_R; rw [if_neg (by omega)], a5, a6, a7, hD.refl⟩)
  by_cases b4 : 100 ≤ n
  · refine ky_go hf hT a5 (by decide) (ρ := [port, n, what]) rc_b4 ⟨⟨by omega, by omega⟩, hy, hz, trivial⟩ (aFs.cons rfl (by simp only [ae_ev, ae_el, ae_s, ae_k, List.getD_cons_zero, List.getD_cons_succ]; omega) aFs.nil) aHh.nil (by rfl) (by rfl) (lEr (lEi (ev_s rfl) (lEi (ev_s rfl) (lEi (ev_s rfl) lE0)))) sE0 (lvk2 := []) lE0 (stk2 := [.inl (ae_k ((-1)))]) (sEi ae_ev_k sE0) ?_
    exact hp_retI (pc := 22) (ty := .int) (x := -1) (by decide) (by decide +kernel) (by decide +kernel) (aV.k _) (fun n hn => rfl) (fun z hz => ⟨z, rfl, by rw [hz]; unfold rd_R; rw [if_neg (by omega)], a5, a6, a7, hD.refl⟩)
  by_cases b5 : what ≤ -1
  · refine ky_go hf hT a5 (by decide) (ρ := [port, n, what]) rc_b5 ⟨⟨by omega, by omega⟩, ⟨by omega, by omega⟩, hz, trivial⟩ (aFs.cons rfl (by simp only [ae_ev, ae_el, ae_s, ae_k, List.getD_cons_zero, List.getD_cons_succ]; omega) aFs.nil) aHh.nil (by rfl) (by rfl) (lEr (lEi (ev_s rfl) (lEi (ev_s rfl) (lEi (ev_s rfl) lE0)))) sE0 (lvk2 := []) lE0 (stk2 := [.inl (ae_k ((-1)))]) (sEi ae_ev_k sE0) ?_
    exact hp_retI (pc := 22) (ty := .int) (x := -1) (by decide) (by decide +kernel) (by decide +kernel) (aV.k _) (fun n hn => rfl) (fun z hz => ⟨z, rfl, by rw [hz]; unfold rd_R; rw [if_neg (by omega)], a5, a6, a7, hD.refl⟩)
  obtain ⟨p, rfl⟩ : ∃ p : Nat, port = p := ⟨port.toNat, by omega⟩
  obtain ⟨k, rfl⟩ : ∃ k : Nat, n = k := ⟨n.toNat, by omega⟩
  have ans : rd_R S p k what = rd_T S k (rd_B S k p) what := by
    unfold rd_R
    rw [if_pos (by omega), Int.toNat_natCast, Int.toNat_natCast]
  rw [ans]
  refine ky_go hf hT a5 (by decide) (ρ := [(p : Int), (k : Int), what]) rc_0 ⟨⟨by omega, by omega⟩, ⟨by omega, by omega⟩, ⟨by omega, hz.2⟩, trivial⟩ aFs.nil aHh.nil (by rfl) (by rfl) (lEr (lEi (ev_s rfl) (lEi (ev_s rfl) (lEi (ev_s rfl) lE0)))) sE0 (lvk2 := [(0, .inr (0, 0)), (1, .inl (ae_k ((p : Int)))), (2, .inl (ae_k ((k : Int)))), (3, .inl (ae_k (what)))]) (lEr (lEi (ev_s rfl) (lEi (ev_s rfl) (lEi (ev_s rfl) lE0)))) (stk2 := [.inl (ae_k ((k : Int))), .inl (ae_k ((p : Int))), .inr (0, 1), .inr (0, 81)]) (sEi (ev_s rfl) (sEi (ev_s rfl) (sEr (sEr sE0)))) ?_
  refine hp_callV HV (d := 84) (y2 := 116) (as := [.inr (0, 81), .inr (0, 1), .inl (ae_k (p : Int)), .inl (ae_k (k : Int))]) (rest := []) (by decide) (by rfl) (hW.e (J := fun _ => True) a5 trivial) (fun AS h => fr_mj hf hT H ⟨by omega, by omega⟩ ⟨by omega, by omega⟩ a5 a6 a7 h) (fun z w2 hR => ?_)
  obtain ⟨q1, q2, q3⟩ := hR
  rw [q1]
  have q20 := q2
  obtain ⟨a5, a6, a7, d⟩ := q2
  have s2 : aSl w2 81 2 ((rd_B S k p).length : Int) := by rw [← q3.2.1]; exact jLay_sl a5 (by decide +kernel)
  generalize rd_B S k p = B at *
  by_cases e : B = []
  · rw [if_pos e]
    refine ky_go hf hT a5 (by decide) (ρ := [(p : Int), (k : Int), what]) rc_1 ⟨⟨by omega, by omega⟩, ⟨by omega, by omega⟩, ⟨by omega, hz.2⟩, trivial⟩ aFs.nil aHh.nil (by rfl) (by rfl) (lEr (lEi (ev_s rfl) (lEi (ev_s rfl) (lEi (ev_s rfl) lE0)))) (sEi ae_ev_k sE0) (lvk2 := []) lE0 (stk2 := [.inl (ae_k ((-3)))]) (sEi ae_ev_k sE0) ?_
    exact hp_retI (pc := 41) (ty := .int) (x := -3) (by decide) (by decide +kernel) (by decide +kernel) (aV.k _) (fun n hn => rfl) (fun z hz => ⟨z, rfl, by rw [hz]; unfold rd_T; rw [if_pos e], q20⟩)
  rw [if_neg e]
  obtain ⟨c3, c4, c5⟩ := q3.2.2 e
  have s3 : aSl w2 81 3 (rd_L S k B : Int) := by rw [← c3]; exact jLay_sl a5 (by decide +kernel)
  have s4 : aSl w2 81 4 (rd_W S B : Int) := by rw [← c4]; exact jLay_sl a5 (by decide +kernel)
  have l1 : 1 ≤ B.length := by
    cases B with
    | nil => exact absurd rfl e
    | cons a t => simp
  have l5 := q3.1
  have bl := rd_L_le (S := S) (n := k) (w := B)
  have bw := rd_W_le (S := S) H.2 (w := B)
  by_cases w1 : what = 0
  · subst w1
    refine ky_go hf hT a5 (by decide) (ρ := [(p : Int), (k : Int), (rd_L S k B : Int)]) rc_2 ⟨⟨by omega, by omega⟩, ⟨by omega, by omega⟩, ⟨by omega, by omega⟩, trivial⟩ aFs.nil (aHh.cons (kn1 (i := 3) (by decide) rfl (ev_s rfl) s3) aHh.nil) (by rfl) (by rfl) (lEr (lEi (ev_s rfl) (lEi (ev_s rfl) (lEi ae_ev_k lE0)))) (sEi ae_ev_k sE0) (lvk2 := []) lE0 (stk2 := [.inl (ae_k (((k : Int) - (rd_L S k B : Int))))]) (sEi (by simp only [ae_ev, ae_el, ae_s, ae_k, List.getD_cons_zero, List.getD_cons_succ]; omega) sE0) ?_
    exact hp_retI (pc := 55) (ty := .int) (x := ((k : Int) - (rd_L S k B : Int))) (by decide) (by decide +kernel) (by decide +kernel) (aV.k _) (fun n hn => rfl) (fun z hz => ⟨z, rfl, by rw [hz]; unfold rd_T; rw [if_neg e, if_pos rfl], q20⟩)
  by_cases w3 : what = 1
  · subst w3
    refine ky_go hf hT a5 (by decide) (ρ := [(p : Int), (k : Int), (rd_W S B : Int)]) rc_3 ⟨⟨by omega, by omega⟩, ⟨by omega, by omega⟩, ⟨by omega, by omega⟩, trivial⟩ aFs.nil (aHh.cons (kn1 (i := 4) (by decide) rfl (ev_s rfl) s4) aHh.nil) (by rfl) (by rfl) (lEr (lEi (ev_s rfl) (lEi (ev_s rfl) (lEi ae_ev_k lE0)))) (sEi ae_ev_k sE0) (lvk2 := []) lE0 (stk2 := [.inl (ae_k ((rd_W S B : Int)))]) (sEi (ev_s rfl) sE0) ?_
    exact hp_retI (pc := 68) (ty := .int) (x := (rd_W S B : Int)) (by decide) (by decide +kernel) (by decide +kernel) (aV.k _) (fun n hn => rfl) (fun z hz => ⟨z, rfl, by rw [hz]; unfold rd_T; rw [if_neg e, if_neg w1, if_pos rfl], q20⟩)
  by_cases w4 : what - 2 < (B.length : Int)
  · have v : aSl w2 83 (what - 2).toNat (rd_at B (what - 2).toNat : Int) := by rw [← c5 _ (by omega)]; exact jLay_sl a5 (jL_83 _ (by omega))
    refine ky_go hf hT a5 (by decide) (ρ := [(p : Int), (k : Int), what, (B.length : Int), (rd_at B (what - 2).toNat : Int)]) rc_4 ⟨⟨by omega, by omega⟩, ⟨by omega, by omega⟩, ⟨by omega, by omega⟩, ⟨by omega, by omega⟩, v.i32, trivial⟩ (aFs.cons rfl (by simp only [ae_ev, ae_el, ae_s, ae_k, List.getD_cons_zero, List.getD_cons_succ]; omega) aFs.nil) (aHh.cons (kn1 (i := 2) (by decide) rfl (ev_s rfl) s2) (aHh.cons (kns (by decide) rfl rfl (i := (what - 2).toNat) (by simp only [ae_ev, ae_el, ae_s, ae_k, List.getD_cons_zero, List.getD_cons_succ]; omega) (ev_s rfl) v) aHh.nil)) (by rfl) (by rfl) (lEr (lEi (ev_s rfl) (lEi (ev_s rfl) (lEi (ev_s rfl) lE0)))) (sEi ae_ev_k sE0) (lvk2 := []) lE0 (stk2 := [.inl (ae_k ((rd_at B (what - 2).toNat : Int)))]) (sEi (ev_s rfl) sE0) ?_
    exact hp_retI (pc := 79) (ty := .int) (x := (rd_at B (what - 2).toNat : Int)) (by decide) (by decide +kernel) (by decide +kernel) (aV.k _) (fun n hn => rfl) (fun z hz => ⟨z, rfl, by rw [hz]; unfold rd_T; rw [if_neg e, if_neg w1, if_neg w3, if_pos w4], q20⟩)
  · refine ky_go hf hT a5 (by decide) (ρ := [(p : Int), (k : Int), what, (B.length : Int)]) rc_5 ⟨⟨by omega, by omega⟩, ⟨by omega, by omega⟩, ⟨by omega, hz.2⟩, ⟨by omega, by omega⟩, trivial⟩ (aFs.cons rfl (by simp only [ae_ev, ae_el, ae_s, ae_k, List.getD_cons_zero, List.getD_cons_succ]; omega) aFs.nil) (aHh.cons (kn1 (i := 2) (by decide) rfl (ev_s rfl) s2) aHh.nil) (by rfl) (by rfl) (lEr (lEi (ev_s rfl) (lEi (ev_s rfl) (lEi (ev_s rfl) lE0)))) (sEi ae_ev_k sE0) (lvk2 := []) lE0 (stk2 := [.inl (ae_k ((-3)))]) (sEi ae_ev_k sE0) ?_
    exact hp_retI (pc := 79) (ty := .int) (x := -3) (by decide) (by decide +kernel) (by decide +kernel) (aV.k _) (fun n hn => rfl) (fun z hz => ⟨z, rfl, by rw [hz]; unfold rd_T; rw [if_neg e, if_neg w1, if_neg w3, if_neg w4], q20⟩)
end RE
