/-! how a list of values looks under a valuation -/
section LE
variable {ρ : List Int}
theorem lE0 : lvE ρ [] = [] := rfl
theorem lEi {k : Nat} {e : ae} {x : Int} {t u : List (Nat × av)} (h : ae_ev ρ e = x) (h2 : lvE ρ t = u) : lvE ρ ((k, .inl e) :: t) = (k, .inl (ae_k x)) :: u := by rw [← h, ← h2]; rfl
theorem lEr {k : Nat} {q : Nat × Nat} {t u : List (Nat × av)} (h2 : lvE ρ t = u) : lvE ρ ((k, .inr q) :: t) = (k, .inr q) :: u := by rw [← h2]; rfl
theorem sE0 : ([] : List av).map (avE ρ) = [] := rfl
theorem sEi {e : ae} {x : Int} {t u : List av} (h : ae_ev ρ e = x) (h2 : t.map (avE ρ) = u) : (.inl e :: t : List av).map (avE ρ) = .inl (ae_k x) :: u := by rw [← h, ← h2]; rfl
theorem sEr {q : Nat × Nat} {t u : List av} (h2 : t.map (avE ρ) = u) : (.inr q :: t : List av).map (avE ρ) = .inr q :: u := by rw [← h2]; rfl
end LE
/-! SINCE WHEN A PARISH IS SHORT, both sides -/
section
set_option maxRecDepth 100000
theorem cw_0 : hp_chk gV0 1000 80 71 (0, [(0, 5)], [], [], [(0, .inr (0, 1)), (1, .inl (ae_s 0))], []) [] [(2, [(0, 5)], [], [(0, .inr (0, 1)), (1, .inl (ae_s 0)), (2, .inl (ae_k 0))], [], [], [], mMU)] = true := by decide +kernel
theorem cw_X : hp_chk gV0 1000 80 71 (2, [(0, 5), (0, 12), (0, 12)], [([(1, (-1)), (2, 1)], 0)], [((18, ae_k 3), ae_s 2)], [(0, .inr (0, 1)), (1, .inl (ae_s 0)), (2, .inl (ae_s 1))], []) [] [(66, [(0, 5), (0, 12), (0, 12)], [], [], [.inl (ae_k (-3))], [], [], mMU)] = true := by decide +kernel
theorem cw_1 : hp_chk gV0 1000 80 71 (2, [(0, 5), (0, 11), (0, 12), aF], [([(1, 1), (2, (-1))], 1), ([(0, (-1)), (3, 1)], 1)], [((18, ae_k 3), ae_s 2), ((19, ([(1, 4)], 0)), ae_s 3)], [(0, .inr (0, 1)), (1, .inl (ae_s 0)), (2, .inl (ae_s 1))], []) [] [(2, [(0, 5), (0, 11), (0, 12), aF], [], [(0, .inr (0, 1)), (1, .inl (ae_s 0)), (2, .inl (([(1, 1)], 1)))], [], [], [], mMU)] = true := by decide +kernel
theorem cw_2 : hp_chk gV0 1000 80 71 (2, [(0, 5), (0, 11), (0, 12), aF], [([(1, 1), (2, (-1))], 1), ([(0, 1), (3, (-1))], 1)], [((18, ae_k 3), ae_s 2), ((19, ([(1, 4)], 0)), ae_s 3)], [(0, .inr (0, 1)), (1, .inl (ae_s 0)), (2, .inl (ae_s 1))], []) [] [(2, [(0, 5), (0, 11), (0, 12), aF], [], [(0, .inr (0, 1)), (1, .inl (ae_s 0)), (2, .inl (([(1, 1)], 1)))], [], [], [], mMU)] = true := by decide +kernel
theorem cw_3 : hp_chk gV0 1000 80 71 (2, [(0, 5), (0, 11), (0, 12), (aI0, 0)], [([(1, 1), (2, (-1))], 1)], [((18, ae_k 3), ae_s 2), ((19, ([(1, 4)], 0)), ae_s 0), ((19, ([(1, 4)], 2)), ae_s 3)], [(0, .inr (0, 1)), (1, .inl (ae_s 0)), (2, .inl (ae_s 1))], []) [] [(2, [(0, 5), (0, 11), (0, 12), (aI0, 0)], [], [(0, .inr (0, 1)), (1, .inl (ae_s 0)), (2, .inl (([(1, 1)], 1)))], [], [], [], mMU)] = true := by decide +kernel
theorem cw_4 : hp_chk gV0 1000 80 71 (2, [(0, 5), (0, 11), (0, 12), (1, aI1), aF], [([(1, 1), (2, (-1))], 1)], [((18, ae_k 3), ae_s 2), ((19, ([(1, 4)], 0)), ae_s 0), ((19, ([(1, 4)], 2)), ae_s 3), ((19, ([(1, 4)], 3)), ae_s 4)], [(0, .inr (0, 1)), (1, .inl (ae_s 0)), (2, .inl (ae_s 1))], []) [] [(57, [(0, 5), (0, 11), (0, 12), (1, aI1), aF], [], [], [.inl (ae_s 4)], [], [], mMU)] = true := by decide +kernel
theorem rs_B0 : hp_chk gV0 1000 82 221 (0, [(aI0, (-1))], [], [], [(0, .inr (0, 99)), (1, .inl (ae_s 0))], []) [] [(8, [(aI0, (-1))], [], [], [.inl (ae_k (-1))], [], [], mMU)] = true := by decide +kernel
theorem rs_B1 : hp_chk gV0 1000 82 221 (0, [(6, aI1)], [], [], [(0, .inr (0, 99)), (1, .inl (ae_s 0))], []) [] [(8, [(6, aI1)], [], [], [.inl (ae_k (-1))], [], [], mMU)] = true := by decide +kernel
theorem rs_0 : hp_chk gV0 1000 82 221 (0, [(0, 5)], [], [], [(0, .inr (0, 99)), (1, .inl (ae_s 0))], []) [] [(11, [(0, 5)], [], [(0, .inr (0, 99)), (1, .inl (ae_s 0)), (2, .inl (ae_k 0))], [], [], [], mMU)] = true := by decide +kernel
theorem rs_X : hp_chk gV0 1000 82 221 (11, [(0, 5), (0, 12), (0, 12)], [([(1, (-1)), (2, 1)], 0)], [((100, ae_k 4), ae_s 2)], [(0, .inr (0, 99)), (1, .inl (ae_s 0)), (2, .inl (ae_s 1))], []) [] [(74, [(0, 5), (0, 12), (0, 12)], [], [], [.inl (ae_k (-3))], [], [], mMU)] = true := by decide +kernel
theorem rs_1 : hp_chk gV0 1000 82 221 (11, [(0, 5), (0, 11), (0, 12), aF], [([(1, 1), (2, (-1))], 1), ([(0, (-1)), (3, 1)], 1)], [((100, ae_k 4), ae_s 2), ((108, ([(1, 4)], 0)), ae_s 3)], [(0, .inr (0, 99)), (1, .inl (ae_s 0)), (2, .inl (ae_s 1))], []) [] [(11, [(0, 5), (0, 11), (0, 12), aF], [], [(0, .inr (0, 99)), (1, .inl (ae_s 0)), (2, .inl (([(1, 1)], 1)))], [], [], [], mMU)] = true := by decide +kernel
theorem rs_2 : hp_chk gV0 1000 82 221 (11, [(0, 5), (0, 11), (0, 12), aF], [([(1, 1), (2, (-1))], 1), ([(0, 1), (3, (-1))], 1)], [((100, ae_k 4), ae_s 2), ((108, ([(1, 4)], 0)), ae_s 3)], [(0, .inr (0, 99)), (1, .inl (ae_s 0)), (2, .inl (ae_s 1))], []) [] [(11, [(0, 5), (0, 11), (0, 12), aF], [], [(0, .inr (0, 99)), (1, .inl (ae_s 0)), (2, .inl (([(1, 1)], 1)))], [], [], [], mMU)] = true := by decide +kernel
theorem rs_3 : hp_chk gV0 1000 82 221 (11, [(0, 5), (0, 11), (0, 12)], [([(1, 1), (2, (-1))], 1)], [((100, ae_k 4), ae_s 2), ((108, ([(1, 4)], 0)), ae_s 0)], [(0, .inr (0, 99)), (1, .inl (ae_s 0)), (2, .inl (ae_s 1))], []) [] [(35, [(0, 5), (0, 11), (0, 12)], [], [(0, .inr (0, 99)), (1, .inl (ae_s 0)), (2, .inl (ae_s 1))], [.inl (ae_s 1), .inr (0, 99)], [], [], mMU)] = true := by decide +kernel
theorem rs_4 : hp_chk gV0 1000 82 221 (38, [(0, 5), (0, 11), (aI0, 0)], [], [], [(0, .inr (0, 99)), (1, .inl (ae_s 0)), (2, .inl (ae_s 1))], [.inl (ae_s 2)]) [] [(11, [(0, 5), (0, 11), (aI0, 0)], [], [(0, .inr (0, 99)), (1, .inl (ae_s 0)), (2, .inl (([(1, 1)], 1)))], [], [], [], mMU)] = true := by decide +kernel
theorem rs_5 : hp_chk gV0 1000 82 221 (38, [(0, 5), (0, 11), (1, aI1)], [], [], [(0, .inr (0, 99)), (1, .inl (ae_s 0)), (2, .inl (ae_s 1))], [.inl (ae_s 2)]) [] [(43, [(0, 5), (0, 11), (1, aI1)], [], [(0, .inr (0, 99)), (1, .inl (ae_s 0)), (2, .inl (ae_s 1))], [.inl (ae_s 1), .inr (0, 99)], [], [], mMU)] = true := by decide +kernel
theorem rs_6 : hp_chk gV0 1000 82 221 (46, [(0, 5), (0, 11)], [], [], [(0, .inr (0, 99)), (1, .inl (ae_s 0)), (2, .inl (ae_s 1))], [.inl (ae_k (-1))]) [] [(65, [(0, 5), (0, 11)], [], [], [.inl (ae_k 0)], [], [], mMU)] = true := by decide +kernel
theorem rs_7 : hp_chk gV0 1000 82 221 (46, [(0, 5), (0, 11), (0, 11), aF], [], [((108, ([(2, 4)], 3)), ae_s 3)], [(0, .inr (0, 99)), (1, .inl (ae_s 0)), (2, .inl (ae_s 1))], [.inl (ae_s 2)]) [] [(65, [(0, 5), (0, 11), (0, 11), aF], [], [], [.inl (ae_s 3)], [], [], mMU)] = true := by decide +kernel
theorem cs_B0 : hp_chk gV0 1000 81 70 (0, [(aI0, (-1))], [], [], [(0, .inr (0, 0)), (1, .inl (ae_s 0))], []) [] [(8, [(aI0, (-1))], [], [], [.inl (ae_k (-1))], [], [], mMU)] = true := by decide +kernel
theorem cs_B1 : hp_chk gV0 1000 81 70 (0, [(6, aI1)], [], [], [(0, .inr (0, 0)), (1, .inl (ae_s 0))], []) [] [(8, [(6, aI1)], [], [], [.inl (ae_k (-1))], [], [], mMU)] = true := by decide +kernel
theorem cs_0 : hp_chk gV0 1000 81 70 (0, [(0, 5)], [], [], [(0, .inr (0, 0)), (1, .inl (ae_s 0))], []) [] [(14, [(0, 5)], [], [], [.inl (ae_s 0), .inr (0, 1)], [], [], mMU)] = true := by decide +kernel
end
def ss_f (P L S : Nat → Int) (p : Int) : Nat → Nat → Int
  | 0, _ => -3
  | m + 1, o => if P o = p ∧ 0 < L o then S o else ss_f P L S p m (o + 1)
theorem ss_congr {P L S P2 L2 S2 : Nat → Int} {p : Int} {n : Nat} : ∀ {m o : Nat}, o + m = n → (∀ k, k < n → P k = P2 k ∧ L k = L2 k ∧ S k = S2 k) → ss_f P L S p m o = ss_f P2 L2 S2 p m o
  | 0, _, _, _ => rfl
  | m + 1, o, ho, h => by
    obtain ⟨h1, h2, h3⟩ := h o (by omega)
    unfold ss_f
    rw [h1, h2, h3, ss_congr (m := m) (o := o + 1) (by omega) h]
def ss_A (P L S : Nat → Int) (p : Int) (n : Nat) : Int := if 0 ≤ p ∧ p ≤ 5 then ss_f P L S p n 0 else -1
section SHORT
variable {E : mj_E} {Q : Option Value → va_W → Prop} {al : List Nat} {ws : va_W}
theorem cw_go (hf : E.2.2.2.1.category = 1) (hT : ∀ σ : List Int, aTb E σ aTabs) (a5 : aWd E al aLay ws) {p : Int} (hp : 0 ≤ p ∧ p ≤ 5) {n : Nat} (hn : n ≤ 12) (h4 : jS ws 18 3 = n) : ∀ (m o : Nat), o + m = n → (∀ z : Int32, z.toInt = ss_f (fun o => jS ws 19 (4 * o)) (fun o => jS ws 19 (4 * o + 2)) (fun o => jS ws 19 (4 * o + 3)) p m o → Q (some (.int z)) ws) → hG E al 80 71 2 [(0, .inr (0, 1)), (1, .inl (ae_k p)), (2, .inl (ae_k (o : Int)))] [] [] ws Q := by
  have s18 : aSl ws 18 3 (n : Int) := by rw [← h4]; exact jLay_sl a5 (by decide +kernel)
  intro m
  induction m with
  | zero =>
    intro o ho hQ
    refine ky_go hf hT a5 (by decide) (ρ := [p, (o : Int), (n : Int)]) cw_X ⟨⟨hp.1, hp.2⟩, ⟨by omega, by omega⟩, ⟨by omega, by omega⟩, trivial⟩ (aFs.cons rfl (by simp only [ae_ev, ae_el, List.getD_cons_zero, List.getD_cons_succ]; omega) aFs.nil) (aHh.cons (kn1 (i := 3) (by decide) rfl (ev_s rfl) s18) aHh.nil) (by rfl) (by rfl) (lEr (lEi (ev_s rfl) (lEi (ev_s rfl) lE0))) sE0 (lvk2 := []) lE0 (stk2 := [.inl (ae_k ((-3)))]) (sEi ae_ev_k sE0) ?_
    exact hp_retI (pc := 66) (ty := .int) (x := -3) (by decide) (by decide +kernel) (by decide +kernel) (aV.k _) (fun n hn => rfl) (fun z hz => hQ z hz)
  | succ m ih =>
    intro o ho hQ
    have t0 := sl19 a5 (k := 4 * o) (by omega)
    have t2 := sl19 a5 (k := 4 * o + 2) (by omega)
    have t3 := sl19 a5 (k := 4 * o + 3) (by omega)
    have st : ss_f (fun o => jS ws 19 (4 * o)) (fun o => jS ws 19 (4 * o + 2)) (fun o => jS ws 19 (4 * o + 3)) p (m + 1) o = if jS ws 19 (4 * o) = p ∧ 0 < jS ws 19 (4 * o + 2) then jS ws 19 (4 * o + 3) else ss_f (fun o => jS ws 19 (4 * o)) (fun o => jS ws 19 (4 * o + 2)) (fun o => jS ws 19 (4 * o + 3)) p m (o + 1) := rfl
    have nx : ¬ (jS ws 19 (4 * o) = p ∧ 0 < jS ws 19 (4 * o + 2)) → hG E al 80 71 2 [(0, .inr (0, 1)), (1, .inl (ae_k p)), (2, .inl (ae_k ((o + 1 : Nat) : Int)))] [] [] ws Q := fun e => ih (o + 1) (by omega) (fun z hz => hQ z (by rw [hz, st, if_neg e]))
    generalize hq0 : jS ws 19 (4 * o) = q at *
    generalize hq2 : jS ws 19 (4 * o + 2) = l at *
    generalize hq3 : jS ws 19 (4 * o + 3) = s at *
    by_cases e : q = p
    · subst e
      by_cases e2 : 0 < l
      · refine ky_go hf hT a5 (by decide) (ρ := [q, (o : Int), (n : Int), l, s]) cw_4 ⟨⟨hp.1, hp.2⟩, ⟨by omega, by omega⟩, ⟨by omega, by omega⟩, ⟨by omega, t2.i32.2⟩, t3.i32, trivial⟩ (aFs.cons rfl (by simp only [ae_ev, ae_el, List.getD_cons_zero, List.getD_cons_succ]; omega) aFs.nil) (aHh.cons (kn1 (i := 3) (by decide) rfl (ev_s rfl) s18) (aHh.cons (kns (by decide) rfl rfl (i := 4 * o) (by simp only [ae_ev, ae_el, List.getD_cons_zero, List.getD_cons_succ]; omega) (ev_s rfl) t0) (aHh.cons (kns (by decide) rfl rfl (i := 4 * o + 2) (by simp only [ae_ev, ae_el, List.getD_cons_zero, List.getD_cons_succ]; omega) (ev_s rfl) t2) (aHh.cons (kns (by decide) rfl rfl (i := 4 * o + 3) (by simp only [ae_ev, ae_el, List.getD_cons_zero, List.getD_cons_succ]; omega) (ev_s rfl) t3) aHh.nil)))) (by rfl) (by rfl) (lEr (lEi (ev_s rfl) (lEi (ev_s rfl) lE0))) sE0 (lvk2 := []) lE0 (stk2 := [.inl (ae_k (s))]) (sEi (ev_s rfl) sE0) ?_
        exact hp_retI (pc := 57) (ty := .int) (x := s) (by decide) (by decide +kernel) (by decide +kernel) (aV.k _) (fun n hn => rfl) (fun z hz => hQ z (by rw [hz, st, if_pos ⟨rfl, e2⟩]))
      · refine ky_go hf hT a5 (by decide) (ρ := [q, (o : Int), (n : Int), l]) cw_3 ⟨⟨hp.1, hp.2⟩, ⟨by omega, by omega⟩, ⟨by omega, by omega⟩, ⟨t2.i32.1, by omega⟩, trivial⟩ (aFs.cons rfl (by simp only [ae_ev, ae_el, List.getD_cons_zero, List.getD_cons_succ]; omega) aFs.nil) (aHh.cons (kn1 (i := 3) (by decide) rfl (ev_s rfl) s18) (aHh.cons (kns (by decide) rfl rfl (i := 4 * o) (by simp only [ae_ev, ae_el, List.getD_cons_zero, List.getD_cons_succ]; omega) (ev_s rfl) t0) (aHh.cons (kns (by decide) rfl rfl (i := 4 * o + 2) (by simp only [ae_ev, ae_el, List.getD_cons_zero, List.getD_cons_succ]; omega) (ev_s rfl) t2) aHh.nil))) (by rfl) (by rfl) (lEr (lEi (ev_s rfl) (lEi (ev_s rfl) lE0))) sE0 (lvk2 := [(0, .inr (0, 1)), (1, .inl (ae_k (q))), (2, .inl (ae_k (((o + 1 : Nat) : Int))))]) (lEr (lEi (ev_s rfl) (lEi (by simp only [ae_ev, ae_el, List.getD_cons_zero, List.getD_cons_succ]; omega) lE0))) (stk2 := []) sE0 ?_
        exact nx (fun h => e2 h.2)
    · by_cases hlt : q < p
      · refine ky_go hf hT a5 (by decide) (ρ := [p, (o : Int), (n : Int), q]) cw_1 ⟨⟨hp.1, hp.2⟩, ⟨by omega, by omega⟩, ⟨by omega, by omega⟩, t0.i32, trivial⟩ (aFs.cons rfl (by simp only [ae_ev, ae_el, List.getD_cons_zero, List.getD_cons_succ]; omega) (aFs.cons rfl (by simp only [ae_ev, ae_el, List.getD_cons_zero, List.getD_cons_succ]; omega) aFs.nil)) (aHh.cons (kn1 (i := 3) (by decide) rfl (ev_s rfl) s18) (aHh.cons (kns (by decide) rfl rfl (i := 4 * o) (by simp only [ae_ev, ae_el, List.getD_cons_zero, List.getD_cons_succ]; omega) (ev_s rfl) t0) aHh.nil)) (by rfl) (by rfl) (lEr (lEi (ev_s rfl) (lEi (ev_s rfl) lE0))) sE0 (lvk2 := [(0, .inr (0, 1)), (1, .inl (ae_k (p))), (2, .inl (ae_k (((o + 1 : Nat) : Int))))]) (lEr (lEi (ev_s rfl) (lEi (by simp only [ae_ev, ae_el, List.getD_cons_zero, List.getD_cons_succ]; omega) lE0))) (stk2 := []) sE0 ?_
        exact nx (fun h => e h.1)
      · refine ky_go hf hT a5 (by decide) (ρ := [p, (o : Int), (n : Int), q]) cw_2 ⟨⟨hp.1, hp.2⟩, ⟨by omega, by omega⟩, ⟨by omega, by omega⟩, t0.i32, trivial⟩ (aFs.cons rfl (by simp only [ae_ev, ae_el, List.getD_cons_zero, List.getD_cons_succ]; omega) (aFs.cons rfl (by simp only [ae_ev, ae_el, List.getD_cons_zero, List.getD_cons_succ]; omega) aFs.nil)) (aHh.cons (kn1 (i := 3) (by decide) rfl (ev_s rfl) s18) (aHh.cons (kns (by decide) rfl rfl (i := 4 * o) (by simp only [ae_ev, ae_el, List.getD_cons_zero, List.getD_cons_succ]; omega) (ev_s rfl) t0) aHh.nil)) (by rfl) (by rfl) (lEr (lEi (ev_s rfl) (lEi (ev_s rfl) lE0))) sE0 (lvk2 := [(0, .inr (0, 1)), (1, .inl (ae_k (p))), (2, .inl (ae_k (((o + 1 : Nat) : Int))))]) (lEr (lEi (ev_s rfl) (lEi (by simp only [ae_ev, ae_el, List.getD_cons_zero, List.getD_cons_succ]; omega) lE0))) (stk2 := []) sE0 ?_
        exact nx (fun h => e h.1)
theorem cw_mj (hf : E.2.2.2.1.category = 1) (hT : ∀ σ : List Int, aTb E σ aTabs) (a5 : aWd E al aLay ws) {p : Int} (hp : 0 ≤ p ∧ p ≤ 5) {n : Nat} (hn : n ≤ 12) (h4 : jS ws 18 3 = n) {AS : List Value} (hA : gL E al [] [.inr (0, 1), .inl (ae_k p)] AS) :
    MJ E 80 0 0 (mj_in0 71 AS ws) (fun x w => ∃ z : Int32, x = some (.int z) ∧ z.toInt = ss_f (fun o => jS ws 19 (4 * o)) (fun o => jS ws 19 (4 * o + 2)) (fun o => jS ws 19 (4 * o + 3)) p n 0 ∧ w = ws) := by
  refine hG.in0 hf (d := 80) (as := _) ?_ hA
  show hG E al 80 71 0 [(0, .inr (0, 1)), (1, .inl (ae_k p))] [] [] ws _
  refine ky_go hf hT a5 (by decide) (ρ := [p]) cw_0 ⟨⟨hp.1, hp.2⟩, trivial⟩ aFs.nil aHh.nil (by rfl) (by rfl) (lEr (lEi (ev_s rfl) lE0)) sE0 (lvk2 := [(0, .inr (0, 1)), (1, .inl (ae_k (p))), (2, .inl (ae_k (0)))]) (lEr (lEi (ev_s rfl) (lEi ae_ev_k lE0))) (stk2 := []) sE0 ?_
  exact cw_go hf hT a5 hp hn h4 n 0 (by omega) (fun z hz => ⟨z, rfl, hz, rfl⟩)
theorem cs_mj (hf : E.2.2.2.1.category = 1) (hT : ∀ σ : List Int, aTb E σ aTabs) (a5 : aWd E al aLay ws) {p : Int} (hx : aI0 ≤ p ∧ p ≤ aI1) {n : Nat} (hn : n ≤ 12) (h4 : jS ws 18 3 = n) {AS : List Value} (hA : gL E al [] [.inr (0, 0), .inl (ae_k p)] AS) :
    MJ E 81 0 0 (mj_in0 70 AS ws) (fun x w => ∃ z : Int32, x = some (.int z) ∧ z.toInt = ss_A (fun o => jS ws 19 (4 * o)) (fun o => jS ws 19 (4 * o + 2)) (fun o => jS ws 19 (4 * o + 3)) p n ∧ w = ws) := by
  have H : hOk E al gV0 (fun _ => True) := hOkV hf hT (fun _ _ _ h => h)
  refine hG.in0 hf (d := 81) (as := _) ?_ hA
  show hG E al 81 70 0 [(0, .inr (0, 0)), (1, .inl (ae_k p))] [] [] ws _
  unfold ss_A
  by_cases c1 : p ≤ -1
  · refine ky_go hf hT a5 (by decide) (ρ := [p]) cs_B0 ⟨⟨hx.1, c1⟩, trivial⟩ aFs.nil aHh.nil (by rfl) (by rfl) (lEr (lEi (ev_s rfl) lE0)) sE0 (lvk2 := []) lE0 (stk2 := [.inl (ae_k ((-1)))]) (sEi ae_ev_k sE0) ?_
    exact hp_retI (pc := 8) (ty := .int) (x := -1) (by decide) (by decide +kernel) (by decide +kernel) (aV.k _) (fun n hn => rfl) (fun z hz => ⟨z, rfl, by rw [hz, if_neg (by omega)], rfl⟩)
  by_cases c2 : 6 ≤ p
  · refine ky_go hf hT a5 (by decide) (ρ := [p]) cs_B1 ⟨⟨c2, hx.2⟩, trivial⟩ aFs.nil aHh.nil (by rfl) (by rfl) (lEr (lEi (ev_s rfl) lE0)) sE0 (lvk2 := []) lE0 (stk2 := [.inl (ae_k ((-1)))]) (sEi ae_ev_k sE0) ?_
    exact hp_retI (pc := 8) (ty := .int) (x := -1) (by decide) (by decide +kernel) (by decide +kernel) (aV.k _) (fun n hn => rfl) (fun z hz => ⟨z, rfl, by rw [hz, if_neg (by omega)], rfl⟩)
  have hp : 0 ≤ p ∧ p ≤ 5 := ⟨by omega, by omega⟩
  refine ky_go hf hT a5 (by decide) (ρ := [p]) cs_0 ⟨⟨hp.1, hp.2⟩, trivial⟩ aFs.nil aHh.nil (by rfl) (by rfl) (lEr (lEi (ev_s rfl) lE0)) sE0 (lvk2 := []) lE0 (stk2 := [.inl (ae_k (p)), .inr (0, 1)]) (sEi (ev_s rfl) (sEr sE0)) ?_
  refine hp_callV H (d := 80) (y2 := 71) (as := [.inr (0, 1), .inl (ae_k p)]) (rest := []) (by decide) (by rfl) (hW.e (J := fun _ => True) a5 trivial) (fun AS h => cw_mj hf hT a5 hp hn h4 h) (fun z w hR2 => ?_)
  obtain ⟨hz, hw⟩ := hR2
  rw [hw]
  exact hp_retI (pc := 17) (ty := .int) (x := z.toInt) (by decide) (by decide +kernel) (by decide +kernel) (aV.k _) (fun n hn => rfl) (fun z2 hz2 => ⟨z2, rfl, by rw [hz2, hz, if_pos hp], rfl⟩)
/-- the reference's loop -/
theorem rs_go (hf : E.2.2.2.1.category = 1) (hT : ∀ σ : List Int, aTb E σ aTabs) (a5 : aWd E al aLay ws) {p : Int} (hp : 0 ≤ p ∧ p ≤ 5) {nO nA : Nat} (hO : nO ≤ 12) (h4 : jS ws 100 4 = nO) (hfo : ∀ o : Nat, o < nO → 0 ≤ jS ws 108 (4 * o + 2) ∧ jS ws 108 (4 * o + 2) ≤ 9999) (hR : lk_R ws nA) : ∀ (m o : Nat), o + m = nO → (∀ z : Int32, z.toInt = ss_f (fun o => jS ws 108 (4 * o)) (fun o => lk_F ws o nA) (fun o => si_ (jS ws 108) (jS ws 108 (4 * o)) o) p m o → Q (some (.int z)) ws) → hG E al 82 221 11 [(0, .inr (0, 99)), (1, .inl (ae_k p)), (2, .inl (ae_k (o : Int)))] [] [] ws Q := by
  have H : hOk E al gV0 (fun _ => True) := hOkV hf hT (fun _ _ _ h => h)
  have s4 : aSl ws 100 4 (nO : Int) := by rw [← h4]; exact jLay_sl a5 (by decide +kernel)
  intro m
  induction m with
  | zero =>
    intro o ho hQ
    refine ky_go hf hT a5 (by decide) (ρ := [p, (o : Int), (nO : Int)]) rs_X ⟨⟨hp.1, hp.2⟩, ⟨by omega, by omega⟩, ⟨by omega, by omega⟩, trivial⟩ (aFs.cons rfl (by simp only [ae_ev, ae_el, List.getD_cons_zero, List.getD_cons_succ]; omega) aFs.nil) (aHh.cons (kn1 (i := 4) (by decide) rfl (ev_s rfl) s4) aHh.nil) (by rfl) (by rfl) (lEr (lEi (ev_s rfl) (lEi (ev_s rfl) lE0))) sE0 (lvk2 := []) lE0 (stk2 := [.inl (ae_k ((-3)))]) (sEi ae_ev_k sE0) ?_
    exact hp_retI (pc := 74) (ty := .int) (x := -3) (by decide) (by decide +kernel) (by decide +kernel) (aV.k _) (fun n hn => rfl) (fun z hz => hQ z hz)
  | succ m ih =>
    intro o ho hQ
    have t0 := sl108 a5 (k := 4 * o) (by omega)
    have st : ss_f (fun o => jS ws 108 (4 * o)) (fun o => lk_F ws o nA) (fun o => si_ (jS ws 108) (jS ws 108 (4 * o)) o) p (m + 1) o = if jS ws 108 (4 * o) = p ∧ 0 < lk_F ws o nA then si_ (jS ws 108) (jS ws 108 (4 * o)) o else ss_f (fun o => jS ws 108 (4 * o)) (fun o => lk_F ws o nA) (fun o => si_ (jS ws 108) (jS ws 108 (4 * o)) o) p m (o + 1) := rfl
    have nx : ¬ (jS ws 108 (4 * o) = p ∧ 0 < lk_F ws o nA) → hG E al 82 221 11 [(0, .inr (0, 99)), (1, .inl (ae_k p)), (2, .inl (ae_k ((o + 1 : Nat) : Int)))] [] [] ws Q := fun e => ih (o + 1) (by omega) (fun z hz => hQ z (by rw [hz, st, if_neg e]))
    by_cases e : jS ws 108 (4 * o) = p
    · have t1 : aSl ws 108 (4 * o) p := by rw [← e]; exact t0
      refine ky_go hf hT a5 (by decide) (ρ := [p, (o : Int), (nO : Int)]) rs_3 ⟨⟨hp.1, hp.2⟩, ⟨by omega, by omega⟩, ⟨by omega, by omega⟩, trivial⟩ (aFs.cons rfl (by simp only [ae_ev, ae_el, List.getD_cons_zero, List.getD_cons_succ]; omega) aFs.nil) (aHh.cons (kn1 (i := 4) (by decide) rfl (ev_s rfl) s4) (aHh.cons (kns (by decide) rfl rfl (i := 4 * o) (by simp only [ae_ev, ae_el, List.getD_cons_zero, List.getD_cons_succ]; omega) (ev_s rfl) t1) aHh.nil)) (by rfl) (by rfl) (lEr (lEi (ev_s rfl) (lEi (ev_s rfl) lE0))) sE0 (lvk2 := [(0, .inr (0, 99)), (1, .inl (ae_k (p))), (2, .inl (ae_k ((o : Int))))]) (lEr (lEi (ev_s rfl) (lEi (ev_s rfl) lE0))) (stk2 := [.inl (ae_k ((o : Int))), .inr (0, 99)]) (sEi (ev_s rfl) (sEr sE0)) ?_
      refine hp_callV H (d := 81) (y2 := 219) (as := [.inr (0, 99), .inl (ae_k (o : Int))]) (rest := []) (by decide) (by rfl) (hW.e (J := fun _ => True) a5 trivial) (fun AS h => lk_mj hf hT a5 (by omega) (hfo o (by omega)) hR h) (fun z w hR2 => ?_)
      obtain ⟨hz, hw⟩ := hR2
      rw [hw]
      have bz := And.intro (i32_lo z) (i32_hi z)
      by_cases e2 : 0 < lk_F ws o nA
      · refine ky_go hf hT a5 (by decide) (ρ := [p, (o : Int), z.toInt]) rs_5 ⟨⟨hp.1, hp.2⟩, ⟨by omega, by omega⟩, ⟨by omega, bz.2⟩, trivial⟩ aFs.nil aHh.nil (by rfl) (by rfl) (lEr (lEi (ev_s rfl) (lEi (ev_s rfl) lE0))) (sEi (ev_s rfl) sE0) (lvk2 := [(0, .inr (0, 99)), (1, .inl (ae_k (p))), (2, .inl (ae_k ((o : Int))))]) (lEr (lEi (ev_s rfl) (lEi (ev_s rfl) lE0))) (stk2 := [.inl (ae_k ((o : Int))), .inr (0, 99)]) (sEi (ev_s rfl) (sEr sE0)) ?_
        refine hp_callV H (d := 81) (y2 := 220) (as := [.inr (0, 99), .inl (ae_k (o : Int))]) (rest := []) (by decide) (by rfl) (hW.e (J := fun _ => True) a5 trivial) (fun AS h => (ah_mj hf hT a5 (by omega) h).weaken (by decide) (Nat.le_refl _) (Nat.le_refl _) (fun v w h => h)) (fun z2 w2 hR3 => ?_)
        obtain ⟨hz2, hw2⟩ := hR3
        rw [hw2]
        have b := bx_a_b (O := jS ws 108) (p := jS ws 108 (4 * o)) (n := o)
        by_cases e3 : bx_a (jS ws 108) (jS ws 108 (4 * o)) o < 0
        · have e4 : z2.toInt = -1 := by omega
          rw [e4]
          refine ky_go hf hT a5 (by decide) (ρ := [p, (o : Int)]) rs_6 ⟨⟨hp.1, hp.2⟩, ⟨by omega, by omega⟩, trivial⟩ aFs.nil aHh.nil (by rfl) (by rfl) (lEr (lEi (ev_s rfl) (lEi (ev_s rfl) lE0))) (sEi ae_ev_k sE0) (lvk2 := []) lE0 (stk2 := [.inl (ae_k (0))]) (sEi ae_ev_k sE0) ?_
          exact hp_retI (pc := 65) (ty := .int) (x := 0) (by decide) (by decide +kernel) (by decide +kernel) (aV.k _) (fun n hn => rfl) (fun z hz => hQ z (by rw [hz, st, if_pos ⟨e, e2⟩]; unfold si_; rw [if_pos e3]))
        · have t3 := sl108 a5 (k := 4 * (bx_a (jS ws 108) (jS ws 108 (4 * o)) o).toNat + 3) (by omega)
          refine ky_go hf hT a5 (by decide) (ρ := [p, (o : Int), z2.toInt, jS ws 108 (4 * (bx_a (jS ws 108) (jS ws 108 (4 * o)) o).toNat + 3)]) rs_7 ⟨⟨hp.1, hp.2⟩, ⟨by omega, by omega⟩, ⟨by omega, by omega⟩, t3.i32, trivial⟩ aFs.nil (aHh.cons (kns (by decide) rfl rfl (i := 4 * (bx_a (jS ws 108) (jS ws 108 (4 * o)) o).toNat + 3) (by simp only [ae_ev, ae_el, List.getD_cons_zero, List.getD_cons_succ]; omega) (ev_s rfl) t3) aHh.nil) (by rfl) (by rfl) (lEr (lEi (ev_s rfl) (lEi (ev_s rfl) lE0))) (sEi (ev_s rfl) sE0) (lvk2 := []) lE0 (stk2 := [.inl (ae_k (jS ws 108 (4 * (bx_a (jS ws 108) (jS ws 108 (4 * o)) o).toNat + 3)))]) (sEi (ev_s rfl) sE0) ?_
          exact hp_retI (pc := 65) (ty := .int) (x := jS ws 108 (4 * (bx_a (jS ws 108) (jS ws 108 (4 * o)) o).toNat + 3)) (by decide) (by decide +kernel) (by decide +kernel) (aV.k _) (fun n hn => rfl) (fun z hz => hQ z (by rw [hz, st, if_pos ⟨e, e2⟩]; unfold si_; rw [if_neg e3]))
      · refine ky_go hf hT a5 (by decide) (ρ := [p, (o : Int), z.toInt]) rs_4 ⟨⟨hp.1, hp.2⟩, ⟨by omega, by omega⟩, ⟨bz.1, by omega⟩, trivial⟩ aFs.nil aHh.nil (by rfl) (by rfl) (lEr (lEi (ev_s rfl) (lEi (ev_s rfl) lE0))) (sEi (ev_s rfl) sE0) (lvk2 := [(0, .inr (0, 99)), (1, .inl (ae_k (p))), (2, .inl (ae_k (((o + 1 : Nat) : Int))))]) (lEr (lEi (ev_s rfl) (lEi (by simp only [ae_ev, ae_el, List.getD_cons_zero, List.getD_cons_succ]; omega) lE0))) (stk2 := []) sE0 ?_
        exact nx (fun h => e2 h.2)
    · by_cases hlt : jS ws 108 (4 * o) < p
      · refine ky_go hf hT a5 (by decide) (ρ := [p, (o : Int), (nO : Int), jS ws 108 (4 * o)]) rs_1 ⟨⟨hp.1, hp.2⟩, ⟨by omega, by omega⟩, ⟨by omega, by omega⟩, t0.i32, trivial⟩ (aFs.cons rfl (by simp only [ae_ev, ae_el, List.getD_cons_zero, List.getD_cons_succ]; omega) (aFs.cons rfl (by simp only [ae_ev, ae_el, List.getD_cons_zero, List.getD_cons_succ]; omega) aFs.nil)) (aHh.cons (kn1 (i := 4) (by decide) rfl (ev_s rfl) s4) (aHh.cons (kns (by decide) rfl rfl (i := 4 * o) (by simp only [ae_ev, ae_el, List.getD_cons_zero, List.getD_cons_succ]; omega) (ev_s rfl) t0) aHh.nil)) (by rfl) (by rfl) (lEr (lEi (ev_s rfl) (lEi (ev_s rfl) lE0))) sE0 (lvk2 := [(0, .inr (0, 99)), (1, .inl (ae_k (p))), (2, .inl (ae_k (((o + 1 : Nat) : Int))))]) (lEr (lEi (ev_s rfl) (lEi (by simp only [ae_ev, ae_el, List.getD_cons_zero, List.getD_cons_succ]; omega) lE0))) (stk2 := []) sE0 ?_
        exact nx (fun h => e h.1)
      · refine ky_go hf hT a5 (by decide) (ρ := [p, (o : Int), (nO : Int), jS ws 108 (4 * o)]) rs_2 ⟨⟨hp.1, hp.2⟩, ⟨by omega, by omega⟩, ⟨by omega, by omega⟩, t0.i32, trivial⟩ (aFs.cons rfl (by simp only [ae_ev, ae_el, List.getD_cons_zero, List.getD_cons_succ]; omega) (aFs.cons rfl (by simp only [ae_ev, ae_el, List.getD_cons_zero, List.getD_cons_succ]; omega) aFs.nil)) (aHh.cons (kn1 (i := 4) (by decide) rfl (ev_s rfl) s4) (aHh.cons (kns (by decide) rfl rfl (i := 4 * o) (by simp only [ae_ev, ae_el, List.getD_cons_zero, List.getD_cons_succ]; omega) (ev_s rfl) t0) aHh.nil)) (by rfl) (by rfl) (lEr (lEi (ev_s rfl) (lEi (ev_s rfl) lE0))) sE0 (lvk2 := [(0, .inr (0, 99)), (1, .inl (ae_k (p))), (2, .inl (ae_k (((o + 1 : Nat) : Int))))]) (lEr (lEi (ev_s rfl) (lEi (by simp only [ae_ev, ae_el, List.getD_cons_zero, List.getD_cons_succ]; omega) lE0))) (stk2 := []) sE0 ?_
        exact nx (fun h => e h.1)
theorem rs_mj (hf : E.2.2.2.1.category = 1) (hT : ∀ σ : List Int, aTb E σ aTabs) (a5 : aWd E al aLay ws) {p : Int} (hx : aI0 ≤ p ∧ p ≤ aI1) {nO nA : Nat} (hO : nO ≤ 12) (h4 : jS ws 100 4 = nO) (hfo : ∀ o : Nat, o < nO → 0 ≤ jS ws 108 (4 * o + 2) ∧ jS ws 108 (4 * o + 2) ≤ 9999) (hR : lk_R ws nA) {AS : List Value} (hA : gL E al [] [.inr (0, 99), .inl (ae_k p)] AS) :
    MJ E 82 0 0 (mj_in0 221 AS ws) (fun x w => ∃ z : Int32, x = some (.int z) ∧ z.toInt = ss_A (fun o => jS ws 108 (4 * o)) (fun o => lk_F ws o nA) (fun o => si_ (jS ws 108) (jS ws 108 (4 * o)) o) p nO ∧ w = ws) := by
  refine hG.in0 hf (d := 82) (as := _) ?_ hA
  show hG E al 82 221 0 [(0, .inr (0, 99)), (1, .inl (ae_k p))] [] [] ws _
  unfold ss_A
  by_cases c1 : p ≤ -1
  · refine ky_go hf hT a5 (by decide) (ρ := [p]) rs_B0 ⟨⟨hx.1, c1⟩, trivial⟩ aFs.nil aHh.nil (by rfl) (by rfl) (lEr (lEi (ev_s rfl) lE0)) sE0 (lvk2 := []) lE0 (stk2 := [.inl (ae_k ((-1)))]) (sEi ae_ev_k sE0) ?_
    exact hp_retI (pc := 8) (ty := .int) (x := -1) (by decide) (by decide +kernel) (by decide +kernel) (aV.k _) (fun n hn => rfl) (fun z hz => ⟨z, rfl, by rw [hz, if_neg (by omega)], rfl⟩)
  by_cases c2 : 6 ≤ p
  · refine ky_go hf hT a5 (by decide) (ρ := [p]) rs_B1 ⟨⟨c2, hx.2⟩, trivial⟩ aFs.nil aHh.nil (by rfl) (by rfl) (lEr (lEi (ev_s rfl) lE0)) sE0 (lvk2 := []) lE0 (stk2 := [.inl (ae_k ((-1)))]) (sEi ae_ev_k sE0) ?_
    exact hp_retI (pc := 8) (ty := .int) (x := -1) (by decide) (by decide +kernel) (by decide +kernel) (aV.k _) (fun n hn => rfl) (fun z hz => ⟨z, rfl, by rw [hz, if_neg (by omega)], rfl⟩)
  have hp : 0 ≤ p ∧ p ≤ 5 := ⟨by omega, by omega⟩
  refine ky_go hf hT a5 (by decide) (ρ := [p]) rs_0 ⟨⟨hp.1, hp.2⟩, trivial⟩ aFs.nil aHh.nil (by rfl) (by rfl) (lEr (lEi (ev_s rfl) lE0)) sE0 (lvk2 := [(0, .inr (0, 99)), (1, .inl (ae_k (p))), (2, .inl (ae_k (0)))]) (lEr (lEi (ev_s rfl) (lEi ae_ev_k lE0))) (stk2 := []) sE0 ?_
  exact rs_go hf hT a5 hp hO h4 hfo hR nO 0 (by omega) (fun z hz => ⟨z, rfl, by rw [hz, if_pos hp], rfl⟩)
end SHORT
