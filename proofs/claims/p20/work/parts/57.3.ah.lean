theorem ky_F {v : Int} (h1 : -2147483648 ≤ v) (h2 : v ≤ 2147483647) : aF.1 ≤ v ∧ v ≤ aF.2 := ⟨h1, h2⟩

section HAND
variable {E : mj_E} {Q : Option Value → va_W → Prop} {al : List Nat} {ws : va_W}
theorem hp_callV {G : aG} {J : va_W → Prop} {ρ : List Int} (H : hOk E al G J) {d y pc y2 : Nat} {env : List (Int × Int)} {fs : List ae} {h : aH} {lv : List (Nat × av)} {st as rest : List av} {R : Int32 → va_W → Prop} (hy : y < mj_lawNo)
    (hs : ak_callat G (d + 1) y pc lv st (env, fs, [], h, []) = some (y2, as, rest)) (hW0 : hW E al G J ρ env fs h ws)
    (hc : ∀ AS, gL E al ρ as AS → MJ E d 0 0 (mj_in0 y2 AS ws) (fun v w => ∃ z : Int32, v = some (.int z) ∧ R z w))
    (hk : ∀ z w, R z w → hG E al (d + 1) y (pc + 3) lv (.inl (ae_k z.toInt) :: rest) ρ w Q) : hG E al (d + 1) y pc lv st ρ ws Q :=
  law_callV (n := ρ.length) (mj_li_use hy) ⟨H.1, H.2.1, H.2.2.1, H.2.2.2.1, H.2.2.2.2.1, fun σ _ => H.2.2.2.2.2 σ⟩ hs hW0 hc hk
/-- a piece that changes nothing, over symbols; what is known and what holds there -/
theorem ky_go (hf : E.2.2.2.1.category = 1) (hT : ∀ σ : List Int, aTb E σ aTabs) (a5 : aWd E al aLay ws) {d y pc pc2 : Nat} (hy : y < mj_lawNo) {ρ : List Int} {env : List (Int × Int)} {fs : List ae} {h0 : aH} {lv lv2 lvk lvk2 : List (Nat × av)} {st st2 stk stk2 : List av}
    (hc : hp_chk gV0 1000 d y (pc, env, fs, h0, lv, st) [] [(pc2, env, [], lv2, st2, [], [], mMU)] = true) (h1 : hEv ρ env) (h2 : aFs ρ fs) (h3 : aHh ρ ws h0) (r1 : lv.all (fun q => av_rg ρ.length q.2) = true) (r2 : st.all (av_rg ρ.length) = true)
    (e1 : lvE ρ lv = lvk) (e2 : st.map (avE ρ) = stk) (e3 : lvE ρ lv2 = lvk2) (e4 : st2.map (avE ρ) = stk2) (hq : hG E al d y pc2 lvk2 stk2 [] ws Q) : hG E al d y pc lvk stk [] ws Q := by
  have H : hOk E al gV0 (fun _ => True) := hOkV hf hT (fun _ _ _ h => h)
  exact mv_glue H hy hc (hW.v a5 trivial h1 h2 h3) r1 r2 e1 e2 e3 e4 hq
theorem jLr_107 : ∀ k, k < 72 → (jLay 107 k).isSome = true := by decide +kernel
theorem jLr_108 : ∀ k, k < 48 → (jLay 108 k).isSome = true := by decide +kernel
theorem sl107 (h : aWd E al aLay ws) {k : Nat} (hk : k < 72) : aSl ws 107 k (jS ws 107 k) := jLay_sl h (jLr_107 k hk)
theorem sl108 (h : aWd E al aLay ws) {k : Nat} (hk : k < 48) : aSl ws 108 k (jS ws 108 k) := jLay_sl h (jLr_108 k hk)
/-! ahead (220) -/
def ah_lv (a best o : ae) : List (Nat × av) := [(0, .inr (0, 99)), (1, .inl a), (2, .inl best), (3, .inl o)]
def ah_e : List (Int × Int) := [(0, 11), (-1, 11), (0, 11), aF, aF]
def ah_f : ae := ([(0, (-1)), (2, 1)], 1)
def ah_p (fs : List ae) (v q best : ae) : Bool := hp_chk gV0 1000 80 220 (4, ah_e, ah_f :: fs, [((108, ([(2, 4)], 0)), v), ((108, ([(0, 4)], 0)), q)], ah_lv (ae_s 0) (ae_s 1) (ae_s 2), []) [] [(4, ah_e, [], ah_lv (ae_s 0) best ([(2, 1)], 1), [], [], [], mMU)]
section
set_option maxRecDepth 100000
theorem ah_k : (ah_p [] (ae_s 3) (ae_s 3) (ae_s 2) && (ah_p [([(3, 1), (4, (-1))], 1)] (ae_s 3) (ae_s 4) (ae_s 1) && ah_p [([(3, (-1)), (4, 1)], 1)] (ae_s 3) (ae_s 4) (ae_s 1))) = true := by decide +kernel
theorem ah_kX : hp_chk gV0 1000 80 220 (4, [(0, 11), (-1, 11)], [], [], ah_lv (ae_s 0) (ae_s 1) (ae_s 0), []) [] [(41, [(0, 11), (-1, 11)], [], [], [.inl (ae_s 1)], [], [], mMU)] = true := by decide +kernel
theorem ah_kE : hp_chk gV0 1000 80 220 (0, [(0, 11)], [], [], [(0, .inr (0, 99)), (1, .inl (ae_s 0))], []) [] [(4, [(0, 11)], [], ah_lv (ae_s 0) (ae_k (-1)) (ae_k 0), [], [], [], mMU)] = true := by decide +kernel
end
theorem ah_E {x0 x1 x2 x3 x4 : Int} {b c : ae} : lvE [x0, x1, x2, x3, x4] (ah_lv (ae_s 0) b c) = ah_lv (ae_k x0) (ae_k (ae_ev [x0, x1, x2, x3, x4] b)) (ae_k (ae_ev [x0, x1, x2, x3, x4] c)) := by
  simp only [lvE, avE, ah_lv, List.map_cons, List.map_nil, ev_s (ρ := [x0, x1, x2, x3, x4]) (k := 0) (x := x0) rfl]
theorem ah_ES {x0 x1 x2 x3 x4 : Int} : lvE [x0, x1, x2, x3, x4] (ah_lv (ae_s 0) (ae_s 1) (ae_s 2)) = ah_lv (ae_k x0) (ae_k x1) (ae_k x2) := by
  rw [ah_E, ev_s (ρ := [x0, x1, x2, x3, x4]) (k := 1) (x := x1) rfl, ev_s (ρ := [x0, x1, x2, x3, x4]) (k := 2) (x := x2) rfl]
theorem ah_go (hf : E.2.2.2.1.category = 1) (hT : ∀ σ : List Int, aTb E σ aTabs) (a5 : aWd E al aLay ws) {a : Nat} (ha : a ≤ 11) : ∀ (m o : Nat) , o + m = a → (∀ z : Int32, z.toInt = bx_a (jS ws 108) (jS ws 108 (4 * a)) a → Q (some (.int z)) ws) → hG E al 80 220 4 (ah_lv (ae_k (a : Int)) (ae_k (bx_a (jS ws 108) (jS ws 108 (4 * a)) o)) (ae_k (o : Int))) [] [] ws Q := by
  intro m
  induction m with
  | zero =>
    intro o ho hQ
    have e : o = a := by omega
    subst e
    have b := bx_a_b (O := jS ws 108) (p := jS ws 108 (4 * o)) (n := o)
    refine ky_go hf hT a5 (by decide) (ρ := [(o : Int), bx_a (jS ws 108) (jS ws 108 (4 * o)) o]) ah_kX ⟨⟨by omega, by omega⟩, ⟨by omega, by omega⟩, trivial⟩ aFs.nil aHh.nil (by rfl) rfl (by simp only [lvE, avE, ah_lv, List.map_cons, List.map_nil, ev_s (ρ := [(o : Int), bx_a (jS ws 108) (jS ws 108 (4 * o)) o]) (k := 0) (x := (o : Int)) rfl, ev_s (ρ := [(o : Int), bx_a (jS ws 108) (jS ws 108 (4 * o)) o]) (k := 1) (x := bx_a (jS ws 108) (jS ws 108 (4 * o)) o) rfl]) rfl (lvk2 := []) rfl (stk2 := [.inl (ae_k (bx_a (jS ws 108) (jS ws 108 (4 * o)) o))]) (by simp only [avE, List.map_cons, List.map_nil, ev_s (ρ := [(o : Int), bx_a (jS ws 108) (jS ws 108 (4 * o)) o]) (k := 1) (x := bx_a (jS ws 108) (jS ws 108 (4 * o)) o) rfl]) ?_
    exact hp_retI (pc := 41) (ty := .int) (x := bx_a (jS ws 108) (jS ws 108 (4 * o)) o) (by decide) (by decide +kernel) (by decide +kernel) (aV.k _) (fun n hn => rfl) (fun z hz => hQ z hz)
  | succ m ih =>
    intro o ho hQ
    have ck := ah_k
    simp only [Bool.and_eq_true] at ck
    obtain ⟨c1, c2, c3⟩ := ck
    have b := bx_a_b (O := jS ws 108) (p := jS ws 108 (4 * a)) (n := o)
    have st : bx_a (jS ws 108) (jS ws 108 (4 * a)) (o + 1) = if jS ws 108 (4 * o) = jS ws 108 (4 * a) then (o : Int) else bx_a (jS ws 108) (jS ws 108 (4 * a)) o := rfl
    have nx := ih (o + 1) (by omega) hQ
    rw [st] at nx
    have s1 := sl108 a5 (k := 4 * o) (by omega)
    have s2 := sl108 a5 (k := 4 * a) (by omega)
    generalize bx_a (jS ws 108) (jS ws 108 (4 * a)) o = best at *
    generalize hp : jS ws 108 (4 * o) = p at *
    generalize hq : jS ws 108 (4 * a) = q at *
    have hh : ∀ {x4 : Int} {v : ae}, v.1.all (fun q => decide (q.1 < 5)) = true → ae_ev [(a : Int), best, (o : Int), p, x4] v = q → aHh [(a : Int), best, (o : Int), p, x4] ws [((108, ([(2, 4)], 0)), ae_s 3), ((108, ([(0, 4)], 0)), v)] := by
      intro x4 v h1 h2
      exact aHh.cons (kns (by decide) rfl rfl (i := 4 * o) (by simp only [ae_ev, ae_el, List.getD_cons_zero, List.getD_cons_succ]; omega) (ev_s rfl) s1) (aHh.cons (kns (by decide) rfl h1 (i := 4 * a) (by simp only [ae_ev, ae_el, List.getD_cons_zero]; omega) h2 s2) aHh.nil)
    have hn : ∀ {x4 : Int}, ae_ev [(a : Int), best, (o : Int), p, x4] ([(2, 1)], 1) = ((o + 1 : Nat) : Int) := by
      intro x4
      simp only [ae_ev, ae_el, List.getD_cons_zero, List.getD_cons_succ]
      omega
    have f0 : ∀ {x4 : Int}, ae_ev [(a : Int), best, (o : Int), p, x4] ah_f ≤ 0 := by
      intro x4
      simp only [ah_f, ae_ev, ae_el, List.getD_cons_zero, List.getD_cons_succ]
      omega
    by_cases e : p = q
    · rw [if_pos e] at nx
      refine ky_go hf hT a5 (by decide) (ρ := [(a : Int), best, (o : Int), p, 0]) c1 ⟨⟨by omega, by omega⟩, ⟨by omega, by omega⟩, ⟨by omega, by omega⟩, s1.i32, ky_F (by decide) (by decide), trivial⟩ (aFs.cons rfl f0 aFs.nil) (hh rfl ((ev_s rfl).trans e)) (by rfl) rfl ah_ES rfl ah_E rfl ?_
      rw [hn, ev_s (k := 2) (x := (o : Int)) rfl]
      exact nx
    · rw [if_neg e] at nx
      by_cases hlt : p < q
      · refine ky_go hf hT a5 (by decide) (ρ := [(a : Int), best, (o : Int), p, q]) c2 ⟨⟨by omega, by omega⟩, ⟨by omega, by omega⟩, ⟨by omega, by omega⟩, s1.i32, s2.i32, trivial⟩ (aFs.cons rfl f0 (aFs.cons rfl (by simp only [ae_ev, ae_el, List.getD_cons_zero, List.getD_cons_succ]; omega) aFs.nil)) (hh rfl (ev_s rfl)) (by rfl) rfl ah_ES rfl ah_E rfl ?_
        rw [hn, ev_s (k := 1) (x := best) rfl]
        exact nx
      · refine ky_go hf hT a5 (by decide) (ρ := [(a : Int), best, (o : Int), p, q]) c3 ⟨⟨by omega, by omega⟩, ⟨by omega, by omega⟩, ⟨by omega, by omega⟩, s1.i32, s2.i32, trivial⟩ (aFs.cons rfl f0 (aFs.cons rfl (by simp only [ae_ev, ae_el, List.getD_cons_zero, List.getD_cons_succ]; omega) aFs.nil)) (hh rfl (ev_s rfl)) (by rfl) rfl ah_ES rfl ah_E rfl ?_
        rw [hn, ev_s (k := 1) (x := best) rfl]
        exact nx
theorem ah_mj (hf : E.2.2.2.1.category = 1) (hT : ∀ σ : List Int, aTb E σ aTabs) (a5 : aWd E al aLay ws) {a : Nat} (ha : a ≤ 11) {AS : List Value} (hA : gL E al [] [.inr (0, 99), .inl (ae_k (a : Int))] AS) :
    MJ E 80 0 0 (mj_in0 220 AS ws) (fun x w => ∃ z : Int32, x = some (.int z) ∧ z.toInt = bx_a (jS ws 108) (jS ws 108 (4 * a)) a ∧ w = ws) := by
  refine hG.in0 hf (d := 80) (as := _) ?_ hA
  refine ky_go hf hT a5 (by decide) (ρ := [(a : Int)]) ah_kE ⟨⟨by omega, by omega⟩, trivial⟩ aFs.nil aHh.nil (by rfl) rfl (by simp only [lvE, avE, ak_args, av_cat, List.map_cons, List.map_nil, ev_s (ρ := [(a : Int)]) (k := 0) (x := (a : Int)) rfl] <;> rfl) rfl (lvk2 := ah_lv (ae_k (a : Int)) (ae_k (-1)) (ae_k 0)) (by simp only [lvE, avE, ah_lv, List.map_cons, List.map_nil, ae_ev_k, ev_s (ρ := [(a : Int)]) (k := 0) (x := (a : Int)) rfl]) rfl ?_
  exact ah_go hf hT a5 ha a 0 (by omega) (fun z hz => ⟨z, rfl, hz, rfl⟩)
end HAND
section LACK
variable {E : mj_E} {Q : Option Value → va_W → Prop} {al : List Nat} {ws : va_W}
/-! lackOf (219) -/
def lk_lv (a sm fr n : ae) : List (Nat × av) := [(0, .inr (0, 99)), (1, .inl a), (2, .inl sm), (3, .inl fr), (4, .inl n)]
/-- symbols: opening, sum, from, n, parish of the alms, of the opening, when they came, how much, how many alms -/
def lk_e : List (Int × Int) := [(0, 11), (-9999, 2376), (0, 12), (0, 23), aF, aF, aF, (1, 99), (1, 24)]
def lk_f : ae := ([(3, 1), (8, (-1))], 1)
def lk_h (v q : ae) : aH := [((100, ae_k 3), ae_s 8), ((107, ([(3, 3)], 0)), v), ((108, ([(0, 4)], 0)), q)]
def lk_i : (Nat × ae) × ae := ((107, ([(3, 3)], 2)), ae_s 6)
def lk_j : (Nat × ae) × ae := ((107, ([(3, 3)], 1)), ae_s 7)
def lk_p (fs : List ae) (h : aH) (sm : ae) : Bool := hp_chk gV0 1000 81 219 (23, lk_e, lk_f :: fs, h, lk_lv (ae_s 0) (ae_s 1) (ae_s 2) (ae_s 3), []) [] [(23, lk_e, [], lk_lv (ae_s 0) sm (ae_s 2) ([(3, 1)], 1), [], [], [], mMU)]
section
set_option maxRecDepth 100000
theorem lk_k : (lk_p [([(4, 1), (5, (-1))], 1)] (lk_h (ae_s 4) (ae_s 5)) (ae_s 1) && (lk_p [([(4, (-1)), (5, 1)], 1)] (lk_h (ae_s 4) (ae_s 5)) (ae_s 1) && (lk_p [([(2, (-1)), (6, 1)], 1)] (lk_i :: lk_h (ae_s 4) (ae_s 4)) (ae_s 1) && (lk_p [([(0, 1), (6, (-1))], 1)] (lk_i :: lk_h (ae_s 4) (ae_s 4)) (ae_s 1) && lk_p [([(2, 1), (6, (-1))], 0), ([(0, (-1)), (6, 1)], 0)] (lk_j :: lk_i :: lk_h (ae_s 4) (ae_s 4)) ([(1, 1), (7, 1)], 0))))) = true := by decide +kernel
theorem lk_kX : hp_chk gV0 1000 81 219 (23, [(0, 11), (-9999, 2376), (0, 12), (0, 24)], [], [((100, ae_k 3), ae_s 3)], lk_lv (ae_s 0) (ae_s 1) (ae_s 2) (ae_s 3), []) [] [(110, [(0, 11), (-9999, 2376), (0, 12), (0, 24)], [], [], [.inl (ae_s 1)], [], [], mMU)] = true := by decide +kernel
theorem lk_kE : hp_chk gV0 1000 81 219 (0, [(0, 11), (0, 9999)], [], [((108, ([(0, 4)], 2)), ae_s 1)], [(0, .inr (0, 99)), (1, .inl (ae_s 0))], []) [] [(14, [(0, 11), (0, 9999)], [], [(0, .inr (0, 99)), (1, .inl (ae_s 0)), (2, .inl ([(1, (-1))], 0))], [.inl (ae_s 0), .inr (0, 99)], [], [], mMU)] = true := by decide +kernel
theorem lk_kM : hp_chk gV0 1000 81 219 (17, [(0, 11), (-9999, 0), (-1, 11)], [], [], [(0, .inr (0, 99)), (1, .inl (ae_s 0)), (2, .inl (ae_s 1))], [.inl (ae_s 2)]) [] [(23, [(0, 11), (-9999, 0), (-1, 11)], [], lk_lv (ae_s 0) (ae_s 1) ([(2, 1)], 1) (ae_k 0), [], [], [], mMU)] = true := by decide +kernel
end
theorem lk_E {x0 x1 x2 x3 x4 x5 x6 x7 x8 : Int} {b c : ae} : lvE [x0, x1, x2, x3, x4, x5, x6, x7, x8] (lk_lv (ae_s 0) b (ae_s 2) c) = lk_lv (ae_k x0) (ae_k (ae_ev [x0, x1, x2, x3, x4, x5, x6, x7, x8] b)) (ae_k x2) (ae_k (ae_ev [x0, x1, x2, x3, x4, x5, x6, x7, x8] c)) := by
  simp only [lvE, avE, lk_lv, List.map_cons, List.map_nil, ev_s (ρ := [x0, x1, x2, x3, x4, x5, x6, x7, x8]) (k := 0) (x := x0) rfl, ev_s (ρ := [x0, x1, x2, x3, x4, x5, x6, x7, x8]) (k := 2) (x := x2) rfl]
theorem lk_ES {x0 x1 x2 x3 x4 x5 x6 x7 x8 : Int} : lvE [x0, x1, x2, x3, x4, x5, x6, x7, x8] (lk_lv (ae_s 0) (ae_s 1) (ae_s 2) (ae_s 3)) = lk_lv (ae_k x0) (ae_k x1) (ae_k x2) (ae_k x3) := by
  rw [lk_E, ev_s (ρ := [x0, x1, x2, x3, x4, x5, x6, x7, x8]) (k := 1) (x := x1) rfl, ev_s (ρ := [x0, x1, x2, x3, x4, x5, x6, x7, x8]) (k := 3) (x := x3) rfl]
/-- what is known of the alms -/
def lk_R (ws : va_W) (nA : Nat) : Prop := jS ws 100 3 = nA ∧ nA ≤ 24 ∧ ∀ n : Nat, n < nA → 1 ≤ jS ws 107 (3 * n + 1) ∧ jS ws 107 (3 * n + 1) ≤ 99
theorem lk_go (hf : E.2.2.2.1.category = 1) (hT : ∀ σ : List Int, aTb E σ aTabs) (a5 : aWd E al aLay ws) {a nA : Nat} {fr fo : Int} (ha : a ≤ 11) (hfr : 0 ≤ fr ∧ fr ≤ 12) (hfo : 0 ≤ fo ∧ fo ≤ 9999) (hR : lk_R ws nA) : ∀ (m n : Nat), n + m = nA → (∀ z : Int32, z.toInt = bx_s (jS ws 107) (jS ws 108 (4 * a)) fr a nA - fo → Q (some (.int z)) ws) → hG E al 81 219 23 (lk_lv (ae_k (a : Int)) (ae_k (bx_s (jS ws 107) (jS ws 108 (4 * a)) fr a n - fo)) (ae_k fr) (ae_k (n : Int))) [] [] ws Q := by
  obtain ⟨r1, r2, r3⟩ := hR
  have s100 : aSl ws 100 3 (nA : Int) := by rw [← r1]; exact jLay_sl a5 (by decide +kernel)
  have bb : ∀ n : Nat, n ≤ nA → 0 ≤ bx_s (jS ws 107) (jS ws 108 (4 * a)) fr a n ∧ bx_s (jS ws 107) (jS ws 108 (4 * a)) fr a n ≤ 99 * n := fun n hn => bx_s_b (fun k hk => by have := r3 k (by omega); omega)
  intro m
  induction m with
  | zero =>
    intro n hn hQ
    have e : n = nA := by omega
    subst e
    have b := bb n (Nat.le_refl _)
    generalize hS : bx_s (jS ws 107) (jS ws 108 (4 * a)) fr a n - fo = sm at *
    refine ky_go hf hT a5 (by decide) (ρ := [(a : Int), sm, fr, (n : Int)]) lk_kX ⟨⟨by omega, by omega⟩, ⟨by omega, by omega⟩, hfr, ⟨by omega, by omega⟩, trivial⟩ aFs.nil (aHh.cons (kn1 (by decide) rfl (ev_s rfl) s100) aHh.nil) (by rfl) rfl (by simp only [lvE, avE, lk_lv, List.map_cons, List.map_nil, ev_s (ρ := [(a : Int), sm, fr, (n : Int)]) (k := 0) (x := (a : Int)) rfl, ev_s (ρ := [(a : Int), sm, fr, (n : Int)]) (k := 1) (x := sm) rfl, ev_s (ρ := [(a : Int), sm, fr, (n : Int)]) (k := 2) (x := fr) rfl, ev_s (ρ := [(a : Int), sm, fr, (n : Int)]) (k := 3) (x := (n : Int)) rfl]) rfl (lvk2 := []) rfl (stk2 := [.inl (ae_k sm)]) (by simp only [avE, List.map_cons, List.map_nil, ev_s (ρ := [(a : Int), sm, fr, (n : Int)]) (k := 1) (x := sm) rfl]) ?_
    exact hp_retI (pc := 110) (ty := .int) (x := sm) (by decide) (by decide +kernel) (by decide +kernel) (aV.k _) (fun n hn => rfl) (fun z hz => hQ z hz)
  | succ m ih =>
    intro n hn hQ
    have ck := lk_k
    simp only [Bool.and_eq_true] at ck
    obtain ⟨c1, c2, c3, c4, c5⟩ := ck
    have b := bb n (by omega)
    have st : bx_s (jS ws 107) (jS ws 108 (4 * a)) fr a (n + 1) = bx_s (jS ws 107) (jS ws 108 (4 * a)) fr a n + (if jS ws 107 (3 * n) = jS ws 108 (4 * a) ∧ fr ≤ jS ws 107 (3 * n + 2) ∧ jS ws 107 (3 * n + 2) ≤ a then jS ws 107 (3 * n + 1) else 0) := rfl
    have nx := ih (n + 1) (by omega) hQ
    rw [st] at nx
    have t1 := sl107 a5 (k := 3 * n) (by omega)
    have t2 := sl107 a5 (k := 3 * n + 1) (by omega)
    have t3 := sl107 a5 (k := 3 * n + 2) (by omega)
    have t4 := sl108 a5 (k := 4 * a) (by omega)
    have r9 := r3 n (by omega)
    generalize bx_s (jS ws 107) (jS ws 108 (4 * a)) fr a n = S at *
    generalize jS ws 107 (3 * n) = p at *
    generalize jS ws 107 (3 * n + 1) = am at *
    generalize jS ws 107 (3 * n + 2) = k at *
    generalize jS ws 108 (4 * a) = q at *
    have hh : ∀ {x5 x6 x7 : Int} {v : ae}, v.1.all (fun q => decide (q.1 < 9)) = true → ae_ev [(a : Int), S - fo, fr, (n : Int), p, x5, x6, x7, (nA : Int)] v = q → aHh [(a : Int), S - fo, fr, (n : Int), p, x5, x6, x7, (nA : Int)] ws (lk_h (ae_s 4) v) := by
      intro x5 x6 x7 v h1 h2
      exact aHh.cons (kn1 (by decide) rfl (ev_s rfl) s100) (aHh.cons (kns (by decide) rfl rfl (i := 3 * n) (by simp only [ae_ev, ae_el, List.getD_cons_zero, List.getD_cons_succ]; omega) (ev_s rfl) t1) (aHh.cons (kns (by decide) rfl h1 (i := 4 * a) (by simp only [ae_ev, ae_el, List.getD_cons_zero]; omega) h2 t4) aHh.nil))
    have hi : ∀ {x5 x7 : Int}, aH1 [(a : Int), S - fo, fr, (n : Int), p, x5, k, x7, (nA : Int)] ws lk_i := kns (by decide) rfl rfl (i := 3 * n + 2) (by simp only [ae_ev, ae_el, List.getD_cons_zero, List.getD_cons_succ]; omega) (ev_s rfl) t3
    have hj : ∀ {x5 x6 : Int}, aH1 [(a : Int), S - fo, fr, (n : Int), p, x5, x6, am, (nA : Int)] ws lk_j := kns (by decide) rfl rfl (i := 3 * n + 1) (by simp only [ae_ev, ae_el, List.getD_cons_zero, List.getD_cons_succ]; omega) (ev_s rfl) t2
    have hn1 : ∀ {x5 x6 x7 : Int}, ae_ev [(a : Int), S - fo, fr, (n : Int), p, x5, x6, x7, (nA : Int)] ([(3, 1)], 1) = ((n + 1 : Nat) : Int) := by
      intro x5 x6 x7
      simp only [ae_ev, ae_el, List.getD_cons_zero, List.getD_cons_succ]
      omega
    have f0 : ∀ {x5 x6 x7 : Int}, ae_ev [(a : Int), S - fo, fr, (n : Int), p, x5, x6, x7, (nA : Int)] lk_f ≤ 0 := by
      intro x5 x6 x7
      simp only [lk_f, ae_ev, ae_el, List.getD_cons_zero, List.getD_cons_succ]
      omega
    have env : ∀ {x5 x6 x7 : Int}, (aI0 ≤ x5 ∧ x5 ≤ aI1) → (aI0 ≤ x6 ∧ x6 ≤ aI1) → (1 ≤ x7 ∧ x7 ≤ 99) → hEv [(a : Int), S - fo, fr, (n : Int), p, x5, x6, x7, (nA : Int)] lk_e := fun h5 h6 h7 => ⟨⟨by omega, by omega⟩, ⟨by omega, by omega⟩, hfr, ⟨by omega, by omega⟩, t1.i32, h5, h6, h7, ⟨by omega, by omega⟩, trivial⟩
    by_cases e : p = q
    · by_cases g1 : k < fr
      · rw [if_neg (by omega), Int.add_zero] at nx
        refine ky_go hf hT a5 (by decide) (ρ := [(a : Int), S - fo, fr, (n : Int), p, 0, k, 1, (nA : Int)]) c3 (env (by decide) t3.i32 (by decide)) (aFs.cons rfl f0 (aFs.cons rfl (by simp only [ae_ev, ae_el, List.getD_cons_zero, List.getD_cons_succ]; omega) aFs.nil)) (aHh.cons hi (hh rfl ((ev_s rfl).trans e))) (by rfl) rfl lk_ES rfl lk_E rfl ?_
        rw [hn1, ev_s (k := 1) (x := S - fo) rfl]
        exact nx
      · by_cases g2 : (a : Int) < k
        · rw [if_neg (by omega), Int.add_zero] at nx
          refine ky_go hf hT a5 (by decide) (ρ := [(a : Int), S - fo, fr, (n : Int), p, 0, k, 1, (nA : Int)]) c4 (env (by decide) t3.i32 (by decide)) (aFs.cons rfl f0 (aFs.cons rfl (by simp only [ae_ev, ae_el, List.getD_cons_zero, List.getD_cons_succ]; omega) aFs.nil)) (aHh.cons hi (hh rfl ((ev_s rfl).trans e))) (by rfl) rfl lk_ES rfl lk_E rfl ?_
          rw [hn1, ev_s (k := 1) (x := S - fo) rfl]
          exact nx
        · rw [if_pos ⟨e, by omega, by omega⟩] at nx
          refine ky_go hf hT a5 (by decide) (ρ := [(a : Int), S - fo, fr, (n : Int), p, 0, k, am, (nA : Int)]) c5 (env (by decide) t3.i32 r9) (aFs.cons rfl f0 (aFs.cons rfl (by simp only [ae_ev, ae_el, List.getD_cons_zero, List.getD_cons_succ]; omega) (aFs.cons rfl (by simp only [ae_ev, ae_el, List.getD_cons_zero, List.getD_cons_succ]; omega) aFs.nil))) (aHh.cons hj (aHh.cons hi (hh rfl ((ev_s rfl).trans e)))) (by rfl) rfl lk_ES rfl lk_E rfl ?_
          rw [hn1, show ae_ev [(a : Int), S - fo, fr, (n : Int), p, 0, k, am, (nA : Int)] ([(1, 1), (7, 1)], 0) = S + am - fo by simp only [ae_ev, ae_el, List.getD_cons_zero, List.getD_cons_succ]; omega]
          exact nx
    · rw [if_neg (fun h => e h.1), Int.add_zero] at nx
      by_cases hlt : p < q
      · refine ky_go hf hT a5 (by decide) (ρ := [(a : Int), S - fo, fr, (n : Int), p, q, 0, 1, (nA : Int)]) c1 (env t4.i32 (by decide) (by decide)) (aFs.cons rfl f0 (aFs.cons rfl (by simp only [ae_ev, ae_el, List.getD_cons_zero, List.getD_cons_succ]; omega) aFs.nil)) (hh rfl (ev_s rfl)) (by rfl) rfl lk_ES rfl lk_E rfl ?_
        rw [hn1, ev_s (k := 1) (x := S - fo) rfl]
        exact nx
      · refine ky_go hf hT a5 (by decide) (ρ := [(a : Int), S - fo, fr, (n : Int), p, q, 0, 1, (nA : Int)]) c2 (env t4.i32 (by decide) (by decide)) (aFs.cons rfl f0 (aFs.cons rfl (by simp only [ae_ev, ae_el, List.getD_cons_zero, List.getD_cons_succ]; omega) aFs.nil)) (hh rfl (ev_s rfl)) (by rfl) rfl lk_ES rfl lk_E rfl ?_
        rw [hn1, ev_s (k := 1) (x := S - fo) rfl]
        exact nx
end LACK
section LACK2
variable {E : mj_E} {Q : Option Value → va_W → Prop} {al : List Nat} {ws : va_W}
/-- what lackOf answers -/
def lk_F (ws : va_W) (a nA : Nat) : Int := bx_s (jS ws 107) (jS ws 108 (4 * a)) (bx_a (jS ws 108) (jS ws 108 (4 * a)) a + 1) a nA - jS ws 108 (4 * a + 2)
theorem lk_mj (hf : E.2.2.2.1.category = 1) (hT : ∀ σ : List Int, aTb E σ aTabs) (a5 : aWd E al aLay ws) {a nA : Nat} (ha : a ≤ 11) (hfo : 0 ≤ jS ws 108 (4 * a + 2) ∧ jS ws 108 (4 * a + 2) ≤ 9999) (hR : lk_R ws nA) {AS : List Value} (hA : gL E al [] [.inr (0, 99), .inl (ae_k (a : Int))] AS) :
    MJ E 81 0 0 (mj_in0 219 AS ws) (fun x w => ∃ z : Int32, x = some (.int z) ∧ z.toInt = lk_F ws a nA ∧ w = ws) := by
  have H : hOk E al gV0 (fun _ => True) := hOkV hf hT (fun _ _ _ h => h)
  have t1 := sl108 a5 (k := 4 * a + 2) (by omega)
  have b := bx_a_b (O := jS ws 108) (p := jS ws 108 (4 * a)) (n := a)
  unfold lk_F
  generalize hF : jS ws 108 (4 * a + 2) = fo at *
  refine hG.in0 hf (d := 81) (as := _) ?_ hA
  refine ky_go hf hT a5 (by decide) (ρ := [(a : Int), fo]) lk_kE ⟨⟨by omega, by omega⟩, hfo, trivial⟩ aFs.nil (aHh.cons (kns (by decide) rfl rfl (i := 4 * a + 2) (by simp only [ae_ev, ae_el, List.getD_cons_zero]; omega) (ev_s rfl) t1) aHh.nil) (by rfl) rfl (by simp only [lvE, avE, ak_args, av_cat, List.map_cons, List.map_nil, ev_s (ρ := [(a : Int), fo]) (k := 0) (x := (a : Int)) rfl] <;> rfl) rfl (lvk2 := [(0, .inr (0, 99)), (1, .inl (ae_k (a : Int))), (2, .inl (ae_k (-fo)))]) (by simp only [lvE, avE, List.map_cons, List.map_nil, ev_s (ρ := [(a : Int), fo]) (k := 0) (x := (a : Int)) rfl, show ae_ev [(a : Int), fo] ([(1, (-1))], 0) = -fo by simp only [ae_ev, ae_el, List.getD_cons_zero, List.getD_cons_succ]; omega]) (stk2 := [.inl (ae_k (a : Int)), .inr (0, 99)]) (by simp only [avE, List.map_cons, List.map_nil, ev_s (ρ := [(a : Int), fo]) (k := 0) (x := (a : Int)) rfl]) ?_
  refine hp_callV H (d := 80) (y2 := 220) (as := [.inr (0, 99), .inl (ae_k (a : Int))]) (rest := []) (by decide) (by rfl) (hW.e (J := fun _ => True) a5 trivial) (fun AS h => ah_mj hf hT a5 ha h) (fun z w hR2 => ?_)
  obtain ⟨hz, rfl⟩ := hR2
  rw [hz]
  generalize hB : bx_a (jS w 108) (jS w 108 (4 * a)) a = bst at *
  refine ky_go hf hT a5 (by decide) (ρ := [(a : Int), -fo, bst]) lk_kM ⟨⟨by omega, by omega⟩, ⟨by omega, by omega⟩, ⟨by omega, by omega⟩, trivial⟩ aFs.nil aHh.nil (by rfl) (by rfl) (by simp only [lvE, avE, List.map_cons, List.map_nil, ev_s (ρ := [(a : Int), -fo, bst]) (k := 0) (x := (a : Int)) rfl, ev_s (ρ := [(a : Int), -fo, bst]) (k := 1) (x := -fo) rfl]) (by simp only [avE, List.map_cons, List.map_nil, ev_s (ρ := [(a : Int), -fo, bst]) (k := 2) (x := bst) rfl]) (lvk2 := lk_lv (ae_k (a : Int)) (ae_k (-fo)) (ae_k (bst + 1)) (ae_k 0)) (by simp only [lvE, avE, lk_lv, List.map_cons, List.map_nil, ae_ev_k, ev_s (ρ := [(a : Int), -fo, bst]) (k := 0) (x := (a : Int)) rfl, ev_s (ρ := [(a : Int), -fo, bst]) (k := 1) (x := -fo) rfl, show ae_ev [(a : Int), -fo, bst] ([(2, 1)], 1) = bst + 1 by simp only [ae_ev, ae_el, List.getD_cons_zero, List.getD_cons_succ]; omega]) rfl ?_
  have g := lk_go (Q := fun x w2 => ∃ z : Int32, x = some (.int z) ∧ z.toInt = bx_s (jS w 107) (jS w 108 (4 * a)) (bst + 1) a nA - fo ∧ w2 = w) hf hT a5 ha (fr := bst + 1) ⟨by omega, by omega⟩ hfo hR nA 0 (by omega) (fun z h => ⟨z, rfl, h, rfl⟩)
  rw [show bx_s (jS w 107) (jS w 108 (4 * a)) (bst + 1) a 0 - fo = -fo by show (0 : Int) - fo = -fo; omega] at g
  exact g
/-! lack, the reference (218) and the component (69) -/
section
set_option maxRecDepth 100000
theorem rl_k1 : hp_chk gV0 1000 82 218 (0, [(aI0, (-1))], [], [], [(0, .inr (0, 99)), (1, .inl (ae_s 0))], []) [] [(29, [(aI0, (-1))], [], [], [.inl (ae_k (-1))], [], [], mMU)] = true := by decide +kernel
theorem rl_k2 : hp_chk gV0 1000 82 218 (0, [(0, aI1), (0, 12)], [([(0, (-1)), (1, 1)], 0)], [((100, ae_k 4), ae_s 1)], [(0, .inr (0, 99)), (1, .inl (ae_s 0))], []) [] [(29, [(0, aI1), (0, 12)], [], [], [.inl (ae_k (-1))], [], [], mMU)] = true := by decide +kernel
theorem rl_k3 : hp_chk gV0 1000 82 218 (0, [(0, 11), (0, 12)], [([(0, 1), (1, (-1))], 1)], [((100, ae_k 4), ae_s 1)], [(0, .inr (0, 99)), (1, .inl (ae_s 0))], []) [] [(21, [(0, 11), (0, 12)], [], [], [.inl (ae_s 0), .inr (0, 99), .inl (ae_k 10000)], [], [], mMU)] = true := by decide +kernel
theorem rl_k4 : hp_chk gV0 1000 82 218 (24, [(-9999, 2376)], [], [], [], [.inl (ae_s 0), .inl (ae_k 10000)]) [] [(29, [(-9999, 2376)], [], [], [.inl ([(0, 1)], 10000)], [], [], mMU)] = true := by decide +kernel
theorem cl_k1 : hp_chk gV0 1000 82 69 (0, [(aI0, (-1))], [], [], [(0, .inr (0, 0)), (1, .inl (ae_s 0))], []) [] [(15, [(aI0, (-1))], [], [], [.inl (ae_k (-1))], [], [], mMU)] = true := by decide +kernel
theorem cl_k2 : hp_chk gV0 1000 82 69 (0, [(0, aI1), (0, 12)], [([(0, (-1)), (1, 1)], 0)], [((18, ae_k 3), ae_s 1)], [(0, .inr (0, 0)), (1, .inl (ae_s 0))], []) [] [(15, [(0, aI1), (0, 12)], [], [], [.inl (ae_k (-1))], [], [], mMU)] = true := by decide +kernel
theorem cl_k3 : hp_chk gV0 1000 82 69 (0, [(0, 11), (0, 12), (-9999, 2376)], [([(0, 1), (1, (-1))], 1)], [((18, ae_k 3), ae_s 1), ((19, ([(0, 4)], 2)), ae_s 2)], [(0, .inr (0, 0)), (1, .inl (ae_s 0))], []) [] [(32, [(0, 11), (0, 12), (-9999, 2376)], [], [], [.inl ([(2, 1)], 10000)], [], [], mMU)] = true := by decide +kernel
end
theorem jLr_19 : ∀ k, k < 48 → (jLay 19 k).isSome = true := by decide +kernel
theorem sl19 (h : aWd E al aLay ws) {k : Nat} (hk : k < 48) : aSl ws 19 k (jS ws 19 k) := jLay_sl h (jLr_19 k hk)
def lk_A (x : Int) (nO : Nat) (F : Nat → Int) : Int := if 0 ≤ x ∧ x < nO then F x.toNat + 10000 else -1
theorem rlack_mj (hf : E.2.2.2.1.category = 1) (hT : ∀ σ : List Int, aTb E σ aTabs) (a5 : aWd E al aLay ws) {x : Int} {nO nA : Nat} (hx : aI0 ≤ x ∧ x ≤ aI1) (h4 : jS ws 100 4 = nO) (hO : nO ≤ 12) (hfo : ∀ o : Nat, o < nO → 0 ≤ jS ws 108 (4 * o + 2) ∧ jS ws 108 (4 * o + 2) ≤ 9999) (hR : lk_R ws nA) {AS : List Value} (hA : gL E al [] [.inr (0, 99), .inl (ae_k x)] AS) :
    MJ E 82 0 0 (mj_in0 218 AS ws) (fun v w => ∃ z : Int32, v = some (.int z) ∧ z.toInt = lk_A x nO (fun a => lk_F ws a nA) ∧ w = ws) := by
  have H : hOk E al gV0 (fun _ => True) := hOkV hf hT (fun _ _ _ h => h)
  have s4 : aSl ws 100 4 (nO : Int) := by rw [← h4]; exact jLay_sl a5 (by decide +kernel)
  refine hG.in0 hf (d := 82) (as := _) ?_ hA
  by_cases c1 : x ≤ -1
  · refine ky_go hf hT a5 (by decide) (ρ := [x]) rl_k1 ⟨⟨hx.1, c1⟩, trivial⟩ aFs.nil aHh.nil (by rfl) rfl (by simp only [lvE, avE, ak_args, av_cat, List.map_cons, List.map_nil, ev_s (ρ := [x]) (k := 0) (x := x) rfl] <;> rfl) rfl (lvk2 := []) rfl (stk2 := [.inl (ae_k (-1))]) (by simp only [avE, List.map_cons, List.map_nil, ae_ev_k]) ?_
    exact hp_retI (pc := 29) (ty := .int) (x := -1) (by decide) (by decide +kernel) (by decide +kernel) (aV.k _) (fun n hn => rfl) (fun z hz => ⟨z, rfl, by rw [hz]; unfold lk_A; rw [if_neg (by omega)], rfl⟩)
  by_cases c2 : (nO : Int) ≤ x
  · refine ky_go hf hT a5 (by decide) (ρ := [x, (nO : Int)]) rl_k2 ⟨⟨by omega, hx.2⟩, ⟨by omega, by omega⟩, trivial⟩ (aFs.cons rfl (by simp only [ae_ev, ae_el, List.getD_cons_zero, List.getD_cons_succ]; omega) aFs.nil) (aHh.cons (kn1 (by decide) rfl (ev_s rfl) s4) aHh.nil) (by rfl) rfl (by simp only [lvE, avE, ak_args, av_cat, List.map_cons, List.map_nil, ev_s (ρ := [x, (nO : Int)]) (k := 0) (x := x) rfl] <;> rfl) rfl (lvk2 := []) rfl (stk2 := [.inl (ae_k (-1))]) (by simp only [avE, List.map_cons, List.map_nil, ae_ev_k]) ?_
    exact hp_retI (pc := 29) (ty := .int) (x := -1) (by decide) (by decide +kernel) (by decide +kernel) (aV.k _) (fun n hn => rfl) (fun z hz => ⟨z, rfl, by rw [hz]; unfold lk_A; rw [if_neg (by omega)], rfl⟩)
  obtain ⟨a, rfl⟩ : ∃ a : Nat, x = (a : Int) := ⟨x.toNat, by omega⟩
  refine ky_go hf hT a5 (by decide) (ρ := [(a : Int), (nO : Int)]) rl_k3 ⟨⟨by omega, by omega⟩, ⟨by omega, by omega⟩, trivial⟩ (aFs.cons rfl (by simp only [ae_ev, ae_el, List.getD_cons_zero, List.getD_cons_succ]; omega) aFs.nil) (aHh.cons (kn1 (by decide) rfl (ev_s rfl) s4) aHh.nil) (by rfl) rfl (by simp only [lvE, avE, ak_args, av_cat, List.map_cons, List.map_nil, ev_s (ρ := [(a : Int), (nO : Int)]) (k := 0) (x := (a : Int)) rfl] <;> rfl) rfl (lvk2 := []) rfl (stk2 := [.inl (ae_k (a : Int)), .inr (0, 99), .inl (ae_k 10000)]) (by simp only [avE, List.map_cons, List.map_nil, ae_ev_k, ev_s (ρ := [(a : Int), (nO : Int)]) (k := 0) (x := (a : Int)) rfl]) ?_
  refine hp_callV H (d := 81) (y2 := 219) (as := [.inr (0, 99), .inl (ae_k (a : Int))]) (rest := [.inl (ae_k 10000)]) (by decide) (by rfl) (hW.e (J := fun _ => True) a5 trivial) (fun AS h => lk_mj hf hT a5 (by omega) (hfo a (by omega)) hR h) (fun z w hR2 => ?_)
  obtain ⟨hz, rfl⟩ := hR2
  have bz : -9999 ≤ z.toInt ∧ z.toInt ≤ 2376 := by
    rw [hz]
    have h1 := hfo a (by omega)
    have h2 := bx_s_b (A := jS w 107) (p := jS w 108 (4 * a)) (f := bx_a (jS w 108) (jS w 108 (4 * a)) a + 1) (t := a) (n := nA) (fun k hk => by have := hR.2.2 k hk; omega)
    have h3 := hR.2.1
    unfold lk_F
    omega
  refine ky_go hf hT a5 (by decide) (ρ := [z.toInt]) rl_k4 ⟨bz, trivial⟩ aFs.nil aHh.nil (by rfl) (by rfl) (lvk := []) rfl (by simp only [avE, List.map_cons, List.map_nil, ae_ev_k, ev_s (ρ := [z.toInt]) (k := 0) (x := z.toInt) rfl]) (lvk2 := []) rfl (stk2 := [.inl (ae_k (z.toInt + 10000))]) (by simp only [avE, List.map_cons, List.map_nil, show ae_ev [z.toInt] ([(0, 1)], 10000) = z.toInt + 10000 by simp only [ae_ev, ae_el, List.getD_cons_zero]; omega]) ?_
  refine hp_retI (pc := 29) (ty := .int) (x := z.toInt + 10000) (by decide) (by decide +kernel) (by decide +kernel) (aV.k _) (fun n hn => rfl) (fun z2 hz2 => ⟨z2, rfl, ?_, rfl⟩)
  rw [hz2, hz]
  unfold lk_A
  rw [if_pos (by omega), Int.toNat_natCast]
theorem clack_mj (hf : E.2.2.2.1.category = 1) (hT : ∀ σ : List Int, aTb E σ aTabs) (a5 : aWd E al aLay ws) {x : Int} {nO : Nat} (hx : aI0 ≤ x ∧ x ≤ aI1) (h4 : jS ws 18 3 = nO) (hO : nO ≤ 12) (hb : ∀ o : Nat, o < nO → -9999 ≤ jS ws 19 (4 * o + 2) ∧ jS ws 19 (4 * o + 2) ≤ 2376) {AS : List Value} (hA : gL E al [] [.inr (0, 0), .inl (ae_k x)] AS) :
    MJ E 82 0 0 (mj_in0 69 AS ws) (fun v w => ∃ z : Int32, v = some (.int z) ∧ z.toInt = lk_A x nO (fun a => jS ws 19 (4 * a + 2)) ∧ w = ws) := by
  have s4 : aSl ws 18 3 (nO : Int) := by rw [← h4]; exact jLay_sl a5 (by decide +kernel)
  refine hG.in0 hf (d := 82) (as := _) ?_ hA
  by_cases c1 : x ≤ -1
  · refine ky_go hf hT a5 (by decide) (ρ := [x]) cl_k1 ⟨⟨hx.1, c1⟩, trivial⟩ aFs.nil aHh.nil (by rfl) rfl (by simp only [lvE, avE, ak_args, av_cat, List.map_cons, List.map_nil, ev_s (ρ := [x]) (k := 0) (x := x) rfl] <;> rfl) rfl (lvk2 := []) rfl (stk2 := [.inl (ae_k (-1))]) (by simp only [avE, List.map_cons, List.map_nil, ae_ev_k]) ?_
    exact hp_retI (pc := 15) (ty := .int) (x := -1) (by decide) (by decide +kernel) (by decide +kernel) (aV.k _) (fun n hn => rfl) (fun z hz => ⟨z, rfl, by rw [hz]; unfold lk_A; rw [if_neg (by omega)], rfl⟩)
  by_cases c2 : (nO : Int) ≤ x
  · refine ky_go hf hT a5 (by decide) (ρ := [x, (nO : Int)]) cl_k2 ⟨⟨by omega, hx.2⟩, ⟨by omega, by omega⟩, trivial⟩ (aFs.cons rfl (by simp only [ae_ev, ae_el, List.getD_cons_zero, List.getD_cons_succ]; omega) aFs.nil) (aHh.cons (kn1 (by decide) rfl (ev_s rfl) s4) aHh.nil) (by rfl) rfl (by simp only [lvE, avE, ak_args, av_cat, List.map_cons, List.map_nil, ev_s (ρ := [x, (nO : Int)]) (k := 0) (x := x) rfl] <;> rfl) rfl (lvk2 := []) rfl (stk2 := [.inl (ae_k (-1))]) (by simp only [avE, List.map_cons, List.map_nil, ae_ev_k]) ?_
    exact hp_retI (pc := 15) (ty := .int) (x := -1) (by decide) (by decide +kernel) (by decide +kernel) (aV.k _) (fun n hn => rfl) (fun z hz => ⟨z, rfl, by rw [hz]; unfold lk_A; rw [if_neg (by omega)], rfl⟩)
  obtain ⟨a, rfl⟩ : ∃ a : Nat, x = (a : Int) := ⟨x.toNat, by omega⟩
  have t1 := sl19 a5 (k := 4 * a + 2) (by omega)
  have b1 := hb a (by omega)
  have hA2 : lk_A (a : Int) nO (fun a => jS ws 19 (4 * a + 2)) = jS ws 19 (4 * a + 2) + 10000 := by
    unfold lk_A
    rw [if_pos (by omega), Int.toNat_natCast]
  rw [hA2]
  generalize jS ws 19 (4 * a + 2) = l at *
  refine ky_go hf hT a5 (by decide) (ρ := [(a : Int), (nO : Int), l]) cl_k3 ⟨⟨by omega, by omega⟩, ⟨by omega, by omega⟩, b1, trivial⟩ (aFs.cons rfl (by simp only [ae_ev, ae_el, List.getD_cons_zero, List.getD_cons_succ]; omega) aFs.nil) (aHh.cons (kn1 (by decide) rfl (ev_s rfl) s4) (aHh.cons (kns (by decide) rfl rfl (i := 4 * a + 2) (by simp only [ae_ev, ae_el, List.getD_cons_zero]; omega) (ev_s rfl) t1) aHh.nil)) (by rfl) rfl (by simp only [lvE, avE, ak_args, av_cat, List.map_cons, List.map_nil, ev_s (ρ := [(a : Int), (nO : Int), l]) (k := 0) (x := (a : Int)) rfl] <;> rfl) rfl (lvk2 := []) rfl (stk2 := [.inl (ae_k (l + 10000))]) (by simp only [avE, List.map_cons, List.map_nil, show ae_ev [(a : Int), (nO : Int), l] ([(2, 1)], 10000) = l + 10000 by simp only [ae_ev, ae_el, List.getD_cons_zero, List.getD_cons_succ]; omega]) ?_
  exact hp_retI (pc := 32) (ty := .int) (x := l + 10000) (by decide) (by decide +kernel) (by decide +kernel) (aV.k _) (fun n hn => rfl) (fun z hz => ⟨z, rfl, hz, rfl⟩)
end LACK2
