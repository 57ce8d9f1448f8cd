section LAW
variable {E : mj_E} {Q : Option Value → va_W → Prop}
section
set_option maxRecDepth 100000
theorem lp_gw : (la_ldc 269 1 && la_ldc 279 1) = true := by decide +kernel
theorem lx_1w : decode (mj_b 320) 268 = .ok (.aload_n 1, 1) := by decide +kernel
theorem lx_2w : decode (mj_b 320) 278 = .ok (.aload_n 2, 1) := by decide +kernel
theorem lx_3w : decode (mj_b 320) 287 = .ok (.pop, 1) := by decide +kernel
theorem lx_4w : decode (mj_b 320) 277 = .ok (.pop, 1) := by decide +kernel
theorem lp_x9w : laP 288 [] 2217 laLv [] = true := by decide +kernel
end
section SIDES
variable {al : List Nat} {ws w w2 : va_W} {L : Nat} {i : Int} {ρ : List Int}
set_option maxRecDepth 100000 in
theorem la_xHw (hf : E.2.2.2.1.category = 1) (hT : ∀ σ : List Int, aTb E σ aTabs) (hL : L ≤ 3584) (hE : (E.2.2.1 2).2.1 = L) (H1 : hOkL E al laG1 (fun _ => True) [(L : Int), i] 2) (h : laI E al L i w) (hj : jZ w) (h7 : i + 7 ≤ L)
    (hq : ∀ w2, laI E al L i w2 → jZ w2 → hG E al 86 320 2217 laLv [] [(L : Int), i] w2 Q) : hG E al 86 320 268 laLv [] [(L : Int), i] w Q := by
  have lg := lp_gw
  simp only [Bool.and_eq_true] at lg
  obtain ⟨q0, q1⟩ := lg
  have hx : ∀ k : Int, aI0 ≤ (laX E (i + k)).toInt ∧ (laX E (i + k)).toInt ≤ aI1 := fun k => ⟨i32_lo _, i32_hi _⟩
  have jr : jRel (jLV w) := hj.1.2.2.1
  have n1 : jS w 1 0 = jS w 100 0 := jr.1.1
  have n2 : 0 ≤ jS w 1 0 := jr.1.2.1
  have n3 : jS w 1 0 ≤ 1999 := jr.1.2.2
  have a3 : 0 ≤ jS w 100 3 ∧ jS w 100 3 ≤ 24 := (jLay_ok h.2.1 (c := 100) (i := 3) (b := (0, 24)) (by decide +kernel)).2
  have a6 : 0 ≤ jS w 100 6 ∧ jS w 100 6 ≤ 12 := by
    have := (jLay_ok h.2.1 (c := 100) (i := 6) (b := (0, 8)) (by decide +kernel)).2
    omega
  refine la_al1 lx_1w ?_
  refine la_arg q0 (by decide) hL hE ⟨h.1.1, h7⟩ ?_
  refine law_callV (d := 85) (y2 := 20) (as := [.inr (0, 0), .inl (ae_k (laX E (i + 1)).toInt)]) (rest := []) mj_li_law H1 (by rfl) (h.hW hL) (fun AS ha => wk_cmj hf hT h.2.1 h.2.2 hj.1.1 (hx 1) (s := jS w 1 0) rfl ⟨n2, n3⟩ (re_as (es := [ae_k (laX E (i + 1)).toInt]) (by rfl) ha)) (fun z w1 hR => ?_)
  obtain ⟨g1, g2, g3, g4, g5⟩ := hR
  have h1 : laI E al L i w1 := ⟨h.1, g1, g2⟩
  refine la_pop lx_4w ?_
  refine la_al2 lx_2w ?_
  refine la_arg q1 (by decide) hL hE ⟨h.1.1, h7⟩ ?_
  refine law_callV (d := 85) (y2 := 182) (as := [.inr (0, 99), .inl (ae_k (laX E (i + 1)).toInt)]) (rest := []) mj_li_law H1 (by rfl) (h1.hW hL) (fun AS ha => wk_rmj hf hT g1 g2 g3 (hx 1) (s := jS w 1 0) (n := jS w 100 3) (m := jS w 100 6) ((jS.at (g4.2 100 (by decide))).trans n1.symm) (jS.at (g4.2 100 (by decide))) (jS.at (g4.2 100 (by decide))) ⟨n2, n3⟩ a3 a6 (re_as (es := [ae_k (laX E (i + 1)).toInt]) (by rfl) ha)) (fun z2 w2 hR => ?_)
  obtain ⟨m1, m2, m3, m4, m5, m6, m7⟩ := hR
  have h2 : laI E al L i w2 := ⟨h.1, m1, m2⟩
  have done : jZ w2 := by
    have c1 : jS w2 1 0 = wk_F (laX E (i + 1)).toInt (jS w 1 0) := (jS.at (m4.2 1 (by decide))).trans g5
    have fb : 0 ≤ wk_F (laX E (i + 1)).toInt (jS w 1 0) ∧ wk_F (laX E (i + 1)).toInt (jS w 1 0) ≤ 1999 := by
      unfold wk_F
      split <;> omega
    have m : ∀ c, c ∉ ([1, 3, 100, 101] : List Nat) → ∀ k, jS w2 c k = jS w c k := fun c hc k => by
      simp only [List.mem_cons, List.not_mem_nil, or_false, not_or] at hc
      rw [jS.at (m4.2 c (by simp; omega)), jS.at (g4.2 c (by simp; omega))]
    have pick : ∀ l : List Nat, l.all (fun c => !(([1, 3, 100, 101] : List Nat).elem c)) = true → ∀ c, c ∈ l → ∀ k, jS w2 c k = jS w c k := fun l hl c hc k => m c (fun hm => by
      have := List.all_eq_true.mp hl c hc
      rw [List.elem_eq_true_of_mem hm] at this
      cases this) k
    refine ⟨⟨m3, jXF_of hj.1.2 (m 0 (by decide) 2) (m 99 (by decide) 59) (pick _ (by decide)) (rl_weeks jr (pick _ (by decide)) m7 ?_ ?_)⟩, hj.2.te ⟨m 75 (by decide) 1, m 99 (by decide) 19, m 76 (by decide), m 118 (by decide)⟩⟩
    · rw [c1, m5]
    · rw [c1]
      exact fb
  exact la_pop lx_3w (la_glue H1 hL lp_x9w h2 (hq w2 h2 done))
end SIDES
end LAW
