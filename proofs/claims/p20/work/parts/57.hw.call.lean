section LAW
variable {E : mj_E} {Q : Option Value → va_W → Prop}
section
set_option maxRecDepth 100000
theorem lp_gw : (la_ldc 269 1 && la_ldc 279 1) = true := by decide +kernel
theorem lx_1w : decode (mj_b 320) 268 = .ok (.aload_n 1, 1) := by decide +kernel
theorem lx_2w : decode (mj_b 320) 278 = .ok (.aload_n 2, 1) := by decide +kernel
theorem lx_3w : decode (mj_b 320) 287 = .ok (.pop, 1) := by decide +kernel
theorem lx_4w : decode (mj_b 320) 277 = .ok (.pop, 1) := by decide +kernel
theorem lp_x9w : laP 288 [] 2217 laLv [] = true := by decide +kernel
end
section SIDES
variable {al : List Nat} {ws w w2 : va_W} {L : Nat} {i : Int} {ρ : List Int}
set_option maxRecDepth 100000 in
theorem la_xHw (hf : E.2.2.2.1.category = 1) (hT : ∀ σ : List Int, aTb E σ aTabs) (hL : L ≤ 3584) (hE : (E.2.2.1 2).2.1 = L) (H1 : hOkL E al laG1 (fun _ => True) [(L : Int), i] 2) (h : laI E al L i w) (hj : jJ w) (h7 : i + 7 ≤ L)
    (hq : ∀ w2, laI E al L i w2 → jJ w2 → hG E al 86 320 2217 laLv [] [(L : Int), i] w2 Q) : hG E al 86 320 268 laLv [] [(L : Int), i] w Q := by
  have lg := lp_gw
  simp only [Bool.and_eq_true] at lg
  obtain ⟨q0, q1⟩ := lg
  have hx : ∀ k : Int, aI0 ≤ (laX E (i + k)).toInt ∧ (laX E (i + k)).toInt ≤ aI1 := fun k => ⟨i32_lo _, i32_hi _⟩
  have jr : jRel (jLV w) := hj.2.2.1
  obtain ⟨⟨a1, a2, a3⟩, ⟨b1, b2, b3⟩, hB⟩ := jr_b jr
  obtain ⟨-, ⟨n1, n2, n3⟩, -, -⟩ := id jr
  have n1 : jS w 1 0 = jS w 100 0 := n1
  have n2 : 0 ≤ jS w 1 0 := n2
  have n3 : jS w 1 0 ≤ 1999 := n3
  refine la_al1 lx_1w ?_
  refine la_arg q0 (by decide) hL hE ⟨h.1.1, h7⟩ ?_
  refine law_callV (d := 85) (y2 := 20) (as := [.inr (0, 0), .inl (ae_k (laX E (i + 1)).toInt)]) (rest := []) mj_li_law H1 (by rfl) (h.hW hL) (fun AS ha => wk_cmj hf hT h.2.1 h.2.2 hj.1 (hx 1) (s := jS w 1 0) rfl ⟨n2, n3⟩ (re_as (es := [ae_k (laX E (i + 1)).toInt]) (by rfl) ha)) (fun z w1 hR => ?_)
  obtain ⟨g1, g2, g3, g4, g5⟩ := hR
  have h1 : laI E al L i w1 := ⟨h.1, g1, g2⟩
  refine la_pop lx_4w ?_
  refine la_al2 lx_2w ?_
  refine la_arg q1 (by decide) hL hE ⟨h.1.1, h7⟩ ?_
  refine law_callV (d := 85) (y2 := 182) (as := [.inr (0, 99), .inl (ae_k (laX E (i + 1)).toInt)]) (rest := []) mj_li_law H1 (by rfl) (h1.hW hL) (fun AS ha => wk_rmj hf hT g1 g2 g3 (hx 1) (s := jS w 1 0) (n := jS w 100 3) (m := jS w 100 4) ((jS.at (g4.2 100 (by decide))).trans n1.symm) (jS.at (g4.2 100 (by decide))) (jS.at (g4.2 100 (by decide))) ⟨n2, n3⟩ ⟨a1, a2⟩ ⟨b1, b2⟩ (re_as (es := [ae_k (laX E (i + 1)).toInt]) (by rfl) ha)) (fun z2 w2 hR => ?_)
  obtain ⟨m1, m2, m3, m4, m5, m6, m7⟩ := hR
  have h2 : laI E al L i w2 := ⟨h.1, m1, m2⟩
  have done : jJ w2 := by
    have c1 : jS w2 1 0 = wk_F (laX E (i + 1)).toInt (jS w 1 0) := (jS.at (m4.2 1 (by decide))).trans g5
    have fb : 0 ≤ wk_F (laX E (i + 1)).toInt (jS w 1 0) ∧ wk_F (laX E (i + 1)).toInt (jS w 1 0) ≤ 1999 := by
      unfold wk_F
      split <;> omega
    refine ⟨m3, jX_new g4 m4 (by decide) (by decide) hj.2 (rl_weeks (V := jLV w) (W := jLV w2) jr (fun q hq => ?_) (fun q hq => ?_) ?_ ?_)⟩
    · have b := jDc0_m q hq
      show jS w q.1 q.2 = jS w2 q.1 q.2
      rw [jS.at (m4.2 _ b.2), jS.at (g4.2 _ b.1)]
    · show jS w q.1 q.2 = jS w2 q.1 q.2
      rcases jDr0_m q hq with (rfl | rfl) | b
      · exact m6.symm
      · exact m7.symm
      · rw [jS.at (m4.2 _ b.2), jS.at (g4.2 _ b.1)]
    · show jS w2 1 0 = jS w2 100 0
      rw [c1, m5]
    · show 0 ≤ jS w2 1 0 ∧ jS w2 1 0 ≤ 1999
      rw [c1]
      exact fb
  exact la_pop lx_3w (la_glue H1 hL lp_x9w h2 (hq w2 h2 done))
end SIDES
end LAW
