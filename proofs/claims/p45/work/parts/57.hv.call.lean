section LAW
variable {E : mj_E} {Q : Option Value → va_W → Prop}
section
set_option maxRecDepth 100000
theorem lp_gv : (la_ldc 1789 1 && la_ldc 1794 2 && la_ldc 1799 3 && la_ldc 1809 1 && la_ldc 1814 2 && la_ldc 1819 3) = true := by decide +kernel
theorem lx_1v : decode (mj_b 320) 1788 = .ok (.aload_n 1, 1) := by decide +kernel
theorem lx_2v : decode (mj_b 320) 1808 = .ok (.aload_n 2, 1) := by decide +kernel
theorem lx_3v : decode (mj_b 320) 1827 = .ok (.pop, 1) := by decide +kernel
theorem lx_4v : decode (mj_b 320) 1807 = .ok (.pop, 1) := by decide +kernel
theorem lp_x9v : laP 1828 [] 2217 laLv [] = true := by decide +kernel
end
section SIDES
variable {al : List Nat} {ws w w2 : va_W} {L : Nat} {i : Int} {ρ : List Int}
set_option maxRecDepth 100000 in
theorem la_xHv (hf : E.2.2.2.1.category = 1) (hT : ∀ σ : List Int, aTb E σ aTabs) (hL : L ≤ 3584) (hE : (E.2.2.1 2).2.1 = L) (H1 : hOkL E al laG1 (fun _ => True) [(L : Int), i] 2) (h : laI E al L i w) (hj : jJ w) (h7 : i + 7 ≤ L)
    (hq : ∀ w2, laI E al L i w2 → jJ w2 → hG E al 86 320 2217 laLv [] [(L : Int), i] w2 Q) : hG E al 86 320 1788 laLv [] [(L : Int), i] w Q := by
  have lg := lp_gv
  simp only [Bool.and_eq_true] at lg
  obtain ⟨⟨⟨⟨⟨q0, q1⟩, q2⟩, q3⟩, q4⟩, q5⟩ := lg
  have hx : ∀ k : Int, aI0 ≤ (laX E (i + k)).toInt ∧ (laX E (i + k)).toInt ≤ aI1 := fun k => ⟨i32_lo _, i32_hi _⟩
  have jr : jRel (jLV w) := hj.2.2.1
  obtain ⟨⟨n1, n2, n3, n4⟩, c1, -⟩ := jr_y jr
  refine la_al1 lx_1v ?_
  refine la_arg q0 (by decide) hL hE ⟨h.1.1, h7⟩ ?_
  refine la_arg q1 (by decide) hL hE ⟨h.1.1, h7⟩ ?_
  refine la_arg q2 (by decide) hL hE ⟨h.1.1, h7⟩ ?_
  refine law_callV (d := 85) (y2 := 145) (as := [.inr (0, 0), .inl (ae_k (laX E (i + 1)).toInt), .inl (ae_k (laX E (i + 2)).toInt), .inl (ae_k (laX E (i + 3)).toInt)]) (rest := []) mj_li_law H1 (by rfl) (h.hW hL) (fun AS ha => vc_mj hf hT h.2.1 h.2.2 hj.1 (hx 1) (hx 2) (hx 3) (n := jS w 36 3) rfl ⟨by omega, by omega⟩ (re_as (es := [ae_k (laX E (i + 1)).toInt, ae_k (laX E (i + 2)).toInt, ae_k (laX E (i + 3)).toInt]) (by rfl) ha)) (fun z w1 hR => ?_)
  obtain ⟨g1, g2, g3, g4, g5⟩ := hR
  have h1 : laI E al L i w1 := ⟨h.1, g1, g2⟩
  refine la_pop lx_4v ?_
  refine la_al2 lx_2v ?_
  refine la_arg q3 (by decide) hL hE ⟨h.1.1, h7⟩ ?_
  refine la_arg q4 (by decide) hL hE ⟨h.1.1, h7⟩ ?_
  refine la_arg q5 (by decide) hL hE ⟨h.1.1, h7⟩ ?_
  refine law_callV (d := 85) (y2 := 287) (as := [.inr (0, 99), .inl (ae_k (laX E (i + 1)).toInt), .inl (ae_k (laX E (i + 2)).toInt), .inl (ae_k (laX E (i + 3)).toInt)]) (rest := []) mj_li_law H1 (by rfl) (h1.hW hL) (fun AS ha => vr_mj hf hT g1 g2 g3 (hx 1) (hx 2) (hx 3) (n := jS w 100 9) (jS.at (g4.2 _ (by decide))) ⟨by omega, by omega⟩ (re_as (es := [ae_k (laX E (i + 1)).toInt, ae_k (laX E (i + 2)).toInt, ae_k (laX E (i + 3)).toInt]) (by rfl) ha)) (fun z2 w2 hR => ?_)
  obtain ⟨m1, m2, m3, m4, m5⟩ := hR
  have h2 : laI E al L i w2 := ⟨h.1, m1, m2⟩
  have done : jJ w2 := by
    refine ⟨m3, ?_⟩
    by_cases hok : 1 ≤ (laX E (i + 1)).toInt ∧ (laX E (i + 1)).toInt ≤ 999 ∧ 1 ≤ (laX E (i + 2)).toInt ∧ (laX E (i + 2)).toInt ≤ 9 ∧ 0 ≤ (laX E (i + 3)).toInt ∧ (laX E (i + 3)).toInt ≤ 3 ∧ jS w 36 3 ≤ 7
    · obtain ⟨o1, o2, o3⟩ := g5.resolve_left (fun q => q.1 hok)
      obtain ⟨p1, p2, p3⟩ := m5.resolve_left (fun q => q.1 (by omega))
      refine jX_new g4 m4 (by decide) (by decide) hj.2 ?_
      have t1 : (jS w 36 3).toNat = jN w := by omega
      have t2 : (jS w 100 9).toNat = jN w := by omega
      refine rl_voy (V := jLV w) (W := jLV w2) (a1 := (laX E (i + 1)).toInt) (a2 := (laX E (i + 2)).toInt) (a3 := (laX E (i + 3)).toInt) (n := jN w) jr ⟨by omega, by omega⟩ ⟨by omega, by omega⟩ ⟨by omega, by omega⟩ (by omega) ?_ ?_ (fun k => ?_) (fun k => ?_)
      · show jS w2 100 9 = _
        omega
      · show jS w2 36 3 = _
        rw [jS.at (m4.2 36 (by decide))]
        omega
      · show jS w2 117 k = _
        rw [p3 k, jS.at (g4.2 117 (by decide)), t2]
        rfl
      · show jS w2 37 k = _
        rw [jS.at (m4.2 37 (by decide)), o3 k, t1]
        rfl
    · have u := (g5.resolve_right (fun q => hok q.1)).2
      have v := (m5.resolve_right (fun q => hok (by omega))).2
      exact jX_eq (fun c k => (v c k).trans (u c k)) hj.2
  exact la_pop lx_3v (la_glue H1 hL lp_x9v h2 (hq w2 h2 done))
end SIDES
end LAW
