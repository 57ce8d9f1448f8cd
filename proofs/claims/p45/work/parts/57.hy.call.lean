section LAW
variable {E : mj_E} {Q : Option Value → va_W → Prop}
section
set_option maxRecDepth 100000
theorem lp_gy : (la_ldc 1832 1 && la_ldc 1837 2 && la_ldc 1846 1 && la_ldc 1851 2) = true := by decide +kernel
theorem lx_1y : decode (mj_b 320) 1831 = .ok (.aload_n 1, 1) := by decide +kernel
theorem lx_2y : decode (mj_b 320) 1845 = .ok (.aload_n 2, 1) := by decide +kernel
theorem lx_3y : decode (mj_b 320) 1859 = .ok (.if_icmp .eq 358, 3) := by decide +kernel

end
theorem jDy : ∀ q ∈ jDr, q.1 < 130 := by decide +kernel
section SIDES
variable {al : List Nat} {ws w w2 : va_W} {L : Nat} {i : Int} {ρ : List Int}
set_option maxRecDepth 100000 in
theorem la_xHy (hf : E.2.2.2.1.category = 1) (hT : ∀ σ : List Int, aTb E σ aTabs) (hL : L ≤ 3584) (hE : (E.2.2.1 2).2.1 = L) (H1 : hOkL E al laG1 (fun _ => True) [(L : Int), i] 2) (h : laI E al L i w) (hj : jJ w) (h7 : i + 7 ≤ L)
    (hq : ∀ w2, laI E al L i w2 → jJ w2 → hG E al 86 320 2217 laLv [] [(L : Int), i] w2 Q) : hG E al 86 320 1831 laLv [] [(L : Int), i] w Q := by
  have lg := lp_gy
  simp only [Bool.and_eq_true] at lg
  obtain ⟨⟨⟨q0, q1⟩, q2⟩, q3⟩ := lg
  have hx : ∀ k : Int, aI0 ≤ (laX E (i + k)).toInt ∧ (laX E (i + k)).toInt ≤ aI1 := fun k => ⟨i32_lo _, i32_hi _⟩
  have jr : jRel (jLV w) := hj.2.2.1
  obtain ⟨hR0, hC0⟩ := jr_y jr
  refine la_al1 lx_1y ?_
  refine la_arg q0 (by decide) hL hE ⟨h.1.1, h7⟩ ?_
  refine la_arg q1 (by decide) hL hE ⟨h.1.1, h7⟩ ?_
  refine law_callV (d := 85) (y2 := 146) (as := [.inr (0, 0), .inl (ae_k (laX E (i + 1)).toInt), .inl (ae_k (laX E (i + 2)).toInt)]) (rest := []) mj_li_law H1 (by rfl) (h.hW hL) (fun AS ha => yrc_mj hf hT h.2.1 h.2.2 hj.1 hC0 (hx 1) (hx 2) (re_as (es := [ae_k (laX E (i + 1)).toInt, ae_k (laX E (i + 2)).toInt]) (by rfl) ha)) (fun z w1 hR => ?_)
  obtain ⟨g0, e1⟩ := hR
  subst e1
  refine la_al2 lx_2y ?_
  refine la_arg q2 (by decide) hL hE ⟨h.1.1, h7⟩ ?_
  refine la_arg q3 (by decide) hL hE ⟨h.1.1, h7⟩ ?_
  refine law_callV (d := 85) (y2 := 288) (as := [.inr (0, 99), .inl (ae_k (laX E (i + 1)).toInt), .inl (ae_k (laX E (i + 2)).toInt)]) (rest := [.inl (ae_k z.toInt)]) mj_li_law H1 (by rfl) (h.hW hL) (fun AS ha => yrr_mj hf hT h.2.1 h.2.2 hj.1 hR0 (hx 1) (hx 2) (re_as (es := [ae_k (laX E (i + 1)).toInt, ae_k (laX E (i + 2)).toInt]) (by rfl) ha)) (fun z2 w2 hR => ?_)
  obtain ⟨m0, m1, m2, m3, m4⟩ := hR
  have h2 : laI E al L i w2 := ⟨h.1, m1, m2⟩
  have ez : z = z2 := i32_inj (g0.trans m0.symm)
  subst ez
  have done : jJ w2 := ⟨m3, jX_new (mc := []) hD.refl m4 (by decide) (by decide) hj.2 (jRel_congr (fun q hq => ?_) (fun q hq => ?_) jr)⟩
  exact la_eq lx_3y (by show mj_go 1859 358 2217; unfold mj_go; decide) (hq w2 h2 done)
  · have b := jDc_b q hq
    exact (jS.at (m4.2 _ (by
      intro hm
      simp only [List.mem_cons, List.not_mem_nil, or_false] at hm
      omega))).symm
  · have b := jDy q hq
    exact (jS.at (m4.2 _ (by
      intro hm
      simp only [List.mem_cons, List.not_mem_nil, or_false] at hm
      omega))).symm
end SIDES
end LAW
