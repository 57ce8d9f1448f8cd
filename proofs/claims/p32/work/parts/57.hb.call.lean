section LAW
variable {E : mj_E} {Q : Option Value → va_W → Prop}
section
set_option maxRecDepth 100000
theorem lp_gb : (la_ldc 1331 1 && la_ldc 1336 2 && la_ldc 1341 3 && la_ldc 1346 4 && la_ldc 1355 1 && la_ldc 1360 2 && la_ldc 1365 3 && la_ldc 1370 4) = true := by decide +kernel
theorem lx_1b : decode (mj_b 320) 1330 = .ok (.aload_n 1, 1) := by decide +kernel
theorem lx_2b : decode (mj_b 320) 1354 = .ok (.aload_n 2, 1) := by decide +kernel
theorem lx_3b : decode (mj_b 320) 1378 = .ok (.if_icmp .eq 839, 3) := by decide +kernel

end
theorem jDcF : ∀ q ∈ jDc, (q.1 ∉ [81, 85, 87] ∧ q.1 ∉ [99, 123, 124, 125, 126]) ∧ q.1 + 37 ∉ [81, 85, 87] ∧ q.1 + 37 ∉ [99, 123, 124, 125, 126] := by decide +kernel
theorem jDrF : ∀ q ∈ jDr, (q.1 ∉ [81, 85, 87] ∧ q.1 ∉ [99, 123, 124, 125, 126]) ∧ 140 ∉ [81, 85, 87] ∧ 140 ∉ [99, 123, 124, 125, 126] := by decide +kernel
section SIDES
variable {al : List Nat} {ws w w2 : va_W} {L : Nat} {i : Int} {ρ : List Int}
set_option maxRecDepth 100000 in
theorem la_xHb (hf : E.2.2.2.1.category = 1) (hT : ∀ σ : List Int, aTb E σ aTabs) (hL : L ≤ 3584) (hE : (E.2.2.1 2).2.1 = L) (H1 : hOkL E al laG1 (fun _ => True) [(L : Int), i] 2) (h : laI E al L i w) (hj : jJ w) (h7 : i + 7 ≤ L)
    (hq : ∀ w2, laI E al L i w2 → jJ w2 → hG E al 86 320 2217 laLv [] [(L : Int), i] w2 Q) : hG E al 86 320 1330 laLv [] [(L : Int), i] w Q := by
  have lg := lp_gb
  simp only [Bool.and_eq_true] at lg
  obtain ⟨⟨⟨⟨⟨⟨⟨q0, q1⟩, q2⟩, q3⟩, q4⟩, q5⟩, q6⟩, q7⟩ := lg
  have hx : ∀ k : Int, aI0 ≤ (laX E (i + k)).toInt ∧ (laX E (i + k)).toInt ≤ aI1 := fun k => ⟨i32_lo _, i32_hi _⟩
  have jr : jRel (jLV w) := hj.2.2.1
  obtain ⟨hC0, hR0, hT0⟩ := jr_s jr
  refine la_al1 lx_1b ?_
  refine la_arg q0 (by decide) hL hE ⟨h.1.1, h7⟩ ?_
  refine la_arg q1 (by decide) hL hE ⟨h.1.1, h7⟩ ?_
  refine la_arg q2 (by decide) hL hE ⟨h.1.1, h7⟩ ?_
  refine la_arg q3 (by decide) hL hE ⟨h.1.1, h7⟩ ?_
  refine law_callV (d := 85) (y2 := 110) (as := [.inr (0, 0), .inl (ae_k (laX E (i + 1)).toInt), .inl (ae_k (laX E (i + 2)).toInt), .inl (ae_k (laX E (i + 3)).toInt), .inl (ae_k (laX E (i + 4)).toInt)]) (rest := []) mj_li_law H1 (by rfl) (h.hW hL) (fun AS ha => bgc_mj hf hT h.2.1 h.2.2 hj.1 hC0 (hx 1) (hx 2) (hx 3) (hx 4) (re_as (es := [ae_k (laX E (i + 1)).toInt, ae_k (laX E (i + 2)).toInt, ae_k (laX E (i + 3)).toInt, ae_k (laX E (i + 4)).toInt]) (by rfl) ha)) (fun z w1 hR => ?_)
  obtain ⟨g0, g1, g2, g3, g4⟩ := hR
  have h1 : laI E al L i w1 := ⟨h.1, g1, g2⟩
  have hR1 : re w1 (jSa w) := ⟨fun k hk => (jS.at (g4.2 115 (by decide))).trans (hR0.1 k hk), hR0.2⟩
  have hT1 : rr w1 (jRa w) := ⟨fun k hk => (jS.at (g4.2 114 (by decide))).trans (hT0.1 k hk), hT0.2⟩
  refine la_al2 lx_2b ?_
  refine la_arg q4 (by decide) hL hE ⟨h.1.1, h7⟩ ?_
  refine la_arg q5 (by decide) hL hE ⟨h.1.1, h7⟩ ?_
  refine la_arg q6 (by decide) hL hE ⟨h.1.1, h7⟩ ?_
  refine la_arg q7 (by decide) hL hE ⟨h.1.1, h7⟩ ?_
  refine law_callV (d := 85) (y2 := 260) (as := [.inr (0, 99), .inl (ae_k (laX E (i + 1)).toInt), .inl (ae_k (laX E (i + 2)).toInt), .inl (ae_k (laX E (i + 3)).toInt), .inl (ae_k (laX E (i + 4)).toInt)]) (rest := [.inl (ae_k z.toInt)]) mj_li_law H1 (by rfl) (h1.hW hL) (fun AS ha => bgr_mj hf hT g1 g2 g3 hR1 hT1 (hx 1) (hx 2) (hx 3) (hx 4) (re_as (es := [ae_k (laX E (i + 1)).toInt, ae_k (laX E (i + 2)).toInt, ae_k (laX E (i + 3)).toInt, ae_k (laX E (i + 4)).toInt]) (by rfl) ha)) (fun z2 w2 hR => ?_)
  obtain ⟨m0, m1, m2, m3, m4, m5⟩ := hR
  have h2 : laI E al L i w2 := ⟨h.1, m1, m2⟩
  have ez : z = z2 := i32_inj (g0.trans m0.symm)
  subst ez
  have done : jJ w2 := ⟨m3, jX_far g4 m4 ((jS.at (m4.2 0 (by decide))).trans (jS.at (g4.2 0 (by decide)))) ((m5 59 (by decide) (by decide) (by decide) (by decide)).trans (jS.at (g4.2 99 (by decide)))) jDcF jDrF hj.2⟩
  exact la_eq lx_3b (by show mj_go 1378 839 2217; unfold mj_go; decide) (hq w2 h2 done)
end SIDES
end LAW
