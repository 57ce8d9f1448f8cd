section LAW
variable {E : mj_E} {Q : Option Value → va_W → Prop}
section
set_option maxRecDepth 100000
theorem lp_gr : (la_ldc 1384 1 && la_ldc 1389 2 && la_ldc 1394 3 && la_ldc 1403 1 && la_ldc 1408 2 && la_ldc 1413 3) = true := by decide +kernel
theorem lx_1r : decode (mj_b 320) 1383 = .ok (.aload_n 1, 1) := by decide +kernel
theorem lx_2r : decode (mj_b 320) 1402 = .ok (.aload_n 2, 1) := by decide +kernel
theorem lx_3r : decode (mj_b 320) 1421 = .ok (.if_icmp .eq 796, 3) := by decide +kernel

end
theorem jDcF : ∀ q ∈ jDc, (q.1 ∉ [81, 82, 83] ∧ q.1 ∉ [99, 123, 126]) ∧ q.1 + 37 ∉ [81, 82, 83] ∧ q.1 + 37 ∉ [99, 123, 126] := by decide +kernel
theorem jDrF : ∀ q ∈ jDr, (q.1 ∉ [81, 82, 83] ∧ q.1 ∉ [99, 123, 126]) ∧ 140 ∉ [81, 82, 83] ∧ 140 ∉ [99, 123, 126] := by decide +kernel
section SIDES
variable {al : List Nat} {ws w w2 : va_W} {L : Nat} {i : Int} {ρ : List Int}
set_option maxRecDepth 100000 in
theorem la_xHr (hf : E.2.2.2.1.category = 1) (hT : ∀ σ : List Int, aTb E σ aTabs) (hL : L ≤ 3584) (hE : (E.2.2.1 2).2.1 = L) (H1 : hOkL E al laG1 (fun _ => True) [(L : Int), i] 2) (h : laI E al L i w) (hj : jJ w) (h7 : i + 7 ≤ L)
    (hq : ∀ w2, laI E al L i w2 → jJ w2 → hG E al 86 320 2217 laLv [] [(L : Int), i] w2 Q) : hG E al 86 320 1383 laLv [] [(L : Int), i] w Q := by
  have lg := lp_gr
  simp only [Bool.and_eq_true] at lg
  obtain ⟨⟨⟨⟨⟨q0, q1⟩, q2⟩, q3⟩, q4⟩, q5⟩ := lg
  have hx : ∀ k : Int, aI0 ≤ (laX E (i + k)).toInt ∧ (laX E (i + k)).toInt ≤ aI1 := fun k => ⟨i32_lo _, i32_hi _⟩
  have jr : jRel (jLV w) := hj.2.2.1
  obtain ⟨hC0, hR0⟩ := jr_s jr
  refine la_al1 lx_1r ?_
  refine la_arg q0 (by decide) hL hE ⟨h.1.1, h7⟩ ?_
  refine la_arg q1 (by decide) hL hE ⟨h.1.1, h7⟩ ?_
  refine la_arg q2 (by decide) hL hE ⟨h.1.1, h7⟩ ?_
  refine law_callV (d := 85) (y2 := 115) (as := [.inr (0, 0), .inl (ae_k (laX E (i + 1)).toInt), .inl (ae_k (laX E (i + 2)).toInt), .inl (ae_k (laX E (i + 3)).toInt)]) (rest := []) mj_li_law H1 (by rfl) (h.hW hL) (fun AS ha => rdc_mj hf hT h.2.1 h.2.2 hj.1 hC0 (hx 1) (hx 2) (hx 3) (re_as (es := [ae_k (laX E (i + 1)).toInt, ae_k (laX E (i + 2)).toInt, ae_k (laX E (i + 3)).toInt]) (by rfl) ha)) (fun z w1 hR => ?_)
  obtain ⟨g0, g1, g2, g3, g4⟩ := hR
  have h1 : laI E al L i w1 := ⟨h.1, g1, g2⟩
  have hR1 : re w1 (jSa w) := ⟨fun k hk => (jS.at (g4.2 115 (by decide))).trans (hR0.1 k hk), hR0.2⟩
  refine la_al2 lx_2r ?_
  refine la_arg q3 (by decide) hL hE ⟨h.1.1, h7⟩ ?_
  refine la_arg q4 (by decide) hL hE ⟨h.1.1, h7⟩ ?_
  refine la_arg q5 (by decide) hL hE ⟨h.1.1, h7⟩ ?_
  refine law_callV (d := 85) (y2 := 264) (as := [.inr (0, 99), .inl (ae_k (laX E (i + 1)).toInt), .inl (ae_k (laX E (i + 2)).toInt), .inl (ae_k (laX E (i + 3)).toInt)]) (rest := [.inl (ae_k z.toInt)]) mj_li_law H1 (by rfl) (h1.hW hL) (fun AS ha => rdr_mj hf hT g1 g2 g3 hR1 (hx 1) (hx 2) (hx 3) (re_as (es := [ae_k (laX E (i + 1)).toInt, ae_k (laX E (i + 2)).toInt, ae_k (laX E (i + 3)).toInt]) (by rfl) ha)) (fun z2 w2 hR => ?_)
  obtain ⟨m0, m1, m2, m3, m4, m5⟩ := hR
  have h2 : laI E al L i w2 := ⟨h.1, m1, m2⟩
  have ez : z = z2 := i32_inj (g0.trans m0.symm)
  subst ez
  have done : jJ w2 := ⟨m3, jX_far g4 m4 ((jS.at (m4.2 0 (by decide))).trans (jS.at (g4.2 0 (by decide)))) ((m5 59 (by decide) (by decide) (by decide) (by decide)).trans (jS.at (g4.2 99 (by decide)))) jDcF jDrF hj.2⟩
  exact la_eq lx_3r (by show mj_go 1421 796 2217; unfold mj_go; decide) (hq w2 h2 done)
end SIDES
end LAW
