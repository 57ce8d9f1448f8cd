section LAW
variable {E : mj_E} {Q : Option Value → va_W → Prop}
section
set_option maxRecDepth 100000
theorem lp_gv : (la_ldc 1060 1 && la_ldc 1065 2 && la_ldc 1074 1 && la_ldc 1079 2) = true := by decide +kernel
theorem lx_1v : decode (mj_b 320) 1059 = .ok (.aload_n 1, 1) := by decide +kernel
theorem lx_2v : decode (mj_b 320) 1073 = .ok (.aload_n 2, 1) := by decide +kernel
theorem lx_3v : decode (mj_b 320) 1087 = .ok (.if_icmp .eq 1130, 3) := by decide +kernel

end
section SIDES
variable {al : List Nat} {ws w w2 : va_W} {L : Nat} {i : Int} {ρ : List Int}
set_option maxRecDepth 100000 in
theorem la_xHv (hf : E.2.2.2.1.category = 1) (hT : ∀ σ : List Int, aTb E σ aTabs) (hL : L ≤ 3584) (hE : (E.2.2.1 2).2.1 = L) (H1 : hOkL E al laG1 (fun _ => True) [(L : Int), i] 2) (h : laI E al L i w) (hj : jZ w) (h7 : i + 7 ≤ L)
    (hq : ∀ w2, laI E al L i w2 → jZ w2 → hG E al 86 320 2217 laLv [] [(L : Int), i] w2 Q) : hG E al 86 320 1059 laLv [] [(L : Int), i] w Q := by
  have lg := lp_gv
  simp only [Bool.and_eq_true] at lg
  obtain ⟨⟨⟨q0, q1⟩, q2⟩, q3⟩ := lg
  have hx : ∀ k : Int, aI0 ≤ (laX E (i + k)).toInt ∧ (laX E (i + k)).toInt ≤ aI1 := fun k => ⟨i32_lo _, i32_hi _⟩
  have jr : jRel (jLV w) := hj.1.2.2.1
  obtain ⟨-, ⟨d1, d2, d3⟩, dc⟩ := jr
  have b1 : jS w 22 3 = jS w 100 6 := d1
  have b2 : 0 ≤ jS w 22 3 := d2
  have b3 : jS w 22 3 ≤ 8 := d3
  have c : ∀ v : Nat, (v : Int) < jS w 22 3 → (jS w 23 (2 * v + 1) = jS w 110 (2 * v) ∧ 0 ≤ jS w 110 (2 * v) ∧ jS w 110 (2 * v) ≤ 9 ∧ jS w 23 (2 * v) = jS w 110 (2 * v + 1)) ∧ ∀ i : Nat, (i : Int) < jS w 110 (2 * v) → jS w 25 (36 * v + 4 * i) = jS w 111 (36 * v + 4 * i) ∧ jS w 25 (36 * v + 4 * i + 1) = jS w 111 (36 * v + 4 * i + 1) := dc
  obtain ⟨V, eV⟩ : ∃ V, jS w 22 3 = V := ⟨_, rfl⟩
  rw [eV] at b1 b2 b3 c
  have same : ∀ a b : Int, vA V (fun v => jS w 23 (2 * v + 1)) (fun v => jS w 23 (2 * v)) (fun k => jS w 25 (4 * k)) (fun k => jS w 25 (4 * k + 1)) a b = vA V (fun v => jS w 110 (2 * v)) (fun v => jS w 110 (2 * v + 1)) (fun k => jS w 111 (4 * k)) (fun k => jS w 111 (4 * k + 1)) a b := fun a b => vA_congr (fun v hv => ⟨(c v hv).1.1, (c v hv).1.2.2.2⟩) (fun v i hv hi => by
    have k := (c v hv).2 i hi
    have e : 4 * (9 * v + i) = 36 * v + 4 * i := by omega
    show jS w 25 (4 * (9 * v + i)) = jS w 111 (4 * (9 * v + i)) ∧ jS w 25 (4 * (9 * v + i) + 1) = jS w 111 (4 * (9 * v + i) + 1)
    rw [e]
    exact k)
  refine la_al1 lx_1v ?_
  refine la_arg q0 (by decide) hL hE ⟨h.1.1, h7⟩ ?_
  refine la_arg q1 (by decide) hL hE ⟨h.1.1, h7⟩ ?_
  refine law_callV (d := 85) (y2 := 98) (as := [.inr (0, 0), .inl (ae_k (laX E (i + 1)).toInt), .inl (ae_k (laX E (i + 2)).toInt)]) (rest := []) mj_li_law H1 (by rfl) (h.hW hL) (fun AS ha => vc_mj hf hT h.2.1 h.2.2 hj.1.1 (hx 1) (hx 2) eV ⟨b2, b3⟩ (fun v hv => by rw [(c v hv).1.1]; exact ⟨(c v hv).1.2.1, (c v hv).1.2.2.1⟩) (re_as (es := [ae_k (laX E (i + 1)).toInt, ae_k (laX E (i + 2)).toInt]) (by rfl) ha)) (fun z w1 hR1 => ?_)
  obtain ⟨g0, e1⟩ := hR1
  subst e1
  refine la_al2 lx_2v ?_
  refine la_arg q2 (by decide) hL hE ⟨h.1.1, h7⟩ ?_
  refine la_arg q3 (by decide) hL hE ⟨h.1.1, h7⟩ ?_
  refine law_callV (d := 85) (y2 := 249) (as := [.inr (0, 99), .inl (ae_k (laX E (i + 1)).toInt), .inl (ae_k (laX E (i + 2)).toInt)]) (rest := [.inl (ae_k z.toInt)]) mj_li_law H1 (by rfl) (h.hW hL) (fun AS ha => vr_mj hf hT h.2.1 h.2.2 hj.1.1 (hx 1) (hx 2) b1.symm ⟨b2, b3⟩ (fun v hv => ⟨(c v hv).1.2.1, (c v hv).1.2.2.1⟩) (re_as (es := [ae_k (laX E (i + 1)).toInt, ae_k (laX E (i + 2)).toInt]) (by rfl) ha)) (fun z2 w2 hR2 => ?_)
  obtain ⟨m0, e2⟩ := hR2
  subst e2
  have h2 := h
  have ez : z = z2 := i32_inj (g0.trans ((same _ _).trans m0.symm))
  subst ez
  have done := hj
  exact la_eq lx_3v (by show mj_go 1087 1130 2217; unfold mj_go; decide) (hq w2 h2 done)
end SIDES
end LAW
