section LAW
variable {E : mj_E} {Q : Option Value → va_W → Prop}
section
set_option maxRecDepth 100000
theorem lp_ga : (la_ldc 806 1 && la_ldc 811 2 && la_ldc 821 1 && la_ldc 826 2) = true := by decide +kernel
theorem lx_1a : decode (mj_b 320) 805 = .ok (.aload_n 1, 1) := by decide +kernel
theorem lx_2a : decode (mj_b 320) 820 = .ok (.aload_n 2, 1) := by decide +kernel
theorem lx_3a : decode (mj_b 320) 834 = .ok (.pop, 1) := by decide +kernel
theorem lx_4a : decode (mj_b 320) 819 = .ok (.pop, 1) := by decide +kernel
theorem lp_x9a : laP 835 [] 2217 laLv [] = true := by decide +kernel
end
section SIDES
variable {al : List Nat} {ws w w2 : va_W} {L : Nat} {i : Int} {ρ : List Int}
set_option maxRecDepth 100000 in
theorem la_xHa (hf : E.2.2.2.1.category = 1) (hT : ∀ σ : List Int, aTb E σ aTabs) (hL : L ≤ 3584) (hE : (E.2.2.1 2).2.1 = L) (H1 : hOkL E al laG1 (fun _ => True) [(L : Int), i] 2) (h : laI E al L i w) (hj : jJ w) (h7 : i + 7 ≤ L)
    (hq : ∀ w2, laI E al L i w2 → jJ w2 → hG E al 86 320 2217 laLv [] [(L : Int), i] w2 Q) : hG E al 86 320 805 laLv [] [(L : Int), i] w Q := by
  have lg := lp_ga
  simp only [Bool.and_eq_true] at lg
  obtain ⟨⟨⟨q0, q1⟩, q2⟩, q3⟩ := lg
  have hx : ∀ k : Int, aI0 ≤ (laX E (i + k)).toInt ∧ (laX E (i + k)).toInt ≤ aI1 := fun k => ⟨i32_lo _, i32_hi _⟩
  have jr : jRel (jLV w) := hj.2.2.1
  obtain ⟨⟨a1, a2, a3⟩, ⟨b1, b2, b3⟩, hB⟩ := jr_b jr
  refine la_al1 lx_1a ?_
  refine la_arg q0 (by decide) hL hE ⟨h.1.1, h7⟩ ?_
  refine la_arg q1 (by decide) hL hE ⟨h.1.1, h7⟩ ?_
  refine law_callV (d := 85) (y2 := 65) (as := [.inr (0, 0), .inl (ae_k (laX E (i + 1)).toInt), .inl (ae_k (laX E (i + 2)).toInt)]) (rest := []) mj_li_law H1 (by rfl) (h.hW hL) (fun AS ha => ac_mj hf hT h.2.1 h.2.2 hj.1 (hx 1) (hx 2) (n := jS w 16 3) rfl ⟨by omega, by omega⟩ hB (re_as (es := [ae_k (laX E (i + 1)).toInt, ae_k (laX E (i + 2)).toInt]) (by rfl) ha)) (fun z w1 hR => ?_)
  obtain ⟨g1, g2, g3, g4, g5⟩ := hR
  have h1 : laI E al L i w1 := ⟨h.1, g1, g2⟩
  refine la_pop lx_4a ?_
  refine la_al2 lx_2a ?_
  refine la_arg q2 (by decide) hL hE ⟨h.1.1, h7⟩ ?_
  refine la_arg q3 (by decide) hL hE ⟨h.1.1, h7⟩ ?_
  refine law_callV (d := 85) (y2 := 216) (as := [.inr (0, 99), .inl (ae_k (laX E (i + 1)).toInt), .inl (ae_k (laX E (i + 2)).toInt)]) (rest := []) mj_li_law H1 (by rfl) (h1.hW hL) (fun AS ha => ar_mj hf hT g1 g2 g3 (hx 1) (hx 2) (n := jS w 100 3) (jS.at (g4.2 _ (by decide))) ⟨by omega, by omega⟩ (re_as (es := [ae_k (laX E (i + 1)).toInt, ae_k (laX E (i + 2)).toInt]) (by rfl) ha)) (fun z2 w2 hR => ?_)
  obtain ⟨m1, m2, m3, m4, m5⟩ := hR
  have h2 : laI E al L i w2 := ⟨h.1, m1, m2⟩
  have done : jJ w2 := by
    refine ⟨m3, ?_⟩
    by_cases hok : 0 ≤ (laX E (i + 1)).toInt ∧ (laX E (i + 1)).toInt ≤ 5 ∧ 1 ≤ (laX E (i + 2)).toInt ∧ (laX E (i + 2)).toInt ≤ 99 ∧ jS w 16 3 ≤ 23
    · obtain ⟨o1, o2, o3⟩ := g5.resolve_left (fun q => q.1 hok)
      obtain ⟨p1, p2, p3, p4⟩ := m5.resolve_left (fun q => q.1 (by omega))
      refine jX_new g4 m4 (by decide) (by decide) hj.2 ?_
      refine rl_alms (V := jLV w) (W := jLV w2) (p := (laX E (i + 1)).toInt.toNat) (a := (laX E (i + 2)).toInt.toNat) (n := (jS w 100 3).toNat) (o := (jS w 100 4).toNat) jr (by omega) (by omega) (by show jS w 100 3 = _; omega) (by show jS w 100 4 = _; omega) (by omega) ?_ ?_ ?_ ?_ (fun k => ?_) (fun k => ?_) (fun k => ?_) (fun k => ?_) ?_ ?_
      · show jS w2 100 3 = _
        omega
      · show jS w2 100 4 = _
        rw [p3 4 (by decide), jS.at (g4.2 100 (by decide))]
        omega
      · show jS w2 16 3 = _
        rw [jS.at (m4.2 16 (by decide))]
        omega
      · show jS w2 18 3 = jS w 18 3
        rw [jS.at (m4.2 18 (by decide)), jS.at (g4.2 18 (by decide))]
      · show jS w2 107 k = _
        rw [p4 k, jS.at (g4.2 100 (by decide)), jS.at (g4.2 107 (by decide))]
        have e1 : ((jS w 100 4).toNat : Int) = jS w 100 4 := by omega
        have e2 : ((laX E (i + 2)).toInt.toNat : Int) = (laX E (i + 2)).toInt := by omega
        have e3 : ((laX E (i + 1)).toInt.toNat : Int) = (laX E (i + 1)).toInt := by omega
        rw [e1, e2, e3]
        rfl
      · show jS w2 108 k = jS w 108 k
        rw [jS.at (m4.2 108 (by decide)), jS.at (g4.2 108 (by decide))]
      · show jS w2 19 k = jS w 19 k
        rw [jS.at (m4.2 19 (by decide)), jS.at (g4.2 19 (by decide))]
      · show jS w2 15 k = _
        rw [jS.at (m4.2 15 (by decide)), o3 k]
        have e2 : ((laX E (i + 2)).toInt.toNat : Int) = (laX E (i + 2)).toInt := by omega
        rw [e2]
        rfl
      · show jS w2 1 0 = jS w 1 0
        rw [jS.at (m4.2 1 (by decide)), jS.at (g4.2 1 (by decide))]
      · show jS w2 100 0 = jS w 100 0
        rw [p3 0 (by decide), jS.at (g4.2 100 (by decide))]
    · have u := (g5.resolve_right (fun q => hok q.1)).2
      have v := (m5.resolve_right (fun q => hok (by omega))).2
      exact jX_eq (fun c k => (v c k).trans (u c k)) hj.2
  exact la_pop lx_3a (la_glue H1 hL lp_x9a h2 (hq w2 h2 done))
end SIDES
end LAW
