section LAW
variable {E : mj_E} {Q : Option Value → va_W → Prop}
section
set_option maxRecDepth 100000
theorem lp_gt : (la_ldc 1235 1 && la_ldc 1240 2 && la_ldc 1245 3 && la_ldc 1250 4 && la_ldc 1260 1 && la_ldc 1265 2 && la_ldc 1270 3 && la_ldc 1275 4) = true := by decide +kernel
theorem lx_1t : decode (mj_b 320) 1234 = .ok (.aload_n 1, 1) := by decide +kernel
theorem lx_2t : decode (mj_b 320) 1259 = .ok (.aload_n 2, 1) := by decide +kernel
theorem lx_3t : decode (mj_b 320) 1283 = .ok (.pop, 1) := by decide +kernel
theorem lx_4t : decode (mj_b 320) 1258 = .ok (.pop, 1) := by decide +kernel
theorem lp_x9t : laP 1284 [] 2217 laLv [] = true := by decide +kernel
end
section SIDES
variable {al : List Nat} {ws w w2 : va_W} {L : Nat} {i : Int} {ρ : List Int}
set_option maxRecDepth 100000 in
theorem la_xHt (hf : E.2.2.2.1.category = 1) (hT : ∀ σ : List Int, aTb E σ aTabs) (hL : L ≤ 3584) (hE : (E.2.2.1 2).2.1 = L) (H1 : hOkL E al laG1 (fun _ => True) [(L : Int), i] 2) (h : laI E al L i w) (hj : jJ w) (h7 : i + 7 ≤ L)
    (hq : ∀ w2, laI E al L i w2 → jJ w2 → hG E al 86 320 2217 laLv [] [(L : Int), i] w2 Q) : hG E al 86 320 1234 laLv [] [(L : Int), i] w Q := by
  have lg := lp_gt
  simp only [Bool.and_eq_true] at lg
  obtain ⟨⟨⟨⟨⟨⟨⟨q0, q1⟩, q2⟩, q3⟩, q4⟩, q5⟩, q6⟩, q7⟩ := lg
  have hx : ∀ k : Int, aI0 ≤ (laX E (i + k)).toInt ∧ (laX E (i + k)).toInt ≤ aI1 := fun k => ⟨i32_lo _, i32_hi _⟩
  have jr : jRel (jLV w) := hj.2.2.1
  refine la_al1 lx_1t ?_
  refine la_arg q0 (by decide) hL hE ⟨h.1.1, h7⟩ ?_
  refine la_arg q1 (by decide) hL hE ⟨h.1.1, h7⟩ ?_
  refine la_arg q2 (by decide) hL hE ⟨h.1.1, h7⟩ ?_
  refine la_arg q3 (by decide) hL hE ⟨h.1.1, h7⟩ ?_
  refine law_callV (d := 85) (y2 := 106) (as := [.inr (0, 0), .inl (ae_k (laX E (i + 1)).toInt), .inl (ae_k (laX E (i + 2)).toInt), .inl (ae_k (laX E (i + 3)).toInt), .inl (ae_k (laX E (i + 4)).toInt)]) (rest := []) mj_li_law H1 (by rfl) (h.hW hL) (fun AS ha => tc_mj hf hT h.2.1 h.2.2 hj.1 (hx 1) (hx 2) (hx 3) (hx 4) (re_as (es := [ae_k (laX E (i + 1)).toInt, ae_k (laX E (i + 2)).toInt, ae_k (laX E (i + 3)).toInt, ae_k (laX E (i + 4)).toInt]) (by rfl) ha)) (fun z w1 hR => ?_)
  obtain ⟨g1, g2, g3, g4, g5⟩ := hR
  have h1 : laI E al L i w1 := ⟨h.1, g1, g2⟩
  refine la_pop lx_4t ?_
  refine la_al2 lx_2t ?_
  refine la_arg q4 (by decide) hL hE ⟨h.1.1, h7⟩ ?_
  refine la_arg q5 (by decide) hL hE ⟨h.1.1, h7⟩ ?_
  refine la_arg q6 (by decide) hL hE ⟨h.1.1, h7⟩ ?_
  refine la_arg q7 (by decide) hL hE ⟨h.1.1, h7⟩ ?_
  refine law_callV (d := 85) (y2 := 257) (as := [.inr (0, 99), .inl (ae_k (laX E (i + 1)).toInt), .inl (ae_k (laX E (i + 2)).toInt), .inl (ae_k (laX E (i + 3)).toInt), .inl (ae_k (laX E (i + 4)).toInt)]) (rest := []) mj_li_law H1 (by rfl) (h1.hW hL) (fun AS ha => tr_mj hf hT g1 g2 g3 (hx 1) (hx 2) (hx 3) (hx 4) (re_as (es := [ae_k (laX E (i + 1)).toInt, ae_k (laX E (i + 2)).toInt, ae_k (laX E (i + 3)).toInt, ae_k (laX E (i + 4)).toInt]) (by rfl) ha)) (fun z2 w2 hR => ?_)
  obtain ⟨m1, m2, m3, m4, m5⟩ := hR
  have h2 : laI E al L i w2 := ⟨h.1, m1, m2⟩
  have done : jJ w2 := by
    refine ⟨m3, ?_⟩
    by_cases hok : 0 ≤ (laX E (i + 1)).toInt ∧ (laX E (i + 1)).toInt ≤ 4 ∧ 0 ≤ (laX E (i + 2)).toInt ∧ (laX E (i + 2)).toInt ≤ 2 ∧ 0 ≤ (laX E (i + 3)).toInt ∧ (laX E (i + 3)).toInt ≤ 2 ∧ ¬ (laX E (i + 2)).toInt = (laX E (i + 3)).toInt ∧ 1 ≤ (laX E (i + 4)).toInt ∧ (laX E (i + 4)).toInt ≤ 3000
    · have o1 := (g5.resolve_left (fun q => q.1 hok)).2
      have p1 := (m5.resolve_left (fun q => q.1 hok)).2
      refine jX_new g4 m4 (by decide) (by decide) hj.2 ⟨fun k hk => by
        have e1 : jLV w2 33 k = jS w 33 k := (jS.at (m4.2 33 (by decide))).trans (jS.at (g4.2 33 (by decide)))
        have e2 : jLV w2 115 k = jS w 115 k := (jS.at (m4.2 115 (by decide))).trans (jS.at (g4.2 115 (by decide)))
        rw [e1, e2]
        exact jr.1 k hk, fun k hk => ?_⟩
      have c1 : jLV w2 31 k = _ := (jS.at (m4.2 31 (by decide))).trans (o1 k)
      have c2 : jLV w2 114 k = _ := (p1 k).trans (by rw [jS.at (g4.2 114 (by decide))])
      have old : (0 ≤ jS w 114 k ∧ jS w 114 k ≤ 3000) ∧ jS w 31 k = jS w 114 k := jr.2 k hk
      rw [c1, c2]
      by_cases e : k = 9 * (laX E (i + 1)).toInt.toNat + 3 * (laX E (i + 2)).toInt.toNat + (laX E (i + 3)).toInt.toNat
      · rw [if_pos e, if_pos e]
        exact ⟨⟨by omega, by omega⟩, rfl⟩
      · rw [if_neg e, if_neg e]
        exact old
    · have u := (g5.resolve_right (fun q => hok q.1)).2
      have v := (m5.resolve_right (fun q => hok q.1)).2
      exact jX_eq (fun c k => (v c k).trans (u c k)) hj.2
  exact la_pop lx_3t (la_glue H1 hL lp_x9t h2 (hq w2 h2 done))
end SIDES
end LAW
