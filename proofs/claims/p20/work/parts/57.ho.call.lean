section LAW
variable {E : mj_E} {Q : Option Value → va_W → Prop}
section
set_option maxRecDepth 100000
theorem lp_go : (la_ldc 839 1 && la_ldc 844 2 && la_ldc 849 3 && la_ldc 859 1 && la_ldc 864 2 && la_ldc 869 3) = true := by decide +kernel
theorem lx_1o : decode (mj_b 320) 838 = .ok (.aload_n 1, 1) := by decide +kernel
theorem lx_2o : decode (mj_b 320) 858 = .ok (.aload_n 2, 1) := by decide +kernel
theorem lx_3o : decode (mj_b 320) 877 = .ok (.pop, 1) := by decide +kernel
theorem lx_4o : decode (mj_b 320) 857 = .ok (.pop, 1) := by decide +kernel
theorem lp_x9o : laP 878 [] 2217 laLv [] = true := by decide +kernel
end
section SIDES
variable {al : List Nat} {ws w w2 : va_W} {L : Nat} {i : Int} {ρ : List Int}
set_option maxRecDepth 100000 in
theorem la_xHo (hf : E.2.2.2.1.category = 1) (hT : ∀ σ : List Int, aTb E σ aTabs) (hL : L ≤ 3584) (hE : (E.2.2.1 2).2.1 = L) (H1 : hOkL E al laG1 (fun _ => True) [(L : Int), i] 2) (h : laI E al L i w) (hj : jJ w) (h7 : i + 7 ≤ L)
    (hq : ∀ w2, laI E al L i w2 → jJ w2 → hG E al 86 320 2217 laLv [] [(L : Int), i] w2 Q) : hG E al 86 320 838 laLv [] [(L : Int), i] w Q := by
  have lg := lp_go
  simp only [Bool.and_eq_true] at lg
  obtain ⟨⟨⟨⟨⟨q0, q1⟩, q2⟩, q3⟩, q4⟩, q5⟩ := lg
  have hx : ∀ k : Int, aI0 ≤ (laX E (i + k)).toInt ∧ (laX E (i + k)).toInt ≤ aI1 := fun k => ⟨i32_lo _, i32_hi _⟩
  have jr : jRel (jLV w) := hj.2.2.1
  obtain ⟨⟨a1, a2, a3⟩, ⟨b1, b2, b3⟩, hB⟩ := jr_b jr
  refine la_al1 lx_1o ?_
  refine la_arg q0 (by decide) hL hE ⟨h.1.1, h7⟩ ?_
  refine la_arg q1 (by decide) hL hE ⟨h.1.1, h7⟩ ?_
  refine la_arg q2 (by decide) hL hE ⟨h.1.1, h7⟩ ?_
  refine law_callV (d := 85) (y2 := 67) (as := [.inr (0, 0), .inl (ae_k (laX E (i + 1)).toInt), .inl (ae_k (laX E (i + 2)).toInt), .inl (ae_k (laX E (i + 3)).toInt)]) (rest := []) mj_li_law H1 (by rfl) (h.hW hL) (fun AS ha => oc_mj hf hT h.2.1 h.2.2 hj.1 (hx 1) (hx 2) (hx 3) (n := jS w 18 3) rfl ⟨by omega, by omega⟩ hB (re_as (es := [ae_k (laX E (i + 1)).toInt, ae_k (laX E (i + 2)).toInt, ae_k (laX E (i + 3)).toInt]) (by rfl) ha)) (fun z w1 hR => ?_)
  obtain ⟨g1, g2, g3, g4, g5⟩ := hR
  have h1 : laI E al L i w1 := ⟨h.1, g1, g2⟩
  refine la_pop lx_4o ?_
  refine la_al2 lx_2o ?_
  refine la_arg q3 (by decide) hL hE ⟨h.1.1, h7⟩ ?_
  refine la_arg q4 (by decide) hL hE ⟨h.1.1, h7⟩ ?_
  refine la_arg q5 (by decide) hL hE ⟨h.1.1, h7⟩ ?_
  refine law_callV (d := 85) (y2 := 217) (as := [.inr (0, 99), .inl (ae_k (laX E (i + 1)).toInt), .inl (ae_k (laX E (i + 2)).toInt), .inl (ae_k (laX E (i + 3)).toInt)]) (rest := []) mj_li_law H1 (by rfl) (h1.hW hL) (fun AS ha => or_mj hf hT g1 g2 g3 (hx 1) (hx 2) (hx 3) (n := jS w 100 4) (jS.at (g4.2 _ (by decide))) ⟨by omega, by omega⟩ (re_as (es := [ae_k (laX E (i + 1)).toInt, ae_k (laX E (i + 2)).toInt, ae_k (laX E (i + 3)).toInt]) (by rfl) ha)) (fun z2 w2 hR => ?_)
  obtain ⟨m1, m2, m3, m4, m5⟩ := hR
  have h2 : laI E al L i w2 := ⟨h.1, m1, m2⟩
  have done : jJ w2 := by
    refine ⟨m3, ?_⟩
    by_cases hok : 0 ≤ (laX E (i + 1)).toInt ∧ (laX E (i + 1)).toInt ≤ 5 ∧ 0 ≤ (laX E (i + 2)).toInt ∧ (laX E (i + 2)).toInt ≤ 7 ∧ 0 ≤ (laX E (i + 3)).toInt ∧ (laX E (i + 3)).toInt ≤ 9999 ∧ jS w 18 3 ≤ 11
    · obtain ⟨o1, o2, o3, o4, o5, o6, o7, o8⟩ := g5.resolve_left (fun q => q.1 hok)
      obtain ⟨p1, p2, p3, p4⟩ := m5.resolve_left (fun q => q.1 (by omega))
      refine jX_new g4 m4 (by decide) (by decide) hj.2 ?_
      have n0 : (jS w 18 3).toNat = (jS w 100 4).toNat := by omega
      rw [n0] at o4 o5 o6 o7
      refine rl_open (V := jLV w) (W := jLV w2) (p := (laX E (i + 1)).toInt.toNat) (fo := (laX E (i + 3)).toInt) (n := (jS w 100 3).toNat) (o := (jS w 100 4).toNat) jr (by omega) (by omega) (by show jS w 100 3 = _; omega) (by show jS w 100 4 = _; omega) (by omega) ?_ ?_ ?_ ?_ (fun k => ?_) (fun k hk => ?_) ?_ ?_ (fun k hk => ?_) ?_ ?_ (fun k hk => ?_) ?_ ?_ ?_ ?_ (fun k hk => ?_)
      · show jS w2 100 3 = _
        rw [p3 3 (by decide) (by decide), jS.at (g4.2 100 (by decide))]
        omega
      · show jS w2 100 4 = _
        omega
      · show jS w2 16 3 = jS w 16 3
        rw [jS.at (m4.2 16 (by decide)), jS.at (g4.2 16 (by decide))]
      · show jS w2 18 3 = _
        rw [jS.at (m4.2 18 (by decide))]
        omega
      · show jS w2 107 k = jS w 107 k
        rw [jS.at (m4.2 107 (by decide)), jS.at (g4.2 107 (by decide))]
      · show jS w2 108 k = jS w 108 k
        rw [p4 k, if_neg (by omega), if_neg (by omega), if_neg (by omega), if_neg (by omega), jS.at (g4.2 108 (by decide))]
      · show jS w2 108 (4 * (jS w 100 4).toNat) = _
        rw [p4, if_neg (by omega), if_neg (by omega), if_neg (by omega), if_pos rfl]
        omega
      · show jS w2 108 (4 * (jS w 100 4).toNat + 2) = _
        rw [p4, if_neg (by omega), if_pos rfl]
      · show jS w2 19 k = jS w 19 k
        rw [jS.at (m4.2 19 (by decide)), o4 k hk]
      · show jS w2 19 (4 * (jS w 100 4).toNat) = _
        rw [jS.at (m4.2 19 (by decide)), o5]
        omega
      · show jS w2 19 (4 * (jS w 100 4).toNat + 2) = jS w 15 (2 * (laX E (i + 1)).toInt.toNat) - _
        rw [jS.at (m4.2 19 (by decide)), o6]
      · show jS w2 15 (2 * k) = if k = _ then 0 else jS w 15 (2 * k)
        rw [jS.at (m4.2 15 (by decide)), o3]
        by_cases e : k = (laX E (i + 1)).toInt.toNat
        · rw [if_pos (by omega), if_pos e]
        · rw [if_neg (by omega), if_neg (by omega), if_neg e]
      · show jS w2 1 0 = jS w 1 0
        rw [jS.at (m4.2 1 (by decide)), o8]
      · show jS w2 100 0 = jS w 100 0
        rw [p3 0 (by decide) (by decide), jS.at (g4.2 100 (by decide))]
      · show jS w2 108 (4 * (jS w 100 4).toNat + 3) = jS w 100 0
        rw [p4, if_pos rfl, jS.at (g4.2 100 (by decide))]
      · show jS w2 19 (4 * (jS w 100 4).toNat + 3) = jS w 15 (2 * (laX E (i + 1)).toInt.toNat + 1)
        rw [jS.at (m4.2 19 (by decide)), o7]
      · show jS w2 15 (2 * k + 1) = if k = _ then jS w 1 0 else jS w 15 (2 * k + 1)
        rw [jS.at (m4.2 15 (by decide)), o3]
        by_cases e : k = (laX E (i + 1)).toInt.toNat
        · rw [if_neg (by omega), if_pos (by omega), if_pos e]
        · rw [if_neg (by omega), if_neg (by omega), if_neg e]
    · have u := (g5.resolve_right (fun q => hok q.1)).2
      have v := (m5.resolve_right (fun q => hok (by omega))).2
      exact jX_eq (fun c k => (v c k).trans (u c k)) hj.2
  exact la_pop lx_3o (la_glue H1 hL lp_x9o h2 (hq w2 h2 done))
end SIDES
end LAW
