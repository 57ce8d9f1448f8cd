section LAW
variable {E : mj_E} {Q : Option Value → va_W → Prop}
section
set_option maxRecDepth 100000
theorem lp_gs : (la_ldc 905 1 && la_ldc 914 1) = true := by decide +kernel
theorem lx_1s : decode (mj_b 320) 904 = .ok (.aload_n 1, 1) := by decide +kernel
theorem lx_2s : decode (mj_b 320) 913 = .ok (.aload_n 2, 1) := by decide +kernel
theorem lx_3s : decode (mj_b 320) 922 = .ok (.if_icmp .eq 1295, 3) := by decide +kernel

end
section SIDES
variable {al : List Nat} {ws w w2 : va_W} {L : Nat} {i : Int} {ρ : List Int}
set_option maxRecDepth 100000 in
theorem la_xHs (hf : E.2.2.2.1.category = 1) (hT : ∀ σ : List Int, aTb E σ aTabs) (hL : L ≤ 3584) (hE : (E.2.2.1 2).2.1 = L) (H1 : hOkL E al laG1 (fun _ => True) [(L : Int), i] 2) (h : laI E al L i w) (hj : jJ w) (h7 : i + 7 ≤ L)
    (hq : ∀ w2, laI E al L i w2 → jJ w2 → hG E al 86 320 2217 laLv [] [(L : Int), i] w2 Q) : hG E al 86 320 904 laLv [] [(L : Int), i] w Q := by
  have lg := lp_gs
  simp only [Bool.and_eq_true] at lg
  obtain ⟨q0, q1⟩ := lg
  have hx : ∀ k : Int, aI0 ≤ (laX E (i + k)).toInt ∧ (laX E (i + k)).toInt ≤ aI1 := fun k => ⟨i32_lo _, i32_hi _⟩
  have jr : jRel (jLV w) := hj.2.2.1
  obtain ⟨⟨a1, a2, a3⟩, ⟨b1, b2, b3⟩, hB⟩ := jr_b jr
  obtain ⟨⟨-, -, h3, h4, -⟩, -, h5, -⟩ := jr
  have h3 : ∀ n : Nat, (n : Int) < jS w 100 3 → (0 ≤ jS w 107 (3 * n) ∧ jS w 107 (3 * n) ≤ 5) ∧ (1 ≤ jS w 107 (3 * n + 1) ∧ jS w 107 (3 * n + 1) ≤ 99) ∧ 0 ≤ jS w 107 (3 * n + 2) ∧ jS w 107 (3 * n + 2) ≤ jS w 100 4 := h3
  have h4 : ∀ o : Nat, (o : Int) < jS w 100 4 → (0 ≤ jS w 108 (4 * o) ∧ jS w 108 (4 * o) ≤ 5) ∧ (0 ≤ jS w 108 (4 * o + 2) ∧ jS w 108 (4 * o + 2) ≤ 9999) ∧ jS w 19 (4 * o) = jS w 108 (4 * o) ∧
    jS w 19 (4 * o + 2) = bx_s (jS w 107) (jS w 108 (4 * o)) (bx_a (jS w 108) (jS w 108 (4 * o)) o + 1) o (jS w 100 3).toNat - jS w 108 (4 * o + 2) := h4
  have h5 : ∀ o : Nat, (o : Int) < jS w 100 4 → jS w 19 (4 * o + 3) = si_ (jS w 108) (jS w 108 (4 * o)) o := h5
  obtain ⟨nO, e4⟩ : ∃ nO : Nat, jS w 100 4 = nO := ⟨(jS w 100 4).toNat, by omega⟩
  obtain ⟨nA, e3⟩ : ∃ nA : Nat, jS w 100 3 = nA := ⟨(jS w 100 3).toNat, by omega⟩
  have hO : nO ≤ 12 := by omega
  have c4 : jS w 18 3 = nO := b3.trans e4
  have hfo : ∀ o : Nat, o < nO → 0 ≤ jS w 108 (4 * o + 2) ∧ jS w 108 (4 * o + 2) ≤ 9999 := fun o ho => (h4 o (by omega)).2.1
  have hR : lk_R w nA := ⟨e3, by omega, fun n hn => (h3 n (by omega)).2.1⟩
  have same : ∀ x : Int, ss_A (fun o => jS w 19 (4 * o)) (fun o => jS w 19 (4 * o + 2)) (fun o => jS w 19 (4 * o + 3)) x nO = ss_A (fun o => jS w 108 (4 * o)) (fun o => lk_F w o nA) (fun o => si_ (jS w 108) (jS w 108 (4 * o)) o) x nO := by
    intro x
    unfold ss_A
    rw [ss_congr (n := nO) (by omega) (fun k hk => ?_)]
    have g := h4 k (by omega)
    refine ⟨g.2.2.1, ?_, h5 k (by omega)⟩
    have g2 := g.2.2.2
    rw [e3, Int.toNat_natCast] at g2
    exact g2
  refine la_al1 lx_1s ?_
  refine la_arg q0 (by decide) hL hE ⟨h.1.1, h7⟩ ?_
  refine law_callV (d := 85) (y2 := 70) (as := [.inr (0, 0), .inl (ae_k (laX E (i + 1)).toInt)]) (rest := []) mj_li_law H1 (by rfl) (h.hW hL) (fun AS ha => (cs_mj hf hT h.2.1 (hx 1) hO c4 (re_as (es := [ae_k (laX E (i + 1)).toInt]) (by rfl) ha)).weaken (by decide) (Nat.le_refl _) (Nat.le_refl _) (fun v w h => h)) (fun z w1 hR1 => ?_)
  obtain ⟨g0, e1⟩ := hR1
  subst e1
  refine la_al2 lx_2s ?_
  refine la_arg q1 (by decide) hL hE ⟨h.1.1, h7⟩ ?_
  refine law_callV (d := 85) (y2 := 221) (as := [.inr (0, 99), .inl (ae_k (laX E (i + 1)).toInt)]) (rest := [.inl (ae_k z.toInt)]) mj_li_law H1 (by rfl) (h.hW hL) (fun AS ha => (rs_mj hf hT h.2.1 (hx 1) hO e4 hfo hR (re_as (es := [ae_k (laX E (i + 1)).toInt]) (by rfl) ha)).weaken (by decide) (Nat.le_refl _) (Nat.le_refl _) (fun v w h => h)) (fun z2 w2 hR2 => ?_)
  obtain ⟨m0, e2⟩ := hR2
  subst e2
  have h2 := h
  have ez : z = z2 := i32_inj (g0.trans ((same _).trans m0.symm))
  subst ez
  have done := hj
  exact la_eq lx_3s (by show mj_go 922 1295 2217; unfold mj_go; decide) (hq w2 h2 done)
end SIDES
end LAW
