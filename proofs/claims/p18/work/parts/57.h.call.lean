/-! THE CALL WHOSE ANSWERS ARE COMPARED: by templates (facts, arguments, answer, the slots behind it, each side's cuts); both sides keep to the same ones -/
section LAW
variable {E : mj_E} {Q : Option Value → va_W → Prop}
def xE : List (Int × Int) := List.replicate 3 aF ++ jLv.map (fun q => (q.2.2.2.2.2.1, q.2.2.2.2.2.2))
def xC (y self : Nat) (cells : List (Nat × Nat)) (md : List Nat) (dep : Nat) (t : xT) (cuts : List aCut) : aInst := ((y, xE, t.1, .inr (0, self) :: t.2.1.map .inl, jHe cells (jSs 3), md, dep, [([], [], some (.inl t.2.2.1), jHe cells t.2.2.2.1)]), cuts)
def xT_0 : xT := ([([(0, 1)], 1)], [ae_s 0, ae_s 1, ae_s 2], ae_k (-1), [ae_s 3], [], [])
def xT_1 : xT := ([([(0, (-1))], 6)], [ae_s 0, ae_s 1, ae_s 2], ae_k (-1), [ae_s 3], [], [])
def xT_2 : xT := ([([(1, 1)], 1)], [ae_s 0, ae_s 1, ae_s 2], ae_k (-1), [ae_s 3], [], [])
def xT_3 : xT := ([([(1, (-1))], 8)], [ae_s 0, ae_s 1, ae_s 2], ae_k (-1), [ae_s 3], [], [])
def xT_4 : xT := ([([(2, 1)], 1)], [ae_s 0, ae_s 1, ae_s 2], ae_k (-1), [ae_s 3], [], [])
def xT_5 : xT := ([([(2, (-1))], 10000)], [ae_s 0, ae_s 1, ae_s 2], ae_k (-1), [ae_s 3], [], [])
def xT_6 : xT := ([([(0, (-1))], 0), ([(0, 1)], (-5)), ([(1, (-1))], 0), ([(1, 1)], (-7)), ([(2, (-1))], 0), ([(2, 1)], (-9999)), ([(3, (-1))], 12)], [ae_s 0, ae_s 1, ae_s 2], ae_k (-2), [ae_s 3], [], [])
def xT_7 : xT := ([([(0, (-1))], 0), ([(0, 1)], (-5)), ([(1, (-1))], 0), ([(1, 1)], (-7)), ([(2, (-1))], 0), ([(2, 1)], (-9999)), ([(3, 1)], (-11))], [ae_s 0, ae_s 1, ae_s 2], ae_s 3, [([(3, 1)], 1)], [], [])
def xTs_0 : List xT := [xT_0, xT_1, xT_2, xT_3, xT_4, xT_5, xT_6, xT_7]
def xTs : List xT := xTs_0
def xcs : List aCon := [ai_60.1, ai_59.1, ai_57.1, ai_56.1]
section
set_option maxRecDepth 100000
theorem xcs_k0 : ak_inst (aG00 []) 100000 ai_56 = true := by decide +kernel
theorem xcs_k1 : ak_inst (aG00 [ai_56.1]) 100000 ai_57 = true := by decide +kernel
theorem xcs_k2 : ak_inst (aG00 [ai_57.1, ai_56.1]) 100000 ai_59 = true := by decide +kernel
theorem xcs_k3 : ak_inst (aG00 [ai_59.1, ai_57.1, ai_56.1]) 100000 ai_60 = true := by decide +kernel
end
def xrs : List aCon := []
def xOk (t : xT) : Bool := ak_inst (aG00 xcs) 100000 (xC 67 0 (jCc 0) xMc 4 t t.2.2.2.2.1) && ak_inst (aG00 xrs) 100000 (xC 217 99 jCr xMr 2 t t.2.2.2.2.2) && t.1.all (fun f => f.1.all (fun q => decide (q.1 < 4))) && t.2.1.all (fun f => f.1.all (fun q => decide (q.1 < 4))) && decide (t.2.2.2.1.length = jLv.length) && (jLv.zip t.2.2.2.1).all (fun p => aP_in (xE, t.1, [], [], []) p.1.2.2.2.2.2.1 p.1.2.2.2.2.2.2 p.2 && p.2.1.all (fun q => decide (q.1 < 4)))
section
set_option maxRecDepth 100000
theorem xk_0 : xTs_0.all xOk = true := by decide +kernel
theorem xE_len : xE.length = 4 := by decide +kernel
theorem lp_g : (la_ldc 839 1 && la_ldc 844 2 && la_ldc 849 3 && la_ldc 858 1 && la_ldc 863 2 && la_ldc 868 3) = true := by decide +kernel
theorem lx_1 : decode (mj_b 320) 838 = .ok (.aload_n 1, 1) := by decide +kernel
theorem lx_2 : decode (mj_b 320) 857 = .ok (.aload_n 2, 1) := by decide +kernel
theorem lx_3 : decode (mj_b 320) 876 = .ok (.if_icmp .eq 1341, 3) := by decide +kernel

end
section SIDES
variable {al : List Nat} {ws w w2 : va_W} {L : Nat} {i : Int} {ρ : List Int}
theorem xk : ∀ t ∈ xTs, xOk t = true := by
  unfold xTs
  exact List.all_eq_true.mp xk_0
theorem xcs_ok (hf : E.2.2.2.1.category = 1) (hT : ∀ σ : List Int, aTb E σ aTabs) : ∀ c ∈ xcs, aCO E al (aG00 []) jJ0 c := by
  have h_0 : ∀ c ∈ ([] : List aCon), aCO E al (aG00 []) jJ0 c := fun c hc => by cases hc
  have h_1 : ∀ c ∈ [ai_56.1], aCO E al (aG00 []) jJ0 c := List.forall_mem_cons.mpr ⟨ai00L hf hT h_0 (q := ai_56) (by decide) xcs_k0, h_0⟩
  have h_2 : ∀ c ∈ [ai_57.1, ai_56.1], aCO E al (aG00 []) jJ0 c := List.forall_mem_cons.mpr ⟨ai00L hf hT h_1 (q := ai_57) (by decide) xcs_k1, h_1⟩
  have h_3 : ∀ c ∈ [ai_59.1, ai_57.1, ai_56.1], aCO E al (aG00 []) jJ0 c := List.forall_mem_cons.mpr ⟨ai00L hf hT h_2 (q := ai_59) (by decide) xcs_k2, h_2⟩
  have h_4 : ∀ c ∈ [ai_60.1, ai_59.1, ai_57.1, ai_56.1], aCO E al (aG00 []) jJ0 c := List.forall_mem_cons.mpr ⟨ai00L hf hT h_3 (q := ai_60) (by decide) xcs_k3, h_3⟩
  exact h_4
theorem xrs_ok (hf : E.2.2.2.1.category = 1) (hT : ∀ σ : List Int, aTb E σ aTabs) : ∀ c ∈ xrs, aCO E al (aG00 []) jJ0 c := by
  have h_0 : ∀ c ∈ ([] : List aCon), aCO E al (aG00 []) jJ0 c := fun c hc => by cases hc
  exact h_0
/-- a side's call, by a template -/
theorem x_mj (hf : E.2.2.2.1.category = 1) (hT : ∀ σ : List Int, aTb E σ aTabs) {y self : Nat} {cells : List (Nat × Nat)} {md : List Nat} {dep : Nat} {t : xT} {cuts : List aCut} {cs : List aCon} (hcs : ∀ c ∈ cs, aCO E al (aG00 []) jJ0 c) (hy : y < mj_lawNo) (hk : ak_inst (aG00 cs) 100000 (xC y self cells md dep t cuts) = true) (hd : dep ≤ 85)
    (a5 : aWd E al aLay ws) (a6 : aRs aRules ws) (a7 : jJ0 ws) (he : aEv ρ xE) (hfs : aFs ρ t.1) (hl : cells.length = jLv.length) (hcell : ∀ (k : Nat) (c : Nat × Nat), cells[k]? = some c → c.1 < 1000000 ∧ ρ[3 + k]? = some (jS ws c.1 c.2) ∧ aSl ws c.1 c.2 (jS ws c.1 c.2)) {AS : List Value} (ha : gL E al ρ (.inr (0, self) :: t.2.1.map .inl) AS) :
    MJ E 85 0 0 (mj_in0 y AS ws) (fun v w => ∃ z : Int32, v = some (.int z) ∧ z.toInt = ae_ev ρ t.2.2.1 ∧ aWd E al aLay w ∧ aRs aRules w ∧ jJ0 w ∧ hD md ws w ∧ ∀ (k : Nat) (c : Nat × Nat) (e : ae), cells[k]? = some c → t.2.2.2.1[k]? = some e → jS w c.1 c.2 = ae_ev ρ e) := by
  have kn : aHh ρ ws (jHe cells (jSs 3)) := by
    refine jHe_ok (fun k c e h1 h2 => ?_)
    obtain ⟨g1, g2, g3⟩ := hcell k c h1
    obtain ⟨hlt, rfl⟩ := jSs_of h2
    refine ⟨g1, ?_, ?_⟩
    · have := (List.getElem?_eq_some_iff.mp g2).1
      simpa [ae_s] using this
    · rw [ev_s g2]
      exact g3
  refine (ai00L hf hT hcs (q := xC y self cells md dep t cuts) hy hk ρ AS ws he hfs ha kn a5 a6 a7 85 hd).weaken (Nat.le_refl _) (Nat.le_refl _) (Nat.le_refl _) (fun v w h => ?_)
  obtain ⟨cs', hcs', r, h1, h2, h3, h4, h5, h6, h7, h8, h9⟩ := h
  have hcs' := List.mem_singleton.mp hcs'
  subst hcs'
  have hr : r = [] := by
    have e1 := h1.1
    have e2 := he.1
    have e3 : (ρ ++ r).length = (xE ++ []).length := e1
    rw [List.length_append, List.append_nil] at e3
    exact List.eq_nil_of_length_eq_zero (by omega)
  subst hr
  rw [List.append_nil] at h3 h4
  obtain ⟨u, rfl, z, rfl, hz⟩ := h3
  refine ⟨z, rfl, hz.ev, h5, h6, h7, ⟨h8, fun k hk => h9 k hk⟩, fun k c e hc he => ?_⟩
  exact jHe_get h4 (jHe_mem hc he) (hcell k c hc).1
/-- one of the templates fits -/
theorem x_cov {S : List Int} (a1 a2 a3 : Int) (hb : ∀ (k : Nat) (b : Int × Int), xE[k]? = some b → b.1 ≤ ([a1, a2, a3] ++ S).getD k 0 ∧ ([a1, a2, a3] ++ S).getD k 0 ≤ b.2) : ∃ t ∈ xTs, (∀ f ∈ t.1, ae_ev ([a1, a2, a3] ++ S) f ≤ 0) ∧ t.2.1.map (ae_ev ([a1, a2, a3] ++ S)) = [a1, a2, a3] := by
  have e0 : ([a1, a2, a3] ++ S).getD 0 0 = a1 := rfl
  have e1 : ([a1, a2, a3] ++ S).getD 1 0 = a2 := rfl
  have e2 : ([a1, a2, a3] ++ S).getD 2 0 = a3 := rfl
  obtain ⟨s, e3⟩ : ∃ s, ([a1, a2, a3] ++ S).getD 3 0 = s := ⟨_, rfl⟩
  have hs := hb 3 (0, 12) (by rfl)
  rw [e3] at hs
  dsimp only at hs
  rcases (by omega : (a1 ≤ (-1)) ∨ (6 ≤ a1) ∨ (a2 ≤ (-1)) ∨ (8 ≤ a2) ∨ (a3 ≤ (-1)) ∨ (10000 ≤ a3) ∨ (0 ≤ a1 ∧ a1 ≤ 5 ∧ 0 ≤ a2 ∧ a2 ≤ 7 ∧ 0 ≤ a3 ∧ a3 ≤ 9999 ∧ 12 ≤ s) ∨ (0 ≤ a1 ∧ a1 ≤ 5 ∧ 0 ≤ a2 ∧ a2 ≤ 7 ∧ 0 ≤ a3 ∧ a3 ≤ 9999 ∧ s ≤ 11)) with h | h | h | h | h | h | h | h
  · refine ⟨xT_0, List.mem_of_getElem? (i := 0) (by rfl), fun f hf => ?_, ?_⟩
    · simp only [xT_0, List.mem_cons, List.not_mem_nil, or_false] at hf
      rcases hf with rfl <;> (simp only [ae_ev, ae_el, ae_s, ae_k, e0, e1, e2, e3]; omega)
    · simp only [xT_0, List.map_cons, List.map_nil, ae_ev, ae_el, ae_s, ae_k, e0, e1, e2, e3, List.cons.injEq, and_true]
      omega
  · refine ⟨xT_1, List.mem_of_getElem? (i := 1) (by rfl), fun f hf => ?_, ?_⟩
    · simp only [xT_1, List.mem_cons, List.not_mem_nil, or_false] at hf
      rcases hf with rfl <;> (simp only [ae_ev, ae_el, ae_s, ae_k, e0, e1, e2, e3]; omega)
    · simp only [xT_1, List.map_cons, List.map_nil, ae_ev, ae_el, ae_s, ae_k, e0, e1, e2, e3, List.cons.injEq, and_true]
      omega
  · refine ⟨xT_2, List.mem_of_getElem? (i := 2) (by rfl), fun f hf => ?_, ?_⟩
    · simp only [xT_2, List.mem_cons, List.not_mem_nil, or_false] at hf
      rcases hf with rfl <;> (simp only [ae_ev, ae_el, ae_s, ae_k, e0, e1, e2, e3]; omega)
    · simp only [xT_2, List.map_cons, List.map_nil, ae_ev, ae_el, ae_s, ae_k, e0, e1, e2, e3, List.cons.injEq, and_true]
      omega
  · refine ⟨xT_3, List.mem_of_getElem? (i := 3) (by rfl), fun f hf => ?_, ?_⟩
    · simp only [xT_3, List.mem_cons, List.not_mem_nil, or_false] at hf
      rcases hf with rfl <;> (simp only [ae_ev, ae_el, ae_s, ae_k, e0, e1, e2, e3]; omega)
    · simp only [xT_3, List.map_cons, List.map_nil, ae_ev, ae_el, ae_s, ae_k, e0, e1, e2, e3, List.cons.injEq, and_true]
      omega
  · refine ⟨xT_4, List.mem_of_getElem? (i := 4) (by rfl), fun f hf => ?_, ?_⟩
    · simp only [xT_4, List.mem_cons, List.not_mem_nil, or_false] at hf
      rcases hf with rfl <;> (simp only [ae_ev, ae_el, ae_s, ae_k, e0, e1, e2, e3]; omega)
    · simp only [xT_4, List.map_cons, List.map_nil, ae_ev, ae_el, ae_s, ae_k, e0, e1, e2, e3, List.cons.injEq, and_true]
      omega
  · refine ⟨xT_5, List.mem_of_getElem? (i := 5) (by rfl), fun f hf => ?_, ?_⟩
    · simp only [xT_5, List.mem_cons, List.not_mem_nil, or_false] at hf
      rcases hf with rfl <;> (simp only [ae_ev, ae_el, ae_s, ae_k, e0, e1, e2, e3]; omega)
    · simp only [xT_5, List.map_cons, List.map_nil, ae_ev, ae_el, ae_s, ae_k, e0, e1, e2, e3, List.cons.injEq, and_true]
      omega
  · refine ⟨xT_6, List.mem_of_getElem? (i := 6) (by rfl), fun f hf => ?_, ?_⟩
    · simp only [xT_6, List.mem_cons, List.not_mem_nil, or_false] at hf
      rcases hf with rfl | rfl | rfl | rfl | rfl | rfl | rfl <;> (simp only [ae_ev, ae_el, ae_s, ae_k, e0, e1, e2, e3]; omega)
    · simp only [xT_6, List.map_cons, List.map_nil, ae_ev, ae_el, ae_s, ae_k, e0, e1, e2, e3, List.cons.injEq, and_true]
      omega
  · refine ⟨xT_7, List.mem_of_getElem? (i := 7) (by rfl), fun f hf => ?_, ?_⟩
    · simp only [xT_7, List.mem_cons, List.not_mem_nil, or_false] at hf
      rcases hf with rfl | rfl | rfl | rfl | rfl | rfl | rfl <;> (simp only [ae_ev, ae_el, ae_s, ae_k, e0, e1, e2, e3]; omega)
    · simp only [xT_7, List.map_cons, List.map_nil, ae_ev, ae_el, ae_s, ae_k, e0, e1, e2, e3, List.cons.injEq, and_true]
      omega
set_option maxRecDepth 100000 in
/-- both sides are called, their answers compared -/
theorem la_xH (hf : E.2.2.2.1.category = 1) (hT : ∀ σ : List Int, aTb E σ aTabs) (hL : L ≤ 3584) (hE : (E.2.2.1 2).2.1 = L) (H1 : hOkL E al laG1 (fun _ => True) [(L : Int), i] 2) (h : laI E al L i w) (hj : jJ w) (h7 : i + 7 ≤ L)
    (hq : ∀ w2, laI E al L i w2 → jJ w2 → hG E al 86 320 2217 laLv [] [(L : Int), i] w2 Q) : hG E al 86 320 838 laLv [] [(L : Int), i] w Q := by
  have lg := lp_g
  simp only [Bool.and_eq_true] at lg
  obtain ⟨⟨⟨⟨⟨q0, q1⟩, q2⟩, q3⟩, q4⟩, q5⟩ := lg
  obtain ⟨jx0, jx1, jx2⟩ := hj.2
  have hx : ∀ k : Int, aI0 ≤ (laX E (i + k)).toInt ∧ (laX E (i + k)).toInt ≤ aI1 := fun k => ⟨i32_lo _, i32_hi _⟩
  have hlen : ([(laX E (i + 1)).toInt, (laX E (i + 2)).toInt, (laX E (i + 3)).toInt] ++ jVs w (jCc 0)).length = 4 := by
    rw [List.length_append, jVs_len, ← xE_len]
    simp [xE] <;> omega
  have he : aEv ([(laX E (i + 1)).toInt, (laX E (i + 2)).toInt, (laX E (i + 3)).toInt] ++ jVs w (jCc 0)) xE := by
    refine ⟨by rw [hlen, xE_len], fun k x b hk hb => ?_⟩
    by_cases hlt : k < 3
    · rw [List.getElem?_append_left (by simpa using hlt)] at hk
      unfold xE at hb
      rw [List.getElem?_append_left (by simpa using hlt), List.getElem?_replicate] at hb
      rw [if_pos hlt] at hb
      cases hb
      match k, hlt, hk with
      | 0, _, hk =>
        cases hk
        exact hx 1
      | 1, _, hk =>
        cases hk
        exact hx 2
      | 2, _, hk =>
        cases hk
        exact hx 3
      | n + 3, hlt, _ => omega
    · rw [List.getElem?_append_right (by simpa using Nat.le_of_not_lt hlt)] at hk
      unfold xE at hb
      rw [List.getElem?_append_right (by simpa using Nat.le_of_not_lt hlt), List.getElem?_map] at hb
      simp only [List.length_cons, List.length_nil, List.length_replicate] at hk hb
      have hl := (List.getElem?_eq_some_iff.mp hk).1
      rw [jVs_len] at hl
      have hq0 := List.getElem?_eq_getElem hl
      have hk2 := jVs_get (w := w) (up := 0) hq0
      rw [hq0] at hb
      cases hb
      have e := Option.some.inj (hk2.symm.trans hk)
      have hm := List.mem_of_getElem? hq0
      rw [← e]
      exact (jx1 _ hm).2
  obtain ⟨t, ht, hfs, hargs⟩ := x_cov (S := jVs w (jCc 0)) (laX E (i + 1)).toInt (laX E (i + 2)).toInt (laX E (i + 3)).toInt (fun k b hb => he.ev hb)
  have kt := xk t ht
  unfold xOk at kt
  simp only [Bool.and_eq_true, decide_eq_true_eq] at kt
  obtain ⟨⟨⟨⟨⟨kc, kr⟩, ks⟩, ka⟩, kl⟩, kb⟩ := kt
  have hfs : aFs ([(laX E (i + 1)).toInt, (laX E (i + 2)).toInt, (laX E (i + 3)).toInt] ++ jVs w (jCc 0)) t.1 := aFs.mk (by rw [hlen]; exact ks) hfs
  have hre : ∀ {AS : List Value} {self : Nat}, gL E al [(L : Int), i] (.inr (0, self) :: [ae_k (laX E (i + 1)).toInt, ae_k (laX E (i + 2)).toInt, ae_k (laX E (i + 3)).toInt].map .inl) AS → gL E al ([(laX E (i + 1)).toInt, (laX E (i + 2)).toInt, (laX E (i + 3)).toInt] ++ jVs w (jCc 0)) (.inr (0, self) :: t.2.1.map .inl) AS := by
    intro AS self ha
    obtain ⟨v, u, rfl, h1, h2⟩ := ha
    refine ⟨v, u, rfl, h1, gL_re ?_ (by rw [hlen]; exact ka) h2⟩
    rw [hargs]
    simp [ae_ev_k]
  refine la_al1 lx_1 ?_
  refine la_arg q0 (by decide) hL hE ⟨h.1.1, h7⟩ ?_
  refine la_arg q1 (by decide) hL hE ⟨h.1.1, h7⟩ ?_
  refine la_arg q2 (by decide) hL hE ⟨h.1.1, h7⟩ ?_
  refine law_callV (d := 85) (y2 := 67) (as := [.inr (0, 0), .inl (ae_k (laX E (i + 1)).toInt), .inl (ae_k (laX E (i + 2)).toInt), .inl (ae_k (laX E (i + 3)).toInt)]) (rest := []) mj_li_law H1 (by rfl) (h.hW hL) (fun AS ha => x_mj hf hT (xcs_ok hf hT) (by decide) kc (by decide) h.2.1 h.2.2 hj.1 he hfs (by simp [jCc]) (fun k c hc => ?_) (hre ha)) (fun z w1 hR => ?_)
  · obtain ⟨q, hq1, rfl⟩ := jCc_of hc
    have hm := List.mem_of_getElem? hq1
    have hlt := (jLy_ok hm).1.1
    refine ⟨by show q.1 + 0 < 1000000; omega, ?_, jLay_sl h.2.1 (jLy_ok hm).2.2.1⟩
    rw [List.getElem?_append_right (by simp)]
    simp only [List.length_cons, List.length_nil, Nat.zero_add, Nat.add_sub_cancel_left]
    exact jVs_get hq1
  obtain ⟨g0, g1, g2, g3, g4, g5⟩ := hR
  have h1 : laI E al L i w1 := ⟨h.1, g1, g2⟩
  refine la_al2 lx_2 ?_
  refine la_arg q3 (by decide) hL hE ⟨h.1.1, h7⟩ ?_
  refine la_arg q4 (by decide) hL hE ⟨h.1.1, h7⟩ ?_
  refine la_arg q5 (by decide) hL hE ⟨h.1.1, h7⟩ ?_
  refine law_callV (d := 85) (y2 := 217) (as := [.inr (0, 99), .inl (ae_k (laX E (i + 1)).toInt), .inl (ae_k (laX E (i + 2)).toInt), .inl (ae_k (laX E (i + 3)).toInt)]) (rest := [.inl (ae_k z.toInt)]) mj_li_law H1 (by rfl) (h1.hW hL) (fun AS ha => x_mj hf hT (xrs_ok hf hT) (by decide) kr (by decide) g1 g2 g3 he hfs (by simp [jCr]) (fun k c hc => ?_) (hre ha)) (fun z2 w2 hR => ?_)
  · obtain ⟨q, hq1, rfl⟩ := jCr_of hc
    have hm := List.mem_of_getElem? hq1
    have hlt := (jLy_ok hm).1.2
    obtain ⟨d1, d2, d3, d4, d5, d6, d7, d8, d9, d10, d11, d12, d13⟩ := jMd_all q hm
    refine ⟨by show q.2.2.1 < 1000000; omega, ?_, jLay_sl g1 (jLy_ok hm).2.1⟩
    rw [List.getElem?_append_right (by simp)]
    simp only [List.length_cons, List.length_nil, Nat.zero_add, Nat.add_sub_cancel_left]
    rw [jVs_get hq1, jS.at (g4.2 _ d13), ← (jx1 q hm).1]
    rfl
  obtain ⟨m0, m1, m2, m3, m4, m5⟩ := hR
  have h2 : laI E al L i w2 := ⟨h.1, m1, m2⟩
  have ez : z = z2 := i32_inj (g0.trans m0.symm)
  subst ez
  have done : jJ w2 := by
    refine ⟨m3, ?_, fun q hm => ?_, fun hk q hm => ?_⟩
    · rw [jS.at (m4.2 0 jM_0.2.1), jS.at (g4.2 0 jM_0.1), jS.at (m4.2 99 jM_0.2.2.2.1), jS.at (g4.2 99 jM_0.2.2.1)]
      exact jx0
    · obtain ⟨k, hk⟩ := List.getElem?_of_mem hm
      obtain ⟨d1, d2, d3, d4, d5, d6, d7, d8, d9, d10, d11, d12, d13⟩ := jMd_all q hm
      have hkl : k < t.2.2.2.1.length := by rw [kl]; exact (List.getElem?_eq_some_iff.mp hk).1
      have hek := List.getElem?_eq_getElem hkl
      have u1 := g5 k _ _ (jCc_get hk) hek
      have u2 := m5 k _ _ (jCr_get hk) hek
      have hz : (q, t.2.2.2.1[k]) ∈ jLv.zip t.2.2.2.1 := List.mem_of_getElem? (i := k) (List.getElem?_zip_eq_some.mpr ⟨hk, hek⟩)
      have b := List.all_eq_true.mp kb _ hz
      rw [Bool.and_eq_true] at b
      have b2 := aPv.in (P := (xE, t.1, [], [], [])) ⟨he, hfs, fun z hz => by cases hz⟩ b.1 (aV.mk (by rw [hlen]; exact b.2))
      unfold jO
      rw [jS.at (m4.2 _ d4)]
      refine ⟨u1.trans u2.symm, ?_⟩
      have u1 : jS w1 q.1 q.2.1 = _ := u1
      rw [u1]
      exact b2
    · obtain ⟨d1, d2, d3, d4, d5, d6, d7, d8, d9, d10, d11, d12, d13⟩ := jMd_all q hm
      unfold jO
      rw [jS.at (m4.2 _ d9), jS.at (g4.2 _ d8), jS.at (m4.2 140 jM_0.2.2.2.2.2), jS.at (g4.2 140 jM_0.2.2.2.2.1)]
      exact jx2 (by rw [← jS.at (g4.2 0 jM_0.1), ← jS.at (m4.2 0 jM_0.2.1)]; exact hk) q hm
  exact la_eq lx_3 (by show mj_go 876 1341 2217; unfold mj_go; decide) (hq w2 h2 done)
end SIDES
end LAW
