/-! THE FIRST WORLD keeps the rules and J -/
section
set_option maxRecDepth 100000
theorem mv_z0 : mvs.all (fun q => decide (q.2.2 + q.2.1 ≤ 3000) && (aColsOf q.1).all (fun b => decide (b.1 ≤ 0) && decide (0 ≤ b.2))) = true := by decide +kernel
end
section WORLD
variable {E : mj_E} {al : List Nat} {ws : va_W}
theorem cx_W.cell {w : cx_w} (h : cx_W E al w ws) {k : Nat} {c : cx_c} (hc : w[k]? = some c) : ∃ q, ws[k]? = some q ∧ cx_C E al c q.2 := by
  have hl : k < ws.length := by rw [← h.2.1]; exact (List.getElem?_eq_some_iff.mp hc).1
  have hq : ws[k]? = some ws[k] := List.getElem?_eq_some_iff.mpr ⟨hl, rfl⟩
  exact ⟨_, hq, h.2.2 k c _ hc hq⟩
theorem cx_zero_w {w : cx_w} (h : cx_W E al w ws) {k n : Nat} (hz : cx_zw w k n = true) : ∀ i, i < n → (jR ws k i).toInt = 0 := by
  unfold cx_zw at hz
  split at hz
  · rename_i N f he
    obtain ⟨⟨a, e⟩, hq, hC⟩ := h.cell he
    have hC : e = _ := hC
    subst hC
    intro i hi
    rw [jR.row hq]
    exact of_decide_eq_true (List.all_eq_true.mp hz i (List.mem_range.mpr hi))
  · cases hz
theorem cx_zero (h : cx_W E al cx_w2 ws) {k n : Nat} (hz : cx_z k n = true) : ∀ i, i < n → (jR ws k i).toInt = 0 := cx_zero_w (w := cx_w2) h hz
theorem cx_rules_w {w : cx_w} (hw : cx_rulesw w = true) (h : cx_W E al w ws) : aRs aRules ws := by
  unfold cx_rulesw at hw
  intro r hr
  have h0 := List.all_eq_true.mp hw r hr
  split at h0
  · rename_i c hc
    obtain ⟨⟨a0, e0⟩, hq, hC⟩ := h.cell hc
    unfold cx_okl at h0
    split at h0
    · rename_i N f
      have hC : e0 = _ := hC
      subst hC
      intro a M g cl he j hv h1 h2
      rw [hq] at he
      cases he
      have hs : 0 < r.2.1 := by
        simp only [aRules, List.mem_cons, List.not_mem_nil, or_false] at hr
        rcases hr with rfl | rfl <;> decide
      have hj : j < N / r.2.1 + 1 := by
        have : j ≤ N / r.2.1 := (Nat.le_div_iff_mul_le hs).mpr (by rw [Nat.mul_comm]; omega)
        omega
      have := List.all_eq_true.mp h0 j (List.mem_range.mpr hj)
      simp only [Bool.or_eq_true, Bool.and_eq_true, decide_eq_true_eq] at this
      rcases this with h3 | h3
      · exact absurd hv h3
      · exact h3
    · cases h0
  · cases h0
theorem cx_rules (h : cx_W E al cx_w2 ws) : aRs aRules ws := cx_rules_w (w := cx_w2) cx_w2_rules h
theorem cx_slot {w : cx_w} (h : cx_W E al w ws) {k i : Nat} {x : Int} (hz : cx_svw w k i = some x) : jS ws k i = x := by
  unfold cx_svw at hz
  split at hz
  · rename_i ci fs he
    obtain ⟨⟨a, e⟩, hq, hC⟩ := h.cell he
    obtain ⟨vs, hC, hL⟩ := hC
    have hC : e = _ := hC
    subst hC
    split at hz
    · rename_i n hn
      obtain ⟨v, hv, hV⟩ := hL.get hn
      have hV : v = _ := hV
      subst hV
      cases hz
      exact jS.sl (Or.inl ⟨a, _, vs, n, hq, hv, rfl⟩)
    · cases hz
  · rename_i N f he
    obtain ⟨⟨a, e⟩, hq, hC⟩ := h.cell he
    have hC : e = _ := hC
    subst hC
    cases hz
    unfold jS
    rw [hq]
  · cases hz
theorem cx_eq_ok {w : cx_w} (h : cx_W E al w ws) {c i b j : Nat} {lo hi : Int} (hz : cx_eqw w c i b j lo hi = true) : jO ws c i b j lo hi := by
  unfold cx_eqw at hz
  split at hz
  · rename_i x y h1 h2
    unfold jO
    rw [cx_slot h h1, cx_slot h h2]
    exact of_decide_eq_true hz
  · cases hz
theorem cx_X_w {w : cx_w} (h : cx_W E al w ws) (k : cx_relw w = true) : jX ws := by
  unfold cx_relw at k
  rw [Bool.and_eq_true] at k
  have k0 := cx_eq_ok h k.1
  refine ⟨k0.1, fun q hq => cx_eq_ok h (List.all_eq_true.mp k.2 q hq), fun hk => ?_⟩
  have := k0.2
  omega
theorem cx_X (h : cx_W E al cx_w2 ws) : jX ws := cx_X_w (w := cx_w2) h cx_facts8.2.2.2.2.2.2.2
theorem cx_J (h : cx_W E al cx_w2 ws) : jJ ws := by
  have z1 := cx_zero h cx_facts8.2.2.2.2.2.1
  have z2 := cx_zero h cx_facts8.2.2.2.2.2.2.1
  have m := List.all_eq_true.mp mv_z0
  refine ⟨?_, cx_X h⟩
  refine ⟨fun v k hv hk hlt => ?_, fun q hq i b hi hb => ?_, fun j hj h2 => ?_, fun j hj h0 => ?_, fun v k hv hk hlt => ?_⟩
  · rw [z1 (2 * v) (by omega)] at hlt
    omega
  · have m0 := m q hq
    rw [Bool.and_eq_true, decide_eq_true_eq] at m0
    have m1 := List.all_eq_true.mp m0.2 b (List.mem_of_getElem? hb)
    simp only [Bool.and_eq_true, decide_eq_true_eq] at m1
    show b.1 ≤ (jR ws 140 (q.2.2 + i)).toInt ∧ (jR ws 140 (q.2.2 + i)).toInt ≤ b.2
    rw [z2 _ (show q.2.2 + i < 3000 by omega)]
    exact m1
  · rw [z2 _ (by omega)] at h2
    omega
  · rw [z2 _ (show 492 + (4 * j + 1) < 3000 by omega)]
    omega
  · have hlt : (k : Int) < (jR ws 140 (476 + 2 * v)).toInt := hlt
    rw [z2 _ (by omega)] at hlt
    omega
end WORLD
