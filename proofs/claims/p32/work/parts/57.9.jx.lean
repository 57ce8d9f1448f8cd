/-! what the heads share -/
section LAW
variable {E : mj_E} {Q : Option Value → va_W → Prop}
theorem jDc_b : ∀ q ∈ jDc, (1 ≤ q.1 ∧ q.1 ≤ 37) ∧ q.1 < 99 := by decide +kernel
theorem jDr_b : ∀ q ∈ jDr, 99 < q.1 ∧ q.1 < 140 := by decide +kernel
section SIDES
variable {al : List Nat} {ws w w2 : va_W} {L : Nat} {i : Int} {ρ : List Int}
/-- the first call's world, then the second's: what the relation sees -/
theorem jX_eq (h : ∀ c k, jS w2 c k = jS w c k) (hx : jX w) : jX w2 := by
  obtain ⟨h0, h1, h2⟩ := hx
  refine ⟨by rw [h, h]; exact h0, jRel_congr (fun q _ => (h _ _).symm) (fun q _ => (h _ _).symm) h1, fun hk => jRel_congr (fun q _ => ?_) (fun q _ => ?_) (h2 (by rw [← h]; exact hk))⟩
  · unfold jKV
    rw [h, h]
  · unfold jKV
    rw [h, h]
/-- calls that leave the relation's cells, and whether something is kept -/
theorem jX_far {w1 : va_W} {mc mr : List Nat} (d1 : hD mc w w1) (d2 : hD mr w1 w2) (h0 : jS w2 0 2 = jS w 0 2) (h9 : jS w2 99 59 = jS w 99 59) (hc : ∀ q ∈ jDc, (q.1 ∉ mc ∧ q.1 ∉ mr) ∧ q.1 + 37 ∉ mc ∧ q.1 + 37 ∉ mr) (hr : ∀ q ∈ jDr, (q.1 ∉ mc ∧ q.1 ∉ mr) ∧ 140 ∉ mc ∧ 140 ∉ mr) (hx : jX w) : jX w2 := by
  obtain ⟨g0, g1, g2⟩ := hx
  have e : ∀ {c k : Nat}, c ∉ mc → c ∉ mr → jS w c k = jS w2 c k := fun a b => ((jS.at (d2.2 _ b)).trans (jS.at (d1.2 _ a))).symm
  refine ⟨by rw [h0, h9]; exact g0, jRel_congr (fun q hq => e (hc q hq).1.1 (hc q hq).1.2) (fun q hq => e (hr q hq).1.1 (hr q hq).1.2) g1, fun hk => jRel_congr (fun q hq => ?_) (fun q hq => ?_) (g2 (by rw [← h0]; exact hk))⟩
  · have b := jDc_b q hq
    unfold jKV
    rw [if_pos b.2, if_pos b.2]
    exact e (hc q hq).2.1 (hc q hq).2.2
  · have b := jDr_b q hq
    unfold jKV
    rw [if_neg (by omega), if_neg (by omega)]
    exact e (hr q hq).2.1 (hr q hq).2.2
/-- calls that leave what is kept, and whether, as it was -/
theorem jX_new {mc mr : List Nat} {w1 : va_W} (d1 : hD mc w w1) (d2 : hD mr w1 w2) (hmc : mc.all (fun c => decide (c < 38) && decide (c ≠ 0)) = true) (hmr : mr.all (fun c => decide (99 < c) && decide (c < 140)) = true) (hx : jX w) (hn : jRel (jLV w2)) : jX w2 := by
  obtain ⟨h0, h1, h2⟩ := hx
  have nc : ∀ {c : Nat}, 38 ≤ c ∨ c = 0 → c ∉ mc := fun h hm => by
    have := List.all_eq_true.mp hmc _ hm
    simp only [Bool.and_eq_true, decide_eq_true_eq] at this
    omega
  have nr : ∀ {c : Nat}, c ≤ 99 ∨ 140 ≤ c → c ∉ mr := fun h hm => by
    have := List.all_eq_true.mp hmr _ hm
    simp only [Bool.and_eq_true, decide_eq_true_eq] at this
    omega
  have e : ∀ {c k : Nat}, (38 ≤ c ∨ c = 0) → (c ≤ 99 ∨ 140 ≤ c) → jS w2 c k = jS w c k := fun a b => (jS.at (d2.2 _ (nr b))).trans (jS.at (d1.2 _ (nc a)))
  refine ⟨by rw [e (Or.inr rfl) (Or.inl (by omega)), e (Or.inl (by omega)) (Or.inl (by omega))]; exact h0, hn, fun hk => jRel_congr (fun q hq => ?_) (fun q hq => ?_) (h2 (by rw [← e (c := 0) (Or.inr rfl) (Or.inl (by omega))]; exact hk))⟩
  · have b := jDc_b q hq
    unfold jKV
    rw [if_pos b.2, if_pos b.2, e (Or.inl (by omega)) (Or.inl (by omega))]
  · have b := jDr_b q hq
    unfold jKV
    rw [if_neg (by omega), if_neg (by omega), e (Or.inl (by omega)) (Or.inr (by omega))]
theorem re_as {es : List ae} (hes : es.all (fun e => e.1.isEmpty) = true) {AS : List Value} {self : Nat} (ha : gL E al [(L : Int), i] (.inr (0, self) :: es.map .inl) AS) : gL E al [] (.inr (0, self) :: es.map .inl) AS := by
  obtain ⟨v, u, rfl, h1, h2⟩ := ha
  have key : ∀ e ∈ es, e.1 = [] := fun e he => List.isEmpty_iff.mp (List.all_eq_true.mp hes e he)
  refine ⟨v, u, rfl, h1, gL_re (σ := [(L : Int), i]) ?_ ?_ h2⟩
  · refine List.map_congr_left (fun e he => ?_)
    unfold ae_ev
    rw [key e he]
    rfl
  · refine List.all_eq_true.mpr (fun e he => ?_)
    rw [key e he]
    rfl
/-- the sails and the rates of both -/
def jSa (w : va_W) (k : Nat) : Nat := if k < 25 then (jS w 115 k).toNat else 0
def jRa (w : va_W) (k : Nat) : Nat := if k < 45 then (jS w 114 k).toNat else 0
theorem jr_s (jr : jRel (jLV w)) : dw w (jSa w) (jRa w) ∧ re w (jSa w) ∧ rr w (jRa w) := by
  obtain ⟨j1, j2⟩ := jr
  have j1 : ∀ k : Nat, k < 25 → (0 ≤ jS w 115 k ∧ jS w 115 k ≤ 999) ∧ jS w 33 k = jS w 115 k := j1
  have j2 : ∀ k : Nat, k < 45 → (0 ≤ jS w 114 k ∧ jS w 114 k ≤ 3000) ∧ jS w 31 k = jS w 114 k := j2
  have b : ∀ k, jSa w k ≤ 999 := fun k => by
    unfold jSa
    by_cases hk : k < 25
    · rw [if_pos hk]
      have := (j1 k hk).1
      omega
    · rw [if_neg hk]
      omega
  have b2 : ∀ k, jRa w k ≤ 3000 := fun k => by
    unfold jRa
    by_cases hk : k < 45
    · rw [if_pos hk]
      have := (j2 k hk).1
      omega
    · rw [if_neg hk]
      omega
  have e : ∀ k, k < 25 → jS w 115 k = (jSa w k : Int) := fun k hk => by
    unfold jSa
    rw [if_pos hk]
    have := (j1 k hk).1
    omega
  have e2 : ∀ k, k < 45 → jS w 114 k = (jRa w k : Int) := fun k hk => by
    unfold jRa
    rw [if_pos hk]
    have := (j2 k hk).1
    omega
  exact ⟨⟨fun k hk => ((j1 k hk).2).trans (e k hk), b, fun k hk => ((j2 k hk).2).trans (e2 k hk), b2⟩, ⟨e, b⟩, e2, b2⟩
end SIDES
end LAW
