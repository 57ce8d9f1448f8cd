/-! what the heads share -/
section LAW
variable {E : mj_E} {Q : Option Value → va_W → Prop}
theorem jDc_b : ∀ q ∈ jDc, (1 ≤ q.1 ∧ q.1 ≤ 37) ∧ q.1 < 99 := by decide +kernel
theorem jDr_b : ∀ q ∈ jDr, 99 < q.1 ∧ q.1 < 140 := by decide +kernel
theorem jDc0_m : ∀ q ∈ jDc0, q.1 ∉ ([1, 3] : List Nat) ∧ q.1 ∉ ([100, 101] : List Nat) := by decide +kernel
theorem jDr0_m : ∀ q ∈ jDr0, (q = (100, 3) ∨ q = (100, 4)) ∨ (q.1 ∉ ([1, 3] : List Nat) ∧ q.1 ∉ ([100, 101] : List Nat)) := by decide +kernel
section SIDES
variable {al : List Nat} {ws w w2 : va_W} {L : Nat} {i : Int} {ρ : List Int}
/-- the first call's world, then the second's: what the relation sees -/
theorem jX_eq (h : ∀ c k, jS w2 c k = jS w c k) (hx : jX w) : jX w2 := by
  obtain ⟨h0, h1, h2⟩ := hx
  refine ⟨by rw [h, h]; exact h0, jRel_congr (fun q _ => (h _ _).symm) (fun q _ => (h _ _).symm) h1, fun hk => jRel_congr (fun q _ => ?_) (fun q _ => ?_) (h2 (by rw [← h]; exact hk))⟩
  · unfold jKV
    rw [h, h]
  · unfold jKV
    rw [h, h]
/-- calls that leave what is kept, and whether, as it was -/
theorem jX_new {mc mr : List Nat} {w1 : va_W} (d1 : hD mc w w1) (d2 : hD mr w1 w2) (hmc : mc.all (fun c => decide (c < 38) && decide (c ≠ 0)) = true) (hmr : mr.all (fun c => decide (99 < c) && decide (c < 140)) = true) (hx : jX w) (hn : jRel (jLV w2)) : jX w2 := by
  obtain ⟨h0, h1, h2⟩ := hx
  have nc : ∀ {c : Nat}, 38 ≤ c ∨ c = 0 → c ∉ mc := fun h hm => by
    have := List.all_eq_true.mp hmc _ hm
    simp only [Bool.and_eq_true, decide_eq_true_eq] at this
    omega
  have nr : ∀ {c : Nat}, c ≤ 99 ∨ 140 ≤ c → c ∉ mr := fun h hm => by
    have := List.all_eq_true.mp hmr _ hm
    simp only [Bool.and_eq_true, decide_eq_true_eq] at this
    omega
  have e : ∀ {c k : Nat}, (38 ≤ c ∨ c = 0) → (c ≤ 99 ∨ 140 ≤ c) → jS w2 c k = jS w c k := fun a b => (jS.at (d2.2 _ (nr b))).trans (jS.at (d1.2 _ (nc a)))
  refine ⟨by rw [e (Or.inr rfl) (Or.inl (by omega)), e (Or.inl (by omega)) (Or.inl (by omega))]; exact h0, hn, fun hk => jRel_congr (fun q hq => ?_) (fun q hq => ?_) (h2 (by rw [← e (c := 0) (Or.inr rfl) (Or.inl (by omega))]; exact hk))⟩
  · have b := jDc_b q hq
    unfold jKV
    rw [if_pos b.2, if_pos b.2, e (Or.inl (by omega)) (Or.inl (by omega))]
  · have b := jDr_b q hq
    unfold jKV
    rw [if_neg (by omega), if_neg (by omega), e (Or.inl (by omega)) (Or.inr (by omega))]
theorem re_as {es : List ae} (hes : es.all (fun e => e.1.isEmpty) = true) {AS : List Value} {self : Nat} (ha : gL E al [(L : Int), i] (.inr (0, self) :: es.map .inl) AS) : gL E al [] (.inr (0, self) :: es.map .inl) AS := by
  obtain ⟨v, u, rfl, h1, h2⟩ := ha
  have key : ∀ e ∈ es, e.1 = [] := fun e he => List.isEmpty_iff.mp (List.all_eq_true.mp hes e he)
  refine ⟨v, u, rfl, h1, gL_re (σ := [(L : Int), i]) ?_ ?_ h2⟩
  · refine List.map_congr_left (fun e he => ?_)
    unfold ae_ev
    rw [key e he]
    rfl
  · refine List.all_eq_true.mpr (fun e he => ?_)
    rw [key e he]
    rfl
/-- what the relation says of the counts and boxes -/
theorem jr_b (jr : jRel (jLV w)) : (0 ≤ jS w 100 3 ∧ jS w 100 3 ≤ 24 ∧ jS w 16 3 = jS w 100 3) ∧ (0 ≤ jS w 100 4 ∧ jS w 100 4 ≤ 12 ∧ jS w 18 3 = jS w 100 4) ∧ ∀ p : Nat, p ≤ 5 → 0 ≤ jS w 15 (2 * p) ∧ jS w 15 (2 * p) ≤ 2376 := by
  obtain ⟨⟨a1, a2, a3⟩, ⟨b1, b2, b3⟩, h3, h4, h5⟩ := jr.1
  have a1 : 0 ≤ jS w 100 3 := a1
  have a2 : jS w 100 3 ≤ 24 := a2
  refine ⟨⟨a1, a2, a3⟩, ⟨b1, b2, b3⟩, fun p hp => ?_⟩
  have e : jS w 15 (2 * p) = bx_s (jLV w 107) p (bx_a (jLV w 108) p (jLV w 100 4).toNat + 1) (jLV w 100 4) (jLV w 100 3).toNat := h5 p hp
  have t : (jLV w 100 3).toNat ≤ 24 := by show (jS w 100 3).toNat ≤ 24; omega
  have := bx_s_b (A := jLV w 107) (p := (p : Int)) (f := bx_a (jLV w 108) p (jLV w 100 4).toNat + 1) (t := jLV w 100 4) (n := (jLV w 100 3).toNat) (fun k hk => by
    have hk : k < (jS w 100 3).toNat := hk
    have := (h3 k (show (k : Int) < jS w 100 3 by omega)).2.1
    omega)
  rw [e]
  omega
end SIDES
end LAW
