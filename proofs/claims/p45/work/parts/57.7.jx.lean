/-! what the heads share -/
section LAW
variable {E : mj_E} {Q : Option Value → va_W → Prop}
theorem jDc_b : ∀ q ∈ jDc, (1 ≤ q.1 ∧ q.1 ≤ 37) ∧ q.1 < 99 := by decide +kernel
theorem jDr_b : ∀ q ∈ jDr, 99 < q.1 ∧ q.1 < 140 := by decide +kernel
section SIDES
variable {al : List Nat} {ws w w2 : va_W} {L : Nat} {i : Int} {ρ : List Int}
/-- the first call's world, then the second's: what the relation sees -/
theorem jX_eq (h : ∀ c k, jS w2 c k = jS w c k) (hx : jX w) : jX w2 := by
  obtain ⟨h0, h1, h2⟩ := hx
  refine ⟨by rw [h, h]; exact h0, jRel_congr (fun q _ => (h _ _).symm) (fun q _ => (h _ _).symm) h1, fun hk => jRel_congr (fun q _ => ?_) (fun q _ => ?_) (h2 (by rw [← h]; exact hk))⟩
  · unfold jKV
    rw [h, h]
  · unfold jKV
    rw [h, h]
/-- calls that leave what is kept, and whether, as it was -/
theorem jX_new {mc mr : List Nat} {w1 : va_W} (d1 : hD mc w w1) (d2 : hD mr w1 w2) (hmc : mc.all (fun c => decide (c < 38) && decide (c ≠ 0)) = true) (hmr : mr.all (fun c => decide (99 < c) && decide (c < 140)) = true) (hx : jX w) (hn : jRel (jLV w2)) : jX w2 := by
  obtain ⟨h0, h1, h2⟩ := hx
  have nc : ∀ {c : Nat}, 38 ≤ c ∨ c = 0 → c ∉ mc := fun h hm => by
    have := List.all_eq_true.mp hmc _ hm
    simp only [Bool.and_eq_true, decide_eq_true_eq] at this
    omega
  have nr : ∀ {c : Nat}, c ≤ 99 ∨ 140 ≤ c → c ∉ mr := fun h hm => by
    have := List.all_eq_true.mp hmr _ hm
    simp only [Bool.and_eq_true, decide_eq_true_eq] at this
    omega
  have e : ∀ {c k : Nat}, (38 ≤ c ∨ c = 0) → (c ≤ 99 ∨ 140 ≤ c) → jS w2 c k = jS w c k := fun a b => (jS.at (d2.2 _ (nr b))).trans (jS.at (d1.2 _ (nc a)))
  refine ⟨by rw [e (Or.inr rfl) (Or.inl (by omega)), e (Or.inl (by omega)) (Or.inl (by omega))]; exact h0, hn, fun hk => jRel_congr (fun q hq => ?_) (fun q hq => ?_) (h2 (by rw [← e (c := 0) (Or.inr rfl) (Or.inl (by omega))]; exact hk))⟩
  · have b := jDc_b q hq
    unfold jKV
    rw [if_pos b.2, if_pos b.2, e (Or.inl (by omega)) (Or.inl (by omega))]
  · have b := jDr_b q hq
    unfold jKV
    rw [if_neg (by omega), if_neg (by omega), e (Or.inl (by omega)) (Or.inr (by omega))]
theorem re_as {es : List ae} (hes : es.all (fun e => e.1.isEmpty) = true) {AS : List Value} {self : Nat} (ha : gL E al [(L : Int), i] (.inr (0, self) :: es.map .inl) AS) : gL E al [] (.inr (0, self) :: es.map .inl) AS := by
  obtain ⟨v, u, rfl, h1, h2⟩ := ha
  have key : ∀ e ∈ es, e.1 = [] := fun e he => List.isEmpty_iff.mp (List.all_eq_true.mp hes e he)
  refine ⟨v, u, rfl, h1, gL_re (σ := [(L : Int), i]) ?_ ?_ h2⟩
  · refine List.map_congr_left (fun e he => ?_)
    unfold ae_ev
    rw [key e he]
    rfl
  · refine List.all_eq_true.mpr (fun e he => ?_)
    rw [key e he]
    rfl
/-- what the relation says of the voyages -/
def jA (w : va_W) (k : Nat) : Nat := (jS w 117 k).toNat
def jN (w : va_W) : Nat := (jS w 100 9).toNat
theorem jr_y (jr : jRel (jLV w)) : yh w (jN w) (jA w) ∧ yc w (jN w) (jA w) := by
  obtain ⟨⟨a1, a2, a3⟩, h3, h4⟩ := jr
  have a1 : 0 ≤ jS w 100 9 := a1
  have a2 : jS w 100 9 ≤ 8 := a2
  have a3 : jS w 36 3 = jS w 100 9 := a3
  have h3 : ∀ k : Nat, k < 8 → (0 ≤ jS w 117 (3 * k) ∧ jS w 117 (3 * k) ≤ 999) ∧ (0 ≤ jS w 117 (3 * k + 1) ∧ jS w 117 (3 * k + 1) ≤ 9) ∧ 0 ≤ jS w 117 (3 * k + 2) ∧ jS w 117 (3 * k + 2) ≤ 3 := h3
  have h4 : ∀ k : Nat, k < 24 → jS w 37 k = jS w 117 k := h4
  have en : jS w 100 9 = (jN w : Int) := by unfold jN; omega
  have hn : jN w ≤ 8 := by omega
  have hB : vs_B (jA w) := fun k hk => by
    have := h3 k hk
    unfold jA
    omega
  have eA : ∀ k, k < 24 → jS w 117 k = (jA w k : Int) := fun k hk => by
    have b := h3 (k / 3) (by omega)
    unfold jA
    rcases (by omega : k = 3 * (k / 3) ∨ k = 3 * (k / 3) + 1 ∨ k = 3 * (k / 3) + 2) with e | e | e <;> (rw [← e] at b; omega)
  exact ⟨⟨en, hn, hB, eA⟩, a3.trans en, hn, hB, fun k hk => (h4 k hk).trans (eA k hk)⟩
end SIDES
end LAW
