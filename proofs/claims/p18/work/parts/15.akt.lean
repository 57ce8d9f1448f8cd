/-! THE ABSTRACT EVALUATOR IS RIGHT: lists of values; numbers -/
section AKT
variable {E : mj_E} {al : List Nat} {ρ : List Int}
theorem gV.cat (hf : E.2.2.2.1.category = 1) : ∀ {x : av} {v : Value}, gV E al ρ x v → v.category = av_cat x
  | .inl _, _, ⟨n, e, _⟩ => by rw [e]; rfl
  | .inr (0, _), _, ⟨a, h, e⟩ => by rw [e]; rfl
  | .inr (1, _), _, h => by rw [h.2]; rfl
  | .inr (2, _), _, h => by rw [h.2]; rfl
  | .inr (3, _), _, h => by rw [h.2]; rfl
  | .inr (4, _), _, ⟨n, e⟩ => by rw [e]; rfl
  | .inr (5, _), _, h => by rw [h.1]; rfl
  | .inr (6, _), _, h => by rw [show _ = _ from h]; exact hf
  | .inr (_ + 7, _), _, h => h.elim
theorem gA.ld {k : Nat} {x : av} {xs : List (Nat × av)} {vs : List (Nat × Value)} (h : gA E al ρ xs vs) (hk : al_ld xs k = some x) : ∃ v, (k, v) ∈ vs ∧ gV E al ρ x v := by
  unfold al_ld at hk
  cases hf : xs.find? (fun q => q.1 == k) with
  | none => rw [hf] at hk; cases hk
  | some q =>
    rw [hf] at hk
    cases hk
    have e := List.find?_some hf
    rw [beq_iff_eq] at e
    rw [← e]
    exact h q (List.mem_of_find?_eq_some hf)
theorem gA.filter {p : Nat × av → Bool} {p2 : Nat × Value → Bool} {xs : List (Nat × av)} {vs : List (Nat × Value)} (hp : ∀ i x v, gV E al ρ x v → p (i, x) = p2 (i, v)) (h : gA E al ρ xs vs) : gA E al ρ (xs.filter p) (vs.filter p2) := fun q hq => by
  obtain ⟨h1, h2⟩ := List.mem_filter.mp hq
  obtain ⟨v, g1, g2⟩ := h q h1
  exact ⟨v, List.mem_filter.mpr ⟨g1, by rw [← hp q.1 q.2 v g2]; exact h2⟩, g2⟩
theorem gA.cons {k : Nat} {x : av} {v : Value} {xs : List (Nat × av)} {vs : List (Nat × Value)} (hx : gV E al ρ x v) (h : gA E al ρ xs vs) : gA E al ρ ((k, x) :: xs) ((k, v) :: vs) := fun q hq => by
  rcases List.mem_cons.mp hq with rfl | hq
  · exact ⟨v, List.mem_cons_self, hx⟩
  · obtain ⟨u, g1, g2⟩ := h q hq
    exact ⟨u, List.mem_cons_of_mem _ g1, g2⟩
theorem gA.s1 (hf : E.2.2.2.1.category = 1) {k : Nat} {x : av} {v : Value} {xs : List (Nat × av)} {vs : List (Nat × Value)} (h : gA E al ρ xs vs) (hx : gV E al ρ x v) : gA E al ρ (al_s1 xs k x) (mj_s1 vs k v) :=
  gA.cons hx (h.filter (fun i x v hv => by rw [hv.cat hf]))
theorem gA.s2 (hf : E.2.2.2.1.category = 1) {k : Nat} {x : av} {v : Value} {xs : List (Nat × av)} {vs : List (Nat × Value)} (h : gA E al ρ xs vs) (hx : gV E al ρ x v) : gA E al ρ (al_s2 xs k x) (mj_s2 vs k v) :=
  gA.cons hx (h.filter (fun i x v hv => by rw [hv.cat hf]))
theorem gL.len : ∀ {xs : List av} {vs : List Value}, gL E al ρ xs vs → xs.length = vs.length
  | [], _, h => by rw [show _ = [] from h]; rfl
  | _ :: _, _, ⟨v, u, e, h1, h2⟩ => by subst e; simp [gL.len h2]
theorem gL.sum (hf : E.2.2.2.1.category = 1) : ∀ {xs : List av} {vs : List Value}, gL E al ρ xs vs → (vs.map fun v => v.category).sum = (xs.map av_cat).sum
  | [], _, h => by rw [show _ = [] from h]; rfl
  | _ :: _, _, ⟨v, u, e, h1, h2⟩ => by
    subst e
    rw [List.map_cons, List.sum_cons, h1.cat hf, gL.sum hf h2, List.map_cons, List.sum_cons]
theorem av_cat_le (x : av) : av_cat x = 1 ∨ av_cat x = 2 := by
  unfold av_cat
  split <;> simp
theorem gL.sl (hf : E.2.2.2.1.category = 1) : ∀ {xs : List av} {vs : List Value}, gL E al ρ xs vs → (lg_sl vs).length = (xs.map av_cat).sum
  | [], _, h => by rw [show _ = [] from h]; rfl
  | x :: _, _, ⟨v, u, e, h1, h2⟩ => by
    subst e
    have hc := h1.cat hf
    have ih := gL.sl hf h2
    unfold lg_sl at ih ⊢
    rw [List.flatMap_cons, List.length_append, ih, List.map_cons, List.sum_cons, hc]
    rcases av_cat_le x with h | h <;> rw [h] <;> simp
theorem gL.args (hf : E.2.2.2.1.category = 1) : ∀ {xs : List av} {vs : List Value} (i : Nat), gL E al ρ xs vs → gA E al ρ (ak_args i xs) (lv_args i vs)
  | [], _, i, h => by intro q hq; cases hq
  | x :: t, _, i, ⟨v, u, e, h1, h2⟩ => by
    subst e
    have hc := h1.cat hf
    have e2 : lv_args i (v :: u) = (i, v) :: lv_args (i + av_cat x) u := by
      rcases av_cat_le x with h | h
      · rw [lv_args, if_neg (by rw [hc, h]; decide), h]
      · rw [lv_args, if_pos (by rw [hc, h]), h]
    rw [e2]
    exact gA.cons h1 (gL.args hf _ h2)
theorem gL.split (n : Nat) : ∀ {xs : List av} {vs : List Value}, gL E al ρ xs vs → gL E al ρ (xs.take n) (vs.take n) ∧ gL E al ρ (xs.drop n) (vs.drop n) := by
  induction n with
  | zero => intro xs vs h; exact ⟨rfl, h⟩
  | succ n ih =>
    intro xs vs h
    cases xs with
    | nil => rw [show vs = [] from h]; exact ⟨rfl, rfl⟩
    | cons x t =>
      obtain ⟨v, u, rfl, h1, h2⟩ := h
      obtain ⟨a, b⟩ := ih h2
      exact ⟨⟨v, _, rfl, h1, a⟩, b⟩
theorem gL.app : ∀ {xs ys : List av} {vs us : List Value}, gL E al ρ xs vs → gL E al ρ ys us → gL E al ρ (xs ++ ys) (vs ++ us)
  | [], _, _, _, h, h2 => by rw [show _ = [] from h]; exact h2
  | _ :: _, _, _, _, ⟨v, u, e, h1, h3⟩, h2 => by subst e; exact ⟨v, _, rfl, h1, gL.app h3 h2⟩
theorem gL.rev : ∀ {xs : List av} {vs : List Value}, gL E al ρ xs vs → gL E al ρ xs.reverse vs.reverse
  | [], _, h => by rw [show _ = [] from h]; exact rfl
  | _ :: _, _, ⟨v, u, e, h1, h2⟩ => by
    subst e
    rw [List.reverse_cons, List.reverse_cons]
    exact gL.app (gL.rev h2) ⟨v, [], rfl, h1, rfl⟩
end AKT
/-! numbers -/
theorem w32 {x : Int} (h1 : aI0 ≤ x) (h2 : x ≤ aI1) : x.bmod (2 ^ 32) = x := by
  unfold aI0 at h1
  unfold aI1 at h2
  rw [Int.bmod_def]
  split <;> omega
theorem i32_lo (n : Int32) : aI0 ≤ n.toInt := by have := n.le_toInt; unfold aI0; omega
theorem i32_hi (n : Int32) : n.toInt ≤ aI1 := by have := n.toInt_lt; unfold aI1; omega
theorem i32_of {x : Int} (h1 : aI0 ≤ x) (h2 : x ≤ aI1) : (Int32.ofInt x).toInt = x := by rw [Int32.toInt_ofInt]; exact w32 h1 h2
theorem i32_add {a b : Int32} {x : Int} (e : a.toInt + b.toInt = x) (h1 : aI0 ≤ x) (h2 : x ≤ aI1) : (a + b).toInt = x := by rw [Int32.toInt_add, e]; exact w32 h1 h2
theorem i32_sub {a b : Int32} {x : Int} (e : a.toInt - b.toInt = x) (h1 : aI0 ≤ x) (h2 : x ≤ aI1) : (a - b).toInt = x := by rw [Int32.toInt_sub, e]; exact w32 h1 h2
theorem i32_mul {a b : Int32} {x : Int} (e : a.toInt * b.toInt = x) (h1 : aI0 ≤ x) (h2 : x ≤ aI1) : (a * b).toInt = x := by rw [Int32.toInt_mul, e]; exact w32 h1 h2
theorem i32_neg {a : Int32} {x : Int} (e : -a.toInt = x) (h1 : aI0 ≤ x) (h2 : x ≤ aI1) : (-a).toInt = x := by rw [Int32.toInt_neg, e]; exact w32 h1 h2
theorem i32_sub_nz {a b : Int32} (h : a.toInt - b.toInt ≠ 0) : (a - b).toInt ≠ 0 := by
  have ha := i32_lo a; have hb := i32_lo b; have ha2 := i32_hi a; have hb2 := i32_hi b
  unfold aI0 at ha hb
  unfold aI1 at ha2 hb2
  rw [Int32.toInt_sub, Int.bmod_def]
  split <;> omega
theorem i32_inj {a b : Int32} (h : a.toInt = b.toInt) : a = b := Int32.toInt_inj.mp h
theorem i32_cnn {n : Int32} (h : 0 ≤ n.toInt) : (n.toNatClampNeg : Int) = n.toInt := by
  rw [show n.toNatClampNeg = n.toInt.toNat from rfl]
  exact Int.toNat_of_nonneg h
theorem i32_in {n : Int32} {N : Nat} (h1 : 0 ≤ n.toInt) (h2 : n.toInt ≤ (N : Int) - 1) : vp_in n N := by
  have e := i32_cnn h1
  unfold vp_in
  rw [Int32.lt_iff_toInt_lt]
  have : (0 : Int32).toInt = 0 := rfl
  omega
theorem i32_div {a b : Int32} {x c : Int} (ha : a.toInt = x) (hb : b.toInt = c) (h0 : 0 ≤ x) (hc : 0 < c) : (a / b).toInt = x / c := by
  have h2 := i32_hi a
  have e : x / c ≤ x := Int.ediv_le_self c h0
  have e2 : 0 ≤ x / c := Int.ediv_nonneg h0 (by omega)
  rw [Int32.toInt_div, ha, hb, Int.tdiv_eq_ediv_of_nonneg h0]
  exact w32 (by unfold aI0; omega) (by omega)
theorem i32_rem {a b : Int32} {x c : Int} (ha : a.toInt = x) (hb : b.toInt = c) (h0 : 0 ≤ x) (hc : 0 < c) : (a - a / b * b).toInt = x % c := by
  have h2 := i32_hi a
  have e : (a / b).toInt = x / c := i32_div ha hb h0 hc
  have e2 : 0 ≤ x / c := Int.ediv_nonneg h0 (by omega)
  have e3 : x / c * c ≤ x := Int.ediv_mul_le x (by omega)
  have e4 : 0 ≤ x / c * c := Int.mul_nonneg e2 (by omega)
  have e5 : x % c = x - x / c * c := by rw [Int.mul_comm]; exact Int.emod_def x c
  have e6 : (a / b * b).toInt = x / c * c := i32_mul (by rw [e, hb]) (by unfold aI0; omega) (by omega)
  exact i32_sub (by rw [ha, e6, e5]) (by unfold aI0; omega) (by omega)
theorem i32_rem2 {a b : Int32} {c : Int} (hb : b.toInt = c) (hc : 0 < c) : -(c - 1) ≤ (a - a / b * b).toInt ∧ (a - a / b * b).toInt ≤ c - 1 := by
  by_cases h0 : 0 ≤ a.toInt
  · rw [i32_rem rfl hb h0 hc]
    have := Int.emod_nonneg a.toInt (show c ≠ 0 by omega)
    have := Int.emod_lt_of_pos a.toInt hc
    omega
  · have ha := i32_lo a
    have e1 : a.toInt.tdiv c = -((-a.toInt).tdiv c) := by rw [Int.neg_tdiv]; omega
    have e0 : 0 ≤ -a.toInt := by omega
    rw [Int.tdiv_eq_ediv_of_nonneg e0] at e1
    have f1 : -a.toInt / c ≤ -a.toInt := Int.ediv_le_self c e0
    have f2 : 0 ≤ -a.toInt / c := Int.ediv_nonneg e0 (by omega)
    have f3 : -a.toInt / c * c ≤ -a.toInt := Int.ediv_mul_le _ (by omega)
    have f4 : 0 ≤ -a.toInt / c * c := Int.mul_nonneg f2 (by omega)
    have f5 : -a.toInt % c = -a.toInt - -a.toInt / c * c := by rw [Int.mul_comm]; exact Int.emod_def _ c
    have f6 := Int.emod_nonneg (-a.toInt) (show c ≠ 0 by omega)
    have f7 := Int.emod_lt_of_pos (-a.toInt) hc
    unfold aI0 at ha
    have g1 : (a / b).toInt = -(-a.toInt / c) := by
      rw [Int32.toInt_div, hb, e1]
      exact w32 (by unfold aI0; omega) (by unfold aI1; omega)
    have g2 : (a / b * b).toInt = -(-a.toInt / c * c) := i32_mul (by rw [g1, hb, Int.neg_mul]) (by unfold aI0; omega) (by unfold aI1; omega)
    have g3 : (a - a / b * b).toInt = -(-a.toInt % c) := i32_sub (by rw [g2, f5]; omega) (by unfold aI0; omega) (by unfold aI1; omega)
    omega
theorem i32_and {a b : Int32} (hb : 0 ≤ b.toInt) : 0 ≤ (a &&& b).toInt ∧ (a &&& b).toInt ≤ b.toInt := by
  have e1 : (a &&& b).toInt = (a.toBitVec &&& b.toBitVec).toInt := rfl
  have e2 : b.toInt = b.toBitVec.toInt := rfl
  rw [e1]
  rw [e2] at hb ⊢
  rw [BitVec.toInt_eq_toNat_cond] at hb ⊢
  rw [BitVec.toInt_eq_toNat_cond]
  have h1 : (a.toBitVec &&& b.toBitVec).toNat ≤ b.toBitVec.toNat := by rw [BitVec.toNat_and]; exact Nat.and_le_right
  have h2 := b.toBitVec.isLt
  split at hb
  · rename_i h3
    rw [if_pos (by omega), if_pos h3]
    omega
  · omega
theorem i32_and2 {a b : Int32} (ha : 0 ≤ a.toInt) : 0 ≤ (a &&& b).toInt ∧ (a &&& b).toInt ≤ a.toInt := by
  rw [show a &&& b = b &&& a from Int32.and_comm a b]
  exact i32_and ha
theorem i32_b (a : Int32) : -128 ≤ a.toInt8.toInt32.toInt ∧ a.toInt8.toInt32.toInt ≤ 127 := by
  rw [Int8.toInt_toInt32]
  have := a.toInt8.le_toInt
  have := a.toInt8.toInt_lt
  omega
theorem i32_s (a : Int32) : -32768 ≤ a.toInt16.toInt32.toInt ∧ a.toInt16.toInt32.toInt ≤ 32767 := by
  rw [Int16.toInt_toInt32]
  have := a.toInt16.le_toInt
  have := a.toInt16.toInt_lt
  omega
theorem i32_c (u : UInt32) : 0 ≤ (u % 65536).toInt32.toInt ∧ (u % 65536).toInt32.toInt ≤ 65535 := by
  have e : (u % 65536).toInt32.toInt = (u % 65536).toBitVec.toInt := rfl
  rw [e, BitVec.toInt_eq_toNat_cond]
  have h : (u % 65536).toBitVec.toNat < 65536 := by
    show (u % 65536).toNat < 65536
    rw [UInt32.toNat_mod]
    exact Nat.mod_lt _ (by decide)
  rw [if_pos (by omega)]
  omega
