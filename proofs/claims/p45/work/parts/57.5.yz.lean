/-- the rows of the search may have changed, nothing else -/
def yv (E : mj_E) (al : List Nat) (w0 w : va_W) : Prop := aWd E al aLay w ∧ aRs aRules w ∧ jJ0 w ∧ hD [130, 131] w0 w
/-- the reference's voyages -/
def yh (w : va_W) (n : Nat) (A : Nat → Nat) : Prop := jS w 100 9 = n ∧ n ≤ 8 ∧ vs_B A ∧ ∀ k, k < 24 → jS w 117 k = (A k : Int)
section YZ
variable {E : mj_E} {Q : Option Value → va_W → Prop} {al : List Nat} {ws w w0 w1 w2 : va_W} {coin what : Int} {n : Nat} {A : Nat → Nat}
theorem yv.log (h : yv E al w0 w) {md : List Nat} (b1 : aWd E al aLay w2) (b2 : aRs aRules w2) (b3 : jJ0 w2) (b4 : hD md w w2) (hm : ∀ c ∈ md, c ∈ [130, 131]) : yv E al w0 w2 := ⟨b1, b2, b3, h.2.2.2.trans (b4.more hm)⟩
theorem yh.on (h : yh w0 n A) (d : hD [130, 131] w0 w) : yh w n A := ⟨(jS.at (d.2 100 (by decide))).trans h.1, h.2.1, h.2.2.1, fun k hk => (jS.at (d.2 117 (by decide))).trans (h.2.2.2 k hk)⟩
theorem sl117 (h : aWd E al aLay w) (H : yh w n A) {k : Nat} (hk : k < 24) : aSl w 117 k (A k : Int) := by
  rw [← H.2.2.2 k hk]
  exact jLay_sl h (jL_117 k hk)
/-- two steps that take a set's bit -/
theorem hg_bit {d y pc : Nat} {lv : List (Nat × av)} {rest : List av} (d1 : decode (mj_b y) pc = .ok (.ishr, 1)) (d2 : decode (mj_b y) (pc + 1) = .ok (.iconst 1, 1)) (d3 : decode (mj_b y) (pc + 2) = .ok (.iand, 1)) {s k : Nat} (hs : s < 256) (hk : k < 8)
    (h : hG E al d y (pc + 3) lv (.inl (ae_k ((if s.testBit k then 1 else 0 : Nat) : Int)) :: rest) [] w Q) : hG E al d y pc lv (.inl (ae_k (k : Int)) :: .inl (ae_k (s : Int)) :: rest) [] w Q := by
  intro LV ST h1 h2
  obtain ⟨v, u, rfl, ⟨z1, rfl, e1⟩, v2, u2, rfl, ⟨z2, rfl, e2⟩, h3⟩ := h2
  have e1 := e1.of_k
  have e2 := e2.of_k
  have x1 : z1 = nI k := Int32.toInt_inj.mp (by rw [e1, nI_toInt (by omega)])
  have x2 : z2 = nI s := Int32.toInt_inj.mp (by rw [e2, nI_toInt (by omega)])
  subst x1
  subst x2
  refine MJ.nx d1 ⟨rfl, nI s, nI k, u2, rfl, rfl⟩ ?_
  refine MJ.nx (lv1 := LV) (st1 := .int 1 :: .int (nI s >>> (nI k &&& 31)) :: u2) (ws1 := w) (pc1 := pc + 1 + 1) d2 ⟨rfl, rfl⟩ ?_
  refine MJ.nx (lv1 := LV) (st1 := .int ((nI s >>> (nI k &&& 31)) &&& 1) :: u2) (ws1 := w) (pc1 := pc + 2 + 1) d3 ⟨rfl, _, _, u2, rfl, rfl⟩ ?_
  have bt := vs_bit s hs k hk
  refine h LV _ h1 ⟨_, u2, rfl, ⟨_, rfl, ?_⟩, h3⟩
  have bt2 : (nI s >>> (nI k &&& 31)) &&& 1 = nI (if s.testBit k then 1 else 0) := bt
  rw [bt2, nI_toInt (by split <;> omega)]
  exact aV.k _
/-- the shift that counts the sets -/
theorem hg_one {d y pc : Nat} {lv : List (Nat × av)} {rest : List av} (d1 : decode (mj_b y) pc = .ok (.ishl, 1)) (hn : n ≤ 8)
    (h : hG E al d y (pc + 1) lv (.inl (ae_k ((2 ^ n : Nat) : Int)) :: rest) [] w Q) : hG E al d y pc lv (.inl (ae_k (n : Int)) :: .inl (ae_k 1) :: rest) [] w Q := by
  intro LV ST h1 h2
  obtain ⟨v, u, rfl, ⟨z1, rfl, e1⟩, v2, u2, rfl, ⟨z2, rfl, e2⟩, h3⟩ := h2
  have e1 := e1.of_k
  have e2 := e2.of_k
  have x1 : z1 = nI n := Int32.toInt_inj.mp (by rw [e1, nI_toInt (by omega)])
  have x2 : z2 = nI 1 := Int32.toInt_inj.mp (by rw [e2, nI_toInt (by omega)]; rfl)
  subst x1
  subst x2
  have hp : 2 ^ n ≤ 256 := Nat.pow_le_pow_right (by decide) hn
  refine MJ.nx d1 ⟨rfl, nI 1, nI n, u2, rfl, rfl⟩ ?_
  refine h LV _ h1 ⟨_, u2, rfl, ⟨_, rfl, ?_⟩, h3⟩
  show aV [] _ (nI 1 <<< (nI n &&& 31)).toInt
  rw [vs_one n (by omega), nI_toInt (by omega)]
  exact aV.k _
/-- both rows of the search, zeroed -/
theorem yz1_go (hf : E.2.2.2.1.category = 1) (hT : ∀ σ : List Int, aTb E σ aTabs) (hc : 0 ≤ coin ∧ coin ≤ 99999) (hw : -2 ≤ what ∧ what ≤ 3) (hq : ∀ w, yv E al w0 w → (∀ k, k < 10 → jS w 130 k = 0 ∧ jS w 131 k = 0) → hG E al 85 288 63 [(0, .inr (0, 99)), (1, .inl (ae_k coin)), (2, .inl (ae_k what)), (3, .inl (ae_k 0)), (4, .inl (ae_k 0)), (5, .inl (ae_k 1))] [] [] w Q) :
    ∀ (m k : Nat) (w : va_W), k + m = 10 → yv E al w0 w → (∀ q, q < k → jS w 130 q = 0 ∧ jS w 131 q = 0) → hG E al 85 288 31 [(0, .inr (0, 99)), (1, .inl (ae_k coin)), (2, .inl (ae_k what)), (3, .inl (ae_k 0)), (4, .inl (ae_k 0)), (5, .inl (ae_k (k : Int)))] [] [] w Q := by
  intro m
  induction m with
  | zero =>
    intro k w hk hv hz
    have e : k = 10 := by omega
    subst e
    obtain ⟨a5, a6, a7, d⟩ := hv
    refine ky_go hf hT a5 (by decide) (ρ := [coin, what]) yr_p2 ⟨⟨by omega, by omega⟩, ⟨by omega, by omega⟩, trivial⟩ aFs.nil aHh.nil (by rfl) (by rfl) (lEr (lEi (ev_s rfl) (lEi (ev_s rfl) (lEi ae_ev_k (lEi ae_ev_k (lEi ae_ev_k lE0)))))) sE0 (lvk2 := [(0, .inr (0, 99)), (1, .inl (ae_k (coin))), (2, .inl (ae_k (what))), (3, .inl (ae_k (0))), (4, .inl (ae_k (0))), (5, .inl (ae_k (1)))]) (lEr (lEi (ev_s rfl) (lEi (ev_s rfl) (lEi ae_ev_k (lEi ae_ev_k (lEi ae_ev_k lE0)))))) (stk2 := []) sE0 ?_
    exact hq w ⟨a5, a6, a7, d⟩ hz
  | succ m ih =>
    intro k w hk hv hz
    have hv0 := hv
    obtain ⟨a5, a6, a7, d⟩ := hv
    refine ky_lg hf hT a5 a6 a7 (by decide) (ρ := [coin, what, (k : Int)]) yr_p1 ⟨⟨by omega, by omega⟩, ⟨by omega, by omega⟩, ⟨by omega, by omega⟩, trivial⟩ aFs.nil aHh.nil (by rfl) (by rfl) (lEr (lEi (ev_s rfl) (lEi (ev_s rfl) (lEi ae_ev_k (lEi ae_ev_k (lEi (ev_s rfl) lE0)))))) sE0 (lvk2 := [(0, .inr (0, 99)), (1, .inl (ae_k (coin))), (2, .inl (ae_k (what))), (3, .inl (ae_k (0))), (4, .inl (ae_k (0))), (5, .inl (ae_k (((k + 1 : Nat) : Int))))]) (lEr (lEi (ev_s rfl) (lEi (ev_s rfl) (lEi ae_ev_k (lEi ae_ev_k (lEi (by simp only [ae_ev, ae_el, List.getD_cons_zero, List.getD_cons_succ]; omega) lE0)))))) (stk2 := []) sE0 (fun w2 b1 b2 b3 b4 b5 => ?_)
    refine ih (k + 1) w2 (by omega) (hv0.log b1 b2 b3 b4 (by decide)) (fun q hq => ?_)
    have h1 := hz q
    rw [b5 130 q, b5 131 q]
    simp only [lg_ap, ae_ev, ae_el, ae_s, ae_k, List.getD_cons_zero, List.getD_cons_succ]
    by_cases e : q = k
    · subst e
      simp
    · simp [e]
      exact h1 (by omega)
/-- four of the next one's, zeroed -/
theorem yz2_go (hf : E.2.2.2.1.category = 1) (hT : ∀ σ : List Int, aTb E σ aTabs) (hc : 0 ≤ coin ∧ coin ≤ 99999) (hw : -2 ≤ what ∧ what ≤ 3) {b cb j : Int} (hb : 0 ≤ b ∧ b ≤ 255) (hcb : 0 ≤ cb ∧ cb ≤ 7992) (hj : 1 ≤ j ∧ j ≤ 256) (hq : ∀ w, yv E al w0 w → (∀ k, k < 4 → jS w 130 k = 0) → (∀ k, 4 ≤ k → jS w 130 k = jS w1 130 k) → (∀ k, jS w 131 k = jS w1 131 k) → hG E al 85 288 106 [(0, .inr (0, 99)), (1, .inl (ae_k coin)), (2, .inl (ae_k what)), (3, .inl (ae_k b)), (4, .inl (ae_k cb)), (5, .inl (ae_k j)), (6, .inl (ae_k 0)), (7, .inl (ae_k 0))] [] [] w Q) :
    ∀ (m k : Nat) (w : va_W), k + m = 4 → yv E al w0 w → (∀ q, q < k → jS w 130 q = 0) → (∀ q, 4 ≤ q → jS w 130 q = jS w1 130 q) → (∀ q, jS w 131 q = jS w1 131 q) → hG E al 85 288 83 [(0, .inr (0, 99)), (1, .inl (ae_k coin)), (2, .inl (ae_k what)), (3, .inl (ae_k b)), (4, .inl (ae_k cb)), (5, .inl (ae_k j)), (6, .inl (ae_k 0)), (7, .inl (ae_k (k : Int)))] [] [] w Q := by
  intro m
  induction m with
  | zero =>
    intro k w hk hv hz h4 h5
    have e : k = 4 := by omega
    subst e
    obtain ⟨a5, a6, a7, d⟩ := hv
    refine ky_go hf hT a5 (by decide) (ρ := [coin, what, b, cb, j]) yr_z2 ⟨⟨by omega, by omega⟩, ⟨by omega, by omega⟩, ⟨by omega, by omega⟩, ⟨by omega, by omega⟩, ⟨by omega, by omega⟩, trivial⟩ aFs.nil aHh.nil (by rfl) (by rfl) (lEr (lEi (ev_s rfl) (lEi (ev_s rfl) (lEi (ev_s rfl) (lEi (ev_s rfl) (lEi (ev_s rfl) (lEi ae_ev_k (lEi ae_ev_k lE0)))))))) sE0 (lvk2 := [(0, .inr (0, 99)), (1, .inl (ae_k (coin))), (2, .inl (ae_k (what))), (3, .inl (ae_k (b))), (4, .inl (ae_k (cb))), (5, .inl (ae_k (j))), (6, .inl (ae_k (0))), (7, .inl (ae_k (0)))]) (lEr (lEi (ev_s rfl) (lEi (ev_s rfl) (lEi (ev_s rfl) (lEi (ev_s rfl) (lEi (ev_s rfl) (lEi ae_ev_k (lEi ae_ev_k lE0)))))))) (stk2 := []) sE0 ?_
    exact hq w ⟨a5, a6, a7, d⟩ hz h4 h5
  | succ m ih =>
    intro k w hk hv hz h4 h5
    have hv0 := hv
    obtain ⟨a5, a6, a7, d⟩ := hv
    refine ky_lg hf hT a5 a6 a7 (by decide) (ρ := [coin, what, b, cb, j, (k : Int)]) yr_z1 ⟨⟨by omega, by omega⟩, ⟨by omega, by omega⟩, ⟨by omega, by omega⟩, ⟨by omega, by omega⟩, ⟨by omega, by omega⟩, ⟨by omega, by omega⟩, trivial⟩ aFs.nil aHh.nil (by rfl) (by rfl) (lEr (lEi (ev_s rfl) (lEi (ev_s rfl) (lEi (ev_s rfl) (lEi (ev_s rfl) (lEi (ev_s rfl) (lEi ae_ev_k (lEi (ev_s rfl) lE0)))))))) sE0 (lvk2 := [(0, .inr (0, 99)), (1, .inl (ae_k (coin))), (2, .inl (ae_k (what))), (3, .inl (ae_k (b))), (4, .inl (ae_k (cb))), (5, .inl (ae_k (j))), (6, .inl (ae_k (0))), (7, .inl (ae_k (((k + 1 : Nat) : Int))))]) (lEr (lEi (ev_s rfl) (lEi (ev_s rfl) (lEi (ev_s rfl) (lEi (ev_s rfl) (lEi (ev_s rfl) (lEi ae_ev_k (lEi (by simp only [ae_ev, ae_el, List.getD_cons_zero, List.getD_cons_succ]; omega) lE0)))))))) (stk2 := []) sE0 (fun w2 b1 b2 b3 b4 b5 => ?_)
    have f : ∀ q, jS w2 130 q = if q = k then 0 else jS w 130 q := fun q => by
      rw [b5 130 q]
      simp [lg_ap, ae_ev, ae_el, ae_s, ae_k]
    refine ih (k + 1) w2 (by omega) (hv0.log b1 b2 b3 b4 (by decide)) (fun q hq => ?_) (fun q hq => ?_) (fun q => ?_)
    · rw [f]
      by_cases e : q = k
      · rw [if_pos e]
      · rw [if_neg e]
        exact hz q (by omega)
    · rw [f, if_neg (by omega)]
      exact h4 q hq
    · rw [b5 131 q]
      exact h5 q
/-- a set's cost and captives, voyage by voyage -/
theorem yi_go (hf : E.2.2.2.1.category = 1) (hT : ∀ σ : List Int, aTb E σ aTabs) (hc : 0 ≤ coin ∧ coin ≤ 99999) (hw : -2 ≤ what ∧ what ≤ 3) {b cb : Int} {j : Nat} (hb : 0 ≤ b ∧ b ≤ 255) (hcb : 0 ≤ cb ∧ cb ≤ 7992) (hj : 1 ≤ j ∧ j ≤ 255) (H : yh w0 n A) (hq : ∀ w, yv E al w0 w → (∀ r, r < 4 → jS w 130 r = (vs_r A j r n : Int)) → (∀ k, 4 ≤ k → jS w 130 k = jS w1 130 k) → (∀ k, jS w 131 k = jS w1 131 k) → hG E al 85 288 106 [(0, .inr (0, 99)), (1, .inl (ae_k coin)), (2, .inl (ae_k what)), (3, .inl (ae_k b)), (4, .inl (ae_k cb)), (5, .inl (ae_k (j : Int))), (6, .inl (ae_k (vs_c A j n : Int))), (7, .inl (ae_k (n : Int)))] [] [] w Q) :
    ∀ (m i : Nat) (w : va_W), i + m = n → yv E al w0 w → (∀ r, r < 4 → jS w 130 r = (vs_r A j r i : Int)) → (∀ k, 4 ≤ k → jS w 130 k = jS w1 130 k) → (∀ k, jS w 131 k = jS w1 131 k) → hG E al 85 288 106 [(0, .inr (0, 99)), (1, .inl (ae_k coin)), (2, .inl (ae_k what)), (3, .inl (ae_k b)), (4, .inl (ae_k cb)), (5, .inl (ae_k (j : Int))), (6, .inl (ae_k (vs_c A j i : Int))), (7, .inl (ae_k (i : Int)))] [] [] w Q := by
  have HH := H
  obtain ⟨-, hn, hB, -⟩ := HH
  intro m
  induction m with
  | zero =>
    intro i w hi hv hr h4 h5
    have e : i = n := by omega
    subst e
    exact hq w hv hr h4 h5
  | succ m ih =>
    intro i w hi hv hr h4 h5
    have hv0 := hv
    obtain ⟨a5, a6, a7, d⟩ := hv
    have H2 := H.on d
    have hBi := hB i (by omega)
    have hcs := vs_cb (s := j) hB (k := i) (by omega)
    have s100 : aSl w 100 9 (n : Int) := by rw [← H2.1]; exact jLay_sl a5 (by decide +kernel)
    have t0 := sl117 a5 H2 (k := 3 * i) (by omega)
    have t1 := sl117 a5 H2 (k := 3 * i + 1) (by omega)
    have t2 := sl117 a5 H2 (k := 3 * i + 2) (by omega)
    have v := sl130 a5 (k := A (3 * i + 2)) (by omega)
    rw [hr _ (by omega)] at v
    have vb := vs_rb (s := j) (r := A (3 * i + 2)) hB (k := i) (by omega)
    have c1 : vs_c A j (i + 1) = vs_c A j i + (if j.testBit i then A (3 * i) else 0) := rfl
    have r1 : ∀ r, vs_r A j r (i + 1) = vs_r A j r i + (if j.testBit i then (if A (3 * i + 2) = r then A (3 * i + 1) else 0) else 0) := fun r => rfl
    have nx := ih (i + 1)
    rw [c1] at nx
    refine ky_go hf hT a5 (by decide) (ρ := [coin, what, b, cb, (j : Int), (vs_c A j i : Int), (i : Int), (n : Int)]) yr_i1 ⟨⟨by omega, by omega⟩, ⟨by omega, by omega⟩, ⟨by omega, by omega⟩, ⟨by omega, by omega⟩, ⟨by omega, by omega⟩, ⟨by omega, by omega⟩, ⟨by omega, by omega⟩, ⟨by omega, by omega⟩, trivial⟩ (aFs.cons rfl (by simp only [ae_ev, ae_el, List.getD_cons_zero, List.getD_cons_succ]; omega) aFs.nil) (aHh.cons (kn1 (i := 9) (by decide) rfl (ev_s rfl) s100) aHh.nil) (by rfl) (by rfl) (lEr (lEi (ev_s rfl) (lEi (ev_s rfl) (lEi (ev_s rfl) (lEi (ev_s rfl) (lEi (ev_s rfl) (lEi (ev_s rfl) (lEi (ev_s rfl) lE0)))))))) sE0 (lvk2 := [(0, .inr (0, 99)), (1, .inl (ae_k (coin))), (2, .inl (ae_k (what))), (3, .inl (ae_k (b))), (4, .inl (ae_k (cb))), (5, .inl (ae_k ((j : Int)))), (6, .inl (ae_k ((vs_c A j i : Int)))), (7, .inl (ae_k ((i : Int))))]) (lEr (lEi (ev_s rfl) (lEi (ev_s rfl) (lEi (ev_s rfl) (lEi (ev_s rfl) (lEi (ev_s rfl) (lEi (ev_s rfl) (lEi (ev_s rfl) lE0)))))))) (stk2 := [.inl (ae_k ((i : Int))), .inl (ae_k ((j : Int))), .inl (ae_k ((vs_c A j i : Int)))]) (sEi (ev_s rfl) (sEi (ev_s rfl) (sEi (ev_s rfl) sE0))) ?_
    refine hg_bit (by decide +kernel) (by decide +kernel) (by decide +kernel) (by omega) (by omega) ?_
    by_cases bt : j.testBit i = true
    · rw [if_pos bt]
      simp only [if_pos bt] at nx r1 ⊢
      refine ky_go hf hT a5 (by decide) (ρ := [coin, what, b, cb, (j : Int), (vs_c A j i : Int), (i : Int), (A (3 * i) : Int), (A (3 * i + 2) : Int), (vs_r A j (A (3 * i + 2)) i : Int)]) yr_i2_1 ⟨⟨by omega, by omega⟩, ⟨by omega, by omega⟩, ⟨by omega, by omega⟩, ⟨by omega, by omega⟩, ⟨by omega, by omega⟩, ⟨by omega, by omega⟩, ⟨by omega, by omega⟩, ⟨by omega, by omega⟩, ⟨by omega, by omega⟩, ⟨by omega, by omega⟩, trivial⟩ aFs.nil (aHh.cons (kns (by decide) rfl rfl (i := 3 * i) (by simp only [ae_ev, ae_el, List.getD_cons_zero, List.getD_cons_succ]; omega) (ev_s rfl) t0) (aHh.cons (kns (by decide) rfl rfl (i := 3 * i + 2) (by simp only [ae_ev, ae_el, List.getD_cons_zero, List.getD_cons_succ]; omega) (ev_s rfl) t2) (aHh.cons (kns (by decide) rfl rfl (i := A (3 * i + 2)) (ev_s rfl) (ev_s rfl) v) aHh.nil))) (by rfl) (by rfl) (lEr (lEi (ev_s rfl) (lEi (ev_s rfl) (lEi (ev_s rfl) (lEi (ev_s rfl) (lEi (ev_s rfl) (lEi (ev_s rfl) (lEi (ev_s rfl) lE0)))))))) (sEi ae_ev_k (sEi (ev_s rfl) sE0)) (lvk2 := [(0, .inr (0, 99)), (1, .inl (ae_k (coin))), (2, .inl (ae_k (what))), (3, .inl (ae_k (b))), (4, .inl (ae_k (cb))), (5, .inl (ae_k ((j : Int)))), (6, .inl (ae_k (((vs_c A j i + A (3 * i) : Nat) : Int)))), (7, .inl (ae_k ((i : Int))))]) (lEr (lEi (ev_s rfl) (lEi (ev_s rfl) (lEi (ev_s rfl) (lEi (ev_s rfl) (lEi (ev_s rfl) (lEi (by simp only [ae_ev, ae_el, List.getD_cons_zero, List.getD_cons_succ]; omega) (lEi (ev_s rfl) lE0)))))))) (stk2 := [.inl (ae_k ((i : Int))), .inl (ae_k ((j : Int))), .inl (ae_k ((vs_r A j (A (3 * i + 2)) i : Int))), .inl (ae_k ((A (3 * i + 2) : Int))), .inr (0, 130)]) (sEi (ev_s rfl) (sEi (ev_s rfl) (sEi (ev_s rfl) (sEi (ev_s rfl) (sEr sE0))))) ?_
      refine hg_bit (by decide +kernel) (by decide +kernel) (by decide +kernel) (by omega) (by omega) ?_
      simp only [if_pos bt]
      refine ky_lg hf hT a5 a6 a7 (by decide) (ρ := [coin, what, b, cb, (j : Int), ((vs_c A j i + A (3 * i) : Nat) : Int), (i : Int), (A (3 * i + 1) : Int), (A (3 * i + 2) : Int), (vs_r A j (A (3 * i + 2)) i : Int)]) yr_i3_1 ⟨⟨by omega, by omega⟩, ⟨by omega, by omega⟩, ⟨by omega, by omega⟩, ⟨by omega, by omega⟩, ⟨by omega, by omega⟩, ⟨by omega, by omega⟩, ⟨by omega, by omega⟩, ⟨by omega, by omega⟩, ⟨by omega, by omega⟩, ⟨by omega, by omega⟩, trivial⟩ aFs.nil (aHh.cons (kns (by decide) rfl rfl (i := 3 * i + 1) (by simp only [ae_ev, ae_el, List.getD_cons_zero, List.getD_cons_succ]; omega) (ev_s rfl) t1) aHh.nil) (by rfl) (by rfl) (lEr (lEi (ev_s rfl) (lEi (ev_s rfl) (lEi (ev_s rfl) (lEi (ev_s rfl) (lEi (ev_s rfl) (lEi (ev_s rfl) (lEi (ev_s rfl) lE0)))))))) (sEi ae_ev_k (sEi (ev_s rfl) (sEi (ev_s rfl) (sEr sE0)))) (lvk2 := [(0, .inr (0, 99)), (1, .inl (ae_k (coin))), (2, .inl (ae_k (what))), (3, .inl (ae_k (b))), (4, .inl (ae_k (cb))), (5, .inl (ae_k ((j : Int)))), (6, .inl (ae_k (((vs_c A j i + A (3 * i) : Nat) : Int)))), (7, .inl (ae_k (((i + 1 : Nat) : Int))))]) (lEr (lEi (ev_s rfl) (lEi (ev_s rfl) (lEi (ev_s rfl) (lEi (ev_s rfl) (lEi (ev_s rfl) (lEi (ev_s rfl) (lEi (by simp only [ae_ev, ae_el, List.getD_cons_zero, List.getD_cons_succ]; omega) lE0)))))))) (stk2 := []) sE0 (fun w2 b1 b2 b3 b4 b5 => ?_)
      have f : ∀ q, jS w2 130 q = if q = A (3 * i + 2) then (A (3 * i + 1) : Int) + (vs_r A j (A (3 * i + 2)) i : Int) else jS w 130 q := fun q => by
        rw [b5 130 q]
        simp [lg_ap, ae_ev, ae_el, ae_s, ae_k]
      refine nx w2 (by omega) (hv0.log b1 b2 b3 b4 (by decide)) (fun r hr4 => ?_) (fun k hk => ?_) (fun k => ?_)
      · rw [f, r1]
        by_cases e : A (3 * i + 2) = r
        · subst e
          rw [if_pos rfl]
          rw [if_pos rfl]
          omega
        · rw [if_neg (fun h => e h.symm), hr r hr4]
          rw [if_neg e]
          omega
      · rw [f, if_neg (by omega)]
        exact h4 k hk
      · rw [b5 131 k]
        exact h5 k
    · rw [if_neg bt]
      simp only [if_neg bt] at nx r1 ⊢
      refine ky_go hf hT a5 (by decide) (ρ := [coin, what, b, cb, (j : Int), (vs_c A j i : Int), (i : Int), (A (3 * i) : Int), (A (3 * i + 2) : Int), (vs_r A j (A (3 * i + 2)) i : Int)]) yr_i2_0 ⟨⟨by omega, by omega⟩, ⟨by omega, by omega⟩, ⟨by omega, by omega⟩, ⟨by omega, by omega⟩, ⟨by omega, by omega⟩, ⟨by omega, by omega⟩, ⟨by omega, by omega⟩, ⟨by omega, by omega⟩, ⟨by omega, by omega⟩, ⟨by omega, by omega⟩, trivial⟩ aFs.nil (aHh.cons (kns (by decide) rfl rfl (i := 3 * i) (by simp only [ae_ev, ae_el, List.getD_cons_zero, List.getD_cons_succ]; omega) (ev_s rfl) t0) (aHh.cons (kns (by decide) rfl rfl (i := 3 * i + 2) (by simp only [ae_ev, ae_el, List.getD_cons_zero, List.getD_cons_succ]; omega) (ev_s rfl) t2) (aHh.cons (kns (by decide) rfl rfl (i := A (3 * i + 2)) (ev_s rfl) (ev_s rfl) v) aHh.nil))) (by rfl) (by rfl) (lEr (lEi (ev_s rfl) (lEi (ev_s rfl) (lEi (ev_s rfl) (lEi (ev_s rfl) (lEi (ev_s rfl) (lEi (ev_s rfl) (lEi (ev_s rfl) lE0)))))))) (sEi ae_ev_k (sEi (ev_s rfl) sE0)) (lvk2 := [(0, .inr (0, 99)), (1, .inl (ae_k (coin))), (2, .inl (ae_k (what))), (3, .inl (ae_k (b))), (4, .inl (ae_k (cb))), (5, .inl (ae_k ((j : Int)))), (6, .inl (ae_k (((vs_c A j i + 0 : Nat) : Int)))), (7, .inl (ae_k ((i : Int))))]) (lEr (lEi (ev_s rfl) (lEi (ev_s rfl) (lEi (ev_s rfl) (lEi (ev_s rfl) (lEi (ev_s rfl) (lEi (ev_s rfl) (lEi (ev_s rfl) lE0)))))))) (stk2 := [.inl (ae_k ((i : Int))), .inl (ae_k ((j : Int))), .inl (ae_k ((vs_r A j (A (3 * i + 2)) i : Int))), .inl (ae_k ((A (3 * i + 2) : Int))), .inr (0, 130)]) (sEi (ev_s rfl) (sEi (ev_s rfl) (sEi (ev_s rfl) (sEi (ev_s rfl) (sEr sE0))))) ?_
      refine hg_bit (by decide +kernel) (by decide +kernel) (by decide +kernel) (by omega) (by omega) ?_
      simp only [if_neg bt]
      refine ky_lg hf hT a5 a6 a7 (by decide) (ρ := [coin, what, b, cb, (j : Int), ((vs_c A j i + 0 : Nat) : Int), (i : Int), (A (3 * i + 1) : Int), (A (3 * i + 2) : Int), (vs_r A j (A (3 * i + 2)) i : Int)]) yr_i3_0 ⟨⟨by omega, by omega⟩, ⟨by omega, by omega⟩, ⟨by omega, by omega⟩, ⟨by omega, by omega⟩, ⟨by omega, by omega⟩, ⟨by omega, by omega⟩, ⟨by omega, by omega⟩, ⟨by omega, by omega⟩, ⟨by omega, by omega⟩, ⟨by omega, by omega⟩, trivial⟩ aFs.nil (aHh.cons (kns (by decide) rfl rfl (i := 3 * i + 1) (by simp only [ae_ev, ae_el, List.getD_cons_zero, List.getD_cons_succ]; omega) (ev_s rfl) t1) aHh.nil) (by rfl) (by rfl) (lEr (lEi (ev_s rfl) (lEi (ev_s rfl) (lEi (ev_s rfl) (lEi (ev_s rfl) (lEi (ev_s rfl) (lEi (ev_s rfl) (lEi (ev_s rfl) lE0)))))))) (sEi ae_ev_k (sEi (ev_s rfl) (sEi (ev_s rfl) (sEr sE0)))) (lvk2 := [(0, .inr (0, 99)), (1, .inl (ae_k (coin))), (2, .inl (ae_k (what))), (3, .inl (ae_k (b))), (4, .inl (ae_k (cb))), (5, .inl (ae_k ((j : Int)))), (6, .inl (ae_k (((vs_c A j i + 0 : Nat) : Int)))), (7, .inl (ae_k (((i + 1 : Nat) : Int))))]) (lEr (lEi (ev_s rfl) (lEi (ev_s rfl) (lEi (ev_s rfl) (lEi (ev_s rfl) (lEi (ev_s rfl) (lEi (ev_s rfl) (lEi (by simp only [ae_ev, ae_el, List.getD_cons_zero, List.getD_cons_succ]; omega) lE0)))))))) (stk2 := []) sE0 (fun w2 b1 b2 b3 b4 b5 => ?_)
      have f : ∀ q, jS w2 130 q = if q = A (3 * i + 2) then (vs_r A j (A (3 * i + 2)) i : Int) + 0 else jS w 130 q := fun q => by
        rw [b5 130 q]
        simp [lg_ap, ae_ev, ae_el, ae_s, ae_k]
      refine nx w2 (by omega) (hv0.log b1 b2 b3 b4 (by decide)) (fun r hr4 => ?_) (fun k hk => ?_) (fun k => ?_)
      · rw [f, r1]
        by_cases e : A (3 * i + 2) = r
        · subst e
          rw [if_pos rfl]
          omega
        · rw [if_neg (fun h => e h.symm), hr r hr4]
          omega
      · rw [f, if_neg (by omega)]
        exact h4 k hk
      · rw [b5 131 k]
        exact h5 k
end YZ
section YW
variable {E : mj_E} {Q : Option Value → va_W → Prop} {al : List Nat} {ws w w0 w1 w2 : va_W} {what : Int} {n : Nat} {A : Nat → Nat}
/-- the next one becomes the best -/
theorem yk_go (hf : E.2.2.2.1.category = 1) (hT : ∀ σ : List Int, aTb E σ aTabs) {coin : Int} (hc : 0 ≤ coin ∧ coin ≤ 99999) (hw : -2 ≤ what ∧ what ≤ 3) {j c : Int} (hj : 1 ≤ j ∧ j ≤ 256) (hx : 0 ≤ c ∧ c ≤ 7992) (hb : ∀ k, k < 4 → 0 ≤ jS w1 130 k ∧ jS w1 130 k ≤ 72) (hq : ∀ w, yv E al w0 w → (∀ k, k < 4 → jS w 131 k = jS w1 130 k) → (∀ k, 4 ≤ k → jS w 131 k = jS w1 131 k) → (∀ k, jS w 130 k = jS w1 130 k) → hG E al 85 288 63 [(0, .inr (0, 99)), (1, .inl (ae_k coin)), (2, .inl (ae_k what)), (3, .inl (ae_k j)), (4, .inl (ae_k c)), (5, .inl (ae_k (j + 1)))] [] [] w Q) :
    ∀ (m k : Nat) (w : va_W), k + m = 4 → yv E al w0 w → (∀ q, q < k → jS w 131 q = jS w1 130 q) → (∀ q, 4 ≤ q → jS w 131 q = jS w1 131 q) → (∀ q, jS w 130 q = jS w1 130 q) → hG E al 85 288 211 [(0, .inr (0, 99)), (1, .inl (ae_k coin)), (2, .inl (ae_k what)), (3, .inl (ae_k j)), (4, .inl (ae_k c)), (5, .inl (ae_k j)), (7, .inl (ae_k (k : Int)))] [] [] w Q := by
  intro m
  induction m with
  | zero =>
    intro k w hk hv hz h4 h5
    have e : k = 4 := by omega
    subst e
    obtain ⟨a5, a6, a7, d⟩ := hv
    refine ky_go hf hT a5 (by decide) (ρ := [coin, what, j, c]) yr_k2 ⟨⟨by omega, by omega⟩, ⟨by omega, by omega⟩, ⟨by omega, by omega⟩, ⟨by omega, by omega⟩, trivial⟩ aFs.nil aHh.nil (by rfl) (by rfl) (lEr (lEi (ev_s rfl) (lEi (ev_s rfl) (lEi (ev_s rfl) (lEi (ev_s rfl) (lEi (ev_s rfl) (lEi ae_ev_k lE0))))))) sE0 (lvk2 := [(0, .inr (0, 99)), (1, .inl (ae_k (coin))), (2, .inl (ae_k (what))), (3, .inl (ae_k (j))), (4, .inl (ae_k (c))), (5, .inl (ae_k (j + 1)))]) (lEr (lEi (ev_s rfl) (lEi (ev_s rfl) (lEi (ev_s rfl) (lEi (ev_s rfl) (lEi (by simp only [ae_ev, ae_el, List.getD_cons_zero, List.getD_cons_succ]; omega) lE0)))))) (stk2 := []) sE0 ?_
    exact hq w ⟨a5, a6, a7, d⟩ hz h4 h5
  | succ m ih =>
    intro k w hk hv hz h4 h5
    have hv0 := hv
    obtain ⟨a5, a6, a7, d⟩ := hv
    have v := sl130 a5 (k := k) (by omega)
    rw [h5 k] at v
    have vb := hb k (by omega)
    refine ky_lg hf hT a5 a6 a7 (by decide) (ρ := [coin, what, j, c, (k : Int), jS w1 130 k]) yr_k1 ⟨⟨by omega, by omega⟩, ⟨by omega, by omega⟩, ⟨by omega, by omega⟩, ⟨by omega, by omega⟩, ⟨by omega, by omega⟩, ⟨by omega, by omega⟩, trivial⟩ aFs.nil (aHh.cons (kns (by decide) rfl rfl (i := k) (ev_s rfl) (ev_s rfl) v) aHh.nil) (by rfl) (by rfl) (lEr (lEi (ev_s rfl) (lEi (ev_s rfl) (lEi (ev_s rfl) (lEi (ev_s rfl) (lEi (ev_s rfl) (lEi (ev_s rfl) lE0))))))) sE0 (lvk2 := [(0, .inr (0, 99)), (1, .inl (ae_k (coin))), (2, .inl (ae_k (what))), (3, .inl (ae_k (j))), (4, .inl (ae_k (c))), (5, .inl (ae_k (j))), (7, .inl (ae_k (((k + 1 : Nat) : Int))))]) (lEr (lEi (ev_s rfl) (lEi (ev_s rfl) (lEi (ev_s rfl) (lEi (ev_s rfl) (lEi (ev_s rfl) (lEi (by simp only [ae_ev, ae_el, List.getD_cons_zero, List.getD_cons_succ]; omega) lE0))))))) (stk2 := []) sE0 (fun w2 b1 b2 b3 b4 b5 => ?_)
    have f : ∀ q, jS w2 131 q = if q = k then jS w1 130 k else jS w 131 q := fun q => by
      rw [b5 131 q]
      simp [lg_ap, ae_ev, ae_el, ae_s, ae_k]
    refine ih (k + 1) w2 (by omega) (hv0.log b1 b2 b3 b4 (by decide)) (fun q hq => ?_) (fun q hq => ?_) (fun q => ?_)
    · rw [f]
      by_cases e : q = k
      · rw [if_pos e, e]
      · rw [if_neg e]
        exact hz q (by omega)
    · rw [f, if_neg (by omega)]
      exact h4 q hq
    · rw [b5 130 q]
      exact h5 q
/-- ranks one by one, or all in one number -/
theorem vs_ib {s b : Nat} {p q : Nat → Int} (hB : vs_B A) (hn : n ≤ 8) (hp : ∀ r, r < 4 → p r = (vs_r A s r n : Int)) (hq : ∀ r, r < 4 → q r = (vs_r A b r n : Int)) :
    ib_p p q (vs_c A s n : Int) (vs_c A b n : Int) ↔ ¬ (vs_w A s n < vs_w A b n ∨ (vs_w A s n = vs_w A b n ∧ vs_c A b n ≤ vs_c A s n)) := by
  unfold ib_p
  rw [hp 0 (by decide), hp 1 (by decide), hp 2 (by decide), hp 3 (by decide), hq 0 (by decide), hq 1 (by decide), hq 2 (by decide), hq 3 (by decide), vs_wr hB hn, vs_wr hB hn]
  have s0 := vs_rb (s := s) (r := 0) hB hn
  have s1 := vs_rb (s := s) (r := 1) hB hn
  have s2 := vs_rb (s := s) (r := 2) hB hn
  have s3 := vs_rb (s := s) (r := 3) hB hn
  have b0 := vs_rb (s := b) (r := 0) hB hn
  have b1 := vs_rb (s := b) (r := 1) hB hn
  have b2 := vs_rb (s := b) (r := 2) hB hn
  have b3 := vs_rb (s := b) (r := 3) hB hn
  generalize vs_r A s 0 n = x0 at *
  generalize vs_r A s 1 n = x1 at *
  generalize vs_r A s 2 n = x2 at *
  generalize vs_r A s 3 n = x3 at *
  generalize vs_r A b 0 n = y0 at *
  generalize vs_r A b 1 n = y1 at *
  generalize vs_r A b 2 n = y2 at *
  generalize vs_r A b 3 n = y3 at *
  generalize vs_c A s n = c at *
  generalize vs_c A b n = d at *
  by_cases e0 : x0 = y0
  · subst e0
    by_cases e1 : x1 = y1
    · subst e1
      by_cases e2 : x2 = y2
      · subst e2
        by_cases e3 : x3 = y3
        · subst e3
          omega
        · omega
      · omega
    · omega
  · omega
/-- the loop over the sets: j of them are looked at -/
theorem yo_go (hf : E.2.2.2.1.category = 1) (hT : ∀ σ : List Int, aTb E σ aTabs) {coin : Nat} (hc : 0 ≤ (coin : Int) ∧ (coin : Int) ≤ 99999) (hw : -2 ≤ what ∧ what ≤ 3) (H : yh w0 n A) (hq : ∀ w, yv E al w0 w → (∀ r, r < 4 → jS w 131 r = (vs_r A (vs_bb (fun s => vs_c A s n) (fun s => vs_w A s n) coin (2 ^ n - 1)) r n : Int)) → hG E al 85 288 243 [(0, .inr (0, 99)), (1, .inl (ae_k (coin : Int))), (2, .inl (ae_k what)), (3, .inl (ae_k ((vs_bb (fun s => vs_c A s n) (fun s => vs_w A s n) coin (2 ^ n - 1)) : Int))), (4, .inl (ae_k (vs_c A (vs_bb (fun s => vs_c A s n) (fun s => vs_w A s n) coin (2 ^ n - 1)) n : Int))), (5, .inl (ae_k ((2 ^ n : Nat) : Int)))] [] [] w Q) :
    ∀ (m j b : Nat) (w : va_W), j + m = 2 ^ n - 1 → vs_bb (fun s => vs_c A s n) (fun s => vs_w A s n) coin j = b → yv E al w0 w → (∀ r, r < 4 → jS w 131 r = (vs_r A b r n : Int)) → (∀ k, 4 ≤ k → k < 10 → jS w 130 k = 0 ∧ jS w 131 k = 0) → hG E al 85 288 63 [(0, .inr (0, 99)), (1, .inl (ae_k (coin : Int))), (2, .inl (ae_k what)), (3, .inl (ae_k (b : Int))), (4, .inl (ae_k (vs_c A b n : Int))), (5, .inl (ae_k ((j + 1 : Nat) : Int)))] [] [] w Q := by
  have HH := H
  obtain ⟨-, hn, hB, -⟩ := HH
  have hp : 1 ≤ 2 ^ n ∧ 2 ^ n ≤ 256 := ⟨Nat.one_le_two_pow, Nat.pow_le_pow_right (by decide) hn⟩
  intro m
  induction m with
  | zero =>
    intro j b w hj hb hv hr h4
    have e : j + 1 = 2 ^ n := by omega
    have ej : 2 ^ n - 1 = j := by omega
    rw [ej, hb] at hq
    have hv0 := hv
    obtain ⟨a5, a6, a7, d⟩ := hv
    have H2 := H.on d
    have s100 : aSl w 100 9 (n : Int) := by rw [← H2.1]; exact jLay_sl a5 (by decide +kernel)
    have bb := vs_bbb (C := fun s => vs_c A s n) (Wt := fun s => vs_w A s n) (coin := coin) (j := j)
    rw [hb] at bb
    have cb := vs_cb (s := b) hB hn
    refine ky_go hf hT a5 (by decide) (ρ := [(coin : Int), what, (b : Int), (vs_c A b n : Int), ((j + 1 : Nat) : Int), (n : Int)]) yr_o1 ⟨⟨by omega, by omega⟩, ⟨by omega, by omega⟩, ⟨by omega, by omega⟩, ⟨by omega, by omega⟩, ⟨by omega, by omega⟩, ⟨by omega, by omega⟩, trivial⟩ aFs.nil (aHh.cons (kn1 (i := 9) (by decide) rfl (ev_s rfl) s100) aHh.nil) (by rfl) (by rfl) (lEr (lEi (ev_s rfl) (lEi (ev_s rfl) (lEi (ev_s rfl) (lEi (ev_s rfl) (lEi (ev_s rfl) lE0)))))) sE0 (lvk2 := [(0, .inr (0, 99)), (1, .inl (ae_k ((coin : Int)))), (2, .inl (ae_k (what))), (3, .inl (ae_k ((b : Int)))), (4, .inl (ae_k ((vs_c A b n : Int)))), (5, .inl (ae_k (((j + 1 : Nat) : Int))))]) (lEr (lEi (ev_s rfl) (lEi (ev_s rfl) (lEi (ev_s rfl) (lEi (ev_s rfl) (lEi (ev_s rfl) lE0)))))) (stk2 := [.inl (ae_k ((n : Int))), .inl (ae_k (1)), .inl (ae_k (((j + 1 : Nat) : Int)))]) (sEi (ev_s rfl) (sEi ae_ev_k (sEi (ev_s rfl) sE0))) ?_
    refine hg_one (by decide +kernel) hn ?_
    rw [e]
    refine ky_go hf hT a5 (by decide) (ρ := [(coin : Int), what, (b : Int), (vs_c A b n : Int), ((2 ^ n : Nat) : Int), ((2 ^ n : Nat) : Int)]) yr_oX ⟨⟨by omega, by omega⟩, ⟨by omega, by omega⟩, ⟨by omega, by omega⟩, ⟨by omega, by omega⟩, ⟨by omega, by omega⟩, ⟨by omega, by omega⟩, trivial⟩ (aFs.cons rfl (by simp only [ae_ev, ae_el, List.getD_cons_zero, List.getD_cons_succ]; omega) aFs.nil) aHh.nil (by rfl) (by rfl) (lEr (lEi (ev_s rfl) (lEi (ev_s rfl) (lEi (ev_s rfl) (lEi (ev_s rfl) (lEi (ev_s rfl) lE0)))))) (sEi (ev_s rfl) (sEi (ev_s rfl) sE0)) (lvk2 := [(0, .inr (0, 99)), (1, .inl (ae_k ((coin : Int)))), (2, .inl (ae_k (what))), (3, .inl (ae_k ((b : Int)))), (4, .inl (ae_k ((vs_c A b n : Int)))), (5, .inl (ae_k (((2 ^ n : Nat) : Int))))]) (lEr (lEi (ev_s rfl) (lEi (ev_s rfl) (lEi (ev_s rfl) (lEi (ev_s rfl) (lEi (ev_s rfl) lE0)))))) (stk2 := []) sE0 ?_
    exact hq w hv0 hr
  | succ m ih =>
    intro j b w hj hb hv hr h4
    have hv0 := hv
    obtain ⟨a5, a6, a7, d⟩ := hv
    have H2 := H.on d
    have s100 : aSl w 100 9 (n : Int) := by rw [← H2.1]; exact jLay_sl a5 (by decide +kernel)
    have bb := vs_bbb (C := fun s => vs_c A s n) (Wt := fun s => vs_w A s n) (coin := coin) (j := j)
    rw [hb] at bb
    have cb := vs_cb (s := b) hB hn
    have cs := vs_cb (s := j + 1) hB hn
    have bj : vs_bb (fun s => vs_c A s n) (fun s => vs_w A s n) coin (j + 1) = if coin < vs_c A (j + 1) n ∨ vs_w A (j + 1) n < vs_w A b n ∨ (vs_w A (j + 1) n = vs_w A b n ∧ vs_c A b n ≤ vs_c A (j + 1) n) then b else j + 1 := by
      show (if _ then _ else _) = _
      rw [hb]
    refine ky_go hf hT a5 (by decide) (ρ := [(coin : Int), what, (b : Int), (vs_c A b n : Int), ((j + 1 : Nat) : Int), (n : Int)]) yr_o1 ⟨⟨by omega, by omega⟩, ⟨by omega, by omega⟩, ⟨by omega, by omega⟩, ⟨by omega, by omega⟩, ⟨by omega, by omega⟩, ⟨by omega, by omega⟩, trivial⟩ aFs.nil (aHh.cons (kn1 (i := 9) (by decide) rfl (ev_s rfl) s100) aHh.nil) (by rfl) (by rfl) (lEr (lEi (ev_s rfl) (lEi (ev_s rfl) (lEi (ev_s rfl) (lEi (ev_s rfl) (lEi (ev_s rfl) lE0)))))) sE0 (lvk2 := [(0, .inr (0, 99)), (1, .inl (ae_k ((coin : Int)))), (2, .inl (ae_k (what))), (3, .inl (ae_k ((b : Int)))), (4, .inl (ae_k ((vs_c A b n : Int)))), (5, .inl (ae_k (((j + 1 : Nat) : Int))))]) (lEr (lEi (ev_s rfl) (lEi (ev_s rfl) (lEi (ev_s rfl) (lEi (ev_s rfl) (lEi (ev_s rfl) lE0)))))) (stk2 := [.inl (ae_k ((n : Int))), .inl (ae_k (1)), .inl (ae_k (((j + 1 : Nat) : Int)))]) (sEi (ev_s rfl) (sEi ae_ev_k (sEi (ev_s rfl) sE0))) ?_
    refine hg_one (by decide +kernel) hn ?_
    refine ky_go hf hT a5 (by decide) (ρ := [(coin : Int), what, (b : Int), (vs_c A b n : Int), ((j + 1 : Nat) : Int), ((2 ^ n : Nat) : Int)]) yr_oG ⟨⟨by omega, by omega⟩, ⟨by omega, by omega⟩, ⟨by omega, by omega⟩, ⟨by omega, by omega⟩, ⟨by omega, by omega⟩, ⟨by omega, by omega⟩, trivial⟩ (aFs.cons rfl (by simp only [ae_ev, ae_el, List.getD_cons_zero, List.getD_cons_succ]; omega) aFs.nil) aHh.nil (by rfl) (by rfl) (lEr (lEi (ev_s rfl) (lEi (ev_s rfl) (lEi (ev_s rfl) (lEi (ev_s rfl) (lEi (ev_s rfl) lE0)))))) (sEi (ev_s rfl) (sEi (ev_s rfl) sE0)) (lvk2 := [(0, .inr (0, 99)), (1, .inl (ae_k ((coin : Int)))), (2, .inl (ae_k (what))), (3, .inl (ae_k ((b : Int)))), (4, .inl (ae_k ((vs_c A b n : Int)))), (5, .inl (ae_k (((j + 1 : Nat) : Int)))), (6, .inl (ae_k (0))), (7, .inl (ae_k (0)))]) (lEr (lEi (ev_s rfl) (lEi (ev_s rfl) (lEi (ev_s rfl) (lEi (ev_s rfl) (lEi (ev_s rfl) (lEi ae_ev_k (lEi ae_ev_k lE0)))))))) (stk2 := []) sE0 ?_
    refine yz2_go (w0 := w0) (w1 := w) hf hT hc hw ⟨by omega, by omega⟩ ⟨by omega, by omega⟩ ⟨by omega, by omega⟩ (fun wa va za z4 z5 => ?_) 4 0 w (by omega) hv0 (fun q hq => absurd hq (by omega)) (fun q hq => rfl) (fun q => rfl)
    refine yi_go (w0 := w0) (w1 := wa) (j := j + 1) hf hT hc hw ⟨by omega, by omega⟩ ⟨by omega, by omega⟩ ⟨by omega, by omega⟩ H (fun wb vb zb y4 y5 => ?_) n 0 wa (by omega) va (fun r hr => by rw [za r hr]; rfl) (fun q hq => rfl) (fun q => rfl)
    have r130 : ∀ k, 4 ≤ k → k < 10 → jS wb 130 k = 0 ∧ jS wb 131 k = 0 := fun k h1 h2 => ⟨by rw [y4 k h1, z4 k h1]; exact (h4 k h1 h2).1, by rw [y5 k, z5 k]; exact (h4 k h1 h2).2⟩
    have r131 : ∀ r, r < 4 → jS wb 131 r = (vs_r A b r n : Int) := fun r hr4 => by rw [y5 r, z5 r]; exact hr r hr4
    have vb0 := vb
    obtain ⟨a5, a6, a7, d⟩ := vb
    have H3 := H.on d
    have s100 : aSl wb 100 9 (n : Int) := by rw [← H3.1]; exact jLay_sl a5 (by decide +kernel)
    by_cases d1 : coin < vs_c A (j + 1) n
    · refine ky_go hf hT a5 (by decide) (ρ := [(coin : Int), what, (b : Int), (vs_c A b n : Int), ((j + 1 : Nat) : Int), (vs_c A (j + 1) n : Int), (n : Int)]) yr_x1 ⟨⟨by omega, by omega⟩, ⟨by omega, by omega⟩, ⟨by omega, by omega⟩, ⟨by omega, by omega⟩, ⟨by omega, by omega⟩, ⟨by omega, by omega⟩, ⟨by omega, by omega⟩, trivial⟩ (aFs.cons rfl (by simp only [ae_ev, ae_el, List.getD_cons_zero, List.getD_cons_succ]; omega) aFs.nil) (aHh.cons (kn1 (i := 9) (by decide) rfl (ev_s rfl) s100) aHh.nil) (by rfl) (by rfl) (lEr (lEi (ev_s rfl) (lEi (ev_s rfl) (lEi (ev_s rfl) (lEi (ev_s rfl) (lEi (ev_s rfl) (lEi (ev_s rfl) (lEi (ev_s rfl) lE0)))))))) sE0 (lvk2 := [(0, .inr (0, 99)), (1, .inl (ae_k ((coin : Int)))), (2, .inl (ae_k (what))), (3, .inl (ae_k ((b : Int)))), (4, .inl (ae_k ((vs_c A b n : Int)))), (5, .inl (ae_k (((j + 1 + 1 : Nat) : Int))))]) (lEr (lEi (ev_s rfl) (lEi (ev_s rfl) (lEi (ev_s rfl) (lEi (ev_s rfl) (lEi (by simp only [ae_ev, ae_el, List.getD_cons_zero, List.getD_cons_succ]; omega) lE0)))))) (stk2 := []) sE0 ?_
      exact ih (j + 1) b wb (by omega) (by rw [bj, if_pos (Or.inl d1)]) vb0 r131 r130
    · refine ky_go hf hT a5 (by decide) (ρ := [(coin : Int), what, (b : Int), (vs_c A b n : Int), ((j + 1 : Nat) : Int), (vs_c A (j + 1) n : Int), (n : Int)]) yr_x2 ⟨⟨by omega, by omega⟩, ⟨by omega, by omega⟩, ⟨by omega, by omega⟩, ⟨by omega, by omega⟩, ⟨by omega, by omega⟩, ⟨by omega, by omega⟩, ⟨by omega, by omega⟩, trivial⟩ (aFs.cons rfl (by simp only [ae_ev, ae_el, List.getD_cons_zero, List.getD_cons_succ]; omega) aFs.nil) (aHh.cons (kn1 (i := 9) (by decide) rfl (ev_s rfl) s100) aHh.nil) (by rfl) (by rfl) (lEr (lEi (ev_s rfl) (lEi (ev_s rfl) (lEi (ev_s rfl) (lEi (ev_s rfl) (lEi (ev_s rfl) (lEi (ev_s rfl) (lEi (ev_s rfl) lE0)))))))) sE0 (lvk2 := [(0, .inr (0, 99)), (1, .inl (ae_k ((coin : Int)))), (2, .inl (ae_k (what))), (3, .inl (ae_k ((b : Int)))), (4, .inl (ae_k ((vs_c A b n : Int)))), (5, .inl (ae_k (((j + 1 : Nat) : Int)))), (6, .inl (ae_k ((vs_c A (j + 1) n : Int))))]) (lEr (lEi (ev_s rfl) (lEi (ev_s rfl) (lEi (ev_s rfl) (lEi (ev_s rfl) (lEi (ev_s rfl) (lEi (ev_s rfl) lE0))))))) (stk2 := [.inl (ae_k ((vs_c A b n : Int))), .inl (ae_k ((vs_c A (j + 1) n : Int))), .inr (0, 99)]) (sEi (ev_s rfl) (sEi (ev_s rfl) (sEr sE0))) ?_
      have bnd : ∀ s r, 0 ≤ (vs_r A s r n : Int) ∧ (vs_r A s r n : Int) ≤ 72 := fun s r => by
        have := vs_rb (s := s) (r := r) hB hn
        omega
      have HV : hOk E al gV0 (fun _ => True) := hOkV hf hT (fun _ _ _ h => h)
      refine hp_callV HV (d := 84) (y2 := 273) (as := [.inr (0, 99), .inl (ae_k (vs_c A (j + 1) n : Int)), .inl (ae_k (vs_c A b n : Int))]) (rest := []) (by decide) (by rfl) (hW.e (J := fun _ => True) a5 trivial) (fun AS h => (ib_mj hf hT a5 a6 a7 ⟨by omega, by omega⟩ ⟨by omega, by omega⟩ (fun k hk => by rw [zb k hk]; exact bnd _ _) (fun k hk => by rw [r131 k hk]; exact bnd _ _) r130 h).weaken (by decide) (Nat.le_refl _) (Nat.le_refl _) (fun v w h => h)) (fun z w2 hR => ?_)
      obtain ⟨hz, rfl⟩ := hR
      have key := vs_ib (s := j + 1) (b := b) hB hn zb r131
      rcases hz with ⟨e, hz⟩ | ⟨e, hz⟩
      · rw [e]
        refine ky_go hf hT a5 (by decide) (ρ := [(coin : Int), what, (b : Int), (vs_c A b n : Int), ((j + 1 : Nat) : Int), (vs_c A (j + 1) n : Int)]) yr_c1 ⟨⟨by omega, by omega⟩, ⟨by omega, by omega⟩, ⟨by omega, by omega⟩, ⟨by omega, by omega⟩, ⟨by omega, by omega⟩, ⟨by omega, by omega⟩, trivial⟩ aFs.nil aHh.nil (by rfl) (by rfl) (lEr (lEi (ev_s rfl) (lEi (ev_s rfl) (lEi (ev_s rfl) (lEi (ev_s rfl) (lEi (ev_s rfl) (lEi (ev_s rfl) lE0))))))) (sEi ae_ev_k sE0) (lvk2 := [(0, .inr (0, 99)), (1, .inl (ae_k ((coin : Int)))), (2, .inl (ae_k (what))), (3, .inl (ae_k (((j + 1 : Nat) : Int)))), (4, .inl (ae_k ((vs_c A (j + 1) n : Int)))), (5, .inl (ae_k (((j + 1 : Nat) : Int)))), (7, .inl (ae_k (0)))]) (lEr (lEi (ev_s rfl) (lEi (ev_s rfl) (lEi (ev_s rfl) (lEi (ev_s rfl) (lEi (ev_s rfl) (lEi ae_ev_k lE0))))))) (stk2 := []) sE0 ?_
        refine yk_go (w0 := w0) (w1 := w2) hf hT hc hw ⟨by omega, by omega⟩ ⟨by omega, by omega⟩ (fun k hk => by rw [zb k hk]; exact bnd _ _) (fun wc vc x1 x2 x3 => ?_) 4 0 w2 (by omega) vb0 (fun q hq => absurd hq (by omega)) (fun q hq => rfl) (fun q => rfl)
        exact ih (j + 1) (j + 1) wc (by omega) (by rw [bj, if_neg (by have := key.mp hz; omega)]) vc (fun r hr4 => by rw [x1 r hr4, zb r hr4]) (fun k h1 h2 => ⟨by rw [x3 k]; exact (r130 k h1 h2).1, by rw [x2 k h1]; exact (r130 k h1 h2).2⟩)
      · rw [e]
        refine ky_go hf hT a5 (by decide) (ρ := [(coin : Int), what, (b : Int), (vs_c A b n : Int), ((j + 1 : Nat) : Int), (vs_c A (j + 1) n : Int)]) yr_c0 ⟨⟨by omega, by omega⟩, ⟨by omega, by omega⟩, ⟨by omega, by omega⟩, ⟨by omega, by omega⟩, ⟨by omega, by omega⟩, ⟨by omega, by omega⟩, trivial⟩ aFs.nil aHh.nil (by rfl) (by rfl) (lEr (lEi (ev_s rfl) (lEi (ev_s rfl) (lEi (ev_s rfl) (lEi (ev_s rfl) (lEi (ev_s rfl) (lEi (ev_s rfl) lE0))))))) (sEi ae_ev_k sE0) (lvk2 := [(0, .inr (0, 99)), (1, .inl (ae_k ((coin : Int)))), (2, .inl (ae_k (what))), (3, .inl (ae_k ((b : Int)))), (4, .inl (ae_k ((vs_c A b n : Int)))), (5, .inl (ae_k (((j + 1 + 1 : Nat) : Int))))]) (lEr (lEi (ev_s rfl) (lEi (ev_s rfl) (lEi (ev_s rfl) (lEi (ev_s rfl) (lEi (by simp only [ae_ev, ae_el, List.getD_cons_zero, List.getD_cons_succ]; omega) lE0)))))) (stk2 := []) sE0 ?_
        exact ih (j + 1) b w2 (by omega) (by rw [bj, if_pos (Or.inr (Decidable.byContradiction (fun h => hz (key.mpr h))))]) vb0 r131 r130
end YW
