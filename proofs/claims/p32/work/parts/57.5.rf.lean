/-! BROUGHT, the reference: the next way -/
section
set_option maxRecDepth 100000
theorem mg_0 : hp_chk gV0 1000 82 262 (0, [(0, 4)], [], [((99, ae_k 32), ae_k 5)], [(0, .inr (0, 99)), (1, .inl (ae_s 0))], []) [] [(41, [(0, 4)], [], [(0, .inr (0, 99)), (1, .inl (ae_s 0)), (2, .inl (ae_k 0)), (3, .inl (ae_k 0))], [], [], [], mMU)] = true := by decide +kernel
theorem mg_1 : hp_chk gV0 1000 82 262 (0, [(0, 4), (1, 4), (0, 4), (0, 99)], [], [((99, ae_k 32), ae_s 1), ((123, ([(1, 1)], (-1))), ae_s 2), ((115, ([(0, 1), (2, 5)], 0)), ae_s 3)], [(0, .inr (0, 99)), (1, .inl (ae_s 0))], []) [] [(41, [(0, 4), (1, 4), (0, 4), (0, 99)], [], [(0, .inr (0, 99)), (1, .inl (ae_s 0)), (2, .inl (ae_k 0)), (3, .inl (ae_k 0))], [], [], [], mMU)] = true := by decide +kernel
theorem mg_2 : hp_chk gV0 1000 82 262 (0, [(0, 4), (1, 4), (0, 4), (100, 999)], [], [((99, ae_k 32), ae_s 1), ((123, ([(1, 1)], (-1))), ae_s 2), ((115, ([(0, 1), (2, 5)], 0)), ae_s 3)], [(0, .inr (0, 99)), (1, .inl (ae_s 0))], []) [] [(41, [(0, 4), (1, 4), (0, 4), (100, 999)], [], [(0, .inr (0, 99)), (1, .inl (ae_s 0)), (2, .inl (ae_k 1)), (3, .inl (ae_k 0))], [], [], [], mMU)] = true := by decide +kernel
theorem mg_3 : hp_chk gV0 1000 82 262 (41, [(0, 4), (0, 4), (1, 5)], [([(1, 1), (2, (-1))], 1)], [((99, ae_k 32), ae_s 2)], [(0, .inr (0, 99)), (1, .inl (ae_s 0)), (2, .inl (ae_k 0)), (3, .inl (ae_s 1))], []) [] [(41, [(0, 4), (0, 4), (1, 5)], [], [(0, .inr (0, 99)), (1, .inl (ae_s 0)), (2, .inl (ae_k 0)), (3, .inl (([(1, 1)], 1)))], [], [], [], mMU)] = true := by decide +kernel
theorem mg_4 : hp_chk gV0 1000 82 262 (41, [(0, 4), (0, 4), (1, 5)], [([(1, 1), (2, (-1))], 1)], [((99, ae_k 32), ae_s 2), ((123, ae_s 1), ae_s 0)], [(0, .inr (0, 99)), (1, .inl (ae_s 0)), (2, .inl (ae_k 1)), (3, .inl (ae_s 1))], []) [] [(41, [(0, 4), (0, 4), (1, 5)], [], [(0, .inr (0, 99)), (1, .inl (ae_s 0)), (2, .inl (ae_k 0)), (3, .inl (([(1, 1)], 1)))], [], [], [], mMU)] = true := by decide +kernel
theorem mg_5 : hp_chk gV0 1000 82 262 (41, [(0, 4), (0, 4), (1, 5), (0, 4)], [([(1, 1), (2, (-1))], 1), ([(0, (-1)), (3, 1)], 1)], [((99, ae_k 32), ae_s 2), ((123, ae_s 1), ae_s 3)], [(0, .inr (0, 99)), (1, .inl (ae_s 0)), (2, .inl (ae_k 1)), (3, .inl (ae_s 1))], []) [] [(41, [(0, 4), (0, 4), (1, 5), (0, 4)], [], [(0, .inr (0, 99)), (1, .inl (ae_s 0)), (2, .inl (ae_k 1)), (3, .inl (([(1, 1)], 1)))], [], [], [], mMU)] = true := by decide +kernel
theorem mg_6 : hp_chk gV0 1000 82 262 (41, [(0, 4), (0, 4), (1, 5), (0, 4)], [([(1, 1), (2, (-1))], 1), ([(0, 1), (3, (-1))], 1)], [((99, ae_k 32), ae_s 2), ((123, ae_s 1), ae_s 3)], [(0, .inr (0, 99)), (1, .inl (ae_s 0)), (2, .inl (ae_k 1)), (3, .inl (ae_s 1))], []) [] [(41, [(0, 4), (0, 4), (1, 5), (0, 4)], [], [(0, .inr (0, 99)), (1, .inl (ae_s 0)), (2, .inl (ae_k 1)), (3, .inl (([(1, 1)], 1)))], [], [], [], mMU)] = true := by decide +kernel
theorem mg_7 : hp_chk gV0 1000 82 262 (41, [(0, 4), (1, 5)], [], [((99, ae_k 32), ae_s 1)], [(0, .inr (0, 99)), (1, .inl (ae_s 0)), (2, .inl (ae_k 0)), (3, .inl (ae_s 1))], []) [] [(76, [(0, 4), (1, 5)], [], [], [.inl (ae_k 0)], [], [], mMU)] = true := by decide +kernel
theorem mg_8 : hp_chk gV0 1000 82 262 (41, [(0, 4), (1, 5)], [], [((99, ae_k 32), ae_s 1)], [(0, .inr (0, 99)), (1, .inl (ae_s 0)), (2, .inl (ae_k 1)), (3, .inl (ae_s 1))], []) [] [(76, [(0, 4), (1, 5)], [], [], [.inl (ae_k 1)], [], [], mMU)] = true := by decide +kernel
theorem nw_a : hp_chk gV0 1000 83 261 (0, [(0, 4)], [], [((99, ae_k 32), ae_k 1)], [(0, .inr (0, 99)), (1, .inl (ae_s 0))], []) [] [(47, [(0, 4)], [], [(0, .inr (0, 99)), (1, .inl (ae_s 0)), (2, .inl (ae_k 0))], [], [], [], mMU)] = true := by decide +kernel
theorem nw_a2 : lp_chk (aG00 []) 83 261 (0, [(0, 4), (2, 5)], [], [((99, ae_k 32), ae_s 1), ((123, ([(1, 1)], (-1))), ae_s 0)], [(0, .inr (0, 99)), (1, .inl (ae_s 0))], []) 47 [(0, .inr (0, 99)), (1, .inl (ae_s 0)), (2, .inl (([(0, 1)], 1)))] [] [(99, some (ae_k 32, ([(1, 1)], (-1))))] = true := by decide +kernel
theorem nw_b : hp_chk gV0 1000 83 261 (47, [(0, 4), (0, 5), (1, 5)], [], [((99, ae_k 32), ae_s 2)], [(0, .inr (0, 99)), (1, .inl (ae_s 0)), (2, .inl (ae_s 1))], []) [] [(56, [(0, 4), (0, 5), (1, 5)], [], [(0, .inr (0, 99)), (1, .inl (ae_s 0)), (3, .inl (ae_s 1))], [], [], [], mMU)] = true := by decide +kernel
theorem nw_c : hp_chk gV0 1000 83 261 (47, [(0, 4), (0, 5)], [], [((99, ae_k 32), ae_k 0)], [(0, .inr (0, 99)), (1, .inl (ae_s 0)), (2, .inl (ae_s 1))], []) [] [(135, [(0, 4), (0, 5)], [], [], [.inl (ae_k 0)], [], [], mMU)] = true := by decide +kernel
theorem nw_d : hp_chk gV0 1000 83 261 (56, [(0, 4), (0, 4)], [], [], [(0, .inr (0, 99)), (1, .inl (ae_s 0)), (3, .inl (ae_s 1))], []) [] [(63, [(0, 4), (0, 4)], [], [(0, .inr (0, 99)), (1, .inl (ae_s 0)), (3, .inl (ae_s 1))], [.inl (ae_s 1), .inr (0, 99)], [], [], mMU)] = true := by decide +kernel
theorem nw_e : hp_chk gV0 1000 83 261 (66, [(0, 4), (0, 4)], [], [], [(0, .inr (0, 99)), (1, .inl (ae_s 0)), (3, .inl (ae_s 1))], [.inl (ae_k 0)]) [] [(56, [(0, 4), (0, 4)], [], [(0, .inr (0, 99)), (1, .inl (ae_s 0)), (3, .inl (([(1, 1)], 1)))], [], [], [], mMU)] = true := by decide +kernel
theorem nw_g : lp_chk (aG00 []) 83 261 (66, [(0, 4), (1, 4)], [], [((99, ae_k 32), ae_s 1)], [(0, .inr (0, 99)), (1, .inl (ae_s 0)), (3, .inl (ae_s 0))], [.inl (ae_k 1)]) 108 [] [.inl (ae_k 1)] [(99, some (ae_k 32, ([(1, 1)], 1))), (123, some (ae_s 1, ae_s 0))] = true := by decide +kernel
theorem nw_h : lp_chk (aG00 []) 83 261 (66, [(0, 4), (0, 4), (1, 4)], [([(0, (-1)), (1, 1)], 1)], [((99, ae_k 32), ae_s 2)], [(0, .inr (0, 99)), (1, .inl (ae_s 0)), (3, .inl (ae_s 1))], [.inl (ae_k 1)]) 47 [(0, .inr (0, 99)), (1, .inl (ae_s 0)), (2, .inl (ae_k 0))] [] [(99, some (ae_k 32, ([(2, 1)], 1))), (123, some (ae_s 2, ae_s 1))] = true := by decide +kernel
theorem nw_h2 : lp_chk (aG00 []) 83 261 (66, [(0, 4), (0, 4), (1, 4)], [([(0, 1), (1, (-1))], 1)], [((99, ae_k 32), ae_s 2)], [(0, .inr (0, 99)), (1, .inl (ae_s 0)), (3, .inl (ae_s 1))], [.inl (ae_k 1)]) 47 [(0, .inr (0, 99)), (1, .inl (ae_s 0)), (2, .inl (ae_k 0))] [] [(99, some (ae_k 32, ([(2, 1)], 1))), (123, some (ae_s 2, ae_s 1))] = true := by decide +kernel
theorem nw_i : lp_chk (aG00 []) 83 261 (56, [(0, 4), (1, 5), (0, 4)], [], [((99, ae_k 32), ae_s 1), ((123, ([(1, 1)], (-1))), ae_s 2)], [(0, .inr (0, 99)), (1, .inl (ae_s 0)), (3, .inl (ae_k 5))], []) 47 [(0, .inr (0, 99)), (1, .inl (ae_s 0)), (2, .inl (([(2, 1)], 1)))] [] [(99, some (ae_k 32, ([(1, 1)], (-1))))] = true := by decide +kernel
end
section RF
variable {E : mj_E} {Q : Option Value → va_W → Prop} {al : List Nat} {w w0 w1 w2 : va_W} {S : Nat → Nat} {n to : Nat}
/-- what a search may change -/
def rv (E : mj_E) (al : List Nat) (w0 w : va_W) : Prop := aWd E al aLay w ∧ aRs aRules w ∧ jJ0 w ∧ hD [99, 123, 124, 125, 126] w0 w ∧ ∀ k, k ≠ 32 → k ≠ 36 → k ≠ 37 → k ≠ 38 → jS w 99 k = jS w0 99 k
def re (w : va_W) (S : Nat → Nat) : Prop := (∀ k, k < 25 → jS w 115 k = (S k : Int)) ∧ ∀ k, S k ≤ 999
def rp (w : va_W) (p : List Nat) : Prop := jS w 99 32 = (p.length : Int) ∧ ∀ i, i < p.length → jS w 123 i = (rd_at p i : Int)
/-- the best road so far is as it was -/
def rb (w1 w : va_W) : Prop := (∀ k, k ≠ 32 → jS w 99 k = jS w1 99 k) ∧ ∀ k, jS w 126 k = jS w1 126 k
theorem jL_115 : ∀ k, k < 25 → (jLay 115 k).isSome = true := by decide +kernel
theorem jL_123 : ∀ k, k < 5 → (jLay 123 k).isSome = true := by decide +kernel
theorem re.sl (H : re w0 S) (h : rv E al w0 w) {k : Nat} (hk : k < 25) : aSl w 115 k (S k : Int) := by
  rw [← H.1 k hk, ← jS.at (h.2.2.2.1.2 115 (by decide))]
  exact jLay_sl h.1 (jL_115 k hk)
theorem rp.len {p : List Nat} (h : rp w p) (a5 : aWd E al aLay w) : aSl w 99 32 (p.length : Int) := by
  rw [← h.1]
  exact jLay_sl a5 (by decide +kernel)
theorem rp.sl {p : List Nat} (h : rp w p) (a5 : aWd E al aLay w) {i : Nat} (hi : i < p.length) (h5 : i < 5) : aSl w 123 i (rd_at p i : Int) := by
  rw [← h.2 i hi]
  exact jLay_sl a5 (jL_123 i h5)
/-- after a log of the way's length and one port -/
theorem rv.log (h : rv E al w0 w) {md : List Nat} (b1 : aWd E al aLay w2) (b2 : aRs aRules w2) (b3 : jJ0 w2) (b4 : hD md w w2) (hm : ∀ c ∈ md, c ∈ [99, 123, 124, 125, 126]) (h9 : ∀ k, k ≠ 32 → k ≠ 36 → k ≠ 37 → k ≠ 38 → jS w2 99 k = jS w 99 k) : rv E al w0 w2 :=
  ⟨b1, b2, b3, h.2.2.2.1.trans (b4.more hm), fun k k1 k2 k3 k4 => (h9 k k1 k2 k3 k4).trans (h.2.2.2.2 k k1 k2 k3 k4)⟩
/-- may the way go on -/
theorem mg_go (hf : E.2.2.2.1.category = 1) (hT : ∀ σ : List Int, aTb E σ aTabs) (hv : rv E al w0 w) {u : List Nat} (hu : 1 ≤ u.length ∧ u.length ≤ 5) (h4 : ∀ q ∈ u, q < 5) (hp : rp w u) {q : Nat} (hq : q < 5) (b : Bool) (hQ : ∀ z : Int32, z.toInt = (if b = true ∧ q ∉ u then 1 else 0) → Q (some (.int z)) w) : ∀ (m i : Nat) (c : Bool), i + m = u.length → (c = true ↔ b = true ∧ ∀ j, j < i → rd_at u j ≠ q) →
    hG E al 82 262 41 [(0, .inr (0, 99)), (1, .inl (ae_k (q : Int))), (2, .inl (ae_k (if c = true then 1 else 0))), (3, .inl (ae_k (i : Int)))] [] [] w Q := by
  obtain ⟨a5, a6, a7, d, d9⟩ := hv
  have sl := hp.len a5
  intro m
  induction m with
  | zero =>
    intro i c hi hc
    have e : i = u.length := by omega
    subst e
    have hm : (∀ j, j < u.length → rd_at u j ≠ q) ↔ q ∉ u := by
      rw [rd_at_mem]
      constructor
      · rintro h ⟨j, h1, h2⟩
        exact h j h1 h2
      · intro h j h1 h2
        exact h ⟨j, h1, h2⟩
    rw [hm] at hc
    cases c with
    | false =>
      rw [if_neg (by decide)]
      refine ky_go hf hT a5 (by decide) (ρ := [(q : Int), (u.length : Int)]) mg_7 ⟨⟨by omega, by omega⟩, ⟨by omega, by omega⟩, trivial⟩ aFs.nil (aHh.cons (kn1 (i := 32) (by decide) rfl (ev_s rfl) sl) aHh.nil) (by rfl) (by rfl) (lEr (lEi (ev_s rfl) (lEi ae_ev_k (lEi (ev_s rfl) lE0)))) sE0 (lvk2 := []) lE0 (stk2 := [.inl (ae_k (0))]) (sEi ae_ev_k sE0) ?_
      exact hp_retI (pc := 76) (ty := .boolean) (x := 0) (by decide) (by decide +kernel) (by decide +kernel) (aV.k _) (fun n hn => by rw [show n = 0 from Int32.toInt_inj.mp (by rw [hn]; rfl)]; decide) (fun z hz => hQ z (by rw [hz, if_neg (fun h => absurd (hc.mpr h) (by decide))]))
    | true =>
      rw [if_pos rfl]
      refine ky_go hf hT a5 (by decide) (ρ := [(q : Int), (u.length : Int)]) mg_8 ⟨⟨by omega, by omega⟩, ⟨by omega, by omega⟩, trivial⟩ aFs.nil (aHh.cons (kn1 (i := 32) (by decide) rfl (ev_s rfl) sl) aHh.nil) (by rfl) (by rfl) (lEr (lEi (ev_s rfl) (lEi ae_ev_k (lEi (ev_s rfl) lE0)))) sE0 (lvk2 := []) lE0 (stk2 := [.inl (ae_k (1))]) (sEi ae_ev_k sE0) ?_
      exact hp_retI (pc := 76) (ty := .boolean) (x := 1) (by decide) (by decide +kernel) (by decide +kernel) (aV.k _) (fun n hn => by rw [show n = 1 from Int32.toInt_inj.mp (by rw [hn]; rfl)]; decide) (fun z hz => hQ z (by rw [hz, if_pos (hc.mp rfl)]))
  | succ m ih =>
    intro i c hi hc
    have nx := ih (i + 1)
    have v := hp.sl a5 (i := i) (by omega) (by omega)
    have v4 : rd_at u i < 5 := h4 _ (rd_at_mem.mpr ⟨i, by omega, rfl⟩)
    cases c with
    | false =>
      rw [if_neg (by decide)]
      refine ky_go hf hT a5 (by decide) (ρ := [(q : Int), (i : Int), (u.length : Int)]) mg_3 ⟨⟨by omega, by omega⟩, ⟨by omega, by omega⟩, ⟨by omega, by omega⟩, trivial⟩ (aFs.cons rfl (by simp only [ae_ev, ae_el, ae_s, ae_k, List.getD_cons_zero, List.getD_cons_succ]; omega) aFs.nil) (aHh.cons (kn1 (i := 32) (by decide) rfl (ev_s rfl) sl) aHh.nil) (by rfl) (by rfl) (lEr (lEi (ev_s rfl) (lEi ae_ev_k (lEi (ev_s rfl) lE0)))) sE0 (lvk2 := [(0, .inr (0, 99)), (1, .inl (ae_k ((q : Int)))), (2, .inl (ae_k (0))), (3, .inl (ae_k (((i + 1 : Nat) : Int))))]) (lEr (lEi (ev_s rfl) (lEi ae_ev_k (lEi (by simp only [ae_ev, ae_el, ae_s, ae_k, List.getD_cons_zero, List.getD_cons_succ]; omega) lE0)))) (stk2 := []) sE0 ?_
      have := nx false (by omega) ⟨fun h => (by cases h), fun h => absurd (hc.mpr ⟨h.1, fun j hj => h.2 j (by omega)⟩) (by decide)⟩
      rw [if_neg (by decide)] at this
      exact this
    | true =>
      rw [if_pos rfl]
      obtain ⟨hb, ho⟩ := hc.mp rfl
      by_cases e : rd_at u i = q
      · rw [e] at v
        refine ky_go hf hT a5 (by decide) (ρ := [(q : Int), (i : Int), (u.length : Int)]) mg_4 ⟨⟨by omega, by omega⟩, ⟨by omega, by omega⟩, ⟨by omega, by omega⟩, trivial⟩ (aFs.cons rfl (by simp only [ae_ev, ae_el, ae_s, ae_k, List.getD_cons_zero, List.getD_cons_succ]; omega) aFs.nil) (aHh.cons (kn1 (i := 32) (by decide) rfl (ev_s rfl) sl) (aHh.cons (kns (by decide) rfl rfl (i := i) (ev_s rfl) (ev_s rfl) v) aHh.nil)) (by rfl) (by rfl) (lEr (lEi (ev_s rfl) (lEi ae_ev_k (lEi (ev_s rfl) lE0)))) sE0 (lvk2 := [(0, .inr (0, 99)), (1, .inl (ae_k ((q : Int)))), (2, .inl (ae_k (0))), (3, .inl (ae_k (((i + 1 : Nat) : Int))))]) (lEr (lEi (ev_s rfl) (lEi ae_ev_k (lEi (by simp only [ae_ev, ae_el, ae_s, ae_k, List.getD_cons_zero, List.getD_cons_succ]; omega) lE0)))) (stk2 := []) sE0 ?_
        have := nx false (by omega) ⟨fun h => (by cases h), fun h => absurd e (h.2 i (by omega))⟩
        rw [if_neg (by decide)] at this
        exact this
      · have : hG E al 82 262 41 [(0, .inr (0, 99)), (1, .inl (ae_k (q : Int))), (2, .inl (ae_k 1)), (3, .inl (ae_k ((i + 1 : Nat) : Int)))] [] [] w Q := by
          have := nx true (by omega) ⟨fun _ => ⟨hb, fun j hj => by
            by_cases ej : j = i
            · rw [ej]; exact e
            · exact ho j (by omega)⟩, fun _ => rfl⟩
          rw [if_pos rfl] at this
          exact this
        by_cases hlt : rd_at u i < q
        · refine ky_go hf hT a5 (by decide) (ρ := [(q : Int), (i : Int), (u.length : Int), (rd_at u i : Int)]) mg_5 ⟨⟨by omega, by omega⟩, ⟨by omega, by omega⟩, ⟨by omega, by omega⟩, ⟨by omega, by omega⟩, trivial⟩ (aFs.cons rfl (by simp only [ae_ev, ae_el, ae_s, ae_k, List.getD_cons_zero, List.getD_cons_succ]; omega) (aFs.cons rfl (by simp only [ae_ev, ae_el, ae_s, ae_k, List.getD_cons_zero, List.getD_cons_succ]; omega) aFs.nil)) (aHh.cons (kn1 (i := 32) (by decide) rfl (ev_s rfl) sl) (aHh.cons (kns (by decide) rfl rfl (i := i) (ev_s rfl) (ev_s rfl) v) aHh.nil)) (by rfl) (by rfl) (lEr (lEi (ev_s rfl) (lEi ae_ev_k (lEi (ev_s rfl) lE0)))) sE0 (lvk2 := [(0, .inr (0, 99)), (1, .inl (ae_k ((q : Int)))), (2, .inl (ae_k (1))), (3, .inl (ae_k (((i + 1 : Nat) : Int))))]) (lEr (lEi (ev_s rfl) (lEi ae_ev_k (lEi (by simp only [ae_ev, ae_el, ae_s, ae_k, List.getD_cons_zero, List.getD_cons_succ]; omega) lE0)))) (stk2 := []) sE0 ?_
          exact this
        · refine ky_go hf hT a5 (by decide) (ρ := [(q : Int), (i : Int), (u.length : Int), (rd_at u i : Int)]) mg_6 ⟨⟨by omega, by omega⟩, ⟨by omega, by omega⟩, ⟨by omega, by omega⟩, ⟨by omega, by omega⟩, trivial⟩ (aFs.cons rfl (by simp only [ae_ev, ae_el, ae_s, ae_k, List.getD_cons_zero, List.getD_cons_succ]; omega) (aFs.cons rfl (by simp only [ae_ev, ae_el, ae_s, ae_k, List.getD_cons_zero, List.getD_cons_succ]; omega) aFs.nil)) (aHh.cons (kn1 (i := 32) (by decide) rfl (ev_s rfl) sl) (aHh.cons (kns (by decide) rfl rfl (i := i) (ev_s rfl) (ev_s rfl) v) aHh.nil)) (by rfl) (by rfl) (lEr (lEi (ev_s rfl) (lEi ae_ev_k (lEi (ev_s rfl) lE0)))) sE0 (lvk2 := [(0, .inr (0, 99)), (1, .inl (ae_k ((q : Int)))), (2, .inl (ae_k (1))), (3, .inl (ae_k (((i + 1 : Nat) : Int))))]) (lEr (lEi (ev_s rfl) (lEi ae_ev_k (lEi (by simp only [ae_ev, ae_el, ae_s, ae_k, List.getD_cons_zero, List.getD_cons_succ]; omega) lE0)))) (stk2 := []) sE0 ?_
          exact this
theorem mg_mj (hf : E.2.2.2.1.category = 1) (hT : ∀ σ : List Int, aTb E σ aTabs) (H : re w0 S) (hto : to < 5) (hv : rv E al w0 w) {x : Nat} {p : List Nat} (hl : p.length ≤ 4) (h4 : ∀ q ∈ x :: p, q < 5) (hp : rp w (x :: p)) {q : Nat} (hq : q < 5) {AS : List Value} (hA : gL E al [] [.inr (0, 99), .inl (ae_k (q : Int))] AS) :
    MJ E 82 0 0 (mj_in0 262 AS w) (fun v w2 => ∃ z : Int32, v = some (.int z) ∧ z.toInt = (if rd_ok S x p q = true then 1 else 0) ∧ w2 = w) := by
  have hx := h4 x List.mem_cons_self
  have hv0 := hv
  obtain ⟨a5, a6, a7, d, d9⟩ := hv
  have el : (x :: p).length = p.length + 1 := rfl
  have sl := hp.len a5
  refine hG.in0 hf (d := 82) (as := [.inr (0, 99), .inl (ae_k (q : Int))]) ?_ hA
  show hG E al 82 262 0 [(0, .inr (0, 99)), (1, .inl (ae_k (q : Int)))] [] [] w _
  have ok : rd_ok S x p q = true ↔ (decide (100 ≤ S (5 * x + q)) && decide (p.length + 1 < 5)) = true ∧ q ∉ x :: p := by
    unfold rd_ok
    simp only [Bool.and_eq_true, decide_eq_true_eq]
    constructor
    · exact fun h => ⟨⟨h.1, h.2.2⟩, h.2.1⟩
    · exact fun h => ⟨h.1.1, h.2, h.1.2⟩
  have go := fun b => mg_go (Q := fun v w2 => ∃ z : Int32, v = some (.int z) ∧ z.toInt = (if b = true ∧ q ∉ x :: p then 1 else 0) ∧ w2 = w) hf hT hv0 (u := x :: p) ⟨by omega, by omega⟩ h4 hp hq b (fun z hz => ⟨z, rfl, hz, rfl⟩) (x :: p).length 0 b (by omega) ⟨fun h => ⟨h, fun j hj => absurd hj (by omega)⟩, fun h => h.1⟩
  have fin : ∀ v w2, (∃ z : Int32, v = some (Value.int z) ∧ z.toInt = (if (decide (100 ≤ S (5 * x + q)) && decide (p.length + 1 < 5)) = true ∧ q ∉ x :: p then 1 else 0) ∧ w2 = w) → ∃ z : Int32, v = some (.int z) ∧ z.toInt = (if rd_ok S x p q = true then 1 else 0) ∧ w2 = w := by
    rintro v w2 ⟨z, e1, e2, e3⟩
    refine ⟨z, e1, ?_, e3⟩
    rw [e2]
    by_cases h : rd_ok S x p q = true
    · rw [if_pos h, if_pos (ok.mp h)]
    · rw [if_neg h, if_neg (fun g => h (ok.mpr g))]
  have fin2 : ∀ b, b = (decide (100 ≤ S (5 * x + q)) && decide (p.length + 1 < 5)) → hG E al 82 262 41 [(0, .inr (0, 99)), (1, .inl (ae_k (q : Int))), (2, .inl (ae_k (if b = true then 1 else 0))), (3, .inl (ae_k 0))] [] [] w (fun v w2 => ∃ z : Int32, v = some (.int z) ∧ z.toInt = (if rd_ok S x p q = true then 1 else 0) ∧ w2 = w) := by
    intro b hb LV ST g1 g2
    subst hb
    exact (go _ LV ST g1 g2).weaken (Nat.le_refl _) (Nat.le_refl _) (Nat.le_refl _) fin
  by_cases l5 : p.length = 4
  · rw [el, l5] at sl
    refine ky_go hf hT a5 (by decide) (ρ := [(q : Int)]) mg_0 ⟨⟨by omega, by omega⟩, trivial⟩ aFs.nil (aHh.cons (kn1 (i := 32) (by decide) rfl ae_ev_k sl) aHh.nil) (by rfl) (by rfl) (lEr (lEi (ev_s rfl) lE0)) sE0 (lvk2 := [(0, .inr (0, 99)), (1, .inl (ae_k ((q : Int)))), (2, .inl (ae_k (0))), (3, .inl (ae_k (0)))]) (lEr (lEi (ev_s rfl) (lEi ae_ev_k (lEi ae_ev_k lE0)))) (stk2 := []) sE0 ?_
    have := fin2 false (by rw [l5]; simp)
    rw [if_neg (by decide)] at this
    exact this
  have vx := hp.sl a5 (i := p.length) (by omega) (by omega)
  rw [rd_at_0] at vx
  have hS := H.2 (5 * x + q)
  have vs := H.sl hv0 (k := 5 * x + q) (by omega)
  by_cases s1 : S (5 * x + q) < 100
  · refine ky_go hf hT a5 (by decide) (ρ := [(q : Int), ((x :: p).length : Int), (x : Int), (S (5 * x + q) : Int)]) mg_1 ⟨⟨by omega, by omega⟩, ⟨by omega, by omega⟩, ⟨by omega, by omega⟩, ⟨by omega, by omega⟩, trivial⟩ aFs.nil (aHh.cons (kn1 (i := 32) (by decide) rfl (ev_s rfl) sl) (aHh.cons (kns (by decide) rfl rfl (i := p.length) (by simp only [ae_ev, ae_el, ae_s, ae_k, List.getD_cons_zero, List.getD_cons_succ]; omega) (ev_s rfl) vx) (aHh.cons (kns (by decide) rfl rfl (i := 5 * x + q) (by simp only [ae_ev, ae_el, ae_s, ae_k, List.getD_cons_zero, List.getD_cons_succ]; omega) (ev_s rfl) vs) aHh.nil))) (by rfl) (by rfl) (lEr (lEi (ev_s rfl) lE0)) sE0 (lvk2 := [(0, .inr (0, 99)), (1, .inl (ae_k ((q : Int)))), (2, .inl (ae_k (0))), (3, .inl (ae_k (0)))]) (lEr (lEi (ev_s rfl) (lEi ae_ev_k (lEi ae_ev_k lE0)))) (stk2 := []) sE0 ?_
    have := fin2 false (by rw [decide_eq_false (show ¬ 100 ≤ S (5 * x + q) by omega)]; rfl)
    rw [if_neg (by decide)] at this
    exact this
  · refine ky_go hf hT a5 (by decide) (ρ := [(q : Int), ((x :: p).length : Int), (x : Int), (S (5 * x + q) : Int)]) mg_2 ⟨⟨by omega, by omega⟩, ⟨by omega, by omega⟩, ⟨by omega, by omega⟩, ⟨by omega, by omega⟩, trivial⟩ aFs.nil (aHh.cons (kn1 (i := 32) (by decide) rfl (ev_s rfl) sl) (aHh.cons (kns (by decide) rfl rfl (i := p.length) (by simp only [ae_ev, ae_el, ae_s, ae_k, List.getD_cons_zero, List.getD_cons_succ]; omega) (ev_s rfl) vx) (aHh.cons (kns (by decide) rfl rfl (i := 5 * x + q) (by simp only [ae_ev, ae_el, ae_s, ae_k, List.getD_cons_zero, List.getD_cons_succ]; omega) (ev_s rfl) vs) aHh.nil))) (by rfl) (by rfl) (lEr (lEi (ev_s rfl) lE0)) sE0 (lvk2 := [(0, .inr (0, 99)), (1, .inl (ae_k ((q : Int)))), (2, .inl (ae_k (1))), (3, .inl (ae_k (0)))]) (lEr (lEi (ev_s rfl) (lEi ae_ev_k (lEi ae_ev_k lE0)))) (stk2 := []) sE0 ?_
    have := fin2 true (by rw [decide_eq_true (show 100 ≤ S (5 * x + q) by omega), decide_eq_true (show p.length + 1 < 5 by omega)]; rfl)
    rw [if_pos rfl] at this
    exact this
theorem nx_m0 (hf : E.2.2.2.1.category = 1) (hT : ∀ σ : List Int, aTb E σ aTabs) (H : re w0 S) (hto : to < 5) {x : Nat} {p : List Nat} (hfl : 0 = 4 - p.length) (hl : p.length ≤ 4) (hg : ∀ q ∈ x :: p, q ≠ to ∧ q < 5) : ∀ (m : Nat) (w : va_W), m ≤ 5 → rv E al w0 w → rb w1 w → rp w (x :: p) →
    (rd_fr S (bw_ws S to 0) x p m = [] → ∀ w2, rv E al w0 w2 → rb w1 w2 → rp w2 p → hG E al 83 261 47 [(0, .inr (0, 99)), (1, .inl (ae_k (to : Int))), (2, .inl (ae_k ((x + 1 : Nat) : Int)))] [] [] w2 Q) →
    (∀ u us, rd_fr S (bw_ws S to 0) x p m = u :: us → ∀ w2, rv E al w0 w2 → rb w1 w2 → rp w2 u → ∀ z : Int32, z.toInt = 1 → Q (some (.int z)) w2) →
    hG E al 83 261 56 [(0, .inr (0, 99)), (1, .inl (ae_k (to : Int))), (3, .inl (ae_k ((5 - m : Nat) : Int)))] [] [] w Q := by
  have HV : hOk E al gV0 (fun _ => True) := hOkV hf hT (fun _ _ _ h => h)
  have hx := hg x List.mem_cons_self
  have el : (x :: p).length = p.length + 1 := rfl
  have h4 : ∀ q ∈ x :: p, q < 5 := fun q hq => (hg q hq).2
  intro m
  induction m with
  | zero =>
    intro w hm hv hb hp hnil hcons
    have hv0 := hv
    obtain ⟨a5, a6, a7, d, d9⟩ := hv
    have sl := hp.len a5
    have vx := hp.sl a5 (i := p.length) (by omega) (by omega)
    rw [rd_at_0] at vx
    refine ky_lg hf hT a5 a6 a7 (by decide) (ρ := [(to : Int), ((x :: p).length : Int), (x : Int)]) nw_i ⟨⟨by omega, by omega⟩, ⟨by omega, by omega⟩, ⟨by omega, by omega⟩, trivial⟩ aFs.nil (aHh.cons (kn1 (i := 32) (by decide) rfl (ev_s rfl) sl) (aHh.cons (kns (by decide) rfl rfl (i := p.length) (by simp only [ae_ev, ae_el, ae_s, ae_k, List.getD_cons_zero, List.getD_cons_succ]; omega) (ev_s rfl) vx) aHh.nil)) (by rfl) (by rfl) (lEr (lEi (ev_s rfl) (lEi ae_ev_k lE0))) sE0 (lvk2 := [(0, .inr (0, 99)), (1, .inl (ae_k ((to : Int)))), (2, .inl (ae_k (((x + 1 : Nat) : Int))))]) (lEr (lEi (ev_s rfl) (lEi (by simp only [ae_ev, ae_el, ae_s, ae_k, List.getD_cons_zero, List.getD_cons_succ]; omega) lE0))) (stk2 := []) sE0 (fun w2 b1 b2 b3 b4 b5 => ?_)
    have f9 : ∀ k, jS w2 99 k = if k = 32 then (p.length : Int) else jS w 99 k := fun k => by
      rw [b5 99 k]
      simp [lg_ap, ae_ev, ae_el, ae_s, ae_k]
      by_cases e : k = 32
      · simp only [if_pos e]; omega
      · simp only [if_neg e]
    refine hnil rfl w2 (hv0.log b1 b2 b3 b4 (by decide) (fun k k1 _ _ _ => by rw [f9, if_neg k1])) ⟨fun k hk => by rw [f9, if_neg hk]; exact hb.1 k hk, fun k => (b5 126 k).trans (hb.2 k)⟩ ⟨by rw [f9, if_pos rfl], fun i hi => ?_⟩
    rw [b5 123 i]
    show jS w 123 i = _
    rw [hp.2 i (by omega), rd_at_s hi]
  | succ m ih =>
    intro w hm hv hb hp hnil hcons
    have hv0 := hv
    obtain ⟨a5, a6, a7, d, d9⟩ := hv
    have sl := hp.len a5
    have e5 : 5 - (m + 1) = 4 - m := by omega
    have q4 : 4 - m < 5 := by omega
    rw [e5]
    refine ky_go hf hT a5 (by decide) (ρ := [(to : Int), ((4 - m : Nat) : Int)]) nw_d ⟨⟨by omega, by omega⟩, ⟨by omega, by omega⟩, trivial⟩ aFs.nil aHh.nil (by rfl) (by rfl) (lEr (lEi (ev_s rfl) (lEi (ev_s rfl) lE0))) sE0 (lvk2 := [(0, .inr (0, 99)), (1, .inl (ae_k ((to : Int)))), (3, .inl (ae_k (((4 - m : Nat) : Int))))]) (lEr (lEi (ev_s rfl) (lEi (ev_s rfl) lE0))) (stk2 := [.inl (ae_k (((4 - m : Nat) : Int))), .inr (0, 99)]) (sEi (ev_s rfl) (sEr sE0)) ?_
    refine hp_callV HV (d := 82) (y2 := 262) (as := [.inr (0, 99), .inl (ae_k ((4 - m : Nat) : Int))]) (rest := []) (by decide) (by rfl) (hW.e (J := fun _ => True) a5 trivial) (fun AS h => mg_mj hf hT H hto hv0 hl h4 hp q4 h) (fun z w2 hR => ?_)
    obtain ⟨hz, rfl⟩ := hR
    have stp : rd_fr S (bw_ws S to 0) x p (m + 1) = (if rd_ok S x p (4 - m) = true then bw_ws S to 0 ((4 - m) :: x :: p) else []) ++ rd_fr S (bw_ws S to 0) x p m := rfl
    rw [stp] at hnil hcons
    rw [hz]
    have no : ¬ rd_ok S x p (4 - m) = true := by
      unfold rd_ok
      simp only [Bool.and_eq_true, decide_eq_true_eq]
      omega
    rw [if_neg no, List.nil_append] at hnil hcons
    rw [if_neg no]
    refine ky_go hf hT a5 (by decide) (ρ := [(to : Int), ((4 - m : Nat) : Int)]) nw_e ⟨⟨by omega, by omega⟩, ⟨by omega, by omega⟩, trivial⟩ aFs.nil aHh.nil (by rfl) (by rfl) (lEr (lEi (ev_s rfl) (lEi (ev_s rfl) lE0))) (sEi ae_ev_k sE0) (lvk2 := [(0, .inr (0, 99)), (1, .inl (ae_k ((to : Int)))), (3, .inl (ae_k (((5 - m : Nat) : Int))))]) (lEr (lEi (ev_s rfl) (lEi (by simp only [ae_ev, ae_el, ae_s, ae_k, List.getD_cons_zero, List.getD_cons_succ]; omega) lE0))) (stk2 := []) sE0 ?_
    exact ih w2 (by omega) hv0 hb hp hnil hcons
theorem nx_ms (hf : E.2.2.2.1.category = 1) (hT : ∀ σ : List Int, aTb E σ aTabs) (H : re w0 S) (hto : to < 5) {f x : Nat} {p : List Nat} (hfl : f + 1 = 4 - p.length) (hl : p.length ≤ 4) (hg : ∀ q ∈ x :: p, q ≠ to ∧ q < 5) (IH : ∀ y, (y ≠ to ∧ y < 5) → ∀ (m : Nat) (w : va_W), m ≤ 5 → rv E al w0 w → rb w1 w → rp w (y :: x :: p) → (rd_fr S (bw_ws S to f) y (x :: p) m = [] → ∀ w2, rv E al w0 w2 → rb w1 w2 → rp w2 (x :: p) → hG E al 83 261 47 [(0, .inr (0, 99)), (1, .inl (ae_k (to : Int))), (2, .inl (ae_k ((y + 1 : Nat) : Int)))] [] [] w2 Q) → (∀ u us, rd_fr S (bw_ws S to f) y (x :: p) m = u :: us → ∀ w2, rv E al w0 w2 → rb w1 w2 → rp w2 u → ∀ z : Int32, z.toInt = 1 → Q (some (.int z)) w2) → hG E al 83 261 56 [(0, .inr (0, 99)), (1, .inl (ae_k (to : Int))), (3, .inl (ae_k ((5 - m : Nat) : Int)))] [] [] w Q) : ∀ (m : Nat) (w : va_W), m ≤ 5 → rv E al w0 w → rb w1 w → rp w (x :: p) →
    (rd_fr S (bw_ws S to (f + 1)) x p m = [] → ∀ w2, rv E al w0 w2 → rb w1 w2 → rp w2 p → hG E al 83 261 47 [(0, .inr (0, 99)), (1, .inl (ae_k (to : Int))), (2, .inl (ae_k ((x + 1 : Nat) : Int)))] [] [] w2 Q) →
    (∀ u us, rd_fr S (bw_ws S to (f + 1)) x p m = u :: us → ∀ w2, rv E al w0 w2 → rb w1 w2 → rp w2 u → ∀ z : Int32, z.toInt = 1 → Q (some (.int z)) w2) →
    hG E al 83 261 56 [(0, .inr (0, 99)), (1, .inl (ae_k (to : Int))), (3, .inl (ae_k ((5 - m : Nat) : Int)))] [] [] w Q := by
  have HV : hOk E al gV0 (fun _ => True) := hOkV hf hT (fun _ _ _ h => h)
  have hx := hg x List.mem_cons_self
  have el : (x :: p).length = p.length + 1 := rfl
  have h4 : ∀ q ∈ x :: p, q < 5 := fun q hq => (hg q hq).2
  intro m
  induction m with
  | zero =>
    intro w hm hv hb hp hnil hcons
    have hv0 := hv
    obtain ⟨a5, a6, a7, d, d9⟩ := hv
    have sl := hp.len a5
    have vx := hp.sl a5 (i := p.length) (by omega) (by omega)
    rw [rd_at_0] at vx
    refine ky_lg hf hT a5 a6 a7 (by decide) (ρ := [(to : Int), ((x :: p).length : Int), (x : Int)]) nw_i ⟨⟨by omega, by omega⟩, ⟨by omega, by omega⟩, ⟨by omega, by omega⟩, trivial⟩ aFs.nil (aHh.cons (kn1 (i := 32) (by decide) rfl (ev_s rfl) sl) (aHh.cons (kns (by decide) rfl rfl (i := p.length) (by simp only [ae_ev, ae_el, ae_s, ae_k, List.getD_cons_zero, List.getD_cons_succ]; omega) (ev_s rfl) vx) aHh.nil)) (by rfl) (by rfl) (lEr (lEi (ev_s rfl) (lEi ae_ev_k lE0))) sE0 (lvk2 := [(0, .inr (0, 99)), (1, .inl (ae_k ((to : Int)))), (2, .inl (ae_k (((x + 1 : Nat) : Int))))]) (lEr (lEi (ev_s rfl) (lEi (by simp only [ae_ev, ae_el, ae_s, ae_k, List.getD_cons_zero, List.getD_cons_succ]; omega) lE0))) (stk2 := []) sE0 (fun w2 b1 b2 b3 b4 b5 => ?_)
    have f9 : ∀ k, jS w2 99 k = if k = 32 then (p.length : Int) else jS w 99 k := fun k => by
      rw [b5 99 k]
      simp [lg_ap, ae_ev, ae_el, ae_s, ae_k]
      by_cases e : k = 32
      · simp only [if_pos e]; omega
      · simp only [if_neg e]
    refine hnil rfl w2 (hv0.log b1 b2 b3 b4 (by decide) (fun k k1 _ _ _ => by rw [f9, if_neg k1])) ⟨fun k hk => by rw [f9, if_neg hk]; exact hb.1 k hk, fun k => (b5 126 k).trans (hb.2 k)⟩ ⟨by rw [f9, if_pos rfl], fun i hi => ?_⟩
    rw [b5 123 i]
    show jS w 123 i = _
    rw [hp.2 i (by omega), rd_at_s hi]
  | succ m ih =>
    intro w hm hv hb hp hnil hcons
    have hv0 := hv
    obtain ⟨a5, a6, a7, d, d9⟩ := hv
    have sl := hp.len a5
    have e5 : 5 - (m + 1) = 4 - m := by omega
    have q4 : 4 - m < 5 := by omega
    rw [e5]
    refine ky_go hf hT a5 (by decide) (ρ := [(to : Int), ((4 - m : Nat) : Int)]) nw_d ⟨⟨by omega, by omega⟩, ⟨by omega, by omega⟩, trivial⟩ aFs.nil aHh.nil (by rfl) (by rfl) (lEr (lEi (ev_s rfl) (lEi (ev_s rfl) lE0))) sE0 (lvk2 := [(0, .inr (0, 99)), (1, .inl (ae_k ((to : Int)))), (3, .inl (ae_k (((4 - m : Nat) : Int))))]) (lEr (lEi (ev_s rfl) (lEi (ev_s rfl) lE0))) (stk2 := [.inl (ae_k (((4 - m : Nat) : Int))), .inr (0, 99)]) (sEi (ev_s rfl) (sEr sE0)) ?_
    refine hp_callV HV (d := 82) (y2 := 262) (as := [.inr (0, 99), .inl (ae_k ((4 - m : Nat) : Int))]) (rest := []) (by decide) (by rfl) (hW.e (J := fun _ => True) a5 trivial) (fun AS h => mg_mj hf hT H hto hv0 hl h4 hp q4 h) (fun z w2 hR => ?_)
    obtain ⟨hz, rfl⟩ := hR
    have stp : rd_fr S (bw_ws S to (f + 1)) x p (m + 1) = (if rd_ok S x p (4 - m) = true then bw_ws S to (f + 1) ((4 - m) :: x :: p) else []) ++ rd_fr S (bw_ws S to (f + 1)) x p m := rfl
    rw [stp] at hnil hcons
    rw [hz]
    by_cases ho : rd_ok S x p (4 - m) = true
    · rw [if_pos ho] at hnil hcons ⊢
      have l4 : p.length + 1 < 5 := by
        unfold rd_ok at ho
        simp only [Bool.and_eq_true, decide_eq_true_eq] at ho
        exact ho.2.2
      have push : ∀ (y : Nat) (w3 : va_W), (∀ k, jS w3 99 k = if k = 32 then (p.length + 2 : Int) else jS w2 99 k) → (∀ k, jS w3 123 k = if k = p.length + 1 then (y : Int) else jS w2 123 k) → rp w3 (y :: x :: p) := by
        intro y w3 f9 f3
        refine ⟨by rw [f9, if_pos rfl]; simp only [List.length_cons]; omega, fun i hi => ?_⟩
        rw [f3]
        by_cases e : i = p.length + 1
        · rw [if_pos e, e, show p.length + 1 = (x :: p).length from rfl, rd_at_0]
        · simp only [List.length_cons] at hi
          rw [if_neg e, rd_at_s (by simp only [List.length_cons]; omega)]
          exact hp.2 i (by simp only [List.length_cons]; omega)
      by_cases m4 : 4 - m = to
      · rw [m4] at hcons ⊢
        refine ky_lg hf hT a5 a6 a7 (by decide) (ρ := [(to : Int), ((x :: p).length : Int)]) nw_g ⟨⟨by omega, by omega⟩, ⟨by omega, by omega⟩, trivial⟩ aFs.nil (aHh.cons (kn1 (i := 32) (by decide) rfl (ev_s rfl) sl) aHh.nil) (by rfl) (by rfl) (lEr (lEi (ev_s rfl) (lEi (ev_s rfl) lE0))) (sEi ae_ev_k sE0) (lvk2 := []) lE0 (stk2 := [.inl (ae_k (1))]) (sEi ae_ev_k sE0) (fun w3 b1 b2 b3 b4 b5 => ?_)
        have f9 : ∀ k, jS w3 99 k = if k = 32 then (p.length + 2 : Int) else jS w2 99 k := fun k => by
          rw [b5 99 k]
          simp [lg_ap, ae_ev, ae_el, ae_s, ae_k]
          by_cases e : k = 32
          · simp only [if_pos e]; omega
          · simp only [if_neg e]
        have f3 : ∀ k, jS w3 123 k = if k = p.length + 1 then (to : Int) else jS w2 123 k := fun k => by
          rw [b5 123 k]
          simp [lg_ap, ae_ev, ae_el, ae_s, ae_k]
        refine hp_retI (pc := 108) (ty := .boolean) (x := 1) (by decide) (by decide +kernel) (by decide +kernel) (aV.k _) (fun n hn => by rw [show n = 1 from Int32.toInt_inj.mp (by rw [hn]; rfl)]; decide) (fun z hz => ?_)
        exact hcons (to :: x :: p) _ (by rw [show bw_ws S to (f + 1) (to :: x :: p) = [to :: x :: p] from if_pos rfl]; rfl) w3 (hv0.log b1 b2 b3 b4 (by decide) (fun k k1 _ _ _ => by rw [f9, if_neg k1])) ⟨fun k hk => by rw [f9, if_neg hk]; exact hb.1 k hk, fun k => (b5 126 k).trans (hb.2 k)⟩ (push to w3 f9 f3) z hz
      · by_cases hlt : 4 - m < to
        · refine ky_lg hf hT a5 a6 a7 (by decide) (ρ := [(to : Int), ((4 - m : Nat) : Int), ((x :: p).length : Int)]) nw_h ⟨⟨by omega, by omega⟩, ⟨by omega, by omega⟩, ⟨by omega, by omega⟩, trivial⟩ (aFs.cons rfl (by simp only [ae_ev, ae_el, ae_s, ae_k, List.getD_cons_zero, List.getD_cons_succ]; omega) aFs.nil) (aHh.cons (kn1 (i := 32) (by decide) rfl (ev_s rfl) sl) aHh.nil) (by rfl) (by rfl) (lEr (lEi (ev_s rfl) (lEi (ev_s rfl) lE0))) (sEi ae_ev_k sE0) (lvk2 := [(0, .inr (0, 99)), (1, .inl (ae_k ((to : Int)))), (2, .inl (ae_k (0)))]) (lEr (lEi (ev_s rfl) (lEi ae_ev_k lE0))) (stk2 := []) sE0 (fun w3 b1 b2 b3 b4 b5 => ?_)
          have f9 : ∀ k, jS w3 99 k = if k = 32 then (p.length + 2 : Int) else jS w2 99 k := fun k => by
            rw [b5 99 k]
            simp [lg_ap, ae_ev, ae_el, ae_s, ae_k]
            by_cases e : k = 32
            · simp only [if_pos e]; omega
            · simp only [if_neg e]
          have f3 : ∀ k, jS w3 123 k = if k = p.length + 1 then ((4 - m : Nat) : Int) else jS w2 123 k := fun k => by
            rw [b5 123 k]
            simp [lg_ap, ae_ev, ae_el, ae_s, ae_k]
          have v3 := hv0.log b1 b2 b3 b4 (by decide) (fun k k1 _ _ _ => by rw [f9, if_neg k1])
          have hb3 : rb w1 w3 := ⟨fun k hk => by rw [f9, if_neg hk]; exact hb.1 k hk, fun k => (b5 126 k).trans (hb.2 k)⟩
          have p3 := push (4 - m) w3 f9 f3
          have v30 := v3
          obtain ⟨a5, a6, a7, d, d9⟩ := v3
          have sl := p3.len a5
          have ews : bw_ws S to (f + 1) ((4 - m) :: x :: p) = rd_fr S (bw_ws S to f) (4 - m) (x :: p) 5 := by
            show (if 4 - m = to then _ else _) = _
            rw [if_neg m4]
          rw [ews] at hnil hcons
          refine ky_go hf hT a5 (by decide) (ρ := [(to : Int), ((0 : Nat) : Int), (((4 - m) :: x :: p).length : Int)]) nw_b ⟨⟨by omega, by omega⟩, ⟨by omega, by omega⟩, ⟨by simp only [List.length_cons]; omega, by simp only [List.length_cons]; omega⟩, trivial⟩ aFs.nil (aHh.cons (kn1 (i := 32) (by decide) rfl (ev_s rfl) sl) aHh.nil) (by rfl) (by rfl) (lEr (lEi (ev_s rfl) (lEi (ev_s rfl) lE0))) sE0 (lvk2 := [(0, .inr (0, 99)), (1, .inl (ae_k ((to : Int)))), (3, .inl (ae_k (((0 : Nat) : Int))))]) (lEr (lEi (ev_s rfl) (lEi (ev_s rfl) lE0))) (stk2 := []) sE0 ?_
          refine IH (4 - m) ⟨m4, by omega⟩ 5 w3 (by omega) v30 hb3 p3 (fun e w4 v4 hb4 p4 => ?_) (fun u us e w4 v4 hb4 p4 z hz => hcons u (us ++ rd_fr S (bw_ws S to (f + 1)) x p m) (by rw [e]; rfl) w4 v4 hb4 p4 z hz)
          rw [e, List.nil_append] at hnil hcons
          have v40 := v4
          obtain ⟨a5, a6, a7, d, d9⟩ := v4
          have sl := p4.len a5
          have em : 4 - m + 1 = 5 - m := by omega
          rw [em]
          refine ky_go hf hT a5 (by decide) (ρ := [(to : Int), ((5 - m : Nat) : Int), ((x :: p).length : Int)]) nw_b ⟨⟨by omega, by omega⟩, ⟨by omega, by omega⟩, ⟨by omega, by omega⟩, trivial⟩ aFs.nil (aHh.cons (kn1 (i := 32) (by decide) rfl (ev_s rfl) sl) aHh.nil) (by rfl) (by rfl) (lEr (lEi (ev_s rfl) (lEi (ev_s rfl) lE0))) sE0 (lvk2 := [(0, .inr (0, 99)), (1, .inl (ae_k ((to : Int)))), (3, .inl (ae_k (((5 - m : Nat) : Int))))]) (lEr (lEi (ev_s rfl) (lEi (ev_s rfl) lE0))) (stk2 := []) sE0 ?_
          exact ih w4 (by omega) v40 hb4 p4 hnil hcons
        · refine ky_lg hf hT a5 a6 a7 (by decide) (ρ := [(to : Int), ((4 - m : Nat) : Int), ((x :: p).length : Int)]) nw_h2 ⟨⟨by omega, by omega⟩, ⟨by omega, by omega⟩, ⟨by omega, by omega⟩, trivial⟩ (aFs.cons rfl (by simp only [ae_ev, ae_el, ae_s, ae_k, List.getD_cons_zero, List.getD_cons_succ]; omega) aFs.nil) (aHh.cons (kn1 (i := 32) (by decide) rfl (ev_s rfl) sl) aHh.nil) (by rfl) (by rfl) (lEr (lEi (ev_s rfl) (lEi (ev_s rfl) lE0))) (sEi ae_ev_k sE0) (lvk2 := [(0, .inr (0, 99)), (1, .inl (ae_k ((to : Int)))), (2, .inl (ae_k (0)))]) (lEr (lEi (ev_s rfl) (lEi ae_ev_k lE0))) (stk2 := []) sE0 (fun w3 b1 b2 b3 b4 b5 => ?_)
          have f9 : ∀ k, jS w3 99 k = if k = 32 then (p.length + 2 : Int) else jS w2 99 k := fun k => by
            rw [b5 99 k]
            simp [lg_ap, ae_ev, ae_el, ae_s, ae_k]
            by_cases e : k = 32
            · simp only [if_pos e]; omega
            · simp only [if_neg e]
          have f3 : ∀ k, jS w3 123 k = if k = p.length + 1 then ((4 - m : Nat) : Int) else jS w2 123 k := fun k => by
            rw [b5 123 k]
            simp [lg_ap, ae_ev, ae_el, ae_s, ae_k]
          have v3 := hv0.log b1 b2 b3 b4 (by decide) (fun k k1 _ _ _ => by rw [f9, if_neg k1])
          have hb3 : rb w1 w3 := ⟨fun k hk => by rw [f9, if_neg hk]; exact hb.1 k hk, fun k => (b5 126 k).trans (hb.2 k)⟩
          have p3 := push (4 - m) w3 f9 f3
          have v30 := v3
          obtain ⟨a5, a6, a7, d, d9⟩ := v3
          have sl := p3.len a5
          have ews : bw_ws S to (f + 1) ((4 - m) :: x :: p) = rd_fr S (bw_ws S to f) (4 - m) (x :: p) 5 := by
            show (if 4 - m = to then _ else _) = _
            rw [if_neg m4]
          rw [ews] at hnil hcons
          refine ky_go hf hT a5 (by decide) (ρ := [(to : Int), ((0 : Nat) : Int), (((4 - m) :: x :: p).length : Int)]) nw_b ⟨⟨by omega, by omega⟩, ⟨by omega, by omega⟩, ⟨by simp only [List.length_cons]; omega, by simp only [List.length_cons]; omega⟩, trivial⟩ aFs.nil (aHh.cons (kn1 (i := 32) (by decide) rfl (ev_s rfl) sl) aHh.nil) (by rfl) (by rfl) (lEr (lEi (ev_s rfl) (lEi (ev_s rfl) lE0))) sE0 (lvk2 := [(0, .inr (0, 99)), (1, .inl (ae_k ((to : Int)))), (3, .inl (ae_k (((0 : Nat) : Int))))]) (lEr (lEi (ev_s rfl) (lEi (ev_s rfl) lE0))) (stk2 := []) sE0 ?_
          refine IH (4 - m) ⟨m4, by omega⟩ 5 w3 (by omega) v30 hb3 p3 (fun e w4 v4 hb4 p4 => ?_) (fun u us e w4 v4 hb4 p4 z hz => hcons u (us ++ rd_fr S (bw_ws S to (f + 1)) x p m) (by rw [e]; rfl) w4 v4 hb4 p4 z hz)
          rw [e, List.nil_append] at hnil hcons
          have v40 := v4
          obtain ⟨a5, a6, a7, d, d9⟩ := v4
          have sl := p4.len a5
          have em : 4 - m + 1 = 5 - m := by omega
          rw [em]
          refine ky_go hf hT a5 (by decide) (ρ := [(to : Int), ((5 - m : Nat) : Int), ((x :: p).length : Int)]) nw_b ⟨⟨by omega, by omega⟩, ⟨by omega, by omega⟩, ⟨by omega, by omega⟩, trivial⟩ aFs.nil (aHh.cons (kn1 (i := 32) (by decide) rfl (ev_s rfl) sl) aHh.nil) (by rfl) (by rfl) (lEr (lEi (ev_s rfl) (lEi (ev_s rfl) lE0))) sE0 (lvk2 := [(0, .inr (0, 99)), (1, .inl (ae_k ((to : Int)))), (3, .inl (ae_k (((5 - m : Nat) : Int))))]) (lEr (lEi (ev_s rfl) (lEi (ev_s rfl) lE0))) (stk2 := []) sE0 ?_
          exact ih w4 (by omega) v40 hb4 p4 hnil hcons
    · rw [if_neg ho, List.nil_append] at hnil hcons
      rw [if_neg ho]
      refine ky_go hf hT a5 (by decide) (ρ := [(to : Int), ((4 - m : Nat) : Int)]) nw_e ⟨⟨by omega, by omega⟩, ⟨by omega, by omega⟩, trivial⟩ aFs.nil aHh.nil (by rfl) (by rfl) (lEr (lEi (ev_s rfl) (lEi (ev_s rfl) lE0))) (sEi ae_ev_k sE0) (lvk2 := [(0, .inr (0, 99)), (1, .inl (ae_k ((to : Int)))), (3, .inl (ae_k (((5 - m : Nat) : Int))))]) (lEr (lEi (ev_s rfl) (lEi (by simp only [ae_ev, ae_el, ae_s, ae_k, List.getD_cons_zero, List.getD_cons_succ]; omega) lE0))) (stk2 := []) sE0 ?_
      exact ih w2 (by omega) hv0 hb hp hnil hcons
/-- from a way on, the last m of the next ports -/
theorem nx_go (hf : E.2.2.2.1.category = 1) (hT : ∀ σ : List Int, aTb E σ aTabs) (H : re w0 S) (hto : to < 5) : ∀ (f : Nat) (x : Nat) (p : List Nat), f = 4 - p.length → p.length ≤ 4 → (∀ q ∈ x :: p, q ≠ to ∧ q < 5) → ∀ (m : Nat) (w : va_W), m ≤ 5 → rv E al w0 w → rb w1 w → rp w (x :: p) →
    (rd_fr S (bw_ws S to f) x p m = [] → ∀ w2, rv E al w0 w2 → rb w1 w2 → rp w2 p → hG E al 83 261 47 [(0, .inr (0, 99)), (1, .inl (ae_k (to : Int))), (2, .inl (ae_k ((x + 1 : Nat) : Int)))] [] [] w2 Q) →
    (∀ u us, rd_fr S (bw_ws S to f) x p m = u :: us → ∀ w2, rv E al w0 w2 → rb w1 w2 → rp w2 u → ∀ z : Int32, z.toInt = 1 → Q (some (.int z)) w2) →
    hG E al 83 261 56 [(0, .inr (0, 99)), (1, .inl (ae_k (to : Int))), (3, .inl (ae_k ((5 - m : Nat) : Int)))] [] [] w Q := by
  intro f
  induction f with
  | zero =>
    intro x p hfl hl hg m
    exact nx_m0 hf hT H hto hfl hl hg m
  | succ f IH =>
    intro x p hfl hl hg m
    exact nx_ms hf hT H hto hfl hl hg (fun y hy => IH y (x :: p) (by simp only [List.length_cons]; omega) (by simp only [List.length_cons]; omega) (fun q hq => (List.mem_cons.mp hq).elim (fun e => e ▸ hy) (hg q))) m
/-- and so back along the way -/
theorem nb_go (hf : E.2.2.2.1.category = 1) (hT : ∀ σ : List Int, aTb E σ aTabs) (H : re w0 S) (hto : to < 5) : ∀ (p : List Nat) (m : Nat) (w : va_W), (∀ q ∈ p, q ≠ to ∧ q < 5) → p.length ≤ 5 → m ≤ 5 → rv E al w0 w → rb w1 w → rp w p →
    (bw_rs S to p m = [] → ∀ w2, rv E al w0 w2 → rb w1 w2 → ∀ z : Int32, z.toInt = 0 → Q (some (.int z)) w2) →
    (∀ u us, bw_rs S to p m = u :: us → ∀ w2, rv E al w0 w2 → rb w1 w2 → rp w2 u → ∀ z : Int32, z.toInt = 1 → Q (some (.int z)) w2) →
    hG E al 83 261 47 [(0, .inr (0, 99)), (1, .inl (ae_k (to : Int))), (2, .inl (ae_k ((5 - m : Nat) : Int)))] [] [] w Q := by
  intro p
  induction p with
  | nil =>
    intro m w hg hl hm hv hb hp hnil hcons
    have hv0 := hv
    obtain ⟨a5, a6, a7, d, d9⟩ := hv
    have sl : aSl w 99 32 0 := hp.len a5
    refine ky_go hf hT a5 (by decide) (ρ := [(to : Int), ((5 - m : Nat) : Int)]) nw_c ⟨⟨by omega, by omega⟩, ⟨by omega, by omega⟩, trivial⟩ aFs.nil (aHh.cons (kn1 (i := 32) (by decide) rfl ae_ev_k sl) aHh.nil) (by rfl) (by rfl) (lEr (lEi (ev_s rfl) (lEi (ev_s rfl) lE0))) sE0 (lvk2 := []) lE0 (stk2 := [.inl (ae_k (0))]) (sEi ae_ev_k sE0) ?_
    exact hp_retI (pc := 135) (ty := .boolean) (x := 0) (by decide) (by decide +kernel) (by decide +kernel) (aV.k _) (fun n hn => by rw [show n = 0 from Int32.toInt_inj.mp (by rw [hn]; rfl)]; decide) (fun z hz => hnil rfl w hv0 hb z hz)
  | cons x p ih =>
    intro m w hg hl hm hv hb hp hnil hcons
    have hx := hg x List.mem_cons_self
    have el : (x :: p).length = p.length + 1 := rfl
    have hv0 := hv
    obtain ⟨a5, a6, a7, d, d9⟩ := hv
    have sl := hp.len a5
    refine ky_go hf hT a5 (by decide) (ρ := [(to : Int), ((5 - m : Nat) : Int), ((x :: p).length : Int)]) nw_b ⟨⟨by omega, by omega⟩, ⟨by omega, by omega⟩, ⟨by omega, by omega⟩, trivial⟩ aFs.nil (aHh.cons (kn1 (i := 32) (by decide) rfl (ev_s rfl) sl) aHh.nil) (by rfl) (by rfl) (lEr (lEi (ev_s rfl) (lEi (ev_s rfl) lE0))) sE0 (lvk2 := [(0, .inr (0, 99)), (1, .inl (ae_k ((to : Int)))), (3, .inl (ae_k (((5 - m : Nat) : Int))))]) (lEr (lEi (ev_s rfl) (lEi (ev_s rfl) lE0))) (stk2 := []) sE0 ?_
    have e : bw_rs S to (x :: p) m = rd_fr S (bw_ws S to (4 - p.length)) x p m ++ bw_rs S to p (4 - x) := rfl
    rw [e] at hnil hcons
    refine nx_go hf hT H hto (4 - p.length) x p rfl (by omega) hg m w hm hv0 hb hp (fun e2 w2 v2 b2 p2 => ?_) (fun u us e2 w2 v2 b2 p2 z hz => hcons u (us ++ bw_rs S to p (4 - x)) (by rw [e2]; rfl) w2 v2 b2 p2 z hz)
    rw [e2, List.nil_append] at hnil hcons
    rw [show x + 1 = 5 - (4 - x) by omega]
    exact ih (4 - x) w2 (fun q hq => hg q (List.mem_cons_of_mem _ hq)) (by omega) (by omega) v2 b2 p2 hnil hcons
/-- the next way, from the first port or behind the way before -/
theorem nw_mj (hf : E.2.2.2.1.category = 1) (hT : ∀ σ : List Int, aTb E σ aTabs) (H : re w0 S) (hto : to < 5) (hv : rv E al w0 w) (hb : rb w1 w) {L : List (List Nat)} (hp : (∃ x, (x ≠ to ∧ x < 5) ∧ rp w [x] ∧ L = bw_rs S to [x] 5) ∨ ∃ t, (t ≠ [] ∧ (∀ q ∈ t, q ≠ to ∧ q < 5) ∧ t.length ≤ 4) ∧ rp w (to :: t) ∧ L = bw_rs S to t (4 - to)) {AS : List Value} (hA : gL E al [] [.inr (0, 99), .inl (ae_k (to : Int))] AS) :
    MJ E 83 0 0 (mj_in0 261 AS w) (fun v w2 => ∃ z : Int32, v = some (.int z) ∧ rv E al w0 w2 ∧ rb w1 w2 ∧ ((z.toInt = 0 ∧ L = []) ∨ (z.toInt = 1 ∧ ∃ u us, L = u :: us ∧ rp w2 u))) := by
  have hv0 := hv
  obtain ⟨a5, a6, a7, d, d9⟩ := hv
  refine hG.in0 hf (d := 83) (as := [.inr (0, 99), .inl (ae_k (to : Int))]) ?_ hA
  show hG E al 83 261 0 [(0, .inr (0, 99)), (1, .inl (ae_k (to : Int)))] [] [] w _
  rcases hp with ⟨x, hx, p1, rfl⟩ | ⟨t, ⟨t0, t1, t2⟩, p1, rfl⟩
  · have sl : aSl w 99 32 1 := p1.len a5
    refine ky_go hf hT a5 (by decide) (ρ := [(to : Int)]) nw_a ⟨⟨by omega, by omega⟩, trivial⟩ aFs.nil (aHh.cons (kn1 (i := 32) (by decide) rfl ae_ev_k sl) aHh.nil) (by rfl) (by rfl) (lEr (lEi (ev_s rfl) lE0)) sE0 (lvk2 := [(0, .inr (0, 99)), (1, .inl (ae_k ((to : Int)))), (2, .inl (ae_k (0)))]) (lEr (lEi (ev_s rfl) (lEi ae_ev_k lE0))) (stk2 := []) sE0 ?_
    exact nb_go hf hT H hto [x] 5 w (fun q hq => by rw [List.mem_singleton.mp hq]; exact hx) (by simp) (by omega) hv0 hb p1 (fun e w2 v2 b2 z hz => ⟨z, rfl, v2, b2, Or.inl ⟨hz, e⟩⟩) (fun u us e w2 v2 b2 p2 z hz => ⟨z, rfl, v2, b2, Or.inr ⟨hz, u, us, e, p2⟩⟩)
  · have l1 : 1 ≤ t.length := by
      cases t with
      | nil => exact absurd rfl t0
      | cons a b => simp
    have el : (to :: t).length = t.length + 1 := rfl
    have sl := p1.len a5
    have vx := p1.sl a5 (i := t.length) (by omega) (by omega)
    rw [rd_at_0] at vx
    refine ky_lg hf hT a5 a6 a7 (by decide) (ρ := [(to : Int), ((to :: t).length : Int)]) nw_a2 ⟨⟨by omega, by omega⟩, ⟨by omega, by omega⟩, trivial⟩ aFs.nil (aHh.cons (kn1 (i := 32) (by decide) rfl (ev_s rfl) sl) (aHh.cons (kns (by decide) rfl rfl (i := t.length) (by simp only [ae_ev, ae_el, ae_s, ae_k, List.getD_cons_zero, List.getD_cons_succ]; omega) (ev_s rfl) vx) aHh.nil)) (by rfl) (by rfl) (lEr (lEi (ev_s rfl) lE0)) sE0 (lvk2 := [(0, .inr (0, 99)), (1, .inl (ae_k ((to : Int)))), (2, .inl (ae_k (((5 - (4 - to) : Nat) : Int))))]) (lEr (lEi (ev_s rfl) (lEi (by simp only [ae_ev, ae_el, ae_s, ae_k, List.getD_cons_zero, List.getD_cons_succ]; omega) lE0))) (stk2 := []) sE0 (fun w2 b1 b2 b3 b4 b5 => ?_)
    have f9 : ∀ k, jS w2 99 k = if k = 32 then (t.length : Int) else jS w 99 k := fun k => by
      rw [b5 99 k]
      simp [lg_ap, ae_ev, ae_el, ae_s, ae_k]
      by_cases e : k = 32
      · simp only [if_pos e]; omega
      · simp only [if_neg e]
    refine nb_go hf hT H hto t (4 - to) w2 t1 (by omega) (by omega) (hv0.log b1 b2 b3 b4 (by decide) (fun k k1 _ _ _ => by rw [f9, if_neg k1])) ⟨fun k hk => by rw [f9, if_neg hk]; exact hb.1 k hk, fun k => (b5 126 k).trans (hb.2 k)⟩ ⟨by rw [f9, if_pos rfl], fun i hi => ?_⟩ (fun e w2 v2 b2 z hz => ⟨z, rfl, v2, b2, Or.inl ⟨hz, e⟩⟩) (fun u us e w2 v2 b2 p2 z hz => ⟨z, rfl, v2, b2, Or.inr ⟨hz, u, us, e, p2⟩⟩)
    rw [b5 123 i]
    show jS w 123 i = _
    rw [p1.2 i (by omega), rd_at_s hi]
end RF
/-! LONG ROWS, over values -/
def LJ (x : Int) : Int64 := Int64.ofInt x
theorem LJ_toInt {x : Int} (h1 : -1 ≤ x) (h2 : x ≤ 100000000) : (LJ x).toInt = x := Int64.toInt_ofInt_of_le (by omega) (by omega)
theorem LJ_nat {n : Nat} : LJ (n : Int) = lN n := Int64.ofInt_eq_ofNat
theorem LJ_lt {x y : Int} (hx : -1 ≤ x ∧ x ≤ 100000000) (hy : -1 ≤ y ∧ y ≤ 100000000) : LJ x < LJ y ↔ x < y := by
  rw [Int64.lt_iff_toInt_lt, LJ_toInt hx.1 hx.2, LJ_toInt hy.1 hy.2]
theorem LJ_le {x y : Int} (hx : -1 ≤ x ∧ x ≤ 100000000) (hy : -1 ≤ y ∧ y ≤ 100000000) : LJ x ≤ LJ y ↔ x ≤ y := by
  rw [Int64.le_iff_toInt_le, LJ_toInt hx.1 hx.2, LJ_toInt hy.1 hy.2]
def up_ (v : Nat → Int) (i : Nat) (t : Int) (k : Nat) : Int := if k = i then t else v k
/-- the two long rows: a at 124, b at 125 -/
def ll (E : mj_E) (w : va_W) (a b : Nat) (v u : Nat → Int) : Prop := ∃ f g, w[124]? = some (a, .inl (E.2.2.2.2.2.1, 3, .inr (.inl f))) ∧ (∀ i, i < 3 → f i = LJ (v i)) ∧ w[125]? = some (b, .inl (E.2.2.2.2.2.1, 3, .inr (.inl g))) ∧ ∀ i, i < 3 → g i = LJ (u i)
section NL
variable {E : mj_E} {al : List Nat} {w0 w : va_W} {d y pc : Nat} {lx : List (Nat × Value)} {ST : List Value} {Q : Option Value → va_W → Prop} {a b i : Nat} {v u : Nat → Int}
theorem al_124 : aLay[(124 : Nat)]? = some (.inr (1, 3, [])) := rfl
theorem al_125 : aLay[(125 : Nat)]? = some (.inr (1, 3, [])) := rfl
theorem rv_set {c : Nat} {e : va_E} {h0 : va_E} {x : Nat} (hv : rv E al w0 w) (hc : c = 124 ∨ c = 125) (hw : w[c]? = some (x, h0)) (he : ∃ f, e = .inl (E.2.2.2.2.2.1, 3, .inr (.inl f))) : rv E al w0 (w.set c (x, e)) := by
  obtain ⟨a5, a6, a7, d, d9⟩ := hv
  obtain ⟨f, rfl⟩ := he
  refine ⟨aWd.set a5 hw (fun D hD => ?_), a6.long, ?_, ?_, fun k k1 k2 k3 k4 => ?_⟩
  · rcases hc with rfl | rfl
    · rw [al_124] at hD
      cases hD
      exact ⟨f, rfl⟩
    · rw [al_125] at hD
      cases hD
      exact ⟨f, rfl⟩
  · refine jJ0_prot w _ (fun c2 hc2 => ?_) a7
    have ok : aProt0.all (fun q => decide (q < 1000 ∧ q ≠ 124 ∧ q ≠ 125)) = true := by decide +kernel
    have := of_decide_eq_true (List.all_eq_true.mp ok c2 hc2)
    unfold aE1
    rw [if_pos this.1]
    exact (List.getElem?_set_ne (by omega)).symm
  · exact d.trans (hD.set.more (by
      intro q hq
      rw [List.mem_singleton.mp hq]
      rcases hc with rfl | rfl <;> simp))
  · rw [jS.at (List.getElem?_set_ne (by omega))]
    exact d9 k k1 k2 k3 k4
theorem vp_3 (hi : i < 3) : vp_in (nI i) 3 ∧ (nI i).toNatClampNeg = i := ⟨nI_in hi (by decide), Int32.toNatClampNeg_ofNat_of_lt (by omega)⟩
theorem n_lal1 (hd : decode (mj_b y) pc = .ok (.laload, 1)) (hl : ll E w a b v u) (hi : i < 3) (h : nG E d y (pc + 1) lx (.long (LJ (v i)) :: ST) w Q) : nG E d y pc lx (.int (nI i) :: .ref a :: ST) w Q := by
  obtain ⟨f, g, h1, h2, h3, h4⟩ := hl
  refine n_nx hd (fun LV _ => ⟨rfl, nI i, a, ST, 124, 3, f, rfl, h1, (vp_3 hi).1, ?_⟩) h
  rw [(vp_3 hi).2, h2 i hi]
theorem n_lal2 (hd : decode (mj_b y) pc = .ok (.laload, 1)) (hl : ll E w a b v u) (hi : i < 3) (h : nG E d y (pc + 1) lx (.long (LJ (u i)) :: ST) w Q) : nG E d y pc lx (.int (nI i) :: .ref b :: ST) w Q := by
  obtain ⟨f, g, h1, h2, h3, h4⟩ := hl
  refine n_nx hd (fun LV _ => ⟨rfl, nI i, b, ST, 125, 3, g, rfl, h3, (vp_3 hi).1, ?_⟩) h
  rw [(vp_3 hi).2, h4 i hi]
theorem n_las1 {t : Int} (hd : decode (mj_b y) pc = .ok (.lastore, 1)) (hv : rv E al w0 w) (hl : ll E w a b v u) (hi : i < 3) (h : ∀ w2, rv E al w0 w2 → ll E w2 a b (up_ v i t) u → (∀ c, c ≠ 124 → c ≠ 125 → w2[c]? = w[c]?) → nG E d y (pc + 1) lx ST w2 Q) : nG E d y pc lx (.long (LJ t) :: .int (nI i) :: .ref a :: ST) w Q := by
  obtain ⟨f, g, h1, h2, h3, h4⟩ := hl
  intro LV hL
  refine MJ.nx hd (lv1 := LV) (st1 := ST) (ws1 := w.set 124 (a, .inl (E.2.2.2.2.2.1, 3, .inr (.inl (vp_updL f i (LJ t)))))) (pc1 := pc + 1) ⟨rfl, LJ t, nI i, a, ST, 124, 3, f, rfl, h1, (vp_3 hi).1, by rw [(vp_3 hi).2]⟩ ?_
  refine h _ (rv_set hv (Or.inl rfl) h1 ⟨_, rfl⟩) ⟨_, g, List.getElem?_set_self (List.getElem?_eq_some_iff.mp h1).1, fun k hk => ?_, by rw [List.getElem?_set_ne (by decide)]; exact h3, h4⟩ (fun c c1 _ => List.getElem?_set_ne (fun e => c1 e.symm)) LV hL
  unfold vp_updL up_
  by_cases e : k = i
  · rw [if_pos e, if_pos e]
  · rw [if_neg e, if_neg e]
    exact h2 k hk
theorem n_las2 {t : Int} (hd : decode (mj_b y) pc = .ok (.lastore, 1)) (hv : rv E al w0 w) (hl : ll E w a b v u) (hi : i < 3) (h : ∀ w2, rv E al w0 w2 → ll E w2 a b v (up_ u i t) → (∀ c, c ≠ 124 → c ≠ 125 → w2[c]? = w[c]?) → nG E d y (pc + 1) lx ST w2 Q) : nG E d y pc lx (.long (LJ t) :: .int (nI i) :: .ref b :: ST) w Q := by
  obtain ⟨f, g, h1, h2, h3, h4⟩ := hl
  intro LV hL
  refine MJ.nx hd (lv1 := LV) (st1 := ST) (ws1 := w.set 125 (b, .inl (E.2.2.2.2.2.1, 3, .inr (.inl (vp_updL g i (LJ t)))))) (pc1 := pc + 1) ⟨rfl, LJ t, nI i, b, ST, 125, 3, g, rfl, h3, (vp_3 hi).1, by rw [(vp_3 hi).2]⟩ ?_
  refine h _ (rv_set hv (Or.inr rfl) h3 ⟨_, rfl⟩) ⟨f, _, by rw [List.getElem?_set_ne (by decide)]; exact h1, h2, List.getElem?_set_self (List.getElem?_eq_some_iff.mp h3).1, fun k hk => ?_⟩ (fun c _ c2 => List.getElem?_set_ne (fun e => c2 e.symm)) LV hL
  unfold vp_updL up_
  by_cases e : k = i
  · rw [if_pos e, if_pos e]
  · rw [if_neg e, if_neg e]
    exact h4 k hk
theorem n_rv (hd : decode (mj_b y) pc = .ok (.return_, 1)) (hr : mj_r y = none) (h : Q none w) : nG E d y pc lx [] w Q := fun _ _ => MJ.rt hd ⟨rfl, rfl, hr, rfl⟩ h
/-- an int row's reading -/
theorem n_ial {q N j x : Nat} {f : Nat → Int32} (hd : decode (mj_b y) pc = .ok (.iaload, 1)) (hw : w[q]? = some (a, .inl (E.2.2.2.2.1, N, .inl f))) (hj : j < N) (hN : N < 2147483648) (hx : (f j).toInt = (x : Int)) (h : nG E d y (pc + 1) lx (.int (nI x) :: ST) w Q) : nG E d y pc lx (.int (nI j) :: .ref a :: ST) w Q := by
  refine n_nx hd (fun LV _ => ⟨rfl, nI j, a, ST, rfl, Or.inl ⟨q, N, f, hw, nI_in hj hN, ?_⟩⟩) h
  have e : f j = nI x := Int32.toInt_inj.mp (by
    have := Int32.toInt_lt (f j)
    rw [hx, nI_toInt (by omega)])
  rw [show (nI j).toNatClampNeg = j from Int32.toNatClampNeg_ofNat_of_lt (by omega), e]
/-- the object of the reference -/
def m9 (w : va_W) (a99 a114 a123 a124 a125 : Nat) (f99 : List Value) : Prop := w[99]? = some (a99, .inr (6, f99)) ∧ f99[14]? = some (.ref a114) ∧ f99[31]? = some (.ref a123) ∧ f99[33]? = some (.ref a124) ∧ f99[34]? = some (.ref a125)
theorem al_99 : ∃ fs, aLay[(99 : Nat)]? = some (.inl (6, fs)) ∧ fs[(14 : Nat)]? = some (.inl 114) ∧ fs[(31 : Nat)]? = some (.inl 123) ∧ fs[(33 : Nat)]? = some (.inl 124) ∧ fs[(34 : Nat)]? = some (.inl 125) := ⟨_, rfl, rfl, rfl, rfl, rfl⟩
theorem m9_of (a5 : aWd E al aLay w) {a99 a114 a123 a124 a125 : Nat} (e99 : al[99]? = some a99) (e114 : al[114]? = some a114) (e123 : al[123]? = some a123) (e124 : al[124]? = some a124) (e125 : al[125]? = some a125) : ∃ f99, m9 w a99 a114 a123 a124 a125 f99 := by
  obtain ⟨fs, l, k1, k2, k3, k4⟩ := al_99
  obtain ⟨a, f, g, m, y⟩ := wd_obj a5 l
  obtain ⟨v1, p1, c1, z1, rfl⟩ := y 14 _ k1
  obtain ⟨v2, p2, c2, z2, rfl⟩ := y 31 _ k2
  obtain ⟨v3, p3, c3, z3, rfl⟩ := y 33 _ k3
  obtain ⟨v4, p4, c4, z4, rfl⟩ := y 34 _ k4
  rw [e99] at m
  rw [e114] at z1
  rw [e123] at z2
  rw [e124] at z3
  rw [e125] at z4
  cases m
  cases z1
  cases z2
  cases z3
  cases z4
  exact ⟨f, g, p1, p2, p3, p4⟩
end NL
