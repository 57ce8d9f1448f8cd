theorem kns {ρ : List Int} {ws : va_W} {c i : Nat} {x : Int} {ix e : ae} (hc : c < 1000000) (h1 : ix.1.all (fun q => decide (q.1 < ρ.length)) = true) (hr : e.1.all (fun q => decide (q.1 < ρ.length)) = true) (hi : ae_ev ρ ix = (i : Int)) (he : ae_ev ρ e = x) (h : aSl ws c i x) : aH1 ρ ws ((c, ix), e) :=
  aH1.mk hc h1 hr (by rw [hi]; omega) (by rw [hi, he, Int.toNat_natCast]; exact h)
theorem jL_15 : ∀ k, k < 12 → (jLay 15 k).isSome = true := by decide +kernel
theorem sl15 {E : mj_E} {al : List Nat} {w : va_W} (h : aWd E al aLay w) {k : Nat} (hk : k < 12) : aSl w 15 k (jS w 15 k) := jLay_sl h (jL_15 k hk)
/-! ALMS AND OPENINGS, by their logs -/
section BX
variable {E : mj_E} {Q : Option Value → va_W → Prop} {al : List Nat} {ws w : va_W} {ρ : List Int}
theorem hOk00 (hf : E.2.2.2.1.category = 1) (hT : ∀ σ : List Int, aTb E σ aTabs) : hOk E al (aG00 []) jJ0 :=
  ⟨hf, by show aLay.length < 1000000; decide +kernel, by show aRok aRules = true; decide +kernel, jJ0_prot, (fun c hc => by cases hc), hT⟩
/-- a call by a template -/
theorem lg_go (hf : E.2.2.2.1.category = 1) (hT : ∀ σ : List Int, aTb E σ aTabs) (a5 : aWd E al aLay ws) (a6 : aRs aRules ws) (a7 : jJ0 ws) {y : Nat} {t : lgT} (hy : y < mj_lawNo) (hc : lg_chk (aG00 []) 85 y t = true) {ρ : List Int} (he : hEv ρ t.1) (hfl : t.2.1.all (fun f => f.1.all (fun q => decide (q.1 < ρ.length))) = true) (hfs : ∀ f ∈ t.2.1, ae_ev ρ f ≤ 0) (hk : aHh ρ ws t.2.2.2.1)
    {self : Nat} {es xs : List ae} (hargs : t.2.2.1 = .inr (0, self) :: es.map .inl) (hes : xs.map (ae_ev []) = es.map (ae_ev ρ)) (hel : es.all (fun e => e.1.all (fun q => decide (q.1 < ρ.length))) = true) {AS : List Value} (ha : gL E al [] (.inr (0, self) :: xs.map .inl) AS) :
    MJ E 85 0 0 (mj_in0 y AS ws) (fun v w => ∃ z : Int32, v = some (.int z) ∧ z.toInt = ae_ev ρ t.2.2.2.2.1 ∧ aWd E al aLay w ∧ aRs aRules w ∧ jJ0 w ∧ (∀ c, (∀ q ∈ t.2.2.2.2.2, q.1 ≠ c) → w[c]? = ws[c]?) ∧ w.length = ws.length ∧ ∃ r : List Int, ∀ c k, jS w c k = lg_ap (ρ ++ r) c (jS ws c) t.2.2.2.2.2 k) := by
  refine lg_ok (hOk00 hf hT) hy hc ⟨he.ok, aFs.mk hfl hfs, hk, a5, a6, a7⟩ ?_
  rw [hargs]
  obtain ⟨v, u, rfl, h1, h2⟩ := ha
  exact ⟨v, u, rfl, h1, gL_re hes hel h2⟩

def ac_b0 : lgT := ([aF, aF], [([(0, 1)], 1)], [.inr (0, 0), .inl (ae_s 0), .inl (ae_s 1)], [], ae_k (-1), [])
def ac_b1 : lgT := ([aF, aF], [ae_s 1], [.inr (0, 0), .inl (ae_s 0), .inl (ae_s 1)], [], ae_k (-1), [])
def ac_b2 : lgT := ([aF, aF], [([(0, (-1))], 6)], [.inr (0, 0), .inl (ae_s 0), .inl (ae_s 1)], [], ae_k (-1), [])
def ac_b3 : lgT := ([aF, aF], [([(1, (-1))], 100)], [.inr (0, 0), .inl (ae_s 0), .inl (ae_s 1)], [], ae_k (-1), [])
def ac_f : lgT := ([(0, 5), (1, 99), (24, 24)], [], [.inr (0, 0), .inl (ae_s 0), .inl (ae_s 1)], [((16, ae_k 3), ae_s 2)], ae_k (-2), [])
def ac_t : lgT := ([(0, 5), (1, 99), (0, 23), (0, 2376)], [], [.inr (0, 0), .inl (ae_s 0), .inl (ae_s 1)], [((16, ae_k 3), ae_s 2), ((15, ([(0, 2)], 0)), ae_s 3)], ([(2, 1)], 1), [(15, some (([(0, 2)], 0), ([(1, 1), (3, 1)], 0))), (17, some (ae_s 2, ae_s 1)), (16, some (ae_k 3, ([(2, 1)], 1))), (17, some (ae_s 2, ae_k 0))])
section
set_option maxRecDepth 100000
theorem ac_k : (lg_chk (aG00 []) 85 65 ac_b0 && lg_chk (aG00 []) 85 65 ac_b1 && lg_chk (aG00 []) 85 65 ac_b2 && lg_chk (aG00 []) 85 65 ac_b3 && lg_chk (aG00 []) 85 65 ac_f && lg_chk (aG00 []) 85 65 ac_t) = true := by decide +kernel
end
theorem ac_mj (hf : E.2.2.2.1.category = 1) (hT : ∀ σ : List Int, aTb E σ aTabs) (a5 : aWd E al aLay ws) (a6 : aRs aRules ws) (a7 : jJ0 ws) {a1 a2 n : Int} (x1 : aI0 ≤ a1 ∧ a1 ≤ aI1) (x2 : aI0 ≤ a2 ∧ a2 ≤ aI1) (hn : jS ws 16 3 = n) (hn2 : 0 ≤ n ∧ n ≤ 24) (hB : ∀ p : Nat, p ≤ 5 → 0 ≤ jS ws 15 (2 * p) ∧ jS ws 15 (2 * p) ≤ 2376) {AS : List Value} (ha : gL E al [] (.inr (0, 0) :: [ae_k a1, ae_k a2].map .inl) AS) :
    MJ E 85 0 0 (mj_in0 65 AS ws) (fun v w => ∃ z : Int32, v = some (.int z) ∧ aWd E al aLay w ∧ aRs aRules w ∧ jJ0 w ∧ hD [15, 16, 17] ws w ∧ ((¬ (0 ≤ a1 ∧ a1 ≤ 5 ∧ 1 ≤ a2 ∧ a2 ≤ 99 ∧ n ≤ 23) ∧ ∀ c k, jS w c k = jS ws c k) ∨ ((0 ≤ a1 ∧ a1 ≤ 5 ∧ 1 ≤ a2 ∧ a2 ≤ 99 ∧ n ≤ 23) ∧ jS w 16 3 = n + 1 ∧ ∀ k, jS w 15 k = if k = 2 * a1.toNat then jS ws 15 (2 * a1.toNat) + a2 else jS ws 15 k))) := by
  have ck := ac_k
  simp only [Bool.and_eq_true] at ck
  obtain ⟨⟨⟨⟨⟨kb0, kb1⟩, kb2⟩, kb3⟩, kf⟩, kt⟩ := ck
  by_cases h0 : a1 ≤ (-1)
  · refine (lg_go hf hT a5 a6 a7 (t := ac_b0) (ρ := [a1, a2]) (self := 0) (es := [ae_s 0, ae_s 1]) (xs := [ae_k a1, ae_k a2]) (by decide) kb0 ⟨x1, x2, trivial⟩ (by rfl) (fun f hf => ?_) aHh.nil rfl (by simp only [List.map_cons, List.map_nil, ae_ev_k, ev_s (ρ := [a1, a2]) (k := 0) (x := a1) rfl, ev_s (ρ := [a1, a2]) (k := 1) (x := a2) rfl]) (by rfl) ha).weaken (Nat.le_refl _) (Nat.le_refl _) (Nat.le_refl _) (fun v w h => ?_)
    · simp only [ac_b0, List.mem_cons, List.not_mem_nil, or_false] at hf
      subst hf
      simp only [ae_ev, ae_el, ae_s, List.getD_cons_zero, List.getD_cons_succ]
      omega
    · obtain ⟨z, e1, -, e3, e4, e5, e6, e7, r, e8⟩ := h
      exact ⟨z, e1, e3, e4, e5, ⟨e7, fun c hc => e6 c (fun q hq => by cases hq)⟩, Or.inl ⟨by omega, e8⟩⟩
  by_cases h1 : a2 ≤ 0
  · refine (lg_go hf hT a5 a6 a7 (t := ac_b1) (ρ := [a1, a2]) (self := 0) (es := [ae_s 0, ae_s 1]) (xs := [ae_k a1, ae_k a2]) (by decide) kb1 ⟨x1, x2, trivial⟩ (by rfl) (fun f hf => ?_) aHh.nil rfl (by simp only [List.map_cons, List.map_nil, ae_ev_k, ev_s (ρ := [a1, a2]) (k := 0) (x := a1) rfl, ev_s (ρ := [a1, a2]) (k := 1) (x := a2) rfl]) (by rfl) ha).weaken (Nat.le_refl _) (Nat.le_refl _) (Nat.le_refl _) (fun v w h => ?_)
    · simp only [ac_b1, List.mem_cons, List.not_mem_nil, or_false] at hf
      subst hf
      simp only [ae_ev, ae_el, ae_s, List.getD_cons_zero, List.getD_cons_succ]
      omega
    · obtain ⟨z, e1, -, e3, e4, e5, e6, e7, r, e8⟩ := h
      exact ⟨z, e1, e3, e4, e5, ⟨e7, fun c hc => e6 c (fun q hq => by cases hq)⟩, Or.inl ⟨by omega, e8⟩⟩
  by_cases h2 : 6 ≤ a1
  · refine (lg_go hf hT a5 a6 a7 (t := ac_b2) (ρ := [a1, a2]) (self := 0) (es := [ae_s 0, ae_s 1]) (xs := [ae_k a1, ae_k a2]) (by decide) kb2 ⟨x1, x2, trivial⟩ (by rfl) (fun f hf => ?_) aHh.nil rfl (by simp only [List.map_cons, List.map_nil, ae_ev_k, ev_s (ρ := [a1, a2]) (k := 0) (x := a1) rfl, ev_s (ρ := [a1, a2]) (k := 1) (x := a2) rfl]) (by rfl) ha).weaken (Nat.le_refl _) (Nat.le_refl _) (Nat.le_refl _) (fun v w h => ?_)
    · simp only [ac_b2, List.mem_cons, List.not_mem_nil, or_false] at hf
      subst hf
      simp only [ae_ev, ae_el, ae_s, List.getD_cons_zero, List.getD_cons_succ]
      omega
    · obtain ⟨z, e1, -, e3, e4, e5, e6, e7, r, e8⟩ := h
      exact ⟨z, e1, e3, e4, e5, ⟨e7, fun c hc => e6 c (fun q hq => by cases hq)⟩, Or.inl ⟨by omega, e8⟩⟩
  by_cases h3 : 100 ≤ a2
  · refine (lg_go hf hT a5 a6 a7 (t := ac_b3) (ρ := [a1, a2]) (self := 0) (es := [ae_s 0, ae_s 1]) (xs := [ae_k a1, ae_k a2]) (by decide) kb3 ⟨x1, x2, trivial⟩ (by rfl) (fun f hf => ?_) aHh.nil rfl (by simp only [List.map_cons, List.map_nil, ae_ev_k, ev_s (ρ := [a1, a2]) (k := 0) (x := a1) rfl, ev_s (ρ := [a1, a2]) (k := 1) (x := a2) rfl]) (by rfl) ha).weaken (Nat.le_refl _) (Nat.le_refl _) (Nat.le_refl _) (fun v w h => ?_)
    · simp only [ac_b3, List.mem_cons, List.not_mem_nil, or_false] at hf
      subst hf
      simp only [ae_ev, ae_el, ae_s, List.getD_cons_zero, List.getD_cons_succ]
      omega
    · obtain ⟨z, e1, -, e3, e4, e5, e6, e7, r, e8⟩ := h
      exact ⟨z, e1, e3, e4, e5, ⟨e7, fun c hc => e6 c (fun q hq => by cases hq)⟩, Or.inl ⟨by omega, e8⟩⟩
  by_cases h9 : 24 ≤ n
  · refine (lg_go hf hT a5 a6 a7 (t := ac_f) (ρ := [a1, a2, n]) (self := 0) (es := [ae_s 0, ae_s 1]) (xs := [ae_k a1, ae_k a2]) (by decide) kf ⟨⟨by omega, by omega⟩, ⟨by omega, by omega⟩, ⟨h9, hn2.2⟩, trivial⟩ (by rfl) (fun f hf => by cases hf) (aHh.cons (kn1 (by decide) rfl (ev_s rfl) ?_) aHh.nil) rfl (by simp only [List.map_cons, List.map_nil, ae_ev_k, ev_s (ρ := [a1, a2, n]) (k := 0) (x := a1) rfl, ev_s (ρ := [a1, a2, n]) (k := 1) (x := a2) rfl]) (by rfl) ha).weaken (Nat.le_refl _) (Nat.le_refl _) (Nat.le_refl _) (fun v w h => ?_)
    · rw [← hn]
      exact jLay_sl a5 (by decide +kernel)
    · obtain ⟨z, e1, -, e3, e4, e5, e6, e7, r, e8⟩ := h
      exact ⟨z, e1, e3, e4, e5, ⟨e7, fun c hc => e6 c (fun q hq => by cases hq)⟩, Or.inl ⟨by omega, e8⟩⟩
  refine (lg_go hf hT a5 a6 a7 (t := ac_t) (ρ := [a1, a2, n, jS ws 15 (2 * a1.toNat)]) (self := 0) (es := [ae_s 0, ae_s 1]) (xs := [ae_k a1, ae_k a2]) (by decide) kt ⟨⟨by omega, by omega⟩, ⟨by omega, by omega⟩, ⟨by omega, by omega⟩, hB a1.toNat (by omega), trivial⟩ (by rfl) (fun f hf => by cases hf) (aHh.cons (kn1 (by decide) rfl (ev_s rfl) (by rw [← hn]; exact jLay_sl a5 (by decide +kernel))) (aHh.cons (kns (by decide) rfl rfl (i := 2 * a1.toNat) (by simp only [ae_ev, ae_el, List.getD_cons_zero]; omega) (ev_s rfl) (sl15 a5 (by omega))) aHh.nil)) rfl (by simp only [List.map_cons, List.map_nil, ae_ev_k, ev_s (ρ := [a1, a2, n, jS ws 15 (2 * a1.toNat)]) (k := 0) (x := a1) rfl, ev_s (ρ := [a1, a2, n, jS ws 15 (2 * a1.toNat)]) (k := 1) (x := a2) rfl]) (by rfl) ha).weaken (Nat.le_refl _) (Nat.le_refl _) (Nat.le_refl _) (fun v w h => ?_)
  obtain ⟨z, e1, -, e3, e4, e5, e6, e7, r, e8⟩ := h
  refine ⟨z, e1, e3, e4, e5, ⟨e7, fun c hc => e6 c (fun q hq => ?_)⟩, Or.inr ⟨by omega, ?_, fun k => ?_⟩⟩
  · simp only [ac_t, List.mem_cons, List.not_mem_nil, or_false] at hq
    rcases hq with rfl | rfl | rfl | rfl <;> (simp only [List.mem_cons, List.not_mem_nil, or_false, not_or] at hc; dsimp only; omega)
  · rw [e8 16 3]
    simp [ac_t, lg_ap, ae_ev, ae_el, ae_k, ae_s]
  · rw [e8 15 k]
    simp [ac_t, lg_ap, ae_ev, ae_el, ae_k, ae_s]
    rw [show (2 * a1).toNat = 2 * a1.toNat by omega]
    split <;> omega
def ar_b0 : lgT := ([aF, aF], [([(0, 1)], 1)], [.inr (0, 99), .inl (ae_s 0), .inl (ae_s 1)], [], ae_k (-1), [])
def ar_b1 : lgT := ([aF, aF], [ae_s 1], [.inr (0, 99), .inl (ae_s 0), .inl (ae_s 1)], [], ae_k (-1), [])
def ar_b2 : lgT := ([aF, aF], [([(0, (-1))], 6)], [.inr (0, 99), .inl (ae_s 0), .inl (ae_s 1)], [], ae_k (-1), [])
def ar_b3 : lgT := ([aF, aF], [([(1, (-1))], 100)], [.inr (0, 99), .inl (ae_s 0), .inl (ae_s 1)], [], ae_k (-1), [])
def ar_f : lgT := ([(0, 5), (1, 99), (24, 24)], [], [.inr (0, 99), .inl (ae_s 0), .inl (ae_s 1)], [((100, ae_k 3), ae_s 2)], ae_k (-2), [])
def ar_t : lgT := ([(0, 5), (1, 99), (0, 23), (0, 12)], [], [.inr (0, 99), .inl (ae_s 0), .inl (ae_s 1)], [((100, ae_k 3), ae_s 2), ((100, ae_k 4), ae_s 3)], ([(2, 1)], 1), [(100, some (ae_k 3, ([(2, 1)], 1))), (107, some (([(2, 3)], 2), ae_s 3)), (107, some (([(2, 3)], 1), ae_s 1)), (107, some (([(2, 3)], 0), ae_s 0))])
section
set_option maxRecDepth 100000
theorem ar_k : (lg_chk (aG00 []) 85 216 ar_b0 && lg_chk (aG00 []) 85 216 ar_b1 && lg_chk (aG00 []) 85 216 ar_b2 && lg_chk (aG00 []) 85 216 ar_b3 && lg_chk (aG00 []) 85 216 ar_f && lg_chk (aG00 []) 85 216 ar_t) = true := by decide +kernel
end
theorem ar_mj (hf : E.2.2.2.1.category = 1) (hT : ∀ σ : List Int, aTb E σ aTabs) (a5 : aWd E al aLay ws) (a6 : aRs aRules ws) (a7 : jJ0 ws) {a1 a2 n : Int} (x1 : aI0 ≤ a1 ∧ a1 ≤ aI1) (x2 : aI0 ≤ a2 ∧ a2 ≤ aI1) (hn : jS ws 100 3 = n) (hn2 : 0 ≤ n ∧ n ≤ 24) {AS : List Value} (ha : gL E al [] (.inr (0, 99) :: [ae_k a1, ae_k a2].map .inl) AS) :
    MJ E 85 0 0 (mj_in0 216 AS ws) (fun v w => ∃ z : Int32, v = some (.int z) ∧ aWd E al aLay w ∧ aRs aRules w ∧ jJ0 w ∧ hD [100, 107] ws w ∧ ((¬ (0 ≤ a1 ∧ a1 ≤ 5 ∧ 1 ≤ a2 ∧ a2 ≤ 99 ∧ n ≤ 23) ∧ ∀ c k, jS w c k = jS ws c k) ∨ ((0 ≤ a1 ∧ a1 ≤ 5 ∧ 1 ≤ a2 ∧ a2 ≤ 99 ∧ n ≤ 23) ∧ jS w 100 3 = n + 1 ∧ (∀ k, k ≠ 3 → jS w 100 k = jS ws 100 k) ∧ ∀ k, jS w 107 k = if k = 3 * n.toNat + 2 then jS ws 100 4 else if k = 3 * n.toNat + 1 then a2 else if k = 3 * n.toNat then a1 else jS ws 107 k))) := by
  have ck := ar_k
  simp only [Bool.and_eq_true] at ck
  obtain ⟨⟨⟨⟨⟨kb0, kb1⟩, kb2⟩, kb3⟩, kf⟩, kt⟩ := ck
  by_cases h0 : a1 ≤ (-1)
  · refine (lg_go hf hT a5 a6 a7 (t := ar_b0) (ρ := [a1, a2]) (self := 99) (es := [ae_s 0, ae_s 1]) (xs := [ae_k a1, ae_k a2]) (by decide) kb0 ⟨x1, x2, trivial⟩ (by rfl) (fun f hf => ?_) aHh.nil rfl (by simp only [List.map_cons, List.map_nil, ae_ev_k, ev_s (ρ := [a1, a2]) (k := 0) (x := a1) rfl, ev_s (ρ := [a1, a2]) (k := 1) (x := a2) rfl]) (by rfl) ha).weaken (Nat.le_refl _) (Nat.le_refl _) (Nat.le_refl _) (fun v w h => ?_)
    · simp only [ar_b0, List.mem_cons, List.not_mem_nil, or_false] at hf
      subst hf
      simp only [ae_ev, ae_el, ae_s, List.getD_cons_zero, List.getD_cons_succ]
      omega
    · obtain ⟨z, e1, -, e3, e4, e5, e6, e7, r, e8⟩ := h
      exact ⟨z, e1, e3, e4, e5, ⟨e7, fun c hc => e6 c (fun q hq => by cases hq)⟩, Or.inl ⟨by omega, e8⟩⟩
  by_cases h1 : a2 ≤ 0
  · refine (lg_go hf hT a5 a6 a7 (t := ar_b1) (ρ := [a1, a2]) (self := 99) (es := [ae_s 0, ae_s 1]) (xs := [ae_k a1, ae_k a2]) (by decide) kb1 ⟨x1, x2, trivial⟩ (by rfl) (fun f hf => ?_) aHh.nil rfl (by simp only [List.map_cons, List.map_nil, ae_ev_k, ev_s (ρ := [a1, a2]) (k := 0) (x := a1) rfl, ev_s (ρ := [a1, a2]) (k := 1) (x := a2) rfl]) (by rfl) ha).weaken (Nat.le_refl _) (Nat.le_refl _) (Nat.le_refl _) (fun v w h => ?_)
    · simp only [ar_b1, List.mem_cons, List.not_mem_nil, or_false] at hf
      subst hf
      simp only [ae_ev, ae_el, ae_s, List.getD_cons_zero, List.getD_cons_succ]
      omega
    · obtain ⟨z, e1, -, e3, e4, e5, e6, e7, r, e8⟩ := h
      exact ⟨z, e1, e3, e4, e5, ⟨e7, fun c hc => e6 c (fun q hq => by cases hq)⟩, Or.inl ⟨by omega, e8⟩⟩
  by_cases h2 : 6 ≤ a1
  · refine (lg_go hf hT a5 a6 a7 (t := ar_b2) (ρ := [a1, a2]) (self := 99) (es := [ae_s 0, ae_s 1]) (xs := [ae_k a1, ae_k a2]) (by decide) kb2 ⟨x1, x2, trivial⟩ (by rfl) (fun f hf => ?_) aHh.nil rfl (by simp only [List.map_cons, List.map_nil, ae_ev_k, ev_s (ρ := [a1, a2]) (k := 0) (x := a1) rfl, ev_s (ρ := [a1, a2]) (k := 1) (x := a2) rfl]) (by rfl) ha).weaken (Nat.le_refl _) (Nat.le_refl _) (Nat.le_refl _) (fun v w h => ?_)
    · simp only [ar_b2, List.mem_cons, List.not_mem_nil, or_false] at hf
      subst hf
      simp only [ae_ev, ae_el, ae_s, List.getD_cons_zero, List.getD_cons_succ]
      omega
    · obtain ⟨z, e1, -, e3, e4, e5, e6, e7, r, e8⟩ := h
      exact ⟨z, e1, e3, e4, e5, ⟨e7, fun c hc => e6 c (fun q hq => by cases hq)⟩, Or.inl ⟨by omega, e8⟩⟩
  by_cases h3 : 100 ≤ a2
  · refine (lg_go hf hT a5 a6 a7 (t := ar_b3) (ρ := [a1, a2]) (self := 99) (es := [ae_s 0, ae_s 1]) (xs := [ae_k a1, ae_k a2]) (by decide) kb3 ⟨x1, x2, trivial⟩ (by rfl) (fun f hf => ?_) aHh.nil rfl (by simp only [List.map_cons, List.map_nil, ae_ev_k, ev_s (ρ := [a1, a2]) (k := 0) (x := a1) rfl, ev_s (ρ := [a1, a2]) (k := 1) (x := a2) rfl]) (by rfl) ha).weaken (Nat.le_refl _) (Nat.le_refl _) (Nat.le_refl _) (fun v w h => ?_)
    · simp only [ar_b3, List.mem_cons, List.not_mem_nil, or_false] at hf
      subst hf
      simp only [ae_ev, ae_el, ae_s, List.getD_cons_zero, List.getD_cons_succ]
      omega
    · obtain ⟨z, e1, -, e3, e4, e5, e6, e7, r, e8⟩ := h
      exact ⟨z, e1, e3, e4, e5, ⟨e7, fun c hc => e6 c (fun q hq => by cases hq)⟩, Or.inl ⟨by omega, e8⟩⟩
  by_cases h9 : 24 ≤ n
  · refine (lg_go hf hT a5 a6 a7 (t := ar_f) (ρ := [a1, a2, n]) (self := 99) (es := [ae_s 0, ae_s 1]) (xs := [ae_k a1, ae_k a2]) (by decide) kf ⟨⟨by omega, by omega⟩, ⟨by omega, by omega⟩, ⟨h9, hn2.2⟩, trivial⟩ (by rfl) (fun f hf => by cases hf) (aHh.cons (kn1 (by decide) rfl (ev_s rfl) ?_) aHh.nil) rfl (by simp only [List.map_cons, List.map_nil, ae_ev_k, ev_s (ρ := [a1, a2, n]) (k := 0) (x := a1) rfl, ev_s (ρ := [a1, a2, n]) (k := 1) (x := a2) rfl]) (by rfl) ha).weaken (Nat.le_refl _) (Nat.le_refl _) (Nat.le_refl _) (fun v w h => ?_)
    · rw [← hn]
      exact jLay_sl a5 (by decide +kernel)
    · obtain ⟨z, e1, -, e3, e4, e5, e6, e7, r, e8⟩ := h
      exact ⟨z, e1, e3, e4, e5, ⟨e7, fun c hc => e6 c (fun q hq => by cases hq)⟩, Or.inl ⟨by omega, e8⟩⟩
  refine (lg_go hf hT a5 a6 a7 (t := ar_t) (ρ := [a1, a2, n, jS ws 100 4]) (self := 99) (es := [ae_s 0, ae_s 1]) (xs := [ae_k a1, ae_k a2]) (by decide) kt ⟨⟨by omega, by omega⟩, ⟨by omega, by omega⟩, ⟨by omega, by omega⟩, (jLay_ok a5 (c := 100) (i := 4) (b := (0, 12)) (by decide +kernel)).2, trivial⟩ (by rfl) (fun f hf => by cases hf) (aHh.cons (kn1 (by decide) rfl (ev_s rfl) (by rw [← hn]; exact jLay_sl a5 (by decide +kernel))) (aHh.cons (kn1 (by decide) rfl (ev_s rfl) (jLay_sl a5 (by decide +kernel))) aHh.nil)) rfl (by simp only [List.map_cons, List.map_nil, ae_ev_k, ev_s (ρ := [a1, a2, n, jS ws 100 4]) (k := 0) (x := a1) rfl, ev_s (ρ := [a1, a2, n, jS ws 100 4]) (k := 1) (x := a2) rfl]) (by rfl) ha).weaken (Nat.le_refl _) (Nat.le_refl _) (Nat.le_refl _) (fun v w h => ?_)
  obtain ⟨z, e1, -, e3, e4, e5, e6, e7, r, e8⟩ := h
  refine ⟨z, e1, e3, e4, e5, ⟨e7, fun c hc => e6 c (fun q hq => ?_)⟩, Or.inr ⟨by omega, ?_, fun k hk => ?_, fun k => ?_⟩⟩
  · simp only [ar_t, List.mem_cons, List.not_mem_nil, or_false] at hq
    rcases hq with rfl | rfl | rfl | rfl <;> (simp only [List.mem_cons, List.not_mem_nil, or_false, not_or] at hc; dsimp only; omega)
  · rw [e8 100 3]
    simp [ar_t, lg_ap, ae_ev, ae_el, ae_k, ae_s]
  · rw [e8 100 k]
    simp [ar_t, lg_ap, ae_ev, ae_el, ae_k, ae_s]
    omega
  · rw [e8 107 k]
    simp [ar_t, lg_ap, ae_ev, ae_el, ae_k, ae_s]
    rw [show (3 * n + 2).toNat = 3 * n.toNat + 2 by omega, show (3 * n + 1).toNat = 3 * n.toNat + 1 by omega, show (3 * n).toNat = 3 * n.toNat by omega]
def oc_b0 : lgT := ([aF, aF, aF], [([(0, 1)], 1)], [.inr (0, 0), .inl (ae_s 0), .inl (ae_s 1), .inl (ae_s 2)], [], ae_k (-1), [])
def oc_b1 : lgT := ([aF, aF, aF], [([(1, 1)], 1)], [.inr (0, 0), .inl (ae_s 0), .inl (ae_s 1), .inl (ae_s 2)], [], ae_k (-1), [])
def oc_b2 : lgT := ([aF, aF, aF], [([(2, 1)], 1)], [.inr (0, 0), .inl (ae_s 0), .inl (ae_s 1), .inl (ae_s 2)], [], ae_k (-1), [])
def oc_b3 : lgT := ([aF, aF, aF], [([(0, (-1))], 6)], [.inr (0, 0), .inl (ae_s 0), .inl (ae_s 1), .inl (ae_s 2)], [], ae_k (-1), [])
def oc_b4 : lgT := ([aF, aF, aF], [([(1, (-1))], 8)], [.inr (0, 0), .inl (ae_s 0), .inl (ae_s 1), .inl (ae_s 2)], [], ae_k (-1), [])
def oc_b5 : lgT := ([aF, aF, aF], [([(2, (-1))], 10000)], [.inr (0, 0), .inl (ae_s 0), .inl (ae_s 1), .inl (ae_s 2)], [], ae_k (-1), [])
def oc_f : lgT := ([(0, 5), (0, 7), (0, 9999), (12, 12)], [], [.inr (0, 0), .inl (ae_s 0), .inl (ae_s 1), .inl (ae_s 2)], [((18, ae_k 3), ae_s 3)], ae_k (-2), [])
def oc_t : lgT := ([(0, 5), (0, 7), (0, 9999), (0, 11), (0, 2376), aF, aF, aF], [], [.inr (0, 0), .inl (ae_s 0), .inl (ae_s 1), .inl (ae_s 2)], [((18, ae_k 3), ae_s 3), ((15, ([(0, 2)], 0)), ae_s 4), ((15, ([(0, 2)], 1)), ae_s 5), ((1, ae_k 0), ae_s 6), ((1, ae_k 1), ae_s 7)], ae_s 3, [(1, some (ae_k 1, ae_s 8)), (15, some (([(0, 2)], 1), ae_s 6)), (15, some (([(0, 2)], 0), ae_k 0)), (19, some (([(3, 4)], 3), ae_s 5)), (19, some (([(3, 4)], 2), ([(2, (-1)), (4, 1)], 0))), (19, some (([(3, 4)], 1), ae_s 1)), (19, some (([(3, 4)], 0), ae_s 0)), (18, some (ae_k 3, ([(3, 1)], 1))), (19, some (([(3, 4)], 3), ae_k 0)), (19, some (([(3, 4)], 2), ae_k 0)), (19, some (([(3, 4)], 1), ae_k 0)), (19, some (([(3, 4)], 0), ae_k 0))])
section
set_option maxRecDepth 100000
theorem oc_k : (lg_chk (aG00 []) 85 67 oc_b0 && lg_chk (aG00 []) 85 67 oc_b1 && lg_chk (aG00 []) 85 67 oc_b2 && lg_chk (aG00 []) 85 67 oc_b3 && lg_chk (aG00 []) 85 67 oc_b4 && lg_chk (aG00 []) 85 67 oc_b5 && lg_chk (aG00 []) 85 67 oc_f && lg_chk (aG00 []) 85 67 oc_t) = true := by decide +kernel
end
theorem oc_mj (hf : E.2.2.2.1.category = 1) (hT : ∀ σ : List Int, aTb E σ aTabs) (a5 : aWd E al aLay ws) (a6 : aRs aRules ws) (a7 : jJ0 ws) {a1 a2 a3 n : Int} (x1 : aI0 ≤ a1 ∧ a1 ≤ aI1) (x2 : aI0 ≤ a2 ∧ a2 ≤ aI1) (x3 : aI0 ≤ a3 ∧ a3 ≤ aI1) (hn : jS ws 18 3 = n) (hn2 : 0 ≤ n ∧ n ≤ 12) (hB : ∀ p : Nat, p ≤ 5 → 0 ≤ jS ws 15 (2 * p) ∧ jS ws 15 (2 * p) ≤ 2376) {AS : List Value} (ha : gL E al [] (.inr (0, 0) :: [ae_k a1, ae_k a2, ae_k a3].map .inl) AS) :
    MJ E 85 0 0 (mj_in0 67 AS ws) (fun v w => ∃ z : Int32, v = some (.int z) ∧ aWd E al aLay w ∧ aRs aRules w ∧ jJ0 w ∧ hD [1, 15, 18, 19] ws w ∧ ((¬ (0 ≤ a1 ∧ a1 ≤ 5 ∧ 0 ≤ a2 ∧ a2 ≤ 7 ∧ 0 ≤ a3 ∧ a3 ≤ 9999 ∧ n ≤ 11) ∧ ∀ c k, jS w c k = jS ws c k) ∨ ((0 ≤ a1 ∧ a1 ≤ 5 ∧ 0 ≤ a2 ∧ a2 ≤ 7 ∧ 0 ≤ a3 ∧ a3 ≤ 9999 ∧ n ≤ 11) ∧ jS w 18 3 = n + 1 ∧ (∀ k, jS w 15 k = if k = 2 * a1.toNat then 0 else if k = 2 * a1.toNat + 1 then jS ws 1 0 else jS ws 15 k) ∧ (∀ k, k < 4 * n.toNat → jS w 19 k = jS ws 19 k) ∧ jS w 19 (4 * n.toNat) = a1 ∧ jS w 19 (4 * n.toNat + 2) = jS ws 15 (2 * a1.toNat) - a3 ∧ jS w 19 (4 * n.toNat + 3) = jS ws 15 (2 * a1.toNat + 1) ∧ jS w 1 0 = jS ws 1 0))) := by
  have ck := oc_k
  simp only [Bool.and_eq_true] at ck
  obtain ⟨⟨⟨⟨⟨⟨⟨kb0, kb1⟩, kb2⟩, kb3⟩, kb4⟩, kb5⟩, kf⟩, kt⟩ := ck
  by_cases h0 : a1 ≤ (-1)
  · refine (lg_go hf hT a5 a6 a7 (t := oc_b0) (ρ := [a1, a2, a3]) (self := 0) (es := [ae_s 0, ae_s 1, ae_s 2]) (xs := [ae_k a1, ae_k a2, ae_k a3]) (by decide) kb0 ⟨x1, x2, x3, trivial⟩ (by rfl) (fun f hf => ?_) aHh.nil rfl (by simp only [List.map_cons, List.map_nil, ae_ev_k, ev_s (ρ := [a1, a2, a3]) (k := 0) (x := a1) rfl, ev_s (ρ := [a1, a2, a3]) (k := 1) (x := a2) rfl, ev_s (ρ := [a1, a2, a3]) (k := 2) (x := a3) rfl]) (by rfl) ha).weaken (Nat.le_refl _) (Nat.le_refl _) (Nat.le_refl _) (fun v w h => ?_)
    · simp only [oc_b0, List.mem_cons, List.not_mem_nil, or_false] at hf
      subst hf
      simp only [ae_ev, ae_el, ae_s, List.getD_cons_zero, List.getD_cons_succ]
      omega
    · obtain ⟨z, e1, -, e3, e4, e5, e6, e7, r, e8⟩ := h
      exact ⟨z, e1, e3, e4, e5, ⟨e7, fun c hc => e6 c (fun q hq => by cases hq)⟩, Or.inl ⟨by omega, e8⟩⟩
  by_cases h1 : a2 ≤ (-1)
  · refine (lg_go hf hT a5 a6 a7 (t := oc_b1) (ρ := [a1, a2, a3]) (self := 0) (es := [ae_s 0, ae_s 1, ae_s 2]) (xs := [ae_k a1, ae_k a2, ae_k a3]) (by decide) kb1 ⟨x1, x2, x3, trivial⟩ (by rfl) (fun f hf => ?_) aHh.nil rfl (by simp only [List.map_cons, List.map_nil, ae_ev_k, ev_s (ρ := [a1, a2, a3]) (k := 0) (x := a1) rfl, ev_s (ρ := [a1, a2, a3]) (k := 1) (x := a2) rfl, ev_s (ρ := [a1, a2, a3]) (k := 2) (x := a3) rfl]) (by rfl) ha).weaken (Nat.le_refl _) (Nat.le_refl _) (Nat.le_refl _) (fun v w h => ?_)
    · simp only [oc_b1, List.mem_cons, List.not_mem_nil, or_false] at hf
      subst hf
      simp only [ae_ev, ae_el, ae_s, List.getD_cons_zero, List.getD_cons_succ]
      omega
    · obtain ⟨z, e1, -, e3, e4, e5, e6, e7, r, e8⟩ := h
      exact ⟨z, e1, e3, e4, e5, ⟨e7, fun c hc => e6 c (fun q hq => by cases hq)⟩, Or.inl ⟨by omega, e8⟩⟩
  by_cases h2 : a3 ≤ (-1)
  · refine (lg_go hf hT a5 a6 a7 (t := oc_b2) (ρ := [a1, a2, a3]) (self := 0) (es := [ae_s 0, ae_s 1, ae_s 2]) (xs := [ae_k a1, ae_k a2, ae_k a3]) (by decide) kb2 ⟨x1, x2, x3, trivial⟩ (by rfl) (fun f hf => ?_) aHh.nil rfl (by simp only [List.map_cons, List.map_nil, ae_ev_k, ev_s (ρ := [a1, a2, a3]) (k := 0) (x := a1) rfl, ev_s (ρ := [a1, a2, a3]) (k := 1) (x := a2) rfl, ev_s (ρ := [a1, a2, a3]) (k := 2) (x := a3) rfl]) (by rfl) ha).weaken (Nat.le_refl _) (Nat.le_refl _) (Nat.le_refl _) (fun v w h => ?_)
    · simp only [oc_b2, List.mem_cons, List.not_mem_nil, or_false] at hf
      subst hf
      simp only [ae_ev, ae_el, ae_s, List.getD_cons_zero, List.getD_cons_succ]
      omega
    · obtain ⟨z, e1, -, e3, e4, e5, e6, e7, r, e8⟩ := h
      exact ⟨z, e1, e3, e4, e5, ⟨e7, fun c hc => e6 c (fun q hq => by cases hq)⟩, Or.inl ⟨by omega, e8⟩⟩
  by_cases h3 : 6 ≤ a1
  · refine (lg_go hf hT a5 a6 a7 (t := oc_b3) (ρ := [a1, a2, a3]) (self := 0) (es := [ae_s 0, ae_s 1, ae_s 2]) (xs := [ae_k a1, ae_k a2, ae_k a3]) (by decide) kb3 ⟨x1, x2, x3, trivial⟩ (by rfl) (fun f hf => ?_) aHh.nil rfl (by simp only [List.map_cons, List.map_nil, ae_ev_k, ev_s (ρ := [a1, a2, a3]) (k := 0) (x := a1) rfl, ev_s (ρ := [a1, a2, a3]) (k := 1) (x := a2) rfl, ev_s (ρ := [a1, a2, a3]) (k := 2) (x := a3) rfl]) (by rfl) ha).weaken (Nat.le_refl _) (Nat.le_refl _) (Nat.le_refl _) (fun v w h => ?_)
    · simp only [oc_b3, List.mem_cons, List.not_mem_nil, or_false] at hf
      subst hf
      simp only [ae_ev, ae_el, ae_s, List.getD_cons_zero, List.getD_cons_succ]
      omega
    · obtain ⟨z, e1, -, e3, e4, e5, e6, e7, r, e8⟩ := h
      exact ⟨z, e1, e3, e4, e5, ⟨e7, fun c hc => e6 c (fun q hq => by cases hq)⟩, Or.inl ⟨by omega, e8⟩⟩
  by_cases h4 : 8 ≤ a2
  · refine (lg_go hf hT a5 a6 a7 (t := oc_b4) (ρ := [a1, a2, a3]) (self := 0) (es := [ae_s 0, ae_s 1, ae_s 2]) (xs := [ae_k a1, ae_k a2, ae_k a3]) (by decide) kb4 ⟨x1, x2, x3, trivial⟩ (by rfl) (fun f hf => ?_) aHh.nil rfl (by simp only [List.map_cons, List.map_nil, ae_ev_k, ev_s (ρ := [a1, a2, a3]) (k := 0) (x := a1) rfl, ev_s (ρ := [a1, a2, a3]) (k := 1) (x := a2) rfl, ev_s (ρ := [a1, a2, a3]) (k := 2) (x := a3) rfl]) (by rfl) ha).weaken (Nat.le_refl _) (Nat.le_refl _) (Nat.le_refl _) (fun v w h => ?_)
    · simp only [oc_b4, List.mem_cons, List.not_mem_nil, or_false] at hf
      subst hf
      simp only [ae_ev, ae_el, ae_s, List.getD_cons_zero, List.getD_cons_succ]
      omega
    · obtain ⟨z, e1, -, e3, e4, e5, e6, e7, r, e8⟩ := h
      exact ⟨z, e1, e3, e4, e5, ⟨e7, fun c hc => e6 c (fun q hq => by cases hq)⟩, Or.inl ⟨by omega, e8⟩⟩
  by_cases h5 : 10000 ≤ a3
  · refine (lg_go hf hT a5 a6 a7 (t := oc_b5) (ρ := [a1, a2, a3]) (self := 0) (es := [ae_s 0, ae_s 1, ae_s 2]) (xs := [ae_k a1, ae_k a2, ae_k a3]) (by decide) kb5 ⟨x1, x2, x3, trivial⟩ (by rfl) (fun f hf => ?_) aHh.nil rfl (by simp only [List.map_cons, List.map_nil, ae_ev_k, ev_s (ρ := [a1, a2, a3]) (k := 0) (x := a1) rfl, ev_s (ρ := [a1, a2, a3]) (k := 1) (x := a2) rfl, ev_s (ρ := [a1, a2, a3]) (k := 2) (x := a3) rfl]) (by rfl) ha).weaken (Nat.le_refl _) (Nat.le_refl _) (Nat.le_refl _) (fun v w h => ?_)
    · simp only [oc_b5, List.mem_cons, List.not_mem_nil, or_false] at hf
      subst hf
      simp only [ae_ev, ae_el, ae_s, List.getD_cons_zero, List.getD_cons_succ]
      omega
    · obtain ⟨z, e1, -, e3, e4, e5, e6, e7, r, e8⟩ := h
      exact ⟨z, e1, e3, e4, e5, ⟨e7, fun c hc => e6 c (fun q hq => by cases hq)⟩, Or.inl ⟨by omega, e8⟩⟩
  by_cases h9 : 12 ≤ n
  · refine (lg_go hf hT a5 a6 a7 (t := oc_f) (ρ := [a1, a2, a3, n]) (self := 0) (es := [ae_s 0, ae_s 1, ae_s 2]) (xs := [ae_k a1, ae_k a2, ae_k a3]) (by decide) kf ⟨⟨by omega, by omega⟩, ⟨by omega, by omega⟩, ⟨by omega, by omega⟩, ⟨h9, hn2.2⟩, trivial⟩ (by rfl) (fun f hf => by cases hf) (aHh.cons (kn1 (by decide) rfl (ev_s rfl) ?_) aHh.nil) rfl (by simp only [List.map_cons, List.map_nil, ae_ev_k, ev_s (ρ := [a1, a2, a3, n]) (k := 0) (x := a1) rfl, ev_s (ρ := [a1, a2, a3, n]) (k := 1) (x := a2) rfl, ev_s (ρ := [a1, a2, a3, n]) (k := 2) (x := a3) rfl]) (by rfl) ha).weaken (Nat.le_refl _) (Nat.le_refl _) (Nat.le_refl _) (fun v w h => ?_)
    · rw [← hn]
      exact jLay_sl a5 (by decide +kernel)
    · obtain ⟨z, e1, -, e3, e4, e5, e6, e7, r, e8⟩ := h
      exact ⟨z, e1, e3, e4, e5, ⟨e7, fun c hc => e6 c (fun q hq => by cases hq)⟩, Or.inl ⟨by omega, e8⟩⟩
  refine (lg_go hf hT a5 a6 a7 (t := oc_t) (ρ := [a1, a2, a3, n, jS ws 15 (2 * a1.toNat), jS ws 15 (2 * a1.toNat + 1), jS ws 1 0, jS ws 1 1]) (self := 0) (es := [ae_s 0, ae_s 1, ae_s 2]) (xs := [ae_k a1, ae_k a2, ae_k a3]) (by decide) kt ⟨⟨by omega, by omega⟩, ⟨by omega, by omega⟩, ⟨by omega, by omega⟩, ⟨by omega, by omega⟩, hB a1.toNat (by omega), (sl15 a5 (by omega)).i32, (jLay_sl a5 (c := 1) (i := 0) (by decide +kernel)).i32, (jLay_sl a5 (c := 1) (i := 1) (by decide +kernel)).i32, trivial⟩ (by rfl) (fun f hf => by cases hf) (aHh.cons (kn1 (by decide) rfl (ev_s rfl) (by rw [← hn]; exact jLay_sl a5 (by decide +kernel))) (aHh.cons (kns (by decide) rfl rfl (i := 2 * a1.toNat) (by simp only [ae_ev, ae_el, List.getD_cons_zero]; omega) (ev_s rfl) (sl15 a5 (by omega))) (aHh.cons (kns (by decide) rfl rfl (i := 2 * a1.toNat + 1) (by simp only [ae_ev, ae_el, List.getD_cons_zero]; omega) (ev_s rfl) (sl15 a5 (by omega))) (aHh.cons (kn1 (by decide) rfl (ev_s rfl) (jLay_sl a5 (by decide +kernel))) (aHh.cons (kn1 (by decide) rfl (ev_s rfl) (jLay_sl a5 (by decide +kernel))) aHh.nil))))) rfl (by simp only [List.map_cons, List.map_nil, ae_ev_k, ev_s (ρ := [a1, a2, a3, n, jS ws 15 (2 * a1.toNat), jS ws 15 (2 * a1.toNat + 1), jS ws 1 0, jS ws 1 1]) (k := 0) (x := a1) rfl, ev_s (ρ := [a1, a2, a3, n, jS ws 15 (2 * a1.toNat), jS ws 15 (2 * a1.toNat + 1), jS ws 1 0, jS ws 1 1]) (k := 1) (x := a2) rfl, ev_s (ρ := [a1, a2, a3, n, jS ws 15 (2 * a1.toNat), jS ws 15 (2 * a1.toNat + 1), jS ws 1 0, jS ws 1 1]) (k := 2) (x := a3) rfl]) (by rfl) ha).weaken (Nat.le_refl _) (Nat.le_refl _) (Nat.le_refl _) (fun v w h => ?_)
  obtain ⟨z, e1, -, e3, e4, e5, e6, e7, r, e8⟩ := h
  have p2 : (2 * a1).toNat = 2 * a1.toNat := by omega
  have p3 : (2 * a1 + 1).toNat = 2 * a1.toNat + 1 := by omega
  have q0 : (4 * n).toNat = 4 * n.toNat := by omega
  have q1 : (4 * n + 1).toNat = 4 * n.toNat + 1 := by omega
  have q2 : (4 * n + 2).toNat = 4 * n.toNat + 2 := by omega
  have q3 : (4 * n + 3).toNat = 4 * n.toNat + 3 := by omega
  refine ⟨z, e1, e3, e4, e5, ⟨e7, fun c hc => e6 c (fun q hq => ?_)⟩, Or.inr ⟨by omega, ?_, fun k => ?_, fun k hk => ?_, ?_, ?_, ?_, ?_⟩⟩
  · simp only [oc_t, List.mem_cons, List.not_mem_nil, or_false] at hq
    rcases hq with rfl | rfl | rfl | rfl | rfl | rfl | rfl | rfl | rfl | rfl | rfl | rfl <;> (simp only [List.mem_cons, List.not_mem_nil, or_false, not_or] at hc; dsimp only; omega)
  · rw [e8 18 3]
    simp [oc_t, lg_ap, ae_ev, ae_el, ae_k, ae_s]
  · rw [e8 15 k]
    simp [oc_t, lg_ap, ae_ev, ae_el, ae_k, ae_s]
    rw [p2, p3]
    split
    · rw [if_neg (by omega)]
    · rfl
  · rw [e8 19 k]
    simp [oc_t, lg_ap, ae_ev, ae_el, ae_k, ae_s]
    rw [q0, q1, q2, q3]
    repeat rw [if_neg (by omega)]
  · rw [e8 19 (4 * n.toNat)]
    simp [oc_t, lg_ap, ae_ev, ae_el, ae_k, ae_s]
    rw [q0, q1, q2, q3]
    repeat rw [if_neg (by omega)]
    rw [if_pos rfl]
  · rw [e8 19 (4 * n.toNat + 2)]
    simp [oc_t, lg_ap, ae_ev, ae_el, ae_k, ae_s]
    rw [q2, q3]
    rw [if_neg (by omega), if_pos rfl]
    omega
  · rw [e8 19 (4 * n.toNat + 3)]
    simp [oc_t, lg_ap, ae_ev, ae_el, ae_k, ae_s]
    rw [q3]
    exact fun hh => absurd rfl hh
  · rw [e8 1 0]
    simp [oc_t, lg_ap, ae_ev, ae_el, ae_k, ae_s]
def or_b0 : lgT := ([aF, aF, aF], [([(0, 1)], 1)], [.inr (0, 99), .inl (ae_s 0), .inl (ae_s 1), .inl (ae_s 2)], [], ae_k (-1), [])
def or_b1 : lgT := ([aF, aF, aF], [([(1, 1)], 1)], [.inr (0, 99), .inl (ae_s 0), .inl (ae_s 1), .inl (ae_s 2)], [], ae_k (-1), [])
def or_b2 : lgT := ([aF, aF, aF], [([(2, 1)], 1)], [.inr (0, 99), .inl (ae_s 0), .inl (ae_s 1), .inl (ae_s 2)], [], ae_k (-1), [])
def or_b3 : lgT := ([aF, aF, aF], [([(0, (-1))], 6)], [.inr (0, 99), .inl (ae_s 0), .inl (ae_s 1), .inl (ae_s 2)], [], ae_k (-1), [])
def or_b4 : lgT := ([aF, aF, aF], [([(1, (-1))], 8)], [.inr (0, 99), .inl (ae_s 0), .inl (ae_s 1), .inl (ae_s 2)], [], ae_k (-1), [])
def or_b5 : lgT := ([aF, aF, aF], [([(2, (-1))], 10000)], [.inr (0, 99), .inl (ae_s 0), .inl (ae_s 1), .inl (ae_s 2)], [], ae_k (-1), [])
def or_f : lgT := ([(0, 5), (0, 7), (0, 9999), (12, 12)], [], [.inr (0, 99), .inl (ae_s 0), .inl (ae_s 1), .inl (ae_s 2)], [((100, ae_k 4), ae_s 3)], ae_k (-2), [])
def or_t : lgT := ([(0, 5), (0, 7), (0, 9999), (0, 11), aF, aF], [], [.inr (0, 99), .inl (ae_s 0), .inl (ae_s 1), .inl (ae_s 2)], [((100, ae_k 4), ae_s 3), ((100, ae_k 0), ae_s 4), ((100, ae_k 10), ae_s 5)], ae_s 3, [(100, some (ae_k 10, ae_s 6)), (100, some (ae_k 4, ([(3, 1)], 1))), (108, some (([(3, 4)], 3), ae_s 4)), (108, some (([(3, 4)], 2), ae_s 2)), (108, some (([(3, 4)], 1), ae_s 1)), (108, some (([(3, 4)], 0), ae_s 0))])
section
set_option maxRecDepth 100000
theorem or_k : (lg_chk (aG00 []) 85 217 or_b0 && lg_chk (aG00 []) 85 217 or_b1 && lg_chk (aG00 []) 85 217 or_b2 && lg_chk (aG00 []) 85 217 or_b3 && lg_chk (aG00 []) 85 217 or_b4 && lg_chk (aG00 []) 85 217 or_b5 && lg_chk (aG00 []) 85 217 or_f && lg_chk (aG00 []) 85 217 or_t) = true := by decide +kernel
end
theorem or_mj (hf : E.2.2.2.1.category = 1) (hT : ∀ σ : List Int, aTb E σ aTabs) (a5 : aWd E al aLay ws) (a6 : aRs aRules ws) (a7 : jJ0 ws) {a1 a2 a3 n : Int} (x1 : aI0 ≤ a1 ∧ a1 ≤ aI1) (x2 : aI0 ≤ a2 ∧ a2 ≤ aI1) (x3 : aI0 ≤ a3 ∧ a3 ≤ aI1) (hn : jS ws 100 4 = n) (hn2 : 0 ≤ n ∧ n ≤ 12) {AS : List Value} (ha : gL E al [] (.inr (0, 99) :: [ae_k a1, ae_k a2, ae_k a3].map .inl) AS) :
    MJ E 85 0 0 (mj_in0 217 AS ws) (fun v w => ∃ z : Int32, v = some (.int z) ∧ aWd E al aLay w ∧ aRs aRules w ∧ jJ0 w ∧ hD [100, 108] ws w ∧ ((¬ (0 ≤ a1 ∧ a1 ≤ 5 ∧ 0 ≤ a2 ∧ a2 ≤ 7 ∧ 0 ≤ a3 ∧ a3 ≤ 9999 ∧ n ≤ 11) ∧ ∀ c k, jS w c k = jS ws c k) ∨ ((0 ≤ a1 ∧ a1 ≤ 5 ∧ 0 ≤ a2 ∧ a2 ≤ 7 ∧ 0 ≤ a3 ∧ a3 ≤ 9999 ∧ n ≤ 11) ∧ jS w 100 4 = n + 1 ∧ (∀ k, k ≠ 4 → k ≠ 10 → jS w 100 k = jS ws 100 k) ∧ ∀ k, jS w 108 k = if k = 4 * n.toNat + 3 then jS ws 100 0 else if k = 4 * n.toNat + 2 then a3 else if k = 4 * n.toNat + 1 then a2 else if k = 4 * n.toNat then a1 else jS ws 108 k))) := by
  have ck := or_k
  simp only [Bool.and_eq_true] at ck
  obtain ⟨⟨⟨⟨⟨⟨⟨kb0, kb1⟩, kb2⟩, kb3⟩, kb4⟩, kb5⟩, kf⟩, kt⟩ := ck
  by_cases h0 : a1 ≤ (-1)
  · refine (lg_go hf hT a5 a6 a7 (t := or_b0) (ρ := [a1, a2, a3]) (self := 99) (es := [ae_s 0, ae_s 1, ae_s 2]) (xs := [ae_k a1, ae_k a2, ae_k a3]) (by decide) kb0 ⟨x1, x2, x3, trivial⟩ (by rfl) (fun f hf => ?_) aHh.nil rfl (by simp only [List.map_cons, List.map_nil, ae_ev_k, ev_s (ρ := [a1, a2, a3]) (k := 0) (x := a1) rfl, ev_s (ρ := [a1, a2, a3]) (k := 1) (x := a2) rfl, ev_s (ρ := [a1, a2, a3]) (k := 2) (x := a3) rfl]) (by rfl) ha).weaken (Nat.le_refl _) (Nat.le_refl _) (Nat.le_refl _) (fun v w h => ?_)
    · simp only [or_b0, List.mem_cons, List.not_mem_nil, or_false] at hf
      subst hf
      simp only [ae_ev, ae_el, ae_s, List.getD_cons_zero, List.getD_cons_succ]
      omega
    · obtain ⟨z, e1, -, e3, e4, e5, e6, e7, r, e8⟩ := h
      exact ⟨z, e1, e3, e4, e5, ⟨e7, fun c hc => e6 c (fun q hq => by cases hq)⟩, Or.inl ⟨by omega, e8⟩⟩
  by_cases h1 : a2 ≤ (-1)
  · refine (lg_go hf hT a5 a6 a7 (t := or_b1) (ρ := [a1, a2, a3]) (self := 99) (es := [ae_s 0, ae_s 1, ae_s 2]) (xs := [ae_k a1, ae_k a2, ae_k a3]) (by decide) kb1 ⟨x1, x2, x3, trivial⟩ (by rfl) (fun f hf => ?_) aHh.nil rfl (by simp only [List.map_cons, List.map_nil, ae_ev_k, ev_s (ρ := [a1, a2, a3]) (k := 0) (x := a1) rfl, ev_s (ρ := [a1, a2, a3]) (k := 1) (x := a2) rfl, ev_s (ρ := [a1, a2, a3]) (k := 2) (x := a3) rfl]) (by rfl) ha).weaken (Nat.le_refl _) (Nat.le_refl _) (Nat.le_refl _) (fun v w h => ?_)
    · simp only [or_b1, List.mem_cons, List.not_mem_nil, or_false] at hf
      subst hf
      simp only [ae_ev, ae_el, ae_s, List.getD_cons_zero, List.getD_cons_succ]
      omega
    · obtain ⟨z, e1, -, e3, e4, e5, e6, e7, r, e8⟩ := h
      exact ⟨z, e1, e3, e4, e5, ⟨e7, fun c hc => e6 c (fun q hq => by cases hq)⟩, Or.inl ⟨by omega, e8⟩⟩
  by_cases h2 : a3 ≤ (-1)
  · refine (lg_go hf hT a5 a6 a7 (t := or_b2) (ρ := [a1, a2, a3]) (self := 99) (es := [ae_s 0, ae_s 1, ae_s 2]) (xs := [ae_k a1, ae_k a2, ae_k a3]) (by decide) kb2 ⟨x1, x2, x3, trivial⟩ (by rfl) (fun f hf => ?_) aHh.nil rfl (by simp only [List.map_cons, List.map_nil, ae_ev_k, ev_s (ρ := [a1, a2, a3]) (k := 0) (x := a1) rfl, ev_s (ρ := [a1, a2, a3]) (k := 1) (x := a2) rfl, ev_s (ρ := [a1, a2, a3]) (k := 2) (x := a3) rfl]) (by rfl) ha).weaken (Nat.le_refl _) (Nat.le_refl _) (Nat.le_refl _) (fun v w h => ?_)
    · simp only [or_b2, List.mem_cons, List.not_mem_nil, or_false] at hf
      subst hf
      simp only [ae_ev, ae_el, ae_s, List.getD_cons_zero, List.getD_cons_succ]
      omega
    · obtain ⟨z, e1, -, e3, e4, e5, e6, e7, r, e8⟩ := h
      exact ⟨z, e1, e3, e4, e5, ⟨e7, fun c hc => e6 c (fun q hq => by cases hq)⟩, Or.inl ⟨by omega, e8⟩⟩
  by_cases h3 : 6 ≤ a1
  · refine (lg_go hf hT a5 a6 a7 (t := or_b3) (ρ := [a1, a2, a3]) (self := 99) (es := [ae_s 0, ae_s 1, ae_s 2]) (xs := [ae_k a1, ae_k a2, ae_k a3]) (by decide) kb3 ⟨x1, x2, x3, trivial⟩ (by rfl) (fun f hf => ?_) aHh.nil rfl (by simp only [List.map_cons, List.map_nil, ae_ev_k, ev_s (ρ := [a1, a2, a3]) (k := 0) (x := a1) rfl, ev_s (ρ := [a1, a2, a3]) (k := 1) (x := a2) rfl, ev_s (ρ := [a1, a2, a3]) (k := 2) (x := a3) rfl]) (by rfl) ha).weaken (Nat.le_refl _) (Nat.le_refl _) (Nat.le_refl _) (fun v w h => ?_)
    · simp only [or_b3, List.mem_cons, List.not_mem_nil, or_false] at hf
      subst hf
      simp only [ae_ev, ae_el, ae_s, List.getD_cons_zero, List.getD_cons_succ]
      omega
    · obtain ⟨z, e1, -, e3, e4, e5, e6, e7, r, e8⟩ := h
      exact ⟨z, e1, e3, e4, e5, ⟨e7, fun c hc => e6 c (fun q hq => by cases hq)⟩, Or.inl ⟨by omega, e8⟩⟩
  by_cases h4 : 8 ≤ a2
  · refine (lg_go hf hT a5 a6 a7 (t := or_b4) (ρ := [a1, a2, a3]) (self := 99) (es := [ae_s 0, ae_s 1, ae_s 2]) (xs := [ae_k a1, ae_k a2, ae_k a3]) (by decide) kb4 ⟨x1, x2, x3, trivial⟩ (by rfl) (fun f hf => ?_) aHh.nil rfl (by simp only [List.map_cons, List.map_nil, ae_ev_k, ev_s (ρ := [a1, a2, a3]) (k := 0) (x := a1) rfl, ev_s (ρ := [a1, a2, a3]) (k := 1) (x := a2) rfl, ev_s (ρ := [a1, a2, a3]) (k := 2) (x := a3) rfl]) (by rfl) ha).weaken (Nat.le_refl _) (Nat.le_refl _) (Nat.le_refl _) (fun v w h => ?_)
    · simp only [or_b4, List.mem_cons, List.not_mem_nil, or_false] at hf
      subst hf
      simp only [ae_ev, ae_el, ae_s, List.getD_cons_zero, List.getD_cons_succ]
      omega
    · obtain ⟨z, e1, -, e3, e4, e5, e6, e7, r, e8⟩ := h
      exact ⟨z, e1, e3, e4, e5, ⟨e7, fun c hc => e6 c (fun q hq => by cases hq)⟩, Or.inl ⟨by omega, e8⟩⟩
  by_cases h5 : 10000 ≤ a3
  · refine (lg_go hf hT a5 a6 a7 (t := or_b5) (ρ := [a1, a2, a3]) (self := 99) (es := [ae_s 0, ae_s 1, ae_s 2]) (xs := [ae_k a1, ae_k a2, ae_k a3]) (by decide) kb5 ⟨x1, x2, x3, trivial⟩ (by rfl) (fun f hf => ?_) aHh.nil rfl (by simp only [List.map_cons, List.map_nil, ae_ev_k, ev_s (ρ := [a1, a2, a3]) (k := 0) (x := a1) rfl, ev_s (ρ := [a1, a2, a3]) (k := 1) (x := a2) rfl, ev_s (ρ := [a1, a2, a3]) (k := 2) (x := a3) rfl]) (by rfl) ha).weaken (Nat.le_refl _) (Nat.le_refl _) (Nat.le_refl _) (fun v w h => ?_)
    · simp only [or_b5, List.mem_cons, List.not_mem_nil, or_false] at hf
      subst hf
      simp only [ae_ev, ae_el, ae_s, List.getD_cons_zero, List.getD_cons_succ]
      omega
    · obtain ⟨z, e1, -, e3, e4, e5, e6, e7, r, e8⟩ := h
      exact ⟨z, e1, e3, e4, e5, ⟨e7, fun c hc => e6 c (fun q hq => by cases hq)⟩, Or.inl ⟨by omega, e8⟩⟩
  by_cases h9 : 12 ≤ n
  · refine (lg_go hf hT a5 a6 a7 (t := or_f) (ρ := [a1, a2, a3, n]) (self := 99) (es := [ae_s 0, ae_s 1, ae_s 2]) (xs := [ae_k a1, ae_k a2, ae_k a3]) (by decide) kf ⟨⟨by omega, by omega⟩, ⟨by omega, by omega⟩, ⟨by omega, by omega⟩, ⟨h9, hn2.2⟩, trivial⟩ (by rfl) (fun f hf => by cases hf) (aHh.cons (kn1 (by decide) rfl (ev_s rfl) ?_) aHh.nil) rfl (by simp only [List.map_cons, List.map_nil, ae_ev_k, ev_s (ρ := [a1, a2, a3, n]) (k := 0) (x := a1) rfl, ev_s (ρ := [a1, a2, a3, n]) (k := 1) (x := a2) rfl, ev_s (ρ := [a1, a2, a3, n]) (k := 2) (x := a3) rfl]) (by rfl) ha).weaken (Nat.le_refl _) (Nat.le_refl _) (Nat.le_refl _) (fun v w h => ?_)
    · rw [← hn]
      exact jLay_sl a5 (by decide +kernel)
    · obtain ⟨z, e1, -, e3, e4, e5, e6, e7, r, e8⟩ := h
      exact ⟨z, e1, e3, e4, e5, ⟨e7, fun c hc => e6 c (fun q hq => by cases hq)⟩, Or.inl ⟨by omega, e8⟩⟩
  refine (lg_go hf hT a5 a6 a7 (t := or_t) (ρ := [a1, a2, a3, n, jS ws 100 0, jS ws 100 10]) (self := 99) (es := [ae_s 0, ae_s 1, ae_s 2]) (xs := [ae_k a1, ae_k a2, ae_k a3]) (by decide) kt ⟨⟨by omega, by omega⟩, ⟨by omega, by omega⟩, ⟨by omega, by omega⟩, ⟨by omega, by omega⟩, (jLay_sl a5 (c := 100) (i := 0) (by decide +kernel)).i32, (jLay_sl a5 (c := 100) (i := 10) (by decide +kernel)).i32, trivial⟩ (by rfl) (fun f hf => by cases hf) (aHh.cons (kn1 (by decide) rfl (ev_s rfl) (by rw [← hn]; exact jLay_sl a5 (by decide +kernel))) (aHh.cons (kn1 (by decide) rfl (ev_s rfl) (jLay_sl a5 (by decide +kernel))) (aHh.cons (kn1 (by decide) rfl (ev_s rfl) (jLay_sl a5 (by decide +kernel))) aHh.nil))) rfl (by simp only [List.map_cons, List.map_nil, ae_ev_k, ev_s (ρ := [a1, a2, a3, n, jS ws 100 0, jS ws 100 10]) (k := 0) (x := a1) rfl, ev_s (ρ := [a1, a2, a3, n, jS ws 100 0, jS ws 100 10]) (k := 1) (x := a2) rfl, ev_s (ρ := [a1, a2, a3, n, jS ws 100 0, jS ws 100 10]) (k := 2) (x := a3) rfl]) (by rfl) ha).weaken (Nat.le_refl _) (Nat.le_refl _) (Nat.le_refl _) (fun v w h => ?_)
  obtain ⟨z, e1, -, e3, e4, e5, e6, e7, r, e8⟩ := h
  refine ⟨z, e1, e3, e4, e5, ⟨e7, fun c hc => e6 c (fun q hq => ?_)⟩, Or.inr ⟨by omega, ?_, fun k hk hk2 => ?_, fun k => ?_⟩⟩
  · simp only [or_t, List.mem_cons, List.not_mem_nil, or_false] at hq
    rcases hq with rfl | rfl | rfl | rfl | rfl | rfl <;> (simp only [List.mem_cons, List.not_mem_nil, or_false, not_or] at hc; dsimp only; omega)
  · rw [e8 100 4]
    simp [or_t, lg_ap, ae_ev, ae_el, ae_k, ae_s]
  · rw [e8 100 k]
    simp [or_t, lg_ap, ae_ev, ae_el, ae_k, ae_s]
    rw [if_neg (by omega), if_neg (by omega)]
  · rw [e8 108 k]
    simp [or_t, lg_ap, ae_ev, ae_el, ae_k, ae_s]
    rw [show (4 * n + 3).toNat = 4 * n.toNat + 3 by omega, show (4 * n + 2).toNat = 4 * n.toNat + 2 by omega, show (4 * n + 1).toNat = 4 * n.toNat + 1 by omega, show (4 * n).toNat = 4 * n.toNat by omega]
end BX
