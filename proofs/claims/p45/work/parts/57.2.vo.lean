/-! tools for pieces by hand -/
theorem ky_F {v : Int} (h1 : -2147483648 ≤ v) (h2 : v ≤ 2147483647) : aF.1 ≤ v ∧ v ≤ aF.2 := ⟨h1, h2⟩

section HAND
variable {E : mj_E} {Q : Option Value → va_W → Prop} {al : List Nat} {ws : va_W}
theorem hp_callV {G : aG} {J : va_W → Prop} {ρ : List Int} (H : hOk E al G J) {d y pc y2 : Nat} {env : List (Int × Int)} {fs : List ae} {h : aH} {lv : List (Nat × av)} {st as rest : List av} {R : Int32 → va_W → Prop} (hy : y < mj_lawNo)
    (hs : ak_callat G (d + 1) y pc lv st (env, fs, [], h, []) = some (y2, as, rest)) (hW0 : hW E al G J ρ env fs h ws)
    (hc : ∀ AS, gL E al ρ as AS → MJ E d 0 0 (mj_in0 y2 AS ws) (fun v w => ∃ z : Int32, v = some (.int z) ∧ R z w))
    (hk : ∀ z w, R z w → hG E al (d + 1) y (pc + 3) lv (.inl (ae_k z.toInt) :: rest) ρ w Q) : hG E al (d + 1) y pc lv st ρ ws Q :=
  law_callV (n := ρ.length) (mj_li_use hy) ⟨H.1, H.2.1, H.2.2.1, H.2.2.2.1, H.2.2.2.2.1, fun σ _ => H.2.2.2.2.2 σ⟩ hs hW0 hc hk
/-- a piece that changes nothing, over symbols; what is known and what holds there -/
theorem ky_go (hf : E.2.2.2.1.category = 1) (hT : ∀ σ : List Int, aTb E σ aTabs) (a5 : aWd E al aLay ws) {d y pc pc2 : Nat} (hy : y < mj_lawNo) {ρ : List Int} {env : List (Int × Int)} {fs : List ae} {h0 : aH} {lv lv2 lvk lvk2 : List (Nat × av)} {st st2 stk stk2 : List av}
    (hc : hp_chk gV0 1000 d y (pc, env, fs, h0, lv, st) [] [(pc2, env, [], lv2, st2, [], [], mMU)] = true) (h1 : hEv ρ env) (h2 : aFs ρ fs) (h3 : aHh ρ ws h0) (r1 : lv.all (fun q => av_rg ρ.length q.2) = true) (r2 : st.all (av_rg ρ.length) = true)
    (e1 : lvE ρ lv = lvk) (e2 : st.map (avE ρ) = stk) (e3 : lvE ρ lv2 = lvk2) (e4 : st2.map (avE ρ) = stk2) (hq : hG E al d y pc2 lvk2 stk2 [] ws Q) : hG E al d y pc lvk stk [] ws Q := by
  have H : hOk E al gV0 (fun _ => True) := hOkV hf hT (fun _ _ _ h => h)
  exact mv_glue H hy hc (hW.v a5 trivial h1 h2 h3) r1 r2 e1 e2 e3 e4 hq
end HAND
/-! how a list of values looks under a valuation -/
section LE
variable {ρ : List Int}
theorem lE0 : lvE ρ [] = [] := rfl
theorem lEi {k : Nat} {e : ae} {x : Int} {t u : List (Nat × av)} (h : ae_ev ρ e = x) (h2 : lvE ρ t = u) : lvE ρ ((k, .inl e) :: t) = (k, .inl (ae_k x)) :: u := by rw [← h, ← h2]; rfl
theorem lEr {k : Nat} {q : Nat × Nat} {t u : List (Nat × av)} (h2 : lvE ρ t = u) : lvE ρ ((k, .inr q) :: t) = (k, .inr q) :: u := by rw [← h2]; rfl
theorem sE0 : ([] : List av).map (avE ρ) = [] := rfl
theorem sEi {e : ae} {x : Int} {t u : List av} (h : ae_ev ρ e = x) (h2 : t.map (avE ρ) = u) : (.inl e :: t : List av).map (avE ρ) = .inl (ae_k x) :: u := by rw [← h, ← h2]; rfl
theorem sEr {q : Nat × Nat} {t u : List av} (h2 : t.map (avE ρ) = u) : (.inr q :: t : List av).map (avE ρ) = .inr q :: u := by rw [← h2]; rfl
end LE
theorem kns {ρ : List Int} {ws : va_W} {c i : Nat} {x : Int} {ix e : ae} (hc : c < 1000000) (h1 : ix.1.all (fun q => decide (q.1 < ρ.length)) = true) (hr : e.1.all (fun q => decide (q.1 < ρ.length)) = true) (hi : ae_ev ρ ix = (i : Int)) (he : ae_ev ρ e = x) (h : aSl ws c i x) : aH1 ρ ws ((c, ix), e) :=
  aH1.mk hc h1 hr (by rw [hi]; omega) (by rw [hi, he, Int.toNat_natCast]; exact h)
/-! ALMS AND OPENINGS, by their logs -/
section BX
variable {E : mj_E} {Q : Option Value → va_W → Prop} {al : List Nat} {ws w : va_W} {ρ : List Int}
theorem hOk00 (hf : E.2.2.2.1.category = 1) (hT : ∀ σ : List Int, aTb E σ aTabs) : hOk E al (aG00 []) jJ0 :=
  ⟨hf, by show aLay.length < 1000000; decide +kernel, by show aRok aRules = true; decide +kernel, jJ0_prot, (fun c hc => by cases hc), hT⟩
/-- a call by a template -/
theorem lg_go (hf : E.2.2.2.1.category = 1) (hT : ∀ σ : List Int, aTb E σ aTabs) (a5 : aWd E al aLay ws) (a6 : aRs aRules ws) (a7 : jJ0 ws) {y : Nat} {t : lgT} (hy : y < mj_lawNo) (hc : lg_chk (aG00 []) 85 y t = true) {ρ : List Int} (he : hEv ρ t.1) (hfl : t.2.1.all (fun f => f.1.all (fun q => decide (q.1 < ρ.length))) = true) (hfs : ∀ f ∈ t.2.1, ae_ev ρ f ≤ 0) (hk : aHh ρ ws t.2.2.2.1)
    {self : Nat} {es xs : List ae} (hargs : t.2.2.1 = .inr (0, self) :: es.map .inl) (hes : xs.map (ae_ev []) = es.map (ae_ev ρ)) (hel : es.all (fun e => e.1.all (fun q => decide (q.1 < ρ.length))) = true) {AS : List Value} (ha : gL E al [] (.inr (0, self) :: xs.map .inl) AS) :
    MJ E 85 0 0 (mj_in0 y AS ws) (fun v w => ∃ z : Int32, v = some (.int z) ∧ z.toInt = ae_ev ρ t.2.2.2.2.1 ∧ aWd E al aLay w ∧ aRs aRules w ∧ jJ0 w ∧ (∀ c, (∀ q ∈ t.2.2.2.2.2, q.1 ≠ c) → w[c]? = ws[c]?) ∧ w.length = ws.length ∧ ∃ r : List Int, ∀ c k, jS w c k = lg_ap (ρ ++ r) c (jS ws c) t.2.2.2.2.2 k) := by
  refine lg_ok (hOk00 hf hT) hy hc ⟨he.ok, aFs.mk hfl hfs, hk, a5, a6, a7⟩ ?_
  rw [hargs]
  obtain ⟨v, u, rfl, h1, h2⟩ := ha
  exact ⟨v, u, rfl, h1, gL_re hes hel h2⟩

def vc_b0 : lgT := ([aF, aF, aF], [ae_s 0], [.inr (0, 0), .inl (ae_s 0), .inl (ae_s 1), .inl (ae_s 2)], [], ae_k (-1), [])
def vc_b1 : lgT := ([aF, aF, aF], [ae_s 1], [.inr (0, 0), .inl (ae_s 0), .inl (ae_s 1), .inl (ae_s 2)], [], ae_k (-1), [])
def vc_b2 : lgT := ([aF, aF, aF], [([(2, 1)], 1)], [.inr (0, 0), .inl (ae_s 0), .inl (ae_s 1), .inl (ae_s 2)], [], ae_k (-1), [])
def vc_b3 : lgT := ([aF, aF, aF], [([(0, (-1))], 1000)], [.inr (0, 0), .inl (ae_s 0), .inl (ae_s 1), .inl (ae_s 2)], [], ae_k (-1), [])
def vc_b4 : lgT := ([aF, aF, aF], [([(1, (-1))], 10)], [.inr (0, 0), .inl (ae_s 0), .inl (ae_s 1), .inl (ae_s 2)], [], ae_k (-1), [])
def vc_b5 : lgT := ([aF, aF, aF], [([(2, (-1))], 4)], [.inr (0, 0), .inl (ae_s 0), .inl (ae_s 1), .inl (ae_s 2)], [], ae_k (-1), [])
def vc_f : lgT := ([(1, 999), (1, 9), (0, 3), (8, 8)], [], [.inr (0, 0), .inl (ae_s 0), .inl (ae_s 1), .inl (ae_s 2)], [((36, ae_k 3), ae_s 3)], ae_k (-2), [])
def vc_t : lgT := ([(1, 999), (1, 9), (0, 3), (0, 7)], [], [.inr (0, 0), .inl (ae_s 0), .inl (ae_s 1), .inl (ae_s 2)], [((36, ae_k 3), ae_s 3)], ([(3, 1)], 1), [(37, some (([(3, 3)], 2), ae_s 2)), (37, some (([(3, 3)], 1), ae_s 1)), (37, some (([(3, 3)], 0), ae_s 0)), (36, some (ae_k 3, ([(3, 1)], 1))), (37, some (([(3, 3)], 2), ae_k 0)), (37, some (([(3, 3)], 1), ae_k 0)), (37, some (([(3, 3)], 0), ae_k 0))])
section
set_option maxRecDepth 100000
theorem vc_k : (lg_chk (aG00 []) 85 145 vc_b0 && lg_chk (aG00 []) 85 145 vc_b1 && lg_chk (aG00 []) 85 145 vc_b2 && lg_chk (aG00 []) 85 145 vc_b3 && lg_chk (aG00 []) 85 145 vc_b4 && lg_chk (aG00 []) 85 145 vc_b5 && lg_chk (aG00 []) 85 145 vc_f && lg_chk (aG00 []) 85 145 vc_t) = true := by decide +kernel
end
theorem vc_mj (hf : E.2.2.2.1.category = 1) (hT : ∀ σ : List Int, aTb E σ aTabs) (a5 : aWd E al aLay ws) (a6 : aRs aRules ws) (a7 : jJ0 ws) {a1 a2 a3 n : Int} (x1 : aI0 ≤ a1 ∧ a1 ≤ aI1) (x2 : aI0 ≤ a2 ∧ a2 ≤ aI1) (x3 : aI0 ≤ a3 ∧ a3 ≤ aI1) (hn : jS ws 36 3 = n) (hn2 : 0 ≤ n ∧ n ≤ 8) {AS : List Value} (ha : gL E al [] (.inr (0, 0) :: [ae_k a1, ae_k a2, ae_k a3].map .inl) AS) :
    MJ E 85 0 0 (mj_in0 145 AS ws) (fun v w => ∃ z : Int32, v = some (.int z) ∧ aWd E al aLay w ∧ aRs aRules w ∧ jJ0 w ∧ hD [36, 37] ws w ∧ ((¬ (1 ≤ a1 ∧ a1 ≤ 999 ∧ 1 ≤ a2 ∧ a2 ≤ 9 ∧ 0 ≤ a3 ∧ a3 ≤ 3 ∧ n ≤ 7) ∧ ∀ c k, jS w c k = jS ws c k) ∨ ((1 ≤ a1 ∧ a1 ≤ 999 ∧ 1 ≤ a2 ∧ a2 ≤ 9 ∧ 0 ≤ a3 ∧ a3 ≤ 3 ∧ n ≤ 7) ∧ jS w 36 3 = n + 1 ∧ ∀ k, jS w 37 k = if k = 3 * n.toNat + 2 then a3 else if k = 3 * n.toNat + 1 then a2 else if k = 3 * n.toNat then a1 else jS ws 37 k))) := by
  have ck := vc_k
  simp only [Bool.and_eq_true] at ck
  obtain ⟨⟨⟨⟨⟨⟨⟨kb0, kb1⟩, kb2⟩, kb3⟩, kb4⟩, kb5⟩, kf⟩, kt⟩ := ck
  by_cases h0 : a1 ≤ 0
  · refine (lg_go hf hT a5 a6 a7 (t := vc_b0) (ρ := [a1, a2, a3]) (self := 0) (es := [ae_s 0, ae_s 1, ae_s 2]) (xs := [ae_k a1, ae_k a2, ae_k a3]) (by decide) kb0 ⟨x1, x2, x3, trivial⟩ (by rfl) (fun f hf => ?_) aHh.nil rfl (by simp only [List.map_cons, List.map_nil, ae_ev_k, ev_s (ρ := [a1, a2, a3]) (k := 0) (x := a1) rfl, ev_s (ρ := [a1, a2, a3]) (k := 1) (x := a2) rfl, ev_s (ρ := [a1, a2, a3]) (k := 2) (x := a3) rfl]) (by rfl) ha).weaken (Nat.le_refl _) (Nat.le_refl _) (Nat.le_refl _) (fun v w h => ?_)
    · simp only [vc_b0, List.mem_cons, List.not_mem_nil, or_false] at hf
      subst hf
      simp only [ae_ev, ae_el, ae_s, List.getD_cons_zero, List.getD_cons_succ]
      omega
    · obtain ⟨z, e1, -, e3, e4, e5, e6, e7, r, e8⟩ := h
      exact ⟨z, e1, e3, e4, e5, ⟨e7, fun c hc => e6 c (fun q hq => by cases hq)⟩, Or.inl ⟨by omega, e8⟩⟩
  by_cases h1 : a2 ≤ 0
  · refine (lg_go hf hT a5 a6 a7 (t := vc_b1) (ρ := [a1, a2, a3]) (self := 0) (es := [ae_s 0, ae_s 1, ae_s 2]) (xs := [ae_k a1, ae_k a2, ae_k a3]) (by decide) kb1 ⟨x1, x2, x3, trivial⟩ (by rfl) (fun f hf => ?_) aHh.nil rfl (by simp only [List.map_cons, List.map_nil, ae_ev_k, ev_s (ρ := [a1, a2, a3]) (k := 0) (x := a1) rfl, ev_s (ρ := [a1, a2, a3]) (k := 1) (x := a2) rfl, ev_s (ρ := [a1, a2, a3]) (k := 2) (x := a3) rfl]) (by rfl) ha).weaken (Nat.le_refl _) (Nat.le_refl _) (Nat.le_refl _) (fun v w h => ?_)
    · simp only [vc_b1, List.mem_cons, List.not_mem_nil, or_false] at hf
      subst hf
      simp only [ae_ev, ae_el, ae_s, List.getD_cons_zero, List.getD_cons_succ]
      omega
    · obtain ⟨z, e1, -, e3, e4, e5, e6, e7, r, e8⟩ := h
      exact ⟨z, e1, e3, e4, e5, ⟨e7, fun c hc => e6 c (fun q hq => by cases hq)⟩, Or.inl ⟨by omega, e8⟩⟩
  by_cases h2 : a3 ≤ (-1)
  · refine (lg_go hf hT a5 a6 a7 (t := vc_b2) (ρ := [a1, a2, a3]) (self := 0) (es := [ae_s 0, ae_s 1, ae_s 2]) (xs := [ae_k a1, ae_k a2, ae_k a3]) (by decide) kb2 ⟨x1, x2, x3, trivial⟩ (by rfl) (fun f hf => ?_) aHh.nil rfl (by simp only [List.map_cons, List.map_nil, ae_ev_k, ev_s (ρ := [a1, a2, a3]) (k := 0) (x := a1) rfl, ev_s (ρ := [a1, a2, a3]) (k := 1) (x := a2) rfl, ev_s (ρ := [a1, a2, a3]) (k := 2) (x := a3) rfl]) (by rfl) ha).weaken (Nat.le_refl _) (Nat.le_refl _) (Nat.le_refl _) (fun v w h => ?_)
    · simp only [vc_b2, List.mem_cons, List.not_mem_nil, or_false] at hf
      subst hf
      simp only [ae_ev, ae_el, ae_s, List.getD_cons_zero, List.getD_cons_succ]
      omega
    · obtain ⟨z, e1, -, e3, e4, e5, e6, e7, r, e8⟩ := h
      exact ⟨z, e1, e3, e4, e5, ⟨e7, fun c hc => e6 c (fun q hq => by cases hq)⟩, Or.inl ⟨by omega, e8⟩⟩
  by_cases h3 : 1000 ≤ a1
  · refine (lg_go hf hT a5 a6 a7 (t := vc_b3) (ρ := [a1, a2, a3]) (self := 0) (es := [ae_s 0, ae_s 1, ae_s 2]) (xs := [ae_k a1, ae_k a2, ae_k a3]) (by decide) kb3 ⟨x1, x2, x3, trivial⟩ (by rfl) (fun f hf => ?_) aHh.nil rfl (by simp only [List.map_cons, List.map_nil, ae_ev_k, ev_s (ρ := [a1, a2, a3]) (k := 0) (x := a1) rfl, ev_s (ρ := [a1, a2, a3]) (k := 1) (x := a2) rfl, ev_s (ρ := [a1, a2, a3]) (k := 2) (x := a3) rfl]) (by rfl) ha).weaken (Nat.le_refl _) (Nat.le_refl _) (Nat.le_refl _) (fun v w h => ?_)
    · simp only [vc_b3, List.mem_cons, List.not_mem_nil, or_false] at hf
      subst hf
      simp only [ae_ev, ae_el, ae_s, List.getD_cons_zero, List.getD_cons_succ]
      omega
    · obtain ⟨z, e1, -, e3, e4, e5, e6, e7, r, e8⟩ := h
      exact ⟨z, e1, e3, e4, e5, ⟨e7, fun c hc => e6 c (fun q hq => by cases hq)⟩, Or.inl ⟨by omega, e8⟩⟩
  by_cases h4 : 10 ≤ a2
  · refine (lg_go hf hT a5 a6 a7 (t := vc_b4) (ρ := [a1, a2, a3]) (self := 0) (es := [ae_s 0, ae_s 1, ae_s 2]) (xs := [ae_k a1, ae_k a2, ae_k a3]) (by decide) kb4 ⟨x1, x2, x3, trivial⟩ (by rfl) (fun f hf => ?_) aHh.nil rfl (by simp only [List.map_cons, List.map_nil, ae_ev_k, ev_s (ρ := [a1, a2, a3]) (k := 0) (x := a1) rfl, ev_s (ρ := [a1, a2, a3]) (k := 1) (x := a2) rfl, ev_s (ρ := [a1, a2, a3]) (k := 2) (x := a3) rfl]) (by rfl) ha).weaken (Nat.le_refl _) (Nat.le_refl _) (Nat.le_refl _) (fun v w h => ?_)
    · simp only [vc_b4, List.mem_cons, List.not_mem_nil, or_false] at hf
      subst hf
      simp only [ae_ev, ae_el, ae_s, List.getD_cons_zero, List.getD_cons_succ]
      omega
    · obtain ⟨z, e1, -, e3, e4, e5, e6, e7, r, e8⟩ := h
      exact ⟨z, e1, e3, e4, e5, ⟨e7, fun c hc => e6 c (fun q hq => by cases hq)⟩, Or.inl ⟨by omega, e8⟩⟩
  by_cases h5 : 4 ≤ a3
  · refine (lg_go hf hT a5 a6 a7 (t := vc_b5) (ρ := [a1, a2, a3]) (self := 0) (es := [ae_s 0, ae_s 1, ae_s 2]) (xs := [ae_k a1, ae_k a2, ae_k a3]) (by decide) kb5 ⟨x1, x2, x3, trivial⟩ (by rfl) (fun f hf => ?_) aHh.nil rfl (by simp only [List.map_cons, List.map_nil, ae_ev_k, ev_s (ρ := [a1, a2, a3]) (k := 0) (x := a1) rfl, ev_s (ρ := [a1, a2, a3]) (k := 1) (x := a2) rfl, ev_s (ρ := [a1, a2, a3]) (k := 2) (x := a3) rfl]) (by rfl) ha).weaken (Nat.le_refl _) (Nat.le_refl _) (Nat.le_refl _) (fun v w h => ?_)
    · simp only [vc_b5, List.mem_cons, List.not_mem_nil, or_false] at hf
      subst hf
      simp only [ae_ev, ae_el, ae_s, List.getD_cons_zero, List.getD_cons_succ]
      omega
    · obtain ⟨z, e1, -, e3, e4, e5, e6, e7, r, e8⟩ := h
      exact ⟨z, e1, e3, e4, e5, ⟨e7, fun c hc => e6 c (fun q hq => by cases hq)⟩, Or.inl ⟨by omega, e8⟩⟩
  by_cases h9 : 8 ≤ n
  · refine (lg_go hf hT a5 a6 a7 (t := vc_f) (ρ := [a1, a2, a3, n]) (self := 0) (es := [ae_s 0, ae_s 1, ae_s 2]) (xs := [ae_k a1, ae_k a2, ae_k a3]) (by decide) kf ⟨⟨by omega, by omega⟩, ⟨by omega, by omega⟩, ⟨by omega, by omega⟩, ⟨h9, hn2.2⟩, trivial⟩ (by rfl) (fun f hf => by cases hf) (aHh.cons (kn1 (by decide) rfl (ev_s rfl) ?_) aHh.nil) rfl (by simp only [List.map_cons, List.map_nil, ae_ev_k, ev_s (ρ := [a1, a2, a3, n]) (k := 0) (x := a1) rfl, ev_s (ρ := [a1, a2, a3, n]) (k := 1) (x := a2) rfl, ev_s (ρ := [a1, a2, a3, n]) (k := 2) (x := a3) rfl]) (by rfl) ha).weaken (Nat.le_refl _) (Nat.le_refl _) (Nat.le_refl _) (fun v w h => ?_)
    · rw [← hn]
      exact jLay_sl a5 (by decide +kernel)
    · obtain ⟨z, e1, -, e3, e4, e5, e6, e7, r, e8⟩ := h
      exact ⟨z, e1, e3, e4, e5, ⟨e7, fun c hc => e6 c (fun q hq => by cases hq)⟩, Or.inl ⟨by omega, e8⟩⟩
  refine (lg_go hf hT a5 a6 a7 (t := vc_t) (ρ := [a1, a2, a3, n]) (self := 0) (es := [ae_s 0, ae_s 1, ae_s 2]) (xs := [ae_k a1, ae_k a2, ae_k a3]) (by decide) kt ⟨⟨by omega, by omega⟩, ⟨by omega, by omega⟩, ⟨by omega, by omega⟩, ⟨by omega, by omega⟩, trivial⟩ (by rfl) (fun f hf => by cases hf) (aHh.cons (kn1 (by decide) rfl (ev_s rfl) (by rw [← hn]; exact jLay_sl a5 (by decide +kernel))) aHh.nil) rfl (by simp only [List.map_cons, List.map_nil, ae_ev_k, ev_s (ρ := [a1, a2, a3, n]) (k := 0) (x := a1) rfl, ev_s (ρ := [a1, a2, a3, n]) (k := 1) (x := a2) rfl, ev_s (ρ := [a1, a2, a3, n]) (k := 2) (x := a3) rfl]) (by rfl) ha).weaken (Nat.le_refl _) (Nat.le_refl _) (Nat.le_refl _) (fun v w h => ?_)
  obtain ⟨z, e1, -, e3, e4, e5, e6, e7, r, e8⟩ := h
  have q0 : (3 * n).toNat = 3 * n.toNat := by omega
  have q1 : (3 * n + 1).toNat = 3 * n.toNat + 1 := by omega
  have q2 : (3 * n + 2).toNat = 3 * n.toNat + 2 := by omega
  refine ⟨z, e1, e3, e4, e5, ⟨e7, fun c hc => e6 c (fun q hq => ?_)⟩, Or.inr ⟨by omega, ?_, fun k => ?_⟩⟩
  · simp only [vc_t, List.mem_cons, List.not_mem_nil, or_false] at hq
    rcases hq with rfl | rfl | rfl | rfl | rfl | rfl | rfl <;> (simp only [List.mem_cons, List.not_mem_nil, or_false, not_or] at hc; dsimp only; omega)
  · rw [e8 36 3]
    simp [vc_t, lg_ap, ae_ev, ae_el, ae_k, ae_s]
  · rw [e8 37 k]
    simp [vc_t, lg_ap, ae_ev, ae_el, ae_k, ae_s]
    rw [q0, q1, q2]
    rcases (by omega : k = 3 * n.toNat + 2 ∨ k = 3 * n.toNat + 1 ∨ k = 3 * n.toNat ∨ (¬ k = 3 * n.toNat + 2 ∧ ¬ k = 3 * n.toNat + 1 ∧ ¬ k = 3 * n.toNat)) with h | h | h | ⟨h2, h1, h0⟩
    · simp only [if_pos h]
    · simp only [if_neg (show ¬ k = 3 * n.toNat + 2 by omega), if_pos h]
    · simp only [if_neg (show ¬ k = 3 * n.toNat + 2 by omega), if_neg (show ¬ k = 3 * n.toNat + 1 by omega), if_pos h]
    · simp only [if_neg h2, if_neg h1, if_neg h0]
def vr_b0 : lgT := ([aF, aF, aF], [ae_s 0], [.inr (0, 99), .inl (ae_s 0), .inl (ae_s 1), .inl (ae_s 2)], [], ae_k (-1), [])
def vr_b1 : lgT := ([aF, aF, aF], [ae_s 1], [.inr (0, 99), .inl (ae_s 0), .inl (ae_s 1), .inl (ae_s 2)], [], ae_k (-1), [])
def vr_b2 : lgT := ([aF, aF, aF], [([(2, 1)], 1)], [.inr (0, 99), .inl (ae_s 0), .inl (ae_s 1), .inl (ae_s 2)], [], ae_k (-1), [])
def vr_b3 : lgT := ([aF, aF, aF], [([(0, (-1))], 1000)], [.inr (0, 99), .inl (ae_s 0), .inl (ae_s 1), .inl (ae_s 2)], [], ae_k (-1), [])
def vr_b4 : lgT := ([aF, aF, aF], [([(1, (-1))], 10)], [.inr (0, 99), .inl (ae_s 0), .inl (ae_s 1), .inl (ae_s 2)], [], ae_k (-1), [])
def vr_b5 : lgT := ([aF, aF, aF], [([(2, (-1))], 4)], [.inr (0, 99), .inl (ae_s 0), .inl (ae_s 1), .inl (ae_s 2)], [], ae_k (-1), [])
def vr_f : lgT := ([(1, 999), (1, 9), (0, 3), (8, 8)], [], [.inr (0, 99), .inl (ae_s 0), .inl (ae_s 1), .inl (ae_s 2)], [((100, ae_k 9), ae_s 3)], ae_k (-2), [])
def vr_t : lgT := ([(1, 999), (1, 9), (0, 3), (0, 7)], [], [.inr (0, 99), .inl (ae_s 0), .inl (ae_s 1), .inl (ae_s 2)], [((100, ae_k 9), ae_s 3)], ([(3, 1)], 1), [(100, some (ae_k 9, ([(3, 1)], 1))), (117, some (([(3, 3)], 2), ae_s 2)), (117, some (([(3, 3)], 1), ae_s 1)), (117, some (([(3, 3)], 0), ae_s 0))])
section
set_option maxRecDepth 100000
theorem vr_k : (lg_chk (aG00 []) 85 287 vr_b0 && lg_chk (aG00 []) 85 287 vr_b1 && lg_chk (aG00 []) 85 287 vr_b2 && lg_chk (aG00 []) 85 287 vr_b3 && lg_chk (aG00 []) 85 287 vr_b4 && lg_chk (aG00 []) 85 287 vr_b5 && lg_chk (aG00 []) 85 287 vr_f && lg_chk (aG00 []) 85 287 vr_t) = true := by decide +kernel
end
theorem vr_mj (hf : E.2.2.2.1.category = 1) (hT : ∀ σ : List Int, aTb E σ aTabs) (a5 : aWd E al aLay ws) (a6 : aRs aRules ws) (a7 : jJ0 ws) {a1 a2 a3 n : Int} (x1 : aI0 ≤ a1 ∧ a1 ≤ aI1) (x2 : aI0 ≤ a2 ∧ a2 ≤ aI1) (x3 : aI0 ≤ a3 ∧ a3 ≤ aI1) (hn : jS ws 100 9 = n) (hn2 : 0 ≤ n ∧ n ≤ 8) {AS : List Value} (ha : gL E al [] (.inr (0, 99) :: [ae_k a1, ae_k a2, ae_k a3].map .inl) AS) :
    MJ E 85 0 0 (mj_in0 287 AS ws) (fun v w => ∃ z : Int32, v = some (.int z) ∧ aWd E al aLay w ∧ aRs aRules w ∧ jJ0 w ∧ hD [100, 117] ws w ∧ ((¬ (1 ≤ a1 ∧ a1 ≤ 999 ∧ 1 ≤ a2 ∧ a2 ≤ 9 ∧ 0 ≤ a3 ∧ a3 ≤ 3 ∧ n ≤ 7) ∧ ∀ c k, jS w c k = jS ws c k) ∨ ((1 ≤ a1 ∧ a1 ≤ 999 ∧ 1 ≤ a2 ∧ a2 ≤ 9 ∧ 0 ≤ a3 ∧ a3 ≤ 3 ∧ n ≤ 7) ∧ jS w 100 9 = n + 1 ∧ ∀ k, jS w 117 k = if k = 3 * n.toNat + 2 then a3 else if k = 3 * n.toNat + 1 then a2 else if k = 3 * n.toNat then a1 else jS ws 117 k))) := by
  have ck := vr_k
  simp only [Bool.and_eq_true] at ck
  obtain ⟨⟨⟨⟨⟨⟨⟨kb0, kb1⟩, kb2⟩, kb3⟩, kb4⟩, kb5⟩, kf⟩, kt⟩ := ck
  by_cases h0 : a1 ≤ 0
  · refine (lg_go hf hT a5 a6 a7 (t := vr_b0) (ρ := [a1, a2, a3]) (self := 99) (es := [ae_s 0, ae_s 1, ae_s 2]) (xs := [ae_k a1, ae_k a2, ae_k a3]) (by decide) kb0 ⟨x1, x2, x3, trivial⟩ (by rfl) (fun f hf => ?_) aHh.nil rfl (by simp only [List.map_cons, List.map_nil, ae_ev_k, ev_s (ρ := [a1, a2, a3]) (k := 0) (x := a1) rfl, ev_s (ρ := [a1, a2, a3]) (k := 1) (x := a2) rfl, ev_s (ρ := [a1, a2, a3]) (k := 2) (x := a3) rfl]) (by rfl) ha).weaken (Nat.le_refl _) (Nat.le_refl _) (Nat.le_refl _) (fun v w h => ?_)
    · simp only [vr_b0, List.mem_cons, List.not_mem_nil, or_false] at hf
      subst hf
      simp only [ae_ev, ae_el, ae_s, List.getD_cons_zero, List.getD_cons_succ]
      omega
    · obtain ⟨z, e1, -, e3, e4, e5, e6, e7, r, e8⟩ := h
      exact ⟨z, e1, e3, e4, e5, ⟨e7, fun c hc => e6 c (fun q hq => by cases hq)⟩, Or.inl ⟨by omega, e8⟩⟩
  by_cases h1 : a2 ≤ 0
  · refine (lg_go hf hT a5 a6 a7 (t := vr_b1) (ρ := [a1, a2, a3]) (self := 99) (es := [ae_s 0, ae_s 1, ae_s 2]) (xs := [ae_k a1, ae_k a2, ae_k a3]) (by decide) kb1 ⟨x1, x2, x3, trivial⟩ (by rfl) (fun f hf => ?_) aHh.nil rfl (by simp only [List.map_cons, List.map_nil, ae_ev_k, ev_s (ρ := [a1, a2, a3]) (k := 0) (x := a1) rfl, ev_s (ρ := [a1, a2, a3]) (k := 1) (x := a2) rfl, ev_s (ρ := [a1, a2, a3]) (k := 2) (x := a3) rfl]) (by rfl) ha).weaken (Nat.le_refl _) (Nat.le_refl _) (Nat.le_refl _) (fun v w h => ?_)
    · simp only [vr_b1, List.mem_cons, List.not_mem_nil, or_false] at hf
      subst hf
      simp only [ae_ev, ae_el, ae_s, List.getD_cons_zero, List.getD_cons_succ]
      omega
    · obtain ⟨z, e1, -, e3, e4, e5, e6, e7, r, e8⟩ := h
      exact ⟨z, e1, e3, e4, e5, ⟨e7, fun c hc => e6 c (fun q hq => by cases hq)⟩, Or.inl ⟨by omega, e8⟩⟩
  by_cases h2 : a3 ≤ (-1)
  · refine (lg_go hf hT a5 a6 a7 (t := vr_b2) (ρ := [a1, a2, a3]) (self := 99) (es := [ae_s 0, ae_s 1, ae_s 2]) (xs := [ae_k a1, ae_k a2, ae_k a3]) (by decide) kb2 ⟨x1, x2, x3, trivial⟩ (by rfl) (fun f hf => ?_) aHh.nil rfl (by simp only [List.map_cons, List.map_nil, ae_ev_k, ev_s (ρ := [a1, a2, a3]) (k := 0) (x := a1) rfl, ev_s (ρ := [a1, a2, a3]) (k := 1) (x := a2) rfl, ev_s (ρ := [a1, a2, a3]) (k := 2) (x := a3) rfl]) (by rfl) ha).weaken (Nat.le_refl _) (Nat.le_refl _) (Nat.le_refl _) (fun v w h => ?_)
    · simp only [vr_b2, List.mem_cons, List.not_mem_nil, or_false] at hf
      subst hf
      simp only [ae_ev, ae_el, ae_s, List.getD_cons_zero, List.getD_cons_succ]
      omega
    · obtain ⟨z, e1, -, e3, e4, e5, e6, e7, r, e8⟩ := h
      exact ⟨z, e1, e3, e4, e5, ⟨e7, fun c hc => e6 c (fun q hq => by cases hq)⟩, Or.inl ⟨by omega, e8⟩⟩
  by_cases h3 : 1000 ≤ a1
  · refine (lg_go hf hT a5 a6 a7 (t := vr_b3) (ρ := [a1, a2, a3]) (self := 99) (es := [ae_s 0, ae_s 1, ae_s 2]) (xs := [ae_k a1, ae_k a2, ae_k a3]) (by decide) kb3 ⟨x1, x2, x3, trivial⟩ (by rfl) (fun f hf => ?_) aHh.nil rfl (by simp only [List.map_cons, List.map_nil, ae_ev_k, ev_s (ρ := [a1, a2, a3]) (k := 0) (x := a1) rfl, ev_s (ρ := [a1, a2, a3]) (k := 1) (x := a2) rfl, ev_s (ρ := [a1, a2, a3]) (k := 2) (x := a3) rfl]) (by rfl) ha).weaken (Nat.le_refl _) (Nat.le_refl _) (Nat.le_refl _) (fun v w h => ?_)
    · simp only [vr_b3, List.mem_cons, List.not_mem_nil, or_false] at hf
      subst hf
      simp only [ae_ev, ae_el, ae_s, List.getD_cons_zero, List.getD_cons_succ]
      omega
    · obtain ⟨z, e1, -, e3, e4, e5, e6, e7, r, e8⟩ := h
      exact ⟨z, e1, e3, e4, e5, ⟨e7, fun c hc => e6 c (fun q hq => by cases hq)⟩, Or.inl ⟨by omega, e8⟩⟩
  by_cases h4 : 10 ≤ a2
  · refine (lg_go hf hT a5 a6 a7 (t := vr_b4) (ρ := [a1, a2, a3]) (self := 99) (es := [ae_s 0, ae_s 1, ae_s 2]) (xs := [ae_k a1, ae_k a2, ae_k a3]) (by decide) kb4 ⟨x1, x2, x3, trivial⟩ (by rfl) (fun f hf => ?_) aHh.nil rfl (by simp only [List.map_cons, List.map_nil, ae_ev_k, ev_s (ρ := [a1, a2, a3]) (k := 0) (x := a1) rfl, ev_s (ρ := [a1, a2, a3]) (k := 1) (x := a2) rfl, ev_s (ρ := [a1, a2, a3]) (k := 2) (x := a3) rfl]) (by rfl) ha).weaken (Nat.le_refl _) (Nat.le_refl _) (Nat.le_refl _) (fun v w h => ?_)
    · simp only [vr_b4, List.mem_cons, List.not_mem_nil, or_false] at hf
      subst hf
      simp only [ae_ev, ae_el, ae_s, List.getD_cons_zero, List.getD_cons_succ]
      omega
    · obtain ⟨z, e1, -, e3, e4, e5, e6, e7, r, e8⟩ := h
      exact ⟨z, e1, e3, e4, e5, ⟨e7, fun c hc => e6 c (fun q hq => by cases hq)⟩, Or.inl ⟨by omega, e8⟩⟩
  by_cases h5 : 4 ≤ a3
  · refine (lg_go hf hT a5 a6 a7 (t := vr_b5) (ρ := [a1, a2, a3]) (self := 99) (es := [ae_s 0, ae_s 1, ae_s 2]) (xs := [ae_k a1, ae_k a2, ae_k a3]) (by decide) kb5 ⟨x1, x2, x3, trivial⟩ (by rfl) (fun f hf => ?_) aHh.nil rfl (by simp only [List.map_cons, List.map_nil, ae_ev_k, ev_s (ρ := [a1, a2, a3]) (k := 0) (x := a1) rfl, ev_s (ρ := [a1, a2, a3]) (k := 1) (x := a2) rfl, ev_s (ρ := [a1, a2, a3]) (k := 2) (x := a3) rfl]) (by rfl) ha).weaken (Nat.le_refl _) (Nat.le_refl _) (Nat.le_refl _) (fun v w h => ?_)
    · simp only [vr_b5, List.mem_cons, List.not_mem_nil, or_false] at hf
      subst hf
      simp only [ae_ev, ae_el, ae_s, List.getD_cons_zero, List.getD_cons_succ]
      omega
    · obtain ⟨z, e1, -, e3, e4, e5, e6, e7, r, e8⟩ := h
      exact ⟨z, e1, e3, e4, e5, ⟨e7, fun c hc => e6 c (fun q hq => by cases hq)⟩, Or.inl ⟨by omega, e8⟩⟩
  by_cases h9 : 8 ≤ n
  · refine (lg_go hf hT a5 a6 a7 (t := vr_f) (ρ := [a1, a2, a3, n]) (self := 99) (es := [ae_s 0, ae_s 1, ae_s 2]) (xs := [ae_k a1, ae_k a2, ae_k a3]) (by decide) kf ⟨⟨by omega, by omega⟩, ⟨by omega, by omega⟩, ⟨by omega, by omega⟩, ⟨h9, hn2.2⟩, trivial⟩ (by rfl) (fun f hf => by cases hf) (aHh.cons (kn1 (by decide) rfl (ev_s rfl) ?_) aHh.nil) rfl (by simp only [List.map_cons, List.map_nil, ae_ev_k, ev_s (ρ := [a1, a2, a3, n]) (k := 0) (x := a1) rfl, ev_s (ρ := [a1, a2, a3, n]) (k := 1) (x := a2) rfl, ev_s (ρ := [a1, a2, a3, n]) (k := 2) (x := a3) rfl]) (by rfl) ha).weaken (Nat.le_refl _) (Nat.le_refl _) (Nat.le_refl _) (fun v w h => ?_)
    · rw [← hn]
      exact jLay_sl a5 (by decide +kernel)
    · obtain ⟨z, e1, -, e3, e4, e5, e6, e7, r, e8⟩ := h
      exact ⟨z, e1, e3, e4, e5, ⟨e7, fun c hc => e6 c (fun q hq => by cases hq)⟩, Or.inl ⟨by omega, e8⟩⟩
  refine (lg_go hf hT a5 a6 a7 (t := vr_t) (ρ := [a1, a2, a3, n]) (self := 99) (es := [ae_s 0, ae_s 1, ae_s 2]) (xs := [ae_k a1, ae_k a2, ae_k a3]) (by decide) kt ⟨⟨by omega, by omega⟩, ⟨by omega, by omega⟩, ⟨by omega, by omega⟩, ⟨by omega, by omega⟩, trivial⟩ (by rfl) (fun f hf => by cases hf) (aHh.cons (kn1 (by decide) rfl (ev_s rfl) (by rw [← hn]; exact jLay_sl a5 (by decide +kernel))) aHh.nil) rfl (by simp only [List.map_cons, List.map_nil, ae_ev_k, ev_s (ρ := [a1, a2, a3, n]) (k := 0) (x := a1) rfl, ev_s (ρ := [a1, a2, a3, n]) (k := 1) (x := a2) rfl, ev_s (ρ := [a1, a2, a3, n]) (k := 2) (x := a3) rfl]) (by rfl) ha).weaken (Nat.le_refl _) (Nat.le_refl _) (Nat.le_refl _) (fun v w h => ?_)
  obtain ⟨z, e1, -, e3, e4, e5, e6, e7, r, e8⟩ := h
  have q0 : (3 * n).toNat = 3 * n.toNat := by omega
  have q1 : (3 * n + 1).toNat = 3 * n.toNat + 1 := by omega
  have q2 : (3 * n + 2).toNat = 3 * n.toNat + 2 := by omega
  refine ⟨z, e1, e3, e4, e5, ⟨e7, fun c hc => e6 c (fun q hq => ?_)⟩, Or.inr ⟨by omega, ?_, fun k => ?_⟩⟩
  · simp only [vr_t, List.mem_cons, List.not_mem_nil, or_false] at hq
    rcases hq with rfl | rfl | rfl | rfl <;> (simp only [List.mem_cons, List.not_mem_nil, or_false, not_or] at hc; dsimp only; omega)
  · rw [e8 100 9]
    simp [vr_t, lg_ap, ae_ev, ae_el, ae_k, ae_s]
  · rw [e8 117 k]
    simp [vr_t, lg_ap, ae_ev, ae_el, ae_k, ae_s]
    rw [q0, q1, q2]
def gt_t : lgT := ([(0, 7), (0, 2), aF], [], [.inr (0, 36), .inl (ae_s 0), .inl (ae_s 1)], [((37, ([(0, 3), (1, 1)], 0)), ae_s 2)], ae_s 2, [])
section
set_option maxRecDepth 100000
theorem gt_k : lg_chk (aG00 []) 80 25 gt_t = true := by decide +kernel
end
theorem jL_37 : ∀ k, k < 24 → (jLay 37 k).isSome = true := by decide +kernel
theorem sl37 (h : aWd E al aLay w) {k : Nat} (hk : k < 24) : aSl w 37 k (jS w 37 k) := jLay_sl h (jL_37 k hk)
/-- a voyage's cost, number, rank, as the component reads them -/
theorem gt_mj (hf : E.2.2.2.1.category = 1) (hT : ∀ σ : List Int, aTb E σ aTabs) (a5 : aWd E al aLay ws) (a6 : aRs aRules ws) (a7 : jJ0 ws) {a36 i c x : Nat} (ha : al[36]? = some a36) (hi : i < 8) (hc : c < 3) (hx : jS ws 37 (3 * i + c) = x) :
    MJ E 80 0 0 (mj_in0 25 [.ref a36, .int (nI i), .int (nI c)] ws) (fun v w => v = some (.int (nI x)) ∧ w = ws) := by
  have s := sl37 (w := ws) a5 (k := 3 * i + c) (by omega)
  have b := s.i32
  refine (lg_ok (hOk00 hf hT) (t := gt_t) (ρ := [(i : Int), (c : Int), jS ws 37 (3 * i + c)]) (by decide) gt_k ⟨hEv.ok ⟨⟨by omega, by omega⟩, ⟨by omega, by omega⟩, b, trivial⟩, aFs.nil, aHh.cons (kns (by decide) rfl rfl (i := 3 * i + c) (by simp only [ae_ev, ae_el, List.getD_cons_zero, List.getD_cons_succ]; omega) (ev_s rfl) s) aHh.nil, a5, a6, a7⟩ ?_).weaken (Nat.le_refl _) (Nat.le_refl _) (Nat.le_refl _) (fun v w h => ?_)
  · exact ⟨_, _, rfl, ⟨a36, ha, rfl⟩, _, _, rfl, ⟨_, rfl, by rw [nI_toInt (by omega)]; exact aV.s rfl⟩, _, _, rfl, ⟨_, rfl, by rw [nI_toInt (by omega)]; exact aV.s rfl⟩, rfl⟩
  · obtain ⟨z, rfl, e2, e3, e4, e5, e6, e7, r, e8⟩ := h
    have e2 : z.toInt = jS ws 37 (3 * i + c) := e2.trans (ev_s rfl)
    have e : w = ws := hD.eq ⟨e7, fun c hc => e6 c (fun q hq => by cases hq)⟩
    refine ⟨?_, e⟩
    have hz : z = nI x := Int32.toInt_inj.mp (by rw [e2, hx, nI_toInt (by have := b.2; unfold aI1 at this; omega)])
    rw [hz]
end BX
/-! PIECES BY THEIR LOG: a straight run between two places, what every slot holds behind it -/
section LGP
variable {E : mj_E} {al : List Nat} {G : aG} {J : va_W → Prop} {ρ : List Int} {ws w w0 w1 : va_W} {Q : Option Value → va_W → Prop}
def lg_in (n : Nat) (q : Nat × Option (ae × ae)) : Bool := match q.2 with
  | some (ix, v) => ae_lt n ix && ae_lt n v
  | none => false
theorem lg_in_all {n : Nat} : ∀ {l : aW}, l.all (lg_in n) = true → lg_all l = true
  | [], _ => rfl
  | (_, some (_, _)) :: t, h => by
    rw [List.all_cons, Bool.and_eq_true] at h
    exact lg_in_all (l := t) h.2
  | (_, none) :: _, h => by
    rw [List.all_cons, Bool.and_eq_true] at h
    exact absurd h.1 (by simp [lg_in])
theorem lg_in_ap {r : List Int} {c : Nat} {f : Nat → Int} : ∀ {l : aW} {k : Nat}, l.all (lg_in ρ.length) = true → lg_ap (ρ ++ r) c f l k = lg_ap ρ c f l k
  | [], _, _ => rfl
  | (c2, some (ix, v)) :: t, k, h => by
    rw [List.all_cons, Bool.and_eq_true] at h
    have h1 : (ae_lt ρ.length ix && ae_lt ρ.length v) = true := h.1
    rw [Bool.and_eq_true] at h1
    have ih := fun k => lg_in_ap (r := r) (c := c) (f := f) (l := t) (k := k) h.2
    unfold lg_ap
    by_cases e : c2 = c
    · rw [if_pos e, if_pos e]
      show (if k = (ae_ev (ρ ++ r) ix).toNat then ae_ev (ρ ++ r) v else lg_ap (ρ ++ r) c f t k) = (if k = (ae_ev ρ ix).toNat then ae_ev ρ v else lg_ap ρ c f t k)
      rw [ev_app h1.1, ev_app h1.2, ih k]
    · rw [if_neg e, if_neg e]
      exact ih k
  | (_, none) :: _, _, h => by
    rw [List.all_cons, Bool.and_eq_true] at h
    exact absurd h.1 (by simp [lg_in])
def lp_end (n pc2 : Nat) (T : aCut) (log : aW) (q : aEnd) : Bool := match q.1 with
  | .inr (p2, lv, st) => p2 == pc2 && (ak_cut n T none lv st q.2 && lg_eq q.2.2.2.2.2 log)
  | .inl _ => false
def lp_chk (G : aG) (d y : Nat) (p : aPc) (pc2 : Nat) (lv2 : List (Nat × av)) (st2 : List av) (log : aW) : Bool :=
  log.all (lg_in p.2.1.length) && (match ak_run G 1000 d y p.2.1.length [pc2] [] none false (mj_jmp y p.1) p.2.2.2.2.1 p.2.2.2.2.2 (p.2.1, p.2.2.1, [], p.2.2.2.1, []) with
   | some ends => ends.all (lp_end p.2.1.length pc2 (pc2, p.2.1, [], lv2, st2, [], log.map (·.1), mMU) log)
   | none => false)
theorem lp_go (H : hOk E al G J) {d y pc2 : Nat} {p : aPc} {lv2 : List (Nat × av)} {st2 : List av} {log : aW} (hy : y < mj_lawNo) (hc : lp_chk G d y p pc2 lv2 st2 log = true) (hW0 : hW E al G J ρ p.2.1 p.2.2.1 p.2.2.2.1 ws)
    (hq : ∀ w2, aWd E al G.1 w2 → aRs G.2.1 w2 → J w2 → hD (log.map (·.1)) ws w2 → (∀ c k, jS w2 c k = lg_ap ρ c (jS ws c) log k) → hG E al d y pc2 lv2 st2 ρ w2 Q) : hG E al d y p.1 p.2.2.2.2.1 p.2.2.2.2.2 ρ ws Q := by
  unfold lp_chk at hc
  rw [Bool.and_eq_true] at hc
  obtain ⟨hl, hc⟩ := hc
  split at hc
  · rename_i ends hr
    have hlen : ρ.length = p.2.1.length := hW0.1.1
    refine hp_run H (Bs := []) hy hr hW0 (fun T hT => by cases hT) (fun q hq' => ?_)
    have hq1 := List.all_eq_true.mp hc q hq'
    obtain ⟨q1, q2⟩ := q
    unfold aQ
    unfold lp_end at hq1
    dsimp only at hq1 ⊢
    split at hq1
    · rename_i p2 lv st
      rw [Bool.and_eq_true, Bool.and_eq_true, beq_iff_eq] at hq1
      obtain ⟨rfl, hcut, hlog⟩ := hq1
      intro r LV ST w2 g1 g2 hS
      obtain ⟨σ, s1, s2, s3, s4, -⟩ := ak_cut_ok hcut (Nat.le_refl _) g1 g2 hS (fun σ _ => H.2.2.2.2.2 σ)
      have lg := hS.2.2.2.1
      rw [lg_eq_ok hlog] at lg
      have k1 : ∀ k, k < p.2.1.length → σ[k]? = ρ[k]? := fun k hk => by rw [s1 k hk, List.getElem?_append_left (by omega)]
      have hσ := hp_same k1 s4.1.1.1 hlen
      subst hσ
      rw [← hlen] at hl
      exact hq w2 hS.2.2.2.2.1 hS.2.2.2.2.2.1 hS.2.2.2.2.2.2 ⟨lg.frame.1, fun c hc => lg.frame.2 c (fun q hq e => hc (List.mem_map.mpr ⟨q, hq, e⟩))⟩ (fun c k => by rw [lg.ap (lg_in_all hl) c k, lg_in_ap hl]) LV ST s2 s3
    · cases hq1
  · cases hc
/-- the same, over values -/
theorem ky_lg (hf : E.2.2.2.1.category = 1) (hT : ∀ σ : List Int, aTb E σ aTabs) (a5 : aWd E al aLay ws) (a6 : aRs aRules ws) (a7 : jJ0 ws) {d y pc pc2 : Nat} (hy : y < mj_lawNo) {ρ : List Int} {env : List (Int × Int)} {fs : List ae} {h0 : aH} {lv lv2 lvk lvk2 : List (Nat × av)} {st st2 stk stk2 : List av} {log : aW}
    (hc : lp_chk (aG00 []) d y (pc, env, fs, h0, lv, st) pc2 lv2 st2 log = true) (h1 : hEv ρ env) (h2 : aFs ρ fs) (h3 : aHh ρ ws h0) (r1 : lv.all (fun q => av_rg ρ.length q.2) = true) (r2 : st.all (av_rg ρ.length) = true)
    (e1 : lvE ρ lv = lvk) (e2 : st.map (avE ρ) = stk) (e3 : lvE ρ lv2 = lvk2) (e4 : st2.map (avE ρ) = stk2)
    (hq : ∀ w2, aWd E al aLay w2 → aRs aRules w2 → jJ0 w2 → hD (log.map (·.1)) ws w2 → (∀ c k, jS w2 c k = lg_ap ρ c (jS ws c) log k) → hG E al d y pc2 lvk2 stk2 [] w2 Q) : hG E al d y pc lvk stk [] ws Q :=
  (lp_go (p := (pc, env, fs, h0, lv, st)) (hOk00 hf hT) hy hc ⟨h1.ok, h2, h3, a5, a6, a7⟩ (fun w2 b1 b2 b3 b4 b5 => (hq w2 b1 b2 b3 b4 b5).ofK e3 e4)).toK r1 r2 e1 e2
end LGP
section LGD
variable {E : mj_E} {al : List Nat} {ρ : List Int} {ws : va_W}
/-- a call by a template, at any depth -/
theorem lg_god (hf : E.2.2.2.1.category = 1) (hT : ∀ σ : List Int, aTb E σ aTabs) (a5 : aWd E al aLay ws) (a6 : aRs aRules ws) (a7 : jJ0 ws) {d y : Nat} {t : lgT} (hy : y < mj_lawNo) (hc : lg_chk (aG00 []) d y t = true) {ρ : List Int} (he : hEv ρ t.1) (hfl : t.2.1.all (fun f => f.1.all (fun q => decide (q.1 < ρ.length))) = true) (hfs : ∀ f ∈ t.2.1, ae_ev ρ f ≤ 0) (hk : aHh ρ ws t.2.2.2.1)
    {self : Nat} {es xs : List ae} (hargs : t.2.2.1 = .inr (0, self) :: es.map .inl) (hes : xs.map (ae_ev []) = es.map (ae_ev ρ)) (hel : es.all (fun e => e.1.all (fun q => decide (q.1 < ρ.length))) = true) {AS : List Value} (ha : gL E al [] (.inr (0, self) :: xs.map .inl) AS) :
    MJ E d 0 0 (mj_in0 y AS ws) (fun v w => ∃ z : Int32, v = some (.int z) ∧ z.toInt = ae_ev ρ t.2.2.2.2.1 ∧ aWd E al aLay w ∧ aRs aRules w ∧ jJ0 w ∧ (∀ c, (∀ q ∈ t.2.2.2.2.2, q.1 ≠ c) → w[c]? = ws[c]?) ∧ w.length = ws.length ∧ ∃ r : List Int, ∀ c k, jS w c k = lg_ap (ρ ++ r) c (jS ws c) t.2.2.2.2.2 k) := by
  refine lg_ok (hOk00 hf hT) hy hc ⟨he.ok, aFs.mk hfl hfs, hk, a5, a6, a7⟩ ?_
  rw [hargs]
  obtain ⟨v, u, rfl, h1, h2⟩ := ha
  exact ⟨v, u, rfl, h1, gL_re hes hel h2⟩
end LGD
