/-! calls by their logs, whatever they answer -/
def lz_end (log : aW) (q : aEnd) : Bool := match q.1 with
  | .inl (some (.inl _)) => lg_eq q.2.2.2.2.2 log
  | _ => false
abbrev lzT : Type := List (Int × Int) × List ae × List av × aH × aW
def lz_chk (G : aG) (d y : Nat) (t : lzT) : Bool := t.2.2.2.2.all (lg_in t.1.length) &&
  (match ak_run G 100000 d y t.1.length [] [] none false (mj_jmp y 0) (ak_args 0 t.2.2.1) [] (t.1, t.2.1, [], t.2.2.2.1, []) with
   | some ends => ends.all (lz_end t.2.2.2.2)
   | none => false)
section LZ
variable {E : mj_E} {al : List Nat} {ws : va_W}
theorem lz_go (hf : E.2.2.2.1.category = 1) (hT : ∀ σ : List Int, aTb E σ aTabs) (a5 : aWd E al aLay ws) (a6 : aRs aRules ws) (a7 : jJ0 ws) {d y : Nat} {t : lzT} (hy : y < mj_lawNo) (hc : lz_chk (aG00 []) d y t = true) {ρ : List Int} (he : hEv ρ t.1) (hfl : t.2.1.all (fun f => f.1.all (fun q => decide (q.1 < ρ.length))) = true) (hfs : ∀ f ∈ t.2.1, ae_ev ρ f ≤ 0) (hk : aHh ρ ws t.2.2.2.1)
    {self : Nat} {es xs : List ae} (hargs : t.2.2.1 = .inr (0, self) :: es.map .inl) (hes : xs.map (ae_ev []) = es.map (ae_ev ρ)) (hel : es.all (fun e => e.1.all (fun q => decide (q.1 < ρ.length))) = true) {AS : List Value} (ha : gL E al [] (.inr (0, self) :: xs.map .inl) AS) :
    MJ E d 0 0 (mj_in0 y AS ws) (fun v w => ∃ z : Int32, v = some (.int z) ∧ aWd E al aLay w ∧ aRs aRules w ∧ jJ0 w ∧ (∀ c, (∀ q ∈ t.2.2.2.2, q.1 ≠ c) → w[c]? = ws[c]?) ∧ w.length = ws.length ∧ ∀ c k, jS w c k = lg_ap ρ c (jS ws c) t.2.2.2.2 k) := by
  unfold lz_chk at hc
  rw [Bool.and_eq_true] at hc
  obtain ⟨l1, hc⟩ := hc
  split at hc
  · rename_i ends hr
    have hlen : ρ.length = t.1.length := he.ok.1
    rw [← hlen] at l1
    obtain ⟨v0, u0, rfl, g1, g2⟩ := ha
    have ga : gL E al ρ t.2.2.1 (v0 :: u0) := by
      rw [hargs]
      exact ⟨v0, u0, rfl, g1, gL_re hes hel g2⟩
    refine hG.in0 hf (as := t.2.2.1) ?_ ga
    refine hp_run (hOk00 hf hT) (Bs := []) hy hr ⟨he.ok, aFs.mk hfl hfs, hk, a5, a6, a7⟩ (fun T hT => by cases hT) (fun q hq => ?_)
    have hq := List.all_eq_true.mp hc q hq
    unfold aQ
    unfold lz_end at hq
    obtain ⟨q1, q2⟩ := q
    dsimp only at hq ⊢
    split at hq
    · rename_i v
      intro r x w2 hv hS
      obtain ⟨u, rfl, z, rfl, hz⟩ := hv
      have lg := hS.2.2.2.1
      rw [lg_eq_ok hq] at lg
      exact ⟨z, rfl, hS.2.2.2.2.1, hS.2.2.2.2.2.1, hS.2.2.2.2.2.2, lg.frame.2, lg.frame.1, fun c k => by rw [lg.ap (lg_in_all l1) c k, lg_in_ap l1]⟩
    · cases hq
  · cases hc
end LZ
/-! SAILS, by their logs -/
section SA
variable {E : mj_E} {Q : Option Value → va_W → Prop} {al : List Nat} {ws w : va_W} {ρ : List Int}
def sc_b0 : lzT := ([aF, aF, aF], [([(0, 1)], 1)], [.inr (0, 0), .inl (ae_s 0), .inl (ae_s 1), .inl (ae_s 2)], [], [])
def sc_b1 : lzT := ([aF, aF, aF], [([(0, (-1))], 5)], [.inr (0, 0), .inl (ae_s 0), .inl (ae_s 1), .inl (ae_s 2)], [], [])
def sc_b2 : lzT := ([(0, 4), aF, aF], [([(1, 1)], 1)], [.inr (0, 0), .inl (ae_s 0), .inl (ae_s 1), .inl (ae_s 2)], [], [])
def sc_b3 : lzT := ([(0, 4), aF, aF], [([(1, (-1))], 5)], [.inr (0, 0), .inl (ae_s 0), .inl (ae_s 1), .inl (ae_s 2)], [], [])
def sc_e : lzT := ([(0, 4), aF], [], [.inr (0, 0), .inl (ae_s 0), .inl (ae_s 0), .inl (ae_s 1)], [], [])
def sc_v00 : lzT := ([(0, 4), (0, 4), aF], [([(0, 1), (1, (-1))], 1), ([(2, 1)], 1)], [.inr (0, 0), .inl (ae_s 0), .inl (ae_s 1), .inl (ae_s 2)], [], [])
def sc_v01 : lzT := ([(0, 4), (0, 4), aF], [([(0, 1), (1, (-1))], 1), ([(2, (-1))], 1000)], [.inr (0, 0), .inl (ae_s 0), .inl (ae_s 1), .inl (ae_s 2)], [], [])
def sc_t0 : lzT := ([(0, 4), (0, 4), (0, 999), aF], [([(0, 1), (1, (-1))], 1)], [.inr (0, 0), .inl (ae_s 0), .inl (ae_s 1), .inl (ae_s 2)], [((33, ([(0, 5), (1, 1)], 0)), ae_s 3)], [(33, some (([(0, 5), (1, 1)], 0), ae_s 2)), (33, some (([(0, 1), (1, 5)], 0), ae_s 2))])
def sc_v10 : lzT := ([(0, 4), (0, 4), aF], [([(0, (-1)), (1, 1)], 1), ([(2, 1)], 1)], [.inr (0, 0), .inl (ae_s 0), .inl (ae_s 1), .inl (ae_s 2)], [], [])
def sc_v11 : lzT := ([(0, 4), (0, 4), aF], [([(0, (-1)), (1, 1)], 1), ([(2, (-1))], 1000)], [.inr (0, 0), .inl (ae_s 0), .inl (ae_s 1), .inl (ae_s 2)], [], [])
def sc_t1 : lzT := ([(0, 4), (0, 4), (0, 999), aF], [([(0, (-1)), (1, 1)], 1)], [.inr (0, 0), .inl (ae_s 0), .inl (ae_s 1), .inl (ae_s 2)], [((33, ([(0, 5), (1, 1)], 0)), ae_s 3)], [(33, some (([(0, 5), (1, 1)], 0), ae_s 2)), (33, some (([(0, 1), (1, 5)], 0), ae_s 2))])
section
set_option maxRecDepth 100000
theorem sc_b0_k : lz_chk (aG00 []) 85 109 sc_b0 = true := by decide +kernel
theorem sc_b1_k : lz_chk (aG00 []) 85 109 sc_b1 = true := by decide +kernel
theorem sc_b2_k : lz_chk (aG00 []) 85 109 sc_b2 = true := by decide +kernel
theorem sc_b3_k : lz_chk (aG00 []) 85 109 sc_b3 = true := by decide +kernel
theorem sc_e_k : lz_chk (aG00 []) 85 109 sc_e = true := by decide +kernel
theorem sc_v00_k : lz_chk (aG00 []) 85 109 sc_v00 = true := by decide +kernel
theorem sc_v01_k : lz_chk (aG00 []) 85 109 sc_v01 = true := by decide +kernel
theorem sc_v10_k : lz_chk (aG00 []) 85 109 sc_v10 = true := by decide +kernel
theorem sc_v11_k : lz_chk (aG00 []) 85 109 sc_v11 = true := by decide +kernel
theorem sc_t0_k : lz_chk (aG00 []) 85 109 sc_t0 = true := by decide +kernel
theorem sc_t1_k : lz_chk (aG00 []) 85 109 sc_t1 = true := by decide +kernel
end
theorem jL33_25 : ∀ k, k < 25 → (jLay 33 k).isSome = true := by decide +kernel
theorem sc_mj (hf : E.2.2.2.1.category = 1) (hT : ∀ σ : List Int, aTb E σ aTabs) (a5 : aWd E al aLay ws) (a6 : aRs aRules ws) (a7 : jJ0 ws) {a1 a2 a3 : Int} (x1 : aI0 ≤ a1 ∧ a1 ≤ aI1) (x2 : aI0 ≤ a2 ∧ a2 ≤ aI1) (x3 : aI0 ≤ a3 ∧ a3 ≤ aI1) {AS : List Value} (ha : gL E al [] (.inr (0, 0) :: [ae_k a1, ae_k a2, ae_k a3].map .inl) AS) :
    MJ E 85 0 0 (mj_in0 109 AS ws) (fun v w => ∃ z : Int32, v = some (.int z) ∧ aWd E al aLay w ∧ aRs aRules w ∧ jJ0 w ∧ hD [33] ws w ∧ ((¬ (0 ≤ a1 ∧ a1 ≤ 4 ∧ 0 ≤ a2 ∧ a2 ≤ 4 ∧ ¬ a1 = a2 ∧ 0 ≤ a3 ∧ a3 ≤ 999) ∧ ∀ c k, jS w c k = jS ws c k) ∨ ((0 ≤ a1 ∧ a1 ≤ 4 ∧ 0 ≤ a2 ∧ a2 ≤ 4 ∧ ¬ a1 = a2 ∧ 0 ≤ a3 ∧ a3 ≤ 999) ∧ ∀ k, jS w 33 k = if k = 5 * a1.toNat + a2.toNat ∨ k = 5 * a2.toNat + a1.toNat then a3 else jS ws 33 k))) := by
  by_cases b0 : a1 ≤ -1
  · refine (lz_go hf hT a5 a6 a7 (t := sc_b0) (ρ := [a1, a2, a3]) (self := 0) (es := [ae_s 0, ae_s 1, ae_s 2]) (xs := [ae_k a1, ae_k a2, ae_k a3]) (by decide) sc_b0_k ⟨x1, x2, x3, trivial⟩ (by rfl) (fun f hf => ?_) aHh.nil rfl (by simp only [List.map_cons, List.map_nil, ae_ev_k, ev_s (ρ := [a1, a2, a3]) (k := 0) (x := a1) rfl, ev_s (ρ := [a1, a2, a3]) (k := 1) (x := a2) rfl, ev_s (ρ := [a1, a2, a3]) (k := 2) (x := a3) rfl]) (by rfl) ha).weaken (Nat.le_refl _) (Nat.le_refl _) (Nat.le_refl _) (fun v w h => ?_)
    · simp only [sc_b0, List.mem_cons, List.not_mem_nil, or_false] at hf
      rcases hf with rfl <;> (simp only [ae_ev, ae_el, ae_s, List.getD_cons_zero, List.getD_cons_succ]; omega)
    · obtain ⟨z, e1, e3, e4, e5, e6, e7, e8⟩ := h
      exact ⟨z, e1, e3, e4, e5, ⟨e7, fun c hc => e6 c (fun q hq => by cases hq)⟩, Or.inl ⟨by omega, e8⟩⟩
  by_cases b1 : 5 ≤ a1
  · refine (lz_go hf hT a5 a6 a7 (t := sc_b1) (ρ := [a1, a2, a3]) (self := 0) (es := [ae_s 0, ae_s 1, ae_s 2]) (xs := [ae_k a1, ae_k a2, ae_k a3]) (by decide) sc_b1_k ⟨x1, x2, x3, trivial⟩ (by rfl) (fun f hf => ?_) aHh.nil rfl (by simp only [List.map_cons, List.map_nil, ae_ev_k, ev_s (ρ := [a1, a2, a3]) (k := 0) (x := a1) rfl, ev_s (ρ := [a1, a2, a3]) (k := 1) (x := a2) rfl, ev_s (ρ := [a1, a2, a3]) (k := 2) (x := a3) rfl]) (by rfl) ha).weaken (Nat.le_refl _) (Nat.le_refl _) (Nat.le_refl _) (fun v w h => ?_)
    · simp only [sc_b1, List.mem_cons, List.not_mem_nil, or_false] at hf
      rcases hf with rfl <;> (simp only [ae_ev, ae_el, ae_s, List.getD_cons_zero, List.getD_cons_succ]; omega)
    · obtain ⟨z, e1, e3, e4, e5, e6, e7, e8⟩ := h
      exact ⟨z, e1, e3, e4, e5, ⟨e7, fun c hc => e6 c (fun q hq => by cases hq)⟩, Or.inl ⟨by omega, e8⟩⟩
  by_cases b2 : a2 ≤ -1
  · refine (lz_go hf hT a5 a6 a7 (t := sc_b2) (ρ := [a1, a2, a3]) (self := 0) (es := [ae_s 0, ae_s 1, ae_s 2]) (xs := [ae_k a1, ae_k a2, ae_k a3]) (by decide) sc_b2_k ⟨⟨by omega, by omega⟩, x2, x3, trivial⟩ (by rfl) (fun f hf => ?_) aHh.nil rfl (by simp only [List.map_cons, List.map_nil, ae_ev_k, ev_s (ρ := [a1, a2, a3]) (k := 0) (x := a1) rfl, ev_s (ρ := [a1, a2, a3]) (k := 1) (x := a2) rfl, ev_s (ρ := [a1, a2, a3]) (k := 2) (x := a3) rfl]) (by rfl) ha).weaken (Nat.le_refl _) (Nat.le_refl _) (Nat.le_refl _) (fun v w h => ?_)
    · simp only [sc_b2, List.mem_cons, List.not_mem_nil, or_false] at hf
      rcases hf with rfl <;> (simp only [ae_ev, ae_el, ae_s, List.getD_cons_zero, List.getD_cons_succ]; omega)
    · obtain ⟨z, e1, e3, e4, e5, e6, e7, e8⟩ := h
      exact ⟨z, e1, e3, e4, e5, ⟨e7, fun c hc => e6 c (fun q hq => by cases hq)⟩, Or.inl ⟨by omega, e8⟩⟩
  by_cases b3 : 5 ≤ a2
  · refine (lz_go hf hT a5 a6 a7 (t := sc_b3) (ρ := [a1, a2, a3]) (self := 0) (es := [ae_s 0, ae_s 1, ae_s 2]) (xs := [ae_k a1, ae_k a2, ae_k a3]) (by decide) sc_b3_k ⟨⟨by omega, by omega⟩, x2, x3, trivial⟩ (by rfl) (fun f hf => ?_) aHh.nil rfl (by simp only [List.map_cons, List.map_nil, ae_ev_k, ev_s (ρ := [a1, a2, a3]) (k := 0) (x := a1) rfl, ev_s (ρ := [a1, a2, a3]) (k := 1) (x := a2) rfl, ev_s (ρ := [a1, a2, a3]) (k := 2) (x := a3) rfl]) (by rfl) ha).weaken (Nat.le_refl _) (Nat.le_refl _) (Nat.le_refl _) (fun v w h => ?_)
    · simp only [sc_b3, List.mem_cons, List.not_mem_nil, or_false] at hf
      rcases hf with rfl <;> (simp only [ae_ev, ae_el, ae_s, List.getD_cons_zero, List.getD_cons_succ]; omega)
    · obtain ⟨z, e1, e3, e4, e5, e6, e7, e8⟩ := h
      exact ⟨z, e1, e3, e4, e5, ⟨e7, fun c hc => e6 c (fun q hq => by cases hq)⟩, Or.inl ⟨by omega, e8⟩⟩
  by_cases be : a1 = a2
  · subst be
    refine (lz_go hf hT a5 a6 a7 (t := sc_e) (ρ := [a1, a3]) (self := 0) (es := [ae_s 0, ae_s 0, ae_s 1]) (xs := [ae_k a1, ae_k a1, ae_k a3]) (by decide) sc_e_k ⟨⟨by omega, by omega⟩, x3, trivial⟩ (by rfl) (fun f hf => ?_) aHh.nil rfl (by simp only [List.map_cons, List.map_nil, ae_ev_k, ev_s (ρ := [a1, a3]) (k := 0) (x := a1) rfl, ev_s (ρ := [a1, a3]) (k := 1) (x := a3) rfl]) (by rfl) ha).weaken (Nat.le_refl _) (Nat.le_refl _) (Nat.le_refl _) (fun v w h => ?_)
    · cases hf
    · obtain ⟨z, e1, e3, e4, e5, e6, e7, e8⟩ := h
      exact ⟨z, e1, e3, e4, e5, ⟨e7, fun c hc => e6 c (fun q hq => by cases hq)⟩, Or.inl ⟨by omega, e8⟩⟩
  by_cases lt : a1 < a2
  · by_cases v0 : a3 ≤ -1
    · refine (lz_go hf hT a5 a6 a7 (t := sc_v00) (ρ := [a1, a2, a3]) (self := 0) (es := [ae_s 0, ae_s 1, ae_s 2]) (xs := [ae_k a1, ae_k a2, ae_k a3]) (by decide) sc_v00_k ⟨⟨by omega, by omega⟩, ⟨by omega, by omega⟩, x3, trivial⟩ (by rfl) (fun f hf => ?_) aHh.nil rfl (by simp only [List.map_cons, List.map_nil, ae_ev_k, ev_s (ρ := [a1, a2, a3]) (k := 0) (x := a1) rfl, ev_s (ρ := [a1, a2, a3]) (k := 1) (x := a2) rfl, ev_s (ρ := [a1, a2, a3]) (k := 2) (x := a3) rfl]) (by rfl) ha).weaken (Nat.le_refl _) (Nat.le_refl _) (Nat.le_refl _) (fun v w h => ?_)
      · simp only [sc_v00, List.mem_cons, List.not_mem_nil, or_false] at hf
        rcases hf with rfl | rfl <;> (simp only [ae_ev, ae_el, ae_s, List.getD_cons_zero, List.getD_cons_succ]; omega)
      · obtain ⟨z, e1, e3, e4, e5, e6, e7, e8⟩ := h
        exact ⟨z, e1, e3, e4, e5, ⟨e7, fun c hc => e6 c (fun q hq => by cases hq)⟩, Or.inl ⟨by omega, e8⟩⟩
    by_cases v1 : 1000 ≤ a3
    · refine (lz_go hf hT a5 a6 a7 (t := sc_v01) (ρ := [a1, a2, a3]) (self := 0) (es := [ae_s 0, ae_s 1, ae_s 2]) (xs := [ae_k a1, ae_k a2, ae_k a3]) (by decide) sc_v01_k ⟨⟨by omega, by omega⟩, ⟨by omega, by omega⟩, x3, trivial⟩ (by rfl) (fun f hf => ?_) aHh.nil rfl (by simp only [List.map_cons, List.map_nil, ae_ev_k, ev_s (ρ := [a1, a2, a3]) (k := 0) (x := a1) rfl, ev_s (ρ := [a1, a2, a3]) (k := 1) (x := a2) rfl, ev_s (ρ := [a1, a2, a3]) (k := 2) (x := a3) rfl]) (by rfl) ha).weaken (Nat.le_refl _) (Nat.le_refl _) (Nat.le_refl _) (fun v w h => ?_)
      · simp only [sc_v01, List.mem_cons, List.not_mem_nil, or_false] at hf
        rcases hf with rfl | rfl <;> (simp only [ae_ev, ae_el, ae_s, List.getD_cons_zero, List.getD_cons_succ]; omega)
      · obtain ⟨z, e1, e3, e4, e5, e6, e7, e8⟩ := h
        exact ⟨z, e1, e3, e4, e5, ⟨e7, fun c hc => e6 c (fun q hq => by cases hq)⟩, Or.inl ⟨by omega, e8⟩⟩
    have sl : aSl ws 33 (5 * a1.toNat + a2.toNat) (jS ws 33 (5 * a1.toNat + a2.toNat)) := jLay_sl a5 (jL33_25 _ (by omega))
    refine (lz_go hf hT a5 a6 a7 (t := sc_t0) (ρ := [a1, a2, a3, jS ws 33 (5 * a1.toNat + a2.toNat)]) (self := 0) (es := [ae_s 0, ae_s 1, ae_s 2]) (xs := [ae_k a1, ae_k a2, ae_k a3]) (by decide) sc_t0_k ⟨⟨by omega, by omega⟩, ⟨by omega, by omega⟩, ⟨by omega, by omega⟩, sl.i32, trivial⟩ (by rfl) (fun f hf => ?_) (aHh.cons (kns (by decide) rfl rfl (i := 5 * a1.toNat + a2.toNat) (by simp only [ae_ev, ae_el, ae_s, List.getD_cons_zero, List.getD_cons_succ]; omega) (ev_s rfl) sl) aHh.nil) rfl (by simp only [List.map_cons, List.map_nil, ae_ev_k, ev_s (ρ := [a1, a2, a3, jS ws 33 (5 * a1.toNat + a2.toNat)]) (k := 0) (x := a1) rfl, ev_s (ρ := [a1, a2, a3, jS ws 33 (5 * a1.toNat + a2.toNat)]) (k := 1) (x := a2) rfl, ev_s (ρ := [a1, a2, a3, jS ws 33 (5 * a1.toNat + a2.toNat)]) (k := 2) (x := a3) rfl, ev_s (ρ := [a1, a2, a3, jS ws 33 (5 * a1.toNat + a2.toNat)]) (k := 3) (x := jS ws 33 (5 * a1.toNat + a2.toNat)) rfl]) (by rfl) ha).weaken (Nat.le_refl _) (Nat.le_refl _) (Nat.le_refl _) (fun v w h => ?_)
    · simp only [sc_t0, List.mem_cons, List.not_mem_nil, or_false] at hf
      rcases hf with rfl <;> (simp only [ae_ev, ae_el, ae_s, List.getD_cons_zero, List.getD_cons_succ]; omega)
    · obtain ⟨z, e1, e3, e4, e5, e6, e7, e8⟩ := h
      refine ⟨z, e1, e3, e4, e5, ⟨e7, fun c hc => e6 c (fun q hq => ?_)⟩, Or.inr ⟨by omega, fun k => ?_⟩⟩
      · simp only [sc_t0, List.mem_cons, List.not_mem_nil, or_false] at hq
        rcases hq with rfl | rfl <;> (simp only [List.mem_cons, List.not_mem_nil, or_false, not_or] at hc; dsimp only; omega)
      · rw [e8 33 k]
        simp [sc_t0, lg_ap, ae_ev, ae_el, ae_k, ae_s]
        have q1 : (5 * a1 + a2).toNat = 5 * a1.toNat + a2.toNat := by omega
        have q2 : (a1 + 5 * a2).toNat = 5 * a2.toNat + a1.toNat := by omega
        have q3 : (5 * a2 + a1).toNat = 5 * a2.toNat + a1.toNat := by omega
        simp only [q1, q2, q3]
        by_cases h1 : k = 5 * a1.toNat + a2.toNat
        · simp [h1]
        · by_cases h2 : k = 5 * a2.toNat + a1.toNat
          · simp [h2]
          · simp [h1, h2]
  · by_cases v0 : a3 ≤ -1
    · refine (lz_go hf hT a5 a6 a7 (t := sc_v10) (ρ := [a1, a2, a3]) (self := 0) (es := [ae_s 0, ae_s 1, ae_s 2]) (xs := [ae_k a1, ae_k a2, ae_k a3]) (by decide) sc_v10_k ⟨⟨by omega, by omega⟩, ⟨by omega, by omega⟩, x3, trivial⟩ (by rfl) (fun f hf => ?_) aHh.nil rfl (by simp only [List.map_cons, List.map_nil, ae_ev_k, ev_s (ρ := [a1, a2, a3]) (k := 0) (x := a1) rfl, ev_s (ρ := [a1, a2, a3]) (k := 1) (x := a2) rfl, ev_s (ρ := [a1, a2, a3]) (k := 2) (x := a3) rfl]) (by rfl) ha).weaken (Nat.le_refl _) (Nat.le_refl _) (Nat.le_refl _) (fun v w h => ?_)
      · simp only [sc_v10, List.mem_cons, List.not_mem_nil, or_false] at hf
        rcases hf with rfl | rfl <;> (simp only [ae_ev, ae_el, ae_s, List.getD_cons_zero, List.getD_cons_succ]; omega)
      · obtain ⟨z, e1, e3, e4, e5, e6, e7, e8⟩ := h
        exact ⟨z, e1, e3, e4, e5, ⟨e7, fun c hc => e6 c (fun q hq => by cases hq)⟩, Or.inl ⟨by omega, e8⟩⟩
    by_cases v1 : 1000 ≤ a3
    · refine (lz_go hf hT a5 a6 a7 (t := sc_v11) (ρ := [a1, a2, a3]) (self := 0) (es := [ae_s 0, ae_s 1, ae_s 2]) (xs := [ae_k a1, ae_k a2, ae_k a3]) (by decide) sc_v11_k ⟨⟨by omega, by omega⟩, ⟨by omega, by omega⟩, x3, trivial⟩ (by rfl) (fun f hf => ?_) aHh.nil rfl (by simp only [List.map_cons, List.map_nil, ae_ev_k, ev_s (ρ := [a1, a2, a3]) (k := 0) (x := a1) rfl, ev_s (ρ := [a1, a2, a3]) (k := 1) (x := a2) rfl, ev_s (ρ := [a1, a2, a3]) (k := 2) (x := a3) rfl]) (by rfl) ha).weaken (Nat.le_refl _) (Nat.le_refl _) (Nat.le_refl _) (fun v w h => ?_)
      · simp only [sc_v11, List.mem_cons, List.not_mem_nil, or_false] at hf
        rcases hf with rfl | rfl <;> (simp only [ae_ev, ae_el, ae_s, List.getD_cons_zero, List.getD_cons_succ]; omega)
      · obtain ⟨z, e1, e3, e4, e5, e6, e7, e8⟩ := h
        exact ⟨z, e1, e3, e4, e5, ⟨e7, fun c hc => e6 c (fun q hq => by cases hq)⟩, Or.inl ⟨by omega, e8⟩⟩
    have sl : aSl ws 33 (5 * a1.toNat + a2.toNat) (jS ws 33 (5 * a1.toNat + a2.toNat)) := jLay_sl a5 (jL33_25 _ (by omega))
    refine (lz_go hf hT a5 a6 a7 (t := sc_t1) (ρ := [a1, a2, a3, jS ws 33 (5 * a1.toNat + a2.toNat)]) (self := 0) (es := [ae_s 0, ae_s 1, ae_s 2]) (xs := [ae_k a1, ae_k a2, ae_k a3]) (by decide) sc_t1_k ⟨⟨by omega, by omega⟩, ⟨by omega, by omega⟩, ⟨by omega, by omega⟩, sl.i32, trivial⟩ (by rfl) (fun f hf => ?_) (aHh.cons (kns (by decide) rfl rfl (i := 5 * a1.toNat + a2.toNat) (by simp only [ae_ev, ae_el, ae_s, List.getD_cons_zero, List.getD_cons_succ]; omega) (ev_s rfl) sl) aHh.nil) rfl (by simp only [List.map_cons, List.map_nil, ae_ev_k, ev_s (ρ := [a1, a2, a3, jS ws 33 (5 * a1.toNat + a2.toNat)]) (k := 0) (x := a1) rfl, ev_s (ρ := [a1, a2, a3, jS ws 33 (5 * a1.toNat + a2.toNat)]) (k := 1) (x := a2) rfl, ev_s (ρ := [a1, a2, a3, jS ws 33 (5 * a1.toNat + a2.toNat)]) (k := 2) (x := a3) rfl, ev_s (ρ := [a1, a2, a3, jS ws 33 (5 * a1.toNat + a2.toNat)]) (k := 3) (x := jS ws 33 (5 * a1.toNat + a2.toNat)) rfl]) (by rfl) ha).weaken (Nat.le_refl _) (Nat.le_refl _) (Nat.le_refl _) (fun v w h => ?_)
    · simp only [sc_t1, List.mem_cons, List.not_mem_nil, or_false] at hf
      rcases hf with rfl <;> (simp only [ae_ev, ae_el, ae_s, List.getD_cons_zero, List.getD_cons_succ]; omega)
    · obtain ⟨z, e1, e3, e4, e5, e6, e7, e8⟩ := h
      refine ⟨z, e1, e3, e4, e5, ⟨e7, fun c hc => e6 c (fun q hq => ?_)⟩, Or.inr ⟨by omega, fun k => ?_⟩⟩
      · simp only [sc_t1, List.mem_cons, List.not_mem_nil, or_false] at hq
        rcases hq with rfl | rfl <;> (simp only [List.mem_cons, List.not_mem_nil, or_false, not_or] at hc; dsimp only; omega)
      · rw [e8 33 k]
        simp [sc_t1, lg_ap, ae_ev, ae_el, ae_k, ae_s]
        have q1 : (5 * a1 + a2).toNat = 5 * a1.toNat + a2.toNat := by omega
        have q2 : (a1 + 5 * a2).toNat = 5 * a2.toNat + a1.toNat := by omega
        have q3 : (5 * a2 + a1).toNat = 5 * a2.toNat + a1.toNat := by omega
        simp only [q1, q2, q3]
        by_cases h1 : k = 5 * a1.toNat + a2.toNat
        · simp [h1]
        · by_cases h2 : k = 5 * a2.toNat + a1.toNat
          · simp [h2]
          · simp [h1, h2]
def sr_b0 : lzT := ([aF, aF, aF], [([(0, 1)], 1)], [.inr (0, 99), .inl (ae_s 0), .inl (ae_s 1), .inl (ae_s 2)], [], [])
def sr_b1 : lzT := ([aF, aF, aF], [([(0, (-1))], 5)], [.inr (0, 99), .inl (ae_s 0), .inl (ae_s 1), .inl (ae_s 2)], [], [])
def sr_b2 : lzT := ([(0, 4), aF, aF], [([(1, 1)], 1)], [.inr (0, 99), .inl (ae_s 0), .inl (ae_s 1), .inl (ae_s 2)], [], [])
def sr_b3 : lzT := ([(0, 4), aF, aF], [([(1, (-1))], 5)], [.inr (0, 99), .inl (ae_s 0), .inl (ae_s 1), .inl (ae_s 2)], [], [])
def sr_e : lzT := ([(0, 4), aF], [], [.inr (0, 99), .inl (ae_s 0), .inl (ae_s 0), .inl (ae_s 1)], [], [])
def sr_v00 : lzT := ([(0, 4), (0, 4), aF], [([(0, 1), (1, (-1))], 1), ([(2, 1)], 1)], [.inr (0, 99), .inl (ae_s 0), .inl (ae_s 1), .inl (ae_s 2)], [], [])
def sr_v01 : lzT := ([(0, 4), (0, 4), aF], [([(0, 1), (1, (-1))], 1), ([(2, (-1))], 1000)], [.inr (0, 99), .inl (ae_s 0), .inl (ae_s 1), .inl (ae_s 2)], [], [])
def sr_t0 : lzT := ([(0, 4), (0, 4), (0, 999), aF], [([(0, 1), (1, (-1))], 1)], [.inr (0, 99), .inl (ae_s 0), .inl (ae_s 1), .inl (ae_s 2)], [((115, ([(0, 5), (1, 1)], 0)), ae_s 3)], [(115, some (([(0, 1), (1, 5)], 0), ae_s 2)), (115, some (([(0, 5), (1, 1)], 0), ae_s 2))])
def sr_v10 : lzT := ([(0, 4), (0, 4), aF], [([(0, (-1)), (1, 1)], 1), ([(2, 1)], 1)], [.inr (0, 99), .inl (ae_s 0), .inl (ae_s 1), .inl (ae_s 2)], [], [])
def sr_v11 : lzT := ([(0, 4), (0, 4), aF], [([(0, (-1)), (1, 1)], 1), ([(2, (-1))], 1000)], [.inr (0, 99), .inl (ae_s 0), .inl (ae_s 1), .inl (ae_s 2)], [], [])
def sr_t1 : lzT := ([(0, 4), (0, 4), (0, 999), aF], [([(0, (-1)), (1, 1)], 1)], [.inr (0, 99), .inl (ae_s 0), .inl (ae_s 1), .inl (ae_s 2)], [((115, ([(0, 5), (1, 1)], 0)), ae_s 3)], [(115, some (([(0, 1), (1, 5)], 0), ae_s 2)), (115, some (([(0, 5), (1, 1)], 0), ae_s 2))])
section
set_option maxRecDepth 100000
theorem sr_b0_k : lz_chk (aG00 []) 85 259 sr_b0 = true := by decide +kernel
theorem sr_b1_k : lz_chk (aG00 []) 85 259 sr_b1 = true := by decide +kernel
theorem sr_b2_k : lz_chk (aG00 []) 85 259 sr_b2 = true := by decide +kernel
theorem sr_b3_k : lz_chk (aG00 []) 85 259 sr_b3 = true := by decide +kernel
theorem sr_e_k : lz_chk (aG00 []) 85 259 sr_e = true := by decide +kernel
theorem sr_v00_k : lz_chk (aG00 []) 85 259 sr_v00 = true := by decide +kernel
theorem sr_v01_k : lz_chk (aG00 []) 85 259 sr_v01 = true := by decide +kernel
theorem sr_v10_k : lz_chk (aG00 []) 85 259 sr_v10 = true := by decide +kernel
theorem sr_v11_k : lz_chk (aG00 []) 85 259 sr_v11 = true := by decide +kernel
theorem sr_t0_k : lz_chk (aG00 []) 85 259 sr_t0 = true := by decide +kernel
theorem sr_t1_k : lz_chk (aG00 []) 85 259 sr_t1 = true := by decide +kernel
end
theorem jL115_25 : ∀ k, k < 25 → (jLay 115 k).isSome = true := by decide +kernel
theorem sr_mj (hf : E.2.2.2.1.category = 1) (hT : ∀ σ : List Int, aTb E σ aTabs) (a5 : aWd E al aLay ws) (a6 : aRs aRules ws) (a7 : jJ0 ws) {a1 a2 a3 : Int} (x1 : aI0 ≤ a1 ∧ a1 ≤ aI1) (x2 : aI0 ≤ a2 ∧ a2 ≤ aI1) (x3 : aI0 ≤ a3 ∧ a3 ≤ aI1) {AS : List Value} (ha : gL E al [] (.inr (0, 99) :: [ae_k a1, ae_k a2, ae_k a3].map .inl) AS) :
    MJ E 85 0 0 (mj_in0 259 AS ws) (fun v w => ∃ z : Int32, v = some (.int z) ∧ aWd E al aLay w ∧ aRs aRules w ∧ jJ0 w ∧ hD [115] ws w ∧ ((¬ (0 ≤ a1 ∧ a1 ≤ 4 ∧ 0 ≤ a2 ∧ a2 ≤ 4 ∧ ¬ a1 = a2 ∧ 0 ≤ a3 ∧ a3 ≤ 999) ∧ ∀ c k, jS w c k = jS ws c k) ∨ ((0 ≤ a1 ∧ a1 ≤ 4 ∧ 0 ≤ a2 ∧ a2 ≤ 4 ∧ ¬ a1 = a2 ∧ 0 ≤ a3 ∧ a3 ≤ 999) ∧ ∀ k, jS w 115 k = if k = 5 * a1.toNat + a2.toNat ∨ k = 5 * a2.toNat + a1.toNat then a3 else jS ws 115 k))) := by
  by_cases b0 : a1 ≤ -1
  · refine (lz_go hf hT a5 a6 a7 (t := sr_b0) (ρ := [a1, a2, a3]) (self := 99) (es := [ae_s 0, ae_s 1, ae_s 2]) (xs := [ae_k a1, ae_k a2, ae_k a3]) (by decide) sr_b0_k ⟨x1, x2, x3, trivial⟩ (by rfl) (fun f hf => ?_) aHh.nil rfl (by simp only [List.map_cons, List.map_nil, ae_ev_k, ev_s (ρ := [a1, a2, a3]) (k := 0) (x := a1) rfl, ev_s (ρ := [a1, a2, a3]) (k := 1) (x := a2) rfl, ev_s (ρ := [a1, a2, a3]) (k := 2) (x := a3) rfl]) (by rfl) ha).weaken (Nat.le_refl _) (Nat.le_refl _) (Nat.le_refl _) (fun v w h => ?_)
    · simp only [sr_b0, List.mem_cons, List.not_mem_nil, or_false] at hf
      rcases hf with rfl <;> (simp only [ae_ev, ae_el, ae_s, List.getD_cons_zero, List.getD_cons_succ]; omega)
    · obtain ⟨z, e1, e3, e4, e5, e6, e7, e8⟩ := h
      exact ⟨z, e1, e3, e4, e5, ⟨e7, fun c hc => e6 c (fun q hq => by cases hq)⟩, Or.inl ⟨by omega, e8⟩⟩
  by_cases b1 : 5 ≤ a1
  · refine (lz_go hf hT a5 a6 a7 (t := sr_b1) (ρ := [a1, a2, a3]) (self := 99) (es := [ae_s 0, ae_s 1, ae_s 2]) (xs := [ae_k a1, ae_k a2, ae_k a3]) (by decide) sr_b1_k ⟨x1, x2, x3, trivial⟩ (by rfl) (fun f hf => ?_) aHh.nil rfl (by simp only [List.map_cons, List.map_nil, ae_ev_k, ev_s (ρ := [a1, a2, a3]) (k := 0) (x := a1) rfl, ev_s (ρ := [a1, a2, a3]) (k := 1) (x := a2) rfl, ev_s (ρ := [a1, a2, a3]) (k := 2) (x := a3) rfl]) (by rfl) ha).weaken (Nat.le_refl _) (Nat.le_refl _) (Nat.le_refl _) (fun v w h => ?_)
    · simp only [sr_b1, List.mem_cons, List.not_mem_nil, or_false] at hf
      rcases hf with rfl <;> (simp only [ae_ev, ae_el, ae_s, List.getD_cons_zero, List.getD_cons_succ]; omega)
    · obtain ⟨z, e1, e3, e4, e5, e6, e7, e8⟩ := h
      exact ⟨z, e1, e3, e4, e5, ⟨e7, fun c hc => e6 c (fun q hq => by cases hq)⟩, Or.inl ⟨by omega, e8⟩⟩
  by_cases b2 : a2 ≤ -1
  · refine (lz_go hf hT a5 a6 a7 (t := sr_b2) (ρ := [a1, a2, a3]) (self := 99) (es := [ae_s 0, ae_s 1, ae_s 2]) (xs := [ae_k a1, ae_k a2, ae_k a3]) (by decide) sr_b2_k ⟨⟨by omega, by omega⟩, x2, x3, trivial⟩ (by rfl) (fun f hf => ?_) aHh.nil rfl (by simp only [List.map_cons, List.map_nil, ae_ev_k, ev_s (ρ := [a1, a2, a3]) (k := 0) (x := a1) rfl, ev_s (ρ := [a1, a2, a3]) (k := 1) (x := a2) rfl, ev_s (ρ := [a1, a2, a3]) (k := 2) (x := a3) rfl]) (by rfl) ha).weaken (Nat.le_refl _) (Nat.le_refl _) (Nat.le_refl _) (fun v w h => ?_)
    · simp only [sr_b2, List.mem_cons, List.not_mem_nil, or_false] at hf
      rcases hf with rfl <;> (simp only [ae_ev, ae_el, ae_s, List.getD_cons_zero, List.getD_cons_succ]; omega)
    · obtain ⟨z, e1, e3, e4, e5, e6, e7, e8⟩ := h
      exact ⟨z, e1, e3, e4, e5, ⟨e7, fun c hc => e6 c (fun q hq => by cases hq)⟩, Or.inl ⟨by omega, e8⟩⟩
  by_cases b3 : 5 ≤ a2
  · refine (lz_go hf hT a5 a6 a7 (t := sr_b3) (ρ := [a1, a2, a3]) (self := 99) (es := [ae_s 0, ae_s 1, ae_s 2]) (xs := [ae_k a1, ae_k a2, ae_k a3]) (by decide) sr_b3_k ⟨⟨by omega, by omega⟩, x2, x3, trivial⟩ (by rfl) (fun f hf => ?_) aHh.nil rfl (by simp only [List.map_cons, List.map_nil, ae_ev_k, ev_s (ρ := [a1, a2, a3]) (k := 0) (x := a1) rfl, ev_s (ρ := [a1, a2, a3]) (k := 1) (x := a2) rfl, ev_s (ρ := [a1, a2, a3]) (k := 2) (x := a3) rfl]) (by rfl) ha).weaken (Nat.le_refl _) (Nat.le_refl _) (Nat.le_refl _) (fun v w h => ?_)
    · simp only [sr_b3, List.mem_cons, List.not_mem_nil, or_false] at hf
      rcases hf with rfl <;> (simp only [ae_ev, ae_el, ae_s, List.getD_cons_zero, List.getD_cons_succ]; omega)
    · obtain ⟨z, e1, e3, e4, e5, e6, e7, e8⟩ := h
      exact ⟨z, e1, e3, e4, e5, ⟨e7, fun c hc => e6 c (fun q hq => by cases hq)⟩, Or.inl ⟨by omega, e8⟩⟩
  by_cases be : a1 = a2
  · subst be
    refine (lz_go hf hT a5 a6 a7 (t := sr_e) (ρ := [a1, a3]) (self := 99) (es := [ae_s 0, ae_s 0, ae_s 1]) (xs := [ae_k a1, ae_k a1, ae_k a3]) (by decide) sr_e_k ⟨⟨by omega, by omega⟩, x3, trivial⟩ (by rfl) (fun f hf => ?_) aHh.nil rfl (by simp only [List.map_cons, List.map_nil, ae_ev_k, ev_s (ρ := [a1, a3]) (k := 0) (x := a1) rfl, ev_s (ρ := [a1, a3]) (k := 1) (x := a3) rfl]) (by rfl) ha).weaken (Nat.le_refl _) (Nat.le_refl _) (Nat.le_refl _) (fun v w h => ?_)
    · cases hf
    · obtain ⟨z, e1, e3, e4, e5, e6, e7, e8⟩ := h
      exact ⟨z, e1, e3, e4, e5, ⟨e7, fun c hc => e6 c (fun q hq => by cases hq)⟩, Or.inl ⟨by omega, e8⟩⟩
  by_cases lt : a1 < a2
  · by_cases v0 : a3 ≤ -1
    · refine (lz_go hf hT a5 a6 a7 (t := sr_v00) (ρ := [a1, a2, a3]) (self := 99) (es := [ae_s 0, ae_s 1, ae_s 2]) (xs := [ae_k a1, ae_k a2, ae_k a3]) (by decide) sr_v00_k ⟨⟨by omega, by omega⟩, ⟨by omega, by omega⟩, x3, trivial⟩ (by rfl) (fun f hf => ?_) aHh.nil rfl (by simp only [List.map_cons, List.map_nil, ae_ev_k, ev_s (ρ := [a1, a2, a3]) (k := 0) (x := a1) rfl, ev_s (ρ := [a1, a2, a3]) (k := 1) (x := a2) rfl, ev_s (ρ := [a1, a2, a3]) (k := 2) (x := a3) rfl]) (by rfl) ha).weaken (Nat.le_refl _) (Nat.le_refl _) (Nat.le_refl _) (fun v w h => ?_)
      · simp only [sr_v00, List.mem_cons, List.not_mem_nil, or_false] at hf
        rcases hf with rfl | rfl <;> (simp only [ae_ev, ae_el, ae_s, List.getD_cons_zero, List.getD_cons_succ]; omega)
      · obtain ⟨z, e1, e3, e4, e5, e6, e7, e8⟩ := h
        exact ⟨z, e1, e3, e4, e5, ⟨e7, fun c hc => e6 c (fun q hq => by cases hq)⟩, Or.inl ⟨by omega, e8⟩⟩
    by_cases v1 : 1000 ≤ a3
    · refine (lz_go hf hT a5 a6 a7 (t := sr_v01) (ρ := [a1, a2, a3]) (self := 99) (es := [ae_s 0, ae_s 1, ae_s 2]) (xs := [ae_k a1, ae_k a2, ae_k a3]) (by decide) sr_v01_k ⟨⟨by omega, by omega⟩, ⟨by omega, by omega⟩, x3, trivial⟩ (by rfl) (fun f hf => ?_) aHh.nil rfl (by simp only [List.map_cons, List.map_nil, ae_ev_k, ev_s (ρ := [a1, a2, a3]) (k := 0) (x := a1) rfl, ev_s (ρ := [a1, a2, a3]) (k := 1) (x := a2) rfl, ev_s (ρ := [a1, a2, a3]) (k := 2) (x := a3) rfl]) (by rfl) ha).weaken (Nat.le_refl _) (Nat.le_refl _) (Nat.le_refl _) (fun v w h => ?_)
      · simp only [sr_v01, List.mem_cons, List.not_mem_nil, or_false] at hf
        rcases hf with rfl | rfl <;> (simp only [ae_ev, ae_el, ae_s, List.getD_cons_zero, List.getD_cons_succ]; omega)
      · obtain ⟨z, e1, e3, e4, e5, e6, e7, e8⟩ := h
        exact ⟨z, e1, e3, e4, e5, ⟨e7, fun c hc => e6 c (fun q hq => by cases hq)⟩, Or.inl ⟨by omega, e8⟩⟩
    have sl : aSl ws 115 (5 * a1.toNat + a2.toNat) (jS ws 115 (5 * a1.toNat + a2.toNat)) := jLay_sl a5 (jL115_25 _ (by omega))
    refine (lz_go hf hT a5 a6 a7 (t := sr_t0) (ρ := [a1, a2, a3, jS ws 115 (5 * a1.toNat + a2.toNat)]) (self := 99) (es := [ae_s 0, ae_s 1, ae_s 2]) (xs := [ae_k a1, ae_k a2, ae_k a3]) (by decide) sr_t0_k ⟨⟨by omega, by omega⟩, ⟨by omega, by omega⟩, ⟨by omega, by omega⟩, sl.i32, trivial⟩ (by rfl) (fun f hf => ?_) (aHh.cons (kns (by decide) rfl rfl (i := 5 * a1.toNat + a2.toNat) (by simp only [ae_ev, ae_el, ae_s, List.getD_cons_zero, List.getD_cons_succ]; omega) (ev_s rfl) sl) aHh.nil) rfl (by simp only [List.map_cons, List.map_nil, ae_ev_k, ev_s (ρ := [a1, a2, a3, jS ws 115 (5 * a1.toNat + a2.toNat)]) (k := 0) (x := a1) rfl, ev_s (ρ := [a1, a2, a3, jS ws 115 (5 * a1.toNat + a2.toNat)]) (k := 1) (x := a2) rfl, ev_s (ρ := [a1, a2, a3, jS ws 115 (5 * a1.toNat + a2.toNat)]) (k := 2) (x := a3) rfl, ev_s (ρ := [a1, a2, a3, jS ws 115 (5 * a1.toNat + a2.toNat)]) (k := 3) (x := jS ws 115 (5 * a1.toNat + a2.toNat)) rfl]) (by rfl) ha).weaken (Nat.le_refl _) (Nat.le_refl _) (Nat.le_refl _) (fun v w h => ?_)
    · simp only [sr_t0, List.mem_cons, List.not_mem_nil, or_false] at hf
      rcases hf with rfl <;> (simp only [ae_ev, ae_el, ae_s, List.getD_cons_zero, List.getD_cons_succ]; omega)
    · obtain ⟨z, e1, e3, e4, e5, e6, e7, e8⟩ := h
      refine ⟨z, e1, e3, e4, e5, ⟨e7, fun c hc => e6 c (fun q hq => ?_)⟩, Or.inr ⟨by omega, fun k => ?_⟩⟩
      · simp only [sr_t0, List.mem_cons, List.not_mem_nil, or_false] at hq
        rcases hq with rfl | rfl <;> (simp only [List.mem_cons, List.not_mem_nil, or_false, not_or] at hc; dsimp only; omega)
      · rw [e8 115 k]
        simp [sr_t0, lg_ap, ae_ev, ae_el, ae_k, ae_s]
        have q1 : (5 * a1 + a2).toNat = 5 * a1.toNat + a2.toNat := by omega
        have q2 : (a1 + 5 * a2).toNat = 5 * a2.toNat + a1.toNat := by omega
        have q3 : (5 * a2 + a1).toNat = 5 * a2.toNat + a1.toNat := by omega
        simp only [q1, q2, q3]
        by_cases h1 : k = 5 * a1.toNat + a2.toNat
        · simp [h1]
        · by_cases h2 : k = 5 * a2.toNat + a1.toNat
          · simp [h2]
          · simp [h1, h2]
  · by_cases v0 : a3 ≤ -1
    · refine (lz_go hf hT a5 a6 a7 (t := sr_v10) (ρ := [a1, a2, a3]) (self := 99) (es := [ae_s 0, ae_s 1, ae_s 2]) (xs := [ae_k a1, ae_k a2, ae_k a3]) (by decide) sr_v10_k ⟨⟨by omega, by omega⟩, ⟨by omega, by omega⟩, x3, trivial⟩ (by rfl) (fun f hf => ?_) aHh.nil rfl (by simp only [List.map_cons, List.map_nil, ae_ev_k, ev_s (ρ := [a1, a2, a3]) (k := 0) (x := a1) rfl, ev_s (ρ := [a1, a2, a3]) (k := 1) (x := a2) rfl, ev_s (ρ := [a1, a2, a3]) (k := 2) (x := a3) rfl]) (by rfl) ha).weaken (Nat.le_refl _) (Nat.le_refl _) (Nat.le_refl _) (fun v w h => ?_)
      · simp only [sr_v10, List.mem_cons, List.not_mem_nil, or_false] at hf
        rcases hf with rfl | rfl <;> (simp only [ae_ev, ae_el, ae_s, List.getD_cons_zero, List.getD_cons_succ]; omega)
      · obtain ⟨z, e1, e3, e4, e5, e6, e7, e8⟩ := h
        exact ⟨z, e1, e3, e4, e5, ⟨e7, fun c hc => e6 c (fun q hq => by cases hq)⟩, Or.inl ⟨by omega, e8⟩⟩
    by_cases v1 : 1000 ≤ a3
    · refine (lz_go hf hT a5 a6 a7 (t := sr_v11) (ρ := [a1, a2, a3]) (self := 99) (es := [ae_s 0, ae_s 1, ae_s 2]) (xs := [ae_k a1, ae_k a2, ae_k a3]) (by decide) sr_v11_k ⟨⟨by omega, by omega⟩, ⟨by omega, by omega⟩, x3, trivial⟩ (by rfl) (fun f hf => ?_) aHh.nil rfl (by simp only [List.map_cons, List.map_nil, ae_ev_k, ev_s (ρ := [a1, a2, a3]) (k := 0) (x := a1) rfl, ev_s (ρ := [a1, a2, a3]) (k := 1) (x := a2) rfl, ev_s (ρ := [a1, a2, a3]) (k := 2) (x := a3) rfl]) (by rfl) ha).weaken (Nat.le_refl _) (Nat.le_refl _) (Nat.le_refl _) (fun v w h => ?_)
      · simp only [sr_v11, List.mem_cons, List.not_mem_nil, or_false] at hf
        rcases hf with rfl | rfl <;> (simp only [ae_ev, ae_el, ae_s, List.getD_cons_zero, List.getD_cons_succ]; omega)
      · obtain ⟨z, e1, e3, e4, e5, e6, e7, e8⟩ := h
        exact ⟨z, e1, e3, e4, e5, ⟨e7, fun c hc => e6 c (fun q hq => by cases hq)⟩, Or.inl ⟨by omega, e8⟩⟩
    have sl : aSl ws 115 (5 * a1.toNat + a2.toNat) (jS ws 115 (5 * a1.toNat + a2.toNat)) := jLay_sl a5 (jL115_25 _ (by omega))
    refine (lz_go hf hT a5 a6 a7 (t := sr_t1) (ρ := [a1, a2, a3, jS ws 115 (5 * a1.toNat + a2.toNat)]) (self := 99) (es := [ae_s 0, ae_s 1, ae_s 2]) (xs := [ae_k a1, ae_k a2, ae_k a3]) (by decide) sr_t1_k ⟨⟨by omega, by omega⟩, ⟨by omega, by omega⟩, ⟨by omega, by omega⟩, sl.i32, trivial⟩ (by rfl) (fun f hf => ?_) (aHh.cons (kns (by decide) rfl rfl (i := 5 * a1.toNat + a2.toNat) (by simp only [ae_ev, ae_el, ae_s, List.getD_cons_zero, List.getD_cons_succ]; omega) (ev_s rfl) sl) aHh.nil) rfl (by simp only [List.map_cons, List.map_nil, ae_ev_k, ev_s (ρ := [a1, a2, a3, jS ws 115 (5 * a1.toNat + a2.toNat)]) (k := 0) (x := a1) rfl, ev_s (ρ := [a1, a2, a3, jS ws 115 (5 * a1.toNat + a2.toNat)]) (k := 1) (x := a2) rfl, ev_s (ρ := [a1, a2, a3, jS ws 115 (5 * a1.toNat + a2.toNat)]) (k := 2) (x := a3) rfl, ev_s (ρ := [a1, a2, a3, jS ws 115 (5 * a1.toNat + a2.toNat)]) (k := 3) (x := jS ws 115 (5 * a1.toNat + a2.toNat)) rfl]) (by rfl) ha).weaken (Nat.le_refl _) (Nat.le_refl _) (Nat.le_refl _) (fun v w h => ?_)
    · simp only [sr_t1, List.mem_cons, List.not_mem_nil, or_false] at hf
      rcases hf with rfl <;> (simp only [ae_ev, ae_el, ae_s, List.getD_cons_zero, List.getD_cons_succ]; omega)
    · obtain ⟨z, e1, e3, e4, e5, e6, e7, e8⟩ := h
      refine ⟨z, e1, e3, e4, e5, ⟨e7, fun c hc => e6 c (fun q hq => ?_)⟩, Or.inr ⟨by omega, fun k => ?_⟩⟩
      · simp only [sr_t1, List.mem_cons, List.not_mem_nil, or_false] at hq
        rcases hq with rfl | rfl <;> (simp only [List.mem_cons, List.not_mem_nil, or_false, not_or] at hc; dsimp only; omega)
      · rw [e8 115 k]
        simp [sr_t1, lg_ap, ae_ev, ae_el, ae_k, ae_s]
        have q1 : (5 * a1 + a2).toNat = 5 * a1.toNat + a2.toNat := by omega
        have q2 : (a1 + 5 * a2).toNat = 5 * a2.toNat + a1.toNat := by omega
        have q3 : (5 * a2 + a1).toNat = 5 * a2.toNat + a1.toNat := by omega
        simp only [q1, q2, q3]
        by_cases h1 : k = 5 * a1.toNat + a2.toNat
        · simp [h1]
        · by_cases h2 : k = 5 * a2.toNat + a1.toNat
          · simp [h2]
          · simp [h1, h2]
end SA
/-! RATES, by their logs -/
section RA
variable {E : mj_E} {Q : Option Value → va_W → Prop} {al : List Nat} {ws w : va_W} {ρ : List Int}
def tc_b0 : lzT := ([aF, aF, aF, aF], [([(0, 1)], 1)], [.inr (0, 0), .inl (ae_s 0), .inl (ae_s 1), .inl (ae_s 2), .inl (ae_s 3)], [], [])
def tc_b1 : lzT := ([aF, aF, aF, aF], [([(0, (-1))], 5)], [.inr (0, 0), .inl (ae_s 0), .inl (ae_s 1), .inl (ae_s 2), .inl (ae_s 3)], [], [])
def tc_b2 : lzT := ([(0, 4), aF, aF, aF], [([(1, 1)], 1)], [.inr (0, 0), .inl (ae_s 0), .inl (ae_s 1), .inl (ae_s 2), .inl (ae_s 3)], [], [])
def tc_b3 : lzT := ([(0, 4), aF, aF, aF], [([(1, (-1))], 3)], [.inr (0, 0), .inl (ae_s 0), .inl (ae_s 1), .inl (ae_s 2), .inl (ae_s 3)], [], [])
def tc_b4 : lzT := ([(0, 4), (0, 2), aF, aF], [([(2, 1)], 1)], [.inr (0, 0), .inl (ae_s 0), .inl (ae_s 1), .inl (ae_s 2), .inl (ae_s 3)], [], [])
def tc_b5 : lzT := ([(0, 4), (0, 2), aF, aF], [([(2, (-1))], 3)], [.inr (0, 0), .inl (ae_s 0), .inl (ae_s 1), .inl (ae_s 2), .inl (ae_s 3)], [], [])
def tc_e : lzT := ([(0, 4), (0, 2), aF], [], [.inr (0, 0), .inl (ae_s 0), .inl (ae_s 1), .inl (ae_s 1), .inl (ae_s 2)], [], [])
def tc_v00 : lzT := ([(0, 4), (0, 2), (0, 2), aF], [([(1, 1), (2, (-1))], 1), ae_s 3], [.inr (0, 0), .inl (ae_s 0), .inl (ae_s 1), .inl (ae_s 2), .inl (ae_s 3)], [], [])
def tc_v01 : lzT := ([(0, 4), (0, 2), (0, 2), aF], [([(1, 1), (2, (-1))], 1), ([(3, (-1))], 3001)], [.inr (0, 0), .inl (ae_s 0), .inl (ae_s 1), .inl (ae_s 2), .inl (ae_s 3)], [], [])
def tc_t0 : lzT := ([(0, 4), (0, 2), (0, 2), (1, 3000), aF], [([(1, 1), (2, (-1))], 1)], [.inr (0, 0), .inl (ae_s 0), .inl (ae_s 1), .inl (ae_s 2), .inl (ae_s 3)], [((31, ([(0, 9), (1, 3), (2, 1)], 0)), ae_s 4)], [(31, some (([(0, 9), (1, 3), (2, 1)], 0), ae_s 3))])
def tc_v10 : lzT := ([(0, 4), (0, 2), (0, 2), aF], [([(1, (-1)), (2, 1)], 1), ae_s 3], [.inr (0, 0), .inl (ae_s 0), .inl (ae_s 1), .inl (ae_s 2), .inl (ae_s 3)], [], [])
def tc_v11 : lzT := ([(0, 4), (0, 2), (0, 2), aF], [([(1, (-1)), (2, 1)], 1), ([(3, (-1))], 3001)], [.inr (0, 0), .inl (ae_s 0), .inl (ae_s 1), .inl (ae_s 2), .inl (ae_s 3)], [], [])
def tc_t1 : lzT := ([(0, 4), (0, 2), (0, 2), (1, 3000), aF], [([(1, (-1)), (2, 1)], 1)], [.inr (0, 0), .inl (ae_s 0), .inl (ae_s 1), .inl (ae_s 2), .inl (ae_s 3)], [((31, ([(0, 9), (1, 3), (2, 1)], 0)), ae_s 4)], [(31, some (([(0, 9), (1, 3), (2, 1)], 0), ae_s 3))])
section
set_option maxRecDepth 100000
theorem tc_b0_k : lz_chk (aG00 []) 85 106 tc_b0 = true := by decide +kernel
theorem tc_b1_k : lz_chk (aG00 []) 85 106 tc_b1 = true := by decide +kernel
theorem tc_b2_k : lz_chk (aG00 []) 85 106 tc_b2 = true := by decide +kernel
theorem tc_b3_k : lz_chk (aG00 []) 85 106 tc_b3 = true := by decide +kernel
theorem tc_b4_k : lz_chk (aG00 []) 85 106 tc_b4 = true := by decide +kernel
theorem tc_b5_k : lz_chk (aG00 []) 85 106 tc_b5 = true := by decide +kernel
theorem tc_e_k : lz_chk (aG00 []) 85 106 tc_e = true := by decide +kernel
theorem tc_v00_k : lz_chk (aG00 []) 85 106 tc_v00 = true := by decide +kernel
theorem tc_v01_k : lz_chk (aG00 []) 85 106 tc_v01 = true := by decide +kernel
theorem tc_t0_k : lz_chk (aG00 []) 85 106 tc_t0 = true := by decide +kernel
theorem tc_v10_k : lz_chk (aG00 []) 85 106 tc_v10 = true := by decide +kernel
theorem tc_v11_k : lz_chk (aG00 []) 85 106 tc_v11 = true := by decide +kernel
theorem tc_t1_k : lz_chk (aG00 []) 85 106 tc_t1 = true := by decide +kernel
end
theorem jL31_45 : ∀ k, k < 45 → (jLay 31 k).isSome = true := by decide +kernel
theorem tc_mj (hf : E.2.2.2.1.category = 1) (hT : ∀ σ : List Int, aTb E σ aTabs) (a5 : aWd E al aLay ws) (a6 : aRs aRules ws) (a7 : jJ0 ws) {a1 a2 a3 a4 : Int} (x1 : aI0 ≤ a1 ∧ a1 ≤ aI1) (x2 : aI0 ≤ a2 ∧ a2 ≤ aI1) (x3 : aI0 ≤ a3 ∧ a3 ≤ aI1) (x4 : aI0 ≤ a4 ∧ a4 ≤ aI1) {AS : List Value} (ha : gL E al [] (.inr (0, 0) :: [ae_k a1, ae_k a2, ae_k a3, ae_k a4].map .inl) AS) :
    MJ E 85 0 0 (mj_in0 106 AS ws) (fun v w => ∃ z : Int32, v = some (.int z) ∧ aWd E al aLay w ∧ aRs aRules w ∧ jJ0 w ∧ hD [31] ws w ∧ ((¬ (0 ≤ a1 ∧ a1 ≤ 4 ∧ 0 ≤ a2 ∧ a2 ≤ 2 ∧ 0 ≤ a3 ∧ a3 ≤ 2 ∧ ¬ a2 = a3 ∧ 1 ≤ a4 ∧ a4 ≤ 3000) ∧ ∀ c k, jS w c k = jS ws c k) ∨ ((0 ≤ a1 ∧ a1 ≤ 4 ∧ 0 ≤ a2 ∧ a2 ≤ 2 ∧ 0 ≤ a3 ∧ a3 ≤ 2 ∧ ¬ a2 = a3 ∧ 1 ≤ a4 ∧ a4 ≤ 3000) ∧ ∀ k, jS w 31 k = if k = 9 * a1.toNat + 3 * a2.toNat + a3.toNat then a4 else jS ws 31 k))) := by
  by_cases b0 : a1 ≤ -1
  · refine (lz_go hf hT a5 a6 a7 (t := tc_b0) (ρ := [a1, a2, a3, a4]) (self := 0) (es := [ae_s 0, ae_s 1, ae_s 2, ae_s 3]) (xs := [ae_k a1, ae_k a2, ae_k a3, ae_k a4]) (by decide) tc_b0_k ⟨x1, x2, x3, x4, trivial⟩ (by rfl) (fun f hf => ?_) aHh.nil rfl (by simp only [List.map_cons, List.map_nil, ae_ev_k, ev_s (ρ := [a1, a2, a3, a4]) (k := 0) (x := a1) rfl, ev_s (ρ := [a1, a2, a3, a4]) (k := 1) (x := a2) rfl, ev_s (ρ := [a1, a2, a3, a4]) (k := 2) (x := a3) rfl, ev_s (ρ := [a1, a2, a3, a4]) (k := 3) (x := a4) rfl]) (by rfl) ha).weaken (Nat.le_refl _) (Nat.le_refl _) (Nat.le_refl _) (fun v w h => ?_)
    · simp only [tc_b0, List.mem_cons, List.not_mem_nil, or_false] at hf
      rcases hf with rfl <;> (simp only [ae_ev, ae_el, ae_s, List.getD_cons_zero, List.getD_cons_succ]; omega)
    · obtain ⟨z, e1, e3, e4, e5, e6, e7, e8⟩ := h
      exact ⟨z, e1, e3, e4, e5, ⟨e7, fun c hc => e6 c (fun q hq => by cases hq)⟩, Or.inl ⟨by omega, e8⟩⟩
  by_cases b1 : 5 ≤ a1
  · refine (lz_go hf hT a5 a6 a7 (t := tc_b1) (ρ := [a1, a2, a3, a4]) (self := 0) (es := [ae_s 0, ae_s 1, ae_s 2, ae_s 3]) (xs := [ae_k a1, ae_k a2, ae_k a3, ae_k a4]) (by decide) tc_b1_k ⟨x1, x2, x3, x4, trivial⟩ (by rfl) (fun f hf => ?_) aHh.nil rfl (by simp only [List.map_cons, List.map_nil, ae_ev_k, ev_s (ρ := [a1, a2, a3, a4]) (k := 0) (x := a1) rfl, ev_s (ρ := [a1, a2, a3, a4]) (k := 1) (x := a2) rfl, ev_s (ρ := [a1, a2, a3, a4]) (k := 2) (x := a3) rfl, ev_s (ρ := [a1, a2, a3, a4]) (k := 3) (x := a4) rfl]) (by rfl) ha).weaken (Nat.le_refl _) (Nat.le_refl _) (Nat.le_refl _) (fun v w h => ?_)
    · simp only [tc_b1, List.mem_cons, List.not_mem_nil, or_false] at hf
      rcases hf with rfl <;> (simp only [ae_ev, ae_el, ae_s, List.getD_cons_zero, List.getD_cons_succ]; omega)
    · obtain ⟨z, e1, e3, e4, e5, e6, e7, e8⟩ := h
      exact ⟨z, e1, e3, e4, e5, ⟨e7, fun c hc => e6 c (fun q hq => by cases hq)⟩, Or.inl ⟨by omega, e8⟩⟩
  by_cases b2 : a2 ≤ -1
  · refine (lz_go hf hT a5 a6 a7 (t := tc_b2) (ρ := [a1, a2, a3, a4]) (self := 0) (es := [ae_s 0, ae_s 1, ae_s 2, ae_s 3]) (xs := [ae_k a1, ae_k a2, ae_k a3, ae_k a4]) (by decide) tc_b2_k ⟨⟨by omega, by omega⟩, x2, x3, x4, trivial⟩ (by rfl) (fun f hf => ?_) aHh.nil rfl (by simp only [List.map_cons, List.map_nil, ae_ev_k, ev_s (ρ := [a1, a2, a3, a4]) (k := 0) (x := a1) rfl, ev_s (ρ := [a1, a2, a3, a4]) (k := 1) (x := a2) rfl, ev_s (ρ := [a1, a2, a3, a4]) (k := 2) (x := a3) rfl, ev_s (ρ := [a1, a2, a3, a4]) (k := 3) (x := a4) rfl]) (by rfl) ha).weaken (Nat.le_refl _) (Nat.le_refl _) (Nat.le_refl _) (fun v w h => ?_)
    · simp only [tc_b2, List.mem_cons, List.not_mem_nil, or_false] at hf
      rcases hf with rfl <;> (simp only [ae_ev, ae_el, ae_s, List.getD_cons_zero, List.getD_cons_succ]; omega)
    · obtain ⟨z, e1, e3, e4, e5, e6, e7, e8⟩ := h
      exact ⟨z, e1, e3, e4, e5, ⟨e7, fun c hc => e6 c (fun q hq => by cases hq)⟩, Or.inl ⟨by omega, e8⟩⟩
  by_cases b3 : 3 ≤ a2
  · refine (lz_go hf hT a5 a6 a7 (t := tc_b3) (ρ := [a1, a2, a3, a4]) (self := 0) (es := [ae_s 0, ae_s 1, ae_s 2, ae_s 3]) (xs := [ae_k a1, ae_k a2, ae_k a3, ae_k a4]) (by decide) tc_b3_k ⟨⟨by omega, by omega⟩, x2, x3, x4, trivial⟩ (by rfl) (fun f hf => ?_) aHh.nil rfl (by simp only [List.map_cons, List.map_nil, ae_ev_k, ev_s (ρ := [a1, a2, a3, a4]) (k := 0) (x := a1) rfl, ev_s (ρ := [a1, a2, a3, a4]) (k := 1) (x := a2) rfl, ev_s (ρ := [a1, a2, a3, a4]) (k := 2) (x := a3) rfl, ev_s (ρ := [a1, a2, a3, a4]) (k := 3) (x := a4) rfl]) (by rfl) ha).weaken (Nat.le_refl _) (Nat.le_refl _) (Nat.le_refl _) (fun v w h => ?_)
    · simp only [tc_b3, List.mem_cons, List.not_mem_nil, or_false] at hf
      rcases hf with rfl <;> (simp only [ae_ev, ae_el, ae_s, List.getD_cons_zero, List.getD_cons_succ]; omega)
    · obtain ⟨z, e1, e3, e4, e5, e6, e7, e8⟩ := h
      exact ⟨z, e1, e3, e4, e5, ⟨e7, fun c hc => e6 c (fun q hq => by cases hq)⟩, Or.inl ⟨by omega, e8⟩⟩
  by_cases b4 : a3 ≤ -1
  · refine (lz_go hf hT a5 a6 a7 (t := tc_b4) (ρ := [a1, a2, a3, a4]) (self := 0) (es := [ae_s 0, ae_s 1, ae_s 2, ae_s 3]) (xs := [ae_k a1, ae_k a2, ae_k a3, ae_k a4]) (by decide) tc_b4_k ⟨⟨by omega, by omega⟩, ⟨by omega, by omega⟩, x3, x4, trivial⟩ (by rfl) (fun f hf => ?_) aHh.nil rfl (by simp only [List.map_cons, List.map_nil, ae_ev_k, ev_s (ρ := [a1, a2, a3, a4]) (k := 0) (x := a1) rfl, ev_s (ρ := [a1, a2, a3, a4]) (k := 1) (x := a2) rfl, ev_s (ρ := [a1, a2, a3, a4]) (k := 2) (x := a3) rfl, ev_s (ρ := [a1, a2, a3, a4]) (k := 3) (x := a4) rfl]) (by rfl) ha).weaken (Nat.le_refl _) (Nat.le_refl _) (Nat.le_refl _) (fun v w h => ?_)
    · simp only [tc_b4, List.mem_cons, List.not_mem_nil, or_false] at hf
      rcases hf with rfl <;> (simp only [ae_ev, ae_el, ae_s, List.getD_cons_zero, List.getD_cons_succ]; omega)
    · obtain ⟨z, e1, e3, e4, e5, e6, e7, e8⟩ := h
      exact ⟨z, e1, e3, e4, e5, ⟨e7, fun c hc => e6 c (fun q hq => by cases hq)⟩, Or.inl ⟨by omega, e8⟩⟩
  by_cases b5 : 3 ≤ a3
  · refine (lz_go hf hT a5 a6 a7 (t := tc_b5) (ρ := [a1, a2, a3, a4]) (self := 0) (es := [ae_s 0, ae_s 1, ae_s 2, ae_s 3]) (xs := [ae_k a1, ae_k a2, ae_k a3, ae_k a4]) (by decide) tc_b5_k ⟨⟨by omega, by omega⟩, ⟨by omega, by omega⟩, x3, x4, trivial⟩ (by rfl) (fun f hf => ?_) aHh.nil rfl (by simp only [List.map_cons, List.map_nil, ae_ev_k, ev_s (ρ := [a1, a2, a3, a4]) (k := 0) (x := a1) rfl, ev_s (ρ := [a1, a2, a3, a4]) (k := 1) (x := a2) rfl, ev_s (ρ := [a1, a2, a3, a4]) (k := 2) (x := a3) rfl, ev_s (ρ := [a1, a2, a3, a4]) (k := 3) (x := a4) rfl]) (by rfl) ha).weaken (Nat.le_refl _) (Nat.le_refl _) (Nat.le_refl _) (fun v w h => ?_)
    · simp only [tc_b5, List.mem_cons, List.not_mem_nil, or_false] at hf
      rcases hf with rfl <;> (simp only [ae_ev, ae_el, ae_s, List.getD_cons_zero, List.getD_cons_succ]; omega)
    · obtain ⟨z, e1, e3, e4, e5, e6, e7, e8⟩ := h
      exact ⟨z, e1, e3, e4, e5, ⟨e7, fun c hc => e6 c (fun q hq => by cases hq)⟩, Or.inl ⟨by omega, e8⟩⟩
  by_cases be : a2 = a3
  · subst be
    refine (lz_go hf hT a5 a6 a7 (t := tc_e) (ρ := [a1, a2, a4]) (self := 0) (es := [ae_s 0, ae_s 1, ae_s 1, ae_s 2]) (xs := [ae_k a1, ae_k a2, ae_k a2, ae_k a4]) (by decide) tc_e_k ⟨⟨by omega, by omega⟩, ⟨by omega, by omega⟩, x4, trivial⟩ (by rfl) (fun f hf => ?_) aHh.nil rfl (by simp only [List.map_cons, List.map_nil, ae_ev_k, ev_s (ρ := [a1, a2, a4]) (k := 0) (x := a1) rfl, ev_s (ρ := [a1, a2, a4]) (k := 1) (x := a2) rfl, ev_s (ρ := [a1, a2, a4]) (k := 2) (x := a4) rfl]) (by rfl) ha).weaken (Nat.le_refl _) (Nat.le_refl _) (Nat.le_refl _) (fun v w h => ?_)
    · cases hf
    · obtain ⟨z, e1, e3, e4, e5, e6, e7, e8⟩ := h
      exact ⟨z, e1, e3, e4, e5, ⟨e7, fun c hc => e6 c (fun q hq => by cases hq)⟩, Or.inl ⟨by omega, e8⟩⟩
  by_cases lt : a2 < a3
  · by_cases v0 : a4 ≤ 0
    · refine (lz_go hf hT a5 a6 a7 (t := tc_v00) (ρ := [a1, a2, a3, a4]) (self := 0) (es := [ae_s 0, ae_s 1, ae_s 2, ae_s 3]) (xs := [ae_k a1, ae_k a2, ae_k a3, ae_k a4]) (by decide) tc_v00_k ⟨⟨by omega, by omega⟩, ⟨by omega, by omega⟩, ⟨by omega, by omega⟩, x4, trivial⟩ (by rfl) (fun f hf => ?_) aHh.nil rfl (by simp only [List.map_cons, List.map_nil, ae_ev_k, ev_s (ρ := [a1, a2, a3, a4]) (k := 0) (x := a1) rfl, ev_s (ρ := [a1, a2, a3, a4]) (k := 1) (x := a2) rfl, ev_s (ρ := [a1, a2, a3, a4]) (k := 2) (x := a3) rfl, ev_s (ρ := [a1, a2, a3, a4]) (k := 3) (x := a4) rfl]) (by rfl) ha).weaken (Nat.le_refl _) (Nat.le_refl _) (Nat.le_refl _) (fun v w h => ?_)
      · simp only [tc_v00, List.mem_cons, List.not_mem_nil, or_false] at hf
        rcases hf with rfl | rfl <;> (simp only [ae_ev, ae_el, ae_s, List.getD_cons_zero, List.getD_cons_succ]; omega)
      · obtain ⟨z, e1, e3, e4, e5, e6, e7, e8⟩ := h
        exact ⟨z, e1, e3, e4, e5, ⟨e7, fun c hc => e6 c (fun q hq => by cases hq)⟩, Or.inl ⟨by omega, e8⟩⟩
    by_cases v1 : 3001 ≤ a4
    · refine (lz_go hf hT a5 a6 a7 (t := tc_v01) (ρ := [a1, a2, a3, a4]) (self := 0) (es := [ae_s 0, ae_s 1, ae_s 2, ae_s 3]) (xs := [ae_k a1, ae_k a2, ae_k a3, ae_k a4]) (by decide) tc_v01_k ⟨⟨by omega, by omega⟩, ⟨by omega, by omega⟩, ⟨by omega, by omega⟩, x4, trivial⟩ (by rfl) (fun f hf => ?_) aHh.nil rfl (by simp only [List.map_cons, List.map_nil, ae_ev_k, ev_s (ρ := [a1, a2, a3, a4]) (k := 0) (x := a1) rfl, ev_s (ρ := [a1, a2, a3, a4]) (k := 1) (x := a2) rfl, ev_s (ρ := [a1, a2, a3, a4]) (k := 2) (x := a3) rfl, ev_s (ρ := [a1, a2, a3, a4]) (k := 3) (x := a4) rfl]) (by rfl) ha).weaken (Nat.le_refl _) (Nat.le_refl _) (Nat.le_refl _) (fun v w h => ?_)
      · simp only [tc_v01, List.mem_cons, List.not_mem_nil, or_false] at hf
        rcases hf with rfl | rfl <;> (simp only [ae_ev, ae_el, ae_s, List.getD_cons_zero, List.getD_cons_succ]; omega)
      · obtain ⟨z, e1, e3, e4, e5, e6, e7, e8⟩ := h
        exact ⟨z, e1, e3, e4, e5, ⟨e7, fun c hc => e6 c (fun q hq => by cases hq)⟩, Or.inl ⟨by omega, e8⟩⟩
    have sl : aSl ws 31 (9 * a1.toNat + 3 * a2.toNat + a3.toNat) (jS ws 31 (9 * a1.toNat + 3 * a2.toNat + a3.toNat)) := jLay_sl a5 (jL31_45 _ (by omega))
    refine (lz_go hf hT a5 a6 a7 (t := tc_t0) (ρ := [a1, a2, a3, a4, jS ws 31 (9 * a1.toNat + 3 * a2.toNat + a3.toNat)]) (self := 0) (es := [ae_s 0, ae_s 1, ae_s 2, ae_s 3]) (xs := [ae_k a1, ae_k a2, ae_k a3, ae_k a4]) (by decide) tc_t0_k ⟨⟨by omega, by omega⟩, ⟨by omega, by omega⟩, ⟨by omega, by omega⟩, ⟨by omega, by omega⟩, sl.i32, trivial⟩ (by rfl) (fun f hf => ?_) (aHh.cons (kns (by decide) rfl rfl (i := 9 * a1.toNat + 3 * a2.toNat + a3.toNat) (by simp only [ae_ev, ae_el, ae_s, List.getD_cons_zero, List.getD_cons_succ]; omega) (ev_s rfl) sl) aHh.nil) rfl (by simp only [List.map_cons, List.map_nil, ae_ev_k, ev_s (ρ := [a1, a2, a3, a4, jS ws 31 (9 * a1.toNat + 3 * a2.toNat + a3.toNat)]) (k := 0) (x := a1) rfl, ev_s (ρ := [a1, a2, a3, a4, jS ws 31 (9 * a1.toNat + 3 * a2.toNat + a3.toNat)]) (k := 1) (x := a2) rfl, ev_s (ρ := [a1, a2, a3, a4, jS ws 31 (9 * a1.toNat + 3 * a2.toNat + a3.toNat)]) (k := 2) (x := a3) rfl, ev_s (ρ := [a1, a2, a3, a4, jS ws 31 (9 * a1.toNat + 3 * a2.toNat + a3.toNat)]) (k := 3) (x := a4) rfl, ev_s (ρ := [a1, a2, a3, a4, jS ws 31 (9 * a1.toNat + 3 * a2.toNat + a3.toNat)]) (k := 4) (x := jS ws 31 (9 * a1.toNat + 3 * a2.toNat + a3.toNat)) rfl]) (by rfl) ha).weaken (Nat.le_refl _) (Nat.le_refl _) (Nat.le_refl _) (fun v w h => ?_)
    · simp only [tc_t0, List.mem_cons, List.not_mem_nil, or_false] at hf
      rcases hf with rfl <;> (simp only [ae_ev, ae_el, ae_s, List.getD_cons_zero, List.getD_cons_succ]; omega)
    · obtain ⟨z, e1, e3, e4, e5, e6, e7, e8⟩ := h
      refine ⟨z, e1, e3, e4, e5, ⟨e7, fun c hc => e6 c (fun q hq => ?_)⟩, Or.inr ⟨by omega, fun k => ?_⟩⟩
      · simp only [tc_t0, List.mem_cons, List.not_mem_nil, or_false] at hq
        subst hq
        simp only [List.mem_cons, List.not_mem_nil, or_false, not_or] at hc
        dsimp only
        omega
      · rw [e8 31 k]
        simp [tc_t0, lg_ap, ae_ev, ae_el, ae_k, ae_s]
        have q1 : (9 * a1 + (3 * a2 + a3)).toNat = 9 * a1.toNat + 3 * a2.toNat + a3.toNat := by omega
        have q2 : (9 * a1 + 3 * a2 + a3).toNat = 9 * a1.toNat + 3 * a2.toNat + a3.toNat := by omega
        simp only [q1, q2]
  · by_cases v0 : a4 ≤ 0
    · refine (lz_go hf hT a5 a6 a7 (t := tc_v10) (ρ := [a1, a2, a3, a4]) (self := 0) (es := [ae_s 0, ae_s 1, ae_s 2, ae_s 3]) (xs := [ae_k a1, ae_k a2, ae_k a3, ae_k a4]) (by decide) tc_v10_k ⟨⟨by omega, by omega⟩, ⟨by omega, by omega⟩, ⟨by omega, by omega⟩, x4, trivial⟩ (by rfl) (fun f hf => ?_) aHh.nil rfl (by simp only [List.map_cons, List.map_nil, ae_ev_k, ev_s (ρ := [a1, a2, a3, a4]) (k := 0) (x := a1) rfl, ev_s (ρ := [a1, a2, a3, a4]) (k := 1) (x := a2) rfl, ev_s (ρ := [a1, a2, a3, a4]) (k := 2) (x := a3) rfl, ev_s (ρ := [a1, a2, a3, a4]) (k := 3) (x := a4) rfl]) (by rfl) ha).weaken (Nat.le_refl _) (Nat.le_refl _) (Nat.le_refl _) (fun v w h => ?_)
      · simp only [tc_v10, List.mem_cons, List.not_mem_nil, or_false] at hf
        rcases hf with rfl | rfl <;> (simp only [ae_ev, ae_el, ae_s, List.getD_cons_zero, List.getD_cons_succ]; omega)
      · obtain ⟨z, e1, e3, e4, e5, e6, e7, e8⟩ := h
        exact ⟨z, e1, e3, e4, e5, ⟨e7, fun c hc => e6 c (fun q hq => by cases hq)⟩, Or.inl ⟨by omega, e8⟩⟩
    by_cases v1 : 3001 ≤ a4
    · refine (lz_go hf hT a5 a6 a7 (t := tc_v11) (ρ := [a1, a2, a3, a4]) (self := 0) (es := [ae_s 0, ae_s 1, ae_s 2, ae_s 3]) (xs := [ae_k a1, ae_k a2, ae_k a3, ae_k a4]) (by decide) tc_v11_k ⟨⟨by omega, by omega⟩, ⟨by omega, by omega⟩, ⟨by omega, by omega⟩, x4, trivial⟩ (by rfl) (fun f hf => ?_) aHh.nil rfl (by simp only [List.map_cons, List.map_nil, ae_ev_k, ev_s (ρ := [a1, a2, a3, a4]) (k := 0) (x := a1) rfl, ev_s (ρ := [a1, a2, a3, a4]) (k := 1) (x := a2) rfl, ev_s (ρ := [a1, a2, a3, a4]) (k := 2) (x := a3) rfl, ev_s (ρ := [a1, a2, a3, a4]) (k := 3) (x := a4) rfl]) (by rfl) ha).weaken (Nat.le_refl _) (Nat.le_refl _) (Nat.le_refl _) (fun v w h => ?_)
      · simp only [tc_v11, List.mem_cons, List.not_mem_nil, or_false] at hf
        rcases hf with rfl | rfl <;> (simp only [ae_ev, ae_el, ae_s, List.getD_cons_zero, List.getD_cons_succ]; omega)
      · obtain ⟨z, e1, e3, e4, e5, e6, e7, e8⟩ := h
        exact ⟨z, e1, e3, e4, e5, ⟨e7, fun c hc => e6 c (fun q hq => by cases hq)⟩, Or.inl ⟨by omega, e8⟩⟩
    have sl : aSl ws 31 (9 * a1.toNat + 3 * a2.toNat + a3.toNat) (jS ws 31 (9 * a1.toNat + 3 * a2.toNat + a3.toNat)) := jLay_sl a5 (jL31_45 _ (by omega))
    refine (lz_go hf hT a5 a6 a7 (t := tc_t1) (ρ := [a1, a2, a3, a4, jS ws 31 (9 * a1.toNat + 3 * a2.toNat + a3.toNat)]) (self := 0) (es := [ae_s 0, ae_s 1, ae_s 2, ae_s 3]) (xs := [ae_k a1, ae_k a2, ae_k a3, ae_k a4]) (by decide) tc_t1_k ⟨⟨by omega, by omega⟩, ⟨by omega, by omega⟩, ⟨by omega, by omega⟩, ⟨by omega, by omega⟩, sl.i32, trivial⟩ (by rfl) (fun f hf => ?_) (aHh.cons (kns (by decide) rfl rfl (i := 9 * a1.toNat + 3 * a2.toNat + a3.toNat) (by simp only [ae_ev, ae_el, ae_s, List.getD_cons_zero, List.getD_cons_succ]; omega) (ev_s rfl) sl) aHh.nil) rfl (by simp only [List.map_cons, List.map_nil, ae_ev_k, ev_s (ρ := [a1, a2, a3, a4, jS ws 31 (9 * a1.toNat + 3 * a2.toNat + a3.toNat)]) (k := 0) (x := a1) rfl, ev_s (ρ := [a1, a2, a3, a4, jS ws 31 (9 * a1.toNat + 3 * a2.toNat + a3.toNat)]) (k := 1) (x := a2) rfl, ev_s (ρ := [a1, a2, a3, a4, jS ws 31 (9 * a1.toNat + 3 * a2.toNat + a3.toNat)]) (k := 2) (x := a3) rfl, ev_s (ρ := [a1, a2, a3, a4, jS ws 31 (9 * a1.toNat + 3 * a2.toNat + a3.toNat)]) (k := 3) (x := a4) rfl, ev_s (ρ := [a1, a2, a3, a4, jS ws 31 (9 * a1.toNat + 3 * a2.toNat + a3.toNat)]) (k := 4) (x := jS ws 31 (9 * a1.toNat + 3 * a2.toNat + a3.toNat)) rfl]) (by rfl) ha).weaken (Nat.le_refl _) (Nat.le_refl _) (Nat.le_refl _) (fun v w h => ?_)
    · simp only [tc_t1, List.mem_cons, List.not_mem_nil, or_false] at hf
      rcases hf with rfl <;> (simp only [ae_ev, ae_el, ae_s, List.getD_cons_zero, List.getD_cons_succ]; omega)
    · obtain ⟨z, e1, e3, e4, e5, e6, e7, e8⟩ := h
      refine ⟨z, e1, e3, e4, e5, ⟨e7, fun c hc => e6 c (fun q hq => ?_)⟩, Or.inr ⟨by omega, fun k => ?_⟩⟩
      · simp only [tc_t1, List.mem_cons, List.not_mem_nil, or_false] at hq
        subst hq
        simp only [List.mem_cons, List.not_mem_nil, or_false, not_or] at hc
        dsimp only
        omega
      · rw [e8 31 k]
        simp [tc_t1, lg_ap, ae_ev, ae_el, ae_k, ae_s]
        have q1 : (9 * a1 + (3 * a2 + a3)).toNat = 9 * a1.toNat + 3 * a2.toNat + a3.toNat := by omega
        have q2 : (9 * a1 + 3 * a2 + a3).toNat = 9 * a1.toNat + 3 * a2.toNat + a3.toNat := by omega
        simp only [q1, q2]
def tr_b0 : lzT := ([aF, aF, aF, aF], [([(0, 1)], 1)], [.inr (0, 99), .inl (ae_s 0), .inl (ae_s 1), .inl (ae_s 2), .inl (ae_s 3)], [], [])
def tr_b1 : lzT := ([aF, aF, aF, aF], [([(0, (-1))], 5)], [.inr (0, 99), .inl (ae_s 0), .inl (ae_s 1), .inl (ae_s 2), .inl (ae_s 3)], [], [])
def tr_b2 : lzT := ([(0, 4), aF, aF, aF], [([(1, 1)], 1)], [.inr (0, 99), .inl (ae_s 0), .inl (ae_s 1), .inl (ae_s 2), .inl (ae_s 3)], [], [])
def tr_b3 : lzT := ([(0, 4), aF, aF, aF], [([(1, (-1))], 3)], [.inr (0, 99), .inl (ae_s 0), .inl (ae_s 1), .inl (ae_s 2), .inl (ae_s 3)], [], [])
def tr_b4 : lzT := ([(0, 4), (0, 2), aF, aF], [([(2, 1)], 1)], [.inr (0, 99), .inl (ae_s 0), .inl (ae_s 1), .inl (ae_s 2), .inl (ae_s 3)], [], [])
def tr_b5 : lzT := ([(0, 4), (0, 2), aF, aF], [([(2, (-1))], 3)], [.inr (0, 99), .inl (ae_s 0), .inl (ae_s 1), .inl (ae_s 2), .inl (ae_s 3)], [], [])
def tr_e : lzT := ([(0, 4), (0, 2), aF], [], [.inr (0, 99), .inl (ae_s 0), .inl (ae_s 1), .inl (ae_s 1), .inl (ae_s 2)], [], [])
def tr_v00 : lzT := ([(0, 4), (0, 2), (0, 2), aF], [([(1, 1), (2, (-1))], 1), ae_s 3], [.inr (0, 99), .inl (ae_s 0), .inl (ae_s 1), .inl (ae_s 2), .inl (ae_s 3)], [], [])
def tr_v01 : lzT := ([(0, 4), (0, 2), (0, 2), aF], [([(1, 1), (2, (-1))], 1), ([(3, (-1))], 3001)], [.inr (0, 99), .inl (ae_s 0), .inl (ae_s 1), .inl (ae_s 2), .inl (ae_s 3)], [], [])
def tr_t0 : lzT := ([(0, 4), (0, 2), (0, 2), (1, 3000), aF], [([(1, 1), (2, (-1))], 1)], [.inr (0, 99), .inl (ae_s 0), .inl (ae_s 1), .inl (ae_s 2), .inl (ae_s 3)], [((114, ([(0, 9), (1, 3), (2, 1)], 0)), ae_s 4)], [(114, some (([(0, 9), (1, 3), (2, 1)], 0), ae_s 3))])
def tr_v10 : lzT := ([(0, 4), (0, 2), (0, 2), aF], [([(1, (-1)), (2, 1)], 1), ae_s 3], [.inr (0, 99), .inl (ae_s 0), .inl (ae_s 1), .inl (ae_s 2), .inl (ae_s 3)], [], [])
def tr_v11 : lzT := ([(0, 4), (0, 2), (0, 2), aF], [([(1, (-1)), (2, 1)], 1), ([(3, (-1))], 3001)], [.inr (0, 99), .inl (ae_s 0), .inl (ae_s 1), .inl (ae_s 2), .inl (ae_s 3)], [], [])
def tr_t1 : lzT := ([(0, 4), (0, 2), (0, 2), (1, 3000), aF], [([(1, (-1)), (2, 1)], 1)], [.inr (0, 99), .inl (ae_s 0), .inl (ae_s 1), .inl (ae_s 2), .inl (ae_s 3)], [((114, ([(0, 9), (1, 3), (2, 1)], 0)), ae_s 4)], [(114, some (([(0, 9), (1, 3), (2, 1)], 0), ae_s 3))])
section
set_option maxRecDepth 100000
theorem tr_b0_k : lz_chk (aG00 []) 85 257 tr_b0 = true := by decide +kernel
theorem tr_b1_k : lz_chk (aG00 []) 85 257 tr_b1 = true := by decide +kernel
theorem tr_b2_k : lz_chk (aG00 []) 85 257 tr_b2 = true := by decide +kernel
theorem tr_b3_k : lz_chk (aG00 []) 85 257 tr_b3 = true := by decide +kernel
theorem tr_b4_k : lz_chk (aG00 []) 85 257 tr_b4 = true := by decide +kernel
theorem tr_b5_k : lz_chk (aG00 []) 85 257 tr_b5 = true := by decide +kernel
theorem tr_e_k : lz_chk (aG00 []) 85 257 tr_e = true := by decide +kernel
theorem tr_v00_k : lz_chk (aG00 []) 85 257 tr_v00 = true := by decide +kernel
theorem tr_v01_k : lz_chk (aG00 []) 85 257 tr_v01 = true := by decide +kernel
theorem tr_t0_k : lz_chk (aG00 []) 85 257 tr_t0 = true := by decide +kernel
theorem tr_v10_k : lz_chk (aG00 []) 85 257 tr_v10 = true := by decide +kernel
theorem tr_v11_k : lz_chk (aG00 []) 85 257 tr_v11 = true := by decide +kernel
theorem tr_t1_k : lz_chk (aG00 []) 85 257 tr_t1 = true := by decide +kernel
end
theorem jL114_45 : ∀ k, k < 45 → (jLay 114 k).isSome = true := by decide +kernel
theorem tr_mj (hf : E.2.2.2.1.category = 1) (hT : ∀ σ : List Int, aTb E σ aTabs) (a5 : aWd E al aLay ws) (a6 : aRs aRules ws) (a7 : jJ0 ws) {a1 a2 a3 a4 : Int} (x1 : aI0 ≤ a1 ∧ a1 ≤ aI1) (x2 : aI0 ≤ a2 ∧ a2 ≤ aI1) (x3 : aI0 ≤ a3 ∧ a3 ≤ aI1) (x4 : aI0 ≤ a4 ∧ a4 ≤ aI1) {AS : List Value} (ha : gL E al [] (.inr (0, 99) :: [ae_k a1, ae_k a2, ae_k a3, ae_k a4].map .inl) AS) :
    MJ E 85 0 0 (mj_in0 257 AS ws) (fun v w => ∃ z : Int32, v = some (.int z) ∧ aWd E al aLay w ∧ aRs aRules w ∧ jJ0 w ∧ hD [114] ws w ∧ ((¬ (0 ≤ a1 ∧ a1 ≤ 4 ∧ 0 ≤ a2 ∧ a2 ≤ 2 ∧ 0 ≤ a3 ∧ a3 ≤ 2 ∧ ¬ a2 = a3 ∧ 1 ≤ a4 ∧ a4 ≤ 3000) ∧ ∀ c k, jS w c k = jS ws c k) ∨ ((0 ≤ a1 ∧ a1 ≤ 4 ∧ 0 ≤ a2 ∧ a2 ≤ 2 ∧ 0 ≤ a3 ∧ a3 ≤ 2 ∧ ¬ a2 = a3 ∧ 1 ≤ a4 ∧ a4 ≤ 3000) ∧ ∀ k, jS w 114 k = if k = 9 * a1.toNat + 3 * a2.toNat + a3.toNat then a4 else jS ws 114 k))) := by
  by_cases b0 : a1 ≤ -1
  · refine (lz_go hf hT a5 a6 a7 (t := tr_b0) (ρ := [a1, a2, a3, a4]) (self := 99) (es := [ae_s 0, ae_s 1, ae_s 2, ae_s 3]) (xs := [ae_k a1, ae_k a2, ae_k a3, ae_k a4]) (by decide) tr_b0_k ⟨x1, x2, x3, x4, trivial⟩ (by rfl) (fun f hf => ?_) aHh.nil rfl (by simp only [List.map_cons, List.map_nil, ae_ev_k, ev_s (ρ := [a1, a2, a3, a4]) (k := 0) (x := a1) rfl, ev_s (ρ := [a1, a2, a3, a4]) (k := 1) (x := a2) rfl, ev_s (ρ := [a1, a2, a3, a4]) (k := 2) (x := a3) rfl, ev_s (ρ := [a1, a2, a3, a4]) (k := 3) (x := a4) rfl]) (by rfl) ha).weaken (Nat.le_refl _) (Nat.le_refl _) (Nat.le_refl _) (fun v w h => ?_)
    · simp only [tr_b0, List.mem_cons, List.not_mem_nil, or_false] at hf
      rcases hf with rfl <;> (simp only [ae_ev, ae_el, ae_s, List.getD_cons_zero, List.getD_cons_succ]; omega)
    · obtain ⟨z, e1, e3, e4, e5, e6, e7, e8⟩ := h
      exact ⟨z, e1, e3, e4, e5, ⟨e7, fun c hc => e6 c (fun q hq => by cases hq)⟩, Or.inl ⟨by omega, e8⟩⟩
  by_cases b1 : 5 ≤ a1
  · refine (lz_go hf hT a5 a6 a7 (t := tr_b1) (ρ := [a1, a2, a3, a4]) (self := 99) (es := [ae_s 0, ae_s 1, ae_s 2, ae_s 3]) (xs := [ae_k a1, ae_k a2, ae_k a3, ae_k a4]) (by decide) tr_b1_k ⟨x1, x2, x3, x4, trivial⟩ (by rfl) (fun f hf => ?_) aHh.nil rfl (by simp only [List.map_cons, List.map_nil, ae_ev_k, ev_s (ρ := [a1, a2, a3, a4]) (k := 0) (x := a1) rfl, ev_s (ρ := [a1, a2, a3, a4]) (k := 1) (x := a2) rfl, ev_s (ρ := [a1, a2, a3, a4]) (k := 2) (x := a3) rfl, ev_s (ρ := [a1, a2, a3, a4]) (k := 3) (x := a4) rfl]) (by rfl) ha).weaken (Nat.le_refl _) (Nat.le_refl _) (Nat.le_refl _) (fun v w h => ?_)
    · simp only [tr_b1, List.mem_cons, List.not_mem_nil, or_false] at hf
      rcases hf with rfl <;> (simp only [ae_ev, ae_el, ae_s, List.getD_cons_zero, List.getD_cons_succ]; omega)
    · obtain ⟨z, e1, e3, e4, e5, e6, e7, e8⟩ := h
      exact ⟨z, e1, e3, e4, e5, ⟨e7, fun c hc => e6 c (fun q hq => by cases hq)⟩, Or.inl ⟨by omega, e8⟩⟩
  by_cases b2 : a2 ≤ -1
  · refine (lz_go hf hT a5 a6 a7 (t := tr_b2) (ρ := [a1, a2, a3, a4]) (self := 99) (es := [ae_s 0, ae_s 1, ae_s 2, ae_s 3]) (xs := [ae_k a1, ae_k a2, ae_k a3, ae_k a4]) (by decide) tr_b2_k ⟨⟨by omega, by omega⟩, x2, x3, x4, trivial⟩ (by rfl) (fun f hf => ?_) aHh.nil rfl (by simp only [List.map_cons, List.map_nil, ae_ev_k, ev_s (ρ := [a1, a2, a3, a4]) (k := 0) (x := a1) rfl, ev_s (ρ := [a1, a2, a3, a4]) (k := 1) (x := a2) rfl, ev_s (ρ := [a1, a2, a3, a4]) (k := 2) (x := a3) rfl, ev_s (ρ := [a1, a2, a3, a4]) (k := 3) (x := a4) rfl]) (by rfl) ha).weaken (Nat.le_refl _) (Nat.le_refl _) (Nat.le_refl _) (fun v w h => ?_)
    · simp only [tr_b2, List.mem_cons, List.not_mem_nil, or_false] at hf
      rcases hf with rfl <;> (simp only [ae_ev, ae_el, ae_s, List.getD_cons_zero, List.getD_cons_succ]; omega)
    · obtain ⟨z, e1, e3, e4, e5, e6, e7, e8⟩ := h
      exact ⟨z, e1, e3, e4, e5, ⟨e7, fun c hc => e6 c (fun q hq => by cases hq)⟩, Or.inl ⟨by omega, e8⟩⟩
  by_cases b3 : 3 ≤ a2
  · refine (lz_go hf hT a5 a6 a7 (t := tr_b3) (ρ := [a1, a2, a3, a4]) (self := 99) (es := [ae_s 0, ae_s 1, ae_s 2, ae_s 3]) (xs := [ae_k a1, ae_k a2, ae_k a3, ae_k a4]) (by decide) tr_b3_k ⟨⟨by omega, by omega⟩, x2, x3, x4, trivial⟩ (by rfl) (fun f hf => ?_) aHh.nil rfl (by simp only [List.map_cons, List.map_nil, ae_ev_k, ev_s (ρ := [a1, a2, a3, a4]) (k := 0) (x := a1) rfl, ev_s (ρ := [a1, a2, a3, a4]) (k := 1) (x := a2) rfl, ev_s (ρ := [a1, a2, a3, a4]) (k := 2) (x := a3) rfl, ev_s (ρ := [a1, a2, a3, a4]) (k := 3) (x := a4) rfl]) (by rfl) ha).weaken (Nat.le_refl _) (Nat.le_refl _) (Nat.le_refl _) (fun v w h => ?_)
    · simp only [tr_b3, List.mem_cons, List.not_mem_nil, or_false] at hf
      rcases hf with rfl <;> (simp only [ae_ev, ae_el, ae_s, List.getD_cons_zero, List.getD_cons_succ]; omega)
    · obtain ⟨z, e1, e3, e4, e5, e6, e7, e8⟩ := h
      exact ⟨z, e1, e3, e4, e5, ⟨e7, fun c hc => e6 c (fun q hq => by cases hq)⟩, Or.inl ⟨by omega, e8⟩⟩
  by_cases b4 : a3 ≤ -1
  · refine (lz_go hf hT a5 a6 a7 (t := tr_b4) (ρ := [a1, a2, a3, a4]) (self := 99) (es := [ae_s 0, ae_s 1, ae_s 2, ae_s 3]) (xs := [ae_k a1, ae_k a2, ae_k a3, ae_k a4]) (by decide) tr_b4_k ⟨⟨by omega, by omega⟩, ⟨by omega, by omega⟩, x3, x4, trivial⟩ (by rfl) (fun f hf => ?_) aHh.nil rfl (by simp only [List.map_cons, List.map_nil, ae_ev_k, ev_s (ρ := [a1, a2, a3, a4]) (k := 0) (x := a1) rfl, ev_s (ρ := [a1, a2, a3, a4]) (k := 1) (x := a2) rfl, ev_s (ρ := [a1, a2, a3, a4]) (k := 2) (x := a3) rfl, ev_s (ρ := [a1, a2, a3, a4]) (k := 3) (x := a4) rfl]) (by rfl) ha).weaken (Nat.le_refl _) (Nat.le_refl _) (Nat.le_refl _) (fun v w h => ?_)
    · simp only [tr_b4, List.mem_cons, List.not_mem_nil, or_false] at hf
      rcases hf with rfl <;> (simp only [ae_ev, ae_el, ae_s, List.getD_cons_zero, List.getD_cons_succ]; omega)
    · obtain ⟨z, e1, e3, e4, e5, e6, e7, e8⟩ := h
      exact ⟨z, e1, e3, e4, e5, ⟨e7, fun c hc => e6 c (fun q hq => by cases hq)⟩, Or.inl ⟨by omega, e8⟩⟩
  by_cases b5 : 3 ≤ a3
  · refine (lz_go hf hT a5 a6 a7 (t := tr_b5) (ρ := [a1, a2, a3, a4]) (self := 99) (es := [ae_s 0, ae_s 1, ae_s 2, ae_s 3]) (xs := [ae_k a1, ae_k a2, ae_k a3, ae_k a4]) (by decide) tr_b5_k ⟨⟨by omega, by omega⟩, ⟨by omega, by omega⟩, x3, x4, trivial⟩ (by rfl) (fun f hf => ?_) aHh.nil rfl (by simp only [List.map_cons, List.map_nil, ae_ev_k, ev_s (ρ := [a1, a2, a3, a4]) (k := 0) (x := a1) rfl, ev_s (ρ := [a1, a2, a3, a4]) (k := 1) (x := a2) rfl, ev_s (ρ := [a1, a2, a3, a4]) (k := 2) (x := a3) rfl, ev_s (ρ := [a1, a2, a3, a4]) (k := 3) (x := a4) rfl]) (by rfl) ha).weaken (Nat.le_refl _) (Nat.le_refl _) (Nat.le_refl _) (fun v w h => ?_)
    · simp only [tr_b5, List.mem_cons, List.not_mem_nil, or_false] at hf
      rcases hf with rfl <;> (simp only [ae_ev, ae_el, ae_s, List.getD_cons_zero, List.getD_cons_succ]; omega)
    · obtain ⟨z, e1, e3, e4, e5, e6, e7, e8⟩ := h
      exact ⟨z, e1, e3, e4, e5, ⟨e7, fun c hc => e6 c (fun q hq => by cases hq)⟩, Or.inl ⟨by omega, e8⟩⟩
  by_cases be : a2 = a3
  · subst be
    refine (lz_go hf hT a5 a6 a7 (t := tr_e) (ρ := [a1, a2, a4]) (self := 99) (es := [ae_s 0, ae_s 1, ae_s 1, ae_s 2]) (xs := [ae_k a1, ae_k a2, ae_k a2, ae_k a4]) (by decide) tr_e_k ⟨⟨by omega, by omega⟩, ⟨by omega, by omega⟩, x4, trivial⟩ (by rfl) (fun f hf => ?_) aHh.nil rfl (by simp only [List.map_cons, List.map_nil, ae_ev_k, ev_s (ρ := [a1, a2, a4]) (k := 0) (x := a1) rfl, ev_s (ρ := [a1, a2, a4]) (k := 1) (x := a2) rfl, ev_s (ρ := [a1, a2, a4]) (k := 2) (x := a4) rfl]) (by rfl) ha).weaken (Nat.le_refl _) (Nat.le_refl _) (Nat.le_refl _) (fun v w h => ?_)
    · cases hf
    · obtain ⟨z, e1, e3, e4, e5, e6, e7, e8⟩ := h
      exact ⟨z, e1, e3, e4, e5, ⟨e7, fun c hc => e6 c (fun q hq => by cases hq)⟩, Or.inl ⟨by omega, e8⟩⟩
  by_cases lt : a2 < a3
  · by_cases v0 : a4 ≤ 0
    · refine (lz_go hf hT a5 a6 a7 (t := tr_v00) (ρ := [a1, a2, a3, a4]) (self := 99) (es := [ae_s 0, ae_s 1, ae_s 2, ae_s 3]) (xs := [ae_k a1, ae_k a2, ae_k a3, ae_k a4]) (by decide) tr_v00_k ⟨⟨by omega, by omega⟩, ⟨by omega, by omega⟩, ⟨by omega, by omega⟩, x4, trivial⟩ (by rfl) (fun f hf => ?_) aHh.nil rfl (by simp only [List.map_cons, List.map_nil, ae_ev_k, ev_s (ρ := [a1, a2, a3, a4]) (k := 0) (x := a1) rfl, ev_s (ρ := [a1, a2, a3, a4]) (k := 1) (x := a2) rfl, ev_s (ρ := [a1, a2, a3, a4]) (k := 2) (x := a3) rfl, ev_s (ρ := [a1, a2, a3, a4]) (k := 3) (x := a4) rfl]) (by rfl) ha).weaken (Nat.le_refl _) (Nat.le_refl _) (Nat.le_refl _) (fun v w h => ?_)
      · simp only [tr_v00, List.mem_cons, List.not_mem_nil, or_false] at hf
        rcases hf with rfl | rfl <;> (simp only [ae_ev, ae_el, ae_s, List.getD_cons_zero, List.getD_cons_succ]; omega)
      · obtain ⟨z, e1, e3, e4, e5, e6, e7, e8⟩ := h
        exact ⟨z, e1, e3, e4, e5, ⟨e7, fun c hc => e6 c (fun q hq => by cases hq)⟩, Or.inl ⟨by omega, e8⟩⟩
    by_cases v1 : 3001 ≤ a4
    · refine (lz_go hf hT a5 a6 a7 (t := tr_v01) (ρ := [a1, a2, a3, a4]) (self := 99) (es := [ae_s 0, ae_s 1, ae_s 2, ae_s 3]) (xs := [ae_k a1, ae_k a2, ae_k a3, ae_k a4]) (by decide) tr_v01_k ⟨⟨by omega, by omega⟩, ⟨by omega, by omega⟩, ⟨by omega, by omega⟩, x4, trivial⟩ (by rfl) (fun f hf => ?_) aHh.nil rfl (by simp only [List.map_cons, List.map_nil, ae_ev_k, ev_s (ρ := [a1, a2, a3, a4]) (k := 0) (x := a1) rfl, ev_s (ρ := [a1, a2, a3, a4]) (k := 1) (x := a2) rfl, ev_s (ρ := [a1, a2, a3, a4]) (k := 2) (x := a3) rfl, ev_s (ρ := [a1, a2, a3, a4]) (k := 3) (x := a4) rfl]) (by rfl) ha).weaken (Nat.le_refl _) (Nat.le_refl _) (Nat.le_refl _) (fun v w h => ?_)
      · simp only [tr_v01, List.mem_cons, List.not_mem_nil, or_false] at hf
        rcases hf with rfl | rfl <;> (simp only [ae_ev, ae_el, ae_s, List.getD_cons_zero, List.getD_cons_succ]; omega)
      · obtain ⟨z, e1, e3, e4, e5, e6, e7, e8⟩ := h
        exact ⟨z, e1, e3, e4, e5, ⟨e7, fun c hc => e6 c (fun q hq => by cases hq)⟩, Or.inl ⟨by omega, e8⟩⟩
    have sl : aSl ws 114 (9 * a1.toNat + 3 * a2.toNat + a3.toNat) (jS ws 114 (9 * a1.toNat + 3 * a2.toNat + a3.toNat)) := jLay_sl a5 (jL114_45 _ (by omega))
    refine (lz_go hf hT a5 a6 a7 (t := tr_t0) (ρ := [a1, a2, a3, a4, jS ws 114 (9 * a1.toNat + 3 * a2.toNat + a3.toNat)]) (self := 99) (es := [ae_s 0, ae_s 1, ae_s 2, ae_s 3]) (xs := [ae_k a1, ae_k a2, ae_k a3, ae_k a4]) (by decide) tr_t0_k ⟨⟨by omega, by omega⟩, ⟨by omega, by omega⟩, ⟨by omega, by omega⟩, ⟨by omega, by omega⟩, sl.i32, trivial⟩ (by rfl) (fun f hf => ?_) (aHh.cons (kns (by decide) rfl rfl (i := 9 * a1.toNat + 3 * a2.toNat + a3.toNat) (by simp only [ae_ev, ae_el, ae_s, List.getD_cons_zero, List.getD_cons_succ]; omega) (ev_s rfl) sl) aHh.nil) rfl (by simp only [List.map_cons, List.map_nil, ae_ev_k, ev_s (ρ := [a1, a2, a3, a4, jS ws 114 (9 * a1.toNat + 3 * a2.toNat + a3.toNat)]) (k := 0) (x := a1) rfl, ev_s (ρ := [a1, a2, a3, a4, jS ws 114 (9 * a1.toNat + 3 * a2.toNat + a3.toNat)]) (k := 1) (x := a2) rfl, ev_s (ρ := [a1, a2, a3, a4, jS ws 114 (9 * a1.toNat + 3 * a2.toNat + a3.toNat)]) (k := 2) (x := a3) rfl, ev_s (ρ := [a1, a2, a3, a4, jS ws 114 (9 * a1.toNat + 3 * a2.toNat + a3.toNat)]) (k := 3) (x := a4) rfl, ev_s (ρ := [a1, a2, a3, a4, jS ws 114 (9 * a1.toNat + 3 * a2.toNat + a3.toNat)]) (k := 4) (x := jS ws 114 (9 * a1.toNat + 3 * a2.toNat + a3.toNat)) rfl]) (by rfl) ha).weaken (Nat.le_refl _) (Nat.le_refl _) (Nat.le_refl _) (fun v w h => ?_)
    · simp only [tr_t0, List.mem_cons, List.not_mem_nil, or_false] at hf
      rcases hf with rfl <;> (simp only [ae_ev, ae_el, ae_s, List.getD_cons_zero, List.getD_cons_succ]; omega)
    · obtain ⟨z, e1, e3, e4, e5, e6, e7, e8⟩ := h
      refine ⟨z, e1, e3, e4, e5, ⟨e7, fun c hc => e6 c (fun q hq => ?_)⟩, Or.inr ⟨by omega, fun k => ?_⟩⟩
      · simp only [tr_t0, List.mem_cons, List.not_mem_nil, or_false] at hq
        subst hq
        simp only [List.mem_cons, List.not_mem_nil, or_false, not_or] at hc
        dsimp only
        omega
      · rw [e8 114 k]
        simp [tr_t0, lg_ap, ae_ev, ae_el, ae_k, ae_s]
        have q1 : (9 * a1 + (3 * a2 + a3)).toNat = 9 * a1.toNat + 3 * a2.toNat + a3.toNat := by omega
        have q2 : (9 * a1 + 3 * a2 + a3).toNat = 9 * a1.toNat + 3 * a2.toNat + a3.toNat := by omega
        simp only [q1, q2]
  · by_cases v0 : a4 ≤ 0
    · refine (lz_go hf hT a5 a6 a7 (t := tr_v10) (ρ := [a1, a2, a3, a4]) (self := 99) (es := [ae_s 0, ae_s 1, ae_s 2, ae_s 3]) (xs := [ae_k a1, ae_k a2, ae_k a3, ae_k a4]) (by decide) tr_v10_k ⟨⟨by omega, by omega⟩, ⟨by omega, by omega⟩, ⟨by omega, by omega⟩, x4, trivial⟩ (by rfl) (fun f hf => ?_) aHh.nil rfl (by simp only [List.map_cons, List.map_nil, ae_ev_k, ev_s (ρ := [a1, a2, a3, a4]) (k := 0) (x := a1) rfl, ev_s (ρ := [a1, a2, a3, a4]) (k := 1) (x := a2) rfl, ev_s (ρ := [a1, a2, a3, a4]) (k := 2) (x := a3) rfl, ev_s (ρ := [a1, a2, a3, a4]) (k := 3) (x := a4) rfl]) (by rfl) ha).weaken (Nat.le_refl _) (Nat.le_refl _) (Nat.le_refl _) (fun v w h => ?_)
      · simp only [tr_v10, List.mem_cons, List.not_mem_nil, or_false] at hf
        rcases hf with rfl | rfl <;> (simp only [ae_ev, ae_el, ae_s, List.getD_cons_zero, List.getD_cons_succ]; omega)
      · obtain ⟨z, e1, e3, e4, e5, e6, e7, e8⟩ := h
        exact ⟨z, e1, e3, e4, e5, ⟨e7, fun c hc => e6 c (fun q hq => by cases hq)⟩, Or.inl ⟨by omega, e8⟩⟩
    by_cases v1 : 3001 ≤ a4
    · refine (lz_go hf hT a5 a6 a7 (t := tr_v11) (ρ := [a1, a2, a3, a4]) (self := 99) (es := [ae_s 0, ae_s 1, ae_s 2, ae_s 3]) (xs := [ae_k a1, ae_k a2, ae_k a3, ae_k a4]) (by decide) tr_v11_k ⟨⟨by omega, by omega⟩, ⟨by omega, by omega⟩, ⟨by omega, by omega⟩, x4, trivial⟩ (by rfl) (fun f hf => ?_) aHh.nil rfl (by simp only [List.map_cons, List.map_nil, ae_ev_k, ev_s (ρ := [a1, a2, a3, a4]) (k := 0) (x := a1) rfl, ev_s (ρ := [a1, a2, a3, a4]) (k := 1) (x := a2) rfl, ev_s (ρ := [a1, a2, a3, a4]) (k := 2) (x := a3) rfl, ev_s (ρ := [a1, a2, a3, a4]) (k := 3) (x := a4) rfl]) (by rfl) ha).weaken (Nat.le_refl _) (Nat.le_refl _) (Nat.le_refl _) (fun v w h => ?_)
      · simp only [tr_v11, List.mem_cons, List.not_mem_nil, or_false] at hf
        rcases hf with rfl | rfl <;> (simp only [ae_ev, ae_el, ae_s, List.getD_cons_zero, List.getD_cons_succ]; omega)
      · obtain ⟨z, e1, e3, e4, e5, e6, e7, e8⟩ := h
        exact ⟨z, e1, e3, e4, e5, ⟨e7, fun c hc => e6 c (fun q hq => by cases hq)⟩, Or.inl ⟨by omega, e8⟩⟩
    have sl : aSl ws 114 (9 * a1.toNat + 3 * a2.toNat + a3.toNat) (jS ws 114 (9 * a1.toNat + 3 * a2.toNat + a3.toNat)) := jLay_sl a5 (jL114_45 _ (by omega))
    refine (lz_go hf hT a5 a6 a7 (t := tr_t1) (ρ := [a1, a2, a3, a4, jS ws 114 (9 * a1.toNat + 3 * a2.toNat + a3.toNat)]) (self := 99) (es := [ae_s 0, ae_s 1, ae_s 2, ae_s 3]) (xs := [ae_k a1, ae_k a2, ae_k a3, ae_k a4]) (by decide) tr_t1_k ⟨⟨by omega, by omega⟩, ⟨by omega, by omega⟩, ⟨by omega, by omega⟩, ⟨by omega, by omega⟩, sl.i32, trivial⟩ (by rfl) (fun f hf => ?_) (aHh.cons (kns (by decide) rfl rfl (i := 9 * a1.toNat + 3 * a2.toNat + a3.toNat) (by simp only [ae_ev, ae_el, ae_s, List.getD_cons_zero, List.getD_cons_succ]; omega) (ev_s rfl) sl) aHh.nil) rfl (by simp only [List.map_cons, List.map_nil, ae_ev_k, ev_s (ρ := [a1, a2, a3, a4, jS ws 114 (9 * a1.toNat + 3 * a2.toNat + a3.toNat)]) (k := 0) (x := a1) rfl, ev_s (ρ := [a1, a2, a3, a4, jS ws 114 (9 * a1.toNat + 3 * a2.toNat + a3.toNat)]) (k := 1) (x := a2) rfl, ev_s (ρ := [a1, a2, a3, a4, jS ws 114 (9 * a1.toNat + 3 * a2.toNat + a3.toNat)]) (k := 2) (x := a3) rfl, ev_s (ρ := [a1, a2, a3, a4, jS ws 114 (9 * a1.toNat + 3 * a2.toNat + a3.toNat)]) (k := 3) (x := a4) rfl, ev_s (ρ := [a1, a2, a3, a4, jS ws 114 (9 * a1.toNat + 3 * a2.toNat + a3.toNat)]) (k := 4) (x := jS ws 114 (9 * a1.toNat + 3 * a2.toNat + a3.toNat)) rfl]) (by rfl) ha).weaken (Nat.le_refl _) (Nat.le_refl _) (Nat.le_refl _) (fun v w h => ?_)
    · simp only [tr_t1, List.mem_cons, List.not_mem_nil, or_false] at hf
      rcases hf with rfl <;> (simp only [ae_ev, ae_el, ae_s, List.getD_cons_zero, List.getD_cons_succ]; omega)
    · obtain ⟨z, e1, e3, e4, e5, e6, e7, e8⟩ := h
      refine ⟨z, e1, e3, e4, e5, ⟨e7, fun c hc => e6 c (fun q hq => ?_)⟩, Or.inr ⟨by omega, fun k => ?_⟩⟩
      · simp only [tr_t1, List.mem_cons, List.not_mem_nil, or_false] at hq
        subst hq
        simp only [List.mem_cons, List.not_mem_nil, or_false, not_or] at hc
        dsimp only
        omega
      · rw [e8 114 k]
        simp [tr_t1, lg_ap, ae_ev, ae_el, ae_k, ae_s]
        have q1 : (9 * a1 + (3 * a2 + a3)).toNat = 9 * a1.toNat + 3 * a2.toNat + a3.toNat := by omega
        have q2 : (9 * a1 + 3 * a2 + a3).toNat = 9 * a1.toNat + 3 * a2.toNat + a3.toNat := by omega
        simp only [q1, q2]
end RA
