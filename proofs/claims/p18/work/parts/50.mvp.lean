/-! KEEP AND AGAIN, by hand: a row is kept, a row comes back -/
theorem mv_pw : ∀ q ∈ mvs, aPw [60099] q.1 = true := by decide +kernel
section MVP
variable {J : va_W → Prop} {E : mj_E} {al : List Nat} {ρ σ : List Int} {ws ws0 w w2 : va_W} {Q : Option Value → va_W → Prop}
theorem hOkV (hf : E.2.2.2.1.category = 1) (hT : ∀ σ : List Int, aTb E σ aTabs) (hJ : ∀ w w' : va_W, jS w 99 59 = jS w' 99 59 → J w → J w') : hOk E al gV0 J :=
  ⟨hf, by show aLay.length < 1000000; decide +kernel, rfl, fun w w' h hj => hJ w w' (aE1.s (c := 99) (i := 59) (h _ (by decide +kernel)) (by decide)) hj, (fun c hc => by cases hc), hT⟩
theorem hOkV1 (hf : E.2.2.2.1.category = 1) (hT : ∀ σ : List Int, aTb E σ aTabs) : hOk E al gV1 (fun _ => True) :=
  ⟨hf, by show aLay.length < 1000000; decide +kernel, rfl, fun _ _ _ h => h, (fun c hc => by cases hc), hT⟩
theorem hW.v (h : aWd E al aLay w) (hj : J w) {env : List (Int × Int)} {fs : List ae} {h0 : aH} (h1 : hEv ρ env) (h2 : aFs ρ fs) (h3 : aHh ρ w h0) : hW E al gV0 J ρ env fs h0 w :=
  ⟨h1.ok, h2, h3, h, (fun r hr => by cases hr), hj⟩
theorem mv_J (H : hOk E al gV0 J) {c : Nat} {q : Nat × va_E} (hc : aPw [60099] c = true) (hj : J w) : J (w.set c q) := H.2.2.2.1 _ _ (aPw_ok hc (fun k hk => List.getElem?_set_ne (Ne.symm hk))) hj
/-- a piece that changes nothing -/
theorem mv_glue (H : hOk E al gV0 J) {d y : Nat} (hy : y < mj_lawNo) {env : List (Int × Int)} {fs : List ae} {h0 : aH} {pc pc2 : Nat} {lv lv2 lvk lvk2 : List (Nat × av)} {st st2 stk stk2 : List av}
    (hc : hp_chk gV0 1000 d y (pc, env, fs, h0, lv, st) [] [mv_C pc2 env lv2 st2] = true) (hp : hW E al gV0 J ρ env fs h0 w) (r1 : lv.all (fun q => av_rg ρ.length q.2) = true) (r2 : st.all (av_rg ρ.length) = true)
    (e1 : lvE ρ lv = lvk) (e2 : st.map (avE ρ) = stk) (e3 : lvE ρ lv2 = lvk2) (e4 : st2.map (avE ρ) = stk2) (hq : hG E al d y pc2 lvk2 stk2 [] w Q) : hG E al d y pc lvk stk [] w Q := by
  refine (hp_go (p := (pc, env, fs, h0, lv, st)) H hy hc hp ?_).toK r1 r2 e1 e2
  intro T hT σ w2 k1 k2 k3 k4
  have hT := List.mem_singleton.mp hT
  subst hT
  have e := hD.eq (ws := w) (w := w2) ⟨k3, fun k hk => k4 k hk⟩
  subst e
  have hσ := hp_same k1 k2.1.1 hp.1.1
  subst hσ
  exact hq.ofK e3 e4
theorem mv_E {c : Nat} {N kb k : Int} {r : List Int} : lvE (k :: r) (mv_lv c N kb (ae_s 0)) = mv_lv c N kb (ae_k k) := by
  simp only [lvE, avE, mv_lv, ae_s, ae_k, ae_ev, ae_el, List.map_cons, List.map_nil, List.getD_cons_zero, Int.one_mul, Int.add_zero, Int.zero_add]
theorem mv_E0 {c : Nat} {N kb x : Int} : lvE [] (mv_lv c N kb (ae_k x)) = mv_lv c N kb (ae_k x) := by
  simp only [lvE, avE, mv_lv, ae_k, ae_ev, ae_el, List.map_cons, List.map_nil, Int.zero_add]
theorem mv_E00 {c : Nat} {N kb : Int} : lvE [] (mv_lv0 c N kb) = mv_lv0 c N kb := by
  simp only [lvE, avE, mv_lv0, ae_k, ae_ev, ae_el, List.map_cons, List.map_nil, Int.zero_add]
theorem wd_fld (h : aWd E al aLay w) {i : Nat} {b : Int × Int} (hb : aM[i]? = some (.inr b)) : aSl w 99 i (jF w i) ∧ b.1 ≤ jF w i ∧ jF w i ≤ b.2 := (h.fld aLay_99).2 i b hb
theorem aM_61 : aM[(61 : Nat)]? = some (.inr (0, 3000)) := by decide +kernel
/-- behind a store: the place goes on -/
theorem mv_next (H : hOk E al gV0 J) {q : Nat × Nat × Nat} {pc : Nat} {kb : Int} (hc : mv_cB pc kb q = true) (h : aWd E al aLay w) (hj : J w) {k : Nat} (hk : k < q.2.1) {p : Int} (hp0 : 0 ≤ p ∧ p ≤ 2999) (hp : jF w 61 = p)
    (hq : ∀ w2, aWd E al aLay w2 → J w2 → hD [99] w w2 → jF w2 61 = p + 1 → hG E al 2 318 3 (mv_lv q.1 q.2.1 kb (ae_k ((k : Int) + 1))) [] [] w2 Q) : hG E al 2 318 pc (mv_lv q.1 q.2.1 kb (ae_k (k : Int))) [] [] w Q := by
  have bx : aI0 ≤ (0 : Int) ∧ (0 : Int) ≤ aI1 := by decide
  refine (hp_go (ρ := [(k : Int), p, 0]) (p := (pc, mv_e q.2.1, [], [((99, ae_k 61), ae_s 1)], mv_lv q.1 q.2.1 kb (ae_s 0), [])) H (by decide) hc (hW.v h hj ⟨⟨by omega, by omega⟩, hp0, bx, trivial⟩ aFs.nil (aHh.cons (aH1.mk (by decide) rfl rfl (by rw [ae_ev_k]; decide) ?_) aHh.nil)) ?_).toK rfl rfl mv_E rfl
  · have e : ae_ev [(k : Int), p, 0] (ae_s 1) = p := by simp only [ae_s, ae_ev, ae_el, List.getD_cons_zero, List.getD_cons_succ]; omega
    rw [e, ae_ev_k, ← hp]
    exact (wd_fld h aM_61).1
  · intro T hT σ w2 k1 k2 k3 k4
    have hT := List.mem_singleton.mp hT
    subst hT
    have hσ := hp_same k1 k2.1.1 rfl
    subst hσ
    have dd : hD [99] w w2 := ⟨k3, fun k hk => k4 k hk⟩
    have e61 : jF w2 61 = p + 1 := by
      have := (k2.2.2.1.sl (c := 99) (i := ae_k 61) (v := ae_inc (ae_s 1) 1) List.mem_cons_self (by decide)).2
      have e1 : ae_ev [(k : Int), p, 0] (ae_inc (ae_s 1) 1) = p + 1 := by simp only [ae_s, ae_inc, ae_ev, ae_el, List.getD_cons_zero, List.getD_cons_succ]; omega
      have e2 : ae_ev [(k : Int), p, 0] (ae_k 61) = 61 := by simp only [ae_k, ae_ev, ae_el]; omega
      rw [e1, e2] at this
      exact (jF.sl ((k2.2.2.2.1).fld aLay_99).1 this).symm
    refine (hq w2 k2.2.2.2.1 k2.2.2.2.2.2 dd e61).ofK ?_ rfl
    show lvE [(k : Int), p, 0] (mv_lv q.1 q.2.1 kb (ae_inc (ae_s 0) 1)) = _
    simp only [lvE, avE, mv_lv, ae_s, ae_inc, ae_k, ae_ev, ae_el, List.map_cons, List.map_nil, List.getD_cons_zero, Int.one_mul, Int.add_zero, Int.zero_add]
/-- a row is kept -/
theorem mv_keep (H : hOk E al gV0 J) {q : Nat × Nat × Nat} (hq : q ∈ mvs) : ∀ (m k : Nat) (w : va_W), k + m = q.2.1 → aWd E al aLay w → J w → hD [99, 140] ws w → jF w 61 = (q.2.2 : Int) + k → (∀ i, i < k → jR w 140 (q.2.2 + i) = jR ws q.1 i) → (∀ i, (i < q.2.2 ∨ q.2.2 + k ≤ i) → jR w 140 i = jR ws 140 i) →
    (∀ w2, aWd E al aLay w2 → J w2 → hD [99, 140] ws w2 → jF w2 61 = (q.2.2 : Int) + q.2.1 → (∀ i, i < q.2.1 → jR w2 140 (q.2.2 + i) = jR ws q.1 i) → (∀ i, (i < q.2.2 ∨ q.2.2 + q.2.1 ≤ i) → jR w2 140 i = jR ws 140 i) → Q none w2) → hG E al 2 318 3 (mv_lv q.1 q.2.1 1 (ae_k (k : Int))) [] [] w Q := by
  intro m
  obtain ⟨ro1, ro2, ro3, ro4, ro5⟩ := mv_room q hq
  induction m with
  | zero =>
    intro k w hk hw hJ hd hp h1 h2 hQ
    have e : k = q.2.1 := by omega
    subst e
    refine mv_glue (ρ := []) H (by decide) (mv_kX q hq).1 (hW.v hw hJ trivial aFs.nil aHh.nil) rfl rfl mv_E0 rfl mv_E0 rfl ?_
    intro LV ST g1 g2
    exact hp_ret (pc := 58) H (by decide) (by decide +kernel) (by decide +kernel) (hQ w hw hJ hd hp h1 h2) LV ST g1 g2
  | succ m ih =>
    intro k w hk hw hJ hd hp h1 h2 hQ
    obtain ⟨wc, rc, kc⟩ := hw.row (mv_lay q hq)
    have ec : jR w q.1 = jR ws q.1 := hd.row (by simp; omega)
    have bx := And.intro (i32_lo (jR w q.1 k)) (i32_hi (jR w q.1 k))
    have bp : 0 ≤ (q.2.2 : Int) + k ∧ (q.2.2 : Int) + k ≤ 2999 := by omega
    refine mv_glue (ρ := [(k : Int), (q.2.2 : Int) + k, (jR w q.1 k).toInt]) H (by decide) (mv_k1 q hq) (hW.v hw hJ ⟨⟨by omega, by omega⟩, bp, bx, trivial⟩ aFs.nil (aHh.cons (aH1.mk (by decide) rfl rfl (by rw [ae_ev_k]; decide) ?_) (aHh.cons (aH1.mk (by omega) rfl rfl ?_ ?_) aHh.nil))) rfl rfl mv_E rfl mv_E (stk2 := [.inl (ae_k (jR w q.1 k).toInt), .inl (ae_k ((q.2.2 : Int) + k)), .inr (0, 140)]) ?_ ?_
    · have e : ae_ev [(k : Int), (q.2.2 : Int) + k, (jR w q.1 k).toInt] (ae_s 1) = (q.2.2 : Int) + k := by simp only [ae_s, ae_ev, ae_el, List.getD_cons_zero, List.getD_cons_succ]; omega
      rw [e, ae_ev_k, ← hp]
      exact (wd_fld hw aM_61).1
    · simp only [ae_s, ae_ev, ae_el, List.getD_cons_zero]; omega
    · have e : ae_ev [(k : Int), (q.2.2 : Int) + k, (jR w q.1 k).toInt] (ae_s 0) = k := by simp only [ae_s, ae_ev, ae_el, List.getD_cons_zero]; omega
      have e2 : ae_ev [(k : Int), (q.2.2 : Int) + k, (jR w q.1 k).toInt] (ae_s 2) = (jR w q.1 k).toInt := by simp only [ae_s, ae_ev, ae_el, List.getD_cons_zero, List.getD_cons_succ]; omega
      rw [e, e2, Int.toNat_natCast]
      exact aSl.row rc (by omega) rfl
    · simp only [avE, ae_s, ae_ev, ae_el, List.map_cons, List.map_nil, List.getD_cons_zero, List.getD_cons_succ, Int.one_mul, Int.add_zero]
    · refine hp_ias (by decide +kernel) hw aw_140 (aV.k _) (aV.k _) (by omega) (by omega) (fun z w3 hz hq3 hj hw3 => ?_)
      obtain ⟨q3, rfl⟩ := hq3
      have ez : z = jR w q.1 k := i32_inj hz
      have d3 : hD [140] w (w.set 140 q3) := hD.set
      rw [show ((q.2.2 : Int) + k).toNat = q.2.2 + k by omega] at hj
      refine mv_next H (mv_kB q hq).1 (hw3 (aF_any hz)) (mv_J H (by decide) hJ) (by omega) bp (by rw [jF.at (d3.2 99 (by decide)) 61]; exact hp) (fun w4 g1 g0 g2 g3 => ?_)
      have e4 : ((k : Int) + 1) = ((k + 1 : Nat) : Int) := by omega
      rw [e4]
      have j4 : jR w4 140 = jR (w.set 140 q3) 140 := g2.row (by decide)
      refine ih (k + 1) w4 (by omega) g1 g0 (hd.trans ((d3.more (by simp)).trans (g2.more (by simp)))) (by omega) (fun i hi => ?_) (fun i hi => ?_) hQ
      · rw [j4, hj]
        by_cases e : i = k
        · subst e
          rw [upd_at, ez, ec]
        · rw [upd_lo (by omega)]
          exact h1 i (by omega)
      · rw [j4, hj, upd_lo (by omega)]
        exact h2 i (by omega)
/-- a row comes back -/
theorem mv_back (H : hOk E al gV0 J) {q : Nat × Nat × Nat} (hq : q ∈ mvs) (hcol : ∀ i, i < q.2.1 → ∀ b, (aColsOf q.1)[i % (aColsOf q.1).length]? = some b → b.1 ≤ (jR ws 140 (q.2.2 + i)).toInt ∧ (jR ws 140 (q.2.2 + i)).toInt ≤ b.2) : ∀ (m k : Nat) (w : va_W), k + m = q.2.1 → aWd E al aLay w → J w → hD [99, q.1] ws w → jF w 61 = (q.2.2 : Int) + k → (∀ i, i < k → jR w q.1 i = jR ws 140 (q.2.2 + i)) →
    (∀ w2, aWd E al aLay w2 → J w2 → hD [99, q.1] ws w2 → jF w2 61 = (q.2.2 : Int) + q.2.1 → (∀ i, i < q.2.1 → jR w2 q.1 i = jR ws 140 (q.2.2 + i)) → Q none w2) → hG E al 2 318 3 (mv_lv q.1 q.2.1 0 (ae_k (k : Int))) [] [] w Q := by
  intro m
  obtain ⟨ro1, ro2, ro3, ro4, ro5⟩ := mv_room q hq
  induction m with
  | zero =>
    intro k w hk hw hJ hd hp h1 hQ
    have e : k = q.2.1 := by omega
    subst e
    refine mv_glue (ρ := []) H (by decide) (mv_kX q hq).2 (hW.v hw hJ trivial aFs.nil aHh.nil) rfl rfl mv_E0 rfl mv_E0 rfl ?_
    intro LV ST g1 g2
    exact hp_ret (pc := 58) H (by decide) (by decide +kernel) (by decide +kernel) (hQ w hw hJ hd hp h1) LV ST g1 g2
  | succ m ih =>
    intro k w hk hw hJ hd hp h1 hQ
    obtain ⟨w40, r40, k40⟩ := hw.row aw_140
    have e140 : jR w 140 = jR ws 140 := hd.row (by simp; omega)
    have bx := And.intro (i32_lo (jR w 140 (q.2.2 + k))) (i32_hi (jR w 140 (q.2.2 + k)))
    have bp : 0 ≤ (q.2.2 : Int) + k ∧ (q.2.2 : Int) + k ≤ 2999 := by omega
    refine mv_glue (ρ := [(k : Int), (q.2.2 : Int) + k, (jR w 140 (q.2.2 + k)).toInt]) H (by decide) (mv_k2 q hq) (hW.v hw hJ ⟨⟨by omega, by omega⟩, bp, bx, trivial⟩ aFs.nil (aHh.cons (aH1.mk (by decide) rfl rfl (by rw [ae_ev_k]; decide) ?_) (aHh.cons (aH1.mk (by decide) rfl rfl ?_ ?_) aHh.nil))) rfl rfl mv_E rfl mv_E (stk2 := [.inl (ae_k (jR w 140 (q.2.2 + k)).toInt), .inl (ae_k (k : Int)), .inr (0, q.1)]) ?_ ?_
    · have e : ae_ev [(k : Int), (q.2.2 : Int) + k, (jR w 140 (q.2.2 + k)).toInt] (ae_s 1) = (q.2.2 : Int) + k := by simp only [ae_s, ae_ev, ae_el, List.getD_cons_zero, List.getD_cons_succ]; omega
      rw [e, ae_ev_k, ← hp]
      exact (wd_fld hw aM_61).1
    · simp only [ae_s, ae_ev, ae_el, List.getD_cons_zero, List.getD_cons_succ]; omega
    · have e : ae_ev [(k : Int), (q.2.2 : Int) + k, (jR w 140 (q.2.2 + k)).toInt] (ae_s 1) = (q.2.2 : Int) + k := by simp only [ae_s, ae_ev, ae_el, List.getD_cons_zero, List.getD_cons_succ]; omega
      have e2 : ae_ev [(k : Int), (q.2.2 : Int) + k, (jR w 140 (q.2.2 + k)).toInt] (ae_s 2) = (jR w 140 (q.2.2 + k)).toInt := by simp only [ae_s, ae_ev, ae_el, List.getD_cons_zero, List.getD_cons_succ]; omega
      rw [e, e2, show ((q.2.2 : Int) + k).toNat = q.2.2 + k by omega]
      exact aSl.row r40 (by omega) rfl
    · simp only [avE, ae_s, ae_ev, ae_el, List.map_cons, List.map_nil, List.getD_cons_zero, List.getD_cons_succ, Int.one_mul, Int.add_zero]
    · refine hp_ias (by decide +kernel) hw (mv_lay q hq) (aV.k _) (aV.k _) (by omega) (by omega) (fun z w3 hz hq3 hj hw3 => ?_)
      obtain ⟨q3, rfl⟩ := hq3
      have ez : z = jR w 140 (q.2.2 + k) := i32_inj hz
      have d3 : hD [q.1] w (w.set q.1 q3) := hD.set
      rw [Int.toNat_natCast] at hj
      have hw4 : aWd E al aLay (w.set q.1 q3) := hw3 (fun b hb => by
        rw [Int.toNat_natCast] at hb
        rw [e140]
        exact hcol k (by omega) b hb)
      refine mv_next H (mv_kB q hq).2 hw4 (mv_J H (mv_pw q hq) hJ) (by omega) bp (by rw [jF.at (d3.2 99 (by simp; omega)) 61]; exact hp) (fun w4 g1 g0 g2 g3 => ?_)
      have e4 : ((k : Int) + 1) = ((k + 1 : Nat) : Int) := by omega
      rw [e4]
      have j4 : jR w4 q.1 = jR (w.set q.1 q3) q.1 := g2.row (by simp; omega)
      refine ih (k + 1) w4 (by omega) g1 g0 (hd.trans ((d3.more (by simp)).trans (g2.more (by simp)))) (by omega) (fun i hi => ?_) hQ
      rw [j4, hj]
      by_cases e : i = k
      · subst e
        rw [upd_at, ez, e140]
      · rw [upd_lo (by omega)]
        exact h1 i (by omega)
end MVP
