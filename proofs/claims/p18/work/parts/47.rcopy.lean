/-! THE READER, by hand: read, the new version is laid down -/
theorem ae_ev_k {σ : List Int} {c : Int} : ae_ev σ (ae_k c) = c := by simp [ae_ev, ae_k, ae_el]
section RCOPY
variable {E : mj_E} {al : List Nat} {ρ σ : List Int} {ws ws0 wb w w2 : va_W} {Q : Option Value → va_W → Prop}
theorem hOkW (hf : E.2.2.2.1.category = 1) (hT : ∀ σ : List Int, aTb E σ aTabs) : hOk E al gW jW :=
  ⟨hf, by show aLay.length < 1000000; decide +kernel, rfl, fun w1 w3 h hj => by
    unfold jW at hj ⊢
    rw [← jR.at ((h 140 (by decide)).c (by decide))]
    exact ⟨hj.1, jX_prot _ _ (fun c hc => h c (List.mem_append_right _ hc)) hj.2⟩, (fun c hc => by cases hc), hT⟩
def pW (E : mj_E) (al : List Nat) (wb w : va_W) : Prop := aWd E al aLay w ∧ jW w ∧ hD [110, 111, 112] wb w
theorem pW.hW (h : pW E al wb w) {env : List (Int × Int)} {fs : List ae} {h0 : aH} (h1 : hEv ρ env) (h2 : aFs ρ fs) (h3 : aHh ρ w h0) : hW E al gW jW ρ env fs h0 w :=
  ⟨h1.ok, h2, h3, h.1, (fun r hr => by cases hr), h.2.1⟩
def rw_K2 (n v : Int) : List (Nat × av) := [(0, .inr (0, 99)), (1, .inl (ae_k n)), (2, .inl (ae_k v))]
def rw_K3 (n v k : Int) : List (Nat × av) := [(0, .inr (0, 99)), (1, .inl (ae_k n)), (2, .inl (ae_k v)), (3, .inl (ae_k k))]
theorem rw_E2 {n v : Int} {r : List Int} : lvE (n :: v :: r) (wa_lv2 0 1) = rw_K2 n v := by
  simp only [lvE, avE, wa_lv2, rw_K2, ae_s, ae_ev, ae_el, List.map_cons, List.map_nil, List.getD_cons_zero, List.getD_cons_succ, Int.one_mul, Int.add_zero]
theorem rw_E3 {n v x k : Int} {r : List Int} : lvE (n :: v :: x :: k :: r) (rw_lvk (ae_s 3)) = rw_K3 n v k := by
  simp only [lvE, avE, rw_lvk, rw_K3, ae_s, ae_ev, ae_el, List.map_cons, List.map_nil, List.getD_cons_zero, List.getD_cons_succ, Int.one_mul, Int.add_zero]
theorem rw_E31 {n v x k : Int} {r : List Int} : lvE (n :: v :: x :: k :: r) (rw_lvk (ae_inc (ae_s 3) 1)) = rw_K3 n v (k + 1) := by
  simp only [lvE, avE, rw_lvk, rw_K3, ae_s, ae_inc, ae_ev, ae_el, List.map_cons, List.map_nil, List.getD_cons_zero, List.getD_cons_succ, Int.one_mul, Int.add_zero, Int.zero_add]
theorem rw_E30 {n v : Int} {r : List Int} : lvE (n :: v :: r) (rw_lvk (ae_k 0)) = rw_K3 n v 0 := by
  simp only [lvE, avE, rw_lvk, rw_K3, ae_s, ae_k, ae_ev, ae_el, List.map_cons, List.map_nil, List.getD_cons_zero, List.getD_cons_succ, Int.one_mul, Int.add_zero]
theorem rw_E34 {n v : Int} {r : List Int} : lvE (n :: v :: r) (rw_lvk ([(0, 4)], 0)) = rw_K3 n v (4 * n) := by
  simp only [lvE, avE, rw_lvk, rw_K3, ae_s, ae_ev, ae_el, List.map_cons, List.map_nil, List.getD_cons_zero, List.getD_cons_succ, Int.one_mul, Int.add_zero]
theorem rw_E32 {n v f : Int} {r : List Int} : lvE (n :: v :: f :: r) (rw_lvk (ae_s 2)) = rw_K3 n v f := by
  simp only [lvE, avE, rw_lvk, rw_K3, ae_s, ae_ev, ae_el, List.map_cons, List.map_nil, List.getD_cons_zero, List.getD_cons_succ, Int.one_mul, Int.add_zero]
/-- a piece that changes nothing -/
theorem rw_glue (H : hOk E al gW jW) {env : List (Int × Int)} {fs : List ae} {h0 : aH} {pc pc2 : Nat} {lv lv2 lvk lvk2 : List (Nat × av)} {st st2 stk stk2 : List av}
    (hc : hp_chk gW 100000 12 232 (pc, env, fs, h0, lv, st) [] [rw_C pc2 env lv2 st2] = true) (hp : hW E al gW jW ρ env fs h0 w) (r1 : lv.all (fun q => av_rg ρ.length q.2) = true) (r2 : st.all (av_rg ρ.length) = true)
    (e1 : lvE ρ lv = lvk) (e2 : st.map (avE ρ) = stk) (e3 : lvE ρ lv2 = lvk2) (e4 : st2.map (avE ρ) = stk2) (hq : hG E al 12 232 pc2 lvk2 stk2 [] w Q) : hG E al 12 232 pc lvk stk [] w Q := by
  refine (hp_go (p := (pc, env, fs, h0, lv, st)) H (by decide) hc hp ?_).toK r1 r2 e1 e2
  intro T hT σ w2 k1 k2 k3 k4
  have hT := List.mem_singleton.mp hT
  subst hT
  have e := hD.eq (ws := w) (w := w2) ⟨k3, fun k hk => k4 k hk⟩
  subst e
  have hσ := hp_same k1 k2.1.1 hp.1.1
  subst hσ
  exact hq.ofK e3 e4
/-- the end -/
theorem rw_exit (H : hOk E al gW jW) (h : pW E al wb w) {n v f : Int} (bn : 0 ≤ n ∧ n ≤ 9) (bv : 0 ≤ v ∧ v ≤ 7) (bf : 0 ≤ f ∧ f ≤ 256) (hf : aSl w 99 28 f) (hv : aSl w 100 6 v) (hq : ∀ (z : Int32) (w2 : va_W), aWd E al aLay w2 → jW w2 → hD [100] w w2 → Q (some (.int z)) w2) :
    hG E al 12 232 142 (rw_K3 n v f) [] [] w Q := by
  refine (hp_ans (ρ := [n, v, f]) (c := rw_cE) H (by decide) rw_kE (h.hW ⟨bn, bv, bf, trivial⟩ aFs.nil (aHh.cons (aH1.mk (by decide) rfl rfl (by rw [ae_ev_k]; decide) ?_) (aHh.cons (aH1.mk (by decide) rfl rfl (by rw [ae_ev_k]; decide) ?_) aHh.nil))) (fun x w2 hx => ?_)).toK rfl rfl rw_E32 rfl
  · have e : ae_ev [n, v, f] (ae_s 2) = f := by simp only [ae_s, ae_ev, ae_el, List.getD_cons_zero, List.getD_cons_succ]; omega
    rw [e, ae_ev_k]
    exact hf
  · have e : ae_ev [n, v, f] (ae_s 1) = v := by simp only [ae_s, ae_ev, ae_el, List.getD_cons_zero, List.getD_cons_succ]; omega
    rw [e, ae_ev_k]
    exact hv
  · obtain ⟨cs, hcs, r, h1, h2, h3, h4, h5, h6, h7, h8, h9⟩ := hx
    have hcs := List.mem_singleton.mp hcs
    subst hcs
    obtain ⟨u, rfl, z, rfl, hz⟩ := h3
    exact hq z w2 h5 h7 ⟨h8, fun k hk => h9 k hk⟩
/-- the signs -/
theorem rw_signs (H : hOk E al gW jW) {n v : Int} {f : Nat} (bn : 0 ≤ n ∧ n ≤ 9) (bv : 0 ≤ v ∧ v ≤ 7) (bf : f ≤ 256) (hI0 : hI E al jJ wb) (hf : jF wb 28 = f) :
    ∀ (m k : Nat) (w : va_W), k + m = f → pW E al wb w → (∀ i, i < k → jR w 112 (256 * v.toNat + i) = jR wb 120 i) → (∀ i, (i < 256 * v.toNat ∨ 256 * v.toNat + k ≤ i) → jR w 112 i = jR wb 112 i) →
      (∀ w2, pW E al wb w2 → hD [112] w w2 → (∀ i, i < f → jR w2 112 (256 * v.toNat + i) = jR wb 120 i) → (∀ i, (i < 256 * v.toNat ∨ 256 * v.toNat + f ≤ i) → jR w2 112 i = jR wb 112 i) → hG E al 12 232 142 (rw_K3 n v f) [] [] w2 Q) →
      hG E al 12 232 142 (rw_K3 n v k) [] [] w Q := by
  intro m
  induction m with
  | zero =>
    intro k w hk hp h1 h2 hq
    have e : k = f := by omega
    subst e
    exact hq w hp hD.refl h1 h2
  | succ m ih =>
    intro k w hk hp h1 h2 hq
    have d99 : w[(99 : Nat)]? = wb[(99 : Nat)]? := hp.2.2.2 99 (by decide)
    have e28 : jF w 28 = f := by rw [jF.at d99 28, hf]
    have s28 : aSl w 99 28 f := by
      have := ((hp.1.fld aLay_99).2 28 (0, 256) (by decide +kernel)).1
      rw [e28] at this
      exact this
    obtain ⟨w20, r20, k20⟩ := hp.1.row aw_120
    have e120 : jR w 120 = jR wb 120 := hp.2.2.row (by decide)
    have bx := And.intro (i32_lo (jR w 120 k)) (i32_hi (jR w 120 k))
    refine rw_glue (ρ := [n, v, (jR w 120 k).toInt, k, f]) H rw_c142 (hp.hW ⟨bn, bv, bx, ⟨by omega, by omega⟩, ⟨by omega, by omega⟩, trivial⟩ (aFs.cons rfl ?_ aFs.nil) (aHh.cons (aH1.mk (by decide) rfl rfl (by rw [ae_ev_k]; decide) ?_) (aHh.cons (aH1.mk (by decide) rfl rfl ?_ ?_) aHh.nil))) rfl rfl rw_E3 rfl rw_E3 (stk2 := [.inl (ae_k (jR w 120 k).toInt), .inl (ae_k (256 * v + k)), .inr (0, 112)]) ?_ ?_
    · simp only [ae_ev, ae_el, List.getD_cons_zero, List.getD_cons_succ]
      omega
    · have e : ae_ev [n, v, (jR w 120 k).toInt, k, f] (ae_s 4) = f := by simp only [ae_s, ae_ev, ae_el, List.getD_cons_zero, List.getD_cons_succ]; omega
      rw [e, ae_ev_k]
      exact s28
    · simp only [ae_s, ae_ev, ae_el, List.getD_cons_zero, List.getD_cons_succ]
      omega
    · have e : ae_ev [n, v, (jR w 120 k).toInt, k, f] (ae_s 3) = k := by simp only [ae_s, ae_ev, ae_el, List.getD_cons_zero, List.getD_cons_succ]; omega
      have e2 : ae_ev [n, v, (jR w 120 k).toInt, k, f] (ae_s 2) = (jR w 120 k).toInt := by simp only [ae_s, ae_ev, ae_el, List.getD_cons_zero, List.getD_cons_succ]; omega
      rw [e, e2, Int.toNat_natCast]
      exact aSl.row r20 (by omega) rfl
    · simp only [avE, ae_s, ae_ev, ae_el, List.map_cons, List.map_nil, List.getD_cons_zero, List.getD_cons_succ, Int.one_mul, Int.add_zero]
    · refine hp_ias (by decide +kernel) hp.1 aw_112 (aV.k _) (aV.k _) (by omega) (by omega) (fun z w3 hz hq3 hj hw => ?_)
      obtain ⟨q, rfl⟩ := hq3
      have ez : z = jR w 120 k := i32_inj hz
      have d3 : hD [112] w (w.set 112 q) := hD.set
      have hp3 : pW E al wb (w.set 112 q) := ⟨hw (aF_any hz), jW_hD d3 (by decide) (by decide +kernel) hp.2.1, hp.2.2.trans (d3.more (by simp))⟩
      have ei : (256 * v + (k : Int)).toNat = 256 * v.toNat + k := by omega
      rw [ei] at hj
      refine rw_glue (ρ := [n, v, (jR w 120 k).toInt, k, f]) H rw_c168 (hp3.hW ⟨bn, bv, bx, ⟨by omega, by omega⟩, ⟨by omega, by omega⟩, trivial⟩ aFs.nil aHh.nil) rfl rfl rw_E3 rfl rw_E31 rfl ?_
      refine ih (k + 1) (w.set 112 q) (by omega) hp3 (fun i hi => ?_) (fun i hi => ?_) (fun w2 g1 g2 g3 g4 => hq w2 g1 (d3.trans g2) g3 g4)
      · rw [hj]
        by_cases e : i = k
        · subst e
          rw [upd_at, ez, e120]
        · rw [upd_lo (by omega)]
          exact h1 i (by omega)
      · rw [hj, upd_lo (by omega)]
        exact h2 i (by omega)
/-- the lines -/
theorem rw_lines (H : hOk E al gW jW) {n v : Int} (bn : 0 ≤ n ∧ n ≤ 9) (bv : 0 ≤ v ∧ v ≤ 7) (hL : ∀ i, i < 4 * n.toNat → (i % 4 = 2 ∨ i % 4 = 3) → 0 ≤ (jR wb 119 i).toInt ∧ (jR wb 119 i).toInt ≤ 256) :
    ∀ (m k : Nat) (w : va_W), k + m = 4 * n.toNat → pW E al wb w → (∀ i, i < k → jR w 111 (36 * v.toNat + i) = jR wb 119 i) → (∀ i, (i < 36 * v.toNat ∨ 36 * v.toNat + k ≤ i) → jR w 111 i = jR wb 111 i) →
      (∀ w2, pW E al wb w2 → hD [111] w w2 → (∀ i, i < 4 * n.toNat → jR w2 111 (36 * v.toNat + i) = jR wb 119 i) → (∀ i, (i < 36 * v.toNat ∨ 36 * v.toNat + 4 * n.toNat ≤ i) → jR w2 111 i = jR wb 111 i) → hG E al 12 232 142 (rw_K3 n v 0) [] [] w2 Q) →
      hG E al 12 232 110 (rw_K3 n v k) [] [] w Q := by
  intro m
  induction m with
  | zero =>
    intro k w hk hp h1 h2 hq
    have e : k = 4 * n.toNat := by omega
    subst e
    have e4 : ((4 * n.toNat : Nat) : Int) = 4 * n := by omega
    rw [e4]
    exact rw_glue (ρ := [n, v, 0]) H rw_cX (hp.hW ⟨bn, bv, by decide, trivial⟩ aFs.nil aHh.nil) rfl rfl rw_E34 rfl rw_E30 rfl (hq w hp hD.refl h1 h2)
  | succ m ih =>
    intro k w hk hp h1 h2 hq
    obtain ⟨w19, r19, k19⟩ := hp.1.row aw_119
    have e119 : jR w 119 = jR wb 119 := hp.2.2.row (by decide)
    have bx := And.intro (i32_lo (jR w 119 k)) (i32_hi (jR w 119 k))
    refine rw_glue (ρ := [n, v, (jR w 119 k).toInt, k]) H rw_c110 (hp.hW ⟨bn, bv, bx, ⟨by omega, by omega⟩, trivial⟩ (aFs.cons rfl ?_ aFs.nil) (aHh.cons (aH1.mk (by decide) rfl rfl ?_ ?_) aHh.nil)) rfl rfl rw_E3 rfl rw_E3 (stk2 := [.inl (ae_k (jR w 119 k).toInt), .inl (ae_k (36 * v + k)), .inr (0, 111)]) ?_ ?_
    · simp only [ae_ev, ae_el, List.getD_cons_zero, List.getD_cons_succ]
      omega
    · simp only [ae_s, ae_ev, ae_el, List.getD_cons_zero, List.getD_cons_succ]
      omega
    · have e : ae_ev [n, v, (jR w 119 k).toInt, k] (ae_s 3) = k := by simp only [ae_s, ae_ev, ae_el, List.getD_cons_zero, List.getD_cons_succ]; omega
      have e2 : ae_ev [n, v, (jR w 119 k).toInt, k] (ae_s 2) = (jR w 119 k).toInt := by simp only [ae_s, ae_ev, ae_el, List.getD_cons_zero, List.getD_cons_succ]; omega
      rw [e, e2, Int.toNat_natCast]
      exact aSl.row r19 (by omega) rfl
    · simp only [avE, ae_s, ae_ev, ae_el, List.map_cons, List.map_nil, List.getD_cons_zero, List.getD_cons_succ, Int.one_mul, Int.add_zero]
    · refine hp_ias (by decide +kernel) hp.1 aw_111 (aV.k _) (aV.k _) (by omega) (by omega) (fun z w3 hz hq3 hj hw => ?_)
      obtain ⟨q, rfl⟩ := hq3
      have ez : z = jR w 119 k := i32_inj hz
      have d3 : hD [111] w (w.set 111 q) := hD.set
      have ei : (36 * v + (k : Int)).toNat = 36 * v.toNat + k := by omega
      have hcol : ∀ b, ([aF, aF, (0, 256), (0, 256)] : List (Int × Int))[(36 * v + (k : Int)).toNat % ([aF, aF, (0, 256), (0, 256)] : List (Int × Int)).length]? = some b → b.1 ≤ (jR w 119 k).toInt ∧ (jR w 119 k).toInt ≤ b.2 := by
        intro b hb
        have em : (36 * v + (k : Int)).toNat % ([aF, aF, (0, 256), (0, 256)] : List (Int × Int)).length = k % 4 := by
          show (36 * v + (k : Int)).toNat % 4 = k % 4
          omega
        rw [em] at hb
        have c : k % 4 = 0 ∨ k % 4 = 1 ∨ k % 4 = 2 ∨ k % 4 = 3 := by omega
        rcases c with c | c | c | c
        · rw [c] at hb; cases hb; exact bx
        · rw [c] at hb; cases hb; exact bx
        · rw [c] at hb; cases hb; rw [e119]; exact hL k (by omega) (Or.inl c)
        · rw [c] at hb; cases hb; rw [e119]; exact hL k (by omega) (Or.inr c)
      have hp3 : pW E al wb (w.set 111 q) := ⟨hw hcol, jW_hD d3 (by decide) (by decide +kernel) hp.2.1, hp.2.2.trans (d3.more (by simp))⟩
      rw [ei] at hj
      refine rw_glue (ρ := [n, v, (jR w 119 k).toInt, k]) H rw_c134 (hp3.hW ⟨bn, bv, bx, ⟨by omega, by omega⟩, trivial⟩ aFs.nil aHh.nil) rfl rfl rw_E3 rfl rw_E31 rfl ?_
      refine ih (k + 1) (w.set 111 q) (by omega) hp3 (fun i hi => ?_) (fun i hi => ?_) (fun w2 g1 g2 g3 g4 => hq w2 g1 (d3.trans g2) g3 g4)
      · rw [hj]
        by_cases e : i = k
        · subst e
          rw [upd_at, ez, e119]
        · rw [upd_lo (by omega)]
          exact h1 i (by omega)
      · rw [hj, upd_lo (by omega)]
        exact h2 i (by omega)
end RCOPY
