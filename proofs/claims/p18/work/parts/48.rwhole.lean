/-! THE READER, by hand: read, the whole -/
theorem jV_new {ver lin sig L F ver2 lin2 sig2 : Nat → Int32} {v n f : Nat} (hv : v < 8) (hn : n ≤ 9) (hf : f ≤ 256) (h : jV ver lin sig) (hb : ∀ j, j < 72 → 0 ≤ (lin (4 * j + 2)).toInt ∧ 0 ≤ (lin (4 * j + 3)).toInt)
    (e1 : ∀ i, i ≠ 2 * v → i ≠ 2 * v + 1 → ver2 i = ver i) (e2 : (ver2 (2 * v)).toInt = n) (e3 : ∀ i, i < 4 * n → lin2 (36 * v + i) = L i) (e4 : ∀ i, (i < 36 * v ∨ 36 * v + 4 * n ≤ i) → lin2 i = lin i)
    (e5 : ∀ i, i < f → sig2 (256 * v + i) = F i) (e6 : ∀ i, (i < 256 * v ∨ 256 * v + f ≤ i) → sig2 i = sig i)
    (hl : ∀ k, k < n → 0 ≤ (L (4 * k + 2)).toInt ∧ 0 ≤ (L (4 * k + 3)).toInt ∧ (L (4 * k + 2)).toInt + (L (4 * k + 3)).toInt ≤ f ∧ dep F (L (4 * k + 2)).toInt.toNat (L (4 * k + 3)).toInt.toNat ≠ none) : jV ver2 lin2 sig2 := by
  intro v2 k h8 h9 hk
  by_cases e : v2 = v
  · subst e
    have hkn : k < n := by omega
    obtain ⟨q1, q2, q3, q4⟩ := hl k hkn
    rw [show 36 * v2 + 4 * k + 2 = 36 * v2 + (4 * k + 2) by omega, show 36 * v2 + 4 * k + 3 = 36 * v2 + (4 * k + 3) by omega, e3 (4 * k + 2) (by omega), e3 (4 * k + 3) (by omega)]
    refine ⟨by omega, ?_⟩
    rw [dep_congr (F2 := F) (a2 := (L (4 * k + 2)).toInt.toNat) (fun i hi => by
      rw [show 256 * v2 + (L (4 * k + 2)).toInt.toNat + i = 256 * v2 + ((L (4 * k + 2)).toInt.toNat + i) by omega]
      exact e5 _ (by omega))]
    exact q4
  · rw [e1 (2 * v2) (by omega) (by omega)] at hk
    obtain ⟨q1, q2⟩ := h v2 k h8 h9 hk
    have b := hb (9 * v2 + k) (by omega)
    rw [show 4 * (9 * v2 + k) + 2 = 36 * v2 + 4 * k + 2 by omega, show 4 * (9 * v2 + k) + 3 = 36 * v2 + 4 * k + 3 by omega] at b
    have o2 : lin2 (36 * v2 + 4 * k + 2) = lin (36 * v2 + 4 * k + 2) := e4 _ (by omega)
    have o3 : lin2 (36 * v2 + 4 * k + 3) = lin (36 * v2 + 4 * k + 3) := e4 _ (by omega)
    rw [o2, o3]
    refine ⟨q1, ?_⟩
    rw [dep_congr (F2 := sig) (a2 := 256 * v2 + (lin (36 * v2 + 4 * k + 2)).toInt.toNat) (fun i hi => e6 _ (by omega))]
    exact q2
section RWHOLE
variable {E : mj_E} {al : List Nat} {ρ σ : List Int} {ws ws0 wb w w2 : va_W} {Q : Option Value → va_W → Prop}
theorem aw_100 : aLay[(100 : Nat)]? = some (.inr (0, 11, [aF, (0, 16), (0, 12), (0, 24), (0, 12), (0, 6), (0, 8), (0, 20), (0, 4), (0, 8), aF])) := by rfl
/-- the rules, cell by cell -/
theorem aRs_of (h1 : ∀ r ∈ aRules, r.1 = 101 → aRl r w) (h2 : ∀ j, (jR w 111 (4 * j + 0)).toInt = 0 → 4 * j + 1 < 288 → 0 ≤ (jR w 111 (4 * j + 1)).toInt ∧ (jR w 111 (4 * j + 1)).toInt ≤ 9) (hw : ∃ a, w[(111 : Nat)]? = some (a, .inl (E.2.2.2.2.1, 288, .inl (jR w 111)))) : aRs aRules w := by
  intro r hr
  have hr2 := hr
  simp only [aRules, List.mem_cons, List.not_mem_nil, or_false] at hr
  rcases hr with rfl | rfl
  · exact h1 _ hr2 rfl
  · intro a N f cl he j hz _ hb
    obtain ⟨a2, e2⟩ := hw
    rw [e2] at he
    cases he
    exact h2 j hz hb
theorem aRs_111 (h : aRs aRules w) (hw : ∃ a, w[(111 : Nat)]? = some (a, .inl (E.2.2.2.2.1, 288, .inl (jR w 111)))) : ∀ j, (jR w 111 (4 * j + 0)).toInt = 0 → 4 * j + 1 < 288 → 0 ≤ (jR w 111 (4 * j + 1)).toInt ∧ (jR w 111 (4 * j + 1)).toInt ≤ 9 := by
  intro j hz hb
  obtain ⟨a, e⟩ := hw
  exact h (111, 4, 0, 0, 1, 0, 9) (by simp [aRules]) a 288 (jR w 111) _ e j hz (by show 4 * j + 0 < 288; omega) hb
/-- what read leaves -/
def re_post (E : mj_E) (al : List Nat) (ws0 : va_W) (x : Option Value) (w : va_W) : Prop := (∃ z : Int32, x = some (.int z)) ∧ hI E al jJ w ∧ hD [99, 100, 110, 111, 112, 119, 120, 121] ws0 w
theorem re_83 (H : hOk E al gW jW) (h : hI E al jJ wb) (hd : hD [99, 119, 120, 121] ws0 wb) {n v : Int} (hn0 : 0 ≤ n) (hg : rG wb n) (bv : 0 ≤ v ∧ v ≤ 7) (hv : (jR wb 100 6).toInt = v) : hG E al 12 232 83 (rw_K2 n v) [] [] wb (re_post E al ws0) := by
  have bn : 0 ≤ n ∧ n ≤ 9 := ⟨hn0, hg.1⟩
  have b := h.bds
  obtain ⟨f, hf⟩ : ∃ f : Nat, jF wb 28 = f := ⟨(jF wb 28).toNat, by omega⟩
  have bf : f ≤ 256 := by omega
  obtain ⟨w00, r00, k00⟩ := h.1.row aw_100
  obtain ⟨w10, r10, k10⟩ := h.1.row aw_110
  obtain ⟨w11, r11, k11⟩ := h.1.row aw_111
  have hLc : ∀ i, i < 4 * n.toNat → (i % 4 = 2 ∨ i % 4 = 3) → 0 ≤ (jR wb 119 i).toInt ∧ (jR wb 119 i).toInt ≤ 256 := by
    intro i hi hm
    obtain ⟨q1, q2, q3, q4, q5⟩ := hg.2 (i / 4) (by omega)
    rcases hm with hm | hm
    · rw [show 4 * (i / 4) + 2 = i by omega] at q2 q4
      omega
    · rw [show 4 * (i / 4) + 3 = i by omega] at q3 q4
      omega
  have p0 : pW E al wb wb := ⟨h.1, ⟨h.2.2.1.2, h.2.2.2⟩, hD.refl⟩
  -- the last stretch
  have last : ∀ w, pW E al wb w → (∀ i, i ≠ 2 * v.toNat → i ≠ 2 * v.toNat + 1 → jR w 110 i = jR wb 110 i) → (jR w 110 (2 * v.toNat)).toInt = n → (∀ i, i < 4 * n.toNat → jR w 111 (36 * v.toNat + i) = jR wb 119 i) → (∀ i, (i < 36 * v.toNat ∨ 36 * v.toNat + 4 * n.toNat ≤ i) → jR w 111 i = jR wb 111 i) → (∀ i, i < f → jR w 112 (256 * v.toNat + i) = jR wb 120 i) → (∀ i, (i < 256 * v.toNat ∨ 256 * v.toNat + f ≤ i) → jR w 112 i = jR wb 112 i) → hG E al 12 232 142 (rw_K3 n v f) [] [] w (re_post E al ws0) := by
    intro w hp a1 a2 a3 a4 a5 a6
    have d99 : w[(99 : Nat)]? = wb[(99 : Nat)]? := hp.2.2.2 99 (by decide)
    have d100 : w[(100 : Nat)]? = wb[(100 : Nat)]? := hp.2.2.2 100 (by decide)
    have s28 : aSl w 99 28 f := by
      have := ((hp.1.fld aLay_99).2 28 (0, 256) (by decide +kernel)).1
      rw [jF.at d99 28, hf] at this
      exact this
    refine rw_exit H hp bn bv ⟨by omega, by omega⟩ s28 (aSl.at d100 (aSl.row r00 (by decide) hv)) (fun z w2 g1 g2 g3 => ⟨⟨z, rfl⟩, ⟨g1, ?_, ⟨?_, g2.1⟩, g2.2⟩, (hd.more (by simp)).trans ((hp.2.2.more (by simp)).trans (g3.more (by simp)))⟩)
    · obtain ⟨u11, t11, -⟩ := g1.row aw_111
      refine aRs_of (E := E) (fun r hr h101 => ?_) ?_ ⟨u11, t11⟩
      · have := h.2.1 r hr
        unfold aRl at this ⊢
        rw [h101] at this ⊢
        rw [g3.2 101 (by decide), hp.2.2.2 101 (by decide)]
        exact this
      · rw [g3.row (by decide)]
        intro j hz hb
        by_cases hin : 9 * v.toNat ≤ j ∧ j < 9 * v.toNat + n.toNat
        · obtain ⟨q1, -⟩ := hg.2 (j - 9 * v.toNat) (by omega)
          unfold lR at q1
          rw [show (4 * ((j - 9 * v.toNat : Nat) : Int)).toNat = 4 * (j - 9 * v.toNat) by omega, show (4 * ((j - 9 * v.toNat : Nat) : Int) + 1).toNat = 4 * (j - 9 * v.toNat) + 1 by omega] at q1
          rw [show 4 * j + 0 = 36 * v.toNat + 4 * (j - 9 * v.toNat) by omega, a3 _ (by omega)] at hz
          rw [show 4 * j + 1 = 36 * v.toNat + (4 * (j - 9 * v.toNat) + 1) by omega, a3 _ (by omega)]
          exact q1 hz
        · rw [a4 (4 * j + 0) (by omega)] at hz
          rw [a4 (4 * j + 1) (by omega)]
          exact aRs_111 (E := E) h.2.1 ⟨w11, r11⟩ j hz hb
    · rw [g3.row (by decide), g3.row (by decide), g3.row (by decide)]
      refine jV_new (v := v.toNat) (n := n.toNat) (f := f) (by omega) (by omega) bf h.2.2.1.1 (fun j hj => ?_) a1 (by omega) a3 a4 a5 a6 (fun k hk => ?_)
      · exact ⟨(k11 (4 * j + 2) (0, 256) (by omega) (by rw [show ([aF, aF, (0, 256), (0, 256)] : List (Int × Int)).length = 4 from rfl, show (4 * j + 2) % 4 = 2 by omega]; rfl)).1, (k11 (4 * j + 3) (0, 256) (by omega) (by rw [show ([aF, aF, (0, 256), (0, 256)] : List (Int × Int)).length = 4 from rfl, show (4 * j + 3) % 4 = 3 by omega]; rfl)).1⟩
      · obtain ⟨q1, q2, q3, q4, q5⟩ := hg.2 k (by omega)
        exact ⟨q2, q3, by omega, q5⟩
  -- the two rows
  have copy : ∀ w, pW E al wb w → hD [110] wb w → (∀ i, i ≠ 2 * v.toNat → i ≠ 2 * v.toNat + 1 → jR w 110 i = jR wb 110 i) → (jR w 110 (2 * v.toNat)).toInt = n → hG E al 12 232 108 (rw_K2 n v) [] [] w (re_post E al ws0) := by
    intro w hp hd1 a1 a2
    have e111 : jR w 111 = jR wb 111 := hd1.row (by decide)
    have e112 : jR w 112 = jR wb 112 := hd1.row (by decide)
    refine rw_glue (ρ := [n, v, 0]) H rw_c108 (hp.hW ⟨bn, bv, by decide, trivial⟩ aFs.nil aHh.nil) rfl rfl rw_E2 rfl rw_E30 rfl ?_
    refine rw_lines H bn bv hLc (4 * n.toNat) 0 w (by omega) hp (fun i hi => by omega) (fun i _ => by rw [e111]) (fun w2 g1 g2 g3 g4 => ?_)
    have e112b : jR w2 112 = jR wb 112 := by rw [g2.row (by decide), e112]
    have e110 : jR w2 110 = jR w 110 := g2.row (by decide)
    refine rw_signs H bn bv bf h hf f 0 w2 (by omega) g1 (fun i hi => by omega) (fun i _ => by rw [e112b]) (fun w3 m1 m2 m3 m4 => ?_)
    have f110 : jR w3 110 = jR w2 110 := m2.row (by decide)
    have f111 : jR w3 111 = jR w2 111 := m2.row (by decide)
    exact last w3 m1 (fun i h1 h2 => by rw [f110, e110]; exact a1 i h1 h2) (by rw [f110, e110]; exact a2) (fun i hi => by rw [f111]; exact g3 i hi) (fun i hi => by rw [f111]; exact g4 i hi) m3 m4
  -- the two stores
  refine rw_glue (ρ := [n, v, 0]) H rw_c83 (p0.hW ⟨bn, bv, by decide, trivial⟩ aFs.nil aHh.nil) rfl rfl rw_E2 rfl rw_E2 (stk2 := [.inl (ae_k n), .inl (ae_k (2 * v)), .inr (0, 110)]) ?_ ?_
  · simp only [avE, rw_at, ae_s, ae_ev, ae_el, List.map_cons, List.map_nil, List.getD_cons_zero, List.getD_cons_succ, Int.one_mul, Int.add_zero]
  refine hp_ias (by decide +kernel) h.1 aw_110 (aV.k _) (aV.k _) (by omega) (by omega) (fun z w3 hz hq3 hj hw => ?_)
  obtain ⟨q, rfl⟩ := hq3
  have d3 : hD [110] wb (wb.set 110 q) := hD.set
  have hp3 : pW E al wb (wb.set 110 q) := ⟨hw (fun c hc => by
      rw [show ([(0, 9), aF] : List (Int × Int)).length = 2 from rfl, show (2 * v).toNat % 2 = 0 by omega] at hc
      cases hc
      exact bn), jW_hD d3 (by decide) (by decide +kernel) p0.2.1, d3.more (by simp)⟩
  have bx := And.intro (i32_lo (jR wb 100 0)) (i32_hi (jR wb 100 0))
  refine rw_glue (ρ := [n, v, (jR wb 100 0).toInt]) H rw_c92 (hp3.hW ⟨bn, bv, bx, trivial⟩ aFs.nil (aHh.cons (aH1.mk (by decide) rfl rfl (by rw [ae_ev_k]; decide) ?_) aHh.nil)) rfl rfl rw_E2 rfl rw_E2 (stk2 := [.inl (ae_k (jR wb 100 0).toInt), .inl (ae_k (2 * v + 1)), .inr (0, 110)]) ?_ ?_
  · have e : ae_ev [n, v, (jR wb 100 0).toInt] (ae_s 2) = (jR wb 100 0).toInt := by simp only [ae_s, ae_ev, ae_el, List.getD_cons_zero, List.getD_cons_succ]; omega
    rw [e, ae_ev_k]
    exact aSl.at (d3.2 100 (by decide)) (aSl.row r00 (by decide) rfl)
  · simp only [avE, rw_at, ae_s, ae_ev, ae_el, List.map_cons, List.map_nil, List.getD_cons_zero, List.getD_cons_succ, Int.one_mul, Int.add_zero]
  refine hp_ias (by decide +kernel) hp3.1 aw_110 (aV.k _) (aV.k _) (by omega) (by omega) (fun z2 w4 hz2 hq4 hj2 hw2 => ?_)
  obtain ⟨q2, rfl⟩ := hq4
  have d4 : hD [110] (wb.set 110 q) ((wb.set 110 q).set 110 q2) := hD.set
  have hp4 : pW E al wb ((wb.set 110 q).set 110 q2) := ⟨hw2 (fun c hc => by
      rw [show ([(0, 9), aF] : List (Int × Int)).length = 2 from rfl, show (2 * v + 1).toNat % 2 = 1 by omega] at hc
      cases hc
      exact bx), jW_hD d4 (by decide) (by decide +kernel) hp3.2.1, hp3.2.2.trans (d4.more (by simp))⟩
  rw [show (2 * v).toNat = 2 * v.toNat by omega] at hj
  rw [show (2 * v + 1).toNat = 2 * v.toNat + 1 by omega, hj] at hj2
  refine copy _ hp4 (d3.trans d4) (fun i h1 h2 => ?_) ?_
  · rw [hj2, upd_lo h2, upd_lo h1]
  · rw [hj2, upd_lo (by omega), upd_at]
    exact hz
theorem re_46 (H : hOk E al gR jJ) (HW : hOk E al gW jW) {s : Nat} {n : Int} (hs : s < 5) (hk : rK s w) (hb : rB E al ws0 w) (hn : 0 ≤ n ∧ n ≤ 10) (hg : s < 4 → rG w n) : hG E al 12 232 46 (em_K n) [] [] w (re_post E al ws0) := by
  have b := hb.1.bds
  obtain ⟨w00, r00, k00⟩ := hb.1.1.row aw_100
  have bad : ∀ {c : aCon} {x : Option Value} {w2 : va_W} {ρ : List Int}, c.2.2.2.2.2.1 = [99] → c.2.2.2.2.2.2.2 = [([aF], [], some (.inl (ae_s 8)), [])] → aCs E al gR jJ c ρ w x w2 → re_post E al ws0 x w2 := by
    intro c x w2 ρ e1 e2 hx
    obtain ⟨cs, hcs, r, h1, h2, h3, h4, h5, h6, h7, h8, h9⟩ := hx
    rw [e2] at hcs
    have hcs := List.mem_singleton.mp hcs
    subst hcs
    obtain ⟨u, rfl, z, rfl, hz⟩ := h3
    rw [e1] at h9
    exact ⟨⟨z, rfl⟩, ⟨h5, h6, h7⟩, (hb.2.1.more (by simp)).trans (hD.more (cs := [99]) ⟨h8, h9⟩ (by simp))⟩
  by_cases h4 : s < 4
  · have hg0 := hg h4
    have bv : 0 ≤ (jR w 100 6).toInt ∧ (jR w 100 6).toInt ≤ 8 := k00 6 (0, 8) (by decide) rfl
    have k6 : rK 6 w := by
      obtain ⟨k1, k2, k3, k4, k5, k6⟩ := hk
      exact ⟨by omega, fun _ => k2 (by omega), by omega, by omega, fun _ => k5 (by omega), by omega⟩
    by_cases h8 : (jR w 100 6).toInt = 8
    · refine hG.sub (lv2 := wa_lv0) ?_ (by simp [wa_lv0, em_K])
      refine (hp_ans (ρ := [] ++ rX w) (c := re_c8) H (by decide) re_k8 (hp_st (h0 := [((100, ae_k 6), ae_k 8)]) hb.1 (by decide) k6 rfl rfl (hEv.ok (σ := []) (env := []) trivial) aFs.nil (aHh.cons (aH1.mk (by decide) rfl rfl (by rw [ae_ev_k]; decide) ?_) aHh.nil)) (fun x w2 hx => bad rfl rfl hx)).toK (lv2 := wa_lv0) (st2 := []) rfl rfl rfl rfl
      rw [ae_ev_k, ae_ev_k]
      exact aSl.row r00 (by decide) h8
    · refine (hp_go (ρ := [n, (jR w 100 6).toInt] ++ rX w) (p := re_P46) H (by decide) re_c46 (hp_st (h0 := [((100, ae_k 6), ae_s 1)]) hb.1 (by decide) k6 rfl rfl (hEv.ok (σ := [n, (jR w 100 6).toInt]) (env := [(0, 9), (0, 7)]) ⟨⟨hn.1, hg0.1⟩, ⟨bv.1, by show (jR w 100 6).toInt ≤ 7; omega⟩, trivial⟩) aFs.nil (aHh.cons (aH1.mk (by decide) rfl rfl (by rw [ae_ev_k]; decide) ?_) aHh.nil)) ?_).toK (lv2 := em_K n) (st2 := []) rfl rfl re_E rfl
      · have e : ae_ev ([n, (jR w 100 6).toInt] ++ rX w) (ae_s 1) = (jR w 100 6).toInt := by simp only [ae_s, ae_ev, ae_el, List.cons_append, List.getD_cons_zero, List.getD_cons_succ]; omega
        rw [e, ae_ev_k]
        exact aSl.row r00 (by decide) rfl
      · intro T hT σ w2 k1 k2 k3 k4
        have hT := List.mem_singleton.mp hT
        subst hT
        have dd : hD [99] w w2 := ⟨k3, fun k hk => k4 k hk⟩
        have x0 : σ.getD 0 0 = n := rX_ge (ρ := [n, (jR w 100 6).toInt]) (n := 2) (N := 10) (k := 0) rfl (by decide) (by decide) k1
        have x1 : σ.getD 1 0 = (jR w 100 6).toInt := rX_ge (ρ := [n, (jR w 100 6).toInt]) (n := 2) (N := 10) (k := 1) rfl (by decide) (by decide) k1
        have x8 : σ.getD (2 + 6) 0 = jF w 28 := (rX_of (ρ := [n, (jR w 100 6).toInt]) (n := 2) (N := 10) rfl (by decide) k1).2.2.2.2.2.2.1
        have hI2 : hI E al jJ w2 := k2.2.2.2
        have e28 : jF w2 28 = jF w 28 := by
          have := (k2.2.2.1.sl (c := 99) (i := ae_k 28) (v := ae_s 8) List.mem_cons_self (by decide)).2
          have e1 : ae_ev σ (ae_s 8) = σ.getD 8 0 := by simp [ae_ev, ae_s, ae_el]
          have e2 : ae_ev σ (ae_k 28) = 28 := by simp [ae_ev, ae_k, ae_el]
          rw [e1, e2] at this
          have this : σ.getD 8 0 = jF w2 28 := jF.sl hI2.obj this
          rw [← this]
          exact x8
        have e100 : jR w2 100 = jR w 100 := dd.row (by decide)
        have rg2 : rG w2 n := ⟨hg0.1, fun k hk => by
          have := hg0.2 k hk
          unfold lOK lR at *
          rw [dd.row (by decide), dd.row (by decide), e28]
          exact this⟩
        refine (re_83 (ws0 := ws0) HW hI2 (hb.2.1.trans (dd.more (by simp))) hn.1 rg2 (v := (jR w 100 6).toInt) ⟨bv.1, by omega⟩ (by rw [e100])).ofK ?_ rfl
        show lvE σ (wa_lv2 0 1) = _
        simp only [lvE, avE, wa_lv2, rw_K2, ae_s, ae_ev, ae_el, List.map_cons, List.map_nil, x0, x1, Int.one_mul, Int.add_zero]
  · have e : s = 4 := by omega
    refine hG.sub (lv2 := wa_lv0) ?_ (by simp [wa_lv0, em_K])
    have hk4 : rK 4 w := e ▸ hk
    exact (hp_ans (ρ := [] ++ rX w) (c := re_cF) H (by decide) re_kF (hp_st hb.1 (by decide) hk4 rfl rfl (hEv.ok (σ := []) (env := []) trivial) aFs.nil aHh.nil) (fun x w2 hx => bad rfl rfl hx)).toK (lv2 := wa_lv0) (st2 := []) rfl rfl rfl rfl
/-- read: its contract -/
def ac_read : aCon := (232, [], [], [.inr (0, 99)], [], [99, 100, 110, 111, 112, 119, 120, 121], 13, [([aF], [], some (.inl (ae_s 0)), [])])
theorem gR_ok (hf : E.2.2.2.1.category = 1) (hT : ∀ σ : List Int, aTb E σ aTabs) : hOk E al gR jJ := hOk.mk hf hT jJ_prot (fun c hc => by
  have hc := List.mem_singleton.mp hc
  subst hc
  exact ak_inst_ok (G := aG0 []) (q := ai_adv) hf (by show aLay.length < 1000000; decide +kernel) (by show aRok aRules = true; decide +kernel) jJ_prot (fun c hc => by cases hc) hT (by decide) ac_adv_chk)
theorem read_ok (hf : E.2.2.2.1.category = 1) (hT : ∀ σ : List Int, aTb E σ aTabs) : aCO E al (aG0 []) jJ ac_read := by
  have H : hOk E al gR jJ := gR_ok hf hT
  intro ρ as ws0 a1 a2 a3 a4 a5 a6 a7 d hd
  have h0 : hI E al jJ ws0 := ⟨a5, a6, a7⟩
  have hρ : ρ = [] := List.eq_nil_of_length_eq_zero a1.1
  subst hρ
  have := hG.in0 hf (as := [.inr (0, 99)]) (re_0 H h0 (fun w s n hs hk hb hn hg => re_46 (ws0 := ws0) H (hOkW hf hT) hs hk hb hn hg)) a3
  refine this.weaken (by show 12 ≤ d; have : 13 ≤ d := hd; omega) (Nat.le_refl _) (Nat.le_refl _) (fun x w hx => ?_)
  obtain ⟨⟨z, rfl⟩, g1, g2⟩ := hx
  refine ⟨_, List.mem_cons_self, [z.toInt], ?_, aFs.nil, ⟨_, rfl, z, rfl, aV.s rfl⟩, aHh.nil, g1.1, g1.2.1, g1.2.2, g2.1, fun k hk => g2.2 k hk⟩
  exact hEv.ok (σ := [z.toInt]) (env := [aF]) ⟨⟨i32_lo z, i32_hi z⟩, trivial⟩
end RWHOLE
