/-! THE READER, by hand: wantLine, the whole -/
section LINEW
variable {E : mj_E} {al : List Nat} {ρ σ : List Int} {ws ws0 w w2 : va_W} {Q : Option Value → va_W → Prop}
theorem wl_228 (H : hOk E al gR jJ) {s : Nat} {n : Int} (hs : s < 5) (hk : rK s w) (h : lB E al ws0 w n) (hp : jF ws0 21 + 1 ≤ jF w 21) (hn : 0 ≤ n ∧ n ≤ 8) (h2 : (jR w 119 (4 * n + 2).toNat).toInt = jF ws0 28) (hg : s < 4 → lR w n ∧ dep (jR w 120) (jF ws0 28).toNat ((jF w 28).toNat - (jF ws0 28).toNat) ≠ none) :
    hG E al 10 237 228 (wl_K3 n) [.inl (ae_k (jF w 28 - jF ws0 28)), .inl (ae_k (4 * n + 3)), .inr (0, 119)] [] w (wl_post E al ws0 n) := by
  refine hp_ias (by decide +kernel) h.1.1 aw_119 (aV.k _) (aV.k _) (by omega) (by omega) (fun z w3 hz hq hj hw => ?_)
  obtain ⟨q, rfl⟩ := hq
  obtain ⟨b1, o, o8, e120⟩ := h.put (c := 3) (hw (aF_any hz)) hj hn.1 (by decide)
  have o21 : jF (w.set 119 q) 21 = jF w 21 := o.2.2.1
  refine hG.sub (lv2 := wa_lv0) (wl_229 H hs (o.k hk) b1 (by omega) hn.2 (fun h4 => ?_)) (by simp [wa_lv0, wl_K3])
  obtain ⟨g1, g2⟩ := hg h4
  unfold lG lR
  unfold lR at g1
  rw [hj, o8, e120, upd_lo (show (4 * n).toNat ≠ (4 * n + 3).toNat by omega), upd_lo (show (4 * n + 1).toNat ≠ (4 * n + 3).toNat by omega), upd_lo (show (4 * n + 2).toNat ≠ (4 * n + 3).toNat by omega), upd_at]
  exact ⟨g1, h2, hz, g2⟩
theorem wl_E3 {n f : Int} {r : List Int} : lvE (n :: f :: r) wl_lv3 = wl_K3 n := by
  simp only [lvE, avE, wl_lv3, wl_K3, wl_at, ae_k, ae_ev, ae_el, List.map_cons, List.map_nil, List.getD_cons_zero, Int.add_zero]
/-- behind the condition -/
theorem wl_208 (H : hOk E al gR jJ) (h0 : hI E al jJ ws0) {pc s : Nat} {n so : Int} (hpc : pc ∈ [153, 176, 208]) (hs : s < 5) (hk : rK s w) (h : lB E al ws0 w n) (hp : jF ws0 21 + 1 ≤ jF w 21) (hn : 0 ≤ n ∧ n ≤ 8) (h2 : (jR w 119 (4 * n + 2).toNat).toInt = jF ws0 28) (hg : s < 4 → lR w n ∧ dep (jR w 120) (jF ws0 28).toNat ((jF w 28).toNat - (jF ws0 28).toNat) ≠ none) :
    hG E al 10 237 pc (wl_K n so) [] [] w (wl_post E al ws0 n) := by
  have b := h.1.bds
  have b0 := h0.bds
  obtain ⟨w19, r19, k19⟩ := h.1.1.row aw_119
  refine hG.sub (lv2 := wl_K3 n) ?_ (by simp [wl_K, wl_K3])
  refine (hp_go (ρ := [n, jF ws0 28] ++ rX w) (p := wl_P153 pc) H (by decide) (wl_c153 pc hpc) (hp_st h.1 (by decide) rK5 rfl rfl (hEv.ok (σ := [n, jF ws0 28]) (env := [(0, 8), (0, 256)]) ⟨hn, b0.2.2.2.2.2.2.1, trivial⟩) aFs.nil (aHh.cons (aH1.mk (by decide) rfl rfl ?_ ?_) aHh.nil)) ?_).toK rfl rfl wl_E3 rfl
  · simp only [wl_at, ae_ev, ae_el, List.cons_append, List.nil_append, List.getD_cons_zero]
    omega
  · have e1 : ae_ev ([n, jF ws0 28] ++ rX w) (wl_at 2) = 4 * n + 2 := by
      simp only [wl_at, ae_ev, ae_el, List.cons_append, List.nil_append, List.getD_cons_zero]
      omega
    have e2 : ae_ev ([n, jF ws0 28] ++ rX w) (ae_s 1) = jF ws0 28 := by
      simp only [ae_s, ae_ev, ae_el, List.cons_append, List.nil_append, List.getD_cons_zero, List.getD_cons_succ]
      omega
    rw [e1, e2]
    exact aSl.row r19 (by omega) h2
  · intro T hT σ w2 k1 k2 k3 k4
    have hT := List.mem_singleton.mp hT
    subst hT
    obtain ⟨e1, e2, e3⟩ := rd_same (ρ := [n, jF ws0 28]) (N := 10) (env1 := [(0, 8), (0, 256)]) k1 k2 rfl rfl k3 k4
    subst e1
    subst e2
    refine (wl_228 H hs hk h hp hn h2 hg).ofK wl_E3 ?_
    show (wl_st ([(1, -1), (8, 1)], 0) 3).map (avE ([n, jF ws0 28] ++ rX w2)) = _
    simp only [wl_st, wl_at, avE, rX, ae_ev, ae_el, ae_k, List.map_cons, List.map_nil, List.cons_append, List.nil_append, List.getD_cons_zero, List.getD_cons_succ]
    simp only [List.cons.injEq, Sum.inl.injEq, Prod.mk.injEq, true_and, and_true]
    omega
theorem wl_150 (H : hOk E al gR jJ) (h0 : hI E al jJ ws0) {pc s : Nat} {n so : Int} (hpc : pc ∈ [150, 173, 205]) (hs : s < 5) (hk : rK s w) (h : lB E al ws0 w n) (hf : jF w 28 = jF ws0 28) (hp : jF ws0 21 + 1 ≤ jF w 21) (hn : 0 ≤ n ∧ n ≤ 8) (h2 : (jR w 119 (4 * n + 2).toNat).toInt = jF ws0 28) (hg : s < 4 → lR w n) :
    hG E al 10 237 pc (wl_K n so) [.inr (0, 99)] [] w (wl_post E al ws0 n) := by
  have hpc2 : pc + 3 ∈ [153, 176, 208] := by
    simp only [List.mem_cons, List.not_mem_nil, or_false] at hpc ⊢
    omega
  have hcall : ak_callat gR (9 + 1) 237 pc (wl_K n so) [.inr (0, 99)] ([], [], [], [], []) = some (242, [.inr (0, 99)], []) := by
    simp only [List.mem_cons, List.not_mem_nil, or_false] at hpc
    rcases hpc with rfl | rfl | rfl
    · rfl
    · rfl
    · rfl
  have b := h.1.bds
  refine rd_call (d := 9) (R := fun w2 => cB E al w w2 ∧ ∃ s2, s2 < 5 ∧ rK s2 w2 ∧ (s2 < 4 → s < 4 ∧ dep (jR w2 120) (jF w 28).toNat ((jF w2 28).toNat - (jF w 28).toNat) ≠ none)) H h.1 (by decide) hcall (fun AS ha => ?_) (fun w2 hR => ?_)
  · have hf2 : jF w 28 ≤ jF w 21 := h.2.2.2.2.1
    by_cases h4 : s < 4
    · exact (rd_cond H h.1 hs hk hf2 ha).weaken (by decide) (Nat.le_refl _) (Nat.le_refl _) (fun v w2 z => by
        obtain ⟨z1, z2, s2, z3, z4, z5⟩ := z
        exact ⟨z1, z2, s2, z3, z4, fun h => ⟨h4, z5 h⟩⟩)
    · exact (rd_cond4 H h.1 (by omega) hk hf2 ha).weaken (by decide) (Nat.le_refl _) (Nat.le_refl _) (fun v w2 z => ⟨z.1, z.2.1, 4, by decide, z.2.2, fun h => by omega⟩)
  · obtain ⟨⟨c1, c2, c3, c4, c5, c6, c7⟩, s2, hs2, hk2, hd2⟩ := hR
    obtain ⟨-, m2, m3, m4, m5, m6, m7, m8⟩ := h
    have b2 := c1.bds
    have e119 : jR w2 119 = jR w 119 := c2.row (by decide)
    have lb : lB E al ws0 w2 n := ⟨c1, m2.trans (c2.more (by simp)), by omega, by omega, by omega, by omega, fun i hi => by rw [c7 i (by omega)]; exact m7 i hi, fun i hi => by rw [e119]; exact m8 i hi⟩
    refine wl_208 H h0 hpc2 hs2 hk2 lb (by omega) hn (by rw [e119]; exact h2) (fun h4 => ?_)
    obtain ⟨d1, d2⟩ := hd2 h4
    refine ⟨?_, by rw [hf] at d2; exact d2⟩
    have := hg d1
    unfold lR at *
    rw [e119]
    exact this
theorem wl_133 (H : hOk E al gR jJ) (h0 : hI E al jJ ws0) {s : Nat} {n so : Int} (hso : 0 ≤ so ∧ so ≤ 3) (hs : s < 5) (hk : rK s w) (h : lB E al ws0 w n) (hf : jF w 28 = jF ws0 28) (hp : jF ws0 21 + 1 ≤ jF w 21) (hn : 0 ≤ n ∧ n ≤ 8) (h2 : (jR w 119 (4 * n + 2).toNat).toInt = jF ws0 28) (hg : s < 4 → lR w n) :
    hG E al 10 237 133 (wl_K n so) [] [] w (wl_post E al ws0 n) := by
  refine (hp_go (ρ := [n, so] ++ rX w) (p := wl_P133 s) H (by decide) (wl_c133 s hs) (hp_st h.1 (by omega) hk rfl rfl (hEv.ok (σ := [n, so]) (env := [(0, 8), (0, 3)]) ⟨hn, hso, trivial⟩) aFs.nil aHh.nil) ?_).toK rfl rfl wl_E rfl
  intro T hT σ w2 k1 k2 k3 k4
  rcases List.mem_cons.mp hT with rfl | hT
  · obtain ⟨e1, e2, e3⟩ := rd_same (ρ := [n, so]) (N := 10) (env1 := [(0, 8), (0, 3)]) k1 k2 rfl rfl k3 k4
    subst e1
    subst e2
    refine (wl_208 H h0 (pc := 208) (by simp) hs hk h hp hn h2 (fun h4 => ⟨hg h4, ?_⟩)).ofK wl_E rfl
    rw [hf, Nat.sub_self]
    exact fun e => by cases e
  · obtain ⟨t, ht, hT⟩ := List.mem_flatMap.mp hT
    obtain ⟨pc, hpc, rfl⟩ := List.mem_map.mp hT
    obtain ⟨ht5, hts⟩ := wl_ts_le ht
    obtain ⟨g1, g2, g3, g4, g5, g6, -, -⟩ := hp_enN (ρ := [n, so]) (n := 2) (N := 10) (m := 10) rfl (by decide) k1 ht5 rfl k2
    have dd : hD [99] w w2 := ⟨k3, fun k hk => k4 k hk⟩
    have e119 : jR w2 119 = jR w 119 := dd.row (by decide)
    have x0 : σ.getD 0 0 = n := rX_ge (ρ := [n, so]) (n := 2) (N := 10) (k := 0) rfl (by decide) (by decide) k1
    have x1 : σ.getD 1 0 = so := rX_ge (ρ := [n, so]) (n := 2) (N := 10) (k := 1) rfl (by decide) (by decide) k1
    refine (wl_150 H h0 hpc ht5 g2 (lB_tok h g1 dd g3 g4 (by omega)) (by omega) (by omega) hn (by rw [e119]; exact h2) (fun h4 => ?_)).ofK (lv2 := wl_K n so) ?_ rfl
    · have := hg (hts h4)
      unfold lR at *
      rw [e119]
      exact this
    · show lvE σ (wl_lv (ae_s 1)) = _
      simp only [lvE, avE, wl_lv, wl_K, wl_at, ae_s, ae_k, ae_ev, ae_el, List.map_cons, List.map_nil, x0, x1, Int.one_mul, Int.add_zero]
theorem wl_121 (H : hOk E al gR jJ) (h0 : hI E al jJ ws0) {s : Nat} {n so : Int} (hso : 0 ≤ so ∧ so ≤ 3) (hs : s < 5) (hk : rK s w) (h : lB E al ws0 w n) (hf : jF w 28 = jF ws0 28) (hp : jF ws0 21 + 1 ≤ jF w 21) (hn : 0 ≤ n ∧ n ≤ 8) (hg : s < 4 → lR w n) :
    hG E al 10 237 121 (wl_K n so) [] [] w (wl_post E al ws0 n) := by
  refine rd_glue (ρ := [n, so]) (env0 := [(0, 8), (0, 3)]) (s := 5) H h.1 (by decide) rK5 ⟨hn, hso, trivial⟩ (by decide) wl_c121 rfl rfl wl_E rfl wl_E (stk2 := [.inl (ae_k (jF w 28)), .inl (ae_k (4 * n + 2)), .inr (0, 119)]) ?_ ?_
  · simp only [wl_st, wl_at, avE, rX, ae_s, ae_ev, ae_el, ae_k, List.map_cons, List.map_nil, List.cons_append, List.nil_append, List.getD_cons_zero, List.getD_cons_succ, Int.one_mul, Int.add_zero]
  · refine hp_ias (by decide +kernel) h.1.1 aw_119 (aV.k _) (aV.k _) (by omega) (by omega) (fun z w3 hz hq hj hw => ?_)
    obtain ⟨q, rfl⟩ := hq
    obtain ⟨b1, o, o8, e120⟩ := h.put (c := 2) (hw (aF_any hz)) hj hn.1 (by decide)
    have o21 : jF (w.set 119 q) 21 = jF w 21 := o.2.2.1
    refine wl_133 H h0 hso hs (o.k hk) b1 (by omega) (by omega) hn ?_ (fun h4 => ?_)
    · rw [hj, upd_at, hz, hf]
    · have := hg h4
      unfold lR at *
      rw [hj, upd_lo (show (4 * n).toNat ≠ (4 * n + 2).toNat by omega), upd_lo (show (4 * n + 1).toNat ≠ (4 * n + 2).toNat by omega)]
      exact this
theorem wl_120 (H : hOk E al gR jJ) (h0 : hI E al jJ ws0) {s : Nat} {n so v : Int} (hso : 0 ≤ so ∧ so ≤ 3) (hs : s < 5) (hk : rK s w) (h : lB E al ws0 w n) (hf : jF w 28 = jF ws0 28) (hp : jF ws0 21 + 1 ≤ jF w 21) (hn : 0 ≤ n ∧ n ≤ 8) (h4n : (jR w 119 (4 * n).toNat).toInt = so) (hg : s < 4 → so = 0 → 0 ≤ v ∧ v ≤ 9) :
    hG E al 10 237 120 (wl_K n so) [.inl (ae_k v), .inl (ae_k (4 * n + 1)), .inr (0, 119)] [] w (wl_post E al ws0 n) := by
  refine hp_ias (by decide +kernel) h.1.1 aw_119 (aV.k _) (aV.k _) (by omega) (by omega) (fun z w3 hz hq hj hw => ?_)
  obtain ⟨q, rfl⟩ := hq
  obtain ⟨b1, o, o8, e120⟩ := h.put (c := 1) (hw (aF_any hz)) hj hn.1 (by decide)
  have o21 : jF (w.set 119 q) 21 = jF w 21 := o.2.2.1
  refine wl_121 H h0 hso hs (o.k hk) b1 (by omega) (by omega) hn (fun h4 => ?_)
  unfold lR
  rw [hj, upd_lo (show (4 * n).toNat ≠ (4 * n + 1).toNat by omega), upd_at, hz, h4n]
  exact hg h4
theorem wl_88 (H : hOk E al gR jJ) (h0 : hI E al jJ ws0) {s : Nat} {n so : Int} (hso : 0 ≤ so ∧ so ≤ 3) (hs : s < 4) (hk : rK s w) (h : lB E al ws0 w n) (hf : jF w 28 = jF ws0 28) (hp : jF ws0 21 + 1 ≤ jF w 21) (hn : 0 ≤ n ∧ n ≤ 8) (h4n : (jR w 119 (4 * n).toNat).toInt = so) :
    hG E al 10 237 88 (wl_K n so) [] [] w (wl_post E al ws0 n) := by
  refine (hp_go (ρ := [n, so] ++ rX w) (p := wl_P88 s) H (by decide) (wl_c88 s hs) (hp_st h.1 (by omega) hk rfl rfl (hEv.ok (σ := [n, so]) (env := [(0, 8), (0, 3)]) ⟨hn, hso, trivial⟩) aFs.nil aHh.nil) ?_).toK rfl rfl wl_E rfl
  intro T hT σ w2 k1 k2 k3 k4
  rcases List.mem_cons.mp hT with rfl | hT
  · obtain ⟨e1, e2, e3⟩ := rd_same (ρ := [n, so]) (N := 10) (env1 := [(0, 8), (1, 1)]) k1 k2 rfl rfl k3 k4
    subst e1
    subst e2
    have es : 1 ≤ so := (e3 1 _ rfl).1
    refine (wl_120 H h0 hso (by omega) hk h hf hp hn h4n (v := -3) (fun _ e => by omega)).ofK wl_E ?_
    show (wl_st (ae_k (-3)) 1).map (avE ([n, so] ++ rX w2)) = _
    simp only [wl_st, wl_at, avE, ae_ev, ae_el, ae_k, List.map_cons, List.map_nil, List.cons_append, List.nil_append, List.getD_cons_zero, Int.add_zero, Int.zero_add]
  · obtain ⟨t, ht, rfl⟩ := List.mem_map.mp hT
    have ht5 : t < 5 := by simp at ht; omega
    obtain ⟨g1, g2, g3, g4, g5, g6, g7, -⟩ := hp_enN (ρ := [n, so]) (n := 2) (N := 10) (m := 10) rfl (by decide) k1 ht5 rfl k2
    have dd : hD [99] w w2 := ⟨k3, fun k hk => k4 k hk⟩
    have e119 : jR w2 119 = jR w 119 := dd.row (by decide)
    have x0 : σ.getD 0 0 = n := rX_ge (ρ := [n, so]) (n := 2) (N := 10) (k := 0) rfl (by decide) (by decide) k1
    have x1 : σ.getD 1 0 = so := rX_ge (ρ := [n, so]) (n := 2) (N := 10) (k := 1) rfl (by decide) (by decide) k1
    refine (wl_120 H h0 hso ht5 g2 (lB_tok h g1 dd g3 g4 (by omega)) (by omega) (by omega) hn (by rw [e119]; exact h4n) (v := σ.getD 6 0) (fun h4 _ => ?_)).ofK (lv2 := wl_K n so) ?_ ?_
    · rw [if_pos h4] at g7
      have q1 := g7 _ List.mem_cons_self
      have q2 := g7 _ (List.mem_cons_of_mem _ List.mem_cons_self)
      simp only [ae_ev, ae_el] at q1 q2
      omega
    · show lvE σ (wl_lv (ae_s 1)) = _
      simp only [lvE, avE, wl_lv, wl_K, wl_at, ae_s, ae_k, ae_ev, ae_el, List.map_cons, List.map_nil, x0, x1, Int.one_mul, Int.add_zero]
    · show (wl_st (ae_s 6) 1).map (avE σ) = _
      simp only [wl_st, wl_at, avE, ae_s, ae_ev, ae_el, ae_k, List.map_cons, List.map_nil, x0, Int.one_mul, Int.add_zero]
theorem rd_line (H : hOk E al gR jJ) (h0 : hI E al jJ ws0) {s : Nat} (hs : s < 4) (hs1 : 1 ≤ s) (hk : rK s ws0) (hf : jF ws0 28 ≤ jF ws0 21) {n : Int} (hn : 0 ≤ n ∧ n ≤ 9) {AS : List Value} (ha : gL E al [] [.inr (0, 99), .inl (ae_k n)] AS) : MJ E 10 0 0 (mj_in0 237 AS ws0) (wl_post E al ws0 n) := by
  refine hG.in0 H.1 (as := [.inr (0, 99), .inl (ae_k n)]) ?_ ha
  show hG E al 10 237 0 (em_K n) [] [] ws0 _
  have b := h0.bds
  have lb : lB E al ws0 ws0 n := ⟨h0, hD.refl, rfl, by omega, by omega, by omega, fun _ _ => rfl, fun _ _ => rfl⟩
  refine (hp_go (ρ := [n] ++ rX ws0) (p := wl_P0 s) H (by decide) (wl_c0 s hs hs1) (hp_st h0 (by omega) hk rfl rfl (hEv.ok (σ := [n]) (env := [(0, 9)]) ⟨hn, trivial⟩) aFs.nil aHh.nil) ?_).toK rfl rfl ?_ rfl
  · intro T hT σ w2 k1 k2 k3 k4
    have x0 : σ.getD 0 0 = n := rX_ge (ρ := [n]) (n := 1) (N := 9) (k := 0) rfl (by decide) (by decide) k1
    rcases List.mem_cons.mp hT with rfl | hT
    · obtain ⟨g1, g2, g3, g4, g5, g6, -, -⟩ := hp_enN (ρ := [n]) (n := 1) (N := 9) (m := 9) (t := 4) rfl (by decide) k1 (by omega) rfl k2
      have dd : hD [99] ws0 w2 := ⟨k3, fun k hk => k4 k hk⟩
      exact hp_ret (pc := 72) H (by decide) (by decide +kernel) (by decide +kernel) ⟨rfl, lB_tok lb g1 dd g3 g4 (by omega), 4, by decide, g2, fun h => by omega⟩
    · obtain ⟨t, ht, rfl⟩ := List.mem_map.mp hT
      have ht4 : t < 4 := by simp at ht; omega
      obtain ⟨g1, g2, g3, g4, g5, g6, -, -⟩ := hp_enN (ρ := [n]) (n := 1) (N := 9) (m := 10) (t := t) rfl (by decide) k1 (by omega) rfl k2
      have dd : hD [99] ws0 w2 := ⟨k3, fun k hk => k4 k hk⟩
      have b0 : 0 ≤ σ.getD 0 0 ∧ σ.getD 0 0 ≤ 8 := k2.1.ev (k := 0) rfl
      have b9 : 0 ≤ σ.getD 9 0 ∧ σ.getD 9 0 ≤ 3 := k2.1.ev (k := 9) rfl
      have lb2 := lB_tok lb g1 dd g3 g4 (by omega)
      refine hG.ofK (lv2 := wl_K n (σ.getD 9 0)) (st2 := [.inl (ae_k (σ.getD 9 0)), .inl (ae_k (4 * n)), .inr (0, 119)]) ?_ ?_ ?_
      · refine hp_ias (pc := 87) (by decide +kernel) g1.1 aw_119 (aV.k _) (aV.k _) (by omega) (by omega) (fun z w3 hz hq hj hw => ?_)
        obtain ⟨q, rfl⟩ := hq
        obtain ⟨b1, o, o8, e120⟩ := lb2.put (c := 0) (hw (aF_any hz)) (by rw [Int.add_zero]; exact hj) hn.1 (by decide)
        have o21 : jF (w2.set 119 q) 21 = jF w2 21 := o.2.2.1
        exact wl_88 H h0 b9 ht4 (o.k g2) b1 (by omega) (by omega) ⟨hn.1, by omega⟩ (by rw [hj, upd_at]; exact hz)
      · show lvE σ (wl_lv (ae_s 9)) = _
        simp only [lvE, avE, wl_lv, wl_K, wl_at, ae_s, ae_k, ae_ev, ae_el, List.map_cons, List.map_nil, x0, Int.one_mul, Int.add_zero]
      · show (wl_st (ae_s 9) 0).map (avE σ) = _
        simp only [wl_st, wl_at, avE, ae_s, ae_ev, ae_el, ae_k, List.map_cons, List.map_nil, x0, Int.one_mul, Int.add_zero]
  · show lvE ([n] ++ rX ws0) (wa_lv1 0) = em_K n
    simp only [lvE, avE, wa_lv1, em_K, ae_s, ae_ev, ae_el, List.cons_append, List.nil_append, List.map_cons, List.map_nil, List.getD_cons_zero, Int.one_mul, Int.add_zero]
end LINEW
