/-! THE READER, by hand: wantLine -/
section LINE
variable {E : mj_E} {al : List Nat} {ρ σ : List Int} {ws ws0 w w2 : va_W} {Q : Option Value → va_W → Prop}
/-- wantCond at fault stays at fault -/
theorem rd_cond4 (H : hOk E al gR jJ) (h0 : hI E al jJ ws0) {s : Nat} (hs4 : s = 4) (hk : rK s ws0) (hf : jF ws0 28 ≤ jF ws0 21) {AS : List Value} (ha : gL E al [] [.inr (0, 99)] AS) : MJ E 8 0 0 (mj_in0 242 AS ws0) (fun v w => v = none ∧ cB E al ws0 w ∧ rK 4 w) := by
  refine hG.in0 H.1 (as := [.inr (0, 99)]) ?_ ha
  have b := h0.bds
  refine (hp_go (ρ := [] ++ rX ws0) (p := wc_P0 s) H (by decide) (wc_c0 s (by omega)) (hp_st h0 (by omega) hk rfl rfl (hEv.ok (σ := []) (env := []) trivial) aFs.nil aHh.nil) ?_).toK (lv2 := wa_lv0) (st2 := []) rfl rfl rfl rfl
  intro T hT σ w k1 k2 k3 k4
  have hT := List.mem_singleton.mp hT
  subst hT
  obtain ⟨g1, g2, g3, g4⟩ := hp_en (m := 8) rfl rfl (by omega) rfl k2
  have g5 := rX_of (ρ := []) (n := 0) (N := 8) rfl (by decide) k1
  have g6 := rEqs_ok (fun f hf => g4 f (List.mem_append_left _ hf))
  have q0 := g6 0 0 (by simp)
  have q2 := g6 2 0 (by simp)
  have q6 := g6 6 0 (by simp)
  have q7 := g4 (ae_s 15) (List.mem_append_right _ (List.mem_singleton.mpr rfl))
  have q7 : σ.getD (8 + 7) 0 ≤ 0 := by simpa [ae_ev, ae_s, ae_el] using q7
  have g2 : rK 4 w := hs4 ▸ g2
  have dd : hD [99] ws0 w := ⟨k3, fun k hk => k4 k hk⟩
  have e120 : jR w 120 = jR ws0 120 := dd.row (by decide)
  have bw := g1.bds
  have hw : jF w 29 = 0 := by omega
  have cb : cB E al ws0 w := ⟨g1, dd.more (by simp), by omega, by omega, by omega, by omega, fun i hi => by rw [e120]⟩
  refine hG.ofK (lv2 := wc_K 0 1 1) (st2 := []) ?_ ?_ rfl
  · refine rd_glue (ρ := [0, 1]) (env0 := [(0, 4), (0, 1)]) (s := 4) H g1 (by decide) g2 ⟨by decide, by decide, trivial⟩ (by decide) wc_cC rfl rfl ?_ rfl (lvk2 := wa_lv0) rfl (stk2 := [.inl (ae_k 5), .inr (0, 99)]) rfl ?_
    · simp only [lvE, avE, wc_lva, wc_K, ae_s, ae_k, ae_ev, ae_el, List.cons_append, List.nil_append, List.map_cons, List.map_nil, List.getD_cons_succ, List.getD_cons_zero, Int.one_mul, Int.add_zero, Int.zero_add]
    · refine wc_settle H cb (by decide) (by rfl) (fun w2 hS => ?_)
      exact hp_ret (pc := 195) H (by decide) (by decide +kernel) (by decide +kernel) ⟨rfl, (cb.settle h0 hS).1, hS.2.2.1.k g2⟩
  · show lvE σ (wc_lv (ae_k 0) 1 1) = wc_K 0 1 1
    simp only [lvE, avE, wc_lv, wc_K, ae_k, ae_ev, ae_el, List.map_cons, List.map_nil, Int.zero_add]
theorem hG.sub {d y pc : Nat} {lv lv2 : List (Nat × av)} {st : List av} (h : hG E al d y pc lv2 st ρ ws Q) (hs : ∀ q ∈ lv2, q ∈ lv) : hG E al d y pc lv st ρ ws Q :=
  fun LV ST h1 h2 => h LV ST (fun q hq => h1 q (hs q hq)) h2
/-- what stays while a line is read -/
def lB (E : mj_E) (al : List Nat) (ws0 w : va_W) (n : Int) : Prop := hI E al jJ w ∧ hD [99, 119, 120, 121] ws0 w ∧ jF w 19 = jF ws0 19 ∧ jF ws0 28 ≤ jF w 28 ∧ jF w 28 ≤ jF w 21 ∧ jF ws0 21 ≤ jF w 21 ∧ (∀ i : Nat, (i : Int) < jF ws0 28 → jR w 120 i = jR ws0 120 i) ∧ ∀ i : Nat, (i : Int) < 4 * n → jR w 119 i = jR ws0 119 i
def lR (w : va_W) (n : Int) : Prop := (jR w 119 (4 * n).toNat).toInt = 0 → 0 ≤ (jR w 119 (4 * n + 1).toNat).toInt ∧ (jR w 119 (4 * n + 1).toNat).toInt ≤ 9
def lG (ws0 w : va_W) (n : Int) : Prop := lR w n ∧ (jR w 119 (4 * n + 2).toNat).toInt = jF ws0 28 ∧ (jR w 119 (4 * n + 3).toNat).toInt = jF w 28 - jF ws0 28 ∧ dep (jR w 120) (jF ws0 28).toNat ((jF w 28).toNat - (jF ws0 28).toNat) ≠ none
def wl_post (E : mj_E) (al : List Nat) (ws0 : va_W) (n : Int) (v : Option Value) (w : va_W) : Prop := v = none ∧ lB E al ws0 w n ∧ ∃ s, s < 5 ∧ rK s w ∧ (s < 4 → n ≤ 8 ∧ jF ws0 21 + 1 ≤ jF w 21 ∧ lG ws0 w n)
theorem wl_ts_le {s t : Nat} (h : t ∈ wl_ts s) : t < 5 ∧ (t < 4 → s < 4) := by
  unfold wl_ts at h
  split at h
  · simp at h; omega
  · simp at h; omega
/-- a world with the token moved alone -/
theorem lB_tok {n : Int} (h : lB E al ws0 w n) (h2 : hI E al jJ w2) (hd : hD [99] w w2) (e1 : jF w2 19 = jF w 19) (e2 : jF w2 28 = jF w 28) (e3 : jF w 21 ≤ jF w2 21) : lB E al ws0 w2 n := by
  obtain ⟨h1, m2, m3, m4, m5, m6, m7, m8⟩ := h
  refine ⟨h2, m2.trans (hd.more (by simp)), by omega, by omega, by omega, by omega, fun i hi => ?_, fun i hi => ?_⟩
  · rw [hd.row (by decide)]; exact m7 i hi
  · rw [hd.row (by decide)]; exact m8 i hi
/-- a store into the new lines -/
theorem lB.put {n : Int} {q : Nat × va_E} {c : Int} {z : Int32} (h : lB E al ws0 w n) (hw : aWd E al aLay (w.set 119 q)) (hj : jR (w.set 119 q) 119 = upd (jR w 119) (4 * n + c).toNat z) (hn : 0 ≤ n) (hc : 0 ≤ c) : lB E al ws0 (w.set 119 q) n ∧ rT w (w.set 119 q) ∧ jF (w.set 119 q) 28 = jF w 28 ∧ jR (w.set 119 q) 120 = jR w 120 := by
  obtain ⟨h1, m2, m3, m4, m5, m6, m7, m8⟩ := h
  have hd : hD [119] w (w.set 119 q) := hD.set
  have o := rT.at (hd.2 99 (by decide))
  have o8 := jF.at (hd.2 99 (by decide)) 28
  have e120 : jR (w.set 119 q) 120 = jR w 120 := hd.row (by decide)
  have hI2 : hI E al jJ (w.set 119 q) := h1.set hw (by decide +kernel) (by decide)
  have o' := o
  unfold rT at o'
  refine ⟨⟨hI2, m2.trans (hd.more (by simp)), by omega, by omega, by omega, by omega, fun i hi => by rw [e120]; exact m7 i hi, fun i hi => ?_⟩, o, o8, e120⟩
  rw [hj, upd_lo (by omega)]
  exact m8 i hi
theorem wl_229 (H : hOk E al gR jJ) {s : Nat} {n : Int} (hs : s < 5) (hk : rK s w) (h : lB E al ws0 w n) (hp : jF ws0 21 + 1 ≤ jF w 21) (hn : n ≤ 8) (hg : s < 4 → lG ws0 w n) : hG E al 10 237 229 wa_lv0 [] [] w (wl_post E al ws0 n) := by
  refine (hp_go (ρ := [] ++ rX w) (p := wl_P229 s) H (by decide) (wl_c229 s hs) (hp_st h.1 (by omega) hk rfl rfl (hEv.ok (σ := []) (env := []) trivial) aFs.nil aHh.nil) ?_).toK (lv2 := wa_lv0) (st2 := []) rfl rfl rfl rfl
  intro T hT σ w2 k1 k2 k3 k4
  obtain ⟨t, ht, rfl⟩ := List.mem_map.mp hT
  obtain ⟨ht5, hts⟩ := wl_ts_le ht
  obtain ⟨g1, g2, g3, g4, g5, g6, -, -⟩ := hp_enN (ρ := []) (n := 0) (N := 8) (m := 8) rfl (by decide) k1 ht5 rfl k2
  have dd : hD [99] w w2 := ⟨k3, fun k hk => k4 k hk⟩
  refine hp_ret (pc := 239) H (by decide) (by decide +kernel) (by decide +kernel) ⟨rfl, lB_tok h g1 dd g3 g4 (by omega), t, ht5, g2, fun h4 => ⟨hn, by omega, ?_⟩⟩
  have := hg (hts h4)
  unfold lG lR at *
  rw [dd.row (by decide), dd.row (by decide), g4]
  exact this
theorem wl_E {n so : Int} {r : List Int} : lvE (n :: so :: r) (wl_lv (ae_s 1)) = wl_K n so := by
  simp only [lvE, avE, wl_lv, wl_K, wl_at, ae_s, ae_k, ae_ev, ae_el, List.map_cons, List.map_nil, List.getD_cons_zero, List.getD_cons_succ, Int.one_mul, Int.add_zero, Int.zero_add]
end LINE
