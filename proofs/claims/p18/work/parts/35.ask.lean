/-! THE READER, by hand: wantAsk, the whole -/
section ASK
variable {E : mj_E} {al : List Nat} {ws : va_W}
def wa_post (E : mj_E) (al : List Nat) (ws : va_W) (v : Option Value) (w : va_W) : Prop := v = none ∧ hI E al jJ w ∧ hD [99, 120] ws w ∧ jF w 19 = jF ws 19 ∧ jF w 29 = jF ws 29 ∧
  ((∃ t, t < 4 ∧ rK t w ∧ jF w 28 = jF ws 28 + 1 ∧ jF ws 21 + 1 ≤ jF w 21 ∧ ∃ x : Int32, (x.toInt = 1 ∨ x.toInt = 2 ∨ 10000 ≤ x.toInt) ∧ jR w 120 = upd (jR ws 120) (jF ws 28).toNat x) ∨ (rK 4 w ∧ jF w 28 = jF ws 28 ∧ jF ws 21 ≤ jF w 21 ∧ jR w 120 = jR ws 120))
theorem wa_I_ok {s : Nat} (hs : s < 4) : ∀ T ∈ wa_I s, ∃ pcs2, hp_c gR 100000 6 245 (wa_P s).2.1.length (hp_f pcs2 (wa_I s ++ wa_B s)) T = true := by
  intro T hT
  simp only [wa_I, List.mem_cons, List.not_mem_nil, or_false] at hT
  rcases hT with rfl | rfl | rfl | rfl | rfl | rfl | rfl | rfl | rfl | rfl | rfl | rfl | rfl | rfl | rfl | rfl
  · exact ⟨_, wa_c49 s hs⟩
  · exact ⟨_, wa_c62 s hs 0 (by decide)⟩
  · exact ⟨_, wa_c62 s hs 1 (by decide)⟩
  · exact ⟨_, wa_c62 s hs 2 (by decide)⟩
  · exact ⟨_, wa_c62 s hs 3 (by decide)⟩
  · exact ⟨_, wa_c62 s hs 4 (by decide)⟩
  · exact ⟨_, wa_c103 s hs 0 (by decide)⟩
  · exact ⟨_, wa_c103 s hs 1 (by decide)⟩
  · exact ⟨_, wa_c103 s hs 2 (by decide)⟩
  · exact ⟨_, wa_c103 s hs 3 (by decide)⟩
  · exact ⟨_, wa_c103 s hs 4 (by decide)⟩
  · exact ⟨_, wa_c116 s hs 0 (by decide)⟩
  · exact ⟨_, wa_c116 s hs 1 (by decide)⟩
  · exact ⟨_, wa_c116 s hs 2 (by decide)⟩
  · exact ⟨_, wa_c116 s hs 3 (by decide)⟩
  · exact ⟨_, wa_c116 s hs 4 (by decide)⟩
theorem wa_39 (H : hOk E al gR jJ) (h : hI E al jJ ws) (hk : rK 1 ws) {Q : Option Value → va_W → Prop} (hq : ∀ w t, t < 4 → hI E al jJ w → hD [99] ws w → rK t w → jF w 19 = jF ws 19 → jF w 28 = jF ws 28 → jF w 29 = jF ws 29 → jF ws 21 + 1 ≤ jF w 21 → Q none w) : hG E al 6 245 39 wa_lv0 [] [] ws Q := by
  refine (hp_go (ρ := [] ++ rX ws) (p := wa_P39) H (by decide) wa_c39 (hp_st h (by decide) hk rfl rfl (hEv.ok (σ := []) (env := []) trivial) aFs.nil aHh.nil) ?_).toK rfl rfl rfl rfl
  intro T hT σ w2 k1 k2 k3 k4
  obtain ⟨t, ht, rfl⟩ := List.mem_map.mp hT
  have ht : t < 4 := by simp at ht; omega
  obtain ⟨g1, g2, g3, g4, g5, g6, -, -⟩ := hp_enM (ρ := []) (n := 0) (N := 8) (m := 8) rfl (by decide) k1 (by omega) rfl k2
  exact hp_ret (pc := 43) H (by decide) (by decide +kernel) (by decide +kernel) (hq w2 t ht g1 ⟨k3, fun k hk => k4 k hk⟩ g2 g3 g4 g5 g6)
theorem wa_131 (H : hOk E al gR jJ) (h : hI E al jJ ws) {t : Nat} (ht : t < 4) (hk : rK t ws) (hf : jF ws 28 ≤ 255) {a b n : Int} (ha : 0 ≤ a ∧ a ≤ 5) (hb : 0 ≤ b ∧ b ≤ 2) (hn : 0 ≤ n ∧ n ≤ 999) {Q : Option Value → va_W → Prop}
    (hq : ∀ w (x : Int32), 10000 ≤ x.toInt → hI E al jJ w → hD [99, 120] ws w → rT ws w → jF w 28 = jF ws 28 + 1 → jF w 29 = jF ws 29 → jR w 120 = upd (jR ws 120) (jF ws 28).toNat x → Q none w) :
    hG E al 6 245 131 [(0, .inr (0, 99)), (1, .inl (ae_k a)), (2, .inl (ae_k b)), (3, .inl (ae_k n))] [] [] ws Q := by
  refine (hp_go (ρ := [a, b, n] ++ rX ws) (p := wa_P131 t) H (by decide) (wa_c131 t ht) (hp_st h (by omega) hk rfl rfl (hEv.ok (σ := [a, b, n]) (env := [(0, 5), (0, 2), (0, 999)]) ⟨ha, hb, hn, trivial⟩) aFs.nil aHh.nil) ?_).toK rfl rfl ?_ rfl
  · intro T hT σ w2 k1 k2 k3 k4
    have hT := List.mem_singleton.mp hT
    subst hT
    have e := hD.eq (ws := ws) (w := w2) ⟨k3, fun k hk => k4 k hk⟩
    subst e
    have x0 : σ.getD 0 0 = a := rX_ge (ρ := [a, b, n]) (n := 3) (N := 11) (k := 0) rfl (by decide) (by decide) k1
    have x1 : σ.getD 1 0 = b := rX_ge (ρ := [a, b, n]) (n := 3) (N := 11) (k := 1) rfl (by decide) (by decide) k1
    have x2 : σ.getD 2 0 = n := rX_ge (ρ := [a, b, n]) (n := 3) (N := 11) (k := 2) rfl (by decide) (by decide) k1
    have ex : (Int32.ofInt (10000 + 4000 * a + 1000 * b + n)).toInt = 10000 + 4000 * a + 1000 * b + n := i32_of (by unfold aI0; omega) (by unfold aI1; omega)
    refine hp_call (R := fun w => hI E al jJ w ∧ hD [99, 120] w2 w ∧ rT w2 w ∧ jF w 28 = jF w2 28 + 1 ∧ jF w 29 = jF w2 29 ∧ jR w 120 = upd (jR w2 120) (jF w2 28).toNat (Int32.ofInt (10000 + 4000 * a + 1000 * b + n))) H (d := 5) (y2 := 246) (as := [.inr (0, 99), .inl ([(0, 4000), (1, 1000), (2, 1)], 10000)]) (rest := []) (by decide) (by rfl) k2 (fun AS ha => ?_) (fun w hR => ?_)
    · refine (rd_emit H h hf (Int32.ofInt (10000 + 4000 * a + 1000 * b + n)) (AS := AS) ?_).weaken (by decide) (Nat.le_refl _) (Nat.le_refl _) (fun _ _ z => z)
      have := ha.toK
      simp only [List.map_cons, List.map_nil, avE, ae_ev, ae_el, x0, x1, x2] at this
      rw [ex]
      rw [show 10000 + 4000 * a + 1000 * b + n = 4000 * a + (1000 * b + (1 * n + 0)) + 10000 by omega]
      exact this
    · obtain ⟨r1, r2, r3, r4, r5, r6⟩ := hR
      exact hp_ret (pc := 152) H (by decide) (by decide +kernel) (by decide +kernel) (hq w _ (by rw [ex]; omega) r1 r2 r3 r4 r5 r6)
  · simp only [lvE, avE, wa_P131, wa_lv3, ae_s, ae_ev, ae_el, List.cons_append, List.nil_append, List.map_cons, List.map_nil, List.getD_cons_succ, List.getD_cons_zero, Int.one_mul, Int.add_zero]
theorem rd_ask (H : hOk E al gR jJ) (h : hI E al jJ ws) {s : Nat} (hs : s < 4) (hk : rK s ws) (hf : jF ws 28 ≤ 255) {AS : List Value} (ha : gL E al [] [.inr (0, 99)] AS) : MJ E 6 0 0 (mj_in0 245 AS ws) (wa_post E al ws) := by
  refine hG.in0 H.1 (as := [.inr (0, 99)]) ?_ ha
  show hG E al 6 245 0 wa_lv0 [] [] ws _
  refine (hp_go2 (ρ := [] ++ rX ws) (p := wa_P s) (pcs := [36, 49]) H (wa_I s) (wa_B s) (by decide) (wa_ce s hs) (wa_I_ok hs) (wa_c3 s hs) (hp_st h (by omega) hk rfl rfl (hEv.ok (σ := []) (env := []) trivial) aFs.nil aHh.nil) ?_).toK rfl rfl rfl rfl
  intro T hT σ w2 k1 k2 k3 k4
  rcases List.mem_append.mp hT with hT | hT
  · unfold wa_BS at hT
    split at hT
    · rename_i e1
      subst e1
      obtain ⟨c, hc, rfl⟩ := List.mem_map.mp hT
      have hc2 : c = 1 ∨ c = 2 := by simpa using hc
      have e := hD.eq (ws := ws) (w := w2) ⟨k3, fun k hk => k4 k hk⟩
      subst e
      have ex : (Int32.ofInt c).toInt = c := i32_of (by unfold aI0; omega) (by unfold aI1; omega)
      refine hp_call (R := fun w => hI E al jJ w ∧ hD [99, 120] w2 w ∧ rT w2 w ∧ jF w 28 = jF w2 28 + 1 ∧ jF w 29 = jF w2 29 ∧ jR w 120 = upd (jR w2 120) (jF w2 28).toNat (Int32.ofInt c)) H (d := 5) (y2 := 246) (as := [.inr (0, 99), .inl (ae_k c)]) (rest := []) (by decide) (by rfl) k2 (fun AS ha => ?_) (fun w hR => ?_)
      · refine (rd_emit H h hf (Int32.ofInt c) (AS := AS) ?_).weaken (by decide) (Nat.le_refl _) (Nat.le_refl _) (fun _ _ z => z)
        have := ha.toK
        rw [ex]
        simpa only [List.map_cons, List.map_nil, avE, ae_k, ae_ev, ae_el, Int.zero_add] using this
      · obtain ⟨r1, r2, r3, r4, r5, r6⟩ := hR
        refine hG.ofK (lv2 := wa_lv0) (st2 := []) ?_ rfl rfl
        refine wa_39 H r1 (r3.k hk) (fun w3 t ht m1 m2 m3 m4 m5 m6 m7 => ⟨rfl, m1, r2.trans (m2.more (by simp)), ?_, by omega, Or.inl ⟨t, ht, m3, by omega, ?_, Int32.ofInt c, by omega, ?_⟩⟩)
        · unfold rT at r3; omega
        · unfold rT at r3; omega
        · rw [m2.row (by decide), r6]
    · cases hT
  rcases List.mem_append.mp hT with hT | hT
  · obtain ⟨t, ht, rfl⟩ := List.mem_map.mp hT
    have ht : t < 4 := by simp at ht; omega
    obtain ⟨g1, g2, g3, g4, g5, g6, -, -⟩ := hp_enM (ρ := []) (n := 0) (N := 8) (m := 11) rfl (by decide) k1 (by omega) rfl k2
    have d2 : hD [99] ws w2 := ⟨k3, fun k hk => k4 k hk⟩
    have b8 : 0 ≤ σ.getD 8 0 ∧ σ.getD 8 0 ≤ 5 := k2.1.ev (k := 8) rfl
    have b9 : 0 ≤ σ.getD 9 0 ∧ σ.getD 9 0 ≤ 2 := k2.1.ev (k := 9) rfl
    have b10 : 0 ≤ σ.getD 10 0 ∧ σ.getD 10 0 ≤ 999 := k2.1.ev (k := 10) rfl
    refine hG.ofK (wa_131 H g1 ht g2 (by omega) b8 b9 b10 (fun w x m0 m1 m2 m3 m4 m5 m6 => ⟨rfl, m1, (d2.more (by simp)).trans m2, ?_, by omega, Or.inl ⟨t, ht, m3.k g2, by omega, ?_, x, Or.inr (Or.inr m0), ?_⟩⟩)) ?_ rfl
    · unfold rT at m3; omega
    · unfold rT at m3; omega
    · rw [m6, d2.row (by decide), g4]
    · simp only [lvE, avE, wa_lv3, ae_s, ae_ev, ae_el, List.map_cons, List.map_nil, Int.one_mul, Int.add_zero]
  · have hT := List.mem_singleton.mp hT
    subst hT
    obtain ⟨g1, g2, g3, g4, g5, g6, -, -⟩ := hp_enM (ρ := []) (n := 0) (N := 8) (m := 8) (t := 4) rfl (by decide) k1 (by omega) rfl k2
    have d2 : hD [99] ws w2 := ⟨k3, fun k hk => k4 k hk⟩
    exact hp_ret (pc := 152) H (by decide) (by decide +kernel) (by decide +kernel) ⟨rfl, g1, d2.more (by simp), g3, g5, Or.inr ⟨g2, g4, by omega, d2.row (by decide)⟩⟩
end ASK
