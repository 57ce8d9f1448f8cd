/-! THE READER, by hand: wantCond, the loop closed -/
section CWHOLE
variable {E : mj_E} {al : List Nat} {ρ σ : List Int} {ws ws0 w w2 : va_W} {Q : Option Value → va_W → Prop}
theorem wc_loop (H : hOk E al gR jJ) (h0 : hI E al jJ ws0) : ∀ (N : Nat) (w : va_W) (s : Nat) (o : Int) (a : Nat), (a = 0 ∨ a = 1) → cH E al ws0 w s o a → (s < 4 → (251 - jF w 21).toNat < N) → hG E al 8 242 11 (wc_K o a 1) [] [] w (wc_post E al ws0) := by
  have bad : ∀ {w : va_W} {s : Nat} {o : Int} {a : Nat}, (a = 0 ∨ a = 1) → cH E al ws0 w s o a → ¬ s < 4 → hG E al 8 242 11 (wc_K o a 1) [] [] w (wc_post E al ws0) := by
    intro w s o a ha hh hs
    obtain ⟨h1, h2, h3, h4, h5⟩ := hh
    have e : s = 4 := by omega
    subst e
    exact wc_hC H h0 h2 h3 h4 (by omega)
  intro N
  induction N with
  | zero =>
    intro w s o a ha hh hm
    by_cases hs : s < 4
    · have := hm hs; omega
    · exact bad ha hh hs
  | succ N ih =>
    intro w s o a ha hh hm
    by_cases hs : s < 4
    case neg => exact bad ha hh hs
    have hm := hm hs
    have b := hh.2.2.1.1.bds
    have hN : cN E al ws0 w := by
      intro w2 s2 o2 a2 ha2 hh2 hp
      refine ih w2 s2 o2 a2 ha2 hh2 (fun h4 => ?_)
      have := hp h4
      have b2 := hh2.2.2.1.1.bds
      omega
    have hk := hh.2.1
    have ho := hh.2.2.2.1
    have st0 := hp_st (ρ := [o]) (G := gR) (env := [(0, 4)]) (fs := []) (h0 := []) hh.2.2.1.1 (by omega) hk rfl rfl (hEv.ok (σ := [o]) (env := [(0, 4)]) ⟨ho, trivial⟩) aFs.nil aHh.nil
    rcases ha with rfl | rfl
    · refine (hp_go (ρ := [o] ++ rX w) (p := wc_PB s) H (by decide) (wc_cB s hs) st0 ?_).toK rfl rfl wc_E rfl
      intro T hT σ w2 k1 k2 k3 k4
      rcases List.mem_cons.mp hT with rfl | hT
      · obtain ⟨e1, e2, e3⟩ := rd_same (ρ := [o]) (N := 9) (env1 := [(1, 4)]) k1 k2 rfl rfl k3 k4
        subst e1
        subst e2
        have := (e3 0 _ rfl).1
        exact (wc_151 H h0 hs this hh hN).ofK wc_E wc_S
      rcases List.mem_cons.mp hT with rfl | hT
      · obtain ⟨e1, e2, e3⟩ := rd_same (ρ := [o]) (N := 9) (env1 := [(0, 0)]) k1 k2 rfl rfl k3 k4
        subst e1
        subst e2
        exact (wc_hD H h0 (by omega) hk hh.2.2.1 ho (fun h4 => ⟨o, hh.2.2.2.2 h4⟩)).ofK wc_E rfl
      · split at hT
        · rename_i hs1
          obtain ⟨x, hx, rfl⟩ := List.mem_map.mp hT
          obtain ⟨e1, e2, e3⟩ := rd_same (ρ := [o]) (N := 9) (env1 := [(0, 4)]) k1 k2 rfl rfl k3 k4
          subst e1
          subst e2
          have hx2 : x = 4 ∨ x = 5 := by simpa using hx
          exact (wc_131 H h0 hx (y := Int32.ofInt x) (i32_of (by unfold aI0; omega) (by unfold aI1; omega)) hs hs1 hh hN).ofK wc_E4 wc_S
        · cases hT
    · refine (hp_go (ρ := [o] ++ rX w) (p := wc_PA s) H (by decide) (wc_cA s hs) st0 ?_).toK rfl rfl wc_E rfl
      intro T hT σ w2 k1 k2 k3 k4
      rcases List.mem_cons.mp hT with rfl | hT
      · obtain ⟨e1, e2, e3⟩ := rd_same (ρ := [o]) (N := 9) (env1 := [(0, 4)]) k1 k2 rfl rfl k3 k4
        subst e1
        subst e2
        exact (wc_78 H h0 hs hh hN).ofK wc_E rfl
      · split at hT
        · rename_i hs1
          rcases List.mem_cons.mp hT with rfl | hT
          · obtain ⟨e1, e2, e3⟩ := rd_same (ρ := [o]) (N := 9) (env1 := [(0, 4)]) k1 k2 rfl rfl k3 k4
            subst e1
            subst e2
            exact (wc_38 H h0 hs hs1 hh hN).ofK wc_E wc_S
          rcases List.mem_cons.mp hT with rfl | hT
          · obtain ⟨e1, e2, e3⟩ := rd_same (ρ := [o]) (N := 9) (env1 := [(0, 3)]) k1 k2 rfl rfl k3 k4
            subst e1
            subst e2
            exact (wc_68 H h0 hs hs1 (e3 0 _ rfl).2 hh hN).ofK wc_E wc_S
          · have hT := List.mem_singleton.mp hT
            subst hT
            obtain ⟨g1, g2, g3, g4, g5, g6, -, -⟩ := hp_enN (ρ := [o]) (n := 1) (N := 9) (m := 9) (t := 4) rfl (by decide) k1 (by omega) rfl k2
            have dd : hD [99] w w2 := ⟨k3, fun k hk => k4 k hk⟩
            have e120 : jR w2 120 = jR w 120 := dd.row (by decide)
            have x0 : σ.getD 0 0 = o := rX_ge (ρ := [o]) (n := 1) (N := 9) (k := 0) rfl (by decide) (by decide) k1
            obtain ⟨-, m2, m3, m4, m5, m6, m7⟩ := hh.2.2.1
            have cb : cB E al ws0 w2 := ⟨g1, m2.trans (dd.more (by simp)), by omega, by omega, by omega, by omega, fun i hi => by rw [e120]; exact m7 i hi⟩
            refine (wc_hC H h0 g2 cb ho (a := 1) (by omega)).ofK ?_ rfl
            show lvE σ (wc_lv (ae_s 0) 1 1) = wc_K o 1 1
            simp only [lvE, avE, wc_lv, wc_K, ae_s, ae_k, ae_ev, ae_el, List.map_cons, List.map_nil, Int.one_mul, Int.add_zero, Int.zero_add, x0]
        · cases hT
theorem rd_cond (H : hOk E al gR jJ) (h0 : hI E al jJ ws0) {s : Nat} (hs : s < 5) (hk : rK s ws0) (hf : jF ws0 28 ≤ jF ws0 21) {AS : List Value} (ha : gL E al [] [.inr (0, 99)] AS) : MJ E 8 0 0 (mj_in0 242 AS ws0) (wc_post E al ws0) := by
  refine hG.in0 H.1 (as := [.inr (0, 99)]) ?_ ha
  have b := h0.bds
  refine (hp_go (ρ := [] ++ rX ws0) (p := wc_P0 s) H (by decide) (wc_c0 s hs) (hp_st h0 (by omega) hk rfl rfl (hEv.ok (σ := []) (env := []) trivial) aFs.nil aHh.nil) ?_).toK (lv2 := wa_lv0) (st2 := []) rfl rfl rfl rfl
  intro T hT σ w k1 k2 k3 k4
  have hT := List.mem_singleton.mp hT
  subst hT
  obtain ⟨g1, g2, g3, g4⟩ := hp_en (m := 8) rfl rfl (by omega) rfl k2
  have g5 := rX_of (ρ := []) (n := 0) (N := 8) rfl (by decide) k1
  have g6 := rEqs_ok (fun f hf => g4 f (List.mem_append_left _ hf))
  have q0 := g6 0 0 (by simp)
  have q2 := g6 2 0 (by simp)
  have q6 := g6 6 0 (by simp)
  have q7 := g4 (ae_s 15) (List.mem_append_right _ (List.mem_singleton.mpr rfl))
  have q7 : σ.getD (8 + 7) 0 ≤ 0 := by simpa [ae_ev, ae_s, ae_el] using q7
  have dd : hD [99] ws0 w := ⟨k3, fun k hk => k4 k hk⟩
  have e120 : jR w 120 = jR ws0 120 := dd.row (by decide)
  have bw := g1.bds
  have hw : jF w 29 = 0 := by omega
  have cb : cB E al ws0 w := ⟨g1, dd.more (by simp), by omega, by omega, by omega, by omega, fun i hi => by rw [e120]⟩
  refine (wc_loop H h0 300 w s 0 1 (Or.inr rfl) ⟨hs, g2, cb, by decide, fun _ => ?_⟩ (fun _ => by omega)).ofK ?_ rfl
  · unfold cG
    rw [hw, show (jF w 28).toNat - (jF ws0 28).toNat = 0 by omega]
    exact ⟨fun i hi => by simp at hi, rfl, rfl⟩
  · simp only [lvE, avE, wc_lv, wc_K, ae_k, ae_ev, ae_el, List.map_cons, List.map_nil, Int.zero_add]
    rfl
end CWHOLE
