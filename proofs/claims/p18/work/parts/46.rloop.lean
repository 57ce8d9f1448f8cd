/-! THE READER, by hand: read, line by line -/
section RLOOP
variable {E : mj_E} {al : List Nat} {ρ σ : List Int} {ws ws0 w w2 : va_W} {Q : Option Value → va_W → Prop}
/-- a line that was read -/
def lOK (w : va_W) (k : Nat) : Prop := lR w k ∧ 0 ≤ (jR w 119 (4 * k + 2)).toInt ∧ 0 ≤ (jR w 119 (4 * k + 3)).toInt ∧ (jR w 119 (4 * k + 2)).toInt + (jR w 119 (4 * k + 3)).toInt ≤ jF w 28 ∧ dep (jR w 120) (jR w 119 (4 * k + 2)).toInt.toNat (jR w 119 (4 * k + 3)).toInt.toNat ≠ none
def rB (E : mj_E) (al : List Nat) (ws0 w : va_W) : Prop := hI E al jJ w ∧ hD [99, 119, 120, 121] ws0 w ∧ jF w 28 ≤ jF w 21
def rG (w : va_W) (n : Int) : Prop := n ≤ 9 ∧ ∀ k : Nat, (k : Int) < n → lOK w k
/-- the lines before stay -/
theorem lOK.old {n : Int} (hI0 : hI E al jJ w) (h : lB E al w w2 n) {k : Nat} (hk : (k : Int) < n) (ho : lOK w k) : lOK w2 k := by
  obtain ⟨h1, m2, m3, m4, m5, m6, m7, m8⟩ := h
  obtain ⟨q1, q2, q3, q4, q5⟩ := ho
  have b := hI0.bds
  unfold lOK lR at *
  have e0 : (4 * (k : Int)).toNat = 4 * k := by omega
  have e1 : (4 * (k : Int) + 1).toNat = 4 * k + 1 := by omega
  rw [e0, e1] at *
  rw [m8 (4 * k) (by omega), m8 (4 * k + 1) (by omega), m8 (4 * k + 2) (by omega), m8 (4 * k + 3) (by omega)]
  refine ⟨q1, q2, q3, by omega, ?_⟩
  rw [dep_congr (F2 := jR w 120) (a2 := (jR w 119 (4 * k + 2)).toInt.toNat) (fun i hi => m7 _ (by omega))]
  exact q5
theorem lOK.new {n : Int} (hI0 : hI E al jJ w) (hn : 0 ≤ n) (h : lB E al w w2 n) (hg : lG w w2 n) : lOK w2 n.toNat := by
  obtain ⟨h1, m2, m3, m4, m5, m6, m7, m8⟩ := h
  obtain ⟨g1, g2, g3, g4⟩ := hg
  have b := hI0.bds
  have b2 := h1.bds
  have e : ((n.toNat : Nat) : Int) = n := by omega
  have e2 : (4 * n + 2).toNat = 4 * n.toNat + 2 := by omega
  have e3 : (4 * n + 3).toNat = 4 * n.toNat + 3 := by omega
  rw [e2] at g2
  rw [e3] at g3
  unfold lOK
  rw [e]
  refine ⟨g1, by omega, by omega, by omega, ?_⟩
  rw [g2, g3, show (jF w2 28 - jF w 28).toNat = (jF w2 28).toNat - (jF w 28).toNat by omega]
  exact g4
theorem re_E {n : Int} {r : List Int} : lvE (n :: r) (wa_lv1 0) = em_K n := by
  simp only [lvE, avE, wa_lv1, em_K, ae_s, ae_ev, ae_el, List.map_cons, List.map_nil, List.getD_cons_zero, Int.one_mul, Int.add_zero]
theorem re_E1 {n : Int} {r : List Int} : lvE (n :: r) [(0, .inr (0, 99)), (1, .inl (ae_inc (ae_s 0) 1))] = em_K (n + 1) := by
  simp only [lvE, avE, em_K, ae_s, ae_inc, ae_ev, ae_el, List.map_cons, List.map_nil, List.getD_cons_zero, Int.one_mul, Int.add_zero, Int.zero_add]
theorem re_S {n : Int} {r : List Int} : ([.inl (ae_s 0), .inr (0, 99)] : List av).map (avE (n :: r)) = [.inl (ae_k n), .inr (0, 99)] := by
  simp only [avE, ae_s, ae_ev, ae_el, List.map_cons, List.map_nil, List.getD_cons_zero, Int.one_mul, Int.add_zero]
theorem re_loop (H : hOk E al gR jJ) (hx : ∀ (w : va_W) (s : Nat) (n : Int), s < 5 → rK s w → rB E al ws0 w → (0 ≤ n ∧ n ≤ 10) → (s < 4 → rG w n) → hG E al 12 232 46 (em_K n) [] [] w Q) :
    ∀ (N : Nat) (w : va_W) (s : Nat) (n : Int), s < 5 → rK s w → rB E al ws0 w → (0 ≤ n ∧ n ≤ 10) → (s < 4 → rG w n) → (s < 4 → (251 - jF w 21).toNat < N) → hG E al 12 232 21 (em_K n) [] [] w Q := by
  intro N
  induction N with
  | zero =>
    intro w s n hs hk hb hn hg hm
    have b := hb.1.bds
    refine (hp_go (ρ := [n] ++ rX w) (p := re_P21 s) H (by decide) (re_c21 s hs) (hp_st hb.1 (by omega) hk rfl rfl (hEv.ok (σ := [n]) (env := [(0, 10)]) ⟨hn, trivial⟩) aFs.nil aHh.nil) ?_).toK rfl rfl re_E rfl
    intro T hT σ w2 k1 k2 k3 k4
    have hT := List.mem_singleton.mp hT
    rw [if_neg (by omega)] at hT
    subst hT
    obtain ⟨e1, e2, e3⟩ := rd_same (ρ := [n]) (N := 9) (env1 := [(0, 10)]) k1 k2 rfl rfl k3 k4
    subst e1
    subst e2
    exact (hx w2 s n hs hk hb hn hg).ofK re_E rfl
  | succ N ih =>
    intro w s n hs hk hb hn hg hm
    have b := hb.1.bds
    refine (hp_go (ρ := [n] ++ rX w) (p := re_P21 s) H (by decide) (re_c21 s hs) (hp_st hb.1 (by omega) hk rfl rfl (hEv.ok (σ := [n]) (env := [(0, 10)]) ⟨hn, trivial⟩) aFs.nil aHh.nil) ?_).toK rfl rfl re_E rfl
    intro T hT σ w2 k1 k2 k3 k4
    have hT := List.mem_singleton.mp hT
    by_cases h13 : 1 ≤ s ∧ s ≤ 3
    · rw [if_pos h13] at hT
      subst hT
      obtain ⟨e1, e2, e3⟩ := rd_same (ρ := [n]) (N := 9) (env1 := [(0, 10)]) k1 k2 rfl rfl k3 k4
      subst e1
      subst e2
      have hg0 := hg (by omega)
      have hm0 := hm (by omega)
      refine hG.ofK (lv2 := em_K n) (st2 := [.inl (ae_k n), .inr (0, 99)]) ?_ re_E re_S
      refine rd_call (d := 11) (y2 := 237) (as := [.inr (0, 99), .inl (ae_k n)]) (rest := []) (R := fun w3 => wl_post E al w2 n none w3) H hb.1 (by decide) (by rfl) (fun AS ha => ?_) (fun w3 hR => ?_)
      · exact (rd_line H hb.1 (by omega) h13.1 hk hb.2.2 ⟨hn.1, hg0.1⟩ ha).weaken (by decide) (Nat.le_refl _) (Nat.le_refl _) (fun v w z => ⟨z.1, rfl, z.2⟩)
      · obtain ⟨-, lb, s2, hs2, hk2, hd2⟩ := hR
        have lb' := lb
        obtain ⟨c1, c2, c3, c4, c5, c6, c7, c8⟩ := lb'
        refine rd_glue (ρ := [n]) (env0 := [(0, 9)]) (s := 5) H c1 (by decide) rK5 ⟨⟨hn.1, hg0.1⟩, trivial⟩ (by decide) re_c40 rfl rfl re_E rfl re_E1 rfl ?_
        refine ih w3 s2 (n + 1) hs2 hk2 ⟨c1, hb.2.1.trans c2, c5⟩ ⟨by omega, by have := hg0.1; omega⟩ (fun h4 => ?_) (fun h4 => ?_)
        · obtain ⟨d1, d2, d3⟩ := hd2 h4
          refine ⟨by omega, fun k hk3 => ?_⟩
          by_cases hkn : (k : Int) < n
          · exact lOK.old hb.1 lb hkn (hg0.2 k hkn)
          · have e : k = n.toNat := by omega
            rw [e]
            exact lOK.new hb.1 hn.1 lb d3
        · obtain ⟨d1, d2, d3⟩ := hd2 h4
          have b3 := c1.bds
          omega
    · rw [if_neg h13] at hT
      subst hT
      obtain ⟨e1, e2, e3⟩ := rd_same (ρ := [n]) (N := 9) (env1 := [(0, 10)]) k1 k2 rfl rfl k3 k4
      subst e1
      subst e2
      exact (hx w2 s n hs hk hb hn hg).ofK re_E rfl
/-- from the beginning -/
theorem re_0 (H : hOk E al gR jJ) (h0 : hI E al jJ ws0) (hx : ∀ (w : va_W) (s : Nat) (n : Int), s < 5 → rK s w → rB E al ws0 w → (0 ≤ n ∧ n ≤ 10) → (s < 4 → rG w n) → hG E al 12 232 46 (em_K n) [] [] w Q) : hG E al 12 232 0 wa_lv0 [] [] ws0 Q := by
  refine (hp_go (ρ := [] ++ rX ws0) (p := re_P0) H (by decide) re_c0 (hp_st h0 (by decide) rK5 rfl rfl (hEv.ok (σ := []) (env := []) trivial) aFs.nil aHh.nil) ?_).toK (lv2 := wa_lv0) (st2 := []) rfl rfl rfl rfl
  intro T hT σ w k1 k2 k3 k4
  obtain ⟨t, ht, rfl⟩ := List.mem_map.mp hT
  have ht4 : t < 4 := by simp at ht; omega
  obtain ⟨g1, g2, g3, g4⟩ := hp_en (m := 8) rfl rfl (by omega) rfl k2
  have q7 := g4 (ae_s 14) (List.mem_append_right _ (List.mem_singleton.mpr rfl))
  have q7 : σ.getD (8 + 6) 0 ≤ 0 := by simpa [ae_ev, ae_s, ae_el] using q7
  have dd : hD [99] ws0 w := ⟨k3, fun k hk => k4 k hk⟩
  have bw := g1.bds
  refine (re_loop H hx 300 w t 0 (by omega) g2 ⟨g1, dd.more (by simp), by omega⟩ (by decide) (fun _ => ⟨by decide, fun k hk => by omega⟩) (fun _ => by omega)).ofK ?_ rfl
  show lvE σ [(0, .inr (0, 99)), (1, .inl (ae_k 0))] = em_K 0
  simp only [lvE, avE, em_K, ae_k, ae_ev, ae_el, List.map_cons, List.map_nil, Int.zero_add]
end RLOOP
