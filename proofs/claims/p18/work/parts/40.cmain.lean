/-! THE READER, by hand: wantCond, the whole -/
section CMAIN
variable {E : mj_E} {al : List Nat} {ρ σ : List Int} {ws ws0 w w2 : va_W} {Q : Option Value → va_W → Prop}
theorem wc_E {o a m : Int} {r : List Int} : lvE (o :: r) (wc_lv (ae_s 0) a m) = wc_K o a m := by
  simp only [lvE, avE, wc_lv, wc_K, ae_s, ae_k, ae_ev, ae_el, List.map_cons, List.map_nil, List.getD_cons_zero, Int.one_mul, Int.add_zero, Int.zero_add]
theorem wc_E1 {o a m c : Int} {r : List Int} : lvE (o :: r) (wc_lv (ae_inc (ae_s 0) c) a m) = wc_K (o + c) a m := by
  simp only [lvE, avE, wc_lv, wc_K, ae_s, ae_k, ae_inc, ae_ev, ae_el, List.map_cons, List.map_nil, List.getD_cons_zero, Int.one_mul, Int.add_zero, Int.zero_add]
theorem wc_E4 {o a m x : Int} {r : List Int} : lvE (o :: r) (wc_lv4 (ae_s 0) a m (ae_k x)) = wc_K4 o a m x := by
  simp only [lvE, avE, wc_lv4, wc_K4, ae_s, ae_k, ae_ev, ae_el, List.map_cons, List.map_nil, List.getD_cons_zero, Int.one_mul, Int.add_zero, Int.zero_add]
theorem wc_S {x : Int} {r : List Int} : ([.inl (ae_k x), .inr (0, 99)] : List av).map (avE r) = [.inl (ae_k x), .inr (0, 99)] := by
  simp only [avE, ae_k, ae_ev, ae_el, List.map_cons, List.map_nil, Int.zero_add]
/-- where the loop goes on -/
def cN (E : mj_E) (al : List Nat) (ws0 w : va_W) : Prop := ∀ (w2 : va_W) (s : Nat) (o : Int) (a : Nat), (a = 0 ∨ a = 1) → cH E al ws0 w2 s o a → (s < 4 → jF w 21 + 1 ≤ jF w2 21) → hG E al 8 242 11 (wc_K o a 1) [] [] w2 (wc_post E al ws0)
theorem wc_78 (H : hOk E al gR jJ) (h0 : hI E al jJ ws0) {s : Nat} {o : Int} (hs : s < 4) (hh : cH E al ws0 w s o 1) (hN : cN E al ws0 w) : hG E al 8 242 78 (wc_K o 1 1) [.inr (0, 99)] [] w (wc_post E al ws0) := by
  obtain ⟨-, hk, hb, ho, hg⟩ := hh
  have b := hb.1.bds
  have h5 := hb.2.2.2.2.1
  refine rd_call (d := 7) (y2 := 245) (as := [.inr (0, 99)]) (rest := []) (R := fun w2 => wa_post E al w none w2) H hb.1 (by decide) (by rfl) (fun AS ha => ?_) (fun w2 hR => ?_)
  · exact (rd_ask H hb.1 hs hk (by omega) ha).weaken (by decide) (Nat.le_refl _) (Nat.le_refl _) (fun v w z => ⟨z.1, rfl, z.2⟩)
  · obtain ⟨c1, t, ht, ct, c2⟩ := hb.ask h0 hR
    refine rd_glue (ρ := [o]) (env0 := [(0, 4)]) (s := 5) H c1.1 (by decide) rK5 ⟨ho, trivial⟩ (by decide) wc_c81 rfl rfl wc_E rfl wc_E wc_S ?_
    refine wc_settle H c1 (by decide) (by rfl) (fun w3 hS => ?_)
    obtain ⟨d1, d2⟩ := c1.settle h0 hS
    refine rd_glue (ρ := [o]) (env0 := [(0, 4)]) (s := 5) H d1.1 (by decide) rK5 ⟨ho, trivial⟩ (by decide) wc_c86 rfl rfl wc_E rfl wc_E rfl ?_
    have e21 : jF w3 21 = jF w2 21 := hS.2.2.1.2.2.1
    exact hN w3 t o 0 (Or.inl rfl) ⟨ht, hS.2.2.1.k ct, d1, ho, fun h4 => d2 o ((c2 h4).2 o (hg hs))⟩ (fun h4 => by have := (c2 h4).1; omega)
theorem wc_38 (H : hOk E al gR jJ) (h0 : hI E al jJ ws0) {s : Nat} {o : Int} (hs : s < 4) (hs1 : 1 ≤ s) (hh : cH E al ws0 w s o 1) (hN : cN E al ws0 w) : hG E al 8 242 38 (wc_K o 1 1) [.inl (ae_k 3), .inr (0, 99)] [] w (wc_post E al ws0) := by
  obtain ⟨-, hk, hb, ho, hg⟩ := hh
  show hG E al 8 242 38 (wc_K o 1 1) [.inl (ae_k (3 : Int32).toInt), .inr (0, 99)] [] w _
  refine wc_hold H hb hk hs (by rfl) (fun w2 hR => ?_)
  obtain ⟨c1, c2, c3, -, -⟩ := hb.hold h0 (hk.2.2.2.2.2 hs1 (by omega)) hR
  obtain ⟨-, -, ⟨t, ht, ct⟩, -⟩ := hR
  refine rd_glue (ρ := [o]) (env0 := [(0, 4)]) (s := 5) H c1.1 (by decide) rK5 ⟨ho, trivial⟩ (by decide) wc_c41 rfl rfl wc_E rfl wc_E rfl ?_
  exact hN w2 t o 1 (Or.inr rfl) ⟨by omega, ct, c1, ho, fun _ => c3 o rfl (hg hs)⟩ (fun _ => c2)
theorem wc_68 (H : hOk E al gR jJ) (h0 : hI E al jJ ws0) {s : Nat} {o : Int} (hs : s < 4) (hs1 : 1 ≤ s) (ho3 : o ≤ 3) (hh : cH E al ws0 w s o 1) (hN : cN E al ws0 w) : hG E al 8 242 68 (wc_K o 1 1) [.inl (ae_k 6), .inr (0, 99)] [] w (wc_post E al ws0) := by
  obtain ⟨-, hk, hb, ho, hg⟩ := hh
  show hG E al 8 242 68 (wc_K o 1 1) [.inl (ae_k (6 : Int32).toInt), .inr (0, 99)] [] w _
  refine wc_hold H hb hk hs (by rfl) (fun w2 hR => ?_)
  obtain ⟨c1, c2, -, c3, -⟩ := hb.hold h0 (hk.2.2.2.2.2 hs1 (by omega)) hR
  obtain ⟨-, -, ⟨t, ht, ct⟩, -⟩ := hR
  refine rd_glue (ρ := [o]) (env0 := [(0, 3)]) (s := 5) H c1.1 (by decide) rK5 ⟨⟨ho.1, ho3⟩, trivial⟩ (by decide) wc_c71 rfl rfl wc_E rfl wc_E1 rfl ?_
  exact hN w2 t (o + 1) 1 (Or.inr rfl) ⟨by omega, ct, c1, by omega, fun _ => c3 o rfl (hg hs)⟩ (fun _ => c2)
theorem wc_131 (H : hOk E al gR jJ) (h0 : hI E al jJ ws0) {s : Nat} {o x : Int} {y : Int32} (hx : x ∈ ([4, 5] : List Int)) (hy : y.toInt = x) (hs : s < 4) (hs1 : 1 ≤ s) (hh : cH E al ws0 w s o 0) (hN : cN E al ws0 w) : hG E al 8 242 131 (wc_K4 o 0 1 x) [.inl (ae_k x), .inr (0, 99)] [] w (wc_post E al ws0) := by
  obtain ⟨-, hk, hb, ho, hg⟩ := hh
  have hx2 : x = 4 ∨ x = 5 := by simpa using hx
  refine wc_settle H hb ⟨by unfold aI0; omega, by unfold aI1; omega⟩ (by rfl) (fun w2 hS => ?_)
  obtain ⟨d1, d2⟩ := hb.settle h0 hS
  have e21 : jF w2 21 = jF w 21 := hS.2.2.1.2.2.1
  have hk2 := hS.2.2.1.k hk
  refine rd_glue (ρ := [o]) (env0 := [(0, 4)]) (s := 5) H d1.1 (by decide) rK5 ⟨ho, trivial⟩ (by decide) (wc_c134 x hx) rfl rfl wc_E4 rfl wc_E4 wc_S ?_
  rw [← hy]
  refine wc_hold H d1 hk2 hs (by rfl) (fun w3 hR => ?_)
  obtain ⟨c1, c2, -, -, c3⟩ := d1.hold h0 (hk2.2.2.2.2.2 hs1 (by omega)) hR
  obtain ⟨-, -, ⟨t, ht, ct⟩, -⟩ := hR
  rw [hy]
  refine rd_glue (ρ := [o]) (env0 := [(0, 4)]) (s := 5) H c1.1 (by decide) rK5 ⟨ho, trivial⟩ (by decide) (wc_c140 x hx) rfl rfl wc_E4 rfl wc_E rfl ?_
  exact hN w3 t o 1 (Or.inr rfl) ⟨by omega, ct, c1, ho, fun _ => c3 o (by omega) (d2 o (hg hs))⟩ (fun _ => by omega)
/-- behind a closing bracket -/
theorem wc_179 (H : hOk E al gR jJ) (h0 : hI E al jJ ws0) {t : Nat} {o : Int} (ht : t < 5) (hk : rK t w2) (hb : cB E al ws0 w2) (ho : 0 ≤ o ∧ o ≤ 3) (hg : t < 4 → cG ws0 w2 o 0) (hp : t < 4 → jF w 21 + 1 ≤ jF w2 21) (hN : cN E al ws0 w) : hG E al 8 242 179 (wc_K o 0 1) [.inl (ae_k 3), .inr (0, 99)] [] w2 (wc_post E al ws0) := by
  refine wc_settle H hb (by decide) (by rfl) (fun w3 hS => ?_)
  obtain ⟨d1, d2⟩ := hb.settle h0 hS
  have e21 : jF w3 21 = jF w2 21 := hS.2.2.1.2.2.1
  refine rd_glue (ρ := [o]) (env0 := [(0, 3)]) (s := 5) H d1.1 (by decide) rK5 ⟨ho, trivial⟩ (by decide) wc_c182 rfl rfl wc_E rfl wc_E rfl ?_
  exact hN w3 t o 0 (Or.inl rfl) ⟨ht, hS.2.2.1.k hk, d1, by omega, fun h4 => d2 o (hg h4)⟩ (fun h4 => by have := hp h4; omega)
theorem wc_151 (H : hOk E al gR jJ) (h0 : hI E al jJ ws0) {s : Nat} {o : Int} (hs : s < 4) (ho1 : 1 ≤ o) (hh : cH E al ws0 w s o 0) (hN : cN E al ws0 w) : hG E al 8 242 151 (wc_K o 0 1) [.inl (ae_k 5), .inr (0, 99)] [] w (wc_post E al ws0) := by
  obtain ⟨-, hk, hb, ho, hg⟩ := hh
  refine wc_settle H hb (by decide) (by rfl) (fun w2 hS => ?_)
  obtain ⟨d1, d2⟩ := hb.settle h0 hS
  obtain ⟨p1, p2⟩ := hb.top hS (hg hs) ho1
  have e21 : jF w2 21 = jF w 21 := hS.2.2.1.2.2.1
  have hk2 := hS.2.2.1.k hk
  have hg2 := d2 o (hg hs)
  have b2 := d1.1.bds
  refine (hp_go (ρ := [o] ++ rX w2) (p := wc_PE s) H (by decide) (wc_cE s hs) (hp_st d1.1 (by omega) hk2 rfl rfl (hEv.ok (σ := [o]) (env := [(1, 4)]) ⟨⟨ho1, ho.2⟩, trivial⟩) (aFs.cons rfl ?_ aFs.nil) aHh.nil) ?_).toK rfl rfl wc_E rfl
  · simp only [ae_ev, ae_el, rX, List.cons_append, List.nil_append, List.getD_cons_succ, List.getD_cons_zero]
    omega
  intro T hT σ w3 k1 k2 k3 k4
  have key : ∀ (t : Nat) (p : Int), t < 5 → (t < 4 → p = 1) → (t < 4 → 1 ≤ s) → 0 ≤ p → hW E al gR jJ σ (([(1, 4)] ++ rEnv s) ++ rEM t) ([] ++ rLM 1 9 p ++ rFM t 1 9) ([] ++ rHN 1 9 (-1)) w3 → (∀ k, k ∉ [99] → w3[k]? = w2[k]?) → hG E al 8 242 179 (wc_lv (ae_inc (ae_s 0) (-1)) 0 1) [.inl (ae_k 3), .inr (0, 99)] σ w3 (wc_post E al ws0) := by
    intro t p ht hp hs1 hp0 k2 k4
    obtain ⟨g1, g2, g3, g4, g5, g6, -, -⟩ := hp_enN (ρ := [o]) (n := 1) (N := 9) (m := 9) rfl (by decide) k1 ht rfl k2
    have dd : hD [99] w2 w3 := ⟨k3, k4⟩
    have e120 : jR w3 120 = jR w2 120 := dd.row (by decide)
    have e121 : jR w3 121 = jR w2 121 := dd.row (by decide)
    have x0 : σ.getD 0 0 = o := rX_ge (ρ := [o]) (n := 1) (N := 9) (k := 0) rfl (by decide) (by decide) k1
    obtain ⟨-, m2, m3, m4, m5, m6, m7⟩ := d1
    have b3 := g1.bds
    have cb3 : cB E al ws0 w3 := ⟨g1, m2.trans (dd.more (by simp)), by omega, by omega, by omega, by omega, fun i hi => by rw [e120]; exact m7 i hi⟩
    refine (wc_179 (w := w) H h0 (o := o - 1) ht g2 cb3 (by omega) (fun h4 => ?_) (fun h4 => by have := hp h4; omega) hN).ofK ?_ wc_S
    · obtain ⟨q1, q2, q3⟩ := hg2
      unfold cG
      have e29 : (jF w2 29).toNat = (jF w3 29).toNat + 1 := by omega
      have ez : ((jF w2 29).toNat - 1) = (jF w3 29).toNat := by omega
      rw [ez] at p2
      rw [e29] at q1 q2 q3
      rw [e120, e121, g4]
      have n1 : no (jR w2 121) ((jF w3 29).toNat + 1) = no (jR w2 121) (jF w3 29).toNat + 1 := by
        show no (jR w2 121) (jF w3 29).toNat + _ = _
        rw [if_pos p2]
      have n2 : nb (jR w2 121) ((jF w3 29).toNat + 1) = nb (jR w2 121) (jF w3 29).toNat := by
        show nb (jR w2 121) (jF w3 29).toNat + _ = _
        rw [if_neg (by omega)]; rfl
      rw [n1] at q2
      rw [n2] at q3
      exact ⟨fun i hi => q1 i (by omega), by omega, q3⟩
    · simp only [lvE, avE, wc_lv, wc_K, ae_s, ae_k, ae_inc, ae_ev, ae_el, List.map_cons, List.map_nil, Int.one_mul, Int.add_zero, Int.zero_add, x0]
      rfl
  rcases List.mem_append.mp hT with hT | hT
  · split at hT
    · rename_i hs1
      obtain ⟨t, ht, rfl⟩ := List.mem_map.mp hT
      have ht : t < 4 := by simp at ht; omega
      exact key t 1 (by omega) (fun _ => rfl) (fun _ => hs1) (by decide) k2 k4
    · cases hT
  · have hT := List.mem_singleton.mp hT
    subst hT
    exact key 4 0 (by omega) (fun h => by omega) (fun h => by omega) (by decide) k2 k4
end CMAIN
