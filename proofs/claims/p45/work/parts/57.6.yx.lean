/-! YEARS of both sides -/
section
set_option maxRecDepth 100000
theorem yc_b1 : hp_chk gV0 1000 85 146 (0, [aF, aF], [([(0, 1)], 1)], [], [(0, .inr (0, 0)), (1, .inl (ae_s 0)), (2, .inl (ae_s 1))], []) [] [(21, [aF, aF], [], [], [.inl (ae_k (-1))], [], [], mMU)] = true := by decide +kernel
theorem yc_b2 : hp_chk gV0 1000 85 146 (0, [aF, aF], [([(0, (-1))], 100000)], [], [(0, .inr (0, 0)), (1, .inl (ae_s 0)), (2, .inl (ae_s 1))], []) [] [(21, [aF, aF], [], [], [.inl (ae_k (-1))], [], [], mMU)] = true := by decide +kernel
theorem yc_b3 : hp_chk gV0 1000 85 146 (0, [(0, 99999), aF], [([(1, 1)], 3)], [], [(0, .inr (0, 0)), (1, .inl (ae_s 0)), (2, .inl (ae_s 1))], []) [] [(21, [(0, 99999), aF], [], [], [.inl (ae_k (-1))], [], [], mMU)] = true := by decide +kernel
theorem yc_b4 : hp_chk gV0 1000 85 146 (0, [(0, 99999), aF], [([(1, (-1))], 4)], [], [(0, .inr (0, 0)), (1, .inl (ae_s 0)), (2, .inl (ae_s 1))], []) [] [(21, [(0, 99999), aF], [], [], [.inl (ae_k (-1))], [], [], mMU)] = true := by decide +kernel
theorem yc_0 : hp_chk gV0 1000 85 146 (0, [(0, 99999), ((-2), 3)], [], [], [(0, .inr (0, 0)), (1, .inl (ae_s 0)), (2, .inl (ae_s 1))], []) [] [(27, [(0, 99999), ((-2), 3)], [], [(0, .inr (0, 0)), (1, .inl (ae_s 0)), (2, .inl (ae_s 1))], [.inl (ae_s 0), .inr (0, 1)], [], [], mMU)] = true := by decide +kernel
theorem yc_1 : hp_chk gV0 1000 85 146 (30, [(0, 99999), (0, 255)], [], [], [(0, .inr (0, 0)), (1, .inl (ae_s 0)), (2, .inl (ae_k (-1)))], [.inl (ae_s 1)]) [] [(37, [(0, 99999), (0, 255)], [], [], [.inl (ae_s 1)], [], [], mMU)] = true := by decide +kernel
theorem yc_2 : hp_chk gV0 1000 85 146 (30, [(0, 99999), (0, 255)], [], [], [(0, .inr (0, 0)), (1, .inl (ae_s 0)), (2, .inl (ae_k (-2)))], [.inl (ae_s 1)]) [] [(49, [(0, 99999), (0, 255)], [], [], [.inl (ae_s 1), .inr (0, 1)], [], [], mMU)] = true := by decide +kernel
theorem yc_3 : hp_chk gV0 1000 85 146 (30, [(0, 99999), (0, 3), (0, 255)], [], [], [(0, .inr (0, 0)), (1, .inl (ae_s 0)), (2, .inl (ae_s 1))], [.inl (ae_s 2)]) [] [(53, [(0, 99999), (0, 3), (0, 255)], [], [(0, .inr (0, 0)), (2, .inl (ae_s 1)), (3, .inl (ae_s 2))], [], [], [], mMU)] = true := by decide +kernel
end
section YX
variable {E : mj_E} {Q : Option Value → va_W → Prop} {al : List Nat} {ws w w0 w1 w2 : va_W} {n : Nat} {A : Nat → Nat}
theorem wd_obj (h : aWd E al aLay w) {c ci : Nat} {fs : List (Nat ⊕ (Int × Int))} (l1 : aLay[c]? = some (.inl (ci, fs))) : ∃ a vs, w[c]? = some (a, .inr (ci, vs)) ∧ al[c]? = some a ∧ ∀ (k : Nat) (f : Nat ⊕ (Int × Int)), fs[k]? = some f → ∃ v, vs[k]? = some v ∧ aFd al f v := by
  obtain ⟨⟨a, e⟩, h1, vs, h2, -, h3⟩ := h.2 c _ l1
  have h2 : e = _ := h2
  subst h2
  refine ⟨a, vs, h1, ?_, h3⟩
  rw [← h.1, List.getElem?_map, h1]
  rfl
theorem yl_0 : ∃ fs, aLay[(0 : Nat)]? = some (.inl (5, fs)) ∧ fs[(0 : Nat)]? = some (.inl 1) := ⟨_, rfl, rfl⟩
theorem yl_1 : ∃ fs, aLay[(1 : Nat)]? = some (.inl (0, fs)) ∧ fs[(19 : Nat)]? = some (.inl 36) := ⟨_, rfl, rfl⟩
theorem yl_36 : ∃ fs b, aLay[(36 : Nat)]? = some (.inl (2, fs)) ∧ fs[(3 : Nat)]? = some (.inr b) := ⟨_, _, rfl, rfl⟩
/-- the component's voyages -/
def yc (w : va_W) (n : Nat) (A : Nat → Nat) : Prop := jS w 36 3 = n ∧ n ≤ 8 ∧ vs_B A ∧ ∀ k, k < 24 → jS w 37 k = (A k : Int)
theorem vw_of (hf : E.2.2.2.1.category = 1) (hT : ∀ σ : List Int, aTb E σ aTabs) (a5 : aWd E al aLay w) (a6 : aRs aRules w) (a7 : jJ0 w) (H : yc w n A) : ∃ a0 a1 a36 f0 f1 f36, al[0]? = some a0 ∧ al[1]? = some a1 ∧ vw E w a0 a1 a36 f0 f1 f36 n A := by
  obtain ⟨H1, H2, H3, H4⟩ := H
  obtain ⟨fs0, l0, k0⟩ := yl_0
  obtain ⟨fs1, l1, k1⟩ := yl_1
  obtain ⟨fs36, b36, l36, k36⟩ := yl_36
  obtain ⟨a0, f0, g0, m0, x0⟩ := wd_obj a5 l0
  obtain ⟨a1, f1, g1, m1, x1⟩ := wd_obj a5 l1
  obtain ⟨a36, f36, g36, m36, x36⟩ := wd_obj a5 l36
  obtain ⟨v0, y0, c0, z0, rfl⟩ := x0 0 _ k0
  obtain ⟨v1, y1, c1, z1, rfl⟩ := x1 19 _ k1
  obtain ⟨v36, y36, z36, rfl, -⟩ := x36 3 _ k36
  rw [m1] at z0
  rw [m36] at z1
  cases z0
  cases z1
  refine ⟨a0, _, _, f0, f1, f36, m0, m1, ⟨g0, y0⟩, ⟨g1, y1⟩, ⟨g36, ?_⟩, H2, H3, fun i c hi hc => gt_mj hf hT a5 a6 a7 m36 hi hc (H4 _ (by omega))⟩
  have e : jS w 36 3 = z36.toInt := jS.sl (Or.inl ⟨_, _, _, z36, g36, y36, rfl⟩)
  rw [y36]
  have : z36 = nI n := Int32.toInt_inj.mp (by rw [← e, H1, nI_toInt (by omega)])
  rw [this]
/-- years, the reference -/
theorem yrr_mj (hf : E.2.2.2.1.category = 1) (hT : ∀ σ : List Int, aTb E σ aTabs) (a5 : aWd E al aLay ws) (a6 : aRs aRules ws) (a7 : jJ0 ws) (H : yh ws n A) {coin what : Int} (hx : aI0 ≤ coin ∧ coin ≤ aI1) (hy : aI0 ≤ what ∧ what ≤ aI1) {AS : List Value} (hA : gL E al [] [.inr (0, 99), .inl (ae_k coin), .inl (ae_k what)] AS) :
    MJ E 85 0 0 (mj_in0 288 AS ws) (fun v w => ∃ z : Int32, v = some (.int z) ∧ z.toInt = yr_A A n coin what ∧ yv E al ws w) := by
  refine hG.in0 hf (d := 85) (as := [.inr (0, 99), .inl (ae_k coin), .inl (ae_k what)]) ?_ hA
  show hG E al 85 288 0 [(0, .inr (0, 99)), (1, .inl (ae_k coin)), (2, .inl (ae_k what))] [] [] ws _
  by_cases b1 : coin ≤ -1
  · refine ky_go hf hT a5 (by decide) (ρ := [coin, what]) yr_b1 ⟨hx, hy, trivial⟩ (aFs.cons rfl (by simp only [ae_ev, ae_el, List.getD_cons_zero, List.getD_cons_succ]; omega) aFs.nil) aHh.nil (by rfl) (by rfl) (lEr (lEi (ev_s rfl) (lEi (ev_s rfl) lE0))) sE0 (lvk2 := []) lE0 (stk2 := [.inl (ae_k ((-1)))]) (sEi ae_ev_k sE0) ?_
    exact hp_retI (pc := 22) (ty := .int) (x := -1) (by decide) (by decide +kernel) (by decide +kernel) (aV.k _) (fun n hn => rfl) (fun z hz => ⟨z, rfl, by rw [hz]; unfold yr_A; rw [if_neg (by omega)], ⟨a5, a6, a7, hD.refl⟩⟩)
  by_cases b2 : 100000 ≤ coin
  · refine ky_go hf hT a5 (by decide) (ρ := [coin, what]) yr_b2 ⟨hx, hy, trivial⟩ (aFs.cons rfl (by simp only [ae_ev, ae_el, List.getD_cons_zero, List.getD_cons_succ]; omega) aFs.nil) aHh.nil (by rfl) (by rfl) (lEr (lEi (ev_s rfl) (lEi (ev_s rfl) lE0))) sE0 (lvk2 := []) lE0 (stk2 := [.inl (ae_k ((-1)))]) (sEi ae_ev_k sE0) ?_
    exact hp_retI (pc := 22) (ty := .int) (x := -1) (by decide) (by decide +kernel) (by decide +kernel) (aV.k _) (fun n hn => rfl) (fun z hz => ⟨z, rfl, by rw [hz]; unfold yr_A; rw [if_neg (by omega)], ⟨a5, a6, a7, hD.refl⟩⟩)
  by_cases b3 : what ≤ -3
  · refine ky_go hf hT a5 (by decide) (ρ := [coin, what]) yr_b3 ⟨⟨by omega, by omega⟩, hy, trivial⟩ (aFs.cons rfl (by simp only [ae_ev, ae_el, List.getD_cons_zero, List.getD_cons_succ]; omega) aFs.nil) aHh.nil (by rfl) (by rfl) (lEr (lEi (ev_s rfl) (lEi (ev_s rfl) lE0))) sE0 (lvk2 := []) lE0 (stk2 := [.inl (ae_k ((-1)))]) (sEi ae_ev_k sE0) ?_
    exact hp_retI (pc := 22) (ty := .int) (x := -1) (by decide) (by decide +kernel) (by decide +kernel) (aV.k _) (fun n hn => rfl) (fun z hz => ⟨z, rfl, by rw [hz]; unfold yr_A; rw [if_neg (by omega)], ⟨a5, a6, a7, hD.refl⟩⟩)
  by_cases b4 : 4 ≤ what
  · refine ky_go hf hT a5 (by decide) (ρ := [coin, what]) yr_b4 ⟨⟨by omega, by omega⟩, hy, trivial⟩ (aFs.cons rfl (by simp only [ae_ev, ae_el, List.getD_cons_zero, List.getD_cons_succ]; omega) aFs.nil) aHh.nil (by rfl) (by rfl) (lEr (lEi (ev_s rfl) (lEi (ev_s rfl) lE0))) sE0 (lvk2 := []) lE0 (stk2 := [.inl (ae_k ((-1)))]) (sEi ae_ev_k sE0) ?_
    exact hp_retI (pc := 22) (ty := .int) (x := -1) (by decide) (by decide +kernel) (by decide +kernel) (aV.k _) (fun n hn => rfl) (fun z hz => ⟨z, rfl, by rw [hz]; unfold yr_A; rw [if_neg (by omega)], ⟨a5, a6, a7, hD.refl⟩⟩)
  have hc : 0 ≤ coin ∧ coin ≤ 99999 := ⟨by omega, by omega⟩
  have hw : -2 ≤ what ∧ what ≤ 3 := ⟨by omega, by omega⟩
  have HH := H
  obtain ⟨-, hn, hB, -⟩ := HH
  have hp : 1 ≤ 2 ^ n ∧ 2 ^ n ≤ 256 := ⟨Nat.one_le_two_pow, Nat.pow_le_pow_right (by decide) hn⟩
  refine ky_go hf hT a5 (by decide) (ρ := [coin, what]) yr_p0 ⟨⟨by omega, by omega⟩, ⟨by omega, by omega⟩, trivial⟩ aFs.nil aHh.nil (by rfl) (by rfl) (lEr (lEi (ev_s rfl) (lEi (ev_s rfl) lE0))) sE0 (lvk2 := [(0, .inr (0, 99)), (1, .inl (ae_k (coin))), (2, .inl (ae_k (what))), (3, .inl (ae_k (0))), (4, .inl (ae_k (0))), (5, .inl (ae_k (0)))]) (lEr (lEi (ev_s rfl) (lEi (ev_s rfl) (lEi ae_ev_k (lEi ae_ev_k (lEi ae_ev_k lE0)))))) (stk2 := []) sE0 ?_
  refine yz1_go (w0 := ws) hf hT hc hw (fun wa va za => ?_) 10 0 ws (by omega) ⟨a5, a6, a7, hD.refl⟩ (fun q hq => absurd hq (by omega))
  obtain ⟨C, rfl⟩ : ∃ C : Nat, coin = C := ⟨coin.toNat, by omega⟩
  have z : ∀ k r, vs_c A 0 k = 0 ∧ vs_r A 0 r k = 0 := by
    intro k r
    induction k with
    | zero => exact ⟨rfl, rfl⟩
    | succ k ih => simp [vs_c, vs_r, ih]
  have g := yo_go (w0 := ws) (Q := fun v w => ∃ z : Int32, v = some (.int z) ∧ z.toInt = yr_A A n C what ∧ yv E al ws w) hf hT (coin := C) hc hw H (fun wb vb zb => ?_) (2 ^ n - 1) 0 0 wa (by omega) rfl va (fun r hr => by rw [(za r (by omega)).2, (z n r).2]; rfl) (fun k h1 h2 => za k h2)
  · rw [(z n 0).1] at g
    exact g
  · have bb := vs_bbb (C := fun s => vs_c A s n) (Wt := fun s => vs_w A s n) (coin := C) (j := 2 ^ n - 1)
    have ans : yr_A A n C what = if what = -1 then (vs_bb (fun s => vs_c A s n) (fun s => vs_w A s n) C (2 ^ n - 1) : Int) else if what = -2 then (vs_c A (vs_bb (fun s => vs_c A s n) (fun s => vs_w A s n) C (2 ^ n - 1)) n : Int) else (vs_r A (vs_bb (fun s => vs_c A s n) (fun s => vs_w A s n) C (2 ^ n - 1)) what.toNat n : Int) := by
      unfold yr_A yr_F
      rw [if_pos (by omega), Int.toNat_natCast]
    rw [ans]
    generalize vs_bb (fun s => vs_c A s n) (fun s => vs_w A s n) C (2 ^ n - 1) = b at *
    have cb := vs_cb (s := b) hB hn
    have vb0 := vb
    obtain ⟨a5, a6, a7, d⟩ := vb
    by_cases w1 : what = -1
    · subst w1
      refine ky_go hf hT a5 (by decide) (ρ := [(C : Int), (b : Int), (vs_c A b n : Int), ((2 ^ n : Nat) : Int)]) yr_e1 ⟨⟨by omega, by omega⟩, ⟨by omega, by omega⟩, ⟨by omega, by omega⟩, ⟨by omega, by omega⟩, trivial⟩ aFs.nil aHh.nil (by rfl) (by rfl) (lEr (lEi (ev_s rfl) (lEi ae_ev_k (lEi (ev_s rfl) (lEi (ev_s rfl) (lEi (ev_s rfl) lE0)))))) sE0 (lvk2 := []) lE0 (stk2 := [.inl (ae_k ((b : Int)))]) (sEi (ev_s rfl) sE0) ?_
      exact hp_retI (pc := 269) (ty := .int) (x := (b : Int)) (by decide) (by decide +kernel) (by decide +kernel) (aV.k _) (fun n hn => rfl) (fun z hz => ⟨z, rfl, by rw [hz, if_pos rfl], vb0⟩)
    · by_cases w2 : what = -2
      · subst w2
        refine ky_go hf hT a5 (by decide) (ρ := [(C : Int), (b : Int), (vs_c A b n : Int), ((2 ^ n : Nat) : Int)]) yr_e2 ⟨⟨by omega, by omega⟩, ⟨by omega, by omega⟩, ⟨by omega, by omega⟩, ⟨by omega, by omega⟩, trivial⟩ aFs.nil aHh.nil (by rfl) (by rfl) (lEr (lEi (ev_s rfl) (lEi ae_ev_k (lEi (ev_s rfl) (lEi (ev_s rfl) (lEi (ev_s rfl) lE0)))))) sE0 (lvk2 := []) lE0 (stk2 := [.inl (ae_k ((vs_c A b n : Int)))]) (sEi (ev_s rfl) sE0) ?_
        exact hp_retI (pc := 269) (ty := .int) (x := (vs_c A b n : Int)) (by decide) (by decide +kernel) (by decide +kernel) (aV.k _) (fun n hn => rfl) (fun z hz => ⟨z, rfl, by rw [hz, if_neg w1, if_pos rfl], vb0⟩)
      · obtain ⟨r, rfl⟩ : ∃ r : Nat, what = r := ⟨what.toNat, by omega⟩
        have rb := vs_rb (s := b) (r := r) hB hn
        have v := sl131 a5 (k := r) (by omega)
        rw [zb r (by omega)] at v
        refine ky_go hf hT a5 (by decide) (ρ := [(C : Int), (r : Int), (b : Int), (vs_c A b n : Int), ((2 ^ n : Nat) : Int), (vs_r A b r n : Int)]) yr_e3 ⟨⟨by omega, by omega⟩, ⟨by omega, by omega⟩, ⟨by omega, by omega⟩, ⟨by omega, by omega⟩, ⟨by omega, by omega⟩, ⟨by omega, by omega⟩, trivial⟩ aFs.nil (aHh.cons (kns (by decide) rfl rfl (i := r) (ev_s rfl) (ev_s rfl) v) aHh.nil) (by rfl) (by rfl) (lEr (lEi (ev_s rfl) (lEi (ev_s rfl) (lEi (ev_s rfl) (lEi (ev_s rfl) (lEi (ev_s rfl) lE0)))))) sE0 (lvk2 := []) lE0 (stk2 := [.inl (ae_k ((vs_r A b r n : Int)))]) (sEi (ev_s rfl) sE0) ?_
        exact hp_retI (pc := 269) (ty := .int) (x := (vs_r A b r n : Int)) (by decide) (by decide +kernel) (by decide +kernel) (aV.k _) (fun n hn => rfl) (fun z hz => ⟨z, rfl, by rw [hz, if_neg w1, if_neg w2, Int.toNat_natCast], vb0⟩)
/-- a rank's captives, out of a set's worth -/
theorem vs_out {s r : Nat} (hB : vs_B A) (hn : n ≤ 8) (hr : r < 4) : vs_w A s n / 2 ^ (8 * (3 - r)) % 256 = vs_r A s r n := by
  have s0 := vs_rb (s := s) (r := 0) hB hn
  have s1 := vs_rb (s := s) (r := 1) hB hn
  have s2 := vs_rb (s := s) (r := 2) hB hn
  have s3 := vs_rb (s := s) (r := 3) hB hn
  rw [vs_wr hB hn]
  rcases (by omega : r = 0 ∨ r = 1 ∨ r = 2 ∨ r = 3) with rfl | rfl | rfl | rfl
  · show _ / 16777216 % 256 = _
    omega
  · show _ / 65536 % 256 = _
    omega
  · show _ / 256 % 256 = _
    omega
  · show _ / 1 % 256 = _
    omega
theorem yn_go {a0 a1 a36 : Nat} {f0 f1 f36 : List Value} (hv : vw E ws a0 a1 a36 f0 f1 f36 n A) {r s : Nat} (hr : r < 4) (hs : s < 256) (hQ : Q (some (.int (nI (vs_r A s r n)))) ws) : nG E 85 146 53 [(0, .ref a0), (2, .int (nI r)), (3, .int (nI s))] [] ws Q := by
  have hv0 := hv
  obtain ⟨⟨h0, h0b⟩, ⟨h1, h1b⟩, ⟨h36, h36b⟩, hn, hB, hG⟩ := hv
  have wb := vs_wb (s := s) hB hn
  have out := vs_out (s := s) hB hn hr
  refine n_al (k := 0) (by decide +kernel) List.mem_cons_self ?_
  refine n_gf (ix := 10) (ci := 5) (k := 0) (by decide +kernel) (by decide +kernel) h0 h0b ?_
  refine n_iln (k := 3) (by decide +kernel) (List.mem_cons_of_mem _ (List.mem_cons_of_mem _ List.mem_cons_self)) ?_
  refine n_cv (ix := 322) (y2 := 149) (as := [.int (nI s)]) (rest := []) (x := .long (lN (vs_w A s n))) (by decide +kernel) (by decide +kernel) rfl ⟨by decide, rfl, (by show 2 ≤ _; decide +kernel), by decide +kernel, (by show 0 ≤ 8; decide)⟩ h1 ⟨by decide +kernel, by decide⟩ ((wo_mj hv0 hs).weaken (by decide) (Nat.le_refl _) (Nat.le_refl _) (fun v w h => h)) ?_
  refine n_iln (k := 2) (by decide +kernel) (List.mem_cons_of_mem _ List.mem_cons_self) ?_
  refine n_cs (ix := 326) (y2 := 150) (as := [.int (nI r)]) (rest := [.long (lN (vs_w A s n))]) (x := .int (nI (8 * (3 - r)))) (by decide +kernel) (by decide +kernel) rfl ⟨by decide, rfl, (by show 1 ≤ _; decide +kernel), by decide +kernel, (by show 2 + 0 ≤ 8; decide)⟩ ((sh_mj hr).weaken (by decide) (Nat.le_refl _) (Nat.le_refl _) (fun v w h => h)) ?_
  refine n_lshr (c := lN (vs_w A s n / 2 ^ (8 * (3 - r)))) (by decide +kernel) (vs_shr (by rw [vs_sm r hr, BitVec.toNat_ofNat]; omega) wb) ?_
  refine n_ldl (ix := 195) (v := 255) (by decide +kernel) (by decide +kernel) ?_
  refine n_land (c := lN (vs_w A s n / 2 ^ (8 * (3 - r)) % 256)) (by decide +kernel) (vs_and (Nat.lt_of_le_of_lt (Nat.div_le_self _ _) wb)) ?_
  refine n_l2i (c := nI (vs_w A s n / 2 ^ (8 * (3 - r)) % 256)) (by decide +kernel) (by unfold lN nI; exact Int64.toInt32_ofNat') ?_
  rw [out]
  exact n_reti (ty := .int) (by decide +kernel) (by decide +kernel) rfl hQ
/-- years, the component -/
theorem yrc_mj (hf : E.2.2.2.1.category = 1) (hT : ∀ σ : List Int, aTb E σ aTabs) (a5 : aWd E al aLay ws) (a6 : aRs aRules ws) (a7 : jJ0 ws) (H : yc ws n A) {coin what : Int} (hx : aI0 ≤ coin ∧ coin ≤ aI1) (hy : aI0 ≤ what ∧ what ≤ aI1) {AS : List Value} (hA : gL E al [] [.inr (0, 0), .inl (ae_k coin), .inl (ae_k what)] AS) :
    MJ E 85 0 0 (mj_in0 146 AS ws) (fun v w => ∃ z : Int32, v = some (.int z) ∧ z.toInt = yr_A A n coin what ∧ w = ws) := by
  refine hG.in0 hf (d := 85) (as := [.inr (0, 0), .inl (ae_k coin), .inl (ae_k what)]) ?_ hA
  show hG E al 85 146 0 [(0, .inr (0, 0)), (1, .inl (ae_k coin)), (2, .inl (ae_k what))] [] [] ws _
  by_cases b1 : coin ≤ -1
  · refine ky_go hf hT a5 (by decide) (ρ := [coin, what]) yc_b1 ⟨hx, hy, trivial⟩ (aFs.cons rfl (by simp only [ae_ev, ae_el, List.getD_cons_zero, List.getD_cons_succ]; omega) aFs.nil) aHh.nil (by rfl) (by rfl) (lEr (lEi (ev_s rfl) (lEi (ev_s rfl) lE0))) sE0 (lvk2 := []) lE0 (stk2 := [.inl (ae_k ((-1)))]) (sEi ae_ev_k sE0) ?_
    exact hp_retI (pc := 21) (ty := .int) (x := -1) (by decide) (by decide +kernel) (by decide +kernel) (aV.k _) (fun n hn => rfl) (fun z hz => ⟨z, rfl, by rw [hz]; unfold yr_A; rw [if_neg (by omega)], rfl⟩)
  by_cases b2 : 100000 ≤ coin
  · refine ky_go hf hT a5 (by decide) (ρ := [coin, what]) yc_b2 ⟨hx, hy, trivial⟩ (aFs.cons rfl (by simp only [ae_ev, ae_el, List.getD_cons_zero, List.getD_cons_succ]; omega) aFs.nil) aHh.nil (by rfl) (by rfl) (lEr (lEi (ev_s rfl) (lEi (ev_s rfl) lE0))) sE0 (lvk2 := []) lE0 (stk2 := [.inl (ae_k ((-1)))]) (sEi ae_ev_k sE0) ?_
    exact hp_retI (pc := 21) (ty := .int) (x := -1) (by decide) (by decide +kernel) (by decide +kernel) (aV.k _) (fun n hn => rfl) (fun z hz => ⟨z, rfl, by rw [hz]; unfold yr_A; rw [if_neg (by omega)], rfl⟩)
  by_cases b3 : what ≤ -3
  · refine ky_go hf hT a5 (by decide) (ρ := [coin, what]) yc_b3 ⟨⟨by omega, by omega⟩, hy, trivial⟩ (aFs.cons rfl (by simp only [ae_ev, ae_el, List.getD_cons_zero, List.getD_cons_succ]; omega) aFs.nil) aHh.nil (by rfl) (by rfl) (lEr (lEi (ev_s rfl) (lEi (ev_s rfl) lE0))) sE0 (lvk2 := []) lE0 (stk2 := [.inl (ae_k ((-1)))]) (sEi ae_ev_k sE0) ?_
    exact hp_retI (pc := 21) (ty := .int) (x := -1) (by decide) (by decide +kernel) (by decide +kernel) (aV.k _) (fun n hn => rfl) (fun z hz => ⟨z, rfl, by rw [hz]; unfold yr_A; rw [if_neg (by omega)], rfl⟩)
  by_cases b4 : 4 ≤ what
  · refine ky_go hf hT a5 (by decide) (ρ := [coin, what]) yc_b4 ⟨⟨by omega, by omega⟩, hy, trivial⟩ (aFs.cons rfl (by simp only [ae_ev, ae_el, List.getD_cons_zero, List.getD_cons_succ]; omega) aFs.nil) aHh.nil (by rfl) (by rfl) (lEr (lEi (ev_s rfl) (lEi (ev_s rfl) lE0))) sE0 (lvk2 := []) lE0 (stk2 := [.inl (ae_k ((-1)))]) (sEi ae_ev_k sE0) ?_
    exact hp_retI (pc := 21) (ty := .int) (x := -1) (by decide) (by decide +kernel) (by decide +kernel) (aV.k _) (fun n hn => rfl) (fun z hz => ⟨z, rfl, by rw [hz]; unfold yr_A; rw [if_neg (by omega)], rfl⟩)
  have hn := H.2.1
  have hB := H.2.2.1
  have hp : 1 ≤ 2 ^ n ∧ 2 ^ n ≤ 256 := ⟨Nat.one_le_two_pow, Nat.pow_le_pow_right (by decide) hn⟩
  obtain ⟨a0, a1, a36, f0, f1, f36, m0, m1, hv⟩ := vw_of hf hT a5 a6 a7 H
  obtain ⟨C, rfl⟩ : ∃ C : Nat, coin = C := ⟨coin.toNat, by omega⟩
  have HV : hOk E al gV0 (fun _ => True) := hOkV hf hT (fun _ _ _ h => h)
  refine ky_go hf hT a5 (by decide) (ρ := [(C : Int), what]) yc_0 ⟨⟨by omega, by omega⟩, ⟨by omega, by omega⟩, trivial⟩ aFs.nil aHh.nil (by rfl) (by rfl) (lEr (lEi (ev_s rfl) (lEi (ev_s rfl) lE0))) sE0 (lvk2 := [(0, .inr (0, 0)), (1, .inl (ae_k ((C : Int)))), (2, .inl (ae_k (what)))]) (lEr (lEi (ev_s rfl) (lEi (ev_s rfl) lE0))) (stk2 := [.inl (ae_k ((C : Int))), .inr (0, 1)]) (sEi (ev_s rfl) (sEr sE0)) ?_
  have bb := vs_bbb (C := fun s => vs_c A s n) (Wt := fun s => vs_w A s n) (coin := C) (j := 2 ^ n - 1)
  have ans : yr_A A n C what = if what = -1 then (vs_bb (fun s => vs_c A s n) (fun s => vs_w A s n) C (2 ^ n - 1) : Int) else if what = -2 then (vs_c A (vs_bb (fun s => vs_c A s n) (fun s => vs_w A s n) C (2 ^ n - 1)) n : Int) else (vs_r A (vs_bb (fun s => vs_c A s n) (fun s => vs_w A s n) C (2 ^ n - 1)) what.toNat n : Int) := by
    unfold yr_A yr_F
    rw [if_pos (by omega), Int.toNat_natCast]
  rw [ans]
  refine hp_callV HV (d := 84) (y2 := 147) (as := [.inr (0, 1), .inl (ae_k (C : Int))]) (rest := []) (R := fun z w => z = nI (vs_bb (fun s => vs_c A s n) (fun s => vs_w A s n) C (2 ^ n - 1)) ∧ w = ws) (by decide) (by rfl) (hW.e (J := fun _ => True) a5 trivial) (fun AS h => ?_) (fun z w2 hR => ?_)
  · obtain ⟨v, u, rfl, ⟨b1, g1, rfl⟩, v2, u2, rfl, ⟨z2, rfl, e2⟩, h3⟩ := h
    have h3 : u2 = [] := h3
    subst h3
    rw [m1] at g1
    cases g1
    have e2 := e2.of_k
    have x2 : z2 = nI C := Int32.toInt_inj.mp (by rw [e2, nI_toInt (by omega)])
    subst x2
    exact (bv_mj hv (coin := C) (by omega)).weaken (by decide) (Nat.le_refl _) (Nat.le_refl _) (fun v w h => ⟨_, h.1, rfl, h.2⟩)
  obtain ⟨rfl, rfl⟩ := hR
  generalize vs_bb (fun s => vs_c A s n) (fun s => vs_w A s n) C (2 ^ n - 1) = b at *
  have cb := vs_cb (s := b) hB hn
  rw [nI_toInt (by omega)]
  by_cases w1 : what = -1
  · subst w1
    refine ky_go hf hT a5 (by decide) (ρ := [(C : Int), (b : Int)]) yc_1 ⟨⟨by omega, by omega⟩, ⟨by omega, by omega⟩, trivial⟩ aFs.nil aHh.nil (by rfl) (by rfl) (lEr (lEi (ev_s rfl) (lEi ae_ev_k lE0))) (sEi (ev_s rfl) sE0) (lvk2 := []) lE0 (stk2 := [.inl (ae_k ((b : Int)))]) (sEi (ev_s rfl) sE0) ?_
    exact hp_retI (pc := 37) (ty := .int) (x := (b : Int)) (by decide) (by decide +kernel) (by decide +kernel) (aV.k _) (fun n hn => rfl) (fun z hz => ⟨z, rfl, by rw [hz, if_pos rfl], rfl⟩)
  · by_cases w3 : what = -2
    · subst w3
      refine ky_go hf hT a5 (by decide) (ρ := [(C : Int), (b : Int)]) yc_2 ⟨⟨by omega, by omega⟩, ⟨by omega, by omega⟩, trivial⟩ aFs.nil aHh.nil (by rfl) (by rfl) (lEr (lEi (ev_s rfl) (lEi ae_ev_k lE0))) (sEi (ev_s rfl) sE0) (lvk2 := []) lE0 (stk2 := [.inl (ae_k ((b : Int))), .inr (0, 1)]) (sEi (ev_s rfl) (sEr sE0)) ?_
      refine hp_callV HV (d := 84) (y2 := 148) (as := [.inr (0, 1), .inl (ae_k (b : Int))]) (rest := []) (R := fun z w => z = nI (vs_c A b n) ∧ w = w2) (by decide) (by rfl) (hW.e (J := fun _ => True) a5 trivial) (fun AS h => ?_) (fun z w4 hR => ?_)
      · obtain ⟨v, u, rfl, ⟨b1, g1, rfl⟩, v2, u2, rfl, ⟨z2, rfl, e2⟩, h3⟩ := h
        have h3 : u2 = [] := h3
        subst h3
        rw [m1] at g1
        cases g1
        have e2 := e2.of_k
        have x2 : z2 = nI b := Int32.toInt_inj.mp (by rw [e2, nI_toInt (by omega)])
        subst x2
        exact (co_mj hv (s := b) (by omega)).weaken (by decide) (Nat.le_refl _) (Nat.le_refl _) (fun v w h => ⟨_, h.1, rfl, h.2⟩)
      obtain ⟨rfl, rfl⟩ := hR
      rw [nI_toInt (by omega)]
      exact hp_retI (pc := 52) (ty := .int) (x := (vs_c A b n : Int)) (by decide) (by decide +kernel) (by decide +kernel) (aV.k _) (fun n hn => rfl) (fun z hz => ⟨z, rfl, by rw [hz, if_neg w1, if_pos rfl], rfl⟩)
    · obtain ⟨r, rfl⟩ : ∃ r : Nat, what = r := ⟨what.toNat, by omega⟩
      have rb := vs_rb (s := b) (r := r) hB hn
      refine ky_go hf hT a5 (by decide) (ρ := [(C : Int), (r : Int), (b : Int)]) yc_3 ⟨⟨by omega, by omega⟩, ⟨by omega, by omega⟩, ⟨by omega, by omega⟩, trivial⟩ aFs.nil aHh.nil (by rfl) (by rfl) (lEr (lEi (ev_s rfl) (lEi (ev_s rfl) lE0))) (sEi (ev_s rfl) sE0) (lvk2 := [(0, .inr (0, 0)), (2, .inl (ae_k ((r : Int)))), (3, .inl (ae_k ((b : Int))))]) (lEr (lEi (ev_s rfl) (lEi (ev_s rfl) lE0))) (stk2 := []) sE0 ?_
      intro LV ST h1 h2
      have h2 : ST = [] := h2
      subst h2
      obtain ⟨v0, k0, b0, g0, rfl⟩ := h1 (0, .inr (0, 0)) (by simp)
      obtain ⟨v2, k2, z2, rfl, e2⟩ := h1 (2, .inl (ae_k (r : Int))) (by simp)
      obtain ⟨v3, k3, z3, rfl, e3⟩ := h1 (3, .inl (ae_k (b : Int))) (by simp)
      rw [m0] at g0
      cases g0
      have e2 := e2.of_k
      have e3 := e3.of_k
      have x2 : z2 = nI r := Int32.toInt_inj.mp (by rw [e2, nI_toInt (by omega)])
      have x3 : z3 = nI b := Int32.toInt_inj.mp (by rw [e3, nI_toInt (by omega)])
      subst x2
      subst x3
      exact yn_go hv (r := r) (s := b) (by omega) (by omega) ⟨_, rfl, by rw [if_neg w1, if_neg w3, Int.toNat_natCast, nI_toInt (by omega)], rfl⟩ LV (fun q hq => by
        simp only [List.mem_cons, List.not_mem_nil, or_false] at hq
        rcases hq with rfl | rfl | rfl
        · exact k0
        · exact k2
        · exact k3)
end YX
