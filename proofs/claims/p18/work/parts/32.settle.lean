/-! THE READER, by hand: settle (248). Symbols: 0 least, 1 the sign on top of those that wait -/
def stl (least : Int) (W : Nat → Int32) : Nat → (Nat → Int32) → Nat → (Nat → Int32) × Nat × Nat
  | 0, F, f => (F, f, 0)
  | w + 1, F, f => if (W w).toInt ≠ 6 ∧ (W w).toInt ≤ least then stl least W w (upd F f (W w)) (f + 1) else (F, f, w + 1)
theorem stl_congr {least : Int} {W W2 : Nat → Int32} : ∀ {w : Nat} {F : Nat → Int32} {f : Nat}, (∀ i, i < w → W i = W2 i) → stl least W w F f = stl least W2 w F f
  | 0, _, _, _ => rfl
  | w + 1, F, f, h => by
    unfold stl
    rw [h w (by omega), stl_congr (w := w) (fun i hi => h i (by omega))]
def se_P0 : aPc := (0, [aF] ++ rEnv 5, [([(8, 1)], 0)] ++ rFs 5 1, [] ++ rH 1, em_lv, [])
def se_B0 : List aCut := [(64, [aF] ++ rEnv 5, [] ++ rFs 5 1, em_lv, [], [] ++ rH 1, [], mMU)]
/-- it stays -/
def se_PX (z : Int × Int) (fs : List ae) : aPc := (0, [aF, z] ++ rEnv 5, ([(9, -1)], 1) :: fs ++ rFs 5 2, [((121, ([(9, 1)], -1)), ae_s 1)] ++ rH 2, em_lv, [])
def se_BX (z : Int × Int) : List aCut := [(64, [aF, z] ++ rEnv 5, [] ++ rFs 5 2, em_lv, [], [] ++ rH 2, [], mMU)]
/-- it goes -/
def se_BE (z : Int × Int) : List aCut := [(58, ([aF, z] ++ rEnv 5) ++ rEnv 5, rEqs 2 10 [(0, 0), (1, 0), (2, 0), (3, 0), (4, 0), (5, 0), (6, 0), (7, -1)] ++ rFs 5 10, em_lv, [.inl (ae_s 1), .inr (0, 99)], [] ++ rH 10, [99], mMU)]
def se_PB : aPc := (61, [aF] ++ rEnv 5, [] ++ rFs 5 1, [] ++ rH 1, em_lv, [])
def se_BB : List aCut := [(0, [aF] ++ rEnv 5, [] ++ rFs 5 1, em_lv, [], [] ++ rH 1, [], mMU)]
def se_gt : List ae := [([(0, 1), (1, -1)], 1)]
def se_le : List ae := [([(0, -1), (1, 1)], 0)]
theorem se_c0 : hp_chk gR 100000 3 248 se_P0 [] se_B0 = true := by decide +kernel
theorem se_c1 : hp_chk gR 100000 3 248 (se_PX (6, 6) []) [] (se_BX (6, 6)) = true := by decide +kernel
theorem se_c2 : hp_chk gR 100000 3 248 (se_PX (7, aI1) se_gt) [] (se_BX (7, aI1)) = true := by decide +kernel
theorem se_c3 : hp_chk gR 100000 3 248 (se_PX (aI0, 5) se_gt) [] (se_BX (aI0, 5)) = true := by decide +kernel
theorem se_c4 : hp_chk gR 100000 3 248 (se_PX (7, aI1) se_le) [] (se_BE (7, aI1)) = true := by decide +kernel
theorem se_c5 : hp_chk gR 100000 3 248 (se_PX (aI0, 5) se_le) [] (se_BE (aI0, 5)) = true := by decide +kernel
theorem se_cB : hp_chk gR 100000 3 248 se_PB [] se_BB = true := by decide +kernel
section SETTLE
variable {E : mj_E} {al : List Nat} {ws : va_W} {Q : Option Value → va_W → Prop}
/-- nothing goes any more -/
theorem se_stay (H : hOk E al gR jJ) (h : hI E al jJ ws) {least z : Int} {zr : Int × Int} {fs : List ae} (hc : hp_chk gR 100000 3 248 (se_PX zr fs) [] (se_BX zr) = true) (bl : aI0 ≤ least ∧ least ≤ aI1) (bz : zr.1 ≤ z ∧ z ≤ zr.2) (hw : 1 ≤ jF ws 29) (hz : aSl ws 121 (jF ws 29 - 1).toNat z)
    (hf : aFs ([least, z] ++ rX ws) fs) (hq : Q none ws) : hG E al 3 248 0 (em_K least) [] [] ws Q := by
  refine (hp_go (ρ := [least, z] ++ rX ws) (p := se_PX zr fs) H (by decide) hc (hp_st (fs := ([(9, -1)], 1) :: fs) h (by decide) rK5 rfl rfl (hEv.ok (σ := [least, z]) (env := [aF, zr]) ⟨bl, bz, trivial⟩) (aFs.cons rfl ?_ hf) (aHh.cons (aH1.mk (by decide) rfl rfl ?_ ?_) aHh.nil)) ?_).toK rfl rfl ?_ rfl
  · simp only [ae_ev, ae_el, rX, List.cons_append, List.nil_append, List.getD_cons_succ, List.getD_cons_zero]
    omega
  · simp only [ae_ev, ae_el, rX, List.cons_append, List.nil_append, List.getD_cons_succ, List.getD_cons_zero]
    omega
  · have e1 : ae_ev ([least, z] ++ rX ws) ([(9, 1)], -1) = jF ws 29 - 1 := by
      simp only [ae_ev, ae_el, rX, List.cons_append, List.nil_append, List.getD_cons_succ, List.getD_cons_zero]
      omega
    have e2 : ae_ev ([least, z] ++ rX ws) (ae_s 1) = z := by
      simp only [ae_ev, ae_el, ae_s, rX, List.cons_append, List.nil_append, List.getD_cons_succ, List.getD_cons_zero]
      omega
    rw [e1, e2]
    exact hz
  · intro T hT σ w2 k1 k2 k3 k4
    have hT := List.mem_singleton.mp hT
    subst hT
    have e := hD.eq (ws := ws) (w := w2) ⟨k3, fun k hk => k4 k hk⟩
    subst e
    exact hp_ret (pc := 64) H (by decide) (by decide +kernel) (by decide +kernel) hq
  · simp only [lvE, avE, se_PX, em_lv, em_K, ae_s, ae_ev, ae_el, List.cons_append, List.nil_append, List.map_cons, List.map_nil, List.getD_cons_succ, List.getD_cons_zero, Int.one_mul, Int.add_zero]
theorem se_none (H : hOk E al gR jJ) (h : hI E al jJ ws) {least : Int} (bl : aI0 ≤ least ∧ least ≤ aI1) (hw : jF ws 29 ≤ 0) (hq : Q none ws) : hG E al 3 248 0 (em_K least) [] [] ws Q := by
  refine (hp_go (ρ := [least] ++ rX ws) (p := se_P0) H (by decide) se_c0 (hp_st h (by decide) rK5 rfl rfl (hEv.ok (σ := [least]) (env := [aF]) ⟨bl, trivial⟩) (aFs.cons rfl ?_ aFs.nil) aHh.nil) ?_).toK rfl rfl ?_ rfl
  · simp only [ae_ev, ae_el, rX, List.cons_append, List.nil_append, List.getD_cons_succ, List.getD_cons_zero]
    omega
  · intro T hT σ w2 k1 k2 k3 k4
    have hT := List.mem_singleton.mp hT
    subst hT
    have e := hD.eq (ws := ws) (w := w2) ⟨k3, fun k hk => k4 k hk⟩
    subst e
    exact hp_ret (pc := 64) H (by decide) (by decide +kernel) (by decide +kernel) hq
  · simp only [lvE, avE, se_P0, em_lv, em_K, ae_s, ae_ev, ae_el, List.cons_append, List.nil_append, List.map_cons, List.map_nil, List.getD_cons_succ, List.getD_cons_zero, Int.one_mul, Int.add_zero]
theorem se_back (H : hOk E al gR jJ) (h : hI E al jJ ws) {least : Int} (bl : aI0 ≤ least ∧ least ≤ aI1) (hq : hG E al 3 248 0 (em_K least) [] [] ws Q) : hG E al 3 248 61 (em_K least) [] [] ws Q := by
  refine (hp_go (ρ := [least] ++ rX ws) (p := se_PB) H (by decide) se_cB (hp_st h (by decide) rK5 rfl rfl (hEv.ok (σ := [least]) (env := [aF]) ⟨bl, trivial⟩) aFs.nil aHh.nil) ?_).toK rfl rfl ?_ rfl
  · intro T hT σ w2 k1 k2 k3 k4
    have hT := List.mem_singleton.mp hT
    subst hT
    have e := hD.eq (ws := ws) (w := w2) ⟨k3, fun k hk => k4 k hk⟩
    subst e
    have g0 := rX_ge (ρ := [least]) (n := 1) (k := 0) rfl (by decide) (by decide) k1
    refine hq.ofK ?_ rfl
    simp only [lvE, avE, em_lv, em_K, ae_s, ae_ev, ae_el, List.map_cons, List.map_nil, Int.one_mul, Int.add_zero, g0, List.getD_cons_zero]
  · simp only [lvE, avE, se_PB, em_lv, em_K, ae_s, ae_ev, ae_el, List.cons_append, List.nil_append, List.map_cons, List.map_nil, List.getD_cons_succ, List.getD_cons_zero, Int.one_mul, Int.add_zero]
/-- one goes -/
theorem se_go (H : hOk E al gR jJ) (h : hI E al jJ ws) {least : Int} {z : Int32} {zr : Int × Int} (hc : hp_chk gR 100000 3 248 (se_PX zr se_le) [] (se_BE zr) = true) (bl : aI0 ≤ least ∧ least ≤ aI1) (bz : zr.1 ≤ z.toInt ∧ z.toInt ≤ zr.2) (hw : 1 ≤ jF ws 29) (hfw : jF ws 28 + jF ws 29 ≤ 256) (hz : aSl ws 121 (jF ws 29 - 1).toNat z.toInt)
    (hzl : z.toInt ≤ least) (hq : ∀ w, hI E al jJ w → hD [99, 120] ws w → rT ws w → jF w 28 = jF ws 28 + 1 → jF w 29 = jF ws 29 - 1 → jR w 120 = upd (jR ws 120) (jF ws 28).toNat z → hG E al 3 248 0 (em_K least) [] [] w Q) : hG E al 3 248 0 (em_K least) [] [] ws Q := by
  have b := h.bds
  refine (hp_go (ρ := [least, z.toInt] ++ rX ws) (p := se_PX zr se_le) H (by decide) hc (hp_st (fs := ([(9, -1)], 1) :: se_le) h (by decide) rK5 rfl rfl (hEv.ok (σ := [least, z.toInt]) (env := [aF, zr]) ⟨bl, bz, trivial⟩) (aFs.cons rfl ?_ (aFs.cons rfl ?_ aFs.nil)) (aHh.cons (aH1.mk (by decide) rfl rfl ?_ ?_) aHh.nil)) ?_).toK rfl rfl ?_ rfl
  · simp only [ae_ev, ae_el, rX, List.cons_append, List.nil_append, List.getD_cons_succ, List.getD_cons_zero]
    omega
  · simp only [ae_ev, ae_el, rX, List.cons_append, List.nil_append, List.getD_cons_succ, List.getD_cons_zero]
    omega
  · simp only [ae_ev, ae_el, rX, List.cons_append, List.nil_append, List.getD_cons_succ, List.getD_cons_zero]
    omega
  · have e1 : ae_ev ([least, z.toInt] ++ rX ws) ([(9, 1)], -1) = jF ws 29 - 1 := by
      simp only [ae_ev, ae_el, rX, List.cons_append, List.nil_append, List.getD_cons_succ, List.getD_cons_zero]
      omega
    have e2 : ae_ev ([least, z.toInt] ++ rX ws) (ae_s 1) = z.toInt := by
      simp only [ae_ev, ae_el, ae_s, rX, List.cons_append, List.nil_append, List.getD_cons_succ, List.getD_cons_zero]
      omega
    rw [e1, e2]
    exact hz
  · intro T hT σ w2 k1 k2 k3 k4
    have hT := List.mem_singleton.mp hT
    subst hT
    obtain ⟨g1, -, g3, g4⟩ := hp_en (m := 10) rfl rfl (by decide) rfl k2
    have g5 := rX_of (ρ := [least, z.toInt]) (n := 2) (N := 10) rfl (by decide) k1
    have x0 : σ.getD 0 0 = least := rX_ge (ρ := [least, z.toInt]) (n := 2) (N := 10) (k := 0) rfl (by decide) (by decide) k1
    have x1 : σ.getD 1 0 = z.toInt := rX_ge (ρ := [least, z.toInt]) (n := 2) (N := 10) (k := 1) rfl (by decide) (by decide) k1
    have g6 := rEqs_ok g4
    have q0 := g6 0 0 (by simp)
    have q1 := g6 1 0 (by simp)
    have q2 := g6 2 0 (by simp)
    have q3 := g6 3 0 (by simp)
    have q4 := g6 4 0 (by simp)
    have q5 := g6 5 0 (by simp)
    have q6 := g6 6 0 (by simp)
    have q7 := g6 7 (-1) (by simp)
    have d2 : hD [99] ws w2 := ⟨k3, fun k hk => k4 k hk⟩
    have o2 : rT ws w2 := by unfold rT; omega
    refine hp_call (R := fun w => hI E al jJ w ∧ hD [99, 120] w2 w ∧ rT w2 w ∧ jF w 28 = jF w2 28 + 1 ∧ jF w 29 = jF w2 29 ∧ jR w 120 = upd (jR w2 120) (jF w2 28).toNat z) H (d := 2) (y2 := 246) (as := [.inr (0, 99), .inl (ae_s 1)]) (rest := []) (by decide) (by rfl) k2 (fun AS ha => ?_) (fun w hR => ?_)
    · refine (rd_emit H g1 (by omega) z (AS := AS) ?_).weaken (by decide) (Nat.le_refl _) (Nat.le_refl _) (fun _ _ z => z)
      have := ha.toK
      simpa only [List.map_cons, List.map_nil, avE, ae_s, ae_ev, ae_el, Int.one_mul, Int.add_zero, x1] using this
    · obtain ⟨r1, r2, r3, r4, r5, r6⟩ := hR
      have e28 : jF w2 28 = jF ws 28 := by omega
      refine hG.ofK (lv2 := em_K least) (st2 := []) ?_ ?_ rfl
      · refine se_back H r1 bl (hq w r1 ((d2.more (by simp)).trans r2) (o2.trans r3) (by omega) (by omega) ?_)
        rw [r6, d2.row (by decide), e28]
      · simp only [lvE, avE, em_lv, em_K, ae_s, ae_ev, ae_el, List.map_cons, List.map_nil, Int.one_mul, Int.add_zero, x0]
  · simp only [lvE, avE, se_PX, em_lv, em_K, ae_s, ae_ev, ae_el, List.cons_append, List.nil_append, List.map_cons, List.map_nil, List.getD_cons_succ, List.getD_cons_zero, Int.one_mul, Int.add_zero]
/-- settle -/
theorem se_loop (H : hOk E al gR jJ) {least : Int} (bl : aI0 ≤ least ∧ least ≤ aI1) : ∀ (n : Nat) {ws : va_W}, hI E al jJ ws → (jF ws 29).toNat = n → jF ws 28 + jF ws 29 ≤ 256 →
    (∀ w, hI E al jJ w → hD [99, 120] ws w → rT ws w → jR w 120 = (stl least (jR ws 121) n (jR ws 120) (jF ws 28).toNat).1 → jF w 28 = ((stl least (jR ws 121) n (jR ws 120) (jF ws 28).toNat).2.1 : Int) → jF w 29 = ((stl least (jR ws 121) n (jR ws 120) (jF ws 28).toNat).2.2 : Int) → Q none w) → hG E al 3 248 0 (em_K least) [] [] ws Q := by
  intro n
  induction n with
  | zero =>
    intro ws h hn hb hq
    have b := h.bds
    refine se_none H h bl (by omega) (hq ws h hD.refl (rT.at rfl) rfl ?_ ?_)
    · show _ = (((jF ws 28).toNat : Nat) : Int)
      omega
    · show _ = ((0 : Nat) : Int)
      omega
  | succ n ih =>
    intro ws h hn hb hq
    have b := h.bds
    obtain ⟨w21, r21, k21⟩ := h.1.row aw_121
    have ez : jF ws 29 - 1 = (n : Int) := by omega
    have hz : aSl ws 121 (jF ws 29 - 1).toNat (jR ws 121 n).toInt := by
      rw [ez, Int.toNat_natCast]
      exact aSl.row r21 (by omega) rfl
    unfold stl at hq
    generalize hx : jR ws 121 n = z at hz hq
    have z0 := i32_lo z
    have z1 := i32_hi z
    by_cases hc : z.toInt ≠ 6 ∧ z.toInt ≤ least
    · rw [if_pos hc] at hq
      have next : ∀ w, hI E al jJ w → hD [99, 120] ws w → rT ws w → jF w 28 = jF ws 28 + 1 → jF w 29 = jF ws 29 - 1 → jR w 120 = upd (jR ws 120) (jF ws 28).toNat z → hG E al 3 248 0 (em_K least) [] [] w Q := by
        intro w g1 g2 g3 g4 g5 g6
        have e1 : jR w 121 = jR ws 121 := g2.row (by decide)
        have e2 : (jF w 28).toNat = (jF ws 28).toNat + 1 := by omega
        refine ih g1 (by omega) (by omega) (fun w2 m1 m2 m3 m4 m5 m6 => ?_)
        rw [e1, e2, g6] at m4 m5 m6
        exact hq w2 m1 (g2.trans m2) (g3.trans m3) m4 m5 m6
      by_cases h7 : 7 ≤ z.toInt
      · exact se_go H h se_c4 bl ⟨h7, z1⟩ (by omega) hb hz hc.2 next
      · exact se_go H h se_c5 bl ⟨z0, by show z.toInt ≤ 5; omega⟩ (by omega) hb hz hc.2 next
    · rw [if_neg hc] at hq
      have q : Q none ws := hq ws h hD.refl (rT.at rfl) rfl (by show _ = (((jF ws 28).toNat : Nat) : Int); omega) (by show _ = ((n + 1 : Nat) : Int); omega)
      by_cases h6 : z.toInt = 6
      · exact se_stay H h se_c1 bl ⟨by show 6 ≤ z.toInt; omega, by show z.toInt ≤ 6; omega⟩ (by omega) hz aFs.nil q
      · have hf : aFs ([least, z.toInt] ++ rX ws) se_gt := by
          refine aFs.cons rfl ?_ aFs.nil
          simp only [ae_ev, ae_el, rX, List.cons_append, List.nil_append, List.getD_cons_succ, List.getD_cons_zero]
          omega
        by_cases h7 : 7 ≤ z.toInt
        · exact se_stay H h se_c2 bl ⟨h7, z1⟩ (by omega) hz hf q
        · exact se_stay H h se_c3 bl ⟨z0, by show z.toInt ≤ 5; omega⟩ (by omega) hz hf q
def seF (least : Int) (ws : va_W) : (Nat → Int32) × Nat × Nat := stl least (jR ws 121) (jF ws 29).toNat (jR ws 120) (jF ws 28).toNat
theorem rd_settle (H : hOk E al gR jJ) (h : hI E al jJ ws) {least : Int} (bl : aI0 ≤ least ∧ least ≤ aI1) (hb : jF ws 28 + jF ws 29 ≤ 256) {AS : List Value} (ha : gL E al [] [.inr (0, 99), .inl (ae_k least)] AS) :
    MJ E 3 0 0 (mj_in0 248 AS ws) (fun v w => v = none ∧ hI E al jJ w ∧ hD [99, 120] ws w ∧ rT ws w ∧ jR w 120 = (seF least ws).1 ∧ jF w 28 = ((seF least ws).2.1 : Int) ∧ jF w 29 = ((seF least ws).2.2 : Int)) := by
  refine hG.in0 H.1 (as := [.inr (0, 99), .inl (ae_k least)]) ?_ ha
  exact se_loop H bl _ h rfl hb (fun w g1 g2 g3 g4 g5 g6 => ⟨rfl, g1, g2, g3, g4, g5, g6⟩)
end SETTLE
