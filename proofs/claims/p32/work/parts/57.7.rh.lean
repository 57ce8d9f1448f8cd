/-! BROUGHT, the reference, whole -/
section
set_option maxRecDepth 100000
theorem br_0 : hp_chk gV0 1000 85 260 (0, [aF, aF, aF, aF], [ae_s 0], [], [(0, .inr (0, 99)), (1, .inl (ae_s 0)), (2, .inl (ae_s 1)), (3, .inl (ae_s 2)), (4, .inl (ae_s 3))], []) [] [(40, [aF, aF, aF, aF], [], [], [.inl (ae_k (-1))], [], [], mMU)] = true := by decide +kernel
theorem br_1 : hp_chk gV0 1000 85 260 (0, [aF, aF, aF, aF], [([(0, (-1))], 5)], [], [(0, .inr (0, 99)), (1, .inl (ae_s 0)), (2, .inl (ae_s 1)), (3, .inl (ae_s 2)), (4, .inl (ae_s 3))], []) [] [(40, [aF, aF, aF, aF], [], [], [.inl (ae_k (-1))], [], [], mMU)] = true := by decide +kernel
theorem br_2 : hp_chk gV0 1000 85 260 (0, [(1, 4), aF, aF, aF], [([(1, 1)], 1)], [], [(0, .inr (0, 99)), (1, .inl (ae_s 0)), (2, .inl (ae_s 1)), (3, .inl (ae_s 2)), (4, .inl (ae_s 3))], []) [] [(40, [(1, 4), aF, aF, aF], [], [], [.inl (ae_k (-1))], [], [], mMU)] = true := by decide +kernel
theorem br_3 : hp_chk gV0 1000 85 260 (0, [(1, 4), aF, aF, aF], [([(1, (-1))], 3)], [], [(0, .inr (0, 99)), (1, .inl (ae_s 0)), (2, .inl (ae_s 1)), (3, .inl (ae_s 2)), (4, .inl (ae_s 3))], []) [] [(40, [(1, 4), aF, aF, aF], [], [], [.inl (ae_k (-1))], [], [], mMU)] = true := by decide +kernel
theorem br_4 : hp_chk gV0 1000 85 260 (0, [(1, 4), (0, 2), aF, aF], [([(2, 1)], 1)], [], [(0, .inr (0, 99)), (1, .inl (ae_s 0)), (2, .inl (ae_s 1)), (3, .inl (ae_s 2)), (4, .inl (ae_s 3))], []) [] [(40, [(1, 4), (0, 2), aF, aF], [], [], [.inl (ae_k (-1))], [], [], mMU)] = true := by decide +kernel
theorem br_5 : hp_chk gV0 1000 85 260 (0, [(1, 4), (0, 2), aF, aF], [([(2, (-1))], 3)], [], [(0, .inr (0, 99)), (1, .inl (ae_s 0)), (2, .inl (ae_s 1)), (3, .inl (ae_s 2)), (4, .inl (ae_s 3))], []) [] [(40, [(1, 4), (0, 2), aF, aF], [], [], [.inl (ae_k (-1))], [], [], mMU)] = true := by decide +kernel
theorem br_6 : hp_chk gV0 1000 85 260 (0, [(1, 4), (0, 2), (0, 2), aF], [ae_s 3], [], [(0, .inr (0, 99)), (1, .inl (ae_s 0)), (2, .inl (ae_s 1)), (3, .inl (ae_s 2)), (4, .inl (ae_s 3))], []) [] [(40, [(1, 4), (0, 2), (0, 2), aF], [], [], [.inl (ae_k (-1))], [], [], mMU)] = true := by decide +kernel
theorem br_7 : hp_chk gV0 1000 85 260 (0, [(1, 4), (0, 2), (0, 2), aF], [([(3, (-1))], 100000)], [], [(0, .inr (0, 99)), (1, .inl (ae_s 0)), (2, .inl (ae_s 1)), (3, .inl (ae_s 2)), (4, .inl (ae_s 3))], []) [] [(40, [(1, 4), (0, 2), (0, 2), aF], [], [], [.inl (ae_k (-1))], [], [], mMU)] = true := by decide +kernel
theorem br_ok : hp_chk gV0 1000 85 260 (0, [(1, 4), (0, 2), (0, 2), (1, 99999)], [], [], [(0, .inr (0, 99)), (1, .inl (ae_s 0)), (2, .inl (ae_s 1)), (3, .inl (ae_s 2)), (4, .inl (ae_s 3))], []) [] [(41, [(1, 4), (0, 2), (0, 2), (1, 99999)], [], [(0, .inr (0, 99)), (1, .inl (ae_s 0)), (2, .inl (ae_s 1)), (3, .inl (ae_s 2)), (4, .inl (ae_s 3))], [], [], [], mMU)] = true := by decide +kernel
end
section BH
variable {E : mj_E} {al : List Nat} {w ws w0 w1 : va_W} {Q : Option Value → va_W → Prop} {S r : Nat → Nat} {a99 a114 a123 a124 a125 : Nat} {lx : List (Nat × Value)} {ST : List Value} {d y pc : Nat}
theorem n_cvW {ix y2 q0 ci a : Nat} {fs as rest : List Value} {R : Value → va_W → Prop} (hd : decode (mj_b y) pc = .ok (.invokevirtual ix, 3)) (hq : (mj_fml (mj_cn y) ix).any (fun q => q.2.2.1 == 0 && q.2.2.2.1 == y2) = true) (hs : ST = as.reverse ++ .ref a :: rest) (hc : mj_callee y2 (.ref a :: as) rest ((mj_m y2).2.2.2.2.2.2 + 1))
    (hw : ws[q0]? = some (a, .inr (ci, fs))) (hci : mj_cls ci = (mj_y y2).cls ∧ ci < 7) (hM : MJ E d 0 0 (mj_in0 y2 (.ref a :: as) ws) (fun v w => ∃ x, v = some x ∧ R x w)) (h : ∀ x w, R x w → nG E (d + 1) y (pc + 3) lx (x :: rest) w Q) : nG E (d + 1) y pc lx ST ws Q := by
  subst hs
  cases hm : mj_fml (mj_cn y) ix with
  | none => rw [hm] at hq; cases hq
  | some q =>
    rw [hm] at hq
    have m := mj_find hm
    obtain ⟨a1, b, kd, y3, pl⟩ := q
    simp only [Option.any_some, Bool.and_eq_true, beq_iff_eq] at hq
    obtain ⟨rfl, rfl⟩ := hq
    intro LV hL
    refine MJ.cl hd (y2 := y3) (as := .ref a :: as) (rest := rest) ⟨rfl, y3, pl, as, a, rest, m, rfl, hc, Or.inl ⟨q0, ci, fs, hw, hci⟩, rfl⟩ (d2 := d) (mc2 := 0) (ms2 := 0) (mc3 := 0) (ms3 := 0) rfl rfl rfl hM (fun v w hv => ?_)
    obtain ⟨x, rfl, hx⟩ := hv
    exact h x w hx LV hL
theorem n_cvN {ix y2 q0 ci a : Nat} {fs as rest : List Value} {R : va_W → Prop} (hd : decode (mj_b y) pc = .ok (.invokevirtual ix, 3)) (hq : (mj_fml (mj_cn y) ix).any (fun q => q.2.2.1 == 0 && q.2.2.2.1 == y2) = true) (hs : ST = as.reverse ++ .ref a :: rest) (hc : mj_callee y2 (.ref a :: as) rest ((mj_m y2).2.2.2.2.2.2 + 1))
    (hw : ws[q0]? = some (a, .inr (ci, fs))) (hci : mj_cls ci = (mj_y y2).cls ∧ ci < 7) (hM : MJ E d 0 0 (mj_in0 y2 (.ref a :: as) ws) (fun v w => v = none ∧ R w)) (h : ∀ w, R w → nG E (d + 1) y (pc + 3) lx rest w Q) : nG E (d + 1) y pc lx ST ws Q := by
  subst hs
  cases hm : mj_fml (mj_cn y) ix with
  | none => rw [hm] at hq; cases hq
  | some q =>
    rw [hm] at hq
    have m := mj_find hm
    obtain ⟨a1, b, kd, y3, pl⟩ := q
    simp only [Option.any_some, Bool.and_eq_true, beq_iff_eq] at hq
    obtain ⟨rfl, rfl⟩ := hq
    intro LV hL
    refine MJ.cl hd (y2 := y3) (as := .ref a :: as) (rest := rest) ⟨rfl, y3, pl, as, a, rest, m, rfl, hc, Or.inl ⟨q0, ci, fs, hw, hci⟩, rfl⟩ (d2 := d) (mc2 := 0) (ms2 := 0) (mc3 := 0) (ms3 := 0) rfl rfl rfl hM (fun v w hv => ?_)
    obtain ⟨rfl, hx⟩ := hv
    exact h w hx LV hL
theorem ll_fr {v u : Nat → Int} {w2 : va_W} (h : ll E w a124 a125 v u) (e1 : w2[124]? = w[124]?) (e2 : w2[125]? = w[125]?) : ll E w2 a124 a125 v u := by
  obtain ⟨f, g, h1, h2, h3, h4⟩ := h
  exact ⟨f, g, e1.trans h1, h2, e2.trans h3, h4⟩
theorem rp_fr {u : List Nat} {w2 : va_W} (h : rp w u) (f : fr2 w w2) : rp w2 u := ⟨(jS.at (f 99 (by decide) (by decide))).trans h.1, fun i hi => (jS.at (f 123 (by decide) (by decide))).trans (h.2 i hi)⟩
/-- any two rows -/
theorem ll_any (hv : rv E al w0 w) (hal : als al a99 a114 a123 a124 a125) : ∃ v u, ll E w a124 a125 v u := by
  obtain ⟨q1, g1, f, e1⟩ := hv.1.2 124 _ al_124
  obtain ⟨q2, g2, g, e2⟩ := hv.1.2 125 _ al_125
  obtain ⟨x1, y1⟩ := q1
  obtain ⟨x2, y2⟩ := q2
  have h1 := hal.2.2.2.1
  have h2 := hal.2.2.2.2
  rw [← hv.1.1, List.getElem?_map, g1] at h1
  rw [← hv.1.1, List.getElem?_map, g2] at h2
  cases h1
  cases h2
  have e1 : y1 = _ := e1
  have e2 : y2 = _ := e2
  subst e1
  subst e2
  exact ⟨fun i => (f i).toInt, fun i => (g i).toInt, f, g, g1, fun i _ => (Int64.ofInt_toInt _).symm, g2, fun i _ => (Int64.ofInt_toInt _).symm⟩
/-- the way's length, as the object holds it -/
theorem len_at {u : List Nat} (hp : rp w u) (a5 : aWd E al aLay w) (hu : u.length ≤ 5) {f99 : List Value} (h99 : w[99]? = some (a99, .inr (6, f99))) : f99[32]? = some (.int (nI u.length)) := by
  rcases hp.len a5 with ⟨a, ci, vs, z, e1, e2, e3⟩ | ⟨a, cl, N, f, e1, -, -⟩
  · rw [h99] at e1
    cases e1
    rw [e2, show z = nI u.length from Int32.toInt_inj.mp (by rw [e3, nI_toInt (by omega)])]
  · rw [h99] at e1
    cases e1
theorem in_go (hal : als al a99 a114 a123 a124 a125) {port a b n : Nat} {best : Int} (ha : a < 3) (hn : n ≤ 99999) (hQ : ∀ w2 v2 u2, rv E al w0 w2 → fr2 w1 w2 → ll E w2 a124 a125 v2 u2 → (∀ q, q < 3 → v2 q = bi_0 a n q) → nG E 85 260 103 [(0, .ref a99), (1, .int (nI port)), (2, .int (nI a)), (3, .int (nI b)), (4, .int (nI n)), (5, .long (LJ best))] [] w2 Q) :
    ∀ (m c : Nat) (w : va_W) (v u : Nat → Int), c + m = 3 → rv E al w0 w → fr2 w1 w → ll E w a124 a125 v u → (∀ q, q < c → v q = bi_0 a n q) → nG E 85 260 69 [(0, .ref a99), (1, .int (nI port)), (2, .int (nI a)), (3, .int (nI b)), (4, .int (nI n)), (5, .long (LJ best)), (7, .int (nI c))] [] w Q := by
  intro m
  induction m with
  | zero =>
    intro c w v u hc hv hf hl hu
    have e : c = 3 := by omega
    subst e
    refine n_il (k := 7) (by decide +kernel) (List.mem_cons_of_mem _ (List.mem_cons_of_mem _ (List.mem_cons_of_mem _ (List.mem_cons_of_mem _ (List.mem_cons_of_mem _ (List.mem_cons_of_mem _ List.mem_cons_self)))))) ?_
    refine n_k (k := 3) (v := nI 3) (by decide +kernel) (by decide) ?_
    refine n_icT (c := .ge) (off := 31) (tg := 103) (by decide +kernel) (by unfold mj_go; decide) (nI_le (Nat.le_refl _) (by omega)) ?_
    exact fun LV hL => hQ w v u hv hf hl hu LV (fun q hq => hL q (by simp only [List.mem_cons, List.not_mem_nil, or_false] at hq ⊢; rcases hq with rfl | rfl | rfl | rfl | rfl | rfl <;> simp))
  | succ m ih =>
    intro c w v u hc hv hf hl hu
    have hc3 : c < 3 := by omega
    obtain ⟨f99, h99, h14, h31, h33, h34⟩ := hal.m hv.1
    have fin : nG E 85 260 96 [(0, .ref a99), (1, .int (nI port)), (2, .int (nI a)), (3, .int (nI b)), (4, .int (nI n)), (5, .long (LJ best)), (7, .int (nI c))] [.long (LJ (bi_0 a n c)), .int (nI c), .ref a124] w Q := by
      refine n_las1 (t := bi_0 a n c) (by decide +kernel) hv hl hc3 (fun w2 v2 l2 f2 => ?_)
      refine n_inc (k := 7) (c := 1) (v2 := nI (c + 1)) (by decide +kernel) (by decide +kernel) (List.mem_cons_of_mem _ (List.mem_cons_of_mem _ (List.mem_cons_of_mem _ (List.mem_cons_of_mem _ (List.mem_cons_of_mem _ (List.mem_cons_of_mem _ List.mem_cons_self)))))) (nI_1 c) ?_
      show nG E 85 260 100 [(7, .int (nI (c + 1))), (0, .ref a99), (1, .int (nI port)), (2, .int (nI a)), (3, .int (nI b)), (4, .int (nI n)), (5, .long (LJ best))] [] w2 _
      refine n_goto (off := (-31)) (tg := 69) (by decide +kernel) (by unfold mj_go; decide) ?_
      exact fun LV hL => ih (c + 1) w2 _ u (by omega) v2 (fun cc c1 c2 => (f2 cc c1 c2).trans (hf cc c1 c2)) l2 (fun q hq => by
        unfold up_
        by_cases e : q = c
        · rw [if_pos e, e]
        · rw [if_neg e]
          exact hu q (by omega)) LV (fun q hq => hL q (by simp only [List.mem_cons, List.not_mem_nil, or_false] at hq ⊢; rcases hq with rfl | rfl | rfl | rfl | rfl | rfl | rfl <;> simp))
    by_cases e : c = a
    · refine n_il (k := 7) (by decide +kernel) (List.mem_cons_of_mem _ (List.mem_cons_of_mem _ (List.mem_cons_of_mem _ (List.mem_cons_of_mem _ (List.mem_cons_of_mem _ (List.mem_cons_of_mem _ List.mem_cons_self)))))) ?_
      refine n_k (k := 3) (v := nI 3) (by decide +kernel) (by decide) ?_
      refine n_icF (c := .ge) (off := 31) (tg := 103) (by decide +kernel) (by unfold mj_go; decide) (nI_ge (show c < 3 by omega) (by omega)) ?_
      refine n_al (k := 0) (by decide +kernel) List.mem_cons_self ?_
      refine n_gf (ix := 83) (ci := 6) (k := 33) (by decide +kernel) (by decide +kernel) h99 h33 ?_
      refine n_il (k := 7) (by decide +kernel) (List.mem_cons_of_mem _ (List.mem_cons_of_mem _ (List.mem_cons_of_mem _ (List.mem_cons_of_mem _ (List.mem_cons_of_mem _ (List.mem_cons_of_mem _ List.mem_cons_self)))))) ?_
      refine n_il (k := 7) (by decide +kernel) (List.mem_cons_of_mem _ (List.mem_cons_of_mem _ (List.mem_cons_of_mem _ (List.mem_cons_of_mem _ (List.mem_cons_of_mem _ (List.mem_cons_of_mem _ List.mem_cons_self)))))) ?_
      refine n_iln (k := 2) (by decide +kernel) (List.mem_cons_of_mem _ (List.mem_cons_of_mem _ List.mem_cons_self)) ?_
      refine n_icF (c := .ne) (off := 9) (tg := 93) (by decide +kernel) (by unfold mj_go; decide) (fun h => h (by rw [e])) ?_
      refine n_il (k := 4) (by decide +kernel) (List.mem_cons_of_mem _ (List.mem_cons_of_mem _ (List.mem_cons_of_mem _ (List.mem_cons_of_mem _ List.mem_cons_self)))) ?_
      refine n_i2l (c := lN n) (by decide +kernel) (nI_l (by omega)) ?_
      refine n_goto (off := 6) (tg := 96) (by decide +kernel) (by unfold mj_go; decide) ?_
      rw [show lN n = LJ (bi_0 a n c) by unfold bi_0; rw [if_pos e]; exact LJ_nat.symm]
      exact fin
    · refine n_il (k := 7) (by decide +kernel) (List.mem_cons_of_mem _ (List.mem_cons_of_mem _ (List.mem_cons_of_mem _ (List.mem_cons_of_mem _ (List.mem_cons_of_mem _ (List.mem_cons_of_mem _ List.mem_cons_self)))))) ?_
      refine n_k (k := 3) (v := nI 3) (by decide +kernel) (by decide) ?_
      refine n_icF (c := .ge) (off := 31) (tg := 103) (by decide +kernel) (by unfold mj_go; decide) (nI_ge (show c < 3 by omega) (by omega)) ?_
      refine n_al (k := 0) (by decide +kernel) List.mem_cons_self ?_
      refine n_gf (ix := 83) (ci := 6) (k := 33) (by decide +kernel) (by decide +kernel) h99 h33 ?_
      refine n_il (k := 7) (by decide +kernel) (List.mem_cons_of_mem _ (List.mem_cons_of_mem _ (List.mem_cons_of_mem _ (List.mem_cons_of_mem _ (List.mem_cons_of_mem _ (List.mem_cons_of_mem _ List.mem_cons_self)))))) ?_
      refine n_il (k := 7) (by decide +kernel) (List.mem_cons_of_mem _ (List.mem_cons_of_mem _ (List.mem_cons_of_mem _ (List.mem_cons_of_mem _ (List.mem_cons_of_mem _ (List.mem_cons_of_mem _ List.mem_cons_self)))))) ?_
      refine n_iln (k := 2) (by decide +kernel) (List.mem_cons_of_mem _ (List.mem_cons_of_mem _ List.mem_cons_self)) ?_
      refine n_icT (c := .ne) (off := 9) (tg := 93) (by decide +kernel) (by unfold mj_go; decide) (fun h => e (by have := congrArg Int32.toInt h; rw [nI_toInt (by omega), nI_toInt (by omega)] at this; omega)) ?_
      refine n_ldl (ix := 335) (v := (-1)) (by decide +kernel) (by decide +kernel) ?_
      have eb : bi_0 a n c = -1 := by unfold bi_0; rw [if_neg e]
      rw [eb] at fin
      exact fin
theorem al_go (H : rr w0 r) (hal : als al a99 a114 a123 a124 a125) {port a b n : Nat} {best : Int} (ha : a < 3) (hn : n ≤ 99999) {x : List Nat} (hx5 : x.length ≤ 5) (h4 : ∀ q ∈ x, q < 5) (hQ : ∀ w2 v2 u2, rv E al w0 w2 → rp w2 x → ll E w2 a124 a125 v2 u2 → (∀ q, q < 3 → v2 q = bi_P r (bi_0 a n) x q) → nG E 85 260 132 [(0, .ref a99), (1, .int (nI port)), (2, .int (nI a)), (3, .int (nI b)), (4, .int (nI n)), (5, .long (LJ best))] [] w2 Q) :
    ∀ (m i : Nat) (w : va_W) (v u : Nat → Int), i + m = x.length → rv E al w0 w → rp w x → ll E w a124 a125 v u → (∀ q, q < 3 → v q = bi_P r (bi_0 a n) (x.drop m) q) → nG E 85 260 106 [(0, .ref a99), (1, .int (nI port)), (2, .int (nI a)), (3, .int (nI b)), (4, .int (nI n)), (5, .long (LJ best)), (7, .int (nI i))] [] w Q := by
  intro m
  induction m with
  | zero =>
    intro i w v u hi hv hp hl hu
    have e : i = x.length := by omega
    subst e
    obtain ⟨f99, h99, h14, h31, h33, h34⟩ := hal.m hv.1
    have hln := len_at hp hv.1 hx5 h99
    refine n_il (k := 7) (by decide +kernel) (List.mem_cons_of_mem _ (List.mem_cons_of_mem _ (List.mem_cons_of_mem _ (List.mem_cons_of_mem _ (List.mem_cons_of_mem _ (List.mem_cons_of_mem _ List.mem_cons_self)))))) ?_
    refine n_al (k := 0) (by decide +kernel) List.mem_cons_self ?_
    refine n_gf (ix := 329) (ci := 6) (k := 32) (by decide +kernel) (by decide +kernel) h99 hln ?_
    refine n_icT (c := .ge) (off := 20) (tg := 132) (by decide +kernel) (by unfold mj_go; decide) (nI_le (Nat.le_refl _) (by omega)) ?_
    exact fun LV hL => hQ w v u hv hp hl hu LV (fun q hq => hL q (by simp only [List.mem_cons, List.not_mem_nil, or_false] at hq ⊢; rcases hq with rfl | rfl | rfl | rfl | rfl | rfl <;> simp))
  | succ m ih =>
    intro i w v u hi hv hp hl hu
    obtain ⟨f99, h99, h14, h31, h33, h34⟩ := hal.m hv.1
    have hln := len_at hp hv.1 hx5 h99
    have em : m < x.length := by omega
    have d1 : x.drop m = x[m] :: x.drop (m + 1) := List.drop_eq_getElem_cons em
    have eb : rd_at x i = x[m] := by
      unfold rd_at
      rw [show x.length - 1 - i = m by omega, List.getD_eq_getElem?_getD, List.getElem?_eq_getElem em]
      rfl
    have vb := hp.2 i (by omega)
    rw [eb] at vb
    have hb5 := h4 _ (List.getElem_mem em)
    obtain ⟨aw, ew, -⟩ := hv.1.row al_123
    have ea : aw = a123 := by
      have := hal.2.2.1
      rw [← hv.1.1, List.getElem?_map, ew] at this
      cases this
      rfl
    subst ea
    rw [jS.row ⟨_, _, _, _, ew⟩] at vb
    have hV : bi_V v := fun c hc => by
      have := bi_PV (r := r) (a := a) (n := n) H.2 ha hn (u := x.drop (m + 1)) (by simp; omega) c hc
      rw [hu c hc]
      exact this
    refine n_il (k := 7) (by decide +kernel) (List.mem_cons_of_mem _ (List.mem_cons_of_mem _ (List.mem_cons_of_mem _ (List.mem_cons_of_mem _ (List.mem_cons_of_mem _ (List.mem_cons_of_mem _ List.mem_cons_self)))))) ?_
    refine n_al (k := 0) (by decide +kernel) List.mem_cons_self ?_
    refine n_gf (ix := 329) (ci := 6) (k := 32) (by decide +kernel) (by decide +kernel) h99 hln ?_
    refine n_icF (c := .ge) (off := 20) (tg := 132) (by decide +kernel) (by unfold mj_go; decide) (nI_ge (show i < x.length by omega) (by omega)) ?_
    refine n_al (k := 0) (by decide +kernel) List.mem_cons_self ?_
    refine n_al (k := 0) (by decide +kernel) List.mem_cons_self ?_
    refine n_gf (ix := 80) (ci := 6) (k := 31) (by decide +kernel) (by decide +kernel) h99 h31 ?_
    refine n_il (k := 7) (by decide +kernel) (List.mem_cons_of_mem _ (List.mem_cons_of_mem _ (List.mem_cons_of_mem _ (List.mem_cons_of_mem _ (List.mem_cons_of_mem _ (List.mem_cons_of_mem _ List.mem_cons_self)))))) ?_
    refine n_ial (x := x[m]) (by decide +kernel) ew (by omega) (by decide) vb ?_
    refine n_cvN (ix := 343) (y2 := 263) (as := [.int (nI x[m])]) (rest := []) (by decide +kernel) (by decide +kernel) rfl ⟨by decide, rfl, (by show 2 ≤ _; decide +kernel), by decide +kernel, (by show 0 ≤ 8; decide)⟩ h99 ⟨by decide +kernel, by decide⟩ ((cg_mj H hal hb5 hV hv hl).weaken (by decide) (Nat.le_refl _) (Nat.le_refl _) (fun v w h => h)) (fun w2 hR => ?_)
    obtain ⟨v2, f2, v3, u3, l3, e3⟩ := hR
    refine n_inc (k := 7) (c := 1) (v2 := nI (i + 1)) (by decide +kernel) (by decide +kernel) (List.mem_cons_of_mem _ (List.mem_cons_of_mem _ (List.mem_cons_of_mem _ (List.mem_cons_of_mem _ (List.mem_cons_of_mem _ (List.mem_cons_of_mem _ List.mem_cons_self)))))) (nI_1 i) ?_
    show nG E 85 260 129 [(7, .int (nI (i + 1))), (0, .ref a99), (1, .int (nI port)), (2, .int (nI a)), (3, .int (nI b)), (4, .int (nI n)), (5, .long (LJ best))] [] w2 _
    refine n_goto (off := (-23)) (tg := 106) (by decide +kernel) (by unfold mj_go; decide) ?_
    exact fun LV hL => ih (i + 1) w2 v3 u3 (by omega) v2 (rp_fr hp f2) l3 (fun q hq => by
      rw [e3 q hq, d1]
      exact bi_c_congr hu hq (m := 3) (by omega)) LV (fun q hq => hL q (by simp only [List.mem_cons, List.not_mem_nil, or_false] at hq ⊢; rcases hq with rfl | rfl | rfl | rfl | rfl | rfl | rfl <;> simp))
theorem br_go (hf : E.2.2.2.1.category = 1) (hT : ∀ σ : List Int, aTb E σ aTabs) (H : re w0 S) (H2 : rr w0 r) (hal : als al a99 a114 a123 a124 a125) {to a b n : Nat} (hto : 1 ≤ to ∧ to ≤ 4) (ha : a < 3) (hb : b < 3) (hn : n ≤ 99999) {FIN : Int} (hQ : ∀ w2, rv E al w0 w2 → ∀ z : Int32, z.toInt = (if FIN < 0 then -3 else FIN) → Q (some (.int z)) w2) : ∀ (L : List (List Nat)) (best : Int) (w : va_W), rv E al w0 w → -1 ≤ best ∧ best ≤ 24299757 →
    ((∃ x, (x ≠ to ∧ x < 5) ∧ rp w [x] ∧ L = bw_rs S to [x] 5) ∨ ∃ t, (t ≠ [] ∧ (∀ q ∈ t, q ≠ to ∧ q < 5) ∧ t.length ≤ 4) ∧ rp w (to :: t) ∧ L = bw_rs S to t (4 - to)) → L.foldl (bg_m r (bg_0 a n) b) best = FIN → nG E 85 260 58 [(0, .ref a99), (1, .int (nI to)), (2, .int (nI a)), (3, .int (nI b)), (4, .int (nI n)), (5, .long (LJ best))] [] w Q := by
  intro L
  induction L with
  | nil =>
    intro best w hv hbb hp hF
    have hF : best = FIN := hF
    subst hF
    obtain ⟨f99, h99, h14, h31, h33, h34⟩ := hal.m hv.1
    refine n_al (k := 0) (by decide +kernel) List.mem_cons_self ?_
    refine n_iln (k := 1) (by decide +kernel) (List.mem_cons_of_mem _ List.mem_cons_self) ?_
    refine n_cvW (ix := 340) (y2 := 261) (as := [.int (nI to)]) (rest := []) (R := fun x w2 => ∃ z : Int32, x = .int z ∧ rv E al w0 w2 ∧ ((z.toInt = 0 ∧ ([] : List (List Nat)) = []) ∨ (z.toInt = 1 ∧ ∃ u8 us8, ([] : List (List Nat)) = u8 :: us8 ∧ rp w2 u8))) (by decide +kernel) (by decide +kernel) rfl ⟨by decide, rfl, (by show 2 ≤ _; decide +kernel), by decide +kernel, (by show 0 ≤ 8; decide)⟩ h99 ⟨by decide +kernel, by decide⟩ ((nw_mj hf hT H (by omega) hv (w1 := w) ⟨fun k _ => rfl, fun k => rfl⟩ hp ⟨_, _, rfl, ⟨a99, hal.1, rfl⟩, _, _, rfl, ⟨_, rfl, by rw [nI_toInt (by omega)]; exact aV.k _⟩, rfl⟩).weaken (by decide) (Nat.le_refl _) (Nat.le_refl _) (fun v w h => by
      obtain ⟨z, e1, e2, -, e4⟩ := h
      exact ⟨_, e1, z, rfl, e2, e4⟩)) (fun x w2 hR => ?_)
    obtain ⟨z, rfl, v2, hz⟩ := hR
    rcases hz with ⟨hz, -⟩ | ⟨-, u, us, hu, -⟩
    · have ez : z = nI 0 := Int32.toInt_inj.mp (by rw [hz]; rfl)
      subst ez
      refine n_ifT (c := .eq) (off := 97) (tg := 160) (by decide +kernel) (by unfold mj_go; decide) rfl ?_
      refine n_ll (k := 5) (by decide +kernel) (List.mem_cons_of_mem _ (List.mem_cons_of_mem _ (List.mem_cons_of_mem _ (List.mem_cons_of_mem _ (List.mem_cons_of_mem _ List.mem_cons_self))))) ?_
      refine n_lk (k := 0) (v := lN 0) (by decide +kernel) rfl ?_
      refine n_lcmp (c := lg_cmp (LJ best) (lN 0)) (by decide +kernel) rfl ?_
      by_cases ng : best < 0
      · refine n_ifF (c := .ge) (off := 8) (tg := 172) (by decide +kernel) (by unfold mj_go; decide) (fun h => by have := (LJ_le (x := 0) (by decide) ⟨hbb.1, by omega⟩).mp ((lg_cmp_ge _ _).mp h); omega) ?_
        refine n_bi (k := (-3)) (v := Int32.ofInt (-3)) (by decide +kernel) (by decide) ?_
        refine n_goto (off := 6) (tg := 175) (by decide +kernel) (by unfold mj_go; decide) ?_
        exact n_reti (ty := .int) (by decide +kernel) (by decide +kernel) rfl (hQ w2 v2 _ (by rw [if_pos ng]; decide))
      · refine n_ifT (c := .ge) (off := 8) (tg := 172) (by decide +kernel) (by unfold mj_go; decide) ((lg_cmp_ge _ _).mpr ((LJ_le (x := 0) (by decide) ⟨hbb.1, by omega⟩).mpr (by omega))) ?_
        refine n_ll (k := 5) (by decide +kernel) (List.mem_cons_of_mem _ (List.mem_cons_of_mem _ (List.mem_cons_of_mem _ (List.mem_cons_of_mem _ (List.mem_cons_of_mem _ List.mem_cons_self))))) ?_
        refine n_l2i (c := (LJ best).toInt32) (by decide +kernel) rfl ?_
        refine n_reti (ty := .int) (by decide +kernel) (by decide +kernel) rfl (hQ w2 v2 _ ?_)
        rw [if_neg ng]
        obtain ⟨k, rfl⟩ : ∃ k : Nat, best = k := ⟨best.toNat, by omega⟩
        rw [LJ_nat, n_lNi, nI_toInt (by omega)]
    · cases hu
  | cons u us ih =>
    intro best w hv hbb hp hF
    have more : ∃ t, u = to :: t ∧ (t ≠ [] ∧ (∀ q ∈ t, q ≠ to ∧ q < 5) ∧ t.length ≤ 4) ∧ bw_rs S to t (4 - to) = us := by
      rcases hp with ⟨x, hx, -, e⟩ | ⟨t, ⟨t0, t1, t2⟩, -, e⟩
      · exact bw_more (by omega) [x] 5 u us (fun q hq => by rw [List.mem_singleton.mp hq]; exact hx) (by simp) (by omega) e.symm
      · exact bw_more (by omega) t (4 - to) u us t1 (by omega) (by omega) e.symm
    obtain ⟨t, rfl, ⟨t0, t1, t2⟩, et⟩ := more
    obtain ⟨f99, h99, h14, h31, h33, h34⟩ := hal.m hv.1
    refine n_al (k := 0) (by decide +kernel) List.mem_cons_self ?_
    refine n_iln (k := 1) (by decide +kernel) (List.mem_cons_of_mem _ List.mem_cons_self) ?_
    refine n_cvW (ix := 340) (y2 := 261) (as := [.int (nI to)]) (rest := []) (R := fun x w2 => ∃ z : Int32, x = .int z ∧ rv E al w0 w2 ∧ ((z.toInt = 0 ∧ (to :: t) :: us = []) ∨ (z.toInt = 1 ∧ ∃ u8 us8, (to :: t) :: us = u8 :: us8 ∧ rp w2 u8))) (by decide +kernel) (by decide +kernel) rfl ⟨by decide, rfl, (by show 2 ≤ _; decide +kernel), by decide +kernel, (by show 0 ≤ 8; decide)⟩ h99 ⟨by decide +kernel, by decide⟩ ((nw_mj hf hT H (by omega) hv (w1 := w) ⟨fun k _ => rfl, fun k => rfl⟩ hp ⟨_, _, rfl, ⟨a99, hal.1, rfl⟩, _, _, rfl, ⟨_, rfl, by rw [nI_toInt (by omega)]; exact aV.k _⟩, rfl⟩).weaken (by decide) (Nat.le_refl _) (Nat.le_refl _) (fun v w h => by
      obtain ⟨z, e1, e2, -, e4⟩ := h
      exact ⟨_, e1, z, rfl, e2, e4⟩)) (fun x w2 hR => ?_)
    obtain ⟨z, rfl, v2, hz⟩ := hR
    rcases hz with ⟨-, hu⟩ | ⟨hz, u, us2, hu, p2⟩
    · cases hu
    · injection hu with hu1 hu2
      subst hu1
      have ez : z = nI 1 := Int32.toInt_inj.mp (by rw [hz]; rfl)
      subst ez
      have el : (to :: t).length = t.length + 1 := rfl
      have h4 : ∀ q ∈ to :: t, q < 5 := fun q hq => (List.mem_cons.mp hq).elim (fun e => by omega) (fun h => (t1 q h).2)
      obtain ⟨v9, u9, l9⟩ := ll_any v2 hal
      refine n_ifF (c := .eq) (off := 97) (tg := 160) (by decide +kernel) (by unfold mj_go; decide) (show ¬ nI 1 = 0 by decide) ?_
      refine n_k (k := 0) (v := nI 0) (by decide +kernel) (by decide) ?_
      refine n_is (k := 7) (by decide +kernel) (by decide +kernel) ?_
      show nG E 85 260 69 [(7, .int (nI 0)), (0, .ref a99), (1, .int (nI to)), (2, .int (nI a)), (3, .int (nI b)), (4, .int (nI n)), (5, .long (LJ best))] [] w2 _
      have g1 := in_go (Q := Q) (w0 := w0) (w1 := w2) (port := to) (b := b) (best := best) hal ha hn (fun w3 v3 u3 r3 f3 l3 e3 => ?_) 3 0 w2 v9 u9 (by omega) v2 (fun _ _ _ => rfl) l9 (fun q hq => absurd hq (by omega))
      · exact fun LV hL => g1 LV (fun q hq => hL q (by simp only [List.mem_cons, List.not_mem_nil, or_false] at hq ⊢; rcases hq with rfl | rfl | rfl | rfl | rfl | rfl | rfl <;> simp))
      · skip
        refine n_k (k := 0) (v := nI 0) (by decide +kernel) (by decide) ?_
        refine n_is (k := 7) (by decide +kernel) (by decide +kernel) ?_
        show nG E 85 260 106 [(7, .int (nI 0)), (0, .ref a99), (1, .int (nI to)), (2, .int (nI a)), (3, .int (nI b)), (4, .int (nI n)), (5, .long (LJ best))] [] w3 _
        have g2 := al_go (Q := Q) (w0 := w0) (port := to) (b := b) (best := best) H2 hal ha hn (x := to :: t) (by omega) h4 (fun w4 v4 u4 r4 p4 l4 e4 => ?_) (to :: t).length 0 w3 v3 u3 (by omega) r3 (rp_fr p2 f3) l3 (fun q hq => by rw [List.drop_length]; exact e3 q hq)
        · exact fun LV hL => g2 LV (fun q hq => hL q (by simp only [List.mem_cons, List.not_mem_nil, or_false] at hq ⊢; rcases hq with rfl | rfl | rfl | rfl | rfl | rfl | rfl <;> simp))
        · skip
          have hv := r4
          obtain ⟨f99, h99, h14, h31, h33, h34⟩ := hal.m hv.1
          have ev : v4 b = (bg_A r (bg_0 a n) (to :: t) b : Int) := (e4 b hb).trans (bi_all ha (by simp) hb)
          have bV := bi_PV (r := r) (a := a) (n := n) H2.2 ha hn (u := to :: t) (by omega) b hb
          rw [← e4 b hb] at bV
          have nx : ∀ k : Int, k = max best (v4 b) → nG E 85 260 58 [(0, .ref a99), (1, .int (nI to)), (2, .int (nI a)), (3, .int (nI b)), (4, .int (nI n)), (5, .long (LJ k))] [] w4 Q := fun k hk => ih k w4 r4 (by omega) (Or.inr ⟨t, ⟨t0, t1, t2⟩, p4, et.symm⟩) (by rw [← hF, hk, ev]; rfl)
          refine n_al (k := 0) (by decide +kernel) List.mem_cons_self ?_
          refine n_gf (ix := 83) (ci := 6) (k := 33) (by decide +kernel) (by decide +kernel) h99 h33 ?_
          refine n_iln (k := 3) (by decide +kernel) (List.mem_cons_of_mem _ (List.mem_cons_of_mem _ (List.mem_cons_of_mem _ List.mem_cons_self))) ?_
          refine n_lal1 (by decide +kernel) l4 hb ?_
          refine n_ll (k := 5) (by decide +kernel) (List.mem_cons_of_mem _ (List.mem_cons_of_mem _ (List.mem_cons_of_mem _ (List.mem_cons_of_mem _ (List.mem_cons_of_mem _ List.mem_cons_self))))) ?_
          refine n_lcmp (c := lg_cmp (LJ (v4 b)) (LJ best)) (by decide +kernel) rfl ?_
          by_cases le : v4 b ≤ best
          · refine n_ifT (c := .le) (off := 12) (tg := 153) (by decide +kernel) (by unfold mj_go; decide) ((lg_cmp_le _ _).mpr ((LJ_le ⟨bV.1, by omega⟩ ⟨hbb.1, by omega⟩).mpr le)) ?_
            refine n_ll (k := 5) (by decide +kernel) (List.mem_cons_of_mem _ (List.mem_cons_of_mem _ (List.mem_cons_of_mem _ (List.mem_cons_of_mem _ (List.mem_cons_of_mem _ List.mem_cons_self))))) ?_
            refine n_ls (k := 5) (by decide +kernel) (by decide +kernel) ?_
            show nG E 85 260 157 [(5, .long (LJ best)), (0, .ref a99), (1, .int (nI to)), (2, .int (nI a)), (3, .int (nI b)), (4, .int (nI n))] [] w4 _
            refine n_goto (off := (-99)) (tg := 58) (by decide +kernel) (by unfold mj_go; decide) ?_
            exact fun LV hL => nx best (by omega) LV (fun q hq => hL q (by simp only [List.mem_cons, List.not_mem_nil, or_false] at hq ⊢; rcases hq with rfl | rfl | rfl | rfl | rfl | rfl <;> simp))
          · refine n_ifF (c := .le) (off := 12) (tg := 153) (by decide +kernel) (by unfold mj_go; decide) (fun h => le ((LJ_le ⟨bV.1, by omega⟩ ⟨hbb.1, by omega⟩).mp ((lg_cmp_le _ _).mp h))) ?_
            refine n_al (k := 0) (by decide +kernel) List.mem_cons_self ?_
            refine n_gf (ix := 83) (ci := 6) (k := 33) (by decide +kernel) (by decide +kernel) h99 h33 ?_
            refine n_iln (k := 3) (by decide +kernel) (List.mem_cons_of_mem _ (List.mem_cons_of_mem _ (List.mem_cons_of_mem _ List.mem_cons_self))) ?_
            refine n_lal1 (by decide +kernel) l4 hb ?_
            refine n_goto (off := 5) (tg := 155) (by decide +kernel) (by unfold mj_go; decide) ?_
            refine n_ls (k := 5) (by decide +kernel) (by decide +kernel) ?_
            show nG E 85 260 157 [(5, .long (LJ (v4 b))), (0, .ref a99), (1, .int (nI to)), (2, .int (nI a)), (3, .int (nI b)), (4, .int (nI n))] [] w4 _
            refine n_goto (off := (-99)) (tg := 58) (by decide +kernel) (by unfold mj_go; decide) ?_
            exact fun LV hL => nx (v4 b) (by omega) LV (fun q hq => hL q (by simp only [List.mem_cons, List.not_mem_nil, or_false] at hq ⊢; rcases hq with rfl | rfl | rfl | rfl | rfl | rfl <;> simp))
/-- brought, the reference -/
theorem bgr_mj (hf : E.2.2.2.1.category = 1) (hT : ∀ σ : List Int, aTb E σ aTabs) (a5 : aWd E al aLay w) (a6 : aRs aRules w) (a7 : jJ0 w) (H : re w S) (H2 : rr w r) {port a b n : Int} (x1 : aI0 ≤ port ∧ port ≤ aI1) (x2 : aI0 ≤ a ∧ a ≤ aI1) (x3 : aI0 ≤ b ∧ b ≤ aI1) (x4 : aI0 ≤ n ∧ n ≤ aI1) {AS : List Value} (hA : gL E al [] [.inr (0, 99), .inl (ae_k port), .inl (ae_k a), .inl (ae_k b), .inl (ae_k n)] AS) :
    MJ E 85 0 0 (mj_in0 260 AS w) (fun v w2 => ∃ z : Int32, v = some (.int z) ∧ z.toInt = bg_R S r port a b n ∧ rv E al w w2) := by
  have hv0 : rv E al w w := ⟨a5, a6, a7, hD.refl, fun k _ _ _ _ => rfl⟩
  refine hG.in0 hf (d := 85) (as := [.inr (0, 99), .inl (ae_k port), .inl (ae_k a), .inl (ae_k b), .inl (ae_k n)]) ?_ hA
  show hG E al 85 260 0 [(0, .inr (0, 99)), (1, .inl (ae_k port)), (2, .inl (ae_k a)), (3, .inl (ae_k b)), (4, .inl (ae_k n))] [] [] w _
  by_cases c0 : port ≤ 0
  · refine ky_go hf hT a5 (by decide) (ρ := [port, a, b, n]) br_0 ⟨x1, x2, x3, x4, trivial⟩ (aFs.cons rfl (by simp only [ae_ev, ae_el, ae_s, ae_k, List.getD_cons_zero, List.getD_cons_succ]; omega) aFs.nil) aHh.nil (by rfl) (by rfl) (lEr (lEi (ev_s rfl) (lEi (ev_s rfl) (lEi (ev_s rfl) (lEi (ev_s rfl) lE0))))) sE0 (lvk2 := []) lE0 (stk2 := [.inl (ae_k ((-1)))]) (sEi ae_ev_k sE0) ?_
    exact hp_retI (pc := 40) (ty := .int) (x := -1) (by decide) (by decide +kernel) (by decide +kernel) (aV.k _) (fun n hn => rfl) (fun z hz => ⟨z, rfl, by rw [hz]; unfold bg_R; rw [if_neg (by omega)], hv0⟩)
  by_cases c1 : 5 ≤ port
  · refine ky_go hf hT a5 (by decide) (ρ := [port, a, b, n]) br_1 ⟨x1, x2, x3, x4, trivial⟩ (aFs.cons rfl (by simp only [ae_ev, ae_el, ae_s, ae_k, List.getD_cons_zero, List.getD_cons_succ]; omega) aFs.nil) aHh.nil (by rfl) (by rfl) (lEr (lEi (ev_s rfl) (lEi (ev_s rfl) (lEi (ev_s rfl) (lEi (ev_s rfl) lE0))))) sE0 (lvk2 := []) lE0 (stk2 := [.inl (ae_k ((-1)))]) (sEi ae_ev_k sE0) ?_
    exact hp_retI (pc := 40) (ty := .int) (x := -1) (by decide) (by decide +kernel) (by decide +kernel) (aV.k _) (fun n hn => rfl) (fun z hz => ⟨z, rfl, by rw [hz]; unfold bg_R; rw [if_neg (by omega)], hv0⟩)
  by_cases c2 : a ≤ -1
  · refine ky_go hf hT a5 (by decide) (ρ := [port, a, b, n]) br_2 ⟨⟨by omega, by omega⟩, x2, x3, x4, trivial⟩ (aFs.cons rfl (by simp only [ae_ev, ae_el, ae_s, ae_k, List.getD_cons_zero, List.getD_cons_succ]; omega) aFs.nil) aHh.nil (by rfl) (by rfl) (lEr (lEi (ev_s rfl) (lEi (ev_s rfl) (lEi (ev_s rfl) (lEi (ev_s rfl) lE0))))) sE0 (lvk2 := []) lE0 (stk2 := [.inl (ae_k ((-1)))]) (sEi ae_ev_k sE0) ?_
    exact hp_retI (pc := 40) (ty := .int) (x := -1) (by decide) (by decide +kernel) (by decide +kernel) (aV.k _) (fun n hn => rfl) (fun z hz => ⟨z, rfl, by rw [hz]; unfold bg_R; rw [if_neg (by omega)], hv0⟩)
  by_cases c3 : 3 ≤ a
  · refine ky_go hf hT a5 (by decide) (ρ := [port, a, b, n]) br_3 ⟨⟨by omega, by omega⟩, x2, x3, x4, trivial⟩ (aFs.cons rfl (by simp only [ae_ev, ae_el, ae_s, ae_k, List.getD_cons_zero, List.getD_cons_succ]; omega) aFs.nil) aHh.nil (by rfl) (by rfl) (lEr (lEi (ev_s rfl) (lEi (ev_s rfl) (lEi (ev_s rfl) (lEi (ev_s rfl) lE0))))) sE0 (lvk2 := []) lE0 (stk2 := [.inl (ae_k ((-1)))]) (sEi ae_ev_k sE0) ?_
    exact hp_retI (pc := 40) (ty := .int) (x := -1) (by decide) (by decide +kernel) (by decide +kernel) (aV.k _) (fun n hn => rfl) (fun z hz => ⟨z, rfl, by rw [hz]; unfold bg_R; rw [if_neg (by omega)], hv0⟩)
  by_cases c4 : b ≤ -1
  · refine ky_go hf hT a5 (by decide) (ρ := [port, a, b, n]) br_4 ⟨⟨by omega, by omega⟩, ⟨by omega, by omega⟩, x3, x4, trivial⟩ (aFs.cons rfl (by simp only [ae_ev, ae_el, ae_s, ae_k, List.getD_cons_zero, List.getD_cons_succ]; omega) aFs.nil) aHh.nil (by rfl) (by rfl) (lEr (lEi (ev_s rfl) (lEi (ev_s rfl) (lEi (ev_s rfl) (lEi (ev_s rfl) lE0))))) sE0 (lvk2 := []) lE0 (stk2 := [.inl (ae_k ((-1)))]) (sEi ae_ev_k sE0) ?_
    exact hp_retI (pc := 40) (ty := .int) (x := -1) (by decide) (by decide +kernel) (by decide +kernel) (aV.k _) (fun n hn => rfl) (fun z hz => ⟨z, rfl, by rw [hz]; unfold bg_R; rw [if_neg (by omega)], hv0⟩)
  by_cases c5 : 3 ≤ b
  · refine ky_go hf hT a5 (by decide) (ρ := [port, a, b, n]) br_5 ⟨⟨by omega, by omega⟩, ⟨by omega, by omega⟩, x3, x4, trivial⟩ (aFs.cons rfl (by simp only [ae_ev, ae_el, ae_s, ae_k, List.getD_cons_zero, List.getD_cons_succ]; omega) aFs.nil) aHh.nil (by rfl) (by rfl) (lEr (lEi (ev_s rfl) (lEi (ev_s rfl) (lEi (ev_s rfl) (lEi (ev_s rfl) lE0))))) sE0 (lvk2 := []) lE0 (stk2 := [.inl (ae_k ((-1)))]) (sEi ae_ev_k sE0) ?_
    exact hp_retI (pc := 40) (ty := .int) (x := -1) (by decide) (by decide +kernel) (by decide +kernel) (aV.k _) (fun n hn => rfl) (fun z hz => ⟨z, rfl, by rw [hz]; unfold bg_R; rw [if_neg (by omega)], hv0⟩)
  by_cases c6 : n ≤ 0
  · refine ky_go hf hT a5 (by decide) (ρ := [port, a, b, n]) br_6 ⟨⟨by omega, by omega⟩, ⟨by omega, by omega⟩, ⟨by omega, by omega⟩, x4, trivial⟩ (aFs.cons rfl (by simp only [ae_ev, ae_el, ae_s, ae_k, List.getD_cons_zero, List.getD_cons_succ]; omega) aFs.nil) aHh.nil (by rfl) (by rfl) (lEr (lEi (ev_s rfl) (lEi (ev_s rfl) (lEi (ev_s rfl) (lEi (ev_s rfl) lE0))))) sE0 (lvk2 := []) lE0 (stk2 := [.inl (ae_k ((-1)))]) (sEi ae_ev_k sE0) ?_
    exact hp_retI (pc := 40) (ty := .int) (x := -1) (by decide) (by decide +kernel) (by decide +kernel) (aV.k _) (fun n hn => rfl) (fun z hz => ⟨z, rfl, by rw [hz]; unfold bg_R; rw [if_neg (by omega)], hv0⟩)
  by_cases c7 : 100000 ≤ n
  · refine ky_go hf hT a5 (by decide) (ρ := [port, a, b, n]) br_7 ⟨⟨by omega, by omega⟩, ⟨by omega, by omega⟩, ⟨by omega, by omega⟩, x4, trivial⟩ (aFs.cons rfl (by simp only [ae_ev, ae_el, ae_s, ae_k, List.getD_cons_zero, List.getD_cons_succ]; omega) aFs.nil) aHh.nil (by rfl) (by rfl) (lEr (lEi (ev_s rfl) (lEi (ev_s rfl) (lEi (ev_s rfl) (lEi (ev_s rfl) lE0))))) sE0 (lvk2 := []) lE0 (stk2 := [.inl (ae_k ((-1)))]) (sEi ae_ev_k sE0) ?_
    exact hp_retI (pc := 40) (ty := .int) (x := -1) (by decide) (by decide +kernel) (by decide +kernel) (aV.k _) (fun n hn => rfl) (fun z hz => ⟨z, rfl, by rw [hz]; unfold bg_R; rw [if_neg (by omega)], hv0⟩)
  obtain ⟨p, rfl⟩ : ∃ p : Nat, port = p := ⟨port.toNat, by omega⟩
  obtain ⟨ca, rfl⟩ : ∃ p : Nat, a = p := ⟨a.toNat, by omega⟩
  obtain ⟨cb, rfl⟩ : ∃ p : Nat, b = p := ⟨b.toNat, by omega⟩
  obtain ⟨k, rfl⟩ : ∃ k : Nat, n = k := ⟨n.toNat, by omega⟩
  have ans : bg_R S r p ca cb k = bg_T S r p ca cb k := by
    unfold bg_R
    rw [if_pos (by omega), Int.toNat_natCast, Int.toNat_natCast, Int.toNat_natCast, Int.toNat_natCast]
  rw [ans]
  refine ky_go hf hT a5 (by decide) (ρ := [(p : Int), (ca : Int), (cb : Int), (k : Int)]) br_ok ⟨⟨by omega, by omega⟩, ⟨by omega, by omega⟩, ⟨by omega, by omega⟩, ⟨by omega, by omega⟩, trivial⟩ aFs.nil aHh.nil (by rfl) (by rfl) (lEr (lEi (ev_s rfl) (lEi (ev_s rfl) (lEi (ev_s rfl) (lEi (ev_s rfl) lE0))))) sE0 (lvk2 := [(0, .inr (0, 99)), (1, .inl (ae_k ((p : Int)))), (2, .inl (ae_k ((ca : Int)))), (3, .inl (ae_k ((cb : Int)))), (4, .inl (ae_k ((k : Int))))]) (lEr (lEi (ev_s rfl) (lEi (ev_s rfl) (lEi (ev_s rfl) (lEi (ev_s rfl) lE0))))) (stk2 := []) sE0 ?_
  obtain ⟨fs, hl99, k1, k2, k3, k4⟩ := al_99
  obtain ⟨a99, f99, g99, m99, y99⟩ := wd_obj a5 hl99
  obtain ⟨i1, p1, a114, m114, rfl⟩ := y99 14 _ k1
  obtain ⟨i2, p2, a123, m123, rfl⟩ := y99 31 _ k2
  obtain ⟨i3, p3, a124, m124, rfl⟩ := y99 33 _ k3
  obtain ⟨i4, p4, a125, m125, rfl⟩ := y99 34 _ k4
  have hal : als al a99 a114 a123 a124 a125 := ⟨m99, m114, m123, m124, m125⟩
  intro LV ST h1 h2
  have h2 : ST = [] := h2
  subst h2
  obtain ⟨q0, t0, b0, g0, rfl⟩ := h1 (0, .inr (0, 99)) (by simp)
  obtain ⟨q1, t1, z1, rfl, e1⟩ := h1 (1, .inl (ae_k (p : Int))) (by simp)
  obtain ⟨q2, t2, z2, rfl, e2⟩ := h1 (2, .inl (ae_k (ca : Int))) (by simp)
  obtain ⟨q3, t3, z3, rfl, e3⟩ := h1 (3, .inl (ae_k (cb : Int))) (by simp)
  obtain ⟨q4, t4, z4, rfl, e4⟩ := h1 (4, .inl (ae_k (k : Int))) (by simp)
  rw [m99] at g0
  cases g0
  have n1 : z1 = nI p := Int32.toInt_inj.mp (by rw [e1.of_k, nI_toInt (by omega)])
  have n2 : z2 = nI ca := Int32.toInt_inj.mp (by rw [e2.of_k, nI_toInt (by omega)])
  have n3 : z3 = nI cb := Int32.toInt_inj.mp (by rw [e3.of_k, nI_toInt (by omega)])
  have n4 : z4 = nI k := Int32.toInt_inj.mp (by rw [e4.of_k, nI_toInt (by omega)])
  subst n1
  subst n2
  subst n3
  subst n4
  have hv := hv0
  have main : nG E 85 260 41 [(0, .ref a99), (1, .int (nI p)), (2, .int (nI ca)), (3, .int (nI cb)), (4, .int (nI k))] [] w (fun v w2 => ∃ z : Int32, v = some (.int z) ∧ z.toInt = bg_T S r p ca cb k ∧ rv E al w w2) := by
    obtain ⟨f99, h99, h14, h31, h33, h34⟩ := hal.m hv.1
    refine n_ldl (ix := 335) (v := (-1)) (by decide +kernel) (by decide +kernel) ?_
    refine n_ls (k := 5) (by decide +kernel) (by decide +kernel) ?_
    show nG E 85 260 46 [(5, .long (Int64.ofInt (-1))), (0, .ref a99), (1, .int (nI p)), (2, .int (nI ca)), (3, .int (nI cb)), (4, .int (nI k))] [] w _
    refine n_al (k := 0) (by decide +kernel) (List.mem_cons_of_mem _ List.mem_cons_self) ?_
    refine n_gf (ix := 80) (ci := 6) (k := 31) (by decide +kernel) (by decide +kernel) h99 h31 ?_
    refine n_k (k := 0) (v := nI 0) (by decide +kernel) (by decide) ?_
    refine n_k (k := 0) (v := nI 0) (by decide +kernel) (by decide) ?_
    refine n_way0 (by decide +kernel) hv hal.2.2.1 (fun w2 v2 j2 f2 => ?_)
    have h992 : w2[99]? = some (a99, .inr (6, f99)) := (f2 99 (by decide)).trans h99
    refine n_al (k := 0) (by decide +kernel) (List.mem_cons_of_mem _ List.mem_cons_self) ?_
    refine n_k (k := 1) (v := nI 1) (by decide +kernel) (by decide) ?_
    refine n_len1 (ix := 329) (by decide +kernel) (by decide +kernel) v2 h992 (fun w3 v3 j3 f3 => ?_)
    have go := br_go (Q := fun v w2 => ∃ z : Int32, v = some (.int z) ∧ z.toInt = bg_T S r p ca cb k ∧ rv E al w w2) hf hT H H2 hal (to := p) (a := ca) (b := cb) (n := k) ⟨by omega, by omega⟩ (by omega) (by omega) (by omega) (FIN := (bw_rs S p [0] 5).foldl (bg_m r (bg_0 ca k) cb) (-1)) (fun w4 v4 z hz => ⟨z, rfl, ?_, v4⟩) (bw_rs S p [0] 5) (-1) w3 v3 (by decide) (Or.inl ⟨0, ⟨by omega, by omega⟩, ⟨j3, fun i hi => ?_⟩, rfl⟩) rfl
    · exact fun LV hL => go LV (fun q hq => hL q (by
        simp only [List.mem_cons, List.not_mem_nil, or_false] at hq ⊢
        rcases hq with rfl | rfl | rfl | rfl | rfl | rfl <;> simp [LJ]))
    · rw [hz, bg_fin]
      show (rd_fr S (bw_ws S p 4) 0 [] 5 ++ []).foldl (bg_m r (bg_0 ca k) cb) (-3) = (if 0 = p then [[0]] else rd_fr S (bw_ws S p 4) 0 [] 5).foldl (bg_m r (bg_0 ca k) cb) (-3)
      rw [List.append_nil, if_neg (by omega)]
    · have e : i = 0 := by
        have : i < 1 := hi
        omega
      subst e
      rw [jS.at (f3 123 (by decide))]
      exact j2
  exact main LV (fun q hq => by
    simp only [List.mem_cons, List.not_mem_nil, or_false] at hq
    rcases hq with rfl | rfl | rfl | rfl | rfl
    · exact t0
    · exact t1
    · exact t2
    · exact t3
    · exact t4)
end BH
