/-! THE READER, by hand: emit (246) -/
def em_lv : List (Nat × av) := [(0, .inr (0, 99)), (1, .inl (ae_s 0))]
def em_K (x : Int) : List (Nat × av) := [(0, .inr (0, 99)), (1, .inl (ae_k x))]
def em_P1 : aPc := (0, [aF] ++ rEnv 5, [] ++ rFs 5 1, [] ++ rH 1, em_lv, [])
def em_B1 : List aCut := [(9, [aF] ++ rEnv 5, [] ++ rFs 5 1, em_lv, [.inl (ae_s 0), .inl (ae_s 7), .inr (0, 120)], [] ++ rH 1, [], mMU)]
def em_P2 : aPc := (10, [aF] ++ rEnv 5, [([(7, 1)], -255)] ++ rFs 5 1, [] ++ rH 1, em_lv, [])
def em_B2 : List aCut := [(20, ([aF] ++ rEnv 5) ++ rEnv 5, rEqs 1 9 [(0, 0), (1, 0), (2, 0), (3, 0), (4, 0), (5, 0), (6, 1), (7, 0)] ++ rFs 5 9, em_lv, [], [] ++ rH 9, [99], mMU)]
theorem em_c1 : hp_chk gR 100000 1 246 em_P1 [] em_B1 = true := by decide +kernel
theorem em_c2 : hp_chk gR 100000 1 246 em_P2 [] em_B2 = true := by decide +kernel
theorem aw_120 : aLay[(120 : Nat)]? = some (.inr (0, 256, [aF])) := by rfl
theorem aw_121 : aLay[(121 : Nat)]? = some (.inr (0, 256, [aF])) := by rfl
theorem aw_119 : aLay[(119 : Nat)]? = some (.inr (0, 36, [aF])) := by rfl
theorem rK5 {ws : va_W} : rK 5 ws := ⟨by omega, by omega, by omega, by omega, fun h => absurd rfl h, by omega⟩
def rT (ws w : va_W) : Prop := jF w 19 = jF ws 19 ∧ jF w 20 = jF ws 20 ∧ jF w 21 = jF ws 21 ∧ jF w 22 = jF ws 22 ∧ jF w 23 = jF ws 23 ∧ jF w 24 = jF ws 24
theorem rT.at {ws w : va_W} (h : w[(99 : Nat)]? = ws[(99 : Nat)]?) : rT ws w := ⟨jF.at h _, jF.at h _, jF.at h _, jF.at h _, jF.at h _, jF.at h _⟩
theorem rT.trans {ws w w2 : va_W} (h1 : rT ws w) (h2 : rT w w2) : rT ws w2 := by
  unfold rT at *
  omega
/-- the state's kind hangs on the token alone -/
theorem rT.k {ws w : va_W} (h : rT ws w) {s : Nat} (hk : rK s ws) : rK s w := by
  obtain ⟨h1, h2, h3, h4, h5, h6⟩ := h
  unfold rK at *
  rw [h1, h2, h3, h4, h5, h6]
  exact hk
section EMIT
variable {E : mj_E} {al : List Nat} {ws : va_W}
theorem hI.set {c : Nat} {q : Nat × va_E} (h : hI E al jJ ws) (hw : aWd E al aLay (ws.set c q)) (hr : aRules.all (fun r => !(r.1 == c)) = true) (hc : aPw aProt c = true) : hI E al jJ (ws.set c q) :=
  ⟨hw, h.2.1.other hr, jJ_prot _ _ (aPw_ok hc (fun k hk => List.getElem?_set_ne (Ne.symm hk))) h.2.2⟩
theorem aF_any {n : Int32} {x : Int} (e : n.toInt = x) {i : Nat} : ∀ b, ([aF] : List (Int × Int))[i % ([aF] : List (Int × Int)).length]? = some b → b.1 ≤ x ∧ x ≤ b.2 := by
  intro b hb
  rw [show i % ([aF] : List (Int × Int)).length = 0 from Nat.mod_one i] at hb
  cases hb
  rw [← e]
  exact ⟨i32_lo n, i32_hi n⟩
theorem rd_emit (H : hOk E al gR jJ) (h : hI E al jJ ws) (hf : jF ws 28 ≤ 255) (x : Int32) {AS : List Value} (ha : gL E al [] [.inr (0, 99), .inl (ae_k x.toInt)] AS) :
    MJ E 1 0 0 (mj_in0 246 AS ws) (fun v w => v = none ∧ hI E al jJ w ∧ hD [99, 120] ws w ∧ rT ws w ∧ jF w 28 = jF ws 28 + 1 ∧ jF w 29 = jF ws 29 ∧ jR w 120 = upd (jR ws 120) (jF ws 28).toNat x) := by
  refine hG.in0 H.1 (as := [.inr (0, 99), .inl (ae_k x.toInt)]) ?_ ha
  show hG E al 1 246 0 (em_K x.toInt) [] [] ws _
  have b := h.bds
  have bx := And.intro (i32_lo x) (i32_hi x)
  have p2 : ∀ w1, hI E al jJ w1 → hD [120] ws w1 → jR w1 120 = upd (jR ws 120) (jF ws 28).toNat x → hG E al 1 246 10 (em_K x.toInt) [] [] w1 (fun v w => v = none ∧ hI E al jJ w ∧ hD [99, 120] ws w ∧ rT ws w ∧ jF w 28 = jF ws 28 + 1 ∧ jF w 29 = jF ws 29 ∧ jR w 120 = upd (jR ws 120) (jF ws 28).toNat x) := by
    intro w1 h1 d1 e1
    have o := rT.at (d1.2 99 (by decide))
    have o8 := jF.at (d1.2 99 (by decide)) 28
    have o9 := jF.at (d1.2 99 (by decide)) 29
    refine (hp_go (ρ := [x.toInt] ++ rX w1) H (by decide) em_c2 (hp_st h1 (by decide) rK5 rfl rfl (hEv.ok (σ := [x.toInt]) (env := [aF]) ⟨bx, trivial⟩) (aFs.cons rfl ?_ aFs.nil) aHh.nil) ?_).toK rfl rfl ?_ rfl
    · simp only [ae_ev, ae_el, rX, List.cons_append, List.nil_append, List.getD_cons_succ, List.getD_cons_zero]
      omega
    · intro T hT σ w2 k1 k2 k3 k4
      have hT := List.mem_singleton.mp hT
      subst hT
      obtain ⟨g1, -, g3, g4⟩ := hp_en (m := 9) rfl rfl (by decide) rfl k2
      have g5 := rX_of (ρ := [x.toInt]) (n := 1) rfl (by decide) k1
      have g6 := rEqs_ok g4
      have q0 := g6 0 0 (by simp)
      have q1 := g6 1 0 (by simp)
      have q2 := g6 2 0 (by simp)
      have q3 := g6 3 0 (by simp)
      have q4 := g6 4 0 (by simp)
      have q5 := g6 5 0 (by simp)
      have q6 := g6 6 1 (by simp)
      have q7 := g6 7 0 (by simp)
      have d2 : hD [99] w1 w2 := ⟨k3, fun k hk => k4 k hk⟩
      unfold rT at o
      refine hp_ret H (by decide) (by decide +kernel) (by decide +kernel) ⟨rfl, g1, (d1.more (by simp)).trans (d2.more (by simp)), ?_, by omega, by omega, ?_⟩
      · unfold rT
        omega
      · rw [d2.row (by decide), e1]
    · simp only [lvE, avE, em_P2, em_lv, em_K, ae_s, ae_ev, ae_el, List.cons_append, List.nil_append, List.map_cons, List.map_nil, List.getD_cons_succ, List.getD_cons_zero, Int.one_mul, Int.add_zero]
  refine (hp_go (ρ := [x.toInt] ++ rX ws) H (by decide) em_c1 (hp_st h (by decide) rK5 rfl rfl (hEv.ok (σ := [x.toInt]) (env := [aF]) ⟨bx, trivial⟩) aFs.nil aHh.nil) ?_).toK rfl rfl ?_ rfl
  · intro T hT σ w2 k1 k2 k3 k4
    have hT := List.mem_singleton.mp hT
    subst hT
    have e := hD.eq (ws := ws) (w := w2) ⟨k3, fun k hk => k4 k hk⟩
    subst e
    have g5 := rX_of (ρ := [x.toInt]) (n := 1) rfl (by decide) k1
    have g0 := rX_ge (ρ := [x.toInt]) (n := 1) (k := 0) rfl (by decide) (by decide) k1
    refine hG.ofK (lv2 := em_K x.toInt) (st2 := [.inl (ae_k x.toInt), .inl (ae_k (jF w2 28)), .inr (0, 120)]) ?_ ?_ ?_
    · refine hp_ias (by decide +kernel) h.1 aw_120 (aV.k _) (aV.k _) (by omega) (by omega) (fun n w3 hn hq hj hw => ?_)
      obtain ⟨q, rfl⟩ := hq
      have en : n = x := i32_inj hn
      subst en
      exact p2 _ (h.set (hw (aF_any rfl)) (by decide +kernel) (by decide)) hD.set hj
    · simp only [lvE, avE, em_lv, em_K, ae_s, ae_ev, ae_el, List.map_cons, List.map_nil, Int.one_mul, Int.add_zero, g0, List.getD_cons_zero]
    · simp only [avE, ae_s, ae_ev, ae_el, List.map_cons, List.map_nil, Int.one_mul, Int.add_zero, g0, List.getD_cons_zero]
      rw [show σ.getD 7 0 = jF w2 28 from g5.2.2.2.2.2.2.1]
  · simp only [lvE, avE, em_P1, em_lv, em_K, ae_s, ae_ev, ae_el, List.cons_append, List.nil_append, List.map_cons, List.map_nil, List.getD_cons_succ, List.getD_cons_zero, Int.one_mul, Int.add_zero]
end EMIT
