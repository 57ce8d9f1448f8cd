/-! THE READER, by hand: hold (243), settle (248) -/
def rRl (n m : Nat) (p cf cw : Int) : List ae := rEqs n m [(0, 0), (6, cf), (7, cw)] ++ rLe n m p
section HOLD
variable {E : mj_E} {al : List Nat} {ρ σ : List Int} {ws w2 : va_W}
/-- a piece's end, where the token has moved -/
theorem rd_rel {n N m t : Nat} {p cf cw : Int} {env : List (Int × Int)} {fs : List ae} {h0 : aH} (hn : ρ.length = n) (hN : n + 8 ≤ N) (k1 : ∀ k, k < N → σ[k]? = (ρ ++ rX ws)[k]?) (ht : t < 7) (hm : env.length = m) (k2 : hW E al gR jJ σ (env ++ rEnv t) (fs ++ rRl n m p cf cw ++ rFs t m) (h0 ++ rH m) w2) :
    hI E al jJ w2 ∧ rK t w2 ∧ jF w2 19 = jF ws 19 ∧ jF w2 28 = jF ws 28 + cf ∧ jF w2 29 = jF ws 29 + cw ∧ jF ws 21 + p ≤ jF w2 21 ∧ ∀ f ∈ fs, ae_ev σ f ≤ 0 := by
  obtain ⟨g1, g2, g3, g4⟩ := hp_en rfl rfl ht hm k2
  have g5 := rX_of hn hN k1
  have g6 := rEqs_ok (fun f hf => g4 f (List.mem_append_right _ (List.mem_append_left _ hf)))
  have g7 := rLe_ok (fun f hf => g4 f (List.mem_append_right _ (List.mem_append_right _ hf)))
  have q0 := g6 0 0 (by simp)
  have q6 := g6 6 cf (by simp)
  have q7 := g6 7 cw (by simp)
  exact ⟨g1, g2, by omega, by omega, by omega, by omega, fun f hf => g4 f (List.mem_append_left _ hf)⟩
end HOLD
def ho_P1 : aPc := (0, [aF] ++ rEnv 5, [] ++ rFs 5 1, [] ++ rH 1, em_lv, [])
def ho_B1 : List aCut := [(9, [aF] ++ rEnv 5, [] ++ rFs 5 1, em_lv, [.inl (ae_s 0), .inl (ae_s 8), .inr (0, 121)], [] ++ rH 1, [], mMU)]
def ho_P2 : aPc := (10, [aF] ++ rEnv 6, [([(8, 1)], -255)] ++ rFs 6 1, [] ++ rH 1, em_lv, [])
def ho_B2 : List aCut := [0, 1, 2, 3].map (fun t => (24, ([aF] ++ rEnv 6) ++ rEnv t, [([(4, 1), (11, -1)], 0)] ++ rRl 1 9 0 0 1 ++ rFs t 9, em_lv, [], [] ++ rH 9, [99], mMU))
theorem ho_c1 : hp_chk gR 100000 4 243 ho_P1 [] ho_B1 = true := by decide +kernel
theorem ho_c2 : hp_chk gR 100000 4 243 ho_P2 [] ho_B2 = true := by decide +kernel
section HOLD2
variable {E : mj_E} {al : List Nat} {ws : va_W}
theorem rd_hold (H : hOk E al gR jJ) (h : hI E al jJ ws) (hk : rK 6 ws) (hf : jF ws 29 ≤ 255) (x : Int32) {AS : List Value} (ha : gL E al [] [.inr (0, 99), .inl (ae_k x.toInt)] AS) :
    MJ E 4 0 0 (mj_in0 243 AS ws) (fun v w => v = none ∧ hI E al jJ w ∧ hD [99, 121] ws w ∧ (∃ t, t < 4 ∧ rK t w) ∧ jF w 19 = jF ws 19 ∧ jF w 28 = jF ws 28 ∧ jF w 29 = jF ws 29 + 1 ∧ jF ws 22 ≤ jF w 21 ∧ jR w 121 = upd (jR ws 121) (jF ws 29).toNat x) := by
  refine hG.in0 H.1 (as := [.inr (0, 99), .inl (ae_k x.toInt)]) ?_ ha
  show hG E al 4 243 0 (em_K x.toInt) [] [] ws _
  generalize hQ : (fun (v : Option Value) (w : va_W) => v = none ∧ hI E al jJ w ∧ hD [99, 121] ws w ∧ (∃ t, t < 4 ∧ rK t w) ∧ jF w 19 = jF ws 19 ∧ jF w 28 = jF ws 28 ∧ jF w 29 = jF ws 29 + 1 ∧ jF ws 22 ≤ jF w 21 ∧ jR w 121 = upd (jR ws 121) (jF ws 29).toNat x) = Q
  have b := h.bds
  have bx := And.intro (i32_lo x) (i32_hi x)
  have p2 : ∀ w1, hI E al jJ w1 → hD [121] ws w1 → jR w1 121 = upd (jR ws 121) (jF ws 29).toNat x → hG E al 4 243 10 (em_K x.toInt) [] [] w1 Q := by
    intro w1 h1 d1 e1
    have o := rT.at (d1.2 99 (by decide))
    have o8 := jF.at (d1.2 99 (by decide)) 28
    have o9 := jF.at (d1.2 99 (by decide)) 29
    refine (hp_go (ρ := [x.toInt] ++ rX w1) H (by decide) ho_c2 (hp_st h1 (by decide) (o.k hk) rfl rfl (hEv.ok (σ := [x.toInt]) (env := [aF]) ⟨bx, trivial⟩) (aFs.cons rfl ?_ aFs.nil) aHh.nil) ?_).toK rfl rfl ?_ rfl
    · simp only [ae_ev, ae_el, rX, List.cons_append, List.nil_append, List.getD_cons_succ, List.getD_cons_zero]
      omega
    · intro T hT σ w2 k1 k2 k3 k4
      obtain ⟨t, ht, rfl⟩ := List.mem_map.mp hT
      have ht : t < 4 := by simp at ht; omega
      obtain ⟨g1, g2, g3, g4, g5, g6, g7⟩ := rd_rel (ρ := [x.toInt]) (n := 1) (m := 9) rfl (by decide) k1 (by omega) rfl k2
      have g8 := g7 _ (List.mem_singleton.mpr rfl)
      obtain ⟨-, -, y3, -⟩ := hp_en (m := 9) rfl rfl (by omega) rfl k2
      have y5 := rX_of (ρ := [x.toInt]) (n := 1) rfl (by decide) k1
      have d2 : hD [99] w1 w2 := ⟨k3, fun k hk => k4 k hk⟩
      unfold rT at o
      simp only [ae_ev, ae_el] at g8
      subst hQ
      refine hp_ret (pc := 24) H (by decide) (by decide +kernel) (by decide +kernel) ⟨rfl, g1, (d1.more (by simp)).trans (d2.more (by simp)), ⟨t, ht, g2⟩, by omega, by omega, by omega, ?_, ?_⟩
      · have y51 : σ.getD 4 0 = jF w1 22 := y5.2.2.2.1
        have y31 : σ.getD 11 0 = jF w2 21 := y3.2.2.1
        omega
      · rw [d2.row (by decide), e1]
    · simp only [lvE, avE, ho_P2, em_lv, em_K, ae_s, ae_ev, ae_el, List.cons_append, List.nil_append, List.map_cons, List.map_nil, List.getD_cons_succ, List.getD_cons_zero, Int.one_mul, Int.add_zero]
  refine (hp_go (ρ := [x.toInt] ++ rX ws) H (by decide) ho_c1 (hp_st h (by decide) rK5 rfl rfl (hEv.ok (σ := [x.toInt]) (env := [aF]) ⟨bx, trivial⟩) aFs.nil aHh.nil) ?_).toK rfl rfl ?_ rfl
  · intro T hT σ w2 k1 k2 k3 k4
    have hT := List.mem_singleton.mp hT
    subst hT
    have e := hD.eq (ws := ws) (w := w2) ⟨k3, fun k hk => k4 k hk⟩
    subst e
    have g5 := rX_of (ρ := [x.toInt]) (n := 1) rfl (by decide) k1
    have g0 := rX_ge (ρ := [x.toInt]) (n := 1) (k := 0) rfl (by decide) (by decide) k1
    refine hG.ofK (lv2 := em_K x.toInt) (st2 := [.inl (ae_k x.toInt), .inl (ae_k (jF w2 29)), .inr (0, 121)]) ?_ ?_ ?_
    · refine hp_ias (by decide +kernel) h.1 aw_121 (aV.k _) (aV.k _) (by omega) (by omega) (fun n w3 hn hq hj hw => ?_)
      obtain ⟨q, rfl⟩ := hq
      have en : n = x := i32_inj hn
      subst en
      exact p2 _ (h.set (hw (aF_any rfl)) (by decide +kernel) (by decide)) hD.set hj
    · simp only [lvE, avE, em_lv, em_K, ae_s, ae_ev, ae_el, List.map_cons, List.map_nil, Int.one_mul, Int.add_zero, g0, List.getD_cons_zero]
    · simp only [avE, ae_s, ae_ev, ae_el, List.map_cons, List.map_nil, Int.one_mul, Int.add_zero, g0, List.getD_cons_zero]
      rw [show σ.getD 8 0 = jF w2 29 from g5.2.2.2.2.2.2.2]
  · simp only [lvE, avE, ho_P1, em_lv, em_K, ae_s, ae_ev, ae_el, List.cons_append, List.nil_append, List.map_cons, List.map_nil, List.getD_cons_succ, List.getD_cons_zero, Int.one_mul, Int.add_zero]
end HOLD2
