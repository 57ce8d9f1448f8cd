/-! BROUGHT, the component: the most of a coin at a port -/
def ga_t : lgT := ([(0, 4), (0, 2), aF], [], [.inr (0, 84), .inl (ae_s 0), .inl (ae_s 1)], [((85, ([(0, 3), (1, 1)], 0)), ae_s 2)], ae_s 2, [])
def gr_t : lgT := ([(0, 4), (0, 8), aF], [], [.inr (0, 30), .inl (ae_s 0), .inl (ae_s 1)], [((31, ([(0, 9), (1, 1)], 0)), ae_s 2)], ae_s 2, [])
section
set_option maxRecDepth 100000
theorem ga_k : lg_chk (aG00 []) 5 25 ga_t = true := by decide +kernel
theorem gr_k : lg_chk (aG00 []) 5 25 gr_t = true := by decide +kernel
end
section BC
variable {E : mj_E} {Q : Option Value → va_W → Prop} {al : List Nat} {w ws w0 w1 w2 : va_W}
theorem wd_obj (h : aWd E al aLay w) {c ci : Nat} {fs : List (Nat ⊕ (Int × Int))} (l1 : aLay[c]? = some (.inl (ci, fs))) : ∃ a vs, w[c]? = some (a, .inr (ci, vs)) ∧ al[c]? = some a ∧ ∀ (k : Nat) (f : Nat ⊕ (Int × Int)), fs[k]? = some f → ∃ v, vs[k]? = some v ∧ aFd al f v := by
  obtain ⟨⟨a, e⟩, h1, vs, h2, -, h3⟩ := h.2 c _ l1
  have h2 : e = _ := h2
  subst h2
  refine ⟨a, vs, h1, ?_, h3⟩
  rw [← h.1, List.getElem?_map, h1]
  rfl
theorem jL_85 : ∀ k, k < 15 → (jLay 85 k).isSome = true := by decide +kernel
theorem jL_31 : ∀ k, k < 45 → (jLay 31 k).isSome = true := by decide +kernel
theorem ga_mj (hf : E.2.2.2.1.category = 1) (hT : ∀ σ : List Int, aTb E σ aTabs) (a5 : aWd E al aLay ws) (a6 : aRs aRules ws) (a7 : jJ0 ws) {aT i c x : Nat} (ha : al[84]? = some aT) (hi : i < 5) (hc : c < 3) (hx : jS ws 85 (3 * i + c) = x) :
    MJ E 5 0 0 (mj_in0 25 [.ref aT, .int (nI i), .int (nI c)] ws) (fun v w => v = some (.int (nI x)) ∧ w = ws) := by
  have s : aSl ws 85 (3 * i + c) (jS ws 85 (3 * i + c)) := jLay_sl a5 (jL_85 _ (by omega))
  have b := s.i32
  refine (lg_ok (hOk00 hf hT) (t := ga_t) (ρ := [(i : Int), (c : Int), jS ws 85 (3 * i + c)]) (by decide) ga_k ⟨hEv.ok ⟨⟨by omega, by omega⟩, ⟨by omega, by omega⟩, b, trivial⟩, aFs.nil, aHh.cons (kns (by decide) rfl rfl (i := 3 * i + c) (by simp only [ae_ev, ae_el, List.getD_cons_zero, List.getD_cons_succ]; omega) (ev_s rfl) s) aHh.nil, a5, a6, a7⟩ ?_).weaken (Nat.le_refl _) (Nat.le_refl _) (Nat.le_refl _) (fun v w h => ?_)
  · exact ⟨_, _, rfl, ⟨aT, ha, rfl⟩, _, _, rfl, ⟨_, rfl, by rw [nI_toInt (by omega)]; exact aV.s rfl⟩, _, _, rfl, ⟨_, rfl, by rw [nI_toInt (by omega)]; exact aV.s rfl⟩, rfl⟩
  · obtain ⟨z, rfl, e2, e3, e4, e5, e6, e7, r, e8⟩ := h
    have e2 : z.toInt = jS ws 85 (3 * i + c) := e2.trans (ev_s rfl)
    refine ⟨?_, hD.eq ⟨e7, fun c hc => e6 c (fun q hq => by cases hq)⟩⟩
    have hz : z = nI x := Int32.toInt_inj.mp (by rw [e2, hx, nI_toInt (by have := b.2; unfold aI1 at this; omega)])
    rw [hz]
theorem gr_mj (hf : E.2.2.2.1.category = 1) (hT : ∀ σ : List Int, aTb E σ aTabs) (a5 : aWd E al aLay ws) (a6 : aRs aRules ws) (a7 : jJ0 ws) {aT i c x : Nat} (ha : al[30]? = some aT) (hi : i < 5) (hc : c < 9) (hx : jS ws 31 (9 * i + c) = x) :
    MJ E 5 0 0 (mj_in0 25 [.ref aT, .int (nI i), .int (nI c)] ws) (fun v w => v = some (.int (nI x)) ∧ w = ws) := by
  have s : aSl ws 31 (9 * i + c) (jS ws 31 (9 * i + c)) := jLay_sl a5 (jL_31 _ (by omega))
  have b := s.i32
  refine (lg_ok (hOk00 hf hT) (t := gr_t) (ρ := [(i : Int), (c : Int), jS ws 31 (9 * i + c)]) (by decide) gr_k ⟨hEv.ok ⟨⟨by omega, by omega⟩, ⟨by omega, by omega⟩, b, trivial⟩, aFs.nil, aHh.cons (kns (by decide) rfl rfl (i := 9 * i + c) (by simp only [ae_ev, ae_el, List.getD_cons_zero, List.getD_cons_succ]; omega) (ev_s rfl) s) aHh.nil, a5, a6, a7⟩ ?_).weaken (Nat.le_refl _) (Nat.le_refl _) (Nat.le_refl _) (fun v w h => ?_)
  · exact ⟨_, _, rfl, ⟨aT, ha, rfl⟩, _, _, rfl, ⟨_, rfl, by rw [nI_toInt (by omega)]; exact aV.s rfl⟩, _, _, rfl, ⟨_, rfl, by rw [nI_toInt (by omega)]; exact aV.s rfl⟩, rfl⟩
  · obtain ⟨z, rfl, e2, e3, e4, e5, e6, e7, r, e8⟩ := h
    have e2 : z.toInt = jS ws 31 (9 * i + c) := e2.trans (ev_s rfl)
    refine ⟨?_, hD.eq ⟨e7, fun c hc => e6 c (fun q hq => by cases hq)⟩⟩
    have hz : z = nI x := Int32.toInt_inj.mp (by rw [e2, hx, nI_toInt (by have := b.2; unfold aI1 at this; omega)])
    rw [hz]
/-- what mostOf looks at: the row that has arrived, the rates -/
def mw (E : mj_E) (ws : va_W) (a81 a1 a84 a30 : Nat) (f81 f1 f84 f30 : List Value) (dep : Nat) (v r : Nat → Nat) : Prop :=
  (ws[81]? = some (a81, .inr (4, f81)) ∧ f81[5]? = some (.ref a84)) ∧ (ws[1]? = some (a1, .inr (0, f1)) ∧ f1[16]? = some (.ref a30)) ∧ ws[84]? = some (a84, .inr (2, f84)) ∧ ws[30]? = some (a30, .inr (2, f30)) ∧
  (∀ c, c < 3 → v c ≤ 24299757 ∧ MJ E 5 0 0 (mj_in0 25 [.ref a84, .int (nI dep), .int (nI c)] ws) (fun x w => x = some (.int (nI (v c))) ∧ w = ws)) ∧
  ∀ p c, p < 5 → c < 9 → r (9 * p + c) ≤ 3000 ∧ MJ E 5 0 0 (mj_in0 25 [.ref a30, .int (nI p), .int (nI c)] ws) (fun x w => x = some (.int (nI (r (9 * p + c)))) ∧ w = ws)
theorem mo_go {a81 a1 a84 a30 : Nat} {f81 f1 f84 f30 : List Value} {dep p c : Nat} {v r : Nat → Nat} (hv : mw E ws a81 a1 a84 a30 f81 f1 f84 f30 dep v r) (hp : p < 5) (hc : c < 3) (hQ : Q (some (.int (nI (bg_c r p v c 3)))) ws) : ∀ (m k : Nat), k + m = 3 → bg_c r p v c k ≤ 80000000 → nG E 6 113 15 [(0, .ref a81), (1, .ref a1), (2, .int (nI p)), (3, .int (nI dep)), (4, .int (nI c)), (5, .int (nI (bg_c r p v c k))), (6, .int (nI k))] [] ws Q := by
  obtain ⟨⟨h81, h81b⟩, ⟨h1, h1b⟩, h84, h30, hA, hR⟩ := hv
  intro m
  induction m with
  | zero =>
    intro k hk hb
    have e : k = 3 := by omega
    subst e
    refine n_il (k := 6) (by decide +kernel) (List.mem_cons_of_mem _ (List.mem_cons_of_mem _ (List.mem_cons_of_mem _ (List.mem_cons_of_mem _ (List.mem_cons_of_mem _ (List.mem_cons_of_mem _ List.mem_cons_self)))))) ?_
    refine n_k (k := 3) (v := nI 3) (by decide +kernel) (by decide) ?_
    refine n_icT (c := .ge) (off := 63) (tg := 81) (by decide +kernel) (by unfold mj_go; decide) (nI_le (Nat.le_refl _) (by omega)) ?_
    refine n_il (k := 5) (by decide +kernel) (List.mem_cons_of_mem _ (List.mem_cons_of_mem _ (List.mem_cons_of_mem _ (List.mem_cons_of_mem _ (List.mem_cons_of_mem _ List.mem_cons_self))))) ?_
    exact n_reti (ty := .int) (by decide +kernel) (by decide +kernel) rfl hQ
  | succ m ih =>
    intro k hk hb
    have nx := ih (k + 1) (by omega)
    have st : bg_c r p v c (k + 1) = if k = c then bg_c r p v c k else max (bg_c r p v c k) (v k * r (9 * p + 3 * k + c) / 1000) := rfl
    rw [st] at nx
    by_cases e : k = c
    · rw [if_pos e] at nx
      have nx := nx hb
      refine n_il (k := 6) (by decide +kernel) (List.mem_cons_of_mem _ (List.mem_cons_of_mem _ (List.mem_cons_of_mem _ (List.mem_cons_of_mem _ (List.mem_cons_of_mem _ (List.mem_cons_of_mem _ List.mem_cons_self)))))) ?_
      refine n_k (k := 3) (v := nI 3) (by decide +kernel) (by decide) ?_
      refine n_icF (c := .ge) (off := 63) (tg := 81) (by decide +kernel) (by unfold mj_go; decide) (nI_ge (show k < 3 by omega) (by omega)) ?_
      refine n_il (k := 6) (by decide +kernel) (List.mem_cons_of_mem _ (List.mem_cons_of_mem _ (List.mem_cons_of_mem _ (List.mem_cons_of_mem _ (List.mem_cons_of_mem _ (List.mem_cons_of_mem _ List.mem_cons_self)))))) ?_
      refine n_il (k := 4) (by decide +kernel) (List.mem_cons_of_mem _ (List.mem_cons_of_mem _ (List.mem_cons_of_mem _ (List.mem_cons_of_mem _ List.mem_cons_self)))) ?_
      refine n_icF (c := .ne) (off := 6) (tg := 31) (by decide +kernel) (by unfold mj_go; decide) (fun h => h (by rw [e])) ?_
      refine n_goto (off := 47) (tg := 75) (by decide +kernel) (by unfold mj_go; decide) ?_
      refine n_inc (k := 6) (c := 1) (v2 := nI (k + 1)) (by decide +kernel) (by decide +kernel) (List.mem_cons_of_mem _ (List.mem_cons_of_mem _ (List.mem_cons_of_mem _ (List.mem_cons_of_mem _ (List.mem_cons_of_mem _ (List.mem_cons_of_mem _ List.mem_cons_self)))))) (nI_1 k) ?_
      show nG E 6 113 78 [(6, .int (nI (k + 1))), (0, .ref a81), (1, .ref a1), (2, .int (nI p)), (3, .int (nI dep)), (4, .int (nI c)), (5, .int (nI (bg_c r p v c k)))] [] ws _
      refine n_goto (off := (-63)) (tg := 15) (by decide +kernel) (by unfold mj_go; decide) ?_
      exact fun LV hL => nx LV (fun q hq => hL q (by simp only [List.mem_cons, List.not_mem_nil, or_false] at hq ⊢; rcases hq with rfl | rfl | rfl | rfl | rfl | rfl | rfl <;> simp))
    · rw [if_neg e] at nx
      obtain ⟨b1, g1⟩ := hA k (by omega)
      obtain ⟨b2, g2⟩ := hR p (3 * k + c) hp (by omega)
      rw [← Nat.add_assoc] at b2 g2
      have b3 : v k * r (9 * p + 3 * k + c) ≤ 24299757 * 3000 := Nat.mul_le_mul b1 b2
      have b4 : v k * r (9 * p + 3 * k + c) / 1000 ≤ 80000000 := by omega
      have nx := nx (Nat.max_le.mpr ⟨hb, b4⟩)
      have ne : ¬ nI k = nI c := fun h => e (by
        have := congrArg Int32.toInt h
        rw [nI_toInt (by omega), nI_toInt (by omega)] at this
        omega)
      refine n_il (k := 6) (by decide +kernel) (List.mem_cons_of_mem _ (List.mem_cons_of_mem _ (List.mem_cons_of_mem _ (List.mem_cons_of_mem _ (List.mem_cons_of_mem _ (List.mem_cons_of_mem _ List.mem_cons_self)))))) ?_
      refine n_k (k := 3) (v := nI 3) (by decide +kernel) (by decide) ?_
      refine n_icF (c := .ge) (off := 63) (tg := 81) (by decide +kernel) (by unfold mj_go; decide) (nI_ge (show k < 3 by omega) (by omega)) ?_
      refine n_il (k := 6) (by decide +kernel) (List.mem_cons_of_mem _ (List.mem_cons_of_mem _ (List.mem_cons_of_mem _ (List.mem_cons_of_mem _ (List.mem_cons_of_mem _ (List.mem_cons_of_mem _ List.mem_cons_self)))))) ?_
      refine n_il (k := 4) (by decide +kernel) (List.mem_cons_of_mem _ (List.mem_cons_of_mem _ (List.mem_cons_of_mem _ (List.mem_cons_of_mem _ List.mem_cons_self)))) ?_
      refine n_icT (c := .ne) (off := 6) (tg := 31) (by decide +kernel) (by unfold mj_go; decide) ne ?_
      refine n_al (k := 0) (by decide +kernel) List.mem_cons_self ?_
      refine n_gf (ix := 33) (ci := 4) (k := 5) (by decide +kernel) (by decide +kernel) h81 h81b ?_
      refine n_iln (k := 3) (by decide +kernel) (List.mem_cons_of_mem _ (List.mem_cons_of_mem _ (List.mem_cons_of_mem _ List.mem_cons_self))) ?_
      refine n_il (k := 6) (by decide +kernel) (List.mem_cons_of_mem _ (List.mem_cons_of_mem _ (List.mem_cons_of_mem _ (List.mem_cons_of_mem _ (List.mem_cons_of_mem _ (List.mem_cons_of_mem _ List.mem_cons_self)))))) ?_
      refine n_cv (ix := 59) (y2 := 25) (as := [.int (nI dep), .int (nI k)]) (rest := []) (x := .int (nI (v k))) (by decide +kernel) (by decide +kernel) rfl ⟨by decide, rfl, (by show 3 ≤ _; decide +kernel), by decide +kernel, (by show 0 ≤ 8; decide)⟩ h84 ⟨by decide +kernel, by decide⟩ (g1) ?_
      refine n_i2l (c := lN (v k)) (by decide +kernel) (nI_l (by omega)) ?_
      refine n_al (k := 1) (by decide +kernel) (List.mem_cons_of_mem _ List.mem_cons_self) ?_
      refine n_gf (ix := 91) (ci := 0) (k := 16) (by decide +kernel) (by decide +kernel) h1 h1b ?_
      refine n_iln (k := 2) (by decide +kernel) (List.mem_cons_of_mem _ (List.mem_cons_of_mem _ List.mem_cons_self)) ?_
      refine n_il (k := 6) (by decide +kernel) (List.mem_cons_of_mem _ (List.mem_cons_of_mem _ (List.mem_cons_of_mem _ (List.mem_cons_of_mem _ (List.mem_cons_of_mem _ (List.mem_cons_of_mem _ List.mem_cons_self)))))) ?_
      refine n_k (k := 3) (v := nI 3) (by decide +kernel) (by decide) ?_
      refine n_imul (c := nI (3 * k)) (by decide +kernel) (by rw [Nat.mul_comm]; exact (Int32.ofNat_mul k 3).symm) ?_
      refine n_il (k := 4) (by decide +kernel) (List.mem_cons_of_mem _ (List.mem_cons_of_mem _ (List.mem_cons_of_mem _ (List.mem_cons_of_mem _ List.mem_cons_self)))) ?_
      refine n_iadd (c := nI (3 * k + c)) (by decide +kernel) (nI_add _ _) ?_
      refine n_cv (ix := 59) (y2 := 25) (as := [.int (nI p), .int (nI (3 * k + c))]) (rest := [.long (lN (v k))]) (x := .int (nI (r (9 * p + 3 * k + c)))) (by decide +kernel) (by decide +kernel) rfl ⟨by decide, rfl, (by show 3 ≤ _; decide +kernel), by decide +kernel, (by show 2 + 0 ≤ 8; decide)⟩ h30 ⟨by decide +kernel, by decide⟩ (g2) ?_
      refine n_i2l (c := lN (r (9 * p + 3 * k + c))) (by decide +kernel) (nI_l (by omega)) ?_
      refine n_lmul (c := lN (v k * r (9 * p + 3 * k + c))) (by decide +kernel) (n_lNmul _ _) ?_
      refine n_ldl (ix := 94) (v := 1000) (by decide +kernel) (by decide +kernel) ?_
      refine n_ldiv (c := lN (v k * r (9 * p + 3 * k + c) / 1000)) (by decide +kernel) (lN_div (by omega)) ?_
      refine n_ls (k := 7) (by decide +kernel) (by decide +kernel) ?_
      show nG E 6 113 65 [(7, .long (lN (v k * r (9 * p + 3 * k + c) / 1000))), (0, .ref a81), (1, .ref a1), (2, .int (nI p)), (3, .int (nI dep)), (4, .int (nI c)), (5, .int (nI (bg_c r p v c k))), (6, .int (nI k))] [] ws _
      refine n_il (k := 5) (by decide +kernel) (List.mem_cons_of_mem _ (List.mem_cons_of_mem _ (List.mem_cons_of_mem _ (List.mem_cons_of_mem _ (List.mem_cons_of_mem _ (List.mem_cons_of_mem _ List.mem_cons_self)))))) ?_
      refine n_ll (k := 7) (by decide +kernel) List.mem_cons_self ?_
      refine n_l2i (c := nI (v k * r (9 * p + 3 * k + c) / 1000)) (by decide +kernel) (n_lNi _) ?_
      refine n_mx (ix := 83) (c := nI (max (bg_c r p v c k) (v k * r (9 * p + 3 * k + c) / 1000))) (by decide +kernel) (by decide +kernel) (by decide) (by show 0 ≤ 8; decide) (nI_max (by omega) (by omega)) ?_
      refine n_is (k := 5) (by decide +kernel) (by decide +kernel) ?_
      show nG E 6 113 75 [(5, .int (nI (max (bg_c r p v c k) (v k * r (9 * p + 3 * k + c) / 1000)))), (7, .long (lN (v k * r (9 * p + 3 * k + c) / 1000))), (0, .ref a81), (1, .ref a1), (2, .int (nI p)), (3, .int (nI dep)), (4, .int (nI c)), (6, .int (nI k))] [] ws _
      refine n_inc (k := 6) (c := 1) (v2 := nI (k + 1)) (by decide +kernel) (by decide +kernel) (List.mem_cons_of_mem _ (List.mem_cons_of_mem _ (List.mem_cons_of_mem _ (List.mem_cons_of_mem _ (List.mem_cons_of_mem _ (List.mem_cons_of_mem _ (List.mem_cons_of_mem _ List.mem_cons_self))))))) (nI_1 k) ?_
      show nG E 6 113 78 [(6, .int (nI (k + 1))), (5, .int (nI (max (bg_c r p v c k) (v k * r (9 * p + 3 * k + c) / 1000)))), (7, .long (lN (v k * r (9 * p + 3 * k + c) / 1000))), (0, .ref a81), (1, .ref a1), (2, .int (nI p)), (3, .int (nI dep)), (4, .int (nI c))] [] ws _
      refine n_goto (off := (-63)) (tg := 15) (by decide +kernel) (by unfold mj_go; decide) ?_
      exact fun LV hL => nx LV (fun q hq => hL q (by simp only [List.mem_cons, List.not_mem_nil, or_false] at hq ⊢; rcases hq with rfl | rfl | rfl | rfl | rfl | rfl | rfl <;> simp))
theorem mo_mj {a81 a1 a84 a30 : Nat} {f81 f1 f84 f30 : List Value} {dep p c : Nat} {v r : Nat → Nat} (hv : mw E ws a81 a1 a84 a30 f81 f1 f84 f30 dep v r) (hp : p < 5) (hc : c < 3) : MJ E 6 0 0 (mj_in0 113 [.ref a81, .ref a1, .int (nI p), .int (nI dep), .int (nI c)] ws) (fun x w => x = some (.int (nI (bg_c r p v c 3))) ∧ w = ws) := by
  have hv0 := hv
  obtain ⟨⟨h81, h81b⟩, ⟨h1, h1b⟩, h84, h30, hA, hR⟩ := hv
  have b := (hA c hc).1
  have g := (hA c hc).2
  refine nG.in0 ?_
  show nG E 6 113 0 [(0, .ref a81), (1, .ref a1), (2, .int (nI p)), (3, .int (nI dep)), (4, .int (nI c))] [] ws _
  refine n_al (k := 0) (by decide +kernel) List.mem_cons_self ?_
  refine n_gf (ix := 33) (ci := 4) (k := 5) (by decide +kernel) (by decide +kernel) h81 h81b ?_
  refine n_iln (k := 3) (by decide +kernel) (List.mem_cons_of_mem _ (List.mem_cons_of_mem _ (List.mem_cons_of_mem _ List.mem_cons_self))) ?_
  refine n_il (k := 4) (by decide +kernel) (List.mem_cons_of_mem _ (List.mem_cons_of_mem _ (List.mem_cons_of_mem _ (List.mem_cons_of_mem _ List.mem_cons_self)))) ?_
  refine n_cv (ix := 59) (y2 := 25) (as := [.int (nI dep), .int (nI c)]) (rest := []) (x := .int (nI (v c))) (by decide +kernel) (by decide +kernel) rfl ⟨by decide, rfl, (by show 3 ≤ _; decide +kernel), by decide +kernel, (by show 0 ≤ 8; decide)⟩ h84 ⟨by decide +kernel, by decide⟩ (g) ?_
  refine n_is (k := 5) (by decide +kernel) (by decide +kernel) ?_
  show nG E 6 113 12 [(5, .int (nI (v c))), (0, .ref a81), (1, .ref a1), (2, .int (nI p)), (3, .int (nI dep)), (4, .int (nI c))] [] ws _
  refine n_k (k := 0) (v := nI 0) (by decide +kernel) (by decide) ?_
  refine n_is (k := 6) (by decide +kernel) (by decide +kernel) ?_
  show nG E 6 113 15 [(6, .int (nI 0)), (5, .int (nI (v c))), (0, .ref a81), (1, .ref a1), (2, .int (nI p)), (3, .int (nI dep)), (4, .int (nI c))] [] ws _
  exact fun LV hL => mo_go hv0 hp hc ⟨rfl, rfl⟩ 3 0 (by omega) (by show v c ≤ _; omega) LV (fun q hq => hL q (by simp only [List.mem_cons, List.not_mem_nil, or_false] at hq ⊢; rcases hq with rfl | rfl | rfl | rfl | rfl | rfl | rfl <;> simp [bg_c]))
end BC
