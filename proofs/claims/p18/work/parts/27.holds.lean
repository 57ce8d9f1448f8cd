/-! HOLDS, by hand: all signs -/
section HOLDS2
variable {E : mj_E} {al : List Nat}
theorem hs_end (H : hOk E al (aG0 [ac_isSo]) jJ) {Q : Option Value → va_W → Prop} {w : va_W} {v l c wk fr mn top : Int}
    (hI0 : hI E al jJ w) (b0 : 0 ≤ v ∧ v ≤ 7) (b1 : 0 ≤ l ∧ l ≤ 8) (b2 : 0 ≤ c ∧ c ≤ 15) (b3 : aI0 ≤ wk ∧ wk ≤ aI1) (b4 : 0 ≤ fr ∧ fr ≤ 256) (b5 : 0 ≤ mn ∧ mn ≤ 256) (b7 : 0 ≤ top ∧ top ≤ 256) (f1 : fr + mn ≤ 256)
    (h1 : aSl w 111 (36 * v + 4 * l + 3).toNat mn)
    (hq : ∀ n : Int32, (n.toInt = 0 ∨ n.toInt = 1) → Q (some (.int n)) w) :
    hG E al 7 228 34 (hs_K v l c wk fr top (256 * v + fr + mn)) [] [] w Q := by
  have hN : ∀ w2 : va_W, w2.length = w.length → (∀ k : Nat, w2[k]? = w[k]?) → w2 = w := fun w2 _ h => List.ext_getElem? h
  refine (hp_go (ρ := [v, l, c, wk, fr, mn, 0, top]) H (by decide) hs_cX ⟨hEv.ok ⟨b0, b1, b2, b3, b4, b5, ⟨by decide, by decide⟩, b7, trivial⟩, ?_, ?_, hI0⟩ ?_).toK rfl rfl ?_ rfl
  · exact aFs.cons rfl (by simp only [ae_ev, ae_el, hs_f1, List.getD_cons_succ, List.getD_cons_zero]; omega) aFs.nil
  · have e1 : ae_ev [v, l, c, wk, fr, mn, 0, top] (ae_inc hs_at 3) = 36 * v + 4 * l + 3 := by simp only [ae_ev, ae_el, ae_inc, hs_at, List.getD_cons_succ, List.getD_cons_zero]; omega
    have e3 : ae_ev [v, l, c, wk, fr, mn, 0, top] (ae_s 5) = mn := by simp only [ae_ev, ae_el, ae_s, List.getD_cons_succ, List.getD_cons_zero]; omega
    exact aHh.cons (aH1.mk (by decide) rfl rfl (by rw [e1]; omega) (by rw [e1, e3]; exact h1)) aHh.nil
  · intro T hT σ w2 k1 k2 k3 k4
    obtain ⟨b, hb, rfl⟩ := List.mem_map.mp hT
    have e := hN w2 k3 (fun k => k4 k (by simp))
    subst e
    have hb2 : b = 0 ∨ b = 1 := by simpa using hb
    show hG E al 7 228 229 [] [.inl (ae_k b)] σ w2 Q
    refine hp_retI (ty := .boolean) (x := b) (by decide) (by decide +kernel) (by decide +kernel) (aV.k b) (fun n hn => ?_) (fun n hn => hq n (by rw [hn]; exact hb2))
    rcases fit_bool (x := n) (by omega) (by omega) with rfl | rfl <;> rfl
  · simp only [lvE, avE, hs_PX, hs_lv, hs_l4, hs_K, hs_at, hs_fr, hs_x, ae_s, ae_ev, ae_el, List.cons_append, List.nil_append, List.map_cons, List.map_nil, List.getD_cons_succ, List.getD_cons_zero]
    simp only [List.cons.injEq, Prod.mk.injEq, Sum.inl.injEq, ae_k, true_and, and_true]
    omega
theorem hs_ok (hf : E.2.2.2.1.category = 1) (hT : ∀ σ : List Int, aTb E σ aTabs) : aCO E al (aG0 []) jJ ac_holds := by
  have H : hOk E al (aG0 [ac_isSo]) jJ := hOk.mk hf hT jJ_prot (fun c hc => by
    have hc := List.mem_singleton.mp hc
    subst hc
    exact ak_inst_ok (G := aG0 []) hf (by show aLay.length < 1000000; decide +kernel) (by show aRok aRules = true; decide +kernel) jJ_prot (fun c hc => by cases hc) hT (by decide) ac_isSo_chk)
  intro ρ as ws a1 a2 a3 a4 a5 a6 a7 d hd
  have a0 := a1
  have c0 : 0 ≤ ρ.getD 0 0 ∧ ρ.getD 0 0 ≤ 7 := a1.ev (k := 0) rfl
  have c1 : 0 ≤ ρ.getD 1 0 ∧ ρ.getD 1 0 ≤ 8 := a1.ev (k := 1) rfl
  have c2 : 0 ≤ ρ.getD 2 0 ∧ ρ.getD 2 0 ≤ 15 := a1.ev (k := 2) rfl
  have c3 : aI0 ≤ ρ.getD 3 0 ∧ ρ.getD 3 0 ≤ aI1 := a1.ev (k := 3) rfl
  have f0 : ae_ev ρ ([(1, 1), (4, -1)], 1) ≤ 0 := a2.ev List.mem_cons_self
  obtain ⟨-, s0⟩ := a4.sl (c := 110) (i := ([(0, 2)], 0)) (v := ae_s 4) List.mem_cons_self (by decide)
  simp only [ae_ev, ae_el, ae_s] at f0 s0
  have a8 := a3.toK
  simp only [ac_holds, List.map_cons, List.map_nil, avE, ae_s, ae_ev, ae_el, Int.one_mul, Int.add_zero] at a8
  clear a3 a2 a1 a4
  generalize ρ.getD 0 0 = v at *
  generalize ρ.getD 1 0 = l at *
  generalize ρ.getD 2 0 = c at *
  generalize ρ.getD 3 0 = wk at *
  generalize ρ.getD 4 0 = m at *
  obtain ⟨w10, r10, k10⟩ := a5.row aw_110
  obtain ⟨w11, r11, k11⟩ := a5.row aw_111
  obtain ⟨w12, r12, k12⟩ := a5.row aw_112
  have s1 := jR.sl r10 s0
  have e1 : (2 * v + 0 + 0).toNat = 2 * v.toNat := by omega
  rw [e1] at s1
  obtain ⟨q1, q2⟩ := a7.1.1 v.toNat l.toNat (by omega) (by omega) (by rw [s1.2]; omega)
  generalize hfr : (jR ws 111 (36 * v.toNat + 4 * l.toNat + 2)).toInt = fr at q1 q2
  generalize hmn : (jR ws 111 (36 * v.toNat + 4 * l.toNat + 3)).toInt = mn at q1 q2
  have bfr : 0 ≤ fr ∧ fr ≤ 256 := by
    rw [← hfr]
    exact k11 (36 * v.toNat + 4 * l.toNat + 2) (0, 256) (by omega) (by rw [show ([aF, aF, (0, 256), (0, 256)] : List (Int × Int)).length = 4 from rfl, show (36 * v.toNat + 4 * l.toNat + 2) % 4 = 2 by omega]; rfl)
  have bmn : 0 ≤ mn ∧ mn ≤ 256 := by
    rw [← hmn]
    exact k11 (36 * v.toNat + 4 * l.toNat + 3) (0, 256) (by omega) (by rw [show ([aF, aF, (0, 256), (0, 256)] : List (Int × Int)).length = 4 from rfl, show (36 * v.toNat + 4 * l.toNat + 3) % 4 = 3 by omega]; rfl)
  have fin : ∀ (w : va_W), hI E al jJ w → w.length = ws.length → (∀ k, k ≠ 122 → w[k]? = ws[k]?) → ∀ n : Int32, (n.toInt = 0 ∨ n.toInt = 1) → aCs E al (aG0 []) jJ ac_holds ρ ws (some (.int n)) w := by
    intro w g1 g2 g3 n hn
    rcases hn with hn | hn
    · refine ⟨([], [], some (.inl (ae_k 0)), []), List.mem_cons_self, [], ?_, aFs.nil, ⟨_, rfl, n, rfl, ?_⟩, aHh.nil, g1.1, g1.2.1, g1.2.2, g2, fun k hk => g3 k (by simpa [ac_holds] using hk)⟩
      · rw [List.append_nil, List.append_nil]; exact a0
      · rw [hn]; exact aV.k 0
    · refine ⟨([], [], some (.inl (ae_k 1)), []), List.mem_cons_of_mem _ List.mem_cons_self, [], ?_, aFs.nil, ⟨_, rfl, n, rfl, ?_⟩, aHh.nil, g1.1, g1.2.1, g1.2.2, g2, fun k hk => g3 k (by simpa [ac_holds] using hk)⟩
      · rw [List.append_nil, List.append_nil]; exact a0
      · rw [hn]; exact aV.k 1
  have loop : ∀ (n j top : Nat) (w : va_W), j + n = mn.toNat → dep (jR ws 112) (256 * v.toNat + fr.toNat) j = some top → hI E al jJ w → w.length = ws.length → (∀ k, k ≠ 122 → w[k]? = ws[k]?) → hG E al 7 228 34 (hs_K v l c wk fr top (256 * v + fr + j)) [] [] w (aCs E al (aG0 []) jJ ac_holds ρ ws) := by
    intro n
    induction n with
    | zero =>
      intro j top w hj hd hw hl hk
      have ht := dep_le hd
      have e : (j : Int) = mn := by omega
      rw [e]
      refine hs_end H hw c0 c1 c2 c3 bfr bmn ⟨by omega, by omega⟩ q1 (aSl.at (hk 111 (by decide)) (aSl.row r11 (by omega) ?_)) (fun n hn => fin w hw hl hk n hn)
      rw [← hmn, show (36 * v + 4 * l + 3).toNat = 36 * v.toNat + 4 * l.toNat + 3 by omega]
    | succ n ih =>
      intro j top w hj hd hw hl hk
      have ht := dep_le hd
      have h1 : aSl w 111 (36 * v + 4 * l + 3).toNat mn := by
        refine aSl.at (hk 111 (by decide)) (aSl.row r11 (by omega) ?_)
        rw [← hmn, show (36 * v + 4 * l + 3).toNat = 36 * v.toNat + 4 * l.toNat + 3 by omega]
      have h2 : aSl w 112 (256 * v + fr + j).toNat (jR ws 112 (256 * v.toNat + fr.toNat + j)).toInt := by
        refine aSl.at (hk 112 (by decide)) (aSl.row r12 (by omega) ?_)
        rw [show (256 * v + fr + (j : Int)).toNat = 256 * v.toNat + fr.toNat + j by omega]
      have hd1 : dep (jR ws 112) (256 * v.toNat + fr.toNat) (j + 1) ≠ none := dep_pre (by omega) q2
      have hd2 : dep (jR ws 112) (256 * v.toNat + fr.toNat) (j + 1) = dps (jR ws 112 (256 * v.toNat + fr.toNat + j)) top := by
        show (dep _ _ j).bind _ = _
        rw [hd]
        rfl
      have next : ∀ {dt : Int} {t2 : Nat}, dps (jR ws 112 (256 * v.toNat + fr.toNat + j)) top = some t2 → (top : Int) + dt = t2 → ∀ w2, hI E al jJ w2 → w2.length = w.length → (∀ k, k ≠ 122 → w2[k]? = w[k]?) → hG E al 7 228 34 (hs_K v l c wk fr (top + dt) (256 * v + fr + (j + 1))) [] [] w2 (aCs E al (aG0 []) jJ ac_holds ρ ws) := by
        intro dt t2 e1 e2 w2 g1 g2 g3
        rw [e2]
        exact ih (j + 1) t2 w2 (by omega) (by rw [hd2, e1]) g1 (g2.trans hl) (fun k hk2 => (g3 k hk2).trans (hk k hk2))
      rw [hd2] at hd1
      have blo := i32_lo (jR ws 112 (256 * v.toNat + fr.toNat + j))
      have bhi := i32_hi (jR ws 112 (256 * v.toNat + fr.toNat + j))
      generalize hx : jR ws 112 (256 * v.toNat + fr.toNat + j) = x at h2 hd1 next blo bhi
      unfold dps at hd1 next
      by_cases e3 : x.toInt = 3
      · rw [if_pos e3] at hd1 next
        by_cases ht1 : 1 ≤ top
        · rw [if_pos ht1] at next
          exact hs_step H hs_c3 hw c0 c1 c2 c3 bfr bmn (by omega) ⟨by show 1 ≤ (top : Int); omega, by show (top : Int) ≤ 256; omega⟩ ⟨by show 3 ≤ x.toInt; omega, by show x.toInt ≤ 3; omega⟩ q1 (by omega) h1 h2 (next (dt := 0) rfl (by omega))
        · rw [if_neg ht1] at hd1
          exact absurd rfl hd1
      · rw [if_neg e3] at hd1 next
        by_cases e4 : x.toInt = 4 ∨ x.toInt = 5
        · rw [if_pos e4] at hd1 next
          by_cases ht1 : 2 ≤ top
          · rw [if_pos ht1] at next
            rcases e4 with e4 | e4
            · exact hs_step H hs_c4 hw c0 c1 c2 c3 bfr bmn (by omega) ⟨by show 2 ≤ (top : Int); omega, by show (top : Int) ≤ 256; omega⟩ ⟨by show 4 ≤ x.toInt; omega, by show x.toInt ≤ 4; omega⟩ q1 (by omega) h1 h2 (next (dt := -1) rfl (by omega))
            · exact hs_step H hs_c5 hw c0 c1 c2 c3 bfr bmn (by omega) ⟨by show 2 ≤ (top : Int); omega, by show (top : Int) ≤ 256; omega⟩ ⟨by show 5 ≤ x.toInt; omega, by show x.toInt ≤ 5; omega⟩ q1 (by omega) h1 h2 (next (dt := -1) rfl (by omega))
          · rw [if_neg ht1] at hd1
            exact absurd rfl hd1
        · rw [if_neg e4] at next
          by_cases e5 : x.toInt ≤ 2
          · exact hs_step H hs_cl hw c0 c1 c2 c3 bfr bmn (by omega) ⟨by show 0 ≤ (top : Int); omega, by show (top : Int) ≤ 255; omega⟩ ⟨blo, e5⟩ q1 (by omega) h1 h2 (next (dt := 1) rfl (by omega))
          · exact hs_step H hs_ch hw c0 c1 c2 c3 bfr bmn (by omega) ⟨by show 0 ≤ (top : Int); omega, by show (top : Int) ≤ 255; omega⟩ ⟨by show 6 ≤ x.toInt; omega, bhi⟩ q1 (by omega) h1 h2 (next (dt := 1) rfl (by omega))
  have ent : hG E al 7 228 0 [(0, .inr (0, 99)), (1, .inl (ae_k v)), (2, .inl (ae_k l)), (3, .inl (ae_k c)), (4, .inl (ae_k wk))] [] [] ws (aCs E al (aG0 []) jJ ac_holds ρ ws) := by
    refine (hp_go (ρ := [v, l, c, wk, fr]) H (by decide) hs_c0 ⟨hEv.ok ⟨c0, c1, c2, c3, bfr, trivial⟩, aFs.nil, ?_, ⟨a5, a6, a7⟩⟩ ?_).toK rfl rfl ?_ rfl
    · have e1 : ae_ev [v, l, c, wk, fr] (ae_inc hs_at 2) = 36 * v + 4 * l + 2 := by simp only [ae_ev, ae_el, ae_inc, hs_at, List.getD_cons_succ, List.getD_cons_zero]; omega
      have e3 : ae_ev [v, l, c, wk, fr] (ae_s 4) = fr := by simp only [ae_ev, ae_el, ae_s, List.getD_cons_succ, List.getD_cons_zero]; omega
      refine aHh.cons (aH1.mk (by decide) rfl rfl (by rw [e1]; omega) ?_) aHh.nil
      rw [e1, e3]
      refine aSl.row r11 (by omega) ?_
      rw [← hfr, show (36 * v + 4 * l + 2).toNat = 36 * v.toNat + 4 * l.toNat + 2 by omega]
    · intro T hT σ w2 k1 k2 k3 k4
      have hT := List.mem_singleton.mp hT
      subst hT
      have g := fun (k : Nat) (hk : k < 5) => getD_of k1 hk
      have g0 := g 0 (by decide)
      have g1 := g 1 (by decide)
      have g2 := g 2 (by decide)
      have g3 := g 3 (by decide)
      have g4 := g 4 (by decide)
      simp only [List.getD_cons_succ, List.getD_cons_zero] at g0 g1 g2 g3 g4
      refine (loop mn.toNat 0 0 w2 (by omega) rfl k2.2.2.2 k3 (fun k hk => k4 k (by simp))).ofK ?_ rfl
      simp only [lvE, avE, hs_lv, hs_l4, hs_K, hs_at, hs_fr, ae_s, ae_k, ae_ev, ae_el, List.cons_append, List.nil_append, List.map_cons, List.map_nil, g0, g1, g2, g3, g4]
      simp only [List.cons.injEq, Prod.mk.injEq, Sum.inl.injEq, true_and, and_true]
      omega
    · simp only [lvE, avE, hs_P0, hs_l4, ae_s, ae_ev, ae_el, List.map_cons, List.map_nil, List.getD_cons_succ, List.getD_cons_zero, Int.one_mul, Int.add_zero]
  exact (hG.in0 hf ent a8).weaken (by show 7 ≤ d; have : 8 ≤ d := hd; omega) (Nat.le_refl _) (Nat.le_refl _) (fun _ _ z => z)
end HOLDS2
