/-! THE LAW, whole -/
section LAW
variable {E : mj_E} {Q : Option Value → va_W → Prop}
/-- from the head of the law's loop -/
theorem la_it {al : List Nat} (hf : E.2.2.2.1.category = 1) (hT : ∀ σ : List Int, aTb E σ aTabs) {L : Nat} (hL : L ≤ 3584) (hE : (E.2.2.1 2).2.1 = L) : ∀ (N : Nat) (i : Int) (w : va_W), (L : Int) - i < N → i ≤ L → laI E al L i w → jJ w → hG E al 86 320 18 laLv [] [(L : Int), i] w (fun v _ => v = some (.int 1)) := by
  intro N
  induction N with
  | zero => intro i w h1 h2; omega
  | succ N ih =>
    intro i w hN hi h hj
    have H : hOkL E al laG jJ [(L : Int), i] 2 := la_H hf hT hL hE
    have H1 : hOkL E al laG1 (fun _ => True) [(L : Int), i] 2 := la_H1 hf hT hL hE
    have nxt : i + 7 ≤ L → ∀ w2, laI E al L i w2 → jJ w2 → hG E al 86 320 2217 laLv [] [(L : Int), i] w2 (fun v _ => v = some (.int 1)) := by
      intro h7 w2 g gj
      refine la_glue H1 hL la_kn g ?_
      have := ih (i + 7) w2 (by omega) (by omega) ⟨by have := g.1; omega, g.2⟩ gj
      refine (this.toK rfl rfl (lv2 := lvE [(L : Int), i] laLv7) (st2 := []) ?_ rfl).ofK rfl rfl
      simp [lvE, avE, laLv, laLv7, ae_s, ae_inc, ae_k, ae_ev, ae_el]
    refine law_go (p := (18, laE, [([(0, -1), (1, 1)], 0)], [], laLv, [])) mj_li_law H rfl laIs laBs la_kh (fun T hT2 => ?_) la_kl ⟨(h.hW hL).1, aFs.cons rfl (by simp [ae_ev, ae_el]; omega) aFs.nil, aHh.nil, h.2.1, h.2.2, hj⟩ (fun T hT2 σ w2 k1 k2 k3 k4 => ?_)
    · obtain ⟨t, ht, rfl⟩ := List.mem_map.mp hT2
      exact ⟨_, la_kts t ht⟩
    · rcases List.mem_cons.mp hT2 with rfl | hT2
      · have one : ∀ n : Int32, n.toInt = 1 → n = 1 := fun n hn => i32_inj (hn.trans (by decide))
        exact law_ret (pc := 2224) (ty := .boolean) (x := 1) mj_li_law (by decide +kernel) (by decide +kernel) (aV.k 1) (fun n hn => by rw [one n hn]; decide) (fun n hn => by rw [one n hn])
      · obtain ⟨t, ht, rfl⟩ := List.mem_map.mp hT2
        have hσ := hp_same k1 k2.1.1 rfl
        subst hσ
        have h7 : i + 7 ≤ L := by
          have := k2.2.1.ev (f := ([(0, (-1)), (1, 1)], 7)) List.mem_cons_self
          simp [ae_ev, ae_el] at this
          omega
        have g : laI E al L i w2 := ⟨h.1, k2.2.2.2.1, k2.2.2.2.2.1⟩
        have gj : jJ w2 := k2.2.2.2.2.2
        simp only [laSp, List.mem_cons, List.not_mem_nil, or_false] at ht
        rcases ht with rfl | rfl | rfl | rfl
        · exact nxt h7 w2 g gj
        · exact la_xH hf hT hL hE H1 g gj (by omega) (nxt h7)
        · exact la_keepH hf hT hL H1 g gj (nxt h7)
        · exact la_againH hf hT hL H1 g gj (nxt h7)
theorem la_start {al : List Nat} {ws : va_W} (hf : E.2.2.2.1.category = 1) (hT : ∀ σ : List Int, aTb E σ aTabs) {L : Nat} (hL : L ≤ 3584) (hE : (E.2.2.1 2).2.1 = L) (hw : aWd E al aLay ws) (hr : aRs aRules ws) (hj : jJ ws) : hG E al 86 320 16 laLv0 [] [(L : Int)] ws (fun v _ => v = some (.int 1)) := by
  have H1 : hOkL E al laG1 (fun _ => True) [(L : Int)] 1 :=
    ⟨hf, by show aLay.length < 1000000; decide +kernel, by show aRok aRules = true; decide +kernel, fun _ _ _ h => h, (fun c hc => by cases hc), fun σ hσ => la_tb hT hL hE ((hσ 0 (by decide)).trans rfl)⟩
  refine law_go (p := (16, [(0, 3584)], [], [], laLv0, [])) mj_li_law H1 rfl [] [(18, [(0, 3584)], [], [(0, .inr (3, 2)), (1, .inr (0, 0)), (2, .inr (0, 99)), (3, .inl (ae_k 0))], [], [], [], mMU)] la_ke (fun T hT => by cases hT) (by rfl) ⟨hEv.ok (σ := [(L : Int)]) (env := [(0, 3584)]) ⟨⟨by show (0 : Int) ≤ L; omega, by show (L : Int) ≤ 3584; omega⟩, trivial⟩, aFs.nil, aHh.nil, hw, hr, trivial⟩ (fun T hT2 σ w2 k1 k2 k3 k4 => ?_)
  have hT2 := List.mem_singleton.mp hT2
  subst hT2
  have e := hD.eq (ws := ws) (w := w2) ⟨k3, fun k hk => k4 k hk⟩
  subst e
  have hσ := hp_same k1 k2.1.1 rfl
  subst hσ
  refine ((la_it hf hT hL hE (L + 1) 0 w2 (by omega) (by omega) ⟨by omega, hw, hr⟩ hj).toK rfl rfl (lv2 := lvE [(L : Int)] [(0, .inr (3, 2)), (1, .inr (0, 0)), (2, .inr (0, 99)), (3, .inl (ae_k 0))]) (st2 := []) ?_ rfl).ofK rfl rfl
  simp [lvE, avE, laLv, ae_s, ae_k, ae_ev, ae_el]
/-- an object is made: new, dup, its constructor -/
theorem la_make (hf : E.2.2.2.1.category = 1) {pc ix ix2 ci pl y2 pl2 : Nat} {w w1 : cx_w} {fs0 : List cx_v} {v : Option cx_v} (d0 : decode (mj_b 320) pc = .ok (.new ix, 3)) (d1 : decode (mj_b 320) (pc + 3) = .ok (.dup, 1)) (d2 : decode (mj_b 320) (pc + 4) = .ok (.invokespecial ix2, 3))
    (hn : (mj_cn 320, ix, ci, pl) ∈ mj_nl) (hci : ci < 7) (hm : (mj_cn 320, ix2, 2, y2, pl2) ∈ mj_ml) (hy2 : y2 < mj_lawNo) (hc : 1 ≤ mj_l y2 ∧ mj_l y2 ≤ 100 ∧ (mj_m y2).2.2.2.2.2.2 = 0) (hfs : cx_all (cx_dvs ci) = some fs0)
    (hr : cx_run 20000 20 y2 (mj_kd y2) [(0, .inr (0, w.length))] [] (w ++ [.inl (ci, fs0)]) = some (v, w1)) (hv : v = none) :
    ∃ cn sn : Nat, w1.length = w.length + 1 + cn ∧ cx_sz w1 = cx_sz w + mj_nf ci + sn ∧ ∀ (al : List Nat) (lv : List (Nat × Value)) (ws : va_W) (mc ms : Nat) (Q : Option Value → va_W → Prop), cx_W E al w ws →
      (∀ (ext : List Nat) (q : Nat) (ws2 : va_W), (al ++ ext)[w.length]? = some q → cx_W E (al ++ ext) w1 ws2 → MJ E 86 mc ms (320, pc + 7, lv, [.ref q], ws2) Q) → MJ E 86 (1 + cn + mc) (mj_nf ci + sn + ms) (320, pc, lv, [], ws) Q := by
  subst hv
  obtain ⟨cn, sn, e1, e2, hM⟩ := cx_run_ok hf 20000 20 y2 (mj_kd y2) _ _ _ _ w1 hr hy2 (mj_kd_cok y2).1
  rw [List.length_append] at e1
  rw [cx_sz_app] at e2
  refine ⟨cn, sn, e1, ?_, fun al lv ws mc ms Q hW hQ => ?_⟩
  · have : cx_sz [.inl (ci, fs0)] = mj_nf ci := rfl
    omega
  have hal : al.length = w.length := by rw [← hW.1, List.length_map]; exact hW.2.1.symm
  refine MJ.al d0 (pc1 := pc + 3) (w := mj_nf ci) (rest := []) ⟨rfl, ci, pl, _, hn, hci, rfl, rfl⟩ (mc2 := cn + mc) (ms2 := sn + ms) (by omega) (by omega) (fun q _ => ?_)
  refine MJ.nx d1 ⟨rfl, .ref q, [], rfl, rfl, rfl⟩ ?_
  have hq : (al ++ [q])[w.length]? = some q := by rw [List.getElem?_append_right (by omega), hal, Nat.sub_self]; rfl
  have k1 : cx_L E (al ++ [q]) [.inr (0, w.length)] [.ref q] := ⟨.ref q, [], rfl, ⟨q, hq, rfl⟩, rfl⟩
  have hW2 := hW.app (q := q) (c := .inl (ci, fs0)) ⟨_, rfl, cx_all_ok (E := E) (al := al) (mj_fty ci) _ fs0 hfs⟩
  have h1 := hM (al ++ [q]) (lv_args 0 [.ref q]) [] _ (k1.args hf 0) rfl hW2
  rw [(mj_kd_cok y2).2] at h1
  refine MJ.cl d2 (y2 := y2) (as := [.ref q]) (rest := [.ref q]) ⟨rfl, Or.inl ⟨y2, pl2, [], q, [.ref q], Or.inl hm, rfl, ⟨hy2, by rw [hc.2.2]; rfl, hc.1, hc.2.1, by show (1 : Nat) + 0 ≤ 8; omega⟩, rfl⟩⟩ (d2 := 85) (mc2 := cn) (ms2 := sn) (mc3 := mc) (ms3 := ms) rfl rfl rfl (h1.weaken (by decide) (Nat.le_refl _) (Nat.le_refl _) (fun _ _ h => h)) (fun v2 ws2 hv2 => ?_)
  obtain ⟨ext, o1, o2⟩ := hv2
  have o1 : v2 = none := o1
  subst o1
  rw [List.append_assoc] at o2
  exact hQ ([q] ++ ext) q ws2 (by rw [← List.append_assoc, List.getElem?_append_left (List.getElem?_eq_some_iff.mp hq).1]; exact hq) o2
theorem la_f5 : (cx_all (cx_dvs 5)).isSome = true := by decide +kernel
theorem la_f6 : (cx_all (cx_dvs 6)).isSome = true := by decide +kernel
theorem la_getD {α : Type} {o : Option (List α)} (h : o.isSome = true) : o = some (o.getD []) := by
  cases o with
  | none => cases h
  | some x => rfl
theorem la_m5 : cx_run 20000 20 0 (mj_kd 0) [(0, .inr (0, ([] : cx_w).length))] [] ([] ++ [.inl (5, (cx_all (cx_dvs 5)).getD [])]) = some (none, cx_w1) := by
  have h : cx_made = some (none, cx_w1) := cx_isn_ok cx_facts8.1
  exact h
theorem la_m6 : cx_run 20000 20 181 (mj_kd 181) [(0, .inr (0, cx_w1.length))] [] (cx_w1 ++ [.inl (6, (cx_all (cx_dvs 6)).getD [])]) = some (none, cx_w2) := by
  have h : cx_md2 = some (none, cx_w2) := cx_isn_ok cx_facts8.2.1
  exact h
theorem la_nl1 : (mj_cn 320, 7, 5, 127) ∈ mj_nl := by decide +kernel
theorem la_nl2 : (mj_cn 320, 10, 6, 1134) ∈ mj_nl := by decide +kernel
theorem la_ml1 : (mj_cn 320, 9, 2, 0, 129) ∈ mj_ml := by decide +kernel
theorem la_ml2 : (mj_cn 320, 12, 2, 181, 1136) ∈ mj_ml := by decide +kernel
theorem la_d0 : decode (mj_b 320) 0 = .ok (.new 7, 3) := by decide +kernel
theorem la_d3 : decode (mj_b 320) 3 = .ok (.dup, 1) := by decide +kernel
theorem la_d4 : decode (mj_b 320) 4 = .ok (.invokespecial 9, 3) := by decide +kernel
theorem la_d7 : decode (mj_b 320) 7 = .ok (.astore_n 1, 1) := by decide +kernel
theorem la_d8 : decode (mj_b 320) 8 = .ok (.new 10, 3) := by decide +kernel
theorem la_d11 : decode (mj_b 320) 11 = .ok (.dup, 1) := by decide +kernel
theorem la_d12 : decode (mj_b 320) 12 = .ok (.invokespecial 12, 3) := by decide +kernel
theorem la_d15 : decode (mj_b 320) 15 = .ok (.astore_n 2, 1) := by decide +kernel
theorem la_l4 : mj_l 320 = 4 := by decide +kernel
/-- the law, from its entry -/
theorem la_all (hf : E.2.2.2.1.category = 1) (hT : ∀ σ : List Int, aTb E σ aTabs) {L : Nat} (hL : L ≤ 3584) (hE : (E.2.2.1 2).2.1 = L) :
    ∃ mc ms : Nat, mc ≤ 600000 ∧ ms ≤ 7302249 ∧ MJ E 86 mc ms (320, 0, [(0, .ref (E.2.2.1 2).1)], [], []) (fun v _ => v = some (.int 1)) := by
  obtain ⟨c1, s1, a1, a2, h1⟩ := la_make (E := E) hf (w := []) la_d0 la_d3 la_d4 la_nl1 (by decide) la_ml1 (by decide) (by decide +kernel) (la_getD la_f5) la_m5 rfl
  obtain ⟨c2, s2, b1, b2, h2⟩ := la_make (E := E) hf (w := cx_w1) la_d8 la_d11 la_d12 la_nl2 (by decide) la_ml2 (by decide) (by decide +kernel) (la_getD la_f6) la_m6 rfl
  obtain ⟨z1, z2, z3⟩ := cx_w2_size
  have y1 : ([] : cx_w).length = 0 := rfl
  have y2 : cx_sz ([] : cx_w) = 0 := rfl
  refine ⟨1 + c1 + (1 + c2 + 0), mj_nf 5 + s1 + (mj_nf 6 + s2 + 0), by omega, by omega, h1 [] _ [] _ _ _ ⟨rfl, rfl, fun k c q h _ => by cases h⟩ (fun ext q ws2 hq hW2 => ?_)⟩
  refine MJ.nx la_d7 ⟨rfl, by rw [la_l4]; decide, q, [], rfl, rfl⟩ ?_
  refine h2 _ _ ws2 0 0 _ hW2 (fun ext2 q2 ws3 hq2 hW3 => ?_)
  refine MJ.nx la_d15 ⟨rfl, by rw [la_l4]; decide, q2, [], rfl, rfl⟩ ?_
  have hq : ([] ++ ext)[(0 : Nat)]? = some q := hq
  have hq3 : ([] ++ ext ++ ext2)[(0 : Nat)]? = some q := by rw [List.getElem?_append_left (List.getElem?_eq_some_iff.mp hq).1]; exact hq
  rw [z1] at hq2
  refine la_start hf hT hL hE (aWd_start hW3) (cx_rules hW3) (cx_J hW3) _ [] (fun p hp => ?_) rfl
  simp only [laLv0, List.mem_cons, List.not_mem_nil, or_false] at hp
  rcases hp with rfl | rfl | rfl
  · exact ⟨.ref (E.2.2.1 2).1, by simp [mj_s1, Value.category], by decide, rfl⟩
  · exact ⟨.ref q, by simp [mj_s1, Value.category], q, hq3, rfl⟩
  · exact ⟨.ref q2, by simp [mj_s1], q2, hq2, rfl⟩
end LAW
