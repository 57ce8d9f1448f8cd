/-! THE ABSTRACT EVALUATOR IS RIGHT: a step -/
def gO (E : mj_E) (al : List Nat) (ρ : List Int) : Option av → Option Value → Prop
  | none, v => v = none
  | some x, v => ∃ u, v = some u ∧ gV E al ρ x u
/-- what the abstract step says of the small machine's -/
def aK (E : mj_E) (al : List Nat) (G : aG) (J : va_W → Prop) (w0 : va_W) (ρ : List Int) (d y pc n : Nat) (lv : List (Nat × Value)) (st : List Value) (ws : va_W) (i : Instr) : aRes → Prop
  | .inl nxt => ∃ q ∈ nxt, ∃ r lv2 st2 ws2, gA E al (ρ ++ r) q.2.1 lv2 ∧ gL E al (ρ ++ r) q.2.2.1 st2 ∧ aSt E al G J w0 (ρ ++ r) q.2.2.2 ws2 ∧ mj_I E d y pc lv st ws (mj_nx (q.1.getD (pc + n)) lv2 st2 ws2) n i
  | .inr (.inl (y2, as, rest)) => n = 3 ∧ ∃ as2 rest2, gL E al ρ as as2 ∧ gL E al ρ rest rest2 ∧ mj_I E d y pc lv st ws (.inr (.inl (y2, as2, rest2))) n i
  | .inr (.inr v) => ∃ v2, gO E al ρ v v2 ∧ mj_I E d y pc lv st ws (.inr (.inr (.inl v2))) n i
section AKK
variable {E : mj_E} {al : List Nat} {G : aG} {J : va_W → Prop} {w0 : va_W} {ρ : List Int} {d y pc n : Nat} {lv0 : List (Nat × Value)} {st0 : List Value} {ws : va_W} {i : Instr} {r : aRes}
theorem aK.nx {lv1 : List (Nat × av)} {st1 : List av} {P1 : aP} {rr : List Int} {lv2 : List (Nat × Value)} {st2 : List Value} {ws2 : va_W} (hr : ak_nx lv1 st1 P1 = some r) (h1 : gA E al (ρ ++ rr) lv1 lv2) (h2 : gL E al (ρ ++ rr) st1 st2) (h3 : aSt E al G J w0 (ρ ++ rr) P1 ws2) (hI : mj_I E d y pc lv0 st0 ws (mj_nx (pc + n) lv2 st2 ws2) n i) : aK E al G J w0 ρ d y pc n lv0 st0 ws i r := by
  cases hr
  exact ⟨_, List.mem_singleton.mpr rfl, rr, lv2, st2, ws2, h1, h2, h3, hI⟩
theorem aK.nx0 {lv1 : List (Nat × av)} {st1 : List av} {P1 : aP} {lv2 : List (Nat × Value)} {st2 : List Value} {ws2 : va_W} (hr : ak_nx lv1 st1 P1 = some r) (h1 : gA E al ρ lv1 lv2) (h2 : gL E al ρ st1 st2) (h3 : aSt E al G J w0 ρ P1 ws2) (hI : mj_I E d y pc lv0 st0 ws (mj_nx (pc + n) lv2 st2 ws2) n i) : aK E al G J w0 ρ d y pc n lv0 st0 ws i r :=
  aK.nx (rr := []) hr (by rw [List.append_nil]; exact h1) (by rw [List.append_nil]; exact h2) (by rw [List.append_nil]; exact h3) hI
theorem aK.new {lv1 : List (Nat × av)} {t : List av} {P : aP} {lo hi : Int} {lv2 : List (Nat × Value)} {t2 : List Value} {ws2 : va_W} {m : Int32} (hr : ak_new lv1 t P lo hi = some r) (h1 : gA E al ρ lv1 lv2) (h2 : gL E al ρ t t2) (h3 : aSt E al G J w0 ρ P ws2) (hlo : lo ≤ m.toInt) (hhi : m.toInt ≤ hi) (hI : mj_I E d y pc lv0 st0 ws (mj_nx (pc + n) lv2 (.int m :: t2) ws2) n i) : aK E al G J w0 ρ d y pc n lv0 st0 ws i r := by
  obtain ⟨g1, g2⟩ := h3.new hlo hhi
  exact aK.nx (rr := [m.toInt]) hr h1.mono ⟨_, _, rfl, ⟨m, rfl, g1⟩, h2.mono⟩ g2 hI
theorem aK.num {lv1 : List (Nat × av)} {t : List av} {P : aP} {e : ae} {lv2 : List (Nat × Value)} {t2 : List Value} {ws2 : va_W} {m : Int32} {x : Int} (hr : ak_num lv1 t P e = some r) (h1 : gA E al ρ lv1 lv2) (h2 : gL E al ρ t t2) (h3 : aSt E al G J w0 ρ P ws2) (hx : aV ρ e x) (hm : aI0 ≤ x → x ≤ aI1 → m.toInt = x) (hI : mj_I E d y pc lv0 st0 ws (mj_nx (pc + n) lv2 (.int m :: t2) ws2) n i) : aK E al G J w0 ρ d y pc n lv0 st0 ws i r := by
  unfold ak_num at hr
  split at hr
  · rename_i hf
    obtain ⟨a, b⟩ := h3.1.in hf hx
    exact aK.nx0 hr h1 ⟨_, _, rfl, ⟨m, rfl, by rw [hm a b]; exact hx⟩, h2⟩ h3 hI
  · exact aK.new hr h1 h2 h3 (i32_lo m) (i32_hi m) hI
theorem aK.br {lv1 : List (Nat × av)} {t : List av} {P : aP} {a b : ae} {lv2 : List (Nat × Value)} {t2 : List Value} {x z : Int32} {off : Int} {c : ClassFile.Cond} (hr : ak_br pc off lv1 t P c a b = some r) (h1 : gA E al ρ lv1 lv2) (h2 : gL E al ρ t t2) (h3 : aSt E al G J w0 ρ P ws) (ha : aV ρ a x.toInt) (hb : aV ρ b z.toInt)
    (hI : ∀ tg, mj_go pc off tg → (mj_c1 c x z → mj_I E d y pc lv0 st0 ws (mj_nx tg lv2 t2 ws) n i) ∧ (¬ mj_c1 c x z → mj_I E d y pc lv0 st0 ws (mj_nx (pc + n) lv2 t2 ws) n i)) : aK E al G J w0 ρ d y pc n lv0 st0 ws i r := by
  unfold ak_br at hr
  split at hr
  · cases hr
  · rename_i tg ht
    have hI := hI tg (ak_tg_ok ht)
    cases hr
    by_cases hc : mj_c1 c x z
    · obtain ⟨P2, g1, g2, g3⟩ := aP_cmp_ok h3.1 ha hb c true (c1_iff c x z true (by simp [hc]))
      rw [g1]
      exact ⟨_, List.mem_append_left _ (List.mem_singleton.mpr rfl), [], lv2, t2, ws, by rw [List.append_nil]; exact h1, by rw [List.append_nil]; exact h2, by rw [List.append_nil]; exact h3.pv g2 g3, hI.1 hc⟩
    · obtain ⟨P2, g1, g2, g3⟩ := aP_cmp_ok h3.1 ha hb c false (c1_iff c x z false (by simp [hc]))
      rw [g1]
      exact ⟨_, List.mem_append_right _ (List.mem_singleton.mpr rfl), [], lv2, t2, ws, by rw [List.append_nil]; exact h1, by rw [List.append_nil]; exact h2, by rw [List.append_nil]; exact h3.pv g2 g3, hI.2 hc⟩
theorem aK.bin {lv : List (Nat × av)} {st : List av} {f : ae → ae → List av → Option aRes} (hr : ak_bin lv st f = some r) (hst : gL E al ρ st st0) (h : ∀ (a b : ae) (t : List av) (x z : Int32) (t2 : List Value), st0 = .int z :: .int x :: t2 → gL E al ρ t t2 → aV ρ a x.toInt → aV ρ b z.toInt → f a b t = some r → aK E al G J w0 ρ d y pc n lv0 st0 ws i r) : aK E al G J w0 ρ d y pc n lv0 st0 ws i r := by
  unfold ak_bin at hr
  split at hr
  · obtain ⟨v, u, rfl, ⟨z, rfl, hz⟩, v2, u2, rfl, ⟨x, rfl, hx⟩, m2⟩ := hst
    exact h _ _ _ x z u2 rfl m2 hx hz hr
  · cases hr
theorem aK.st1 (hf : E.2.2.2.1.category = 1) (eL : mj_l y = mj_lx y) {lv : List (Nat × av)} {st : List av} {P : aP} {k : Nat} (hr : ak_st1 y k lv st P = some r) (hlv : gA E al ρ lv lv0) (hst : gL E al ρ st st0) (hS : aSt E al G J w0 ρ P ws)
    (hI : ∀ (v : Int32) (t : List Value), st0 = .int v :: t → k < mj_l y → mj_I E d y pc lv0 st0 ws (mj_nx (pc + n) (mj_s1 lv0 k (.int v)) t ws) n i) : aK E al G J w0 ρ d y pc n lv0 st0 ws i r := by
  unfold ak_st1 at hr
  split at hr
  · obtain ⟨v, u, rfl, ⟨z, rfl, hz⟩, m2⟩ := hst
    split at hr
    · rename_i hk
      exact aK.nx0 hr (hlv.s1 hf (x := .inl _) ⟨z, rfl, hz⟩) m2 hS (hI z u rfl (by rw [eL]; exact hk))
    · cases hr
  · cases hr
theorem aK.st2 (hf : E.2.2.2.1.category = 1) (eL : mj_l y = mj_lx y) {lv : List (Nat × av)} {st : List av} {P : aP} {k : Nat} (hr : ak_st2 y k lv st P = some r) (hlv : gA E al ρ lv lv0) (hst : gL E al ρ st st0) (hS : aSt E al G J w0 ρ P ws)
    (hI : ∀ (v : Int64) (t : List Value), st0 = .long v :: t → k + 1 < mj_l y → mj_I E d y pc lv0 st0 ws (mj_nx (pc + n) (mj_s2 lv0 k (.long v)) t ws) n i) : aK E al G J w0 ρ d y pc n lv0 st0 ws i r := by
  unfold ak_st2 at hr
  split at hr
  · obtain ⟨v, u, rfl, ⟨z, rfl⟩, m2⟩ := hst
    split at hr
    · rename_i hk
      exact aK.nx0 hr (hlv.s2 hf (x := .inr (4, _)) ⟨z, rfl⟩) m2 hS (hI z u rfl (by rw [eL]; exact hk))
    · cases hr
  · rename_i m t
    obtain ⟨v, u, rfl, ⟨rfl, hz⟩, m2⟩ := hst
    split at hr
    · rename_i hk
      exact aK.nx0 hr (hlv.s2 hf (x := .inr (5, m)) ⟨rfl, hz⟩) m2 hS (hI _ u rfl (by rw [eL]; exact hk))
    · cases hr
  · cases hr
/-- a long of either kind -/
theorem gV.long {t m : Nat} (ht : t = 4 ∨ t = 5) {v : Value} (h : gV E al ρ (.inr (t, m)) v) : ∃ z, v = .long z := by
  rcases ht with rfl | rfl
  · exact h
  · exact ⟨_, h.1⟩
theorem aK.l2 {lv : List (Nat × av)} {st : List av} {P : aP} (hr : ak_l2 lv st P = some r) (hlv : gA E al ρ lv lv0) (hst : gL E al ρ st st0) (hS : aSt E al G J w0 ρ P ws)
    (hI : ∀ (a b : Int64) (t : List Value), st0 = .long b :: .long a :: t → ∃ m, mj_I E d y pc lv0 st0 ws (mj_nx (pc + n) lv0 (.long m :: t) ws) n i) : aK E al G J w0 ρ d y pc n lv0 st0 ws i r := by
  unfold ak_l2 at hr
  split at hr
  · obtain ⟨v, u, rfl, hv, v2, u2, rfl, hv2, m2⟩ := hst
    split at hr
    · rename_i ht
      obtain ⟨b, rfl⟩ := hv.long ht.1
      obtain ⟨a, rfl⟩ := hv2.long ht.2
      obtain ⟨m, hm⟩ := hI a b u2 rfl
      exact aK.nx0 hr hlv ⟨_, _, rfl, ⟨m, rfl⟩, m2⟩ hS hm
    · cases hr
  · cases hr
theorem aK.lsh {lv : List (Nat × av)} {st : List av} {P : aP} (hr : ak_lsh lv st P = some r) (hlv : gA E al ρ lv lv0) (hst : gL E al ρ st st0) (hS : aSt E al G J w0 ρ P ws)
    (hI : ∀ (a : Int64) (b : Int32) (t : List Value), st0 = .int b :: .long a :: t → ∃ m, mj_I E d y pc lv0 st0 ws (mj_nx (pc + n) lv0 (.long m :: t) ws) n i) : aK E al G J w0 ρ d y pc n lv0 st0 ws i r := by
  unfold ak_lsh at hr
  split at hr
  · obtain ⟨v, u, rfl, ⟨b, rfl, hb⟩, v2, u2, rfl, hv2, m2⟩ := hst
    split at hr
    · rename_i ht
      obtain ⟨a, rfl⟩ := hv2.long ht
      obtain ⟨m, hm⟩ := hI a b u2 rfl
      exact aK.nx0 hr hlv ⟨_, _, rfl, ⟨m, rfl⟩, m2⟩ hS hm
    · cases hr
  · cases hr
theorem ak_isk_ok {e : ae} {c x : Int} (h : ak_isk e = some c) (hx : aV ρ e x) : x = c := by
  unfold ak_isk at h
  split at h
  · rename_i e1
    cases h
    have hx : aVl ρ e.1 (x - e.2) := hx
    rw [e1] at hx
    have : x - e.2 = 0 := hx
    omega
  · cases h
theorem aD_fld_ok {lay : List aD} {c ci k : Nat} {f : Nat ⊕ (Int × Int)} (h : aD_fld lay c ci k = some f) : ∃ fs, lay[c]? = some (.inl (ci, fs)) ∧ fs[k]? = some f := by
  unfold aD_fld at h
  split at h
  · rename_i ci2 fs hl
    split at h
    · rename_i e
      subst e
      exact ⟨fs, hl, h⟩
    · cases h
  · cases h
theorem aD_row_ok {lay : List aD} {c kd N : Nat} {cols : List (Int × Int)} (h : aD_row lay c kd = some (N, cols)) : lay[c]? = some (.inr (kd, N, cols)) := by
  unfold aD_row at h
  split at h
  · rename_i kd2 N2 cols2 hl
    split at h
    · rename_i e
      subst e
      cases h
      exact hl
    · cases h
  · cases h
theorem ak_callee (hf : E.2.2.2.1.category = 1) {y2 na : Nat} {as rest : List av} {as2 rest2 : List Value} (hy : y2 < mj_lawNo) (ha : gL E al ρ as as2) (hr : gL E al ρ rest rest2) (hl : as.length = na) (h : ak_okc y2 as rest = true) : mj_callee y2 as2 rest2 na := by
  simp only [ak_okc, Bool.and_eq_true, decide_eq_true_eq] at h
  have e := (mj_li_use hy).1
  exact ⟨hy, by rw [← ha.len]; exact hl, by rw [ha.sl hf, e]; exact h.1.1, by rw [e]; exact h.1.2, by rw [hr.sum hf]; exact h.2⟩
theorem fit_bool {x : Int32} (h0 : 0 ≤ x.toInt) (h1 : x.toInt ≤ 1) : x = 0 ∨ x = 1 := by
  have : x.toInt = 0 ∨ x.toInt = 1 := by omega
  rcases this with h | h
  · exact Or.inl (Int32.toInt_inj.mp h)
  · exact Or.inr (Int32.toInt_inj.mp h)
theorem fit_byte {x : Int32} (h0 : -128 ≤ x.toInt) (h1 : x.toInt ≤ 127) : x.toInt8.toInt32 = x := by
  apply Int32.toInt_inj.mp
  rw [Int8.toInt_toInt32, Int32.toInt_toInt8, Int.bmod_def]
  split <;> omega
theorem fit_char {x : Int32} (h0 : 0 ≤ x.toInt) (h1 : x.toInt ≤ 65535) : x.toUInt32.toUInt16.toUInt32.toInt32 = x := by
  have e2 : x.toInt = x.toBitVec.toInt := rfl
  rw [e2, BitVec.toInt_eq_toNat_cond] at h0 h1
  have h2 := x.toBitVec.isLt
  apply Int32.toBitVec_inj.mp
  have e : x.toUInt32.toUInt16.toUInt32.toInt32.toBitVec = (x.toBitVec.setWidth 16).setWidth 32 := rfl
  rw [e]
  apply BitVec.eq_of_toNat_eq
  rw [BitVec.toNat_setWidth, BitVec.toNat_setWidth]
  split at h0 <;> omega
end AKK
