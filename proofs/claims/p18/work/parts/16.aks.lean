/-! THE ABSTRACT EVALUATOR IS RIGHT: what a step needs -/
theorem aWd.at {E : mj_E} {al : List Nat} {lay : List aD} {ws : va_W} {c a : Nat} {D : aD} (h : aWd E al lay ws) (hD : lay[c]? = some D) (ha : al[c]? = some a) : ∃ e, ws[c]? = some (a, e) ∧ aC E al D e := by
  obtain ⟨h1, h2⟩ := h
  obtain ⟨⟨b, e⟩, g1, g2⟩ := h2 c D hD
  rw [← h1, List.getElem?_map, g1] at ha
  cases ha
  exact ⟨e, g1, g2⟩
theorem aWd.set {E : mj_E} {al : List Nat} {lay : List aD} {ws : va_W} {c a : Nat} {e e0 : va_E} (h : aWd E al lay ws) (ha : ws[c]? = some (a, e0)) (hc : ∀ D, lay[c]? = some D → aC E al D e) : aWd E al lay (ws.set c (a, e)) := by
  obtain ⟨h1, h2⟩ := h
  have hl := (List.getElem?_eq_some_iff.mp ha).1
  refine ⟨?_, fun k D hD => ?_⟩
  · rw [← h1]
    apply List.ext_getElem?
    intro j
    rw [List.getElem?_map, List.getElem?_map]
    by_cases e : j = c
    · subst e
      rw [List.getElem?_set_self hl, ha]; rfl
    · rw [List.getElem?_set_ne (Ne.symm e)]
  · by_cases e : k = c
    · subst e
      exact ⟨_, List.getElem?_set_self hl, hc D hD⟩
    · obtain ⟨q, g1, g2⟩ := h2 k D hD
      exact ⟨q, by rw [List.getElem?_set_ne (Ne.symm e)]; exact g1, g2⟩
theorem aRs.obj {rules : List aRule} {ws : va_W} {c a : Nat} {e : Nat × List Value} (h : aRs rules ws) : aRs rules (ws.set c (a, .inr e)) := by
  intro r hr a2 N f cl hw
  by_cases e1 : r.1 = c
  · rw [e1] at hw
    by_cases hl : c < ws.length
    · rw [List.getElem?_set_self hl] at hw
      cases hw
    · rw [List.getElem?_eq_none (by simp; omega)] at hw
      cases hw
  · rw [List.getElem?_set_ne (Ne.symm e1)] at hw
    exact h r hr a2 N f cl hw
theorem aRs.other {rules : List aRule} {ws : va_W} {c : Nat} {q : Nat × va_E} (h : aRs rules ws) (hc : rules.all (fun r => !(r.1 == c)) = true) : aRs rules (ws.set c q) := by
  intro r hr a2 N f cl hw
  have := List.all_eq_true.mp hc r hr
  simp only [Bool.not_eq_true', beq_eq_false_iff_ne] at this
  rw [List.getElem?_set_ne (Ne.symm this)] at hw
  exact h r hr a2 N f cl hw
theorem aRs.long {rules : List aRule} {ws : va_W} {c a : Nat} {cl : ClassId} {N : Nat} {g : Nat → Int64} (h : aRs rules ws) : aRs rules (ws.set c (a, .inl (cl, N, .inr (.inl g)))) := by
  intro r hr a2 N f cl hw
  by_cases e1 : r.1 = c
  · rw [e1] at hw
    by_cases hl : c < ws.length
    · rw [List.getElem?_set_self hl] at hw
      cases hw
    · rw [List.getElem?_eq_none (by simp; omega)] at hw
      cases hw
  · rw [List.getElem?_set_ne (Ne.symm e1)] at hw
    exact h r hr a2 N f cl hw
/-! columns -/
theorem aVl.mod {ρ : List Int} (s : Int) : ∀ {l : List (Nat × Int)} {v : Int}, aVl ρ l v → l.all (fun q => decide (q.2 % s = 0)) = true → v % s = 0
  | [], v, h, _ => by rw [show v = 0 from h]; exact Int.zero_emod s
  | (k, a) :: t, v, ⟨x, w, e1, h1, e2⟩, h => by
    rw [List.all_cons, Bool.and_eq_true] at h
    have ha := of_decide_eq_true h.1
    have ih := aVl.mod s h1 h.2
    rw [e2]
    have d1 : s ∣ a * x := Int.dvd_mul_of_dvd_left (Int.dvd_of_emod_eq_zero ha) 
    have d2 : s ∣ w := Int.dvd_of_emod_eq_zero ih
    exact Int.emod_eq_zero_of_dvd (Int.dvd_add d1 d2)
theorem ae_col_ok {ρ : List Int} {s k : Nat} {e : ae} {i : Int} (h : ae_col s e = some k) (hi : aV ρ e i) (hs : 0 < s) (hi0 : 0 ≤ i) : i.toNat % s = k := by
  unfold ae_col at h
  split at h
  · rename_i hall
    cases h
    have hm := aVl.mod (s : Int) hi hall
    have e1 : i % (s : Int) = e.2 % (s : Int) := by
      have : i = (i - e.2) + e.2 := by omega
      rw [this, Int.add_emod, hm, Int.zero_add, Int.emod_emod_of_dvd _ (Int.dvd_refl _)]
    have e3 : ((i.toNat % s : Nat) : Int) = i % (s : Int) := by
      rw [Int.natCast_emod, Int.toNat_of_nonneg hi0]
    omega
  · cases h
theorem aD_join_ok : ∀ {l : List (Int × Int)} {b : Int × Int}, aD_join l = some b → ∀ c ∈ l, b.1 ≤ c.1 ∧ c.2 ≤ b.2
  | [], _, h => by cases h
  | [q], b, h => by
    cases h
    intro c hc
    rw [List.mem_singleton] at hc
    subst hc
    exact ⟨Int.le_refl _, Int.le_refl _⟩
  | (lo, hi) :: q2 :: t, b, h => by
    unfold aD_join at h
    cases hj : aD_join (q2 :: t) with
    | none => rw [hj] at h; cases h
    | some b2 =>
      rw [hj] at h
      cases h
      intro c hc
      rcases List.mem_cons.mp hc with rfl | hc
      · refine ⟨?_, ?_⟩
        · show (if lo < b2.1 then lo else b2.1) ≤ lo
          split <;> omega
        · show hi ≤ (if b2.2 < hi then hi else b2.2)
          split <;> omega
      · have := aD_join_ok hj c hc
        refine ⟨?_, ?_⟩
        · show (if lo < b2.1 then lo else b2.1) ≤ c.1
          split <;> omega
        · show c.2 ≤ (if b2.2 < hi then hi else b2.2)
          split <;> omega
theorem aD_cols_ok {ρ : List Int} {cols : List (Int × Int)} {e : ae} {i : Int} {b : Int × Int} {N : Nat} {f : Nat → Int32} (h : aD_cols cols e = some b) (hi : aV ρ e i) (h0 : 0 ≤ i) (hN : i.toNat < N) (hf : aRw cols N f) : b.1 ≤ (f i.toNat).toInt ∧ (f i.toNat).toInt ≤ b.2 := by
  unfold aD_cols at h
  split at h
  · rename_i k hk
    have hl : 0 < cols.length := by
      have := (List.getElem?_eq_some_iff.mp h).1
      omega
    have := ae_col_ok hk hi hl h0
    exact hf i.toNat b hN (by rw [this]; exact h)
  · have hl : 0 < cols.length := by
      cases cols with
      | nil => cases h
      | cons => simp
    have hm : i.toNat % cols.length < cols.length := Nat.mod_lt _ hl
    have hg : cols[i.toNat % cols.length]? = some cols[i.toNat % cols.length] := List.getElem?_eq_some_iff.mpr ⟨hm, rfl⟩
    have a := hf i.toNat _ hN hg
    have c := aD_join_ok h _ (List.getElem_mem hm)
    omega
theorem aRw.put {cols : List (Int × Int)} {N : Nat} {f : Nat → Int32} (h : aRw cols N f) {i : Nat} {x : Int32} (hx : ∀ b, cols[i % cols.length]? = some b → b.1 ≤ x.toInt ∧ x.toInt ≤ b.2) : aRw cols N (upd f i x) := by
  intro j b hj hb
  unfold upd
  split
  · rename_i e
    subst e
    exact hx b hb
  · exact h j b hj hb
/-! rules -/
def aRok (rules : List aRule) : Bool := rules.all (fun r => decide (r.2.2.1 < r.2.1) && decide (r.2.2.2.2.1 < r.2.1) && decide (r.2.2.1 ≠ r.2.2.2.2.1))
section AKR
variable {E : mj_E} {al : List Nat} {G : aG} {J : va_W → Prop} {w0 : va_W} {ρ : List Int} {P : aP} {ws : va_W}
theorem aR_get_ok (h : aSt E al G J w0 ρ P ws) (hR : aRok G.2.1 = true) {c a N : Nat} {cl : ClassId} {f : Nat → Int32} {ix : ae} {i : Int} {b : Int × Int} (hc : c < 1000000) (hw : ws[c]? = some (a, .inl (cl, N, .inl f))) (hi : aV ρ ix i) (h0 : 0 ≤ i) (hN : i.toNat < N) (hb : b.1 ≤ (f i.toNat).toInt ∧ (f i.toNat).toInt ≤ b.2) :
    (aR_get G.2.1 P c ix b).1 ≤ (f i.toNat).toInt ∧ (f i.toNat).toInt ≤ (aR_get G.2.1 P c ix b).2 := by
  unfold aR_get
  split
  · exact hb
  · rename_i r hr
    have hm := List.mem_of_find?_eq_some hr
    have hrc := List.find?_some hr
    rw [beq_iff_eq] at hrc
    have ok := List.all_eq_true.mp hR r hm
    simp only [Bool.and_eq_true, decide_eq_true_eq] at ok
    obtain ⟨⟨ok1, ok2⟩, ok3⟩ := ok
    split
    · rename_i hcol
      have e1 := ae_col_ok hcol hi (by omega) h0
      split
      · rename_i w hg
        split
        · rename_i he
          obtain ⟨x, g1, g2, g3⟩ := h.known hg (hi.inc _) hc
          have ex : x = r.2.2.2.1 := h.1.eq he g1 (aV.k _)
          have hj : i.toNat = r.2.1 * (i.toNat / r.2.1) + r.2.2.2.2.1 := by rw [← e1]; exact (Nat.div_add_mod _ _).symm
          have hj2 : (i + ((r.2.2.1 : Int) - (r.2.2.2.2.1 : Int))).toNat = r.2.1 * (i.toNat / r.2.1) + r.2.2.1 := by omega
          rw [hj2] at g3
          rcases g3 with ⟨_, _, _, _, z1, _⟩ | ⟨a2, cl2, N2, f2, z1, z2, z3⟩
          · rw [hw] at z1; cases z1
          · rw [hw] at z1
            cases z1
            have := h.2.2.2.2.2.1 r hm a N f cl (by rw [hrc]; exact hw) (i.toNat / r.2.1) (by rw [z3, ex]) z2 (by rw [← hj]; exact hN)
            rw [← hj] at this
            exact this
        · exact hb
      · exact hb
    · exact hb
theorem aR_put_ok (h : aSt E al G J w0 ρ P ws) (hR : aRok G.2.1 = true) {c a N : Nat} {cl : ClassId} {f : Nat → Int32} {ix v : ae} {i : Int} {x : Int32} (hc : c < 1000000) (hw : ws[c]? = some (a, .inl (cl, N, .inl f))) (hi : aV ρ ix i) (hv : aV ρ v x.toInt) (h0 : 0 ≤ i) (hp : aR_put G.2.1 P c ix v = true) :
    aRs G.2.1 (ws.set c (a, .inl (cl, N, .inl (upd f i.toNat x)))) := by
  intro r hr a2 N2 f2 cl2 hw2 j
  have hl := (List.getElem?_eq_some_iff.mp hw).1
  by_cases e1 : r.1 = c
  case neg =>
    rw [List.getElem?_set_ne (Ne.symm e1)] at hw2
    exact h.2.2.2.2.2.1 r hr a2 N2 f2 cl2 hw2 j
  rw [e1, List.getElem?_set_self hl] at hw2
  cases hw2
  have old := h.2.2.2.2.2.1 r hr a N f cl (by rw [e1]; exact hw) j
  have ok := List.all_eq_true.mp hR r hr
  simp only [Bool.and_eq_true, decide_eq_true_eq] at ok
  obtain ⟨⟨ok1, ok2⟩, ok3⟩ := ok
  have hp := List.all_eq_true.mp hp r hr
  simp only [e1, beq_self_eq_true, Bool.not_true, Bool.false_or] at hp
  intro t1 t2 t3
  have get : ∀ {m : Int} {w : ae}, aH_get P.2.2.2.1 c (ae_inc ix m) = some w → ∃ y, aV ρ w y ∧ y = (f (i + m).toNat).toInt := fun {m w} hg => by
    obtain ⟨y, g1, g2, g3⟩ := h.known hg (hi.inc _) hc
    rcases g3 with ⟨_, _, _, _, z1, _⟩ | ⟨a3, cl3, N3, f3, z1, z2, z3⟩
    · rw [hw] at z1; cases z1
    · rw [hw] at z1
      cases z1
      exact ⟨y, g1, z3.symm⟩
  by_cases eA : r.2.1 * j + r.2.2.1 = i.toNat
  · have hmod : i.toNat % r.2.1 = r.2.2.1 := by rw [← eA, Nat.mul_add_mod]; exact Nat.mod_eq_of_lt ok1
    rw [eA] at t1
    have hx : x.toInt = r.2.2.2.1 := by rw [← t1]; simp [upd]
    have hB : r.2.1 * j + r.2.2.2.2.1 ≠ i.toNat := by omega
    have hfB : upd f i.toNat x (r.2.1 * j + r.2.2.2.2.1) = f (r.2.1 * j + r.2.2.2.2.1) := by simp [upd, hB]
    rw [hfB]
    split at hp
    · rw [Bool.and_eq_true] at hp
      exact absurd (by omega) (h.1.isnz hp.1 (hv.inc _))
    · rename_i k hk
      have := ae_col_ok hk hi (by omega) h0
      rw [Bool.and_eq_true] at hp
      have hp1 := hp.1
      have ek : k = r.2.2.1 := by omega
      subst ek
      simp only [beq_self_eq_true, Bool.not_true, Bool.false_or, Bool.or_eq_true] at hp1
      rcases hp1 with hp1 | hp1
      · exact absurd (by omega) (h.1.isnz hp1 (hv.inc _))
      · split at hp1
        · rename_i w hg
          obtain ⟨y, g1, g2⟩ := get hg
          have e3 : (i + ((r.2.2.2.2.1 : Int) - (r.2.2.1 : Int))).toNat = r.2.1 * j + r.2.2.2.2.1 := by omega
          rw [e3] at g2
          rw [← g2]
          exact h.1.in hp1 g1
        · cases hp1
  · have hfA : upd f i.toNat x (r.2.1 * j + r.2.2.1) = f (r.2.1 * j + r.2.2.1) := by simp [upd, eA]
    rw [hfA] at t1
    by_cases eB : r.2.1 * j + r.2.2.2.2.1 = i.toNat
    · have hmod : i.toNat % r.2.1 = r.2.2.2.2.1 := by rw [← eB, Nat.mul_add_mod]; exact Nat.mod_eq_of_lt ok2
      rw [eB]
      have hx : upd f i.toNat x i.toNat = x := by simp [upd]
      rw [hx]
      split at hp
      · rw [Bool.and_eq_true] at hp
        exact h.1.in hp.2 hv
      · rename_i k hk
        have := ae_col_ok hk hi (by omega) h0
        rw [Bool.and_eq_true] at hp
        have hp2 := hp.2
        have ek : k = r.2.2.2.2.1 := by omega
        subst ek
        simp only [beq_self_eq_true, Bool.not_true, Bool.false_or, Bool.or_eq_true] at hp2
        rcases hp2 with hp2 | hp2
        · exact h.1.in hp2 hv
        · split at hp2
          · rename_i w hg
            obtain ⟨y, g1, g2⟩ := get hg
            have e3 : (i + ((r.2.2.1 : Int) - (r.2.2.2.2.1 : Int))).toNat = r.2.1 * j + r.2.2.1 := by omega
            rw [e3] at g2
            exact absurd (by omega) (h.1.isnz hp2 (g1.inc _))
          · cases hp2
    · have hfB : upd f i.toNat x (r.2.1 * j + r.2.2.2.2.1) = f (r.2.1 * j + r.2.2.2.2.1) := by simp [upd, eB]
      rw [hfB]
      exact old t1 t2 t3
end AKR
/-! switches -/
theorem ak_tg_ok {pc t : Nat} {off : Int} (h : ak_tg pc off = some t) : mj_go pc off t := by
  unfold ak_tg at h
  split at h
  · cases h
  · cases h
    show (pc : Int) + off = ((((pc : Int) + off).toNat : Nat) : Int)
    omega
theorem c1_iff (c : ClassFile.Cond) (a b : Int32) (t : Bool) (h : mj_c1 c a b ↔ t = true) : aCm c a.toInt b.toInt t := by
  cases c <;> simp only [mj_c1, Int32.lt_iff_toInt_lt, Int32.le_iff_toInt_le, ← Int32.toInt_inj] at h <;> exact h
section AKW
variable {E : mj_E} {al : List Nat} {G : aG} {J : va_W → Prop} {w0 : va_W} {ρ : List Int} {ws : va_W}
theorem ak_sw_ok {pc : Nat} {df : Int} {v : ae} {lv : List (Nat × av)} {st : List av} {x : Int} (hv : aV ρ v x) : ∀ (prs : List (Int × Int)) (P : aP) (l : List (Option Nat × List (Nat × av) × List av × aP)), ak_sw pc df v lv st prs P = some l → aSt E al G J w0 ρ P ws →
    ∃ q ∈ l, ∃ tg, q.1 = some tg ∧ mj_go pc (Op.lookupswitch.offset prs df x) tg ∧ q.2.1 = lv ∧ q.2.2.1 = st ∧ aSt E al G J w0 ρ q.2.2.2 ws
  | [], P, l, h, hS => by
    unfold ak_sw at h
    split at h
    · cases h
    · rename_i t ht
      cases h
      exact ⟨_, List.mem_singleton.mpr rfl, t, rfl, ak_tg_ok ht, rfl, rfl, hS⟩
  | (k, off) :: r, P, l, h, hS => by
    unfold ak_sw at h
    split at h
    · cases h
    · rename_i t ht
      split at h
      · cases h
      · rename_i l2 hl2
        cases h
        rw [Op.lookupswitch.offset_cons]
        by_cases e : k = x
        · rw [if_pos e]
          obtain ⟨P2, g1, g2, g3⟩ := aP_cmp_ok hS.1 hv (aV.k k) .eq true (by show (x = k ↔ true = true); simp [e])
          rw [g1]
          exact ⟨_, List.mem_append_left _ (List.mem_singleton.mpr rfl), t, rfl, ak_tg_ok ht, rfl, rfl, hS.pv g2 g3⟩
        · rw [if_neg e]
          obtain ⟨P2, g1, g2, g3⟩ := aP_cmp_ok hS.1 hv (aV.k k) .ne true (by show (x ≠ k ↔ true = true); simp; omega)
          rw [g1] at hl2
          obtain ⟨q, m1, m2⟩ := ak_sw_ok hv r P2 l2 hl2 (hS.pv g2 g3)
          exact ⟨q, List.mem_append_right _ m1, m2⟩
end AKW
theorem ak_zip_off (df x : Int) : ∀ (l : List Int) (lo : Int), (lo ≤ x → x < lo + l.length → l[(x - lo).toNat]? = some (Op.lookupswitch.offset (ak_zip lo l) df x)) ∧ (x < lo ∨ lo + l.length ≤ x → Op.lookupswitch.offset (ak_zip lo l) df x = df)
  | [], lo => ⟨fun h1 h2 => by simp at h2; omega, fun _ => rfl⟩
  | o :: t, lo => by
    have ih := ak_zip_off df x t (lo + 1)
    unfold ak_zip
    rw [Op.lookupswitch.offset_cons, List.length_cons]
    by_cases e : lo = x
    · rw [if_pos e]
      refine ⟨fun _ _ => by subst e; simp, fun h => by omega⟩
    · rw [if_neg e]
      refine ⟨fun h1 h2 => ?_, fun h => ih.2 (by omega)⟩
      have := ih.1 (by omega) (by omega)
      rw [show (x - lo).toNat = (x - (lo + 1)).toNat + 1 by omega, List.getElem?_cons_succ]
      exact this
