/-! THE ABSTRACT EVALUATOR IS RIGHT: every instruction -/
section AKO
variable {E : mj_E} {al : List Nat} {G : aG} {J : va_W → Prop} {w0 : va_W} {ρ : List Int} {d y pc n : Nat} {lv : List (Nat × av)} {st : List av} {P : aP} {lv0 : List (Nat × Value)} {st0 : List Value} {ws : va_W} {r : aRes}
/-- a slot of a row of ints or booleans, read -/
theorem ak_rd {rules : List aRule} (hS : aSt E al G J w0 ρ P ws) (hrules : rules = [] ∨ (rules = G.2.1 ∧ aRok G.2.1 = true)) {c a N : Nat} {cl : ClassId} {f : Nat → Int32} {cols : List (Int × Int)} {ix : ae} {i : Int32} {b : Int × Int} (hc : c < 1000000) (hw : ws[c]? = some (a, .inl (cl, N, .inl f))) (hf : aRw cols N f) (hi : aV ρ ix i.toInt) (hin : aP_in P 0 ((N : Int) - 1) ix = true) (hb : aD_cols cols ix = some b) :
    vp_in i N ∧ ∃ r, aV (ρ ++ r) (aP_read rules P c ix b).1 (f i.toNatClampNeg).toInt ∧ aSt E al G J w0 (ρ ++ r) (aP_read rules P c ix b).2 ws := by
  obtain ⟨h1, h2⟩ := hS.1.in hin hi
  have e : i.toNatClampNeg = i.toInt.toNat := rfl
  have hN : i.toInt.toNat < N := by omega
  have hbd := aD_cols_ok hb hi h1 hN hf
  refine ⟨i32_in h1 h2, ?_⟩
  rw [e]
  refine hS.read hc hi h1 (Or.inr ⟨a, cl, N, f, hw, hN, rfl⟩) ?_
  rcases hrules with rfl | ⟨rfl, hR⟩
  · exact hbd
  · exact aR_get_ok hS hR hc hw hi h1 hN hbd
set_option maxHeartbeats 8000000 in
set_option maxRecDepth 100000 in
theorem ak_S_ok (hf : E.2.2.2.1.category = 1) (hL : G.1.length < 1000000) (hR : aRok G.2.1 = true) (hJ : ∀ w w' : va_W, (∀ c ∈ G.2.2.2.1, aE1 c w w') → J w → J w') (eL : mj_l y = mj_lx y) (eR : mj_r y = mj_rx y)
    (hlv : gA E al ρ lv lv0) (hst : gL E al ρ st st0) (hS : aSt E al G J w0 ρ P ws) {i : Instr} (hn : mj_isw i = true ∨ n = mj_len i) (h : ak_S G d y pc lv st P i = some r) : aK E al G J w0 ρ d y pc n lv0 st0 ws i r := by
  have hc6 : ∀ {c : Nat} {D : aD}, G.1[c]? = some D → c < 1000000 := fun h => by
    have := (List.getElem?_eq_some_iff.mp h).1
    omega
  cases i
  case iconst k =>
    replace hn := hn.resolve_left Bool.false_ne_true; subst hn
    dsimp only [ak_S] at h
    split at h
    · rename_i hk
      exact aK.nx0 h hlv ⟨_, _, rfl, ⟨Int32.ofInt k, rfl, by rw [i32_of hk.1 hk.2]; exact aV.k k⟩, hst⟩ hS ⟨rfl, rfl⟩
    · cases h
  case bipush k =>
    replace hn := hn.resolve_left Bool.false_ne_true; subst hn
    dsimp only [ak_S] at h
    split at h
    · rename_i hk
      have e : (Int8.ofInt k).toInt32.toInt = k := by
        rw [Int8.toInt_toInt32, Int8.toInt_ofInt, show Int8.size = 256 from rfl, Int.bmod_def]
        split <;> omega
      exact aK.nx0 h hlv ⟨_, _, rfl, ⟨(Int8.ofInt k).toInt32, rfl, by rw [e]; exact aV.k k⟩, hst⟩ hS ⟨rfl, rfl⟩
    · cases h
  case sipush k =>
    replace hn := hn.resolve_left Bool.false_ne_true; subst hn
    dsimp only [ak_S] at h
    split at h
    · rename_i hk
      have e : (Int16.ofInt k).toInt32.toInt = k := by
        rw [Int16.toInt_toInt32, Int16.toInt_ofInt, show Int16.size = 65536 from rfl, Int.bmod_def]
        split <;> omega
      exact aK.nx0 h hlv ⟨_, _, rfl, ⟨(Int16.ofInt k).toInt32, rfl, by rw [e]; exact aV.k k⟩, hst⟩ hS ⟨rfl, rfl⟩
    · cases h
  case lconst k =>
    replace hn := hn.resolve_left Bool.false_ne_true; subst hn
    exact aK.nx0 h hlv ⟨_, _, rfl, ⟨_, rfl⟩, hst⟩ hS ⟨rfl, rfl⟩
  case iload_n k =>
    replace hn := hn.resolve_left Bool.false_ne_true; subst hn
    dsimp only [ak_S] at h
    split at h
    · rename_i e he
      obtain ⟨v, m1, m, rfl, m2⟩ := hlv.ld he
      exact aK.nx0 h hlv ⟨_, _, rfl, ⟨m, rfl, m2⟩, hst⟩ hS ⟨rfl, m, m1, rfl⟩
    · cases h
  case iload k =>
    replace hn := hn.resolve_left Bool.false_ne_true; subst hn
    dsimp only [ak_S] at h
    split at h
    · rename_i e he
      obtain ⟨v, m1, m, rfl, m2⟩ := hlv.ld he
      exact aK.nx0 h hlv ⟨_, _, rfl, ⟨m, rfl, m2⟩, hst⟩ hS ⟨rfl, m, m1, rfl⟩
    · cases h
  case lload_n k =>
    replace hn := hn.resolve_left Bool.false_ne_true; subst hn
    dsimp only [ak_S] at h
    split at h
    · rename_i e he
      obtain ⟨v, m1, m2⟩ := hlv.ld he
      obtain ⟨z, rfl⟩ := m2.long (Or.inl rfl)
      exact aK.nx0 h hlv ⟨_, _, rfl, m2, hst⟩ hS ⟨rfl, z, m1, rfl⟩
    · rename_i e he
      obtain ⟨v, m1, m2⟩ := hlv.ld he
      obtain ⟨z, rfl⟩ := m2.long (Or.inr rfl)
      exact aK.nx0 h hlv ⟨_, _, rfl, m2, hst⟩ hS ⟨rfl, z, m1, rfl⟩
    · cases h
  case lload k =>
    replace hn := hn.resolve_left Bool.false_ne_true; subst hn
    dsimp only [ak_S] at h
    split at h
    · rename_i e he
      obtain ⟨v, m1, m2⟩ := hlv.ld he
      obtain ⟨z, rfl⟩ := m2.long (Or.inl rfl)
      exact aK.nx0 h hlv ⟨_, _, rfl, m2, hst⟩ hS ⟨rfl, z, m1, rfl⟩
    · rename_i e he
      obtain ⟨v, m1, m2⟩ := hlv.ld he
      obtain ⟨z, rfl⟩ := m2.long (Or.inr rfl)
      exact aK.nx0 h hlv ⟨_, _, rfl, m2, hst⟩ hS ⟨rfl, z, m1, rfl⟩
    · cases h
  case aload_n k =>
    replace hn := hn.resolve_left Bool.false_ne_true; subst hn
    dsimp only [ak_S] at h
    split at h
    · rename_i t m he
      split at h
      · rename_i ht
        obtain ⟨v, m1, m2⟩ := hlv.ld he
        have : ∃ a, v = .ref a := by
          rcases t with _ | _ | _ | _ | t
          · obtain ⟨a, _, e⟩ := m2; exact ⟨a, e⟩
          · exact ⟨_, m2.2⟩
          · exact ⟨_, m2.2⟩
          · exact ⟨_, m2.2⟩
          · omega
        obtain ⟨a, rfl⟩ := this
        exact aK.nx0 h hlv ⟨_, _, rfl, m2, hst⟩ hS ⟨rfl, a, m1, rfl⟩
      · cases h
    · cases h
  case istore_n k =>
    replace hn := hn.resolve_left Bool.false_ne_true; subst hn
    exact aK.st1 hf eL h hlv hst hS (fun v t e1 e2 => ⟨rfl, e2, v, t, e1, rfl⟩)
  case istore k =>
    replace hn := hn.resolve_left Bool.false_ne_true; subst hn
    exact aK.st1 hf eL h hlv hst hS (fun v t e1 e2 => ⟨rfl, e2, v, t, e1, rfl⟩)
  case lstore_n k =>
    replace hn := hn.resolve_left Bool.false_ne_true; subst hn
    exact aK.st2 hf eL h hlv hst hS (fun v t e1 e2 => ⟨rfl, e2, v, t, e1, rfl⟩)
  case lstore k =>
    replace hn := hn.resolve_left Bool.false_ne_true; subst hn
    exact aK.st2 hf eL h hlv hst hS (fun v t e1 e2 => ⟨rfl, e2, v, t, e1, rfl⟩)
  case iinc k c =>
    replace hn := hn.resolve_left Bool.false_ne_true; subst hn
    dsimp only [ak_S] at h
    split at h
    · rename_i e he
      obtain ⟨v, m1, m, rfl, m2⟩ := hlv.ld he
      split at h
      · rename_i hk
        have hI : mj_I E d y pc lv0 st0 ws (mj_nx (pc + 3) (mj_s1 lv0 k (.int (m + Int32.ofInt c))) st0 ws) 3 (.iinc k c) := ⟨rfl, by rw [eL]; exact hk, m, m1, rfl⟩
        split at h
        · rename_i hfit
          obtain ⟨a, b⟩ := hS.1.in hfit (m2.inc c)
          have e1 : (m + Int32.ofInt c).toInt = m.toInt + c := by
            rw [Int32.toInt_add, Int32.toInt_ofInt]
            rw [show (2 ^ 32 : Nat) = 4294967296 from rfl, Int.add_bmod_bmod]
            exact w32 a b
          exact aK.nx0 h (hlv.s1 hf (x := .inl _) ⟨_, rfl, by rw [e1]; exact m2.inc c⟩) hst hS hI
        · obtain ⟨g1, g2⟩ := hS.new (i32_lo (m + Int32.ofInt c)) (i32_hi (m + Int32.ofInt c))
          exact aK.nx h (hlv.mono.s1 hf (x := .inl _) ⟨_, rfl, g1⟩) hst.mono g2 hI
      · cases h
    · cases h
  case iadd =>
    replace hn := hn.resolve_left Bool.false_ne_true; subst hn
    exact aK.bin (lv := lv) h hst (fun a b t x z t2 e1 e2 ha hb h => aK.num h hlv e2 hS (ha.add hb) (fun h1 h2 => i32_add rfl h1 h2) ⟨rfl, x, z, t2, e1, rfl⟩)
  case isub =>
    replace hn := hn.resolve_left Bool.false_ne_true; subst hn
    refine aK.bin (lv := lv) h hst (fun a b t x z t2 e1 e2 ha hb h => ?_)
    have hI : mj_I E d y pc lv0 st0 ws (mj_nx (pc + 1) lv0 (.int (x - z) :: t2) ws) 1 .isub := ⟨rfl, x, z, t2, e1, rfl⟩
    split at h
    · rename_i hfit
      obtain ⟨g1, g2⟩ := hS.1.in hfit (ha.sub hb)
      exact aK.nx0 h hlv ⟨_, _, rfl, ⟨x - z, rfl, by rw [i32_sub rfl g1 g2]; exact ha.sub hb⟩, e2⟩ hS hI
    · obtain ⟨g1, g2⟩ := hS.new (i32_lo (x - z)) (i32_hi (x - z))
      dsimp only at h
      split at h
      · rename_i hz
        have hne := i32_sub_nz (hS.1.isnz hz (ha.sub hb))
        refine aK.nx h hlv.mono ⟨_, _, rfl, ⟨x - z, rfl, g1⟩, e2.mono⟩ (g2.pv (P2 := (_, _, _ :: _, _)) ⟨g2.1.1, g2.1.2.1, fun f hf => ?_⟩ rfl) hI
        rcases List.mem_cons.mp hf with rfl | hf
        · exact ⟨_, g1, hne⟩
        · exact g2.1.2.2 f hf
      · exact aK.nx h hlv.mono ⟨_, _, rfl, ⟨x - z, rfl, g1⟩, e2.mono⟩ g2 hI
  case imul =>
    replace hn := hn.resolve_left Bool.false_ne_true; subst hn
    refine aK.bin (lv := lv) h hst (fun a b t x z t2 e1 e2 ha hb h => ?_)
    have hI : mj_I E d y pc lv0 st0 ws (mj_nx (pc + 1) lv0 (.int (x * z) :: t2) ws) 1 .imul := ⟨rfl, x, z, t2, e1, rfl⟩
    unfold ak_mul at h
    split at h
    · rename_i c hc
      have e3 := ak_isk_ok hc ha
      exact aK.num h hlv e2 hS (hb.mul c) (fun h1 h2 => i32_mul (by rw [e3]) h1 h2) hI
    · rename_i c hc _
      have e3 := ak_isk_ok hc hb
      exact aK.num h hlv e2 hS (ha.mul c) (fun h1 h2 => i32_mul (by rw [e3, Int.mul_comm]) h1 h2) hI
    · exact aK.new h hlv e2 hS (i32_lo _) (i32_hi _) hI
  case idiv =>
    replace hn := hn.resolve_left Bool.false_ne_true; subst hn
    refine aK.bin (lv := lv) h hst (fun a b t x z t2 e1 e2 ha hb h => ?_)
    have hI : ¬ z = 0 → mj_I E d y pc lv0 st0 ws (mj_nx (pc + 1) lv0 (.int (x / z) :: t2) ws) 1 .idiv := fun hz => ⟨rfl, x, z, t2, e1, hz, rfl⟩
    have hnz : z.toInt ≠ 0 → ¬ z = 0 := fun h1 h2 => h1 (by rw [h2]; rfl)
    unfold ak_div at h
    split at h
    · rename_i c l u hc hbd
      have e3 := ak_isk_ok hc hb
      obtain ⟨b1, b2⟩ := hS.1.bd hbd ha
      split at h
      · rename_i hcl
        obtain ⟨c1, c2⟩ := hcl
        have hdv : (x / z).toInt = x.toInt / c := i32_div rfl e3 (by omega) c1
        have hI := hI (hnz (by omega))
        split at h
        · rename_i w hg
          obtain ⟨q, g1, g2, g3, g4⟩ := aH_get_ok hg
          obtain ⟨j, xx, k1, k2, k3⟩ := hS.2.2.1 q g1
          have ej := ae_eq_ok g3 k1 ha
          subst ej
          rw [g2, if_neg (by omega), if_pos (by omega)] at k3
          have e4 : (1000000 + 2 * c.toNat - 1000000) / 2 = c.toNat := by omega
          rw [e4, Int.toNat_of_nonneg (by omega)] at k3
          subst g4
          exact aK.nx0 h hlv ⟨_, _, rfl, ⟨x / z, rfl, by rw [hdv, ← k3]; exact k2⟩, e2⟩ hS hI
        · have q1 : l / c ≤ (x / z).toInt := by rw [hdv]; exact Int.ediv_le_ediv c1 b1
          have q2 : (x / z).toInt ≤ u / c := by rw [hdv]; exact Int.ediv_le_ediv c1 b2
          obtain ⟨g1, g2⟩ := hS.new q1 q2
          dsimp only at h
          have hq : aH1 (ρ ++ [(x / z).toInt]) ws ((1000000 + 2 * c.toNat, a), (aP_new P (l / c) (u / c)).1) := by
            refine ⟨x.toInt, _, ha.mono, g1, ?_⟩
            rw [if_neg (by show ¬ 1000000 + 2 * c.toNat < 1000000; omega), if_pos (by show (1000000 + 2 * c.toNat) % 2 = 0; omega)]
            have e4 : (1000000 + 2 * c.toNat - 1000000) / 2 = c.toNat := by omega
            show _ = _ / (((1000000 + 2 * c.toNat - 1000000) / 2 : Nat) : Int)
            rw [e4, Int.toNat_of_nonneg (by omega), hdv]
          have g3 := g2.addh hq
          refine aK.nx h hlv.mono ⟨_, _, rfl, ⟨x / z, rfl, g1⟩, e2.mono⟩ (g3.pv (P2 := (_, _, _, _)) ⟨g3.1.1, ?_, g3.1.2.2⟩ rfl) hI
          split
          · rename_i hc1
            intro f hf
            rcases List.mem_cons.mp hf with rfl | hf
            · refine ⟨_, (g1.sub ha.mono).inc 1, ?_⟩
              rw [hdv]
              have : x.toInt / c < x.toInt := Int.ediv_lt_self_of_pos_of_ne_one (by omega) (by omega)
              omega
            · exact g3.1.2.1 f hf
          · exact g3.1.2.1
      · split at h
        · rename_i hc0
          exact aK.new h hlv e2 hS (i32_lo _) (i32_hi _) (hI (hnz (by omega)))
        · cases h
    · split at h
      · rename_i hz
        exact aK.new h hlv e2 hS (i32_lo _) (i32_hi _) (hI (hnz (hS.1.isnz hz hb)))
      · cases h
  case irem =>
    replace hn := hn.resolve_left Bool.false_ne_true; subst hn
    refine aK.bin (lv := lv) h hst (fun a b t x z t2 e1 e2 ha hb h => ?_)
    have hI : ¬ z = 0 → mj_I E d y pc lv0 st0 ws (mj_nx (pc + 1) lv0 (.int (x - x / z * z) :: t2) ws) 1 .irem := fun hz => ⟨rfl, x, z, t2, e1, hz, rfl⟩
    have hnz : z.toInt ≠ 0 → ¬ z = 0 := fun h1 h2 => h1 (by rw [h2]; rfl)
    unfold ak_rem at h
    split at h
    · rename_i c l u hc hbd
      have e3 := ak_isk_ok hc hb
      obtain ⟨b1, b2⟩ := hS.1.bd hbd ha
      split at h
      · rename_i hcl
        obtain ⟨c1, c2⟩ := hcl
        have hdv : (x - x / z * z).toInt = x.toInt % c := i32_rem rfl e3 (by omega) c1
        have hI := hI (hnz (by omega))
        split at h
        · rename_i w hg
          obtain ⟨q, g1, g2, g3, g4⟩ := aH_get_ok hg
          obtain ⟨j, xx, k1, k2, k3⟩ := hS.2.2.1 q g1
          have ej := ae_eq_ok g3 k1 ha
          subst ej
          rw [g2, if_neg (by omega), if_neg (by omega)] at k3
          have e4 : (1000001 + 2 * c.toNat - 1000001) / 2 = c.toNat := by omega
          rw [e4, Int.toNat_of_nonneg (by omega)] at k3
          subst g4
          exact aK.nx0 h hlv ⟨_, _, rfl, ⟨x - x / z * z, rfl, by rw [hdv, ← k3]; exact k2⟩, e2⟩ hS hI
        · have q1 : 0 ≤ (x - x / z * z).toInt := by rw [hdv]; exact Int.emod_nonneg _ (by omega)
          have q2 : (x - x / z * z).toInt ≤ (if u < c - 1 then u else c - 1) := by
            rw [hdv]
            have m1 := Int.emod_lt_of_pos x.toInt c1
            have m2 : x.toInt % c ≤ x.toInt := by
              rw [Int.emod_def]
              have := Int.mul_nonneg (show 0 ≤ c by omega) (Int.ediv_nonneg (show 0 ≤ x.toInt by omega) (show 0 ≤ c by omega))
              omega
            split <;> omega
          obtain ⟨g1, g2⟩ := hS.new q1 q2
          dsimp only at h
          have hq : aH1 (ρ ++ [(x - x / z * z).toInt]) ws ((1000001 + 2 * c.toNat, a), (aP_new P 0 (if u < c - 1 then u else c - 1)).1) := by
            refine ⟨x.toInt, _, ha.mono, g1, ?_⟩
            rw [if_neg (by show ¬ 1000001 + 2 * c.toNat < 1000000; omega), if_neg (by show ¬ (1000001 + 2 * c.toNat) % 2 = 0; omega)]
            have e4 : (1000001 + 2 * c.toNat - 1000001) / 2 = c.toNat := by omega
            show _ = _ % (((1000001 + 2 * c.toNat - 1000001) / 2 : Nat) : Int)
            rw [e4, Int.toNat_of_nonneg (by omega), hdv]
          exact aK.nx h hlv.mono ⟨_, _, rfl, ⟨x - x / z * z, rfl, g1⟩, e2.mono⟩ (g2.addh hq) hI
      · split at h
        · rename_i hc0
          obtain ⟨q1, q2⟩ := i32_rem2 (a := x) e3 hc0
          exact aK.new h hlv e2 hS q1 q2 (hI (hnz (by omega)))
        · split at h
          · rename_i hc0
            exact aK.new h hlv e2 hS (i32_lo _) (i32_hi _) (hI (hnz (by omega)))
          · cases h
    · split at h
      · rename_i hz
        exact aK.new h hlv e2 hS (i32_lo _) (i32_hi _) (hI (hnz (hS.1.isnz hz hb)))
      · cases h
  case iand =>
    replace hn := hn.resolve_left Bool.false_ne_true; subst hn
    refine aK.bin (lv := lv) h hst (fun a b t x z t2 e1 e2 ha hb h => ?_)
    have hI : mj_I E d y pc lv0 st0 ws (mj_nx (pc + 1) lv0 (.int (x &&& z) :: t2) ws) 1 .iand := ⟨rfl, x, z, t2, e1, rfl⟩
    unfold ak_and at h
    split at h
    · rename_i c hc
      have e3 := ak_isk_ok hc ha
      split at h
      · obtain ⟨q1, q2⟩ := i32_and2 (a := x) (b := z) (by omega)
        exact aK.new h hlv e2 hS q1 (by omega) hI
      · exact aK.new h hlv e2 hS (i32_lo _) (i32_hi _) hI
    · rename_i c hc _
      have e3 := ak_isk_ok hc hb
      split at h
      · obtain ⟨q1, q2⟩ := i32_and (a := x) (b := z) (by omega)
        exact aK.new h hlv e2 hS q1 (by omega) hI
      · exact aK.new h hlv e2 hS (i32_lo _) (i32_hi _) hI
    · exact aK.new h hlv e2 hS (i32_lo _) (i32_hi _) hI
  case ior =>
    replace hn := hn.resolve_left Bool.false_ne_true; subst hn
    exact aK.bin (lv := lv) h hst (fun a b t x z t2 e1 e2 ha hb h => aK.new h hlv e2 hS (i32_lo _) (i32_hi _) ⟨rfl, x, z, t2, e1, rfl⟩)
  case ixor =>
    replace hn := hn.resolve_left Bool.false_ne_true; subst hn
    exact aK.bin (lv := lv) h hst (fun a b t x z t2 e1 e2 ha hb h => aK.new h hlv e2 hS (i32_lo _) (i32_hi _) ⟨rfl, x, z, t2, e1, rfl⟩)
  case ishl =>
    replace hn := hn.resolve_left Bool.false_ne_true; subst hn
    exact aK.bin (lv := lv) h hst (fun a b t x z t2 e1 e2 ha hb h => aK.new h hlv e2 hS (i32_lo _) (i32_hi _) ⟨rfl, x, z, t2, e1, rfl⟩)
  case ishr =>
    replace hn := hn.resolve_left Bool.false_ne_true; subst hn
    refine aK.bin (lv := lv) h hst (fun a b t x z t2 e1 e2 ha hb h => ?_)
    split at h
    · rename_i hc
      have e3 := ak_isk_ok hc hb
      have : z = 0 := Int32.toInt_inj.mp e3
      subst this
      have e4 : x >>> ((0 : Int32) &&& 31) = x := by
        rw [show ((0 : Int32) &&& 31) = 0 from rfl]
        exact Int32.shiftRight_zero
      exact aK.nx0 h hlv ⟨_, _, rfl, ⟨x, rfl, ha⟩, e2⟩ hS ⟨rfl, x, 0, t2, e1, by dsimp only; rw [e4]; rfl⟩
    · exact aK.new h hlv e2 hS (i32_lo _) (i32_hi _) ⟨rfl, x, z, t2, e1, rfl⟩
  case iushr =>
    replace hn := hn.resolve_left Bool.false_ne_true; subst hn
    exact aK.bin (lv := lv) h hst (fun a b t x z t2 e1 e2 ha hb h => aK.new h hlv e2 hS (i32_lo _) (i32_hi _) ⟨rfl, x, z, t2, e1, rfl⟩)
  case ineg =>
    replace hn := hn.resolve_left Bool.false_ne_true; subst hn
    dsimp only [ak_S] at h
    split at h
    · obtain ⟨v, u, rfl, ⟨x, rfl, hx⟩, m2⟩ := hst
      exact aK.num h hlv m2 hS hx.neg (fun h1 h2 => i32_neg rfl h1 h2) ⟨rfl, x, u, rfl, rfl⟩
    · cases h
  case i2l =>
    replace hn := hn.resolve_left Bool.false_ne_true; subst hn
    dsimp only [ak_S] at h
    split at h
    · obtain ⟨v, u, rfl, ⟨x, rfl, hx⟩, m2⟩ := hst
      exact aK.nx0 h hlv ⟨_, _, rfl, ⟨_, rfl⟩, m2⟩ hS ⟨rfl, x, u, rfl, rfl⟩
    · cases h
  case i2b =>
    replace hn := hn.resolve_left Bool.false_ne_true; subst hn
    dsimp only [ak_S] at h
    split at h
    · obtain ⟨v, u, rfl, ⟨x, rfl, hx⟩, m2⟩ := hst
      exact aK.new h hlv m2 hS (i32_b x).1 (i32_b x).2 ⟨rfl, x, u, rfl, rfl⟩
    · cases h
  case i2s =>
    replace hn := hn.resolve_left Bool.false_ne_true; subst hn
    dsimp only [ak_S] at h
    split at h
    · obtain ⟨v, u, rfl, ⟨x, rfl, hx⟩, m2⟩ := hst
      exact aK.new h hlv m2 hS (i32_s x).1 (i32_s x).2 ⟨rfl, x, u, rfl, rfl⟩
    · cases h
  case i2c =>
    replace hn := hn.resolve_left Bool.false_ne_true; subst hn
    dsimp only [ak_S] at h
    split at h
    · obtain ⟨v, u, rfl, ⟨x, rfl, hx⟩, m2⟩ := hst
      exact aK.new h hlv m2 hS (i32_c _).1 (i32_c _).2 ⟨rfl, x, u, rfl, rfl⟩
    · cases h
  case ladd =>
    replace hn := hn.resolve_left Bool.false_ne_true; subst hn
    exact aK.l2 h hlv hst hS (fun a b t e => ⟨_, rfl, a, b, t, e, rfl⟩)
  case lmul =>
    replace hn := hn.resolve_left Bool.false_ne_true; subst hn
    exact aK.l2 h hlv hst hS (fun a b t e => ⟨_, rfl, a, b, t, e, rfl⟩)
  case land =>
    replace hn := hn.resolve_left Bool.false_ne_true; subst hn
    exact aK.l2 h hlv hst hS (fun a b t e => ⟨_, rfl, a, b, t, e, rfl⟩)
  case lor =>
    replace hn := hn.resolve_left Bool.false_ne_true; subst hn
    exact aK.l2 h hlv hst hS (fun a b t e => ⟨_, rfl, a, b, t, e, rfl⟩)
  case lshl =>
    replace hn := hn.resolve_left Bool.false_ne_true; subst hn
    exact aK.lsh h hlv hst hS (fun a b t e => ⟨_, rfl, a, b, t, e, rfl⟩)
  case lshr =>
    replace hn := hn.resolve_left Bool.false_ne_true; subst hn
    exact aK.lsh h hlv hst hS (fun a b t e => ⟨_, rfl, a, b, t, e, rfl⟩)
  case lushr =>
    replace hn := hn.resolve_left Bool.false_ne_true; subst hn
    exact aK.lsh h hlv hst hS (fun a b t e => ⟨_, rfl, a, b, t, e, rfl⟩)
  case ldiv =>
    replace hn := hn.resolve_left Bool.false_ne_true; subst hn
    dsimp only [ak_S] at h
    split at h
    · rename_i m t2 k t
      obtain ⟨v, u, rfl, ⟨rfl, hz⟩, v2, u2, rfl, hv2, m2⟩ := hst
      split at h
      · rename_i hc
        obtain ⟨a, rfl⟩ := hv2.long hc.1
        have hne : ¬ Int64.ofInt (m : Int) = 0 := by
          intro e
          have e2 := congrArg Int64.toInt e
          rw [Int64.toInt_ofInt, show Int64.size = 18446744073709551616 from rfl, Int.bmod_def, show (0 : Int64).toInt = 0 from rfl] at e2
          split at e2 <;> omega
        exact aK.nx0 h hlv ⟨_, _, rfl, ⟨_, rfl⟩, m2⟩ hS ⟨rfl, a, _, u2, rfl, hne, rfl⟩
      · cases h
    · cases h
  case lcmp =>
    replace hn := hn.resolve_left Bool.false_ne_true; subst hn
    dsimp only [ak_S] at h
    split at h
    · obtain ⟨v, u, rfl, hv, v2, u2, rfl, hv2, m2⟩ := hst
      split at h
      · rename_i hc
        obtain ⟨b, rfl⟩ := hv.long hc.1
        obtain ⟨a, rfl⟩ := hv2.long hc.2
        exact aK.new h hlv m2 hS (i32_lo _) (i32_hi _) ⟨rfl, a, b, u2, rfl, rfl⟩
      · cases h
    · cases h
  case l2i =>
    replace hn := hn.resolve_left Bool.false_ne_true; subst hn
    dsimp only [ak_S] at h
    split at h
    · obtain ⟨v, u, rfl, hv, m2⟩ := hst
      split at h
      · rename_i hc
        obtain ⟨b, rfl⟩ := hv.long hc
        exact aK.new h hlv m2 hS (i32_lo _) (i32_hi _) ⟨rfl, b, u, rfl, rfl⟩
      · cases h
    · cases h
  case pop =>
    replace hn := hn.resolve_left Bool.false_ne_true; subst hn
    dsimp only [ak_S] at h
    split at h
    · obtain ⟨v, u, rfl, hv, m2⟩ := hst
      split at h
      · rename_i hc
        exact aK.nx0 h hlv m2 hS ⟨rfl, v, u, rfl, by rw [hv.cat hf]; exact hc, rfl⟩
      · cases h
    · cases h
  case dup =>
    replace hn := hn.resolve_left Bool.false_ne_true; subst hn
    dsimp only [ak_S] at h
    split at h
    · obtain ⟨v, u, rfl, hv, m2⟩ := hst
      split at h
      · rename_i hc
        exact aK.nx0 h hlv ⟨_, _, rfl, hv, _, _, rfl, hv, m2⟩ hS ⟨rfl, v, u, rfl, by rw [hv.cat hf]; exact hc, rfl⟩
      · cases h
    · cases h
  case dup2 =>
    replace hn := hn.resolve_left Bool.false_ne_true; subst hn
    dsimp only [ak_S] at h
    split at h
    · obtain ⟨v, u, rfl, hv, v2, u2, rfl, hv2, m2⟩ := hst
      split at h
      · rename_i hc
        exact aK.nx0 h hlv ⟨_, _, rfl, hv, _, _, rfl, hv2, _, _, rfl, hv, _, _, rfl, hv2, m2⟩ hS ⟨rfl, v, v2, u2, rfl, by rw [hv.cat hf]; exact hc.1, by rw [hv2.cat hf]; exact hc.2, rfl⟩
      · cases h
    · cases h
  case ifCond c off =>
    replace hn := hn.resolve_left Bool.false_ne_true; subst hn
    dsimp only [ak_S] at h
    split at h
    · obtain ⟨v, u, rfl, ⟨x, rfl, hx⟩, m2⟩ := hst
      exact aK.br (x := x) (z := 0) h hlv m2 hS hx (aV.k 0) (fun tg ht => ⟨fun hc => ⟨rfl, x, u, tg, rfl, ht, Or.inl ⟨hc, rfl⟩⟩, fun hc => ⟨rfl, x, u, tg, rfl, ht, Or.inr ⟨hc, rfl⟩⟩⟩)
    · cases h
  case if_icmp c off =>
    replace hn := hn.resolve_left Bool.false_ne_true; subst hn
    dsimp only [ak_S] at h
    split at h
    · obtain ⟨v, u, rfl, ⟨z, rfl, hz⟩, v2, u2, rfl, ⟨x, rfl, hx⟩, m2⟩ := hst
      exact aK.br (x := x) (z := z) h hlv m2 hS hx hz (fun tg ht => ⟨fun hc => ⟨rfl, x, z, u2, tg, rfl, ht, Or.inl ⟨hc, rfl⟩⟩, fun hc => ⟨rfl, x, z, u2, tg, rfl, ht, Or.inr ⟨hc, rfl⟩⟩⟩)
    · cases h
  case goto off =>
    replace hn := hn.resolve_left Bool.false_ne_true; subst hn
    dsimp only [ak_S] at h
    split at h
    · rename_i t ht
      cases h
      exact ⟨_, List.mem_singleton.mpr rfl, [], lv0, st0, ws, by rw [List.append_nil]; exact hlv, by rw [List.append_nil]; exact hst, by rw [List.append_nil]; exact hS, rfl, t, ak_tg_ok ht, rfl⟩
    · cases h
  case tableswitch df lo hi offs =>
    dsimp only [ak_S] at h
    split at h
    · obtain ⟨v, u, rfl, ⟨x, rfl, hx⟩, m2⟩ := hst
      split at h
      · rename_i hsz
        obtain ⟨l, hl, e⟩ := Option.map_eq_some_iff.mp h
        subst e
        obtain ⟨q, g1, tg, g2, g3, g4, g5, g6⟩ := ak_sw_ok hx _ P l hl hS
        refine ⟨q, g1, [], lv0, u, ws, by rw [List.append_nil, g4]; exact hlv, by rw [List.append_nil, g5]; exact m2, by rw [List.append_nil]; exact g6, x, u, _, tg, rfl, g3, ?_, by rw [g2]; rfl⟩
        have hz := ak_zip_off df x.toInt offs.toList lo
        rw [Array.length_toList] at hz
        by_cases hin : x.toInt < lo ∨ hi < x.toInt
        · exact Or.inl ⟨hin, hz.2 (by omega)⟩
        · have h1 : ¬ x.toInt < lo := fun e => hin (Or.inl e)
          have h2 : ¬ hi < x.toInt := fun e => hin (Or.inr e)
          exact Or.inr ⟨h1, h2, by rw [← hz.1 (by omega) (by omega), Array.getElem?_toList]⟩
      · cases h
    · cases h
  case lookupswitch df ps =>
    dsimp only [ak_S] at h
    split at h
    · obtain ⟨v, u, rfl, ⟨x, rfl, hx⟩, m2⟩ := hst
      split at h
      · rename_i hsz
        obtain ⟨l, hl, e⟩ := Option.map_eq_some_iff.mp h
        subst e
        obtain ⟨q, g1, tg, g2, g3, g4, g5, g6⟩ := ak_sw_ok hx _ P l hl hS
        exact ⟨q, g1, [], lv0, u, ws, by rw [List.append_nil, g4]; exact hlv, by rw [List.append_nil, g5]; exact m2, by rw [List.append_nil]; exact g6, x, u, tg, rfl, hsz, g3, by rw [g2]; rfl⟩
      · cases h
    · cases h
  case getfield ix =>
    replace hn := hn.resolve_left Bool.false_ne_true; subst hn
    dsimp only [ak_S] at h
    split at h
    · rename_i c t
      obtain ⟨v, u, rfl, ⟨ad, ha, rfl⟩, m2⟩ := hst
      split at h
      · rename_i q hq
        obtain ⟨c0, x0, ci, k, pl⟩ := q
        have hm := mj_find hq
        dsimp only at h hm
        split at h
        · rename_i c2 hfl
          obtain ⟨fs, z1, z2⟩ := aD_fld_ok hfl
          obtain ⟨e, he, vs, rfl, z3, z4⟩ := hS.2.2.2.2.1.at z1 ha
          obtain ⟨v, z5, a2, z6, rfl⟩ := z4 k _ z2
          exact aK.nx0 h hlv ⟨_, _, rfl, ⟨a2, z6, rfl⟩, m2⟩ hS ⟨rfl, ad, u, rfl, Or.inl ⟨ci, k, pl, c, vs, _, hm, he, z5, rfl⟩⟩
        · rename_i b hfl
          obtain ⟨fs, z1, z2⟩ := aD_fld_ok hfl
          obtain ⟨e, he, vs, rfl, z3, z4⟩ := hS.2.2.2.2.1.at z1 ha
          obtain ⟨v, z5, m, rfl, z6⟩ := z4 k _ z2
          obtain ⟨rr, g1, g2⟩ := hS.read (rules := []) (b := b) (hc6 z1) (aV.k (k : Int)) (by omega) (x := m.toInt) (Or.inl ⟨ad, ci, vs, m, he, by rw [Int.toNat_natCast]; exact z5, rfl⟩) z6
          exact aK.nx h hlv.mono ⟨_, _, rfl, ⟨m, rfl, g1⟩, m2.mono⟩ g2 ⟨rfl, ad, u, rfl, Or.inl ⟨ci, k, pl, c, vs, _, hm, he, z5, rfl⟩⟩
        · cases h
      · cases h
    · rename_i k t
      obtain ⟨v, u, rfl, ⟨hk, rfl⟩, m2⟩ := hst
      split at h
      · rename_i q hq
        obtain ⟨c0, x0, k0, pl0⟩ := q
        have hm := mj_find hq
        dsimp only at h hm
        split at h
        · rename_i hz
          subst hz
          exact aK.nx0 h hlv ⟨_, _, rfl, ⟨hk, rfl⟩, m2⟩ hS ⟨rfl, _, u, rfl, Or.inr ⟨k, pl0, hk, rfl, Or.inl ⟨hm, rfl⟩⟩⟩
        · split at h
          · rename_i hz
            subst hz
            exact aK.nx0 h hlv ⟨_, _, rfl, ⟨0, rfl, aV.k 0⟩, m2⟩ hS ⟨rfl, _, u, rfl, Or.inr ⟨k, pl0, hk, rfl, Or.inr ⟨hm, rfl⟩⟩⟩
          · cases h
      · cases h
    · cases h
  case putfield ix =>
    replace hn := hn.resolve_left Bool.false_ne_true; subst hn
    dsimp only [ak_S] at h
    split at h
    · rename_i ex c t
      obtain ⟨v, u, rfl, ⟨x, rfl, hx⟩, v2, u2, rfl, ⟨ad, ha, rfl⟩, m2⟩ := hst
      split at h
      · rename_i q hq
        obtain ⟨c0, x0, ci, k, pl⟩ := q
        have hm := mj_find hq
        dsimp only at h hm
        split at h
        · rename_i lo hi hfl
          split at h
          · rename_i hcond
            obtain ⟨d1, d2, d3, d4⟩ := hcond
            obtain ⟨fs, z1, z2⟩ := aD_fld_ok hfl
            obtain ⟨e, he, vs, rfl, z3, z4⟩ := hS.2.2.2.2.1.at z1 ha
            obtain ⟨b1, b2⟩ := hS.1.in d3 hx
            have hk : k < vs.length := by rw [z3]; exact (List.getElem?_eq_some_iff.mp z2).1
            have hW : aWd E al G.1 (ws.set c (ad, .inr (ci, vs.set k (.int x)))) := by
              refine hS.2.2.2.2.1.set he (fun D hD => ?_)
              rw [z1] at hD
              cases hD
              refine ⟨_, rfl, by rw [List.length_set]; exact z3, fun k2 f hf2 => ?_⟩
              by_cases ek : k = k2
              · subst ek
                rw [z2] at hf2
                cases hf2
                exact ⟨_, List.getElem?_set_self hk, x, rfl, b1, b2⟩
              · obtain ⟨v, y1, y2⟩ := z4 k2 f hf2
                exact ⟨v, by rw [List.getElem?_set_ne ek]; exact y1, y2⟩
            have hP : aPt ws c (k : Int).toNat x.toInt (ws.set c (ad, .inr (ci, vs.set k (.int x)))) := Or.inl ⟨ad, ci, vs, x, he, by rw [Int.toNat_natCast]; exact hk, rfl, by rw [Int.toNat_natCast]⟩
            refine aK.nx0 h hlv m2 (hS.write hJ (hc6 z1) d1 (aV.k (k : Int)) hx (by omega) hP hW (hS.2.2.2.2.2.1.obj)) ⟨rfl, .int x, ad, u2, ci, k, pl, c, vs, rfl, hm, he, hk, ?_, ?_, rfl⟩
            · rcases d4 with d4 | ⟨d4, rfl, rfl⟩
              · exact ⟨_, d4, rfl, rfl⟩
              · refine ⟨_, d4, ?_⟩
                rcases fit_bool b1 b2 with rfl | rfl <;> exact ⟨rfl, rfl⟩
            · intro hfin
              exact absurd (show mj_fin ci k = true from hfin) (by rw [d2]; exact Bool.false_ne_true)
          · cases h
        · cases h
      · cases h
    · cases h
  case getstatic ix =>
    replace hn := hn.resolve_left Bool.false_ne_true; subst hn
    dsimp only [ak_S] at h
    split at h
    · rename_i q hq
      obtain ⟨c0, x0, sid, ns, pl⟩ := q
      have hm := mj_find hq
      dsimp only at h hm
      split at h
      · rename_i hz
        refine aK.nx0 h hlv ⟨mj_sv E sid, _, rfl, ?_, hst⟩ hS ⟨rfl, sid, ns, pl, hm, rfl⟩
        match sid, hz with
        | 0, _ => exact ⟨by decide, rfl⟩
        | 1, _ => exact ⟨by decide, rfl⟩
      · split at h
        · rename_i hz
          subst hz
          exact aK.nx0 h hlv ⟨_, _, rfl, ⟨1, rfl, aV.k 1⟩, hst⟩ hS ⟨rfl, 2, ns, pl, hm, rfl⟩
        · split at h
          · rename_i hz
            subst hz
            exact aK.nx0 h hlv ⟨_, _, rfl, rfl, hst⟩ hS ⟨rfl, 3, ns, pl, hm, rfl⟩
          · cases h
    · cases h
  case iaload =>
    replace hn := hn.resolve_left Bool.false_ne_true; subst hn
    dsimp only [ak_S] at h
    split at h
    · rename_i ix c t
      obtain ⟨v, u, rfl, ⟨i, rfl, hi⟩, v2, u2, rfl, ⟨ad, ha, rfl⟩, m2⟩ := hst
      split at h
      · rename_i N cols hrow
        have z1 := aD_row_ok hrow
        obtain ⟨e, he, f, rfl, z2⟩ := hS.2.2.2.2.1.at z1 ha
        split at h
        · rename_i hin
          split at h
          · rename_i b hb
            obtain ⟨g0, rr, g1, g2⟩ := ak_rd hS (Or.inr ⟨rfl, hR⟩) (hc6 z1) he z2 hi hin hb
            exact aK.nx h hlv.mono ⟨_, _, rfl, ⟨_, rfl, g1⟩, m2.mono⟩ g2 ⟨rfl, i, ad, u2, rfl, Or.inl ⟨c, N, f, he, g0, rfl⟩⟩
          · cases h
        · cases h
      · cases h
    · rename_i ix k t
      obtain ⟨v, u, rfl, ⟨i, rfl, hi⟩, v2, u2, rfl, ⟨hk, rfl⟩, m2⟩ := hst
      split at h
      · rename_i L lo hi2 ht
        split at h
        · rename_i hcond
          obtain ⟨d1, d2, d3⟩ := hcond
          obtain ⟨t1, t2, t3⟩ := hS.2.1 k _ ht hk
          have b1 := hS.1.pr d2 hi.neg
          have b2 := hS.1.pr d3 ((hi.sub t1).inc 1)
          have e : i.toNatClampNeg = i.toInt.toNat := rfl
          obtain ⟨q1, q2⟩ := t3 i.toNatClampNeg (by omega)
          exact aK.new h hlv m2 hS q1 q2 ⟨rfl, i, _, u2, rfl, Or.inr ⟨k, hk, rfl, i32_in (by omega) (by omega), rfl⟩⟩
        · cases h
      · cases h
    · cases h
  case laload =>
    replace hn := hn.resolve_left Bool.false_ne_true; subst hn
    dsimp only [ak_S] at h
    split at h
    · rename_i ix c t
      obtain ⟨v, u, rfl, ⟨i, rfl, hi⟩, v2, u2, rfl, ⟨ad, ha, rfl⟩, m2⟩ := hst
      split at h
      · rename_i N cols hrow
        have z1 := aD_row_ok hrow
        obtain ⟨e, he, f, rfl⟩ := hS.2.2.2.2.1.at z1 ha
        split at h
        · rename_i hin
          obtain ⟨b1, b2⟩ := hS.1.in hin hi
          exact aK.nx0 h hlv ⟨_, _, rfl, ⟨_, rfl⟩, m2⟩ hS ⟨rfl, i, ad, u2, c, N, f, rfl, he, i32_in b1 b2, rfl⟩
        · cases h
      · cases h
    · cases h
  case baload =>
    replace hn := hn.resolve_left Bool.false_ne_true; subst hn
    dsimp only [ak_S] at h
    split at h
    · rename_i ix c t
      obtain ⟨v, u, rfl, ⟨i, rfl, hi⟩, v2, u2, rfl, ⟨ad, ha, rfl⟩, m2⟩ := hst
      split at h
      · rename_i N cols hrow
        have z1 := aD_row_ok hrow
        obtain ⟨e, he, f, rfl, z2⟩ := hS.2.2.2.2.1.at z1 ha
        split at h
        · rename_i hin
          split at h
          · rename_i b hb
            obtain ⟨g0, rr, g1, g2⟩ := ak_rd hS (Or.inl rfl) (hc6 z1) he z2 hi hin hb
            exact aK.nx h hlv.mono ⟨_, _, rfl, ⟨_, rfl, g1⟩, m2.mono⟩ g2 ⟨rfl, i, ad, u2, rfl, Or.inl ⟨c, N, f, he, g0, rfl⟩⟩
          · cases h
        · cases h
      · cases h
    · rename_i ix k t
      obtain ⟨v, u, rfl, ⟨i, rfl, hi⟩, v2, u2, rfl, ⟨hk, rfl⟩, m2⟩ := hst
      split at h
      · rename_i hin
        obtain ⟨b1, b2⟩ := hS.1.in hin hi
        exact aK.new h hlv m2 hS (i32_lo _) (i32_hi _) ⟨rfl, i, _, u2, rfl, Or.inr ⟨k, hk, rfl, i32_in b1 b2, rfl⟩⟩
      · cases h
    · cases h
  case iastore =>
    replace hn := hn.resolve_left Bool.false_ne_true; subst hn
    dsimp only [ak_S] at h
    split at h
    · rename_i ex ix c t
      obtain ⟨v, u, rfl, ⟨x, rfl, hx⟩, v2, u2, rfl, ⟨i, rfl, hi⟩, v3, u3, rfl, ⟨ad, ha, rfl⟩, m2⟩ := hst
      split at h
      · rename_i N cols hrow
        have z1 := aD_row_ok hrow
        obtain ⟨e, he, f, rfl, z2⟩ := hS.2.2.2.2.1.at z1 ha
        split at h
        · rename_i hin
          obtain ⟨b1, b2⟩ := hS.1.in hin hi
          have ei : i.toNatClampNeg = i.toInt.toNat := rfl
          have key : aPk G.2.2.2.1 c ix = true → (∀ b, cols[i.toInt.toNat % cols.length]? = some b → b.1 ≤ x.toInt ∧ x.toInt ≤ b.2) → aR_put G.2.1 P c ix ex = true → ak_nx lv t (aP_write P c ix ex) = some r → aK E al G J w0 ρ d y pc (mj_len .iastore) lv0 (.int x :: .int i :: .ref ad :: u3) ws .iastore r := by
            intro d1 d2 d3 h
            have hW : aWd E al G.1 (ws.set c (ad, .inl (E.2.2.2.2.1, N, .inl (upd f i.toNatClampNeg x)))) := by
              refine hS.2.2.2.2.1.set he (fun D hD => ?_)
              rw [z1] at hD
              cases hD
              exact ⟨_, rfl, z2.put (by rw [ei]; exact d2)⟩
            exact aK.nx0 h hlv m2 (hS.write hJ (hc6 z1) d1 hi hx b1 (Or.inr ⟨ad, _, N, f, x, he, by omega, rfl, rfl⟩) hW (aR_put_ok hS hR (hc6 z1) he hi hx b1 d3)) ⟨rfl, x, i, ad, u3, c, N, f, rfl, he, i32_in b1 b2, rfl⟩
          split at h
          · rename_i k hk
            split at h
            · rename_i lo hi2 hcols
              split at h
              · rename_i hcond
                obtain ⟨d1, d2, d3⟩ := hcond
                refine key d1 (fun b hb => ?_) d3 h
                have hl : 0 < cols.length := by
                  have := (List.getElem?_eq_some_iff.mp hcols).1
                  omega
                rw [ae_col_ok hk hi hl b1, hcols] at hb
                cases hb
                exact hS.1.in d2 hx
              · cases h
            · cases h
          · split at h
            · rename_i hcond
              obtain ⟨d1, d2, d3⟩ := hcond
              refine key d1 (fun b hb => ?_) d3 h
              exact hS.1.in (List.all_eq_true.mp d2 b (List.mem_of_getElem? hb)) hx
            · cases h
        · cases h
      · cases h
    · cases h
  case lastore =>
    replace hn := hn.resolve_left Bool.false_ne_true; subst hn
    dsimp only [ak_S] at h
    split at h
    · rename_i t1 k1 ix c t
      obtain ⟨v, u, rfl, hx, v2, u2, rfl, ⟨i, rfl, hi⟩, v3, u3, rfl, ⟨ad, ha, rfl⟩, m2⟩ := hst
      split at h
      · rename_i N cols hrow
        have z1 := aD_row_ok hrow
        obtain ⟨e, he, f, rfl⟩ := hS.2.2.2.2.1.at z1 ha
        split at h
        · rename_i hcond
          obtain ⟨d1, d2, d3⟩ := hcond
          obtain ⟨x, rfl⟩ := hx.long d2
          obtain ⟨b1, b2⟩ := hS.1.in d3 hi
          have hW : aWd E al G.1 (ws.set c (ad, .inl (E.2.2.2.2.2.1, N, .inr (.inl (vp_updL f i.toNatClampNeg x))))) := by
            refine hS.2.2.2.2.1.set he (fun D hD => ?_)
            rw [z1] at hD
            cases hD
            exact ⟨_, rfl⟩
          have hne : ∀ k, k ≠ c → (ws.set c (ad, .inl (E.2.2.2.2.2.1, N, .inr (.inl (vp_updL f i.toNatClampNeg x)))))[k]? = ws[k]? := fun k hk => List.getElem?_set_ne (Ne.symm hk)
          have hJ2 := hJ ws (ws.set c (ad, .inl (E.2.2.2.2.2.1, N, .inr (.inl (vp_updL f i.toNatClampNeg x))))) (aPw_ok d1 hne) hS.2.2.2.2.2.2
          have hl := hS.lose (cs := [c]) (by simp) (fun k hk => hne k (by simpa using hk)) hW hS.2.2.2.2.2.1.long hJ2
          obtain ⟨y1, y2, y3, y4, y5⟩ := hl
          refine aK.nx0 h hlv m2 ⟨hS.1, hS.2.1, ?_, y4, y5⟩ ⟨rfl, x, i, ad, u3, c, N, f, rfl, he, i32_in b1 b2, rfl⟩
          intro q hq
          obtain ⟨j, xx, k1, k2, k3⟩ := hS.2.2.1 q hq
          refine ⟨j, xx, k1, k2, ?_⟩
          split
          · rename_i hlt
            rw [if_pos hlt] at k3
            refine ⟨k3.1, k3.2.at (hne _ ?_)⟩
            intro e
            rcases k3.2 with ⟨_, _, _, _, w1, _⟩ | ⟨_, _, _, _, w1, _⟩
            · rw [e, he] at w1; cases w1
            · rw [e, he] at w1; cases w1
          · rename_i hlt
            rw [if_neg hlt] at k3
            exact k3
        · cases h
      · cases h
    · cases h
  case bastore =>
    replace hn := hn.resolve_left Bool.false_ne_true; subst hn
    dsimp only [ak_S] at h
    split at h
    · rename_i ex ix c t
      obtain ⟨v, u, rfl, ⟨x, rfl, hx⟩, v2, u2, rfl, ⟨i, rfl, hi⟩, v3, u3, rfl, ⟨ad, ha, rfl⟩, m2⟩ := hst
      split at h
      · rename_i N cols hrow
        have z1 := aD_row_ok hrow
        obtain ⟨e, he, f, rfl, z2⟩ := hS.2.2.2.2.1.at z1 ha
        split at h
        · rename_i hcond
          obtain ⟨d1, d2, d3, d4, d5⟩ := hcond
          obtain ⟨b1, b2⟩ := hS.1.in d2 hi
          obtain ⟨b3, b4⟩ := hS.1.in d3 hx
          have ei : i.toNatClampNeg = i.toInt.toNat := rfl
          have en : vp_nar .boolean x = x := by rcases fit_bool b3 b4 with rfl | rfl <;> rfl
          have hW : aWd E al G.1 (ws.set c (ad, .inl (E.2.2.2.2.2.2, N, .inl (upd f i.toNatClampNeg (vp_nar .boolean x))))) := by
            refine hS.2.2.2.2.1.set he (fun D hD => ?_)
            rw [z1] at hD
            cases hD
            refine ⟨_, rfl, z2.put (fun b hb => ?_)⟩
            rw [en]
            subst d4
            have : b = (0, 1) := by
              have hm := List.mem_of_getElem? hb
              rw [List.mem_singleton] at hm
              exact hm
            subst this
            exact ⟨b3, b4⟩
          exact aK.nx0 h hlv m2 (hS.write hJ (hc6 z1) d1 hi hx b1 (Or.inr ⟨ad, _, N, f, x, he, by omega, rfl, by rw [en]; rfl⟩) hW (hS.2.2.2.2.2.1.other d5)) ⟨rfl, x, i, ad, u3, c, N, f, rfl, he, i32_in b1 b2, rfl⟩
        · cases h
      · cases h
    · cases h
  case arraylength =>
    replace hn := hn.resolve_left Bool.false_ne_true; subst hn
    have eN : ∀ N : Nat, N < 2147483648 → (Int32.ofNat N).toInt = (N : Int) := fun N hN => by
      rw [show Int32.ofNat N = Int32.ofInt (N : Int) from (Int32.ofInt_eq_ofNat).symm]
      exact i32_of (by unfold aI0; omega) (by unfold aI1; omega)
    dsimp only [ak_S] at h
    split at h
    · rename_i c t
      obtain ⟨v, u, rfl, ⟨ad, ha, rfl⟩, m2⟩ := hst
      split at h
      · rename_i N cols hrow
        have z1 := aD_row_ok hrow
        obtain ⟨e, he, f, rfl, z2⟩ := hS.2.2.2.2.1.at z1 ha
        split at h
        · rename_i hN
          exact aK.nx0 h hlv ⟨_, _, rfl, ⟨Int32.ofNat N, rfl, by rw [eN N (by omega)]; exact aV.k _⟩, m2⟩ hS ⟨rfl, ad, u, rfl, Or.inl ⟨c, (N, .inl f), he, rfl⟩⟩
        · cases h
      · cases h
    · rename_i k t
      obtain ⟨v, u, rfl, ⟨hk, rfl⟩, m2⟩ := hst
      split at h
      · rename_i hN
        exact aK.nx0 h hlv ⟨_, _, rfl, ⟨Int32.ofNat (mj_txl k), rfl, by rw [eN _ (by omega)]; exact aV.k _⟩, m2⟩ hS ⟨rfl, _, u, rfl, Or.inr (Or.inr ⟨k, hk, rfl, rfl⟩)⟩
      · cases h
    · rename_i k t
      obtain ⟨v, u, rfl, ⟨hk, rfl⟩, m2⟩ := hst
      split at h
      · rename_i L lo hi2 ht
        rw [if_pos hk] at h
        obtain ⟨t1, t2, t3⟩ := hS.2.1 k _ ht hk
        exact aK.nx0 h hlv ⟨_, _, rfl, ⟨Int32.ofNat (E.2.2.1 k).2.1, rfl, by rw [eN _ t2]; exact t1⟩, m2⟩ hS ⟨rfl, _, u, rfl, Or.inr (Or.inl ⟨k, hk, rfl, rfl⟩)⟩
      · cases h
    · cases h
  case ldc ix =>
    replace hn := hn.resolve_left Bool.false_ne_true; subst hn
    dsimp only [ak_S] at h
    split at h
    · rename_i q hq
      obtain ⟨c0, x0, kd, v0, pl⟩ := q
      have hm := mj_find hq
      dsimp only at h hm
      split at h
      · rename_i hz
        obtain ⟨z0, z1, z2⟩ := hz
        subst z0
        exact aK.nx0 h hlv ⟨_, _, rfl, ⟨Int32.ofInt v0, rfl, by rw [i32_of z1 z2]; exact aV.k v0⟩, hst⟩ hS ⟨rfl, Or.inl ⟨v0, pl, hm, rfl⟩⟩
      · split at h
        · rename_i hz
          obtain ⟨z1, z2, z3⟩ := hz
          subst z1
          have e : ((v0.toNat : Nat) : Int) = v0 := by omega
          rw [← e] at hm
          exact aK.nx0 h hlv ⟨_, _, rfl, ⟨(by omega : v0.toNat < 24), rfl⟩, hst⟩ hS ⟨rfl, Or.inr ⟨v0.toNat, pl, by omega, hm, rfl⟩⟩
        · cases h
    · cases h
  case ldc_w ix =>
    replace hn := hn.resolve_left Bool.false_ne_true; subst hn
    dsimp only [ak_S] at h
    split at h
    · rename_i q hq
      obtain ⟨c0, x0, kd, v0, pl⟩ := q
      have hm := mj_find hq
      dsimp only at h hm
      split at h
      · rename_i hz
        obtain ⟨z0, z1, z2⟩ := hz
        subst z0
        exact aK.nx0 h hlv ⟨_, _, rfl, ⟨Int32.ofInt v0, rfl, by rw [i32_of z1 z2]; exact aV.k v0⟩, hst⟩ hS ⟨rfl, v0, pl, hm, rfl⟩
      · cases h
    · cases h
  case ldc2_w ix =>
    replace hn := hn.resolve_left Bool.false_ne_true; subst hn
    dsimp only [ak_S] at h
    split at h
    · rename_i q hq
      obtain ⟨c0, x0, kd, v0, pl⟩ := q
      have hm := mj_find hq
      dsimp only at h hm
      split at h
      · rename_i hz
        subst hz
        split at h
        · rename_i hz
          have e : ((v0.toNat : Nat) : Int) = v0 := by omega
          exact aK.nx0 h hlv ⟨_, _, rfl, ⟨by rw [e], by omega, by omega⟩, hst⟩ hS ⟨rfl, v0, pl, hm, rfl⟩
        · exact aK.nx0 h hlv ⟨_, _, rfl, ⟨_, rfl⟩, hst⟩ hS ⟨rfl, v0, pl, hm, rfl⟩
      · cases h
    · cases h
  case invokevirtual ix =>
    replace hn := hn.resolve_left Bool.false_ne_true; subst hn
    dsimp only [ak_S] at h
    split at h
    · rename_i q hq
      obtain ⟨c0, x0, kd, y2, pl0⟩ := q
      split at h
      · rename_i hz
        dsimp only at hz h
        subst hz
        have hm := mj_find hq
        dsimp only at hm
        have g := mj_ml_use hm
        simp only [mj_okml, Bool.and_eq_true, decide_eq_true_eq] at g
        obtain ⟨⟨⟨⟨⟨g1, g2⟩, g3⟩, g4⟩, g5⟩, g6⟩ := g
        obtain ⟨k1, k2, -⟩ := mj_m_use g1 g2 g3
        obtain ⟨s1, s2⟩ := hst.split (mj_m y2).2.2.2.2.2.2
        split at h
        · rename_i a rest hdr
          rw [hdr] at s2
          obtain ⟨v, u, hu, ⟨ad, ha, rfl⟩, m2⟩ := s2
          split at h
          · rename_i ci fs hc
            split at h
            · rename_i hcond
              obtain ⟨b1, b2, b3⟩ := hcond
              cases h
              obtain ⟨e, he, vs, rfl, hl, hl2⟩ := hS.2.2.2.2.1.at hc ha
              have hlen : (st.take (mj_m y2).2.2.2.2.2.2).length = (mj_m y2).2.2.2.2.2.2 := by
                have := congrArg List.length hdr
                rw [List.length_drop, List.length_cons] at this
                rw [List.length_take]; omega
              have hst0 : st0 = ((st0.take (mj_m y2).2.2.2.2.2.2).reverse).reverse ++ .ref ad :: u := by rw [List.reverse_reverse, ← hu, List.take_append_drop]
              exact ⟨rfl, _, u, ⟨_, _, rfl, ⟨ad, ha, rfl⟩, s1.rev⟩, m2, rfl, y2, pl0, _, ad, u, hm, hst0, ak_callee hf g1 (as := .inr (0, a) :: (st.take (mj_m y2).2.2.2.2.2.2).reverse) ⟨_, _, rfl, ⟨ad, ha, rfl⟩, s1.rev⟩ m2 (by rw [List.length_cons, List.length_reverse, hlen]) b3, Or.inl ⟨a, ci, vs, he, by rw [b1]; exact k2, b2⟩, rfl⟩
            · cases h
          · cases h
        · rename_i i rest hdr
          rw [hdr] at s2
          obtain ⟨v, u, hu, ⟨hi, rfl⟩, m2⟩ := s2
          split at h
          · rename_i hcond
            obtain ⟨b1, b3⟩ := hcond
            cases h
            have hlen : (st.take (mj_m y2).2.2.2.2.2.2).length = (mj_m y2).2.2.2.2.2.2 := by
              have := congrArg List.length hdr
              rw [List.length_drop, List.length_cons] at this
              rw [List.length_take]; omega
            have hst0 : st0 = ((st0.take (mj_m y2).2.2.2.2.2.2).reverse).reverse ++ .ref (E.1 i) :: u := by rw [List.reverse_reverse, ← hu, List.take_append_drop]
            exact ⟨rfl, _, u, ⟨_, _, rfl, ⟨hi, rfl⟩, s1.rev⟩, m2, rfl, y2, pl0, _, E.1 i, u, hm, hst0, ak_callee hf g1 (as := .inr (1, i) :: (st.take (mj_m y2).2.2.2.2.2.2).reverse) ⟨_, _, rfl, ⟨hi, rfl⟩, s1.rev⟩ m2 (by rw [List.length_cons, List.length_reverse, hlen]) b3, Or.inr ⟨i, hi, rfl, by rw [← k2, b1]; rfl⟩, rfl⟩
          · cases h
        · cases h
      · cases h
    · cases h
  case invokestatic ix =>
    replace hn := hn.resolve_left Bool.false_ne_true; subst hn
    dsimp only [ak_S] at h
    split at h
    · rename_i q hq
      obtain ⟨c0, x0, kd, y2, pl0⟩ := q
      dsimp only at h
      have hm := mj_find hq
      dsimp only at hm
      split at h
      · rename_i hz
        have g := mj_ml_use hm
        have hy2 : y2 < mj_lawNo := by
          rcases hz with rfl | rfl <;> simp only [mj_okml, Bool.and_eq_true, decide_eq_true_eq] at g <;> exact g.1.1.1.1
        obtain ⟨s1, s2⟩ := hst.split (mj_m y2).2.2.2.2.2.2
        split at h
        · rename_i hcond
          obtain ⟨b1, b3⟩ := hcond
          cases h
          have hlen : (st.take (mj_m y2).2.2.2.2.2.2).length = (mj_m y2).2.2.2.2.2.2 := by rw [List.length_take]; omega
          have hst0 : st0 = ((st0.take (mj_m y2).2.2.2.2.2.2).reverse).reverse ++ st0.drop (mj_m y2).2.2.2.2.2.2 := by rw [List.reverse_reverse, List.take_append_drop]
          exact ⟨rfl, _, _, s1.rev, s2, rfl, Or.inl ⟨y2, pl0, _, _, by rcases hz with rfl | rfl <;> first | exact Or.inl hm | exact Or.inr hm, hst0, ak_callee hf hy2 s1.rev s2 (by rw [List.length_reverse, hlen]) b3, rfl⟩⟩
        · cases h
      · split at h
        · rename_i hz
          subst hz
          split at h
          · rename_i en ed c1 es c0 t
            obtain ⟨v, u, rfl, ⟨nn, rfl, hnn⟩, v2, u2, rfl, ⟨dp, rfl, hdp⟩, v3, u3, rfl, ⟨a1, ha1, rfl⟩, v4, u4, rfl, ⟨sp, rfl, hsp⟩, v5, u5, rfl, ⟨a0, ha0, rfl⟩, m2⟩ := hst
            split at h
            · rename_i N0 k0 N1 k1 hr0 hr1
              have z0 := aD_row_ok hr0
              have z1 := aD_row_ok hr1
              obtain ⟨e0, he0, f, rfl, w0⟩ := hS.2.2.2.2.1.at z0 ha0
              obtain ⟨e1, he1, g, rfl, w1⟩ := hS.2.2.2.2.1.at z1 ha1
              split at h
              · rename_i hcond
                obtain ⟨d0, d1, d2, d3, d4, d5, d6, d7, d8, d9, d10⟩ := hcond
                have p1 := hS.1.pr d3 hsp.neg
                have p2 := hS.1.pr d4 hdp.neg
                have p3 := hS.1.pr d5 hnn.neg
                have p4 := hS.1.pr d6 ((hsp.add hnn).inc _)
                have p5 := hS.1.pr d7 ((hdp.add hnn).inc _)
                have c1' : sp.toNatClampNeg = sp.toInt.toNat := rfl
                have c2' : dp.toNatClampNeg = dp.toInt.toNat := rfl
                have c3' : nn.toNatClampNeg = nn.toInt.toNat := rfl
                have zz : (0 : Int32).toInt = 0 := rfl
                have hW : aWd E al G.1 (ws.set c1 (a1, .inl (E.2.2.2.2.1, N1, .inl (va_cpy f g sp.toNatClampNeg dp.toNatClampNeg nn.toNatClampNeg)))) := by
                  refine hS.2.2.2.2.1.set he1 (fun D hD => ?_)
                  rw [z1] at hD
                  cases hD
                  refine ⟨_, rfl, fun i b hi hb => ?_⟩
                  subst d9
                  have hm := List.mem_of_getElem? hb
                  rw [List.mem_singleton] at hm
                  subst hm
                  exact ⟨i32_lo _, i32_hi _⟩
                have hne : ∀ k, k ≠ c1 → (ws.set c1 (a1, .inl (E.2.2.2.2.1, N1, .inl (va_cpy f g sp.toNatClampNeg dp.toNatClampNeg nn.toNatClampNeg))))[k]? = ws[k]? := fun k hk => List.getElem?_set_ne (Ne.symm hk)
                have hJ2 := hJ ws _ (aPw_ok d0 hne) hS.2.2.2.2.2.2
                exact aK.nx0 h hlv m2 (hS.cpy hsp hdp hnn (by omega) (by omega) (by omega) (by have := (List.getElem?_eq_some_iff.mp z0).1; omega) (by have := (List.getElem?_eq_some_iff.mp z1).1; omega) he0 he1 (hS.lose (cs := [c1]) (by simp) (fun k hk => hne k (by simpa using hk)) hW (hS.2.2.2.2.2.1.other d10) hJ2)) ⟨rfl, Or.inr (Or.inl ⟨pl0, y2, sp, dp, nn, a0, a1, c0, c1, N0, N1, f, g, u5, hm, d1, rfl, by rw [m2.sum hf]; exact d2, he0, he1,
                  by rw [Int32.lt_iff_toInt_lt]; omega, by rw [Int32.lt_iff_toInt_lt]; omega, by rw [Int32.lt_iff_toInt_lt]; omega, by omega, by omega, rfl⟩)⟩
              · cases h
            · cases h
          · cases h
        · split at h
          · rename_i hz
            split at h
            · rename_i b a t
              obtain ⟨v, u, rfl, ⟨z, rfl, hzv⟩, v2, u2, rfl, ⟨x, rfl, hx⟩, m2⟩ := hst
              split at h
              · rename_i hcond
                obtain ⟨d1, d2⟩ := hcond
                cases h
                have hI : mj_I E d y pc lv0 (.int z :: .int x :: u2) ws (mj_nx (pc + 3) lv0 (.int (if kd = 7 then (if x < z then z else x) else (if z < x then z else x)) :: u2) ws) 3 (.invokestatic ix) := by
                  rcases hz with rfl | rfl
                  · exact ⟨rfl, Or.inr (Or.inr (Or.inl ⟨pl0, y2, x, z, u2, hm, d1, rfl, by rw [m2.sum hf]; exact d2, rfl⟩))⟩
                  · exact ⟨rfl, Or.inr (Or.inr (Or.inr ⟨pl0, y2, x, z, u2, hm, d1, rfl, by rw [m2.sum hf]; exact d2, rfl⟩))⟩
                have key : ∀ cd : ClassFile.Cond, (mj_c1 cd x z ↔ (if kd = 7 then x < z else z < x)) → aK E al G J w0 ρ d y pc 3 lv0 (.int z :: .int x :: u2) ws (.invokestatic ix) (.inl ((match aP_cmp P cd a b true with | some P2 => [(none, lv, .inl b :: t, P2)] | none => []) ++ (match aP_cmp P cd a b false with | some P2 => [(none, lv, .inl a :: t, P2)] | none => []))) := by
                  intro cd hcd
                  by_cases hc : mj_c1 cd x z
                  · obtain ⟨P2, g1, g2, g3⟩ := aP_cmp_ok hS.1 hx hzv cd true (c1_iff cd x z true (by simp [hc]))
                    rw [g1]
                    refine ⟨_, List.mem_append_left _ (List.mem_singleton.mpr rfl), [], lv0, .int z :: u2, ws, by rw [List.append_nil]; exact hlv, by rw [List.append_nil]; exact ⟨_, _, rfl, ⟨z, rfl, hzv⟩, m2⟩, by rw [List.append_nil]; exact hS.pv g2 g3, ?_⟩
                    have e : (if kd = 7 then (if x < z then z else x) else (if z < x then z else x)) = z := by
                      have := hcd.mp hc
                      split at this <;> simp_all
                    rw [e] at hI
                    exact hI
                  · obtain ⟨P2, g1, g2, g3⟩ := aP_cmp_ok hS.1 hx hzv cd false (c1_iff cd x z false (by simp [hc]))
                    rw [g1]
                    refine ⟨_, List.mem_append_right _ (List.mem_singleton.mpr rfl), [], lv0, .int x :: u2, ws, by rw [List.append_nil]; exact hlv, by rw [List.append_nil]; exact ⟨_, _, rfl, ⟨x, rfl, hx⟩, m2⟩, by rw [List.append_nil]; exact hS.pv g2 g3, ?_⟩
                    have e : (if kd = 7 then (if x < z then z else x) else (if z < x then z else x)) = x := by
                      have hq2 : ¬ (if kd = 7 then x < z else z < x) := fun q => hc (hcd.mpr q)
                      by_cases h7 : kd = 7
                      · rw [if_pos h7] at hq2 ⊢
                        exact if_neg hq2
                      · rw [if_neg h7] at hq2 ⊢
                        exact if_neg hq2
                    rw [e] at hI
                    exact hI
                refine key _ ?_
                rcases hz with rfl | rfl
                · simp [mj_c1]
                · simp [mj_c1]
              · cases h
            · cases h
          · cases h
    · cases h
  case ireturn =>
    replace hn := hn.resolve_left Bool.false_ne_true; subst hn
    dsimp only [ak_S] at h
    split at h
    · obtain ⟨v, u, rfl, ⟨x, rfl, hx⟩, m2⟩ := hst
      cases m2
      split at h
      · rename_i hr
        cases h
        exact ⟨_, ⟨_, rfl, x, rfl, hx⟩, rfl, x, _, rfl, eR.trans hr, rfl, rfl⟩
      · rename_i hr
        split at h
        · rename_i hin
          cases h
          obtain ⟨b1, b2⟩ := hS.1.in hin hx
          refine ⟨_, ⟨_, rfl, x, rfl, hx⟩, rfl, x, _, rfl, eR.trans hr, ?_, rfl⟩
          rcases fit_bool b1 b2 with rfl | rfl <;> rfl
        · cases h
      · rename_i hr
        split at h
        · rename_i hin
          cases h
          obtain ⟨b1, b2⟩ := hS.1.in hin hx
          exact ⟨_, ⟨_, rfl, x, rfl, hx⟩, rfl, x, _, rfl, eR.trans hr, congrArg Value.int (fit_byte b1 b2), rfl⟩
        · cases h
      · rename_i hr
        split at h
        · rename_i hin
          cases h
          obtain ⟨b1, b2⟩ := hS.1.in hin hx
          exact ⟨_, ⟨_, rfl, x, rfl, hx⟩, rfl, x, _, rfl, eR.trans hr, congrArg Value.int (fit_char b1 b2), rfl⟩
        · cases h
      · cases h
    · cases h
  case lreturn =>
    replace hn := hn.resolve_left Bool.false_ne_true; subst hn
    dsimp only [ak_S] at h
    split at h
    · obtain ⟨v, u, rfl, ⟨x, rfl⟩, m2⟩ := hst
      cases m2
      split at h
      · rename_i hr
        cases h
        exact ⟨_, ⟨_, rfl, x, rfl⟩, rfl, x, rfl, eR.trans hr, rfl⟩
      · cases h
    · cases h
  case return_ =>
    replace hn := hn.resolve_left Bool.false_ne_true; subst hn
    dsimp only [ak_S] at h
    split at h
    · cases hst
      split at h
      · rename_i hr
        cases h
        exact ⟨none, rfl, rfl, rfl, eR.trans hr, rfl⟩
      · cases h
    · cases h
  all_goals cases h
end AKO
