/-! THE HEADS: feed, with its bytes; read, its answers compared -/
section LAW
variable {E : mj_E} {Q : Option Value → va_W → Prop}
section
set_option maxRecDepth 100000
theorem lf_1 : decode (mj_b 320) 983 = .ok (.aload_n 1, 1) := by decide +kernel
theorem lf_2 : decode (mj_b 320) 1013 = .ok (.aload_n 2, 1) := by decide +kernel
theorem lf_c1 : decode (mj_b 320) 1009 = .ok (.invokevirtual 104, 3) := by decide +kernel
theorem lf_c2 : decode (mj_b 320) 1039 = .ok (.invokevirtual 108, 3) := by decide +kernel
theorem lf_q1 : (mj_fml (mj_cn 320) 104).any (fun q => q.2.2.1 == 0 && q.2.2.2.1 == 81) = true := by decide +kernel
theorem lf_q2 : (mj_fml (mj_cn 320) 108).any (fun q => q.2.2.1 == 0 && q.2.2.2.1 == 231) = true := by decide +kernel
theorem lf_p1 : decode (mj_b 320) 1012 = .ok (.pop, 1) := by decide +kernel
theorem lf_p2 : decode (mj_b 320) 1042 = .ok (.pop, 1) := by decide +kernel
def lf_lg (pc : Nat) : Bool := la_ldc pc 1 && decide (decode (mj_b 320) (pc + 5) = .ok (.i2l, 1)) && decide (decode (mj_b 320) (pc + 6) = .ok (.bipush 32, 2)) && decide (decode (mj_b 320) (pc + 8) = .ok (.lshl, 1)) && la_ldc (pc + 9) 2 && decide (decode (mj_b 320) (pc + 14) = .ok (.i2l, 1)) && decide (decode (mj_b 320) (pc + 15) = .ok (.ldc2_w 102, 3)) && decide (decode (mj_b 320) (pc + 18) = .ok (.land, 1)) && decide (decode (mj_b 320) (pc + 19) = .ok (.lor, 1)) && la_ldc (pc + 20) 3
theorem lf_k : (lf_lg (983 + 1) && lf_lg (1013 + 1)) = true := by decide +kernel
theorem lf_kl : (mj_fkl (mj_cn 320) 102).any (fun q => q.2.2.1 == 1 && q.2.2.2.1 == 4294967295) = true := by decide +kernel
theorem lr_0 : decode (mj_b 320) 1046 = .ok (.aload_n 1, 1) := by decide +kernel
theorem lr_3 : decode (mj_b 320) 1051 = .ok (.aload_n 2, 1) := by decide +kernel
theorem lr_5 : decode (mj_b 320) 1055 = .ok (.pop, 1) := by decide +kernel
theorem lr_2 : decode (mj_b 320) 1050 = .ok (.pop, 1) := by decide +kernel
theorem lp_xf : laP 1043 [] 2217 laLv [] = true := by decide +kernel
theorem lp_xr : laP 1056 [] 2217 laLv [] = true := by decide +kernel
end
section SIDES
variable {al : List Nat} {ws w w2 : va_W} {L : Nat} {i : Int} {ρ : List Int}
theorem la_argV {pc : Nat} {k : Int} (hc : la_ldc pc k = true) (hk : 1 ≤ k ∧ k ≤ 6) (hE : (E.2.2.1 2).2.1 = L) (hL : L ≤ 3584) (hi : 0 ≤ i ∧ i + 7 ≤ L) {LV : List (Nat × Value)} {ST : List Value} (h1 : gA E al [(L : Int), i] laLv LV) (hq : MJ E 86 0 0 (320, pc + 5, LV, .int (laX E (i + k)) :: ST, w) Q) : MJ E 86 0 0 (320, pc, LV, ST, w) Q := by
  unfold la_ldc at hc
  simp only [Bool.and_eq_true, decide_eq_true_eq] at hc
  obtain ⟨⟨⟨⟨d0, d1⟩, d2⟩, d3⟩, d4⟩ := hc
  obtain ⟨v0, m0, e0⟩ := h1 (0, .inr (3, 2)) (by simp [laLv])
  obtain ⟨-, rfl⟩ := e0
  obtain ⟨v3, m3, n, rfl, hn⟩ := h1 (3, .inl (ae_s 1)) (by simp [laLv])
  have en : n.toInt = i := hn.uniq (aV.s rfl)
  have ek : (Int32.ofInt k).toInt = k := i32_of (by unfold aI0; omega) (by unfold aI1; omega)
  have es : (n + Int32.ofInt k).toInt = i + k := i32_add (by rw [en, ek]) (by unfold aI0; omega) (by unfold aI1; omega)
  refine MJ.nx d0 ⟨rfl, _, m0, rfl⟩ (MJ.nx d1 ⟨rfl, _, m3, rfl⟩ (MJ.nx d2 ⟨rfl, rfl⟩ (MJ.nx d3 ⟨rfl, _, _, _, rfl, rfl⟩ (MJ.nx d4 ⟨rfl, _, _, _, rfl, Or.inr ⟨2, by decide, rfl, i32_in (by rw [es]; omega) (by rw [es, hE]; omega), rfl⟩⟩ ?_))))
  rw [show (n + Int32.ofInt k).toNatClampNeg = (i + k).toNat by rw [show (n + Int32.ofInt k).toNatClampNeg = (n + Int32.ofInt k).toInt.toNat from rfl, es]]
  exact hq
/-- the eight bytes -/
def lX (E : mj_E) (i : Int) : Int64 := ((laX E (i + 1)).toInt64 <<< ((Int8.ofInt 32).toInt32.toInt64 &&& 63)) ||| ((laX E (i + 2)).toInt64 &&& Int64.ofInt 4294967295)
theorem la_eightV {pc : Nat} (hc : lf_lg pc = true) (hE : (E.2.2.1 2).2.1 = L) (hL : L ≤ 3584) (hi : 0 ≤ i ∧ i + 7 ≤ L) {LV : List (Nat × Value)} {ST : List Value} (h1 : gA E al [(L : Int), i] laLv LV) (hq : MJ E 86 0 0 (320, pc + 25, LV, .int (laX E (i + 3)) :: .long (lX E i) :: ST, w) Q) : MJ E 86 0 0 (320, pc, LV, ST, w) Q := by
  unfold lf_lg at hc
  simp only [Bool.and_eq_true, decide_eq_true_eq] at hc
  obtain ⟨⟨⟨⟨⟨⟨⟨⟨⟨c1, c2⟩, c3⟩, c4⟩, c5⟩, c6⟩, c7⟩, c8⟩, c9⟩, c10⟩ := hc
  have hk := lf_kl
  refine la_argV c1 (by decide) hE hL hi h1 ?_
  refine MJ.nx c2 ⟨rfl, _, ST, rfl, rfl⟩ (MJ.nx c3 ⟨rfl, rfl⟩ (MJ.nx c4 ⟨rfl, _, _, ST, rfl, rfl⟩ ?_))
  refine la_argV c5 (by decide) hE hL hi h1 ?_
  refine MJ.nx c6 ⟨rfl, _, _, rfl, rfl⟩ ?_
  cases hm : mj_fkl (mj_cn 320) 102 with
  | none => rw [hm] at hk; cases hk
  | some q =>
    rw [hm] at hk
    have m := mj_find hm
    obtain ⟨a, b, kd, v, pl⟩ := q
    simp only [Option.any_some, Bool.and_eq_true, beq_iff_eq] at hk
    obtain ⟨rfl, rfl⟩ := hk
    refine MJ.nx c7 ⟨rfl, _, pl, m, rfl⟩ (MJ.nx c8 ⟨rfl, _, _, _, rfl, rfl⟩ (MJ.nx c9 ⟨rfl, _, _, _, rfl, rfl⟩ ?_))
    exact la_argV c10 (by decide) hE hL hi h1 hq
theorem la_cvV {pc ix y2 q0 ci a : Nat} {fs as rest ST : List Value} {LV : List (Nat × Value)} {x : Value} {R : va_W → Prop} (hd : decode (mj_b 320) pc = .ok (.invokevirtual ix, 3)) (hq : (mj_fml (mj_cn 320) ix).any (fun q => q.2.2.1 == 0 && q.2.2.2.1 == y2) = true) (hs : ST = as.reverse ++ .ref a :: rest) (hc : mj_callee y2 (.ref a :: as) rest ((mj_m y2).2.2.2.2.2.2 + 1))
    (hw : w[q0]? = some (a, .inr (ci, fs))) (hci : mj_cls ci = (mj_y y2).cls ∧ ci < 7) (hM : MJ E 85 0 0 (mj_in0 y2 (.ref a :: as) w) (fun v w2 => v = some x ∧ R w2)) (h : ∀ w2, R w2 → MJ E 86 0 0 (320, pc + 3, LV, x :: rest, w2) Q) : MJ E 86 0 0 (320, pc, LV, ST, w) Q := by
  subst hs
  cases hm : mj_fml (mj_cn 320) ix with
  | none => rw [hm] at hq; cases hq
  | some q =>
    rw [hm] at hq
    have m := mj_find hm
    obtain ⟨a1, b, kd, y3, pl⟩ := q
    simp only [Option.any_some, Bool.and_eq_true, beq_iff_eq] at hq
    obtain ⟨rfl, rfl⟩ := hq
    refine MJ.cl hd (y2 := y3) (as := .ref a :: as) (rest := rest) ⟨rfl, y3, pl, as, a, rest, m, rfl, hc, Or.inl ⟨q0, ci, fs, hw, hci⟩, rfl⟩ (d2 := 85) (mc2 := 0) (ms2 := 0) (mc3 := 0) (ms3 := 0) rfl rfl rfl hM (fun v w2 hv => ?_)
    obtain ⟨rfl, hR⟩ := hv
    exact h w2 hR
theorem fT_eq {X : Int64} {c : Int32} {s : Nat} {f g : Nat → Int} (h : ∀ k, k < s → f k = g k) : ∀ k, k < fN c s → fT X c s f k = fT X c s g k := by
  intro k hk
  unfold fN at hk
  unfold fT
  by_cases e : fQ c s = 2
  · rw [if_pos e] at hk
    rw [if_pos e, if_pos e]
    unfold ft
    by_cases e2 : s ≤ k ∧ k < s + c.toInt.toNat
    · rw [if_pos e2, if_pos e2]
    · rw [if_neg e2, if_neg e2]
      exact h k (by omega)
  · rw [if_neg e] at hk
    rw [if_neg e, if_neg e]
    exact h k hk
theorem jS_b {c k : Nat} : aI0 ≤ jS w c k ∧ jS w c k ≤ aI1 := by
  unfold jS
  split
  · split
    · exact ⟨i32_lo _, i32_hi _⟩
    · exact ⟨by decide, by decide⟩
  · exact ⟨i32_lo _, i32_hi _⟩
  · exact ⟨by decide, by decide⟩
theorem vC_w {R : Int × tLs} {V : Int} {w w1 w2 : va_W} (h : vC R V w w1) (h1 : ∀ k, jS w2 23 k = jS w1 23 k) (h2 : ∀ k, jS w2 25 k = jS w1 25 k) : vC R V w w2 := by
  unfold vC at h ⊢
  simp only [h1, h2]
  exact h
/-- read: the versions of both sides afterwards -/
theorem rl_read {w w1 w2 : va_W} {R0 : Int × tLs} {V : Int} (h : jRel (jLV w)) (eV : jS w 22 3 = V) (xb : 0 ≤ V ∧ V ≤ 8) (e1 : jS w2 1 0 = jS w 1 0) (e2 : jS w2 100 0 = jS w 100 0) (c22 : jS w2 22 3 = rdV R0.1 V) (c100 : jS w2 100 6 = rdV R0.1 V) (C : vC R0 V w w2) (R : vR R0 V w1 w2) (f100 : jS w1 100 0 = jS w 100 0) (f110 : ∀ k, jS w1 110 k = jS w 110 k) (f111 : ∀ k, jS w1 111 k = jS w 111 k) : jRel (jLV w2) := by
  obtain ⟨⟨a1, a2, a3⟩, ⟨b1, b2, b3⟩, c⟩ := h
  have a1 : jS w 1 0 = jS w 100 0 := a1
  have a2 : 0 ≤ jS w 1 0 := a2
  have a3 : jS w 1 0 ≤ 1999 := a3
  have c : ∀ v : Nat, (v : Int) < jS w 22 3 → (jS w 23 (2 * v + 1) = jS w 110 (2 * v) ∧ 0 ≤ jS w 110 (2 * v) ∧ jS w 110 (2 * v) ≤ 9 ∧ jS w 23 (2 * v) = jS w 110 (2 * v + 1)) ∧ ∀ i : Nat, (i : Int) < jS w 110 (2 * v) → jS w 25 (36 * v + 4 * i) = jS w 111 (36 * v + 4 * i) ∧ jS w 25 (36 * v + 4 * i + 1) = jS w 111 (36 * v + 4 * i + 1) := c
  rw [eV] at c
  have top : 0 ≤ rdV R0.1 V ∧ rdV R0.1 V ≤ 8 := by
    unfold rdV
    split
    · exact xb
    · split <;> omega
  refine ⟨⟨?_, ?_, ?_⟩, ⟨?_, ?_, ?_⟩, fun v hv => ?_⟩
  · show jS w2 1 0 = jS w2 100 0
    rw [e1, e2]
    exact a1
  · show 0 ≤ jS w2 1 0
    omega
  · show jS w2 1 0 ≤ 1999
    omega
  · show jS w2 22 3 = jS w2 100 6
    rw [c22, c100]
  · show 0 ≤ jS w2 22 3
    omega
  · show jS w2 22 3 ≤ 8
    omega
  · have hv : (v : Int) < jS w2 22 3 := hv
    rw [c22] at hv
    show (jS w2 23 (2 * v + 1) = jS w2 110 (2 * v) ∧ 0 ≤ jS w2 110 (2 * v) ∧ jS w2 110 (2 * v) ≤ 9 ∧ jS w2 23 (2 * v) = jS w2 110 (2 * v + 1)) ∧ ∀ i : Nat, (i : Int) < jS w2 110 (2 * v) → jS w2 25 (36 * v + 4 * i) = jS w2 111 (36 * v + 4 * i) ∧ jS w2 25 (36 * v + 4 * i + 1) = jS w2 111 (36 * v + 4 * i + 1)
    by_cases t : R0.1 < 0 ∧ V ≠ 8
    · unfold vC at C
      unfold vR at R
      rw [if_pos t] at C R
      obtain ⟨C1, C2, C3, C4⟩ := C
      obtain ⟨R1, R2, R3, R4, R5⟩ := R
      have e : rdV R0.1 V = V + 1 := by
        unfold rdV
        rw [if_neg (by omega), if_neg t.2]
      rw [e] at hv
      by_cases ev : v = V.toNat
      · rw [← ev] at C1 C2 R2 R3 R4
        refine ⟨⟨?_, ?_, ?_, ?_⟩, fun i hi => ?_⟩
        · rw [C1, if_pos rfl, R2]
        · rw [R2]
          omega
        · rw [R2]
          omega
        · rw [C1, if_neg (by omega), if_pos rfl, R3, f100]
          exact a1
        · rw [R2] at hi
          have hi : i < R0.2.length := by omega
          exact ⟨(C2 i hi).1.trans (R4 i hi).1.symm, (C2 i hi).2.trans (R4 i hi).2.symm⟩
      · have hlt : v < V.toNat := by omega
        have k := c v (by omega)
        have s1 : jS w2 23 (2 * v + 1) = jS w 23 (2 * v + 1) := by rw [C1, if_neg (by omega), if_neg (by omega)]
        have s2 : jS w2 23 (2 * v) = jS w 23 (2 * v) := by rw [C1, if_neg (by omega), if_neg (by omega)]
        have s3 : jS w2 110 (2 * v) = jS w 110 (2 * v) := by rw [R1 _ (by omega) (by omega), f110]
        have s4 : jS w2 110 (2 * v + 1) = jS w 110 (2 * v + 1) := by rw [R1 _ (by omega) (by omega), f110]
        rw [s1, s2, s3, s4]
        refine ⟨k.1, fun i hi => ?_⟩
        have k9 := k.1.2.2.1
        have s5 : jS w2 25 (36 * v + 4 * i) = jS w 25 (36 * v + 4 * i) := C3 _ (by omega)
        have s6 : jS w2 25 (36 * v + 4 * i + 1) = jS w 25 (36 * v + 4 * i + 1) := C3 _ (by omega)
        have s7 : jS w2 111 (36 * v + 4 * i) = jS w 111 (36 * v + 4 * i) := by rw [R5 _ (by omega), f111]
        have s8 : jS w2 111 (36 * v + 4 * i + 1) = jS w 111 (36 * v + 4 * i + 1) := by rw [R5 _ (by omega), f111]
        rw [s5, s6, s7, s8]
        exact k.2 i hi
    · unfold vC at C
      unfold vR at R
      rw [if_neg t] at C R
      have e : rdV R0.1 V = V := by
        unfold rdV
        split
        · rfl
        · rename_i h0
          rw [if_pos (Decidable.of_not_not (fun h8 => t ⟨by omega, h8⟩))]
      rw [e] at hv
      have g1 : ∀ k, jS w2 110 k = jS w 110 k := fun k => (R.1 k).trans (f110 k)
      have g2 : ∀ k, jS w2 111 k = jS w 111 k := fun k => (R.2 k).trans (f111 k)
      simp only [C.1, C.2, g1, g2]
      exact c v hv
set_option maxRecDepth 100000 in
theorem la_feedH (hf : E.2.2.2.1.category = 1) (hT : ∀ σ : List Int, aTb E σ aTabs) (hL : L ≤ 3584) (hE : (E.2.2.1 2).2.1 = L) (H1 : hOkL E al laG1 (fun _ => True) [(L : Int), i] 2) (h : laI E al L i w) (hz : jZ w) (h7 : i + 7 ≤ L)
    (hq : ∀ w2, laI E al L i w2 → jZ w2 → hG E al 86 320 2217 laLv [] [(L : Int), i] w2 Q) : hG E al 86 320 983 laLv [] [(L : Int), i] w Q := by
  intro LV ST h1 h2
  have h2 : ST = [] := h2
  subst h2
  have lg := lf_k
  rw [Bool.and_eq_true] at lg
  obtain ⟨v1, m1, a0, e0, rfl⟩ := h1 (1, .inr (0, 0)) (by simp [laLv])
  obtain ⟨v2, m2, a99, e99, rfl⟩ := h1 (2, .inr (0, 99)) (by simp [laLv])
  have hi : 0 ≤ i ∧ i + 7 ≤ L := ⟨h.1.1, h7⟩
  obtain ⟨x75, l75, -⟩ := fl_75
  obtain ⟨a75, f75, -, e75, -⟩ := wf_obj h.2.1 l75
  obtain ⟨a118, e118⟩ : ∃ a, al[118]? = some a := by
    obtain ⟨⟨a, e⟩, g1, -⟩ := h.2.1.2 118 _ fl_118
    exact ⟨a, by rw [← h.2.1.1, List.getElem?_map, g1]; rfl⟩
  have bs : 0 ≤ jS w 75 1 ∧ jS w 75 1 ≤ 250 := (jLay_ok h.2.1 (c := 75) (i := 1) (b := (0, 250)) (by decide +kernel)).2
  obtain ⟨s, hs⟩ : ∃ s : Nat, jS w 75 1 = (s : Int) := ⟨(jS w 75 1).toNat, by omega⟩
  have hz0 := hz
  obtain ⟨⟨z0, zx⟩, zt, zb⟩ := hz
  refine MJ.nx lf_1 ⟨rfl, _, m1, rfl⟩ ?_
  refine la_eightV lg.1 hE hL hi h1 ?_
  obtain ⟨x0, l0, -⟩ := fl_0
  obtain ⟨b0, f0, g0, n0, -⟩ := wf_obj h.2.1 l0
  rw [e0] at n0
  cases n0
  refine la_cvV (as := [.long (lX E i), .int (laX E (i + 3))]) (rest := []) lf_c1 lf_q1 rfl ⟨by decide, rfl, (by show 4 ≤ _; decide +kernel), by decide +kernel, (by show 0 ≤ 8; decide)⟩ g0 ⟨by decide +kernel, by decide⟩ (fc_mj hf hT h.2.1 h.2.2 z0 e0 e75 hs (by omega)) (fun w1 hR => ?_)
  obtain ⟨b1, b2, b3, b4, b5, b6⟩ := hR
  refine MJ.nx lf_p1 ⟨rfl, _, _, rfl, rfl, rfl⟩ ?_
  refine MJ.nx lf_2 ⟨rfl, _, m2, rfl⟩ ?_
  refine la_eightV lg.2 hE hL hi h1 ?_
  obtain ⟨x99, l99, -⟩ := fl_99
  obtain ⟨b9, f9, g9, n9, -⟩ := wf_obj b1 l99
  rw [e99] at n9
  cases n9
  refine la_cvV (as := [.long (lX E i), .int (laX E (i + 3))]) (rest := []) lf_c2 lf_q2 rfl ⟨by decide, rfl, (by show 4 ≤ _; decide +kernel), by decide +kernel, (by show 0 ≤ 8; decide)⟩ g9 ⟨by decide +kernel, by decide⟩ (fr_mj hf hT b1 b2 b3 e99 e118 (s := s) ((jS.at (b4.2 99 (by decide))).trans (zt.symm.trans hs)) (by omega)) (fun w2 hR => ?_)
  obtain ⟨c1, c2, c3, c4, c5, c6, c7⟩ := hR
  have h2 : laI E al L i w2 := ⟨h.1, c1, c2⟩
  have e76 : ∀ k, jS w2 76 k = jS w1 76 k := fun k => jS.at (c4.2 76 (by decide))
  have e118 : ∀ k, jS w1 118 k = jS w 118 k := fun k => jS.at (b4.2 118 (by decide))
  have t1 : jS w2 75 1 = (fN (laX E (i + 3)) s : Int) := (jS.at (c4.2 75 (by decide))).trans b5
  have done : jZ w2 := by
    have m : ∀ c, c ∉ ([75, 76, 99, 118] : List Nat) → ∀ k, jS w2 c k = jS w c k := fun c hc k => by
      simp only [List.mem_cons, List.not_mem_nil, or_false, not_or] at hc
      rw [jS.at (c4.2 c (by simp; omega)), jS.at (b4.2 c (by simp; omega))]
    have pick : ∀ l : List Nat, l.all (fun c => !(([75, 76, 99, 118] : List Nat).elem c)) = true → ∀ c, c ∈ l → ∀ k, jS w2 c k = jS w c k := fun l hl c hc k => m c (fun hm => by
      have := List.all_eq_true.mp hl c hc
      rw [List.elem_eq_true_of_mem hm] at this
      cases this) k
    refine ⟨⟨c3, jXF_of zx ?_ ?_ (pick _ (by decide)) (jRel_same zx.2.1 (pick _ (by decide)))⟩, t1.trans c5.symm, fun k hk => ?_⟩
    · exact m 0 (by decide) 2
    · rw [c7 59 (by decide), jS.at (b4.2 99 (by decide))]
    · rw [e76, b6, c6, fT_eq (g := jS w 118) (f := jS w1 118) (fun k _ => e118 k) k (by omega)]
      exact fT_eq (fun k hk => zb k (by omega)) k (by omega)
  refine MJ.nx lf_p2 ⟨rfl, _, _, rfl, rfl, rfl⟩ ?_
  exact (la_glue H1 hL lp_xf h2 (hq w2 h2 done)) LV [] h1 rfl
set_option maxRecDepth 100000 in
theorem la_readH (hf : E.2.2.2.1.category = 1) (hT : ∀ σ : List Int, aTb E σ aTabs) (hL : L ≤ 3584) (H1 : hOkL E al laG1 (fun _ => True) [(L : Int), i] 2) (h : laI E al L i w) (hz : jZ w)
    (hq : ∀ w2, laI E al L i w2 → jZ w2 → hG E al 86 320 2217 laLv [] [(L : Int), i] w2 Q) : hG E al 86 320 1046 laLv [] [(L : Int), i] w Q := by
  have re : ∀ {AS : List Value} {self : Nat}, gL E al [(L : Int), i] [.inr (0, self)] AS → gL E al [] [.inr (0, self)] AS := fun ha => ha
  have bs : 0 ≤ jS w 75 1 ∧ jS w 75 1 ≤ 250 := (jLay_ok h.2.1 (c := 75) (i := 1) (b := (0, 250)) (by decide +kernel)).2
  obtain ⟨n, hn⟩ : ∃ n : Nat, jS w 75 1 = (n : Int) := ⟨(jS w 75 1).toNat, by omega⟩
  have hJ := jJF_J hz.1
  obtain ⟨⟨z0, zx⟩, zt, zb⟩ := hz
  obtain ⟨V, eV⟩ : ∃ V, jS w 22 3 = V := ⟨_, rfl⟩
  have r1 : jS w 1 0 = jS w 100 0 ∧ 0 ≤ jS w 1 0 ∧ jS w 1 0 ≤ 1999 := zx.2.1.1
  have r2 : jS w 22 3 = jS w 100 6 ∧ 0 ≤ jS w 22 3 ∧ jS w 22 3 ≤ 8 := zx.2.1.2.1
  have x6 : V = jS w 100 6 := by rw [← eV]; exact r2.1
  have xb : 0 ≤ V ∧ V ≤ 8 := by rw [← eV]; exact r2.2
  refine la_al1 lr_0 ?_
  refine law_callV (d := 85) (y2 := 83) (as := [.inr (0, 0)]) (rest := []) mj_li_law H1 (by rfl) (h.hW hL) (fun AS ha => (kz2_mj (T := jS w 118) (n := n) hf hT ⟨by omega, fun k hk => zb k (by omega), fun _ => jS_b⟩ h.2.1 h.2.2 z0 hn xb eV (re ha)).weaken (by decide) (Nat.le_refl _) (Nat.le_refl _) (fun v w h => h)) (fun z w1 hR => ?_)
  obtain ⟨g0, g1, g2, g3, g4, g5, g6, g7⟩ := hR
  have h1 : laI E al L i w1 := ⟨h.1, g1, g2⟩
  have hJ1 : jJ w1 := by
    refine ⟨g3, ?_, fun q hq => (by have hq : q ∈ ([] : List jQ) := hq; cases hq), fun _ q hq => (by have hq : q ∈ ([] : List jQ) := hq; cases hq)⟩
    rw [jS.at (g4.2 0 (by decide)), jS.at (g4.2 99 (by decide))]
    exact hJ.2.1
  have hI1 : hI E al jJ w1 := ⟨g1, g2, hJ1⟩
  have h19 : jF w1 19 = (n : Int) := by
    rw [jFS hI1, jS.at (g4.2 99 (by decide)), ← zt]
    exact hn
  refine la_pop lr_2 (la_al2 lr_3 ?_)
  refine law_callV (d := 85) (y2 := 232) (as := [.inr (0, 99)]) (rest := []) mj_li_law H1 (by rfl) (h1.hW hL) (fun AS ha => (rz2_mj (T := jS w 118) (n := n) (V := V) hf hT (gR_ok hf hT) (hOkW hf hT) hI1 ⟨by omega, fun k hk => jS.at (g4.2 118 (by decide)), fun _ => jS_b⟩ h19 xb ((jS.at (g4.2 100 (by decide))).trans x6.symm) (re ha)).weaken (by decide) (Nat.le_refl _) (Nat.le_refl _) (fun v w h => h)) (fun z2 w2 hR => ?_)
  obtain ⟨m0, m1, m2, m3, m4, m5, m6⟩ := hR
  have h2 : laI E al L i w2 := ⟨h.1, m1.1, m1.2.1⟩
  have t1 : jS w2 75 1 = 0 := (jS.at (m2.2 75 (by decide))).trans g5
  have done : jZ w2 := by
    have mm : ∀ c, c ∉ ([75, 77, 78, 79, 80, 22, 23, 25, 27, 99, 100, 110, 111, 112, 119, 120, 121] : List Nat) → ∀ k, jS w2 c k = jS w c k := fun c hc k => by
      simp only [List.mem_cons, List.not_mem_nil, or_false, not_or] at hc
      rw [jS.at (m2.2 c (by simp; omega)), jS.at (g4.2 c (by simp; omega))]
    have pick : ∀ c, c ∈ ([38, 59, 60, 62, 140] : List Nat) → ∀ k, jS w2 c k = jS w c k := fun c hc k => mm c (by
      simp only [List.mem_cons, List.not_mem_nil, or_false, not_or] at hc ⊢
      omega) k
    refine ⟨⟨m1.2.2.1, jXF_of zx (mm 0 (by decide) 2) ?_ pick (rl_read zx.2.1 eV xb (e1 := mm 1 (by decide) 0) (e2 := ?_) (c22 := (jS.at (m2.2 22 (by decide))).trans g6) (c100 := m4) (C := vC_w g7 (fun k => jS.at (m2.2 23 (by decide))) (fun k => jS.at (m2.2 25 (by decide)))) (R := m5) (f100 := jS.at (g4.2 100 (by decide))) (f110 := fun k => jS.at (g4.2 110 (by decide))) (f111 := fun k => jS.at (g4.2 111 (by decide))))⟩, t1.trans m3.symm, fun k hk => by omega⟩
    · rw [← m1.2.2.2.1, mm 0 (by decide) 2]
      exact zx.1
    · exact m6.trans (jS.at (g4.2 100 (by decide)))
  exact la_pop lr_5 (la_glue H1 hL lp_xr h2 (hq w2 h2 done))
end SIDES
end LAW
