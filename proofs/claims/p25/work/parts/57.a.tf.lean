/-! FEED, WITH ITS BYTES, both sides, over values -/
/-- a byte of the eight -/
def fb (X : Int64) (i : Nat) : Int32 := (((X.toUInt64 >>> (((Int8.ofInt 8).toInt32 * nI i).toInt64.toUInt64 &&& Int64.toUInt64 63)).toInt64) &&& Int64.ofInt 255).toInt32
/-- the tape behind i bytes -/
def ft (X : Int64) (s i : Nat) (f : Nat → Int) (k : Nat) : Int := if s ≤ k ∧ k < s + i then (fb X (k - s)).toInt else f k
/-- what becomes of the call: 0 and 1 refused, 2 taken -/
def fQ (c : Int32) (s : Nat) : Nat := if 1 ≤ c.toInt ∧ c.toInt ≤ 8 then (if c.toInt + s ≤ 250 then 2 else 1) else 0
def fA (c : Int32) (s : Nat) : Int32 := if fQ c s = 0 then Int32.ofInt (-1) else if fQ c s = 1 then (Int8.ofInt (-2)).toInt32 else nI (s + c.toInt.toNat)
def fN (c : Int32) (s : Nat) : Nat := if fQ c s = 2 then s + c.toInt.toNat else s
def fT (X : Int64) (c : Int32) (s : Nat) (f : Nat → Int) (k : Nat) : Int := if fQ c s = 2 then ft X s c.toInt.toNat f k else f k
theorem ft_0 {X : Int64} {s : Nat} {f : Nat → Int} {k : Nat} : ft X s 0 f k = f k := by
  unfold ft
  rw [if_neg (by omega)]
theorem ft_s {X : Int64} {s i : Nat} {f : Nat → Int} {k : Nat} : (if k = s + i then (fb X i).toInt else ft X s i f k) = ft X s (i + 1) f k := by
  unfold ft
  by_cases e : k = s + i
  · subst e
    rw [if_pos rfl, if_pos (by omega), show s + i - s = i by omega]
  · rw [if_neg e]
    by_cases h : s ≤ k ∧ k < s + i
    · rw [if_pos h, if_pos (by omega)]
    · rw [if_neg h, if_neg (by omega)]
section
set_option maxRecDepth 100000
theorem kf_t : lp_chk (aG00 []) 84 82 (0, [(0, 249), aF], [], [((75, ae_k 1), ae_s 0)], [(0, .inr (0, 75)), (1, .inl (ae_s 1))], []) 40 [] [] [(75, some (ae_k 1, ([(0, 1)], 1))), (76, some (ae_s 0, ae_s 1))] = true := by decide +kernel
theorem kf_w1 : ∀ k, k < 250 → (jLay 76 k).isSome = true := by decide +kernel
theorem kf_w2 : ∀ k, k < 250 → (jLay 118 k).isSome = true := by decide +kernel
theorem kf_p1 : aProt0.all (fun q => decide (q < 1000 ∧ q ≠ 118 ∧ q ≠ 99)) = true := by decide +kernel
theorem kf_f1 : mj_fty 6 19 = some .int := by decide +kernel
theorem kf_f2 : mj_fin 6 19 = false := by decide +kernel
theorem kf_r : aRules.all (fun r => !(r.1 == 118)) = true := by decide +kernel
end
section NF
variable {E : mj_E} {d y pc : Nat} {lx : List (Nat × Value)} {ST : List Value} {ws : va_W} {Q : Option Value → va_W → Prop}
theorem nf_in0 {as : List Value} (h : nG E d y 0 (lv_args 0 as) [] ws Q) : MJ E d 0 0 (mj_in0 y as ws) Q := h _ (fun _ h => h)
theorem n_si {k : Int} {v : Int32} (hd : decode (mj_b y) pc = .ok (.sipush k, 3)) (hv : (Int16.ofInt k).toInt32 = v) (h : nG E d y (pc + 3) lx (.int v :: ST) ws Q) : nG E d y pc lx ST ws Q := by
  subst hv
  exact n_nx hd (fun LV _ => ⟨rfl, rfl⟩) h
theorem n_dupr {a : Nat} (hd : decode (mj_b y) pc = .ok (.dup, 1)) (h : nG E d y (pc + 1) lx (.ref a :: .ref a :: ST) ws Q) : nG E d y pc lx (.ref a :: ST) ws Q := n_nx hd (fun LV _ => ⟨rfl, _, _, rfl, rfl, rfl⟩) h
theorem n_lushr {a c : Int64} {b : Int32} (hd : decode (mj_b y) pc = .ok (.lushr, 1)) (hc : (a.toUInt64 >>> (b.toInt64.toUInt64 &&& Int64.toUInt64 63)).toInt64 = c) (h : nG E d y (pc + 1) lx (.long c :: ST) ws Q) : nG E d y pc lx (.int b :: .long a :: ST) ws Q := by
  subst hc
  exact n_nx hd (fun LV _ => ⟨rfl, a, b, ST, rfl, rfl⟩) h
theorem n_rti {v : Int32} (hd : decode (mj_b y) pc = .ok (.ireturn, 1)) (hr : mj_r y = some .int) (h : Q (some (.int v)) ws) : nG E d y pc lx [.int v] ws Q := n_reti (ty := .int) hd hr rfl h
/-- a call of an object's method that answers nothing -/
theorem n_cvw {ix y2 q0 ci a : Nat} {fs as rest : List Value} {R : va_W → Prop} (hd : decode (mj_b y) pc = .ok (.invokevirtual ix, 3)) (hq : (mj_fml (mj_cn y) ix).any (fun q => q.2.2.1 == 0 && q.2.2.2.1 == y2) = true) (hs : ST = as.reverse ++ .ref a :: rest) (hc : mj_callee y2 (.ref a :: as) rest ((mj_m y2).2.2.2.2.2.2 + 1))
    (hw : ws[q0]? = some (a, .inr (ci, fs))) (hci : mj_cls ci = (mj_y y2).cls ∧ ci < 7) (hM : MJ E d 0 0 (mj_in0 y2 (.ref a :: as) ws) (fun v w => v = none ∧ R w)) (h : ∀ w, R w → nG E (d + 1) y (pc + 3) lx rest w Q) : nG E (d + 1) y pc lx ST ws Q := by
  subst hs
  cases hm : mj_fml (mj_cn y) ix with
  | none => rw [hm] at hq; cases hq
  | some q =>
    rw [hm] at hq
    have m := mj_find hm
    obtain ⟨a1, b, kd, y3, pl⟩ := q
    simp only [Option.any_some, Bool.and_eq_true, beq_iff_eq] at hq
    obtain ⟨rfl, rfl⟩ := hq
    intro LV hL
    refine MJ.cl hd (y2 := y3) (as := .ref a :: as) (rest := rest) ⟨rfl, y3, pl, as, a, rest, m, rfl, hc, Or.inl ⟨q0, ci, fs, hw, hci⟩, rfl⟩ (d2 := d) (mc2 := 0) (ms2 := 0) (mc3 := 0) (ms3 := 0) rfl rfl rfl hM (fun v w hv => ?_)
    obtain ⟨rfl, hR⟩ := hv
    exact h w hR LV hL
end NF
section FD
variable {E : mj_E} {Q : Option Value → va_W → Prop} {al : List Nat} {w w0 w1 w2 ws : va_W}
theorem wf_obj (h : aWd E al aLay w) {c ci : Nat} {fs : List (Nat ⊕ (Int × Int))} (l1 : aLay[c]? = some (.inl (ci, fs))) : ∃ a vs, w[c]? = some (a, .inr (ci, vs)) ∧ al[c]? = some a ∧ ∀ (k : Nat) (f : Nat ⊕ (Int × Int)), fs[k]? = some f → ∃ v, vs[k]? = some v ∧ aFd al f v := by
  obtain ⟨⟨a, e⟩, h1, vs, h2, -, h3⟩ := h.2 c _ l1
  have h2 : e = _ := h2
  subst h2
  refine ⟨a, vs, h1, ?_, h3⟩
  rw [← h.1, List.getElem?_map, h1]
  rfl
theorem wf_int {c ci k : Nat} {a : Nat} {vs : List Value} {v : Value} {b : Int × Int} {x : Nat} (h1 : w[c]? = some (a, .inr (ci, vs))) (h2 : vs[k]? = some v) (h3 : aFd al (.inr b) v) (hx : jS w c k = (x : Int)) (hb : x < 2147483648) : v = .int (nI x) := by
  obtain ⟨n, rfl, -⟩ := h3
  have e := jS.sl (w := w) (c := c) (i := k) (x := n.toInt) (Or.inl ⟨a, ci, vs, n, h1, h2, rfl⟩)
  rw [hx] at e
  rw [show n = nI x from Int32.toInt_inj.mp (by rw [nI_toInt (by omega)]; exact e.symm)]
theorem wi_mj21 {d : Nat} {a b c : Int32} : MJ E d 0 0 (mj_in0 21 [.int a, .int b, .int c] ws) (fun v w => v = some (.int (if b ≤ a ∧ a ≤ c then nI 1 else nI 0)) ∧ w = ws) := by
  refine nf_in0 ?_
  show nG E d 21 0 [(0, .int a), (1, .int b), (2, .int c)] [] ws _
  by_cases h1 : a < b
  · rw [if_neg (fun h => absurd h.1 (Int32.not_le.mpr h1))]
    refine n_iln (k := 0) (by decide +kernel) List.mem_cons_self ?_
    refine n_iln (k := 1) (by decide +kernel) (List.mem_cons_of_mem _ List.mem_cons_self) ?_
    refine n_icT (c := .lt) (off := 12) (tg := 14) (by decide +kernel) (by unfold mj_go; decide) h1 ?_
    refine n_k (k := 0) (v := nI 0) (by decide +kernel) (by decide) ?_
    exact n_reti (ty := .boolean) (by decide +kernel) (by decide +kernel) (by decide) ⟨rfl, rfl⟩
  · by_cases h2 : c < a
    · rw [if_neg (fun h => absurd h.2 (Int32.not_le.mpr h2))]
      refine n_iln (k := 0) (by decide +kernel) List.mem_cons_self ?_
      refine n_iln (k := 1) (by decide +kernel) (List.mem_cons_of_mem _ List.mem_cons_self) ?_
      refine n_icF (c := .lt) (off := 12) (tg := 14) (by decide +kernel) (by unfold mj_go; decide) h1 ?_
      refine n_iln (k := 0) (by decide +kernel) List.mem_cons_self ?_
      refine n_iln (k := 2) (by decide +kernel) (List.mem_cons_of_mem _ (List.mem_cons_of_mem _ List.mem_cons_self)) ?_
      refine n_icT (c := .gt) (off := 7) (tg := 14) (by decide +kernel) (by unfold mj_go; decide) h2 ?_
      refine n_k (k := 0) (v := nI 0) (by decide +kernel) (by decide) ?_
      exact n_reti (ty := .boolean) (by decide +kernel) (by decide +kernel) (by decide) ⟨rfl, rfl⟩
    · rw [if_pos ⟨Int32.not_lt.mp h1, Int32.not_lt.mp h2⟩]
      refine n_iln (k := 0) (by decide +kernel) List.mem_cons_self ?_
      refine n_iln (k := 1) (by decide +kernel) (List.mem_cons_of_mem _ List.mem_cons_self) ?_
      refine n_icF (c := .lt) (off := 12) (tg := 14) (by decide +kernel) (by unfold mj_go; decide) h1 ?_
      refine n_iln (k := 0) (by decide +kernel) List.mem_cons_self ?_
      refine n_iln (k := 2) (by decide +kernel) (List.mem_cons_of_mem _ (List.mem_cons_of_mem _ List.mem_cons_self)) ?_
      refine n_icF (c := .gt) (off := 7) (tg := 14) (by decide +kernel) (by unfold mj_go; decide) h2 ?_
      refine n_k (k := 1) (v := nI 1) (by decide +kernel) (by decide) ?_
      refine n_goto (off := 4) (tg := 15) (by decide +kernel) (by unfold mj_go; decide) ?_
      exact n_reti (ty := .boolean) (by decide +kernel) (by decide +kernel) (by decide) ⟨rfl, rfl⟩
theorem wi_mj183 {d : Nat} {a b c : Int32} : MJ E d 0 0 (mj_in0 183 [.int a, .int b, .int c] ws) (fun v w => v = some (.int (if b ≤ a ∧ a ≤ c then nI 1 else nI 0)) ∧ w = ws) := by
  refine nf_in0 ?_
  show nG E d 183 0 [(0, .int a), (1, .int b), (2, .int c)] [] ws _
  by_cases h1 : a < b
  · rw [if_neg (fun h => absurd h.1 (Int32.not_le.mpr h1))]
    refine n_iln (k := 0) (by decide +kernel) List.mem_cons_self ?_
    refine n_iln (k := 1) (by decide +kernel) (List.mem_cons_of_mem _ List.mem_cons_self) ?_
    refine n_icT (c := .lt) (off := 12) (tg := 14) (by decide +kernel) (by unfold mj_go; decide) h1 ?_
    refine n_k (k := 0) (v := nI 0) (by decide +kernel) (by decide) ?_
    exact n_reti (ty := .boolean) (by decide +kernel) (by decide +kernel) (by decide) ⟨rfl, rfl⟩
  · by_cases h2 : c < a
    · rw [if_neg (fun h => absurd h.2 (Int32.not_le.mpr h2))]
      refine n_iln (k := 0) (by decide +kernel) List.mem_cons_self ?_
      refine n_iln (k := 1) (by decide +kernel) (List.mem_cons_of_mem _ List.mem_cons_self) ?_
      refine n_icF (c := .lt) (off := 12) (tg := 14) (by decide +kernel) (by unfold mj_go; decide) h1 ?_
      refine n_iln (k := 0) (by decide +kernel) List.mem_cons_self ?_
      refine n_iln (k := 2) (by decide +kernel) (List.mem_cons_of_mem _ (List.mem_cons_of_mem _ List.mem_cons_self)) ?_
      refine n_icT (c := .gt) (off := 7) (tg := 14) (by decide +kernel) (by unfold mj_go; decide) h2 ?_
      refine n_k (k := 0) (v := nI 0) (by decide +kernel) (by decide) ?_
      exact n_reti (ty := .boolean) (by decide +kernel) (by decide +kernel) (by decide) ⟨rfl, rfl⟩
    · rw [if_pos ⟨Int32.not_lt.mp h1, Int32.not_lt.mp h2⟩]
      refine n_iln (k := 0) (by decide +kernel) List.mem_cons_self ?_
      refine n_iln (k := 1) (by decide +kernel) (List.mem_cons_of_mem _ List.mem_cons_self) ?_
      refine n_icF (c := .lt) (off := 12) (tg := 14) (by decide +kernel) (by unfold mj_go; decide) h1 ?_
      refine n_iln (k := 0) (by decide +kernel) List.mem_cons_self ?_
      refine n_iln (k := 2) (by decide +kernel) (List.mem_cons_of_mem _ (List.mem_cons_of_mem _ List.mem_cons_self)) ?_
      refine n_icF (c := .gt) (off := 7) (tg := 14) (by decide +kernel) (by unfold mj_go; decide) h2 ?_
      refine n_k (k := 1) (v := nI 1) (by decide +kernel) (by decide) ?_
      refine n_goto (off := 4) (tg := 15) (by decide +kernel) (by unfold mj_go; decide) ?_
      exact n_reti (ty := .boolean) (by decide +kernel) (by decide +kernel) (by decide) ⟨rfl, rfl⟩
theorem fl_0 : ∃ fs, aLay[(0 : Nat)]? = some (.inl (5, fs)) ∧ fs[(3 : Nat)]? = some (.inl 75) := ⟨_, rfl, rfl⟩
theorem fl_75 : ∃ fs, aLay[(75 : Nat)]? = some (.inl (3, fs)) ∧ fs[(1 : Nat)]? = some (.inr (0, 250)) := ⟨_, rfl, rfl⟩
theorem fl_99 : ∃ fs, aLay[(99 : Nat)]? = some (.inl (6, fs)) ∧ fs[(18 : Nat)]? = some (.inl 118) ∧ fs[(19 : Nat)]? = some (.inr (0, 250)) := ⟨_, rfl, rfl, rfl⟩
theorem fl_118 : aLay[(118 : Nat)]? = some (.inr (0, 250, [(aI0, aI1)])) := rfl
/-- a byte comes: the component -/
theorem tk_mj (hf : E.2.2.2.1.category = 1) (hT : ∀ σ : List Int, aTb E σ aTabs) (a5 : aWd E al aLay w) (a6 : aRs aRules w) (a7 : jJ0 w) {a75 : Nat} (e75 : al[75]? = some a75) {b : Int32} {s : Nat} (hs : jS w 75 1 = (s : Int)) (h : s < 250) :
    MJ E 84 0 0 (mj_in0 82 [.ref a75, .int b] w) (fun v w2 => v = none ∧ (aWd E al aLay w2 ∧ aRs aRules w2 ∧ jJ0 w2 ∧ hD [75, 76] w w2 ∧ jS w2 75 1 = ((s + 1 : Nat) : Int) ∧ ∀ k, jS w2 76 k = if k = s then b.toInt else jS w 76 k)) := by
  have HV : hOk E al gV0 (fun _ => True) := hOkV hf hT (fun _ _ _ _ h => h)
  have hA : gL E al [] [.inr (0, 75), .inl (ae_k b.toInt)] [.ref a75, .int b] := ⟨_, _, rfl, ⟨a75, e75, rfl⟩, _, _, rfl, ⟨b, rfl, aV.k _⟩, rfl⟩
  have s1 := ksl a5 kc_j1 hs
  have b0 : aI0 ≤ b.toInt ∧ b.toInt ≤ aI1 := ⟨i32_lo b, i32_hi b⟩
  refine hG.in0 hf (d := 84) (as := [.inr (0, 75), .inl (ae_k b.toInt)]) ?_ hA
  show hG E al 84 82 0 [(0, .inr (0, 75)), (1, .inl (ae_k b.toInt))] [] [] w _
  refine ky_lg hf hT a5 a6 a7 (by decide) (ρ := [(s : Int), b.toInt]) kf_t ⟨⟨by omega, by omega⟩, b0, trivial⟩ aFs.nil (aHh.cons (kn1 (i := 1) (by decide) rfl (ev_s rfl) s1) aHh.nil) (by rfl) (by rfl) (lEr (lEi (ev_s rfl) lE0)) sE0 (lvk2 := []) lE0 (stk2 := []) sE0 (fun w2 b1 b2 b3 b4 b5 => ?_)
  refine hp_ret HV (by decide) (by decide +kernel) (by decide +kernel) ⟨rfl, b1, b2, b3, b4.more (by decide), ?_, fun k => ?_⟩
  · rw [b5 75 1]
    simp [lg_ap, ae_ev, ae_el, ae_s, ae_k]
  · rw [b5 76 k]
    simp [lg_ap, ae_ev, ae_el, ae_s, ae_k]
def co (E : mj_E) (w : va_W) (a0 a75 : Nat) (f0 f75 : List Value) (x : Nat) : Prop := (w[0]? = some (a0, .inr (5, f0)) ∧ f0[3]? = some (.ref a75)) ∧ w[75]? = some (a75, .inr (3, f75)) ∧ f75[1]? = some (.int (nI x))
theorem co_of (a5 : aWd E al aLay w) {a0 a75 x : Nat} (e0 : al[0]? = some a0) (e75 : al[75]? = some a75) (hx : jS w 75 1 = (x : Int)) (hb : x < 2147483648) : ∃ f0 f75, co E w a0 a75 f0 f75 x := by
  obtain ⟨x0, l0, k0⟩ := fl_0
  obtain ⟨x75, l75, k75⟩ := fl_75
  obtain ⟨b0, f0, g0, m0, y0⟩ := wf_obj a5 l0
  obtain ⟨b75, f75, g75, m75, y75⟩ := wf_obj a5 l75
  obtain ⟨u0, p0, c0, z0, rfl⟩ := y0 3 _ k0
  obtain ⟨u1, p1, c1⟩ := y75 1 _ k75
  rw [e75] at z0 m75
  rw [e0] at m0
  cases z0
  cases m75
  cases m0
  have e := wf_int g75 p1 c1 hx hb
  subst e
  exact ⟨f0, f75, ⟨g0, p0⟩, g75, p1⟩
def fc (E : mj_E) (al : List Nat) (w0 w : va_W) (X : Int64) (s i : Nat) : Prop := aWd E al aLay w ∧ aRs aRules w ∧ jJ0 w ∧ hD [75, 76] w0 w ∧ jS w 75 1 = ((s + i : Nat) : Int) ∧ ∀ k, jS w 76 k = ft X s i (jS w0 76) k
theorem fc_go (hf : E.2.2.2.1.category = 1) (hT : ∀ σ : List Int, aTb E σ aTabs) {a0 a75 s n : Nat} {X : Int64} (e0 : al[0]? = some a0) (e75 : al[75]? = some a75) (hn : n ≤ 8) (hsn : s + n ≤ 250) (hQ : ∀ w, fc E al w0 w X s n → Q (some (.int (nI (s + n)))) w) : ∀ (m i : Nat) (w : va_W), i + m = n → fc E al w0 w X s i → nG E 85 81 33 [(4, .int (nI i)), (0, .ref a0), (1, .long X), (3, .int (nI n))] [] w Q := by
  intro m
  induction m with
  | zero =>
    intro i w hi hv
    have e : i = n := by omega
    subst e
    have hv0 := hv
    obtain ⟨a5, a6, a7, d, h1, h2⟩ := hv
    obtain ⟨f0, f75, ⟨h0, h0b⟩, h75, h75b⟩ := co_of a5 e0 e75 h1 (by omega)
    refine n_il (k := 4) (by decide +kernel) List.mem_cons_self ?_
    refine n_iln (k := 3) (by decide +kernel) (List.mem_cons_of_mem _ (List.mem_cons_of_mem _ (List.mem_cons_of_mem _ List.mem_cons_self))) ?_
    refine n_icT (c := .ge) (off := 28) (tg := 64) (by decide +kernel) (by unfold mj_go; decide) (nI_le (Nat.le_refl _) (by omega)) ?_
    refine n_al (k := 0) (by decide +kernel) (List.mem_cons_of_mem _ List.mem_cons_self) ?_
    refine n_gf (ix := 26) (ci := 5) (k := 3) (by decide +kernel) (by decide +kernel) h0 h0b ?_
    refine n_gf (ix := 192) (ci := 3) (k := 1) (by decide +kernel) (by decide +kernel) h75 h75b ?_
    exact n_rti (by decide +kernel) (by decide +kernel) (hQ w hv0)
  | succ m ih =>
    intro i w hi hv
    obtain ⟨a5, a6, a7, d, h1, h2⟩ := hv
    obtain ⟨f0, f75, ⟨h0, h0b⟩, h75, h75b⟩ := co_of a5 e0 e75 h1 (by omega)
    refine n_il (k := 4) (by decide +kernel) List.mem_cons_self ?_
    refine n_iln (k := 3) (by decide +kernel) (List.mem_cons_of_mem _ (List.mem_cons_of_mem _ (List.mem_cons_of_mem _ List.mem_cons_self))) ?_
    refine n_icF (c := .ge) (off := 28) (tg := 64) (by decide +kernel) (by unfold mj_go; decide) (nI_ge (show i < n by omega) (by omega)) ?_
    refine n_al (k := 0) (by decide +kernel) (List.mem_cons_of_mem _ List.mem_cons_self) ?_
    refine n_gf (ix := 26) (ci := 5) (k := 3) (by decide +kernel) (by decide +kernel) h0 h0b ?_
    refine n_lln (k := 1) (by decide +kernel) (List.mem_cons_of_mem _ (List.mem_cons_of_mem _ List.mem_cons_self)) ?_
    refine n_bi (k := 8) (v := (Int8.ofInt 8).toInt32) (by decide +kernel) (by decide) ?_
    refine n_il (k := 4) (by decide +kernel) List.mem_cons_self ?_
    refine n_imul (c := (Int8.ofInt 8).toInt32 * nI i) (by decide +kernel) rfl ?_
    refine n_lushr (c := (X.toUInt64 >>> ((((Int8.ofInt 8).toInt32 * nI i).toInt64).toUInt64 &&& Int64.toUInt64 63)).toInt64) (by decide +kernel) rfl ?_
    refine n_ldl (ix := 195) (v := 255) (by decide +kernel) (by decide +kernel) ?_
    refine n_land (c := (X.toUInt64 >>> ((((Int8.ofInt 8).toInt32 * nI i).toInt64).toUInt64 &&& Int64.toUInt64 63)).toInt64 &&& Int64.ofInt 255) (by decide +kernel) rfl ?_
    refine n_l2i (c := fb X i) (by decide +kernel) rfl ?_
    refine n_cvw (ix := 197) (y2 := 82) (as := [.int (fb X i)]) (rest := []) (by decide +kernel) (by decide +kernel) rfl ⟨by decide, rfl, (by show 2 ≤ _; decide +kernel), by decide +kernel, (by show 0 ≤ 8; decide)⟩ h75 ⟨by decide +kernel, by decide⟩ (tk_mj hf hT a5 a6 a7 e75 h1 (by omega)) (fun w2 hR => ?_)
    obtain ⟨b1, b2, b3, b4, b5, b6⟩ := hR
    refine n_inc (k := 4) (c := 1) (v2 := nI (i + 1)) (by decide +kernel) (by decide +kernel) List.mem_cons_self (nI_1 i) ?_
    show nG E 85 81 61 [(4, .int (nI (i + 1))), (0, .ref a0), (1, .long X), (3, .int (nI n))] [] w2 _
    refine n_goto (off := (-28)) (tg := 33) (by decide +kernel) (by unfold mj_go; decide) ?_
    exact fun LV hL => ih (i + 1) w2 (by omega) ⟨b1, b2, b3, d.trans b4, b5, fun k => by rw [b6 k, ← ft_s, h2 k]⟩ LV (fun q hq => hL q (by simp only [List.mem_cons, List.not_mem_nil, or_false] at hq ⊢; rcases hq with rfl | rfl | rfl | rfl <;> simp))
def rf_ (E : mj_E) (al : List Nat) (w0 w : va_W) : Prop := aWd E al aLay w ∧ aRs aRules w ∧ jJ0 w ∧ hD [99, 118] w0 w
theorem fr_prot {c a : Nat} {e : va_E} (hc : c = 99 ∨ c = 118) (h : jJ0 w) : jJ0 (w.set c (a, e)) := by
  refine jJ0_prot w _ (fun c2 hc2 => ?_) h
  have := of_decide_eq_true (List.all_eq_true.mp kf_p1 c2 hc2)
  unfold aE1
  rw [if_pos this.1]
  exact (List.getElem?_set_ne (by omega)).symm
theorem fr_put {i : Nat} {b : Int32} (h : rf_ E al w0 w) (hi : i < 250) : ∃ a f, w[118]? = some (a, .inl (E.2.2.2.2.1, 250, .inl f)) ∧ al[118]? = some a ∧ (rf_ E al w0 (w.set 118 (a, .inl (E.2.2.2.2.1, 250, .inl (upd f i b)))) ∧ ∀ k, jS (w.set 118 (a, .inl (E.2.2.2.2.1, 250, .inl (upd f i b)))) 118 k = if k = i then b.toInt else jS w 118 k) := by
  obtain ⟨a5, a6, a7, d⟩ := h
  obtain ⟨⟨a, e⟩, h1, f, h2, h3⟩ := a5.2 118 _ fl_118
  have h2 : e = _ := h2
  subst h2
  have hl := (List.getElem?_eq_some_iff.mp h1).1
  refine ⟨a, f, h1, ?_, ⟨a5.set h1 (fun D hD => ?_), a6.other kf_r, fr_prot (Or.inr rfl) a7, d.trans (hD.set.more (by decide))⟩, fun k => ?_⟩
  · rw [← a5.1, List.getElem?_map, h1]
    rfl
  · rw [fl_118] at hD
    cases hD
    exact ⟨_, rfl, h3.put (fun b2 hb => by
      have hb : [(aI0, aI1)][i % 1]? = some b2 := hb
      rw [Nat.mod_one] at hb
      cases hb
      exact ⟨i32_lo b, i32_hi b⟩)⟩
  · unfold jS
    rw [List.getElem?_set_self hl, h1]
    dsimp only
    unfold upd
    by_cases e : k = i
    · rw [if_pos e, if_pos e]
    · rw [if_neg e, if_neg e]
def ro (E : mj_E) (w : va_W) (a99 a118 : Nat) (f99 : List Value) (x : Nat) : Prop := w[99]? = some (a99, .inr (6, f99)) ∧ f99[18]? = some (.ref a118) ∧ f99[19]? = some (.int (nI x))
theorem ro_of (a5 : aWd E al aLay w) {a99 a118 x : Nat} (e99 : al[99]? = some a99) (e118 : al[118]? = some a118) (hx : jS w 99 19 = (x : Int)) (hb : x < 2147483648) : ∃ f99, ro E w a99 a118 f99 x := by
  obtain ⟨x99, l99, k18, k19⟩ := fl_99
  obtain ⟨b99, f99, g99, m99, y99⟩ := wf_obj a5 l99
  obtain ⟨u0, p0, c0, z0, rfl⟩ := y99 18 _ k18
  obtain ⟨u1, p1, c1⟩ := y99 19 _ k19
  rw [e118] at z0
  rw [e99] at m99
  cases z0
  cases m99
  have e := wf_int g99 p1 c1 hx hb
  subst e
  exact ⟨f99, g99, p0, p1⟩
theorem fr_fld {a x : Nat} {f : List Value} (h : rf_ E al w0 w) (hw : w[99]? = some (a, .inr (6, f))) (hx : x ≤ 250) : 19 < f.length ∧ rf_ E al w0 (w.set 99 (a, .inr (6, f.set 19 (.int (nI x))))) ∧ jS (w.set 99 (a, .inr (6, f.set 19 (.int (nI x))))) 99 19 = (x : Int) ∧ ∀ k, k ≠ 19 → jS (w.set 99 (a, .inr (6, f.set 19 (.int (nI x))))) 99 k = jS w 99 k := by
  obtain ⟨a5, a6, a7, d⟩ := h
  obtain ⟨x99, l99, k18, k19⟩ := fl_99
  obtain ⟨⟨b99, e99⟩, h1, vs, h2, h3, h4⟩ := a5.2 99 _ l99
  have h2 : e99 = _ := h2
  subst h2
  rw [hw] at h1
  cases h1
  have hl := (List.getElem?_eq_some_iff.mp hw).1
  have hk : 19 < f.length := by
    rw [h3]
    exact (List.getElem?_eq_some_iff.mp k19).1
  refine ⟨hk, ⟨a5.set hw (fun D hD => ?_), a6.obj, fr_prot (Or.inl rfl) a7, d.trans (hD.set.more (by decide))⟩, ?_, fun k hk2 => ?_⟩
  · rw [l99] at hD
    cases hD
    refine ⟨_, rfl, by rw [List.length_set]; exact h3, fun k2 g hg => ?_⟩
    by_cases ek : 19 = k2
    · subst ek
      rw [k19] at hg
      cases hg
      exact ⟨_, List.getElem?_set_self hk, nI x, rfl, by rw [nI_toInt (by omega)]; omega, by rw [nI_toInt (by omega)]; omega⟩
    · obtain ⟨v, y1, y2⟩ := h4 k2 g hg
      exact ⟨v, by rw [List.getElem?_set_ne ek]; exact y1, y2⟩
  · exact jS.sl (Or.inl ⟨a, 6, _, nI x, List.getElem?_set_self hl, List.getElem?_set_self hk, nI_toInt (by omega)⟩)
  · unfold jS
    rw [List.getElem?_set_self hl, hw]
    dsimp only
    rw [List.getElem?_set_ne (by omega)]
theorem n_fias {d y pc : Nat} {lx : List (Nat × Value)} {ST : List Value} {a118 i : Nat} {b : Int32} (hd : decode (mj_b y) pc = .ok (.iastore, 1)) (hv : rf_ E al w0 w) (ha : al[118]? = some a118) (hi : i < 250) (h : ∀ w2, rf_ E al w0 w2 → (∀ k, jS w2 118 k = if k = i then b.toInt else jS w 118 k) → (∀ c, c ≠ 118 → w2[c]? = w[c]?) → nG E d y (pc + 1) lx ST w2 Q) : nG E d y pc lx (.int b :: .int (nI i) :: .ref a118 :: ST) w Q := by
  obtain ⟨a, f, g1, g2, g3, g4⟩ := fr_put (b := b) hv hi
  rw [ha] at g2
  cases g2
  intro LV hL
  refine MJ.nx hd (lv1 := LV) (st1 := ST) (ws1 := w.set 118 (a118, .inl (E.2.2.2.2.1, 250, .inl (upd f i b)))) (pc1 := pc + 1) ⟨rfl, b, nI i, a118, ST, 118, 250, f, rfl, g1, vp_in_nI hi (by decide), ?_⟩ (h _ g3 g4 (fun c hc => List.getElem?_set_ne (fun e => hc e.symm)) LV hL)
  rw [show (nI i).toNatClampNeg = i from Int32.toNatClampNeg_ofNat_of_lt (by omega)]
theorem n_fpf {d y pc ix : Nat} {lx : List (Nat × Value)} {ST : List Value} {a99 x : Nat} {f : List Value} (hd : decode (mj_b y) pc = .ok (.putfield ix, 3)) (hq : (mj_ffl (mj_cn y) ix).any (fun q => q.2.2.1 == 6 && q.2.2.2.1 == 19) = true) (hv : rf_ E al w0 w) (hw : w[99]? = some (a99, .inr (6, f))) (hx : x ≤ 250) (h : ∀ w2, rf_ E al w0 w2 → jS w2 99 19 = (x : Int) → (∀ k, k ≠ 19 → jS w2 99 k = jS w 99 k) → (∀ c, c ≠ 99 → w2[c]? = w[c]?) → nG E d y (pc + 3) lx ST w2 Q) : nG E d y pc lx (.int (nI x) :: .ref a99 :: ST) w Q := by
  obtain ⟨g0, g1, g2, g3⟩ := fr_fld hv hw hx
  cases hm : mj_ffl (mj_cn y) ix with
  | none => rw [hm] at hq; cases hq
  | some q =>
    rw [hm] at hq
    have m := mj_find hm
    obtain ⟨a1, b, c2, k2, pl⟩ := q
    simp only [Option.any_some, Bool.and_eq_true, beq_iff_eq] at hq
    obtain ⟨rfl, rfl⟩ := hq
    intro LV hL
    refine MJ.nx hd (lv1 := LV) (st1 := ST) (ws1 := w.set 99 (a99, .inr (6, f.set 19 (.int (nI x))))) (pc1 := pc + 3) ⟨rfl, .int (nI x), a99, ST, 6, 19, pl, 99, f, rfl, m, hw, g0, ⟨_, kf_f1, rfl, rfl⟩, fun hfin => absurd (show mj_fin 6 19 = true from hfin) (by rw [kf_f2]; decide), rfl⟩ (h _ g1 g2 g3 (fun c hc => List.getElem?_set_ne (fun e => hc e.symm)) LV hL)
def fr (E : mj_E) (al : List Nat) (w0 w : va_W) (X : Int64) (s i : Nat) : Prop := rf_ E al w0 w ∧ jS w 99 19 = ((s + i : Nat) : Int) ∧ (∀ k, k ≠ 19 → jS w 99 k = jS w0 99 k) ∧ ∀ k, jS w 118 k = ft X s i (jS w0 118) k
theorem fr_go {a99 a118 s n : Nat} {X : Int64} (e99 : al[99]? = some a99) (e118 : al[118]? = some a118) (hn : n ≤ 8) (hsn : s + n ≤ 250) (hQ : ∀ w, fr E al w0 w X s n → Q (some (.int (nI (s + n)))) w) : ∀ (m i : Nat) (w : va_W), i + m = n → fr E al w0 w X s i → nG E 85 231 30 [(4, .int (nI i)), (0, .ref a99), (1, .long X), (3, .int (nI n))] [] w Q := by
  intro m
  induction m with
  | zero =>
    intro i w hi hv
    have e : i = n := by omega
    subst e
    have hv0 := hv
    obtain ⟨⟨a5, a6, a7, d⟩, h1, h3, h2⟩ := hv
    obtain ⟨f99, h99, h18, h19⟩ := ro_of a5 e99 e118 h1 (by omega)
    refine n_il (k := 4) (by decide +kernel) List.mem_cons_self ?_
    refine n_iln (k := 3) (by decide +kernel) (List.mem_cons_of_mem _ (List.mem_cons_of_mem _ (List.mem_cons_of_mem _ List.mem_cons_self))) ?_
    refine n_icT (c := .ge) (off := 40) (tg := 73) (by decide +kernel) (by unfold mj_go; decide) (nI_le (Nat.le_refl _) (by omega)) ?_
    refine n_al (k := 0) (by decide +kernel) (List.mem_cons_of_mem _ List.mem_cons_self) ?_
    refine n_gf (ix := 214) (ci := 6) (k := 19) (by decide +kernel) (by decide +kernel) h99 h19 ?_
    exact n_rti (by decide +kernel) (by decide +kernel) (hQ w hv0)
  | succ m ih =>
    intro i w hi hv
    have hv0 := hv
    obtain ⟨⟨a5, a6, a7, d⟩, h1, h3, h2⟩ := hv
    obtain ⟨f99, h99, h18, h19⟩ := ro_of a5 e99 e118 h1 (by omega)
    refine n_il (k := 4) (by decide +kernel) List.mem_cons_self ?_
    refine n_iln (k := 3) (by decide +kernel) (List.mem_cons_of_mem _ (List.mem_cons_of_mem _ (List.mem_cons_of_mem _ List.mem_cons_self))) ?_
    refine n_icF (c := .ge) (off := 40) (tg := 73) (by decide +kernel) (by unfold mj_go; decide) (nI_ge (show i < n by omega) (by omega)) ?_
    refine n_al (k := 0) (by decide +kernel) (List.mem_cons_of_mem _ List.mem_cons_self) ?_
    refine n_gf (ix := 64) (ci := 6) (k := 18) (by decide +kernel) (by decide +kernel) h99 h18 ?_
    refine n_al (k := 0) (by decide +kernel) (List.mem_cons_of_mem _ List.mem_cons_self) ?_
    refine n_gf (ix := 214) (ci := 6) (k := 19) (by decide +kernel) (by decide +kernel) h99 h19 ?_
    refine n_lln (k := 1) (by decide +kernel) (List.mem_cons_of_mem _ (List.mem_cons_of_mem _ List.mem_cons_self)) ?_
    refine n_bi (k := 8) (v := (Int8.ofInt 8).toInt32) (by decide +kernel) (by decide) ?_
    refine n_il (k := 4) (by decide +kernel) List.mem_cons_self ?_
    refine n_imul (c := (Int8.ofInt 8).toInt32 * nI i) (by decide +kernel) rfl ?_
    refine n_lushr (c := (X.toUInt64 >>> ((((Int8.ofInt 8).toInt32 * nI i).toInt64).toUInt64 &&& Int64.toUInt64 63)).toInt64) (by decide +kernel) rfl ?_
    refine n_ldl (ix := 218) (v := 255) (by decide +kernel) (by decide +kernel) ?_
    refine n_land (c := (X.toUInt64 >>> ((((Int8.ofInt 8).toInt32 * nI i).toInt64).toUInt64 &&& Int64.toUInt64 63)).toInt64 &&& Int64.ofInt 255) (by decide +kernel) rfl ?_
    refine n_l2i (c := fb X i) (by decide +kernel) rfl ?_
    refine n_fias (by decide +kernel) hv0.1 e118 (by omega) (fun w1 r1 t1 u1 => ?_)
    have h19b : jS w1 99 19 = ((s + i : Nat) : Int) := (jS.at (u1 99 (by decide))).trans h1
    obtain ⟨f99, h99, h18, h19⟩ := ro_of r1.1 e99 e118 h19b (by omega)
    refine n_al (k := 0) (by decide +kernel) (List.mem_cons_of_mem _ List.mem_cons_self) ?_
    refine n_dupr (by decide +kernel) ?_
    refine n_gf (ix := 214) (ci := 6) (k := 19) (by decide +kernel) (by decide +kernel) h99 h19 ?_
    refine n_k (k := 1) (v := nI 1) (by decide +kernel) (by decide) ?_
    refine n_iadd (c := nI (s + i + 1)) (by decide +kernel) (nI_1 _) ?_
    refine n_fpf (ix := 214) (x := s + i + 1) (by decide +kernel) (by decide +kernel) r1 h99 (by omega) (fun w2 r2 t2 v2 u2 => ?_)
    refine n_inc (k := 4) (c := 1) (v2 := nI (i + 1)) (by decide +kernel) (by decide +kernel) List.mem_cons_self (nI_1 i) ?_
    show nG E 85 231 70 [(4, .int (nI (i + 1))), (0, .ref a99), (1, .long X), (3, .int (nI n))] [] w2 _
    refine n_goto (off := (-40)) (tg := 30) (by decide +kernel) (by unfold mj_go; decide) ?_
    exact fun LV hL => ih (i + 1) w2 (by omega) ⟨r2, t2, fun k hk => by rw [v2 k hk, jS.at (u1 99 (by decide)), h3 k hk], fun k => by rw [jS.at (u2 118 (by decide)), t1 k, ← ft_s, h2 k]⟩ LV (fun q hq => hL q (by simp only [List.mem_cons, List.not_mem_nil, or_false] at hq ⊢; rcases hq with rfl | rfl | rfl | rfl <;> simp))
theorem fc_mj (hf : E.2.2.2.1.category = 1) (hT : ∀ σ : List Int, aTb E σ aTabs) (a5 : aWd E al aLay w) (a6 : aRs aRules w) (a7 : jJ0 w) {a0 a75 s : Nat} (e0 : al[0]? = some a0) (e75 : al[75]? = some a75) {X : Int64} {c : Int32} (hs : jS w 75 1 = (s : Int)) (hs2 : s ≤ 250) :
    MJ E 85 0 0 (mj_in0 81 [.ref a0, .long X, .int c] w) (fun v w2 => v = some (.int (fA c s)) ∧ (aWd E al aLay w2 ∧ aRs aRules w2 ∧ jJ0 w2 ∧ hD [75, 76] w w2 ∧ jS w2 75 1 = (fN c s : Int) ∧ (∀ k, jS w2 76 k = fT X c s (jS w 76) k))) := by
  refine nf_in0 ?_
  show nG E 85 81 0 [(0, .ref a0), (1, .long X), (3, .int c)] [] w _
  refine n_iln (k := 3) (by decide +kernel) (List.mem_cons_of_mem _ (List.mem_cons_of_mem _ List.mem_cons_self)) ?_
  refine n_k (k := 1) (v := nI 1) (by decide +kernel) (by decide) ?_
  refine n_bi (k := 8) (v := nI 8) (by decide +kernel) (by decide) ?_
  refine n_cs (ix := 66) (y2 := 21) (as := [.int c, .int (nI 1), .int (nI 8)]) (rest := []) (x := .int (if nI 1 ≤ c ∧ c ≤ nI 8 then nI 1 else nI 0)) (by decide +kernel) (by decide +kernel) rfl ⟨by decide, rfl, (by show 3 ≤ _; decide +kernel), by decide +kernel, (by show 0 ≤ 8; decide)⟩ (wi_mj21) ?_
  have ec : (nI 1 ≤ c ∧ c ≤ nI 8) ↔ (1 ≤ c.toInt ∧ c.toInt ≤ 8) := by rw [Int32.le_iff_toInt_le, Int32.le_iff_toInt_le, nI_toInt (by decide), nI_toInt (by decide)]; exact Iff.rfl
  by_cases hc : 1 ≤ c.toInt ∧ c.toInt ≤ 8
  · rw [if_pos (ec.mpr hc)]
    obtain ⟨n, hn⟩ : ∃ n : Nat, n = c.toInt.toNat := ⟨_, rfl⟩
    have en : c = nI n := Int32.toInt_inj.mp (by rw [nI_toInt (by omega)]; omega)
    have e2 : c.toInt = (n : Int) := by omega
    obtain ⟨f0, f75, ⟨h0, h0b⟩, h75, h75b⟩ := co_of a5 e0 e75 hs (by omega)
    by_cases h250 : s + n ≤ 250
    · have q2 : fQ c s = 2 := by
        unfold fQ
        rw [if_pos hc, if_pos (by omega)]
      have r0 : fA c s = nI (s + n) := by
        unfold fA
        rw [q2, if_neg (by decide), if_neg (by decide), ← hn]
      have r1 : fN c s = s + n := by
        unfold fN
        rw [if_pos q2, ← hn]
      have r2 : ∀ k, fT X c s (jS w 76) k = ft X s n (jS w 76) k := fun k => by
        unfold fT
        rw [if_pos q2, ← hn]
      rw [r0, r1]
      subst en
      refine n_ifT (c := .ne) (off := 5) (tg := 12) (by decide +kernel) (by unfold mj_go; decide) (show ¬ nI 1 = 0 by decide) ?_
      refine n_al (k := 0) (by decide +kernel) List.mem_cons_self ?_
      refine n_gf (ix := 26) (ci := 5) (k := 3) (by decide +kernel) (by decide +kernel) h0 h0b ?_
      refine n_gf (ix := 192) (ci := 3) (k := 1) (by decide +kernel) (by decide +kernel) h75 h75b ?_
      refine n_iln (k := 3) (by decide +kernel) (List.mem_cons_of_mem _ (List.mem_cons_of_mem _ List.mem_cons_self)) ?_
      refine n_iadd (c := nI (s + n)) (by decide +kernel) (nI_add _ _) ?_
      refine n_si (k := 250) (v := nI 250) (by decide +kernel) (by decide) ?_
      refine n_icT (c := .le) (off := 6) (tg := 30) (by decide +kernel) (by unfold mj_go; decide) (nI_le h250 (by omega)) ?_
      refine n_k (k := 0) (v := nI 0) (by decide +kernel) (by decide) ?_
      refine n_is (k := 4) (by decide +kernel) (by decide +kernel) ?_
      show nG E 85 81 33 [(4, .int (nI 0)), (0, .ref a0), (1, .long X), (3, .int (nI n))] [] w _
      exact fun LV hL => fc_go (X := X) (w0 := w) hf hT e0 e75 (by omega) h250 (fun w2 h => ⟨rfl, h.1, h.2.1, h.2.2.1, h.2.2.2.1, h.2.2.2.2.1, fun k => by rw [r2, h.2.2.2.2.2 k]⟩) n 0 w (by omega) ⟨a5, a6, a7, hD.refl, hs, fun k => ft_0.symm⟩ LV (fun q hq => hL q (by simp only [List.mem_cons, List.not_mem_nil, or_false] at hq ⊢; rcases hq with rfl | rfl | rfl | rfl <;> simp))
    · have q1 : fQ c s = 1 := by
        unfold fQ
        rw [if_pos hc, if_neg (by omega)]
      have r0 : fA c s = (Int8.ofInt (-2)).toInt32 := by
        unfold fA
        rw [q1, if_neg (by decide), if_pos rfl]
      have r1 : fN c s = s := by
        unfold fN
        rw [q1, if_neg (by decide)]
      have r2 : ∀ k, fT X c s (jS w 76) k = jS w 76 k := fun k => by
        unfold fT
        rw [q1, if_neg (by decide)]
      rw [r0, r1]
      subst en
      refine n_ifT (c := .ne) (off := 5) (tg := 12) (by decide +kernel) (by unfold mj_go; decide) (show ¬ nI 1 = 0 by decide) ?_
      refine n_al (k := 0) (by decide +kernel) List.mem_cons_self ?_
      refine n_gf (ix := 26) (ci := 5) (k := 3) (by decide +kernel) (by decide +kernel) h0 h0b ?_
      refine n_gf (ix := 192) (ci := 3) (k := 1) (by decide +kernel) (by decide +kernel) h75 h75b ?_
      refine n_iln (k := 3) (by decide +kernel) (List.mem_cons_of_mem _ (List.mem_cons_of_mem _ List.mem_cons_self)) ?_
      refine n_iadd (c := nI (s + n)) (by decide +kernel) (nI_add _ _) ?_
      refine n_si (k := 250) (v := nI 250) (by decide +kernel) (by decide) ?_
      refine n_icF (c := .le) (off := 6) (tg := 30) (by decide +kernel) (by unfold mj_go; decide) (nI_ge (show 250 < s + n by omega) (by omega)) ?_
      refine n_bi (k := (-2)) (v := (Int8.ofInt (-2)).toInt32) (by decide +kernel) (by decide) ?_
      exact n_rti (by decide +kernel) (by decide +kernel) ⟨rfl, a5, a6, a7, hD.refl, hs, fun k => (r2 k).symm⟩
  · rw [if_neg (fun h => hc (ec.mp h))]
    have q0 : fQ c s = 0 := by
      unfold fQ
      rw [if_neg hc]
    have r0 : fA c s = Int32.ofInt (-1) := by
      unfold fA
      rw [if_pos q0]
    have r1 : fN c s = s := by
      unfold fN
      rw [q0, if_neg (by decide)]
    have r2 : ∀ k, fT X c s (jS w 76) k = jS w 76 k := fun k => by
      unfold fT
      rw [q0, if_neg (by decide)]
    rw [r0, r1]
    refine n_ifF (c := .ne) (off := 5) (tg := 12) (by decide +kernel) (by unfold mj_go; decide) (show ¬ ¬ nI 0 = 0 by decide) ?_
    refine n_k (k := (-1)) (v := Int32.ofInt (-1)) (by decide +kernel) (by decide) ?_
    exact n_rti (by decide +kernel) (by decide +kernel) ⟨rfl, a5, a6, a7, hD.refl, hs, fun k => (r2 k).symm⟩
theorem fr_mj (hf : E.2.2.2.1.category = 1) (hT : ∀ σ : List Int, aTb E σ aTabs) (a5 : aWd E al aLay w) (a6 : aRs aRules w) (a7 : jJ0 w) {a99 a118 s : Nat} (e99 : al[99]? = some a99) (e118 : al[118]? = some a118) {X : Int64} {c : Int32} (hs : jS w 99 19 = (s : Int)) (hs2 : s ≤ 250) :
    MJ E 85 0 0 (mj_in0 231 [.ref a99, .long X, .int c] w) (fun v w2 => v = some (.int (fA c s)) ∧ (aWd E al aLay w2 ∧ aRs aRules w2 ∧ jJ0 w2 ∧ hD [99, 118] w w2 ∧ jS w2 99 19 = (fN c s : Int) ∧ (∀ k, jS w2 118 k = fT X c s (jS w 118) k) ∧ (∀ k, k ≠ 19 → jS w2 99 k = jS w 99 k))) := by
  refine nf_in0 ?_
  show nG E 85 231 0 [(0, .ref a99), (1, .long X), (3, .int c)] [] w _
  refine n_iln (k := 3) (by decide +kernel) (List.mem_cons_of_mem _ (List.mem_cons_of_mem _ List.mem_cons_self)) ?_
  refine n_k (k := 1) (v := nI 1) (by decide +kernel) (by decide) ?_
  refine n_bi (k := 8) (v := nI 8) (by decide +kernel) (by decide) ?_
  refine n_cs (ix := 135) (y2 := 183) (as := [.int c, .int (nI 1), .int (nI 8)]) (rest := []) (x := .int (if nI 1 ≤ c ∧ c ≤ nI 8 then nI 1 else nI 0)) (by decide +kernel) (by decide +kernel) rfl ⟨by decide, rfl, (by show 3 ≤ _; decide +kernel), by decide +kernel, (by show 0 ≤ 8; decide)⟩ (wi_mj183) ?_
  have ec : (nI 1 ≤ c ∧ c ≤ nI 8) ↔ (1 ≤ c.toInt ∧ c.toInt ≤ 8) := by rw [Int32.le_iff_toInt_le, Int32.le_iff_toInt_le, nI_toInt (by decide), nI_toInt (by decide)]; exact Iff.rfl
  by_cases hc : 1 ≤ c.toInt ∧ c.toInt ≤ 8
  · rw [if_pos (ec.mpr hc)]
    obtain ⟨n, hn⟩ : ∃ n : Nat, n = c.toInt.toNat := ⟨_, rfl⟩
    have en : c = nI n := Int32.toInt_inj.mp (by rw [nI_toInt (by omega)]; omega)
    have e2 : c.toInt = (n : Int) := by omega
    obtain ⟨f99, h99, h18, h19⟩ := ro_of a5 e99 e118 hs (by omega)
    by_cases h250 : s + n ≤ 250
    · have q2 : fQ c s = 2 := by
        unfold fQ
        rw [if_pos hc, if_pos (by omega)]
      have r0 : fA c s = nI (s + n) := by
        unfold fA
        rw [q2, if_neg (by decide), if_neg (by decide), ← hn]
      have r1 : fN c s = s + n := by
        unfold fN
        rw [if_pos q2, ← hn]
      have r2 : ∀ k, fT X c s (jS w 118) k = ft X s n (jS w 118) k := fun k => by
        unfold fT
        rw [if_pos q2, ← hn]
      rw [r0, r1]
      subst en
      refine n_ifT (c := .ne) (off := 5) (tg := 12) (by decide +kernel) (by unfold mj_go; decide) (show ¬ nI 1 = 0 by decide) ?_
      refine n_al (k := 0) (by decide +kernel) List.mem_cons_self ?_
      refine n_gf (ix := 214) (ci := 6) (k := 19) (by decide +kernel) (by decide +kernel) h99 h19 ?_
      refine n_iln (k := 3) (by decide +kernel) (List.mem_cons_of_mem _ (List.mem_cons_of_mem _ List.mem_cons_self)) ?_
      refine n_iadd (c := nI (s + n)) (by decide +kernel) (nI_add _ _) ?_
      refine n_si (k := 250) (v := nI 250) (by decide +kernel) (by decide) ?_
      refine n_icT (c := .le) (off := 6) (tg := 27) (by decide +kernel) (by unfold mj_go; decide) (nI_le h250 (by omega)) ?_
      refine n_k (k := 0) (v := nI 0) (by decide +kernel) (by decide) ?_
      refine n_is (k := 4) (by decide +kernel) (by decide +kernel) ?_
      show nG E 85 231 30 [(4, .int (nI 0)), (0, .ref a99), (1, .long X), (3, .int (nI n))] [] w _
      exact fun LV hL => fr_go (X := X) (w0 := w) e99 e118 (by omega) h250 (fun w2 h => ⟨rfl, h.1.1, h.1.2.1, h.1.2.2.1, h.1.2.2.2, h.2.1, fun k => by rw [r2, h.2.2.2 k], h.2.2.1⟩) n 0 w (by omega) ⟨⟨a5, a6, a7, hD.refl⟩, hs, fun _ _ => rfl, fun k => ft_0.symm⟩ LV (fun q hq => hL q (by simp only [List.mem_cons, List.not_mem_nil, or_false] at hq ⊢; rcases hq with rfl | rfl | rfl | rfl <;> simp))
    · have q1 : fQ c s = 1 := by
        unfold fQ
        rw [if_pos hc, if_neg (by omega)]
      have r0 : fA c s = (Int8.ofInt (-2)).toInt32 := by
        unfold fA
        rw [q1, if_neg (by decide), if_pos rfl]
      have r1 : fN c s = s := by
        unfold fN
        rw [q1, if_neg (by decide)]
      have r2 : ∀ k, fT X c s (jS w 118) k = jS w 118 k := fun k => by
        unfold fT
        rw [q1, if_neg (by decide)]
      rw [r0, r1]
      subst en
      refine n_ifT (c := .ne) (off := 5) (tg := 12) (by decide +kernel) (by unfold mj_go; decide) (show ¬ nI 1 = 0 by decide) ?_
      refine n_al (k := 0) (by decide +kernel) List.mem_cons_self ?_
      refine n_gf (ix := 214) (ci := 6) (k := 19) (by decide +kernel) (by decide +kernel) h99 h19 ?_
      refine n_iln (k := 3) (by decide +kernel) (List.mem_cons_of_mem _ (List.mem_cons_of_mem _ List.mem_cons_self)) ?_
      refine n_iadd (c := nI (s + n)) (by decide +kernel) (nI_add _ _) ?_
      refine n_si (k := 250) (v := nI 250) (by decide +kernel) (by decide) ?_
      refine n_icF (c := .le) (off := 6) (tg := 27) (by decide +kernel) (by unfold mj_go; decide) (nI_ge (show 250 < s + n by omega) (by omega)) ?_
      refine n_bi (k := (-2)) (v := (Int8.ofInt (-2)).toInt32) (by decide +kernel) (by decide) ?_
      exact n_rti (by decide +kernel) (by decide +kernel) ⟨rfl, a5, a6, a7, hD.refl, hs, fun k => (r2 k).symm, fun _ _ => rfl⟩
  · rw [if_neg (fun h => hc (ec.mp h))]
    have q0 : fQ c s = 0 := by
      unfold fQ
      rw [if_neg hc]
    have r0 : fA c s = Int32.ofInt (-1) := by
      unfold fA
      rw [if_pos q0]
    have r1 : fN c s = s := by
      unfold fN
      rw [q0, if_neg (by decide)]
    have r2 : ∀ k, fT X c s (jS w 118) k = jS w 118 k := fun k => by
      unfold fT
      rw [q0, if_neg (by decide)]
    rw [r0, r1]
    refine n_ifF (c := .ne) (off := 5) (tg := 12) (by decide +kernel) (by unfold mj_go; decide) (show ¬ ¬ nI 0 = 0 by decide) ?_
    refine n_k (k := (-1)) (v := Int32.ofInt (-1)) (by decide +kernel) (by decide) ?_
    exact n_rti (by decide +kernel) (by decide +kernel) ⟨rfl, a5, a6, a7, hD.refl, hs, fun k => (r2 k).symm, fun _ _ => rfl⟩
end FD
