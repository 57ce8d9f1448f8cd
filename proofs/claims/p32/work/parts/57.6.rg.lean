/-! BROUGHT, the reference: the changes at a port -/
def bi_g (r : Nat → Nat) (p : Nat) (v : Nat → Int) (k c : Nat) : Int := if k = c ∨ v k < 0 then -1 else (((v k).toNat * r (9 * p + 3 * k + c) / 1000 : Nat) : Int)
def bi_c (r : Nat → Nat) (p : Nat) (v : Nat → Int) (c : Nat) : Nat → Int
  | 0 => v c
  | m + 1 => max (bi_c r p v c m) (bi_g r p v m c)
def bi_V (v : Nat → Int) : Prop := ∀ c, c < 3 → -1 ≤ v c ∧ v c ≤ 24299757
theorem bi_gb {r : Nat → Nat} {p k c : Nat} {v : Nat → Int} (hr : ∀ k, r k ≤ 3000) (hv : bi_V v) (hk : k < 3) : -1 ≤ bi_g r p v k c ∧ bi_g r p v k c ≤ 100000000 := by
  have h := hv k hk
  unfold bi_g
  split
  · omega
  · have : (v k).toNat * r (9 * p + 3 * k + c) ≤ 24299757 * 3000 := Nat.mul_le_mul (by omega) (hr _)
    omega
theorem bi_cb {r : Nat → Nat} {p c : Nat} {v : Nat → Int} (hr : ∀ k, r k ≤ 3000) (hv : bi_V v) (hc : c < 3) : ∀ {m : Nat}, m ≤ 3 → -1 ≤ bi_c r p v c m ∧ bi_c r p v c m ≤ 100000000
  | 0, _ => by
    have := hv c hc
    unfold bi_c
    omega
  | m + 1, hm => by
    have h1 := bi_cb (p := p) hr hv hc (m := m) (by omega)
    have h2 := bi_gb (p := p) (c := c) hr hv (k := m) (by omega)
    unfold bi_c
    omega
/-- the rates -/
def rr (w : va_W) (r : Nat → Nat) : Prop := (∀ k, k < 45 → jS w 114 k = (r k : Int)) ∧ ∀ k, r k ≤ 3000
section BG
variable {E : mj_E} {Q : Option Value → va_W → Prop} {al : List Nat} {w w0 w1 : va_W} {r : Nat → Nat} {a99 a114 a123 a124 a125 p c : Nat} {v u1 : Nat → Int}
def als (al : List Nat) (a99 a114 a123 a124 a125 : Nat) : Prop := al[99]? = some a99 ∧ al[114]? = some a114 ∧ al[123]? = some a123 ∧ al[124]? = some a124 ∧ al[125]? = some a125
theorem als.m (h : als al a99 a114 a123 a124 a125) (a5 : aWd E al aLay w) : ∃ f99, m9 w a99 a114 a123 a124 a125 f99 := m9_of a5 h.1 h.2.1 h.2.2.1 h.2.2.2.1 h.2.2.2.2
theorem aw_114 : aLay[(114 : Nat)]? = some (.inr (0, 45, [aF])) := rfl
/-- a rate, as the row holds it -/
theorem rr_at (H : rr w0 r) (hv : rv E al w0 w) (h : als al a99 a114 a123 a124 a125) {k : Nat} (hk : k < 45) : ∃ f, w[114]? = some (a114, .inl (E.2.2.2.2.1, 45, .inl f)) ∧ (f k).toInt = (r k : Int) := by
  obtain ⟨a, e, -⟩ := hv.1.row aw_114
  have ea : a = a114 := by
    have := h.2.1
    rw [← hv.1.1, List.getElem?_map, e] at this
    cases this
    rfl
  subst ea
  refine ⟨_, e, ?_⟩
  rw [← jS.row ⟨_, _, _, _, e⟩, jS.at (hv.2.2.2.1.2 114 (by decide))]
  exact H.1 k hk
def fr2 (w1 w : va_W) : Prop := ∀ c, c ≠ 124 → c ≠ 125 → w[c]? = w1[c]?

theorem ig_go (H : rr w0 r) (hal : als al a99 a114 a123 a124 a125) (hp : p < 5) (hc : c < 3) (hV : bi_V v) (hQ : ∀ w2 u2, rv E al w0 w2 → fr2 w1 w2 → ll E w2 a124 a125 v u2 → u2 c = bi_c r p v c 3 → (∀ q, q ≠ c → u2 q = u1 q) → nG E 82 263 112 [(0, .ref a99), (1, .int (nI p)), (2, .int (nI c))] [] w2 Q) :
    ∀ (m k : Nat) (w : va_W) (u : Nat → Int), k + m = 3 → rv E al w0 w → fr2 w1 w → ll E w a124 a125 v u → u c = bi_c r p v c k → (∀ q, q ≠ c → u q = u1 q) → nG E 82 263 21 [(0, .ref a99), (1, .int (nI p)), (2, .int (nI c)), (3, .int (nI k))] [] w Q := by
  intro m
  induction m with
  | zero =>
    intro k w u hk hv hf hl hu hq
    have e : k = 3 := by omega
    subst e
    refine n_iln (k := 3) (by decide +kernel) (List.mem_cons_of_mem _ (List.mem_cons_of_mem _ (List.mem_cons_of_mem _ List.mem_cons_self))) ?_
    refine n_k (k := 3) (v := nI 3) (by decide +kernel) (by decide) ?_
    refine n_icT (c := .ge) (off := 89) (tg := 112) (by decide +kernel) (by unfold mj_go; decide) (nI_le (Nat.le_refl _) (by omega)) ?_
    exact fun LV hL => hQ w u hv hf hl hu hq LV (fun q hq => hL q (by simp only [List.mem_cons, List.not_mem_nil, or_false] at hq ⊢; rcases hq with rfl | rfl | rfl <;> simp))
  | succ m ih =>
    intro k w u hk hv hf hl hu hq
    obtain ⟨f99, h99, h14, h31, h33, h34⟩ := hal.m hv.1
    have gb := bi_gb (r := r) (p := p) (c := c) H.2 hV (k := k) (by omega)
    have cb := bi_cb (r := r) (p := p) H.2 hV hc (m := k) (by omega)
    have st : bi_c r p v c (k + 1) = max (bi_c r p v c k) (bi_g r p v k c) := rfl
    have fin : nG E 82 263 77 [(4, .long (LJ (bi_g r p v k c))), (0, .ref a99), (1, .int (nI p)), (2, .int (nI c)), (3, .int (nI k))] [] w Q := by
      refine n_al (k := 0) (by decide +kernel) (List.mem_cons_of_mem _ List.mem_cons_self) ?_
      refine n_gf (ix := 87) (ci := 6) (k := 34) (by decide +kernel) (by decide +kernel) h99 h34 ?_
      refine n_iln (k := 2) (by decide +kernel) (List.mem_cons_of_mem _ (List.mem_cons_of_mem _ (List.mem_cons_of_mem _ List.mem_cons_self))) ?_
      refine n_ll (k := 4) (by decide +kernel) List.mem_cons_self ?_
      refine n_al (k := 0) (by decide +kernel) (List.mem_cons_of_mem _ List.mem_cons_self) ?_
      refine n_gf (ix := 87) (ci := 6) (k := 34) (by decide +kernel) (by decide +kernel) h99 h34 ?_
      refine n_iln (k := 2) (by decide +kernel) (List.mem_cons_of_mem _ (List.mem_cons_of_mem _ (List.mem_cons_of_mem _ List.mem_cons_self))) ?_
      refine n_lal2 (by decide +kernel) hl hc ?_
      rw [hu]
      refine n_lcmp (c := lg_cmp (LJ (bi_g r p v k c)) (LJ (bi_c r p v c k))) (by decide +kernel) rfl ?_
      by_cases le : bi_g r p v k c ≤ bi_c r p v c k
      · refine n_ifT (c := .le) (off := 8) (tg := 99) (by decide +kernel) (by unfold mj_go; decide) ((lg_cmp_le _ _).mpr ((LJ_le gb cb).mpr le)) ?_
        refine n_al (k := 0) (by decide +kernel) (List.mem_cons_of_mem _ List.mem_cons_self) ?_
        refine n_gf (ix := 87) (ci := 6) (k := 34) (by decide +kernel) (by decide +kernel) h99 h34 ?_
        refine n_iln (k := 2) (by decide +kernel) (List.mem_cons_of_mem _ (List.mem_cons_of_mem _ (List.mem_cons_of_mem _ List.mem_cons_self))) ?_
        refine n_lal2 (by decide +kernel) hl hc ?_
        rw [hu]
        refine n_las2 (t := bi_c r p v c k) (by decide +kernel) hv hl hc (fun w2 v2 l2 f2 => ?_)
        refine n_inc (k := 3) (c := 1) (v2 := nI (k + 1)) (by decide +kernel) (by decide +kernel) (List.mem_cons_of_mem _ (List.mem_cons_of_mem _ (List.mem_cons_of_mem _ (List.mem_cons_of_mem _ List.mem_cons_self)))) (nI_1 k) ?_
        show nG E 82 263 109 [(3, .int (nI (k + 1))), (4, .long (LJ (bi_g r p v k c))), (0, .ref a99), (1, .int (nI p)), (2, .int (nI c))] [] w2 _
        refine n_goto (off := (-88)) (tg := 21) (by decide +kernel) (by unfold mj_go; decide) ?_
        exact fun LV hL => ih (k + 1) w2 _ (by omega) v2 (fun cc c1 c2 => (f2 cc c1 c2).trans (hf cc c1 c2)) l2 (by unfold up_; rw [if_pos rfl, st]; omega) (fun q hq2 => by unfold up_; rw [if_neg hq2]; exact hq q hq2) LV (fun q hq => hL q (by simp only [List.mem_cons, List.not_mem_nil, or_false] at hq ⊢; rcases hq with rfl | rfl | rfl | rfl <;> simp))
      · refine n_ifF (c := .le) (off := 8) (tg := 99) (by decide +kernel) (by unfold mj_go; decide) (fun h => le ((LJ_le gb cb).mp ((lg_cmp_le _ _).mp h))) ?_
        refine n_ll (k := 4) (by decide +kernel) List.mem_cons_self ?_
        refine n_goto (off := 9) (tg := 105) (by decide +kernel) (by unfold mj_go; decide) ?_
        refine n_las2 (t := bi_g r p v k c) (by decide +kernel) hv hl hc (fun w2 v2 l2 f2 => ?_)
        refine n_inc (k := 3) (c := 1) (v2 := nI (k + 1)) (by decide +kernel) (by decide +kernel) (List.mem_cons_of_mem _ (List.mem_cons_of_mem _ (List.mem_cons_of_mem _ (List.mem_cons_of_mem _ List.mem_cons_self)))) (nI_1 k) ?_
        show nG E 82 263 109 [(3, .int (nI (k + 1))), (4, .long (LJ (bi_g r p v k c))), (0, .ref a99), (1, .int (nI p)), (2, .int (nI c))] [] w2 _
        refine n_goto (off := (-88)) (tg := 21) (by decide +kernel) (by unfold mj_go; decide) ?_
        exact fun LV hL => ih (k + 1) w2 _ (by omega) v2 (fun cc c1 c2 => (f2 cc c1 c2).trans (hf cc c1 c2)) l2 (by unfold up_; rw [if_pos rfl, st]; omega) (fun q hq2 => by unfold up_; rw [if_neg hq2]; exact hq q hq2) LV (fun q hq => hL q (by simp only [List.mem_cons, List.not_mem_nil, or_false] at hq ⊢; rcases hq with rfl | rfl | rfl | rfl <;> simp))
    by_cases e : k = c
    · refine n_iln (k := 3) (by decide +kernel) (List.mem_cons_of_mem _ (List.mem_cons_of_mem _ (List.mem_cons_of_mem _ List.mem_cons_self))) ?_
      refine n_k (k := 3) (v := nI 3) (by decide +kernel) (by decide) ?_
      refine n_icF (c := .ge) (off := 89) (tg := 112) (by decide +kernel) (by unfold mj_go; decide) (nI_ge (show k < 3 by omega) (by omega)) ?_
      refine n_iln (k := 3) (by decide +kernel) (List.mem_cons_of_mem _ (List.mem_cons_of_mem _ (List.mem_cons_of_mem _ List.mem_cons_self))) ?_
      refine n_iln (k := 2) (by decide +kernel) (List.mem_cons_of_mem _ (List.mem_cons_of_mem _ List.mem_cons_self)) ?_
      refine n_icT (c := .eq) (off := 14) (tg := 42) (by decide +kernel) (by unfold mj_go; decide) (by rw [e]; rfl) ?_
      have eg : bi_g r p v k c = -1 := by unfold bi_g; rw [if_pos (Or.inl e)]
      rw [eg] at fin
      refine n_ldl (ix := 335) (v := (-1)) (by decide +kernel) (by decide +kernel) ?_
      refine n_goto (off := 30) (tg := 75) (by decide +kernel) (by unfold mj_go; decide) ?_
      refine n_ls (k := 4) (by decide +kernel) (by decide +kernel) ?_
      show nG E 82 263 77 [(4, .long (Int64.ofInt (-1))), (0, .ref a99), (1, .int (nI p)), (2, .int (nI c)), (3, .int (nI k))] [] w _
      exact fin
    have ne : ¬ nI k = nI c := fun h => e (by
      have := congrArg Int32.toInt h
      rw [nI_toInt (by omega), nI_toInt (by omega)] at this
      omega)
    have vb := hV k (by omega)
    refine n_iln (k := 3) (by decide +kernel) (List.mem_cons_of_mem _ (List.mem_cons_of_mem _ (List.mem_cons_of_mem _ List.mem_cons_self))) ?_
    refine n_k (k := 3) (v := nI 3) (by decide +kernel) (by decide) ?_
    refine n_icF (c := .ge) (off := 89) (tg := 112) (by decide +kernel) (by unfold mj_go; decide) (nI_ge (show k < 3 by omega) (by omega)) ?_
    refine n_iln (k := 3) (by decide +kernel) (List.mem_cons_of_mem _ (List.mem_cons_of_mem _ (List.mem_cons_of_mem _ List.mem_cons_self))) ?_
    refine n_iln (k := 2) (by decide +kernel) (List.mem_cons_of_mem _ (List.mem_cons_of_mem _ List.mem_cons_self)) ?_
    refine n_icF (c := .eq) (off := 14) (tg := 42) (by decide +kernel) (by unfold mj_go; decide) ne ?_
    refine n_al (k := 0) (by decide +kernel) List.mem_cons_self ?_
    refine n_gf (ix := 83) (ci := 6) (k := 33) (by decide +kernel) (by decide +kernel) h99 h33 ?_
    refine n_iln (k := 3) (by decide +kernel) (List.mem_cons_of_mem _ (List.mem_cons_of_mem _ (List.mem_cons_of_mem _ List.mem_cons_self))) ?_
    refine n_lal1 (by decide +kernel) hl (by omega) ?_
    refine n_lk (k := 0) (v := lN 0) (by decide +kernel) rfl ?_
    refine n_lcmp (c := lg_cmp (LJ (v k)) (lN 0)) (by decide +kernel) rfl ?_
    by_cases ng : v k < 0
    · refine n_ifF (c := .ge) (off := 9) (tg := 48) (by decide +kernel) (by unfold mj_go; decide) (fun h => by have := (LJ_le (x := 0) (by decide) ⟨vb.1, by omega⟩).mp ((lg_cmp_ge _ _).mp h); omega) ?_
      have eg : bi_g r p v k c = -1 := by unfold bi_g; rw [if_pos (Or.inr ng)]
      rw [eg] at fin
      refine n_ldl (ix := 335) (v := (-1)) (by decide +kernel) (by decide +kernel) ?_
      refine n_goto (off := 30) (tg := 75) (by decide +kernel) (by unfold mj_go; decide) ?_
      refine n_ls (k := 4) (by decide +kernel) (by decide +kernel) ?_
      show nG E 82 263 77 [(4, .long (Int64.ofInt (-1))), (0, .ref a99), (1, .int (nI p)), (2, .int (nI c)), (3, .int (nI k))] [] w _
      exact fin
    · refine n_ifT (c := .ge) (off := 9) (tg := 48) (by decide +kernel) (by unfold mj_go; decide) ((lg_cmp_ge _ _).mpr ((LJ_le (x := 0) (by decide) ⟨vb.1, by omega⟩).mpr (by omega))) ?_
      obtain ⟨vn, hvn⟩ : ∃ vn : Nat, v k = (vn : Int) := ⟨(v k).toNat, by omega⟩
      have eL : LJ (v k) = lN vn := by rw [hvn]; exact LJ_nat
      have hR := H.2 (9 * p + 3 * k + c)
      obtain ⟨f114, w114, x114⟩ := rr_at (E := E) H hv hal (k := 9 * p + 3 * k + c) (by omega)
      have eg : bi_g r p v k c = ((vn * r (9 * p + 3 * k + c) / 1000 : Nat) : Int) := by
        unfold bi_g
        rw [if_neg (by omega), hvn, Int.toNat_natCast]
      have b3 : vn * r (9 * p + 3 * k + c) ≤ 24299757 * 3000 := Nat.mul_le_mul (by omega) hR
      refine n_al (k := 0) (by decide +kernel) List.mem_cons_self ?_
      refine n_gf (ix := 83) (ci := 6) (k := 33) (by decide +kernel) (by decide +kernel) h99 h33 ?_
      refine n_iln (k := 3) (by decide +kernel) (List.mem_cons_of_mem _ (List.mem_cons_of_mem _ (List.mem_cons_of_mem _ List.mem_cons_self))) ?_
      refine n_lal1 (by decide +kernel) hl (by omega) ?_
      rw [eL]
      refine n_al (k := 0) (by decide +kernel) List.mem_cons_self ?_
      refine n_gf (ix := 52) (ci := 6) (k := 14) (by decide +kernel) (by decide +kernel) h99 h14 ?_
      refine n_bi (k := 9) (v := nI 9) (by decide +kernel) (by decide) ?_
      refine n_iln (k := 1) (by decide +kernel) (List.mem_cons_of_mem _ List.mem_cons_self) ?_
      refine n_imul (c := nI (9 * p)) (by decide +kernel) (Int32.ofNat_mul 9 p).symm ?_
      refine n_k (k := 3) (v := nI 3) (by decide +kernel) (by decide) ?_
      refine n_iln (k := 3) (by decide +kernel) (List.mem_cons_of_mem _ (List.mem_cons_of_mem _ (List.mem_cons_of_mem _ List.mem_cons_self))) ?_
      refine n_imul (c := nI (3 * k)) (by decide +kernel) (Int32.ofNat_mul 3 k).symm ?_
      refine n_iadd (c := nI (9 * p + 3 * k)) (by decide +kernel) (nI_add _ _) ?_
      refine n_iln (k := 2) (by decide +kernel) (List.mem_cons_of_mem _ (List.mem_cons_of_mem _ List.mem_cons_self)) ?_
      refine n_iadd (c := nI (9 * p + 3 * k + c)) (by decide +kernel) (nI_add _ _) ?_
      refine n_ial (x := r (9 * p + 3 * k + c)) (by decide +kernel) w114 (by omega) (by decide) x114 ?_
      refine n_i2l (c := lN (r (9 * p + 3 * k + c))) (by decide +kernel) (nI_l (by omega)) ?_
      refine n_lmul (c := lN (vn * r (9 * p + 3 * k + c))) (by decide +kernel) (n_lNmul _ _) ?_
      refine n_ldl (ix := 337) (v := 1000) (by decide +kernel) (by decide +kernel) ?_
      refine n_ldiv (c := lN (vn * r (9 * p + 3 * k + c) / 1000)) (by decide +kernel) (lN_div (by omega)) ?_
      rw [show lN (vn * r (9 * p + 3 * k + c) / 1000) = LJ (bi_g r p v k c) by rw [eg]; exact LJ_nat.symm]
      refine n_ls (k := 4) (by decide +kernel) (by decide +kernel) ?_
      show nG E 82 263 77 [(4, .long (LJ (bi_g r p v k c))), (0, .ref a99), (1, .int (nI p)), (2, .int (nI c)), (3, .int (nI k))] [] w _
      exact fin
theorem og_go (H : rr w0 r) (hal : als al a99 a114 a123 a124 a125) (hp : p < 5) (hV : bi_V v) (hQ : ∀ w2 u2, rv E al w0 w2 → fr2 w1 w2 → ll E w2 a124 a125 v u2 → (∀ q, q < 3 → u2 q = bi_c r p v q 3) → nG E 82 263 118 [(0, .ref a99), (1, .int (nI p))] [] w2 Q) :
    ∀ (m c : Nat) (w : va_W) (u : Nat → Int), c + m = 3 → rv E al w0 w → fr2 w1 w → ll E w a124 a125 v u → (∀ q, q < c → u q = bi_c r p v q 3) → nG E 82 263 2 [(0, .ref a99), (1, .int (nI p)), (2, .int (nI c))] [] w Q := by
  intro m
  induction m with
  | zero =>
    intro c w u hc hv hf hl hu
    have e : c = 3 := by omega
    subst e
    refine n_iln (k := 2) (by decide +kernel) (List.mem_cons_of_mem _ (List.mem_cons_of_mem _ List.mem_cons_self)) ?_
    refine n_k (k := 3) (v := nI 3) (by decide +kernel) (by decide) ?_
    refine n_icT (c := .ge) (off := 114) (tg := 118) (by decide +kernel) (by unfold mj_go; decide) (nI_le (Nat.le_refl _) (by omega)) ?_
    exact fun LV hL => hQ w u hv hf hl hu LV (fun q hq => hL q (by simp only [List.mem_cons, List.not_mem_nil, or_false] at hq ⊢; rcases hq with rfl | rfl <;> simp))
  | succ m ih =>
    intro c w u hc hv hf hl hu
    have hc3 : c < 3 := by omega
    obtain ⟨f99, h99, h14, h31, h33, h34⟩ := hal.m hv.1
    refine n_iln (k := 2) (by decide +kernel) (List.mem_cons_of_mem _ (List.mem_cons_of_mem _ List.mem_cons_self)) ?_
    refine n_k (k := 3) (v := nI 3) (by decide +kernel) (by decide) ?_
    refine n_icF (c := .ge) (off := 114) (tg := 118) (by decide +kernel) (by unfold mj_go; decide) (nI_ge (show c < 3 by omega) (by omega)) ?_
    refine n_al (k := 0) (by decide +kernel) List.mem_cons_self ?_
    refine n_gf (ix := 87) (ci := 6) (k := 34) (by decide +kernel) (by decide +kernel) h99 h34 ?_
    refine n_iln (k := 2) (by decide +kernel) (List.mem_cons_of_mem _ (List.mem_cons_of_mem _ List.mem_cons_self)) ?_
    refine n_al (k := 0) (by decide +kernel) List.mem_cons_self ?_
    refine n_gf (ix := 83) (ci := 6) (k := 33) (by decide +kernel) (by decide +kernel) h99 h33 ?_
    refine n_iln (k := 2) (by decide +kernel) (List.mem_cons_of_mem _ (List.mem_cons_of_mem _ List.mem_cons_self)) ?_
    refine n_lal1 (by decide +kernel) hl hc3 ?_
    refine n_las2 (t := v c) (by decide +kernel) hv hl hc3 (fun w2 v2 l2 f2 => ?_)
    refine n_k (k := 0) (v := nI 0) (by decide +kernel) (by decide) ?_
    refine n_isn (k := 3) (by decide +kernel) (by decide +kernel) ?_
    show nG E 82 263 21 [(3, .int (nI 0)), (0, .ref a99), (1, .int (nI p)), (2, .int (nI c))] [] w2 _
    have fin := ig_go (Q := Q) (w1 := w2) (u1 := up_ u c (v c)) H hal hp hc3 hV (fun w3 u3 v3 f3 l3 e3 q3 => ?_) 3 0 w2 _ (by omega) v2 (fun _ _ _ => rfl) l2 (by unfold up_; rw [if_pos rfl]; rfl) (fun q _ => rfl)
    · exact fun LV hL => fin LV (fun q hq => hL q (by simp only [List.mem_cons, List.not_mem_nil, or_false] at hq ⊢; rcases hq with rfl | rfl | rfl | rfl <;> simp))
    · skip
      refine n_inc (k := 2) (c := 1) (v2 := nI (c + 1)) (by decide +kernel) (by decide +kernel) (List.mem_cons_of_mem _ (List.mem_cons_of_mem _ List.mem_cons_self)) (nI_1 c) ?_
      show nG E 82 263 115 [(2, .int (nI (c + 1))), (0, .ref a99), (1, .int (nI p))] [] w3 _
      refine n_goto (off := (-113)) (tg := 2) (by decide +kernel) (by unfold mj_go; decide) ?_
      exact fun LV hL => ih (c + 1) w3 u3 (by omega) v3 (fun cc c1 c2 => ((f3 cc c1 c2).trans (f2 cc c1 c2)).trans (hf cc c1 c2)) l3 (fun q hq => by
        by_cases e : q = c
        · rw [e]
          exact e3
        · rw [q3 q e]
          unfold up_
          rw [if_neg e]
          exact hu q (by omega)) LV (fun q hq => hL q (by simp only [List.mem_cons, List.not_mem_nil, or_false] at hq ⊢; rcases hq with rfl | rfl | rfl <;> simp))
theorem kg_go (hal : als al a99 a114 a123 a124 a125) {u : Nat → Int} (hQ : ∀ w2 v2, rv E al w0 w2 → fr2 w1 w2 → ll E w2 a124 a125 v2 u → (∀ q, q < 3 → v2 q = u q) → Q none w2) :
    ∀ (m c : Nat) (w : va_W) (v : Nat → Int), c + m = 3 → rv E al w0 w → fr2 w1 w → ll E w a124 a125 v u → (∀ q, q < c → v q = u q) → nG E 82 263 120 [(0, .ref a99), (1, .int (nI p)), (2, .int (nI c))] [] w Q := by
  intro m
  induction m with
  | zero =>
    intro c w v hc hv hf hl hu
    have e : c = 3 := by omega
    subst e
    refine n_iln (k := 2) (by decide +kernel) (List.mem_cons_of_mem _ (List.mem_cons_of_mem _ List.mem_cons_self)) ?_
    refine n_k (k := 3) (v := nI 3) (by decide +kernel) (by decide) ?_
    refine n_icT (c := .ge) (off := 21) (tg := 143) (by decide +kernel) (by unfold mj_go; decide) (nI_le (Nat.le_refl _) (by omega)) ?_
    exact n_rv (by decide +kernel) (by decide +kernel) (hQ w v hv hf hl hu)
  | succ m ih =>
    intro c w v hc hv hf hl hu
    have hc3 : c < 3 := by omega
    obtain ⟨f99, h99, h14, h31, h33, h34⟩ := hal.m hv.1
    refine n_iln (k := 2) (by decide +kernel) (List.mem_cons_of_mem _ (List.mem_cons_of_mem _ List.mem_cons_self)) ?_
    refine n_k (k := 3) (v := nI 3) (by decide +kernel) (by decide) ?_
    refine n_icF (c := .ge) (off := 21) (tg := 143) (by decide +kernel) (by unfold mj_go; decide) (nI_ge (show c < 3 by omega) (by omega)) ?_
    refine n_al (k := 0) (by decide +kernel) List.mem_cons_self ?_
    refine n_gf (ix := 83) (ci := 6) (k := 33) (by decide +kernel) (by decide +kernel) h99 h33 ?_
    refine n_iln (k := 2) (by decide +kernel) (List.mem_cons_of_mem _ (List.mem_cons_of_mem _ List.mem_cons_self)) ?_
    refine n_al (k := 0) (by decide +kernel) List.mem_cons_self ?_
    refine n_gf (ix := 87) (ci := 6) (k := 34) (by decide +kernel) (by decide +kernel) h99 h34 ?_
    refine n_iln (k := 2) (by decide +kernel) (List.mem_cons_of_mem _ (List.mem_cons_of_mem _ List.mem_cons_self)) ?_
    refine n_lal2 (by decide +kernel) hl hc3 ?_
    refine n_las1 (t := u c) (by decide +kernel) hv hl hc3 (fun w2 v2 l2 f2 => ?_)
    refine n_inc (k := 2) (c := 1) (v2 := nI (c + 1)) (by decide +kernel) (by decide +kernel) (List.mem_cons_of_mem _ (List.mem_cons_of_mem _ List.mem_cons_self)) (nI_1 c) ?_
    show nG E 82 263 140 [(2, .int (nI (c + 1))), (0, .ref a99), (1, .int (nI p))] [] w2 _
    refine n_goto (off := (-20)) (tg := 120) (by decide +kernel) (by unfold mj_go; decide) ?_
    exact fun LV hL => ih (c + 1) w2 _ (by omega) v2 (fun cc c1 c2 => (f2 cc c1 c2).trans (hf cc c1 c2)) l2 (fun q hq => by
      unfold up_
      by_cases e : q = c
      · rw [if_pos e, e]
      · rw [if_neg e]
        exact hu q (by omega)) LV (fun q hq => hL q (by simp only [List.mem_cons, List.not_mem_nil, or_false] at hq ⊢; rcases hq with rfl | rfl | rfl <;> simp))
/-- the changes at a port -/
theorem cg_mj (H : rr w0 r) (hal : als al a99 a114 a123 a124 a125) (hp : p < 5) (hV : bi_V v) (hv : rv E al w0 w) {u : Nat → Int} (hl : ll E w a124 a125 v u) :
    MJ E 82 0 0 (mj_in0 263 [.ref a99, .int (nI p)] w) (fun x w2 => x = none ∧ rv E al w0 w2 ∧ fr2 w w2 ∧ ∃ v2 u2, ll E w2 a124 a125 v2 u2 ∧ ∀ q, q < 3 → v2 q = bi_c r p v q 3) := by
  refine nG.in0 ?_
  show nG E 82 263 0 [(0, .ref a99), (1, .int (nI p))] [] w _
  refine n_k (k := 0) (v := nI 0) (by decide +kernel) (by decide) ?_
  refine n_isn (k := 2) (by decide +kernel) (by decide +kernel) ?_
  show nG E 82 263 2 [(2, .int (nI 0)), (0, .ref a99), (1, .int (nI p))] [] w _
  have fin := og_go (Q := fun x w2 => x = none ∧ rv E al w0 w2 ∧ fr2 w w2 ∧ ∃ v2 u2, ll E w2 a124 a125 v2 u2 ∧ ∀ q, q < 3 → v2 q = bi_c r p v q 3) (w1 := w) H hal hp hV (fun w2 u2 v2 f2 l2 e2 => ?_) 3 0 w u (by omega) hv (fun _ _ _ => rfl) hl (fun q hq => absurd hq (by omega))
  · exact fun LV hL => fin LV (fun q hq => hL q (by simp only [List.mem_cons, List.not_mem_nil, or_false] at hq ⊢; rcases hq with rfl | rfl | rfl <;> simp))
  · skip
    refine n_k (k := 0) (v := nI 0) (by decide +kernel) (by decide) ?_
    refine n_isn (k := 2) (by decide +kernel) (by decide +kernel) ?_
    show nG E 82 263 120 [(2, .int (nI 0)), (0, .ref a99), (1, .int (nI p))] [] w2 _
    have fin := kg_go (Q := fun x w2 => x = none ∧ rv E al w0 w2 ∧ fr2 w w2 ∧ ∃ v2 u2, ll E w2 a124 a125 v2 u2 ∧ ∀ q, q < 3 → v2 q = bi_c r p v q 3) (p := p) (w1 := w) hal (u := u2) (fun w3 v3 g1 g2 g3 g4 => ⟨rfl, g1, g2, v3, u2, g3, fun q hq => (g4 q hq).trans (e2 q hq)⟩) 3 0 w2 _ (by omega) v2 f2 l2 (fun q hq => absurd hq (by omega))
    exact fun LV hL => fin LV (fun q hq => hL q (by simp only [List.mem_cons, List.not_mem_nil, or_false] at hq ⊢; rcases hq with rfl | rfl | rfl <;> simp))
end BG
/-! the two writes that begin the search -/
section NT
variable {E : mj_E} {al : List Nat} {w0 w : va_W} {d y pc : Nat} {lx : List (Nat × Value)} {ST : List Value} {Q : Option Value → va_W → Prop}
theorem al_123 : aLay[(123 : Nat)]? = some (.inr (0, 5, [(0, 4)])) := rfl
theorem n_way0 {a123 : Nat} (hd : decode (mj_b y) pc = .ok (.iastore, 1)) (hv : rv E al w0 w) (e : al[123]? = some a123) (h : ∀ w2, rv E al w0 w2 → jS w2 123 0 = 0 → (∀ c, c ≠ 123 → w2[c]? = w[c]?) → nG E d y (pc + 1) lx ST w2 Q) : nG E d y pc lx (.int (nI 0) :: .int (nI 0) :: .ref a123 :: ST) w Q := by
  obtain ⟨a5, a6, a7, dd, d9⟩ := hv
  obtain ⟨a, hw, hr⟩ := a5.row al_123
  have ea : a = a123 := by
    rw [← a5.1, List.getElem?_map, hw] at e
    cases e
    rfl
  subst ea
  have hlt := (List.getElem?_eq_some_iff.mp hw).1
  intro LV hL
  refine MJ.nx hd (lv1 := LV) (st1 := ST) (ws1 := w.set 123 (a, .inl (E.2.2.2.2.1, 5, .inl (upd (jR w 123) 0 (nI 0))))) (pc1 := pc + 1) ⟨rfl, nI 0, nI 0, a, ST, 123, 5, jR w 123, rfl, hw, nI_in (by decide) (by decide), rfl⟩ ?_
  have nw : ∀ c, c ≠ 123 → (w.set 123 (a, .inl (E.2.2.2.2.1, 5, .inl (upd (jR w 123) 0 (nI 0)))))[c]? = w[c]? := fun c hc => List.getElem?_set_ne (fun e => hc e.symm)
  refine h _ ⟨aWd.set a5 hw (fun D hD => ?_), aRs.other a6 (by decide +kernel), ?_, ?_, fun k k1 k2 k3 k4 => (jS.at (nw 99 (by decide))).trans (d9 k k1 k2 k3 k4)⟩ ?_ nw LV hL
  · rw [al_123] at hD
    cases hD
    exact ⟨_, rfl, hr.put (fun b hb => by
      have hb : some ((0, 4) : Int × Int) = some b := hb
      cases hb
      decide)⟩
  · refine jJ0_prot w _ (fun c2 hc2 => ?_) a7
    have ok : aProt0.all (fun q => decide (q < 1000 ∧ q ≠ 123)) = true := by decide +kernel
    have := of_decide_eq_true (List.all_eq_true.mp ok c2 hc2)
    unfold aE1
    rw [if_pos this.1]
    exact (nw _ this.2).symm
  · exact dd.trans (hD.set.more (by decide))
  · exact jS.sl (Or.inr ⟨a, _, 5, _, List.getElem?_set_self hlt, by decide, by show (nI 0).toInt = 0; decide⟩)
theorem al_99b : ∃ fs, aLay[(99 : Nat)]? = some (.inl (6, fs)) ∧ fs[(32 : Nat)]? = some (.inr (0, 5)) := ⟨_, rfl, rfl⟩
theorem n_len1 {ix a99 : Nat} {f99 : List Value} (hd : decode (mj_b y) pc = .ok (.putfield ix, 3)) (hq : (mj_ffl (mj_cn y) ix).any (fun q => q.2.2.1 == 6 && q.2.2.2.1 == 32) = true) (hv : rv E al w0 w) (hw : w[99]? = some (a99, .inr (6, f99))) (h : ∀ w2, rv E al w0 w2 → jS w2 99 32 = 1 → (∀ c, c ≠ 99 → w2[c]? = w[c]?) → nG E d y (pc + 3) lx ST w2 Q) : nG E d y pc lx (.int (nI 1) :: .ref a99 :: ST) w Q := by
  obtain ⟨a5, a6, a7, dd, d9⟩ := hv
  cases hm : mj_ffl (mj_cn y) ix with
  | none => rw [hm] at hq; cases hq
  | some q =>
    rw [hm] at hq
    have m := mj_find hm
    obtain ⟨a1, b, c2, k2, pl⟩ := q
    simp only [Option.any_some, Bool.and_eq_true, beq_iff_eq] at hq
    obtain ⟨rfl, rfl⟩ := hq
    obtain ⟨fs, l, kf⟩ := al_99b
    have hC := a5.2 99 _ l
    obtain ⟨q0, g0, vs, g1, g2, g3⟩ := hC
    rw [hw] at g0
    cases g0
    have g1 : (Sum.inr (6, f99) : va_E) = _ := g1
    cases g1
    have hlen : 32 < f99.length := by
      obtain ⟨v, hv, -⟩ := g3 32 _ kf
      exact (List.getElem?_eq_some_iff.mp hv).1
    have hlt := (List.getElem?_eq_some_iff.mp hw).1
    have nw : ∀ c, c ≠ 99 → (w.set 99 (a99, .inr (6, f99.set 32 (.int (nI 1)))))[c]? = w[c]? := fun c hc => List.getElem?_set_ne (fun e => hc e.symm)
    have self : (w.set 99 (a99, .inr (6, f99.set 32 (.int (nI 1)))))[99]? = some (a99, .inr (6, f99.set 32 (.int (nI 1)))) := List.getElem?_set_self hlt
    intro LV hL
    refine MJ.nx hd (lv1 := LV) (st1 := ST) (ws1 := w.set 99 (a99, .inr (6, f99.set 32 (.int (nI 1))))) (pc1 := pc + 3) ⟨rfl, .int (nI 1), a99, ST, 6, 32, pl, 99, f99, rfl, m, hw, hlen, ⟨.int, by decide +kernel, rfl, rfl⟩, fun h => absurd h (by decide +kernel), rfl⟩ ?_
    refine h _ ⟨aWd.set a5 hw (fun D hD => ?_), aRs.obj a6, ?_, ?_, fun k k1 k2 k3 k4 => ?_⟩ ?_ nw LV hL
    · rw [l] at hD
      cases hD
      refine ⟨_, rfl, by rw [List.length_set]; exact g2, fun k f hf => ?_⟩
      by_cases e : k = 32
      · subst e
        rw [kf] at hf
        cases hf
        exact ⟨_, List.getElem?_set_self hlen, nI 1, rfl, by decide, by decide⟩
      · rw [List.getElem?_set_ne (fun h => e h.symm)]
        exact g3 k f hf
    · refine jJ0_prot w _ (fun c2 hc2 => ?_) a7
      have ok : aProt0.all (fun q => decide (q < 1000 ∧ q ≠ 99)) = true := by decide +kernel
      have := of_decide_eq_true (List.all_eq_true.mp ok c2 hc2)
      unfold aE1
      rw [if_pos this.1]
      exact (nw _ this.2).symm
    · exact dd.trans (hD.set.more (by decide))
    · rw [← d9 k k1 k2 k3 k4]
      unfold jS
      rw [self, hw]
      dsimp only
      rw [List.getElem?_set_ne (fun h => k1 h.symm)]
    · exact jS.sl (Or.inl ⟨a99, 6, _, nI 1, self, List.getElem?_set_self hlen, by decide⟩)
end NT
/-! the reference's amounts are the component's -/
def bi_P (r : Nat → Nat) (v : Nat → Int) : List Nat → Nat → Int
  | [], c => v c
  | q :: t, c => bi_c r q (bi_P r v t) c 3
def bi_0 (a n : Nat) (c : Nat) : Int := if c = a then (n : Int) else -1
theorem bi_c_congr {r : Nat → Nat} {p c : Nat} {v v2 : Nat → Int} (h : ∀ k, k < 3 → v k = v2 k) (hc : c < 3) : ∀ {m : Nat}, m ≤ 3 → bi_c r p v c m = bi_c r p v2 c m
  | 0, _ => h c hc
  | m + 1, hm => by
    unfold bi_c bi_g
    rw [bi_c_congr h hc (m := m) (by omega), h m (by omega)]
/-- where no coin is missing -/
theorem bi_nat {r : Nat → Nat} {p c : Nat} {v : Nat → Int} {x : Nat → Nat} (h : ∀ k, k < 3 → v k = (x k : Int)) (hc : c < 3) : ∀ {m : Nat}, m ≤ 3 → bi_c r p v c m = (bg_c r p x c m : Int)
  | 0, _ => h c hc
  | m + 1, hm => by
    have ih := bi_nat (r := r) (p := p) h hc (m := m) (by omega)
    have hm3 := h m (by omega)
    unfold bi_c bg_c
    rw [ih]
    unfold bi_g
    by_cases e : m = c
    · rw [if_pos (Or.inl e), if_pos e]
      omega
    · rw [if_neg (by omega), if_neg e, hm3, Int.toNat_natCast]
      omega
/-- at the first port -/
theorem bi_first {r : Nat → Nat} {p c a n : Nat} (ha : a < 3) (hc : c < 3) : bi_c r p (bi_0 a n) c 3 = (bg_c r p (bg_0 a n) c 3 : Int) := by
  have hn : ¬ ((n : Int) < 0) := by omega
  have hx : ∀ k, 0 ≤ (n : Int) * (r k : Int) := fun k => Int.mul_nonneg (by omega) (by omega)
  have h1 := hx (9 * p + 1)
  have h2 := hx (9 * p + 2)
  have h3 := hx (9 * p + 3)
  have h4 := hx (9 * p + 3 + 2)
  have h5 := hx (9 * p + 6)
  have h6 := hx (9 * p + 6 + 1)
  simp only [bi_c, bg_c, bi_g, bi_0, bg_0]
  rcases (by omega : a = 0 ∨ a = 1 ∨ a = 2) with rfl | rfl | rfl <;> rcases (by omega : c = 0 ∨ c = 1 ∨ c = 2) with rfl | rfl | rfl <;> simp [hn] <;> omega
theorem bi_all {r : Nat → Nat} {a n : Nat} (ha : a < 3) : ∀ {u : List Nat} {c : Nat}, u ≠ [] → c < 3 → bi_P r (bi_0 a n) u c = (bg_A r (bg_0 a n) u c : Int)
  | [], _, h, _ => absurd rfl h
  | [q], c, _, hc => bi_first ha hc
  | q :: t :: s, c, _, hc => bi_nat (fun k hk => bi_all ha (u := t :: s) (by simp) hk) hc (m := 3) (by omega)
theorem bi_PV {r : Nat → Nat} {a n : Nat} (hr : ∀ k, r k ≤ 3000) (ha : a < 3) (hn : n ≤ 99999) {u : List Nat} (hu : u.length ≤ 5) : bi_V (bi_P r (bi_0 a n) u) := by
  intro c hc
  by_cases e : u = []
  · subst e
    show -1 ≤ bi_0 a n c ∧ bi_0 a n c ≤ 24299757
    unfold bi_0
    split <;> omega
  · rw [bi_all ha e hc]
    have h := bg_Ab (r := r) (v := bg_0 a n) (M := 99999) hr (fun c _ => by unfold bg_0; split <;> omega) (p := u) hc
    have h2 : 3 ^ u.length ≤ 3 ^ 5 := Nat.pow_le_pow_right (by decide) hu
    have h3 : 3 ^ u.length * 99999 ≤ 3 ^ 5 * 99999 := Nat.mul_le_mul_right _ h2
    omega
/-- the most, from -1 on or from -3 on -/
theorem bg_end {r v : Nat → Nat} {b : Nat} : ∀ {L : List (List Nat)} {m : Int}, -1 ≤ m → (L.foldl (bg_m r v b) m < 0 ↔ L = [] ∧ m < 0) ∧ (L ≠ [] → L.foldl (bg_m r v b) m = L.foldl (bg_m r v b) (max m 0))
  | [], m, _ => ⟨by simp, fun h => absurd rfl h⟩
  | w :: L, m, hm => by
    have e : bg_m r v b (max m 0) w = bg_m r v b m w := by unfold bg_m; omega
    have h0 : 0 ≤ bg_m r v b m w := by unfold bg_m; omega
    have ih := bg_end (r := r) (v := v) (b := b) (L := L) (m := bg_m r v b m w) (by omega)
    refine ⟨?_, fun _ => ?_⟩
    · rw [List.foldl_cons]
      constructor
      · intro h
        have := ih.1.mp h
        omega
      · rintro ⟨h, -⟩
        cases h
    · rw [List.foldl_cons, List.foldl_cons, e]
theorem bg_fin {r v : Nat → Nat} {b : Nat} {L : List (List Nat)} : (if L.foldl (bg_m r v b) (-1) < 0 then -3 else L.foldl (bg_m r v b) (-1)) = L.foldl (bg_m r v b) (-3) := by
  have h := bg_end (r := r) (v := v) (b := b) (L := L) (m := -1) (by omega)
  cases L with
  | nil => rfl
  | cons w L =>
    rw [if_neg (fun q => by have := (h.1.mp q).1; cases this)]
    rw [List.foldl_cons, List.foldl_cons]
    have e : bg_m r v b (-1) w = bg_m r v b (-3) w := by unfold bg_m; omega
    rw [e]
