/-! the sixth argument's place is told by bipush -/
section LAWB
variable {E : mj_E} {Q : Option Value → va_W → Prop} {al : List Nat} {w : va_W} {L : Nat} {i : Int}
def la_ldb (pc : Nat) (k : Int) : Bool := decide (decode (mj_b 320) pc = .ok (.aload_n 0, 1)) && decide (decode (mj_b 320) (pc + 1) = .ok (.iload_n 3, 1)) && decide (decode (mj_b 320) (pc + 2) = .ok (.bipush k, 2)) && decide (decode (mj_b 320) (pc + 4) = .ok (.iadd, 1)) && decide (decode (mj_b 320) (pc + 5) = .ok (.iaload, 1))
theorem la_argb {pc : Nat} {k : Int} (hc : la_ldb pc k = true) (hk : k = 6) (hL : L ≤ 3584) (hE : (E.2.2.1 2).2.1 = L) (hi : 0 ≤ i ∧ i + 7 ≤ L) {st : List av} (hq : hG E al 86 320 (pc + 6) laLv (.inl (ae_k (laX E (i + k)).toInt) :: st) [(L : Int), i] w Q) : hG E al 86 320 pc laLv st [(L : Int), i] w Q := by
  subst hk
  unfold la_ldb at hc
  simp only [Bool.and_eq_true, decide_eq_true_eq] at hc
  obtain ⟨⟨⟨⟨d0, d1⟩, d2⟩, d3⟩, d4⟩ := hc
  intro LV ST h1 h2
  obtain ⟨v0, m0, e0⟩ := h1 (0, .inr (3, 2)) (by simp [laLv])
  obtain ⟨-, rfl⟩ := e0
  obtain ⟨v3, m3, n, rfl, hn⟩ := h1 (3, .inl (ae_s 1)) (by simp [laLv])
  have en : n.toInt = i := hn.uniq (aV.s rfl)
  have ek : ((Int8.ofInt 6).toInt32).toInt = 6 := by decide
  have es : (n + (Int8.ofInt 6).toInt32).toInt = i + 6 := i32_add (by rw [en, ek]) (by unfold aI0; omega) (by unfold aI1; omega)
  refine MJ.nx d0 ⟨rfl, _, m0, rfl⟩ (MJ.nx d1 ⟨rfl, _, m3, rfl⟩ (MJ.nx d2 ⟨rfl, rfl⟩ (MJ.nx d3 ⟨rfl, _, _, _, rfl, rfl⟩ (MJ.nx d4 ⟨rfl, _, _, _, rfl, Or.inr ⟨2, by decide, rfl, i32_in (by rw [es]; omega) (by rw [es, hE]; omega), rfl⟩⟩ ?_))))
  refine hq LV _ h1 ⟨_, ST, rfl, ⟨_, rfl, ?_⟩, h2⟩
  rw [show (n + (Int8.ofInt 6).toInt32).toNatClampNeg = (i + 6).toNat by rw [show (n + (Int8.ofInt 6).toInt32).toNatClampNeg = (n + (Int8.ofInt 6).toInt32).toInt.toNat from rfl, es]]
  exact aV.k _
end LAWB
/-! THE CALL WHOSE ANSWERS ARE COMPARED: by templates (facts, arguments, answer, the slots behind it, each side's cuts); both sides keep to the same ones -/
section LAW
variable {E : mj_E} {Q : Option Value → va_W → Prop}
def xE : List (Int × Int) := List.replicate 6 aF ++ jLv.map (fun q => (q.2.2.2.2.2.1, q.2.2.2.2.2.2))
def xC (y self : Nat) (cells : List (Nat × Nat)) (md : List Nat) (dep : Nat) (t : xT) (cuts : List aCut) : aInst := ((y, xE, t.1, .inr (0, self) :: t.2.1.map .inl, jHe cells (jSs 6), md, dep, [([], [], some (.inl t.2.2.1), jHe cells t.2.2.2.1)]), cuts)
def xT_0 : xT := ([ae_s 0], [ae_s 0, ae_s 1, ae_s 2, ae_s 3, ae_s 4, ae_s 5], ae_k (-1), [], [], [])
def xT_1 : xT := ([([(0, (-1))], 10000)], [ae_s 0, ae_s 1, ae_s 2, ae_s 3, ae_s 4, ae_s 5], ae_k (-1), [], [], [])
def xT_2 : xT := ([([(1, 1)], 1)], [ae_s 0, ae_s 1, ae_s 2, ae_s 3, ae_s 4, ae_s 5], ae_k (-1), [], [], [])
def xT_3 : xT := ([([(1, (-1))], 1000)], [ae_s 0, ae_s 1, ae_s 2, ae_s 3, ae_s 4, ae_s 5], ae_k (-1), [], [], [])
def xT_4 : xT := ([([(2, 1)], 1)], [ae_s 0, ae_s 1, ae_s 2, ae_s 3, ae_s 4, ae_s 5], ae_k (-1), [], [], [])
def xT_5 : xT := ([([(2, (-1))], 1000)], [ae_s 0, ae_s 1, ae_s 2, ae_s 3, ae_s 4, ae_s 5], ae_k (-1), [], [], [])
def xT_6 : xT := ([([(3, 1)], 1)], [ae_s 0, ae_s 1, ae_s 2, ae_s 3, ae_s 4, ae_s 5], ae_k (-1), [], [], [])
def xT_7 : xT := ([([(3, (-1))], 7)], [ae_s 0, ae_s 1, ae_s 2, ae_s 3, ae_s 4, ae_s 5], ae_k (-1), [], [], [])
def xT_8 : xT := ([([(4, 1)], 1)], [ae_s 0, ae_s 1, ae_s 2, ae_s 3, ae_s 4, ae_s 5], ae_k (-1), [], [], [])
def xT_9 : xT := ([([(4, (-1))], 10000)], [ae_s 0, ae_s 1, ae_s 2, ae_s 3, ae_s 4, ae_s 5], ae_k (-1), [], [], [])
def xT_10 : xT := ([([(5, 1)], 1)], [ae_s 0, ae_s 1, ae_s 2, ae_s 3, ae_s 4, ae_s 5], ae_k (-1), [], [], [])
def xT_11 : xT := ([([(5, (-1))], 2)], [ae_s 0, ae_s 1, ae_s 2, ae_s 3, ae_s 4, ae_s 5], ae_k (-1), [], [], [])
def xTs_0 : List xT := [xT_0, xT_1, xT_2, xT_3, xT_4, xT_5, xT_6, xT_7]
def xTs_1 : List xT := [xT_8, xT_9, xT_10, xT_11]
def xTs : List xT := xTs_0 ++ (xTs_1)
def xcs : List aCon := []
def xrs : List aCon := []
def xOk (t : xT) : Bool := ak_inst (aG00 xcs) 100000 (xC 136 0 (jCc 0) xMc 2 t t.2.2.2.2.1) && ak_inst (aG00 xrs) 100000 (xC 280 99 jCr xMr 2 t t.2.2.2.2.2) && t.1.all (fun f => f.1.all (fun q => decide (q.1 < 6))) && t.2.1.all (fun f => f.1.all (fun q => decide (q.1 < 6))) && decide (t.2.2.2.1.length = jLv.length) && (jLv.zip t.2.2.2.1).all (fun p => aP_in (xE, t.1, [], [], []) p.1.2.2.2.2.2.1 p.1.2.2.2.2.2.2 p.2 && p.2.1.all (fun q => decide (q.1 < 6)))
section
set_option maxRecDepth 100000
theorem xk_0 : xTs_0.all xOk = true := by decide +kernel
theorem xk_1 : xTs_1.all xOk = true := by decide +kernel
theorem xE_len : xE.length = 6 := by decide +kernel
theorem lp_g : (la_ldc 1625 1 && la_ldc 1630 2 && la_ldc 1635 3 && la_ldc 1640 4 && la_ldc 1645 5 && la_ldb 1650 6 && la_ldc 1660 1 && la_ldc 1665 2 && la_ldc 1670 3 && la_ldc 1675 4 && la_ldc 1680 5 && la_ldb 1685 6) = true := by decide +kernel
theorem lx_1 : decode (mj_b 320) 1624 = .ok (.aload_n 1, 1) := by decide +kernel
theorem lx_2 : decode (mj_b 320) 1659 = .ok (.aload_n 2, 1) := by decide +kernel
theorem lx_3 : decode (mj_b 320) 1694 = .ok (.if_icmp .eq 523, 3) := by decide +kernel

end
section SIDES
variable {al : List Nat} {ws w w2 : va_W} {L : Nat} {i : Int} {ρ : List Int}
theorem xk : ∀ t ∈ xTs, xOk t = true := by
  unfold xTs
  exact List.forall_mem_append.mpr ⟨List.all_eq_true.mp xk_0, List.all_eq_true.mp xk_1⟩
theorem xcs_ok (hf : E.2.2.2.1.category = 1) (hT : ∀ σ : List Int, aTb E σ aTabs) : ∀ c ∈ xcs, aCO E al (aG00 []) jJ0 c := by
  have h_0 : ∀ c ∈ ([] : List aCon), aCO E al (aG00 []) jJ0 c := fun c hc => by cases hc
  exact h_0
theorem xrs_ok (hf : E.2.2.2.1.category = 1) (hT : ∀ σ : List Int, aTb E σ aTabs) : ∀ c ∈ xrs, aCO E al (aG00 []) jJ0 c := by
  have h_0 : ∀ c ∈ ([] : List aCon), aCO E al (aG00 []) jJ0 c := fun c hc => by cases hc
  exact h_0
/-- a side's call, by a template -/
theorem x_mj (hf : E.2.2.2.1.category = 1) (hT : ∀ σ : List Int, aTb E σ aTabs) {y self : Nat} {cells : List (Nat × Nat)} {md : List Nat} {dep : Nat} {t : xT} {cuts : List aCut} {cs : List aCon} (hcs : ∀ c ∈ cs, aCO E al (aG00 []) jJ0 c) (hy : y < mj_lawNo) (hk : ak_inst (aG00 cs) 100000 (xC y self cells md dep t cuts) = true) (hd : dep ≤ 85)
    (a5 : aWd E al aLay ws) (a6 : aRs aRules ws) (a7 : jJ0 ws) (he : aEv ρ xE) (hfs : aFs ρ t.1) (hl : cells.length = jLv.length) (hcell : ∀ (k : Nat) (c : Nat × Nat), cells[k]? = some c → c.1 < 1000000 ∧ ρ[6 + k]? = some (jS ws c.1 c.2) ∧ aSl ws c.1 c.2 (jS ws c.1 c.2)) {AS : List Value} (ha : gL E al ρ (.inr (0, self) :: t.2.1.map .inl) AS) :
    MJ E 85 0 0 (mj_in0 y AS ws) (fun v w => ∃ z : Int32, v = some (.int z) ∧ z.toInt = ae_ev ρ t.2.2.1 ∧ aWd E al aLay w ∧ aRs aRules w ∧ jJ0 w ∧ hD md ws w ∧ ∀ (k : Nat) (c : Nat × Nat) (e : ae), cells[k]? = some c → t.2.2.2.1[k]? = some e → jS w c.1 c.2 = ae_ev ρ e) := by
  have kn : aHh ρ ws (jHe cells (jSs 6)) := by
    refine jHe_ok (fun k c e h1 h2 => ?_)
    obtain ⟨g1, g2, g3⟩ := hcell k c h1
    obtain ⟨hlt, rfl⟩ := jSs_of h2
    refine ⟨g1, ?_, ?_⟩
    · have := (List.getElem?_eq_some_iff.mp g2).1
      simpa [ae_s] using this
    · rw [ev_s g2]
      exact g3
  refine (ai00L hf hT hcs (q := xC y self cells md dep t cuts) hy hk ρ AS ws he hfs ha kn a5 a6 a7 85 hd).weaken (Nat.le_refl _) (Nat.le_refl _) (Nat.le_refl _) (fun v w h => ?_)
  obtain ⟨cs', hcs', r, h1, h2, h3, h4, h5, h6, h7, h8, h9⟩ := h
  have hcs' := List.mem_singleton.mp hcs'
  subst hcs'
  have hr : r = [] := by
    have e1 := h1.1
    have e2 := he.1
    have e3 : (ρ ++ r).length = (xE ++ []).length := e1
    rw [List.length_append, List.append_nil] at e3
    exact List.eq_nil_of_length_eq_zero (by omega)
  subst hr
  rw [List.append_nil] at h3 h4
  obtain ⟨u, rfl, z, rfl, hz⟩ := h3
  refine ⟨z, rfl, hz.ev, h5, h6, h7, ⟨h8, fun k hk => h9 k hk⟩, fun k c e hc he => ?_⟩
  exact jHe_get h4 (jHe_mem hc he) (hcell k c hc).1
/-- one of the templates fits -/
theorem x_cov {S : List Int} (a1 a2 a3 a4 a5 a6 : Int) (hn : ¬ (1 ≤ a1 ∧ a1 ≤ 9999 ∧ 0 ≤ a2 ∧ a2 ≤ 999 ∧ 0 ≤ a3 ∧ a3 ≤ 999 ∧ 0 ≤ a4 ∧ a4 ≤ 6 ∧ 0 ≤ a5 ∧ a5 ≤ 9999 ∧ 0 ≤ a6 ∧ a6 ≤ 1)) (hb : ∀ (k : Nat) (b : Int × Int), xE[k]? = some b → b.1 ≤ ([a1, a2, a3, a4, a5, a6] ++ S).getD k 0 ∧ ([a1, a2, a3, a4, a5, a6] ++ S).getD k 0 ≤ b.2) : ∃ t ∈ xTs, (∀ f ∈ t.1, ae_ev ([a1, a2, a3, a4, a5, a6] ++ S) f ≤ 0) ∧ t.2.1.map (ae_ev ([a1, a2, a3, a4, a5, a6] ++ S)) = [a1, a2, a3, a4, a5, a6] := by
  have e0 : ([a1, a2, a3, a4, a5, a6] ++ S).getD 0 0 = a1 := rfl
  have e1 : ([a1, a2, a3, a4, a5, a6] ++ S).getD 1 0 = a2 := rfl
  have e2 : ([a1, a2, a3, a4, a5, a6] ++ S).getD 2 0 = a3 := rfl
  have e3 : ([a1, a2, a3, a4, a5, a6] ++ S).getD 3 0 = a4 := rfl
  have e4 : ([a1, a2, a3, a4, a5, a6] ++ S).getD 4 0 = a5 := rfl
  have e5 : ([a1, a2, a3, a4, a5, a6] ++ S).getD 5 0 = a6 := rfl
  rcases (by omega : (a1 ≤ 0) ∨ (10000 ≤ a1) ∨ (a2 ≤ (-1)) ∨ (1000 ≤ a2) ∨ (a3 ≤ (-1)) ∨ (1000 ≤ a3) ∨ (a4 ≤ (-1)) ∨ (7 ≤ a4) ∨ (a5 ≤ (-1)) ∨ (10000 ≤ a5) ∨ (a6 ≤ (-1)) ∨ (2 ≤ a6)) with h | h | h | h | h | h | h | h | h | h | h | h
  · refine ⟨xT_0, List.mem_of_getElem? (i := 0) (by rfl), fun f hf => ?_, ?_⟩
    · simp only [xT_0, List.mem_cons, List.not_mem_nil, or_false] at hf
      rcases hf with rfl <;> (simp only [ae_ev, ae_el, ae_s, ae_k, e0, e1, e2, e3, e4, e5]; omega)
    · simp only [xT_0, List.map_cons, List.map_nil, ae_ev, ae_el, ae_s, ae_k, e0, e1, e2, e3, e4, e5, List.cons.injEq, and_true]
      omega
  · refine ⟨xT_1, List.mem_of_getElem? (i := 1) (by rfl), fun f hf => ?_, ?_⟩
    · simp only [xT_1, List.mem_cons, List.not_mem_nil, or_false] at hf
      rcases hf with rfl <;> (simp only [ae_ev, ae_el, ae_s, ae_k, e0, e1, e2, e3, e4, e5]; omega)
    · simp only [xT_1, List.map_cons, List.map_nil, ae_ev, ae_el, ae_s, ae_k, e0, e1, e2, e3, e4, e5, List.cons.injEq, and_true]
      omega
  · refine ⟨xT_2, List.mem_of_getElem? (i := 2) (by rfl), fun f hf => ?_, ?_⟩
    · simp only [xT_2, List.mem_cons, List.not_mem_nil, or_false] at hf
      rcases hf with rfl <;> (simp only [ae_ev, ae_el, ae_s, ae_k, e0, e1, e2, e3, e4, e5]; omega)
    · simp only [xT_2, List.map_cons, List.map_nil, ae_ev, ae_el, ae_s, ae_k, e0, e1, e2, e3, e4, e5, List.cons.injEq, and_true]
      omega
  · refine ⟨xT_3, List.mem_of_getElem? (i := 3) (by rfl), fun f hf => ?_, ?_⟩
    · simp only [xT_3, List.mem_cons, List.not_mem_nil, or_false] at hf
      rcases hf with rfl <;> (simp only [ae_ev, ae_el, ae_s, ae_k, e0, e1, e2, e3, e4, e5]; omega)
    · simp only [xT_3, List.map_cons, List.map_nil, ae_ev, ae_el, ae_s, ae_k, e0, e1, e2, e3, e4, e5, List.cons.injEq, and_true]
      omega
  · refine ⟨xT_4, List.mem_of_getElem? (i := 4) (by rfl), fun f hf => ?_, ?_⟩
    · simp only [xT_4, List.mem_cons, List.not_mem_nil, or_false] at hf
      rcases hf with rfl <;> (simp only [ae_ev, ae_el, ae_s, ae_k, e0, e1, e2, e3, e4, e5]; omega)
    · simp only [xT_4, List.map_cons, List.map_nil, ae_ev, ae_el, ae_s, ae_k, e0, e1, e2, e3, e4, e5, List.cons.injEq, and_true]
      omega
  · refine ⟨xT_5, List.mem_of_getElem? (i := 5) (by rfl), fun f hf => ?_, ?_⟩
    · simp only [xT_5, List.mem_cons, List.not_mem_nil, or_false] at hf
      rcases hf with rfl <;> (simp only [ae_ev, ae_el, ae_s, ae_k, e0, e1, e2, e3, e4, e5]; omega)
    · simp only [xT_5, List.map_cons, List.map_nil, ae_ev, ae_el, ae_s, ae_k, e0, e1, e2, e3, e4, e5, List.cons.injEq, and_true]
      omega
  · refine ⟨xT_6, List.mem_of_getElem? (i := 6) (by rfl), fun f hf => ?_, ?_⟩
    · simp only [xT_6, List.mem_cons, List.not_mem_nil, or_false] at hf
      rcases hf with rfl <;> (simp only [ae_ev, ae_el, ae_s, ae_k, e0, e1, e2, e3, e4, e5]; omega)
    · simp only [xT_6, List.map_cons, List.map_nil, ae_ev, ae_el, ae_s, ae_k, e0, e1, e2, e3, e4, e5, List.cons.injEq, and_true]
      omega
  · refine ⟨xT_7, List.mem_of_getElem? (i := 7) (by rfl), fun f hf => ?_, ?_⟩
    · simp only [xT_7, List.mem_cons, List.not_mem_nil, or_false] at hf
      rcases hf with rfl <;> (simp only [ae_ev, ae_el, ae_s, ae_k, e0, e1, e2, e3, e4, e5]; omega)
    · simp only [xT_7, List.map_cons, List.map_nil, ae_ev, ae_el, ae_s, ae_k, e0, e1, e2, e3, e4, e5, List.cons.injEq, and_true]
      omega
  · refine ⟨xT_8, List.mem_of_getElem? (i := 8) (by rfl), fun f hf => ?_, ?_⟩
    · simp only [xT_8, List.mem_cons, List.not_mem_nil, or_false] at hf
      rcases hf with rfl <;> (simp only [ae_ev, ae_el, ae_s, ae_k, e0, e1, e2, e3, e4, e5]; omega)
    · simp only [xT_8, List.map_cons, List.map_nil, ae_ev, ae_el, ae_s, ae_k, e0, e1, e2, e3, e4, e5, List.cons.injEq, and_true]
      omega
  · refine ⟨xT_9, List.mem_of_getElem? (i := 9) (by rfl), fun f hf => ?_, ?_⟩
    · simp only [xT_9, List.mem_cons, List.not_mem_nil, or_false] at hf
      rcases hf with rfl <;> (simp only [ae_ev, ae_el, ae_s, ae_k, e0, e1, e2, e3, e4, e5]; omega)
    · simp only [xT_9, List.map_cons, List.map_nil, ae_ev, ae_el, ae_s, ae_k, e0, e1, e2, e3, e4, e5, List.cons.injEq, and_true]
      omega
  · refine ⟨xT_10, List.mem_of_getElem? (i := 10) (by rfl), fun f hf => ?_, ?_⟩
    · simp only [xT_10, List.mem_cons, List.not_mem_nil, or_false] at hf
      rcases hf with rfl <;> (simp only [ae_ev, ae_el, ae_s, ae_k, e0, e1, e2, e3, e4, e5]; omega)
    · simp only [xT_10, List.map_cons, List.map_nil, ae_ev, ae_el, ae_s, ae_k, e0, e1, e2, e3, e4, e5, List.cons.injEq, and_true]
      omega
  · refine ⟨xT_11, List.mem_of_getElem? (i := 11) (by rfl), fun f hf => ?_, ?_⟩
    · simp only [xT_11, List.mem_cons, List.not_mem_nil, or_false] at hf
      rcases hf with rfl <;> (simp only [ae_ev, ae_el, ae_s, ae_k, e0, e1, e2, e3, e4, e5]; omega)
    · simp only [xT_11, List.map_cons, List.map_nil, ae_ev, ae_el, ae_s, ae_k, e0, e1, e2, e3, e4, e5, List.cons.injEq, and_true]
      omega
/-! TO WAIT: what both sides answer -/
def wt_c (a dr ke lo : Int) (p w : Nat) : Int := (w : Int) * ke + (if p < w then lo else if a + -(w : Int) * dr ≤ 1 then 1 else a + -(w : Int) * dr)
def wt_F (a dr ke lo wh : Int) (p : Nat) : Nat → Nat → Int → Int → Int
  | 0, _, l, k => if wh = 0 then l else k
  | n + 1, w, l, k => if wt_c a dr ke lo p w < l then wt_F a dr ke lo wh p n (w + 1) (wt_c a dr ke lo p w) (w : Int) else wt_F a dr ke lo wh p n (w + 1) l k
def wt_b (a dr ke lo wh : Int) : Prop := (1 ≤ a ∧ a ≤ 9999) ∧ (0 ≤ dr ∧ dr ≤ 999) ∧ (0 ≤ ke ∧ ke ≤ 999) ∧ (0 ≤ lo ∧ lo ≤ 9999) ∧ (0 ≤ wh ∧ wh ≤ 1)
def wt_lv (p w : Nat) (a d k lo wh l wk : ae) : List (Nat × av) := [(1, .inl a), (2, .inl d), (3, .inl k), (4, .inl (ae_k (p : Int))), (5, .inl lo), (6, .inl wh), (7, .inl l), (8, .inl wk), (9, .inl (ae_k (w : Int)))]
def wt_S (p w : Nat) : List (Nat × av) := wt_lv p w (ae_s 0) (ae_s 1) (ae_s 2) (ae_s 3) (ae_s 4) (ae_s 5) (ae_s 6)
def wt_K (p w : Nat) (a d k lo wh l wk : Int) : List (Nat × av) := wt_lv p w (ae_k a) (ae_k d) (ae_k k) (ae_k lo) (ae_k wh) (ae_k l) (ae_k wk)
def wt_n : List (Int × Int) := [(1, 9999), (0, 999), (0, 999), (0, 9999), (0, 1)]
def wt_m : List (Int × Int) := [(1, 9999), (0, 999), (0, 999), (0, 9999), (0, 1), aF, aF]
/-- the cost by the ask, by 1, by the loss; less than the least, or not; what is asked -/
def wt_x (w : Nat) : ae := ([(0, 1), (1, -(w : Int)), (2, (w : Int))], 0)
def wt_1 (w : Nat) : ae := ([(2, (w : Int))], 1)
def wt_l (w : Nat) : ae := ([(2, (w : Int)), (3, 1)], 0)
def wt_lt (e : ae) : ae := (e.1 ++ [(5, (-1))], e.2 + 1)
def wt_ge (e : ae) : ae := (e.1.map (fun q => (q.1, -q.2)) ++ [(5, 1)], -e.2)
def wt_w0 : ae := ([(4, 1)], 0)
def wt_w1 : ae := ([(4, (-1))], 1)
def wt_B (pc p w : Nat) (fs : List ae) (l wk : ae) : aCut := (pc, wt_m, fs, wt_lv p w (ae_s 0) (ae_s 1) (ae_s 2) (ae_s 3) (ae_s 4) l wk, [], [], [], mMU)
def wt_R (pc : Nat) (fs : List ae) (e : ae) : aCut := (pc, wt_m, fs, [], [.inl e], [], [], mMU)
section WT
variable {al : List Nat} {ws : va_W} {a dr ke lo wh l k : Int} {r : List Int}
theorem wt_e0 : ae_ev (a :: r) (ae_s 0) = a := ev_s rfl
theorem wt_e1 : ae_ev (a :: dr :: r) (ae_s 1) = dr := ev_s rfl
theorem wt_e2 : ae_ev (a :: dr :: ke :: r) (ae_s 2) = ke := ev_s rfl
theorem wt_e3 : ae_ev (a :: dr :: ke :: lo :: r) (ae_s 3) = lo := ev_s rfl
theorem wt_e4 : ae_ev (a :: dr :: ke :: lo :: wh :: r) (ae_s 4) = wh := ev_s rfl
theorem wt_e5 : ae_ev [a, dr, ke, lo, wh, l, k] (ae_s 5) = l := ev_s rfl
theorem wt_e6 : ae_ev [a, dr, ke, lo, wh, l, k] (ae_s 6) = k := ev_s rfl
theorem wt_E {p w : Nat} {e f : ae} : lvE [a, dr, ke, lo, wh, l, k] (wt_lv p w (ae_s 0) (ae_s 1) (ae_s 2) (ae_s 3) (ae_s 4) e f) = wt_K p w a dr ke lo wh (ae_ev [a, dr, ke, lo, wh, l, k] e) (ae_ev [a, dr, ke, lo, wh, l, k] f) := by
  simp only [lvE, avE, wt_lv, wt_K, List.map_cons, List.map_nil, wt_e0, wt_e1, wt_e2, wt_e3, wt_e4, ae_ev_k]
theorem wt_ES {p w : Nat} : lvE [a, dr, ke, lo, wh, l, k] (wt_S p w) = wt_K p w a dr ke lo wh l k := by
  simp only [lvE, avE, wt_S, wt_lv, wt_K, List.map_cons, List.map_nil, wt_e0, wt_e1, wt_e2, wt_e3, wt_e4, wt_e5, wt_e6, ae_ev_k]
theorem wt_E5 {p : Nat} : lvE [a, dr, ke, lo, wh] (wt_lv p 1 (ae_s 0) (ae_s 1) (ae_s 2) (ae_s 3) (ae_s 4) (ae_s 0) (ae_k 0)) = wt_K p 1 a dr ke lo wh a 0 := by
  simp only [lvE, avE, wt_lv, wt_K, List.map_cons, List.map_nil, wt_e0, wt_e1, wt_e2, wt_e3, wt_e4, ae_ev_k]
def wc_2 (w : Nat) : ae := ([(0, (-1)), (1, (w : Int))], 2)
def wc_0 (w : Nat) : ae := ([(0, 1), (1, -(w : Int))], (-1))
def wc_T1 (p w : Nat) : List aCut := [wt_B 79 p (w + 1) [wc_2 w, wt_lt (wt_x w)] (wt_x w) (ae_k (w : Int)), wt_B 79 p (w + 1) [wc_2 w, wt_ge (wt_x w)] (ae_s 5) (ae_s 6), wt_B 79 p (w + 1) [wc_0 w, wt_lt (wt_1 w)] (wt_1 w) (ae_k (w : Int)), wt_B 79 p (w + 1) [wc_0 w, wt_ge (wt_1 w)] (ae_s 5) (ae_s 6)]
def wc_T2 (p w : Nat) : List aCut := [wt_B 79 p (w + 1) [wt_lt (wt_l w)] (wt_l w) (ae_k (w : Int)), wt_B 79 p (w + 1) [wt_ge (wt_l w)] (ae_s 5) (ae_s 6)]
def wc_T3 : List aCut := [wt_R 157 [wt_w0] (ae_s 5), wt_R 157 [wt_w1] (ae_s 6)]
def wc_lv0 (p : Nat) : List (Nat × av) := [(0, .inr (0, 0)), (1, .inl (ae_s 0)), (2, .inl (ae_s 1)), (3, .inl (ae_s 2)), (4, .inl (ae_k (p : Int))), (5, .inl (ae_s 3)), (6, .inl (ae_s 4))]
def wc_T0 (p : Nat) : aCut := (79, wt_n, [], wt_lv p 1 (ae_s 0) (ae_s 1) (ae_s 2) (ae_s 3) (ae_s 4) (ae_s 0) (ae_k 0), [], [], [], mMU)
section
set_option maxRecDepth 100000
theorem wc_k0 : (List.range 7).all (fun p => hp_chk gV0 1000 85 136 (0, wt_n, [], [], wc_lv0 p, []) [] [wc_T0 p]) = true := by decide +kernel
theorem wc_k1 : (List.range 7).all (fun p => (List.range 6).all (fun w => !decide (w < p) || hp_chk gV0 1000 85 136 (79, wt_m, [], [], wt_S p (w + 1), []) [] (wc_T1 p (w + 1)))) = true := by decide +kernel
theorem wc_k2 : (List.range 7).all (fun p => hp_chk gV0 1000 85 136 (79, wt_m, [], [], wt_S p (p + 1), []) [] (wc_T2 p (p + 1))) = true := by decide +kernel
theorem wc_k3 : (List.range 7).all (fun p => hp_chk gV0 1000 85 136 (79, wt_m, [], [], wt_S p (p + 2), []) [] wc_T3) = true := by decide +kernel
end
/-- from the head of the loop -/
theorem wc_go (hf : E.2.2.2.1.category = 1) (hT : ∀ σ : List Int, aTb E σ aTabs) (a5 : aWd E al aLay ws) {p : Nat} (hp : p ≤ 6) (hb : wt_b a dr ke lo wh) : ∀ (n w : Nat) (l k : Int), w + n = p + 2 → 1 ≤ w → (aI0 ≤ l ∧ l ≤ aI1) → (aI0 ≤ k ∧ k ≤ aI1) → (∀ z : Int32, z.toInt = wt_F a dr ke lo wh p n w l k → Q (some (.int z)) ws) → hG E al 85 136 79 (wt_K p w a dr ke lo wh l k) [] [] ws Q := by
  have H : hOk E al gV0 (fun _ => True) := hOkV hf hT (fun _ _ _ h => h)
  intro n
  induction n with
  | zero =>
    intro w l k hw h1 hl hk hQ
    have e : w = p + 2 := by omega
    subst e
    have b9 := hb.2.2.2.2
    refine (hp_go (ρ := [a, dr, ke, lo, wh, l, k]) (p := (79, wt_m, [], [], wt_S p (p + 2), [])) H (by decide) (List.all_eq_true.mp wc_k3 p (List.mem_range.mpr (by omega))) (hW.v a5 trivial ⟨hb.1, hb.2.1, hb.2.2.1, hb.2.2.2.1, hb.2.2.2.2, hl, hk, trivial⟩ aFs.nil aHh.nil) ?_).toK (by rfl) rfl wt_ES rfl
    intro T hT2 σ w2 k1 k2 k3 k4
    simp only [wc_T3, List.mem_cons, List.not_mem_nil, or_false] at hT2
    rcases hT2 with rfl | rfl
    · have e := hD.eq (ws := ws) (w := w2) ⟨k3, fun k hk => k4 k hk⟩
      subst e
      have hσ := hp_same k1 k2.1.1 rfl
      subst hσ
      have f1 := k2.2.1.ev (f := wt_w0) List.mem_cons_self
      simp only [wt_w0, wt_lt, wt_ge, wt_x, wt_1, wt_l, List.map_cons, List.map_nil, List.cons_append, List.nil_append, ae_ev, ae_el, List.getD_cons_zero, List.getD_cons_succ] at f1
      exact hp_retI (pc := 157) (ty := .int) (x := l) (by decide) (by decide +kernel) (by decide +kernel) (aV.s rfl) (fun n hn => rfl) (fun z hz => hQ z (by rw [hz]; exact (if_pos (by omega)).symm))
    · have e := hD.eq (ws := ws) (w := w2) ⟨k3, fun k hk => k4 k hk⟩
      subst e
      have hσ := hp_same k1 k2.1.1 rfl
      subst hσ
      have f1 := k2.2.1.ev (f := wt_w1) List.mem_cons_self
      simp only [wt_w1, wt_lt, wt_ge, wt_x, wt_1, wt_l, List.map_cons, List.map_nil, List.cons_append, List.nil_append, ae_ev, ae_el, List.getD_cons_zero, List.getD_cons_succ] at f1
      exact hp_retI (pc := 157) (ty := .int) (x := k) (by decide) (by decide +kernel) (by decide +kernel) (aV.s rfl) (fun n hn => rfl) (fun z hz => hQ z (by rw [hz]; exact (if_neg (by omega)).symm))
  | succ n ih =>
    intro w l k hw h1 hl hk hQ
    obtain ⟨⟨b1, b2⟩, ⟨b3, b4⟩, ⟨b5, b6⟩, ⟨b7, b8⟩, ⟨b9, b10⟩⟩ := id hb
    have m1 : 0 ≤ (w : Int) * ke := Int.mul_nonneg (by omega) (by omega)
    have m2 : (w : Int) * ke ≤ 8 * 999 := Int.mul_le_mul (by omega) (by omega) (by omega) (by omega)
    have m3 : 0 ≤ (w : Int) * dr := Int.mul_nonneg (by omega) (by omega)
    have m4 : -(w : Int) * dr = -((w : Int) * dr) := Int.neg_mul _ _
    have m5 : -(w : Int) * ke = -((w : Int) * ke) := Int.neg_mul _ _
    have m6 : - -(w : Int) * dr = (w : Int) * dr := by rw [Int.neg_neg]
    by_cases hlw : w ≤ p
    · obtain ⟨v, rfl⟩ : ∃ v, w = v + 1 := ⟨w - 1, by omega⟩
      have ck := List.all_eq_true.mp (List.all_eq_true.mp wc_k1 p (List.mem_range.mpr (by omega))) v (List.mem_range.mpr (by omega))
      rw [Bool.or_eq_true, Bool.not_eq_true', decide_eq_false_iff_not] at ck
      have ck := ck.resolve_left (fun h => h (by omega))
      refine (hp_go (ρ := [a, dr, ke, lo, wh, l, k]) (p := (79, wt_m, [], [], wt_S p (v + 1), [])) H (by decide) ck (hW.v a5 trivial ⟨hb.1, hb.2.1, hb.2.2.1, hb.2.2.2.1, hb.2.2.2.2, hl, hk, trivial⟩ aFs.nil aHh.nil) ?_).toK (by rfl) rfl wt_ES rfl
      intro T hT2 σ w2 k1 k2 k3 k4
      simp only [wc_T1, List.mem_cons, List.not_mem_nil, or_false] at hT2
      rcases hT2 with rfl | rfl | rfl | rfl
      · have e := hD.eq (ws := ws) (w := w2) ⟨k3, fun k hk => k4 k hk⟩
        subst e
        have hσ := hp_same k1 k2.1.1 rfl
        subst hσ
        have f1 := k2.2.1.ev (f := wc_2 (v + 1)) List.mem_cons_self
        simp only [wc_2, wt_lt, wt_ge, wt_x, wt_1, wt_l, List.map_cons, List.map_nil, List.cons_append, List.nil_append, ae_ev, ae_el, List.getD_cons_zero, List.getD_cons_succ] at f1
        have f2 := k2.2.1.ev (f := wt_lt (wt_x (v + 1))) (List.mem_cons_of_mem _ List.mem_cons_self)
        simp only [wt_lt, wt_lt, wt_ge, wt_x, wt_1, wt_l, List.map_cons, List.map_nil, List.cons_append, List.nil_append, ae_ev, ae_el, List.getD_cons_zero, List.getD_cons_succ] at f2
        have hc : wt_c a dr ke lo p (v + 1) = ae_ev [a, dr, ke, lo, wh, l, k] (wt_x (v + 1)) := by
          unfold wt_c
          simp only [wt_x, wt_1, wt_l, ae_ev, ae_el, List.getD_cons_zero, List.getD_cons_succ]
          rw [if_neg (by omega), if_neg (by omega)]
          omega
        have hlt : wt_c a dr ke lo p (v + 1) < l := by
          rw [hc]
          simp only [wt_x, wt_1, wt_l, ae_ev, ae_el, List.getD_cons_zero, List.getD_cons_succ]
          omega
        refine (ih ((v + 1) + 1) _ _ (by omega) (by omega) ?_ ?_ (fun z hz => hQ z ?_)).ofK wt_E rfl
        · simp only [wt_x, wt_1, wt_l, ae_ev, ae_el, List.getD_cons_zero, List.getD_cons_succ]
          unfold aI0 aI1
          omega
        · rw [ae_ev_k]
          unfold aI0 aI1
          omega
        · rw [hz, ae_ev_k, ← hc]
          exact (if_pos hlt).symm
      · have e := hD.eq (ws := ws) (w := w2) ⟨k3, fun k hk => k4 k hk⟩
        subst e
        have hσ := hp_same k1 k2.1.1 rfl
        subst hσ
        have f1 := k2.2.1.ev (f := wc_2 (v + 1)) List.mem_cons_self
        simp only [wc_2, wt_lt, wt_ge, wt_x, wt_1, wt_l, List.map_cons, List.map_nil, List.cons_append, List.nil_append, ae_ev, ae_el, List.getD_cons_zero, List.getD_cons_succ] at f1
        have f2 := k2.2.1.ev (f := wt_ge (wt_x (v + 1))) (List.mem_cons_of_mem _ List.mem_cons_self)
        simp only [wt_ge, wt_lt, wt_ge, wt_x, wt_1, wt_l, List.map_cons, List.map_nil, List.cons_append, List.nil_append, ae_ev, ae_el, List.getD_cons_zero, List.getD_cons_succ] at f2
        have hc : wt_c a dr ke lo p (v + 1) = ae_ev [a, dr, ke, lo, wh, l, k] (wt_x (v + 1)) := by
          unfold wt_c
          simp only [wt_x, wt_1, wt_l, ae_ev, ae_el, List.getD_cons_zero, List.getD_cons_succ]
          rw [if_neg (by omega), if_neg (by omega)]
          omega
        have hlt : ¬ wt_c a dr ke lo p (v + 1) < l := by
          rw [hc]
          simp only [wt_x, wt_1, wt_l, ae_ev, ae_el, List.getD_cons_zero, List.getD_cons_succ]
          omega
        refine (ih ((v + 1) + 1) l k (by omega) (by omega) hl hk (fun z hz => hQ z ?_)).ofK wt_ES rfl
        rw [hz]
        exact (if_neg hlt).symm
      · have e := hD.eq (ws := ws) (w := w2) ⟨k3, fun k hk => k4 k hk⟩
        subst e
        have hσ := hp_same k1 k2.1.1 rfl
        subst hσ
        have f1 := k2.2.1.ev (f := wc_0 (v + 1)) List.mem_cons_self
        simp only [wc_0, wt_lt, wt_ge, wt_x, wt_1, wt_l, List.map_cons, List.map_nil, List.cons_append, List.nil_append, ae_ev, ae_el, List.getD_cons_zero, List.getD_cons_succ] at f1
        have f2 := k2.2.1.ev (f := wt_lt (wt_1 (v + 1))) (List.mem_cons_of_mem _ List.mem_cons_self)
        simp only [wt_lt, wt_lt, wt_ge, wt_x, wt_1, wt_l, List.map_cons, List.map_nil, List.cons_append, List.nil_append, ae_ev, ae_el, List.getD_cons_zero, List.getD_cons_succ] at f2
        have hc : wt_c a dr ke lo p (v + 1) = ae_ev [a, dr, ke, lo, wh, l, k] (wt_1 (v + 1)) := by
          unfold wt_c
          simp only [wt_x, wt_1, wt_l, ae_ev, ae_el, List.getD_cons_zero, List.getD_cons_succ]
          rw [if_neg (by omega), if_pos (by omega)]
          omega
        have hlt : wt_c a dr ke lo p (v + 1) < l := by
          rw [hc]
          simp only [wt_x, wt_1, wt_l, ae_ev, ae_el, List.getD_cons_zero, List.getD_cons_succ]
          omega
        refine (ih ((v + 1) + 1) _ _ (by omega) (by omega) ?_ ?_ (fun z hz => hQ z ?_)).ofK wt_E rfl
        · simp only [wt_x, wt_1, wt_l, ae_ev, ae_el, List.getD_cons_zero, List.getD_cons_succ]
          unfold aI0 aI1
          omega
        · rw [ae_ev_k]
          unfold aI0 aI1
          omega
        · rw [hz, ae_ev_k, ← hc]
          exact (if_pos hlt).symm
      · have e := hD.eq (ws := ws) (w := w2) ⟨k3, fun k hk => k4 k hk⟩
        subst e
        have hσ := hp_same k1 k2.1.1 rfl
        subst hσ
        have f1 := k2.2.1.ev (f := wc_0 (v + 1)) List.mem_cons_self
        simp only [wc_0, wt_lt, wt_ge, wt_x, wt_1, wt_l, List.map_cons, List.map_nil, List.cons_append, List.nil_append, ae_ev, ae_el, List.getD_cons_zero, List.getD_cons_succ] at f1
        have f2 := k2.2.1.ev (f := wt_ge (wt_1 (v + 1))) (List.mem_cons_of_mem _ List.mem_cons_self)
        simp only [wt_ge, wt_lt, wt_ge, wt_x, wt_1, wt_l, List.map_cons, List.map_nil, List.cons_append, List.nil_append, ae_ev, ae_el, List.getD_cons_zero, List.getD_cons_succ] at f2
        have hc : wt_c a dr ke lo p (v + 1) = ae_ev [a, dr, ke, lo, wh, l, k] (wt_1 (v + 1)) := by
          unfold wt_c
          simp only [wt_x, wt_1, wt_l, ae_ev, ae_el, List.getD_cons_zero, List.getD_cons_succ]
          rw [if_neg (by omega), if_pos (by omega)]
          omega
        have hlt : ¬ wt_c a dr ke lo p (v + 1) < l := by
          rw [hc]
          simp only [wt_x, wt_1, wt_l, ae_ev, ae_el, List.getD_cons_zero, List.getD_cons_succ]
          omega
        refine (ih ((v + 1) + 1) l k (by omega) (by omega) hl hk (fun z hz => hQ z ?_)).ofK wt_ES rfl
        rw [hz]
        exact (if_neg hlt).symm
    · have e : w = p + 1 := by omega
      subst e
      refine (hp_go (ρ := [a, dr, ke, lo, wh, l, k]) (p := (79, wt_m, [], [], wt_S p (p + 1), [])) H (by decide) (List.all_eq_true.mp wc_k2 p (List.mem_range.mpr (by omega))) (hW.v a5 trivial ⟨hb.1, hb.2.1, hb.2.2.1, hb.2.2.2.1, hb.2.2.2.2, hl, hk, trivial⟩ aFs.nil aHh.nil) ?_).toK (by rfl) rfl wt_ES rfl
      intro T hT2 σ w2 k1 k2 k3 k4
      simp only [wc_T2, List.mem_cons, List.not_mem_nil, or_false] at hT2
      rcases hT2 with rfl | rfl
      · have e := hD.eq (ws := ws) (w := w2) ⟨k3, fun k hk => k4 k hk⟩
        subst e
        have hσ := hp_same k1 k2.1.1 rfl
        subst hσ
        have f2 := k2.2.1.ev (f := wt_lt (wt_l (p + 1))) List.mem_cons_self
        simp only [wt_lt, wt_lt, wt_ge, wt_x, wt_1, wt_l, List.map_cons, List.map_nil, List.cons_append, List.nil_append, ae_ev, ae_el, List.getD_cons_zero, List.getD_cons_succ] at f2
        have hc : wt_c a dr ke lo p (p + 1) = ae_ev [a, dr, ke, lo, wh, l, k] (wt_l (p + 1)) := by
          unfold wt_c
          simp only [wt_x, wt_1, wt_l, ae_ev, ae_el, List.getD_cons_zero, List.getD_cons_succ]
          rw [if_pos (by omega)]
          omega
        have hlt : wt_c a dr ke lo p (p + 1) < l := by
          rw [hc]
          simp only [wt_x, wt_1, wt_l, ae_ev, ae_el, List.getD_cons_zero, List.getD_cons_succ]
          omega
        refine (ih ((p + 1) + 1) _ _ (by omega) (by omega) ?_ ?_ (fun z hz => hQ z ?_)).ofK wt_E rfl
        · simp only [wt_x, wt_1, wt_l, ae_ev, ae_el, List.getD_cons_zero, List.getD_cons_succ]
          unfold aI0 aI1
          omega
        · rw [ae_ev_k]
          unfold aI0 aI1
          omega
        · rw [hz, ae_ev_k, ← hc]
          exact (if_pos hlt).symm
      · have e := hD.eq (ws := ws) (w := w2) ⟨k3, fun k hk => k4 k hk⟩
        subst e
        have hσ := hp_same k1 k2.1.1 rfl
        subst hσ
        have f2 := k2.2.1.ev (f := wt_ge (wt_l (p + 1))) List.mem_cons_self
        simp only [wt_ge, wt_lt, wt_ge, wt_x, wt_1, wt_l, List.map_cons, List.map_nil, List.cons_append, List.nil_append, ae_ev, ae_el, List.getD_cons_zero, List.getD_cons_succ] at f2
        have hc : wt_c a dr ke lo p (p + 1) = ae_ev [a, dr, ke, lo, wh, l, k] (wt_l (p + 1)) := by
          unfold wt_c
          simp only [wt_x, wt_1, wt_l, ae_ev, ae_el, List.getD_cons_zero, List.getD_cons_succ]
          rw [if_pos (by omega)]
          omega
        have hlt : ¬ wt_c a dr ke lo p (p + 1) < l := by
          rw [hc]
          simp only [wt_x, wt_1, wt_l, ae_ev, ae_el, List.getD_cons_zero, List.getD_cons_succ]
          omega
        refine (ih ((p + 1) + 1) l k (by omega) (by omega) hl hk (fun z hz => hQ z ?_)).ofK wt_ES rfl
        rw [hz]
        exact (if_neg hlt).symm
/-- the call -/
theorem wc_mj (hf : E.2.2.2.1.category = 1) (hT : ∀ σ : List Int, aTb E σ aTabs) (a5 : aWd E al aLay ws) (a6 : aRs aRules ws) (a7 : jJ0 ws) {p : Nat} (hp : p ≤ 6) (hb : wt_b a dr ke lo wh) {AS : List Value} (ha : gL E al [] [.inr (0, 0), .inl (ae_k a), .inl (ae_k dr), .inl (ae_k ke), .inl (ae_k (p : Int)), .inl (ae_k lo), .inl (ae_k wh)] AS) :
    MJ E 85 0 0 (mj_in0 136 AS ws) (fun v w => ∃ z : Int32, v = some (.int z) ∧ z.toInt = wt_F a dr ke lo wh p (p + 1) 1 a 0 ∧ w = ws) := by
  have H : hOk E al gV0 (fun _ => True) := hOkV hf hT (fun _ _ _ h => h)
  refine hG.in0 hf (d := 85) (as := _) ?_ ha
  refine (hp_go (ρ := [a, dr, ke, lo, wh]) (p := (0, wt_n, [], [], wc_lv0 p, [])) H (by decide) (List.all_eq_true.mp wc_k0 p (List.mem_range.mpr (by omega))) (hW.v a5 trivial ⟨hb.1, hb.2.1, hb.2.2.1, hb.2.2.2.1, hb.2.2.2.2, trivial⟩ aFs.nil aHh.nil) ?_).toK (by rfl) rfl ?_ rfl
  · intro T hT2 σ w2 k1 k2 k3 k4
    have hT2 := List.mem_singleton.mp hT2
    subst hT2
    have e := hD.eq (ws := ws) (w := w2) ⟨k3, fun k hk => k4 k hk⟩
    subst e
    have hσ := hp_same k1 k2.1.1 rfl
    subst hσ
    refine (wc_go hf hT a5 hp hb (p + 1) 1 a 0 (by omega) (by omega) (by have := hb.1; unfold aI0 aI1; omega) (by decide) (fun z hz => ⟨z, rfl, hz, rfl⟩)).ofK ?_ rfl
    exact wt_E5
  · simp only [lvE, avE, wc_lv0, ak_args, av_cat, List.map_cons, List.map_nil, ae_ev_k, wt_e0, wt_e1, wt_e2, wt_e3, wt_e4] <;> rfl
def wr_2 (w : Nat) : ae := ([(0, (-1)), (1, (w : Int))], 1)
def wr_0 (w : Nat) : ae := ([(0, 1), (1, -(w : Int))], 0)
def wr_T1 (p w : Nat) : List aCut := [wt_B 77 p (w + 1) [wr_2 w, wt_lt (wt_x w)] (wt_x w) (ae_k (w : Int)), wt_B 77 p (w + 1) [wr_2 w, wt_ge (wt_x w)] (ae_s 5) (ae_s 6), wt_B 77 p (w + 1) [wr_0 w, wt_lt (wt_1 w)] (wt_1 w) (ae_k (w : Int)), wt_B 77 p (w + 1) [wr_0 w, wt_ge (wt_1 w)] (ae_s 5) (ae_s 6)]
def wr_T2 (w : Nat) : List aCut := [wt_R 172 [wt_lt (wt_l w), wt_w0] (wt_l w), wt_R 172 [wt_lt (wt_l w), wt_w1] (ae_k (w : Int)), wt_R 172 [wt_ge (wt_l w), wt_w0] (ae_s 5), wt_R 172 [wt_ge (wt_l w), wt_w1] (ae_s 6)]
def wr_lv0 (p : Nat) : List (Nat × av) := [(0, .inr (0, 99)), (1, .inl (ae_s 0)), (2, .inl (ae_s 1)), (3, .inl (ae_s 2)), (4, .inl (ae_k (p : Int))), (5, .inl (ae_s 3)), (6, .inl (ae_s 4))]
def wr_T0 (p : Nat) : aCut := (77, wt_n, [], wt_lv p 1 (ae_s 0) (ae_s 1) (ae_s 2) (ae_s 3) (ae_s 4) (ae_s 0) (ae_k 0), [], [], [], mMU)
section
set_option maxRecDepth 100000
theorem wr_k0 : (List.range 7).all (fun p => hp_chk gV0 1000 85 280 (0, wt_n, [], [], wr_lv0 p, []) [] [wr_T0 p]) = true := by decide +kernel
theorem wr_k1 : (List.range 7).all (fun p => (List.range 6).all (fun w => !decide (w < p) || hp_chk gV0 1000 85 280 (77, wt_m, [], [], wt_S p (w + 1), []) [] (wr_T1 p (w + 1)))) = true := by decide +kernel
theorem wr_k2 : (List.range 7).all (fun p => hp_chk gV0 1000 85 280 (77, wt_m, [], [], wt_S p (p + 1), []) [] (wr_T2 (p + 1))) = true := by decide +kernel
end
/-- from the head of the loop -/
theorem wr_go (hf : E.2.2.2.1.category = 1) (hT : ∀ σ : List Int, aTb E σ aTabs) (a5 : aWd E al aLay ws) {p : Nat} (hp : p ≤ 6) (hb : wt_b a dr ke lo wh) : ∀ (n w : Nat) (l k : Int), w + n = p + 2 → 1 ≤ w → w ≤ p + 1 → (aI0 ≤ l ∧ l ≤ aI1) → (aI0 ≤ k ∧ k ≤ aI1) → (∀ z : Int32, z.toInt = wt_F a dr ke lo wh p n w l k → Q (some (.int z)) ws) → hG E al 85 280 77 (wt_K p w a dr ke lo wh l k) [] [] ws Q := by
  have H : hOk E al gV0 (fun _ => True) := hOkV hf hT (fun _ _ _ h => h)
  intro n
  induction n with
  | zero =>
    intro w l k hw h1 hwp hl hk hQ
    omega
  | succ n ih =>
    intro w l k hw h1 hwp hl hk hQ
    obtain ⟨⟨b1, b2⟩, ⟨b3, b4⟩, ⟨b5, b6⟩, ⟨b7, b8⟩, ⟨b9, b10⟩⟩ := id hb
    have m1 : 0 ≤ (w : Int) * ke := Int.mul_nonneg (by omega) (by omega)
    have m2 : (w : Int) * ke ≤ 8 * 999 := Int.mul_le_mul (by omega) (by omega) (by omega) (by omega)
    have m3 : 0 ≤ (w : Int) * dr := Int.mul_nonneg (by omega) (by omega)
    have m4 : -(w : Int) * dr = -((w : Int) * dr) := Int.neg_mul _ _
    have m5 : -(w : Int) * ke = -((w : Int) * ke) := Int.neg_mul _ _
    have m6 : - -(w : Int) * dr = (w : Int) * dr := by rw [Int.neg_neg]
    by_cases hlw : w ≤ p
    · obtain ⟨v, rfl⟩ : ∃ v, w = v + 1 := ⟨w - 1, by omega⟩
      have ck := List.all_eq_true.mp (List.all_eq_true.mp wr_k1 p (List.mem_range.mpr (by omega))) v (List.mem_range.mpr (by omega))
      rw [Bool.or_eq_true, Bool.not_eq_true', decide_eq_false_iff_not] at ck
      have ck := ck.resolve_left (fun h => h (by omega))
      refine (hp_go (ρ := [a, dr, ke, lo, wh, l, k]) (p := (77, wt_m, [], [], wt_S p (v + 1), [])) H (by decide) ck (hW.v a5 trivial ⟨hb.1, hb.2.1, hb.2.2.1, hb.2.2.2.1, hb.2.2.2.2, hl, hk, trivial⟩ aFs.nil aHh.nil) ?_).toK (by rfl) rfl wt_ES rfl
      intro T hT2 σ w2 k1 k2 k3 k4
      simp only [wr_T1, List.mem_cons, List.not_mem_nil, or_false] at hT2
      rcases hT2 with rfl | rfl | rfl | rfl
      · have e := hD.eq (ws := ws) (w := w2) ⟨k3, fun k hk => k4 k hk⟩
        subst e
        have hσ := hp_same k1 k2.1.1 rfl
        subst hσ
        have f1 := k2.2.1.ev (f := wr_2 (v + 1)) List.mem_cons_self
        simp only [wr_2, wt_lt, wt_ge, wt_x, wt_1, wt_l, List.map_cons, List.map_nil, List.cons_append, List.nil_append, ae_ev, ae_el, List.getD_cons_zero, List.getD_cons_succ] at f1
        have f2 := k2.2.1.ev (f := wt_lt (wt_x (v + 1))) (List.mem_cons_of_mem _ List.mem_cons_self)
        simp only [wt_lt, wt_lt, wt_ge, wt_x, wt_1, wt_l, List.map_cons, List.map_nil, List.cons_append, List.nil_append, ae_ev, ae_el, List.getD_cons_zero, List.getD_cons_succ] at f2
        have hc : wt_c a dr ke lo p (v + 1) = ae_ev [a, dr, ke, lo, wh, l, k] (wt_x (v + 1)) := by
          unfold wt_c
          simp only [wt_x, wt_1, wt_l, ae_ev, ae_el, List.getD_cons_zero, List.getD_cons_succ]
          rw [if_neg (by omega)]
          split <;> omega
        have hlt : wt_c a dr ke lo p (v + 1) < l := by
          rw [hc]
          simp only [wt_x, wt_1, wt_l, ae_ev, ae_el, List.getD_cons_zero, List.getD_cons_succ]
          omega
        refine (ih ((v + 1) + 1) _ _ (by omega) (by omega) (by omega) ?_ ?_ (fun z hz => hQ z ?_)).ofK wt_E rfl
        · simp only [wt_x, wt_1, wt_l, ae_ev, ae_el, List.getD_cons_zero, List.getD_cons_succ]
          unfold aI0 aI1
          omega
        · rw [ae_ev_k]
          unfold aI0 aI1
          omega
        · rw [hz, ae_ev_k, ← hc]
          exact (if_pos hlt).symm
      · have e := hD.eq (ws := ws) (w := w2) ⟨k3, fun k hk => k4 k hk⟩
        subst e
        have hσ := hp_same k1 k2.1.1 rfl
        subst hσ
        have f1 := k2.2.1.ev (f := wr_2 (v + 1)) List.mem_cons_self
        simp only [wr_2, wt_lt, wt_ge, wt_x, wt_1, wt_l, List.map_cons, List.map_nil, List.cons_append, List.nil_append, ae_ev, ae_el, List.getD_cons_zero, List.getD_cons_succ] at f1
        have f2 := k2.2.1.ev (f := wt_ge (wt_x (v + 1))) (List.mem_cons_of_mem _ List.mem_cons_self)
        simp only [wt_ge, wt_lt, wt_ge, wt_x, wt_1, wt_l, List.map_cons, List.map_nil, List.cons_append, List.nil_append, ae_ev, ae_el, List.getD_cons_zero, List.getD_cons_succ] at f2
        have hc : wt_c a dr ke lo p (v + 1) = ae_ev [a, dr, ke, lo, wh, l, k] (wt_x (v + 1)) := by
          unfold wt_c
          simp only [wt_x, wt_1, wt_l, ae_ev, ae_el, List.getD_cons_zero, List.getD_cons_succ]
          rw [if_neg (by omega)]
          split <;> omega
        have hlt : ¬ wt_c a dr ke lo p (v + 1) < l := by
          rw [hc]
          simp only [wt_x, wt_1, wt_l, ae_ev, ae_el, List.getD_cons_zero, List.getD_cons_succ]
          omega
        refine (ih ((v + 1) + 1) l k (by omega) (by omega) (by omega) hl hk (fun z hz => hQ z ?_)).ofK wt_ES rfl
        rw [hz]
        exact (if_neg hlt).symm
      · have e := hD.eq (ws := ws) (w := w2) ⟨k3, fun k hk => k4 k hk⟩
        subst e
        have hσ := hp_same k1 k2.1.1 rfl
        subst hσ
        have f1 := k2.2.1.ev (f := wr_0 (v + 1)) List.mem_cons_self
        simp only [wr_0, wt_lt, wt_ge, wt_x, wt_1, wt_l, List.map_cons, List.map_nil, List.cons_append, List.nil_append, ae_ev, ae_el, List.getD_cons_zero, List.getD_cons_succ] at f1
        have f2 := k2.2.1.ev (f := wt_lt (wt_1 (v + 1))) (List.mem_cons_of_mem _ List.mem_cons_self)
        simp only [wt_lt, wt_lt, wt_ge, wt_x, wt_1, wt_l, List.map_cons, List.map_nil, List.cons_append, List.nil_append, ae_ev, ae_el, List.getD_cons_zero, List.getD_cons_succ] at f2
        have hc : wt_c a dr ke lo p (v + 1) = ae_ev [a, dr, ke, lo, wh, l, k] (wt_1 (v + 1)) := by
          unfold wt_c
          simp only [wt_x, wt_1, wt_l, ae_ev, ae_el, List.getD_cons_zero, List.getD_cons_succ]
          rw [if_neg (by omega), if_pos (by omega)]
          omega
        have hlt : wt_c a dr ke lo p (v + 1) < l := by
          rw [hc]
          simp only [wt_x, wt_1, wt_l, ae_ev, ae_el, List.getD_cons_zero, List.getD_cons_succ]
          omega
        refine (ih ((v + 1) + 1) _ _ (by omega) (by omega) (by omega) ?_ ?_ (fun z hz => hQ z ?_)).ofK wt_E rfl
        · simp only [wt_x, wt_1, wt_l, ae_ev, ae_el, List.getD_cons_zero, List.getD_cons_succ]
          unfold aI0 aI1
          omega
        · rw [ae_ev_k]
          unfold aI0 aI1
          omega
        · rw [hz, ae_ev_k, ← hc]
          exact (if_pos hlt).symm
      · have e := hD.eq (ws := ws) (w := w2) ⟨k3, fun k hk => k4 k hk⟩
        subst e
        have hσ := hp_same k1 k2.1.1 rfl
        subst hσ
        have f1 := k2.2.1.ev (f := wr_0 (v + 1)) List.mem_cons_self
        simp only [wr_0, wt_lt, wt_ge, wt_x, wt_1, wt_l, List.map_cons, List.map_nil, List.cons_append, List.nil_append, ae_ev, ae_el, List.getD_cons_zero, List.getD_cons_succ] at f1
        have f2 := k2.2.1.ev (f := wt_ge (wt_1 (v + 1))) (List.mem_cons_of_mem _ List.mem_cons_self)
        simp only [wt_ge, wt_lt, wt_ge, wt_x, wt_1, wt_l, List.map_cons, List.map_nil, List.cons_append, List.nil_append, ae_ev, ae_el, List.getD_cons_zero, List.getD_cons_succ] at f2
        have hc : wt_c a dr ke lo p (v + 1) = ae_ev [a, dr, ke, lo, wh, l, k] (wt_1 (v + 1)) := by
          unfold wt_c
          simp only [wt_x, wt_1, wt_l, ae_ev, ae_el, List.getD_cons_zero, List.getD_cons_succ]
          rw [if_neg (by omega), if_pos (by omega)]
          omega
        have hlt : ¬ wt_c a dr ke lo p (v + 1) < l := by
          rw [hc]
          simp only [wt_x, wt_1, wt_l, ae_ev, ae_el, List.getD_cons_zero, List.getD_cons_succ]
          omega
        refine (ih ((v + 1) + 1) l k (by omega) (by omega) (by omega) hl hk (fun z hz => hQ z ?_)).ofK wt_ES rfl
        rw [hz]
        exact (if_neg hlt).symm
    · have e : w = p + 1 := by omega
      subst e
      refine (hp_go (ρ := [a, dr, ke, lo, wh, l, k]) (p := (77, wt_m, [], [], wt_S p (p + 1), [])) H (by decide) (List.all_eq_true.mp wr_k2 p (List.mem_range.mpr (by omega))) (hW.v a5 trivial ⟨hb.1, hb.2.1, hb.2.2.1, hb.2.2.2.1, hb.2.2.2.2, hl, hk, trivial⟩ aFs.nil aHh.nil) ?_).toK (by rfl) rfl wt_ES rfl
      intro T hT2 σ w2 k1 k2 k3 k4
      simp only [wr_T2, List.mem_cons, List.not_mem_nil, or_false] at hT2
      rcases hT2 with rfl | rfl | rfl | rfl
      · have e := hD.eq (ws := ws) (w := w2) ⟨k3, fun k hk => k4 k hk⟩
        subst e
        have hσ := hp_same k1 k2.1.1 rfl
        subst hσ
        have f1 := k2.2.1.ev (f := wt_lt (wt_l (p + 1))) List.mem_cons_self
        simp only [wt_lt, wt_lt, wt_ge, wt_x, wt_1, wt_l, List.map_cons, List.map_nil, List.cons_append, List.nil_append, ae_ev, ae_el, List.getD_cons_zero, List.getD_cons_succ] at f1
        have f2 := k2.2.1.ev (f := wt_w0) (List.mem_cons_of_mem _ List.mem_cons_self)
        simp only [wt_w0, wt_lt, wt_ge, wt_x, wt_1, wt_l, List.map_cons, List.map_nil, List.cons_append, List.nil_append, ae_ev, ae_el, List.getD_cons_zero, List.getD_cons_succ] at f2
        have hc : wt_c a dr ke lo p (p + 1) = ae_ev [a, dr, ke, lo, wh, l, k] (wt_l (p + 1)) := by
          unfold wt_c
          simp only [wt_x, wt_1, wt_l, ae_ev, ae_el, List.getD_cons_zero, List.getD_cons_succ]
          rw [if_pos (by omega)]
          omega
        have hn : n = 0 := by omega
        subst hn
        have hlt : wt_c a dr ke lo p (p + 1) < l := by
          rw [hc]
          simp only [wt_x, wt_1, wt_l, ae_ev, ae_el, List.getD_cons_zero, List.getD_cons_succ]
          omega
        exact hp_retI (pc := 172) (ty := .int) (x := ae_ev [a, dr, ke, lo, wh, l, k] (wt_l (p + 1))) (by decide) (by decide +kernel) (by decide +kernel) (aV.mk rfl) (fun n hn => rfl) (fun z hz => hQ z (by rw [hz]; show _ = wt_F a dr ke lo wh p (0 + 1) (p + 1) l k; simp only [wt_F]; rw [if_pos hlt, if_pos (by omega), hc]))
      · have e := hD.eq (ws := ws) (w := w2) ⟨k3, fun k hk => k4 k hk⟩
        subst e
        have hσ := hp_same k1 k2.1.1 rfl
        subst hσ
        have f1 := k2.2.1.ev (f := wt_lt (wt_l (p + 1))) List.mem_cons_self
        simp only [wt_lt, wt_lt, wt_ge, wt_x, wt_1, wt_l, List.map_cons, List.map_nil, List.cons_append, List.nil_append, ae_ev, ae_el, List.getD_cons_zero, List.getD_cons_succ] at f1
        have f2 := k2.2.1.ev (f := wt_w1) (List.mem_cons_of_mem _ List.mem_cons_self)
        simp only [wt_w1, wt_lt, wt_ge, wt_x, wt_1, wt_l, List.map_cons, List.map_nil, List.cons_append, List.nil_append, ae_ev, ae_el, List.getD_cons_zero, List.getD_cons_succ] at f2
        have hc : wt_c a dr ke lo p (p + 1) = ae_ev [a, dr, ke, lo, wh, l, k] (wt_l (p + 1)) := by
          unfold wt_c
          simp only [wt_x, wt_1, wt_l, ae_ev, ae_el, List.getD_cons_zero, List.getD_cons_succ]
          rw [if_pos (by omega)]
          omega
        have hn : n = 0 := by omega
        subst hn
        have hlt : wt_c a dr ke lo p (p + 1) < l := by
          rw [hc]
          simp only [wt_x, wt_1, wt_l, ae_ev, ae_el, List.getD_cons_zero, List.getD_cons_succ]
          omega
        exact hp_retI (pc := 172) (ty := .int) (x := ((p + 1 : Nat) : Int)) (by decide) (by decide +kernel) (by decide +kernel) (aV.k _) (fun n hn => rfl) (fun z hz => hQ z (by rw [hz]; show _ = wt_F a dr ke lo wh p (0 + 1) (p + 1) l k; simp only [wt_F]; rw [if_pos hlt, if_neg (by omega)]))
      · have e := hD.eq (ws := ws) (w := w2) ⟨k3, fun k hk => k4 k hk⟩
        subst e
        have hσ := hp_same k1 k2.1.1 rfl
        subst hσ
        have f1 := k2.2.1.ev (f := wt_ge (wt_l (p + 1))) List.mem_cons_self
        simp only [wt_ge, wt_lt, wt_ge, wt_x, wt_1, wt_l, List.map_cons, List.map_nil, List.cons_append, List.nil_append, ae_ev, ae_el, List.getD_cons_zero, List.getD_cons_succ] at f1
        have f2 := k2.2.1.ev (f := wt_w0) (List.mem_cons_of_mem _ List.mem_cons_self)
        simp only [wt_w0, wt_lt, wt_ge, wt_x, wt_1, wt_l, List.map_cons, List.map_nil, List.cons_append, List.nil_append, ae_ev, ae_el, List.getD_cons_zero, List.getD_cons_succ] at f2
        have hc : wt_c a dr ke lo p (p + 1) = ae_ev [a, dr, ke, lo, wh, l, k] (wt_l (p + 1)) := by
          unfold wt_c
          simp only [wt_x, wt_1, wt_l, ae_ev, ae_el, List.getD_cons_zero, List.getD_cons_succ]
          rw [if_pos (by omega)]
          omega
        have hn : n = 0 := by omega
        subst hn
        have hlt : ¬ wt_c a dr ke lo p (p + 1) < l := by
          rw [hc]
          simp only [wt_x, wt_1, wt_l, ae_ev, ae_el, List.getD_cons_zero, List.getD_cons_succ]
          omega
        exact hp_retI (pc := 172) (ty := .int) (x := l) (by decide) (by decide +kernel) (by decide +kernel) (aV.s rfl) (fun n hn => rfl) (fun z hz => hQ z (by rw [hz]; show _ = wt_F a dr ke lo wh p (0 + 1) (p + 1) l k; simp only [wt_F]; rw [if_neg hlt, if_pos (by omega)]))
      · have e := hD.eq (ws := ws) (w := w2) ⟨k3, fun k hk => k4 k hk⟩
        subst e
        have hσ := hp_same k1 k2.1.1 rfl
        subst hσ
        have f1 := k2.2.1.ev (f := wt_ge (wt_l (p + 1))) List.mem_cons_self
        simp only [wt_ge, wt_lt, wt_ge, wt_x, wt_1, wt_l, List.map_cons, List.map_nil, List.cons_append, List.nil_append, ae_ev, ae_el, List.getD_cons_zero, List.getD_cons_succ] at f1
        have f2 := k2.2.1.ev (f := wt_w1) (List.mem_cons_of_mem _ List.mem_cons_self)
        simp only [wt_w1, wt_lt, wt_ge, wt_x, wt_1, wt_l, List.map_cons, List.map_nil, List.cons_append, List.nil_append, ae_ev, ae_el, List.getD_cons_zero, List.getD_cons_succ] at f2
        have hc : wt_c a dr ke lo p (p + 1) = ae_ev [a, dr, ke, lo, wh, l, k] (wt_l (p + 1)) := by
          unfold wt_c
          simp only [wt_x, wt_1, wt_l, ae_ev, ae_el, List.getD_cons_zero, List.getD_cons_succ]
          rw [if_pos (by omega)]
          omega
        have hn : n = 0 := by omega
        subst hn
        have hlt : ¬ wt_c a dr ke lo p (p + 1) < l := by
          rw [hc]
          simp only [wt_x, wt_1, wt_l, ae_ev, ae_el, List.getD_cons_zero, List.getD_cons_succ]
          omega
        exact hp_retI (pc := 172) (ty := .int) (x := k) (by decide) (by decide +kernel) (by decide +kernel) (aV.s rfl) (fun n hn => rfl) (fun z hz => hQ z (by rw [hz]; show _ = wt_F a dr ke lo wh p (0 + 1) (p + 1) l k; simp only [wt_F]; rw [if_neg hlt, if_neg (by omega)]))
/-- the call -/
theorem wr_mj (hf : E.2.2.2.1.category = 1) (hT : ∀ σ : List Int, aTb E σ aTabs) (a5 : aWd E al aLay ws) (a6 : aRs aRules ws) (a7 : jJ0 ws) {p : Nat} (hp : p ≤ 6) (hb : wt_b a dr ke lo wh) {AS : List Value} (ha : gL E al [] [.inr (0, 99), .inl (ae_k a), .inl (ae_k dr), .inl (ae_k ke), .inl (ae_k (p : Int)), .inl (ae_k lo), .inl (ae_k wh)] AS) :
    MJ E 85 0 0 (mj_in0 280 AS ws) (fun v w => ∃ z : Int32, v = some (.int z) ∧ z.toInt = wt_F a dr ke lo wh p (p + 1) 1 a 0 ∧ w = ws) := by
  have H : hOk E al gV0 (fun _ => True) := hOkV hf hT (fun _ _ _ h => h)
  refine hG.in0 hf (d := 85) (as := _) ?_ ha
  refine (hp_go (ρ := [a, dr, ke, lo, wh]) (p := (0, wt_n, [], [], wr_lv0 p, [])) H (by decide) (List.all_eq_true.mp wr_k0 p (List.mem_range.mpr (by omega))) (hW.v a5 trivial ⟨hb.1, hb.2.1, hb.2.2.1, hb.2.2.2.1, hb.2.2.2.2, trivial⟩ aFs.nil aHh.nil) ?_).toK (by rfl) rfl ?_ rfl
  · intro T hT2 σ w2 k1 k2 k3 k4
    have hT2 := List.mem_singleton.mp hT2
    subst hT2
    have e := hD.eq (ws := ws) (w := w2) ⟨k3, fun k hk => k4 k hk⟩
    subst e
    have hσ := hp_same k1 k2.1.1 rfl
    subst hσ
    refine (wr_go hf hT a5 hp hb (p + 1) 1 a 0 (by omega) (by omega) (by omega) (by have := hb.1; unfold aI0 aI1; omega) (by decide) (fun z hz => ⟨z, rfl, hz, rfl⟩)).ofK ?_ rfl
    exact wt_E5
  · simp only [lvE, avE, wr_lv0, ak_args, av_cat, List.map_cons, List.map_nil, ae_ev_k, wt_e0, wt_e1, wt_e2, wt_e3, wt_e4] <;> rfl
end WT

/-- what the call answers -/
def wt_i (a1 a2 a3 a4 a5 a6 : Int) : Prop := 1 ≤ a1 ∧ a1 ≤ 9999 ∧ 0 ≤ a2 ∧ a2 ≤ 999 ∧ 0 ≤ a3 ∧ a3 ≤ 999 ∧ 0 ≤ a4 ∧ a4 ≤ 6 ∧ 0 ≤ a5 ∧ a5 ≤ 9999 ∧ 0 ≤ a6 ∧ a6 ≤ 1
theorem wt_bad : ∀ t ∈ xTs, t.2.2.1 = ae_k (-1) := by decide +kernel
theorem wt_j0 : jLv = [] := rfl
/-- the call is refused -/
theorem wt_no {ck : xT → Bool} (hf : E.2.2.2.1.category = 1) (hT : ∀ σ : List Int, aTb E σ aTabs) (a5 : aWd E al aLay ws) (a6 : aRs aRules ws) (a7 : jJ0 ws) {y self : Nat} {cells : List (Nat × Nat)} {dep : Nat} (hcl : cells = []) (hy : y < mj_lawNo) (hd : dep ≤ 85) (hck : ∀ t ∈ xTs, ∃ cuts, ak_inst (aG00 []) 100000 (xC y self cells [] dep t cuts) = true)
    {x1 x2 x3 x4 x5 x6 : Int} (hx : (aI0 ≤ x1 ∧ x1 ≤ aI1) ∧ (aI0 ≤ x2 ∧ x2 ≤ aI1) ∧ (aI0 ≤ x3 ∧ x3 ≤ aI1) ∧ (aI0 ≤ x4 ∧ x4 ≤ aI1) ∧ (aI0 ≤ x5 ∧ x5 ≤ aI1) ∧ (aI0 ≤ x6 ∧ x6 ≤ aI1)) (hn : ¬ (1 ≤ x1 ∧ x1 ≤ 9999 ∧ 0 ≤ x2 ∧ x2 ≤ 999 ∧ 0 ≤ x3 ∧ x3 ≤ 999 ∧ 0 ≤ x4 ∧ x4 ≤ 6 ∧ 0 ≤ x5 ∧ x5 ≤ 9999 ∧ 0 ≤ x6 ∧ x6 ≤ 1))
    {AS : List Value} (ha : gL E al ρ (.inr (0, self) :: [ae_k x1, ae_k x2, ae_k x3, ae_k x4, ae_k x5, ae_k x6].map .inl) AS) :
    MJ E 85 0 0 (mj_in0 y AS ws) (fun v w => ∃ z : Int32, v = some (.int z) ∧ z.toInt = -1 ∧ aWd E al aLay w ∧ aRs aRules w ∧ jJ0 w ∧ hD [] ws w) := by
  have he : aEv ([x1, x2, x3, x4, x5, x6] ++ []) xE := hEv.ok (σ := [x1, x2, x3, x4, x5, x6]) (env := [aF, aF, aF, aF, aF, aF]) ⟨hx.1, hx.2.1, hx.2.2.1, hx.2.2.2.1, hx.2.2.2.2.1, hx.2.2.2.2.2, trivial⟩
  obtain ⟨t, ht, hfs, hargs⟩ := x_cov (S := []) x1 x2 x3 x4 x5 x6 hn (fun k b hb => he.ev hb)
  obtain ⟨cuts, kc⟩ := hck t ht
  have kt := xk t ht
  unfold xOk at kt
  simp only [Bool.and_eq_true, decide_eq_true_eq] at kt
  obtain ⟨⟨⟨⟨-, ks⟩, ka⟩, kl⟩, kb⟩ := kt
  have hfs : aFs ([x1, x2, x3, x4, x5, x6] ++ []) t.1 := aFs.mk ks hfs
  have ha2 : gL E al ([x1, x2, x3, x4, x5, x6] ++ []) (.inr (0, self) :: t.2.1.map .inl) AS := by
    obtain ⟨v, u, rfl, h1, h2⟩ := ha
    refine ⟨v, u, rfl, h1, gL_re ?_ ka h2⟩
    rw [hargs]
    simp [ae_ev_k]
  subst hcl
  refine (x_mj hf hT (fun c hc => by cases hc) hy kc hd a5 a6 a7 he hfs (by rfl) (fun k c hc => by simp at hc) ha2).weaken (Nat.le_refl _) (Nat.le_refl _) (Nat.le_refl _) (fun v w h => ?_)
  obtain ⟨z, h1, h2, h3, h4, h5, h6, -⟩ := h
  refine ⟨z, h1, ?_, h3, h4, h5, h6⟩
  rw [h2, wt_bad t ht, ae_ev_k]
def wt_A (x1 x2 x3 x5 x6 : Int) (p : Nat) : Int := wt_F x1 x2 x3 x5 x6 p (p + 1) 1 x1 0
set_option maxRecDepth 100000 in
/-- both sides are called, their answers compared -/
theorem la_xH (hf : E.2.2.2.1.category = 1) (hT : ∀ σ : List Int, aTb E σ aTabs) (hL : L ≤ 3584) (hE : (E.2.2.1 2).2.1 = L) (H1 : hOkL E al laG1 (fun _ => True) [(L : Int), i] 2) (h : laI E al L i w) (hj : jJ w) (h7 : i + 7 ≤ L)
    (hq : ∀ w2, laI E al L i w2 → jJ w2 → hG E al 86 320 2217 laLv [] [(L : Int), i] w2 Q) : hG E al 86 320 1624 laLv [] [(L : Int), i] w Q := by
  have lg := lp_g
  simp only [Bool.and_eq_true] at lg
  obtain ⟨⟨⟨⟨⟨⟨⟨⟨⟨⟨⟨q0, q1⟩, q2⟩, q3⟩, q4⟩, q5⟩, q6⟩, q7⟩, q8⟩, q9⟩, q10⟩, q11⟩ := lg
  have hx : ∀ k : Int, aI0 ≤ (laX E (i + k)).toInt ∧ (laX E (i + k)).toInt ≤ aI1 := fun k => ⟨i32_lo _, i32_hi _⟩
  have re : ∀ {AS : List Value} {self : Nat}, gL E al [(L : Int), i] (.inr (0, self) :: [ae_k (laX E (i + 1)).toInt, ae_k (laX E (i + 2)).toInt, ae_k (laX E (i + 3)).toInt, ae_k (laX E (i + 4)).toInt, ae_k (laX E (i + 5)).toInt, ae_k (laX E (i + 6)).toInt].map .inl) AS → gL E al [] (.inr (0, self) :: [ae_k (laX E (i + 1)).toInt, ae_k (laX E (i + 2)).toInt, ae_k (laX E (i + 3)).toInt, ae_k (laX E (i + 4)).toInt, ae_k (laX E (i + 5)).toInt, ae_k (laX E (i + 6)).toInt].map .inl) AS := by
    intro AS self ha
    obtain ⟨v, u, rfl, h1, h2⟩ := ha
    exact ⟨v, u, rfl, h1, gL_re (by simp [ae_ev_k]) (by rfl) h2⟩
  -- both answer the same
  have key : ∃ F : Int, (∀ (ws : va_W) (AS : List Value), aWd E al aLay ws → aRs aRules ws → jJ0 ws → gL E al [(L : Int), i] [.inr (0, 0), .inl (ae_k (laX E (i + 1)).toInt), .inl (ae_k (laX E (i + 2)).toInt), .inl (ae_k (laX E (i + 3)).toInt), .inl (ae_k (laX E (i + 4)).toInt), .inl (ae_k (laX E (i + 5)).toInt), .inl (ae_k (laX E (i + 6)).toInt)] AS → MJ E 85 0 0 (mj_in0 136 AS ws) (fun v w => ∃ z : Int32, v = some (.int z) ∧ z.toInt = F ∧ aWd E al aLay w ∧ aRs aRules w ∧ jJ0 w ∧ hD [] ws w)) ∧
      (∀ (ws : va_W) (AS : List Value), aWd E al aLay ws → aRs aRules ws → jJ0 ws → gL E al [(L : Int), i] [.inr (0, 99), .inl (ae_k (laX E (i + 1)).toInt), .inl (ae_k (laX E (i + 2)).toInt), .inl (ae_k (laX E (i + 3)).toInt), .inl (ae_k (laX E (i + 4)).toInt), .inl (ae_k (laX E (i + 5)).toInt), .inl (ae_k (laX E (i + 6)).toInt)] AS → MJ E 85 0 0 (mj_in0 280 AS ws) (fun v w => ∃ z : Int32, v = some (.int z) ∧ z.toInt = F ∧ aWd E al aLay w ∧ aRs aRules w ∧ jJ0 w ∧ hD [] ws w)) := by
    by_cases hin : 1 ≤ (laX E (i + 1)).toInt ∧ (laX E (i + 1)).toInt ≤ 9999 ∧ 0 ≤ (laX E (i + 2)).toInt ∧ (laX E (i + 2)).toInt ≤ 999 ∧ 0 ≤ (laX E (i + 3)).toInt ∧ (laX E (i + 3)).toInt ≤ 999 ∧ 0 ≤ (laX E (i + 4)).toInt ∧ (laX E (i + 4)).toInt ≤ 6 ∧ 0 ≤ (laX E (i + 5)).toInt ∧ (laX E (i + 5)).toInt ≤ 9999 ∧ 0 ≤ (laX E (i + 6)).toInt ∧ (laX E (i + 6)).toInt ≤ 1
    · obtain ⟨p, hp⟩ : ∃ p : Nat, (laX E (i + 4)).toInt = (p : Int) := ⟨(laX E (i + 4)).toInt.toNat, by omega⟩
      have hb : wt_b (laX E (i + 1)).toInt (laX E (i + 2)).toInt (laX E (i + 3)).toInt (laX E (i + 5)).toInt (laX E (i + 6)).toInt := by unfold wt_b; omega
      rw [hp] at re ⊢
      refine ⟨wt_A (laX E (i + 1)).toInt (laX E (i + 2)).toInt (laX E (i + 3)).toInt (laX E (i + 5)).toInt (laX E (i + 6)).toInt p, fun ws AS c5 c6 c7 ha => ?_, fun ws AS c5 c6 c7 ha => ?_⟩
      · refine (wc_mj hf hT c5 c6 c7 (by omega) hb (re ha)).weaken (Nat.le_refl _) (Nat.le_refl _) (Nat.le_refl _) (fun v w h => ?_)
        obtain ⟨z, h1, h2, rfl⟩ := h
        exact ⟨z, h1, h2, c5, c6, c7, hD.refl⟩
      · refine (wr_mj hf hT c5 c6 c7 (by omega) hb (re ha)).weaken (Nat.le_refl _) (Nat.le_refl _) (Nat.le_refl _) (fun v w h => ?_)
        obtain ⟨z, h1, h2, rfl⟩ := h
        exact ⟨z, h1, h2, c5, c6, c7, hD.refl⟩
    · have hck : ∀ t ∈ xTs, ak_inst (aG00 []) 100000 (xC 136 0 (jCc 0) xMc 2 t t.2.2.2.2.1) = true ∧ ak_inst (aG00 []) 100000 (xC 280 99 jCr xMr 2 t t.2.2.2.2.2) = true := by
        intro t ht
        have kt := xk t ht
        unfold xOk at kt
        simp only [Bool.and_eq_true, decide_eq_true_eq] at kt
        exact ⟨kt.1.1.1.1.1, kt.1.1.1.1.2⟩
      refine ⟨-1, fun ws AS c5 c6 c7 ha => ?_, fun ws AS c5 c6 c7 ha => ?_⟩
      · exact wt_no (ck := fun _ => true) hf hT c5 c6 c7 (y := 136) (self := 0) (cells := jCc 0) (dep := 2) rfl (by decide) (by decide) (fun t ht => ⟨_, (hck t ht).1⟩) ⟨hx 1, hx 2, hx 3, hx 4, hx 5, hx 6⟩ hin ha
      · exact wt_no (ck := fun _ => true) hf hT c5 c6 c7 (y := 280) (self := 99) (cells := jCr) (dep := 2) rfl (by decide) (by decide) (fun t ht => ⟨_, (hck t ht).2⟩) ⟨hx 1, hx 2, hx 3, hx 4, hx 5, hx 6⟩ hin ha
  obtain ⟨F, key1, key2⟩ := key
  refine la_al1 lx_1 ?_
  refine la_arg q0 (by decide) hL hE ⟨h.1.1, h7⟩ ?_
  refine la_arg q1 (by decide) hL hE ⟨h.1.1, h7⟩ ?_
  refine la_arg q2 (by decide) hL hE ⟨h.1.1, h7⟩ ?_
  refine la_arg q3 (by decide) hL hE ⟨h.1.1, h7⟩ ?_
  refine la_arg q4 (by decide) hL hE ⟨h.1.1, h7⟩ ?_
  refine la_argb q5 (by decide) hL hE ⟨h.1.1, h7⟩ ?_
  refine law_callV (d := 85) (y2 := 136) (as := [.inr (0, 0), .inl (ae_k (laX E (i + 1)).toInt), .inl (ae_k (laX E (i + 2)).toInt), .inl (ae_k (laX E (i + 3)).toInt), .inl (ae_k (laX E (i + 4)).toInt), .inl (ae_k (laX E (i + 5)).toInt), .inl (ae_k (laX E (i + 6)).toInt)]) (rest := []) mj_li_law H1 (by rfl) (h.hW hL) (fun AS ha => key1 w AS h.2.1 h.2.2 hj.1 ha) (fun z w1 hR => ?_)
  obtain ⟨g0, g1, g2, g3, g4⟩ := hR
  have e1 : w1 = w := hD.eq g4
  subst e1
  refine la_al2 lx_2 ?_
  refine la_arg q6 (by decide) hL hE ⟨h.1.1, h7⟩ ?_
  refine la_arg q7 (by decide) hL hE ⟨h.1.1, h7⟩ ?_
  refine la_arg q8 (by decide) hL hE ⟨h.1.1, h7⟩ ?_
  refine la_arg q9 (by decide) hL hE ⟨h.1.1, h7⟩ ?_
  refine la_arg q10 (by decide) hL hE ⟨h.1.1, h7⟩ ?_
  refine la_argb q11 (by decide) hL hE ⟨h.1.1, h7⟩ ?_
  refine law_callV (d := 85) (y2 := 280) (as := [.inr (0, 99), .inl (ae_k (laX E (i + 1)).toInt), .inl (ae_k (laX E (i + 2)).toInt), .inl (ae_k (laX E (i + 3)).toInt), .inl (ae_k (laX E (i + 4)).toInt), .inl (ae_k (laX E (i + 5)).toInt), .inl (ae_k (laX E (i + 6)).toInt)]) (rest := [.inl (ae_k z.toInt)]) mj_li_law H1 (by rfl) (h.hW hL) (fun AS ha => key2 w1 AS g1 g2 g3 ha) (fun z2 w2 hR => ?_)
  obtain ⟨m0, m1, m2, m3, m4⟩ := hR
  have e2 : w2 = w1 := hD.eq m4
  subst e2
  have h2 := h
  have ez : z = z2 := i32_inj (g0.trans m0.symm)
  subst ez
  have done := hj
  exact la_eq lx_3 (by show mj_go 1694 523 2217; unfold mj_go; decide) (hq w2 h2 done)
end SIDES
end LAW
