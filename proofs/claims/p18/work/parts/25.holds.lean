/-! constants in place of symbols -/
def avE (ρ : List Int) : av → av
  | .inl e => .inl (ae_k (ae_ev ρ e))
  | .inr q => .inr q
def lvE (ρ : List Int) (lv : List (Nat × av)) : List (Nat × av) := lv.map (fun q => (q.1, avE ρ q.2))
def av_rg (n : Nat) : av → Bool
  | .inl e => e.1.all (fun q => decide (q.1 < n))
  | .inr _ => true
section KS
variable {E : mj_E} {al : List Nat} {ρ : List Int} {ws : va_W} {Q : Option Value → va_W → Prop}
theorem gV.toK {x : av} {v : Value} (h : gV E al ρ x v) : gV E al [] (avE ρ x) v := by
  rcases x with e | ⟨t, k⟩
  · obtain ⟨n, rfl, hn⟩ := h
    refine ⟨n, rfl, ?_⟩
    rw [hn.ev]
    exact aV.k _
  · match t, h with
    | 0, h => exact h
    | 1, h => exact h
    | 2, h => exact h
    | 3, h => exact h
    | 4, h => exact h
    | 5, h => exact h
    | 6, h => exact h
    | _ + 7, h => exact h
theorem gV.ofK {x : av} {v : Value} (hr : av_rg ρ.length x = true) (h : gV E al [] (avE ρ x) v) : gV E al ρ x v := by
  rcases x with e | ⟨t, k⟩
  · obtain ⟨n, rfl, hn⟩ := h
    refine ⟨n, rfl, ?_⟩
    have e1 : n.toInt = ae_ev ρ e := hn.of_k
    rw [e1]
    exact aV.mk hr
  · match t, h with
    | 0, h => exact h
    | 1, h => exact h
    | 2, h => exact h
    | 3, h => exact h
    | 4, h => exact h
    | 5, h => exact h
    | 6, h => exact h
    | _ + 7, h => exact h
theorem gA.toK {lv : List (Nat × av)} {LV : List (Nat × Value)} (h : gA E al ρ lv LV) : gA E al [] (lvE ρ lv) LV := fun q hq => by
  obtain ⟨p, hp, rfl⟩ := List.mem_map.mp hq
  obtain ⟨v, g1, g2⟩ := h p hp
  exact ⟨v, g1, g2.toK⟩
theorem gA.ofK {lv : List (Nat × av)} {LV : List (Nat × Value)} (hr : lv.all (fun q => av_rg ρ.length q.2) = true) (h : gA E al [] (lvE ρ lv) LV) : gA E al ρ lv LV := fun q hq => by
  obtain ⟨v, g1, g2⟩ := h _ (List.mem_map_of_mem hq)
  exact ⟨v, g1, g2.ofK (List.all_eq_true.mp hr q hq)⟩
theorem gL.toK : ∀ {st : List av} {ST : List Value}, gL E al ρ st ST → gL E al [] (st.map (avE ρ)) ST
  | [], _, h => h
  | _ :: _, _, ⟨v, u, e, h1, h2⟩ => ⟨v, u, e, h1.toK, h2.toK⟩
theorem gL.ofK : ∀ {st : List av} {ST : List Value}, st.all (av_rg ρ.length) = true → gL E al [] (st.map (avE ρ)) ST → gL E al ρ st ST
  | [], _, _, h => h
  | x :: t, _, hr, ⟨v, u, e, h1, h2⟩ => by
    rw [List.all_cons, Bool.and_eq_true] at hr
    exact ⟨v, u, e, h1.ofK hr.1, gL.ofK hr.2 h2⟩
theorem hG.toK {d y pc : Nat} {lv lv2 : List (Nat × av)} {st st2 : List av} (h : hG E al d y pc lv st ρ ws Q) (hr : lv.all (fun q => av_rg ρ.length q.2) = true) (hr2 : st.all (av_rg ρ.length) = true) (e1 : lvE ρ lv = lv2) (e2 : st.map (avE ρ) = st2) : hG E al d y pc lv2 st2 [] ws Q := by
  subst e1
  subst e2
  exact fun LV ST h1 h2 => h LV ST (h1.ofK hr) (h2.ofK hr2)
theorem hG.ofK {d y pc : Nat} {lv lv2 : List (Nat × av)} {st st2 : List av} (h : hG E al d y pc lv2 st2 [] ws Q) (e1 : lvE ρ lv = lv2) (e2 : st.map (avE ρ) = st2) : hG E al d y pc lv st ρ ws Q := by
  subst e1
  subst e2
  exact fun LV ST h1 h2 => h LV ST h1.toK h2.toK
theorem getD_of {σ ρ : List Int} {n : Nat} (h : ∀ k, k < n → σ[k]? = ρ[k]?) {k : Nat} (hk : k < n) : σ.getD k 0 = ρ.getD k 0 := by
  rw [List.getD_eq_getElem?_getD, List.getD_eq_getElem?_getD, h k hk]
end KS
/-! THE SIGNS OF A CONDITION: how deep the stack is -/
def dps (x : Int32) (d : Nat) : Option Nat := if x.toInt = 3 then (if 1 ≤ d then some d else none) else if x.toInt = 4 ∨ x.toInt = 5 then (if 2 ≤ d then some (d - 1) else none) else some (d + 1)
def dep (F : Nat → Int32) (a : Nat) : Nat → Option Nat
  | 0 => some 0
  | m + 1 => (dep F a m).bind (dps (F (a + m)))
theorem dep_le {F : Nat → Int32} {a : Nat} : ∀ {m d : Nat}, dep F a m = some d → d ≤ m
  | 0, d, h => by cases h; exact Nat.le_refl _
  | m + 1, d, h => by
    obtain ⟨e, h1, h2⟩ := Option.bind_eq_some_iff.mp h
    have := dep_le h1
    unfold dps at h2
    split at h2
    · split at h2
      · cases h2; omega
      · cases h2
    · split at h2
      · split at h2
        · cases h2; omega
        · cases h2
      · cases h2; omega
theorem dep_pre {F : Nat → Int32} {a : Nat} : ∀ {m j : Nat}, j ≤ m → dep F a m ≠ none → dep F a j ≠ none
  | 0, j, hj, h => by rw [show j = 0 by omega]; exact h
  | m + 1, j, hj, h => by
    by_cases e : j = m + 1
    · rw [e]; exact h
    · refine dep_pre (m := m) (by omega) (fun e2 => h ?_)
      show (dep F a m).bind _ = none
      rw [e2]; rfl
theorem dep_congr {F F2 : Nat → Int32} {a a2 : Nat} : ∀ {m : Nat}, (∀ i, i < m → F (a + i) = F2 (a2 + i)) → dep F a m = dep F2 a2 m
  | 0, _ => rfl
  | m + 1, h => by
    show (dep F a m).bind (dps (F (a + m))) = (dep F2 a2 m).bind (dps (F2 (a2 + m)))
    rw [dep_congr (m := m) (fun i hi => h i (by omega)), h m (by omega)]
/-- the versions' lines hold signs that keep to the stack -/
def jV (ver lin sig : Nat → Int32) : Prop := ∀ v k : Nat, v < 8 → k < 9 → (k : Int) < (ver (2 * v)).toInt →
  (lin (36 * v + 4 * k + 2)).toInt + (lin (36 * v + 4 * k + 3)).toInt ≤ 256 ∧ dep sig (256 * v + (lin (36 * v + 4 * k + 2)).toInt.toNat) (lin (36 * v + 4 * k + 3)).toInt.toNat ≠ none
/-- the rows that are kept: cell, length, place -/
def mvs : List (Nat × Nat × Nat) := [(100, 11, 0), (101, 256, 11), (102, 5, 267), (103, 5, 272), (104, 4, 277), (105, 27, 281), (106, 36, 308), (107, 72, 344), (108, 48, 416), (109, 12, 464), (110, 16, 476), (111, 288, 492), (112, 2048, 780), (113, 40, 2828), (114, 45, 2868), (115, 25, 2913), (116, 16, 2938), (117, 24, 2954)]
def aColsOf (c : Nat) : List (Int × Int) := match aLay[c]? with
  | some (.inr (_, _, cols)) => cols
  | _ => []
def jK (K : Nat → Int32) : Prop := (∀ q ∈ mvs, aRw (aColsOf q.1) q.2.1 (fun i => K (q.2.2 + i))) ∧
  (∀ j, j < 16 → (K (11 + (16 * j + 7))).toInt = 2 → 0 ≤ (K (11 + (16 * j + 12))).toInt ∧ (K (11 + (16 * j + 12))).toInt ≤ 3) ∧
  (∀ j, j < 72 → (K (492 + (4 * j + 0))).toInt = 0 → 0 ≤ (K (492 + (4 * j + 1))).toInt ∧ (K (492 + (4 * j + 1))).toInt ≤ 9) ∧
  jV (fun i => K (476 + i)) (fun i => K (492 + i)) (fun i => K (780 + i))
def jJ0 (ws : va_W) : Prop := jV (jR ws 110) (jR ws 111) (jR ws 112) ∧ jK (jR ws 140)
theorem jJ0_prot : ∀ w w' : va_W, (∀ c ∈ aProt0, aE1 c w w') → jJ0 w → jJ0 w' := by
  intro w w' h hj
  unfold jJ0 at hj ⊢
  rw [← jR.at ((h 110 (by decide)).c (by decide)), ← jR.at ((h 111 (by decide)).c (by decide)), ← jR.at ((h 112 (by decide)).c (by decide)), ← jR.at ((h 140 (by decide)).c (by decide))]
  exact hj
/-- the same, and within bounds -/
def jO (ws : va_W) (c i b j : Nat) (lo hi : Int) : Prop := jS ws c i = jS ws b j ∧ lo ≤ jS ws c i ∧ jS ws c i ≤ hi
def jX (ws : va_W) : Prop := jS ws 0 2 = jS ws 99 59 ∧ (∀ q ∈ jLv, jO ws q.1 q.2.1 q.2.2.1 q.2.2.2.1 q.2.2.2.2.2.1 q.2.2.2.2.2.2) ∧ (jS ws 0 2 = 1 → ∀ q ∈ jLv, jO ws (q.1 + 37) q.2.1 140 q.2.2.2.2.1 q.2.2.2.2.2.1 q.2.2.2.2.2.2)
def jPc (c i : Nat) : Bool := decide (c < 1000) && (jXp.elem c || jXp.elem (1000 * (i + 1) + c))
theorem jPc_ok {c i : Nat} (hc : jPc c i = true) {w w' : va_W} (h : ∀ c ∈ jXp, aE1 c w w') : jS w c i = jS w' c i := by
  unfold jPc at hc
  rw [Bool.and_eq_true, Bool.or_eq_true, decide_eq_true_eq] at hc
  rcases hc.2 with h1 | h1
  · exact jS.at ((h c (List.mem_of_elem_eq_true h1)).c hc.1)
  · exact (h _ (List.mem_of_elem_eq_true h1)).s hc.1
theorem jPc_all : (jPc 0 2 && jPc 99 59 && jLv.all (fun q => jPc q.1 q.2.1 && (jPc q.2.2.1 q.2.2.2.1 && (jPc (q.1 + 37) q.2.1 && jPc 140 q.2.2.2.2.1)))) = true := by decide +kernel
theorem jX_prot : ∀ w w' : va_W, (∀ c ∈ jXp, aE1 c w w') → jX w → jX w' := by
  intro w w' h hj
  obtain ⟨h0, h1, h2⟩ := hj
  have k := jPc_all
  rw [Bool.and_eq_true, Bool.and_eq_true] at k
  refine ⟨?_, fun q hq => ?_, fun hk q hq => ?_⟩
  · rw [← jPc_ok k.1.1 h, ← jPc_ok k.1.2 h]
    exact h0
  · have m := List.all_eq_true.mp k.2 q hq
    simp only [Bool.and_eq_true] at m
    unfold jO
    rw [← jPc_ok m.1 h, ← jPc_ok m.2.1 h]
    exact h1 q hq
  · have m := List.all_eq_true.mp k.2 q hq
    simp only [Bool.and_eq_true] at m
    unfold jO
    rw [← jPc_ok m.2.2.1 h, ← jPc_ok m.2.2.2 h]
    exact h2 (by rw [jPc_ok k.1.1 h]; exact hk) q hq
def jJ (ws : va_W) : Prop := jJ0 ws ∧ jX ws
theorem jJ_prot : ∀ w w' : va_W, (∀ c ∈ aProt, aE1 c w w') → jJ w → jJ w' := fun w w' h hj =>
  ⟨jJ0_prot w w' (fun c hc => h c (List.mem_append_left _ hc)) hj.1, jX_prot w w' (fun c hc => h c (List.mem_append_right _ hc)) hj.2⟩
theorem hOk.mk {E : mj_E} {al : List Nat} {J : va_W → Prop} (hf : E.2.2.2.1.category = 1) (hT : ∀ σ : List Int, aTb E σ aTabs) (hJ : ∀ w w' : va_W, (∀ c ∈ aProt, aE1 c w w') → J w → J w') {cs : List aCon} (hC : ∀ c ∈ cs, aCO E al (aG0 []) J c) : hOk E al (aG0 cs) J :=
  ⟨hf, by show aLay.length < 1000000; decide +kernel, by show aRok aRules = true; decide +kernel, hJ, hC, hT⟩
/-! pieces, once more -/
abbrev aPc : Type := Nat × List (Int × Int) × List ae × aH × List (Nat × av) × List av
def hp_chk (G : aG) (f d y : Nat) (p : aPc) (Is Bs : List aCut) : Bool :=
  hp_e G f d y p.1 p.2.1 p.2.2.1 p.2.2.2.1 p.2.2.2.2.1 p.2.2.2.2.2 (Is ++ Bs) && Is.all (hp_c G f d y p.2.1.length (Is ++ Bs)) && (Is ++ Bs).all (fun T => decide (p.2.1.length ≤ T.2.1.length))
def mMU : ae := ae_k (-1000000)
section PCS
variable {E : mj_E} {al : List Nat} {G : aG} {J : va_W → Prop} {ρ : List Int} {ws : va_W} {Q : Option Value → va_W → Prop}
theorem hp_go (H : hOk E al G J) {f d y : Nat} {p : aPc} {Is Bs : List aCut} (hy : y < mj_lawNo) (hc : hp_chk G f d y p Is Bs = true) (hW0 : hW E al G J ρ p.2.1 p.2.2.1 p.2.2.2.1 ws)
    (hB : ∀ T ∈ Bs, ∀ σ ws2, (∀ k, k < p.2.1.length → σ[k]? = ρ[k]?) → hW E al G J σ T.2.1 T.2.2.1 T.2.2.2.2.2.1 ws2 → ws2.length = ws.length → (∀ k, k ∉ T.2.2.2.2.2.2.1 → ws2[k]? = ws[k]?) → hG E al d y T.1 T.2.2.2.1 T.2.2.2.2.1 σ ws2 Q) : hG E al d y p.1 p.2.2.2.2.1 p.2.2.2.2.2 ρ ws Q := by
  unfold hp_chk at hc
  rw [Bool.and_eq_true, Bool.and_eq_true] at hc
  exact hp_prog H Is Bs hy hc.1.1 hc.1.2 hc.2 hW0 hB
theorem hp_retI {d y pc : Nat} {lv : List (Nat × av)} {e : ae} {x : Int} {ty : FieldType} (hy : y < mj_lawNo) (hr : (mj_jmp y pc).map (·.2.1) = [.ireturn] ++ ((mj_jmp y pc).map (·.2.1)).drop 1) (hx : mj_rx y = some ty) (he : aV ρ e x) (hn : ∀ n : Int32, n.toInt = x → narrow ty (.int n) = .int n) (hq : ∀ n : Int32, n.toInt = x → Q (some (.int n)) ws) : hG E al d y pc lv [.inl e] ρ ws Q := by
  intro LV ST h1 h2
  obtain ⟨v, u, rfl, ⟨n, rfl, hv⟩, h3⟩ := h2
  have h3 : u = [] := h3
  subst h3
  have e0 : n.toInt = x := hv.uniq he
  have hj := mj_jmp_cok y pc
  cases hm : mj_jmp y pc with
  | nil => rw [hm] at hr; simp at hr
  | cons q tl =>
    obtain ⟨p, i, n2⟩ := q
    rw [hm] at hr hj
    have hi : i = .ireturn := by simpa using hr
    subst hi
    have hp : p = pc := hj.2 (by simp)
    subst hp
    obtain ⟨hdec, -, hn2, -⟩ := hj.1
    have hn2 : n2 = 1 := by simpa [mj_isw, mj_len] using hn2
    subst hn2
    exact MJ.rt hdec (v := some (.int n)) ⟨rfl, n, ty, rfl, by rw [(mj_li_use hy).2, hx], hn n e0, rfl⟩ (hq n e0)
theorem aH1.mk {c : Nat} {ix v : ae} (hc : c < 1000000) (h1 : ix.1.all (fun q => decide (q.1 < ρ.length)) = true) (h2 : v.1.all (fun q => decide (q.1 < ρ.length)) = true) (h0 : 0 ≤ ae_ev ρ ix) (h : aSl ws c (ae_ev ρ ix).toNat (ae_ev ρ v)) : aH1 ρ ws ((c, ix), v) :=
  ⟨_, _, aV.mk h1, aV.mk h2, by rw [if_pos hc]; exact ⟨h0, h⟩⟩
theorem aHh.nil : aHh ρ ws [] := fun q hq => by cases hq
theorem aHh.cons {q : (Nat × ae) × ae} {h : aH} (h1 : aH1 ρ ws q) (h2 : aHh ρ ws h) : aHh ρ ws (q :: h) := fun p hp => by
  rcases List.mem_cons.mp hp with rfl | hp
  · exact h1
  · exact h2 p hp
theorem aSl.row {c a N : Nat} {cl : ClassId} {f : Nat → Int32} (hw : ws[c]? = some (a, .inl (cl, N, .inl f))) {i : Nat} (hi : i < N) {x : Int} (hx : (jR ws c i).toInt = x) : aSl ws c i x := by
  rw [jR.row hw] at hx
  exact Or.inr ⟨a, cl, N, f, hw, hi, hx⟩
theorem aFs.nil : aFs ρ [] := fun q hq => by cases hq
theorem aFs.cons {f : ae} {fs : List ae} (hr : f.1.all (fun q => decide (q.1 < ρ.length)) = true) (h1 : ae_ev ρ f ≤ 0) (h2 : aFs ρ fs) : aFs ρ (f :: fs) := fun p hp => by
  rcases List.mem_cons.mp hp with rfl | hp
  · exact ⟨_, aV.mk hr, h1⟩
  · exact h2 p hp
end PCS
