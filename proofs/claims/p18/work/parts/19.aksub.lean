/-! THE ABSTRACT EVALUATOR IS RIGHT: cuts, ends, contracts -/
/-- sg gives the symbols of σ in terms of ρ -/
def sgO (ρ σ : List Int) (sg : List (Option ae)) : Prop := ∀ (k : Nat) (e : ae), sg[k]? = some (some e) → ∃ x, σ[k]? = some x ∧ aV ρ e x
theorem ae_sub1_ok {ρ σ : List Int} {sg : List (Option ae)} (hs : sgO ρ σ sg) {e r : ae} (h : ae_sub1 sg e = some r) : ∃ v, aV ρ r v ∧ aV σ e v := by
  have key : ∀ (l : List (Nat × Int)) (c : Int) (r : ae), l.foldr (fun q acc => match acc, sg[q.1]? with | some r, some (some s) => some (ae_add (ae_mul q.2 s) r) | _, _ => none) (some ([], c)) = some r → ∃ v, aV ρ r (v + c) ∧ aVl σ l v := by
    intro l
    induction l with
    | nil =>
      intro c r h
      cases h
      exact ⟨0, by rw [Int.zero_add]; exact aV.k c, rfl⟩
    | cons q t ih =>
      intro c r h
      rw [List.foldr_cons] at h
      split at h
      · rename_i r0 s h1 h2
        cases h
        obtain ⟨v, g1, g2⟩ := ih c r0 h1
        obtain ⟨x, g3, g4⟩ := hs q.1 s h2
        refine ⟨q.2 * x + v, ?_, x, v, g3, g2, rfl⟩
        have := (g4.mul q.2).add g1
        rwa [← Int.add_assoc] at this
      · cases h
  obtain ⟨v, g1, g2⟩ := key e.1 e.2 r h
  refine ⟨v + e.2, g1, ?_⟩
  show aVl σ e.1 (v + e.2 - e.2)
  rw [Int.add_sub_cancel]
  exact g2
/-- where all symbols are given, it succeeds -/
theorem ae_sub1_some {ρ σ : List Int} {sg : List (Option ae)} (hs : sgO ρ σ sg) (hall : ∀ (k : Nat) (x : Int), σ[k]? = some x → ∃ e : ae, sg[k]? = some (some e)) {e : ae} {v : Int} (hv : aV σ e v) : ∃ r, ae_sub1 sg e = some r ∧ aV ρ r v := by
  have key : ∀ (l : List (Nat × Int)) (c v : Int), aVl σ l v → ∃ r, l.foldr (fun q acc => match acc, sg[q.1]? with | some r, some (some s) => some (ae_add (ae_mul q.2 s) r) | _, _ => none) (some ([], c)) = some r := by
    intro l
    induction l with
    | nil => intro c v h; exact ⟨_, rfl⟩
    | cons q t ih =>
      intro c v h
      obtain ⟨x, w, e1, h1, e2⟩ := h
      obtain ⟨r, hr⟩ := ih c w h1
      obtain ⟨s, hsg⟩ := hall q.1 x e1
      rw [List.foldr_cons, hr, hsg]
      exact ⟨_, rfl⟩
  obtain ⟨r, hr⟩ := key e.1 e.2 _ hv
  obtain ⟨w, g1, g2⟩ := ae_sub1_ok hs (e := e) (r := r) hr
  rw [g2.uniq hv] at g1
  exact ⟨r, hr, g1⟩
theorem ae_ub_val {ρ : List Int} {env : List (Int × Int)} (hE : aEv ρ env) : ∀ {l : List (Nat × Int)} {c : Int}, (ae_ub env l c).isSome = true → ∃ v, aVl ρ l v
  | [], _, _ => ⟨0, rfl⟩
  | (k, a) :: t, c, h => by
    unfold ae_ub at h
    split at h
    · cases h
    · rename_i lo hi hk
      obtain ⟨x, hx, -⟩ := hE.get hk
      obtain ⟨w, hw⟩ := ae_ub_val hE h
      exact ⟨_, x, w, hx, hw, rfl⟩
/-- the valuation that a full substitution gives -/
theorem ag_env_ok {ρ : List Int} {P : aP} (hP : aPv ρ P) : ∀ {sg : List (Option ae)} {env : List (Int × Int)}, ag_env P sg env = true → ∃ σ : List Int, aEv σ env ∧ sgO ρ σ sg ∧ sg.length = σ.length ∧ ∀ (k : Nat) (x : Int), σ[k]? = some x → ∃ e : ae, sg[k]? = some (some e)
  | [], [], _ => ⟨[], ⟨rfl, fun k x b h => by cases h⟩, (fun k e h => by cases h), rfl, (fun k x h => by cases h)⟩
  | [], _ :: _, h => by cases h
  | none :: _, [], h => by cases h
  | none :: _, _ :: _, h => by cases h
  | some _ :: _, [], h => by cases h
  | some e :: sg, (lo, hi) :: env, h => by
    unfold ag_env at h
    rw [Bool.and_eq_true, Bool.and_eq_true] at h
    obtain ⟨⟨h1, h2⟩, h3⟩ := h
    obtain ⟨w, hw⟩ := ae_ub_val hP.1 h1
    have hv : aV ρ e (w + e.2) := by
      show aVl ρ e.1 (w + e.2 - e.2)
      rw [Int.add_sub_cancel]
      exact hw
    obtain ⟨b1, b2⟩ := hP.in h2 hv
    obtain ⟨σ, g1, g2, g3, g4⟩ := ag_env_ok hP h3
    refine ⟨(w + e.2) :: σ, ⟨by simp [g1.1], fun k x b hk hb => ?_⟩, fun k e2 hk => ?_, by simp [g3], fun k x hk => ?_⟩
    · cases k with
      | zero => cases hk; cases hb; exact ⟨b1, b2⟩
      | succ k => exact g1.2 k x b hk hb
    · cases k with
      | zero => cases hk; exact ⟨_, rfl, hv⟩
      | succ k => exact g2 k e2 hk
    · cases k with
      | zero => exact ⟨e, rfl⟩
      | succ k => exact g4 k x hk
theorem ag_facts_ok {ρ σ : List Int} {P : aP} (hP : aPv ρ P) {sg : List (Option ae)} (hs : sgO ρ σ sg) {fs : List ae} (h : ag_facts P sg fs = true) : aFs σ fs := fun f hf => by
  have := List.all_eq_true.mp h f hf
  split at this
  · rename_i e he
    obtain ⟨v, g1, g2⟩ := ae_sub1_ok hs he
    exact ⟨v, g2, hP.pr this g1⟩
  · cases this
section AGK
variable {E : mj_E} {al : List Nat} {G : aG} {J : va_W → Prop} {w0 : va_W} {ρ σ : List Int} {P : aP} {ws : va_W} {sg : List (Option ae)}
theorem ag_ok_ok (hP : aPv ρ P) (hs : sgO ρ σ sg) {p v : av} {x : Value} (h : ag_ok P sg p v = true) (hv : gV E al ρ v x) : gV E al σ p x := by
  unfold ag_ok at h
  split at h
  · obtain ⟨m, rfl, hm⟩ := hv
    split at h
    · rename_i r hr
      obtain ⟨w, g1, g2⟩ := ae_sub1_ok hs hr
      have e := hP.eq h g1 hm
      exact ⟨m, rfl, by rw [← e]; exact g2⟩
    · cases h
  · exact hv
  · exact ⟨_, hv.1⟩
  · exact hv
  · rename_i t k t2 k2 _ _ _
    simp only [Bool.and_eq_true, beq_iff_eq, bne_iff_ne, ne_eq] at h
    obtain ⟨⟨⟨e1, e2⟩, e3⟩, e4⟩ := h
    subst e1
    subst e2
    match t, hv with
    | 0, hv => exact hv
    | 1, hv => exact hv
    | 2, hv => exact hv
    | 3, hv => exact hv
    | 4, hv => exact hv
    | 5, hv => exact hv
    | 6, hv => exact hv
    | _ + 7, hv => exact hv
  · cases h
theorem ag_list_ok (hP : aPv ρ P) (hs : sgO ρ σ sg) : ∀ {ps vs : List av} {xs : List Value}, ag_list P sg ps vs = true → gL E al ρ vs xs → gL E al σ ps xs
  | [], [], _, _, h => h
  | [], _ :: _, _, h, _ => by cases h
  | _ :: _, [], _, h, _ => by cases h
  | p :: ps, v :: vs, _, h, ⟨x, u, e, h1, h2⟩ => by
    unfold ag_list at h
    rw [Bool.and_eq_true] at h
    exact ⟨x, u, e, ag_ok_ok hP hs h.1 h1, ag_list_ok hP hs h.2 h2⟩
theorem ag_lv_ok (hP : aPv ρ P) (hs : sgO ρ σ sg) {pl lv : List (Nat × av)} {LV : List (Nat × Value)} (h : ag_lv P sg pl lv = true) (hlv : gA E al ρ lv LV) : gA E al σ pl LV := fun q hq => by
  have := List.all_eq_true.mp h q hq
  split at this
  · rename_i v hv
    obtain ⟨x, g1, g2⟩ := hlv.ld hv
    exact ⟨x, g1, ag_ok_ok hP hs this g2⟩
  · cases this
theorem ag_h_ok (hS : aSt E al G J w0 ρ P ws) (hs : sgO ρ σ sg) {ph : aH} (h : ag_h P sg ph = true) : aHh σ ws ph := fun q hq => by
  have := List.all_eq_true.mp h q hq
  split at this
  · rename_i ix v hix hv
    split at this
    · rename_i e he
      obtain ⟨i, g1, g2⟩ := ae_sub1_ok hs hix
      obtain ⟨x, g3, g4⟩ := ae_sub1_ok hs hv
      obtain ⟨q2, k1, k2, k3, k4⟩ := aH_get_ok he
      obtain ⟨i2, x2, l1, l2, l3⟩ := hS.2.2.1 q2 k1
      have e1 := ae_eq_ok k3 l1 g1
      rw [k4] at l2
      have e2 := hS.1.eq this g3 l2
      subst e1
      subst e2
      rw [k2] at l3
      exact ⟨i2, x, g2, g4, l3⟩
    · cases this
  · cases this
theorem ag_bind_keep {sg : List (Option ae)} {k : Nat} {e : ae} {p v : av} (h : sg[k]? = some (some e)) : (ag_bind sg p v)[k]? = some (some e) := by
  unfold ag_bind
  split
  · rename_i j e2
    split
    · rename_i hj
      by_cases ej : j = k
      · subst ej
        rw [hj] at h
        cases h
      · rw [List.getElem?_set_ne ej]
        exact h
    · exact h
  · exact h
theorem ag_fold_keep {α : Type} {f : List (Option ae) → α → List (Option ae)} {k : Nat} {e : ae} (hf : ∀ sg a, sg[k]? = some (some e) → (f sg a)[k]? = some (some e)) : ∀ (l : List α) {sg : List (Option ae)}, sg[k]? = some (some e) → (l.foldl f sg)[k]? = some (some e)
  | [], _, h => h
  | a :: t, sg, h => ag_fold_keep hf t (hf sg a h)
theorem ag_bh_keep {h : aH} {k : Nat} {e : ae} {sg : List (Option ae)} (hk : sg[k]? = some (some e)) : (ag_bh P h sg)[k]? = some (some e) := by
  unfold ag_bh
  refine ag_fold_keep (fun sg q hq => ?_) h hk
  split
  · split
    · exact ag_bind_keep hq
    · exact hq
  · exact hq
theorem ag_start_get {npre n k : Nat} (hk : k < npre) (hn : npre ≤ n) : (ag_start npre n)[k]? = some (some (ae_s k)) := by
  unfold ag_start
  rw [List.getElem?_map, List.getElem?_range (by omega)]
  simp [hk]
theorem ag_pre {ρ σ : List Int} {sg : List (Option ae)} (hs : sgO ρ σ sg) {k : Nat} (h : sg[k]? = some (some (ae_s k))) : σ[k]? = ρ[k]? := by
  obtain ⟨x, g1, g2⟩ := hs k _ h
  obtain ⟨x2, w, k1, k2, k3⟩ := g2
  have k2 : w = 0 := k2
  have k3 : x - 0 = 1 * x2 + w := k3
  have : x = x2 := by omega
  rw [g1, k1, this]
theorem aLg_none {w0 : va_W} : ∀ (cs : List Nat) {w : va_W}, w.length = w0.length → (∀ k, k ∉ cs → w[k]? = w0[k]?) → aLg ρ w0 (cs.map (fun c => (c, none))) w
  | [], w, hl, hw => List.ext_getElem? (fun k => hw k (by simp))
  | c :: t, w, hl, hw => by
    cases hc : w0[c]? with
    | none =>
      refine ⟨w, aLg_none t hl (fun k hk => ?_), rfl, fun _ _ => rfl⟩
      by_cases e : k = c
      · subst e
        rw [hc]
        rw [List.getElem?_eq_none_iff] at hc ⊢
        omega
      · exact hw k (by simp [e, hk])
    | some q =>
      have hlt := (List.getElem?_eq_some_iff.mp hc).1
      refine ⟨w.set c q, aLg_none t (by simp [hl]) (fun k hk => ?_), by simp, fun k hk => (List.getElem?_set_ne (Ne.symm hk)).symm⟩
      by_cases e : k = c
      · subst e
        rw [List.getElem?_set_self (by omega), hc]
      · rw [List.getElem?_set_ne (Ne.symm e)]
        exact hw k (by simp [e, hk])
theorem aLg.lost {l : aW} {w0 w : va_W} (h : aLg ρ w0 l w) {md : List Nat} (hm : l.all (fun q => md.elem q.1) = true) : w.length = w0.length ∧ ∀ k, k ∉ md → w[k]? = w0[k]? := by
  obtain ⟨h1, h2⟩ := h.frame
  refine ⟨h1, fun k hk => h2 k (fun q hq e => hk ?_)⟩
  have := List.all_eq_true.mp hm q hq
  rw [e] at this
  exact List.mem_of_elem_eq_true this
/-- a cut's state -/
def aT (T : aCut) : aP := (T.2.1, T.2.2.1, [], T.2.2.2.2.2.1, T.2.2.2.2.2.2.1.map (fun c => (c, none)))
theorem ak_cut_ok {npre : Nat} {T : aCut} {mu : Option ae} {lv : List (Nat × av)} {st : List av} {LV : List (Nat × Value)} {ST : List Value} (h : ak_cut npre T mu lv st P = true) (hnp : npre ≤ T.2.1.length) (hlv : gA E al ρ lv LV) (hst : gL E al ρ st ST) (hS : aSt E al G J w0 ρ P ws)
    (hT : ∀ σ : List Int, (∀ k, k < npre → σ[k]? = ρ[k]?) → aTb E σ G.2.2.1) :
    ∃ σ, (∀ k, k < npre → σ[k]? = ρ[k]?) ∧ gA E al σ T.2.2.2.1 LV ∧ gL E al σ T.2.2.2.2.1 ST ∧ aSt E al G J w0 σ (aT T) ws ∧ ∀ m x, mu = some m → aV ρ m x → ∃ x2, aV σ T.2.2.2.2.2.2.2 x2 ∧ x2 < x := by
  unfold ak_cut at h
  dsimp only at h
  generalize hsg : ag_bh P T.2.2.2.2.2.1 (T.2.2.2.1.foldl (fun sg q => match al_ld lv q.1 with | some v => ag_bind sg q.2 v | none => sg) (ag_start npre T.2.1.length)) = sg at h
  simp only [Bool.and_eq_true] at h
  obtain ⟨⟨⟨⟨⟨⟨h1, h2⟩, h3⟩, h4⟩, h5⟩, h6⟩, h7⟩ := h
  obtain ⟨σ, g1, g2, g3, g4⟩ := ag_env_ok hS.1 h1
  have pre : ∀ k, k < npre → σ[k]? = ρ[k]? := fun k hk => by
    refine ag_pre g2 ?_
    rw [← hsg]
    refine ag_bh_keep (ag_fold_keep (fun sg q hq => ?_) _ (ag_start_get hk hnp))
    split
    · exact ag_bind_keep hq
    · exact hq
  have hlost := hS.2.2.2.1.lost h6
  refine ⟨σ, pre, ag_lv_ok hS.1 g2 h3 hlv, ag_list_ok hS.1 g2 h4 hst, ⟨⟨g1, ag_facts_ok hS.1 g2 h2, fun f hf => by cases hf⟩, hT σ pre, ag_h_ok hS g2 h5, aLg_none _ hlost.1 hlost.2, hS.2.2.2.2⟩, ?_⟩
  rintro m x rfl hm
  dsimp only at h7
  split at h7
  · rename_i m2 hm2
    obtain ⟨x2, k1, k2⟩ := ae_sub1_ok g2 hm2
    have := hS.1.pr h7 ((k1.sub hm).inc 1)
    exact ⟨x2, k2, by omega⟩
  · cases h7
/-- what a contract says -/
def aCs (E : mj_E) (al : List Nat) (G : aG) (J : va_W → Prop) (c : aCon) (ρ : List Int) (ws : va_W) (v : Option Value) (ws2 : va_W) : Prop :=
  ∃ cs ∈ c.2.2.2.2.2.2.2, ∃ r, aEv (ρ ++ r) (c.2.1 ++ cs.1) ∧ aFs (ρ ++ r) cs.2.1 ∧ gO E al (ρ ++ r) cs.2.2.1 v ∧ aHh (ρ ++ r) ws2 cs.2.2.2 ∧ aWd E al G.1 ws2 ∧ aRs G.2.1 ws2 ∧ J ws2 ∧ ws2.length = ws.length ∧ ∀ k, k ∉ c.2.2.2.2.2.1 → ws2[k]? = ws[k]?
def aCO (E : mj_E) (al : List Nat) (G : aG) (J : va_W → Prop) (c : aCon) : Prop := ∀ (ρ : List Int) (as : List Value) (ws : va_W), aEv ρ c.2.1 → aFs ρ c.2.2.1 → gL E al ρ c.2.2.2.1 as → aHh ρ ws c.2.2.2.2.1 → aWd E al G.1 ws → aRs G.2.1 ws → J ws →
  ∀ d, c.2.2.2.2.2.2.1 ≤ d → MJ E d 0 0 (mj_in0 c.1 as ws) (aCs E al G J c ρ ws)
theorem ak_end1_ok {npre : Nat} {c : aCon} {cs : aCase} {v : Option av} {x : Option Value} (hnp : npre = c.2.1.length) (h : ak_end1 npre c.2.2.2.2.2.1 cs v P = true) {ρ0 : List Int} (hρ : aEv ρ0 c.2.1) (hpre : ∀ k, k < npre → ρ[k]? = ρ0[k]?) (hS : aSt E al G J ws ρ P w0) (hv : gO E al ρ v x) :
    ∃ r, aEv (ρ0 ++ r) (c.2.1 ++ cs.1) ∧ aFs (ρ0 ++ r) cs.2.1 ∧ gO E al (ρ0 ++ r) cs.2.2.1 x ∧ aHh (ρ0 ++ r) w0 cs.2.2.2 ∧ aWd E al G.1 w0 ∧ aRs G.2.1 w0 ∧ J w0 ∧ w0.length = ws.length ∧ ∀ k, k ∉ c.2.2.2.2.2.1 → w0[k]? = ws[k]? := by
  unfold ak_end1 at h
  generalize hsg : ak_esg npre cs v P = sg at h
  simp only [Bool.and_eq_true] at h
  obtain ⟨⟨⟨⟨h1, h2⟩, h3⟩, h4⟩, h5⟩ := h
  obtain ⟨σ, g1, g2, g3, g4⟩ := ag_env_ok hS.1 h1
  have hl0 : ρ0.length = npre := by rw [hnp]; exact hρ.1
  have keep : ∀ k, k < npre → sg[k]? = some (some (ae_s k)) := fun k hk => by
    rw [← hsg]
    unfold ak_esg
    refine ag_bh_keep ?_
    split
    · exact ag_bind_keep (ag_start_get hk (by omega))
    · exact ag_start_get hk (by omega)
  have hs : sgO ρ (ρ0 ++ σ) sg := by
    intro k e hk
    by_cases hlt : k < npre
    · rw [keep k hlt] at hk
      cases hk
      rw [List.getElem?_append_left (by omega), ← hpre k hlt]
      have : ∃ x, ρ[k]? = some x := by
        rw [hpre k hlt]
        exact ⟨_, List.getElem?_eq_some_iff.mpr ⟨by omega, rfl⟩⟩
      obtain ⟨x, hx⟩ := this
      exact ⟨x, hx, aV.s hx⟩
    · rw [List.getElem?_append_right (by omega), hl0]
      refine g2 (k - npre) e ?_
      rw [List.getElem?_drop]
      rw [show npre + (k - npre) = k by omega]
      exact hk
  have hlost := hS.2.2.2.1.lost h5
  refine ⟨σ, ⟨by simp [hρ.1, g1.1], fun k y b hk hb => ?_⟩, ag_facts_ok hS.1 hs h2, ?_, ag_h_ok hS hs h4, hS.2.2.2.2.1, hS.2.2.2.2.2.1, hS.2.2.2.2.2.2, hlost.1, hlost.2⟩
  · by_cases hlt : k < npre
    · rw [List.getElem?_append_left (by omega)] at hk hb
      exact hρ.2 k y b hk hb
    · rw [List.getElem?_append_right (by omega)] at hk hb
      rw [hl0] at hk
      rw [← hnp] at hb
      exact g1.2 _ y b hk hb
  · split at h3
    · rename_i p v2 e1
      rw [e1]
      obtain ⟨u, rfl, hu⟩ := hv
      rw [hsg] at h3
      exact ⟨u, rfl, ag_ok_ok hS.1 hs h3 hu⟩
    · rename_i e1
      rw [e1]
      exact hv
    · cases h3
end AGK
