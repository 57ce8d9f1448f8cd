/-! THE ABSTRACT EVALUATOR IS RIGHT: runs and instances -/
theorem ak_bind_mem {α β : Type} {f : α → Option (List β)} : ∀ {l : List α} {r : List β}, ak_bind f l = some r → ∀ a ∈ l, ∃ s, f a = some s ∧ ∀ b ∈ s, b ∈ r
  | [], _, _, a, ha => by cases ha
  | x :: t, r, h, a, ha => by
    unfold ak_bind at h
    split at h
    · cases h
    · rename_i l hl
      split at h
      · cases h
      · rename_i r2 hr
        cases h
        rcases List.mem_cons.mp ha with rfl | ha
        · exact ⟨l, hl, fun b hb => List.mem_append_left _ hb⟩
        · obtain ⟨s, g1, g2⟩ := ak_bind_mem hr a ha
          exact ⟨s, g1, fun b hb => List.mem_append_right _ (g2 b hb)⟩
theorem ak_cont_mem {f : Option av × aP → Option (List aEnd)} : ∀ {l r : List aEnd}, ak_cont f l = some r → ∀ a ∈ l, ∃ v s, a.1 = .inl v ∧ f (v, a.2) = some s ∧ ∀ b ∈ s, b ∈ r
  | [], _, _, a, ha => by cases ha
  | (.inr _, _) :: _, _, h, _, _ => by cases h
  | (.inl v, P) :: t, r, h, a, ha => by
    unfold ak_cont at h
    split at h
    · cases h
    · rename_i l hl
      split at h
      · cases h
      · rename_i r2 hr
        cases h
        rcases List.mem_cons.mp ha with rfl | ha
        · exact ⟨v, l, rfl, hl, fun b hb => List.mem_append_left _ hb⟩
        · obtain ⟨v2, s, g0, g1, g2⟩ := ak_cont_mem hr a ha
          exact ⟨v2, s, g0, g1, fun b hb => List.mem_append_right _ (g2 b hb)⟩
section AKN
variable {E : mj_E} {al : List Nat} {G : aG} {J : va_W → Prop} {w0 : va_W} {ws : va_W}
theorem aD_int_ok {lay : List aD} {c k : Nat} {b : Int × Int} (h : aD_int lay c k = some b) : ∃ ci fs, lay[c]? = some (.inl (ci, fs)) ∧ fs[k]? = some (.inr b) := by
  unfold aD_int at h
  split at h
  · rename_i ci fs hl
    split at h
    · rename_i b2 hb
      cases h
      exact ⟨ci, fs, hl, hb⟩
    · cases h
  · cases h
theorem ak_know_ok (hL : G.1.length < 1000000) : ∀ (h : aH) {ρ : List Int} {P : aP}, aSt E al G J w0 ρ P ws → ∃ r, aSt E al G J w0 (ρ ++ r) (ak_know G.1 h P) ws
  | [], ρ, P, hS => ⟨[], by rw [List.append_nil]; exact hS⟩
  | q :: t, ρ, P, hS => by
    have one : ∃ r, aSt E al G J w0 (ρ ++ r) (match ak_isk q.1.2 with
      | some k => if 0 ≤ k then (match aD_int G.1 q.1.1 k.toNat with
        | some b => (aP_read [] P q.1.1 (ae_k k) b).2
        | none => P) else P
      | none => P) ws := by
      split
      · rename_i k hk
        split
        · rename_i hk0
          split
          · rename_i b hb
            obtain ⟨ci, fs, z1, z2⟩ := aD_int_ok hb
            obtain ⟨q2, z3, z4⟩ := hS.2.2.2.2.1.2 _ _ z1
            obtain ⟨vs, z5, z6, z7⟩ := z4
            obtain ⟨v, z8, m, rfl, z9⟩ := z7 _ _ z2
            obtain ⟨a, e⟩ := q2
            have z5 : e = .inr (ci, vs) := z5
            subst z5
            have hc : q.1.1 < 1000000 := by
              have := (List.getElem?_eq_some_iff.mp z1).1
              omega
            obtain ⟨r, g1, g2⟩ := hS.read (rules := []) (b := b) hc (aV.k k) hk0 (x := m.toInt) (Or.inl ⟨a, ci, vs, m, z3, z8, rfl⟩) z9
            exact ⟨r, g2⟩
          · exact ⟨[], by rw [List.append_nil]; exact hS⟩
        · exact ⟨[], by rw [List.append_nil]; exact hS⟩
      · exact ⟨[], by rw [List.append_nil]; exact hS⟩
    obtain ⟨r, h1⟩ := one
    obtain ⟨r2, h2⟩ := ak_know_ok hL t h1
    exact ⟨r ++ r2, by rw [← List.append_assoc]; exact h2⟩
theorem aEv.appL {ρ ρ2 : List Int} {env env2 : List (Int × Int)} (h : aEv ρ env) (h2 : aEv ρ2 env2) : aEv (ρ ++ ρ2) (env ++ env2) := by
  refine ⟨by simp [h.1, h2.1], fun k y b hk hb => ?_⟩
  have hl := h.1
  by_cases e : k < ρ.length
  · rw [List.getElem?_append_left (by omega)] at hk hb
    exact h.2 k y b hk hb
  · rw [List.getElem?_append_right (by omega)] at hk hb
    rw [← hl] at hb
    exact h2.2 _ y b hk hb
theorem aEv.tail {ρ ρ2 : List Int} {env env2 : List (Int × Int)} (h : aEv (ρ ++ ρ2) (env ++ env2)) (hl : ρ.length = env.length) : aEv ρ2 env2 := by
  refine ⟨?_, fun k y b hk hb => ?_⟩
  · have := h.1
    simp at this
    omega
  · refine h.2 (ρ.length + k) y b ?_ ?_
    · rw [List.getElem?_append_right (by omega), Nat.add_sub_cancel_left]; exact hk
    · rw [List.getElem?_append_right (by omega), hl, Nat.add_sub_cancel_left]; exact hb
theorem ak_addf_ok {ρ σ : List Int} {sg : List (Option ae)} (hs : sgO ρ σ sg) : ∀ {fs : List ae} {P : aP}, aFs σ fs → aSt E al G J w0 ρ P ws → ∃ P2, ak_addf sg fs P = some P2 ∧ aSt E al G J w0 ρ P2 ws
  | [], P, _, hS => ⟨P, rfl, hS⟩
  | f :: t, P, hf, hS => by
    have ht : aFs σ t := fun g hg => hf g (List.mem_cons_of_mem _ hg)
    unfold ak_addf
    split
    · exact ak_addf_ok hs ht hS
    · rename_i e he
      obtain ⟨v, g1, g2⟩ := ae_sub1_ok hs he
      obtain ⟨w, g3, g4⟩ := hf f List.mem_cons_self
      have := g2.uniq g3
      obtain ⟨P2, k1, k2, k3⟩ := aP_as_ok hS.1 g1 (by omega)
      rw [k1]
      exact ak_addf_ok hs ht (hS.pv k2 (by rw [k3]))
theorem ak_addh_ok {ρ σ : List Int} {sg : List (Option ae)} (hs : sgO ρ σ sg) : ∀ {h : aH} {P : aP}, aHh σ ws h → aSt E al G J w0 ρ P ws → aSt E al G J w0 ρ (ak_addh sg h P) ws
  | [], P, _, hS => hS
  | q :: t, P, hh, hS => by
    have ht : aHh σ ws t := fun g hg => hh g (List.mem_cons_of_mem _ hg)
    unfold ak_addh
    rw [List.foldl_cons]
    refine ak_addh_ok hs ht ?_
    split
    · rename_i ix v hix hv
      obtain ⟨i, g1, g2⟩ := ae_sub1_ok hs hix
      obtain ⟨x, g3, g4⟩ := ae_sub1_ok hs hv
      obtain ⟨j, y, k1, k2, k3⟩ := hh q List.mem_cons_self
      rw [k1.uniq g2, k2.uniq g4] at k3
      exact hS.addh ⟨i, x, g1, g3, k3⟩
    · exact hS
theorem ak_case_ok {ρ ρC ρ2 : List Int} {P : aP} {md : List Nat} {sg : List (Option ae)} {cs : aCase} {env : List (Int × Int)} {v : Option Value} {ws2 : va_W} (hS : aSt E al G J w0 ρ P ws) (hs : sgO ρ ρC sg) (hlen : sg.length = ρC.length) (hall : ∀ (k : Nat) (x : Int), ρC[k]? = some x → ∃ e : ae, sg[k]? = some (some e)) (hC : ρC.length = env.length)
    (h1 : aEv (ρC ++ ρ2) (env ++ cs.1)) (h2 : aFs (ρC ++ ρ2) cs.2.1) (h3 : gO E al (ρC ++ ρ2) cs.2.2.1 v) (h4 : aHh (ρC ++ ρ2) ws2 cs.2.2.2) (h5 : aWd E al G.1 ws2) (h6 : aRs G.2.1 ws2) (h7 : J ws2) (h8 : ws2.length = ws.length) (h9 : ∀ k, k ∉ md → ws2[k]? = ws[k]?) :
    ∃ a P3, ak_case P md sg cs = some (a, P3) ∧ gO E al (ρ ++ ρ2) a v ∧ aSt E al G J w0 (ρ ++ ρ2) P3 ws2 := by
  have e2 := h1.tail hC
  have hlρ := hS.1.1.1
  have S1 : aSt E al G J w0 (ρ ++ ρ2) (P.1 ++ cs.1, P.2) ws := ⟨⟨hS.1.1.appL e2, hS.1.2.1.mono, hS.1.2.2.mono⟩, hS.2.1.mono, hS.2.2.1.mono, hS.2.2.2.1.mono, hS.2.2.2.2⟩
  have S2 := S1.lose (cs := md) h8 h9 h5 h6 h7
  have hs2 : sgO (ρ ++ ρ2) (ρC ++ ρ2) (sg ++ (List.range cs.1.length).map (fun k => some (ae_s (P.1.length + k)))) := by
    intro k e hk
    by_cases hlt : k < sg.length
    · rw [List.getElem?_append_left hlt] at hk
      obtain ⟨x, g1, g2⟩ := hs k e hk
      exact ⟨x, by rw [List.getElem?_append_left (by omega)]; exact g1, g2.mono⟩
    · rw [List.getElem?_append_right (by omega), List.getElem?_map] at hk
      obtain ⟨j, g1, g2⟩ := Option.map_eq_some_iff.mp hk
      cases g2
      have hj := (List.getElem?_eq_some_iff.mp g1)
      obtain ⟨hj1, hj2⟩ := hj
      rw [List.getElem_range] at hj2
      rw [List.length_range] at hj1
      obtain ⟨x, hx⟩ : ∃ x, ρ2[k - ρC.length]? = some x := ⟨_, List.getElem?_eq_some_iff.mpr ⟨by rw [e2.1]; omega, rfl⟩⟩
      refine ⟨x, by rw [List.getElem?_append_right (by omega)]; exact hx, aV.s ?_⟩
      rw [List.getElem?_append_right (by omega), ← hlρ, Nat.add_sub_cancel_left, ← hj2, hlen]
      exact hx
  have hall2 : ∀ (k : Nat) (x : Int), (ρC ++ ρ2)[k]? = some x → ∃ e : ae, (sg ++ (List.range cs.1.length).map (fun k => some (ae_s (P.1.length + k))))[k]? = some (some e) := by
    intro k x hk
    by_cases hlt : k < sg.length
    · rw [List.getElem?_append_left (by omega)] at hk
      obtain ⟨e, he⟩ := hall k x hk
      exact ⟨e, by rw [List.getElem?_append_left hlt]; exact he⟩
    · rw [List.getElem?_append_right (by omega)] at hk
      have hl2 := (List.getElem?_eq_some_iff.mp hk).1
      rw [e2.1] at hl2
      refine ⟨ae_s (P.1.length + (k - sg.length)), ?_⟩
      rw [List.getElem?_append_right (by omega), List.getElem?_map, List.getElem?_range (by omega)]
      rfl
  obtain ⟨P2, k1, k2⟩ := ak_addf_ok hs2 h2 S2
  have k3 := ak_addh_ok hs2 h4 k2
  unfold ak_case
  dsimp only
  rw [k1]
  dsimp only
  cases hr : cs.2.2.1 with
  | none =>
    rw [hr] at h3
    exact ⟨none, _, rfl, h3, k3⟩
  | some p =>
    rw [hr] at h3
    rcases p with e | q
    · obtain ⟨u, rfl, m, rfl, hm⟩ := h3
      obtain ⟨r, g1, g2⟩ := ae_sub1_some hs2 hall2 hm
      dsimp only
      rw [g1]
      exact ⟨_, _, rfl, ⟨_, rfl, m, rfl, g2⟩, k3⟩
    · obtain ⟨u, rfl, hu⟩ := h3
      refine ⟨_, _, rfl, ⟨u, rfl, ?_⟩, k3⟩
      obtain ⟨t, j⟩ := q
      match t, hu with
      | 0, hu => exact hu
      | 1, hu => exact hu
      | 2, hu => exact hu
      | 3, hu => exact hu
      | 4, hu => exact hu
      | 5, hu => exact hu
      | 6, hu => exact hu
      | _ + 7, hu => exact hu
theorem ak_match_ok {ρ : List Int} {P : aP} {c : aCon} {as : List av} {AS : List Value} {sg : List (Option ae)} (h : ak_match P c as = some sg) (hS : aSt E al G J w0 ρ P ws) (ha : gL E al ρ as AS) :
    ∃ ρC, aEv ρC c.2.1 ∧ aFs ρC c.2.2.1 ∧ gL E al ρC c.2.2.2.1 AS ∧ aHh ρC ws c.2.2.2.2.1 ∧ sgO ρ ρC sg ∧ sg.length = ρC.length ∧ ∀ (k : Nat) (x : Int), ρC[k]? = some x → ∃ e : ae, sg[k]? = some (some e) := by
  unfold ak_match at h
  dsimp only at h
  split at h
  · rename_i hc
    cases h
    simp only [Bool.and_eq_true] at hc
    obtain ⟨⟨⟨h1, h2⟩, h3⟩, h4⟩ := hc
    obtain ⟨σ, g1, g2, g3, g4⟩ := ag_env_ok hS.1 h1
    exact ⟨σ, g1, ag_facts_ok hS.1 g2 h2, ag_list_ok hS.1 g2 h3 ha, ag_h_ok hS g2 h4, g2, g3, g4⟩
  · cases h
theorem gO.list {ρ : List Int} {v : Option av} {x : Option Value} {rest : List av} {R : List Value} (h : gO E al ρ v x) (hr : gL E al ρ rest R) : gL E al ρ (v.toList ++ rest) (x.toList ++ R) := by
  cases v with
  | none => rw [show x = none from h]; exact hr
  | some a => obtain ⟨u, rfl, hu⟩ := h; exact ⟨u, R, rfl, hu, hr⟩
/-- what an end says -/
def aQ (E : mj_E) (al : List Nat) (G : aG) (J : va_W → Prop) (w0 : va_W) (d y : Nat) (Q : Option Value → va_W → Prop) (ρ : List Int) (q : aEnd) : Prop := match q.1 with
  | .inl v => ∀ r x ws, gO E al (ρ ++ r) v x → aSt E al G J w0 (ρ ++ r) q.2 ws → Q x ws
  | .inr (pc, lv, st) => ∀ r LV ST ws, gA E al (ρ ++ r) lv LV → gL E al (ρ ++ r) st ST → aSt E al G J w0 (ρ ++ r) q.2 ws → MJ E d 0 0 (y, pc, LV, ST, ws) Q
theorem aQ.ext {d y : Nat} {Q : Option Value → va_W → Prop} {ρ r : List Int} {q : aEnd} (h : aQ E al G J w0 d y Q ρ q) : aQ E al G J w0 d y Q (ρ ++ r) q := by
  unfold aQ at h ⊢
  split at h
  · intro r2 x ws
    rw [List.append_assoc]
    exact h (r ++ r2) x ws
  · intro r2 LV ST ws
    rw [List.append_assoc]
    exact h (r ++ r2) LV ST ws
/-- what a cut says -/
def aX (E : mj_E) (al : List Nat) (G : aG) (J : va_W → Prop) (w0 : va_W) (d y npre : Nat) (mu : Option ae) (Q : Option Value → va_W → Prop) (ρ : List Int) (T : aCut) : Prop :=
  npre ≤ T.2.1.length ∧ ∀ (σ : List Int) (LV : List (Nat × Value)) (ST : List Value) (ws : va_W), (∀ k, k < npre → σ[k]? = ρ[k]?) → gA E al σ T.2.2.2.1 LV → gL E al σ T.2.2.2.2.1 ST → aSt E al G J w0 σ (aT T) ws → (∀ m x, mu = some m → aV ρ m x → ∃ x2, aV σ T.2.2.2.2.2.2.2 x2 ∧ x2 < x) → MJ E d 0 0 (y, T.1, LV, ST, ws) Q
theorem aX.ext {d y npre : Nat} {mu : Option ae} {Q : Option Value → va_W → Prop} {ρ r : List Int} {T : aCut} (h : aX E al G J w0 d y npre mu Q ρ T) (hn : npre ≤ ρ.length) : aX E al G J w0 d y npre mu Q (ρ ++ r) T := by
  refine ⟨h.1, fun σ LV ST ws h1 h2 h3 h4 h5 => h.2 σ LV ST ws (fun k hk => ?_) h2 h3 h4 (fun m x e hx => h5 m x e hx.mono)⟩
  rw [h1 k hk, List.getElem?_append_left (by omega)]
theorem ak_run_ok (hf : E.2.2.2.1.category = 1) (hL : G.1.length < 1000000) (hR : aRok G.2.1 = true) (hJ : ∀ w w' : va_W, (∀ c ∈ G.2.2.2.1, aE1 c w w') → J w → J w') (hC : ∀ c ∈ G.2.2.2.2, aCO E al G J c) :
    ∀ (f d y npre : Nat) (stops : List Nat) (cuts : List aCut) (mu : Option ae) (fl : Bool) (cd : List (Nat × Instr × Nat)) (lv : List (Nat × av)) (st : List av) (P : aP) (ends : List aEnd),
      ak_run G f d y npre stops cuts mu fl cd lv st P = some ends → (mj_l y = mj_lx y ∧ mj_r y = mj_rx y) → mj_cok y cd →
      ∀ (ρ : List Int) (LV : List (Nat × Value)) (ST : List Value) (ws w0 : va_W) (Q : Option Value → va_W → Prop), gA E al ρ lv LV → gL E al ρ st ST → aSt E al G J w0 ρ P ws → npre ≤ ρ.length → (cuts ≠ [] → ∀ σ : List Int, (∀ k, k < npre → σ[k]? = ρ[k]?) → aTb E σ G.2.2.1) →
      (∀ T ∈ cuts, aX E al G J w0 d y npre mu Q ρ T) → (∀ q ∈ ends, aQ E al G J w0 d y Q ρ q) → MJ E d 0 0 (y, mj_hd cd, LV, ST, ws) Q := by
  intro f
  induction f with
  | zero => intro d y npre stops cuts mu fl cd lv st P ends h; cases h
  | succ f ih =>
    intro d y npre stops cuts mu fl cd lv st P ends h hy hc ρ LV ST ws w0 Q hlv hst hS hnp hT hX hE
    cases cd with
    | nil => cases h
    | cons q tl =>
      obtain ⟨pc, i, n⟩ := q
      obtain ⟨hdec, htl, hn, hctl⟩ := hc
      have back : ∀ {d2 y2 npre2 : Nat} {stops2 : List Nat} {cuts2 : List aCut} {mu2 : Option ae} {fl2 : Bool} {cs2 : List (Nat × Instr × Nat)} {lv1 : List (Nat × av)} {st1 : List av} {P1 : aP} {rr : List aEnd}, ak_run G f d2 y2 npre2 stops2 cuts2 mu2 fl2 cs2 lv1 st1 P1 = some rr → cs2 ≠ [] := by
        intro d2 y2 npre2 stops2 cuts2 mu2 fl2 cs2 lv1 st1 P1 rr hr e
        subst e
        cases f <;> cases hr
      unfold ak_run at h
      split at h
      · cases h
        have := hE _ (List.mem_singleton.mpr rfl) [] LV ST ws (by rw [List.append_nil]; exact hlv) (by rw [List.append_nil]; exact hst) (by rw [List.append_nil]; exact hS)
        exact this
      split at h
      · split at h
        · rename_i hany
          cases h
          obtain ⟨T, hT1, hT2⟩ := List.any_eq_true.mp hany
          rw [Bool.and_eq_true, beq_iff_eq] at hT2
          obtain ⟨hT3, hT4⟩ := hT2
          obtain ⟨x1, x2⟩ := hX T hT1
          obtain ⟨σ, g1, g2, g3, g4, g5⟩ := ak_cut_ok hT4 x1 hlv hst hS (hT (List.ne_nil_of_mem hT1))
          have := x2 σ LV ST ws g1 g2 g3 g4 g5
          rw [hT3] at this
          exact this
        · cases h
      cases hs : ak_S G d y pc lv st P i with
      | none => rw [hs] at h; cases h
      | some r =>
        rw [hs] at h
        have K := ak_S_ok hf hL hR hJ hy.1 hy.2 hlv hst hS hn hs
        rcases r with nxt | ⟨y2, as, rest⟩ | v
        · dsimp only at h
          obtain ⟨q, q1, r, LV2, ST2, ws2, k1, k2, k3, k4⟩ := K
          obtain ⟨s, g1, g2⟩ := ak_bind_mem h q q1
          obtain ⟨cs2, hcs2, hrun, hhd⟩ : ∃ cs2, mj_cok y cs2 ∧ ak_run G f d y npre stops cuts mu true cs2 q.2.1 q.2.2.1 q.2.2.2 = some s ∧ mj_hd cs2 = q.1.getD (pc + n) := by
            cases hq : q.1 with
            | none => rw [hq] at g1; exact ⟨tl, hctl, g1, htl (back g1)⟩
            | some t => rw [hq] at g1; exact ⟨mj_jmp y t, (mj_jmp_cok y t).1, g1, (mj_jmp_cok y t).2 (back g1)⟩
          rw [← hhd] at k4
          refine MJ.nx hdec k4 (ih d y npre stops cuts mu true cs2 _ _ _ s hrun hy hcs2 (ρ ++ r) LV2 ST2 ws2 w0 Q k1 k2 k3 (by simp; omega) (fun hne σ hσ => hT hne σ (fun k hk => ?_)) (fun T hT1 => (hX T hT1).ext hnp) (fun b hb => (hE b (g2 b hb)).ext))
          rw [hσ k hk, List.getElem?_append_left (by omega)]
        · cases d with
          | zero => cases h
          | succ d2 =>
            dsimp only at h
            by_cases hy2 : y2 < mj_lawNo
            case neg => rw [if_neg hy2] at h; cases h
            rw [if_pos hy2] at h
            obtain ⟨hn3, AS, R, k1, k2, k3⟩ := K
            have next : ∀ {s : List aEnd} {v : Option av} {x : Option Value} {P2 : aP} {r : List Int} {ws2 : va_W}, ak_run G f (d2 + 1) y npre stops cuts mu true tl lv (v.toList ++ rest) P2 = some s → (∀ b ∈ s, b ∈ ends) → gO E al (ρ ++ r) v x → aSt E al G J w0 (ρ ++ r) P2 ws2 → MJ E (d2 + 1) 0 0 (y, pc + 3, LV, x.toList ++ R, ws2) Q := by
              intro s v x P2 r ws2 hr hb hv hS2
              have := ih (d2 + 1) y npre stops cuts mu true tl lv (v.toList ++ rest) P2 s hr hy hctl (ρ ++ r) LV (x.toList ++ R) ws2 w0 Q hlv.mono (hv.list k2.mono) hS2 (by simp; omega) (fun hne σ hσ => hT hne σ (fun k hk => by rw [hσ k hk, List.getElem?_append_left (by omega)])) (fun T hT1 => (hX T hT1).ext hnp) (fun b hb2 => (hE b (hb b hb2)).ext)
              rw [htl (back hr), hn3] at this
              exact this
            split at h
            · rename_i c hfind
              have hcm := List.mem_of_find?_eq_some hfind
              have hcp := List.find?_some hfind
              simp only [Bool.and_eq_true, beq_iff_eq, decide_eq_true_eq] at hcp
              obtain ⟨⟨c1, c2⟩, c3⟩ := hcp
              split at h
              · cases h
              · rename_i sg hsg
                obtain ⟨r, S1⟩ := ak_know_ok hL c.2.2.2.2.1 hS
                obtain ⟨ρC, m1, m2, m3, m4, m5, m6, m7⟩ := ak_match_ok hsg S1 k1.mono
                have hM := hC c hcm ρC AS ws m1 m2 m3 m4 hS.2.2.2.2.1 hS.2.2.2.2.2.1 hS.2.2.2.2.2.2 d2 c2
                rw [c1] at hM
                refine MJ.cl hdec k3 (d2 := d2) (mc2 := 0) (ms2 := 0) (mc3 := 0) (ms3 := 0) rfl rfl rfl hM (fun x ws2 hx => ?_)
                obtain ⟨cs, n1, r2, n2, n3, n4, n5, n6, n7, n8, n9, n10⟩ := hx
                obtain ⟨a, P3, l1, l2, l3⟩ := ak_case_ok S1 m5 m6 m7 m1.1 n2 n3 n4 n5 n6 n7 n8 n9 n10
                obtain ⟨s, g1, g2⟩ := ak_bind_mem h (a, P3) (List.mem_filterMap.mpr ⟨cs, n1, l1⟩)
                rw [List.append_assoc] at l2 l3
                exact next g1 g2 l2 l3
            · split at h
              · cases h
              · rename_i ends2 hr2
                have hM := ih d2 y2 0 [] [] none false (mj_kd y2) (ak_args 0 as) [] P ends2 hr2 (mj_li_use hy2) (mj_kd_cok y2).1 ρ (lv_args 0 AS) [] ws w0 (fun x ws2 => ∃ q ∈ ends2, ∃ v r, q.1 = .inl v ∧ gO E al (ρ ++ r) v x ∧ aSt E al G J w0 (ρ ++ r) q.2 ws2) (k1.args hf 0) rfl hS (Nat.zero_le _) (fun hne => absurd rfl hne) (fun T hT => by cases hT) (fun q hq => ?_)
                · rw [(mj_kd_cok y2).2] at hM
                  refine MJ.cl hdec k3 (d2 := d2) (mc2 := 0) (ms2 := 0) (mc3 := 0) (ms3 := 0) rfl rfl rfl hM (fun x ws2 hx => ?_)
                  obtain ⟨q, n1, v, r, n2, n3, n4⟩ := hx
                  obtain ⟨v2, s, g0, g1, g2⟩ := ak_cont_mem h q n1
                  rw [n2] at g0
                  cases g0
                  exact next g1 g2 n3 n4
                · obtain ⟨v, s, g0, g1, g2⟩ := ak_cont_mem h q hq
                  unfold aQ
                  rw [g0]
                  intro r x ws2 hx hS2
                  exact ⟨q, hq, v, r, g0, hx, hS2⟩
        · dsimp only at h
          cases h
          obtain ⟨x, k1, k2⟩ := K
          have := hE _ (List.mem_singleton.mpr rfl) [] x ws (by rw [List.append_nil]; exact k1) (by rw [List.append_nil]; exact hS)
          exact MJ.rt hdec k2 this
theorem ak_ends_ok {npre : Nat} {c : aCon} {o : Option (List aEnd)} (h : ak_ends npre c o = true) : ∃ ends, o = some ends ∧ ∀ q ∈ ends, ∃ v, q.1 = .inl v ∧ ak_end npre c.2.2.2.2.2.1 c.2.2.2.2.2.2.2 v q.2 = true := by
  cases o with
  | none => cases h
  | some ends =>
    refine ⟨ends, rfl, fun q hq => ?_⟩
    have := List.all_eq_true.mp h q hq
    split at this
    · rename_i v hv
      exact ⟨v, hv, this⟩
    · cases this
theorem aVl.of_map {ρ : List Int} {c : Int} : ∀ {l : List (Nat × Int)} {v : Int}, aVl ρ (l.map (fun q => (q.1, c * q.2))) v → ∃ w, aVl ρ l w
  | [], _, _ => ⟨0, rfl⟩
  | (k, a) :: t, _, ⟨x, u, e1, h1, _⟩ => by
    obtain ⟨w, hw⟩ := aVl.of_map h1
    exact ⟨_, x, w, e1, hw, rfl⟩
theorem ae_le0_val {ρ : List Int} {env : List (Int × Int)} (hE : aEv ρ env) {e : ae} (h : ae_le0 env (ae_neg e) = true) : ∃ x, aV ρ e x := by
  unfold ae_le0 at h
  split at h
  · rename_i u hu
    obtain ⟨w, hw⟩ := ae_ub_val hE (l := (ae_neg e).1) (c := (ae_neg e).2) (by rw [hu]; rfl)
    unfold ae_neg ae_mul at hw
    rw [if_neg (by decide)] at hw
    obtain ⟨w2, hw2⟩ := aVl.of_map hw
    exact ⟨w2 + e.2, by show aVl ρ e.1 (w2 + e.2 - e.2); rw [Int.add_sub_cancel]; exact hw2⟩
  · cases h
/-- an instance that is checked gives its contract -/
theorem ak_inst_ok (hf : E.2.2.2.1.category = 1) (hL : G.1.length < 1000000) (hR : aRok G.2.1 = true) (hJ : ∀ w w' : va_W, (∀ c ∈ G.2.2.2.1, aE1 c w w') → J w → J w') (hC : ∀ c ∈ G.2.2.2.2, aCO E al G J c) (hT : ∀ σ : List Int, aTb E σ G.2.2.1) {f : Nat} {q : aInst} (hy : q.1.1 < mj_lawNo) (h : ak_inst G f q = true) : aCO E al G J q.1 := by
  obtain ⟨c, cuts⟩ := q
  intro ρ0 as ws0 a1 a2 a3 a4 a5 a6 a7 d hd
  unfold ak_inst at h
  dsimp only at h hy
  rw [Bool.and_eq_true] at h
  obtain ⟨h1, h2⟩ := h
  have hy2 := mj_li_use hy
  have hl0 : ρ0.length = c.2.1.length := a1.1
  have fin : ∀ {o : Option (List aEnd)} {ends : List aEnd} {ρ : List Int}, ak_ends c.2.1.length c o = true → o = some ends → (∀ k, k < c.2.1.length → ρ[k]? = ρ0[k]?) → c.2.1.length ≤ ρ.length → ∀ q ∈ ends, aQ E al G J ws0 c.2.2.2.2.2.2.1 c.1 (aCs E al G J c ρ0 ws0) ρ q := by
    intro o ends ρ ho he hpre hlen q hq
    obtain ⟨ends2, g1, g2⟩ := ak_ends_ok ho
    rw [he] at g1
    cases g1
    obtain ⟨v, g3, g4⟩ := g2 q hq
    unfold aQ
    rw [g3]
    intro r x ws hv hS
    obtain ⟨cs, k1, k2⟩ := List.any_eq_true.mp g4
    obtain ⟨r2, m⟩ := ak_end1_ok (npre := c.2.1.length) rfl k2 a1 (fun k hk => by rw [List.getElem?_append_left (by omega)]; exact hpre k hk) hS hv
    exact ⟨cs, k1, r2, m⟩
  have main : ∀ (N : Nat) (T : aCut), T ∈ cuts → ∀ (σ : List Int) (LV : List (Nat × Value)) (ST : List Value) (ws : va_W) (x : Int), x.toNat ≤ N → (∀ k, k < c.2.1.length → σ[k]? = ρ0[k]?) → gA E al σ T.2.2.2.1 LV → gL E al σ T.2.2.2.2.1 ST → aSt E al G J ws0 σ (aT T) ws → aV σ T.2.2.2.2.2.2.2 x → MJ E c.2.2.2.2.2.2.1 0 0 (c.1, T.1, LV, ST, ws) (aCs E al G J c ρ0 ws0) := by
    intro N
    induction N with
    | zero =>
      intro T hT1 σ LV ST ws x hx b1 b2 b3 b4 b5
      have := List.all_eq_true.mp h2 T hT1
      rw [Bool.and_eq_true, Bool.and_eq_true] at this
      obtain ⟨⟨t1, t2⟩, t3⟩ := this
      have t2 := of_decide_eq_true t2
      have hx0 := ae_le0_ok b4.1.1 t1 b5.neg
      obtain ⟨ends, e1, e2⟩ := ak_ends_ok t3
      have := ak_run_ok hf hL hR hJ hC f _ _ _ _ _ _ _ _ _ _ _ ends e1 hy2 (mj_jmp_cok c.1 T.1).1 σ LV ST ws ws0 (aCs E al G J c ρ0 ws0) b2 b3 b4 (by have := b4.1.1.1; show c.2.1.length ≤ σ.length; rw [this]; exact t2) (fun _ σ2 _ => hT σ2) (fun T2 hT2 => ⟨by
          have := List.all_eq_true.mp h2 T2 hT2
          rw [Bool.and_eq_true, Bool.and_eq_true] at this
          exact of_decide_eq_true this.1.2, fun σ2 LV2 ST2 ws2 d1 d2 d3 d4 d5 => by
          obtain ⟨x2, d6, d7⟩ := d5 _ x rfl b5
          have t4 := List.all_eq_true.mp h2 T2 hT2
          rw [Bool.and_eq_true, Bool.and_eq_true] at t4
          have := ae_le0_ok d4.1.1 t4.1.1 d6.neg
          omega⟩) (fin t3 e1 b1 (by have := b4.1.1.1; rw [this]; exact t2))
      rw [(mj_jmp_cok c.1 T.1).2 (by
        intro e
        rw [e] at e1
        cases f <;> cases e1)] at this
      exact this
    | succ N ih =>
      intro T hT1 σ LV ST ws x hx b1 b2 b3 b4 b5
      have := List.all_eq_true.mp h2 T hT1
      rw [Bool.and_eq_true, Bool.and_eq_true] at this
      obtain ⟨⟨t1, t2⟩, t3⟩ := this
      have t2 := of_decide_eq_true t2
      have hx0 := ae_le0_ok b4.1.1 t1 b5.neg
      obtain ⟨ends, e1, e2⟩ := ak_ends_ok t3
      have := ak_run_ok hf hL hR hJ hC f _ _ _ _ _ _ _ _ _ _ _ ends e1 hy2 (mj_jmp_cok c.1 T.1).1 σ LV ST ws ws0 (aCs E al G J c ρ0 ws0) b2 b3 b4 (by have := b4.1.1.1; show c.2.1.length ≤ σ.length; rw [this]; exact t2) (fun _ σ2 _ => hT σ2) (fun T2 hT2 => ⟨by
          have := List.all_eq_true.mp h2 T2 hT2
          rw [Bool.and_eq_true, Bool.and_eq_true] at this
          exact of_decide_eq_true this.1.2, fun σ2 LV2 ST2 ws2 d1 d2 d3 d4 d5 => by
          obtain ⟨x2, d6, d7⟩ := d5 _ x rfl b5
          exact ih T2 hT2 σ2 LV2 ST2 ws2 x2 (by omega) (fun k hk => by rw [d1 k hk]; exact b1 k hk) d2 d3 d4 d6⟩) (fin t3 e1 b1 (by have := b4.1.1.1; rw [this]; exact t2))
      rw [(mj_jmp_cok c.1 T.1).2 (by
        intro e
        rw [e] at e1
        cases f <;> cases e1)] at this
      exact this
  obtain ⟨ends, e1, e2⟩ := ak_ends_ok h1
  have := ak_run_ok hf hL hR hJ hC f _ _ _ _ _ _ _ _ _ _ _ ends e1 hy2 (mj_kd_cok c.1).1 ρ0 (lv_args 0 as) [] ws0 ws0 (aCs E al G J c ρ0 ws0) (a3.args hf 0) rfl ⟨⟨a1, a2, fun z hz => by cases hz⟩, hT ρ0, a4, rfl, a5, a6, a7⟩ (by omega) (fun _ σ2 _ => hT σ2) (fun T2 hT2 => ⟨by
      have := List.all_eq_true.mp h2 T2 hT2
      rw [Bool.and_eq_true, Bool.and_eq_true] at this
      exact of_decide_eq_true this.1.2, fun σ2 LV2 ST2 ws2 d1 d2 d3 d4 d5 => by
      have hx : ∃ x, aV σ2 T2.2.2.2.2.2.2.2 x := by
        have t4 := List.all_eq_true.mp h2 T2 hT2
        rw [Bool.and_eq_true, Bool.and_eq_true] at t4
        exact ae_le0_val d4.1.1 t4.1.1
      obtain ⟨x, hx⟩ := hx
      exact main x.toNat T2 hT2 σ2 LV2 ST2 ws2 x (Nat.le_refl _) d1 d2 d3 d4 hx⟩) (fin h1 e1 (fun _ _ => rfl) (by omega))
  rw [(mj_kd_cok c.1).2] at this
  exact this.weaken hd (Nat.le_refl _) (Nat.le_refl _) (fun _ _ z => z)
end AKN
