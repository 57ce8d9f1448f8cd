/-! PIECES BY HAND: the abstract evaluator runs a straight piece; loops and some calls are done by hand -/
/-- what is known at the beginning of a piece -/
def hW (E : mj_E) (al : List Nat) (G : aG) (J : va_W → Prop) (ρ : List Int) (env : List (Int × Int)) (fs : List ae) (h : aH) (ws : va_W) : Prop :=
  aEv ρ env ∧ aFs ρ fs ∧ aHh ρ ws h ∧ aWd E al G.1 ws ∧ aRs G.2.1 ws ∧ J ws
/-- from a place on, with what is known of locals and stack -/
def hG (E : mj_E) (al : List Nat) (d y pc : Nat) (lv : List (Nat × av)) (st : List av) (ρ : List Int) (ws : va_W) (Q : Option Value → va_W → Prop) : Prop :=
  ∀ LV ST, gA E al ρ lv LV → gL E al ρ st ST → MJ E d 0 0 (y, pc, LV, ST, ws) Q
/-- what stands throughout -/
def hOk (E : mj_E) (al : List Nat) (G : aG) (J : va_W → Prop) : Prop :=
  E.2.2.2.1.category = 1 ∧ G.1.length < 1000000 ∧ aRok G.2.1 = true ∧ (∀ w w' : va_W, (∀ c ∈ G.2.2.2.1, aE1 c w w') → J w → J w') ∧ (∀ c ∈ G.2.2.2.2, aCO E al G J c) ∧ ∀ σ : List Int, aTb E σ G.2.2.1
section HP
variable {E : mj_E} {al : List Nat} {G : aG} {J : va_W → Prop} {ρ : List Int} {ws : va_W} {Q : Option Value → va_W → Prop}
theorem hW.st (H : hOk E al G J) {env : List (Int × Int)} {fs : List ae} {h : aH} (h0 : hW E al G J ρ env fs h ws) : aSt E al G J ws ρ (env, fs, [], h, []) ws :=
  ⟨⟨h0.1, h0.2.1, fun z hz => by cases hz⟩, H.2.2.2.2.2 ρ, h0.2.2.1, rfl, h0.2.2.2⟩
/-- a piece of code: its ends are cuts, places at which it stops, or answers -/
theorem hp_run (H : hOk E al G J) {f d y pc : Nat} {env : List (Int × Int)} {fs : List ae} {h : aH} {lv : List (Nat × av)} {st : List av} {stops : List Nat} {Bs : List aCut} {ends : List aEnd} (hy : y < mj_lawNo)
    (hr : ak_run G f d y env.length stops Bs none false (mj_jmp y pc) lv st (env, fs, [], h, []) = some ends) (hW0 : hW E al G J ρ env fs h ws)
    (hB : ∀ T ∈ Bs, env.length ≤ T.2.1.length ∧ ∀ σ ws2, (∀ k, k < env.length → σ[k]? = ρ[k]?) → hW E al G J σ T.2.1 T.2.2.1 T.2.2.2.2.2.1 ws2 → ws2.length = ws.length → (∀ k, k ∉ T.2.2.2.2.2.2.1 → ws2[k]? = ws[k]?) → hG E al d y T.1 T.2.2.2.1 T.2.2.2.2.1 σ ws2 Q)
    (hE : ∀ q ∈ ends, aQ E al G J ws d y Q ρ q) : hG E al d y pc lv st ρ ws Q := by
  intro LV ST h1 h2
  have := ak_run_ok H.1 H.2.1 H.2.2.1 H.2.2.2.1 H.2.2.2.2.1 f d y env.length stops Bs none false _ lv st _ ends hr (mj_li_use hy) (mj_jmp_cok y pc).1 ρ LV ST ws ws Q h1 h2 (hW0.st H) (by rw [hW0.1.1]; exact Nat.le_refl _) (fun _ σ _ => H.2.2.2.2.2 σ) (fun T hT => ⟨(hB T hT).1, fun σ LV2 ST2 ws2 k1 k2 k3 k4 _ => by
    have fr := k4.2.2.2.1.frame
    exact (hB T hT).2 σ ws2 k1 ⟨k4.1.1, k4.1.2.1, k4.2.2.1, k4.2.2.2.2⟩ fr.1 (fun k hk => fr.2 k (fun q hq e => hk (by
      obtain ⟨c, hc, rfl⟩ := List.mem_map.mp hq
      rw [← e]
      exact hc))) LV2 ST2 k2 k3⟩) hE
  rw [(mj_jmp_cok y pc).2 (by
    intro e
    rw [e] at hr
    cases f <;> cases hr)] at this
  exact this
/-- a call that stands here -/
def ak_callat (G : aG) (d y pc : Nat) (lv : List (Nat × av)) (st : List av) (P : aP) : Option (Nat × List av × List av) := match mj_jmp y pc with
  | (_, i, _) :: _ => (match ak_S G d y pc lv st P i with
    | some (.inr (.inl r)) => some r
    | _ => none)
  | [] => none
/-- a call by hand of a method that answers nothing -/
theorem hp_call (H : hOk E al G J) {d y pc y2 : Nat} {env : List (Int × Int)} {fs : List ae} {h : aH} {lv : List (Nat × av)} {st as rest : List av} {R : va_W → Prop} (hy : y < mj_lawNo)
    (hs : ak_callat G (d + 1) y pc lv st (env, fs, [], h, []) = some (y2, as, rest)) (hW0 : hW E al G J ρ env fs h ws)
    (hc : ∀ AS, gL E al ρ as AS → MJ E d 0 0 (mj_in0 y2 AS ws) (fun v w => v = none ∧ R w))
    (hk : ∀ w, R w → hG E al (d + 1) y (pc + 3) lv rest ρ w Q) : hG E al (d + 1) y pc lv st ρ ws Q := by
  intro LV ST h1 h2
  unfold ak_callat at hs
  have hj := mj_jmp_cok y pc
  split at hs
  · rename_i p i n tl hm
    split at hs
    · rename_i r hr
      cases hs
      rw [hm] at hj
      have hp : p = pc := hj.2 (by simp)
      subst hp
      obtain ⟨hdec, -, hn, -⟩ := hj.1
      obtain ⟨hn3, AS, R2, k1, k2, k3⟩ := ak_S_ok H.1 H.2.1 H.2.2.1 H.2.2.2.1 (mj_li_use hy).1 (mj_li_use hy).2 h1 h2 (hW0.st H) hn hr
      refine MJ.cl hdec k3 (d2 := d) (mc2 := 0) (ms2 := 0) (mc3 := 0) (ms3 := 0) rfl rfl rfl (hc AS k1) (fun v w hv => ?_)
      obtain ⟨rfl, hw⟩ := hv
      exact hk w hw LV R2 h1 k2
    · cases hs
  · cases hs
theorem hG.app {d y pc : Nat} {lv : List (Nat × av)} {st : List av} {r : List Int} (h : hG E al d y pc lv st (ρ ++ r) ws Q) : hG E al d y pc lv st ρ ws Q :=
  fun LV ST h1 h2 => h LV ST h1.mono h2.mono
theorem hG.in0 (hf : E.2.2.2.1.category = 1) {d y : Nat} {as : List av} {AS : List Value} (h : hG E al d y 0 (ak_args 0 as) [] ρ ws Q) (ha : gL E al ρ as AS) : MJ E d 0 0 (mj_in0 y AS ws) Q :=
  h _ _ (ha.args hf 0) rfl
/-- a return without an answer -/
theorem hp_ret (H : hOk E al G J) {d y pc : Nat} {lv : List (Nat × av)} (hy : y < mj_lawNo) (hr : (mj_jmp y pc).map (·.2.1) = [.return_] ++ ((mj_jmp y pc).map (·.2.1)).drop 1) (hx : mj_rx y = none) (hq : Q none ws) : hG E al d y pc lv [] ρ ws Q := by
  intro LV ST h1 h2
  have h2 : ST = [] := h2
  subst h2
  have hj := mj_jmp_cok y pc
  cases hm : mj_jmp y pc with
  | nil => rw [hm] at hr; simp at hr
  | cons q tl =>
    obtain ⟨p, i, n⟩ := q
    rw [hm] at hr hj
    have hi : i = .return_ := by simpa using hr
    subst hi
    have hp : p = pc := hj.2 (by simp)
    subst hp
    obtain ⟨hdec, -, hn, -⟩ := hj.1
    have hn : n = 1 := by simpa [mj_isw, mj_len] using hn
    subst hn
    exact MJ.rt hdec (v := none) ⟨rfl, rfl, by rw [(mj_li_use hy).2, hx], rfl⟩ hq
/-! values again, under another valuation -/
theorem gV.re {ρ2 : List Int} {e e2 : ae} {x : Int} {v : Value} (h1 : aV ρ e x) (h2 : aV ρ2 e2 x) (h : gV E al ρ (.inl e) v) : gV E al ρ2 (.inl e2) v := by
  obtain ⟨n, rfl, hn⟩ := h
  exact ⟨n, rfl, by rw [hn.uniq h1]; exact h2⟩
theorem gV.ref {ρ2 : List Int} {c : Nat} {v : Value} (h : gV E al ρ (.inr (0, c)) v) : gV E al ρ2 (.inr (0, c)) v := h
/-- locals, pointwise -/
theorem gA.one {ρ2 : List Int} {k : Nat} {x x2 : av} {l l2 : List (Nat × av)} {vs : List (Nat × Value)} (h : gA E al ρ ((k, x) :: l) vs) (h1 : ∀ v, gV E al ρ x v → gV E al ρ2 x2 v) (h2 : gA E al ρ l vs → gA E al ρ2 l2 vs) : gA E al ρ2 ((k, x2) :: l2) vs := by
  intro q hq
  rcases List.mem_cons.mp hq with rfl | hq
  · obtain ⟨v, g1, g2⟩ := h (k, x) List.mem_cons_self
    exact ⟨v, g1, h1 v g2⟩
  · exact h2 (fun q hq => h q (List.mem_cons_of_mem _ hq)) q hq
theorem gA.nil {vs : List (Nat × Value)} : gA E al ρ [] vs := fun q hq => by cases hq
theorem gA.tl {q : Nat × av} {l : List (Nat × av)} {vs : List (Nat × Value)} (h : gA E al ρ (q :: l) vs) : gA E al ρ l vs := fun p hp => h p (List.mem_cons_of_mem _ hp)
/-! shifts -/
def ae_sh (n : Nat) (e : ae) : ae := (e.1.map (fun q => (n + q.1, q.2)), e.2)
theorem aVl.sh {r : List Int} : ∀ {l : List (Nat × Int)} {v : Int}, aVl r l v → aVl (ρ ++ r) (l.map (fun q => (ρ.length + q.1, q.2))) v
  | [], _, h => h
  | (k, a) :: t, _, ⟨x, w, e1, h1, e2⟩ => ⟨x, w, by rw [List.getElem?_append_right (by omega), Nat.add_sub_cancel_left]; exact e1, h1.sh, e2⟩
theorem aV.sh {r : List Int} {e : ae} {v : Int} (h : aV r e v) : aV (ρ ++ r) (ae_sh ρ.length e) v := aVl.sh h
theorem aFs.sh {r : List Int} {fs : List ae} (h : aFs r fs) : aFs (ρ ++ r) (fs.map (ae_sh ρ.length)) := fun f hf => by
  obtain ⟨g, hg, rfl⟩ := List.mem_map.mp hf
  obtain ⟨v, h1, h2⟩ := h g hg
  exact ⟨v, h1.sh, h2⟩
theorem aHh.sh {r : List Int} {h : aH} (hh : aHh r ws h) : aHh (ρ ++ r) ws (h.map (fun q => ((q.1.1, ae_sh ρ.length q.1.2), ae_sh ρ.length q.2))) := fun f hf => by
  obtain ⟨g, hg, rfl⟩ := List.mem_map.mp hf
  obtain ⟨i, x, h1, h2, h3⟩ := hh g hg
  exact ⟨i, x, h1.sh, h2.sh, h3⟩
theorem aFs.app {fs gs : List ae} (h1 : aFs ρ fs) (h2 : aFs ρ gs) : aFs ρ (fs ++ gs) := fun f hf => by
  rcases List.mem_append.mp hf with hf | hf
  · exact h1 f hf
  · exact h2 f hf
theorem aHh.app {h g : aH} (h1 : aHh ρ ws h) (h2 : aHh ρ ws g) : aHh ρ ws (h ++ g) := fun f hf => by
  rcases List.mem_append.mp hf with hf | hf
  · exact h1 f hf
  · exact h2 f hf
/-! rows of ints, as functions -/
def jR (ws : va_W) (c : Nat) : Nat → Int32 := match ws[c]? with
  | some (_, .inl (_, _, .inl f)) => f
  | _ => fun _ => 0
theorem jR.at {w w' : va_W} {c : Nat} (h : w[c]? = w'[c]?) : jR w c = jR w' c := by unfold jR; rw [h]
theorem jR.row {w : va_W} {c a : Nat} {cl : ClassId} {N : Nat} {f : Nat → Int32} (h : w[c]? = some (a, .inl (cl, N, .inl f))) : jR w c = f := by unfold jR; rw [h]
theorem jR.sl {w : va_W} {c i : Nat} {x : Int} {a : Nat} {cl : ClassId} {N : Nat} {f : Nat → Int32} (hw : w[c]? = some (a, .inl (cl, N, .inl f))) (h : aSl w c i x) : i < N ∧ (jR w c i).toInt = x := by
  rcases h with ⟨b, ci, vs, n, e1, e2, e3⟩ | ⟨b, bl, M, g, e1, e2, e3⟩
  · rw [hw] at e1; cases e1
  · rw [hw] at e1; cases e1
    exact ⟨e2, by rw [jR.row hw]; exact e3⟩
theorem jR.pt {w1 w : va_W} {c i : Nat} {x : Int} (h : aPt w1 c i x w) (hc : ∃ a cl N f, w1[c]? = some (a, .inl (cl, N, .inl f))) : ∃ n : Int32, n.toInt = x ∧ jR w c = upd (jR w1 c) i n := by
  obtain ⟨a0, cl0, N0, f0, e0⟩ := hc
  rcases h with ⟨a, ci, vs, n, e1, e2, e3, rfl⟩ | ⟨a, cl, N, f, n, e1, e2, e3, rfl⟩
  · rw [e0] at e1; cases e1
  · refine ⟨n, e3, ?_⟩
    rw [jR.row e1, jR.row (List.getElem?_set_self (List.getElem?_eq_some_iff.mp e1).1)]
/-- a row of the layout -/
theorem aWd.row {lay : List aD} (h : aWd E al lay ws) {c N : Nat} {cols : List (Int × Int)} (hc : lay[c]? = some (.inr (0, N, cols))) : ∃ a, ws[c]? = some (a, .inl (E.2.2.2.2.1, N, .inl (jR ws c))) ∧ aRw cols N (jR ws c) := by
  obtain ⟨q, h1, f, h2, h3⟩ := h.2 c _ hc
  obtain ⟨a, e⟩ := q
  have h2 : e = _ := h2
  subst h2
  rw [jR.row h1]
  exact ⟨a, h1, h3⟩
end HP
/-! pieces with cuts of their own -/
def hp_ok0 (o : Option (List aEnd)) : Bool := match o with
  | some [] => true
  | _ => false
theorem hp_ok0_ok {o : Option (List aEnd)} (h : hp_ok0 o = true) : o = some [] := by
  unfold hp_ok0 at h
  split at h
  · rfl
  · cases h
def hp_e (G : aG) (f d y pc : Nat) (env : List (Int × Int)) (fs : List ae) (h : aH) (lv : List (Nat × av)) (st : List av) (Cs : List aCut) : Bool :=
  hp_ok0 (ak_run G f d y env.length [] Cs none false (mj_jmp y pc) lv st (env, fs, [], h, []))
def hp_c (G : aG) (f d y npre : Nat) (Cs : List aCut) (T : aCut) : Bool :=
  ae_le0 T.2.1 (ae_neg T.2.2.2.2.2.2.2) && hp_ok0 (ak_run G f d y npre [] Cs (some T.2.2.2.2.2.2.2) false (mj_jmp y T.1) T.2.2.2.1 T.2.2.2.2.1 (T.2.1, T.2.2.1, [], T.2.2.2.2.2.1, T.2.2.2.2.2.2.1.map (fun c => (c, none))))
section HP2
variable {E : mj_E} {al : List Nat} {G : aG} {J : va_W → Prop} {ρ : List Int} {ws : va_W} {Q : Option Value → va_W → Prop}
theorem hp_prog (H : hOk E al G J) {f d y pc : Nat} {env : List (Int × Int)} {fs : List ae} {h : aH} {lv : List (Nat × av)} {st : List av} (Is Bs : List aCut) (hy : y < mj_lawNo)
    (h1 : hp_e G f d y pc env fs h lv st (Is ++ Bs) = true) (h2 : Is.all (hp_c G f d y env.length (Is ++ Bs)) = true) (h3 : (Is ++ Bs).all (fun T => decide (env.length ≤ T.2.1.length)) = true) (hW0 : hW E al G J ρ env fs h ws)
    (hB : ∀ T ∈ Bs, ∀ σ ws2, (∀ k, k < env.length → σ[k]? = ρ[k]?) → hW E al G J σ T.2.1 T.2.2.1 T.2.2.2.2.2.1 ws2 → ws2.length = ws.length → (∀ k, k ∉ T.2.2.2.2.2.2.1 → ws2[k]? = ws[k]?) → hG E al d y T.1 T.2.2.2.1 T.2.2.2.2.1 σ ws2 Q) : hG E al d y pc lv st ρ ws Q := by
  have hlen : ∀ T ∈ Is ++ Bs, env.length ≤ T.2.1.length := fun T hT => of_decide_eq_true (List.all_eq_true.mp h3 T hT)
  have ext : ∀ {T : aCut} {σ : List Int} {LV : List (Nat × Value)} {ST : List Value} {ws2 : va_W}, T ∈ Bs → (∀ k, k < env.length → σ[k]? = ρ[k]?) → gA E al σ T.2.2.2.1 LV → gL E al σ T.2.2.2.2.1 ST → aSt E al G J ws σ (aT T) ws2 → MJ E d 0 0 (y, T.1, LV, ST, ws2) Q := by
    intro T σ LV ST ws2 hT k1 k2 k3 k4
    have fr := k4.2.2.2.1.frame
    exact hB T hT σ ws2 k1 ⟨k4.1.1, k4.1.2.1, k4.2.2.1, k4.2.2.2.2⟩ fr.1 (fun k hk => fr.2 k (fun q hq e => hk (by
      obtain ⟨c, hc, rfl⟩ := List.mem_map.mp hq
      rw [← e]
      exact hc))) LV ST k2 k3
  have main : ∀ (N : Nat) (T : aCut), T ∈ Is → ∀ (σ : List Int) (LV : List (Nat × Value)) (ST : List Value) (ws2 : va_W) (x : Int), x.toNat < N → (∀ k, k < env.length → σ[k]? = ρ[k]?) → gA E al σ T.2.2.2.1 LV → gL E al σ T.2.2.2.2.1 ST → aSt E al G J ws σ (aT T) ws2 → aV σ T.2.2.2.2.2.2.2 x → MJ E d 0 0 (y, T.1, LV, ST, ws2) Q := by
    intro N
    induction N with
    | zero => intro T _ σ LV ST ws2 x hx; omega
    | succ N ih =>
      intro T hT σ LV ST ws2 x hx b1 b2 b3 b4 b5
      have c0 := List.all_eq_true.mp h2 T hT
      unfold hp_c at c0
      rw [Bool.and_eq_true] at c0
      have hx0 := ae_le0_ok b4.1.1 c0.1 b5.neg
      have hr := hp_ok0_ok c0.2
      have := ak_run_ok H.1 H.2.1 H.2.2.1 H.2.2.2.1 H.2.2.2.2.1 f d y env.length [] (Is ++ Bs) _ false _ _ _ _ [] hr (mj_li_use hy) (mj_jmp_cok y T.1).1 σ LV ST ws2 ws Q b2 b3 b4 (by
          have e1 := b4.1.1.1
          have e2 := hlen T (List.mem_append_left _ hT)
          rw [e1]; exact e2) (fun _ σ2 _ => H.2.2.2.2.2 σ2) (fun T2 hT2 => ⟨hlen T2 hT2, fun σ2 LV2 ST2 ws3 d1 d2 d3 d4 d5 => by
          have d6 : ∀ k, k < env.length → σ2[k]? = ρ[k]? := fun k hk => by rw [d1 k hk]; exact b1 k hk
          rcases List.mem_append.mp hT2 with hI | hB2
          · obtain ⟨x2, d7, d8⟩ := d5 _ x rfl b5
            have t4 := List.all_eq_true.mp h2 T2 hI
            unfold hp_c at t4
            rw [Bool.and_eq_true] at t4
            have := ae_le0_ok d4.1.1 t4.1 d7.neg
            exact ih T2 hI σ2 LV2 ST2 ws3 x2 (by omega) d6 d2 d3 d4 d7
          · exact ext hB2 d6 d2 d3 d4⟩) (fun q hq => by cases hq)
      rw [(mj_jmp_cok y T.1).2 (by
        intro e
        rw [e] at hr
        cases f <;> cases hr)] at this
      exact this
  refine hp_run H hy (hp_ok0_ok h1) hW0 (fun T hT => ⟨hlen T hT, fun σ ws2 k1 k2 k3 k4 => ?_⟩) (fun q hq => by cases hq)
  rcases List.mem_append.mp hT with hI | hB2
  · intro LV ST k5 k6
    have t4 := List.all_eq_true.mp h2 T hI
    unfold hp_c at t4
    rw [Bool.and_eq_true] at t4
    obtain ⟨x, hx⟩ := ae_le0_val k2.1 t4.1
    refine main (x.toNat + 1) T hI σ LV ST ws2 x (by omega) k1 k5 k6 ⟨⟨k2.1, k2.2.1, fun z hz => by cases hz⟩, H.2.2.2.2.2 σ, k2.2.2.1, aLg_none _ k3 k4, k2.2.2.2⟩ hx
  · exact hB T hB2 σ ws2 k1 k2 k3 k4
/-! expressions' values as functions -/
def ae_el (σ : List Int) : List (Nat × Int) → Int
  | [] => 0
  | (k, a) :: t => a * σ.getD k 0 + ae_el σ t
def ae_ev (σ : List Int) (e : ae) : Int := ae_el σ e.1 + e.2
theorem aVl.ev {σ : List Int} : ∀ {l : List (Nat × Int)} {v : Int}, aVl σ l v → v = ae_el σ l
  | [], _, h => h
  | (k, a) :: t, _, ⟨x, w, e1, h1, e2⟩ => by
    rw [e2, h1.ev]
    show _ = a * σ.getD k 0 + ae_el σ t
    rw [List.getD_eq_getElem?_getD, e1]
    rfl
theorem aV.ev {σ : List Int} {e : ae} {v : Int} (h : aV σ e v) : v = ae_ev σ e := by
  have := aVl.ev h
  unfold ae_ev
  omega
theorem aVl.mk {σ : List Int} : ∀ {l : List (Nat × Int)}, l.all (fun q => decide (q.1 < σ.length)) = true → aVl σ l (ae_el σ l)
  | [], _ => rfl
  | (k, a) :: t, h => by
    rw [List.all_cons, Bool.and_eq_true] at h
    have hk := of_decide_eq_true h.1
    refine ⟨σ.getD k 0, _, ?_, aVl.mk h.2, rfl⟩
    rw [List.getD_eq_getElem?_getD, List.getElem?_eq_getElem hk]
    rfl
theorem aV.mk {σ : List Int} {e : ae} (h : e.1.all (fun q => decide (q.1 < σ.length)) = true) : aV σ e (ae_ev σ e) := by
  show aVl σ e.1 (ae_ev σ e - e.2)
  unfold ae_ev
  rw [Int.add_sub_cancel]
  exact aVl.mk h
theorem aFs.ev {σ : List Int} {fs : List ae} (h : aFs σ fs) {f : ae} (hf : f ∈ fs) : ae_ev σ f ≤ 0 := by
  obtain ⟨v, h1, h2⟩ := h f hf
  rw [← h1.ev]
  exact h2
theorem aFs.mk {σ : List Int} : ∀ {fs : List ae}, fs.all (fun f => f.1.all (fun q => decide (q.1 < σ.length))) = true → (∀ f ∈ fs, ae_ev σ f ≤ 0) → aFs σ fs := fun h1 h2 f hf => ⟨ae_ev σ f, aV.mk (List.all_eq_true.mp h1 f hf), h2 f hf⟩
theorem aEv.ev {σ : List Int} {env : List (Int × Int)} (h : aEv σ env) {k : Nat} {b : Int × Int} (hb : env[k]? = some b) : b.1 ≤ σ.getD k 0 ∧ σ.getD k 0 ≤ b.2 := by
  obtain ⟨x, h1, h2⟩ := h.get hb
  rw [List.getD_eq_getElem?_getD, h1]
  exact h2
def hEv : List Int → List (Int × Int) → Prop
  | [], [] => True
  | x :: σ, b :: env => (b.1 ≤ x ∧ x ≤ b.2) ∧ hEv σ env
  | _, _ => False
theorem hEv.ok : ∀ {σ : List Int} {env : List (Int × Int)}, hEv σ env → aEv σ env
  | [], [], _ => ⟨rfl, fun k x b h => by cases h⟩
  | [], _ :: _, h => h.elim
  | _ :: _, [], h => h.elim
  | x :: σ, b :: env, h => by
    have := hEv.ok h.2
    refine ⟨by simp [this.1], fun k y c hk hc => ?_⟩
    cases k with
    | zero => cases hk; cases hc; exact h.1
    | succ k => exact this.2 k y c hk hc
theorem aHh.sl {σ : List Int} {h : aH} (hh : aHh σ ws h) {c : Nat} {i v : ae} (hm : ((c, i), v) ∈ h) (hc : c < 1000000) : 0 ≤ ae_ev σ i ∧ aSl ws c (ae_ev σ i).toNat (ae_ev σ v) := by
  obtain ⟨j, x, h1, h2, h3⟩ := hh _ hm
  rw [if_pos hc] at h3
  rw [← h1.ev, ← h2.ev]
  exact h3
/-- an int field of object 99 -/
def jF (ws : va_W) (i : Nat) : Int := match ws[(99 : Nat)]? with
  | some (_, .inr (_, vs)) => (match vs[i]? with
    | some (.int n) => n.toInt
    | _ => 0)
  | _ => 0
theorem jF.sl {i : Nat} {x : Int} (hw : ∃ a e, ws[99]? = some (a, .inr e)) (h : aSl ws 99 i x) : x = jF ws i := by
  obtain ⟨a, e, hw⟩ := hw
  rcases h with ⟨b, ci, vs, n, e1, e2, e3⟩ | ⟨b, bl, M, g, e1, e2, e3⟩
  · unfold jF
    rw [e1]
    dsimp only
    rw [e2, ← e3]
  · rw [hw] at e1; cases e1
theorem jF.at {w w' : va_W} (h : w[99]? = w'[99]?) (i : Nat) : jF w i = jF w' i := by unfold jF; rw [h]
/-- the layout's int fields of object 99 -/
theorem aWd.fld {lay : List aD} (h : aWd E al lay ws) {ci : Nat} {fs : List (Nat ⊕ (Int × Int))} (hc : lay[99]? = some (.inl (ci, fs))) : (∃ a e, ws[99]? = some (a, .inr e)) ∧ ∀ (i : Nat) (b : Int × Int), fs[i]? = some (.inr b) → aSl ws 99 i (jF ws i) ∧ b.1 ≤ jF ws i ∧ jF ws i ≤ b.2 := by
  obtain ⟨q, h1, vs, h2, h3, h4⟩ := h.2 99 _ hc
  obtain ⟨a, e⟩ := q
  have h2 : e = _ := h2
  subst h2
  refine ⟨⟨a, _, h1⟩, fun i b hb => ?_⟩
  obtain ⟨v, g1, n, rfl, g2⟩ := h4 i _ hb
  have hs : aSl ws 99 i n.toInt := Or.inl ⟨a, ci, vs, n, h1, g1, rfl⟩
  have e := jF.sl ⟨a, _, h1⟩ hs
  rw [← e]
  exact ⟨hs, g2⟩
end HP2
