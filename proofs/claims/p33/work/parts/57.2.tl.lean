/-! tools for pieces by hand -/
theorem ky_F {v : Int} (h1 : -2147483648 ≤ v) (h2 : v ≤ 2147483647) : aF.1 ≤ v ∧ v ≤ aF.2 := ⟨h1, h2⟩

section HAND
variable {E : mj_E} {Q : Option Value → va_W → Prop} {al : List Nat} {ws : va_W}
theorem hp_callV {G : aG} {J : va_W → Prop} {ρ : List Int} (H : hOk E al G J) {d y pc y2 : Nat} {env : List (Int × Int)} {fs : List ae} {h : aH} {lv : List (Nat × av)} {st as rest : List av} {R : Int32 → va_W → Prop} (hy : y < mj_lawNo)
    (hs : ak_callat G (d + 1) y pc lv st (env, fs, [], h, []) = some (y2, as, rest)) (hW0 : hW E al G J ρ env fs h ws)
    (hc : ∀ AS, gL E al ρ as AS → MJ E d 0 0 (mj_in0 y2 AS ws) (fun v w => ∃ z : Int32, v = some (.int z) ∧ R z w))
    (hk : ∀ z w, R z w → hG E al (d + 1) y (pc + 3) lv (.inl (ae_k z.toInt) :: rest) ρ w Q) : hG E al (d + 1) y pc lv st ρ ws Q :=
  law_callV (n := ρ.length) (mj_li_use hy) ⟨H.1, H.2.1, H.2.2.1, H.2.2.2.1, H.2.2.2.2.1, fun σ _ => H.2.2.2.2.2 σ⟩ hs hW0 hc hk
/-- a piece that changes nothing, over symbols; what is known and what holds there -/
theorem ky_go (hf : E.2.2.2.1.category = 1) (hT : ∀ σ : List Int, aTb E σ aTabs) (a5 : aWd E al aLay ws) {d y pc pc2 : Nat} (hy : y < mj_lawNo) {ρ : List Int} {env : List (Int × Int)} {fs : List ae} {h0 : aH} {lv lv2 lvk lvk2 : List (Nat × av)} {st st2 stk stk2 : List av}
    (hc : hp_chk gV0 1000 d y (pc, env, fs, h0, lv, st) [] [(pc2, env, [], lv2, st2, [], [], mMU)] = true) (h1 : hEv ρ env) (h2 : aFs ρ fs) (h3 : aHh ρ ws h0) (r1 : lv.all (fun q => av_rg ρ.length q.2) = true) (r2 : st.all (av_rg ρ.length) = true)
    (e1 : lvE ρ lv = lvk) (e2 : st.map (avE ρ) = stk) (e3 : lvE ρ lv2 = lvk2) (e4 : st2.map (avE ρ) = stk2) (hq : hG E al d y pc2 lvk2 stk2 [] ws Q) : hG E al d y pc lvk stk [] ws Q := by
  have H : hOk E al gV0 (fun _ => True) := hOkV hf hT (fun _ _ _ h => h)
  exact mv_glue H hy hc (hW.v a5 trivial h1 h2 h3) r1 r2 e1 e2 e3 e4 hq
end HAND
/-! how a list of values looks under a valuation -/
section LE
variable {ρ : List Int}
theorem lE0 : lvE ρ [] = [] := rfl
theorem lEi {k : Nat} {e : ae} {x : Int} {t u : List (Nat × av)} (h : ae_ev ρ e = x) (h2 : lvE ρ t = u) : lvE ρ ((k, .inl e) :: t) = (k, .inl (ae_k x)) :: u := by rw [← h, ← h2]; rfl
theorem lEr {k : Nat} {q : Nat × Nat} {t u : List (Nat × av)} (h2 : lvE ρ t = u) : lvE ρ ((k, .inr q) :: t) = (k, .inr q) :: u := by rw [← h2]; rfl
theorem sE0 : ([] : List av).map (avE ρ) = [] := rfl
theorem sEi {e : ae} {x : Int} {t u : List av} (h : ae_ev ρ e = x) (h2 : t.map (avE ρ) = u) : (.inl e :: t : List av).map (avE ρ) = .inl (ae_k x) :: u := by rw [← h, ← h2]; rfl
theorem sEr {q : Nat × Nat} {t u : List av} (h2 : t.map (avE ρ) = u) : (.inr q :: t : List av).map (avE ρ) = .inr q :: u := by rw [← h2]; rfl
end LE
theorem kns {ρ : List Int} {ws : va_W} {c i : Nat} {x : Int} {ix e : ae} (hc : c < 1000000) (h1 : ix.1.all (fun q => decide (q.1 < ρ.length)) = true) (hr : e.1.all (fun q => decide (q.1 < ρ.length)) = true) (hi : ae_ev ρ ix = (i : Int)) (he : ae_ev ρ e = x) (h : aSl ws c i x) : aH1 ρ ws ((c, ix), e) :=
  aH1.mk hc h1 hr (by rw [hi]; omega) (by rw [hi, he, Int.toNat_natCast]; exact h)
/-! calls by templates -/
section BX
variable {E : mj_E} {Q : Option Value → va_W → Prop} {al : List Nat} {ws w : va_W} {ρ : List Int}
theorem hOk00 (hf : E.2.2.2.1.category = 1) (hT : ∀ σ : List Int, aTb E σ aTabs) : hOk E al (aG00 []) jJ0 :=
  ⟨hf, by show aLay.length < 1000000; decide +kernel, by show aRok aRules = true; decide +kernel, jJ0_prot, (fun c hc => by cases hc), hT⟩
/-- a call by a template -/
theorem lg_go (hf : E.2.2.2.1.category = 1) (hT : ∀ σ : List Int, aTb E σ aTabs) (a5 : aWd E al aLay ws) (a6 : aRs aRules ws) (a7 : jJ0 ws) {y : Nat} {t : lgT} (hy : y < mj_lawNo) (hc : lg_chk (aG00 []) 85 y t = true) {ρ : List Int} (he : hEv ρ t.1) (hfl : t.2.1.all (fun f => f.1.all (fun q => decide (q.1 < ρ.length))) = true) (hfs : ∀ f ∈ t.2.1, ae_ev ρ f ≤ 0) (hk : aHh ρ ws t.2.2.2.1)
    {self : Nat} {es xs : List ae} (hargs : t.2.2.1 = .inr (0, self) :: es.map .inl) (hes : xs.map (ae_ev []) = es.map (ae_ev ρ)) (hel : es.all (fun e => e.1.all (fun q => decide (q.1 < ρ.length))) = true) {AS : List Value} (ha : gL E al [] (.inr (0, self) :: xs.map .inl) AS) :
    MJ E 85 0 0 (mj_in0 y AS ws) (fun v w => ∃ z : Int32, v = some (.int z) ∧ z.toInt = ae_ev ρ t.2.2.2.2.1 ∧ aWd E al aLay w ∧ aRs aRules w ∧ jJ0 w ∧ (∀ c, (∀ q ∈ t.2.2.2.2.2, q.1 ≠ c) → w[c]? = ws[c]?) ∧ w.length = ws.length ∧ ∃ r : List Int, ∀ c k, jS w c k = lg_ap (ρ ++ r) c (jS ws c) t.2.2.2.2.2 k) := by
  refine lg_ok (hOk00 hf hT) hy hc ⟨he.ok, aFs.mk hfl hfs, hk, a5, a6, a7⟩ ?_
  rw [hargs]
  obtain ⟨v, u, rfl, h1, h2⟩ := ha
  exact ⟨v, u, rfl, h1, gL_re hes hel h2⟩

end BX
/-! PIECES BY THEIR LOG: a straight run between two places, what every slot holds behind it -/
section LGP
variable {E : mj_E} {al : List Nat} {G : aG} {J : va_W → Prop} {ρ : List Int} {ws w w0 w1 : va_W} {Q : Option Value → va_W → Prop}
def lg_in (n : Nat) (q : Nat × Option (ae × ae)) : Bool := match q.2 with
  | some (ix, v) => ae_lt n ix && ae_lt n v
  | none => false
theorem lg_in_all {n : Nat} : ∀ {l : aW}, l.all (lg_in n) = true → lg_all l = true
  | [], _ => rfl
  | (_, some (_, _)) :: t, h => by
    rw [List.all_cons, Bool.and_eq_true] at h
    exact lg_in_all (l := t) h.2
  | (_, none) :: _, h => by
    rw [List.all_cons, Bool.and_eq_true] at h
    exact absurd h.1 (by simp [lg_in])
theorem lg_in_ap {r : List Int} {c : Nat} {f : Nat → Int} : ∀ {l : aW} {k : Nat}, l.all (lg_in ρ.length) = true → lg_ap (ρ ++ r) c f l k = lg_ap ρ c f l k
  | [], _, _ => rfl
  | (c2, some (ix, v)) :: t, k, h => by
    rw [List.all_cons, Bool.and_eq_true] at h
    have h1 : (ae_lt ρ.length ix && ae_lt ρ.length v) = true := h.1
    rw [Bool.and_eq_true] at h1
    have ih := fun k => lg_in_ap (r := r) (c := c) (f := f) (l := t) (k := k) h.2
    unfold lg_ap
    by_cases e : c2 = c
    · rw [if_pos e, if_pos e]
      show (if k = (ae_ev (ρ ++ r) ix).toNat then ae_ev (ρ ++ r) v else lg_ap (ρ ++ r) c f t k) = (if k = (ae_ev ρ ix).toNat then ae_ev ρ v else lg_ap ρ c f t k)
      rw [ev_app h1.1, ev_app h1.2, ih k]
    · rw [if_neg e, if_neg e]
      exact ih k
  | (_, none) :: _, _, h => by
    rw [List.all_cons, Bool.and_eq_true] at h
    exact absurd h.1 (by simp [lg_in])
def lp_end (n pc2 : Nat) (T : aCut) (log : aW) (q : aEnd) : Bool := match q.1 with
  | .inr (p2, lv, st) => p2 == pc2 && (ak_cut n T none lv st q.2 && lg_eq q.2.2.2.2.2 log)
  | .inl _ => false
def lp_chk (G : aG) (d y : Nat) (p : aPc) (pc2 : Nat) (lv2 : List (Nat × av)) (st2 : List av) (log : aW) : Bool :=
  log.all (lg_in p.2.1.length) && (match ak_run G 1000 d y p.2.1.length [pc2] [] none false (mj_jmp y p.1) p.2.2.2.2.1 p.2.2.2.2.2 (p.2.1, p.2.2.1, [], p.2.2.2.1, []) with
   | some ends => ends.all (lp_end p.2.1.length pc2 (pc2, p.2.1, [], lv2, st2, [], log.map (·.1), mMU) log)
   | none => false)
theorem lp_go (H : hOk E al G J) {d y pc2 : Nat} {p : aPc} {lv2 : List (Nat × av)} {st2 : List av} {log : aW} (hy : y < mj_lawNo) (hc : lp_chk G d y p pc2 lv2 st2 log = true) (hW0 : hW E al G J ρ p.2.1 p.2.2.1 p.2.2.2.1 ws)
    (hq : ∀ w2, aWd E al G.1 w2 → aRs G.2.1 w2 → J w2 → hD (log.map (·.1)) ws w2 → (∀ c k, jS w2 c k = lg_ap ρ c (jS ws c) log k) → hG E al d y pc2 lv2 st2 ρ w2 Q) : hG E al d y p.1 p.2.2.2.2.1 p.2.2.2.2.2 ρ ws Q := by
  unfold lp_chk at hc
  rw [Bool.and_eq_true] at hc
  obtain ⟨hl, hc⟩ := hc
  split at hc
  · rename_i ends hr
    have hlen : ρ.length = p.2.1.length := hW0.1.1
    refine hp_run H (Bs := []) hy hr hW0 (fun T hT => by cases hT) (fun q hq' => ?_)
    have hq1 := List.all_eq_true.mp hc q hq'
    obtain ⟨q1, q2⟩ := q
    unfold aQ
    unfold lp_end at hq1
    dsimp only at hq1 ⊢
    split at hq1
    · rename_i p2 lv st
      rw [Bool.and_eq_true, Bool.and_eq_true, beq_iff_eq] at hq1
      obtain ⟨rfl, hcut, hlog⟩ := hq1
      intro r LV ST w2 g1 g2 hS
      obtain ⟨σ, s1, s2, s3, s4, -⟩ := ak_cut_ok hcut (Nat.le_refl _) g1 g2 hS (fun σ _ => H.2.2.2.2.2 σ)
      have lg := hS.2.2.2.1
      rw [lg_eq_ok hlog] at lg
      have k1 : ∀ k, k < p.2.1.length → σ[k]? = ρ[k]? := fun k hk => by rw [s1 k hk, List.getElem?_append_left (by omega)]
      have hσ := hp_same k1 s4.1.1.1 hlen
      subst hσ
      rw [← hlen] at hl
      exact hq w2 hS.2.2.2.2.1 hS.2.2.2.2.2.1 hS.2.2.2.2.2.2 ⟨lg.frame.1, fun c hc => lg.frame.2 c (fun q hq e => hc (List.mem_map.mpr ⟨q, hq, e⟩))⟩ (fun c k => by rw [lg.ap (lg_in_all hl) c k, lg_in_ap hl]) LV ST s2 s3
    · cases hq1
  · cases hc
/-- the same, over values -/
theorem ky_lg (hf : E.2.2.2.1.category = 1) (hT : ∀ σ : List Int, aTb E σ aTabs) (a5 : aWd E al aLay ws) (a6 : aRs aRules ws) (a7 : jJ0 ws) {d y pc pc2 : Nat} (hy : y < mj_lawNo) {ρ : List Int} {env : List (Int × Int)} {fs : List ae} {h0 : aH} {lv lv2 lvk lvk2 : List (Nat × av)} {st st2 stk stk2 : List av} {log : aW}
    (hc : lp_chk (aG00 []) d y (pc, env, fs, h0, lv, st) pc2 lv2 st2 log = true) (h1 : hEv ρ env) (h2 : aFs ρ fs) (h3 : aHh ρ ws h0) (r1 : lv.all (fun q => av_rg ρ.length q.2) = true) (r2 : st.all (av_rg ρ.length) = true)
    (e1 : lvE ρ lv = lvk) (e2 : st.map (avE ρ) = stk) (e3 : lvE ρ lv2 = lvk2) (e4 : st2.map (avE ρ) = stk2)
    (hq : ∀ w2, aWd E al aLay w2 → aRs aRules w2 → jJ0 w2 → hD (log.map (·.1)) ws w2 → (∀ c k, jS w2 c k = lg_ap ρ c (jS ws c) log k) → hG E al d y pc2 lvk2 stk2 [] w2 Q) : hG E al d y pc lvk stk [] ws Q :=
  (lp_go (p := (pc, env, fs, h0, lv, st)) (hOk00 hf hT) hy hc ⟨h1.ok, h2, h3, a5, a6, a7⟩ (fun w2 b1 b2 b3 b4 b5 => (hq w2 b1 b2 b3 b4 b5).ofK e3 e4)).toK r1 r2 e1 e2
end LGP
section LGD
variable {E : mj_E} {al : List Nat} {ρ : List Int} {ws : va_W}
/-- a call by a template, at any depth -/
theorem lg_god (hf : E.2.2.2.1.category = 1) (hT : ∀ σ : List Int, aTb E σ aTabs) (a5 : aWd E al aLay ws) (a6 : aRs aRules ws) (a7 : jJ0 ws) {d y : Nat} {t : lgT} (hy : y < mj_lawNo) (hc : lg_chk (aG00 []) d y t = true) {ρ : List Int} (he : hEv ρ t.1) (hfl : t.2.1.all (fun f => f.1.all (fun q => decide (q.1 < ρ.length))) = true) (hfs : ∀ f ∈ t.2.1, ae_ev ρ f ≤ 0) (hk : aHh ρ ws t.2.2.2.1)
    {self : Nat} {es xs : List ae} (hargs : t.2.2.1 = .inr (0, self) :: es.map .inl) (hes : xs.map (ae_ev []) = es.map (ae_ev ρ)) (hel : es.all (fun e => e.1.all (fun q => decide (q.1 < ρ.length))) = true) {AS : List Value} (ha : gL E al [] (.inr (0, self) :: xs.map .inl) AS) :
    MJ E d 0 0 (mj_in0 y AS ws) (fun v w => ∃ z : Int32, v = some (.int z) ∧ z.toInt = ae_ev ρ t.2.2.2.2.1 ∧ aWd E al aLay w ∧ aRs aRules w ∧ jJ0 w ∧ (∀ c, (∀ q ∈ t.2.2.2.2.2, q.1 ≠ c) → w[c]? = ws[c]?) ∧ w.length = ws.length ∧ ∃ r : List Int, ∀ c k, jS w c k = lg_ap (ρ ++ r) c (jS ws c) t.2.2.2.2.2 k) := by
  refine lg_ok (hOk00 hf hT) hy hc ⟨he.ok, aFs.mk hfl hfs, hk, a5, a6, a7⟩ ?_
  rw [hargs]
  obtain ⟨v, u, rfl, h1, h2⟩ := ha
  exact ⟨v, u, rfl, h1, gL_re hes hel h2⟩
end LGD
/-! WAYS: a way is a list of ports, the last one first -/
/-- those that are left of a after a sail s -/
def rd_l (a s : Nat) : Nat := a - (a * (s % 100) + 99) / 100
def rd_L (S : Nat → Nat) (n : Nat) : List Nat → Nat
  | [] => n
  | q :: t => match t with
    | [] => n
    | p :: _ => rd_l (rd_L S n t) (S (5 * p + q))
def rd_W (S : Nat → Nat) : List Nat → Nat
  | [] => 0
  | q :: t => match t with
    | [] => 0
    | p :: _ => rd_W S t + S (5 * p + q) / 100
/-- may the way x :: p go on to q -/
def rd_ok (S : Nat → Nat) (x : Nat) (p : List Nat) (q : Nat) : Bool := decide (100 ≤ S (5 * x + q)) && (decide (q ∉ x :: p) && decide (p.length + 1 < 5))
/-- what g finds behind the last m of the next ports -/
def rd_fr (S : Nat → Nat) (g : List Nat → List (List Nat)) (x : Nat) (p : List Nat) : Nat → List (List Nat)
  | 0 => []
  | m + 1 => (if rd_ok S x p (4 - m) = true then g ((4 - m) :: x :: p) else []) ++ rd_fr S g x p m
/-- the ways to port 0 that go on from one, in the order of the ports' numbers -/
def rd_ws (S : Nat → Nat) : Nat → List Nat → List (List Nat)
  | 0, _ => []
  | _ + 1, [] => []
  | f + 1, x :: p => if x = 0 then [x :: p] else rd_fr S (rd_ws S f) x p 5
/-- what is still to come: behind the last m of the next ports, and so back along the way -/
def rd_rs (S : Nat → Nat) : List Nat → Nat → List (List Nat)
  | [], _ => []
  | x :: p, m => rd_fr S (rd_ws S (4 - p.length)) x p m ++ rd_rs S p (4 - x)
/-- the better of two -/
def rd_tk (S : Nat → Nat) (n : Nat) (st w : List Nat) : List Nat := if st ≠ [] ∧ ¬ (rd_L S n st < rd_L S n w ∨ (rd_L S n w = rd_L S n st ∧ rd_W S w < rd_W S st)) then st else w
/-- the i-th port of a way -/
def rd_at (w : List Nat) (i : Nat) : Nat := w.getD (w.length - 1 - i) 0
theorem rd_at_0 {q : Nat} {t : List Nat} : rd_at (q :: t) t.length = q := by simp [rd_at]
theorem rd_at_s {q : Nat} {t : List Nat} {i : Nat} (h : i < t.length) : rd_at (q :: t) i = rd_at t i := by
  unfold rd_at
  rw [show (q :: t).length - 1 - i = (t.length - 1 - i) + 1 by simp; omega]
  rfl
theorem rd_l_le {a s : Nat} : rd_l a s ≤ a := Nat.sub_le _ _
theorem rd_L_le {S : Nat → Nat} {n : Nat} : ∀ {w : List Nat}, rd_L S n w ≤ n
  | [] => Nat.le_refl _
  | [_] => Nat.le_refl _
  | _ :: p :: t => Nat.le_trans rd_l_le (rd_L_le (w := p :: t))
theorem rd_W_le {S : Nat → Nat} (hS : ∀ k, S k ≤ 999) : ∀ {w : List Nat}, rd_W S w ≤ 9 * w.length
  | [] => Nat.le_refl _
  | [_] => Nat.zero_le _
  | q :: p :: t => by
    have h := rd_W_le hS (w := p :: t)
    have h2 := hS (5 * p + q)
    show rd_W S (p :: t) + S (5 * p + q) / 100 ≤ 9 * ((p :: t).length + 1)
    omega
/-- a way as it may be: ports, none twice, no way on behind port 0 -/
def rd_P (p : List Nat) : Prop := (∀ q ∈ p, q < 5) ∧ p.Nodup ∧ p.length ≤ 5
theorem rd_ok_P {S : Nat → Nat} {x : Nat} {p : List Nat} {q : Nat} (h : rd_P (x :: p)) (hq : q < 5) (ho : rd_ok S x p q = true) : rd_P (q :: x :: p) := by
  unfold rd_ok at ho
  simp only [Bool.and_eq_true, decide_eq_true_eq] at ho
  refine ⟨fun y hy => ?_, List.nodup_cons.mpr ⟨ho.2.1, h.2.1⟩, ?_⟩
  · rcases List.mem_cons.mp hy with rfl | hy
    · exact hq
    · exact h.1 y hy
  · simp only [List.length_cons]
    omega
/-- what comes behind the first of those found -/
theorem rd_next {S : Nat → Nat} : ∀ (f : Nat) (x : Nat) (p : List Nat) (m : Nat) (u : List Nat) (us : List (List Nat)), (∀ q ∈ x :: p, 1 ≤ q ∧ q < 5) → f = 4 - p.length → p.length ≤ 4 → m ≤ 5 → rd_fr S (rd_ws S f) x p m = u :: us → ∃ t, u = 0 :: t ∧ (t ≠ [] ∧ (∀ q ∈ t, 1 ≤ q ∧ q < 5) ∧ t.length ≤ 4) ∧ rd_rs S t 4 = us ++ rd_rs S p (4 - x)
  | 0, x, p, m => by
    induction m with
    | zero => intro u us _ _ _ _ h; cases h
    | succ m ih =>
      intro u us hg hf hp hm h
      have ho : ¬ rd_ok S x p (4 - m) = true := by
        unfold rd_ok
        simp only [Bool.and_eq_true, decide_eq_true_eq]
        omega
      unfold rd_fr at h
      rw [if_neg ho] at h
      exact ih u us hg hf hp (by omega) h
  | f + 1, x, p, m => by
    induction m with
    | zero => intro u us _ _ _ _ h; cases h
    | succ m ih =>
      intro u us hg hf hp hm h
      have ih := ih
      unfold rd_fr at h
      by_cases ho : rd_ok S x p (4 - m) = true
      · rw [if_pos ho] at h
        have e4 : p.length < 4 := by
          unfold rd_ok at ho
          simp only [Bool.and_eq_true, decide_eq_true_eq] at ho
          omega
        unfold rd_ws at h
        by_cases h0 : 4 - m = 0
        · rw [if_pos h0] at h
          have em : m = 4 := by omega
          subst em
          injection h with h1 h2
          refine ⟨x :: p, h1.symm, ⟨by simp, hg, by simp only [List.length_cons]; omega⟩, ?_⟩
          show rd_fr S (rd_ws S (4 - p.length)) x p 4 ++ _ = _
          rw [← hf]
          rw [← h2]
          rfl
        · rw [if_neg h0] at h
          cases hc : rd_fr S (rd_ws S f) (4 - m) (x :: p) 5 with
          | nil =>
            rw [hc, List.nil_append] at h
            exact ih u us hg hf hp (by omega) h
          | cons v vs =>
            rw [hc] at h
            injection h with h1 h2
            obtain ⟨t, e1, e2, e3⟩ := rd_next f (4 - m) (x :: p) 5 v vs (fun q hq => (List.mem_cons.mp hq).elim (fun e => by omega) (hg q)) (by simp only [List.length_cons]; omega) (by simp only [List.length_cons]; omega) (by omega) hc
            refine ⟨t, h1 ▸ e1, e2, ?_⟩
            rw [e3, ← h2]
            show vs ++ (rd_fr S (rd_ws S (4 - p.length)) x p (4 - (4 - m)) ++ rd_rs S p (4 - x)) = _
            rw [show 4 - (4 - m) = m by omega, ← hf]
            exact (List.append_assoc _ _ _).symm
      · rw [if_neg ho, List.nil_append] at h
        exact ih u us hg hf hp (by omega) h
/-- the same, from any place -/
theorem rd_more {S : Nat → Nat} : ∀ (p : List Nat) (m : Nat) (u : List Nat) (us : List (List Nat)), (∀ q ∈ p, 1 ≤ q ∧ q < 5) → p.length ≤ 5 → m ≤ 5 → rd_rs S p m = u :: us → ∃ t, u = 0 :: t ∧ (t ≠ [] ∧ (∀ q ∈ t, 1 ≤ q ∧ q < 5) ∧ t.length ≤ 4) ∧ rd_rs S t 4 = us
  | [], _, _, _, _, _, _, h => by cases h
  | x :: p, m, u, us, hg, hp, hm, h => by
    simp only [List.length_cons] at hp
    unfold rd_rs at h
    cases hc : rd_fr S (rd_ws S (4 - p.length)) x p m with
    | nil =>
      rw [hc, List.nil_append] at h
      exact rd_more p (4 - x) u us (fun q hq => hg q (List.mem_cons_of_mem _ hq)) (by omega) (by omega) h
    | cons v vs =>
      rw [hc] at h
      injection h with h1 h2
      obtain ⟨t, e1, e2, e3⟩ := rd_next (4 - p.length) x p m v vs hg rfl (by omega) hm hc
      exact ⟨t, h1 ▸ e1, e2, e3.trans h2⟩
theorem rd_at_mem {q : Nat} : ∀ {u : List Nat}, q ∈ u ↔ ∃ i, i < u.length ∧ rd_at u i = q
  | [] => by simp
  | x :: t => by
    constructor
    · intro h
      rcases List.mem_cons.mp h with rfl | h
      · exact ⟨t.length, by simp, rd_at_0⟩
      · obtain ⟨i, h1, h2⟩ := rd_at_mem.mp h
        exact ⟨i, by simp; omega, (rd_at_s h1).trans h2⟩
    · rintro ⟨i, h1, h2⟩
      by_cases e : i = t.length
      · subst e
        rw [rd_at_0] at h2
        subst h2
        exact List.mem_cons_self
      · have hi : i < t.length := by simp at h1; omega
        exact List.mem_cons_of_mem _ (rd_at_mem.mpr ⟨i, hi, (rd_at_s hi).symm.trans h2⟩)
/-! WAYS: numbers by hand -/
section
set_option maxRecDepth 100000
theorem vs_bit : ∀ s, s < 256 → ∀ k, k < 8 → (nI s >>> (nI k &&& 31)) &&& nI 1 = nI (if s.testBit k then 1 else 0) := by decide +kernel
theorem rd_rem : ∀ s, s < 1000 → nI s - nI s / nI 100 * nI 100 = nI (s % 100) := by decide +kernel
theorem rd_or : ∀ g, g < 32 → ∀ q, q < 5 → nI g ||| (nI 1 <<< (nI q &&& 31)) = nI (g ||| 2 ^ q) := by decide +kernel
end
section RH
variable {E : mj_E} {Q : Option Value → va_W → Prop} {al : List Nat} {w : va_W}
/-- two steps that take a set's bit -/
theorem hg_bit {d y pc : Nat} {lv : List (Nat × av)} {rest : List av} (d1 : decode (mj_b y) pc = .ok (.ishr, 1)) (d2 : decode (mj_b y) (pc + 1) = .ok (.iconst 1, 1)) (d3 : decode (mj_b y) (pc + 2) = .ok (.iand, 1)) {s k : Nat} (hs : s < 256) (hk : k < 8)
    (h : hG E al d y (pc + 3) lv (.inl (ae_k ((if s.testBit k then 1 else 0 : Nat) : Int)) :: rest) [] w Q) : hG E al d y pc lv (.inl (ae_k (k : Int)) :: .inl (ae_k (s : Int)) :: rest) [] w Q := by
  intro LV ST h1 h2
  obtain ⟨v, u, rfl, ⟨z1, rfl, e1⟩, v2, u2, rfl, ⟨z2, rfl, e2⟩, h3⟩ := h2
  have e1 := e1.of_k
  have e2 := e2.of_k
  have x1 : z1 = nI k := Int32.toInt_inj.mp (by rw [e1, nI_toInt (by omega)])
  have x2 : z2 = nI s := Int32.toInt_inj.mp (by rw [e2, nI_toInt (by omega)])
  subst x1
  subst x2
  refine MJ.nx d1 ⟨rfl, nI s, nI k, u2, rfl, rfl⟩ ?_
  refine MJ.nx (lv1 := LV) (st1 := .int 1 :: .int (nI s >>> (nI k &&& 31)) :: u2) (ws1 := w) (pc1 := pc + 1 + 1) d2 ⟨rfl, rfl⟩ ?_
  refine MJ.nx (lv1 := LV) (st1 := .int ((nI s >>> (nI k &&& 31)) &&& 1) :: u2) (ws1 := w) (pc1 := pc + 2 + 1) d3 ⟨rfl, _, _, u2, rfl, rfl⟩ ?_
  have bt := vs_bit s hs k hk
  refine h LV _ h1 ⟨_, u2, rfl, ⟨_, rfl, ?_⟩, h3⟩
  have bt2 : (nI s >>> (nI k &&& 31)) &&& 1 = nI (if s.testBit k then 1 else 0) := bt
  rw [bt2, nI_toInt (by split <;> omega)]
  exact aV.k _
/-- how many are lost: six steps -/
theorem hg_lost {d y pc : Nat} {lv : List (Nat × av)} {rest : List av} (d0 : decode (mj_b y) pc = .ok (.irem, 1)) (d1 : decode (mj_b y) (pc + 1) = .ok (.imul, 1)) (d2 : decode (mj_b y) (pc + 2) = .ok (.bipush 99, 2)) (d4 : decode (mj_b y) (pc + 4) = .ok (.iadd, 1)) (d5 : decode (mj_b y) (pc + 5) = .ok (.bipush 100, 2)) (d7 : decode (mj_b y) (pc + 7) = .ok (.idiv, 1)) {a s : Nat} (ha : a ≤ 99) (hs : s ≤ 999)
    (h : hG E al d y (pc + 8) lv (.inl (ae_k (((a * (s % 100) + 99) / 100 : Nat) : Int)) :: rest) [] w Q) : hG E al d y pc lv (.inl (ae_k 100) :: .inl (ae_k (s : Int)) :: .inl (ae_k (a : Int)) :: rest) [] w Q := by
  intro LV ST h1 h2
  obtain ⟨v, u, rfl, ⟨z1, rfl, e1⟩, v2, u2, rfl, ⟨z2, rfl, e2⟩, v3, u3, rfl, ⟨z3, rfl, e3⟩, h3⟩ := h2
  have e1 := e1.of_k
  have e2 := e2.of_k
  have e3 := e3.of_k
  have x1 : z1 = nI 100 := Int32.toInt_inj.mp (by rw [e1]; rfl)
  have x2 : z2 = nI s := Int32.toInt_inj.mp (by rw [e2, nI_toInt (by omega)])
  have x3 : z3 = nI a := Int32.toInt_inj.mp (by rw [e3, nI_toInt (by omega)])
  subst x1
  subst x2
  subst x3
  have m1 : s % 100 ≤ 99 := by omega
  have m2 : a * (s % 100) ≤ 99 * 99 := Nat.mul_le_mul ha m1
  have n0 : ¬ nI 100 = 0 := by decide
  refine MJ.nx (lv1 := LV) (st1 := .int (nI (s % 100)) :: .int (nI a) :: u3) (ws1 := w) (pc1 := pc + 1) d0 ⟨rfl, nI s, nI 100, _, rfl, n0, by rw [rd_rem s (by omega)]⟩ ?_
  refine MJ.nx (lv1 := LV) (st1 := .int (nI (a * (s % 100))) :: u3) (ws1 := w) (pc1 := pc + 1 + 1) d1 ⟨rfl, nI a, nI (s % 100), _, rfl, by
    show _ = mj_nx (pc + 1 + 1) LV (.int (nI a * nI (s % 100)) :: u3) w
    rw [show nI a * nI (s % 100) = nI (a * (s % 100)) from (Int32.ofNat_mul _ _).symm]⟩ ?_
  refine MJ.nx (lv1 := LV) (st1 := .int (nI 99) :: .int (nI (a * (s % 100))) :: u3) (ws1 := w) (pc1 := pc + 2 + 2) d2 ⟨rfl, rfl⟩ ?_
  refine MJ.nx (lv1 := LV) (st1 := .int (nI (a * (s % 100) + 99)) :: u3) (ws1 := w) (pc1 := pc + 4 + 1) d4 ⟨rfl, nI (a * (s % 100)), nI 99, _, rfl, by
    show _ = mj_nx (pc + 4 + 1) LV (.int (nI (a * (s % 100)) + nI 99) :: u3) w
    rw [nI_add]⟩ ?_
  refine MJ.nx (lv1 := LV) (st1 := .int (nI 100) :: .int (nI (a * (s % 100) + 99)) :: u3) (ws1 := w) (pc1 := pc + 5 + 2) d5 ⟨rfl, rfl⟩ ?_
  refine MJ.nx (lv1 := LV) (st1 := .int (nI ((a * (s % 100) + 99) / 100)) :: u3) (ws1 := w) (pc1 := pc + 7 + 1) d7 ⟨rfl, nI (a * (s % 100) + 99), nI 100, _, rfl, n0, by
    rw [show nI (a * (s % 100) + 99) / nI 100 = nI ((a * (s % 100) + 99) / 100) from (Int32.ofNat_div (by omega) (by omega)).symm]⟩ ?_
  refine h LV _ h1 ⟨_, u3, rfl, ⟨_, rfl, ?_⟩, h3⟩
  rw [nI_toInt (by omega)]
  exact aV.k _
/-- a sail's weeks -/
theorem hg_hund {d y pc : Nat} {lv : List (Nat × av)} {rest : List av} (d0 : decode (mj_b y) pc = .ok (.idiv, 1)) {s : Nat} (hs : s ≤ 999)
    (h : hG E al d y (pc + 1) lv (.inl (ae_k ((s / 100 : Nat) : Int)) :: rest) [] w Q) : hG E al d y pc lv (.inl (ae_k 100) :: .inl (ae_k (s : Int)) :: rest) [] w Q := by
  intro LV ST h1 h2
  obtain ⟨v, u, rfl, ⟨z1, rfl, e1⟩, v2, u2, rfl, ⟨z2, rfl, e2⟩, h3⟩ := h2
  have e1 := e1.of_k
  have e2 := e2.of_k
  have x1 : z1 = nI 100 := Int32.toInt_inj.mp (by rw [e1]; rfl)
  have x2 : z2 = nI s := Int32.toInt_inj.mp (by rw [e2, nI_toInt (by omega)])
  subst x1
  subst x2
  have n0 : ¬ nI 100 = 0 := by decide
  refine MJ.nx (lv1 := LV) (st1 := .int (nI (s / 100)) :: u2) (ws1 := w) (pc1 := pc + 1) d0 ⟨rfl, nI s, nI 100, _, rfl, n0, by
    rw [show nI s / nI 100 = nI (s / 100) from (Int32.ofNat_div (by omega) (by omega)).symm]⟩ ?_
  refine h LV _ h1 ⟨_, u2, rfl, ⟨_, rfl, ?_⟩, h3⟩
  rw [nI_toInt (by omega)]
  exact aV.k _
/-- a port more among those of the way -/
theorem hg_or {d y pc : Nat} {lv : List (Nat × av)} {rest : List av} (d0 : decode (mj_b y) pc = .ok (.ishl, 1)) (d1 : decode (mj_b y) (pc + 1) = .ok (.ior, 1)) {g q : Nat} (hg : g < 32) (hq : q < 5)
    (h : hG E al d y (pc + 2) lv (.inl (ae_k ((g ||| 2 ^ q : Nat) : Int)) :: rest) [] w Q) : hG E al d y pc lv (.inl (ae_k (q : Int)) :: .inl (ae_k 1) :: .inl (ae_k (g : Int)) :: rest) [] w Q := by
  intro LV ST h1 h2
  obtain ⟨v, u, rfl, ⟨z1, rfl, e1⟩, v2, u2, rfl, ⟨z2, rfl, e2⟩, v3, u3, rfl, ⟨z3, rfl, e3⟩, h3⟩ := h2
  have e1 := e1.of_k
  have e2 := e2.of_k
  have e3 := e3.of_k
  have x1 : z1 = nI q := Int32.toInt_inj.mp (by rw [e1, nI_toInt (by omega)])
  have x2 : z2 = nI 1 := Int32.toInt_inj.mp (by rw [e2]; rfl)
  have x3 : z3 = nI g := Int32.toInt_inj.mp (by rw [e3, nI_toInt (by omega)])
  subst x1
  subst x2
  subst x3
  have lt : g ||| 2 ^ q < 32 := Nat.or_lt_two_pow (n := 5) hg (Nat.pow_lt_pow_right (by decide) hq)
  refine MJ.nx (lv1 := LV) (st1 := .int (nI 1 <<< (nI q &&& 31)) :: .int (nI g) :: u3) (ws1 := w) (pc1 := pc + 1) d0 ⟨rfl, nI 1, nI q, _, rfl, rfl⟩ ?_
  refine MJ.nx (lv1 := LV) (st1 := .int (nI (g ||| 2 ^ q)) :: u3) (ws1 := w) (pc1 := pc + 1 + 1) d1 ⟨rfl, nI g, nI 1 <<< (nI q &&& 31), _, rfl, by
    show _ = mj_nx (pc + 1 + 1) LV (.int (nI g ||| (nI 1 <<< (nI q &&& 31))) :: u3) w
    rw [rd_or g hg q hq]⟩ ?_
  refine h LV _ h1 ⟨_, u3, rfl, ⟨_, rfl, ?_⟩, h3⟩
  rw [nI_toInt (by omega)]
  exact aV.k _
end RH
