/-! tools for pieces by hand -/
theorem ky_F {v : Int} (h1 : -2147483648 ≤ v) (h2 : v ≤ 2147483647) : aF.1 ≤ v ∧ v ≤ aF.2 := ⟨h1, h2⟩

section HAND
variable {E : mj_E} {Q : Option Value → va_W → Prop} {al : List Nat} {ws : va_W}
theorem hp_callV {G : aG} {J : va_W → Prop} {ρ : List Int} (H : hOk E al G J) {d y pc y2 : Nat} {env : List (Int × Int)} {fs : List ae} {h : aH} {lv : List (Nat × av)} {st as rest : List av} {R : Int32 → va_W → Prop} (hy : y < mj_lawNo)
    (hs : ak_callat G (d + 1) y pc lv st (env, fs, [], h, []) = some (y2, as, rest)) (hW0 : hW E al G J ρ env fs h ws)
    (hc : ∀ AS, gL E al ρ as AS → MJ E d 0 0 (mj_in0 y2 AS ws) (fun v w => ∃ z : Int32, v = some (.int z) ∧ R z w))
    (hk : ∀ z w, R z w → hG E al (d + 1) y (pc + 3) lv (.inl (ae_k z.toInt) :: rest) ρ w Q) : hG E al (d + 1) y pc lv st ρ ws Q :=
  law_callV (n := ρ.length) (mj_li_use hy) ⟨H.1, H.2.1, H.2.2.1, H.2.2.2.1, H.2.2.2.2.1, fun σ _ => H.2.2.2.2.2 σ⟩ hs hW0 hc hk
/-- a piece that changes nothing, over symbols; what is known and what holds there -/
theorem ky_go (hf : E.2.2.2.1.category = 1) (hT : ∀ σ : List Int, aTb E σ aTabs) (a5 : aWd E al aLay ws) {d y pc pc2 : Nat} (hy : y < mj_lawNo) {ρ : List Int} {env : List (Int × Int)} {fs : List ae} {h0 : aH} {lv lv2 lvk lvk2 : List (Nat × av)} {st st2 stk stk2 : List av}
    (hc : hp_chk gV0 1000 d y (pc, env, fs, h0, lv, st) [] [(pc2, env, [], lv2, st2, [], [], mMU)] = true) (h1 : hEv ρ env) (h2 : aFs ρ fs) (h3 : aHh ρ ws h0) (r1 : lv.all (fun q => av_rg ρ.length q.2) = true) (r2 : st.all (av_rg ρ.length) = true)
    (e1 : lvE ρ lv = lvk) (e2 : st.map (avE ρ) = stk) (e3 : lvE ρ lv2 = lvk2) (e4 : st2.map (avE ρ) = stk2) (hq : hG E al d y pc2 lvk2 stk2 [] ws Q) : hG E al d y pc lvk stk [] ws Q := by
  have H : hOk E al gV0 (fun _ => True) := hOkV hf hT (fun _ _ _ _ h => h)
  exact mv_glue H hy hc (hW.v a5 trivial h1 h2 h3) r1 r2 e1 e2 e3 e4 hq
end HAND
/-! how a list of values looks under a valuation -/
section LE
variable {ρ : List Int}
theorem lE0 : lvE ρ [] = [] := rfl
theorem lEi {k : Nat} {e : ae} {x : Int} {t u : List (Nat × av)} (h : ae_ev ρ e = x) (h2 : lvE ρ t = u) : lvE ρ ((k, .inl e) :: t) = (k, .inl (ae_k x)) :: u := by rw [← h, ← h2]; rfl
theorem lEr {k : Nat} {q : Nat × Nat} {t u : List (Nat × av)} (h2 : lvE ρ t = u) : lvE ρ ((k, .inr q) :: t) = (k, .inr q) :: u := by rw [← h2]; rfl
theorem sE0 : ([] : List av).map (avE ρ) = [] := rfl
theorem sEi {e : ae} {x : Int} {t u : List av} (h : ae_ev ρ e = x) (h2 : t.map (avE ρ) = u) : (.inl e :: t : List av).map (avE ρ) = .inl (ae_k x) :: u := by rw [← h, ← h2]; rfl
theorem sEr {q : Nat × Nat} {t u : List av} (h2 : t.map (avE ρ) = u) : (.inr q :: t : List av).map (avE ρ) = .inr q :: u := by rw [← h2]; rfl
end LE
theorem kns {ρ : List Int} {ws : va_W} {c i : Nat} {x : Int} {ix e : ae} (hc : c < 1000000) (h1 : ix.1.all (fun q => decide (q.1 < ρ.length)) = true) (hr : e.1.all (fun q => decide (q.1 < ρ.length)) = true) (hi : ae_ev ρ ix = (i : Int)) (he : ae_ev ρ e = x) (h : aSl ws c i x) : aH1 ρ ws ((c, ix), e) :=
  aH1.mk hc h1 hr (by rw [hi]; omega) (by rw [hi, he, Int.toNat_natCast]; exact h)
/-! calls by templates -/
section BX
variable {E : mj_E} {Q : Option Value → va_W → Prop} {al : List Nat} {ws w : va_W} {ρ : List Int}
theorem hOk00 (hf : E.2.2.2.1.category = 1) (hT : ∀ σ : List Int, aTb E σ aTabs) : hOk E al (aG00 []) jJ0 :=
  ⟨hf, by show aLay.length < 1000000; decide +kernel, by show aRok aRules = true; decide +kernel, jJ0_prot, (fun c hc => by cases hc), hT⟩
/-- a call by a template -/
theorem lg_go (hf : E.2.2.2.1.category = 1) (hT : ∀ σ : List Int, aTb E σ aTabs) (a5 : aWd E al aLay ws) (a6 : aRs aRules ws) (a7 : jJ0 ws) {y : Nat} {t : lgT} (hy : y < mj_lawNo) (hc : lg_chk (aG00 []) 85 y t = true) {ρ : List Int} (he : hEv ρ t.1) (hfl : t.2.1.all (fun f => f.1.all (fun q => decide (q.1 < ρ.length))) = true) (hfs : ∀ f ∈ t.2.1, ae_ev ρ f ≤ 0) (hk : aHh ρ ws t.2.2.2.1)
    {self : Nat} {es xs : List ae} (hargs : t.2.2.1 = .inr (0, self) :: es.map .inl) (hes : xs.map (ae_ev []) = es.map (ae_ev ρ)) (hel : es.all (fun e => e.1.all (fun q => decide (q.1 < ρ.length))) = true) {AS : List Value} (ha : gL E al [] (.inr (0, self) :: xs.map .inl) AS) :
    MJ E 85 0 0 (mj_in0 y AS ws) (fun v w => ∃ z : Int32, v = some (.int z) ∧ z.toInt = ae_ev ρ t.2.2.2.2.1 ∧ aWd E al aLay w ∧ aRs aRules w ∧ jJ0 w ∧ (∀ c, (∀ q ∈ t.2.2.2.2.2, q.1 ≠ c) → w[c]? = ws[c]?) ∧ w.length = ws.length ∧ ∃ r : List Int, ∀ c k, jS w c k = lg_ap (ρ ++ r) c (jS ws c) t.2.2.2.2.2 k) := by
  refine lg_ok (hOk00 hf hT) hy hc ⟨he.ok, aFs.mk hfl hfs, hk, a5, a6, a7⟩ ?_
  rw [hargs]
  obtain ⟨v, u, rfl, h1, h2⟩ := ha
  exact ⟨v, u, rfl, h1, gL_re hes hel h2⟩

end BX
/-! PIECES BY THEIR LOG: a straight run between two places, what every slot holds behind it -/
section LGP
variable {E : mj_E} {al : List Nat} {G : aG} {J : va_W → Prop} {ρ : List Int} {ws w w0 w1 : va_W} {Q : Option Value → va_W → Prop}
def lg_in (n : Nat) (q : Nat × Option (ae × ae)) : Bool := match q.2 with
  | some (ix, v) => ae_lt n ix && ae_lt n v
  | none => false
theorem lg_in_all {n : Nat} : ∀ {l : aW}, l.all (lg_in n) = true → lg_all l = true
  | [], _ => rfl
  | (_, some (_, _)) :: t, h => by
    rw [List.all_cons, Bool.and_eq_true] at h
    exact lg_in_all (l := t) h.2
  | (_, none) :: _, h => by
    rw [List.all_cons, Bool.and_eq_true] at h
    exact absurd h.1 (by simp [lg_in])
theorem lg_in_ap {r : List Int} {c : Nat} {f : Nat → Int} : ∀ {l : aW} {k : Nat}, l.all (lg_in ρ.length) = true → lg_ap (ρ ++ r) c f l k = lg_ap ρ c f l k
  | [], _, _ => rfl
  | (c2, some (ix, v)) :: t, k, h => by
    rw [List.all_cons, Bool.and_eq_true] at h
    have h1 : (ae_lt ρ.length ix && ae_lt ρ.length v) = true := h.1
    rw [Bool.and_eq_true] at h1
    have ih := fun k => lg_in_ap (r := r) (c := c) (f := f) (l := t) (k := k) h.2
    unfold lg_ap
    by_cases e : c2 = c
    · rw [if_pos e, if_pos e]
      show (if k = (ae_ev (ρ ++ r) ix).toNat then ae_ev (ρ ++ r) v else lg_ap (ρ ++ r) c f t k) = (if k = (ae_ev ρ ix).toNat then ae_ev ρ v else lg_ap ρ c f t k)
      rw [ev_app h1.1, ev_app h1.2, ih k]
    · rw [if_neg e, if_neg e]
      exact ih k
  | (_, none) :: _, _, h => by
    rw [List.all_cons, Bool.and_eq_true] at h
    exact absurd h.1 (by simp [lg_in])
def lp_end (n pc2 : Nat) (T : aCut) (log : aW) (q : aEnd) : Bool := match q.1 with
  | .inr (p2, lv, st) => p2 == pc2 && (ak_cut n T none lv st q.2 && lg_eq q.2.2.2.2.2 log)
  | .inl _ => false
def lp_chk (G : aG) (d y : Nat) (p : aPc) (pc2 : Nat) (lv2 : List (Nat × av)) (st2 : List av) (log : aW) : Bool :=
  log.all (lg_in p.2.1.length) && (match ak_run G 1000 d y p.2.1.length [pc2] [] none false (mj_jmp y p.1) p.2.2.2.2.1 p.2.2.2.2.2 (p.2.1, p.2.2.1, [], p.2.2.2.1, []) with
   | some ends => ends.all (lp_end p.2.1.length pc2 (pc2, p.2.1, [], lv2, st2, [], log.map (·.1), mMU) log)
   | none => false)
theorem lp_go (H : hOk E al G J) {d y pc2 : Nat} {p : aPc} {lv2 : List (Nat × av)} {st2 : List av} {log : aW} (hy : y < mj_lawNo) (hc : lp_chk G d y p pc2 lv2 st2 log = true) (hW0 : hW E al G J ρ p.2.1 p.2.2.1 p.2.2.2.1 ws)
    (hq : ∀ w2, aWd E al G.1 w2 → aRs G.2.1 w2 → J w2 → hD (log.map (·.1)) ws w2 → (∀ c k, jS w2 c k = lg_ap ρ c (jS ws c) log k) → hG E al d y pc2 lv2 st2 ρ w2 Q) : hG E al d y p.1 p.2.2.2.2.1 p.2.2.2.2.2 ρ ws Q := by
  unfold lp_chk at hc
  rw [Bool.and_eq_true] at hc
  obtain ⟨hl, hc⟩ := hc
  split at hc
  · rename_i ends hr
    have hlen : ρ.length = p.2.1.length := hW0.1.1
    refine hp_run H (Bs := []) hy hr hW0 (fun T hT => by cases hT) (fun q hq' => ?_)
    have hq1 := List.all_eq_true.mp hc q hq'
    obtain ⟨q1, q2⟩ := q
    unfold aQ
    unfold lp_end at hq1
    dsimp only at hq1 ⊢
    split at hq1
    · rename_i p2 lv st
      rw [Bool.and_eq_true, Bool.and_eq_true, beq_iff_eq] at hq1
      obtain ⟨rfl, hcut, hlog⟩ := hq1
      intro r LV ST w2 g1 g2 hS
      obtain ⟨σ, s1, s2, s3, s4, -⟩ := ak_cut_ok hcut (Nat.le_refl _) g1 g2 hS (fun σ _ => H.2.2.2.2.2 σ)
      have lg := hS.2.2.2.1
      rw [lg_eq_ok hlog] at lg
      have k1 : ∀ k, k < p.2.1.length → σ[k]? = ρ[k]? := fun k hk => by rw [s1 k hk, List.getElem?_append_left (by omega)]
      have hσ := hp_same k1 s4.1.1.1 hlen
      subst hσ
      rw [← hlen] at hl
      exact hq w2 hS.2.2.2.2.1 hS.2.2.2.2.2.1 hS.2.2.2.2.2.2 ⟨lg.frame.1, fun c hc => lg.frame.2 c (fun q hq e => hc (List.mem_map.mpr ⟨q, hq, e⟩))⟩ (fun c k => by rw [lg.ap (lg_in_all hl) c k, lg_in_ap hl]) LV ST s2 s3
    · cases hq1
  · cases hc
/-- the same, over values -/
theorem ky_lg (hf : E.2.2.2.1.category = 1) (hT : ∀ σ : List Int, aTb E σ aTabs) (a5 : aWd E al aLay ws) (a6 : aRs aRules ws) (a7 : jJ0 ws) {d y pc pc2 : Nat} (hy : y < mj_lawNo) {ρ : List Int} {env : List (Int × Int)} {fs : List ae} {h0 : aH} {lv lv2 lvk lvk2 : List (Nat × av)} {st st2 stk stk2 : List av} {log : aW}
    (hc : lp_chk (aG00 []) d y (pc, env, fs, h0, lv, st) pc2 lv2 st2 log = true) (h1 : hEv ρ env) (h2 : aFs ρ fs) (h3 : aHh ρ ws h0) (r1 : lv.all (fun q => av_rg ρ.length q.2) = true) (r2 : st.all (av_rg ρ.length) = true)
    (e1 : lvE ρ lv = lvk) (e2 : st.map (avE ρ) = stk) (e3 : lvE ρ lv2 = lvk2) (e4 : st2.map (avE ρ) = stk2)
    (hq : ∀ w2, aWd E al aLay w2 → aRs aRules w2 → jJ0 w2 → hD (log.map (·.1)) ws w2 → (∀ c k, jS w2 c k = lg_ap ρ c (jS ws c) log k) → hG E al d y pc2 lvk2 stk2 [] w2 Q) : hG E al d y pc lvk stk [] ws Q :=
  (lp_go (p := (pc, env, fs, h0, lv, st)) (hOk00 hf hT) hy hc ⟨h1.ok, h2, h3, a5, a6, a7⟩ (fun w2 b1 b2 b3 b4 b5 => (hq w2 b1 b2 b3 b4 b5).ofK e3 e4)).toK r1 r2 e1 e2
end LGP
section LGD
variable {E : mj_E} {al : List Nat} {ρ : List Int} {ws : va_W}
/-- a call by a template, at any depth -/
theorem lg_god (hf : E.2.2.2.1.category = 1) (hT : ∀ σ : List Int, aTb E σ aTabs) (a5 : aWd E al aLay ws) (a6 : aRs aRules ws) (a7 : jJ0 ws) {d y : Nat} {t : lgT} (hy : y < mj_lawNo) (hc : lg_chk (aG00 []) d y t = true) {ρ : List Int} (he : hEv ρ t.1) (hfl : t.2.1.all (fun f => f.1.all (fun q => decide (q.1 < ρ.length))) = true) (hfs : ∀ f ∈ t.2.1, ae_ev ρ f ≤ 0) (hk : aHh ρ ws t.2.2.2.1)
    {self : Nat} {es xs : List ae} (hargs : t.2.2.1 = .inr (0, self) :: es.map .inl) (hes : xs.map (ae_ev []) = es.map (ae_ev ρ)) (hel : es.all (fun e => e.1.all (fun q => decide (q.1 < ρ.length))) = true) {AS : List Value} (ha : gL E al [] (.inr (0, self) :: xs.map .inl) AS) :
    MJ E d 0 0 (mj_in0 y AS ws) (fun v w => ∃ z : Int32, v = some (.int z) ∧ z.toInt = ae_ev ρ t.2.2.2.2.1 ∧ aWd E al aLay w ∧ aRs aRules w ∧ jJ0 w ∧ (∀ c, (∀ q ∈ t.2.2.2.2.2, q.1 ≠ c) → w[c]? = ws[c]?) ∧ w.length = ws.length ∧ ∃ r : List Int, ∀ c k, jS w c k = lg_ap (ρ ++ r) c (jS ws c) t.2.2.2.2.2 k) := by
  refine lg_ok (hOk00 hf hT) hy hc ⟨he.ok, aFs.mk hfl hfs, hk, a5, a6, a7⟩ ?_
  rw [hargs]
  obtain ⟨v, u, rfl, h1, h2⟩ := ha
  exact ⟨v, u, rfl, h1, gL_re hes hel h2⟩
end LGD
/-! BY HAND, OVER VALUES: the locals that are followed, the stack as it is (longs, too) -/
section NG
variable {E : mj_E} {d y pc : Nat} {lx : List (Nat × Value)} {ST : List Value} {ws : va_W} {Q : Option Value → va_W → Prop}
def nG (E : mj_E) (d y pc : Nat) (lx : List (Nat × Value)) (ST : List Value) (ws : va_W) (Q : Option Value → va_W → Prop) : Prop := ∀ LV, (∀ q ∈ lx, q ∈ LV) → MJ E d 0 0 (y, pc, LV, ST, ws) Q
theorem n_nx {i : Instr} {n pc2 : Nat} {ST2 : List Value} (hd : decode (mj_b y) pc = .ok (i, n)) (hI : ∀ LV, (∀ q ∈ lx, q ∈ LV) → mj_I E d y pc LV ST ws (mj_nx pc2 LV ST2 ws) n i) (h : nG E d y pc2 lx ST2 ws Q) : nG E d y pc lx ST ws Q := fun LV hL => MJ.nx hd (hI LV hL) (h LV hL)
theorem n_il {k : Nat} {v : Int32} (hd : decode (mj_b y) pc = .ok (.iload k, 2)) (hm : (k, Value.int v) ∈ lx) (h : nG E d y (pc + 2) lx (.int v :: ST) ws Q) : nG E d y pc lx ST ws Q := n_nx hd (fun LV hL => ⟨rfl, v, hL _ hm, rfl⟩) h
theorem n_iln {k : Fin 4} {v : Int32} (hd : decode (mj_b y) pc = .ok (.iload_n k, 1)) (hm : ((k : Nat), Value.int v) ∈ lx) (h : nG E d y (pc + 1) lx (.int v :: ST) ws Q) : nG E d y pc lx ST ws Q := n_nx hd (fun LV hL => ⟨rfl, v, hL _ hm, rfl⟩) h
theorem n_ll {k : Nat} {v : Int64} (hd : decode (mj_b y) pc = .ok (.lload k, 2)) (hm : (k, Value.long v) ∈ lx) (h : nG E d y (pc + 2) lx (.long v :: ST) ws Q) : nG E d y pc lx ST ws Q := n_nx hd (fun LV hL => ⟨rfl, v, hL _ hm, rfl⟩) h
theorem n_lln {k : Fin 4} {v : Int64} (hd : decode (mj_b y) pc = .ok (.lload_n k, 1)) (hm : ((k : Nat), Value.long v) ∈ lx) (h : nG E d y (pc + 1) lx (.long v :: ST) ws Q) : nG E d y pc lx ST ws Q := n_nx hd (fun LV hL => ⟨rfl, v, hL _ hm, rfl⟩) h
theorem n_al {k : Fin 4} {a : Nat} (hd : decode (mj_b y) pc = .ok (.aload_n k, 1)) (hm : ((k : Nat), Value.ref a) ∈ lx) (h : nG E d y (pc + 1) lx (.ref a :: ST) ws Q) : nG E d y pc lx ST ws Q := n_nx hd (fun LV hL => ⟨rfl, a, hL _ hm, rfl⟩) h
theorem n_k {k : Int} {v : Int32} (hd : decode (mj_b y) pc = .ok (.iconst k, 1)) (hv : Int32.ofInt k = v) (h : nG E d y (pc + 1) lx (.int v :: ST) ws Q) : nG E d y pc lx ST ws Q := by
  subst hv
  exact n_nx hd (fun LV _ => ⟨rfl, rfl⟩) h
theorem n_bi {k : Int} {v : Int32} (hd : decode (mj_b y) pc = .ok (.bipush k, 2)) (hv : (Int8.ofInt k).toInt32 = v) (h : nG E d y (pc + 2) lx (.int v :: ST) ws Q) : nG E d y pc lx ST ws Q := by
  subst hv
  exact n_nx hd (fun LV _ => ⟨rfl, rfl⟩) h
theorem n_lk {k : Fin 2} {v : Int64} (hd : decode (mj_b y) pc = .ok (.lconst k, 1)) (hv : Int64.ofNat (k : Nat) = v) (h : nG E d y (pc + 1) lx (.long v :: ST) ws Q) : nG E d y pc lx ST ws Q := by
  subst hv
  exact n_nx hd (fun LV _ => ⟨rfl, rfl⟩) h
theorem n_ldl {ix : Nat} {v : Int} (hd : decode (mj_b y) pc = .ok (.ldc2_w ix, 3)) (hq : (mj_fkl (mj_cn y) ix).any (fun q => q.2.2.1 == 1 && q.2.2.2.1 == v) = true) (h : nG E d y (pc + 3) lx (.long (Int64.ofInt v) :: ST) ws Q) : nG E d y pc lx ST ws Q := by
  cases hm : mj_fkl (mj_cn y) ix with
  | none => rw [hm] at hq; cases hq
  | some q =>
    rw [hm] at hq
    have m := mj_find hm
    obtain ⟨a, b, kd, v2, pl⟩ := q
    simp only [Option.any_some, Bool.and_eq_true, beq_iff_eq] at hq
    obtain ⟨rfl, rfl⟩ := hq
    exact n_nx hd (fun LV _ => ⟨rfl, v2, pl, m, rfl⟩) h
theorem n_gf {ix q0 a ci k : Nat} {fs : List Value} {v : Value} (hd : decode (mj_b y) pc = .ok (.getfield ix, 3)) (hq : (mj_ffl (mj_cn y) ix).any (fun q => q.2.2.1 == ci && q.2.2.2.1 == k) = true) (hw : ws[q0]? = some (a, .inr (ci, fs))) (hv : fs[k]? = some v) (h : nG E d y (pc + 3) lx (v :: ST) ws Q) : nG E d y pc lx (.ref a :: ST) ws Q := by
  cases hm : mj_ffl (mj_cn y) ix with
  | none => rw [hm] at hq; cases hq
  | some q =>
    rw [hm] at hq
    have m := mj_find hm
    obtain ⟨a1, b, c2, k2, pl⟩ := q
    simp only [Option.any_some, Bool.and_eq_true, beq_iff_eq] at hq
    obtain ⟨rfl, rfl⟩ := hq
    exact n_nx hd (fun LV _ => ⟨rfl, a, ST, rfl, Or.inl ⟨c2, k2, pl, q0, fs, v, m, hw, hv, rfl⟩⟩) h
theorem n_iadd {a b c : Int32} (hd : decode (mj_b y) pc = .ok (.iadd, 1)) (hc : a + b = c) (h : nG E d y (pc + 1) lx (.int c :: ST) ws Q) : nG E d y pc lx (.int b :: .int a :: ST) ws Q := by
  subst hc
  exact n_nx hd (fun LV _ => ⟨rfl, a, b, ST, rfl, rfl⟩) h
theorem n_isub {a b c : Int32} (hd : decode (mj_b y) pc = .ok (.isub, 1)) (hc : a - b = c) (h : nG E d y (pc + 1) lx (.int c :: ST) ws Q) : nG E d y pc lx (.int b :: .int a :: ST) ws Q := by
  subst hc
  exact n_nx hd (fun LV _ => ⟨rfl, a, b, ST, rfl, rfl⟩) h
theorem n_imul {a b c : Int32} (hd : decode (mj_b y) pc = .ok (.imul, 1)) (hc : a * b = c) (h : nG E d y (pc + 1) lx (.int c :: ST) ws Q) : nG E d y pc lx (.int b :: .int a :: ST) ws Q := by
  subst hc
  exact n_nx hd (fun LV _ => ⟨rfl, a, b, ST, rfl, rfl⟩) h
theorem n_iand {a b c : Int32} (hd : decode (mj_b y) pc = .ok (.iand, 1)) (hc : a &&& b = c) (h : nG E d y (pc + 1) lx (.int c :: ST) ws Q) : nG E d y pc lx (.int b :: .int a :: ST) ws Q := by
  subst hc
  exact n_nx hd (fun LV _ => ⟨rfl, a, b, ST, rfl, rfl⟩) h
theorem n_ishl {a b c : Int32} (hd : decode (mj_b y) pc = .ok (.ishl, 1)) (hc : a <<< (b &&& 31) = c) (h : nG E d y (pc + 1) lx (.int c :: ST) ws Q) : nG E d y pc lx (.int b :: .int a :: ST) ws Q := by
  subst hc
  exact n_nx hd (fun LV _ => ⟨rfl, a, b, ST, rfl, rfl⟩) h
theorem n_ishr {a b c : Int32} (hd : decode (mj_b y) pc = .ok (.ishr, 1)) (hc : a >>> (b &&& 31) = c) (h : nG E d y (pc + 1) lx (.int c :: ST) ws Q) : nG E d y pc lx (.int b :: .int a :: ST) ws Q := by
  subst hc
  exact n_nx hd (fun LV _ => ⟨rfl, a, b, ST, rfl, rfl⟩) h
theorem n_i2l {a : Int32} {c : Int64} (hd : decode (mj_b y) pc = .ok (.i2l, 1)) (hc : a.toInt64 = c) (h : nG E d y (pc + 1) lx (.long c :: ST) ws Q) : nG E d y pc lx (.int a :: ST) ws Q := by
  subst hc
  exact n_nx hd (fun LV _ => ⟨rfl, a, ST, rfl, rfl⟩) h
theorem n_l2i {a : Int64} {c : Int32} (hd : decode (mj_b y) pc = .ok (.l2i, 1)) (hc : a.toInt32 = c) (h : nG E d y (pc + 1) lx (.int c :: ST) ws Q) : nG E d y pc lx (.long a :: ST) ws Q := by
  subst hc
  exact n_nx hd (fun LV _ => ⟨rfl, a, ST, rfl, rfl⟩) h
theorem n_ladd {a b c : Int64} (hd : decode (mj_b y) pc = .ok (.ladd, 1)) (hc : a + b = c) (h : nG E d y (pc + 1) lx (.long c :: ST) ws Q) : nG E d y pc lx (.long b :: .long a :: ST) ws Q := by
  subst hc
  exact n_nx hd (fun LV _ => ⟨rfl, a, b, ST, rfl, rfl⟩) h
theorem n_land {a b c : Int64} (hd : decode (mj_b y) pc = .ok (.land, 1)) (hc : a &&& b = c) (h : nG E d y (pc + 1) lx (.long c :: ST) ws Q) : nG E d y pc lx (.long b :: .long a :: ST) ws Q := by
  subst hc
  exact n_nx hd (fun LV _ => ⟨rfl, a, b, ST, rfl, rfl⟩) h
theorem n_lshl {a c : Int64} {b : Int32} (hd : decode (mj_b y) pc = .ok (.lshl, 1)) (hc : a <<< (b.toInt64 &&& 63) = c) (h : nG E d y (pc + 1) lx (.long c :: ST) ws Q) : nG E d y pc lx (.int b :: .long a :: ST) ws Q := by
  subst hc
  exact n_nx hd (fun LV _ => ⟨rfl, a, b, ST, rfl, rfl⟩) h
theorem n_lshr {a c : Int64} {b : Int32} (hd : decode (mj_b y) pc = .ok (.lshr, 1)) (hc : a >>> (b.toInt64 &&& 63) = c) (h : nG E d y (pc + 1) lx (.long c :: ST) ws Q) : nG E d y pc lx (.int b :: .long a :: ST) ws Q := by
  subst hc
  exact n_nx hd (fun LV _ => ⟨rfl, a, b, ST, rfl, rfl⟩) h
theorem n_lcmp {a b : Int64} {c : Int32} (hd : decode (mj_b y) pc = .ok (.lcmp, 1)) (hc : lg_cmp a b = c) (h : nG E d y (pc + 1) lx (.int c :: ST) ws Q) : nG E d y pc lx (.long b :: .long a :: ST) ws Q := by
  subst hc
  exact n_nx hd (fun LV _ => ⟨rfl, a, b, ST, rfl, rfl⟩) h
theorem n_ifT {c : ClassFile.Cond} {off : Int} {v : Int32} {tg : Nat} (hd : decode (mj_b y) pc = .ok (.ifCond c off, 3)) (hg : mj_go pc off tg) (hc : mj_c1 c v 0) (h : nG E d y tg lx ST ws Q) : nG E d y pc lx (.int v :: ST) ws Q := n_nx hd (fun LV _ => ⟨rfl, v, ST, tg, rfl, hg, Or.inl ⟨hc, rfl⟩⟩) h
theorem n_ifF {c : ClassFile.Cond} {off : Int} {v : Int32} {tg : Nat} (hd : decode (mj_b y) pc = .ok (.ifCond c off, 3)) (hg : mj_go pc off tg) (hc : ¬ mj_c1 c v 0) (h : nG E d y (pc + 3) lx ST ws Q) : nG E d y pc lx (.int v :: ST) ws Q := n_nx hd (fun LV _ => ⟨rfl, v, ST, tg, rfl, hg, Or.inr ⟨hc, rfl⟩⟩) h
theorem n_icT {c : ClassFile.Cond} {off : Int} {a b : Int32} {tg : Nat} (hd : decode (mj_b y) pc = .ok (.if_icmp c off, 3)) (hg : mj_go pc off tg) (hc : mj_c1 c a b) (h : nG E d y tg lx ST ws Q) : nG E d y pc lx (.int b :: .int a :: ST) ws Q := n_nx hd (fun LV _ => ⟨rfl, a, b, ST, tg, rfl, hg, Or.inl ⟨hc, rfl⟩⟩) h
theorem n_icF {c : ClassFile.Cond} {off : Int} {a b : Int32} {tg : Nat} (hd : decode (mj_b y) pc = .ok (.if_icmp c off, 3)) (hg : mj_go pc off tg) (hc : ¬ mj_c1 c a b) (h : nG E d y (pc + 3) lx ST ws Q) : nG E d y pc lx (.int b :: .int a :: ST) ws Q := n_nx hd (fun LV _ => ⟨rfl, a, b, ST, tg, rfl, hg, Or.inr ⟨hc, rfl⟩⟩) h
theorem n_goto {off : Int} {tg : Nat} (hd : decode (mj_b y) pc = .ok (.goto off, 3)) (hg : mj_go pc off tg) (h : nG E d y tg lx ST ws Q) : nG E d y pc lx ST ws Q := n_nx hd (fun LV _ => ⟨rfl, tg, hg, rfl⟩) h
theorem s1_mono {LV : List (Nat × Value)} {k : Nat} {v : Value} (h : ∀ q ∈ lx, q ∈ LV) : ∀ q ∈ mj_s1 lx k v, q ∈ mj_s1 LV k v := by
  intro q hq
  rcases List.mem_cons.mp hq with rfl | hq
  · exact List.mem_cons_self
  · obtain ⟨h1, h2⟩ := List.mem_filter.mp hq
    exact List.mem_cons_of_mem _ (List.mem_filter.mpr ⟨h q h1, h2⟩)
theorem s2_mono {LV : List (Nat × Value)} {k : Nat} {v : Value} (h : ∀ q ∈ lx, q ∈ LV) : ∀ q ∈ mj_s2 lx k v, q ∈ mj_s2 LV k v := by
  intro q hq
  rcases List.mem_cons.mp hq with rfl | hq
  · exact List.mem_cons_self
  · obtain ⟨h1, h2⟩ := List.mem_filter.mp hq
    exact List.mem_cons_of_mem _ (List.mem_filter.mpr ⟨h q h1, h2⟩)
theorem n_is {k : Nat} {v : Int32} (hd : decode (mj_b y) pc = .ok (.istore k, 2)) (hk : k < mj_l y) (h : nG E d y (pc + 2) (mj_s1 lx k (.int v)) ST ws Q) : nG E d y pc lx (.int v :: ST) ws Q := fun LV hL => MJ.nx hd ⟨rfl, hk, v, ST, rfl, rfl⟩ (h _ (s1_mono hL))
theorem n_isn {k : Fin 4} {v : Int32} (hd : decode (mj_b y) pc = .ok (.istore_n k, 1)) (hk : (k : Nat) < mj_l y) (h : nG E d y (pc + 1) (mj_s1 lx k (.int v)) ST ws Q) : nG E d y pc lx (.int v :: ST) ws Q := fun LV hL => MJ.nx hd ⟨rfl, hk, v, ST, rfl, rfl⟩ (h _ (s1_mono hL))
theorem n_ls {k : Nat} {v : Int64} (hd : decode (mj_b y) pc = .ok (.lstore k, 2)) (hk : k + 1 < mj_l y) (h : nG E d y (pc + 2) (mj_s2 lx k (.long v)) ST ws Q) : nG E d y pc lx (.long v :: ST) ws Q := fun LV hL => MJ.nx hd ⟨rfl, hk, v, ST, rfl, rfl⟩ (h _ (s2_mono hL))
theorem n_lsn {k : Fin 4} {v : Int64} (hd : decode (mj_b y) pc = .ok (.lstore_n k, 1)) (hk : (k : Nat) + 1 < mj_l y) (h : nG E d y (pc + 1) (mj_s2 lx k (.long v)) ST ws Q) : nG E d y pc lx (.long v :: ST) ws Q := fun LV hL => MJ.nx hd ⟨rfl, hk, v, ST, rfl, rfl⟩ (h _ (s2_mono hL))
theorem n_inc {k : Nat} {c : Int} {v v2 : Int32} (hd : decode (mj_b y) pc = .ok (.iinc k c, 3)) (hk : k < mj_l y) (hm : (k, Value.int v) ∈ lx) (hv : v + Int32.ofInt c = v2) (h : nG E d y (pc + 3) (mj_s1 lx k (.int v2)) ST ws Q) : nG E d y pc lx ST ws Q := by
  subst hv
  exact fun LV hL => MJ.nx hd ⟨rfl, hk, v, hL _ hm, rfl⟩ (h _ (s1_mono hL))
theorem n_reti {v : Int32} {ty : FieldType} (hd : decode (mj_b y) pc = .ok (.ireturn, 1)) (hr : mj_r y = some ty) (hn : narrow ty (.int v) = .int v) (h : Q (some (.int v)) ws) : nG E d y pc lx [.int v] ws Q := fun _ _ => MJ.rt hd ⟨rfl, v, ty, rfl, hr, hn, rfl⟩ h
theorem n_retl {v : Int64} (hd : decode (mj_b y) pc = .ok (.lreturn, 1)) (hr : mj_r y = some .long) (h : Q (some (.long v)) ws) : nG E d y pc lx [.long v] ws Q := fun _ _ => MJ.rt hd ⟨rfl, v, rfl, hr, rfl⟩ h
/-- a call of an object's method; what it leaves alone is the world -/
theorem n_cv {ix y2 q0 ci a : Nat} {fs as rest : List Value} {x : Value} (hd : decode (mj_b y) pc = .ok (.invokevirtual ix, 3)) (hq : (mj_fml (mj_cn y) ix).any (fun q => q.2.2.1 == 0 && q.2.2.2.1 == y2) = true) (hs : ST = as.reverse ++ .ref a :: rest) (hc : mj_callee y2 (.ref a :: as) rest ((mj_m y2).2.2.2.2.2.2 + 1))
    (hw : ws[q0]? = some (a, .inr (ci, fs))) (hci : mj_cls ci = (mj_y y2).cls ∧ ci < 7) (hM : MJ E d 0 0 (mj_in0 y2 (.ref a :: as) ws) (fun v w => v = some x ∧ w = ws)) (h : nG E (d + 1) y (pc + 3) lx (x :: rest) ws Q) : nG E (d + 1) y pc lx ST ws Q := by
  subst hs
  cases hm : mj_fml (mj_cn y) ix with
  | none => rw [hm] at hq; cases hq
  | some q =>
    rw [hm] at hq
    have m := mj_find hm
    obtain ⟨a1, b, kd, y3, pl⟩ := q
    simp only [Option.any_some, Bool.and_eq_true, beq_iff_eq] at hq
    obtain ⟨rfl, rfl⟩ := hq
    intro LV hL
    refine MJ.cl hd (y2 := y3) (as := .ref a :: as) (rest := rest) ⟨rfl, y3, pl, as, a, rest, m, rfl, hc, Or.inl ⟨q0, ci, fs, hw, hci⟩, rfl⟩ (d2 := d) (mc2 := 0) (ms2 := 0) (mc3 := 0) (ms3 := 0) rfl rfl rfl hM (fun v w hv => ?_)
    obtain ⟨rfl, rfl⟩ := hv
    exact h LV hL
/-- a call of a class's method -/
theorem n_cs {ix y2 : Nat} {as rest : List Value} {x : Value} (hd : decode (mj_b y) pc = .ok (.invokestatic ix, 3)) (hq : (mj_fml (mj_cn y) ix).any (fun q => (q.2.2.1 == 1 || q.2.2.1 == 4) && q.2.2.2.1 == y2) = true) (hs : ST = as.reverse ++ rest) (hc : mj_callee y2 as rest (mj_m y2).2.2.2.2.2.2)
    (hM : MJ E d 0 0 (mj_in0 y2 as ws) (fun v w => v = some x ∧ w = ws)) (h : nG E (d + 1) y (pc + 3) lx (x :: rest) ws Q) : nG E (d + 1) y pc lx ST ws Q := by
  subst hs
  cases hm : mj_fml (mj_cn y) ix with
  | none => rw [hm] at hq; cases hq
  | some q =>
    rw [hm] at hq
    have m := mj_find hm
    obtain ⟨a1, b, kd, y3, pl⟩ := q
    simp only [Option.any_some, Bool.and_eq_true, Bool.or_eq_true, beq_iff_eq] at hq
    obtain ⟨hk, rfl⟩ := hq
    intro LV hL
    refine MJ.cl hd (y2 := y3) (as := as) (rest := rest) ⟨rfl, Or.inl ⟨y3, pl, as, rest, ?_, rfl, hc, rfl⟩⟩ (d2 := d) (mc2 := 0) (ms2 := 0) (mc3 := 0) (ms3 := 0) rfl rfl rfl hM (fun v w hv => ?_)
    · rcases hk with rfl | rfl
      · exact Or.inl m
      · exact Or.inr m
    · obtain ⟨rfl, rfl⟩ := hv
      exact h LV hL
end NG
