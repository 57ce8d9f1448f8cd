/-! THE ABSTRACT EVALUATOR IS RIGHT: values, cells, reads and writes -/
def gV (E : mj_E) (al : List Nat) (ρ : List Int) : av → Value → Prop
  | .inl e, v => ∃ n : Int32, v = .int n ∧ aV ρ e n.toInt
  | .inr (0, c), v => ∃ a, al[c]? = some a ∧ v = .ref a
  | .inr (1, i), v => i < 24 ∧ v = .ref (E.1 i)
  | .inr (2, i), v => i < 24 ∧ v = .ref (E.2.1 i)
  | .inr (3, k), v => k < 3 ∧ v = .ref (E.2.2.1 k).1
  | .inr (4, _), v => ∃ n, v = .long n
  | .inr (5, n), v => v = .long (Int64.ofInt (n : Int)) ∧ 0 < n ∧ n < 1000000
  | .inr (6, _), v => v = E.2.2.2.1
  | .inr (_ + 7, _), _ => False
def gL (E : mj_E) (al : List Nat) (ρ : List Int) : List av → List Value → Prop
  | [], vs => vs = []
  | x :: t, vs => ∃ v u, vs = v :: u ∧ gV E al ρ x v ∧ gL E al ρ t u
/-- locals: what is known of some -/
def gA (E : mj_E) (al : List Nat) (ρ : List Int) (xs : List (Nat × av)) (vs : List (Nat × Value)) : Prop := ∀ q ∈ xs, ∃ v, (q.1, v) ∈ vs ∧ gV E al ρ q.2 v
theorem gV.mono {E : mj_E} {al : List Nat} {ρ r : List Int} : ∀ {x : av} {v : Value}, gV E al ρ x v → gV E al (ρ ++ r) x v
  | .inl _, _, ⟨n, e, h⟩ => ⟨n, e, h.mono⟩
  | .inr (0, _), _, h => h
  | .inr (1, _), _, h => h
  | .inr (2, _), _, h => h
  | .inr (3, _), _, h => h
  | .inr (4, _), _, h => h
  | .inr (5, _), _, h => h
  | .inr (6, _), _, h => h
  | .inr (_ + 7, _), _, h => h
theorem gL.mono {E : mj_E} {al : List Nat} {ρ r : List Int} : ∀ {xs : List av} {vs : List Value}, gL E al ρ xs vs → gL E al (ρ ++ r) xs vs
  | [], _, h => h
  | _ :: _, _, ⟨v, u, e, h1, h2⟩ => ⟨v, u, e, h1.mono, gL.mono h2⟩
theorem gA.mono {E : mj_E} {al : List Nat} {ρ r : List Int} {xs : List (Nat × av)} {vs : List (Nat × Value)} (h : gA E al ρ xs vs) : gA E al (ρ ++ r) xs vs := fun q hq => by
  obtain ⟨v, h1, h2⟩ := h q hq
  exact ⟨v, h1, h2.mono⟩
/-! worlds -/
def aFd (al : List Nat) : Nat ⊕ (Int × Int) → Value → Prop
  | .inl c, v => ∃ a, al[c]? = some a ∧ v = .ref a
  | .inr b, v => ∃ n : Int32, v = .int n ∧ b.1 ≤ n.toInt ∧ n.toInt ≤ b.2
def aRw (cols : List (Int × Int)) (N : Nat) (f : Nat → Int32) : Prop := ∀ (i : Nat) (b : Int × Int), i < N → cols[i % cols.length]? = some b → b.1 ≤ (f i).toInt ∧ (f i).toInt ≤ b.2
def aC (E : mj_E) (al : List Nat) : aD → va_E → Prop
  | .inl (ci, fs), e => ∃ vs, e = .inr (ci, vs) ∧ vs.length = fs.length ∧ ∀ (k : Nat) (f : Nat ⊕ (Int × Int)), fs[k]? = some f → ∃ v, vs[k]? = some v ∧ aFd al f v
  | .inr (0, N, cols), e => ∃ f, e = .inl (E.2.2.2.2.1, N, .inl f) ∧ aRw cols N f
  | .inr (1, N, _), e => ∃ f, e = .inl (E.2.2.2.2.2.1, N, .inr (.inl f))
  | .inr (2, N, cols), e => ∃ f, e = .inl (E.2.2.2.2.2.2, N, .inl f) ∧ aRw cols N f
  | .inr (_ + 3, _, _), _ => False
def aWd (E : mj_E) (al : List Nat) (lay : List aD) (ws : va_W) : Prop := ws.map (·.1) = al ∧ ∀ (c : Nat) (D : aD), lay[c]? = some D → ∃ q, ws[c]? = some q ∧ aC E al D q.2
def aRl (r : aRule) (ws : va_W) : Prop := ∀ (a N : Nat) (f : Nat → Int32) (cl : ClassId), ws[r.1]? = some (a, .inl (cl, N, .inl f)) → ∀ j : Nat, (f (r.2.1 * j + r.2.2.1)).toInt = r.2.2.2.1 → r.2.1 * j + r.2.2.1 < N → r.2.1 * j + r.2.2.2.2.1 < N → r.2.2.2.2.2.1 ≤ (f (r.2.1 * j + r.2.2.2.2.1)).toInt ∧ (f (r.2.1 * j + r.2.2.2.2.1)).toInt ≤ r.2.2.2.2.2.2
def aRs (rules : List aRule) (ws : va_W) : Prop := ∀ r ∈ rules, aRl r ws
/-- a slot's value -/
def aSl (ws : va_W) (c i : Nat) (x : Int) : Prop :=
  (∃ (a ci : Nat) (vs : List Value) (n : Int32), ws[c]? = some (a, .inr (ci, vs)) ∧ vs[i]? = some (.int n) ∧ n.toInt = x) ∨
  (∃ (a : Nat) (cl : ClassId) (N : Nat) (f : Nat → Int32), ws[c]? = some (a, .inl (cl, N, .inl f)) ∧ i < N ∧ (f i).toInt = x)
theorem aSl.uniq {ws : va_W} {c i : Nat} {x y : Int} (h1 : aSl ws c i x) (h2 : aSl ws c i y) : x = y := by
  rcases h1 with ⟨a, ci, vs, n, e1, e2, e3⟩ | ⟨a, cl, N, f, e1, e2, e3⟩ <;> rcases h2 with ⟨b, di, us, m, g1, g2, g3⟩ | ⟨b, dl, M, g, g1, g2, g3⟩
  · rw [e1] at g1; cases g1; rw [e2] at g2; cases g2; rw [← e3, ← g3]
  · rw [e1] at g1; cases g1
  · rw [e1] at g1; cases g1
  · rw [e1] at g1; cases g1; rw [← e3, ← g3]
/-- a slot is written -/
def aPt (w1 : va_W) (c i : Nat) (x : Int) (w : va_W) : Prop :=
  (∃ (a ci : Nat) (vs : List Value) (n : Int32), w1[c]? = some (a, .inr (ci, vs)) ∧ i < vs.length ∧ n.toInt = x ∧ w = w1.set c (a, .inr (ci, vs.set i (.int n)))) ∨
  (∃ (a : Nat) (cl : ClassId) (N : Nat) (f : Nat → Int32) (n : Int32), w1[c]? = some (a, .inl (cl, N, .inl f)) ∧ i < N ∧ n.toInt = x ∧ w = w1.set c (a, .inl (cl, N, .inl (upd f i n))))
/-- a slot's value as a function; a cell (below 1000) or a slot (1000 (i + 1) + c) is as before -/
def jS (w : va_W) (c i : Nat) : Int := match w[c]? with
  | some (_, .inr (_, vs)) => (match vs[i]? with
    | some (.int n) => n.toInt
    | _ => 0)
  | some (_, .inl (_, _, .inl f)) => (f i).toInt
  | _ => 0
def aE1 (q : Nat) (w w' : va_W) : Prop := if q < 1000 then w[q]? = w'[q]? else jS w (q % 1000) (q / 1000 - 1) = jS w' (q % 1000) (q / 1000 - 1)
theorem aPt.new {w1 w : va_W} {c i : Nat} {x : Int} (h : aPt w1 c i x w) : aSl w c i x := by
  rcases h with ⟨a, ci, vs, n, e1, e2, e3, rfl⟩ | ⟨a, cl, N, f, n, e1, e2, e3, rfl⟩
  · exact Or.inl ⟨a, ci, _, n, List.getElem?_set_self (List.getElem?_eq_some_iff.mp e1).1, List.getElem?_set_self e2, e3⟩
  · exact Or.inr ⟨a, cl, N, _, List.getElem?_set_self (List.getElem?_eq_some_iff.mp e1).1, e2, by rw [← e3]; simp [upd]⟩
theorem aPt.ne {w1 w : va_W} {c i : Nat} {x : Int} (h : aPt w1 c i x w) {k : Nat} (hk : k ≠ c) : w[k]? = w1[k]? := by
  rcases h with ⟨a, ci, vs, n, e1, e2, e3, rfl⟩ | ⟨a, cl, N, f, n, e1, e2, e3, rfl⟩ <;> exact List.getElem?_set_ne (Ne.symm hk)
theorem aPt.len {w1 w : va_W} {c i : Nat} {x : Int} (h : aPt w1 c i x w) : w.length = w1.length := by
  rcases h with ⟨a, ci, vs, n, e1, e2, e3, rfl⟩ | ⟨a, cl, N, f, n, e1, e2, e3, rfl⟩ <;> simp
theorem aSl.at {w1 w : va_W} {c i : Nat} {x : Int} (e : w[c]? = w1[c]?) (h : aSl w1 c i x) : aSl w c i x := by
  unfold aSl at h ⊢
  rw [e]
  exact h
theorem aPt.old {w1 w : va_W} {c i : Nat} {x : Int} (h : aPt w1 c i x w) {k j : Nat} {y : Int} (hk : ¬ (k = c ∧ j = i)) (h2 : aSl w1 k j y) : aSl w k j y := by
  by_cases e : k = c
  · subst e
    have hj : j ≠ i := fun e => hk ⟨rfl, e⟩
    rcases h with ⟨a, ci, vs, n, e1, e2, e3, rfl⟩ | ⟨a, cl, N, f, n, e1, e2, e3, rfl⟩
    · rcases h2 with ⟨b, di, us, m, g1, g2, g3⟩ | ⟨b, dl, M, g, g1, g2, g3⟩
      · rw [e1] at g1; cases g1
        exact Or.inl ⟨a, ci, _, m, List.getElem?_set_self (List.getElem?_eq_some_iff.mp e1).1, by rw [List.getElem?_set_ne (Ne.symm hj)]; exact g2, g3⟩
      · rw [e1] at g1; cases g1
    · rcases h2 with ⟨b, di, us, m, g1, g2, g3⟩ | ⟨b, dl, M, g, g1, g2, g3⟩
      · rw [e1] at g1; cases g1
      · rw [e1] at g1; cases g1
        exact Or.inr ⟨a, cl, N, _, List.getElem?_set_self (List.getElem?_eq_some_iff.mp e1).1, g2, by rw [← g3]; simp [upd, hj]⟩
  · exact h2.at (h.ne e)
/-- what is known of cells -/
def aH1 (ρ : List Int) (ws : va_W) (q : (Nat × ae) × ae) : Prop := ∃ i x, aV ρ q.1.2 i ∧ aV ρ q.2 x ∧ (if q.1.1 < 1000000 then 0 ≤ i ∧ aSl ws q.1.1 i.toNat x else if q.1.1 % 2 = 0 then x = i / (((q.1.1 - 1000000) / 2 : Nat) : Int) else x = i % (((q.1.1 - 1000001) / 2 : Nat) : Int))
def aHh (ρ : List Int) (ws : va_W) (h : aH) : Prop := ∀ q ∈ h, aH1 ρ ws q
/-- how the world came of the first -/
def aLg (ρ : List Int) (w0 : va_W) : aW → va_W → Prop
  | [], w => w = w0
  | (c, none) :: t, w => ∃ w1, aLg ρ w0 t w1 ∧ w.length = w1.length ∧ ∀ k, k ≠ c → w[k]? = w1[k]?
  | (c, some (ix, v)) :: t, w => ∃ w1 i x, aLg ρ w0 t w1 ∧ aV ρ ix i ∧ aV ρ v x ∧ 0 ≤ i ∧ aPt w1 c i.toNat x w
theorem aLg.mono {ρ r : List Int} {w0 : va_W} : ∀ {l : aW} {w : va_W}, aLg ρ w0 l w → aLg (ρ ++ r) w0 l w
  | [], _, h => h
  | (_, none) :: _, _, ⟨w1, h1, h2⟩ => ⟨w1, aLg.mono h1, h2⟩
  | (_, some (_, _)) :: _, _, ⟨w1, i, x, h1, h2, h3, h4⟩ => ⟨w1, i, x, aLg.mono h1, h2.mono, h3.mono, h4⟩
theorem aLg.frame {ρ : List Int} {w0 : va_W} : ∀ {l : aW} {w : va_W}, aLg ρ w0 l w → w.length = w0.length ∧ ∀ c, (∀ q ∈ l, q.1 ≠ c) → w[c]? = w0[c]?
  | [], _, h => by rw [show _ = w0 from h]; exact ⟨rfl, fun _ _ => rfl⟩
  | (c0, none) :: t, w, ⟨w1, h1, h2, h3⟩ => by
    have ih := aLg.frame h1
    exact ⟨h2.trans ih.1, fun c hc => (h3 c (Ne.symm (hc (c0, none) List.mem_cons_self))).trans (ih.2 c (fun q hq => hc q (List.mem_cons_of_mem _ hq)))⟩
  | (c0, some (ix, v)) :: t, w, ⟨w1, i, x, h1, h2, h3, h4, h5⟩ => by
    have ih := aLg.frame h1
    exact ⟨h5.len.trans ih.1, fun c hc => (h5.ne (Ne.symm (hc (c0, some (ix, v)) List.mem_cons_self))).trans (ih.2 c (fun q hq => hc q (List.mem_cons_of_mem _ hq)))⟩
/-- the tables -/
def aTb (E : mj_E) (ρ : List Int) (tabs : List (ae × Int × Int)) : Prop := ∀ (k : Nat) (q : ae × Int × Int), tabs[k]? = some q → k < 3 → aV ρ q.1 ((E.2.2.1 k).2.1 : Int) ∧ (E.2.2.1 k).2.1 < 2147483648 ∧ ∀ i, i < (E.2.2.1 k).2.1 → q.2.1 ≤ ((E.2.2.1 k).2.2 i).toInt ∧ ((E.2.2.1 k).2.2 i).toInt ≤ q.2.2
theorem aTb.mono {E : mj_E} {ρ r : List Int} {tabs : List (ae × Int × Int)} (h : aTb E ρ tabs) : aTb E (ρ ++ r) tabs := fun k q h1 h2 => ⟨(h k q h1 h2).1.mono, (h k q h1 h2).2⟩
theorem aHh.mono {ρ r : List Int} {ws : va_W} {h : aH} (hh : aHh ρ ws h) : aHh (ρ ++ r) ws h := fun q hq => by
  obtain ⟨i, x, h1, h2, h3⟩ := hh q hq
  exact ⟨i, x, h1.mono, h2.mono, h3⟩
/-- what a path says of valuation and world -/
def aSt (E : mj_E) (al : List Nat) (G : aG) (J : va_W → Prop) (w0 : va_W) (ρ : List Int) (P : aP) (ws : va_W) : Prop :=
  aPv ρ P ∧ aTb E ρ G.2.2.1 ∧ aHh ρ ws P.2.2.2.1 ∧ aLg ρ w0 P.2.2.2.2 ws ∧ aWd E al G.1 ws ∧ aRs G.2.1 ws ∧ J ws
section AST
variable {E : mj_E} {al : List Nat} {G : aG} {J : va_W → Prop} {w0 : va_W} {ρ : List Int} {P : aP} {ws : va_W}
theorem aSt.new (h : aSt E al G J w0 ρ P ws) {x lo hi : Int} (h1 : lo ≤ x) (h2 : x ≤ hi) : aV (ρ ++ [x]) (aP_new P lo hi).1 x ∧ aSt E al G J w0 (ρ ++ [x]) (aP_new P lo hi).2 ws := by
  obtain ⟨⟨a1, a2, a3⟩, b, c, d, e⟩ := h
  refine ⟨?_, ⟨a1.app h1 h2, a2.mono, a3.mono⟩, b.mono, c.mono, d.mono, e⟩
  apply aV.s
  rw [← a1.1]
  simp
/-- a path with more known -/
theorem aSt.pv (h : aSt E al G J w0 ρ P ws) {P2 : aP} (h1 : aPv ρ P2) (h2 : P2.2.2.2 = P.2.2.2) : aSt E al G J w0 ρ P2 ws := by
  obtain ⟨a, b, c, d, e⟩ := h
  exact ⟨h1, b, by rw [h2]; exact c, by rw [h2]; exact d, e⟩
theorem aSt.addh (h : aSt E al G J w0 ρ P ws) {q : (Nat × ae) × ae} (hq : aH1 ρ ws q) : aSt E al G J w0 ρ (P.1, P.2.1, P.2.2.1, q :: P.2.2.2.1, P.2.2.2.2) ws := by
  obtain ⟨a, b, c, d, e⟩ := h
  exact ⟨a, b, fun p hp => by rcases List.mem_cons.mp hp with rfl | hp; exact hq; exact c p hp, d, e⟩
theorem aH_get_ok {h : aH} {c : Nat} {ix v : ae} (hg : aH_get h c ix = some v) : ∃ q ∈ h, q.1.1 = c ∧ ae_eq q.1.2 ix = true ∧ q.2 = v := by
  unfold aH_get at hg
  cases hf : h.find? (fun q => q.1.1 == c && ae_eq q.1.2 ix) with
  | none => rw [hf] at hg; cases hg
  | some q =>
    rw [hf] at hg
    cases hg
    have h1 := List.find?_some hf
    simp only [Bool.and_eq_true, beq_iff_eq] at h1
    exact ⟨q, List.mem_of_find?_eq_some hf, h1.1, h1.2, rfl⟩
/-- what is known is so -/
theorem aSt.known (h : aSt E al G J w0 ρ P ws) {c : Nat} {ix v : ae} {i : Int} (hg : aH_get P.2.2.2.1 c ix = some v) (hi : aV ρ ix i) (hc : c < 1000000) : ∃ x, aV ρ v x ∧ 0 ≤ i ∧ aSl ws c i.toNat x := by
  obtain ⟨q, h1, rfl, h3, rfl⟩ := aH_get_ok hg
  obtain ⟨j, x, g1, g2, g3⟩ := h.2.2.1 q h1
  have e := ae_eq_ok h3 g1 hi
  subst e
  rw [if_pos hc] at g3
  exact ⟨x, g2, g3⟩
/-- a slot is read: the value that stands there -/
theorem aSt.read {b : Int × Int} {rules : List aRule} (h : aSt E al G J w0 ρ P ws) {c : Nat} {ix : ae} {i x : Int} (hc : c < 1000000) (hi : aV ρ ix i) (hi0 : 0 ≤ i) (hx : aSl ws c i.toNat x) (hb : (aR_get rules P c ix b).1 ≤ x ∧ x ≤ (aR_get rules P c ix b).2) :
    ∃ r, aV (ρ ++ r) (aP_read rules P c ix b).1 x ∧ aSt E al G J w0 (ρ ++ r) (aP_read rules P c ix b).2 ws := by
  unfold aP_read
  split
  · rename_i v hg
    obtain ⟨y, h1, h2, h3⟩ := h.known hg hi hc
    have := h3.uniq hx
    subst this
    exact ⟨[], by rw [List.append_nil]; exact h1, by rw [List.append_nil]; exact h⟩
  · dsimp only
    split
    · rename_i e
      have ex : (aR_get rules P c ix b).1 = x := by omega
      refine ⟨[], ?_⟩
      rw [List.append_nil]
      refine ⟨by rw [ex]; exact aV.k x, h.addh ⟨i, x, hi, by rw [ex]; exact aV.k x, ?_⟩⟩
      rw [if_pos hc]
      exact ⟨hi0, hx⟩
    · obtain ⟨h1, h2⟩ := h.new hb.1 hb.2
      refine ⟨[x], h1, h2.addh ⟨i, x, hi.mono, h1, ?_⟩⟩
      rw [if_pos hc]
      exact ⟨hi0, hx⟩
theorem aR_get_nil {c : Nat} {ix : ae} {b : Int × Int} : aR_get [] P c ix b = b := rfl
theorem ae_apart_ok {a b : ae} {v w : Int} (h : ae_apart a b = true) (hv : aV ρ a v) (hw : aV ρ b w) : v ≠ w := by
  unfold ae_apart at h
  have hs := hv.sub hw
  split at h
  · rename_i c e
    rw [e] at hs
    have := hs.of_k
    have := of_decide_eq_true h
    omega
  · cases h
theorem jS.at {w w' : va_W} {c i : Nat} (h : w[c]? = w'[c]?) : jS w c i = jS w' c i := by unfold jS; rw [h]
theorem aE1.c {q : Nat} {w w' : va_W} (h : aE1 q w w') (hq : q < 1000) : w[q]? = w'[q]? := by
  unfold aE1 at h
  rw [if_pos hq] at h
  exact h
theorem aE1.s {c i : Nat} {w w' : va_W} (h : aE1 (1000 * (i + 1) + c) w w') (hc : c < 1000) : jS w c i = jS w' c i := by
  unfold aE1 at h
  rw [if_neg (by omega), show (1000 * (i + 1) + c) % 1000 = c by omega, show (1000 * (i + 1) + c) / 1000 - 1 = i by omega] at h
  exact h
theorem aPt.slot {w1 w : va_W} {c i j : Nat} {x : Int} (h : aPt w1 c i x w) (hj : j ≠ i) : jS w c j = jS w1 c j := by
  rcases h with ⟨a, ci, vs, n, e1, e2, e3, rfl⟩ | ⟨a, cl, N, f, n, e1, e2, e3, rfl⟩
  · unfold jS
    rw [List.getElem?_set_self (List.getElem?_eq_some_iff.mp e1).1, e1]
    dsimp only
    rw [List.getElem?_set_ne (Ne.symm hj)]
  · unfold jS
    rw [List.getElem?_set_self (List.getElem?_eq_some_iff.mp e1).1, e1]
    dsimp only
    rw [show upd f i n j = f j by unfold upd; rw [if_neg hj]]
theorem aPw_ok {prot : List Nat} {c : Nat} {w w' : va_W} (h : aPw prot c = true) (hne : ∀ k, k ≠ c → w'[k]? = w[k]?) : ∀ q ∈ prot, aE1 q w w' := by
  intro q hq
  unfold aPw at h
  rw [Bool.and_eq_true, Bool.not_eq_true'] at h
  have h2 := List.all_eq_true.mp h.2 q hq
  simp only [Bool.or_eq_true, decide_eq_true_eq] at h2
  unfold aE1
  split
  · refine (hne q ?_).symm
    rintro rfl
    rw [List.elem_eq_true_of_mem hq] at h
    exact absurd h.1 (by simp)
  · refine jS.at (hne _ ?_).symm
    rcases h2 with h2 | h2
    · omega
    · exact h2
theorem aPk_ok {prot : List Nat} {c : Nat} {ix : ae} {i x : Int} {w w' : va_W} (h : aPk prot c ix = true) (hi : aV ρ ix i) (hi0 : 0 ≤ i) (hw : aPt w c i.toNat x w') : ∀ q ∈ prot, aE1 q w w' := by
  intro q hq
  unfold aPk at h
  rw [Bool.and_eq_true, Bool.not_eq_true'] at h
  have h2 := List.all_eq_true.mp h.2 q hq
  simp only [Bool.or_eq_true, decide_eq_true_eq] at h2
  unfold aE1
  split
  · refine (hw.ne ?_).symm
    rintro rfl
    rw [List.elem_eq_true_of_mem hq] at h
    exact absurd h.1 (by simp)
  · by_cases e : q % 1000 = c
    · rcases h2 with (h2 | h2) | h2
      · omega
      · exact absurd e h2
      · have := ae_apart_ok h2 (aV.k _) hi
        rw [e]
        exact (hw.slot (by omega)).symm
    · exact jS.at (hw.ne e).symm
/-- a slot is written -/
theorem aSt.write (h : aSt E al G J w0 ρ P ws) (hJ : ∀ w w' : va_W, (∀ c ∈ G.2.2.2.1, aE1 c w w') → J w → J w') {c : Nat} {ix v : ae} {i x : Int} {ws2 : va_W} (hc : c < 1000000) (hp : aPk G.2.2.2.1 c ix = true) (hi : aV ρ ix i) (hv : aV ρ v x) (hi0 : 0 ≤ i) (hw : aPt ws c i.toNat x ws2) (h1 : aWd E al G.1 ws2) (h2 : aRs G.2.1 ws2) :
    aSt E al G J w0 ρ (aP_write P c ix v) ws2 := by
  obtain ⟨a, b, hh, d, e, f, g⟩ := h
  refine ⟨a, b, ?_, ⟨ws, i, x, d, hi, hv, hi0, hw⟩, h1, h2, hJ ws ws2 (fun k hk => ?_) g⟩
  · intro q hq
    rcases List.mem_cons.mp hq with rfl | hq
    · exact ⟨i, x, hi, hv, by rw [if_pos hc]; exact ⟨hi0, hw.new⟩⟩
    · obtain ⟨hq1, hq2⟩ := List.mem_filter.mp hq
      obtain ⟨j, y, g1, g2, g3⟩ := hh q hq1
      refine ⟨j, y, g1, g2, ?_⟩
      split
      · rename_i hlt
        rw [if_pos hlt] at g3
        refine ⟨g3.1, hw.old ?_ g3.2⟩
        rintro ⟨e1, e2⟩
        simp only [Bool.or_eq_true, Bool.not_eq_true', beq_eq_false_iff_ne] at hq2
        rcases hq2 with hq2 | hq2
        · exact hq2 e1
        · exact ae_apart_ok hq2 g1 hi (by omega)
      · rename_i hlt
        rw [if_neg hlt] at g3
        exact g3
  · exact aPk_ok hp hi hi0 hw k hk
/-- a cell was written by others -/
theorem aSt.lose (h : aSt E al G J w0 ρ P ws) {cs : List Nat} {ws2 : va_W} (hl : ws2.length = ws.length) (hw : ∀ k, k ∉ cs → ws2[k]? = ws[k]?) (h1 : aWd E al G.1 ws2) (h2 : aRs G.2.1 ws2) (h3 : J ws2) :
    aSt E al G J w0 ρ (aP_lose P cs) ws2 := by
  obtain ⟨a, b, hh, d, e, f, g⟩ := h
  refine ⟨a, b, ?_, ?_, h1, h2, h3⟩
  · intro q hq
    obtain ⟨hq1, hq2⟩ := List.mem_filter.mp hq
    obtain ⟨j, y, g1, g2, g3⟩ := hh q hq1
    refine ⟨j, y, g1, g2, ?_⟩
    split
    · rename_i hlt
      rw [if_pos hlt] at g3
      refine ⟨g3.1, g3.2.at (hw _ ?_)⟩
      intro hm
      have : cs.elem q.1.1 = true := List.elem_eq_true_of_mem hm
      rw [this] at hq2
      cases hq2
    · rename_i hlt
      rw [if_neg hlt] at g3
      exact g3
  · show aLg ρ w0 (cs.map (fun c => (c, none)) ++ P.2.2.2.2) ws2
    clear h1 h2 h3
    have key : ∀ (cs : List Nat) (ws2 : va_W), ws2.length = ws.length → (∀ k, k ∉ cs → ws2[k]? = ws[k]?) → aLg ρ w0 (cs.map (fun c => (c, none)) ++ P.2.2.2.2) ws2 := by
      intro cs
      induction cs with
      | nil =>
        intro ws2 hl hw
        have : ws2 = ws := List.ext_getElem? (fun k => hw k (by simp))
        rw [this]
        exact d
      | cons c t ih =>
        intro ws2 hl hw
        cases hc : ws[c]? with
        | none =>
          refine ⟨ws2, ih ws2 hl (fun k hk => ?_), rfl, fun _ _ => rfl⟩
          by_cases e : k = c
          · subst e
            rw [hc]
            rw [List.getElem?_eq_none_iff] at hc ⊢
            omega
          · exact hw k (by simp [e, hk])
        | some q =>
          have hlt := (List.getElem?_eq_some_iff.mp hc).1
          refine ⟨ws2.set c q, ih _ (by simp [hl]) (fun k hk => ?_), by simp, fun k hk => (List.getElem?_set_ne (Ne.symm hk)).symm⟩
          by_cases e : k = c
          · subst e
            rw [List.getElem?_set_self (by omega), hc]
          · rw [List.getElem?_set_ne (Ne.symm e)]
            exact hw k (by simp [e, hk])
    exact key cs ws2 hl hw
/-- a row is copied -/
theorem aSt.cpy (h : aSt E al G J w0 ρ P ws) {c0 c1 a0 a1 N0 N1 : Nat} {cl cl1 : ClassId} {f g : Nat → Int32} {es ed en : ae} {sp dp nn : Int32} (hs : aV ρ es sp.toInt) (hd : aV ρ ed dp.toInt) (hn : aV ρ en nn.toInt) (s0 : 0 ≤ sp.toInt) (d0 : 0 ≤ dp.toInt) (h6 : dp.toInt + nn.toInt ≤ N1) (hc0 : c0 < 1000000) (hc1 : c1 < 1000000)
    (he0 : ws[c0]? = some (a0, .inl (cl, N0, .inl f))) (he1 : ws[c1]? = some (a1, .inl (cl1, N1, .inl g))) (h2 : aSt E al G J w0 ρ (aP_lose P [c1]) (ws.set c1 (a1, .inl (cl1, N1, .inl (va_cpy f g sp.toNatClampNeg dp.toNatClampNeg nn.toNatClampNeg))))) :
    aSt E al G J w0 ρ (aP_cpy P c0 c1 es ed en) (ws.set c1 (a1, .inl (cl1, N1, .inl (va_cpy f g sp.toNatClampNeg dp.toNatClampNeg nn.toNatClampNeg)))) := by
  obtain ⟨a, b, hh, r⟩ := h2
  refine ⟨a, b, ?_, r⟩
  have c1' : sp.toNatClampNeg = sp.toInt.toNat := rfl
  have c2' : dp.toNatClampNeg = dp.toInt.toNat := rfl
  have c3' : nn.toNatClampNeg = nn.toInt.toNat := rfl
  intro q hq
  have hq : q ∈ aP_cph P.2.2.2.1 c0 c1 es ed en ++ (aP_lose P [c1]).2.2.2.1 := hq
  rcases List.mem_append.mp hq with hq | hq
  · obtain ⟨el, s⟩ := es
    obtain ⟨dl, d⟩ := ed
    obtain ⟨nl, n⟩ := en
    cases el with
    | cons x t =>
      have hq : q ∈ ([] : aH) := hq
      cases hq
    | nil =>
      cases dl with
      | cons x t =>
        have hq : q ∈ ([] : aH) := hq
        cases hq
      | nil =>
        cases nl with
        | cons x t =>
          have hq : q ∈ ([] : aH) := hq
          cases hq
        | nil =>
          have es' := hs.of_k
          have ed' := hd.of_k
          have en' := hn.of_k
          obtain ⟨p, hp, hq2⟩ := List.mem_filterMap.mp hq
          clear hq
          split at hq2
          · rename_i hc
            obtain ⟨e1, e2, e3, e4⟩ := hc
            obtain ⟨⟨pc, pl, pk⟩, pv⟩ := p
            dsimp only at e1 e2 e3 e4 hq2
            subst e1
            subst e2
            cases hq2
            obtain ⟨j, y, g1, g2, g3⟩ := h.2.2.1 _ hp
            have ej : j = pk := g1.of_k
            subst ej
            dsimp only at g2 g3
            rw [if_pos hc0] at g3
            refine ⟨j - s + d, y, aV.k _, g2, ?_⟩
            dsimp only
            rw [if_pos hc1]
            refine ⟨by omega, ?_⟩
            rcases g3.2 with ⟨a', ci, vs, m, x1, x2, x3⟩ | ⟨a', cl', M, f', x1, x2, x3⟩
            · rw [he0] at x1
              cases x1
            · rw [he0] at x1
              cases x1
              have hl : c1 < ws.length := (List.getElem?_eq_some_iff.mp he1).1
              refine Or.inr ⟨a1, cl1, N1, _, List.getElem?_set_self hl, by omega, ?_⟩
              unfold va_cpy
              rw [if_pos (by omega)]
              rw [show sp.toNatClampNeg + ((j - s + d).toNat - dp.toNatClampNeg) = j.toNat by omega]
              exact x3
          · cases hq2
  · exact hh q hq
end AST
