/-! THE ABSTRACT EVALUATOR IS RIGHT: expressions -/
def aVl (ρ : List Int) : List (Nat × Int) → Int → Prop
  | [], v => v = 0
  | (k, a) :: t, v => ∃ x w, ρ[k]? = some x ∧ aVl ρ t w ∧ v = a * x + w
/-- an expression's value -/
def aV (ρ : List Int) (e : ae) (v : Int) : Prop := aVl ρ e.1 (v - e.2)
theorem aVl.uniq {ρ : List Int} : ∀ {l : List (Nat × Int)} {v w : Int}, aVl ρ l v → aVl ρ l w → v = w
  | [], _, _, h1, h2 => by rw [show _ = _ from h1, show _ = _ from h2]
  | (_, _) :: _, _, _, ⟨x, u, e1, h1, rfl⟩, ⟨x2, u2, e2, h2, rfl⟩ => by
    rw [e1] at e2
    cases e2
    rw [aVl.uniq h1 h2]
theorem aV.uniq {ρ : List Int} {e : ae} {v w : Int} (h1 : aV ρ e v) (h2 : aV ρ e w) : v = w := by
  have := aVl.uniq h1 h2
  omega
theorem aVl.mono {ρ r : List Int} : ∀ {l : List (Nat × Int)} {v : Int}, aVl ρ l v → aVl (ρ ++ r) l v
  | [], _, h => h
  | (_, _) :: _, _, ⟨x, u, e1, h1, e2⟩ => ⟨x, u, by rw [List.getElem?_append_left (List.getElem?_eq_some_iff.mp e1).1]; exact e1, h1.mono, e2⟩
theorem aV.mono {ρ r : List Int} {e : ae} {v : Int} (h : aV ρ e v) : aV (ρ ++ r) e v := aVl.mono h
theorem aV.k {ρ : List Int} (c : Int) : aV ρ (ae_k c) c := by show c - c = 0; omega
theorem aV.of_k {ρ : List Int} {c v : Int} (h : aV ρ ([], c) v) : v = c := by have : v - c = 0 := h; omega
theorem aV.s {ρ : List Int} {k : Nat} {x : Int} (h : ρ[k]? = some x) : aV ρ (ae_s k) x := ⟨x, 0, h, rfl, by show x - 0 = 1 * x + 0; omega⟩
theorem aVl.ins {ρ : List Int} {k : Nat} {x : Int} (hk : ρ[k]? = some x) (c : Int) : ∀ {l : List (Nat × Int)} {w : Int}, aVl ρ l w → aVl ρ (ae_ins k c l) (c * x + w)
  | [], w, h => ⟨x, 0, hk, rfl, by rw [show w = 0 from h]⟩
  | (j, b) :: t, w, ⟨y, u, e1, h1, e2⟩ => by
    unfold ae_ins
    split
    · exact ⟨x, w, hk, ⟨y, u, e1, h1, e2⟩, rfl⟩
    · split
      · rename_i _ e
        subst e
        rw [hk] at e1
        cases e1
        split
        · rename_i e0
          have : c * x + w = u := by
            rw [e2, ← Int.add_assoc, ← Int.add_mul, Int.add_comm c b, e0]; omega
          rw [this]
          exact h1
        · exact ⟨x, u, hk, h1, by rw [e2, ← Int.add_assoc, ← Int.add_mul, Int.add_comm c b]⟩
      · exact ⟨y, c * x + u, e1, aVl.ins hk c h1, by rw [e2]; omega⟩
theorem aVl.fold {ρ : List Int} : ∀ {l : List (Nat × Int)} {l2 : List (Nat × Int)} {v w : Int}, aVl ρ l v → aVl ρ l2 w → aVl ρ (l.foldr (fun q l => ae_ins q.1 q.2 l) l2) (v + w)
  | [], _, v, w, h, h2 => by rw [show v = 0 from h, Int.zero_add]; exact h2
  | (k, a) :: t, l2, v, w, ⟨x, u, e1, h1, e2⟩, h2 => by
    have h3 := (aVl.fold h1 h2).ins e1 a
    rw [← Int.add_assoc, ← e2] at h3
    exact h3
theorem aV.add {ρ : List Int} {a b : ae} {v w : Int} (h1 : aV ρ a v) (h2 : aV ρ b w) : aV ρ (ae_add a b) (v + w) := by
  have h := aVl.fold h1 h2
  have e : v + w - (a.2 + b.2) = v - a.2 + (w - b.2) := by omega
  show aVl ρ _ (v + w - (a.2 + b.2))
  rw [e]
  exact h
theorem aVl.mul {ρ : List Int} (c : Int) : ∀ {l : List (Nat × Int)} {v : Int}, aVl ρ l v → aVl ρ (l.map (fun q => (q.1, c * q.2))) (c * v)
  | [], v, h => by rw [show v = 0 from h, Int.mul_zero]; rfl
  | (k, a) :: t, v, ⟨x, u, e1, h1, e2⟩ => ⟨x, c * u, e1, aVl.mul c h1, by rw [e2, Int.mul_add, Int.mul_assoc]⟩
theorem aV.mul {ρ : List Int} (c : Int) {a : ae} {v : Int} (h : aV ρ a v) : aV ρ (ae_mul c a) (c * v) := by
  unfold ae_mul
  split
  · rename_i e
    subst e
    rw [Int.zero_mul]
    show (0 : Int) - 0 = 0
    rfl
  · show aVl ρ _ (c * v - c * a.2)
    rw [← Int.mul_sub]
    exact aVl.mul c h
theorem aV.neg {ρ : List Int} {a : ae} {v : Int} (h : aV ρ a v) : aV ρ (ae_neg a) (-v) := by
  have := h.mul (-1)
  rwa [show (-1 : Int) * v = -v by omega] at this
theorem aV.sub {ρ : List Int} {a b : ae} {v w : Int} (h1 : aV ρ a v) (h2 : aV ρ b w) : aV ρ (ae_sub a b) (v - w) := by
  have := h1.add h2.neg
  rwa [show v + -w = v - w by omega] at this
theorem aV.inc {ρ : List Int} {a : ae} {v : Int} (h : aV ρ a v) (c : Int) : aV ρ (ae_inc a c) (v + c) := by
  show aVl ρ _ (v + c - (a.2 + c))
  rw [show v + c - (a.2 + c) = v - a.2 by omega]
  exact h
/-! bounds -/
def aEv (ρ : List Int) (env : List (Int × Int)) : Prop := ρ.length = env.length ∧ ∀ (k : Nat) (x : Int) (b : Int × Int), ρ[k]? = some x → env[k]? = some b → b.1 ≤ x ∧ x ≤ b.2
def aFs (ρ : List Int) (fs : List ae) : Prop := ∀ f ∈ fs, ∃ v, aV ρ f v ∧ v ≤ 0
def aNz (ρ : List Int) (fs : List ae) : Prop := ∀ f ∈ fs, ∃ v, aV ρ f v ∧ v ≠ 0
theorem ae_ub_ok {ρ : List Int} {env : List (Int × Int)} (hE : aEv ρ env) : ∀ {l : List (Nat × Int)} {c u v : Int}, ae_ub env l c = some u → aVl ρ l v → v + c ≤ u
  | [], c, u, v, h, hv => by cases h; rw [show v = 0 from hv]; omega
  | (k, a) :: t, c, u, v, h, ⟨x, w, e1, h1, e2⟩ => by
    unfold ae_ub at h
    split at h
    · cases h
    · rename_i lo hi hk
      have hb := hE.2 k x _ e1 hk
      have ih := ae_ub_ok hE h h1
      have : a * x ≤ if 0 ≤ a then a * hi else a * lo := by
        split
        · rename_i ha
          exact Int.mul_le_mul_of_nonneg_left hb.2 ha
        · rename_i ha
          exact Int.mul_le_mul_of_nonpos_left (by omega) hb.1
      omega
theorem ae_le0_ok {ρ : List Int} {env : List (Int × Int)} (hE : aEv ρ env) {e : ae} {v : Int} (h : ae_le0 env e = true) (hv : aV ρ e v) : v ≤ 0 := by
  unfold ae_le0 at h
  split at h
  · rename_i u hu
    have := ae_ub_ok hE hu hv
    have := of_decide_eq_true h
    omega
  · cases h
theorem ae_pr_ok {ρ : List Int} {env : List (Int × Int)} {fs : List ae} (hE : aEv ρ env) (hF : aFs ρ fs) {e : ae} {v : Int} (h : ae_pr env fs e = true) (hv : aV ρ e v) : v ≤ 0 := by
  unfold ae_pr at h
  simp only [Bool.or_eq_true, List.any_eq_true] at h
  rcases h with (h | ⟨f, hf, h⟩) | ⟨f, hf, g, hg, h⟩
  · exact ae_le0_ok hE h hv
  · obtain ⟨w, hw, hw0⟩ := hF f hf
    have := ae_le0_ok hE h (hv.sub hw)
    omega
  · obtain ⟨w, hw, hw0⟩ := hF f hf
    obtain ⟨w2, hw2, hw20⟩ := hF g hg
    have := ae_le0_ok hE h ((hv.sub hw).sub hw2)
    omega
/-- bounds, facts and what isn't 0 hold -/
def aPv (ρ : List Int) (P : aP) : Prop := aEv ρ P.1 ∧ aFs ρ P.2.1 ∧ aNz ρ P.2.2.1
theorem aPv.pr {ρ : List Int} {P : aP} (h : aPv ρ P) {e : ae} {v : Int} (hp : aP_pr P e = true) (hv : aV ρ e v) : v ≤ 0 := ae_pr_ok h.1 h.2.1 hp hv
theorem aPv.in {ρ : List Int} {P : aP} (h : aPv ρ P) {lo hi : Int} {e : ae} {v : Int} (hp : aP_in P lo hi e = true) (hv : aV ρ e v) : lo ≤ v ∧ v ≤ hi := by
  unfold aP_in at hp
  rw [Bool.and_eq_true] at hp
  have a := h.pr hp.1 (hv.neg.inc lo)
  have b := h.pr hp.2 (hv.inc (-hi))
  omega
theorem aPv.bd {ρ : List Int} {P : aP} (h : aPv ρ P) {lo hi : Int} {e : ae} {v : Int} (hp : aP_bd P e = some (lo, hi)) (hv : aV ρ e v) : lo ≤ v ∧ v ≤ hi := by
  unfold aP_bd at hp
  split at hp
  · rename_i l u h1 h2
    cases hp
    have a := ae_ub_ok h.1 h1 hv.neg
    have b := ae_ub_ok h.1 h2 hv
    omega
  · cases hp
theorem ae_eq_ok {ρ : List Int} {a b : ae} {v w : Int} (h : ae_eq a b = true) (hv : aV ρ a v) (hw : aV ρ b w) : v = w := by
  unfold ae_eq at h
  have hs := hv.sub hw
  split at h
  · rename_i e
    rw [e] at hs
    have := hs.of_k
    omega
  · cases h
theorem aPv.eq {ρ : List Int} {P : aP} (h : aPv ρ P) {a b : ae} {v w : Int} (hp : aP_eq P a b = true) (hv : aV ρ a v) (hw : aV ρ b w) : v = w := by
  unfold aP_eq at hp
  simp only [Bool.or_eq_true, Bool.and_eq_true] at hp
  rcases hp with hp | ⟨h1, h2⟩
  · exact ae_eq_ok hp hv hw
  · have a := h.pr h1 (hv.sub hw)
    have b := h.pr h2 (hw.sub hv)
    omega
theorem aPv.isnz {ρ : List Int} {P : aP} (h : aPv ρ P) {e : ae} {v : Int} (hp : aP_isnz P e = true) (hv : aV ρ e v) : v ≠ 0 := by
  unfold aP_isnz at hp
  simp only [Bool.or_eq_true, List.any_eq_true] at hp
  rcases hp with (hp | hp) | ⟨z, hz, hp | hp⟩
  · have := h.pr hp (hv.inc 1); omega
  · have := h.pr hp (hv.neg.inc 1); omega
  · obtain ⟨w, hw, hw0⟩ := h.2.2 z hz
    have := ae_eq_ok hp hw hv; omega
  · obtain ⟨w, hw, hw0⟩ := h.2.2 z hz
    have := ae_eq_ok hp hw.neg hv; omega
/-! what is new -/
theorem aEv.app {ρ : List Int} {env : List (Int × Int)} (h : aEv ρ env) {x lo hi : Int} (h1 : lo ≤ x) (h2 : x ≤ hi) : aEv (ρ ++ [x]) (env ++ [(lo, hi)]) := by
  refine ⟨by simp [h.1], fun k y b hk hb => ?_⟩
  by_cases e : k < ρ.length
  · rw [List.getElem?_append_left e] at hk
    rw [List.getElem?_append_left (by rw [← h.1]; exact e)] at hb
    exact h.2 k y b hk hb
  · rw [List.getElem?_append_right (by omega)] at hk
    rw [List.getElem?_append_right (by rw [← h.1]; omega), ← h.1] at hb
    cases hz : k - ρ.length with
    | zero => rw [hz] at hk hb; cases hk; cases hb; exact ⟨h1, h2⟩
    | succ n => rw [hz] at hk; cases hk
theorem aFs.mono {ρ r : List Int} {fs : List ae} (h : aFs ρ fs) : aFs (ρ ++ r) fs := fun f hf => by
  obtain ⟨v, h1, h2⟩ := h f hf
  exact ⟨v, h1.mono, h2⟩
theorem aNz.mono {ρ r : List Int} {fs : List ae} (h : aNz ρ fs) : aNz (ρ ++ r) fs := fun f hf => by
  obtain ⟨v, h1, h2⟩ := h f hf
  exact ⟨v, h1.mono, h2⟩
theorem aEv.set {ρ : List Int} {env : List (Int × Int)} (h : aEv ρ env) {k : Nat} {b : Int × Int} (hb : ∀ x, ρ[k]? = some x → b.1 ≤ x ∧ x ≤ b.2) : aEv ρ (env.set k b) := by
  refine ⟨by simp [h.1], fun j x c hj hc => ?_⟩
  by_cases e : k = j
  · subst e
    have hl : k < env.length := by rw [← h.1]; exact (List.getElem?_eq_some_iff.mp hj).1
    rw [List.getElem?_set_self hl] at hc
    cases hc
    exact hb x hj
  · rw [List.getElem?_set_ne e] at hc
    exact h.2 j x c hj hc
theorem aEv.get {ρ : List Int} {env : List (Int × Int)} (h : aEv ρ env) {k : Nat} {b : Int × Int} (hk : env[k]? = some b) : ∃ x, ρ[k]? = some x ∧ b.1 ≤ x ∧ x ≤ b.2 := by
  have hl := (List.getElem?_eq_some_iff.mp hk).1
  have : ρ[k]? = some (ρ[k]'(by rw [h.1]; exact hl)) := List.getElem?_eq_some_iff.mpr ⟨by rw [h.1]; exact hl, rfl⟩
  exact ⟨_, this, h.2 k _ b this hk⟩
/-- an expression's value at a single symbol -/
theorem aV.one {ρ : List Int} {k : Nat} {a c v : Int} (h : aV ρ ([(k, a)], c) v) : ∃ x, ρ[k]? = some x ∧ v = a * x + c := by
  obtain ⟨x, w, e1, h1, e2⟩ := h
  rw [show w = 0 from h1] at e2
  have e2 : v - c = a * x + 0 := e2
  exact ⟨x, e1, by omega⟩
theorem ae_tight_ok {ρ : List Int} {e : ae} {v : Int} (hv : aV ρ e v) (hv0 : v ≤ 0) : ∀ (l : List (Nat × Int)) {env : List (Int × Int)}, aEv ρ env → ∃ env2, ae_tight e l env = some env2 ∧ aEv ρ env2
  | [], env, h => ⟨env, rfl, h⟩
  | (k, a) :: t, env, h => by
    unfold ae_tight
    split
    · rename_i ha
      split
      · rename_i lo hi m hk hm
        obtain ⟨x, hx, hlo, hhi⟩ := h.get hk
        have hr := ((hv.add ((aV.s hx).mul (-a))).neg)
        have hb := ae_ub_ok h hm hr
        rcases ha with rfl | rfl
        · rw [if_pos rfl]
          have hb : -(v + -1 * x) ≤ m := by omega
          rw [if_neg (by have : lo ≤ x := hlo; omega)]
          apply ae_tight_ok hv hv0 t
          split
          · exact h.set (fun y hy => by rw [hx] at hy; cases hy; exact ⟨hlo, by show x ≤ m; omega⟩)
          · exact h
        · rw [if_neg (by decide)]
          have hb : -(v + 1 * x) ≤ m := by
            have : - -1 * x = x := by omega
            omega
          rw [if_neg (by have : x ≤ hi := hhi; omega)]
          apply ae_tight_ok hv hv0 t
          split
          · exact h.set (fun y hy => by rw [hx] at hy; cases hy; exact ⟨by show -m ≤ x; omega, hhi⟩)
          · exact h
      · exact ae_tight_ok hv hv0 t h
    · exact ae_tight_ok hv hv0 t h
/-- the rest of a path is as it was -/
theorem aP_as_ok {ρ : List Int} {P : aP} (h : aPv ρ P) {e : ae} {v : Int} (hv : aV ρ e v) (hv0 : v ≤ 0) : ∃ P2, aP_as P e = some P2 ∧ aPv ρ P2 ∧ P2.2.2 = P.2.2 := by
  unfold aP_as
  rw [if_neg (fun hp => by have := h.pr hp (hv.neg.inc 1); omega)]
  split
  · exact ⟨P, rfl, h, rfl⟩
  · obtain ⟨env2, h1, h2⟩ := ae_tight_ok hv hv0 e.1 h.1
    rw [h1]
    dsimp only
    split
    · exact ⟨_, rfl, ⟨h2, h.2.1, h.2.2⟩, rfl⟩
    · refine ⟨_, rfl, ⟨h2, fun f hf => ?_, h.2.2⟩, rfl⟩
      rcases List.mem_cons.mp hf with rfl | hf
      · exact ⟨v, hv, hv0⟩
      · exact h.2.1 f hf
theorem aP_bnd_ok {ρ : List Int} {P : aP} (h : aPv ρ P) {e : ae} {v : Int} (hv : aV ρ e v) (hv0 : v ≠ 0) : aPv ρ (aP_bnd P e) ∧ (aP_bnd P e).2 = P.2 := by
  unfold aP_bnd
  split
  · rename_i k a c
    obtain ⟨x, hx, e1⟩ := hv.one
    split
    · exact ⟨h, rfl⟩
    · rename_i lo hi hk
      have hb := h.1.2 k x _ hx hk
      have hb1 : lo ≤ x := hb.1
      have hb2 : x ≤ hi := hb.2
      split
      · rename_i hc
        refine ⟨⟨h.1.set (fun y hy => ?_), h.2⟩, rfl⟩
        rw [hx] at hy
        cases hy
        refine ⟨?_, hb2⟩
        show lo + 1 ≤ x
        rcases hc with ⟨rfl, hc⟩ | ⟨rfl, hc⟩ <;> omega
      · split
        · rename_i hc
          refine ⟨⟨h.1.set (fun y hy => ?_), h.2⟩, rfl⟩
          rw [hx] at hy
          cases hy
          refine ⟨hb1, ?_⟩
          show x ≤ hi - 1
          rcases hc with ⟨rfl, hc⟩ | ⟨rfl, hc⟩ <;> omega
        · exact ⟨h, rfl⟩
  · exact ⟨h, rfl⟩
theorem aP_bnds_ok {ρ : List Int} : ∀ (l : List ae) {P : aP}, aPv ρ P → aNz ρ l → aPv ρ (l.foldl aP_bnd P) ∧ (l.foldl aP_bnd P).2 = P.2
  | [], P, h, _ => ⟨h, rfl⟩
  | e :: t, P, h, hl => by
    obtain ⟨v, h1, h2⟩ := hl e List.mem_cons_self
    have a := aP_bnd_ok h h1 h2
    have b := aP_bnds_ok t a.1 (fun f hf => hl f (List.mem_cons_of_mem _ hf))
    exact ⟨b.1, b.2.trans a.2⟩
theorem aP_nz_ok {ρ : List Int} {P : aP} (h : aPv ρ P) {e : ae} {v : Int} (hv : aV ρ e v) (hv0 : v ≠ 0) : ∃ P2, aP_nz P e = some P2 ∧ aPv ρ P2 ∧ P2.2.2.2 = P.2.2.2 := by
  unfold aP_nz
  have hz : aNz ρ (e :: P.2.2.1) := fun f hf => by
    rcases List.mem_cons.mp hf with rfl | hf
    · exact ⟨v, hv, hv0⟩
    · exact h.2.2 f hf
  rw [if_neg (fun hp => by rw [Bool.and_eq_true] at hp; have a := h.pr hp.1 hv; have b := h.pr hp.2 hv.neg; omega)]
  have a := aP_bnds_ok (e :: P.2.2.1) (P := (P.1, P.2.1, e :: P.2.2.1, P.2.2.2)) ⟨h.1, h.2.1, hz⟩ hz
  exact ⟨_, rfl, a.1, by rw [a.2]⟩
/-- the comparison's outcome -/
def aCm (c : ClassFile.Cond) (v w : Int) (t : Bool) : Prop := match c with | .lt => (v < w ↔ t = true) | .ge => (w ≤ v ↔ t = true) | .gt => (w < v ↔ t = true) | .le => (v ≤ w ↔ t = true) | .eq => (v = w ↔ t = true) | .ne => (v ≠ w ↔ t = true)
/-- a comparison that came out so -/
theorem aP_cmp_ok {ρ : List Int} {P : aP} (h : aPv ρ P) {a b : ae} {v w : Int} (hv : aV ρ a v) (hw : aV ρ b w) (c : ClassFile.Cond) (t : Bool)
    (hc : aCm c v w t) :
    ∃ P2, aP_cmp P c a b t = some P2 ∧ aPv ρ P2 ∧ P2.2.2.2 = P.2.2.2 := by
  have go : ∀ {e : ae} {x : Int}, aV ρ e x → x ≤ 0 → ∃ P2, aP_as P e = some P2 ∧ aPv ρ P2 ∧ P2.2.2.2 = P.2.2.2 := fun h1 h2 => by
    obtain ⟨P2, e1, e2, e3⟩ := aP_as_ok h h1 h2
    exact ⟨P2, e1, e2, by rw [e3]⟩
  have g1 : v < w → ∃ P2, aP_as P (ae_inc (ae_sub a b) 1) = some P2 ∧ aPv ρ P2 ∧ P2.2.2.2 = P.2.2.2 := fun h1 => go ((hv.sub hw).inc 1) (by omega)
  have g2 : w ≤ v → ∃ P2, aP_as P (ae_sub b a) = some P2 ∧ aPv ρ P2 ∧ P2.2.2.2 = P.2.2.2 := fun h1 => go (hw.sub hv) (by omega)
  have g3 : w < v → ∃ P2, aP_as P (ae_inc (ae_sub b a) 1) = some P2 ∧ aPv ρ P2 ∧ P2.2.2.2 = P.2.2.2 := fun h1 => go ((hw.sub hv).inc 1) (by omega)
  have g4 : v ≤ w → ∃ P2, aP_as P (ae_sub a b) = some P2 ∧ aPv ρ P2 ∧ P2.2.2.2 = P.2.2.2 := fun h1 => go (hv.sub hw) (by omega)
  have g5 : v = w → ∃ P2, (aP_as P (ae_sub a b)).bind (fun P2 => aP_as P2 (ae_sub b a)) = some P2 ∧ aPv ρ P2 ∧ P2.2.2.2 = P.2.2.2 := fun h1 => by
    obtain ⟨P2, e1, e2, e3⟩ := aP_as_ok h (hv.sub hw) (by omega)
    obtain ⟨P3, f1, f2, f3⟩ := aP_as_ok e2 (hw.sub hv) (by omega)
    exact ⟨P3, by rw [e1]; exact f1, f2, by rw [f3, e3]⟩
  have g6 : v ≠ w → ∃ P2, aP_nz P (ae_sub a b) = some P2 ∧ aPv ρ P2 ∧ P2.2.2.2 = P.2.2.2 := fun h1 => aP_nz_ok h (hv.sub hw) (by omega)
  cases c <;> cases t <;> simp only [aCm, Bool.false_eq_true, iff_false, iff_true, Int.not_lt, Int.not_le, ne_eq, Decidable.not_not] at hc <;> unfold aP_cmp <;> first | exact g1 hc | exact g2 hc | exact g3 hc | exact g4 hc | exact g5 hc | exact g6 hc
