/-! constants in place of symbols -/
def avE (ρ : List Int) : av → av
  | .inl e => .inl (ae_k (ae_ev ρ e))
  | .inr q => .inr q
def lvE (ρ : List Int) (lv : List (Nat × av)) : List (Nat × av) := lv.map (fun q => (q.1, avE ρ q.2))
def av_rg (n : Nat) : av → Bool
  | .inl e => e.1.all (fun q => decide (q.1 < n))
  | .inr _ => true
section KS
variable {E : mj_E} {al : List Nat} {ρ : List Int} {ws : va_W} {Q : Option Value → va_W → Prop}
theorem gV.toK {x : av} {v : Value} (h : gV E al ρ x v) : gV E al [] (avE ρ x) v := by
  rcases x with e | ⟨t, k⟩
  · obtain ⟨n, rfl, hn⟩ := h
    refine ⟨n, rfl, ?_⟩
    rw [hn.ev]
    exact aV.k _
  · match t, h with
    | 0, h => exact h
    | 1, h => exact h
    | 2, h => exact h
    | 3, h => exact h
    | 4, h => exact h
    | 5, h => exact h
    | 6, h => exact h
    | _ + 7, h => exact h
theorem gV.ofK {x : av} {v : Value} (hr : av_rg ρ.length x = true) (h : gV E al [] (avE ρ x) v) : gV E al ρ x v := by
  rcases x with e | ⟨t, k⟩
  · obtain ⟨n, rfl, hn⟩ := h
    refine ⟨n, rfl, ?_⟩
    have e1 : n.toInt = ae_ev ρ e := hn.of_k
    rw [e1]
    exact aV.mk hr
  · match t, h with
    | 0, h => exact h
    | 1, h => exact h
    | 2, h => exact h
    | 3, h => exact h
    | 4, h => exact h
    | 5, h => exact h
    | 6, h => exact h
    | _ + 7, h => exact h
theorem gA.toK {lv : List (Nat × av)} {LV : List (Nat × Value)} (h : gA E al ρ lv LV) : gA E al [] (lvE ρ lv) LV := fun q hq => by
  obtain ⟨p, hp, rfl⟩ := List.mem_map.mp hq
  obtain ⟨v, g1, g2⟩ := h p hp
  exact ⟨v, g1, g2.toK⟩
theorem gA.ofK {lv : List (Nat × av)} {LV : List (Nat × Value)} (hr : lv.all (fun q => av_rg ρ.length q.2) = true) (h : gA E al [] (lvE ρ lv) LV) : gA E al ρ lv LV := fun q hq => by
  obtain ⟨v, g1, g2⟩ := h _ (List.mem_map_of_mem hq)
  exact ⟨v, g1, g2.ofK (List.all_eq_true.mp hr q hq)⟩
theorem gL.toK : ∀ {st : List av} {ST : List Value}, gL E al ρ st ST → gL E al [] (st.map (avE ρ)) ST
  | [], _, h => h
  | _ :: _, _, ⟨v, u, e, h1, h2⟩ => ⟨v, u, e, h1.toK, h2.toK⟩
theorem gL.ofK : ∀ {st : List av} {ST : List Value}, st.all (av_rg ρ.length) = true → gL E al [] (st.map (avE ρ)) ST → gL E al ρ st ST
  | [], _, _, h => h
  | x :: t, _, hr, ⟨v, u, e, h1, h2⟩ => by
    rw [List.all_cons, Bool.and_eq_true] at hr
    exact ⟨v, u, e, h1.ofK hr.1, gL.ofK hr.2 h2⟩
theorem hG.toK {d y pc : Nat} {lv lv2 : List (Nat × av)} {st st2 : List av} (h : hG E al d y pc lv st ρ ws Q) (hr : lv.all (fun q => av_rg ρ.length q.2) = true) (hr2 : st.all (av_rg ρ.length) = true) (e1 : lvE ρ lv = lv2) (e2 : st.map (avE ρ) = st2) : hG E al d y pc lv2 st2 [] ws Q := by
  subst e1
  subst e2
  exact fun LV ST h1 h2 => h LV ST (h1.ofK hr) (h2.ofK hr2)
theorem hG.ofK {d y pc : Nat} {lv lv2 : List (Nat × av)} {st st2 : List av} (h : hG E al d y pc lv2 st2 [] ws Q) (e1 : lvE ρ lv = lv2) (e2 : st.map (avE ρ) = st2) : hG E al d y pc lv st ρ ws Q := by
  subst e1
  subst e2
  exact fun LV ST h1 h2 => h LV ST h1.toK h2.toK
theorem getD_of {σ ρ : List Int} {n : Nat} (h : ∀ k, k < n → σ[k]? = ρ[k]?) {k : Nat} (hk : k < n) : σ.getD k 0 = ρ.getD k 0 := by
  rw [List.getD_eq_getElem?_getD, List.getD_eq_getElem?_getD, h k hk]
end KS
/-! THE SIGNS OF A CONDITION: how deep the stack is -/
def dps (x : Int32) (d : Nat) : Option Nat := if x.toInt = 3 then (if 1 ≤ d then some d else none) else if x.toInt = 4 ∨ x.toInt = 5 then (if 2 ≤ d then some (d - 1) else none) else some (d + 1)
def dep (F : Nat → Int32) (a : Nat) : Nat → Option Nat
  | 0 => some 0
  | m + 1 => (dep F a m).bind (dps (F (a + m)))
theorem dep_le {F : Nat → Int32} {a : Nat} : ∀ {m d : Nat}, dep F a m = some d → d ≤ m
  | 0, d, h => by cases h; exact Nat.le_refl _
  | m + 1, d, h => by
    obtain ⟨e, h1, h2⟩ := Option.bind_eq_some_iff.mp h
    have := dep_le h1
    unfold dps at h2
    split at h2
    · split at h2
      · cases h2; omega
      · cases h2
    · split at h2
      · split at h2
        · cases h2; omega
        · cases h2
      · cases h2; omega
theorem dep_pre {F : Nat → Int32} {a : Nat} : ∀ {m j : Nat}, j ≤ m → dep F a m ≠ none → dep F a j ≠ none
  | 0, j, hj, h => by rw [show j = 0 by omega]; exact h
  | m + 1, j, hj, h => by
    by_cases e : j = m + 1
    · rw [e]; exact h
    · refine dep_pre (m := m) (by omega) (fun e2 => h ?_)
      show (dep F a m).bind _ = none
      rw [e2]; rfl
theorem dep_congr {F F2 : Nat → Int32} {a a2 : Nat} : ∀ {m : Nat}, (∀ i, i < m → F (a + i) = F2 (a2 + i)) → dep F a m = dep F2 a2 m
  | 0, _ => rfl
  | m + 1, h => by
    show (dep F a m).bind (dps (F (a + m))) = (dep F2 a2 m).bind (dps (F2 (a2 + m)))
    rw [dep_congr (m := m) (fun i hi => h i (by omega)), h m (by omega)]
/-- the versions' lines hold signs that keep to the stack -/
def jV (ver lin sig : Nat → Int32) : Prop := ∀ v k : Nat, v < 8 → k < 9 → (k : Int) < (ver (2 * v)).toInt →
  (lin (36 * v + 4 * k + 2)).toInt + (lin (36 * v + 4 * k + 3)).toInt ≤ 256 ∧ dep sig (256 * v + (lin (36 * v + 4 * k + 2)).toInt.toNat) (lin (36 * v + 4 * k + 3)).toInt.toNat ≠ none
/-- the rows that are kept: cell, length, place -/
def mvs : List (Nat × Nat × Nat) := [(100, 11, 0), (101, 256, 11), (102, 5, 267), (103, 5, 272), (104, 4, 277), (105, 27, 281), (106, 36, 308), (107, 72, 344), (108, 48, 416), (109, 12, 464), (110, 16, 476), (111, 288, 492), (112, 2048, 780), (113, 40, 2828), (114, 45, 2868), (115, 25, 2913), (116, 16, 2938), (117, 24, 2954)]
def aColsOf (c : Nat) : List (Int × Int) := match aLay[c]? with
  | some (.inr (_, _, cols)) => cols
  | _ => []
def jK (K : Nat → Int32) : Prop := (∀ q ∈ mvs, aRw (aColsOf q.1) q.2.1 (fun i => K (q.2.2 + i))) ∧
  (∀ j, j < 16 → (K (11 + (16 * j + 7))).toInt = 2 → 0 ≤ (K (11 + (16 * j + 12))).toInt ∧ (K (11 + (16 * j + 12))).toInt ≤ 3) ∧
  (∀ j, j < 72 → (K (492 + (4 * j + 0))).toInt = 0 → 0 ≤ (K (492 + (4 * j + 1))).toInt ∧ (K (492 + (4 * j + 1))).toInt ≤ 9) ∧
  jV (fun i => K (476 + i)) (fun i => K (492 + i)) (fun i => K (780 + i))
def jJ0 (ws : va_W) : Prop := jV (jR ws 110) (jR ws 111) (jR ws 112) ∧ jK (jR ws 140)
theorem jJ0_prot : ∀ w w' : va_W, (∀ c ∈ aProt0, aE1 c w w') → jJ0 w → jJ0 w' := by
  intro w w' h hj
  unfold jJ0 at hj ⊢
  rw [← jR.at ((h 110 (by decide)).c (by decide)), ← jR.at ((h 111 (by decide)).c (by decide)), ← jR.at ((h 112 (by decide)).c (by decide)), ← jR.at ((h 140 (by decide)).c (by decide))]
  exact hj
/-- where the reference's rows are kept -/
def jOf (c : Nat) : Nat := match mvs.find? (fun r => r.1 == c) with
  | some r => r.2.2
  | none => 0
/-- what is there now; what is kept (the component's kept cells are 37 on) -/
def jLV (ws : va_W) (c k : Nat) : Int := jS ws c k
def jKV (ws : va_W) (c k : Nat) : Int := if c < 99 then jS ws (c + 37) k else jS ws 140 (jOf c + k)
theorem jDc0_b : ∀ q ∈ jDc0, q.1 ≠ 1 ∧ q.1 ≠ 100 := by decide +kernel
theorem jDr0_b : ∀ q ∈ jDr0, q.1 ≠ 1 ∧ (q.1 ≠ 100 ∨ q.2 ≠ 0) := by decide +kernel
theorem jD_107 : ∀ k, k < 72 → (107, k) ∈ jDr0 := by decide +kernel
theorem jD_108 : ∀ k, k < 48 → (108, k) ∈ jDr0 := by decide +kernel
theorem jD_19 : ∀ k, k < 48 → (19, k) ∈ jDc0 := by decide +kernel
theorem jD_15 : ∀ k, k < 12 → (15, k) ∈ jDc0 := by decide +kernel
/-! BOXES: what came to a box since its opening ahead -/
/-- of the first n alms those that came to p between these openings -/
def bx_s (A : Nat → Int) (p f t : Int) : Nat → Int
  | 0 => 0
  | n + 1 => bx_s A p f t n + (if A (3 * n) = p ∧ f ≤ A (3 * n + 2) ∧ A (3 * n + 2) ≤ t then A (3 * n + 1) else 0)
/-- the last opening of p among the first n; -1 without -/
def bx_a (O : Nat → Int) (p : Int) : Nat → Int
  | 0 => -1
  | n + 1 => if O (4 * n) = p then (n : Int) else bx_a O p n
theorem bx_s_congr {A A2 : Nat → Int} {p f t : Int} : ∀ {n : Nat}, (∀ k, k < 3 * n → A k = A2 k) → bx_s A p f t n = bx_s A2 p f t n
  | 0, _ => rfl
  | n + 1, h => by
    unfold bx_s
    rw [bx_s_congr (n := n) (fun k hk => h k (by omega)), h (3 * n) (by omega), h (3 * n + 1) (by omega), h (3 * n + 2) (by omega)]
theorem bx_a_congr {O O2 : Nat → Int} {p : Int} : ∀ {n : Nat}, (∀ k, k < n → O (4 * k) = O2 (4 * k)) → bx_a O p n = bx_a O2 p n
  | 0, _ => rfl
  | n + 1, h => by
    unfold bx_a
    rw [bx_a_congr (n := n) (fun k hk => h k (by omega)), h n (by omega)]
theorem bx_a_b {O : Nat → Int} {p : Int} : ∀ {n : Nat}, -1 ≤ bx_a O p n ∧ bx_a O p n < n
  | 0 => by unfold bx_a; omega
  | n + 1 => by
    have := bx_a_b (O := O) (p := p) (n := n)
    unfold bx_a
    split <;> omega
/-- bounds that no one is beyond -/
theorem bx_s_top {A : Nat → Int} {p f t t2 : Int} : ∀ {n : Nat}, (∀ k : Nat, k < n → A (3 * k + 2) ≤ t ∧ A (3 * k + 2) ≤ t2) → bx_s A p f t n = bx_s A p f t2 n
  | 0, _ => rfl
  | n + 1, h => by
    have h0 := h n (by omega)
    unfold bx_s
    rw [bx_s_top (n := n) (t2 := t2) (fun k hk => h k (by omega))]
    congr 1
    by_cases e : A (3 * n) = p ∧ f ≤ A (3 * n + 2)
    · rw [if_pos ⟨e.1, e.2, h0.1⟩, if_pos ⟨e.1, e.2, h0.2⟩]
    · rw [if_neg (fun q => e ⟨q.1, q.2.1⟩), if_neg (fun q => e ⟨q.1, q.2.1⟩)]
theorem bx_s_none {A : Nat → Int} {p f t : Int} : ∀ {n : Nat}, (∀ k : Nat, k < n → A (3 * k + 2) < f) → bx_s A p f t n = 0
  | 0, _ => rfl
  | n + 1, h => by
    have h0 := h n (by omega)
    unfold bx_s
    rw [bx_s_none (n := n) (fun k hk => h k (by omega)), if_neg (by omega)]
    rfl
theorem bx_s_b {A : Nat → Int} {p f t : Int} : ∀ {n : Nat}, (∀ k : Nat, k < n → 0 ≤ A (3 * k + 1) ∧ A (3 * k + 1) ≤ 99) → 0 ≤ bx_s A p f t n ∧ bx_s A p f t n ≤ 99 * n
  | 0, _ => by unfold bx_s; omega
  | n + 1, h => by
    have h0 := h n (by omega)
    have := bx_s_b (p := p) (f := f) (t := t) (n := n) (fun k hk => h k (by omega))
    unfold bx_s
    split <;> omega
/-- the relation: counts; alms; openings; boxes. A view: cell, index -/
def jRl (V : Nat → Nat → Int) : Prop :=
  (0 ≤ V 100 3 ∧ V 100 3 ≤ 24 ∧ V 16 3 = V 100 3) ∧ (0 ≤ V 100 4 ∧ V 100 4 ≤ 12 ∧ V 18 3 = V 100 4) ∧
  (∀ n : Nat, (n : Int) < V 100 3 → (0 ≤ V 107 (3 * n) ∧ V 107 (3 * n) ≤ 5) ∧ (1 ≤ V 107 (3 * n + 1) ∧ V 107 (3 * n + 1) ≤ 99) ∧ 0 ≤ V 107 (3 * n + 2) ∧ V 107 (3 * n + 2) ≤ V 100 4) ∧
  (∀ o : Nat, (o : Int) < V 100 4 → (0 ≤ V 108 (4 * o) ∧ V 108 (4 * o) ≤ 5) ∧ (0 ≤ V 108 (4 * o + 2) ∧ V 108 (4 * o + 2) ≤ 9999) ∧ V 19 (4 * o) = V 108 (4 * o) ∧
    V 19 (4 * o + 2) = bx_s (V 107) (V 108 (4 * o)) (bx_a (V 108) (V 108 (4 * o)) o + 1) o (V 100 3).toNat - V 108 (4 * o + 2)) ∧
  ∀ p : Nat, p ≤ 5 → V 15 (2 * p) = bx_s (V 107) p (bx_a (V 108) p (V 100 4).toNat + 1) (V 100 4) (V 100 3).toNat
theorem jRl_congr {V W : Nat → Nat → Int} (h1 : ∀ q ∈ jDc0, V q.1 q.2 = W q.1 q.2) (h2 : ∀ q ∈ jDr0, V q.1 q.2 = W q.1 q.2) (h : jRl V) : jRl W := by
  obtain ⟨⟨a1, a2, a3⟩, ⟨b1, b2, b3⟩, h3, h4, h5⟩ := h
  have r0 : ∀ k, (100, k) ∈ jDr0 → V 100 k = W 100 k := fun k hk => h2 _ hk
  have e3 : V 100 3 = W 100 3 := h2 (100, 3) (by decide +kernel)
  have e4 : V 100 4 = W 100 4 := h2 (100, 4) (by decide +kernel)
  have c3 : V 16 3 = W 16 3 := h1 (16, 3) (by decide +kernel)
  have c4 : V 18 3 = W 18 3 := h1 (18, 3) (by decide +kernel)
  have eA : ∀ k, k < 72 → V 107 k = W 107 k := fun k hk => h2 (107, k) (jD_107 k hk)
  have eO : ∀ k, k < 48 → V 108 k = W 108 k := fun k hk => h2 (108, k) (jD_108 k hk)
  have eC : ∀ k, k < 48 → V 19 k = W 19 k := fun k hk => h1 (19, k) (jD_19 k hk)
  have eB : ∀ k, k < 12 → V 15 k = W 15 k := fun k hk => h1 (15, k) (jD_15 k hk)
  have eS : ∀ {p f t : Int} {n : Nat}, n ≤ 24 → bx_s (V 107) p f t n = bx_s (W 107) p f t n := fun hn => bx_s_congr (fun k hk => eA k (by omega))
  have eL : ∀ {p : Int} {n : Nat}, n ≤ 12 → bx_a (V 108) p n = bx_a (W 108) p n := fun hn => bx_a_congr (fun k hk => eO _ (by omega))
  refine ⟨⟨by omega, by omega, by omega⟩, ⟨by omega, by omega, by omega⟩, fun n hn => ?_, fun o ho => ?_, fun p hp => ?_⟩
  · have := h3 n (by omega)
    rw [eA _ (by omega), eA _ (by omega), eA _ (by omega), e4] at this
    exact this
  · have := h4 o (by omega)
    rw [eS (by omega), eL (by omega), eO (4 * o) (by omega), eO (4 * o + 2) (by omega), eC (4 * o) (by omega), eC (4 * o + 2) (by omega), e3] at this
    exact this
  · have := h5 p hp
    rw [eS (by omega), eL (by omega), eB (2 * p) (by omega), e3, e4] at this
    exact this
/-- alms come -/
theorem rl_alms0 {V W : Nat → Nat → Int} {p a : Nat} {n o : Nat} (h : jRl V) (hp : p ≤ 5) (ha : 1 ≤ a ∧ a ≤ 99) (hn : V 100 3 = n) (ho : V 100 4 = o) (hn2 : n ≤ 23)
    (w3 : W 100 3 = n + 1) (w4 : W 100 4 = o) (c3 : W 16 3 = n + 1) (c4 : W 18 3 = V 18 3) (wA : ∀ k, W 107 k = if k = 3 * n + 2 then (o : Int) else if k = 3 * n + 1 then (a : Int) else if k = 3 * n then (p : Int) else V 107 k) (wO : ∀ k, W 108 k = V 108 k) (wC : ∀ k, W 19 k = V 19 k) (wB : ∀ k, W 15 k = if k = 2 * p then V 15 (2 * p) + a else V 15 k) : jRl W := by
  obtain ⟨⟨a1, a2, a3⟩, ⟨b1, b2, b3⟩, h3, h4, h5⟩ := h
  have oldA : ∀ k, k < 3 * n → W 107 k = V 107 k := fun k hk => by
    rw [wA, if_neg (by omega), if_neg (by omega), if_neg (by omega)]
  have eO : W 108 = V 108 := funext wO
  have sum : ∀ (q f t : Int), bx_s (W 107) q f t (n + 1) = bx_s (V 107) q f t n + (if (p : Int) = q ∧ f ≤ o ∧ (o : Int) ≤ t then (a : Int) else 0) := fun q f t => by
    show bx_s (W 107) q f t n + _ = _
    rw [bx_s_congr oldA, wA (3 * n), wA (3 * n + 1), wA (3 * n + 2)]
    rw [if_neg (show ¬ 3 * n = 3 * n + 2 by omega), if_neg (show ¬ 3 * n = 3 * n + 1 by omega), if_pos rfl, if_neg (show ¬ 3 * n + 1 = 3 * n + 2 by omega), if_pos rfl, if_pos rfl]
  have tn : (V 100 3).toNat = n := by omega
  have tw : (W 100 3).toNat = n + 1 := by omega
  have to : (V 100 4).toNat = o := by omega
  have tw4 : (W 100 4).toNat = o := by omega
  refine ⟨⟨by omega, by omega, by omega⟩, ⟨by omega, by omega, by omega⟩, fun k hk => ?_, fun k hk => ?_, fun q hq => ?_⟩
  · by_cases e : k = n
    · subst e
      rw [wA (3 * k), wA (3 * k + 1), wA (3 * k + 2), if_neg (show ¬ 3 * k = 3 * k + 2 by omega), if_neg (show ¬ 3 * k = 3 * k + 1 by omega), if_pos rfl, if_neg (show ¬ 3 * k + 1 = 3 * k + 2 by omega), if_pos rfl, if_pos rfl]
      omega
    · rw [oldA _ (by omega), oldA _ (by omega), oldA _ (by omega), w4, ← ho]
      exact h3 k (by omega)
  · have := h4 k (by omega)
    rw [wO, wO, wC, wC, eO, tw, sum, if_neg (by omega), Int.add_zero]
    rw [tn] at this
    exact this
  · have := h5 q hq
    have b := bx_a_b (O := V 108) (p := (q : Int)) (n := o)
    rw [tn, to, ho] at this
    rw [tw, tw4, eO, w4, sum, wB]
    by_cases e : q = p
    · subst e
      rw [if_pos rfl, if_pos ⟨rfl, by omega, by omega⟩, this]
    · rw [if_neg (by omega), if_neg (by omega), this, Int.add_zero]
/-- a box is opened -/
theorem rl_open0 {V W : Nat → Nat → Int} {p : Nat} {fo : Int} {n o : Nat} (h : jRl V) (hp : p ≤ 5) (hf : 0 ≤ fo ∧ fo ≤ 9999) (hn : V 100 3 = n) (ho : V 100 4 = o) (ho2 : o ≤ 11)
    (w3 : W 100 3 = n) (w4 : W 100 4 = o + 1) (c3 : W 16 3 = V 16 3) (c4 : W 18 3 = o + 1) (wA : ∀ k, W 107 k = V 107 k) (wO : ∀ k, k < 4 * o → W 108 k = V 108 k) (wO0 : W 108 (4 * o) = p) (wO2 : W 108 (4 * o + 2) = fo) (wC : ∀ k, k < 4 * o → W 19 k = V 19 k) (wC0 : W 19 (4 * o) = p) (wC2 : W 19 (4 * o + 2) = V 15 (2 * p) - fo) (wB : ∀ k, k ≤ 5 → W 15 (2 * k) = if k = p then 0 else V 15 (2 * k)) : jRl W := by
  obtain ⟨⟨a1, a2, a3⟩, ⟨b1, b2, b3⟩, h3, h4, h5⟩ := h
  have eA : W 107 = V 107 := funext wA
  have tn : (V 100 3).toNat = n := by omega
  have tw : (W 100 3).toNat = n := by omega
  have to : (V 100 4).toNat = o := by omega
  have tw4 : (W 100 4).toNat = o + 1 := by omega
  have old : ∀ {q : Int} {m : Nat}, m ≤ o → bx_a (W 108) q m = bx_a (V 108) q m := fun hm => bx_a_congr (fun k hk => wO _ (by omega))
  have top : ∀ k : Nat, k < n → V 107 (3 * k + 2) ≤ o := fun k hk => by have := (h3 k (by omega)).2.2.2; omega
  refine ⟨⟨by omega, by omega, by omega⟩, ⟨by omega, by omega, by omega⟩, fun k hk => ?_, fun k hk => ?_, fun q hq => ?_⟩
  · have := h3 k (by omega)
    rw [wA, wA, wA]
    omega
  · by_cases e : k = o
    · subst e
      have := h5 p hp
      rw [tn, to, ho] at this
      rw [wO0, wO2, wC0, wC2, eA, tw, old (Nat.le_refl _), this]
      omega
    · have := h4 k (by omega)
      rw [wO (4 * k) (by omega), wO (4 * k + 2) (by omega), wC (4 * k) (by omega), wC (4 * k + 2) (by omega), eA, tw, old (by omega)]
      rw [tn] at this
      exact this
  · have := h5 q hq
    rw [tn, to, ho] at this
    rw [tw, tw4, eA, w4, wB q hq]
    have step : bx_a (W 108) q (o + 1) = if (p : Int) = q then (o : Int) else bx_a (V 108) q o := by
      show (if W 108 (4 * o) = (q : Int) then (o : Int) else bx_a (W 108) q o) = _
      rw [wO0, old (Nat.le_refl _)]
    rw [step]
    by_cases e : q = p
    · subst e
      rw [if_pos rfl, if_pos rfl, bx_s_none (fun k hk => by have := top k hk; omega)]
    · rw [if_neg e, if_neg (by omega), this]
      exact bx_s_top (fun k hk => by have := top k hk; omega)
/-- nothing is there at first -/
theorem rl_00 {V : Nat → Nat → Int} (h1 : ∀ q ∈ jDc0, V q.1 q.2 = 0) (h2 : ∀ q ∈ jDr0, V q.1 q.2 = 0) : jRl V := by
  refine jRl_congr (V := fun _ _ => 0) (fun q hq => (h1 q hq).symm) (fun q hq => (h2 q hq).symm) ?_
  exact ⟨by decide, by decide, fun n hn => absurd (show (n : Int) < 0 from hn) (by omega), fun n hn => absurd (show (n : Int) < 0 from hn) (by omega), fun p hp => rfl⟩
/-! since when, and now -/
def si_ (O : Nat → Int) (p : Int) (n : Nat) : Int := if bx_a O p n < 0 then 0 else O (4 * (bx_a O p n).toNat + 3)
theorem si_congr {O O2 : Nat → Int} {p : Int} {n : Nat} (h : ∀ k, k < 4 * n → O k = O2 k) : si_ O p n = si_ O2 p n := by
  unfold si_
  rw [bx_a_congr (O2 := O2) (fun k hk => h _ (by omega))]
  have b := bx_a_b (O := O2) (p := p) (n := n)
  by_cases e : bx_a O2 p n < 0
  · rw [if_pos e, if_pos e]
  · rw [if_neg e, if_neg e, h _ (by omega)]
def jRel (V : Nat → Nat → Int) : Prop := jRl V ∧ (V 1 0 = V 100 0 ∧ 0 ≤ V 1 0 ∧ V 1 0 ≤ 1999) ∧
  (∀ o : Nat, (o : Int) < V 100 4 → V 19 (4 * o + 3) = si_ (V 108) (V 108 (4 * o)) o) ∧ ∀ p : Nat, p ≤ 5 → V 15 (2 * p + 1) = si_ (V 108) p (V 100 4).toNat
theorem jRel_congr {V W : Nat → Nat → Int} (h1 : ∀ q ∈ jDc, V q.1 q.2 = W q.1 q.2) (h2 : ∀ q ∈ jDr, V q.1 q.2 = W q.1 q.2) (h : jRel V) : jRel W := by
  obtain ⟨g1, g2, g3, g4⟩ := h
  have e4 : V 100 4 = W 100 4 := h2 (100, 4) (List.mem_cons_of_mem _ (by decide +kernel))
  have eO : ∀ k, k < 48 → V 108 k = W 108 k := fun k hk => h2 (108, k) (List.mem_cons_of_mem _ (jD_108 k hk))
  have eC : ∀ k, k < 48 → V 19 k = W 19 k := fun k hk => h1 (19, k) (List.mem_cons_of_mem _ (jD_19 k hk))
  have eB : ∀ k, k < 12 → V 15 k = W 15 k := fun k hk => h1 (15, k) (List.mem_cons_of_mem _ (jD_15 k hk))
  have n1 : V 1 0 = W 1 0 := h1 (1, 0) List.mem_cons_self
  have n2 : V 100 0 = W 100 0 := h2 (100, 0) List.mem_cons_self
  have b4 : V 100 4 ≤ 12 := g1.2.1.2.1
  refine ⟨jRl_congr (fun q hq => h1 q (List.mem_cons_of_mem _ hq)) (fun q hq => h2 q (List.mem_cons_of_mem _ hq)) g1, by rw [← n1, ← n2]; exact g2, fun o ho => ?_, fun p hp => ?_⟩
  · have := g3 o (by omega)
    rw [si_congr (O2 := W 108) (fun k hk => eO k (by omega)), eO (4 * o) (by omega), eC (4 * o + 3) (by omega)] at this
    exact this
  · have := g4 p hp
    rw [si_congr (O2 := W 108) (fun k hk => eO k (by omega)), eB (2 * p + 1) (by omega), e4] at this
    exact this
theorem rl_alms {V W : Nat → Nat → Int} {p a : Nat} {n o : Nat} (h : jRel V) (hp : p ≤ 5) (ha : 1 ≤ a ∧ a ≤ 99) (hn : V 100 3 = n) (ho : V 100 4 = o) (hn2 : n ≤ 23)
    (w3 : W 100 3 = n + 1) (w4 : W 100 4 = o) (c3 : W 16 3 = n + 1) (c4 : W 18 3 = V 18 3) (wA : ∀ k, W 107 k = if k = 3 * n + 2 then (o : Int) else if k = 3 * n + 1 then (a : Int) else if k = 3 * n then (p : Int) else V 107 k) (wO : ∀ k, W 108 k = V 108 k) (wC : ∀ k, W 19 k = V 19 k) (wB : ∀ k, W 15 k = if k = 2 * p then V 15 (2 * p) + a else V 15 k) (n1 : W 1 0 = V 1 0) (n2 : W 100 0 = V 100 0) : jRel W := by
  obtain ⟨g1, g2, g3, g4⟩ := h
  have eO : W 108 = V 108 := funext wO
  refine ⟨rl_alms0 g1 hp ha hn ho hn2 w3 w4 c3 c4 wA wO wC wB, by rw [n1, n2]; exact g2, fun k hk => ?_, fun q hq => ?_⟩
  · rw [wC, eO]
    exact g3 k (by omega)
  · rw [wB, if_neg (by omega), eO, w4, ← ho]
    exact g4 q hq
theorem rl_open {V W : Nat → Nat → Int} {p : Nat} {fo : Int} {n o : Nat} (h : jRel V) (hp : p ≤ 5) (hf : 0 ≤ fo ∧ fo ≤ 9999) (hn : V 100 3 = n) (ho : V 100 4 = o) (ho2 : o ≤ 11)
    (w3 : W 100 3 = n) (w4 : W 100 4 = o + 1) (c3 : W 16 3 = V 16 3) (c4 : W 18 3 = o + 1) (wA : ∀ k, W 107 k = V 107 k) (wO : ∀ k, k < 4 * o → W 108 k = V 108 k) (wO0 : W 108 (4 * o) = p) (wO2 : W 108 (4 * o + 2) = fo) (wC : ∀ k, k < 4 * o → W 19 k = V 19 k) (wC0 : W 19 (4 * o) = p) (wC2 : W 19 (4 * o + 2) = V 15 (2 * p) - fo) (wB : ∀ k, k ≤ 5 → W 15 (2 * k) = if k = p then 0 else V 15 (2 * k))
    (n1 : W 1 0 = V 1 0) (n2 : W 100 0 = V 100 0) (wO3 : W 108 (4 * o + 3) = V 100 0) (wC3 : W 19 (4 * o + 3) = V 15 (2 * p + 1)) (wB1 : ∀ k, k ≤ 5 → W 15 (2 * k + 1) = if k = p then V 1 0 else V 15 (2 * k + 1)) : jRel W := by
  obtain ⟨g1, g2, g3, g4⟩ := h
  have to : (V 100 4).toNat = o := by omega
  have tw : (W 100 4).toNat = o + 1 := by omega
  refine ⟨rl_open0 g1 hp hf hn ho ho2 w3 w4 c3 c4 wA wO wO0 wO2 wC wC0 wC2 wB, by rw [n1, n2]; exact g2, fun k hk => ?_, fun q hq => ?_⟩
  · by_cases e : k = o
    · subst e
      have := g4 p hp
      rw [to] at this
      rw [wC3, wO0, si_congr (O2 := V 108) wO, this]
    · have := g3 k (by omega)
      rw [wC _ (by omega), wO (4 * k) (by omega), si_congr (O2 := V 108) (fun j hj => wO j (by omega)), this]
  · have := g4 q hq
    rw [to] at this
    have old : bx_a (W 108) q o = bx_a (V 108) q o := bx_a_congr (fun k hk => wO _ (by omega))
    have step : bx_a (W 108) q (o + 1) = if (p : Int) = q then (o : Int) else bx_a (V 108) q o := by
      show (if W 108 (4 * o) = (q : Int) then (o : Int) else bx_a (W 108) q o) = _
      rw [wO0, old]
    have b := bx_a_b (O := V 108) (p := (q : Int)) (n := o)
    rw [wB1 q hq, tw]
    unfold si_
    rw [step]
    by_cases e : q = p
    · subst e
      rw [if_pos rfl, if_pos rfl, if_neg (by omega), Int.toNat_natCast, wO3]
      exact g2.1
    · rw [if_neg e, if_neg (show ¬ (p : Int) = q by omega), this]
      unfold si_
      by_cases e2 : bx_a (V 108) q o < 0
      · rw [if_pos e2, if_pos e2]
      · rw [if_neg e2, if_neg e2, wO _ (by omega)]
/-- weeks go by -/
theorem rl_weeks {V W : Nat → Nat → Int} (h : jRel V) (h1 : ∀ q ∈ jDc0, V q.1 q.2 = W q.1 q.2) (h2 : ∀ q ∈ jDr0, V q.1 q.2 = W q.1 q.2) (n : W 1 0 = W 100 0) (nb : 0 ≤ W 1 0 ∧ W 1 0 ≤ 1999) : jRel W := by
  have h0 : jRel (fun c k => if (c = 1 ∧ k = 0) ∨ (c = 100 ∧ k = 0) then W 1 0 else V c k) := by
    obtain ⟨g1, g2, g3, g4⟩ := h
    exact ⟨g1, ⟨rfl, nb⟩, g3, g4⟩
  refine jRel_congr (fun q hq => ?_) (fun q hq => ?_) h0
  · rcases List.mem_cons.mp hq with rfl | hq
    · rfl
    · have b := jDc0_b q hq
      rw [← h1 q hq]
      exact if_neg (by omega)
  · rcases List.mem_cons.mp hq with rfl | hq
    · exact n
    · have b := jDr0_b q hq
      rw [← h2 q hq]
      exact if_neg (by omega)
theorem rl_0 {V : Nat → Nat → Int} (h1 : ∀ q ∈ jDc, V q.1 q.2 = 0) (h2 : ∀ q ∈ jDr, V q.1 q.2 = 0) : jRel V := by
  refine jRel_congr (V := fun _ _ => 0) (fun q hq => (h1 q hq).symm) (fun q hq => (h2 q hq).symm) ?_
  exact ⟨rl_00 (fun _ _ => rfl) (fun _ _ => rfl), by decide, fun o ho => absurd (show (o : Int) < 0 from ho) (by omega), fun p hp => rfl⟩

def jX (ws : va_W) : Prop := jS ws 0 2 = jS ws 99 59 ∧ jRel (jLV ws) ∧ (jS ws 0 2 = 1 → jRel (jKV ws))
def jPc (c i : Nat) : Bool := decide (c < 1000) && (jXp.elem c || jXp.elem (1000 * (i + 1) + c))
theorem jPc_ok {c i : Nat} (hc : jPc c i = true) {w w' : va_W} (h : ∀ c ∈ jXp, aE1 c w w') : jS w c i = jS w' c i := by
  unfold jPc at hc
  rw [Bool.and_eq_true, Bool.or_eq_true, decide_eq_true_eq] at hc
  rcases hc.2 with h1 | h1
  · exact jS.at ((h c (List.mem_of_elem_eq_true h1)).c hc.1)
  · exact (h _ (List.mem_of_elem_eq_true h1)).s hc.1
theorem jPc_all : (jPc 0 2 && jPc 99 59 && (jDc.all (fun q => decide (q.1 < 99) && (jPc q.1 q.2 && jPc (q.1 + 37) q.2)) && jDr.all (fun q => decide (99 < q.1) && (jPc q.1 q.2 && jPc 140 (jOf q.1 + q.2))))) = true := by decide +kernel
theorem jX_prot : ∀ w w' : va_W, (∀ c ∈ jXp, aE1 c w w') → jX w → jX w' := by
  intro w w' h hj
  obtain ⟨h0, h1, h2⟩ := hj
  have k := jPc_all
  rw [Bool.and_eq_true, Bool.and_eq_true, Bool.and_eq_true] at k
  have kc : ∀ q ∈ jDc, q.1 < 99 ∧ jPc q.1 q.2 = true ∧ jPc (q.1 + 37) q.2 = true := fun q hq => by
    have m := List.all_eq_true.mp k.2.1 q hq
    simpa only [Bool.and_eq_true, decide_eq_true_eq] using m
  have kr : ∀ q ∈ jDr, 99 < q.1 ∧ jPc q.1 q.2 = true ∧ jPc 140 (jOf q.1 + q.2) = true := fun q hq => by
    have m := List.all_eq_true.mp k.2.2 q hq
    simpa only [Bool.and_eq_true, decide_eq_true_eq] using m
  refine ⟨?_, jRel_congr (fun q hq => ?_) (fun q hq => ?_) h1, fun hk => jRel_congr (fun q hq => ?_) (fun q hq => ?_) (h2 (by rw [jPc_ok k.1.1 h]; exact hk))⟩
  · rw [← jPc_ok k.1.1 h, ← jPc_ok k.1.2 h]
    exact h0
  · exact jPc_ok (kc q hq).2.1 h
  · exact jPc_ok (kr q hq).2.1 h
  · obtain ⟨m1, m2, m3⟩ := kc q hq
    unfold jKV
    rw [if_pos m1, if_pos m1]
    exact jPc_ok m3 h
  · obtain ⟨m1, m2, m3⟩ := kr q hq
    unfold jKV
    rw [if_neg (by omega), if_neg (by omega)]
    exact jPc_ok m3 h
def jJ (ws : va_W) : Prop := jJ0 ws ∧ jX ws
theorem jJ_prot : ∀ w w' : va_W, (∀ c ∈ aProt, aE1 c w w') → jJ w → jJ w' := fun w w' h hj =>
  ⟨jJ0_prot w w' (fun c hc => h c (List.mem_append_left _ hc)) hj.1, jX_prot w w' (fun c hc => h c (List.mem_append_right _ hc)) hj.2⟩
theorem hOk.mk {E : mj_E} {al : List Nat} {J : va_W → Prop} (hf : E.2.2.2.1.category = 1) (hT : ∀ σ : List Int, aTb E σ aTabs) (hJ : ∀ w w' : va_W, (∀ c ∈ aProt, aE1 c w w') → J w → J w') {cs : List aCon} (hC : ∀ c ∈ cs, aCO E al (aG0 []) J c) : hOk E al (aG0 cs) J :=
  ⟨hf, by show aLay.length < 1000000; decide +kernel, by show aRok aRules = true; decide +kernel, hJ, hC, hT⟩
/-! pieces, once more -/
abbrev aPc : Type := Nat × List (Int × Int) × List ae × aH × List (Nat × av) × List av
def hp_chk (G : aG) (f d y : Nat) (p : aPc) (Is Bs : List aCut) : Bool :=
  hp_e G f d y p.1 p.2.1 p.2.2.1 p.2.2.2.1 p.2.2.2.2.1 p.2.2.2.2.2 (Is ++ Bs) && Is.all (hp_c G f d y p.2.1.length (Is ++ Bs)) && (Is ++ Bs).all (fun T => decide (p.2.1.length ≤ T.2.1.length))
def mMU : ae := ae_k (-1000000)
section PCS
variable {E : mj_E} {al : List Nat} {G : aG} {J : va_W → Prop} {ρ : List Int} {ws : va_W} {Q : Option Value → va_W → Prop}
theorem hp_go (H : hOk E al G J) {f d y : Nat} {p : aPc} {Is Bs : List aCut} (hy : y < mj_lawNo) (hc : hp_chk G f d y p Is Bs = true) (hW0 : hW E al G J ρ p.2.1 p.2.2.1 p.2.2.2.1 ws)
    (hB : ∀ T ∈ Bs, ∀ σ ws2, (∀ k, k < p.2.1.length → σ[k]? = ρ[k]?) → hW E al G J σ T.2.1 T.2.2.1 T.2.2.2.2.2.1 ws2 → ws2.length = ws.length → (∀ k, k ∉ T.2.2.2.2.2.2.1 → ws2[k]? = ws[k]?) → hG E al d y T.1 T.2.2.2.1 T.2.2.2.2.1 σ ws2 Q) : hG E al d y p.1 p.2.2.2.2.1 p.2.2.2.2.2 ρ ws Q := by
  unfold hp_chk at hc
  rw [Bool.and_eq_true, Bool.and_eq_true] at hc
  exact hp_prog H Is Bs hy hc.1.1 hc.1.2 hc.2 hW0 hB
theorem hp_retI {d y pc : Nat} {lv : List (Nat × av)} {e : ae} {x : Int} {ty : FieldType} (hy : y < mj_lawNo) (hr : (mj_jmp y pc).map (·.2.1) = [.ireturn] ++ ((mj_jmp y pc).map (·.2.1)).drop 1) (hx : mj_rx y = some ty) (he : aV ρ e x) (hn : ∀ n : Int32, n.toInt = x → narrow ty (.int n) = .int n) (hq : ∀ n : Int32, n.toInt = x → Q (some (.int n)) ws) : hG E al d y pc lv [.inl e] ρ ws Q := by
  intro LV ST h1 h2
  obtain ⟨v, u, rfl, ⟨n, rfl, hv⟩, h3⟩ := h2
  have h3 : u = [] := h3
  subst h3
  have e0 : n.toInt = x := hv.uniq he
  have hj := mj_jmp_cok y pc
  cases hm : mj_jmp y pc with
  | nil => rw [hm] at hr; simp at hr
  | cons q tl =>
    obtain ⟨p, i, n2⟩ := q
    rw [hm] at hr hj
    have hi : i = .ireturn := by simpa using hr
    subst hi
    have hp : p = pc := hj.2 (by simp)
    subst hp
    obtain ⟨hdec, -, hn2, -⟩ := hj.1
    have hn2 : n2 = 1 := by simpa [mj_isw, mj_len] using hn2
    subst hn2
    exact MJ.rt hdec (v := some (.int n)) ⟨rfl, n, ty, rfl, by rw [(mj_li_use hy).2, hx], hn n e0, rfl⟩ (hq n e0)
theorem aH1.mk {c : Nat} {ix v : ae} (hc : c < 1000000) (h1 : ix.1.all (fun q => decide (q.1 < ρ.length)) = true) (h2 : v.1.all (fun q => decide (q.1 < ρ.length)) = true) (h0 : 0 ≤ ae_ev ρ ix) (h : aSl ws c (ae_ev ρ ix).toNat (ae_ev ρ v)) : aH1 ρ ws ((c, ix), v) :=
  ⟨_, _, aV.mk h1, aV.mk h2, by rw [if_pos hc]; exact ⟨h0, h⟩⟩
theorem aHh.nil : aHh ρ ws [] := fun q hq => by cases hq
theorem aHh.cons {q : (Nat × ae) × ae} {h : aH} (h1 : aH1 ρ ws q) (h2 : aHh ρ ws h) : aHh ρ ws (q :: h) := fun p hp => by
  rcases List.mem_cons.mp hp with rfl | hp
  · exact h1
  · exact h2 p hp
theorem aSl.row {c a N : Nat} {cl : ClassId} {f : Nat → Int32} (hw : ws[c]? = some (a, .inl (cl, N, .inl f))) {i : Nat} (hi : i < N) {x : Int} (hx : (jR ws c i).toInt = x) : aSl ws c i x := by
  rw [jR.row hw] at hx
  exact Or.inr ⟨a, cl, N, f, hw, hi, hx⟩
theorem aFs.nil : aFs ρ [] := fun q hq => by cases hq
theorem aFs.cons {f : ae} {fs : List ae} (hr : f.1.all (fun q => decide (q.1 < ρ.length)) = true) (h1 : ae_ev ρ f ≤ 0) (h2 : aFs ρ fs) : aFs ρ (f :: fs) := fun p hp => by
  rcases List.mem_cons.mp hp with rfl | hp
  · exact ⟨_, aV.mk hr, h1⟩
  · exact h2 p hp
end PCS
