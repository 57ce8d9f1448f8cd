/-! THE FIRST WORLD keeps the layout and the rules -/
def cx_okf : Nat ⊕ (Int × Int) → cx_v → Bool
  | .inl c, .inr (0, k) => k == c
  | .inr b, .inl x => decide (b.1 ≤ x.toInt) && decide (x.toInt ≤ b.2)
  | _, _ => false
def cx_okfs : List (Nat ⊕ (Int × Int)) → List cx_v → Bool
  | [], [] => true
  | f :: fs, v :: vs => cx_okf f v && cx_okfs fs vs
  | _, _ => false
def cx_okr (cols : List (Int × Int)) (f : Nat → Int32) (N : Nat) : Bool := (List.range N).all (fun i => match cols[i % cols.length]? with
  | none => true
  | some b => decide (b.1 ≤ (f i).toInt) && decide ((f i).toInt ≤ b.2))
def cx_okd : aD → cx_c → Bool
  | .inl (ci, fs), .inl (ci2, vs) => ci == ci2 && cx_okfs fs vs
  | .inr (0, N, cols), .inr (0, N2, f) => N == N2 && cx_okr cols f N
  | .inr (1, N, _), .inr (1, N2, _) => N == N2
  | .inr (2, N, cols), .inr (2, N2, f) => N == N2 && cx_okr cols f N
  | _, _ => false
def cx_okw : List aD → cx_w → Bool
  | [], _ => true
  | d :: ds, c :: cs => cx_okd d c && cx_okw ds cs
  | _ :: _, [] => false
def cx_okl (r : aRule) : cx_c → Bool
  | .inr (0, N, f) => (List.range (N / r.2.1 + 1)).all (fun j => decide ((f (r.2.1 * j + r.2.2.1)).toInt ≠ r.2.2.2.1) || (decide (r.2.2.2.2.2.1 ≤ (f (r.2.1 * j + r.2.2.2.2.1)).toInt) && decide ((f (r.2.1 * j + r.2.2.2.2.1)).toInt ≤ r.2.2.2.2.2.2)))
  | _ => false
def cx_rulesw (w : cx_w) : Bool := aRules.all (fun r => match w[r.1]? with | some c => cx_okl r c | none => false)
def cx_zw (w : cx_w) (k n : Nat) : Bool := match w[k]? with
  | some (.inr (0, _, f)) => (List.range n).all (fun i => decide ((f i).toInt = 0))
  | _ => false
def cx_z (k n : Nat) : Bool := cx_zw cx_w2 k n
/-- a slot of a first world -/
def cx_svw (w : cx_w) (k i : Nat) : Option Int := match w[k]? with
  | some (.inl (_, fs)) => (match fs[i]? with
    | some (.inl n) => some n.toInt
    | _ => none)
  | some (.inr (0, _, f)) => some (f i).toInt
  | _ => none
def cx_eqw (w : cx_w) (c i b j : Nat) (lo hi : Int) : Bool := match cx_svw w c i, cx_svw w b j with
  | some x, some y => decide (x = y ∧ lo ≤ x ∧ x ≤ hi)
  | _, _ => false
def cx_relw (w : cx_w) : Bool := cx_eqw w 0 2 99 59 0 0 && jLv.all (fun q => cx_eqw w q.1 q.2.1 q.2.2.1 q.2.2.2.1 q.2.2.2.2.2.1 q.2.2.2.2.2.2)
def cx_rel : Bool := cx_relw cx_w2
section
set_option maxRecDepth 100000
/-- all that is read off the first world, at one go -/
theorem cx_facts : (cx_isn cx_made && (cx_isn cx_md2 && (decide (cx_w1.length = 99 ∧ cx_w2.length < 300 ∧ cx_sz cx_w2 < 20000) && (cx_okw aLay cx_w2 && (cx_rulesw cx_w2 && (cx_z 110 16 && (cx_z 140 3000 && cx_rel))))))) = true := by decide +kernel
end
theorem cx_facts8 : cx_isn cx_made = true ∧ cx_isn cx_md2 = true ∧ (cx_w1.length = 99 ∧ cx_w2.length < 300 ∧ cx_sz cx_w2 < 20000) ∧ cx_okw aLay cx_w2 = true ∧ cx_rulesw cx_w2 = true ∧ cx_z 110 16 = true ∧ cx_z 140 3000 = true ∧ cx_rel = true := by
  obtain ⟨h1, h⟩ := Bool.and_eq_true_iff.mp cx_facts
  obtain ⟨h2, h⟩ := Bool.and_eq_true_iff.mp h
  obtain ⟨h3, h⟩ := Bool.and_eq_true_iff.mp h
  obtain ⟨h4, h⟩ := Bool.and_eq_true_iff.mp h
  obtain ⟨h5, h⟩ := Bool.and_eq_true_iff.mp h
  obtain ⟨h6, h⟩ := Bool.and_eq_true_iff.mp h
  obtain ⟨h7, h8⟩ := Bool.and_eq_true_iff.mp h
  exact ⟨h1, h2, of_decide_eq_true h3, h4, h5, h6, h7, h8⟩
theorem cx_w2_size : cx_w1.length = 99 ∧ cx_w2.length < 300 ∧ cx_sz cx_w2 < 20000 := cx_facts8.2.2.1
theorem cx_w2_lay : cx_okw aLay cx_w2 = true := cx_facts8.2.2.2.1
theorem cx_w2_rules : cx_rulesw cx_w2 = true := cx_facts8.2.2.2.2.1
theorem cx_okfs_ok {E : mj_E} {al : List Nat} : ∀ {fs : List (Nat ⊕ (Int × Int))} {vs : List cx_v} {us : List Value}, cx_okfs fs vs = true → cx_L E al vs us → us.length = fs.length ∧ ∀ (k : Nat) (f : Nat ⊕ (Int × Int)), fs[k]? = some f → ∃ v, us[k]? = some v ∧ aFd al f v
  | [], [], us, _, h => by rw [show us = [] from h]; exact ⟨rfl, fun k f hf => by cases hf⟩
  | [], _ :: _, _, h, _ => by cases h
  | _ :: _, [], _, h, _ => by cases h
  | f :: fs, v :: vs, _, h, ⟨u, us, e, h1, h2⟩ => by
    subst e
    unfold cx_okfs at h
    rw [Bool.and_eq_true] at h
    obtain ⟨g1, g2⟩ := cx_okfs_ok h.2 h2
    refine ⟨by simp [g1], fun k f2 hf => ?_⟩
    cases k with
    | zero =>
      cases hf
      refine ⟨u, rfl, ?_⟩
      have h0 := h.1
      rcases f with c | b <;> rcases v with x | ⟨t, k⟩
      · cases h0
      · match t, h0, h1 with
        | 0, h0, h1 =>
          have e : k = c := by simpa [cx_okf] using h0
          subst e
          obtain ⟨a, ha, e2⟩ := h1
          exact ⟨a, ha, e2⟩
      · have e : u = .int x := h1
        simp only [cx_okf, Bool.and_eq_true, decide_eq_true_eq] at h0
        exact ⟨x, e, h0.1, h0.2⟩
      · cases h0
    | succ k => exact g2 k f2 hf
theorem cx_okr_ok {cols : List (Int × Int)} {f : Nat → Int32} {N : Nat} (h : cx_okr cols f N = true) : aRw cols N f := fun i b hi hb => by
  have := List.all_eq_true.mp h i (List.mem_range.mpr hi)
  rw [hb] at this
  simpa using this
theorem cx_okd_ok {E : mj_E} {al : List Nat} {d : aD} {c : cx_c} {e : va_E} (h : cx_okd d c = true) (hc : cx_C E al c e) : aC E al d e := by
  unfold cx_okd at h
  split at h
  · rw [Bool.and_eq_true, beq_iff_eq] at h
    obtain ⟨h1, h2⟩ := h
    subst h1
    obtain ⟨vs, rfl, hl⟩ := hc
    obtain ⟨g1, g2⟩ := cx_okfs_ok h2 hl
    exact ⟨vs, rfl, g1, g2⟩
  · rw [Bool.and_eq_true, beq_iff_eq] at h
    obtain ⟨h1, h2⟩ := h
    subst h1
    exact ⟨_, hc, cx_okr_ok h2⟩
  · rw [beq_iff_eq] at h
    subst h
    exact ⟨_, hc⟩
  · rw [Bool.and_eq_true, beq_iff_eq] at h
    obtain ⟨h1, h2⟩ := h
    subst h1
    exact ⟨_, hc, cx_okr_ok h2⟩
  · cases h
theorem cx_okw_ok : ∀ {ds : List aD} {cs : cx_w} {k : Nat} {d : aD}, cx_okw ds cs = true → ds[k]? = some d → ∃ c, cs[k]? = some c ∧ cx_okd d c = true
  | [], _, _, _, _, hd => by cases hd
  | _ :: _, [], _, _, h, _ => by cases h
  | d :: ds, c :: cs, k, d2, h, hd => by
    unfold cx_okw at h
    rw [Bool.and_eq_true] at h
    cases k with
    | zero => cases hd; exact ⟨c, rfl, h.1⟩
    | succ k =>
      have hd : ds[k]? = some d2 := hd
      obtain ⟨c2, g1, g2⟩ := cx_okw_ok h.2 hd
      exact ⟨c2, g1, g2⟩
theorem aWd_start {E : mj_E} {al : List Nat} {ws : va_W} (h : cx_W E al cx_w2 ws) : aWd E al aLay ws := by
  refine ⟨h.1, fun c D hD => ?_⟩
  obtain ⟨cc, h1, h2⟩ := cx_okw_ok cx_w2_lay hD
  have hl : c < ws.length := by rw [← h.2.1]; exact (List.getElem?_eq_some_iff.mp h1).1
  have hq : ws[c]? = some ws[c] := List.getElem?_eq_some_iff.mpr ⟨hl, rfl⟩
  exact ⟨_, hq, cx_okd_ok h2 (h.2.2 c cc _ h1 hq)⟩
