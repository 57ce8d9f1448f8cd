/-! THE READER: templates of its states. Fields of object 99: 19 tapeMany, 20 tokenKind, 21 tokenAt, 22 tokenEnd, 23 tokenValue, 24 fault, 28 freshMany, 29 waits -/
def aM : List (Nat ⊕ (Int × Int)) := match aLay[(99 : Nat)]? with
  | some (.inl (_, fs)) => fs
  | _ => []
theorem aLay_99 : aLay[(99 : Nat)]? = some (.inl (6, aM)) := by rfl
/-- bounds: s is the kind of a good state's token; 4 at fault, 5 any, 6 good -/
def rEnv (s : Nat) : List (Int × Int) :=
  [(0, 250), (match s with | 0 => (0, 0) | 1 => (1, 1) | 2 => (2, 2) | 3 => (3, 3) | _ => (0, 3)), (0, 250), (0, 250), (if s = 2 then (0, 999) else aF), (if s = 4 then (0, aI1) else if s = 5 then aF else (aI0, -1)), (0, 256), (0, 256)]
def rFs (s n : Nat) : List ae := if s = 5 then [] else [([(n + 2, 1), (n + 3, -1)], if 1 ≤ s ∧ s ≤ 3 then 1 else 0), ([(n, -1), (n + 3, 1)], 0)]
def rH (n : Nat) : aH := [((99, ae_k 19), ae_s n), ((99, ae_k 20), ae_s (n + 1)), ((99, ae_k 21), ae_s (n + 2)), ((99, ae_k 22), ae_s (n + 3)), ((99, ae_k 23), ae_s (n + 4)), ((99, ae_k 24), ae_s (n + 5)), ((99, ae_k 28), ae_s (n + 6)), ((99, ae_k 29), ae_s (n + 7))]
/-- the tape's length, what was emitted and what waits are as before; the token lies p further at least -/
def rRel (n m : Nat) (p : Int) : List ae := [([(n, 1), (m, -1)], 0), ([(n, -1), (m, 1)], 0), ([(n + 6, 1), (m + 6, -1)], 0), ([(n + 6, -1), (m + 6, 1)], 0), ([(n + 7, 1), (m + 7, -1)], 0), ([(n + 7, -1), (m + 7, 1)], 0), ([(n + 2, 1), (m + 2, -1)], p)]
def rX (ws : va_W) : List Int := [jF ws 19, jF ws 20, jF ws 21, jF ws 22, jF ws 23, jF ws 24, jF ws 28, jF ws 29]
def rK (s : Nat) (ws : va_W) : Prop :=
  (s ≤ 3 → jF ws 20 = (s : Int)) ∧ (s ≤ 3 ∨ s = 6 → jF ws 24 < 0) ∧ (s = 4 → 0 ≤ jF ws 24) ∧ (s = 2 → 0 ≤ jF ws 23 ∧ jF ws 23 ≤ 999) ∧ (s ≠ 5 → jF ws 21 ≤ jF ws 22 ∧ jF ws 22 ≤ jF ws 19) ∧ (1 ≤ s → s ≤ 3 → jF ws 21 + 1 ≤ jF ws 22)
section RD
variable {E : mj_E} {al : List Nat} {J : va_W → Prop} {ρ : List Int} {ws : va_W} {Q : Option Value → va_W → Prop}
def hI (E : mj_E) (al : List Nat) (J : va_W → Prop) (ws : va_W) : Prop := aWd E al aLay ws ∧ aRs aRules ws ∧ J ws
theorem hI.obj (h : hI E al J ws) : ∃ a e, ws[99]? = some (a, .inr e) := (h.1.fld aLay_99).1
theorem hI.f (h : hI E al J ws) {i : Nat} {b : Int × Int} (hb : aM[i]? = some (.inr b)) : b.1 ≤ jF ws i ∧ jF ws i ≤ b.2 := ((h.1.fld aLay_99).2 i b hb).2
theorem hI.bds (h : hI E al J ws) : (0 ≤ jF ws 19 ∧ jF ws 19 ≤ 250) ∧ (0 ≤ jF ws 20 ∧ jF ws 20 ≤ 3) ∧ (0 ≤ jF ws 21 ∧ jF ws 21 ≤ 250) ∧ (0 ≤ jF ws 22 ∧ jF ws 22 ≤ 250) ∧ (aI0 ≤ jF ws 23 ∧ jF ws 23 ≤ aI1) ∧ (aI0 ≤ jF ws 24 ∧ jF ws 24 ≤ aI1) ∧ (0 ≤ jF ws 28 ∧ jF ws 28 ≤ 256) ∧ (0 ≤ jF ws 29 ∧ jF ws 29 ≤ 256) :=
  ⟨h.f (i := 19) (b := (0, 250)) (by decide +kernel), h.f (i := 20) (b := (0, 3)) (by decide +kernel), h.f (i := 21) (b := (0, 250)) (by decide +kernel), h.f (i := 22) (b := (0, 250)) (by decide +kernel), h.f (i := 23) (b := aF) (by decide +kernel), h.f (i := 24) (b := aF) (by decide +kernel), h.f (i := 28) (b := (0, 256)) (by decide +kernel), h.f (i := 29) (b := (0, 256)) (by decide +kernel)⟩
theorem rX_get {ws : va_W} : (rX ws).length = 8 := rfl
/-- the state's bounds and facts -/
theorem rK.env (h : hI E al J ws) {s : Nat} (hs : s < 7) (hk : rK s ws) : aEv (rX ws) (rEnv s) := by
  obtain ⟨b1, b2, b3, b4, b5, b6, b7, b8⟩ := h.bds
  obtain ⟨k1, k2, k3, k4, k5, k6⟩ := hk
  refine hEv.ok ⟨b1, ?_, b3, b4, ?_, ?_, b7, b8, trivial⟩
  · match s, hs with
    | 0, _ => have := k1 (by omega); exact ⟨by simp; omega, by simp; omega⟩
    | 1, _ => have := k1 (by omega); exact ⟨by simp; omega, by simp; omega⟩
    | 2, _ => have := k1 (by omega); exact ⟨by simp; omega, by simp; omega⟩
    | 3, _ => have := k1 (by omega); exact ⟨by simp; omega, by simp; omega⟩
    | 4, _ => exact b2
    | 5, _ => exact b2
    | 6, _ => exact b2
  · split
    · rename_i e; exact k4 e
    · exact b5
  · split
    · rename_i e; exact ⟨k3 e, b6.2⟩
    · split
      · exact b6
      · have := k2 (by omega)
        exact ⟨b6.1, by show jF ws 24 ≤ -1; omega⟩
theorem rK.fs {s : Nat} (hk : rK s ws) (hρ : ρ.length + 8 ≤ (ρ ++ rX ws).length) : aFs (ρ ++ rX ws) (rFs s ρ.length) := by
  obtain ⟨k1, k2, k3, k4, k5, k6⟩ := hk
  unfold rFs
  split
  · intro f hf; cases hf
  · rename_i hs
    have k5 := k5 hs
    have g : ∀ j x, (rX ws)[j]? = some x → (ρ ++ rX ws)[ρ.length + j]? = some x := fun j x hx => by
      rw [List.getElem?_append_right (by omega), Nat.add_sub_cancel_left]; exact hx
    intro f hf
    rcases List.mem_cons.mp hf with rfl | hf
    · refine ⟨jF ws 21 - jF ws 22 + (if 1 ≤ s ∧ s ≤ 3 then 1 else 0), ?_, ?_⟩
      · refine ⟨jF ws 21, -jF ws 22, g 2 _ rfl, ⟨jF ws 22, 0, g 3 _ rfl, rfl, by omega⟩, ?_⟩
        show _ + (if 1 ≤ s ∧ s ≤ 3 then (1 : Int) else 0) - (if 1 ≤ s ∧ s ≤ 3 then (1 : Int) else 0) = _
        omega
      · split
        · have := k6 (by omega) (by omega); omega
        · omega
    · rcases List.mem_cons.mp hf with rfl | hf
      · refine ⟨jF ws 22 - jF ws 19, ?_, by omega⟩
        refine ⟨jF ws 19, jF ws 22, g 0 _ rfl, ⟨jF ws 22, 0, g 3 _ rfl, rfl, by omega⟩, ?_⟩
        show _ - (0 : Int) = _
        omega
      · cases hf
/-- its known cells -/
theorem rH_ok (h : hI E al J ws) : aHh (ρ ++ rX ws) ws (rH ρ.length) := by
  have hf := (h.1.fld aLay_99).2
  have g : ∀ j x, (rX ws)[j]? = some x → (ρ ++ rX ws)[ρ.length + j]? = some x := fun j x hx => by
    rw [List.getElem?_append_right (by omega), Nat.add_sub_cancel_left]; exact hx
  have one : ∀ (i : Nat) (j : Nat) (b : Int × Int), aM[i]? = some (.inr b) → (rX ws)[j]? = some (jF ws i) → aH1 (ρ ++ rX ws) ws ((99, ae_k (i : Int)), ae_s (ρ.length + j)) := by
    intro i j b hb hx
    refine ⟨(i : Int), jF ws i, aV.k _, aV.s (g j _ hx), ?_⟩
    rw [if_pos (show (99 : Nat) < 1000000 by decide)]
    exact ⟨by omega, by rw [Int.toNat_natCast]; exact (hf i b hb).1⟩
  intro q hq
  simp only [rH, List.mem_cons, List.not_mem_nil, or_false] at hq
  rcases hq with rfl | rfl | rfl | rfl | rfl | rfl | rfl | rfl
  · exact one 19 0 (0, 250) (by decide +kernel) rfl
  · exact one 20 1 (0, 3) (by decide +kernel) rfl
  · exact one 21 2 (0, 250) (by decide +kernel) rfl
  · exact one 22 3 (0, 250) (by decide +kernel) rfl
  · exact one 23 4 aF (by decide +kernel) rfl
  · exact one 24 5 aF (by decide +kernel) rfl
  · exact one 28 6 (0, 256) (by decide +kernel) rfl
  · exact one 29 7 (0, 256) (by decide +kernel) rfl
/-- a piece begins -/
theorem hp_st (h : hI E al J ws) {s : Nat} (hs : s < 7) (hk : rK s ws) {G : aG} (hG1 : G.1 = aLay) (hG2 : G.2.1 = aRules) {env : List (Int × Int)} (he : aEv ρ env) {fs : List ae} {h0 : aH} (hf : aFs (ρ ++ rX ws) fs) (hh : aHh (ρ ++ rX ws) ws h0) :
    hW E al G J (ρ ++ rX ws) (env ++ rEnv s) (fs ++ rFs s ρ.length) (h0 ++ rH ρ.length) ws :=
  ⟨he.appL (hk.env h hs), hf.app (hk.fs (by simp [rX_get])), hh.app (rH_ok h), by rw [hG1]; exact h.1, by rw [hG2]; exact h.2.1, h.2.2⟩
/-- a piece ends -/
theorem hp_en {σ : List Int} {G : aG} (hG1 : G.1 = aLay) (hG2 : G.2.1 = aRules) {env : List (Int × Int)} {fs : List ae} {h0 : aH} {s m : Nat} (hs : s < 7) (hm : env.length = m) (h : hW E al G J σ (env ++ rEnv s) (fs ++ rFs s m) (h0 ++ rH m) ws) :
    hI E al J ws ∧ rK s ws ∧ (σ.getD (m + 0) 0 = jF ws 19 ∧ σ.getD (m + 1) 0 = jF ws 20 ∧ σ.getD (m + 2) 0 = jF ws 21 ∧ σ.getD (m + 3) 0 = jF ws 22 ∧ σ.getD (m + 4) 0 = jF ws 23 ∧ σ.getD (m + 5) 0 = jF ws 24 ∧ σ.getD (m + 6) 0 = jF ws 28 ∧ σ.getD (m + 7) 0 = jF ws 29) ∧ ∀ f ∈ fs, ae_ev σ f ≤ 0 := by
  have hI0 : hI E al J ws := ⟨by rw [← hG1]; exact h.2.2.2.1, by rw [← hG2]; exact h.2.2.2.2.1, h.2.2.2.2.2⟩
  have ho := hI0.obj
  have sl : ∀ (i j : Nat), ((99, ae_k (i : Int)), ae_s (m + j)) ∈ rH m → σ.getD (m + j) 0 = jF ws i := by
    intro i j hm2
    have := (h.2.2.1.sl (List.mem_append_right _ hm2) (by decide)).2
    have e1 : ae_ev σ (ae_s (m + j)) = σ.getD (m + j) 0 := by simp [ae_ev, ae_s, ae_el]
    have e2 : ae_ev σ (ae_k (i : Int)) = (i : Int) := by simp [ae_ev, ae_k, ae_el]
    rw [e1, e2, Int.toNat_natCast] at this
    exact jF.sl ho this
  have f0 := sl 19 0 (by simp [rH])
  have f1 := sl 20 1 (by simp [rH])
  have f2 := sl 21 2 (by simp [rH])
  have f3 := sl 22 3 (by simp [rH])
  have f4 := sl 23 4 (by simp [rH])
  have f5 := sl 24 5 (by simp [rH])
  have f6 := sl 28 6 (by simp [rH])
  have f7 := sl 29 7 (by simp [rH])
  have f0 : σ.getD m 0 = jF ws 19 := f0
  have b : ∀ (j : Nat) (c : Int × Int), (rEnv s)[j]? = some c → c.1 ≤ σ.getD (m + j) 0 ∧ σ.getD (m + j) 0 ≤ c.2 := by
    intro j c hc
    refine h.1.ev ?_
    rw [List.getElem?_append_right (by omega), hm, Nat.add_sub_cancel_left]
    exact hc
  have b1 := b 1 _ rfl
  have b4 := b 4 _ rfl
  have b5 := b 5 _ rfl
  rw [f1] at b1
  rw [f4] at b4
  rw [f5] at b5
  have ff : ∀ f ∈ rFs s m, ae_ev σ f ≤ 0 := fun f hf => h.2.1.ev (List.mem_append_right _ hf)
  have c : s ≠ 5 → jF ws 21 - jF ws 22 + (if 1 ≤ s ∧ s ≤ 3 then 1 else 0) ≤ 0 ∧ jF ws 22 - jF ws 19 ≤ 0 := by
    intro hs5
    unfold rFs at ff
    rw [if_neg hs5] at ff
    have g1 := ff _ (List.mem_cons_self)
    have g2 := ff _ (List.mem_cons_of_mem _ List.mem_cons_self)
    simp only [ae_ev, ae_el] at g1 g2
    rw [f2, f3] at g1
    rw [f0, f3] at g2
    omega
  refine ⟨hI0, ⟨fun h3 => ?_, fun h3 => ?_, fun h4 => ?_, fun h2 => ?_, fun h5 => ?_, fun h1 h3 => ?_⟩, ⟨f0, f1, f2, f3, f4, f5, f6, f7⟩, fun f hf => h.2.1.ev (List.mem_append_left _ hf)⟩
  · match s, h3, b1 with
    | 0, _, b1 => simp at b1; omega
    | 1, _, b1 => simp at b1; omega
    | 2, _, b1 => simp at b1; omega
    | 3, _, b1 => simp at b1; omega
  · rw [if_neg (by omega), if_neg (by omega)] at b5
    have := b5.2
    dsimp only at this
    omega
  · rw [if_pos h4] at b5
    exact b5.1
  · rw [if_pos h2] at b4
    exact b4
  · have := c h5
    split at this <;> omega
  · have := c (by omega)
    rw [if_pos ⟨h1, h3⟩] at this
    omega
end RD
