/-! CALLS BY THEIR LOG: a straight run's writes, one by one; what every slot holds behind it -/
section LOG
variable {E : mj_E} {al : List Nat} {G : aG} {J : va_W → Prop} {ρ : List Int} {ws w w0 w1 : va_W}
theorem aPt.D {c i : Nat} {x : Int} (h : aPt w1 c i x w) : hD [c] w1 w := by
  rcases h with ⟨a, ci, vs, n, -, -, -, rfl⟩ | ⟨a, cl, N, f, n, -, -, -, rfl⟩
  · exact hD.set
  · exact hD.set
/-- a cell's slots behind a log (the latest first) -/
def lg_ap (ρ : List Int) (c : Nat) (f : Nat → Int) : aW → Nat → Int
  | [] => f
  | (c2, some (ix, v)) :: t => if c2 = c then fun k => if k = (ae_ev ρ ix).toNat then ae_ev ρ v else lg_ap ρ c f t k else lg_ap ρ c f t
  | (_, none) :: t => lg_ap ρ c f t
def lg_all : aW → Bool
  | [] => true
  | (_, some _) :: t => lg_all t
  | (_, none) :: _ => false
theorem aLg.ap : ∀ {l : aW} {w : va_W}, lg_all l = true → aLg ρ w0 l w → ∀ c k, jS w c k = lg_ap ρ c (jS w0 c) l k
  | [], _, _, h, c, k => by rw [show _ = w0 from h]; rfl
  | (c2, some (ix, v)) :: t, w, ha, ⟨w1, i, x, h1, h2, h3, h4, h5⟩, c, k => by
    have ih := aLg.ap (l := t) ha h1 c k
    unfold lg_ap
    by_cases e : c2 = c
    · subst e
      rw [if_pos rfl]
      show _ = if k = (ae_ev ρ ix).toNat then ae_ev ρ v else _
      rw [← h2.ev, ← h3.ev]
      by_cases ek : k = i.toNat
      · subst ek
        rw [if_pos rfl]
        exact jS.sl h5.new
      · rw [if_neg ek, h5.slot ek]
        exact ih
    · rw [if_neg e, jS.at (h5.D.2 c (by simp; omega))]
      exact ih
  | (_, none) :: _, _, ha, _, _, _ => by cases ha
theorem aLg.len : ∀ {l : aW} {w : va_W}, lg_all l = true → aLg ρ w0 l w → (∀ c, (∀ q ∈ l, q.1 ≠ c) → w[c]? = w0[c]?) := fun _ h => h.frame.2
def ae_lt (n : Nat) (e : ae) : Bool := e.1.all (fun q => decide (q.1 < n))
theorem aVl.cut {r : List Int} : ∀ {l : List (Nat × Int)} {v : Int}, l.all (fun q => decide (q.1 < ρ.length)) = true → aVl (ρ ++ r) l v → aVl ρ l v
  | [], _, _, h => h
  | (k, a) :: t, v, hl, ⟨x, u, e1, h1, e2⟩ => by
    rw [List.all_cons, Bool.and_eq_true] at hl
    exact ⟨x, u, by rw [← e1, List.getElem?_append_left (of_decide_eq_true hl.1)], aVl.cut hl.2 h1, e2⟩
theorem aV.cut {r : List Int} {e : ae} {v : Int} (hl : ae_lt ρ.length e = true) (h : aV (ρ ++ r) e v) : aV ρ e v := aVl.cut hl h
theorem ev_app {r : List Int} {e : ae} (hl : ae_lt ρ.length e = true) : ae_ev (ρ ++ r) e = ae_ev ρ e := ((aV.mk (σ := ρ) hl).mono (r := r)).ev.symm
/-- a way through a method: what is known, the answer, the log -/
abbrev lgT : Type := List (Int × Int) × List ae × List av × aH × ae × aW
def lg_eq : aW → aW → Bool
  | [], [] => true
  | (c, some (ix, v)) :: t, (c2, some (ix2, v2)) :: t2 => decide (c = c2) && (decide (ix.1 = ix2.1) && (decide (ix.2 = ix2.2) && (decide (v.1 = v2.1) && (decide (v.2 = v2.2) && lg_eq t t2))))
  | _, _ => false
theorem lg_eq_ok : ∀ {l l2 : aW}, lg_eq l l2 = true → l = l2
  | [], [], _ => rfl
  | (c, some (⟨i1, i2⟩, ⟨v1, v2⟩)) :: t, (c2, some (⟨j1, j2⟩, ⟨u1, u2⟩)) :: t2, h => by
    unfold lg_eq at h
    simp only [Bool.and_eq_true, decide_eq_true_eq] at h
    obtain ⟨rfl, rfl, rfl, rfl, rfl, h⟩ := h
    rw [lg_eq_ok h]
  | [], _ :: _, h => by cases h
  | (_, some (_, _)) :: _, [], h => by cases h
  | (_, none) :: _, [], h => by cases h
  | (_, none) :: _, (_, none) :: _, h => by cases h
  | (_, none) :: _, (_, some (_, _)) :: _, h => by cases h
  | (_, some (_, _)) :: _, (_, none) :: _, h => by cases h
def lg_end (e : ae) (log : aW) (q : aEnd) : Bool := match q.1 with
  | .inl (some (.inl v)) => aP_eq q.2 v e && lg_eq q.2.2.2.2.2 log
  | _ => false
def lg_chk (G : aG) (d y : Nat) (t : lgT) : Bool := ae_lt t.1.length t.2.2.2.2.1 && lg_all t.2.2.2.2.2 &&
  (match ak_run G 100000 d y t.1.length [] [] none false (mj_jmp y 0) (ak_args 0 t.2.2.1) [] (t.1, t.2.1, [], t.2.2.2.1, []) with
   | some ends => ends.all (lg_end t.2.2.2.2.1 t.2.2.2.2.2)
   | none => false)
theorem lg_ok (H : hOk E al G J) {d y : Nat} {t : lgT} (hy : y < mj_lawNo) (hc : lg_chk G d y t = true) (hW0 : hW E al G J ρ t.1 t.2.1 t.2.2.2.1 ws) {AS : List Value} (ha : gL E al ρ t.2.2.1 AS) :
    MJ E d 0 0 (mj_in0 y AS ws) (fun v w => ∃ z : Int32, v = some (.int z) ∧ z.toInt = ae_ev ρ t.2.2.2.2.1 ∧ aWd E al G.1 w ∧ aRs G.2.1 w ∧ J w ∧ (∀ c, (∀ q ∈ t.2.2.2.2.2, q.1 ≠ c) → w[c]? = ws[c]?) ∧ w.length = ws.length ∧ ∃ r : List Int, ∀ c k, jS w c k = lg_ap (ρ ++ r) c (jS ws c) t.2.2.2.2.2 k) := by
  unfold lg_chk at hc
  rw [Bool.and_eq_true, Bool.and_eq_true] at hc
  obtain ⟨⟨l1, l3⟩, hc⟩ := hc
  split at hc
  · rename_i ends hr
    have hlen : ρ.length = t.1.length := hW0.1.1
    rw [← hlen] at l1
    refine hG.in0 H.1 (as := t.2.2.1) ?_ ha
    refine hp_run H (Bs := []) hy hr hW0 (fun T hT => by cases hT) (fun q hq => ?_)
    have hq := List.all_eq_true.mp hc q hq
    unfold aQ
    unfold lg_end at hq
    obtain ⟨q1, q2⟩ := q
    dsimp only at hq ⊢
    split at hq
    · rename_i v
      rw [Bool.and_eq_true] at hq
      intro r x w2 hv hS
      obtain ⟨u, rfl, z, rfl, hz⟩ := hv
      have hE := aV.mk (σ := ρ) (e := t.2.2.2.2.1) l1
      have ez := hS.1.eq hq.1 hz (hE.mono (r := r))
      have lg := hS.2.2.2.1
      rw [lg_eq_ok hq.2] at lg
      exact ⟨z, rfl, ez, hS.2.2.2.2.1, hS.2.2.2.2.2.1, hS.2.2.2.2.2.2, lg.frame.2, lg.frame.1, r, lg.ap l3⟩
    · cases hq
  · cases hc
end LOG
