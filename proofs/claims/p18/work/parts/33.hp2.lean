/-! PIECES BY HAND: cuts of their own, each checked by itself, against those that it can reach -/
def hp_f (pcs : List Nat) (Cs : List aCut) : List aCut := Cs.filter (fun C => pcs.elem C.1)
section HPF
variable {E : mj_E} {al : List Nat} {G : aG} {J : va_W → Prop} {ρ : List Int} {ws : va_W} {Q : Option Value → va_W → Prop}
theorem hp_go2 (H : hOk E al G J) {f d y : Nat} {p : aPc} {pcs : List Nat} (Is Bs : List aCut) (hy : y < mj_lawNo)
    (h1 : hp_e G f d y p.1 p.2.1 p.2.2.1 p.2.2.2.1 p.2.2.2.2.1 p.2.2.2.2.2 (hp_f pcs (Is ++ Bs)) = true) (h2 : ∀ T ∈ Is, ∃ pcs2, hp_c G f d y p.2.1.length (hp_f pcs2 (Is ++ Bs)) T = true) (h3 : (Is ++ Bs).all (fun T => decide (p.2.1.length ≤ T.2.1.length)) = true) (hW0 : hW E al G J ρ p.2.1 p.2.2.1 p.2.2.2.1 ws)
    (hB : ∀ T ∈ Bs, ∀ σ ws2, (∀ k, k < p.2.1.length → σ[k]? = ρ[k]?) → hW E al G J σ T.2.1 T.2.2.1 T.2.2.2.2.2.1 ws2 → ws2.length = ws.length → (∀ k, k ∉ T.2.2.2.2.2.2.1 → ws2[k]? = ws[k]?) → hG E al d y T.1 T.2.2.2.1 T.2.2.2.2.1 σ ws2 Q) : hG E al d y p.1 p.2.2.2.2.1 p.2.2.2.2.2 ρ ws Q := by
  have hlen : ∀ T ∈ Is ++ Bs, p.2.1.length ≤ T.2.1.length := fun T hT => of_decide_eq_true (List.all_eq_true.mp h3 T hT)
  have ext : ∀ {T : aCut} {σ : List Int} {LV : List (Nat × Value)} {ST : List Value} {ws2 : va_W}, T ∈ Bs → (∀ k, k < p.2.1.length → σ[k]? = ρ[k]?) → gA E al σ T.2.2.2.1 LV → gL E al σ T.2.2.2.2.1 ST → aSt E al G J ws σ (aT T) ws2 → MJ E d 0 0 (y, T.1, LV, ST, ws2) Q := by
    intro T σ LV ST ws2 hT k1 k2 k3 k4
    have fr := k4.2.2.2.1.frame
    exact hB T hT σ ws2 k1 ⟨k4.1.1, k4.1.2.1, k4.2.2.1, k4.2.2.2.2⟩ fr.1 (fun k hk => fr.2 k (fun q hq e => hk (by
      obtain ⟨c, hc, rfl⟩ := List.mem_map.mp hq
      rw [← e]
      exact hc))) LV ST k2 k3
  have main : ∀ (N : Nat) (T : aCut), T ∈ Is → ∀ (σ : List Int) (LV : List (Nat × Value)) (ST : List Value) (ws2 : va_W) (x : Int), x.toNat < N → (∀ k, k < p.2.1.length → σ[k]? = ρ[k]?) → gA E al σ T.2.2.2.1 LV → gL E al σ T.2.2.2.2.1 ST → aSt E al G J ws σ (aT T) ws2 → aV σ T.2.2.2.2.2.2.2 x → MJ E d 0 0 (y, T.1, LV, ST, ws2) Q := by
    intro N
    induction N with
    | zero => intro T _ σ LV ST ws2 x hx; omega
    | succ N ih =>
      intro T hT σ LV ST ws2 x hx b1 b2 b3 b4 b5
      obtain ⟨pcs2, c0⟩ := h2 T hT
      unfold hp_c at c0
      rw [Bool.and_eq_true] at c0
      have hx0 := ae_le0_ok b4.1.1 c0.1 b5.neg
      have hr := hp_ok0_ok c0.2
      have := ak_run_ok H.1 H.2.1 H.2.2.1 H.2.2.2.1 H.2.2.2.2.1 f d y p.2.1.length [] (hp_f pcs2 (Is ++ Bs)) _ false _ _ _ _ [] hr (mj_li_use hy) (mj_jmp_cok y T.1).1 σ LV ST ws2 ws Q b2 b3 b4 (by
          have e1 := b4.1.1.1
          have e2 := hlen T (List.mem_append_left _ hT)
          rw [e1]; exact e2) (fun _ σ2 _ => H.2.2.2.2.2 σ2) (fun T2 hT3 => have hT2 := (List.mem_filter.mp hT3).1
        ⟨hlen T2 hT2, fun σ2 LV2 ST2 ws3 d1 d2 d3 d4 d5 => by
          have d6 : ∀ k, k < p.2.1.length → σ2[k]? = ρ[k]? := fun k hk => by rw [d1 k hk]; exact b1 k hk
          rcases List.mem_append.mp hT2 with hI | hB2
          · obtain ⟨x2, d7, d8⟩ := d5 _ x rfl b5
            obtain ⟨pcs3, t4⟩ := h2 T2 hI
            unfold hp_c at t4
            rw [Bool.and_eq_true] at t4
            have := ae_le0_ok d4.1.1 t4.1 d7.neg
            exact ih T2 hI σ2 LV2 ST2 ws3 x2 (by omega) d6 d2 d3 d4 d7
          · exact ext hB2 d6 d2 d3 d4⟩) (fun q hq => by cases hq)
      rw [(mj_jmp_cok y T.1).2 (by
        intro e
        rw [e] at hr
        cases f <;> cases hr)] at this
      exact this
  refine hp_run H hy (hp_ok0_ok h1) hW0 (fun T hT0 => have hT := (List.mem_filter.mp hT0).1
    ⟨hlen T hT, fun σ ws2 k1 k2 k3 k4 => ?_⟩) (fun q hq => by cases hq)
  rcases List.mem_append.mp hT with hI | hB2
  · intro LV ST k5 k6
    obtain ⟨pcs3, t4⟩ := h2 T hI
    unfold hp_c at t4
    rw [Bool.and_eq_true] at t4
    obtain ⟨x, hx⟩ := ae_le0_val k2.1 t4.1
    refine main (x.toNat + 1) T hI σ LV ST ws2 x (by omega) k1 k5 k6 ⟨⟨k2.1, k2.2.1, fun z hz => by cases hz⟩, H.2.2.2.2.2 σ, k2.2.2.1, aLg_none _ k3 k4, k2.2.2.2⟩ hx
  · exact hB T hB2 σ ws2 k1 k2 k3 k4
end HPF
/-! the state behind a token's move: tape's length, what was emitted and what waits as before -/
def rEM (t : Nat) : List (Int × Int) := [(match t with | 0 => (0, 0) | 1 => (1, 1) | 2 => (2, 2) | 3 => (3, 3) | _ => (0, 3)), (0, 250), (0, 250), (if t = 2 then (0, 999) else aF), (if t = 4 then (0, aI1) else (aI0, -1))]
def rFM (t n m : Nat) : List ae := [([(m + 1, 1), (m + 2, -1)], if 1 ≤ t ∧ t ≤ 3 then 1 else 0), ([(n, -1), (m + 2, 1)], 0)]
def rHM (n m : Nat) : aH := [((99, ae_k 19), ae_s n), ((99, ae_k 20), ae_s m), ((99, ae_k 21), ae_s (m + 1)), ((99, ae_k 22), ae_s (m + 2)), ((99, ae_k 23), ae_s (m + 3)), ((99, ae_k 24), ae_s (m + 4)), ((99, ae_k 28), ae_s (n + 6)), ((99, ae_k 29), ae_s (n + 7))]
def rLM (n m : Nat) (p : Int) : List ae := [([(n + 2, 1), (m + 1, -1)], p), ([(n + 2, 1), (m + 2, -1)], p)]
section ENM
variable {E : mj_E} {al : List Nat} {ρ σ : List Int} {ws w2 : va_W}
theorem hp_enM {n N m t : Nat} {p : Int} {env : List (Int × Int)} {fs : List ae} {h0 : aH} (hn : ρ.length = n) (hN : n + 8 ≤ N) (k1 : ∀ k, k < N → σ[k]? = (ρ ++ rX ws)[k]?) (ht : t < 5) (hm : env.length = m) (k2 : hW E al gR jJ σ (env ++ rEM t) (fs ++ rLM n m p ++ rFM t n m) (h0 ++ rHM n m) w2) :
    hI E al jJ w2 ∧ rK t w2 ∧ jF w2 19 = jF ws 19 ∧ jF w2 28 = jF ws 28 ∧ jF w2 29 = jF ws 29 ∧ jF ws 21 + p ≤ jF w2 21 ∧ (∀ f ∈ fs, ae_ev σ f ≤ 0) ∧ aHh σ w2 h0 := by
  have hI0 : hI E al jJ w2 := k2.2.2.2
  have ho := hI0.obj
  obtain ⟨x0, x1, x2, x3, x4, x5, x6, x7⟩ := rX_of hn hN k1
  have sl : ∀ (i j : Nat), ((99, ae_k (i : Int)), ae_s j) ∈ rHM n m → σ.getD j 0 = jF w2 i := by
    intro i j hm2
    have := (k2.2.2.1.sl (List.mem_append_right _ hm2) (by decide)).2
    have e1 : ae_ev σ (ae_s j) = σ.getD j 0 := by simp [ae_ev, ae_s, ae_el]
    have e2 : ae_ev σ (ae_k (i : Int)) = (i : Int) := by simp [ae_ev, ae_k, ae_el]
    rw [e1, e2, Int.toNat_natCast] at this
    exact jF.sl ho this
  have f0 := sl 19 n (by simp [rHM])
  have f1 := sl 20 m (by simp [rHM])
  have f2 := sl 21 (m + 1) (by simp [rHM])
  have f3 := sl 22 (m + 2) (by simp [rHM])
  have f4 := sl 23 (m + 3) (by simp [rHM])
  have f5 := sl 24 (m + 4) (by simp [rHM])
  have f6 := sl 28 (n + 6) (by simp [rHM])
  have f7 := sl 29 (n + 7) (by simp [rHM])
  have b : ∀ (j : Nat) (c : Int × Int), (rEM t)[j]? = some c → c.1 ≤ σ.getD (m + j) 0 ∧ σ.getD (m + j) 0 ≤ c.2 := by
    intro j c hc
    refine k2.1.ev ?_
    rw [List.getElem?_append_right (by omega), hm, Nat.add_sub_cancel_left]
    exact hc
  have b1 := b 0 _ rfl
  have b4 := b 3 _ rfl
  have b5 := b 4 _ rfl
  rw [show m + 0 = m from rfl, f1] at b1
  rw [f4] at b4
  rw [f5] at b5
  have g1 : jF w2 21 - jF w2 22 + (if 1 ≤ t ∧ t ≤ 3 then 1 else 0) ≤ 0 := by
    have := k2.2.1.ev (f := ([(m + 1, 1), (m + 2, -1)], if 1 ≤ t ∧ t ≤ 3 then 1 else 0)) (List.mem_append_right _ List.mem_cons_self)
    simp only [ae_ev, ae_el] at this
    rw [f2, f3] at this
    omega
  have g2 : jF w2 22 - jF w2 19 ≤ 0 := by
    have := k2.2.1.ev (f := ([(n, -1), (m + 2, 1)], 0)) (List.mem_append_right _ (List.mem_cons_of_mem _ List.mem_cons_self))
    simp only [ae_ev, ae_el] at this
    rw [f0, f3] at this
    omega
  have g3 : jF ws 21 + p ≤ jF w2 21 := by
    have := k2.2.1.ev (f := ([(n + 2, 1), (m + 1, -1)], p)) (List.mem_append_left _ (List.mem_append_right _ List.mem_cons_self))
    simp only [ae_ev, ae_el] at this
    rw [f2, x2] at this
    omega
  refine ⟨hI0, ⟨fun h3 => ?_, fun h3 => ?_, fun h4 => ?_, fun h2 => ?_, fun h5 => ?_, fun h1 h3 => ?_⟩, f0.symm.trans x0, f6.symm.trans x6, f7.symm.trans x7, g3, fun f hf => k2.2.1.ev (List.mem_append_left _ (List.mem_append_left _ hf)), fun q hq => k2.2.2.1 q (List.mem_append_left _ hq)⟩
  · match t, h3, b1 with
    | 0, _, b1 => simp at b1; omega
    | 1, _, b1 => simp at b1; omega
    | 2, _, b1 => simp at b1; omega
    | 3, _, b1 => simp at b1; omega
  · rw [if_neg (by omega)] at b5
    have := b5.2
    dsimp only at this
    omega
  · rw [if_pos h4] at b5
    exact b5.1
  · rw [if_pos h2] at b4
    exact b4
  · split at g1 <;> omega
  · rw [if_pos ⟨h1, h3⟩] at g1
    omega
end ENM
