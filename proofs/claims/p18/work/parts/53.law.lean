/-! THE LAW, tools: as for the pieces by hand, but over a method of its own and tables that hang on a symbol -/
def hOkL (E : mj_E) (al : List Nat) (G : aG) (J : va_W → Prop) (ρ : List Int) (n : Nat) : Prop :=
  E.2.2.2.1.category = 1 ∧ G.1.length < 1000000 ∧ aRok G.2.1 = true ∧ (∀ w w' : va_W, (∀ c ∈ G.2.2.2.1, aE1 c w w') → J w → J w') ∧ (∀ c ∈ G.2.2.2.2, aCO E al G J c) ∧ ∀ σ : List Int, (∀ k, k < n → σ[k]? = ρ[k]?) → aTb E σ G.2.2.1
section LAWT
variable {E : mj_E} {al : List Nat} {G : aG} {J : va_W → Prop} {ρ : List Int} {ws : va_W} {Q : Option Value → va_W → Prop}
theorem law_go {f d y n : Nat} (hy : mj_l y = mj_lx y ∧ mj_r y = mj_rx y) (H : hOkL E al G J ρ n) {p : aPc} (hn : p.2.1.length = n) {pcs : List Nat} (Is Bs : List aCut)
    (h1 : hp_e G f d y p.1 p.2.1 p.2.2.1 p.2.2.2.1 p.2.2.2.2.1 p.2.2.2.2.2 (hp_f pcs (Is ++ Bs)) = true) (h2 : ∀ T ∈ Is, ∃ pcs2, hp_c G f d y n (hp_f pcs2 (Is ++ Bs)) T = true) (h3 : (Is ++ Bs).all (fun T => decide (n ≤ T.2.1.length)) = true) (hW0 : hW E al G J ρ p.2.1 p.2.2.1 p.2.2.2.1 ws)
    (hB : ∀ T ∈ Bs, ∀ σ ws2, (∀ k, k < n → σ[k]? = ρ[k]?) → hW E al G J σ T.2.1 T.2.2.1 T.2.2.2.2.2.1 ws2 → ws2.length = ws.length → (∀ k, k ∉ T.2.2.2.2.2.2.1 → ws2[k]? = ws[k]?) → hG E al d y T.1 T.2.2.2.1 T.2.2.2.2.1 σ ws2 Q) : hG E al d y p.1 p.2.2.2.2.1 p.2.2.2.2.2 ρ ws Q := by
  obtain ⟨H1, H2, H3, H4, H5, H6⟩ := H
  have hlen : ∀ T ∈ Is ++ Bs, n ≤ T.2.1.length := fun T hT => of_decide_eq_true (List.all_eq_true.mp h3 T hT)
  have ext : ∀ {T : aCut} {σ : List Int} {LV : List (Nat × Value)} {ST : List Value} {ws2 : va_W}, T ∈ Bs → (∀ k, k < n → σ[k]? = ρ[k]?) → gA E al σ T.2.2.2.1 LV → gL E al σ T.2.2.2.2.1 ST → aSt E al G J ws σ (aT T) ws2 → MJ E d 0 0 (y, T.1, LV, ST, ws2) Q := by
    intro T σ LV ST ws2 hT k1 k2 k3 k4
    have fr := k4.2.2.2.1.frame
    exact hB T hT σ ws2 k1 ⟨k4.1.1, k4.1.2.1, k4.2.2.1, k4.2.2.2.2⟩ fr.1 (fun k hk => fr.2 k (fun q hq e => hk (by
      obtain ⟨c, hc, rfl⟩ := List.mem_map.mp hq
      rw [← e]
      exact hc))) LV ST k2 k3
  have main : ∀ (N : Nat) (T : aCut), T ∈ Is → ∀ (σ : List Int) (LV : List (Nat × Value)) (ST : List Value) (ws2 : va_W) (x : Int), x.toNat < N → (∀ k, k < n → σ[k]? = ρ[k]?) → gA E al σ T.2.2.2.1 LV → gL E al σ T.2.2.2.2.1 ST → aSt E al G J ws σ (aT T) ws2 → aV σ T.2.2.2.2.2.2.2 x → MJ E d 0 0 (y, T.1, LV, ST, ws2) Q := by
    intro N
    induction N with
    | zero => intro T _ σ LV ST ws2 x hx; omega
    | succ N ih =>
      intro T hT σ LV ST ws2 x hx b1 b2 b3 b4 b5
      obtain ⟨pcs2, c0⟩ := h2 T hT
      unfold hp_c at c0
      rw [Bool.and_eq_true] at c0
      have hx0 := ae_le0_ok b4.1.1 c0.1 b5.neg
      have hr := hp_ok0_ok c0.2
      have := ak_run_ok H1 H2 H3 H4 H5 f d y n [] (hp_f pcs2 (Is ++ Bs)) _ false _ _ _ _ [] hr hy (mj_jmp_cok y T.1).1 σ LV ST ws2 ws Q b2 b3 b4 (by
          have e1 := b4.1.1.1
          have e2 := hlen T (List.mem_append_left _ hT)
          rw [e1]; exact e2) (fun _ σ2 h => H6 σ2 (fun k hk => (h k hk).trans (b1 k hk))) (fun T2 hT3 => have hT2 := (List.mem_filter.mp hT3).1
        ⟨hlen T2 hT2, fun σ2 LV2 ST2 ws3 d1 d2 d3 d4 d5 => by
          have d6 : ∀ k, k < n → σ2[k]? = ρ[k]? := fun k hk => by rw [d1 k hk]; exact b1 k hk
          rcases List.mem_append.mp hT2 with hI | hB2
          · obtain ⟨x2, d7, d8⟩ := d5 _ x rfl b5
            obtain ⟨pcs3, t4⟩ := h2 T2 hI
            unfold hp_c at t4
            rw [Bool.and_eq_true] at t4
            have := ae_le0_ok d4.1.1 t4.1 d7.neg
            exact ih T2 hI σ2 LV2 ST2 ws3 x2 (by omega) d6 d2 d3 d4 d7
          · exact ext hB2 d6 d2 d3 d4⟩) (fun q hq => by cases hq)
      rw [(mj_jmp_cok y T.1).2 (by
        intro e
        rw [e] at hr
        cases f <;> cases hr)] at this
      exact this
  intro LV0 ST0 g1 g2
  subst hn
  have hr := hp_ok0_ok h1
  have st0 : aSt E al G J ws ρ (p.2.1, p.2.2.1, [], p.2.2.2.1, []) ws := ⟨⟨hW0.1, hW0.2.1, fun z hz => by cases hz⟩, H6 ρ (fun _ _ => rfl), hW0.2.2.1, rfl, hW0.2.2.2⟩
  have := ak_run_ok H1 H2 H3 H4 H5 f d y p.2.1.length [] (hp_f pcs (Is ++ Bs)) none false _ _ _ _ [] hr hy (mj_jmp_cok y p.1).1 ρ LV0 ST0 ws ws Q g1 g2 st0 (by rw [hW0.1.1]; exact Nat.le_refl _) (fun _ σ h => H6 σ h) (fun T hT0 => have hT := (List.mem_filter.mp hT0).1
    ⟨hlen T hT, fun σ LV2 ST2 ws2 k1 k2 k3 k4 _ => by
      rcases List.mem_append.mp hT with hI | hB2
      · obtain ⟨pcs3, t4⟩ := h2 T hI
        unfold hp_c at t4
        rw [Bool.and_eq_true] at t4
        obtain ⟨x, hx⟩ := ae_le0_val k4.1.1 t4.1
        exact main (x.toNat + 1) T hI σ LV2 ST2 ws2 x (by omega) k1 k2 k3 k4 hx
      · exact ext hB2 k1 k2 k3 k4⟩) (fun q hq => by cases hq)
  rw [(mj_jmp_cok y p.1).2 (by
    intro e
    rw [e] at hr
    cases f <;> cases hr)] at this
  exact this
theorem law_ret {d y pc : Nat} (hy : mj_l y = mj_lx y ∧ mj_r y = mj_rx y) {lv : List (Nat × av)} {e : ae} {x : Int} {ty : FieldType} (hr : (mj_jmp y pc).map (·.2.1) = [.ireturn] ++ ((mj_jmp y pc).map (·.2.1)).drop 1) (hx : mj_rx y = some ty) (he : aV ρ e x) (hn : ∀ n : Int32, n.toInt = x → narrow ty (.int n) = .int n) (hq : ∀ n : Int32, n.toInt = x → Q (some (.int n)) ws) : hG E al d y pc lv [.inl e] ρ ws Q := by
  intro LV ST h1 h2
  obtain ⟨v, u, rfl, ⟨n, rfl, hv⟩, h3⟩ := h2
  have h3 : u = [] := h3
  subst h3
  have e0 : n.toInt = x := hv.uniq he
  have hj := mj_jmp_cok y pc
  cases hm : mj_jmp y pc with
  | nil => rw [hm] at hr; simp at hr
  | cons q tl =>
    obtain ⟨p, i, n2⟩ := q
    rw [hm] at hr hj
    have hi : i = .ireturn := by simpa using hr
    subst hi
    have hp : p = pc := hj.2 (by simp)
    subst hp
    obtain ⟨hdec, -, hn2, -⟩ := hj.1
    have hn2 : n2 = 1 := by simpa [mj_isw, mj_len] using hn2
    subst hn2
    exact MJ.rt hdec (v := some (.int n)) ⟨rfl, n, ty, rfl, by rw [hy.2, hx], hn n e0, rfl⟩ (hq n e0)
/-- a call by hand of a method that answers an int -/
theorem law_callV {d y pc y2 n : Nat} (hy : mj_l y = mj_lx y ∧ mj_r y = mj_rx y) (H : hOkL E al G J ρ n) {env : List (Int × Int)} {fs : List ae} {h : aH} {lv : List (Nat × av)} {st as rest : List av} {R : Int32 → va_W → Prop}
    (hs : ak_callat G (d + 1) y pc lv st (env, fs, [], h, []) = some (y2, as, rest)) (hW0 : hW E al G J ρ env fs h ws)
    (hc : ∀ AS, gL E al ρ as AS → MJ E d 0 0 (mj_in0 y2 AS ws) (fun v w => ∃ z : Int32, v = some (.int z) ∧ R z w))
    (hk : ∀ z w, R z w → hG E al (d + 1) y (pc + 3) lv (.inl (ae_k z.toInt) :: rest) ρ w Q) : hG E al (d + 1) y pc lv st ρ ws Q := by
  intro LV ST h1 h2
  unfold ak_callat at hs
  have hj := mj_jmp_cok y pc
  have st0 : aSt E al G J ws ρ (env, fs, [], h, []) ws := ⟨⟨hW0.1, hW0.2.1, fun z hz => by cases hz⟩, H.2.2.2.2.2 ρ (fun _ _ => rfl), hW0.2.2.1, rfl, hW0.2.2.2⟩
  split at hs
  · rename_i p i n2 tl hm
    split at hs
    · rename_i r hr
      cases hs
      rw [hm] at hj
      have hp : p = pc := hj.2 (by simp)
      subst hp
      obtain ⟨hdec, -, hn, -⟩ := hj.1
      obtain ⟨hn3, AS, R2, k1, k2, k3⟩ := ak_S_ok H.1 H.2.1 H.2.2.1 H.2.2.2.1 hy.1 hy.2 h1 h2 st0 hn hr
      refine MJ.cl hdec k3 (d2 := d) (mc2 := 0) (ms2 := 0) (mc3 := 0) (ms3 := 0) rfl rfl rfl (hc AS k1) (fun v w hv => ?_)
      obtain ⟨z, rfl, hw⟩ := hv
      exact hk z w hw LV (.int z :: R2) h1 ⟨_, R2, rfl, ⟨z, rfl, aV.k _⟩, k2⟩
    · cases hs
  · cases hs
end LAWT
