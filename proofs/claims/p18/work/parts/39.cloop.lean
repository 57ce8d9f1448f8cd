/-! THE READER, by hand: wantCond, the loop -/
section CLOOP
variable {E : mj_E} {al : List Nat} {ρ σ : List Int} {ws ws0 w w2 : va_W} {Q : Option Value → va_W → Prop}
theorem hp_enN {n N m t : Nat} {p cw : Int} {env : List (Int × Int)} {fs : List ae} {h0 : aH} (hn : ρ.length = n) (hN : n + 8 ≤ N) (k1 : ∀ k, k < N → σ[k]? = (ρ ++ rX ws)[k]?) (ht : t < 5) (hm : env.length = m) (k2 : hW E al gR jJ σ (env ++ rEM t) (fs ++ rLM n m p ++ rFM t n m) (h0 ++ rHN n m cw) w2) :
    hI E al jJ w2 ∧ rK t w2 ∧ jF w2 19 = jF ws 19 ∧ jF w2 28 = jF ws 28 ∧ jF w2 29 = jF ws 29 + cw ∧ jF ws 21 + p ≤ jF w2 21 ∧ (∀ f ∈ fs, ae_ev σ f ≤ 0) ∧ aHh σ w2 h0 := by
  have hI0 : hI E al jJ w2 := k2.2.2.2
  have ho := hI0.obj
  obtain ⟨x0, x1, x2, x3, x4, x5, x6, x7⟩ := rX_of hn hN k1
  have sl : ∀ (i j : Nat), ((99, ae_k (i : Int)), ae_s j) ∈ rHN n m cw → σ.getD j 0 = jF w2 i := by
    intro i j hm2
    have := (k2.2.2.1.sl (List.mem_append_right _ hm2) (by decide)).2
    have e1 : ae_ev σ (ae_s j) = σ.getD j 0 := by simp [ae_ev, ae_s, ae_el]
    have e2 : ae_ev σ (ae_k (i : Int)) = (i : Int) := by simp [ae_ev, ae_k, ae_el]
    rw [e1, e2, Int.toNat_natCast] at this
    exact jF.sl ho this
  have f0 := sl 19 n (by simp [rHN])
  have f1 := sl 20 m (by simp [rHN])
  have f2 := sl 21 (m + 1) (by simp [rHN])
  have f3 := sl 22 (m + 2) (by simp [rHN])
  have f4 := sl 23 (m + 3) (by simp [rHN])
  have f5 := sl 24 (m + 4) (by simp [rHN])
  have f6 := sl 28 (n + 6) (by simp [rHN])
  have f7 : σ.getD (n + 7) 0 + cw = jF w2 29 := by
    have := (k2.2.2.1.sl (c := 99) (i := ae_k 29) (v := ae_inc (ae_s (n + 7)) cw) (List.mem_append_right _ (by simp [rHN])) (by decide)).2
    have e1 : ae_ev σ (ae_inc (ae_s (n + 7)) cw) = σ.getD (n + 7) 0 + cw := by simp [ae_ev, ae_s, ae_inc, ae_el]
    have e2 : ae_ev σ (ae_k 29) = 29 := by simp [ae_ev, ae_k, ae_el]
    rw [e1, e2] at this
    exact jF.sl ho this
  have b : ∀ (j : Nat) (c : Int × Int), (rEM t)[j]? = some c → c.1 ≤ σ.getD (m + j) 0 ∧ σ.getD (m + j) 0 ≤ c.2 := by
    intro j c hc
    refine k2.1.ev ?_
    rw [List.getElem?_append_right (by omega), hm, Nat.add_sub_cancel_left]
    exact hc
  have b1 := b 0 _ rfl
  have b4 := b 3 _ rfl
  have b5 := b 4 _ rfl
  rw [show m + 0 = m from rfl, f1] at b1
  rw [f4] at b4
  rw [f5] at b5
  have g1 : jF w2 21 - jF w2 22 + (if 1 ≤ t ∧ t ≤ 3 then 1 else 0) ≤ 0 := by
    have := k2.2.1.ev (f := ([(m + 1, 1), (m + 2, -1)], if 1 ≤ t ∧ t ≤ 3 then 1 else 0)) (List.mem_append_right _ List.mem_cons_self)
    simp only [ae_ev, ae_el] at this
    rw [f2, f3] at this
    omega
  have g2 : jF w2 22 - jF w2 19 ≤ 0 := by
    have := k2.2.1.ev (f := ([(n, -1), (m + 2, 1)], 0)) (List.mem_append_right _ (List.mem_cons_of_mem _ List.mem_cons_self))
    simp only [ae_ev, ae_el] at this
    rw [f0, f3] at this
    omega
  have g3 : jF ws 21 + p ≤ jF w2 21 := by
    have := k2.2.1.ev (f := ([(n + 2, 1), (m + 1, -1)], p)) (List.mem_append_left _ (List.mem_append_right _ List.mem_cons_self))
    simp only [ae_ev, ae_el] at this
    rw [f2, x2] at this
    omega
  refine ⟨hI0, ⟨fun h3 => ?_, fun h3 => ?_, fun h4 => ?_, fun h2 => ?_, fun h5 => ?_, fun h1 h3 => ?_⟩, f0.symm.trans x0, f6.symm.trans x6, (by rw [← f7, x7]), g3, fun f hf => k2.2.1.ev (List.mem_append_left _ (List.mem_append_left _ hf)), fun q hq => k2.2.2.1 q (List.mem_append_left _ hq)⟩
  · match t, h3, b1 with
    | 0, _, b1 => simp at b1; omega
    | 1, _, b1 => simp at b1; omega
    | 2, _, b1 => simp at b1; omega
    | 3, _, b1 => simp at b1; omega
  · rw [if_neg (by omega)] at b5
    have := b5.2
    dsimp only at this
    omega
  · rw [if_pos h4] at b5
    exact b5.1
  · rw [if_pos h2] at b4
    exact b4
  · split at g1 <;> omega
  · rw [if_pos ⟨h1, h3⟩] at g1
    omega

/-- what wantCond leaves -/
def wc_post (E : mj_E) (al : List Nat) (ws0 : va_W) (v : Option Value) (w : va_W) : Prop := v = none ∧ cB E al ws0 w ∧ ∃ s, s < 5 ∧ rK s w ∧ (s < 4 → dep (jR w 120) (jF ws0 28).toNat ((jF w 28).toNat - (jF ws0 28).toNat) ≠ none)
theorem wc_192 (H : hOk E al gR jJ) (h0 : hI E al jJ ws0) {s : Nat} (hs : s < 5) (hk : rK s w) (h : cB E al ws0 w) (hg : s < 4 → ∃ o, cG ws0 w o 0) : hG E al 8 242 192 wa_lv0 [.inl (ae_k 5), .inr (0, 99)] [] w (wc_post E al ws0) := by
  have b := h.1.bds
  have h5 := h.2.2.2.2.1
  refine rd_call (d := 7) (y2 := 248) (as := [.inr (0, 99), .inl (ae_k 5)]) (rest := []) (R := sP E al 5 w) H h.1 (by decide) (by rfl) (fun AS ha => ?_) (fun w2 hR => ?_)
  · exact (rd_settle H h.1 (least := 5) (by decide) (by omega) ha).weaken (by decide) (Nat.le_refl _) (Nat.le_refl _) (fun _ _ z => z)
  · obtain ⟨c1, c2⟩ := h.settle h0 hR
    refine hp_ret (pc := 195) H (by decide) (by decide +kernel) (by decide +kernel) ⟨rfl, c1, s, hs, hR.2.2.1.k hk, fun h4 => ?_⟩
    obtain ⟨o, ho⟩ := hg h4
    rw [(c2 o ho).2.2]
    exact fun e => by cases e
/-- the end, at fault -/
theorem wc_hC (H : hOk E al gR jJ) (h0 : hI E al jJ ws0) (hk : rK 4 w) (h : cB E al ws0 w) {o a : Int} (ho : 0 ≤ o ∧ o ≤ 4) (ha : 0 ≤ a ∧ a ≤ 1) : hG E al 8 242 11 (wc_K o a 1) [] [] w (wc_post E al ws0) := by
  refine rd_glue (ρ := [o, a]) (env0 := [(0, 4), (0, 1)]) (s := 4) H h.1 (by decide) hk ⟨ho, ha, trivial⟩ (by decide) wc_cC rfl rfl ?_ rfl rfl rfl (wc_192 H h0 (s := 4) (by decide) hk h (fun h => by omega))
  simp only [lvE, avE, wc_lva, wc_K, ae_s, ae_k, ae_ev, ae_el, List.cons_append, List.nil_append, List.map_cons, List.map_nil, List.getD_cons_succ, List.getD_cons_zero, Int.one_mul, Int.add_zero, Int.zero_add]
theorem rK.five {s : Nat} : rK 5 ws := rK5
/-- the end, no more -/
theorem wc_hD (H : hOk E al gR jJ) (h0 : hI E al jJ ws0) {s : Nat} (hs : s < 5) (hk : rK s w) (h : cB E al ws0 w) {o : Int} (ho : 0 ≤ o ∧ o ≤ 4) (hg : s < 4 → ∃ o, cG ws0 w o 0) : hG E al 8 242 11 (wc_K o 0 0) [] [] w (wc_post E al ws0) := by
  refine rd_glue (ρ := [o, 0]) (env0 := [(0, 4), (0, 1)]) (s := 5) H h.1 (by decide) rK5 ⟨ho, by decide, trivial⟩ (by decide) wc_cD rfl rfl ?_ rfl rfl rfl (wc_192 H h0 hs hk h hg)
  simp only [lvE, avE, wc_lva, wc_K, ae_s, ae_k, ae_ev, ae_el, List.cons_append, List.nil_append, List.map_cons, List.map_nil, List.getD_cons_succ, List.getD_cons_zero, Int.one_mul, Int.add_zero, Int.zero_add]
/-- what is known at the loop's head -/
def cH (E : mj_E) (al : List Nat) (ws0 w : va_W) (s : Nat) (o : Int) (a : Nat) : Prop := s < 5 ∧ rK s w ∧ cB E al ws0 w ∧ (0 ≤ o ∧ o ≤ 4) ∧ (s < 4 → cG ws0 w o a)
/-- settle as it is called -/
theorem wc_settle (H : hOk E al gR jJ) (h : cB E al ws0 w) {pc : Nat} {lv : List (Nat × av)} {least : Int} {rest : List av} (hl : aI0 ≤ least ∧ least ≤ aI1) (hs : ak_callat gR 8 242 pc lv (.inl (ae_k least) :: .inr (0, 99) :: rest) ([], [], [], [], []) = some (248, [.inr (0, 99), .inl (ae_k least)], rest))
    (hk : ∀ w2, sP E al least w w2 → hG E al 8 242 (pc + 3) lv rest [] w2 Q) : hG E al 8 242 pc lv (.inl (ae_k least) :: .inr (0, 99) :: rest) [] w Q := by
  have b := h.1.bds
  have h5 := h.2.2.2.2.1
  refine rd_call (d := 7) (R := sP E al least w) H h.1 (by decide) hs (fun AS ha => ?_) hk
  exact (rd_settle H h.1 hl (by omega) ha).weaken (by decide) (Nat.le_refl _) (Nat.le_refl _) (fun _ _ z => z)
theorem wc_hold (H : hOk E al gR jJ) (h : cB E al ws0 w) {s : Nat} (hk : rK s w) (hs : s < 4) {pc : Nat} {lv : List (Nat × av)} {x : Int32} {rest : List av} (hc : ak_callat gR 8 242 pc lv (.inl (ae_k x.toInt) :: .inr (0, 99) :: rest) ([], [], [], [], []) = some (243, [.inr (0, 99), .inl (ae_k x.toInt)], rest))
    (hq : ∀ w2, hP E al x w w2 → hG E al 8 242 (pc + 3) lv rest [] w2 Q) : hG E al 8 242 pc lv (.inl (ae_k x.toInt) :: .inr (0, 99) :: rest) [] w Q := by
  have b := h.1.bds
  have h5 := h.2.2.2.2.1
  have k6 : rK 6 w := by
    obtain ⟨k1, k2, k3, k4, k5, k6⟩ := hk
    exact ⟨by omega, fun _ => k2 (by omega), by omega, by omega, fun _ => k5 (by omega), by omega⟩
  refine rd_call (d := 7) (R := hP E al x w) H h.1 (by decide) hc (fun AS ha => ?_) hq
  exact (rd_hold H h.1 k6 (by omega) x ha).weaken (by decide) (Nat.le_refl _) (Nat.le_refl _) (fun _ _ z => z)
end CLOOP
