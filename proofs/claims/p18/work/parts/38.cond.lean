/-! THE READER, by hand: wantCond, what it keeps -/
section COND
variable {E : mj_E} {al : List Nat} {ρ σ : List Int} {ws ws0 w w2 : va_W} {Q : Option Value → va_W → Prop}
theorem rd_same {N s : Nat} {env1 : List (Int × Int)} {fs : List ae} {h0 : aH} (k1 : ∀ k, k < N → σ[k]? = (ρ ++ rX ws)[k]?) (k2 : hW E al gR jJ σ (env1 ++ rEnv s) fs h0 w2) (hN : N = ρ.length + 8) (hl : env1.length = ρ.length) (k3 : w2.length = ws.length) (k4 : ∀ k : Nat, k ∉ ([] : List Nat) → w2[k]? = ws[k]?) :
    w2 = ws ∧ σ = ρ ++ rX ws ∧ ∀ (k : Nat) (b : Int × Int), env1[k]? = some b → b.1 ≤ ρ.getD k 0 ∧ ρ.getD k 0 ≤ b.2 := by
  have e := hD.eq (ws := ws) (w := w2) ⟨k3, fun k hk => k4 k hk⟩
  have hσ := hp_same k1 (by rw [k2.1.1, List.length_append, hl, hN]; rfl) (by rw [List.length_append, rX_get, hN])
  refine ⟨e, hσ, fun k b hb => ?_⟩
  have hk := (List.getElem?_eq_some_iff.mp hb).1
  have := k2.1.ev (k := k) (b := b) (by rw [List.getElem?_append_left hk]; exact hb)
  rw [hσ, List.getD_eq_getElem?_getD, List.getElem?_append_left (by omega), ← List.getD_eq_getElem?_getD] at this
  exact this
/-- a call by hand, constants -/
theorem rd_call (H : hOk E al gR jJ) (h : hI E al jJ w) {d y pc y2 : Nat} {lv : List (Nat × av)} {st as rest : List av} {R : va_W → Prop} (hy : y < mj_lawNo) (hs : ak_callat gR (d + 1) y pc lv st ([], [], [], [], []) = some (y2, as, rest))
    (hc : ∀ AS, gL E al [] as AS → MJ E d 0 0 (mj_in0 y2 AS w) (fun v w => v = none ∧ R w)) (hk : ∀ w2, R w2 → hG E al (d + 1) y (pc + 3) lv rest [] w2 Q) : hG E al (d + 1) y pc lv st [] w Q :=
  hp_call H hy hs (env := []) (fs := []) (h := []) ⟨hEv.ok trivial, aFs.nil, aHh.nil, h⟩ hc hk
def cB (E : mj_E) (al : List Nat) (ws0 w : va_W) : Prop := hI E al jJ w ∧ hD [99, 120, 121] ws0 w ∧ jF w 19 = jF ws0 19 ∧ jF ws0 28 ≤ jF w 28 ∧ jF w 28 + jF w 29 ≤ jF w 21 ∧ jF ws0 21 ≤ jF w 21 ∧ ∀ i : Nat, (i : Int) < jF ws0 28 → jR w 120 i = jR ws0 120 i
def cG (ws0 w : va_W) (o : Int) (a : Nat) : Prop := wOK (jR w 121) (jF w 29).toNat ∧ (no (jR w 121) (jF w 29).toNat : Int) = o ∧ dep (jR w 120) (jF ws0 28).toNat ((jF w 28).toNat - (jF ws0 28).toNat) = some (nb (jR w 121) (jF w 29).toNat + (1 - a))
def sP (E : mj_E) (al : List Nat) (least : Int) (w w2 : va_W) : Prop := hI E al jJ w2 ∧ hD [99, 120] w w2 ∧ rT w w2 ∧ jR w2 120 = (seF least w).1 ∧ jF w2 28 = ((seF least w).2.1 : Int) ∧ jF w2 29 = ((seF least w).2.2 : Int)
def hP (E : mj_E) (al : List Nat) (x : Int32) (w w2 : va_W) : Prop := hI E al jJ w2 ∧ hD [99, 121] w w2 ∧ (∃ t, t < 4 ∧ rK t w2) ∧ jF w2 19 = jF w 19 ∧ jF w2 28 = jF w 28 ∧ jF w2 29 = jF w 29 + 1 ∧ jF w 22 ≤ jF w2 21 ∧ jR w2 121 = upd (jR w 121) (jF w 29).toNat x
theorem cB.settle (h0 : hI E al jJ ws0) (h : cB E al ws0 w) {least : Int} (hs : sP E al least w w2) : cB E al ws0 w2 ∧ ∀ o, cG ws0 w o 0 → cG ws0 w2 o 0 := by
  obtain ⟨h1, h2, h3, h4, h5, h6, h7⟩ := h
  obtain ⟨s1, s2, s3, s4, s5, s6⟩ := hs
  have b0 := h0.bds
  have b := h1.bds
  have b2 := s1.bds
  have sm := stl_sum (least := least) (W := jR w 121) (w := (jF w 29).toNat) (F := jR w 120) (f := (jF w 28).toNat)
  have e121 : jR w2 121 = jR w 121 := s2.row (by decide)
  have s3' := s3
  unfold rT at s3'
  unfold seF at s4 s5 s6
  refine ⟨⟨s1, h2.trans (s2.more (by simp)), by omega, by omega, by omega, by omega, fun i hi => ?_⟩, fun o hg => ?_⟩
  · rw [s4, stl_below (by omega)]
    exact h7 i hi
  · obtain ⟨g1, g2, g3⟩ := hg
    unfold cG
    rw [e121, s4, s5, s6, Int.toNat_natCast, Int.toNat_natCast]
    refine ⟨fun i hi => g1 i (by omega), ?_, ?_⟩
    · rw [stl_no]; exact g2
    · exact stl_dep g1 (by omega) g3
theorem cB.top (h : cB E al ws0 w) (hs : sP E al 5 w w2) {o : Int} (hg : cG ws0 w o 0) (ho : 1 ≤ o) : 1 ≤ jF w2 29 ∧ (jR w2 121 ((jF w2 29).toNat - 1)).toInt = 6 := by
  obtain ⟨s1, s2, s3, s4, s5, s6⟩ := hs
  have e121 : jR w2 121 = jR w 121 := s2.row (by decide)
  obtain ⟨g1, g2, g3⟩ := hg
  have hn := stl_no (least := 5) (W := jR w 121) (w := (jF w 29).toNat) (F := jR w 120) (f := (jF w 28).toNat)
  unfold seF at s6
  rcases stl_top (F := jR w 120) (f := (jF w 28).toNat) g1 with h0 | ⟨k, h1, h2⟩
  · rw [h0] at hn
    have : no (jR w 121) 0 = 0 := rfl
    omega
  · rw [h1] at s6
    rw [e121, s6, Int.toNat_natCast]
    exact ⟨by omega, h2⟩
theorem cB.hold (h0 : hI E al jJ ws0) (h : cB E al ws0 w) (ht : jF w 21 + 1 ≤ jF w 22) {x : Int32} (hs : hP E al x w w2) : cB E al ws0 w2 ∧ jF w 21 + 1 ≤ jF w2 21 ∧
    (∀ o, x.toInt = 3 → cG ws0 w o 1 → cG ws0 w2 o 1) ∧ (∀ o, x.toInt = 6 → cG ws0 w o 1 → cG ws0 w2 (o + 1) 1) ∧ ∀ o, (x.toInt = 4 ∨ x.toInt = 5) → cG ws0 w o 0 → cG ws0 w2 o 1 := by
  obtain ⟨h1, h2, h3, h4, h5, h6, h7⟩ := h
  obtain ⟨s1, s2, s3, s4, s5, s6, s7, s8⟩ := hs
  have b0 := h0.bds
  have b := h1.bds
  have b2 := s1.bds
  have e120 : jR w2 120 = jR w 120 := s2.row (by decide)
  have e29 : (jF w2 29).toNat = (jF w 29).toNat + 1 := by omega
  refine ⟨⟨s1, h2.trans (s2.more (by simp)), by omega, by omega, by omega, by omega, fun i hi => by rw [e120]; exact h7 i hi⟩, by omega, fun o hx hg => ?_, fun o hx hg => ?_, fun o hx hg => ?_⟩
  · obtain ⟨g1, g2, g3⟩ := hg
    unfold cG
    rw [e120, s8, s5, e29, nb_upd, no_upd, if_neg (by omega), if_neg (by omega)]
    exact ⟨wOK_upd g1 (by omega) (by omega), g2, g3⟩
  · obtain ⟨g1, g2, g3⟩ := hg
    unfold cG
    rw [e120, s8, s5, e29, nb_upd, no_upd, if_pos hx, if_neg (by omega)]
    exact ⟨wOK_upd g1 (by omega) (by omega), by omega, g3⟩
  · obtain ⟨g1, g2, g3⟩ := hg
    unfold cG
    rw [e120, s8, s5, e29, nb_upd, no_upd, if_neg (by omega), if_pos hx]
    exact ⟨wOK_upd g1 (by omega) (by omega), g2, g3⟩
theorem cB.ask (h0 : hI E al jJ ws0) (h : cB E al ws0 w) (hs : wa_post E al w none w2) : cB E al ws0 w2 ∧ ∃ t, t < 5 ∧ rK t w2 ∧ (t < 4 → jF w 21 + 1 ≤ jF w2 21 ∧ ∀ o, cG ws0 w o 1 → cG ws0 w2 o 0) := by
  obtain ⟨h1, h2, h3, h4, h5, h6, h7⟩ := h
  obtain ⟨-, s1, s2, s3, s4, s5⟩ := hs
  have b0 := h0.bds
  have b := h1.bds
  have b2 := s1.bds
  have e121 : jR w2 121 = jR w 121 := s2.row (by decide)
  rcases s5 with ⟨t, ht, m1, m2, m3, x, m4, m5⟩ | ⟨m1, m2, m3, m4⟩
  · refine ⟨⟨s1, h2.trans (s2.more (by simp)), by omega, by omega, by omega, by omega, fun i hi => by rw [m5, upd_lo (by omega)]; exact h7 i hi⟩, t, by omega, m1, fun _ => ⟨m3, fun o hg => ?_⟩⟩
    obtain ⟨g1, g2, g3⟩ := hg
    unfold cG
    rw [e121, s4, m5, m2]
    refine ⟨g1, g2, ?_⟩
    have e1 : (jF w 28).toNat = (jF ws0 28).toNat + ((jF w 28).toNat - (jF ws0 28).toNat) := by omega
    have e2 : (jF w 28 + 1).toNat - (jF ws0 28).toNat = (jF w 28).toNat - (jF ws0 28).toNat + 1 := by omega
    rw [e2]
    have := dep_upd (x := x) g3 (dps_ask m4)
    rw [← e1] at this
    exact this
  · exact ⟨⟨s1, h2.trans (s2.more (by simp)), by omega, by omega, by omega, by omega, fun i hi => by rw [m4]; exact h7 i hi⟩, 4, by omega, m1, fun h => by omega⟩
end COND
