/-! THE TWO SIDES: keep, again, and the call whose answers are compared -/
section LAW
variable {E : mj_E} {Q : Option Value → va_W → Prop}
def ckM : List Nat := [0, 38, 39, 40, 41, 42, 43, 44, 45, 46, 47, 48, 49, 50, 51, 52, 53, 54, 55, 56, 57, 58, 59, 60, 61, 62, 63, 64, 65, 66, 67, 68, 69, 70, 71, 72, 73, 74]
def caM : List Nat := [1, 2, 3, 4, 5, 6, 7, 8, 9, 10, 11, 12, 13, 14, 15, 16, 17, 18, 19, 20, 21, 22, 23, 24, 25, 26, 27, 28, 29, 30, 31, 32, 33, 34, 35, 36, 37]
/-- the slots that the versions lie in: the component's, the reference's -/
def jDc : List (Nat × Nat) := [(1, 0), (22, 3)] ++ ((List.range 16).map (fun k => (23, k)) ++ (List.range 144).map (fun k => (25, 4 * (k / 2) + k % 2)))
def jDr : List (Nat × Nat) := [(100, 0), (100, 6)] ++ ((List.range 16).map (fun k => (110, k)) ++ (List.range 144).map (fun k => (111, 4 * (k / 2) + k % 2)))
/-- where the reference's rows are kept -/
def jOf (c : Nat) : Nat := match mvs.find? (fun r => r.1 == c) with
  | some r => r.2.2
  | none => 0
/-- what is there now; what is kept (the component's kept cells are 37 on) -/
def jLV (ws : va_W) (c k : Nat) : Int := jS ws c k
def jKV (ws : va_W) (c k : Nat) : Int := if c < 99 then jS ws (c + 37) k else jS ws 140 (jOf c + k)
/-- the same week, as many versions, each as long, since the same week, its lines of the same sorts and numbers -/
def jRel (V : Nat → Nat → Int) : Prop := (V 1 0 = V 100 0 ∧ 0 ≤ V 1 0 ∧ V 1 0 ≤ 1999) ∧ (V 22 3 = V 100 6 ∧ 0 ≤ V 22 3 ∧ V 22 3 ≤ 8) ∧ ∀ v : Nat, (v : Int) < V 22 3 → (V 23 (2 * v + 1) = V 110 (2 * v) ∧ 0 ≤ V 110 (2 * v) ∧ V 110 (2 * v) ≤ 9 ∧ V 23 (2 * v) = V 110 (2 * v + 1)) ∧ ∀ i : Nat, (i : Int) < V 110 (2 * v) → V 25 (36 * v + 4 * i) = V 111 (36 * v + 4 * i) ∧ V 25 (36 * v + 4 * i + 1) = V 111 (36 * v + 4 * i + 1)
section
set_option maxRecDepth 100000
theorem jD_0 : ((1, 0) ∈ jDc ∧ (22, 3) ∈ jDc) ∧ (100, 0) ∈ jDr ∧ (100, 6) ∈ jDr := by decide +kernel
theorem jD_1 : ∀ k, k < 16 → (23, k) ∈ jDc ∧ (110, k) ∈ jDr := by decide +kernel
theorem jD_2 : ∀ k, k < 144 → (25, 4 * (k / 2) + k % 2) ∈ jDc ∧ (111, 4 * (k / 2) + k % 2) ∈ jDr := by decide +kernel
theorem jD_c : ∀ q ∈ jDc, q.1 < 99 ∧ q.1 ∈ ([1, 22, 23, 25] : List Nat) ∧ q.1 + 37 ∈ ([38, 59, 60, 62] : List Nat) := by decide +kernel
theorem jD_r : ∀ q ∈ jDr, 99 < q.1 ∧ q.1 ∈ ([100, 110, 111] : List Nat) := by decide +kernel
end
section
set_option maxRecDepth 100000
theorem jYl_D0 : (∀ q ∈ jDc, q ∈ jYl ∨ q.1 ∈ jYc) ∧ ∀ q ∈ jDr, q ∈ jYl ∨ q.1 ∈ jYc := by decide +kernel
theorem jYl_K : ∀ q, q ∈ jDc → (q.1 + 37, q.2) ∈ jYl ∨ q.1 + 37 ∈ jYc := by decide +kernel
end
theorem jYl_D (q : Nat × Nat) (h : q ∈ jDc ∨ q ∈ jDr) : q ∈ jYl ∨ q.1 ∈ jYc := h.elim (jYl_D0.1 q) (jYl_D0.2 q)
theorem jRel_congr {V W : Nat → Nat → Int} (hc : ∀ q ∈ jDc, V q.1 q.2 = W q.1 q.2) (hr : ∀ q ∈ jDr, V q.1 q.2 = W q.1 q.2) (h : jRel V) : jRel W := by
  obtain ⟨⟨a1, a2, a3⟩, ⟨b1, b2, b3⟩, c⟩ := h
  have e1 : V 1 0 = W 1 0 := hc (1, 0) jD_0.1.1
  have e2 : V 100 0 = W 100 0 := hr (100, 0) jD_0.2.1
  have e3 : V 22 3 = W 22 3 := hc (22, 3) jD_0.1.2
  have e4 : V 100 6 = W 100 6 := hr (100, 6) jD_0.2.2
  refine ⟨⟨by rw [← e1, ← e2]; exact a1, by rw [← e1]; exact a2, by rw [← e1]; exact a3⟩, ⟨by rw [← e3, ← e4]; exact b1, by rw [← e3]; exact b2, by rw [← e3]; exact b3⟩, fun v hv => ?_⟩
  have hv : (v : Int) < V 22 3 := by rw [e3]; exact hv
  have v8 : v < 8 := by omega
  obtain ⟨⟨c1, c2, c3, c4⟩, c5⟩ := c v hv
  have f1 : V 23 (2 * v + 1) = W 23 (2 * v + 1) := hc (23, 2 * v + 1) (jD_1 _ (by omega)).1
  have f2 : V 110 (2 * v) = W 110 (2 * v) := hr (110, 2 * v) (jD_1 _ (by omega)).2
  have f3 : V 23 (2 * v) = W 23 (2 * v) := hc (23, 2 * v) (jD_1 _ (by omega)).1
  have f4 : V 110 (2 * v + 1) = W 110 (2 * v + 1) := hr (110, 2 * v + 1) (jD_1 _ (by omega)).2
  refine ⟨⟨by rw [← f1, ← f2]; exact c1, by rw [← f2]; exact c2, by rw [← f2]; exact c3, by rw [← f3, ← f4]; exact c4⟩, fun i hi => ?_⟩
  have hi : (i : Int) < V 110 (2 * v) := by rw [f2]; exact hi
  have m0 := jD_2 (18 * v + 2 * i) (by omega)
  have m1 := jD_2 (18 * v + 2 * i + 1) (by omega)
  rw [show 4 * ((18 * v + 2 * i) / 2) + (18 * v + 2 * i) % 2 = 36 * v + 4 * i by omega] at m0
  rw [show 4 * ((18 * v + 2 * i + 1) / 2) + (18 * v + 2 * i + 1) % 2 = 36 * v + 4 * i + 1 by omega] at m1
  have g1 : V 25 (36 * v + 4 * i) = W 25 (36 * v + 4 * i) := hc (25, 36 * v + 4 * i) m0.1
  have g2 : V 25 (36 * v + 4 * i + 1) = W 25 (36 * v + 4 * i + 1) := hc (25, 36 * v + 4 * i + 1) m1.1
  have g3 : V 111 (36 * v + 4 * i) = W 111 (36 * v + 4 * i) := hr (111, 36 * v + 4 * i) m0.2
  have g4 : V 111 (36 * v + 4 * i + 1) = W 111 (36 * v + 4 * i + 1) := hr (111, 36 * v + 4 * i + 1) m1.2
  exact ⟨by rw [← g1, ← g3]; exact (c5 i hi).1, by rw [← g2, ← g4]; exact (c5 i hi).2⟩
def jXF (ws : va_W) : Prop := jS ws 0 2 = jS ws 99 59 ∧ jRel (jLV ws) ∧ (jS ws 0 2 = 1 → jRel (jKV ws))
def jJF (ws : va_W) : Prop := jJ0 ws ∧ jXF ws
/-- the tapes as they were -/
def jTe (w w2 : va_W) : Prop := jS w2 75 1 = jS w 75 1 ∧ jS w2 99 19 = jS w 99 19 ∧ (∀ k, jS w2 76 k = jS w 76 k) ∧ ∀ k, jS w2 118 k = jS w 118 k
/-- both tapes the same -/
def jTp (w : va_W) : Prop := jS w 75 1 = jS w 99 19 ∧ ∀ k : Nat, (k : Int) < jS w 75 1 → jS w 76 k = jS w 118 k
def jZ (w : va_W) : Prop := jJF w ∧ jTp w
theorem jTp.te {w w2 : va_W} (h : jTp w) (e : jTe w w2) : jTp w2 := by
  obtain ⟨e1, e2, e3, e4⟩ := e
  refine ⟨by rw [e1, e2]; exact h.1, fun k hk => ?_⟩
  rw [e3, e4]
  exact h.2 k (by rw [← e1]; exact hk)
theorem jJF_J {w : va_W} (h : jJF w) : jJ w := ⟨h.1, h.2.1, fun q hq => (by have hq : q ∈ ([] : List jQ) := hq; cases hq), fun _ q hq => (by have hq : q ∈ ([] : List jQ) := hq; cases hq)⟩
theorem jYv_0 {w : va_W} (h : jJF w) : jYv w w := ⟨jJF_J h, fun _ _ => rfl, fun _ _ _ => rfl⟩
/-- what is kept, and whether, as it was -/
theorem jXF_of {w w2 : va_W} (h : jXF w) (e0 : jS w2 0 2 = jS w 0 2) (e9 : jS w2 99 59 = jS w 99 59) (hk : ∀ c, c ∈ ([38, 59, 60, 62, 140] : List Nat) → ∀ k, jS w2 c k = jS w c k) (hn : jRel (jLV w2)) : jXF w2 := by
  obtain ⟨h1, h2, h3⟩ := h
  refine ⟨by rw [e0, e9]; exact h1, hn, fun k1 => jRel_congr (fun q hq => ?_) (fun q hq => ?_) (h3 (by rw [← e0]; exact k1))⟩
  · obtain ⟨m1, -, m3⟩ := jD_c q hq
    unfold jKV
    rw [if_pos m1, if_pos m1]
    refine (hk _ ?_ _).symm
    simp only [List.mem_cons, List.not_mem_nil, or_false] at m3 ⊢
    omega
  · obtain ⟨m1, -⟩ := jD_r q hq
    unfold jKV
    rw [if_neg (by omega), if_neg (by omega)]
    exact (hk _ (by decide) _).symm
/-- the versions where they were -/
theorem jRel_same {w w2 : va_W} (h : jRel (jLV w)) (hc : ∀ c, c ∈ ([1, 22, 23, 25, 100, 110, 111] : List Nat) → ∀ k, jS w2 c k = jS w c k) : jRel (jLV w2) := by
  refine jRel_congr (fun q hq => ?_) (fun q hq => ?_) h
  · obtain ⟨-, m, -⟩ := jD_c q hq
    refine (hc _ ?_ _).symm
    simp only [List.mem_cons, List.not_mem_nil, or_false] at m ⊢
    omega
  · obtain ⟨-, m⟩ := jD_r q hq
    refine (hc _ ?_ _).symm
    simp only [List.mem_cons, List.not_mem_nil, or_false] at m ⊢
    omega
/-- what stands between the calls comes through what leaves the slots alone -/
theorem jZ_Y {w w2 : va_W} (h : jZ w) (y : jYv w w2) : jZ w2 := by
  obtain ⟨y0, y1, y2⟩ := y
  have s : ∀ c i, (c, i) ∈ jYl → jS w2 c i = jS w c i := fun c i hm => y1 (c, i) hm
  obtain ⟨⟨h0, h1⟩, h4⟩ := h
  refine ⟨⟨y0.1, ?_⟩, h4.te ⟨s 75 1 (by decide), s 99 19 (by decide), y2 76 (by decide), y2 118 (by decide)⟩⟩
  obtain ⟨g1, g2, g3⟩ := h1
  have live : ∀ q, (q ∈ jDc ∨ q ∈ jDr) → jS w2 q.1 q.2 = jS w q.1 q.2 := fun q hq => by
    rcases jYl_D q hq with m | m
    · exact y1 q m
    · exact y2 _ m _
  have kept : ∀ q, q ∈ jDc → jS w2 (q.1 + 37) q.2 = jS w (q.1 + 37) q.2 := fun q hq => by
    rcases jYl_K q hq with m | m
    · exact y1 (q.1 + 37, q.2) m
    · exact y2 _ m _
  refine ⟨by rw [s 0 2 (by decide), s 99 59 (by decide)]; exact g1, jRel_congr (fun q hq => (live q (Or.inl hq)).symm) (fun q hq => (live q (Or.inr hq)).symm) g2, fun hk => jRel_congr (fun q hq => ?_) (fun q hq => ?_) (g3 (by rw [← s 0 2 (by decide)]; exact hk))⟩
  · obtain ⟨m1, -, -⟩ := jD_c q hq
    unfold jKV
    rw [if_pos m1, if_pos m1]
    exact (kept q hq).symm
  · obtain ⟨m1, -⟩ := jD_r q hq
    unfold jKV
    rw [if_neg (by omega), if_neg (by omega)]
    exact (y2 140 (by decide) _).symm
/-- the first world -/
theorem jZ_00 {w : va_W} (h : jJ w) (t : jO w 0 2 99 59 0 0 ∧ jO w 75 1 99 19 0 0 ∧ jO w 22 3 100 6 0 0 ∧ jO w 1 0 100 0 0 0) : jZ w := by
  obtain ⟨⟨t0, t1, t2⟩, ⟨t3, t4, t5⟩, ⟨t6, t7, t8⟩, t9, ta, tb⟩ := t
  refine ⟨⟨h.1, t0, ⟨⟨t9, ta, by show jS w 1 0 ≤ 1999; omega⟩, ⟨t6, t7, by show jS w 22 3 ≤ 8; omega⟩, fun v hv => ?_⟩, fun hk => by omega⟩, t3, fun k hk => by omega⟩
  have hv : (v : Int) < jS w 22 3 := hv
  omega
/-- weeks go by -/
theorem rl_weeks {w w2 : va_W} (h : jRel (jLV w)) (hc : ∀ c, c ∈ ([22, 23, 25, 110, 111] : List Nat) → ∀ k, jS w2 c k = jS w c k) (h6 : jS w2 100 6 = jS w 100 6) (e : jS w2 1 0 = jS w2 100 0) (b : 0 ≤ jS w2 1 0 ∧ jS w2 1 0 ≤ 1999) : jRel (jLV w2) := by
  obtain ⟨-, ⟨b1, b2, b3⟩, c⟩ := h
  have s22 : jS w2 22 3 = jS w 22 3 := hc 22 (by decide) 3
  have b1 : jS w 22 3 = jS w 100 6 := b1
  have b2 : 0 ≤ jS w 22 3 := b2
  have b3 : jS w 22 3 ≤ 8 := b3
  refine ⟨⟨e, b.1, b.2⟩, ⟨?_, ?_, ?_⟩, fun v hv => ?_⟩
  · show jS w2 22 3 = jS w2 100 6
    rw [s22, h6]
    exact b1
  · show 0 ≤ jS w2 22 3
    omega
  · show jS w2 22 3 ≤ 8
    omega
  · have hv : (v : Int) < jS w2 22 3 := hv
    have k := c v (show (v : Int) < jS w 22 3 by omega)
    show (jS w2 23 (2 * v + 1) = jS w2 110 (2 * v) ∧ 0 ≤ jS w2 110 (2 * v) ∧ jS w2 110 (2 * v) ≤ 9 ∧ jS w2 23 (2 * v) = jS w2 110 (2 * v + 1)) ∧ ∀ i : Nat, (i : Int) < jS w2 110 (2 * v) → jS w2 25 (36 * v + 4 * i) = jS w2 111 (36 * v + 4 * i) ∧ jS w2 25 (36 * v + 4 * i + 1) = jS w2 111 (36 * v + 4 * i + 1)
    simp only [hc 23 (by decide), hc 25 (by decide), hc 110 (by decide), hc 111 (by decide)]
    exact k
/-- slots with expressions -/
def jHe (cs : List (Nat × Nat)) (es : List ae) : aH := (cs.zip es).map (fun p => ((p.1.1, ae_k (p.1.2 : Int)), p.2))
def jCc (up : Nat) : List (Nat × Nat) := jDc.map (fun q => (q.1 + up, q.2))
def jSs (n : Nat) : List ae := (List.range jDc.length).map (fun k => ae_s (n + k))
def jVs (w : va_W) (cs : List (Nat × Nat)) : List Int := cs.map (fun c => jS w c.1 c.2)
def jFs : List (Int × Int) := jDc.map (fun _ => aF)
def ai_ck : aInst := ((177, jFs, [], [.inr (0, 0)], jHe (jCc 0) (jSs 0), ckM, 3, [([], [], some (.inl (ae_k 1)), ((0, ae_k 2), ae_k 1) :: jHe (jCc 37) (jSs 0))]), [])
def ai_ca0 : aInst := ((180, [], [], [.inr (0, 0)], [((0, ae_k 2), ae_k 0)], [], 3, [([], [], some (.inl (ae_k (-3))), [])]), [])
def ai_ca1 : aInst := ((180, jFs, [], [.inr (0, 0)], ((0, ae_k 2), ae_k 1) :: jHe (jCc 37) (jSs 0), caM, 3, [([], [], some (.inl (ae_k 1)), jHe (jCc 0) (jSs 0))]), [])
/-- the bounds of a slot -/
def jLay (c i : Nat) : Option (Int × Int) := match aLay[c]? with
  | some (.inl (_, fs)) => (match fs[i]? with
    | some (.inr b) => some b
    | _ => none)
  | some (.inr (0, N, cols)) => if i < N then cols[i % cols.length]? else none
  | _ => none
def jLy (q : Nat × Nat) : Bool := decide (q.1 < 99) && (jLay (q.1 + 0) q.2).isSome && (jLay (q.1 + 37) q.2).isSome
def jLr (q : Nat × Nat) : Bool := (jLay q.1 q.2).isSome && mvs.any (fun r => decide (r.1 = q.1 ∧ q.2 < r.2.1 ∧ jOf q.1 + q.2 = r.2.2 + q.2))
def jMd (q : Nat × Nat) : Prop := q.1 ∉ ckM ∧ q.1 ∉ ([99, 140] : List Nat) ∧ q.1 ∉ mvc ∧ q.1 + 37 ∉ caM ∧ q.1 + 37 ∉ ([99, 140] : List Nat) ∧ q.1 + 37 ∉ mvc
def jMr (q : Nat × Nat) : Prop := 99 < q.1 ∧ q.1 ∉ ckM ∧ q.1 ∉ caM ∧ q.1 ∉ ([99, 140] : List Nat)
section
set_option maxRecDepth 100000
theorem ck_chk : ak_inst (aG00 []) 100000 ai_ck = true := by decide +kernel
theorem ca0_chk : ak_inst (aG00 []) 100000 ai_ca0 = true := by decide +kernel
theorem ca1_chk : ak_inst (aG00 []) 100000 ai_ca1 = true := by decide +kernel
theorem jLy_all : jDc.all jLy = true := by decide +kernel
theorem jLr_all : jDr.all jLr = true := by decide +kernel
theorem jMd_all : ∀ q ∈ jDc, jMd q := by unfold jMd; decide +kernel
theorem jMr_all : ∀ q ∈ jDr, jMr q := by unfold jMr; decide +kernel
theorem lp_k1 : laP 2191 [] 2192 laLv [.inr (0, 0)] = true := by decide +kernel
theorem lp_k2 : laP 2195 [.inl (ae_k 1)] 2197 laLv [.inr (0, 99)] = true := by decide +kernel
theorem lp_k3 : laP 2200 [.inl (ae_k 1)] 2217 laLv [] = true := by decide +kernel
theorem lp_a1 : laP 2204 [] 2205 laLv [.inr (0, 0)] = true := by decide +kernel
theorem lp_a2a : laP 2208 [.inl (ae_k (-3))] 2210 laLv [.inr (0, 99)] = true := by decide +kernel
theorem lp_a3a : laP 2213 [.inl (ae_k (-3))] 2217 laLv [] = true := by decide +kernel
theorem lp_a2b : laP 2208 [.inl (ae_k 1)] 2210 laLv [.inr (0, 99)] = true := by decide +kernel
theorem lp_a3b : laP 2213 [.inl (ae_k 1)] 2217 laLv [] = true := by decide +kernel
end
section SIDES
variable {al : List Nat} {ws w w2 : va_W} {L : Nat} {i : Int} {ρ : List Int}
theorem aLay_00 : ∃ fs, aLay[(0 : Nat)]? = some (.inl (5, fs)) ∧ fs[(2 : Nat)]? = some (.inr (0, 1)) := ⟨_, rfl, rfl⟩
theorem wd_02 (h : aWd E al aLay w) : aSl w 0 2 (jS w 0 2) ∧ 0 ≤ jS w 0 2 ∧ jS w 0 2 ≤ 1 := by
  obtain ⟨fs, l1, l2⟩ := aLay_00
  exact wd_sl h l1 l2
theorem kn1 {c i : Nat} {x : Int} {e : ae} (hc : c < 1000000) (hr : e.1.all (fun q => decide (q.1 < ρ.length)) = true) (he : ae_ev ρ e = x) (h : aSl ws c i x) : aH1 ρ ws ((c, ae_k (i : Int)), e) :=
  aH1.mk hc rfl hr (by rw [ae_ev_k]; omega) (by rw [ae_ev_k, he, Int.toNat_natCast]; exact h)
theorem ev_s {k : Nat} {x : Int} (h : ρ[k]? = some x) : ae_ev ρ (ae_s k) = x := ((aV.s h).ev).symm
theorem aSl.i32 {c i : Nat} {x : Int} (h : aSl w c i x) : aI0 ≤ x ∧ x ≤ aI1 := by
  rcases h with ⟨a, ci, vs, n, -, -, rfl⟩ | ⟨a, cl, N, f, -, -, rfl⟩
  · exact ⟨i32_lo _, i32_hi _⟩
  · exact ⟨i32_lo _, i32_hi _⟩
theorem jLay_ok (h : aWd E al aLay w) {c i : Nat} {b : Int × Int} (hb : jLay c i = some b) : aSl w c i (jS w c i) ∧ b.1 ≤ jS w c i ∧ jS w c i ≤ b.2 := by
  unfold jLay at hb
  split at hb
  · rename_i ci fs hl
    split at hb
    · rename_i b0 hf
      cases hb
      exact wd_sl h hl hf
    · cases hb
  · rename_i N cols hl
    split at hb
    · rename_i hi
      exact wd_rw h hl hi hb
    · cases hb
  · cases hb
theorem jLay_sl (h : aWd E al aLay w) {c i : Nat} (hb : (jLay c i).isSome = true) : aSl w c i (jS w c i) := by
  obtain ⟨b, hb⟩ := Option.isSome_iff_exists.mp hb
  exact (jLay_ok h hb).1
/-- what the tables of slots say -/
theorem jLy_ok {q : Nat × Nat} (hq : q ∈ jDc) : q.1 < 99 ∧ (jLay (q.1 + 0) q.2).isSome = true ∧ (jLay (q.1 + 37) q.2).isSome = true := by
  have m := List.all_eq_true.mp jLy_all q hq
  unfold jLy at m
  simp only [Bool.and_eq_true, decide_eq_true_eq] at m
  exact ⟨m.1.1, m.1.2, m.2⟩
theorem jLr_ok {q : Nat × Nat} (hq : q ∈ jDr) : (jLay q.1 q.2).isSome = true ∧ ∃ r ∈ mvs, r.1 = q.1 ∧ q.2 < r.2.1 ∧ jOf q.1 + q.2 = r.2.2 + q.2 := by
  have m := List.all_eq_true.mp jLr_all q hq
  unfold jLr at m
  simp only [Bool.and_eq_true, decide_eq_true_eq, List.any_eq_true] at m
  exact m
theorem jHe_ok {cs : List (Nat × Nat)} {es : List ae} (h : ∀ (k : Nat) (c : Nat × Nat) (e : ae), cs[k]? = some c → es[k]? = some e → c.1 < 1000000 ∧ e.1.all (fun q => decide (q.1 < ρ.length)) = true ∧ aSl ws c.1 c.2 (ae_ev ρ e)) : aHh ρ ws (jHe cs es) := by
  intro q hq
  obtain ⟨p, hp, rfl⟩ := List.mem_map.mp hq
  obtain ⟨k, hk⟩ := List.getElem?_of_mem hp
  obtain ⟨h1, h2⟩ := List.getElem?_zip_eq_some.mp hk
  obtain ⟨g1, g2, g3⟩ := h k _ _ h1 h2
  exact kn1 g1 g2 rfl g3
theorem jHe_mem {cs : List (Nat × Nat)} {es : List ae} {k : Nat} {c : Nat × Nat} {e : ae} (h1 : cs[k]? = some c) (h2 : es[k]? = some e) : ((c.1, ae_k (c.2 : Int)), e) ∈ jHe cs es :=
  List.mem_map.mpr ⟨(c, e), List.mem_of_getElem? (List.getElem?_zip_eq_some.mpr ⟨h1, h2⟩), rfl⟩
theorem jHe_get {h : aH} (hh : aHh ρ w h) {c i : Nat} {e : ae} (hm : ((c, ae_k (i : Int)), e) ∈ h) (hc : c < 1000000) : jS w c i = ae_ev ρ e := by
  have := (hh.sl hm hc).2
  rw [ae_ev_k, Int.toNat_natCast] at this
  exact jS.sl this
theorem jSs_get {n k : Nat} {q : Nat × Nat} (hk : jDc[k]? = some q) : (jSs n)[k]? = some (ae_s (n + k)) := by
  unfold jSs
  rw [List.getElem?_map, List.getElem?_range (List.getElem?_eq_some_iff.mp hk).1]
  rfl
theorem jSs_of {n k : Nat} {e : ae} (h : (jSs n)[k]? = some e) : k < jDc.length ∧ e = ae_s (n + k) := by
  have hl : k < jDc.length := by
    have := (List.getElem?_eq_some_iff.mp h).1
    simpa [jSs] using this
  rw [jSs_get (List.getElem?_eq_getElem hl)] at h
  cases h
  exact ⟨hl, rfl⟩
theorem jCc_get {up k : Nat} {q : Nat × Nat} (hk : jDc[k]? = some q) : (jCc up)[k]? = some (q.1 + up, q.2) := by
  unfold jCc
  rw [List.getElem?_map, hk]
  rfl
theorem jCc_of {up k : Nat} {c : Nat × Nat} (h : (jCc up)[k]? = some c) : ∃ q, jDc[k]? = some q ∧ c = (q.1 + up, q.2) := by
  unfold jCc at h
  rw [List.getElem?_map, Option.map_eq_some_iff] at h
  obtain ⟨q, h1, h2⟩ := h
  exact ⟨q, h1, h2.symm⟩
theorem jVs_get {up k : Nat} {q : Nat × Nat} (hk : jDc[k]? = some q) : (jVs w (jCc up))[k]? = some (jS w (q.1 + up) q.2) := by
  unfold jVs
  rw [List.getElem?_map, jCc_get hk]
  rfl
theorem jVs_len {up : Nat} : (jVs w (jCc up)).length = jDc.length := by simp [jVs, jCc]
theorem jVs_env (hw : aWd E al aLay w) {up : Nat} (hs : ∀ q ∈ jDc, (jLay (q.1 + up) q.2).isSome = true) : aEv (jVs w (jCc up)) jFs := by
  refine ⟨by rw [jVs_len]; simp [jFs], fun k x b hk hb => ?_⟩
  have hl : k < jDc.length := by
    have := (List.getElem?_eq_some_iff.mp hk).1
    rw [jVs_len] at this
    exact this
  have hq := List.getElem?_eq_getElem hl
  rw [jVs_get hq] at hk
  cases hk
  unfold jFs at hb
  rw [List.getElem?_map, hq] at hb
  cases hb
  exact (jLay_sl hw (hs _ (List.mem_of_getElem? hq))).i32
theorem jVs_kn (hw : aWd E al aLay w) {up : Nat} (hu : up < 900) (hs : ∀ q ∈ jDc, (jLay (q.1 + up) q.2).isSome = true) : aHh (jVs w (jCc up)) w (jHe (jCc up) (jSs 0)) := by
  refine jHe_ok (fun k c e h1 h2 => ?_)
  obtain ⟨q, hq, rfl⟩ := jCc_of h1
  obtain ⟨hl, rfl⟩ := jSs_of h2
  have hm := List.mem_of_getElem? hq
  have hlt := (jLy_ok hm).1
  refine ⟨by show q.1 + up < 1000000; omega, ?_, ?_⟩
  · rw [jVs_len]
    simpa [ae_s] using hl
  · rw [ev_s (x := jS w (q.1 + up) q.2) (by rw [Nat.zero_add]; exact jVs_get hq)]
    exact jLay_sl hw (hs _ hm)
set_option maxRecDepth 100000 in
/-- the component keeps -/
theorem ck_mj (hf : E.2.2.2.1.category = 1) (hT : ∀ σ : List Int, aTb E σ aTabs) (a5 : aWd E al aLay ws) (a6 : aRs aRules ws) (a7 : jJ0 ws) {AS : List Value} (ha : gL E al ρ [.inr (0, 0)] AS) :
    MJ E 85 0 0 (mj_in0 177 AS ws) (fun v w => ∃ z : Int32, v = some (.int z) ∧ z.toInt = 1 ∧ aWd E al aLay w ∧ aRs aRules w ∧ jJ0 w ∧ hD ckM ws w ∧ jS w 0 2 = 1 ∧ ∀ q ∈ jDc, jS w (q.1 + 37) q.2 = jS ws q.1 q.2) := by
  have hs : ∀ q ∈ jDc, (jLay (q.1 + 0) q.2).isSome = true := fun q hq => (jLy_ok hq).2.1
  refine (ai00L hf hT (cs := []) (fun c hc => by cases hc) (q := ai_ck) (by decide) ck_chk (jVs ws (jCc 0)) AS ws (jVs_env a5 hs) aFs.nil ha (jVs_kn a5 (by decide) hs) a5 a6 a7 85 (by decide)).weaken (Nat.le_refl _) (Nat.le_refl _) (Nat.le_refl _) (fun v w h => ?_)
  obtain ⟨cs, hcs, r, h1, h2, h3, h4, h5, h6, h7, h8, h9⟩ := h
  have hcs := List.mem_singleton.mp hcs
  subst hcs
  obtain ⟨u, rfl, z, rfl, hz⟩ := h3
  have e2 := jHe_get (i := 2) h4 List.mem_cons_self (by decide)
  rw [ae_ev_k] at e2
  refine ⟨z, rfl, hz.of_k, h5, h6, h7, ⟨h8, fun k hk => h9 k hk⟩, e2, fun q hq => ?_⟩
  obtain ⟨k, hk⟩ := List.getElem?_of_mem hq
  have hlt := (jLy_ok hq).1
  have m : ((q.1 + 37, ae_k (q.2 : Int)), ae_s (0 + k)) ∈ jHe (jCc 37) (jSs 0) := jHe_mem (jCc_get hk) (jSs_get hk)
  rw [jHe_get h4 (List.mem_cons_of_mem _ m) (by omega)]
  refine ev_s ?_
  rw [Nat.zero_add, List.getElem?_append_left (by rw [jVs_len]; exact (List.getElem?_eq_some_iff.mp hk).1)]
  exact jVs_get (up := 0) hk
set_option maxRecDepth 100000 in
/-- the component takes back what it kept, or has nothing -/
theorem ca_mj (hf : E.2.2.2.1.category = 1) (hT : ∀ σ : List Int, aTb E σ aTabs) (a5 : aWd E al aLay ws) (a6 : aRs aRules ws) (a7 : jJ0 ws) {AS : List Value} (ha : gL E al ρ [.inr (0, 0)] AS) :
    MJ E 85 0 0 (mj_in0 180 AS ws) (fun v w => ∃ z : Int32, v = some (.int z) ∧ aWd E al aLay w ∧ aRs aRules w ∧ jJ0 w ∧ hD caM ws w ∧ ((jS ws 0 2 = 0 ∧ z.toInt = -3 ∧ ∀ q ∈ jDc, jS w q.1 q.2 = jS ws q.1 q.2) ∨ (jS ws 0 2 = 1 ∧ z.toInt = 1 ∧ ∀ q ∈ jDc, jS w q.1 q.2 = jS ws (q.1 + 37) q.2))) := by
  obtain ⟨s1, s2, s3⟩ := wd_02 a5
  have hb : jS ws 0 2 = 0 ∨ jS ws 0 2 = 1 := by omega
  rcases hb with hb | hb
  · rw [hb] at s1
    refine (ai00L hf hT (cs := []) (fun c hc => by cases hc) (q := ai_ca0) (by decide) ca0_chk [] AS ws (hEv.ok (σ := []) (env := []) trivial) aFs.nil ha (aHh.cons (kn1 (by decide) rfl (by rw [ae_ev_k]) s1) aHh.nil) a5 a6 a7 85 (by decide)).weaken (Nat.le_refl _) (Nat.le_refl _) (Nat.le_refl _) (fun v w h => ?_)
    obtain ⟨cs, hcs, r, h1, h2, h3, h4, h5, h6, h7, h8, h9⟩ := h
    have hcs := List.mem_singleton.mp hcs
    subst hcs
    obtain ⟨u, rfl, z, rfl, hz⟩ := h3
    have d : hD [] ws w := ⟨h8, fun k hk => h9 k hk⟩
    exact ⟨z, rfl, h5, h6, h7, d.more (by simp), Or.inl ⟨hb, hz.of_k, fun q hq => jS.at (d.2 q.1 (by simp))⟩⟩
  · rw [hb] at s1
    have hs : ∀ q ∈ jDc, (jLay (q.1 + 37) q.2).isSome = true := fun q hq => (jLy_ok hq).2.2
    refine (ai00L hf hT (cs := []) (fun c hc => by cases hc) (q := ai_ca1) (by decide) ca1_chk (jVs ws (jCc 37)) AS ws (jVs_env a5 hs) aFs.nil ha (aHh.cons (kn1 (by decide) rfl (by rw [ae_ev_k]) s1) (jVs_kn a5 (by decide) hs)) a5 a6 a7 85 (by decide)).weaken (Nat.le_refl _) (Nat.le_refl _) (Nat.le_refl _) (fun v w h => ?_)
    obtain ⟨cs, hcs, r, h1, h2, h3, h4, h5, h6, h7, h8, h9⟩ := h
    have hcs := List.mem_singleton.mp hcs
    subst hcs
    obtain ⟨u, rfl, z, rfl, hz⟩ := h3
    refine ⟨z, rfl, h5, h6, h7, ⟨h8, fun k hk => h9 k hk⟩, Or.inr ⟨hb, hz.of_k, fun q hq => ?_⟩⟩
    obtain ⟨k, hk⟩ := List.getElem?_of_mem hq
    have hlt := (jLy_ok hq).1
    have m : ((q.1 + 0, ae_k (q.2 : Int)), ae_s (0 + k)) ∈ jHe (jCc 0) (jSs 0) := jHe_mem (jCc_get hk) (jSs_get hk)
    rw [show q.1 = q.1 + 0 from rfl, jHe_get h4 m (by omega)]
    refine ev_s ?_
    rw [Nat.zero_add, List.getElem?_append_left (by rw [jVs_len]; exact (List.getElem?_eq_some_iff.mp hk).1)]
    exact jVs_get (up := 37) hk
/-- a row's slot, kept or come back -/
theorem kept_of {w1 w2 : va_W} (h1 : aWd E al aLay w1) (h2 : aWd E al aLay w2) {r : Nat × Nat × Nat} (hr : r ∈ mvs) {i : Nat} (h : jR w2 140 (r.2.2 + i) = jR w1 r.1 i) : jS w2 140 (r.2.2 + i) = jS w1 r.1 i := by
  obtain ⟨a, e, -⟩ := h2.row aw_140
  obtain ⟨b, e2, -⟩ := h1.row (mv_lay r hr)
  rw [jS.row ⟨a, _, _, _, e⟩, jS.row ⟨b, _, _, _, e2⟩, h]
set_option maxRecDepth 100000 in
/-- both keep -/
theorem la_keepH (hf : E.2.2.2.1.category = 1) (hT : ∀ σ : List Int, aTb E σ aTabs) (hL : L ≤ 3584) (H1 : hOkL E al laG1 (fun _ => True) [(L : Int), i] 2) (h : laI E al L i w) (hj : jJF w)
    (hq : ∀ w2, laI E al L i w2 → jJF w2 → jTe w w2 → hG E al 86 320 2217 laLv [] [(L : Int), i] w2 Q) : hG E al 86 320 2191 laLv [] [(L : Int), i] w Q := by
  obtain ⟨jx0, jx1, jx2⟩ := hj.2
  refine la_glue H1 hL lp_k1 h ?_
  refine law_callV (d := 85) (y2 := 177) (as := [.inr (0, 0)]) (rest := []) mj_li_law H1 (by rfl) (h.hW hL) (fun AS ha => ck_mj hf hT h.2.1 h.2.2 hj.1 ha) (fun z w1 hR => ?_)
  obtain ⟨hz, g1, g2, g3, g4, g5, g6⟩ := hR
  have h1 : laI E al L i w1 := ⟨h.1, g1, g2⟩
  rw [hz]
  refine la_glue H1 hL lp_k2 h1 ?_
  refine law_callV (d := 85) (y2 := 316) (as := [.inr (0, 99)]) (rest := []) mj_li_law H1 (by rfl) (h1.hW hL) (fun AS ha => (keep_mj hf hT g1 g2 g3 ha).weaken (by decide) (Nat.le_refl _) (Nat.le_refl _) (fun v w h => h)) (fun z w2 hR => ?_)
  obtain ⟨hz, m1, m2, m3, m4, m5, m6, m7⟩ := hR
  have h2 : laI E al L i w2 := ⟨h.1, m1, m2⟩
  rw [hz]
  refine la_glue H1 hL lp_k3 h2 (hq w2 h2 ⟨m3, ?_, jRel_congr (fun q hq => ?_) (fun q hq => ?_) jx1, fun _ => jRel_congr (fun q hq => ?_) (fun q hq => ?_) jx1⟩ ⟨by rw [jS.at (m4.2 75 (by decide)), jS.at (g4.2 75 (by decide))], by rw [m7, jS.at (g4.2 99 (by decide))], fun k => by rw [jS.at (m4.2 76 (by decide)), jS.at (g4.2 76 (by decide))], fun k => by rw [jS.at (m4.2 118 (by decide)), jS.at (g4.2 118 (by decide))]⟩)
  · rw [m6, jS.at (m4.2 0 (by decide))]
    exact g5
  · obtain ⟨d1, d2, d3, d4, d5, d6⟩ := jMd_all q hq
    unfold jLV
    rw [jS.at (m4.2 _ d2), jS.at (g4.2 _ d1)]
  · obtain ⟨d1, d2, d3, d4⟩ := jMr_all q hq
    unfold jLV
    rw [jS.at (m4.2 _ d4), jS.at (g4.2 _ d2)]
  · obtain ⟨d1, d2, d3, d4, d5, d6⟩ := jMd_all q hq
    unfold jLV jKV
    rw [if_pos (jLy_ok hq).1, jS.at (m4.2 _ d5), g6 q hq]
  · obtain ⟨d1, d2, d3, d4⟩ := jMr_all q hq
    obtain ⟨-, r, hr, r1, r2, r3⟩ := jLr_ok hq
    have e := kept_of g1 m1 hr (m5 r hr _ r2)
    rw [r1] at e
    unfold jLV jKV
    rw [if_neg (by omega), r3, e, jS.at (g4.2 _ d2)]
set_option maxRecDepth 100000 in
/-- both ask for what was kept -/
theorem la_againH (hf : E.2.2.2.1.category = 1) (hT : ∀ σ : List Int, aTb E σ aTabs) (hL : L ≤ 3584) (H1 : hOkL E al laG1 (fun _ => True) [(L : Int), i] 2) (h : laI E al L i w) (hj : jJF w)
    (hq : ∀ w2, laI E al L i w2 → jJF w2 → jTe w w2 → hG E al 86 320 2217 laLv [] [(L : Int), i] w2 Q) : hG E al 86 320 2204 laLv [] [(L : Int), i] w Q := by
  obtain ⟨jx0, jx1, jx2⟩ := hj.2
  refine la_glue H1 hL lp_a1 h ?_
  refine law_callV (d := 85) (y2 := 180) (as := [.inr (0, 0)]) (rest := []) mj_li_law H1 (by rfl) (h.hW hL) (fun AS ha => ca_mj hf hT h.2.1 h.2.2 hj.1 ha) (fun z w1 hR => ?_)
  obtain ⟨g1, g2, g3, g4, g5⟩ := hR
  have h1 : laI E al L i w1 := ⟨h.1, g1, g2⟩
  have e99 : jS w1 99 59 = jS w 99 59 := jS.at (g4.2 99 (by decide))
  have e0 : jS w1 0 2 = jS w 0 2 := jS.at (g4.2 0 (by decide))
  have two : ∀ (x : Int), z.toInt = x → (∀ z2 : Int32, ((jS w1 99 59 = 0 ∧ z2.toInt = -3) ∨ (jS w1 99 59 = 1 ∧ z2.toInt = 1)) → z2.toInt = x) → laP 2208 [.inl (ae_k x)] 2210 laLv [.inr (0, 99)] = true → laP 2213 [.inl (ae_k x)] 2217 laLv [] = true → hG E al 86 320 2208 laLv [.inl (ae_k z.toInt)] [(L : Int), i] w1 Q := by
    intro x ex hx2 p1 p2
    rw [ex]
    refine la_glue H1 hL p1 h1 ?_
    refine law_callV (d := 85) (y2 := 319) (as := [.inr (0, 99)]) (rest := []) mj_li_law H1 (by rfl) (h1.hW hL) (fun AS ha => (again_mj hf hT g1 g2 g3 ha).weaken (by decide) (Nat.le_refl _) (Nat.le_refl _) (fun v w h => h)) (fun z2 w2 hR => ?_)
    obtain ⟨m1, m2, m3, m4, m5, m7, m6⟩ := hR
    have h2 : laI E al L i w2 := ⟨h.1, m1, m2⟩
    rw [hx2 z2 (by
      rcases m6 with ⟨y1, y2, -⟩ | ⟨y1, y2, -⟩
      · exact Or.inl ⟨y1, y2⟩
      · exact Or.inr ⟨y1, y2⟩)]
    refine la_glue H1 hL p2 h2 (hq w2 h2 ⟨m3, ?_, ?_, fun hk => jRel_congr (fun q hq => ?_) (fun q hq => ?_) (jx2 (by rw [← e0, ← jS.at (m4.2 0 (by decide))]; exact hk))⟩ ⟨by rw [jS.at (m4.2 75 (by decide)), jS.at (g4.2 75 (by decide))], by rw [m7, jS.at (g4.2 99 (by decide))], fun k => by rw [jS.at (m4.2 76 (by decide)), jS.at (g4.2 76 (by decide))], fun k => by rw [jS.at (m4.2 118 (by decide)), jS.at (g4.2 118 (by decide))]⟩)
    · rw [m5, jS.at (m4.2 0 (by decide)), e0, e99]
      exact jx0
    · rcases m6 with ⟨y1, y2, rfl⟩ | ⟨y1, y2, y3⟩
      · rcases g5 with ⟨k1, k2, k3⟩ | ⟨k1, k2, k3⟩
        · refine jRel_congr (fun q hq => ?_) (fun q hq => ?_) jx1
          · exact (k3 q hq).symm
          · obtain ⟨d1, d2, d3, d4⟩ := jMr_all q hq
            exact (jS.at (g4.2 _ d3)).symm
        · omega
      · rcases g5 with ⟨k1, k2, k3⟩ | ⟨k1, k2, k3⟩
        · omega
        · refine jRel_congr (fun q hq => ?_) (fun q hq => ?_) (jx2 k1)
          · obtain ⟨d1, d2, d3, d4, d5, d6⟩ := jMd_all q hq
            unfold jLV jKV
            rw [if_pos (jLy_ok hq).1, jS.at (m4.2 _ d3), k3 q hq]
          · obtain ⟨d1, d2, d3, d4⟩ := jMr_all q hq
            obtain ⟨-, r, hr, r1, r2, r3⟩ := jLr_ok hq
            have e := kept_of m1 g1 hr (y3 r hr _ r2).symm
            rw [r1] at e
            unfold jLV jKV
            rw [if_neg (by omega), ← e, r3, jS.at (g4.2 140 (by decide))]
    · obtain ⟨d1, d2, d3, d4, d5, d6⟩ := jMd_all q hq
      unfold jKV
      rw [if_pos (jLy_ok hq).1, if_pos (jLy_ok hq).1, jS.at (m4.2 _ d6), jS.at (g4.2 _ d4)]
    · obtain ⟨d1, d2, d3, d4⟩ := jMr_all q hq
      unfold jKV
      rw [if_neg (by omega), if_neg (by omega), jS.at (m4.2 140 (by decide)), jS.at (g4.2 140 (by decide))]
  rcases g5 with ⟨y1, y2, -⟩ | ⟨y1, y2, -⟩
  · exact two (-3) y2 (fun z2 h => by omega) lp_a2a lp_a3a
  · exact two 1 y2 (fun z2 h => by omega) lp_a2b lp_a3b
end SIDES
end LAW
