/-! VERSION, both sides: what it answers -/
def vc_t0 : lgT := ([(aI0, (-1)), aF, (0, 8)], [], [.inr (0, 0), .inl (ae_s 0), .inl (ae_s 1)], [((22, ae_k 3), ae_s 2)], ae_k (-1), [])
def vc_t1 : lgT := ([(0, aI1), aF, (0, 8)], [([(2, 1), (0, (-1))], 0)], [.inr (0, 0), .inl (ae_s 0), .inl (ae_s 1)], [((22, ae_k 3), ae_s 2)], ae_k (-1), [])
def vc_t2 : lgT := ([(0, 7), (0, 0), (0, 8), (0, 9)], [([(0, 1), (2, (-1))], 1)], [.inr (0, 0), .inl (ae_s 0), .inl (ae_s 1)], [((22, ae_k 3), ae_s 2), ((23, ([(0, 2)], 1)), ae_s 3)], ae_s 3, [])
def vc_t3 : lgT := ([(0, 7), (1, 1), (0, 8), (0, 9), aF], [([(0, 1), (2, (-1))], 1)], [.inr (0, 0), .inl (ae_s 0), .inl (ae_s 1)], [((22, ae_k 3), ae_s 2), ((23, ([(0, 2)], 1)), ae_s 3), ((23, ([(0, 2)], 0)), ae_s 4)], ae_s 4, [])
def vc_t4 : lgT := ([(0, 7), (10, 18), (0, 8), (0, 9), aF], [([(0, 1), (2, (-1))], 1), ([(1, 1), (3, (-1))], (-9))], [.inr (0, 0), .inl (ae_s 0), .inl (ae_s 1)], [((22, ae_k 3), ae_s 2), ((23, ([(0, 2)], 1)), ae_s 3), ((25, ([(0, 36), (1, 4)], (-40))), ae_s 4)], ae_s 4, [])
def vc_t5 : lgT := ([(0, 7), (30, 38), (0, 8), (0, 9), aF], [([(0, 1), (2, (-1))], 1), ([(1, 1), (3, (-1))], (-29))], [.inr (0, 0), .inl (ae_s 0), .inl (ae_s 1)], [((22, ae_k 3), ae_s 2), ((23, ([(0, 2)], 1)), ae_s 3), ((25, ([(0, 36), (1, 4)], (-119))), ae_s 4)], ae_s 4, [])
def vc_t6 : lgT := ([(0, 7), (aI0, (-1)), (0, 8), (0, 9)], [([(0, 1), (2, (-1))], 1)], [.inr (0, 0), .inl (ae_s 0), .inl (ae_s 1)], [((22, ae_k 3), ae_s 2), ((23, ([(0, 2)], 1)), ae_s 3)], ae_k (-1), [])
def vc_t7 : lgT := ([(0, 7), (2, 9), (0, 8), (0, 9)], [([(0, 1), (2, (-1))], 1)], [.inr (0, 0), .inl (ae_s 0), .inl (ae_s 1)], [((22, ae_k 3), ae_s 2), ((23, ([(0, 2)], 1)), ae_s 3)], ae_k (-1), [])
def vc_t8 : lgT := ([(0, 7), (10, 29), (0, 8), (0, 9)], [([(0, 1), (2, (-1))], 1), ([(1, (-1)), (3, 1)], 10)], [.inr (0, 0), .inl (ae_s 0), .inl (ae_s 1)], [((22, ae_k 3), ae_s 2), ((23, ([(0, 2)], 1)), ae_s 3)], ae_k (-1), [])
def vc_t9 : lgT := ([(0, 7), (30, aI1), (0, 8), (0, 9)], [([(0, 1), (2, (-1))], 1), ([(1, (-1)), (3, 1)], 30)], [.inr (0, 0), .inl (ae_s 0), .inl (ae_s 1)], [((22, ae_k 3), ae_s 2), ((23, ([(0, 2)], 1)), ae_s 3)], ae_k (-1), [])
def vr_t0 : lgT := ([(aI0, (-1)), aF, (0, 8)], [], [.inr (0, 99), .inl (ae_s 0), .inl (ae_s 1)], [((100, ae_k 6), ae_s 2)], ae_k (-1), [])
def vr_t1 : lgT := ([(0, aI1), aF, (0, 8)], [([(2, 1), (0, (-1))], 0)], [.inr (0, 99), .inl (ae_s 0), .inl (ae_s 1)], [((100, ae_k 6), ae_s 2)], ae_k (-1), [])
def vr_t2 : lgT := ([(0, 7), (0, 0), (0, 8), (0, 9)], [([(0, 1), (2, (-1))], 1)], [.inr (0, 99), .inl (ae_s 0), .inl (ae_s 1)], [((100, ae_k 6), ae_s 2), ((110, ([(0, 2), (1, 1)], 0)), ae_s 3)], ae_s 3, [])
def vr_t3 : lgT := ([(0, 7), (1, 1), (0, 8), (0, 9), aF], [([(0, 1), (2, (-1))], 1)], [.inr (0, 99), .inl (ae_s 0), .inl (ae_s 1)], [((100, ae_k 6), ae_s 2), ((110, ([(0, 2), (1, 1)], 0)), ae_s 4)], ae_s 4, [])
def vr_t4 : lgT := ([(0, 7), (10, 18), (0, 8), (0, 9), aF], [([(0, 1), (2, (-1))], 1), ([(1, 1), (3, (-1))], (-9))], [.inr (0, 99), .inl (ae_s 0), .inl (ae_s 1)], [((100, ae_k 6), ae_s 2), ((110, ([(0, 2)], 0)), ae_s 3), ((111, ([(0, 36), (1, 4)], (-40))), ae_s 4)], ae_s 4, [])
def vr_t5 : lgT := ([(0, 7), (30, 38), (0, 8), (0, 9), aF], [([(0, 1), (2, (-1))], 1), ([(1, 1), (3, (-1))], (-29))], [.inr (0, 99), .inl (ae_s 0), .inl (ae_s 1)], [((100, ae_k 6), ae_s 2), ((110, ([(0, 2)], 0)), ae_s 3), ((111, ([(0, 36), (1, 4)], (-119))), ae_s 4)], ae_s 4, [])
def vr_t6 : lgT := ([(0, 7), (aI0, (-1)), (0, 8), (0, 9)], [([(0, 1), (2, (-1))], 1)], [.inr (0, 99), .inl (ae_s 0), .inl (ae_s 1)], [((100, ae_k 6), ae_s 2), ((110, ([(0, 2)], 0)), ae_s 3)], ae_k (-1), [])
def vr_t7 : lgT := ([(0, 7), (2, 9), (0, 8), (0, 9)], [([(0, 1), (2, (-1))], 1)], [.inr (0, 99), .inl (ae_s 0), .inl (ae_s 1)], [((100, ae_k 6), ae_s 2), ((110, ([(0, 2)], 0)), ae_s 3)], ae_k (-1), [])
def vr_t8 : lgT := ([(0, 7), (10, 29), (0, 8), (0, 9)], [([(0, 1), (2, (-1))], 1), ([(1, (-1)), (3, 1)], 10)], [.inr (0, 99), .inl (ae_s 0), .inl (ae_s 1)], [((100, ae_k 6), ae_s 2), ((110, ([(0, 2)], 0)), ae_s 3)], ae_k (-1), [])
def vr_t9 : lgT := ([(0, 7), (30, aI1), (0, 8), (0, 9)], [([(0, 1), (2, (-1))], 1), ([(1, (-1)), (3, 1)], 30)], [.inr (0, 99), .inl (ae_s 0), .inl (ae_s 1)], [((100, ae_k 6), ae_s 2), ((110, ([(0, 2)], 0)), ae_s 3)], ae_k (-1), [])
section
set_option maxRecDepth 100000
theorem vc_k0 : lg_chk (aG00 []) 85 98 vc_t0 = true := by decide +kernel
theorem vc_k1 : lg_chk (aG00 []) 85 98 vc_t1 = true := by decide +kernel
theorem vc_k2 : lg_chk (aG00 []) 85 98 vc_t2 = true := by decide +kernel
theorem vc_k3 : lg_chk (aG00 []) 85 98 vc_t3 = true := by decide +kernel
theorem vc_k4 : lg_chk (aG00 []) 85 98 vc_t4 = true := by decide +kernel
theorem vc_k5 : lg_chk (aG00 []) 85 98 vc_t5 = true := by decide +kernel
theorem vc_k6 : lg_chk (aG00 []) 85 98 vc_t6 = true := by decide +kernel
theorem vc_k7 : lg_chk (aG00 []) 85 98 vc_t7 = true := by decide +kernel
theorem vc_k8 : lg_chk (aG00 []) 85 98 vc_t8 = true := by decide +kernel
theorem vc_k9 : lg_chk (aG00 []) 85 98 vc_t9 = true := by decide +kernel
theorem vr_k0 : lg_chk (aG00 []) 85 249 vr_t0 = true := by decide +kernel
theorem vr_k1 : lg_chk (aG00 []) 85 249 vr_t1 = true := by decide +kernel
theorem vr_k2 : lg_chk (aG00 []) 85 249 vr_t2 = true := by decide +kernel
theorem vr_k3 : lg_chk (aG00 []) 85 249 vr_t3 = true := by decide +kernel
theorem vr_k4 : lg_chk (aG00 []) 85 249 vr_t4 = true := by decide +kernel
theorem vr_k5 : lg_chk (aG00 []) 85 249 vr_t5 = true := by decide +kernel
theorem vr_k6 : lg_chk (aG00 []) 85 249 vr_t6 = true := by decide +kernel
theorem vr_k7 : lg_chk (aG00 []) 85 249 vr_t7 = true := by decide +kernel
theorem vr_k8 : lg_chk (aG00 []) 85 249 vr_t8 = true := by decide +kernel
theorem vr_k9 : lg_chk (aG00 []) 85 249 vr_t9 = true := by decide +kernel
theorem vj_23 : ∀ k, k < 16 → (jLay 23 k).isSome = true := by decide +kernel
theorem vj_25 : ∀ k, k < 288 → (jLay 25 k).isSome = true := by decide +kernel
theorem vj_110 : ∀ k, k < 16 → (jLay 110 k).isSome = true := by decide +kernel
theorem vj_111 : ∀ k, k < 288 → (jLay 111 k).isSome = true := by decide +kernel
theorem vj_22 : (jLay 22 3).isSome = true := by decide +kernel
theorem vj_100 : (jLay 100 6).isSome = true := by decide +kernel
end
/-- what version answers, of rows N (how many lines, since when) and T (sorts, numbers), V of them -/
def vA (V : Int) (n m : Nat → Int) (t u : Nat → Int) (a b : Int) : Int := if 0 ≤ a ∧ a < V then (if b = 0 then n a.toNat else if b = 1 then m a.toNat else if 10 ≤ b ∧ b ≤ 9 + n a.toNat then t (9 * a.toNat + (b - 10).toNat) else if 30 ≤ b ∧ b ≤ 29 + n a.toNat then u (9 * a.toNat + (b - 30).toNat) else -1) else -1
theorem vA_congr {V : Int} {n n2 m m2 t t2 u u2 : Nat → Int} {a b : Int} (h1 : ∀ v : Nat, (v : Int) < V → n v = n2 v ∧ m v = m2 v) (h2 : ∀ v i : Nat, (v : Int) < V → (i : Int) < n2 v → t (9 * v + i) = t2 (9 * v + i) ∧ u (9 * v + i) = u2 (9 * v + i)) : vA V n m t u a b = vA V n2 m2 t2 u2 a b := by
  unfold vA
  by_cases c : 0 ≤ a ∧ a < V
  · rw [if_pos c, if_pos c]
    have hv : (a.toNat : Int) < V := by omega
    obtain ⟨e1, e2⟩ := h1 a.toNat hv
    rw [e1, e2]
    by_cases b0 : b = 0
    · rw [if_pos b0, if_pos b0]
    rw [if_neg b0, if_neg b0]
    by_cases b1 : b = 1
    · rw [if_pos b1, if_pos b1]
    rw [if_neg b1, if_neg b1]
    by_cases b2 : 10 ≤ b ∧ b ≤ 9 + n2 a.toNat
    · rw [if_pos b2, if_pos b2]
      exact (h2 a.toNat (b - 10).toNat hv (by omega)).1
    rw [if_neg b2, if_neg b2]
    by_cases b3 : 30 ≤ b ∧ b ≤ 29 + n2 a.toNat
    · rw [if_pos b3, if_pos b3]
      exact (h2 a.toNat (b - 30).toNat hv (by omega)).2
    rw [if_neg b3, if_neg b3]
  · rw [if_neg c, if_neg c]
section VV
variable {E : mj_E} {al : List Nat} {w : va_W}
theorem vsl {c i : Nat} (a5 : aWd E al aLay w) (hi : (jLay c i).isSome = true) {x : Int} (hx : jS w c i = x) : aSl w c i x := by
  rw [← hx]
  exact jLay_sl a5 hi
theorem vfin {d y : Nat} {AS : List Value} {log : aW} {r x : Int} (hl : log = []) (hr : r = x) {P : Option Value → va_W → Prop} (hM : MJ E d 0 0 (mj_in0 y AS w) P) (hP : ∀ v w2, P v w2 → ∃ z : Int32, v = some (.int z) ∧ z.toInt = r ∧ (∀ c, (∀ q ∈ log, q.1 ≠ c) → w2[c]? = w[c]?) ∧ w2.length = w.length) : MJ E d 0 0 (mj_in0 y AS w) (fun v w2 => ∃ z : Int32, v = some (.int z) ∧ z.toInt = x ∧ w2 = w) := by
  subst hl
  subst hr
  refine hM.weaken (Nat.le_refl _) (Nat.le_refl _) (Nat.le_refl _) (fun v w2 h => ?_)
  obtain ⟨z, e1, e2, e3, e4⟩ := hP v w2 h
  exact ⟨z, e1, e2, hD.eq ⟨e4, fun c hc => e3 c (fun q hq => by cases hq)⟩⟩
theorem vc_mj (hf : E.2.2.2.1.category = 1) (hT : ∀ σ : List Int, aTb E σ aTabs) (a5 : aWd E al aLay w) (a6 : aRs aRules w) (a7 : jJ0 w) {a b V : Int} (ba : aI0 ≤ a ∧ a ≤ aI1) (bb : aI0 ≤ b ∧ b ≤ aI1) (hV : jS w 22 3 = V) (bV : 0 ≤ V ∧ V ≤ 8) (hn : ∀ v : Nat, (v : Int) < V → 0 ≤ jS w 23 (2 * v + 1) ∧ jS w 23 (2 * v + 1) ≤ 9) {AS : List Value} (ha : gL E al [] (.inr (0, 0) :: [ae_k a, ae_k b].map .inl) AS) :
    MJ E 85 0 0 (mj_in0 98 AS w) (fun x w2 => ∃ z : Int32, x = some (.int z) ∧ z.toInt = vA V (fun v => jS w 23 (2 * v + 1)) (fun v => jS w 23 (2 * v)) (fun k => jS w 25 (4 * k)) (fun k => jS w 25 (4 * k + 1)) a b ∧ w2 = w) := by
  have e0 : aI0 = -2147483648 := rfl
  have e1 : aI1 = 2147483647 := rfl
  have sV := vsl a5 vj_22 hV
  by_cases a0 : a < 0
  · have q : vA V (fun v => jS w 23 (2 * v + 1)) (fun v => jS w 23 (2 * v)) (fun k => jS w 25 (4 * k)) (fun k => jS w 25 (4 * k + 1)) a b = -1 := by
      unfold vA
      rw [if_neg (by omega)]
    refine vfin (log := []) (r := ae_ev [a, b, V] (ae_k (-1))) rfl (Eq.trans ae_ev_k q.symm) (lg_god hf hT a5 a6 a7 (t := vc_t0) (by decide) vc_k0 (ρ := [a, b, V]) ⟨⟨by omega, by omega⟩, bb, ⟨by omega, by omega⟩, trivial⟩ (by rfl) (fun f hf => by cases hf) (aHh.cons (kn1 (i := 3) (by decide) rfl (ev_s rfl) sV) aHh.nil) (es := [ae_s 0, ae_s 1]) (xs := [ae_k a, ae_k b]) rfl (by simp only [List.map_cons, List.map_nil, ae_ev_k, ev_s (ρ := [a, b, V]) (k := 0) (x := a) rfl, ev_s (ρ := [a, b, V]) (k := 1) (x := b) rfl]) (by rfl) ha) (fun v w2 h => ?_)
    obtain ⟨z, g1, g2, -, -, -, g6, g7, -⟩ := h
    exact ⟨z, g1, g2, g6, g7⟩
  by_cases a1 : V ≤ a
  · have q : vA V (fun v => jS w 23 (2 * v + 1)) (fun v => jS w 23 (2 * v)) (fun k => jS w 25 (4 * k)) (fun k => jS w 25 (4 * k + 1)) a b = -1 := by
      unfold vA
      rw [if_neg (by omega)]
    refine vfin (log := []) (r := ae_ev [a, b, V] (ae_k (-1))) rfl (Eq.trans ae_ev_k q.symm) (lg_god hf hT a5 a6 a7 (t := vc_t1) (by decide) vc_k1 (ρ := [a, b, V]) ⟨⟨by omega, by omega⟩, bb, ⟨by omega, by omega⟩, trivial⟩ (by rfl) (fun f hf => by
      simp only [vc_t1, List.mem_cons, List.not_mem_nil, or_false] at hf
      rcases hf with rfl <;> (simp only [ae_ev, ae_el, ae_s, ae_k, List.getD_cons_zero, List.getD_cons_succ]; omega)) (aHh.cons (kn1 (i := 3) (by decide) rfl (ev_s rfl) sV) aHh.nil) (es := [ae_s 0, ae_s 1]) (xs := [ae_k a, ae_k b]) rfl (by simp only [List.map_cons, List.map_nil, ae_ev_k, ev_s (ρ := [a, b, V]) (k := 0) (x := a) rfl, ev_s (ρ := [a, b, V]) (k := 1) (x := b) rfl]) (by rfl) ha) (fun v w2 h => ?_)
    obtain ⟨z, g1, g2, -, -, -, g6, g7, -⟩ := h
    exact ⟨z, g1, g2, g6, g7⟩
  obtain ⟨v, rfl⟩ : ∃ v : Nat, a = (v : Int) := ⟨a.toNat, by omega⟩
  have hv : (v : Int) < V := by omega
  obtain ⟨n1, n2⟩ := hn v hv
  obtain ⟨n, en⟩ : ∃ n, jS w 23 (2 * v + 1) = n := ⟨_, rfl⟩
  rw [en] at n1 n2
  have sn := vsl a5 (vj_23 (2 * v + 1) (by omega)) en
  have q : vA V (fun v => jS w 23 (2 * v + 1)) (fun v => jS w 23 (2 * v)) (fun k => jS w 25 (4 * k)) (fun k => jS w 25 (4 * k + 1)) (v : Int) b = if b = 0 then n else if b = 1 then jS w 23 (2 * v) else if 10 ≤ b ∧ b ≤ 9 + n then jS w 25 (4 * (9 * v + (b - 10).toNat)) else if 30 ≤ b ∧ b ≤ 29 + n then jS w 25 (4 * (9 * v + (b - 30).toNat) + 1) else -1 := by
    unfold vA
    rw [if_pos ⟨by omega, hv⟩]
    simp only [Int.toNat_natCast, en]
  rw [q]
  by_cases b0 : b = 0
  · rw [if_pos b0]
    refine vfin (log := []) (r := ae_ev [(v : Int), b, V, n] (ae_s 3)) rfl (ev_s rfl) (lg_god hf hT a5 a6 a7 (t := vc_t2) (by decide) vc_k2 (ρ := [(v : Int), b, V, n]) ⟨⟨by omega, by omega⟩, ⟨by omega, by omega⟩, ⟨by omega, by omega⟩, ⟨by omega, by omega⟩, trivial⟩ (by rfl) (fun f hf => by
      simp only [vc_t2, List.mem_cons, List.not_mem_nil, or_false] at hf
      rcases hf with rfl <;> (simp only [ae_ev, ae_el, ae_s, ae_k, List.getD_cons_zero, List.getD_cons_succ]; omega)) (aHh.cons (kn1 (i := 3) (by decide) rfl (ev_s rfl) sV) (aHh.cons (kns (by decide) rfl rfl (i := (2 * v + 1)) (by simp only [ae_ev, ae_el, ae_s, ae_k, List.getD_cons_zero, List.getD_cons_succ]; omega) (ev_s rfl) sn) aHh.nil)) (es := [ae_s 0, ae_s 1]) (xs := [ae_k (v : Int), ae_k b]) rfl (by simp only [List.map_cons, List.map_nil, ae_ev_k, ev_s (ρ := [(v : Int), b, V, n]) (k := 0) (x := (v : Int)) rfl, ev_s (ρ := [(v : Int), b, V, n]) (k := 1) (x := b) rfl]) (by rfl) ha) (fun v w2 h => ?_)
    obtain ⟨z, g1, g2, -, -, -, g6, g7, -⟩ := h
    exact ⟨z, g1, g2, g6, g7⟩
  rw [if_neg b0]
  by_cases b1 : b = 1
  · rw [if_pos b1]
    have sx := jLay_sl a5 (vj_23 (2 * v) (by omega))
    have bx := sx.i32
    refine vfin (log := []) (r := ae_ev [(v : Int), b, V, n, (jS w 23 (2 * v))] (ae_s 4)) rfl (ev_s rfl) (lg_god hf hT a5 a6 a7 (t := vc_t3) (by decide) vc_k3 (ρ := [(v : Int), b, V, n, (jS w 23 (2 * v))]) ⟨⟨by omega, by omega⟩, ⟨by omega, by omega⟩, ⟨by omega, by omega⟩, ⟨by omega, by omega⟩, bx, trivial⟩ (by rfl) (fun f hf => by
      simp only [vc_t3, List.mem_cons, List.not_mem_nil, or_false] at hf
      rcases hf with rfl <;> (simp only [ae_ev, ae_el, ae_s, ae_k, List.getD_cons_zero, List.getD_cons_succ]; omega)) (aHh.cons (kn1 (i := 3) (by decide) rfl (ev_s rfl) sV) (aHh.cons (kns (by decide) rfl rfl (i := (2 * v + 1)) (by simp only [ae_ev, ae_el, ae_s, ae_k, List.getD_cons_zero, List.getD_cons_succ]; omega) (ev_s rfl) sn) (aHh.cons (kns (by decide) rfl rfl (i := (2 * v)) (by simp only [ae_ev, ae_el, ae_s, ae_k, List.getD_cons_zero, List.getD_cons_succ]; omega) (ev_s rfl) sx) aHh.nil))) (es := [ae_s 0, ae_s 1]) (xs := [ae_k (v : Int), ae_k b]) rfl (by simp only [List.map_cons, List.map_nil, ae_ev_k, ev_s (ρ := [(v : Int), b, V, n, (jS w 23 (2 * v))]) (k := 0) (x := (v : Int)) rfl, ev_s (ρ := [(v : Int), b, V, n, (jS w 23 (2 * v))]) (k := 1) (x := b) rfl]) (by rfl) ha) (fun v w2 h => ?_)
    obtain ⟨z, g1, g2, -, -, -, g6, g7, -⟩ := h
    exact ⟨z, g1, g2, g6, g7⟩
  rw [if_neg b1]
  by_cases b2 : 10 ≤ b ∧ b ≤ 9 + n
  · rw [if_pos b2]
    obtain ⟨k, ek⟩ : ∃ k, 4 * (9 * v + (b - 10).toNat) = k := ⟨_, rfl⟩
    rw [ek]
    have sx := jLay_sl a5 (vj_25 k (by omega))
    have bx := sx.i32
    refine vfin (log := []) (r := ae_ev [(v : Int), b, V, n, (jS w 25 k)] (ae_s 4)) rfl (ev_s rfl) (lg_god hf hT a5 a6 a7 (t := vc_t4) (by decide) vc_k4 (ρ := [(v : Int), b, V, n, (jS w 25 k)]) ⟨⟨by omega, by omega⟩, ⟨by omega, by omega⟩, ⟨by omega, by omega⟩, ⟨by omega, by omega⟩, bx, trivial⟩ (by rfl) (fun f hf => by
      simp only [vc_t4, List.mem_cons, List.not_mem_nil, or_false] at hf
      rcases hf with rfl | rfl <;> (simp only [ae_ev, ae_el, ae_s, ae_k, List.getD_cons_zero, List.getD_cons_succ]; omega)) (aHh.cons (kn1 (i := 3) (by decide) rfl (ev_s rfl) sV) (aHh.cons (kns (by decide) rfl rfl (i := (2 * v + 1)) (by simp only [ae_ev, ae_el, ae_s, ae_k, List.getD_cons_zero, List.getD_cons_succ]; omega) (ev_s rfl) sn) (aHh.cons (kns (by decide) rfl rfl (i := k) (by simp only [ae_ev, ae_el, ae_s, ae_k, List.getD_cons_zero, List.getD_cons_succ]; omega) (ev_s rfl) sx) aHh.nil))) (es := [ae_s 0, ae_s 1]) (xs := [ae_k (v : Int), ae_k b]) rfl (by simp only [List.map_cons, List.map_nil, ae_ev_k, ev_s (ρ := [(v : Int), b, V, n, (jS w 25 k)]) (k := 0) (x := (v : Int)) rfl, ev_s (ρ := [(v : Int), b, V, n, (jS w 25 k)]) (k := 1) (x := b) rfl]) (by rfl) ha) (fun v w2 h => ?_)
    obtain ⟨z, g1, g2, -, -, -, g6, g7, -⟩ := h
    exact ⟨z, g1, g2, g6, g7⟩
  rw [if_neg b2]
  by_cases b3 : 30 ≤ b ∧ b ≤ 29 + n
  · rw [if_pos b3]
    obtain ⟨k, ek⟩ : ∃ k, 4 * (9 * v + (b - 30).toNat) + 1 = k := ⟨_, rfl⟩
    rw [ek]
    have sx := jLay_sl a5 (vj_25 k (by omega))
    have bx := sx.i32
    refine vfin (log := []) (r := ae_ev [(v : Int), b, V, n, (jS w 25 k)] (ae_s 4)) rfl (ev_s rfl) (lg_god hf hT a5 a6 a7 (t := vc_t5) (by decide) vc_k5 (ρ := [(v : Int), b, V, n, (jS w 25 k)]) ⟨⟨by omega, by omega⟩, ⟨by omega, by omega⟩, ⟨by omega, by omega⟩, ⟨by omega, by omega⟩, bx, trivial⟩ (by rfl) (fun f hf => by
      simp only [vc_t5, List.mem_cons, List.not_mem_nil, or_false] at hf
      rcases hf with rfl | rfl <;> (simp only [ae_ev, ae_el, ae_s, ae_k, List.getD_cons_zero, List.getD_cons_succ]; omega)) (aHh.cons (kn1 (i := 3) (by decide) rfl (ev_s rfl) sV) (aHh.cons (kns (by decide) rfl rfl (i := (2 * v + 1)) (by simp only [ae_ev, ae_el, ae_s, ae_k, List.getD_cons_zero, List.getD_cons_succ]; omega) (ev_s rfl) sn) (aHh.cons (kns (by decide) rfl rfl (i := k) (by simp only [ae_ev, ae_el, ae_s, ae_k, List.getD_cons_zero, List.getD_cons_succ]; omega) (ev_s rfl) sx) aHh.nil))) (es := [ae_s 0, ae_s 1]) (xs := [ae_k (v : Int), ae_k b]) rfl (by simp only [List.map_cons, List.map_nil, ae_ev_k, ev_s (ρ := [(v : Int), b, V, n, (jS w 25 k)]) (k := 0) (x := (v : Int)) rfl, ev_s (ρ := [(v : Int), b, V, n, (jS w 25 k)]) (k := 1) (x := b) rfl]) (by rfl) ha) (fun v w2 h => ?_)
    obtain ⟨z, g1, g2, -, -, -, g6, g7, -⟩ := h
    exact ⟨z, g1, g2, g6, g7⟩
  rw [if_neg b3]
  by_cases b4 : b < 0
  · skip
    refine vfin (log := []) (r := ae_ev [(v : Int), b, V, n] (ae_k (-1))) rfl ae_ev_k (lg_god hf hT a5 a6 a7 (t := vc_t6) (by decide) vc_k6 (ρ := [(v : Int), b, V, n]) ⟨⟨by omega, by omega⟩, ⟨by omega, by omega⟩, ⟨by omega, by omega⟩, ⟨by omega, by omega⟩, trivial⟩ (by rfl) (fun f hf => by
      simp only [vc_t6, List.mem_cons, List.not_mem_nil, or_false] at hf
      rcases hf with rfl <;> (simp only [ae_ev, ae_el, ae_s, ae_k, List.getD_cons_zero, List.getD_cons_succ]; omega)) (aHh.cons (kn1 (i := 3) (by decide) rfl (ev_s rfl) sV) (aHh.cons (kns (by decide) rfl rfl (i := (2 * v + 1)) (by simp only [ae_ev, ae_el, ae_s, ae_k, List.getD_cons_zero, List.getD_cons_succ]; omega) (ev_s rfl) sn) aHh.nil)) (es := [ae_s 0, ae_s 1]) (xs := [ae_k (v : Int), ae_k b]) rfl (by simp only [List.map_cons, List.map_nil, ae_ev_k, ev_s (ρ := [(v : Int), b, V, n]) (k := 0) (x := (v : Int)) rfl, ev_s (ρ := [(v : Int), b, V, n]) (k := 1) (x := b) rfl]) (by rfl) ha) (fun v w2 h => ?_)
    obtain ⟨z, g1, g2, -, -, -, g6, g7, -⟩ := h
    exact ⟨z, g1, g2, g6, g7⟩
  by_cases b5 : b ≤ 9
  · skip
    refine vfin (log := []) (r := ae_ev [(v : Int), b, V, n] (ae_k (-1))) rfl ae_ev_k (lg_god hf hT a5 a6 a7 (t := vc_t7) (by decide) vc_k7 (ρ := [(v : Int), b, V, n]) ⟨⟨by omega, by omega⟩, ⟨by omega, by omega⟩, ⟨by omega, by omega⟩, ⟨by omega, by omega⟩, trivial⟩ (by rfl) (fun f hf => by
      simp only [vc_t7, List.mem_cons, List.not_mem_nil, or_false] at hf
      rcases hf with rfl <;> (simp only [ae_ev, ae_el, ae_s, ae_k, List.getD_cons_zero, List.getD_cons_succ]; omega)) (aHh.cons (kn1 (i := 3) (by decide) rfl (ev_s rfl) sV) (aHh.cons (kns (by decide) rfl rfl (i := (2 * v + 1)) (by simp only [ae_ev, ae_el, ae_s, ae_k, List.getD_cons_zero, List.getD_cons_succ]; omega) (ev_s rfl) sn) aHh.nil)) (es := [ae_s 0, ae_s 1]) (xs := [ae_k (v : Int), ae_k b]) rfl (by simp only [List.map_cons, List.map_nil, ae_ev_k, ev_s (ρ := [(v : Int), b, V, n]) (k := 0) (x := (v : Int)) rfl, ev_s (ρ := [(v : Int), b, V, n]) (k := 1) (x := b) rfl]) (by rfl) ha) (fun v w2 h => ?_)
    obtain ⟨z, g1, g2, -, -, -, g6, g7, -⟩ := h
    exact ⟨z, g1, g2, g6, g7⟩
  by_cases b6 : b ≤ 29
  · skip
    refine vfin (log := []) (r := ae_ev [(v : Int), b, V, n] (ae_k (-1))) rfl ae_ev_k (lg_god hf hT a5 a6 a7 (t := vc_t8) (by decide) vc_k8 (ρ := [(v : Int), b, V, n]) ⟨⟨by omega, by omega⟩, ⟨by omega, by omega⟩, ⟨by omega, by omega⟩, ⟨by omega, by omega⟩, trivial⟩ (by rfl) (fun f hf => by
      simp only [vc_t8, List.mem_cons, List.not_mem_nil, or_false] at hf
      rcases hf with rfl | rfl <;> (simp only [ae_ev, ae_el, ae_s, ae_k, List.getD_cons_zero, List.getD_cons_succ]; omega)) (aHh.cons (kn1 (i := 3) (by decide) rfl (ev_s rfl) sV) (aHh.cons (kns (by decide) rfl rfl (i := (2 * v + 1)) (by simp only [ae_ev, ae_el, ae_s, ae_k, List.getD_cons_zero, List.getD_cons_succ]; omega) (ev_s rfl) sn) aHh.nil)) (es := [ae_s 0, ae_s 1]) (xs := [ae_k (v : Int), ae_k b]) rfl (by simp only [List.map_cons, List.map_nil, ae_ev_k, ev_s (ρ := [(v : Int), b, V, n]) (k := 0) (x := (v : Int)) rfl, ev_s (ρ := [(v : Int), b, V, n]) (k := 1) (x := b) rfl]) (by rfl) ha) (fun v w2 h => ?_)
    obtain ⟨z, g1, g2, -, -, -, g6, g7, -⟩ := h
    exact ⟨z, g1, g2, g6, g7⟩
  refine vfin (log := []) (r := ae_ev [(v : Int), b, V, n] (ae_k (-1))) rfl ae_ev_k (lg_god hf hT a5 a6 a7 (t := vc_t9) (by decide) vc_k9 (ρ := [(v : Int), b, V, n]) ⟨⟨by omega, by omega⟩, ⟨by omega, by omega⟩, ⟨by omega, by omega⟩, ⟨by omega, by omega⟩, trivial⟩ (by rfl) (fun f hf => by
    simp only [vc_t9, List.mem_cons, List.not_mem_nil, or_false] at hf
    rcases hf with rfl | rfl <;> (simp only [ae_ev, ae_el, ae_s, ae_k, List.getD_cons_zero, List.getD_cons_succ]; omega)) (aHh.cons (kn1 (i := 3) (by decide) rfl (ev_s rfl) sV) (aHh.cons (kns (by decide) rfl rfl (i := (2 * v + 1)) (by simp only [ae_ev, ae_el, ae_s, ae_k, List.getD_cons_zero, List.getD_cons_succ]; omega) (ev_s rfl) sn) aHh.nil)) (es := [ae_s 0, ae_s 1]) (xs := [ae_k (v : Int), ae_k b]) rfl (by simp only [List.map_cons, List.map_nil, ae_ev_k, ev_s (ρ := [(v : Int), b, V, n]) (k := 0) (x := (v : Int)) rfl, ev_s (ρ := [(v : Int), b, V, n]) (k := 1) (x := b) rfl]) (by rfl) ha) (fun v w2 h => ?_)
  obtain ⟨z, g1, g2, -, -, -, g6, g7, -⟩ := h
  exact ⟨z, g1, g2, g6, g7⟩
theorem vr_mj (hf : E.2.2.2.1.category = 1) (hT : ∀ σ : List Int, aTb E σ aTabs) (a5 : aWd E al aLay w) (a6 : aRs aRules w) (a7 : jJ0 w) {a b V : Int} (ba : aI0 ≤ a ∧ a ≤ aI1) (bb : aI0 ≤ b ∧ b ≤ aI1) (hV : jS w 100 6 = V) (bV : 0 ≤ V ∧ V ≤ 8) (hn : ∀ v : Nat, (v : Int) < V → 0 ≤ jS w 110 (2 * v) ∧ jS w 110 (2 * v) ≤ 9) {AS : List Value} (ha : gL E al [] (.inr (0, 99) :: [ae_k a, ae_k b].map .inl) AS) :
    MJ E 85 0 0 (mj_in0 249 AS w) (fun x w2 => ∃ z : Int32, x = some (.int z) ∧ z.toInt = vA V (fun v => jS w 110 (2 * v)) (fun v => jS w 110 (2 * v + 1)) (fun k => jS w 111 (4 * k)) (fun k => jS w 111 (4 * k + 1)) a b ∧ w2 = w) := by
  have e0 : aI0 = -2147483648 := rfl
  have e1 : aI1 = 2147483647 := rfl
  have sV := vsl a5 vj_100 hV
  by_cases a0 : a < 0
  · have q : vA V (fun v => jS w 110 (2 * v)) (fun v => jS w 110 (2 * v + 1)) (fun k => jS w 111 (4 * k)) (fun k => jS w 111 (4 * k + 1)) a b = -1 := by
      unfold vA
      rw [if_neg (by omega)]
    refine vfin (log := []) (r := ae_ev [a, b, V] (ae_k (-1))) rfl (Eq.trans ae_ev_k q.symm) (lg_god hf hT a5 a6 a7 (t := vr_t0) (by decide) vr_k0 (ρ := [a, b, V]) ⟨⟨by omega, by omega⟩, bb, ⟨by omega, by omega⟩, trivial⟩ (by rfl) (fun f hf => by cases hf) (aHh.cons (kn1 (i := 6) (by decide) rfl (ev_s rfl) sV) aHh.nil) (es := [ae_s 0, ae_s 1]) (xs := [ae_k a, ae_k b]) rfl (by simp only [List.map_cons, List.map_nil, ae_ev_k, ev_s (ρ := [a, b, V]) (k := 0) (x := a) rfl, ev_s (ρ := [a, b, V]) (k := 1) (x := b) rfl]) (by rfl) ha) (fun v w2 h => ?_)
    obtain ⟨z, g1, g2, -, -, -, g6, g7, -⟩ := h
    exact ⟨z, g1, g2, g6, g7⟩
  by_cases a1 : V ≤ a
  · have q : vA V (fun v => jS w 110 (2 * v)) (fun v => jS w 110 (2 * v + 1)) (fun k => jS w 111 (4 * k)) (fun k => jS w 111 (4 * k + 1)) a b = -1 := by
      unfold vA
      rw [if_neg (by omega)]
    refine vfin (log := []) (r := ae_ev [a, b, V] (ae_k (-1))) rfl (Eq.trans ae_ev_k q.symm) (lg_god hf hT a5 a6 a7 (t := vr_t1) (by decide) vr_k1 (ρ := [a, b, V]) ⟨⟨by omega, by omega⟩, bb, ⟨by omega, by omega⟩, trivial⟩ (by rfl) (fun f hf => by
      simp only [vr_t1, List.mem_cons, List.not_mem_nil, or_false] at hf
      rcases hf with rfl <;> (simp only [ae_ev, ae_el, ae_s, ae_k, List.getD_cons_zero, List.getD_cons_succ]; omega)) (aHh.cons (kn1 (i := 6) (by decide) rfl (ev_s rfl) sV) aHh.nil) (es := [ae_s 0, ae_s 1]) (xs := [ae_k a, ae_k b]) rfl (by simp only [List.map_cons, List.map_nil, ae_ev_k, ev_s (ρ := [a, b, V]) (k := 0) (x := a) rfl, ev_s (ρ := [a, b, V]) (k := 1) (x := b) rfl]) (by rfl) ha) (fun v w2 h => ?_)
    obtain ⟨z, g1, g2, -, -, -, g6, g7, -⟩ := h
    exact ⟨z, g1, g2, g6, g7⟩
  obtain ⟨v, rfl⟩ : ∃ v : Nat, a = (v : Int) := ⟨a.toNat, by omega⟩
  have hv : (v : Int) < V := by omega
  obtain ⟨n1, n2⟩ := hn v hv
  obtain ⟨n, en⟩ : ∃ n, jS w 110 (2 * v) = n := ⟨_, rfl⟩
  rw [en] at n1 n2
  have sn := vsl a5 (vj_110 (2 * v) (by omega)) en
  have q : vA V (fun v => jS w 110 (2 * v)) (fun v => jS w 110 (2 * v + 1)) (fun k => jS w 111 (4 * k)) (fun k => jS w 111 (4 * k + 1)) (v : Int) b = if b = 0 then n else if b = 1 then jS w 110 (2 * v + 1) else if 10 ≤ b ∧ b ≤ 9 + n then jS w 111 (4 * (9 * v + (b - 10).toNat)) else if 30 ≤ b ∧ b ≤ 29 + n then jS w 111 (4 * (9 * v + (b - 30).toNat) + 1) else -1 := by
    unfold vA
    rw [if_pos ⟨by omega, hv⟩]
    simp only [Int.toNat_natCast, en]
  rw [q]
  by_cases b0 : b = 0
  · rw [if_pos b0]
    refine vfin (log := []) (r := ae_ev [(v : Int), b, V, n] (ae_s 3)) rfl (ev_s rfl) (lg_god hf hT a5 a6 a7 (t := vr_t2) (by decide) vr_k2 (ρ := [(v : Int), b, V, n]) ⟨⟨by omega, by omega⟩, ⟨by omega, by omega⟩, ⟨by omega, by omega⟩, ⟨by omega, by omega⟩, trivial⟩ (by rfl) (fun f hf => by
      simp only [vr_t2, List.mem_cons, List.not_mem_nil, or_false] at hf
      rcases hf with rfl <;> (simp only [ae_ev, ae_el, ae_s, ae_k, List.getD_cons_zero, List.getD_cons_succ]; omega)) (aHh.cons (kn1 (i := 6) (by decide) rfl (ev_s rfl) sV) (aHh.cons (kns (by decide) rfl rfl (i := (2 * v)) (by simp only [ae_ev, ae_el, ae_s, ae_k, List.getD_cons_zero, List.getD_cons_succ]; omega) (ev_s rfl) sn) aHh.nil)) (es := [ae_s 0, ae_s 1]) (xs := [ae_k (v : Int), ae_k b]) rfl (by simp only [List.map_cons, List.map_nil, ae_ev_k, ev_s (ρ := [(v : Int), b, V, n]) (k := 0) (x := (v : Int)) rfl, ev_s (ρ := [(v : Int), b, V, n]) (k := 1) (x := b) rfl]) (by rfl) ha) (fun v w2 h => ?_)
    obtain ⟨z, g1, g2, -, -, -, g6, g7, -⟩ := h
    exact ⟨z, g1, g2, g6, g7⟩
  rw [if_neg b0]
  by_cases b1 : b = 1
  · rw [if_pos b1]
    have sx := jLay_sl a5 (vj_110 (2 * v + 1) (by omega))
    have bx := sx.i32
    refine vfin (log := []) (r := ae_ev [(v : Int), b, V, n, (jS w 110 (2 * v + 1))] (ae_s 4)) rfl (ev_s rfl) (lg_god hf hT a5 a6 a7 (t := vr_t3) (by decide) vr_k3 (ρ := [(v : Int), b, V, n, (jS w 110 (2 * v + 1))]) ⟨⟨by omega, by omega⟩, ⟨by omega, by omega⟩, ⟨by omega, by omega⟩, ⟨by omega, by omega⟩, bx, trivial⟩ (by rfl) (fun f hf => by
      simp only [vr_t3, List.mem_cons, List.not_mem_nil, or_false] at hf
      rcases hf with rfl <;> (simp only [ae_ev, ae_el, ae_s, ae_k, List.getD_cons_zero, List.getD_cons_succ]; omega)) (aHh.cons (kn1 (i := 6) (by decide) rfl (ev_s rfl) sV) (aHh.cons (kns (by decide) rfl rfl (i := (2 * v + 1)) (by simp only [ae_ev, ae_el, ae_s, ae_k, List.getD_cons_zero, List.getD_cons_succ]; omega) (ev_s rfl) sx) aHh.nil)) (es := [ae_s 0, ae_s 1]) (xs := [ae_k (v : Int), ae_k b]) rfl (by simp only [List.map_cons, List.map_nil, ae_ev_k, ev_s (ρ := [(v : Int), b, V, n, (jS w 110 (2 * v + 1))]) (k := 0) (x := (v : Int)) rfl, ev_s (ρ := [(v : Int), b, V, n, (jS w 110 (2 * v + 1))]) (k := 1) (x := b) rfl]) (by rfl) ha) (fun v w2 h => ?_)
    obtain ⟨z, g1, g2, -, -, -, g6, g7, -⟩ := h
    exact ⟨z, g1, g2, g6, g7⟩
  rw [if_neg b1]
  by_cases b2 : 10 ≤ b ∧ b ≤ 9 + n
  · rw [if_pos b2]
    obtain ⟨k, ek⟩ : ∃ k, 4 * (9 * v + (b - 10).toNat) = k := ⟨_, rfl⟩
    rw [ek]
    have sx := jLay_sl a5 (vj_111 k (by omega))
    have bx := sx.i32
    refine vfin (log := []) (r := ae_ev [(v : Int), b, V, n, (jS w 111 k)] (ae_s 4)) rfl (ev_s rfl) (lg_god hf hT a5 a6 a7 (t := vr_t4) (by decide) vr_k4 (ρ := [(v : Int), b, V, n, (jS w 111 k)]) ⟨⟨by omega, by omega⟩, ⟨by omega, by omega⟩, ⟨by omega, by omega⟩, ⟨by omega, by omega⟩, bx, trivial⟩ (by rfl) (fun f hf => by
      simp only [vr_t4, List.mem_cons, List.not_mem_nil, or_false] at hf
      rcases hf with rfl | rfl <;> (simp only [ae_ev, ae_el, ae_s, ae_k, List.getD_cons_zero, List.getD_cons_succ]; omega)) (aHh.cons (kn1 (i := 6) (by decide) rfl (ev_s rfl) sV) (aHh.cons (kns (by decide) rfl rfl (i := (2 * v)) (by simp only [ae_ev, ae_el, ae_s, ae_k, List.getD_cons_zero, List.getD_cons_succ]; omega) (ev_s rfl) sn) (aHh.cons (kns (by decide) rfl rfl (i := k) (by simp only [ae_ev, ae_el, ae_s, ae_k, List.getD_cons_zero, List.getD_cons_succ]; omega) (ev_s rfl) sx) aHh.nil))) (es := [ae_s 0, ae_s 1]) (xs := [ae_k (v : Int), ae_k b]) rfl (by simp only [List.map_cons, List.map_nil, ae_ev_k, ev_s (ρ := [(v : Int), b, V, n, (jS w 111 k)]) (k := 0) (x := (v : Int)) rfl, ev_s (ρ := [(v : Int), b, V, n, (jS w 111 k)]) (k := 1) (x := b) rfl]) (by rfl) ha) (fun v w2 h => ?_)
    obtain ⟨z, g1, g2, -, -, -, g6, g7, -⟩ := h
    exact ⟨z, g1, g2, g6, g7⟩
  rw [if_neg b2]
  by_cases b3 : 30 ≤ b ∧ b ≤ 29 + n
  · rw [if_pos b3]
    obtain ⟨k, ek⟩ : ∃ k, 4 * (9 * v + (b - 30).toNat) + 1 = k := ⟨_, rfl⟩
    rw [ek]
    have sx := jLay_sl a5 (vj_111 k (by omega))
    have bx := sx.i32
    refine vfin (log := []) (r := ae_ev [(v : Int), b, V, n, (jS w 111 k)] (ae_s 4)) rfl (ev_s rfl) (lg_god hf hT a5 a6 a7 (t := vr_t5) (by decide) vr_k5 (ρ := [(v : Int), b, V, n, (jS w 111 k)]) ⟨⟨by omega, by omega⟩, ⟨by omega, by omega⟩, ⟨by omega, by omega⟩, ⟨by omega, by omega⟩, bx, trivial⟩ (by rfl) (fun f hf => by
      simp only [vr_t5, List.mem_cons, List.not_mem_nil, or_false] at hf
      rcases hf with rfl | rfl <;> (simp only [ae_ev, ae_el, ae_s, ae_k, List.getD_cons_zero, List.getD_cons_succ]; omega)) (aHh.cons (kn1 (i := 6) (by decide) rfl (ev_s rfl) sV) (aHh.cons (kns (by decide) rfl rfl (i := (2 * v)) (by simp only [ae_ev, ae_el, ae_s, ae_k, List.getD_cons_zero, List.getD_cons_succ]; omega) (ev_s rfl) sn) (aHh.cons (kns (by decide) rfl rfl (i := k) (by simp only [ae_ev, ae_el, ae_s, ae_k, List.getD_cons_zero, List.getD_cons_succ]; omega) (ev_s rfl) sx) aHh.nil))) (es := [ae_s 0, ae_s 1]) (xs := [ae_k (v : Int), ae_k b]) rfl (by simp only [List.map_cons, List.map_nil, ae_ev_k, ev_s (ρ := [(v : Int), b, V, n, (jS w 111 k)]) (k := 0) (x := (v : Int)) rfl, ev_s (ρ := [(v : Int), b, V, n, (jS w 111 k)]) (k := 1) (x := b) rfl]) (by rfl) ha) (fun v w2 h => ?_)
    obtain ⟨z, g1, g2, -, -, -, g6, g7, -⟩ := h
    exact ⟨z, g1, g2, g6, g7⟩
  rw [if_neg b3]
  by_cases b4 : b < 0
  · skip
    refine vfin (log := []) (r := ae_ev [(v : Int), b, V, n] (ae_k (-1))) rfl ae_ev_k (lg_god hf hT a5 a6 a7 (t := vr_t6) (by decide) vr_k6 (ρ := [(v : Int), b, V, n]) ⟨⟨by omega, by omega⟩, ⟨by omega, by omega⟩, ⟨by omega, by omega⟩, ⟨by omega, by omega⟩, trivial⟩ (by rfl) (fun f hf => by
      simp only [vr_t6, List.mem_cons, List.not_mem_nil, or_false] at hf
      rcases hf with rfl <;> (simp only [ae_ev, ae_el, ae_s, ae_k, List.getD_cons_zero, List.getD_cons_succ]; omega)) (aHh.cons (kn1 (i := 6) (by decide) rfl (ev_s rfl) sV) (aHh.cons (kns (by decide) rfl rfl (i := (2 * v)) (by simp only [ae_ev, ae_el, ae_s, ae_k, List.getD_cons_zero, List.getD_cons_succ]; omega) (ev_s rfl) sn) aHh.nil)) (es := [ae_s 0, ae_s 1]) (xs := [ae_k (v : Int), ae_k b]) rfl (by simp only [List.map_cons, List.map_nil, ae_ev_k, ev_s (ρ := [(v : Int), b, V, n]) (k := 0) (x := (v : Int)) rfl, ev_s (ρ := [(v : Int), b, V, n]) (k := 1) (x := b) rfl]) (by rfl) ha) (fun v w2 h => ?_)
    obtain ⟨z, g1, g2, -, -, -, g6, g7, -⟩ := h
    exact ⟨z, g1, g2, g6, g7⟩
  by_cases b5 : b ≤ 9
  · skip
    refine vfin (log := []) (r := ae_ev [(v : Int), b, V, n] (ae_k (-1))) rfl ae_ev_k (lg_god hf hT a5 a6 a7 (t := vr_t7) (by decide) vr_k7 (ρ := [(v : Int), b, V, n]) ⟨⟨by omega, by omega⟩, ⟨by omega, by omega⟩, ⟨by omega, by omega⟩, ⟨by omega, by omega⟩, trivial⟩ (by rfl) (fun f hf => by
      simp only [vr_t7, List.mem_cons, List.not_mem_nil, or_false] at hf
      rcases hf with rfl <;> (simp only [ae_ev, ae_el, ae_s, ae_k, List.getD_cons_zero, List.getD_cons_succ]; omega)) (aHh.cons (kn1 (i := 6) (by decide) rfl (ev_s rfl) sV) (aHh.cons (kns (by decide) rfl rfl (i := (2 * v)) (by simp only [ae_ev, ae_el, ae_s, ae_k, List.getD_cons_zero, List.getD_cons_succ]; omega) (ev_s rfl) sn) aHh.nil)) (es := [ae_s 0, ae_s 1]) (xs := [ae_k (v : Int), ae_k b]) rfl (by simp only [List.map_cons, List.map_nil, ae_ev_k, ev_s (ρ := [(v : Int), b, V, n]) (k := 0) (x := (v : Int)) rfl, ev_s (ρ := [(v : Int), b, V, n]) (k := 1) (x := b) rfl]) (by rfl) ha) (fun v w2 h => ?_)
    obtain ⟨z, g1, g2, -, -, -, g6, g7, -⟩ := h
    exact ⟨z, g1, g2, g6, g7⟩
  by_cases b6 : b ≤ 29
  · skip
    refine vfin (log := []) (r := ae_ev [(v : Int), b, V, n] (ae_k (-1))) rfl ae_ev_k (lg_god hf hT a5 a6 a7 (t := vr_t8) (by decide) vr_k8 (ρ := [(v : Int), b, V, n]) ⟨⟨by omega, by omega⟩, ⟨by omega, by omega⟩, ⟨by omega, by omega⟩, ⟨by omega, by omega⟩, trivial⟩ (by rfl) (fun f hf => by
      simp only [vr_t8, List.mem_cons, List.not_mem_nil, or_false] at hf
      rcases hf with rfl | rfl <;> (simp only [ae_ev, ae_el, ae_s, ae_k, List.getD_cons_zero, List.getD_cons_succ]; omega)) (aHh.cons (kn1 (i := 6) (by decide) rfl (ev_s rfl) sV) (aHh.cons (kns (by decide) rfl rfl (i := (2 * v)) (by simp only [ae_ev, ae_el, ae_s, ae_k, List.getD_cons_zero, List.getD_cons_succ]; omega) (ev_s rfl) sn) aHh.nil)) (es := [ae_s 0, ae_s 1]) (xs := [ae_k (v : Int), ae_k b]) rfl (by simp only [List.map_cons, List.map_nil, ae_ev_k, ev_s (ρ := [(v : Int), b, V, n]) (k := 0) (x := (v : Int)) rfl, ev_s (ρ := [(v : Int), b, V, n]) (k := 1) (x := b) rfl]) (by rfl) ha) (fun v w2 h => ?_)
    obtain ⟨z, g1, g2, -, -, -, g6, g7, -⟩ := h
    exact ⟨z, g1, g2, g6, g7⟩
  refine vfin (log := []) (r := ae_ev [(v : Int), b, V, n] (ae_k (-1))) rfl ae_ev_k (lg_god hf hT a5 a6 a7 (t := vr_t9) (by decide) vr_k9 (ρ := [(v : Int), b, V, n]) ⟨⟨by omega, by omega⟩, ⟨by omega, by omega⟩, ⟨by omega, by omega⟩, ⟨by omega, by omega⟩, trivial⟩ (by rfl) (fun f hf => by
    simp only [vr_t9, List.mem_cons, List.not_mem_nil, or_false] at hf
    rcases hf with rfl | rfl <;> (simp only [ae_ev, ae_el, ae_s, ae_k, List.getD_cons_zero, List.getD_cons_succ]; omega)) (aHh.cons (kn1 (i := 6) (by decide) rfl (ev_s rfl) sV) (aHh.cons (kns (by decide) rfl rfl (i := (2 * v)) (by simp only [ae_ev, ae_el, ae_s, ae_k, List.getD_cons_zero, List.getD_cons_succ]; omega) (ev_s rfl) sn) aHh.nil)) (es := [ae_s 0, ae_s 1]) (xs := [ae_k (v : Int), ae_k b]) rfl (by simp only [List.map_cons, List.map_nil, ae_ev_k, ev_s (ρ := [(v : Int), b, V, n]) (k := 0) (x := (v : Int)) rfl, ev_s (ρ := [(v : Int), b, V, n]) (k := 1) (x := b) rfl]) (by rfl) ha) (fun v w2 h => ?_)
  obtain ⟨z, g1, g2, -, -, -, g6, g7, -⟩ := h
  exact ⟨z, g1, g2, g6, g7⟩
end VV
