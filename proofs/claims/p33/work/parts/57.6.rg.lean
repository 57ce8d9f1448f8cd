/-! THE ROAD, the reference: the search -/
section
set_option maxRecDepth 100000
theorem fr_0 : lp_chk (aG00 []) 84 265 (0, [(1, 4), (1, 99)], [], [], [(0, .inr (0, 99)), (1, .inl (ae_s 0)), (2, .inl (ae_s 1))], []) 17 [(0, .inr (0, 99)), (1, .inl (ae_s 0)), (2, .inl (ae_s 1))] [] [(99, some (ae_k 32, ae_k 1)), (123, some (ae_k 0, ae_s 0)), (99, some (ae_k 36, ae_k 0))] = true := by decide +kernel
theorem fr_h : hp_chk gV0 1000 84 265 (17, [(1, 4), (1, 99)], [], [], [(0, .inr (0, 99)), (1, .inl (ae_s 0)), (2, .inl (ae_s 1))], []) [] [(19, [(1, 4), (1, 99)], [], [(0, .inr (0, 99)), (1, .inl (ae_s 0)), (2, .inl (ae_s 1))], [.inl (ae_k 0), .inr (0, 99)], [], [], mMU)] = true := by decide +kernel
theorem fr_e0 : hp_chk gV0 1000 84 265 (22, [(1, 4), (1, 99)], [], [((99, ae_k 36), ae_k 0)], [(0, .inr (0, 99)), (1, .inl (ae_s 0)), (2, .inl (ae_s 1))], [.inl (ae_k 0)]) [] [(204, [(1, 4), (1, 99)], [], [], [.inl (ae_k 0)], [], [], mMU)] = true := by decide +kernel
theorem fr_e1 : hp_chk gV0 1000 84 265 (22, [(1, 4), (1, 99), (1, 5)], [], [((99, ae_k 36), ae_s 2)], [(0, .inr (0, 99)), (1, .inl (ae_s 0)), (2, .inl (ae_s 1))], [.inl (ae_k 0)]) [] [(204, [(1, 4), (1, 99), (1, 5)], [], [], [.inl (ae_k 1)], [], [], mMU)] = true := by decide +kernel
theorem fr_1 : hp_chk gV0 1000 84 265 (22, [(1, 4), (1, 99)], [], [], [(0, .inr (0, 99)), (1, .inl (ae_s 0)), (2, .inl (ae_s 1))], [.inl (ae_k 1)]) [] [(33, [(1, 4), (1, 99)], [], [(0, .inr (0, 99)), (1, .inl (ae_s 0)), (2, .inl (ae_s 1)), (3, .inl (ae_s 1)), (4, .inl (ae_k 0)), (5, .inl (ae_k 1))], [], [], [], mMU)] = true := by decide +kernel
theorem fr_2 : hp_chk gV0 1000 84 265 (33, [(1, 4), (1, 99), (0, 99), (0, 45), (1, 4), (2, 5), (0, 4), (0, 4), (0, 999)], [([(4, 1), (5, (-1))], 1)], [((99, ae_k 32), ae_s 5), ((123, ([(4, 1)], (-1))), ae_s 6), ((123, ae_s 4), ae_s 7), ((115, ([(6, 5), (7, 1)], 0)), ae_s 8)], [(0, .inr (0, 99)), (1, .inl (ae_s 0)), (2, .inl (ae_s 1)), (3, .inl (ae_s 2)), (4, .inl (ae_s 3)), (5, .inl (ae_s 4))], []) [] [(74, [(1, 4), (1, 99), (0, 99), (0, 45), (1, 4), (2, 5), (0, 4), (0, 4), (0, 999)], [], [(0, .inr (0, 99)), (1, .inl (ae_s 0)), (2, .inl (ae_s 1)), (3, .inl (ae_s 2)), (4, .inl (ae_s 3)), (5, .inl (ae_s 4)), (6, .inl (ae_s 8))], [.inl (ae_k 100), .inl (ae_s 8), .inl (ae_s 2), .inl (ae_s 2)], [], [], mMU)] = true := by decide +kernel
theorem fr_3 : hp_chk gV0 1000 84 265 (82, [(1, 4), (1, 99), (0, 99), (0, 45), (1, 4), (0, 999), (0, 99)], [], [], [(0, .inr (0, 99)), (1, .inl (ae_s 0)), (2, .inl (ae_s 1)), (3, .inl (ae_s 2)), (4, .inl (ae_s 3)), (5, .inl (ae_s 4)), (6, .inl (ae_s 5))], [.inl (ae_s 6), .inl (ae_s 2)]) [] [(90, [(1, 4), (1, 99), (0, 99), (0, 45), (1, 4), (0, 999), (0, 99)], [], [(0, .inr (0, 99)), (1, .inl (ae_s 0)), (2, .inl (ae_s 1)), (3, .inl (([(2, 1), (6, (-1))], 0))), (4, .inl (ae_s 3)), (5, .inl (ae_s 4))], [.inl (ae_k 100), .inl (ae_s 5), .inl (ae_s 3)], [], [], mMU)] = true := by decide +kernel
theorem fr_4 : hp_chk gV0 1000 84 265 (91, [(1, 4), (1, 99), (0, 99), (0, 45), (1, 4), (0, 9)], [], [], [(0, .inr (0, 99)), (1, .inl (ae_s 0)), (2, .inl (ae_s 1)), (3, .inl (ae_s 2)), (4, .inl (ae_s 3)), (5, .inl (ae_s 4))], [.inl (ae_s 5), .inl (ae_s 3)]) [] [(33, [(1, 4), (1, 99), (0, 99), (0, 45), (1, 4), (0, 9)], [], [(0, .inr (0, 99)), (1, .inl (ae_s 0)), (2, .inl (ae_s 1)), (3, .inl (ae_s 2)), (4, .inl (([(3, 1), (5, 1)], 0))), (5, .inl (([(4, 1)], 1)))], [], [], [], mMU)] = true := by decide +kernel
theorem fr_A : lp_chk (aG00 []) 84 265 (33, [(1, 4), (1, 99), (0, 99), (0, 45), (2, 5)], [], [((99, ae_k 32), ae_s 4), ((99, ae_k 36), ae_k 0)], [(0, .inr (0, 99)), (1, .inl (ae_s 0)), (2, .inl (ae_s 1)), (3, .inl (ae_s 2)), (4, .inl (ae_s 3)), (5, .inl (ae_s 4))], []) 160 [(0, .inr (0, 99)), (1, .inl (ae_s 0)), (2, .inl (ae_s 1)), (5, .inl (ae_k 0))] [] [(99, some (ae_k 36, ae_s 4)), (99, some (ae_k 38, ae_s 3)), (99, some (ae_k 37, ([(1, 1), (2, (-1))], 0)))] = true := by decide +kernel
theorem fr_B : lp_chk (aG00 []) 84 265 (33, [(1, 4), (1, 99), (0, 99), (0, 45), (2, 5), (1, 5), (0, 99)], [([(1, 1), (2, (-1)), (6, (-1))], 1)], [((99, ae_k 32), ae_s 4), ((99, ae_k 36), ae_s 5), ((99, ae_k 37), ae_s 6)], [(0, .inr (0, 99)), (1, .inl (ae_s 0)), (2, .inl (ae_s 1)), (3, .inl (ae_s 2)), (4, .inl (ae_s 3)), (5, .inl (ae_s 4))], []) 160 [(0, .inr (0, 99)), (1, .inl (ae_s 0)), (2, .inl (ae_s 1)), (5, .inl (ae_k 0))] [] [(99, some (ae_k 36, ae_s 4)), (99, some (ae_k 38, ae_s 3)), (99, some (ae_k 37, ([(1, 1), (2, (-1))], 0)))] = true := by decide +kernel
theorem fr_C : lp_chk (aG00 []) 84 265 (33, [(1, 4), (1, 99), (0, 99), (0, 45), (2, 5), (1, 5), (0, 45)], [([(3, 1), (6, (-1))], 1)], [((99, ae_k 32), ae_s 4), ((99, ae_k 36), ae_s 5), ((99, ae_k 37), ([(1, 1), (2, (-1))], 0)), ((99, ae_k 38), ae_s 6)], [(0, .inr (0, 99)), (1, .inl (ae_s 0)), (2, .inl (ae_s 1)), (3, .inl (ae_s 2)), (4, .inl (ae_s 3)), (5, .inl (ae_s 4))], []) 160 [(0, .inr (0, 99)), (1, .inl (ae_s 0)), (2, .inl (ae_s 1)), (5, .inl (ae_k 0))] [] [(99, some (ae_k 36, ae_s 4)), (99, some (ae_k 38, ae_s 3)), (99, some (ae_k 37, ([(1, 1), (2, (-1))], 0)))] = true := by decide +kernel
theorem fr_D : hp_chk gV0 1000 84 265 (33, [(1, 4), (1, 99), (0, 99), (0, 45), (2, 5), (1, 5), (0, 99)], [([(1, (-1)), (2, 1), (6, 1)], 1)], [((99, ae_k 32), ae_s 4), ((99, ae_k 36), ae_s 5), ((99, ae_k 37), ae_s 6)], [(0, .inr (0, 99)), (1, .inl (ae_s 0)), (2, .inl (ae_s 1)), (3, .inl (ae_s 2)), (4, .inl (ae_s 3)), (5, .inl (ae_s 4))], []) [] [(17, [(1, 4), (1, 99), (0, 99), (0, 45), (2, 5), (1, 5), (0, 99)], [], [(0, .inr (0, 99)), (1, .inl (ae_s 0)), (2, .inl (ae_s 1))], [], [], [], mMU)] = true := by decide +kernel
theorem fr_E : hp_chk gV0 1000 84 265 (33, [(1, 4), (1, 99), (0, 99), (0, 45), (2, 5), (1, 5), (0, 45)], [([(3, (-1)), (6, 1)], 0)], [((99, ae_k 32), ae_s 4), ((99, ae_k 36), ae_s 5), ((99, ae_k 37), ([(1, 1), (2, (-1))], 0)), ((99, ae_k 38), ae_s 6)], [(0, .inr (0, 99)), (1, .inl (ae_s 0)), (2, .inl (ae_s 1)), (3, .inl (ae_s 2)), (4, .inl (ae_s 3)), (5, .inl (ae_s 4))], []) [] [(17, [(1, 4), (1, 99), (0, 99), (0, 45), (2, 5), (1, 5), (0, 45)], [], [(0, .inr (0, 99)), (1, .inl (ae_s 0)), (2, .inl (ae_s 1))], [], [], [], mMU)] = true := by decide +kernel
theorem fr_k1 : lp_chk (aG00 []) 84 265 (160, [(1, 4), (1, 99), (0, 4), (2, 5), (0, 4)], [([(2, 1), (3, (-1))], 1)], [((99, ae_k 32), ae_s 3), ((123, ae_s 2), ae_s 4)], [(0, .inr (0, 99)), (1, .inl (ae_s 0)), (2, .inl (ae_s 1)), (5, .inl (ae_s 2))], []) 160 [(0, .inr (0, 99)), (1, .inl (ae_s 0)), (2, .inl (ae_s 1)), (5, .inl (([(2, 1)], 1)))] [] [(126, some (ae_s 2, ae_s 4))] = true := by decide +kernel
theorem fr_k2 : hp_chk gV0 1000 84 265 (160, [(1, 4), (1, 99), (2, 5)], [], [((99, ae_k 32), ae_s 2)], [(0, .inr (0, 99)), (1, .inl (ae_s 0)), (2, .inl (ae_s 1)), (5, .inl (ae_s 2))], []) [] [(17, [(1, 4), (1, 99), (2, 5)], [], [(0, .inr (0, 99)), (1, .inl (ae_s 0)), (2, .inl (ae_s 1))], [], [], [], mMU)] = true := by decide +kernel
theorem rr_b1 : hp_chk gV0 1000 85 264 (0, [aF, aF, aF], [ae_s 0], [], [(0, .inr (0, 99)), (1, .inl (ae_s 0)), (2, .inl (ae_s 1)), (3, .inl (ae_s 2))], []) [] [(24, [aF, aF, aF], [], [], [.inl (ae_k (-1))], [], [], mMU)] = true := by decide +kernel
theorem rr_b2 : hp_chk gV0 1000 85 264 (0, [aF, aF, aF], [([(0, (-1))], 5)], [], [(0, .inr (0, 99)), (1, .inl (ae_s 0)), (2, .inl (ae_s 1)), (3, .inl (ae_s 2))], []) [] [(24, [aF, aF, aF], [], [], [.inl (ae_k (-1))], [], [], mMU)] = true := by decide +kernel
theorem rr_b3 : hp_chk gV0 1000 85 264 (0, [(1, 4), aF, aF], [ae_s 1], [], [(0, .inr (0, 99)), (1, .inl (ae_s 0)), (2, .inl (ae_s 1)), (3, .inl (ae_s 2))], []) [] [(24, [(1, 4), aF, aF], [], [], [.inl (ae_k (-1))], [], [], mMU)] = true := by decide +kernel
theorem rr_b4 : hp_chk gV0 1000 85 264 (0, [(1, 4), aF, aF], [([(1, (-1))], 100)], [], [(0, .inr (0, 99)), (1, .inl (ae_s 0)), (2, .inl (ae_s 1)), (3, .inl (ae_s 2))], []) [] [(24, [(1, 4), aF, aF], [], [], [.inl (ae_k (-1))], [], [], mMU)] = true := by decide +kernel
theorem rr_b5 : hp_chk gV0 1000 85 264 (0, [(1, 4), (1, 99), aF], [([(2, 1)], 1)], [], [(0, .inr (0, 99)), (1, .inl (ae_s 0)), (2, .inl (ae_s 1)), (3, .inl (ae_s 2))], []) [] [(24, [(1, 4), (1, 99), aF], [], [], [.inl (ae_k (-1))], [], [], mMU)] = true := by decide +kernel
theorem rr_0 : hp_chk gV0 1000 85 264 (0, [(1, 4), (1, 99), (0, aI1)], [], [], [(0, .inr (0, 99)), (1, .inl (ae_s 0)), (2, .inl (ae_s 1)), (3, .inl (ae_s 2))], []) [] [(28, [(1, 4), (1, 99), (0, aI1)], [], [(0, .inr (0, 99)), (1, .inl (ae_s 0)), (2, .inl (ae_s 1)), (3, .inl (ae_s 2))], [.inl (ae_s 1), .inl (ae_s 0), .inr (0, 99)], [], [], mMU)] = true := by decide +kernel
theorem rr_1 : hp_chk gV0 1000 85 264 (31, [(1, 4), (1, 99), (0, aI1)], [], [], [(0, .inr (0, 99)), (1, .inl (ae_s 0)), (2, .inl (ae_s 1)), (3, .inl (ae_s 2))], [.inl (ae_k 0)]) [] [(36, [(1, 4), (1, 99), (0, aI1)], [], [], [.inl (ae_k (-3))], [], [], mMU)] = true := by decide +kernel
theorem rr_2 : hp_chk gV0 1000 85 264 (31, [(1, 4), (1, 99), (0, 99)], [], [((99, ae_k 37), ae_s 2)], [(0, .inr (0, 99)), (1, .inl (ae_s 0)), (2, .inl (ae_s 1)), (3, .inl (ae_k 0))], [.inl (ae_k 1)]) [] [(57, [(1, 4), (1, 99), (0, 99)], [], [], [.inl (ae_s 2)], [], [], mMU)] = true := by decide +kernel
theorem rr_3 : hp_chk gV0 1000 85 264 (31, [(1, 4), (1, 99), (0, 45)], [], [((99, ae_k 38), ae_s 2)], [(0, .inr (0, 99)), (1, .inl (ae_s 0)), (2, .inl (ae_s 1)), (3, .inl (ae_k 1))], [.inl (ae_k 1)]) [] [(57, [(1, 4), (1, 99), (0, 45)], [], [], [.inl (ae_s 2)], [], [], mMU)] = true := by decide +kernel
theorem rr_4 : hp_chk gV0 1000 85 264 (31, [(1, 4), (1, 99), (2, 6), (1, 5), aF], [([(2, 1), (3, (-1))], (-1))], [((99, ae_k 36), ae_s 3), ((126, ([(2, 1)], (-2))), ae_s 4)], [(0, .inr (0, 99)), (1, .inl (ae_s 0)), (2, .inl (ae_s 1)), (3, .inl (ae_s 2))], [.inl (ae_k 1)]) [] [(81, [(1, 4), (1, 99), (2, 6), (1, 5), aF], [], [], [.inl (ae_s 4)], [], [], mMU)] = true := by decide +kernel
theorem rr_5 : hp_chk gV0 1000 85 264 (31, [(1, 4), (1, 99), (2, aI1), (1, 5)], [([(2, (-1)), (3, 1)], 2)], [((99, ae_k 36), ae_s 3)], [(0, .inr (0, 99)), (1, .inl (ae_s 0)), (2, .inl (ae_s 1)), (3, .inl (ae_s 2))], [.inl (ae_k 1)]) [] [(81, [(1, 4), (1, 99), (2, aI1), (1, 5)], [], [], [.inl (ae_k (-3))], [], [], mMU)] = true := by decide +kernel
end
section RG
variable {E : mj_E} {Q : Option Value → va_W → Prop} {al : List Nat} {w w0 w1 w2 : va_W} {S : Nat → Nat} {n port : Nat}
def rsb (S : Nat → Nat) (n : Nat) (w : va_W) (st : List Nat) : Prop := st.length ≤ 5 ∧ jS w 99 36 = (st.length : Int) ∧ (st ≠ [] → jS w 99 37 = (n : Int) - (rd_L S n st : Int) ∧ jS w 99 38 = (rd_W S st : Int) ∧ ∀ i, i < st.length → jS w 126 i = (rd_at st i : Int))
theorem rsb.on {st : List Nat} (h : rsb S n w1 st) (b : rb w1 w) : rsb S n w st := ⟨h.1, (b.1 36 (by decide)).trans h.2.1, fun hs => ⟨(b.1 37 (by decide)).trans (h.2.2 hs).1, (b.1 38 (by decide)).trans (h.2.2 hs).2.1, fun i hi => (b.2 i).trans ((h.2.2 hs).2.2 i hi)⟩⟩
theorem jL_126 : ∀ k, k < 5 → (jLay 126 k).isSome = true := by decide +kernel
/-- what is left and how long it takes, sail by sail -/
theorem su_go (hf : E.2.2.2.1.category = 1) (hT : ∀ σ : List Int, aTb E σ aTabs) (hp0 : 1 ≤ port ∧ port ≤ 4) (hn : 1 ≤ n ∧ n ≤ 99) (H : re w0 S) (hv : rv E al w0 w) {u : List Nat} (hu : 2 ≤ u.length ∧ u.length ≤ 5) (h4 : ∀ q ∈ u, q < 5) (hp : rp w u) (hq : hG E al 84 265 33 [(0, .inr (0, 99)), (1, .inl (ae_k (port : Int))), (2, .inl (ae_k (n : Int))), (3, .inl (ae_k (rd_L S n u : Int))), (4, .inl (ae_k (rd_W S u : Int))), (5, .inl (ae_k (u.length : Int)))] [] [] w Q) :
    ∀ (m i : Nat), i + m = u.length → 1 ≤ i → hG E al 84 265 33 [(0, .inr (0, 99)), (1, .inl (ae_k (port : Int))), (2, .inl (ae_k (n : Int))), (3, .inl (ae_k (rd_L S n (u.drop m) : Int))), (4, .inl (ae_k (rd_W S (u.drop m) : Int))), (5, .inl (ae_k (i : Int)))] [] [] w Q := by
  have hv0 := hv
  obtain ⟨a5, a6, a7, d, d9⟩ := hv
  have sl := hp.len a5
  intro m
  induction m with
  | zero =>
    intro i hi h1
    have e : i = u.length := by omega
    subst e
    exact hq
  | succ m ih =>
    intro i hi h1
    have em : m < u.length := by omega
    have em1 : m + 1 < u.length := by omega
    have d1 : u.drop m = u[m] :: u.drop (m + 1) := List.drop_eq_getElem_cons em
    have d2 : u.drop (m + 1) = u[m + 1] :: u.drop (m + 1 + 1) := List.drop_eq_getElem_cons em1
    have ea : rd_at u (i - 1) = u[m + 1] := by
      unfold rd_at
      rw [show u.length - 1 - (i - 1) = m + 1 by omega, List.getD_eq_getElem?_getD, List.getElem?_eq_getElem em1]
      rfl
    have eb : rd_at u i = u[m] := by
      unfold rd_at
      rw [show u.length - 1 - i = m by omega, List.getD_eq_getElem?_getD, List.getElem?_eq_getElem em]
      rfl
    have va := hp.sl a5 (i := i - 1) (by omega) (by omega)
    have vb := hp.sl a5 (i := i) (by omega) (by omega)
    rw [ea] at va
    rw [eb] at vb
    have ha := h4 _ (List.getElem_mem em1)
    have hb := h4 _ (List.getElem_mem em)
    have bl := rd_L_le (S := S) (n := n) (w := u.drop (m + 1))
    have bw := rd_W_le (S := S) H.2 (w := u.drop (m + 1))
    have dl : (u.drop (m + 1)).length = i := by simp; omega
    rw [dl] at bw
    have eL : rd_L S n (u.drop m) = rd_L S n (u.drop (m + 1)) - (rd_L S n (u.drop (m + 1)) * (S (5 * u[m + 1] + u[m]) % 100) + 99) / 100 := by
      rw [d1, d2]
      rfl
    have eW : rd_W S (u.drop m) = rd_W S (u.drop (m + 1)) + S (5 * u[m + 1] + u[m]) / 100 := by
      rw [d1, d2]
      rfl
    generalize u[m + 1] = a at *
    generalize u[m] = b at *
    have hS := H.2 (5 * a + b)
    have vs := H.sl hv0 (k := 5 * a + b) (by omega)
    have nx := ih (i + 1) (by omega) (by omega)
    rw [eL, eW] at nx
    generalize rd_L S n (u.drop (m + 1)) = L at *
    generalize rd_W S (u.drop (m + 1)) = K at *
    have bk : (L * (S (5 * a + b) % 100) + 99) / 100 ≤ L := by
      have : L * (S (5 * a + b) % 100) ≤ L * 99 := Nat.mul_le_mul_left _ (by omega)
      omega
    refine ky_go hf hT a5 (by decide) (ρ := [(port : Int), (n : Int), (L : Int), (K : Int), (i : Int), (u.length : Int), (a : Int), (b : Int), (S (5 * a + b) : Int)]) fr_2 ⟨⟨by omega, by omega⟩, ⟨by omega, by omega⟩, ⟨by omega, by omega⟩, ⟨by omega, by omega⟩, ⟨by omega, by omega⟩, ⟨by omega, by omega⟩, ⟨by omega, by omega⟩, ⟨by omega, by omega⟩, ⟨by omega, by omega⟩, trivial⟩ (aFs.cons rfl (by simp only [ae_ev, ae_el, ae_s, ae_k, List.getD_cons_zero, List.getD_cons_succ]; omega) aFs.nil) (aHh.cons (kn1 (i := 32) (by decide) rfl (ev_s rfl) sl) (aHh.cons (kns (by decide) rfl rfl (i := i - 1) (by simp only [ae_ev, ae_el, ae_s, ae_k, List.getD_cons_zero, List.getD_cons_succ]; omega) (ev_s rfl) va) (aHh.cons (kns (by decide) rfl rfl (i := i) (ev_s rfl) (ev_s rfl) vb) (aHh.cons (kns (by decide) rfl rfl (i := 5 * a + b) (by simp only [ae_ev, ae_el, ae_s, ae_k, List.getD_cons_zero, List.getD_cons_succ]; omega) (ev_s rfl) vs) aHh.nil)))) (by rfl) (by rfl) (lEr (lEi (ev_s rfl) (lEi (ev_s rfl) (lEi (ev_s rfl) (lEi (ev_s rfl) (lEi (ev_s rfl) lE0)))))) sE0 (lvk2 := [(0, .inr (0, 99)), (1, .inl (ae_k ((port : Int)))), (2, .inl (ae_k ((n : Int)))), (3, .inl (ae_k ((L : Int)))), (4, .inl (ae_k ((K : Int)))), (5, .inl (ae_k ((i : Int)))), (6, .inl (ae_k ((S (5 * a + b) : Int))))]) (lEr (lEi (ev_s rfl) (lEi (ev_s rfl) (lEi (ev_s rfl) (lEi (ev_s rfl) (lEi (ev_s rfl) (lEi (ev_s rfl) lE0))))))) (stk2 := [.inl (ae_k (100)), .inl (ae_k ((S (5 * a + b) : Int))), .inl (ae_k ((L : Int))), .inl (ae_k ((L : Int)))]) (sEi ae_ev_k (sEi (ev_s rfl) (sEi (ev_s rfl) (sEi (ev_s rfl) sE0)))) ?_
    refine hg_lost (by decide +kernel) (by decide +kernel) (by decide +kernel) (by decide +kernel) (by decide +kernel) (by decide +kernel) (by omega) hS ?_
    refine ky_go hf hT a5 (by decide) (ρ := [(port : Int), (n : Int), (L : Int), (K : Int), (i : Int), (S (5 * a + b) : Int), (((L * (S (5 * a + b) % 100) + 99) / 100 : Nat) : Int)]) fr_3 ⟨⟨by omega, by omega⟩, ⟨by omega, by omega⟩, ⟨by omega, by omega⟩, ⟨by omega, by omega⟩, ⟨by omega, by omega⟩, ⟨by omega, by omega⟩, ⟨by omega, by omega⟩, trivial⟩ aFs.nil aHh.nil (by rfl) (by rfl) (lEr (lEi (ev_s rfl) (lEi (ev_s rfl) (lEi (ev_s rfl) (lEi (ev_s rfl) (lEi (ev_s rfl) (lEi (ev_s rfl) lE0))))))) (sEi (ev_s rfl) (sEi (ev_s rfl) sE0)) (lvk2 := [(0, .inr (0, 99)), (1, .inl (ae_k ((port : Int)))), (2, .inl (ae_k ((n : Int)))), (3, .inl (ae_k (((L - (L * (S (5 * a + b) % 100) + 99) / 100 : Nat) : Int)))), (4, .inl (ae_k ((K : Int)))), (5, .inl (ae_k ((i : Int))))]) (lEr (lEi (ev_s rfl) (lEi (ev_s rfl) (lEi (by simp only [ae_ev, ae_el, ae_s, ae_k, List.getD_cons_zero, List.getD_cons_succ]; omega) (lEi (ev_s rfl) (lEi (ev_s rfl) lE0)))))) (stk2 := [.inl (ae_k (100)), .inl (ae_k ((S (5 * a + b) : Int))), .inl (ae_k ((K : Int)))]) (sEi ae_ev_k (sEi (ev_s rfl) (sEi (ev_s rfl) sE0))) ?_
    refine hg_hund (by decide +kernel) hS ?_
    refine ky_go hf hT a5 (by decide) (ρ := [(port : Int), (n : Int), ((L - (L * (S (5 * a + b) % 100) + 99) / 100 : Nat) : Int), (K : Int), (i : Int), ((S (5 * a + b) / 100 : Nat) : Int)]) fr_4 ⟨⟨by omega, by omega⟩, ⟨by omega, by omega⟩, ⟨by omega, by omega⟩, ⟨by omega, by omega⟩, ⟨by omega, by omega⟩, ⟨by omega, by omega⟩, trivial⟩ aFs.nil aHh.nil (by rfl) (by rfl) (lEr (lEi (ev_s rfl) (lEi (ev_s rfl) (lEi (ev_s rfl) (lEi (ev_s rfl) (lEi (ev_s rfl) lE0)))))) (sEi (ev_s rfl) (sEi (ev_s rfl) sE0)) (lvk2 := [(0, .inr (0, 99)), (1, .inl (ae_k ((port : Int)))), (2, .inl (ae_k ((n : Int)))), (3, .inl (ae_k (((L - (L * (S (5 * a + b) % 100) + 99) / 100 : Nat) : Int)))), (4, .inl (ae_k (((K + S (5 * a + b) / 100 : Nat) : Int)))), (5, .inl (ae_k (((i + 1 : Nat) : Int))))]) (lEr (lEi (ev_s rfl) (lEi (ev_s rfl) (lEi (ev_s rfl) (lEi (by simp only [ae_ev, ae_el, ae_s, ae_k, List.getD_cons_zero, List.getD_cons_succ]; omega) (lEi (by simp only [ae_ev, ae_el, ae_s, ae_k, List.getD_cons_zero, List.getD_cons_succ]; omega) lE0)))))) (stk2 := []) sE0 ?_
    exact nx
/-- the better one's ports -/
theorem ck_go (hf : E.2.2.2.1.category = 1) (hT : ∀ σ : List Int, aTb E σ aTabs) (hp0 : 1 ≤ port ∧ port ≤ 4) (hn : 1 ≤ n ∧ n ≤ 99) {u : List Nat} (hu : 2 ≤ u.length ∧ u.length ≤ 5) (h4 : ∀ q ∈ u, q < 5) (hq : ∀ w2, rv E al w0 w2 → rp w2 u → (∀ k, jS w2 99 k = jS w1 99 k) → (∀ i, i < u.length → jS w2 126 i = (rd_at u i : Int)) → hG E al 84 265 17 [(0, .inr (0, 99)), (1, .inl (ae_k (port : Int))), (2, .inl (ae_k (n : Int)))] [] [] w2 Q) :
    ∀ (m k : Nat) (w : va_W), k + m = u.length → rv E al w0 w → rp w u → (∀ k, jS w 99 k = jS w1 99 k) → (∀ i, i < k → jS w 126 i = (rd_at u i : Int)) → hG E al 84 265 160 [(0, .inr (0, 99)), (1, .inl (ae_k (port : Int))), (2, .inl (ae_k (n : Int))), (5, .inl (ae_k (k : Int)))] [] [] w Q := by
  intro m
  induction m with
  | zero =>
    intro k w hk hv hp h9 hc
    have e : k = u.length := by omega
    subst e
    have hv0 := hv
    obtain ⟨a5, a6, a7, d, d9⟩ := hv
    have sl := hp.len a5
    refine ky_go hf hT a5 (by decide) (ρ := [(port : Int), (n : Int), (u.length : Int)]) fr_k2 ⟨⟨by omega, by omega⟩, ⟨by omega, by omega⟩, ⟨by omega, by omega⟩, trivial⟩ aFs.nil (aHh.cons (kn1 (i := 32) (by decide) rfl (ev_s rfl) sl) aHh.nil) (by rfl) (by rfl) (lEr (lEi (ev_s rfl) (lEi (ev_s rfl) (lEi (ev_s rfl) lE0)))) sE0 (lvk2 := [(0, .inr (0, 99)), (1, .inl (ae_k ((port : Int)))), (2, .inl (ae_k ((n : Int))))]) (lEr (lEi (ev_s rfl) (lEi (ev_s rfl) lE0))) (stk2 := []) sE0 ?_
    exact hq w hv0 hp h9 hc
  | succ m ih =>
    intro k w hk hv hp h9 hc
    have hv0 := hv
    obtain ⟨a5, a6, a7, d, d9⟩ := hv
    have sl := hp.len a5
    have v := hp.sl a5 (i := k) (by omega) (by omega)
    have v4 : rd_at u k < 5 := h4 _ (rd_at_mem.mpr ⟨k, by omega, rfl⟩)
    refine ky_lg hf hT a5 a6 a7 (by decide) (ρ := [(port : Int), (n : Int), (k : Int), (u.length : Int), (rd_at u k : Int)]) fr_k1 ⟨⟨by omega, by omega⟩, ⟨by omega, by omega⟩, ⟨by omega, by omega⟩, ⟨by omega, by omega⟩, ⟨by omega, by omega⟩, trivial⟩ (aFs.cons rfl (by simp only [ae_ev, ae_el, ae_s, ae_k, List.getD_cons_zero, List.getD_cons_succ]; omega) aFs.nil) (aHh.cons (kn1 (i := 32) (by decide) rfl (ev_s rfl) sl) (aHh.cons (kns (by decide) rfl rfl (i := k) (ev_s rfl) (ev_s rfl) v) aHh.nil)) (by rfl) (by rfl) (lEr (lEi (ev_s rfl) (lEi (ev_s rfl) (lEi (ev_s rfl) lE0)))) sE0 (lvk2 := [(0, .inr (0, 99)), (1, .inl (ae_k ((port : Int)))), (2, .inl (ae_k ((n : Int)))), (5, .inl (ae_k (((k + 1 : Nat) : Int))))]) (lEr (lEi (ev_s rfl) (lEi (ev_s rfl) (lEi (by simp only [ae_ev, ae_el, ae_s, ae_k, List.getD_cons_zero, List.getD_cons_succ]; omega) lE0)))) (stk2 := []) sE0 (fun w2 b1 b2 b3 b4 b5 => ?_)
    have f : ∀ q, jS w2 126 q = if q = k then (rd_at u k : Int) else jS w 126 q := fun q => by
      rw [b5 126 q]
      simp [lg_ap, ae_ev, ae_el, ae_s, ae_k]
    refine ih (k + 1) w2 (by omega) (hv0.log b1 b2 b3 b4 (by decide) (fun k _ _ _ _ => b5 99 k)) ⟨(b5 99 32).trans hp.1, fun i hi => (b5 123 i).trans (hp.2 i hi)⟩ (fun q => (b5 99 q).trans (h9 q)) (fun i hi => ?_)
    rw [f]
    by_cases e : i = k
    · rw [if_pos e, e]
    · rw [if_neg e]
      exact hc i (by omega)
/-- the better of the two stays -/
theorem tk_go (hf : E.2.2.2.1.category = 1) (hT : ∀ σ : List Int, aTb E σ aTabs) (hp0 : 1 ≤ port ∧ port ≤ 4) (hn : 1 ≤ n ∧ n ≤ 99) (H : re w0 S) (hv : rv E al w0 w) {u st : List Nat} (hu : 2 ≤ u.length ∧ u.length ≤ 5) (h4 : ∀ q ∈ u, q < 5) (hp : rp w u) (hs : rsb S n w st) (hq : ∀ w2, rv E al w0 w2 → rp w2 u → rsb S n w2 (rd_tk S n st u) → hG E al 84 265 17 [(0, .inr (0, 99)), (1, .inl (ae_k (port : Int))), (2, .inl (ae_k (n : Int)))] [] [] w2 Q) :
    hG E al 84 265 33 [(0, .inr (0, 99)), (1, .inl (ae_k (port : Int))), (2, .inl (ae_k (n : Int))), (3, .inl (ae_k (rd_L S n u : Int))), (4, .inl (ae_k (rd_W S u : Int))), (5, .inl (ae_k (u.length : Int)))] [] [] w Q := by
  have hv0 := hv
  obtain ⟨a5, a6, a7, d, d9⟩ := hv
  have sl := hp.len a5
  have bl := rd_L_le (S := S) (n := n) (w := u)
  have bw := rd_W_le (S := S) H.2 (w := u)
  have bl2 := rd_L_le (S := S) (n := n) (w := st)
  have bw2 := rd_W_le (S := S) H.2 (w := st)
  have hs0 := hs
  obtain ⟨hs1, hs2, hs3⟩ := hs
  have s6 : aSl w 99 36 (st.length : Int) := by rw [← hs2]; exact jLay_sl a5 (by decide +kernel)
  have fin : ∀ w2, aWd E al aLay w2 → aRs aRules w2 → jJ0 w2 → hD [99, 99, 99] w w2 → (∀ k, jS w2 99 k = if k = 36 then (u.length : Int) else if k = 38 then (rd_W S u : Int) else if k = 37 then (n : Int) - (rd_L S n u : Int) else jS w 99 k) → rd_tk S n st u = u → hG E al 84 265 160 [(0, .inr (0, 99)), (1, .inl (ae_k (port : Int))), (2, .inl (ae_k (n : Int))), (5, .inl (ae_k 0))] [] [] w2 Q := by
    intro w2 b1 b2 b3 b4 f9 ht
    have e9 : ∀ c, c ≠ 99 → w2[c]? = w[c]? := fun c hc => b4.2 c (by simp [hc])
    refine ck_go (w1 := w2) hf hT hp0 hn hu h4 (fun w3 v3 p3 h9 h6 => hq w3 v3 p3 ?_) u.length 0 w2 (by omega) (hv0.log b1 b2 b3 b4 (by decide) (fun k k1 k2 k3 k4 => by rw [f9, if_neg k2, if_neg k4, if_neg k3])) ⟨by rw [f9]; exact hp.1, fun i hi => (jS.at (e9 123 (by decide))).trans (hp.2 i hi)⟩ (fun q => rfl) (fun i hi => absurd hi (by omega))
    rw [ht]
    exact ⟨hu.2, by rw [h9, f9, if_pos rfl], fun _ => ⟨by rw [h9, f9]; rfl, by rw [h9, f9]; rfl, h6⟩⟩
  by_cases e0 : st = []
  · subst e0
    refine ky_lg hf hT a5 a6 a7 (by decide) (ρ := [(port : Int), (n : Int), (rd_L S n u : Int), (rd_W S u : Int), (u.length : Int)]) fr_A ⟨⟨by omega, by omega⟩, ⟨by omega, by omega⟩, ⟨by omega, by omega⟩, ⟨by omega, by omega⟩, ⟨by omega, by omega⟩, trivial⟩ aFs.nil (aHh.cons (kn1 (i := 32) (by decide) rfl (ev_s rfl) sl) (aHh.cons (kn1 (i := 36) (by decide) rfl ae_ev_k s6) aHh.nil)) (by rfl) (by rfl) (lEr (lEi (ev_s rfl) (lEi (ev_s rfl) (lEi (ev_s rfl) (lEi (ev_s rfl) (lEi (ev_s rfl) lE0)))))) sE0 (lvk2 := [(0, .inr (0, 99)), (1, .inl (ae_k ((port : Int)))), (2, .inl (ae_k ((n : Int)))), (5, .inl (ae_k (0)))]) (lEr (lEi (ev_s rfl) (lEi (ev_s rfl) (lEi ae_ev_k lE0)))) (stk2 := []) sE0 (fun w2 b1 b2 b3 b4 b5 => ?_)
    exact fin w2 b1 b2 b3 b4 (fun k => by
      rw [b5 99 k]
      simp [lg_ap, ae_ev, ae_el, ae_s, ae_k]
      try (split <;> (try rfl) <;> (try (split <;> (try rfl) <;> (try (split <;> (try rfl) <;> omega)) <;> (try omega))) <;> (try omega))) (by unfold rd_tk; rw [if_neg (by simp)])
  obtain ⟨q3, q4, q5⟩ := hs3 e0
  have hl : 1 ≤ st.length := by
    cases st with
    | nil => exact absurd rfl e0
    | cons a t => simp
  have s7 : aSl w 99 37 ((n : Int) - (rd_L S n st : Int)) := by rw [← q3]; exact jLay_sl a5 (by decide +kernel)
  have s8 : aSl w 99 38 (rd_W S st : Int) := by rw [← q4]; exact jLay_sl a5 (by decide +kernel)
  by_cases c1 : rd_L S n st < rd_L S n u
  · refine ky_lg hf hT a5 a6 a7 (by decide) (ρ := [(port : Int), (n : Int), (rd_L S n u : Int), (rd_W S u : Int), (u.length : Int), (st.length : Int), ((n : Int) - (rd_L S n st : Int))]) fr_B ⟨⟨by omega, by omega⟩, ⟨by omega, by omega⟩, ⟨by omega, by omega⟩, ⟨by omega, by omega⟩, ⟨by omega, by omega⟩, ⟨by omega, by omega⟩, ⟨by omega, by omega⟩, trivial⟩ (aFs.cons rfl (by simp only [ae_ev, ae_el, ae_s, ae_k, List.getD_cons_zero, List.getD_cons_succ]; omega) aFs.nil) (aHh.cons (kn1 (i := 32) (by decide) rfl (ev_s rfl) sl) (aHh.cons (kn1 (i := 36) (by decide) rfl (ev_s rfl) s6) (aHh.cons (kn1 (i := 37) (by decide) rfl (ev_s rfl) s7) aHh.nil))) (by rfl) (by rfl) (lEr (lEi (ev_s rfl) (lEi (ev_s rfl) (lEi (ev_s rfl) (lEi (ev_s rfl) (lEi (ev_s rfl) lE0)))))) sE0 (lvk2 := [(0, .inr (0, 99)), (1, .inl (ae_k ((port : Int)))), (2, .inl (ae_k ((n : Int)))), (5, .inl (ae_k (0)))]) (lEr (lEi (ev_s rfl) (lEi (ev_s rfl) (lEi ae_ev_k lE0)))) (stk2 := []) sE0 (fun w2 b1 b2 b3 b4 b5 => ?_)
    exact fin w2 b1 b2 b3 b4 (fun k => by
      rw [b5 99 k]
      simp [lg_ap, ae_ev, ae_el, ae_s, ae_k]
      try (split <;> (try rfl) <;> (try (split <;> (try rfl) <;> (try (split <;> (try rfl) <;> omega)) <;> (try omega))) <;> (try omega))) (by unfold rd_tk; rw [if_neg (fun h => h.2 (Or.inl c1))])
  by_cases c2 : rd_L S n u < rd_L S n st
  · refine ky_go hf hT a5 (by decide) (ρ := [(port : Int), (n : Int), (rd_L S n u : Int), (rd_W S u : Int), (u.length : Int), (st.length : Int), ((n : Int) - (rd_L S n st : Int))]) fr_D ⟨⟨by omega, by omega⟩, ⟨by omega, by omega⟩, ⟨by omega, by omega⟩, ⟨by omega, by omega⟩, ⟨by omega, by omega⟩, ⟨by omega, by omega⟩, ⟨by omega, by omega⟩, trivial⟩ (aFs.cons rfl (by simp only [ae_ev, ae_el, ae_s, ae_k, List.getD_cons_zero, List.getD_cons_succ]; omega) aFs.nil) (aHh.cons (kn1 (i := 32) (by decide) rfl (ev_s rfl) sl) (aHh.cons (kn1 (i := 36) (by decide) rfl (ev_s rfl) s6) (aHh.cons (kn1 (i := 37) (by decide) rfl (ev_s rfl) s7) aHh.nil))) (by rfl) (by rfl) (lEr (lEi (ev_s rfl) (lEi (ev_s rfl) (lEi (ev_s rfl) (lEi (ev_s rfl) (lEi (ev_s rfl) lE0)))))) sE0 (lvk2 := [(0, .inr (0, 99)), (1, .inl (ae_k ((port : Int)))), (2, .inl (ae_k ((n : Int))))]) (lEr (lEi (ev_s rfl) (lEi (ev_s rfl) lE0))) (stk2 := []) sE0 ?_
    exact hq w hv0 hp (by unfold rd_tk; rw [if_pos ⟨e0, by omega⟩]; exact hs0)
  have c3 : rd_L S n u = rd_L S n st := by omega
  rw [← c3] at s7
  by_cases c4 : rd_W S u < rd_W S st
  · refine ky_lg hf hT a5 a6 a7 (by decide) (ρ := [(port : Int), (n : Int), (rd_L S n u : Int), (rd_W S u : Int), (u.length : Int), (st.length : Int), (rd_W S st : Int)]) fr_C ⟨⟨by omega, by omega⟩, ⟨by omega, by omega⟩, ⟨by omega, by omega⟩, ⟨by omega, by omega⟩, ⟨by omega, by omega⟩, ⟨by omega, by omega⟩, ⟨by omega, by omega⟩, trivial⟩ (aFs.cons rfl (by simp only [ae_ev, ae_el, ae_s, ae_k, List.getD_cons_zero, List.getD_cons_succ]; omega) aFs.nil) (aHh.cons (kn1 (i := 32) (by decide) rfl (ev_s rfl) sl) (aHh.cons (kn1 (i := 36) (by decide) rfl (ev_s rfl) s6) (aHh.cons (kn1 (i := 37) (by decide) rfl (by simp only [ae_ev, ae_el, ae_s, ae_k, List.getD_cons_zero, List.getD_cons_succ]; omega) s7) (aHh.cons (kn1 (i := 38) (by decide) rfl (ev_s rfl) s8) aHh.nil)))) (by rfl) (by rfl) (lEr (lEi (ev_s rfl) (lEi (ev_s rfl) (lEi (ev_s rfl) (lEi (ev_s rfl) (lEi (ev_s rfl) lE0)))))) sE0 (lvk2 := [(0, .inr (0, 99)), (1, .inl (ae_k ((port : Int)))), (2, .inl (ae_k ((n : Int)))), (5, .inl (ae_k (0)))]) (lEr (lEi (ev_s rfl) (lEi (ev_s rfl) (lEi ae_ev_k lE0)))) (stk2 := []) sE0 (fun w2 b1 b2 b3 b4 b5 => ?_)
    exact fin w2 b1 b2 b3 b4 (fun k => by
      rw [b5 99 k]
      simp [lg_ap, ae_ev, ae_el, ae_s, ae_k]
      try (split <;> (try rfl) <;> (try (split <;> (try rfl) <;> (try (split <;> (try rfl) <;> omega)) <;> (try omega))) <;> (try omega))) (by unfold rd_tk; rw [if_neg (fun h => h.2 (Or.inr ⟨c3, c4⟩))])
  · refine ky_go hf hT a5 (by decide) (ρ := [(port : Int), (n : Int), (rd_L S n u : Int), (rd_W S u : Int), (u.length : Int), (st.length : Int), (rd_W S st : Int)]) fr_E ⟨⟨by omega, by omega⟩, ⟨by omega, by omega⟩, ⟨by omega, by omega⟩, ⟨by omega, by omega⟩, ⟨by omega, by omega⟩, ⟨by omega, by omega⟩, ⟨by omega, by omega⟩, trivial⟩ (aFs.cons rfl (by simp only [ae_ev, ae_el, ae_s, ae_k, List.getD_cons_zero, List.getD_cons_succ]; omega) aFs.nil) (aHh.cons (kn1 (i := 32) (by decide) rfl (ev_s rfl) sl) (aHh.cons (kn1 (i := 36) (by decide) rfl (ev_s rfl) s6) (aHh.cons (kn1 (i := 37) (by decide) rfl (by simp only [ae_ev, ae_el, ae_s, ae_k, List.getD_cons_zero, List.getD_cons_succ]; omega) s7) (aHh.cons (kn1 (i := 38) (by decide) rfl (ev_s rfl) s8) aHh.nil)))) (by rfl) (by rfl) (lEr (lEi (ev_s rfl) (lEi (ev_s rfl) (lEi (ev_s rfl) (lEi (ev_s rfl) (lEi (ev_s rfl) lE0)))))) sE0 (lvk2 := [(0, .inr (0, 99)), (1, .inl (ae_k ((port : Int)))), (2, .inl (ae_k ((n : Int))))]) (lEr (lEi (ev_s rfl) (lEi (ev_s rfl) lE0))) (stk2 := []) sE0 ?_
    exact hq w hv0 hp (by unfold rd_tk; rw [if_pos ⟨e0, by omega⟩]; exact hs0)
/-- way by way -/
theorem rl_go (hf : E.2.2.2.1.category = 1) (hT : ∀ σ : List Int, aTb E σ aTabs) (hp0 : 1 ≤ port ∧ port ≤ 4) (hn : 1 ≤ n ∧ n ≤ 99) (H : re w0 S) {B : List Nat} (hQ : ∀ w2, rv E al w0 w2 → rsb S n w2 B → ∀ z : Int32, z.toInt = (if B = [] then 0 else 1) → Q (some (.int z)) w2) : ∀ (L : List (List Nat)) (st : List Nat) (w : va_W), rv E al w0 w →
    ((∃ x, (1 ≤ x ∧ x < 5) ∧ rp w [x] ∧ L = rd_rs S [x] 5) ∨ ∃ t, (t ≠ [] ∧ (∀ q ∈ t, 1 ≤ q ∧ q < 5) ∧ t.length ≤ 4) ∧ rp w (0 :: t) ∧ L = rd_rs S t 4) → rsb S n w st → L.foldl (rd_tk S n) st = B → hG E al 84 265 17 [(0, .inr (0, 99)), (1, .inl (ae_k (port : Int))), (2, .inl (ae_k (n : Int)))] [] [] w Q := by
  have HV : hOk E al gV0 (fun _ => True) := hOkV hf hT (fun _ _ _ h => h)
  intro L
  induction L with
  | nil =>
    intro st w hv hp hs hB
    have hB : st = B := hB
    subst hB
    have hv0 := hv
    obtain ⟨a5, a6, a7, d, d9⟩ := hv
    refine ky_go hf hT a5 (by decide) (ρ := [(port : Int), (n : Int)]) fr_h ⟨⟨by omega, by omega⟩, ⟨by omega, by omega⟩, trivial⟩ aFs.nil aHh.nil (by rfl) (by rfl) (lEr (lEi (ev_s rfl) (lEi (ev_s rfl) lE0))) sE0 (lvk2 := [(0, .inr (0, 99)), (1, .inl (ae_k ((port : Int)))), (2, .inl (ae_k ((n : Int))))]) (lEr (lEi (ev_s rfl) (lEi (ev_s rfl) lE0))) (stk2 := [.inl (ae_k (0)), .inr (0, 99)]) (sEi ae_ev_k (sEr sE0)) ?_
    refine hp_callV HV (d := 83) (y2 := 261) (as := [.inr (0, 99), .inl (ae_k 0)]) (rest := []) (by decide) (by rfl) (hW.e (J := fun _ => True) a5 trivial) (fun AS h => nw_mj hf hT H hv0 (w1 := w) ⟨fun k _ => rfl, fun k => rfl⟩ hp h) (fun z w2 hR => ?_)
    obtain ⟨v2, b2, hz⟩ := hR
    rcases hz with ⟨hz, -⟩ | ⟨-, u, us, hu, -⟩
    · rw [hz]
      have s2 := hs.on b2
      have v20 := v2
      obtain ⟨a5, a6, a7, d, d9⟩ := v2
      have s6 : aSl w2 99 36 (st.length : Int) := by rw [← s2.2.1]; exact jLay_sl a5 (by decide +kernel)
      by_cases e : st = []
      · have s6 : aSl w2 99 36 0 := by rw [e] at s6; exact s6
        refine ky_go hf hT a5 (by decide) (ρ := [(port : Int), (n : Int)]) fr_e0 ⟨⟨by omega, by omega⟩, ⟨by omega, by omega⟩, trivial⟩ aFs.nil (aHh.cons (kn1 (i := 36) (by decide) rfl ae_ev_k s6) aHh.nil) (by rfl) (by rfl) (lEr (lEi (ev_s rfl) (lEi (ev_s rfl) lE0))) (sEi ae_ev_k sE0) (lvk2 := []) lE0 (stk2 := [.inl (ae_k (0))]) (sEi ae_ev_k sE0) ?_
        exact hp_retI (pc := 204) (ty := .boolean) (x := 0) (by decide) (by decide +kernel) (by decide +kernel) (aV.k _) (fun n hn => by rw [show n = 0 from Int32.toInt_inj.mp (by rw [hn]; rfl)]; decide) (fun z hz => hQ w2 v20 s2 z (by rw [hz, if_pos e]))
      · have l1 : 1 ≤ st.length := by
          cases st with
          | nil => exact absurd rfl e
          | cons a t => simp
        have l5 := hs.1
        refine ky_go hf hT a5 (by decide) (ρ := [(port : Int), (n : Int), (st.length : Int)]) fr_e1 ⟨⟨by omega, by omega⟩, ⟨by omega, by omega⟩, ⟨by omega, by omega⟩, trivial⟩ aFs.nil (aHh.cons (kn1 (i := 36) (by decide) rfl (ev_s rfl) s6) aHh.nil) (by rfl) (by rfl) (lEr (lEi (ev_s rfl) (lEi (ev_s rfl) lE0))) (sEi ae_ev_k sE0) (lvk2 := []) lE0 (stk2 := [.inl (ae_k (1))]) (sEi ae_ev_k sE0) ?_
        exact hp_retI (pc := 204) (ty := .boolean) (x := 1) (by decide) (by decide +kernel) (by decide +kernel) (aV.k _) (fun n hn => by rw [show n = 1 from Int32.toInt_inj.mp (by rw [hn]; rfl)]; decide) (fun z hz => hQ w2 v20 s2 z (by rw [hz, if_neg e]))
    · cases hu
  | cons u us ih =>
    intro st w hv hp hs hB
    have more : ∃ t, u = 0 :: t ∧ (t ≠ [] ∧ (∀ q ∈ t, 1 ≤ q ∧ q < 5) ∧ t.length ≤ 4) ∧ rd_rs S t 4 = us := by
      rcases hp with ⟨x, hx, -, e⟩ | ⟨t, ⟨t0, t1, t2⟩, -, e⟩
      · exact rd_more [x] 5 u us (fun q hq => by rw [List.mem_singleton.mp hq]; exact hx) (by simp) (by omega) e.symm
      · exact rd_more t 4 u us t1 (by omega) (by omega) e.symm
    obtain ⟨t, rfl, ⟨t0, t1, t2⟩, et⟩ := more
    have hv0 := hv
    obtain ⟨a5, a6, a7, d, d9⟩ := hv
    refine ky_go hf hT a5 (by decide) (ρ := [(port : Int), (n : Int)]) fr_h ⟨⟨by omega, by omega⟩, ⟨by omega, by omega⟩, trivial⟩ aFs.nil aHh.nil (by rfl) (by rfl) (lEr (lEi (ev_s rfl) (lEi (ev_s rfl) lE0))) sE0 (lvk2 := [(0, .inr (0, 99)), (1, .inl (ae_k ((port : Int)))), (2, .inl (ae_k ((n : Int))))]) (lEr (lEi (ev_s rfl) (lEi (ev_s rfl) lE0))) (stk2 := [.inl (ae_k (0)), .inr (0, 99)]) (sEi ae_ev_k (sEr sE0)) ?_
    refine hp_callV HV (d := 83) (y2 := 261) (as := [.inr (0, 99), .inl (ae_k 0)]) (rest := []) (by decide) (by rfl) (hW.e (J := fun _ => True) a5 trivial) (fun AS h => nw_mj hf hT H hv0 (w1 := w) ⟨fun k _ => rfl, fun k => rfl⟩ hp h) (fun z w2 hR => ?_)
    obtain ⟨v2, b2, hz⟩ := hR
    rcases hz with ⟨-, hu⟩ | ⟨hz, u, us2, hu, p2⟩
    · cases hu
    · injection hu with hu1 hu2
      subst hu1
      rw [hz]
      have s2 := hs.on b2
      have v20 := v2
      obtain ⟨a5, a6, a7, d, d9⟩ := v2
      have l1 : 1 ≤ t.length := by
        cases t with
        | nil => exact absurd rfl t0
        | cons a b => simp
      have el : (0 :: t).length = t.length + 1 := rfl
      have h4 : ∀ q ∈ 0 :: t, q < 5 := fun q hq => (List.mem_cons.mp hq).elim (fun e => by omega) (fun h => (t1 q h).2)
      refine ky_go hf hT a5 (by decide) (ρ := [(port : Int), (n : Int)]) fr_1 ⟨⟨by omega, by omega⟩, ⟨by omega, by omega⟩, trivial⟩ aFs.nil aHh.nil (by rfl) (by rfl) (lEr (lEi (ev_s rfl) (lEi (ev_s rfl) lE0))) (sEi ae_ev_k sE0) (lvk2 := [(0, .inr (0, 99)), (1, .inl (ae_k ((port : Int)))), (2, .inl (ae_k ((n : Int)))), (3, .inl (ae_k ((n : Int)))), (4, .inl (ae_k (0))), (5, .inl (ae_k (1)))]) (lEr (lEi (ev_s rfl) (lEi (ev_s rfl) (lEi (ev_s rfl) (lEi ae_ev_k (lEi ae_ev_k lE0)))))) (stk2 := []) sE0 ?_
      have sg := su_go (Q := Q) hf hT hp0 hn H v20 (u := 0 :: t) ⟨by omega, by omega⟩ h4 p2 (tk_go hf hT hp0 hn H v20 ⟨by omega, by omega⟩ h4 p2 s2 (fun w3 v3 p3 s3 => ih _ w3 v3 (Or.inr ⟨t, ⟨t0, t1, t2⟩, p3, et.symm⟩) s3 hB)) t.length 1 (by omega) (by omega)
      have e1 : (0 :: t).drop t.length = [(0 :: t)[t.length]] := by
        rw [List.drop_eq_getElem_cons (by simp)]
        simp
      rw [e1] at sg
      exact sg
/-- the search, whole -/
theorem fs_mj (hf : E.2.2.2.1.category = 1) (hT : ∀ σ : List Int, aTb E σ aTabs) (hp0 : 1 ≤ port ∧ port ≤ 4) (hn : 1 ≤ n ∧ n ≤ 99) (H : re w S) (a5 : aWd E al aLay w) (a6 : aRs aRules w) (a7 : jJ0 w) {AS : List Value} (hA : gL E al [] [.inr (0, 99), .inl (ae_k (port : Int)), .inl (ae_k (n : Int))] AS) :
    MJ E 84 0 0 (mj_in0 265 AS w) (fun v w2 => ∃ z : Int32, v = some (.int z) ∧ z.toInt = (if rd_B S n port = [] then 0 else 1) ∧ rv E al w w2 ∧ rsb S n w2 (rd_B S n port)) := by
  have hv0 : rv E al w w := ⟨a5, a6, a7, hD.refl, fun k _ _ _ _ => rfl⟩
  refine hG.in0 hf (d := 84) (as := [.inr (0, 99), .inl (ae_k (port : Int)), .inl (ae_k (n : Int))]) ?_ hA
  show hG E al 84 265 0 [(0, .inr (0, 99)), (1, .inl (ae_k (port : Int))), (2, .inl (ae_k (n : Int)))] [] [] w _
  refine ky_lg hf hT a5 a6 a7 (by decide) (ρ := [(port : Int), (n : Int)]) fr_0 ⟨⟨by omega, by omega⟩, ⟨by omega, by omega⟩, trivial⟩ aFs.nil aHh.nil (by rfl) (by rfl) (lEr (lEi (ev_s rfl) (lEi (ev_s rfl) lE0))) sE0 (lvk2 := [(0, .inr (0, 99)), (1, .inl (ae_k ((port : Int)))), (2, .inl (ae_k ((n : Int))))]) (lEr (lEi (ev_s rfl) (lEi (ev_s rfl) lE0))) (stk2 := []) sE0 (fun w2 b1 b2 b3 b4 b5 => ?_)
  have f9 : ∀ k, jS w2 99 k = if k = 32 then 1 else if k = 36 then 0 else jS w 99 k := fun k => by
    rw [b5 99 k]
    simp [lg_ap, ae_ev, ae_el, ae_s, ae_k]
  have f3 : ∀ k, jS w2 123 k = if k = 0 then (port : Int) else jS w 123 k := fun k => by
    rw [b5 123 k]
    simp [lg_ap, ae_ev, ae_el, ae_s, ae_k]
  refine rl_go hf hT hp0 hn H (fun w3 v3 s3 z hz => ⟨z, rfl, hz, v3, s3⟩) (rd_rs S [port] 5) [] w2 (hv0.log b1 b2 b3 b4 (by decide) (fun k k1 k2 _ _ => by rw [f9, if_neg k1, if_neg k2])) (Or.inl ⟨port, ⟨by omega, by omega⟩, ⟨by rw [f9, if_pos rfl]; rfl, fun i hi => ?_⟩, rfl⟩) ⟨by simp, by rw [f9, if_neg (by decide), if_pos rfl]; rfl, fun h => absurd rfl h⟩ ?_
  · have e : i = 0 := by
      have : i < 1 := hi
      omega
    subst e
    rw [f3, if_pos rfl]
    rfl
  · show (rd_fr S (rd_ws S 4) port [] 5 ++ []).foldl (rd_tk S n) [] = (if port = 0 then _ else rd_fr S (rd_ws S 4) port [] 5).foldl (rd_tk S n) []
    rw [List.append_nil, if_neg (by omega)]
/-- road, the reference -/
theorem rdr_mj (hf : E.2.2.2.1.category = 1) (hT : ∀ σ : List Int, aTb E σ aTabs) (a5 : aWd E al aLay w) (a6 : aRs aRules w) (a7 : jJ0 w) (H : re w S) {port n what : Int} (hx : aI0 ≤ port ∧ port ≤ aI1) (hy : aI0 ≤ n ∧ n ≤ aI1) (hz : aI0 ≤ what ∧ what ≤ aI1) {AS : List Value} (hA : gL E al [] [.inr (0, 99), .inl (ae_k port), .inl (ae_k n), .inl (ae_k what)] AS) :
    MJ E 85 0 0 (mj_in0 264 AS w) (fun v w2 => ∃ z : Int32, v = some (.int z) ∧ z.toInt = rd_R S port n what ∧ rv E al w w2) := by
  have HV : hOk E al gV0 (fun _ => True) := hOkV hf hT (fun _ _ _ h => h)
  refine hG.in0 hf (d := 85) (as := [.inr (0, 99), .inl (ae_k port), .inl (ae_k n), .inl (ae_k what)]) ?_ hA
  show hG E al 85 264 0 [(0, .inr (0, 99)), (1, .inl (ae_k port)), (2, .inl (ae_k n)), (3, .inl (ae_k what))] [] [] w _
  by_cases b1 : port ≤ 0
  · refine ky_go hf hT a5 (by decide) (ρ := [port, n, what]) rr_b1 ⟨hx, hy, hz, trivial⟩ (aFs.cons rfl (by simp only [ae_ev, ae_el, ae_s, ae_k, List.getD_cons_zero, List.getD_cons_succ]; omega) aFs.nil) aHh.nil (by rfl) (by rfl) (lEr (lEi (ev_s rfl) (lEi (ev_s rfl) (lEi (ev_s rfl) lE0)))) sE0 (lvk2 := []) lE0 (stk2 := [.inl (ae_k ((-1)))]) (sEi ae_ev_k sE0) ?_
    exact hp_retI (pc := 24) (ty := .int) (x := -1) (by decide) (by decide +kernel) (by decide +kernel) (aV.k _) (fun n hn => rfl) (fun z hz => ⟨z, rfl, by rw [hz]; unfold rd_R; rw [if_neg (by omega)], a5, a6, a7, hD.refl, fun k _ _ _ _ => rfl⟩)
  by_cases b2 : 5 ≤ port
  · refine ky_go hf hT a5 (by decide) (ρ := [port, n, what]) rr_b2 ⟨hx, hy, hz, trivial⟩ (aFs.cons rfl (by simp only [ae_ev, ae_el, ae_s, ae_k, List.getD_cons_zero, List.getD_cons_succ]; omega) aFs.nil) aHh.nil (by rfl) (by rfl) (lEr (lEi (ev_s rfl) (lEi (ev_s rfl) (lEi (ev_s rfl) lE0)))) sE0 (lvk2 := []) lE0 (stk2 := [.inl (ae_k ((-1)))]) (sEi ae_ev_k sE0) ?_
    exact hp_retI (pc := 24) (ty := .int) (x := -1) (by decide) (by decide +kernel) (by decide +kernel) (aV.k _) (fun n hn => rfl) (fun z hz => ⟨z, rfl, by rw [hz]; unfold rd_R; rw [if_neg (by omega)], a5, a6, a7, hD.refl, fun k _ _ _ _ => rfl⟩)
  by_cases b3 : n ≤ 0
  · refine ky_go hf hT a5 (by decide) (ρ := [port, n, what]) rr_b3 ⟨⟨by omega, by omega⟩, hy, hz, trivial⟩ (aFs.cons rfl (by simp only [ae_ev, ae_el, ae_s, ae_k, List.getD_cons_zero, List.getD_cons_succ]; omega) aFs.nil) aHh.nil (by rfl) (by rfl) (lEr (lEi (ev_s rfl) (lEi (ev_s rfl) (lEi (ev_s rfl) lE0)))) sE0 (lvk2 := []) lE0 (stk2 := [.inl (ae_k ((-1)))]) (sEi ae_ev_k sE0) ?_
    exact hp_retI (pc := 24) (ty := .int) (x := -1) (by decide) (by decide +kernel) (by decide +kernel) (aV.k _) (fun n hn => rfl) (fun z hz => ⟨z, rfl, by rw [hz]; unfold rd_R; rw [if_neg (by omega)], a5, a6, a7, hD.refl, fun k _ _ _ _ => rfl⟩)
  by_cases b4 : 100 ≤ n
  · refine ky_go hf hT a5 (by decide) (ρ := [port, n, what]) rr_b4 ⟨⟨by omega, by omega⟩, hy, hz, trivial⟩ (aFs.cons rfl (by simp only [ae_ev, ae_el, ae_s, ae_k, List.getD_cons_zero, List.getD_cons_succ]; omega) aFs.nil) aHh.nil (by rfl) (by rfl) (lEr (lEi (ev_s rfl) (lEi (ev_s rfl) (lEi (ev_s rfl) lE0)))) sE0 (lvk2 := []) lE0 (stk2 := [.inl (ae_k ((-1)))]) (sEi ae_ev_k sE0) ?_
    exact hp_retI (pc := 24) (ty := .int) (x := -1) (by decide) (by decide +kernel) (by decide +kernel) (aV.k _) (fun n hn => rfl) (fun z hz => ⟨z, rfl, by rw [hz]; unfold rd_R; rw [if_neg (by omega)], a5, a6, a7, hD.refl, fun k _ _ _ _ => rfl⟩)
  by_cases b5 : what ≤ -1
  · refine ky_go hf hT a5 (by decide) (ρ := [port, n, what]) rr_b5 ⟨⟨by omega, by omega⟩, ⟨by omega, by omega⟩, hz, trivial⟩ (aFs.cons rfl (by simp only [ae_ev, ae_el, ae_s, ae_k, List.getD_cons_zero, List.getD_cons_succ]; omega) aFs.nil) aHh.nil (by rfl) (by rfl) (lEr (lEi (ev_s rfl) (lEi (ev_s rfl) (lEi (ev_s rfl) lE0)))) sE0 (lvk2 := []) lE0 (stk2 := [.inl (ae_k ((-1)))]) (sEi ae_ev_k sE0) ?_
    exact hp_retI (pc := 24) (ty := .int) (x := -1) (by decide) (by decide +kernel) (by decide +kernel) (aV.k _) (fun n hn => rfl) (fun z hz => ⟨z, rfl, by rw [hz]; unfold rd_R; rw [if_neg (by omega)], a5, a6, a7, hD.refl, fun k _ _ _ _ => rfl⟩)
  obtain ⟨p, rfl⟩ : ∃ p : Nat, port = p := ⟨port.toNat, by omega⟩
  obtain ⟨k, rfl⟩ : ∃ k : Nat, n = k := ⟨n.toNat, by omega⟩
  have ans : rd_R S p k what = rd_T S k (rd_B S k p) what := by
    unfold rd_R
    rw [if_pos (by omega), Int.toNat_natCast, Int.toNat_natCast]
  rw [ans]
  refine ky_go hf hT a5 (by decide) (ρ := [(p : Int), (k : Int), what]) rr_0 ⟨⟨by omega, by omega⟩, ⟨by omega, by omega⟩, ⟨by omega, hz.2⟩, trivial⟩ aFs.nil aHh.nil (by rfl) (by rfl) (lEr (lEi (ev_s rfl) (lEi (ev_s rfl) (lEi (ev_s rfl) lE0)))) sE0 (lvk2 := [(0, .inr (0, 99)), (1, .inl (ae_k ((p : Int)))), (2, .inl (ae_k ((k : Int)))), (3, .inl (ae_k (what)))]) (lEr (lEi (ev_s rfl) (lEi (ev_s rfl) (lEi (ev_s rfl) lE0)))) (stk2 := [.inl (ae_k ((k : Int))), .inl (ae_k ((p : Int))), .inr (0, 99)]) (sEi (ev_s rfl) (sEi (ev_s rfl) (sEr sE0))) ?_
  refine hp_callV HV (d := 84) (y2 := 265) (as := [.inr (0, 99), .inl (ae_k (p : Int)), .inl (ae_k (k : Int))]) (rest := []) (by decide) (by rfl) (hW.e (J := fun _ => True) a5 trivial) (fun AS h => fs_mj hf hT ⟨by omega, by omega⟩ ⟨by omega, by omega⟩ H a5 a6 a7 h) (fun z w2 hR => ?_)
  obtain ⟨q1, q2, q3⟩ := hR
  rw [q1]
  have q20 := q2
  obtain ⟨a5, a6, a7, d, d9⟩ := q2
  have s2 : aSl w2 99 36 ((rd_B S k p).length : Int) := by rw [← q3.2.1]; exact jLay_sl a5 (by decide +kernel)
  generalize rd_B S k p = B at *
  by_cases e : B = []
  · rw [if_pos e]
    refine ky_go hf hT a5 (by decide) (ρ := [(p : Int), (k : Int), what]) rr_1 ⟨⟨by omega, by omega⟩, ⟨by omega, by omega⟩, ⟨by omega, hz.2⟩, trivial⟩ aFs.nil aHh.nil (by rfl) (by rfl) (lEr (lEi (ev_s rfl) (lEi (ev_s rfl) (lEi (ev_s rfl) lE0)))) (sEi ae_ev_k sE0) (lvk2 := []) lE0 (stk2 := [.inl (ae_k ((-3)))]) (sEi ae_ev_k sE0) ?_
    exact hp_retI (pc := 36) (ty := .int) (x := -3) (by decide) (by decide +kernel) (by decide +kernel) (aV.k _) (fun n hn => rfl) (fun z hz => ⟨z, rfl, by rw [hz]; unfold rd_T; rw [if_pos e], q20⟩)
  rw [if_neg e]
  obtain ⟨c3, c4, c5⟩ := q3.2.2 e
  have s3 : aSl w2 99 37 ((k : Int) - (rd_L S k B : Int)) := by rw [← c3]; exact jLay_sl a5 (by decide +kernel)
  have s4 : aSl w2 99 38 (rd_W S B : Int) := by rw [← c4]; exact jLay_sl a5 (by decide +kernel)
  have l1 : 1 ≤ B.length := by
    cases B with
    | nil => exact absurd rfl e
    | cons a t => simp
  have l5 := q3.1
  have bl := rd_L_le (S := S) (n := k) (w := B)
  have bw := rd_W_le (S := S) H.2 (w := B)
  by_cases w1 : what = 0
  · subst w1
    refine ky_go hf hT a5 (by decide) (ρ := [(p : Int), (k : Int), ((k : Int) - (rd_L S k B : Int))]) rr_2 ⟨⟨by omega, by omega⟩, ⟨by omega, by omega⟩, ⟨by omega, by omega⟩, trivial⟩ aFs.nil (aHh.cons (kn1 (i := 37) (by decide) rfl (ev_s rfl) s3) aHh.nil) (by rfl) (by rfl) (lEr (lEi (ev_s rfl) (lEi (ev_s rfl) (lEi ae_ev_k lE0)))) (sEi ae_ev_k sE0) (lvk2 := []) lE0 (stk2 := [.inl (ae_k (((k : Int) - (rd_L S k B : Int))))]) (sEi (ev_s rfl) sE0) ?_
    exact hp_retI (pc := 57) (ty := .int) (x := ((k : Int) - (rd_L S k B : Int))) (by decide) (by decide +kernel) (by decide +kernel) (aV.k _) (fun n hn => rfl) (fun z hz => ⟨z, rfl, by rw [hz]; unfold rd_T; rw [if_neg e, if_pos rfl], q20⟩)
  by_cases w3 : what = 1
  · subst w3
    refine ky_go hf hT a5 (by decide) (ρ := [(p : Int), (k : Int), (rd_W S B : Int)]) rr_3 ⟨⟨by omega, by omega⟩, ⟨by omega, by omega⟩, ⟨by omega, by omega⟩, trivial⟩ aFs.nil (aHh.cons (kn1 (i := 38) (by decide) rfl (ev_s rfl) s4) aHh.nil) (by rfl) (by rfl) (lEr (lEi (ev_s rfl) (lEi (ev_s rfl) (lEi ae_ev_k lE0)))) (sEi ae_ev_k sE0) (lvk2 := []) lE0 (stk2 := [.inl (ae_k ((rd_W S B : Int)))]) (sEi (ev_s rfl) sE0) ?_
    exact hp_retI (pc := 57) (ty := .int) (x := (rd_W S B : Int)) (by decide) (by decide +kernel) (by decide +kernel) (aV.k _) (fun n hn => rfl) (fun z hz => ⟨z, rfl, by rw [hz]; unfold rd_T; rw [if_neg e, if_neg w1, if_pos rfl], q20⟩)
  by_cases w4 : what - 2 < (B.length : Int)
  · have v : aSl w2 126 (what - 2).toNat (rd_at B (what - 2).toNat : Int) := by rw [← c5 _ (by omega)]; exact jLay_sl a5 (jL_126 _ (by omega))
    refine ky_go hf hT a5 (by decide) (ρ := [(p : Int), (k : Int), what, (B.length : Int), (rd_at B (what - 2).toNat : Int)]) rr_4 ⟨⟨by omega, by omega⟩, ⟨by omega, by omega⟩, ⟨by omega, by omega⟩, ⟨by omega, by omega⟩, v.i32, trivial⟩ (aFs.cons rfl (by simp only [ae_ev, ae_el, ae_s, ae_k, List.getD_cons_zero, List.getD_cons_succ]; omega) aFs.nil) (aHh.cons (kn1 (i := 36) (by decide) rfl (ev_s rfl) s2) (aHh.cons (kns (by decide) rfl rfl (i := (what - 2).toNat) (by simp only [ae_ev, ae_el, ae_s, ae_k, List.getD_cons_zero, List.getD_cons_succ]; omega) (ev_s rfl) v) aHh.nil)) (by rfl) (by rfl) (lEr (lEi (ev_s rfl) (lEi (ev_s rfl) (lEi (ev_s rfl) lE0)))) (sEi ae_ev_k sE0) (lvk2 := []) lE0 (stk2 := [.inl (ae_k ((rd_at B (what - 2).toNat : Int)))]) (sEi (ev_s rfl) sE0) ?_
    exact hp_retI (pc := 81) (ty := .int) (x := (rd_at B (what - 2).toNat : Int)) (by decide) (by decide +kernel) (by decide +kernel) (aV.k _) (fun n hn => rfl) (fun z hz => ⟨z, rfl, by rw [hz]; unfold rd_T; rw [if_neg e, if_neg w1, if_neg w3, if_pos w4], q20⟩)
  · refine ky_go hf hT a5 (by decide) (ρ := [(p : Int), (k : Int), what, (B.length : Int)]) rr_5 ⟨⟨by omega, by omega⟩, ⟨by omega, by omega⟩, ⟨by omega, hz.2⟩, ⟨by omega, by omega⟩, trivial⟩ (aFs.cons rfl (by simp only [ae_ev, ae_el, ae_s, ae_k, List.getD_cons_zero, List.getD_cons_succ]; omega) aFs.nil) (aHh.cons (kn1 (i := 36) (by decide) rfl (ev_s rfl) s2) aHh.nil) (by rfl) (by rfl) (lEr (lEi (ev_s rfl) (lEi (ev_s rfl) (lEi (ev_s rfl) lE0)))) (sEi ae_ev_k sE0) (lvk2 := []) lE0 (stk2 := [.inl (ae_k ((-3)))]) (sEi ae_ev_k sE0) ?_
    exact hp_retI (pc := 81) (ty := .int) (x := -3) (by decide) (by decide +kernel) (by decide +kernel) (aV.k _) (fun n hn => rfl) (fun z hz => ⟨z, rfl, by rw [hz]; unfold rd_T; rw [if_neg e, if_neg w1, if_neg w3, if_neg w4], q20⟩)
end RG
