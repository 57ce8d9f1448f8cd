/-! THE ROAD, the component -/
def tb_A : aInst := ((118, [(1, 5), (0, 99), (0, 45), aF, aF, aF, aF, aF], [], [.inr (0, 81), .inl (ae_s 0), .inl (ae_s 1), .inl (ae_s 2)], [((81, ae_k 2), ae_k 0), ((82, ae_k 0), ae_s 3), ((82, ae_k 1), ae_s 4), ((82, ae_k 2), ae_s 5), ((82, ae_k 3), ae_s 6), ((82, ae_k 4), ae_s 7)], [81, 83], 3, [([], [], none, [((81, ae_k 2), ae_s 0), ((81, ae_k 3), ae_s 1), ((81, ae_k 4), ae_s 2), ((83, ae_k 0), ae_s 3), ((83, ae_k 1), ae_s 4), ((83, ae_k 2), ae_s 5), ((83, ae_k 3), ae_s 6), ((83, ae_k 4), ae_s 7)])]), [])
def tb_B : aInst := ((118, [(1, 5), (0, 99), (0, 45), (1, 5), (0, 99), aF, aF, aF, aF, aF], [([(1, (-1)), (4, 1)], 1)], [.inr (0, 81), .inl (ae_s 0), .inl (ae_s 1), .inl (ae_s 2)], [((81, ae_k 2), ae_s 3), ((81, ae_k 3), ae_s 4), ((82, ae_k 0), ae_s 5), ((82, ae_k 1), ae_s 6), ((82, ae_k 2), ae_s 7), ((82, ae_k 3), ae_s 8), ((82, ae_k 4), ae_s 9)], [81, 83], 3, [([], [], none, [((81, ae_k 2), ae_s 0), ((81, ae_k 3), ae_s 1), ((81, ae_k 4), ae_s 2), ((83, ae_k 0), ae_s 5), ((83, ae_k 1), ae_s 6), ((83, ae_k 2), ae_s 7), ((83, ae_k 3), ae_s 8), ((83, ae_k 4), ae_s 9)])]), [])
def tb_C : aInst := ((118, [(1, 5), (0, 99), (0, 45), (1, 5), (0, 45), aF, aF, aF, aF, aF], [([(2, 1), (4, (-1))], 1)], [.inr (0, 81), .inl (ae_s 0), .inl (ae_s 1), .inl (ae_s 2)], [((81, ae_k 2), ae_s 3), ((81, ae_k 3), ae_s 1), ((81, ae_k 4), ae_s 4), ((82, ae_k 0), ae_s 5), ((82, ae_k 1), ae_s 6), ((82, ae_k 2), ae_s 7), ((82, ae_k 3), ae_s 8), ((82, ae_k 4), ae_s 9)], [81, 83], 3, [([], [], none, [((81, ae_k 2), ae_s 0), ((81, ae_k 3), ae_s 1), ((81, ae_k 4), ae_s 2), ((83, ae_k 0), ae_s 5), ((83, ae_k 1), ae_s 6), ((83, ae_k 2), ae_s 7), ((83, ae_k 3), ae_s 8), ((83, ae_k 4), ae_s 9)])]), [])
def tb_D : aInst := ((118, [(1, 5), (0, 99), (0, 45), (1, 5), (0, 99)], [([(1, 1), (4, (-1))], 1)], [.inr (0, 81), .inl (ae_s 0), .inl (ae_s 1), .inl (ae_s 2)], [((81, ae_k 2), ae_s 3), ((81, ae_k 3), ae_s 4)], [], 3, [([], [], none, [])]), [])
def tb_E : aInst := ((118, [(1, 5), (0, 99), (0, 45), (1, 5), (0, 45)], [([(2, (-1)), (4, 1)], 0)], [.inr (0, 81), .inl (ae_s 0), .inl (ae_s 1), .inl (ae_s 2)], [((81, ae_k 2), ae_s 3), ((81, ae_k 3), ae_s 1), ((81, ae_k 4), ae_s 4)], [], 3, [([], [], none, [])]), [])
section
set_option maxRecDepth 100000
theorem tb_Ak : ak_inst (aG00 []) 100000 tb_A = true := by decide +kernel
theorem tb_Bk : ak_inst (aG00 []) 100000 tb_B = true := by decide +kernel
theorem tb_Ck : ak_inst (aG00 []) 100000 tb_C = true := by decide +kernel
theorem tb_Dk : ak_inst (aG00 []) 100000 tb_D = true := by decide +kernel
theorem tb_Ek : ak_inst (aG00 []) 100000 tb_E = true := by decide +kernel
theorem wt_1 : ∀ g, g < 5 → lp_chk (aG00 []) (2 * g + 13) 117 (0, [(0, 4), (0, 99), (0, 45), (0, 31)], [], [], [(0, .inr (0, 81)), (1, .inr (0, 1)), (2, .inl (ae_k 0)), (3, .inl (ae_s 0)), (4, .inl (ae_s 1)), (5, .inl (ae_s 2)), (6, .inl (ae_s 3))], []) 33 [] [.inl (ae_s 2), .inl (ae_s 1), .inl (([(0, 1)], 1)), .inr (0, 81)] [(82, some (ae_s 0, ae_k 0))] = true := by decide +kernel
theorem wt_2 : ∀ g, g < 5 → lp_chk (aG00 []) (2 * g + 13) 117 (0, [(1, 4), (0, 4), (0, 99), (0, 45), (0, 31)], [], [], [(0, .inr (0, 81)), (1, .inr (0, 1)), (2, .inl (ae_s 0)), (3, .inl (ae_s 1)), (4, .inl (ae_s 2)), (5, .inl (ae_s 3)), (6, .inl (ae_s 4))], []) 53 [] [.inl (ae_s 0), .inl (ae_k 1), .inl (ae_s 4), .inl (ae_s 3), .inl (ae_s 2), .inl (([(1, 1)], 1)), .inl (ae_s 0), .inr (0, 1), .inr (0, 81)] [(82, some (ae_s 1, ae_s 0))] = true := by decide +kernel
theorem wt_5 : ∀ g, g < 5 → hp_chk gV0 1000 (11) 117 (0, [(0, 4), (0, 99), (0, 54), (0, 31)], [], [], [(0, .inr (0, 81)), (1, .inr (0, 1)), (2, .inl (ae_s 0)), (3, .inl (ae_k 5)), (4, .inl (ae_s 1)), (5, .inl (ae_s 2)), (6, .inl (ae_s 3))], []) [] [(13, [(0, 4), (0, 99), (0, 54), (0, 31)], [], [], [], [], [], mMU)] = true := by decide +kernel
theorem wt_9 : ∀ g, g < 5 → hp_chk gV0 1000 (2 * g + 13) 117 (36, [], [], [], [], []) [] [(58, [], [], [], [], [], [], mMU)] = true := by decide +kernel
theorem wo_0 : ∀ g, g < 5 → hp_chk gV0 1000 (2 * g + 12) 119 (0, [(0, 4), (1, 5), (0, 99), (0, 45), (0, 31)], [], [], [(0, .inr (0, 81)), (1, .inr (0, 1)), (2, .inl (ae_s 0)), (3, .inl (ae_s 1)), (4, .inl (ae_s 2)), (5, .inl (ae_s 3)), (6, .inl (ae_s 4))], []) [] [(3, [(0, 4), (1, 5), (0, 99), (0, 45), (0, 31)], [], [(0, .inr (0, 81)), (1, .inr (0, 1)), (2, .inl (ae_s 0)), (3, .inl (ae_s 1)), (4, .inl (ae_s 2)), (5, .inl (ae_s 3)), (6, .inl (ae_s 4)), (7, .inl (ae_k 0))], [], [], [], mMU)] = true := by decide +kernel
theorem wo_1 : ∀ g, g < 5 → hp_chk gV0 1000 (2 * g + 12) 119 (3, [(0, 4), (1, 5), (0, 99), (0, 45), (0, 31), (0, 4), (0, 99)], [], [((33, ([(0, 5), (5, 1)], 0)), ae_s 6)], [(0, .inr (0, 81)), (1, .inr (0, 1)), (2, .inl (ae_s 0)), (3, .inl (ae_s 1)), (4, .inl (ae_s 2)), (5, .inl (ae_s 3)), (6, .inl (ae_s 4)), (7, .inl (ae_s 5))], []) [] [(3, [(0, 4), (1, 5), (0, 99), (0, 45), (0, 31), (0, 4), (0, 99)], [], [(0, .inr (0, 81)), (1, .inr (0, 1)), (2, .inl (ae_s 0)), (3, .inl (ae_s 1)), (4, .inl (ae_s 2)), (5, .inl (ae_s 3)), (6, .inl (ae_s 4)), (7, .inl (([(5, 1)], 1)))], [], [], [], mMU)] = true := by decide +kernel
theorem wo_2 : ∀ g, g < 5 → hp_chk gV0 1000 (2 * g + 12) 119 (3, [(0, 4), (1, 5), (0, 99), (0, 45), (0, 31), (0, 4), (100, 999)], [], [((33, ([(0, 5), (5, 1)], 0)), ae_s 6)], [(0, .inr (0, 81)), (1, .inr (0, 1)), (2, .inl (ae_s 0)), (3, .inl (ae_s 1)), (4, .inl (ae_s 2)), (5, .inl (ae_s 3)), (6, .inl (ae_s 4)), (7, .inl (ae_s 5))], []) [] [(32, [(0, 4), (1, 5), (0, 99), (0, 45), (0, 31), (0, 4), (100, 999)], [], [(0, .inr (0, 81)), (1, .inr (0, 1)), (2, .inl (ae_s 0)), (3, .inl (ae_s 1)), (4, .inl (ae_s 2)), (5, .inl (ae_s 3)), (6, .inl (ae_s 4)), (7, .inl (ae_s 5)), (8, .inl (ae_s 6))], [.inl (ae_s 5), .inl (ae_s 4)], [], [], mMU)] = true := by decide +kernel
theorem wo_3 : ∀ g, g < 5 → hp_chk gV0 1000 (2 * g + 12) 119 (35, [(0, 4), (1, 5), (0, 99), (0, 45), (0, 31), (0, 4), (100, 999)], [], [], [(0, .inr (0, 81)), (1, .inr (0, 1)), (2, .inl (ae_s 0)), (3, .inl (ae_s 1)), (4, .inl (ae_s 2)), (5, .inl (ae_s 3)), (6, .inl (ae_s 4)), (7, .inl (ae_s 5)), (8, .inl (ae_s 6))], [.inl (ae_k 1)]) [] [(3, [(0, 4), (1, 5), (0, 99), (0, 45), (0, 31), (0, 4), (100, 999)], [], [(0, .inr (0, 81)), (1, .inr (0, 1)), (2, .inl (ae_s 0)), (3, .inl (ae_s 1)), (4, .inl (ae_s 2)), (5, .inl (ae_s 3)), (6, .inl (ae_s 4)), (7, .inl (([(5, 1)], 1)))], [], [], [], mMU)] = true := by decide +kernel
theorem wo_4 : ∀ g, g < 5 → hp_chk gV0 1000 (2 * g + 12) 119 (35, [(0, 4), (1, 5), (0, 99), (0, 45), (0, 31), (0, 4), (100, 999)], [], [], [(0, .inr (0, 81)), (1, .inr (0, 1)), (2, .inl (ae_s 0)), (3, .inl (ae_s 1)), (4, .inl (ae_s 2)), (5, .inl (ae_s 3)), (6, .inl (ae_s 4)), (7, .inl (ae_s 5)), (8, .inl (ae_s 6))], [.inl (ae_k 0)]) [] [(48, [(0, 4), (1, 5), (0, 99), (0, 45), (0, 31), (0, 4), (100, 999)], [], [(0, .inr (0, 81)), (1, .inr (0, 1)), (2, .inl (ae_s 0)), (3, .inl (ae_s 1)), (4, .inl (ae_s 2)), (5, .inl (ae_s 3)), (6, .inl (ae_s 4)), (7, .inl (ae_s 5)), (8, .inl (ae_s 6))], [.inl (ae_k 100), .inl (ae_s 6), .inl (ae_s 2)], [], [], mMU)] = true := by decide +kernel
theorem wo_5 : ∀ g, g < 5 → hp_chk gV0 1000 (2 * g + 12) 119 (56, [(0, 4), (1, 5), (0, 99), (0, 45), (0, 31), (0, 4), (100, 999), (0, 99)], [], [], [(0, .inr (0, 81)), (1, .inr (0, 1)), (2, .inl (ae_s 0)), (3, .inl (ae_s 1)), (4, .inl (ae_s 2)), (5, .inl (ae_s 3)), (6, .inl (ae_s 4)), (7, .inl (ae_s 5)), (8, .inl (ae_s 6))], [.inl (ae_s 7)]) [] [(74, [(0, 4), (1, 5), (0, 99), (0, 45), (0, 31), (0, 4), (100, 999), (0, 99)], [], [(0, .inr (0, 81)), (1, .inr (0, 1)), (2, .inl (ae_s 0)), (3, .inl (ae_s 1)), (4, .inl (ae_s 2)), (5, .inl (ae_s 3)), (6, .inl (ae_s 4)), (7, .inl (ae_s 5))], [.inl (ae_k 100), .inl (ae_s 6), .inl (ae_s 3), .inl (([(2, 1), (7, (-1))], 0)), .inl (ae_s 1), .inl (ae_s 5), .inr (0, 1), .inr (0, 81)], [], [], mMU)] = true := by decide +kernel
theorem wo_6 : ∀ g, g < 5 → hp_chk gV0 1000 (2 * g + 12) 119 (75, [(0, 4), (1, 5), (0, 99), (0, 45), (0, 31), (0, 4), (0, 9), (0, 99)], [], [], [(0, .inr (0, 81)), (1, .inr (0, 1)), (2, .inl (ae_s 0)), (3, .inl (ae_s 1)), (4, .inl (ae_s 2)), (5, .inl (ae_s 3)), (6, .inl (ae_s 4)), (7, .inl (ae_s 5))], [.inl (ae_s 6), .inl (ae_s 3), .inl (ae_s 7), .inl (ae_s 1), .inl (ae_s 5), .inr (0, 1), .inr (0, 81)]) [] [(78, [(0, 4), (1, 5), (0, 99), (0, 45), (0, 31), (0, 4), (0, 9), (0, 99)], [], [(0, .inr (0, 81)), (1, .inr (0, 1)), (2, .inl (ae_s 0)), (3, .inl (ae_s 1)), (4, .inl (ae_s 2)), (5, .inl (ae_s 3)), (6, .inl (ae_s 4)), (7, .inl (ae_s 5))], [.inl (ae_s 4), .inl (([(3, 1), (6, 1)], 0)), .inl (ae_s 7), .inl (ae_s 1), .inl (ae_s 5), .inr (0, 1), .inr (0, 81)], [], [], mMU)] = true := by decide +kernel
theorem wo_7 : ∀ g, g < 5 → hp_chk gV0 1000 (2 * g + 12) 119 (81, [(0, 4), (1, 5), (0, 99), (0, 45), (0, 31), (0, 4)], [], [], [(0, .inr (0, 81)), (1, .inr (0, 1)), (2, .inl (ae_s 0)), (3, .inl (ae_s 1)), (4, .inl (ae_s 2)), (5, .inl (ae_s 3)), (6, .inl (ae_s 4)), (7, .inl (ae_s 5))], []) [] [(3, [(0, 4), (1, 5), (0, 99), (0, 45), (0, 31), (0, 4)], [], [(0, .inr (0, 81)), (1, .inr (0, 1)), (2, .inl (ae_s 0)), (3, .inl (ae_s 1)), (4, .inl (ae_s 2)), (5, .inl (ae_s 3)), (6, .inl (ae_s 4)), (7, .inl (([(5, 1)], 1)))], [], [], [], mMU)] = true := by decide +kernel
theorem wo_8 : ∀ g, g < 5 → hp_chk gV0 1000 (2 * g + 12) 119 (3, [(0, 4), (1, 5), (0, 99), (0, 45), (0, 31)], [], [], [(0, .inr (0, 81)), (1, .inr (0, 1)), (2, .inl (ae_s 0)), (3, .inl (ae_s 1)), (4, .inl (ae_s 2)), (5, .inl (ae_s 3)), (6, .inl (ae_s 4)), (7, .inl (ae_k 5))], []) [] [(87, [(0, 4), (1, 5), (0, 99), (0, 45), (0, 31)], [], [], [], [], [], mMU)] = true := by decide +kernel
end
/-- the ports of a way as bits -/
def rd_M : List Nat → Nat
  | [] => 0
  | q :: t => rd_M t ||| 2 ^ q
theorem rd_M_lt : ∀ {p : List Nat}, (∀ q ∈ p, q < 5) → rd_M p < 32
  | [], _ => by decide
  | q :: t, h => Nat.or_lt_two_pow (n := 5) (rd_M_lt (p := t) (fun y hy => h y (List.mem_cons_of_mem _ hy))) (Nat.pow_lt_pow_right (by decide) (h q List.mem_cons_self))
theorem rd_M_bit {k : Nat} : ∀ {p : List Nat}, (rd_M p).testBit k = decide (k ∈ p)
  | [] => by simp [rd_M]
  | q :: t => by
    unfold rd_M
    rw [Nat.testBit_or, rd_M_bit (p := t), Nat.testBit_two_pow]
    by_cases e : q = k
    · subst e
      simp
    · by_cases m : k ∈ t
      · simp [m]
      · simp [m, e, show ¬ k = q from fun h => e h.symm]
section RC
variable {E : mj_E} {Q : Option Value → va_W → Prop} {al : List Nat} {w w0 w1 w2 : va_W} {S : Nat → Nat} {n : Nat}
def cv (E : mj_E) (al : List Nat) (w0 w : va_W) : Prop := aWd E al aLay w ∧ aRs aRules w ∧ jJ0 w ∧ hD [81, 82, 83] w0 w
/-- the sails -/
def cd (w : va_W) (S : Nat → Nat) : Prop := (∀ k, k < 25 → jS w 33 k = (S k : Int)) ∧ ∀ k, S k ≤ 999
def cp (w : va_W) (p : List Nat) : Prop := ∀ i, i < p.length → jS w 82 i = (rd_at p i : Int)
def cs (S : Nat → Nat) (n : Nat) (w : va_W) (st : List Nat) : Prop := st.length ≤ 5 ∧ jS w 81 2 = (st.length : Int) ∧ (st ≠ [] → jS w 81 3 = (rd_L S n st : Int) ∧ jS w 81 4 = (rd_W S st : Int) ∧ ∀ i, i < st.length → jS w 83 i = (rd_at st i : Int))
theorem jL_33 : ∀ k, k < 25 → (jLay 33 k).isSome = true := by decide +kernel
theorem jL_82 : ∀ k, k < 5 → (jLay 82 k).isSome = true := by decide +kernel
theorem cd.sl (H : cd w0 S) (h : cv E al w0 w) {k : Nat} (hk : k < 25) : aSl w 33 k (S k : Int) := by
  rw [← H.1 k hk, ← jS.at (h.2.2.2.2 33 (by decide))]
  exact jLay_sl h.1 (jL_33 k hk)
theorem cs.st {st : List Nat} (h : cs S n w st) (e : ∀ i, jS w2 81 i = jS w 81 i) (e2 : ∀ i, jS w2 83 i = jS w 83 i) : cs S n w2 st := ⟨h.1, (e 2).trans h.2.1, fun hs => ⟨(e 3).trans (h.2.2 hs).1, (e 4).trans (h.2.2 hs).2.1, fun i hi => (e2 i).trans ((h.2.2 hs).2.2 i hi)⟩⟩
/-- the better road stays -/
theorem tb_mj (hf : E.2.2.2.1.category = 1) (hT : ∀ σ : List Int, aTb E σ aTabs) (H : cd w0 S) (hn : n ≤ 99) {u st : List Nat} (hu : 1 ≤ u.length ∧ u.length ≤ 5) (hv : cv E al w0 w) (hp : cp w u) (hs : cs S n w st) {AS : List Value} (hA : gL E al [] [.inr (0, 81), .inl (ae_k (u.length : Int)), .inl (ae_k (rd_L S n u : Int)), .inl (ae_k (rd_W S u : Int))] AS) :
    MJ E 10 0 0 (mj_in0 118 AS w) (fun v w2 => v = none ∧ cv E al w0 w2 ∧ (∀ i, jS w2 82 i = jS w 82 i) ∧ cs S n w2 (rd_tk S n st u)) := by
  obtain ⟨a5, a6, a7, dd⟩ := hv
  have bl := rd_L_le (S := S) (n := n) (w := u)
  have bw := rd_W_le (S := S) H.2 (w := u)
  have bl2 := rd_L_le (S := S) (n := n) (w := st)
  have bw2 := rd_W_le (S := S) H.2 (w := st)
  obtain ⟨hs1, hs2, hs3⟩ := hs
  have s2 : aSl w 81 2 (st.length : Int) := by rw [← hs2]; exact jLay_sl a5 (by decide +kernel)
  have v := fun k (hk : k < 5) => jLay_sl a5 (jL_82 k hk)
  have fin : ∀ (ρ : List Int) (k : Nat) (post : aH) (r : List Int) (x : Option Value) (w2 : va_W), (ρ ++ r)[0]? = some (u.length : Int) → (ρ ++ r)[1]? = some (rd_L S n u : Int) → (ρ ++ r)[2]? = some (rd_W S u : Int) → (∀ i, i < 5 → (ρ ++ r)[k + i]? = some (jS w 82 i)) →
      post = [((81, ae_k 2), ae_s 0), ((81, ae_k 3), ae_s 1), ((81, ae_k 4), ae_s 2), ((83, ae_k 0), ae_s k), ((83, ae_k 1), ae_s (k + 1)), ((83, ae_k 2), ae_s (k + 2)), ((83, ae_k 3), ae_s (k + 3)), ((83, ae_k 4), ae_s (k + 4))] →
      gO E al (ρ ++ r) none x → aHh (ρ ++ r) w2 post → aWd E al aLay w2 → aRs aRules w2 → jJ0 w2 → w2.length = w.length → (∀ c, c ∉ [81, 83] → w2[c]? = w[c]?) → rd_tk S n st u = u → x = none ∧ cv E al w0 w2 ∧ (∀ i, jS w2 82 i = jS w 82 i) ∧ cs S n w2 (rd_tk S n st u) := by
    intro ρ k post r x w2 g0 g1 g2 gk hp2 hx hh b1 b2 b3 b4 b5 ht
    subst hp2
    have d2 : hD [81, 83] w w2 := ⟨b4, b5⟩
    rw [ht]
    refine ⟨hx, ⟨b1, b2, b3, dd.trans (d2.more (by decide))⟩, fun i => jS.at (b5 82 (by decide)), hu.2, ?_, fun _ => ⟨?_, ?_, fun i hi => ?_⟩⟩
    · exact (jHe_get (i := 2) hh (by simp) (by decide)).trans (ev_s g0)
    · exact (jHe_get (i := 3) hh (by simp) (by decide)).trans (ev_s g1)
    · exact (jHe_get (i := 4) hh (by simp) (by decide)).trans (ev_s g2)
    · rw [← hp i hi]
      rcases (by omega : i = 0 ∨ i = 1 ∨ i = 2 ∨ i = 3 ∨ i = 4) with rfl | rfl | rfl | rfl | rfl
      · exact (jHe_get (i := 0) hh (by simp) (by decide)).trans (ev_s (gk 0 (by decide)))
      · exact (jHe_get (i := 1) hh (by simp) (by decide)).trans (ev_s (gk 1 (by decide)))
      · exact (jHe_get (i := 2) hh (by simp) (by decide)).trans (ev_s (gk 2 (by decide)))
      · exact (jHe_get (i := 3) hh (by simp) (by decide)).trans (ev_s (gk 3 (by decide)))
      · exact (jHe_get (i := 4) hh (by simp) (by decide)).trans (ev_s (gk 4 (by decide)))
  by_cases e0 : st = []
  · subst e0
    have ga : gL E al [(u.length : Int), (rd_L S n u : Int), (rd_W S u : Int), jS w 82 0, jS w 82 1, jS w 82 2, jS w 82 3, jS w 82 4] [.inr (0, 81), .inl (ae_s 0), .inl (ae_s 1), .inl (ae_s 2)] AS := by
      obtain ⟨v, u2, rfl, h1, h2⟩ := hA
      exact ⟨v, u2, rfl, h1, gL_re (σ := []) (es := [ae_k (u.length : Int), ae_k (rd_L S n u : Int), ae_k (rd_W S u : Int)]) (es2 := [ae_s 0, ae_s 1, ae_s 2]) (by simp only [List.map_cons, List.map_nil, ae_ev_k, ev_s (ρ := [(u.length : Int), (rd_L S n u : Int), (rd_W S u : Int), jS w 82 0, jS w 82 1, jS w 82 2, jS w 82 3, jS w 82 4]) (k := 0) (x := (u.length : Int)) rfl, ev_s (ρ := [(u.length : Int), (rd_L S n u : Int), (rd_W S u : Int), jS w 82 0, jS w 82 1, jS w 82 2, jS w 82 3, jS w 82 4]) (k := 1) (x := (rd_L S n u : Int)) rfl, ev_s (ρ := [(u.length : Int), (rd_L S n u : Int), (rd_W S u : Int), jS w 82 0, jS w 82 1, jS w 82 2, jS w 82 3, jS w 82 4]) (k := 2) (x := (rd_W S u : Int)) rfl]) rfl h2⟩
    refine (ai00L hf hT (cs := []) (fun c hc => by cases hc) (q := tb_A) (by decide) tb_Ak [(u.length : Int), (rd_L S n u : Int), (rd_W S u : Int), jS w 82 0, jS w 82 1, jS w 82 2, jS w 82 3, jS w 82 4] AS w (hEv.ok ⟨⟨by omega, by omega⟩, ⟨by omega, by omega⟩, ⟨by omega, by omega⟩, (v 0 (by decide)).i32, (v 1 (by decide)).i32, (v 2 (by decide)).i32, (v 3 (by decide)).i32, (v 4 (by decide)).i32, trivial⟩) aFs.nil ga (aHh.cons (kn1 (i := 2) (by decide) rfl ae_ev_k s2) (aHh.cons (kn1 (i := 0) (by decide) rfl (ev_s rfl) (v 0 (by decide))) (aHh.cons (kn1 (i := 1) (by decide) rfl (ev_s rfl) (v 1 (by decide))) (aHh.cons (kn1 (i := 2) (by decide) rfl (ev_s rfl) (v 2 (by decide))) (aHh.cons (kn1 (i := 3) (by decide) rfl (ev_s rfl) (v 3 (by decide))) (aHh.cons (kn1 (i := 4) (by decide) rfl (ev_s rfl) (v 4 (by decide))) aHh.nil)))))) a5 a6 a7 10 (by decide)).weaken (Nat.le_refl _) (Nat.le_refl _) (Nat.le_refl _) (fun x w2 h => ?_)
    obtain ⟨cs, hcs, r, h1, h2, h3, h4, h5, h6, h7, h8, h9⟩ := h
    have hcs := List.mem_singleton.mp hcs
    subst hcs
    exact fin [(u.length : Int), (rd_L S n u : Int), (rd_W S u : Int), jS w 82 0, jS w 82 1, jS w 82 2, jS w 82 3, jS w 82 4] 3 _ r x w2 rfl rfl rfl (fun i hi => by rcases (by omega : i = 0 ∨ i = 1 ∨ i = 2 ∨ i = 3 ∨ i = 4) with rfl | rfl | rfl | rfl | rfl <;> rfl) rfl h3 h4 h5 h6 h7 h8 (fun c hc => h9 c hc) (by unfold rd_tk; rw [if_neg (by simp)])
  obtain ⟨q3, q4, q5⟩ := hs3 e0
  have hl : 1 ≤ st.length := by
    cases st with
    | nil => exact absurd rfl e0
    | cons a t => simp
  have s3 : aSl w 81 3 (rd_L S n st : Int) := by rw [← q3]; exact jLay_sl a5 (by decide +kernel)
  have s4 : aSl w 81 4 (rd_W S st : Int) := by rw [← q4]; exact jLay_sl a5 (by decide +kernel)
  have same : ∀ (w2 : va_W) (x : Option Value), w2.length = w.length → (∀ c, c ∉ ([] : List Nat) → w2[c]? = w[c]?) → x = none → rd_tk S n st u = st → x = none ∧ cv E al w0 w2 ∧ (∀ i, jS w2 82 i = jS w 82 i) ∧ cs S n w2 (rd_tk S n st u) := by
    intro w2 x g1 g2 gx gt
    have e : w2 = w := hD.eq ⟨g1, g2⟩
    subst e
    rw [gt]
    exact ⟨gx, ⟨a5, a6, a7, dd⟩, fun i => rfl, hs1, hs2, hs3⟩
  by_cases c1 : rd_L S n st < rd_L S n u
  · have ga : gL E al [(u.length : Int), (rd_L S n u : Int), (rd_W S u : Int), (st.length : Int), (rd_L S n st : Int), jS w 82 0, jS w 82 1, jS w 82 2, jS w 82 3, jS w 82 4] [.inr (0, 81), .inl (ae_s 0), .inl (ae_s 1), .inl (ae_s 2)] AS := by
      obtain ⟨v, u2, rfl, h1, h2⟩ := hA
      exact ⟨v, u2, rfl, h1, gL_re (σ := []) (es := [ae_k (u.length : Int), ae_k (rd_L S n u : Int), ae_k (rd_W S u : Int)]) (es2 := [ae_s 0, ae_s 1, ae_s 2]) (by simp only [List.map_cons, List.map_nil, ae_ev_k, ev_s (ρ := [(u.length : Int), (rd_L S n u : Int), (rd_W S u : Int), (st.length : Int), (rd_L S n st : Int), jS w 82 0, jS w 82 1, jS w 82 2, jS w 82 3, jS w 82 4]) (k := 0) (x := (u.length : Int)) rfl, ev_s (ρ := [(u.length : Int), (rd_L S n u : Int), (rd_W S u : Int), (st.length : Int), (rd_L S n st : Int), jS w 82 0, jS w 82 1, jS w 82 2, jS w 82 3, jS w 82 4]) (k := 1) (x := (rd_L S n u : Int)) rfl, ev_s (ρ := [(u.length : Int), (rd_L S n u : Int), (rd_W S u : Int), (st.length : Int), (rd_L S n st : Int), jS w 82 0, jS w 82 1, jS w 82 2, jS w 82 3, jS w 82 4]) (k := 2) (x := (rd_W S u : Int)) rfl]) rfl h2⟩
    refine (ai00L hf hT (cs := []) (fun c hc => by cases hc) (q := tb_B) (by decide) tb_Bk [(u.length : Int), (rd_L S n u : Int), (rd_W S u : Int), (st.length : Int), (rd_L S n st : Int), jS w 82 0, jS w 82 1, jS w 82 2, jS w 82 3, jS w 82 4] AS w (hEv.ok ⟨⟨by omega, by omega⟩, ⟨by omega, by omega⟩, ⟨by omega, by omega⟩, ⟨by omega, by omega⟩, ⟨by omega, by omega⟩, (v 0 (by decide)).i32, (v 1 (by decide)).i32, (v 2 (by decide)).i32, (v 3 (by decide)).i32, (v 4 (by decide)).i32, trivial⟩) (aFs.cons rfl (by simp only [ae_ev, ae_el, List.getD_cons_zero, List.getD_cons_succ]; omega) aFs.nil) ga (aHh.cons (kn1 (i := 2) (by decide) rfl (ev_s rfl) s2) (aHh.cons (kn1 (i := 3) (by decide) rfl (ev_s rfl) s3) (aHh.cons (kn1 (i := 0) (by decide) rfl (ev_s rfl) (v 0 (by decide))) (aHh.cons (kn1 (i := 1) (by decide) rfl (ev_s rfl) (v 1 (by decide))) (aHh.cons (kn1 (i := 2) (by decide) rfl (ev_s rfl) (v 2 (by decide))) (aHh.cons (kn1 (i := 3) (by decide) rfl (ev_s rfl) (v 3 (by decide))) (aHh.cons (kn1 (i := 4) (by decide) rfl (ev_s rfl) (v 4 (by decide))) aHh.nil))))))) a5 a6 a7 10 (by decide)).weaken (Nat.le_refl _) (Nat.le_refl _) (Nat.le_refl _) (fun x w2 h => ?_)
    obtain ⟨cs, hcs, r, h1, h2, h3, h4, h5, h6, h7, h8, h9⟩ := h
    have hcs := List.mem_singleton.mp hcs
    subst hcs
    exact fin [(u.length : Int), (rd_L S n u : Int), (rd_W S u : Int), (st.length : Int), (rd_L S n st : Int), jS w 82 0, jS w 82 1, jS w 82 2, jS w 82 3, jS w 82 4] 5 _ r x w2 rfl rfl rfl (fun i hi => by rcases (by omega : i = 0 ∨ i = 1 ∨ i = 2 ∨ i = 3 ∨ i = 4) with rfl | rfl | rfl | rfl | rfl <;> rfl) rfl h3 h4 h5 h6 h7 h8 (fun c hc => h9 c hc) (by unfold rd_tk; rw [if_neg (fun h => h.2 (Or.inl c1))])
  by_cases c2 : rd_L S n u < rd_L S n st
  · have ga : gL E al [(u.length : Int), (rd_L S n u : Int), (rd_W S u : Int), (st.length : Int), (rd_L S n st : Int)] [.inr (0, 81), .inl (ae_s 0), .inl (ae_s 1), .inl (ae_s 2)] AS := by
      obtain ⟨v, u2, rfl, h1, h2⟩ := hA
      exact ⟨v, u2, rfl, h1, gL_re (σ := []) (es := [ae_k (u.length : Int), ae_k (rd_L S n u : Int), ae_k (rd_W S u : Int)]) (es2 := [ae_s 0, ae_s 1, ae_s 2]) (by simp only [List.map_cons, List.map_nil, ae_ev_k, ev_s (ρ := [(u.length : Int), (rd_L S n u : Int), (rd_W S u : Int), (st.length : Int), (rd_L S n st : Int)]) (k := 0) (x := (u.length : Int)) rfl, ev_s (ρ := [(u.length : Int), (rd_L S n u : Int), (rd_W S u : Int), (st.length : Int), (rd_L S n st : Int)]) (k := 1) (x := (rd_L S n u : Int)) rfl, ev_s (ρ := [(u.length : Int), (rd_L S n u : Int), (rd_W S u : Int), (st.length : Int), (rd_L S n st : Int)]) (k := 2) (x := (rd_W S u : Int)) rfl]) rfl h2⟩
    refine (ai00L hf hT (cs := []) (fun c hc => by cases hc) (q := tb_D) (by decide) tb_Dk [(u.length : Int), (rd_L S n u : Int), (rd_W S u : Int), (st.length : Int), (rd_L S n st : Int)] AS w (hEv.ok ⟨⟨by omega, by omega⟩, ⟨by omega, by omega⟩, ⟨by omega, by omega⟩, ⟨by omega, by omega⟩, ⟨by omega, by omega⟩, trivial⟩) (aFs.cons rfl (by simp only [ae_ev, ae_el, List.getD_cons_zero, List.getD_cons_succ]; omega) aFs.nil) ga (aHh.cons (kn1 (i := 2) (by decide) rfl (ev_s rfl) s2) (aHh.cons (kn1 (i := 3) (by decide) rfl (ev_s rfl) s3) aHh.nil)) a5 a6 a7 10 (by decide)).weaken (Nat.le_refl _) (Nat.le_refl _) (Nat.le_refl _) (fun x w2 h => ?_)
    obtain ⟨cs, hcs, r, h1, h2, h3, h4, h5, h6, h7, h8, h9⟩ := h
    have hcs := List.mem_singleton.mp hcs
    subst hcs
    exact same w2 x h8 h9 h3 (by unfold rd_tk; rw [if_pos ⟨e0, by omega⟩])
  have c3 : rd_L S n u = rd_L S n st := by omega
  rw [← c3] at s3
  by_cases c4 : rd_W S u < rd_W S st
  · have ga : gL E al [(u.length : Int), (rd_L S n u : Int), (rd_W S u : Int), (st.length : Int), (rd_W S st : Int), jS w 82 0, jS w 82 1, jS w 82 2, jS w 82 3, jS w 82 4] [.inr (0, 81), .inl (ae_s 0), .inl (ae_s 1), .inl (ae_s 2)] AS := by
      obtain ⟨v, u2, rfl, h1, h2⟩ := hA
      exact ⟨v, u2, rfl, h1, gL_re (σ := []) (es := [ae_k (u.length : Int), ae_k (rd_L S n u : Int), ae_k (rd_W S u : Int)]) (es2 := [ae_s 0, ae_s 1, ae_s 2]) (by simp only [List.map_cons, List.map_nil, ae_ev_k, ev_s (ρ := [(u.length : Int), (rd_L S n u : Int), (rd_W S u : Int), (st.length : Int), (rd_W S st : Int), jS w 82 0, jS w 82 1, jS w 82 2, jS w 82 3, jS w 82 4]) (k := 0) (x := (u.length : Int)) rfl, ev_s (ρ := [(u.length : Int), (rd_L S n u : Int), (rd_W S u : Int), (st.length : Int), (rd_W S st : Int), jS w 82 0, jS w 82 1, jS w 82 2, jS w 82 3, jS w 82 4]) (k := 1) (x := (rd_L S n u : Int)) rfl, ev_s (ρ := [(u.length : Int), (rd_L S n u : Int), (rd_W S u : Int), (st.length : Int), (rd_W S st : Int), jS w 82 0, jS w 82 1, jS w 82 2, jS w 82 3, jS w 82 4]) (k := 2) (x := (rd_W S u : Int)) rfl]) rfl h2⟩
    refine (ai00L hf hT (cs := []) (fun c hc => by cases hc) (q := tb_C) (by decide) tb_Ck [(u.length : Int), (rd_L S n u : Int), (rd_W S u : Int), (st.length : Int), (rd_W S st : Int), jS w 82 0, jS w 82 1, jS w 82 2, jS w 82 3, jS w 82 4] AS w (hEv.ok ⟨⟨by omega, by omega⟩, ⟨by omega, by omega⟩, ⟨by omega, by omega⟩, ⟨by omega, by omega⟩, ⟨by omega, by omega⟩, (v 0 (by decide)).i32, (v 1 (by decide)).i32, (v 2 (by decide)).i32, (v 3 (by decide)).i32, (v 4 (by decide)).i32, trivial⟩) (aFs.cons rfl (by simp only [ae_ev, ae_el, List.getD_cons_zero, List.getD_cons_succ]; omega) aFs.nil) ga (aHh.cons (kn1 (i := 2) (by decide) rfl (ev_s rfl) s2) (aHh.cons (kn1 (i := 3) (by decide) rfl (ev_s rfl) s3) (aHh.cons (kn1 (i := 4) (by decide) rfl (ev_s rfl) s4) (aHh.cons (kn1 (i := 0) (by decide) rfl (ev_s rfl) (v 0 (by decide))) (aHh.cons (kn1 (i := 1) (by decide) rfl (ev_s rfl) (v 1 (by decide))) (aHh.cons (kn1 (i := 2) (by decide) rfl (ev_s rfl) (v 2 (by decide))) (aHh.cons (kn1 (i := 3) (by decide) rfl (ev_s rfl) (v 3 (by decide))) (aHh.cons (kn1 (i := 4) (by decide) rfl (ev_s rfl) (v 4 (by decide))) aHh.nil)))))))) a5 a6 a7 10 (by decide)).weaken (Nat.le_refl _) (Nat.le_refl _) (Nat.le_refl _) (fun x w2 h => ?_)
    obtain ⟨cs, hcs, r, h1, h2, h3, h4, h5, h6, h7, h8, h9⟩ := h
    have hcs := List.mem_singleton.mp hcs
    subst hcs
    exact fin [(u.length : Int), (rd_L S n u : Int), (rd_W S u : Int), (st.length : Int), (rd_W S st : Int), jS w 82 0, jS w 82 1, jS w 82 2, jS w 82 3, jS w 82 4] 5 _ r x w2 rfl rfl rfl (fun i hi => by rcases (by omega : i = 0 ∨ i = 1 ∨ i = 2 ∨ i = 3 ∨ i = 4) with rfl | rfl | rfl | rfl | rfl <;> rfl) rfl h3 h4 h5 h6 h7 h8 (fun c hc => h9 c hc) (by unfold rd_tk; rw [if_neg (fun h => h.2 (Or.inr ⟨c3, c4⟩))])
  · have ga : gL E al [(u.length : Int), (rd_L S n u : Int), (rd_W S u : Int), (st.length : Int), (rd_W S st : Int)] [.inr (0, 81), .inl (ae_s 0), .inl (ae_s 1), .inl (ae_s 2)] AS := by
      obtain ⟨v, u2, rfl, h1, h2⟩ := hA
      exact ⟨v, u2, rfl, h1, gL_re (σ := []) (es := [ae_k (u.length : Int), ae_k (rd_L S n u : Int), ae_k (rd_W S u : Int)]) (es2 := [ae_s 0, ae_s 1, ae_s 2]) (by simp only [List.map_cons, List.map_nil, ae_ev_k, ev_s (ρ := [(u.length : Int), (rd_L S n u : Int), (rd_W S u : Int), (st.length : Int), (rd_W S st : Int)]) (k := 0) (x := (u.length : Int)) rfl, ev_s (ρ := [(u.length : Int), (rd_L S n u : Int), (rd_W S u : Int), (st.length : Int), (rd_W S st : Int)]) (k := 1) (x := (rd_L S n u : Int)) rfl, ev_s (ρ := [(u.length : Int), (rd_L S n u : Int), (rd_W S u : Int), (st.length : Int), (rd_W S st : Int)]) (k := 2) (x := (rd_W S u : Int)) rfl]) rfl h2⟩
    refine (ai00L hf hT (cs := []) (fun c hc => by cases hc) (q := tb_E) (by decide) tb_Ek [(u.length : Int), (rd_L S n u : Int), (rd_W S u : Int), (st.length : Int), (rd_W S st : Int)] AS w (hEv.ok ⟨⟨by omega, by omega⟩, ⟨by omega, by omega⟩, ⟨by omega, by omega⟩, ⟨by omega, by omega⟩, ⟨by omega, by omega⟩, trivial⟩) (aFs.cons rfl (by simp only [ae_ev, ae_el, List.getD_cons_zero, List.getD_cons_succ]; omega) aFs.nil) ga (aHh.cons (kn1 (i := 2) (by decide) rfl (ev_s rfl) s2) (aHh.cons (kn1 (i := 3) (by decide) rfl (ev_s rfl) s3) (aHh.cons (kn1 (i := 4) (by decide) rfl (ev_s rfl) s4) aHh.nil))) a5 a6 a7 10 (by decide)).weaken (Nat.le_refl _) (Nat.le_refl _) (Nat.le_refl _) (fun x w2 h => ?_)
    obtain ⟨cs, hcs, r, h1, h2, h3, h4, h5, h6, h7, h8, h9⟩ := h
    have hcs := List.mem_singleton.mp hcs
    subst hcs
    exact same w2 x h8 h9 h3 (by unfold rd_tk; rw [if_pos ⟨e0, by omega⟩])
end RC
section RD
variable {E : mj_E} {al : List Nat} {w0 : va_W} {S : Nat → Nat} {n : Nat}
def wtP (E : mj_E) (al : List Nat) (w0 : va_W) (S : Nat → Nat) (n g : Nat) : Prop := ∀ (x : Nat) (p st : List Nat) (w : va_W), p.length + g = 5 → (∀ q ∈ x :: p, q < 5) → cv E al w0 w → cp w p → cs S n w st → ∀ AS, gL E al [] [.inr (0, 81), .inr (0, 1), .inl (ae_k (x : Int)), .inl (ae_k (p.length : Int)), .inl (ae_k (rd_L S n (x :: p) : Int)), .inl (ae_k (rd_W S (x :: p) : Int)), .inl (ae_k (rd_M p : Int))] AS →
  MJ E (2 * g + 11) 0 0 (mj_in0 117 AS w) (fun v w2 => v = none ∧ cv E al w0 w2 ∧ cp w2 p ∧ cs S n w2 ((rd_ws S g (x :: p)).foldl (rd_tk S n) st))
/-- the next ports, one by one -/
theorem wo_go (hf : E.2.2.2.1.category = 1) (hT : ∀ σ : List Int, aTb E σ aTabs) (H : cd w0 S) (hn : n ≤ 99) {g : Nat} (hg : g < 5) (IH : wtP E al w0 S n g) {x : Nat} {p FIN : List Nat} (hp : p.length + 1 + g = 5) (hq : ∀ q ∈ x :: p, q < 5) {Q : Option Value → va_W → Prop} (hQ : ∀ w2, cv E al w0 w2 → cp w2 (x :: p) → cs S n w2 FIN → Q none w2) :
    ∀ (m : Nat) (st : List Nat) (w : va_W), m ≤ 5 → cv E al w0 w → cp w (x :: p) → cs S n w st → (rd_fr S (rd_ws S g) x p m).foldl (rd_tk S n) st = FIN → hG E al (2 * g + 12) 119 3 [(0, .inr (0, 81)), (1, .inr (0, 1)), (2, .inl (ae_k (x : Int))), (3, .inl (ae_k ((x :: p).length : Int))), (4, .inl (ae_k (rd_L S n (x :: p) : Int))), (5, .inl (ae_k (rd_W S (x :: p) : Int))), (6, .inl (ae_k (rd_M (x :: p) : Int))), (7, .inl (ae_k ((5 - m : Nat) : Int)))] [] [] w Q := by
  have HV : hOk E al gV0 (fun _ => True) := hOkV hf hT (fun _ _ _ h => h)
  have hx := hq x List.mem_cons_self
  have bl := rd_L_le (S := S) (n := n) (w := x :: p)
  have bw := rd_W_le (S := S) H.2 (w := x :: p)
  have bm := rd_M_lt hq
  have el : (x :: p).length = p.length + 1 := rfl
  intro m
  induction m with
  | zero =>
    intro st w hm hv hc hs hF
    have hF : st = FIN := hF
    subst hF
    have hv0 := hv
    obtain ⟨a5, a6, a7, d⟩ := hv
    refine ky_go hf hT a5 (by decide) (ρ := [(x : Int), ((x :: p).length : Int), (rd_L S n (x :: p) : Int), (rd_W S (x :: p) : Int), (rd_M (x :: p) : Int)]) (wo_8 g hg) ⟨⟨by omega, by omega⟩, ⟨by omega, by omega⟩, ⟨by omega, by omega⟩, ⟨by omega, by omega⟩, ⟨by omega, by omega⟩, trivial⟩ aFs.nil aHh.nil (by rfl) (by rfl) (lEr (lEr (lEi (ev_s rfl) (lEi (ev_s rfl) (lEi (ev_s rfl) (lEi (ev_s rfl) (lEi (ev_s rfl) (lEi ae_ev_k lE0)))))))) sE0 (lvk2 := []) lE0 (stk2 := []) sE0 ?_
    exact hp_ret HV (by decide) (by decide +kernel) (by decide +kernel) (hQ w hv0 hc hs)
  | succ m ih =>
    intro st w hm hv hc hs hF
    have hv0 := hv
    obtain ⟨a5, a6, a7, d⟩ := hv
    have e5 : 5 - (m + 1) = 4 - m := by omega
    have e6 : ((4 - m : Nat) : Int) + 1 = ((5 - m : Nat) : Int) := by omega
    have hS := H.2 (5 * x + (4 - m))
    have sl := H.sl hv0 (k := 5 * x + (4 - m)) (by omega)
    have stp : rd_fr S (rd_ws S g) x p (m + 1) = (if rd_ok S x p (4 - m) = true then rd_ws S g ((4 - m) :: x :: p) else []) ++ rd_fr S (rd_ws S g) x p m := rfl
    rw [stp, List.foldl_append] at hF
    have bit := rd_M_bit (k := 4 - m) (p := x :: p)
    rw [e5]
    by_cases s1 : S (5 * x + (4 - m)) < 100
    · have no : ¬ rd_ok S x p (4 - m) = true := by
        unfold rd_ok
        simp only [Bool.and_eq_true, decide_eq_true_eq]
        omega
      rw [if_neg no] at hF
      refine ky_go hf hT a5 (by decide) (ρ := [(x : Int), ((x :: p).length : Int), (rd_L S n (x :: p) : Int), (rd_W S (x :: p) : Int), (rd_M (x :: p) : Int), ((4 - m : Nat) : Int), (S (5 * x + (4 - m)) : Int)]) (wo_1 g hg) ⟨⟨by omega, by omega⟩, ⟨by omega, by omega⟩, ⟨by omega, by omega⟩, ⟨by omega, by omega⟩, ⟨by omega, by omega⟩, ⟨by omega, by omega⟩, ⟨by omega, by omega⟩, trivial⟩ aFs.nil (aHh.cons (kns (by decide) rfl rfl (i := 5 * x + (4 - m)) (by simp only [ae_ev, ae_el, ae_s, ae_k, List.getD_cons_zero, List.getD_cons_succ]; omega) (ev_s rfl) sl) aHh.nil) (by rfl) (by rfl) (lEr (lEr (lEi (ev_s rfl) (lEi (ev_s rfl) (lEi (ev_s rfl) (lEi (ev_s rfl) (lEi (ev_s rfl) (lEi (ev_s rfl) lE0)))))))) sE0 (lvk2 := [(0, .inr (0, 81)), (1, .inr (0, 1)), (2, .inl (ae_k ((x : Int)))), (3, .inl (ae_k (((x :: p).length : Int)))), (4, .inl (ae_k ((rd_L S n (x :: p) : Int)))), (5, .inl (ae_k ((rd_W S (x :: p) : Int)))), (6, .inl (ae_k ((rd_M (x :: p) : Int)))), (7, .inl (ae_k (((5 - m : Nat) : Int))))]) (lEr (lEr (lEi (ev_s rfl) (lEi (ev_s rfl) (lEi (ev_s rfl) (lEi (ev_s rfl) (lEi (ev_s rfl) (lEi (by simp only [ae_ev, ae_el, ae_s, ae_k, List.getD_cons_zero, List.getD_cons_succ]; omega) lE0)))))))) (stk2 := []) sE0 ?_
      exact ih st w (by omega) hv0 hc hs hF
    · refine ky_go hf hT a5 (by decide) (ρ := [(x : Int), ((x :: p).length : Int), (rd_L S n (x :: p) : Int), (rd_W S (x :: p) : Int), (rd_M (x :: p) : Int), ((4 - m : Nat) : Int), (S (5 * x + (4 - m)) : Int)]) (wo_2 g hg) ⟨⟨by omega, by omega⟩, ⟨by omega, by omega⟩, ⟨by omega, by omega⟩, ⟨by omega, by omega⟩, ⟨by omega, by omega⟩, ⟨by omega, by omega⟩, ⟨by omega, by omega⟩, trivial⟩ aFs.nil (aHh.cons (kns (by decide) rfl rfl (i := 5 * x + (4 - m)) (by simp only [ae_ev, ae_el, ae_s, ae_k, List.getD_cons_zero, List.getD_cons_succ]; omega) (ev_s rfl) sl) aHh.nil) (by rfl) (by rfl) (lEr (lEr (lEi (ev_s rfl) (lEi (ev_s rfl) (lEi (ev_s rfl) (lEi (ev_s rfl) (lEi (ev_s rfl) (lEi (ev_s rfl) lE0)))))))) sE0 (lvk2 := [(0, .inr (0, 81)), (1, .inr (0, 1)), (2, .inl (ae_k ((x : Int)))), (3, .inl (ae_k (((x :: p).length : Int)))), (4, .inl (ae_k ((rd_L S n (x :: p) : Int)))), (5, .inl (ae_k ((rd_W S (x :: p) : Int)))), (6, .inl (ae_k ((rd_M (x :: p) : Int)))), (7, .inl (ae_k (((4 - m : Nat) : Int)))), (8, .inl (ae_k ((S (5 * x + (4 - m)) : Int))))]) (lEr (lEr (lEi (ev_s rfl) (lEi (ev_s rfl) (lEi (ev_s rfl) (lEi (ev_s rfl) (lEi (ev_s rfl) (lEi (ev_s rfl) (lEi (ev_s rfl) lE0))))))))) (stk2 := [.inl (ae_k (((4 - m : Nat) : Int))), .inl (ae_k ((rd_M (x :: p) : Int)))]) (sEi (ev_s rfl) (sEi (ev_s rfl) sE0)) ?_
      refine hg_bit (by decide +kernel) (by decide +kernel) (by decide +kernel) (by omega) (by omega) ?_
      rw [bit]
      by_cases hm2 : 4 - m ∈ x :: p
      · have no : ¬ rd_ok S x p (4 - m) = true := by
          unfold rd_ok
          simp only [Bool.and_eq_true, decide_eq_true_eq]
          exact fun h => h.2.1 hm2
        rw [if_neg no] at hF
        rw [if_pos (decide_eq_true hm2)]
        refine ky_go hf hT a5 (by decide) (ρ := [(x : Int), ((x :: p).length : Int), (rd_L S n (x :: p) : Int), (rd_W S (x :: p) : Int), (rd_M (x :: p) : Int), ((4 - m : Nat) : Int), (S (5 * x + (4 - m)) : Int)]) (wo_3 g hg) ⟨⟨by omega, by omega⟩, ⟨by omega, by omega⟩, ⟨by omega, by omega⟩, ⟨by omega, by omega⟩, ⟨by omega, by omega⟩, ⟨by omega, by omega⟩, ⟨by omega, by omega⟩, trivial⟩ aFs.nil aHh.nil (by rfl) (by rfl) (lEr (lEr (lEi (ev_s rfl) (lEi (ev_s rfl) (lEi (ev_s rfl) (lEi (ev_s rfl) (lEi (ev_s rfl) (lEi (ev_s rfl) (lEi (ev_s rfl) lE0))))))))) (sEi ae_ev_k sE0) (lvk2 := [(0, .inr (0, 81)), (1, .inr (0, 1)), (2, .inl (ae_k ((x : Int)))), (3, .inl (ae_k (((x :: p).length : Int)))), (4, .inl (ae_k ((rd_L S n (x :: p) : Int)))), (5, .inl (ae_k ((rd_W S (x :: p) : Int)))), (6, .inl (ae_k ((rd_M (x :: p) : Int)))), (7, .inl (ae_k (((5 - m : Nat) : Int))))]) (lEr (lEr (lEi (ev_s rfl) (lEi (ev_s rfl) (lEi (ev_s rfl) (lEi (ev_s rfl) (lEi (ev_s rfl) (lEi (by simp only [ae_ev, ae_el, ae_s, ae_k, List.getD_cons_zero, List.getD_cons_succ]; omega) lE0)))))))) (stk2 := []) sE0 ?_
        exact ih st w (by omega) hv0 hc hs hF
      · rw [if_neg (by simpa using hm2)]
        refine ky_go hf hT a5 (by decide) (ρ := [(x : Int), ((x :: p).length : Int), (rd_L S n (x :: p) : Int), (rd_W S (x :: p) : Int), (rd_M (x :: p) : Int), ((4 - m : Nat) : Int), (S (5 * x + (4 - m)) : Int)]) (wo_4 g hg) ⟨⟨by omega, by omega⟩, ⟨by omega, by omega⟩, ⟨by omega, by omega⟩, ⟨by omega, by omega⟩, ⟨by omega, by omega⟩, ⟨by omega, by omega⟩, ⟨by omega, by omega⟩, trivial⟩ aFs.nil aHh.nil (by rfl) (by rfl) (lEr (lEr (lEi (ev_s rfl) (lEi (ev_s rfl) (lEi (ev_s rfl) (lEi (ev_s rfl) (lEi (ev_s rfl) (lEi (ev_s rfl) (lEi (ev_s rfl) lE0))))))))) (sEi ae_ev_k sE0) (lvk2 := [(0, .inr (0, 81)), (1, .inr (0, 1)), (2, .inl (ae_k ((x : Int)))), (3, .inl (ae_k (((x :: p).length : Int)))), (4, .inl (ae_k ((rd_L S n (x :: p) : Int)))), (5, .inl (ae_k ((rd_W S (x :: p) : Int)))), (6, .inl (ae_k ((rd_M (x :: p) : Int)))), (7, .inl (ae_k (((4 - m : Nat) : Int)))), (8, .inl (ae_k ((S (5 * x + (4 - m)) : Int))))]) (lEr (lEr (lEi (ev_s rfl) (lEi (ev_s rfl) (lEi (ev_s rfl) (lEi (ev_s rfl) (lEi (ev_s rfl) (lEi (ev_s rfl) (lEi (ev_s rfl) lE0))))))))) (stk2 := [.inl (ae_k (100)), .inl (ae_k ((S (5 * x + (4 - m)) : Int))), .inl (ae_k ((rd_L S n (x :: p) : Int)))]) (sEi ae_ev_k (sEi (ev_s rfl) (sEi (ev_s rfl) sE0))) ?_
        refine hg_lost (by decide +kernel) (by decide +kernel) (by decide +kernel) (by decide +kernel) (by decide +kernel) (by decide +kernel) (by omega) hS ?_
        have bk : (rd_L S n (x :: p) * (S (5 * x + (4 - m)) % 100) + 99) / 100 ≤ rd_L S n (x :: p) := by
          have : rd_L S n (x :: p) * (S (5 * x + (4 - m)) % 100) ≤ rd_L S n (x :: p) * 99 := Nat.mul_le_mul_left _ (by omega)
          omega
        have el2 : rd_L S n ((4 - m) :: x :: p) = rd_L S n (x :: p) - (rd_L S n (x :: p) * (S (5 * x + (4 - m)) % 100) + 99) / 100 := rfl
        have ew2 : rd_W S ((4 - m) :: x :: p) = rd_W S (x :: p) + S (5 * x + (4 - m)) / 100 := rfl
        refine ky_go hf hT a5 (by decide) (ρ := [(x : Int), ((x :: p).length : Int), (rd_L S n (x :: p) : Int), (rd_W S (x :: p) : Int), (rd_M (x :: p) : Int), ((4 - m : Nat) : Int), (S (5 * x + (4 - m)) : Int), (((rd_L S n (x :: p) * (S (5 * x + (4 - m)) % 100) + 99) / 100 : Nat) : Int)]) (wo_5 g hg) ⟨⟨by omega, by omega⟩, ⟨by omega, by omega⟩, ⟨by omega, by omega⟩, ⟨by omega, by omega⟩, ⟨by omega, by omega⟩, ⟨by omega, by omega⟩, ⟨by omega, by omega⟩, ⟨by omega, by omega⟩, trivial⟩ aFs.nil aHh.nil (by rfl) (by rfl) (lEr (lEr (lEi (ev_s rfl) (lEi (ev_s rfl) (lEi (ev_s rfl) (lEi (ev_s rfl) (lEi (ev_s rfl) (lEi (ev_s rfl) (lEi (ev_s rfl) lE0))))))))) (sEi (ev_s rfl) sE0) (lvk2 := [(0, .inr (0, 81)), (1, .inr (0, 1)), (2, .inl (ae_k ((x : Int)))), (3, .inl (ae_k (((x :: p).length : Int)))), (4, .inl (ae_k ((rd_L S n (x :: p) : Int)))), (5, .inl (ae_k ((rd_W S (x :: p) : Int)))), (6, .inl (ae_k ((rd_M (x :: p) : Int)))), (7, .inl (ae_k (((4 - m : Nat) : Int))))]) (lEr (lEr (lEi (ev_s rfl) (lEi (ev_s rfl) (lEi (ev_s rfl) (lEi (ev_s rfl) (lEi (ev_s rfl) (lEi (ev_s rfl) lE0)))))))) (stk2 := [.inl (ae_k (100)), .inl (ae_k ((S (5 * x + (4 - m)) : Int))), .inl (ae_k ((rd_W S (x :: p) : Int))), .inl (ae_k ((rd_L S n ((4 - m) :: x :: p) : Int))), .inl (ae_k (((x :: p).length : Int))), .inl (ae_k (((4 - m : Nat) : Int))), .inr (0, 1), .inr (0, 81)]) (sEi ae_ev_k (sEi (ev_s rfl) (sEi (ev_s rfl) (sEi (by simp only [ae_ev, ae_el, ae_s, ae_k, List.getD_cons_zero, List.getD_cons_succ]; omega) (sEi (ev_s rfl) (sEi (ev_s rfl) (sEr (sEr sE0)))))))) ?_
        refine hg_hund (by decide +kernel) hS ?_
        refine ky_go hf hT a5 (by decide) (ρ := [(x : Int), ((x :: p).length : Int), (rd_L S n (x :: p) : Int), (rd_W S (x :: p) : Int), (rd_M (x :: p) : Int), ((4 - m : Nat) : Int), ((S (5 * x + (4 - m)) / 100 : Nat) : Int), (rd_L S n ((4 - m) :: x :: p) : Int)]) (wo_6 g hg) ⟨⟨by omega, by omega⟩, ⟨by omega, by omega⟩, ⟨by omega, by omega⟩, ⟨by omega, by omega⟩, ⟨by omega, by omega⟩, ⟨by omega, by omega⟩, ⟨by omega, by omega⟩, ⟨by omega, by omega⟩, trivial⟩ aFs.nil aHh.nil (by rfl) (by rfl) (lEr (lEr (lEi (ev_s rfl) (lEi (ev_s rfl) (lEi (ev_s rfl) (lEi (ev_s rfl) (lEi (ev_s rfl) (lEi (ev_s rfl) lE0)))))))) (sEi (ev_s rfl) (sEi (ev_s rfl) (sEi (ev_s rfl) (sEi (ev_s rfl) (sEi (ev_s rfl) (sEr (sEr sE0))))))) (lvk2 := [(0, .inr (0, 81)), (1, .inr (0, 1)), (2, .inl (ae_k ((x : Int)))), (3, .inl (ae_k (((x :: p).length : Int)))), (4, .inl (ae_k ((rd_L S n (x :: p) : Int)))), (5, .inl (ae_k ((rd_W S (x :: p) : Int)))), (6, .inl (ae_k ((rd_M (x :: p) : Int)))), (7, .inl (ae_k (((4 - m : Nat) : Int))))]) (lEr (lEr (lEi (ev_s rfl) (lEi (ev_s rfl) (lEi (ev_s rfl) (lEi (ev_s rfl) (lEi (ev_s rfl) (lEi (ev_s rfl) lE0)))))))) (stk2 := [.inl (ae_k ((rd_M (x :: p) : Int))), .inl (ae_k ((rd_W S ((4 - m) :: x :: p) : Int))), .inl (ae_k ((rd_L S n ((4 - m) :: x :: p) : Int))), .inl (ae_k (((x :: p).length : Int))), .inl (ae_k (((4 - m : Nat) : Int))), .inr (0, 1), .inr (0, 81)]) (sEi (ev_s rfl) (sEi (by simp only [ae_ev, ae_el, ae_s, ae_k, List.getD_cons_zero, List.getD_cons_succ]; omega) (sEi (ev_s rfl) (sEi (ev_s rfl) (sEi (ev_s rfl) (sEr (sEr sE0))))))) ?_
        refine hp_call HV (d := 2 * g + 11) (y2 := 117) (as := [.inr (0, 81), .inr (0, 1), .inl (ae_k ((4 - m : Nat) : Int)), .inl (ae_k ((x :: p).length : Int)), .inl (ae_k (rd_L S n ((4 - m) :: x :: p) : Int)), .inl (ae_k (rd_W S ((4 - m) :: x :: p) : Int)), .inl (ae_k (rd_M (x :: p) : Int))]) (rest := []) (by decide) (by rfl) (hW.e (J := fun _ => True) a5 trivial)
          (fun AS h => IH (4 - m) (x :: p) st w (by rw [el]; omega) (fun q hq2 => (List.mem_cons.mp hq2).elim (fun e => by omega) (hq q)) hv0 hc hs AS h) (fun w2 hR => ?_)
        obtain ⟨r1, r2, r3⟩ := hR
        have r10 := r1
        obtain ⟨a5, a6, a7, d⟩ := r1
        refine ky_go hf hT a5 (by decide) (ρ := [(x : Int), ((x :: p).length : Int), (rd_L S n (x :: p) : Int), (rd_W S (x :: p) : Int), (rd_M (x :: p) : Int), ((4 - m : Nat) : Int)]) (wo_7 g hg) ⟨⟨by omega, by omega⟩, ⟨by omega, by omega⟩, ⟨by omega, by omega⟩, ⟨by omega, by omega⟩, ⟨by omega, by omega⟩, ⟨by omega, by omega⟩, trivial⟩ aFs.nil aHh.nil (by rfl) (by rfl) (lEr (lEr (lEi (ev_s rfl) (lEi (ev_s rfl) (lEi (ev_s rfl) (lEi (ev_s rfl) (lEi (ev_s rfl) (lEi (ev_s rfl) lE0)))))))) sE0 (lvk2 := [(0, .inr (0, 81)), (1, .inr (0, 1)), (2, .inl (ae_k ((x : Int)))), (3, .inl (ae_k (((x :: p).length : Int)))), (4, .inl (ae_k ((rd_L S n (x :: p) : Int)))), (5, .inl (ae_k ((rd_W S (x :: p) : Int)))), (6, .inl (ae_k ((rd_M (x :: p) : Int)))), (7, .inl (ae_k (((5 - m : Nat) : Int))))]) (lEr (lEr (lEi (ev_s rfl) (lEi (ev_s rfl) (lEi (ev_s rfl) (lEi (ev_s rfl) (lEi (ev_s rfl) (lEi (by simp only [ae_ev, ae_el, ae_s, ae_k, List.getD_cons_zero, List.getD_cons_succ]; omega) lE0)))))))) (stk2 := []) sE0 ?_
        refine ih _ w2 (by omega) r10 r2 r3 ?_
        rw [← hF]
        by_cases ho : rd_ok S x p (4 - m) = true
        · rw [if_pos ho]
        · rw [if_neg ho]
          have g0 : g = 0 := by
            unfold rd_ok at ho
            simp only [Bool.and_eq_true, decide_eq_true_eq] at ho
            by_cases h5 : p.length + 1 < 5
            · exact absurd ⟨by omega, hm2, h5⟩ ho
            · omega
          subst g0
          rfl
theorem wo_mj (hf : E.2.2.2.1.category = 1) (hT : ∀ σ : List Int, aTb E σ aTabs) (H : cd w0 S) (hn : n ≤ 99) {g : Nat} (hg : g < 5) (IH : wtP E al w0 S n g) {x : Nat} {p st : List Nat} {w : va_W} (hp : p.length + 1 + g = 5) (hq : ∀ q ∈ x :: p, q < 5) (hv : cv E al w0 w) (hc : cp w (x :: p)) (hs : cs S n w st) {AS : List Value} (hA : gL E al [] [.inr (0, 81), .inr (0, 1), .inl (ae_k (x : Int)), .inl (ae_k ((x :: p).length : Int)), .inl (ae_k (rd_L S n (x :: p) : Int)), .inl (ae_k (rd_W S (x :: p) : Int)), .inl (ae_k (rd_M (x :: p) : Int))] AS) :
    MJ E (2 * g + 12) 0 0 (mj_in0 119 AS w) (fun v w2 => v = none ∧ cv E al w0 w2 ∧ cp w2 (x :: p) ∧ cs S n w2 ((rd_fr S (rd_ws S g) x p 5).foldl (rd_tk S n) st)) := by
  have hx := hq x List.mem_cons_self
  have bl := rd_L_le (S := S) (n := n) (w := x :: p)
  have bw := rd_W_le (S := S) H.2 (w := x :: p)
  have bm := rd_M_lt hq
  have el : (x :: p).length = p.length + 1 := rfl
  have hv0 := hv
  obtain ⟨a5, a6, a7, d⟩ := hv
  refine hG.in0 hf (d := 2 * g + 12) (as := [.inr (0, 81), .inr (0, 1), .inl (ae_k (x : Int)), .inl (ae_k ((x :: p).length : Int)), .inl (ae_k (rd_L S n (x :: p) : Int)), .inl (ae_k (rd_W S (x :: p) : Int)), .inl (ae_k (rd_M (x :: p) : Int))]) ?_ hA
  show hG E al (2 * g + 12) 119 0 [(0, .inr (0, 81)), (1, .inr (0, 1)), (2, .inl (ae_k (x : Int))), (3, .inl (ae_k ((x :: p).length : Int))), (4, .inl (ae_k (rd_L S n (x :: p) : Int))), (5, .inl (ae_k (rd_W S (x :: p) : Int))), (6, .inl (ae_k (rd_M (x :: p) : Int)))] [] [] w _
  refine ky_go hf hT a5 (by decide) (ρ := [(x : Int), ((x :: p).length : Int), (rd_L S n (x :: p) : Int), (rd_W S (x :: p) : Int), (rd_M (x :: p) : Int)]) (wo_0 g hg) ⟨⟨by omega, by omega⟩, ⟨by omega, by omega⟩, ⟨by omega, by omega⟩, ⟨by omega, by omega⟩, ⟨by omega, by omega⟩, trivial⟩ aFs.nil aHh.nil (by rfl) (by rfl) (lEr (lEr (lEi (ev_s rfl) (lEi (ev_s rfl) (lEi (ev_s rfl) (lEi (ev_s rfl) (lEi (ev_s rfl) lE0))))))) sE0 (lvk2 := [(0, .inr (0, 81)), (1, .inr (0, 1)), (2, .inl (ae_k ((x : Int)))), (3, .inl (ae_k (((x :: p).length : Int)))), (4, .inl (ae_k ((rd_L S n (x :: p) : Int)))), (5, .inl (ae_k ((rd_W S (x :: p) : Int)))), (6, .inl (ae_k ((rd_M (x :: p) : Int)))), (7, .inl (ae_k (0)))]) (lEr (lEr (lEi (ev_s rfl) (lEi (ev_s rfl) (lEi (ev_s rfl) (lEi (ev_s rfl) (lEi (ev_s rfl) (lEi ae_ev_k lE0)))))))) (stk2 := []) sE0 ?_
  exact wo_go hf hT H hn hg IH hp hq (FIN := (rd_fr S (rd_ws S g) x p 5).foldl (rd_tk S n) st) (fun w2 h1 h2 h3 => ⟨rfl, h1, h2, h3⟩) 5 st w (by omega) hv0 hc hs rfl
theorem wt_mj (hf : E.2.2.2.1.category = 1) (hT : ∀ σ : List Int, aTb E σ aTabs) (H : cd w0 S) (hn : n ≤ 99) : ∀ g, g ≤ 5 → wtP E al w0 S n g := by
  have HV : hOk E al gV0 (fun _ => True) := hOkV hf hT (fun _ _ _ h => h)
  intro g
  induction g with
  | zero =>
    intro g5 x p st w hp hq hv hc hs AS hA
    have hx := hq x List.mem_cons_self
    have bl := rd_L_le (S := S) (n := n) (w := x :: p)
    have bw := rd_W_le (S := S) H.2 (w := x :: p)
    have bm := rd_M_lt (p := p) (fun q h => hq q (List.mem_cons_of_mem _ h))
    have el : (x :: p).length = p.length + 1 := rfl
    have hv0 := hv
    obtain ⟨a5, a6, a7, d⟩ := hv
    have e5 : p.length = 5 := by omega
    rw [e5] at hA
    refine hG.in0 hf (d := 11) (as := [.inr (0, 81), .inr (0, 1), .inl (ae_k (x : Int)), .inl (ae_k ((5 : Nat) : Int)), .inl (ae_k (rd_L S n (x :: p) : Int)), .inl (ae_k (rd_W S (x :: p) : Int)), .inl (ae_k (rd_M p : Int))]) ?_ hA
    show hG E al 11 117 0 [(0, .inr (0, 81)), (1, .inr (0, 1)), (2, .inl (ae_k (x : Int))), (3, .inl (ae_k 5)), (4, .inl (ae_k (rd_L S n (x :: p) : Int))), (5, .inl (ae_k (rd_W S (x :: p) : Int))), (6, .inl (ae_k (rd_M p : Int)))] [] [] w _
    refine ky_go hf hT a5 (by decide) (ρ := [(x : Int), (rd_L S n (x :: p) : Int), (rd_W S (x :: p) : Int), (rd_M p : Int)]) (wt_5 0 (by decide)) ⟨⟨by omega, by omega⟩, ⟨by omega, by omega⟩, ⟨by omega, by omega⟩, ⟨by omega, by omega⟩, trivial⟩ aFs.nil aHh.nil (by rfl) (by rfl) (lEr (lEr (lEi (ev_s rfl) (lEi ae_ev_k (lEi (ev_s rfl) (lEi (ev_s rfl) (lEi (ev_s rfl) lE0))))))) sE0 (lvk2 := []) lE0 (stk2 := []) sE0 ?_
    exact hp_ret HV (by decide) (by decide +kernel) (by decide +kernel) ⟨rfl, hv0, hc, hs⟩
  | succ g ih =>
    intro g5 x p st w hp hq hv hc hs AS hA
    have hg : g < 5 := by omega
    have hx := hq x List.mem_cons_self
    have bl := rd_L_le (S := S) (n := n) (w := x :: p)
    have bw := rd_W_le (S := S) H.2 (w := x :: p)
    have bm := rd_M_lt (p := p) (fun q h => hq q (List.mem_cons_of_mem _ h))
    have el : (x :: p).length = p.length + 1 := rfl
    have hv0 := hv
    obtain ⟨a5, a6, a7, d⟩ := hv
    show MJ E (2 * g + 13) 0 0 (mj_in0 117 AS w) _
    refine hG.in0 hf (d := 2 * g + 13) (as := [.inr (0, 81), .inr (0, 1), .inl (ae_k (x : Int)), .inl (ae_k (p.length : Int)), .inl (ae_k (rd_L S n (x :: p) : Int)), .inl (ae_k (rd_W S (x :: p) : Int)), .inl (ae_k (rd_M p : Int))]) ?_ hA
    show hG E al (2 * g + 13) 117 0 [(0, .inr (0, 81)), (1, .inr (0, 1)), (2, .inl (ae_k (x : Int))), (3, .inl (ae_k (p.length : Int))), (4, .inl (ae_k (rd_L S n (x :: p) : Int))), (5, .inl (ae_k (rd_W S (x :: p) : Int))), (6, .inl (ae_k (rd_M p : Int)))] [] [] w _
    have upd : ∀ w2 : va_W, (∀ q, jS w2 82 q = if q = p.length then (x : Int) else jS w 82 q) → cp w2 (x :: p) := by
      intro w2 f i hi
      rw [f]
      by_cases e : i = p.length
      · rw [if_pos e, e, rd_at_0]
      · rw [el] at hi
        rw [if_neg e, rd_at_s (by omega)]
        exact hc i (by omega)
    have back : ∀ w2 : va_W, cp w2 (x :: p) → cp w2 p := by
      intro w2 h i hi
      rw [h i (by rw [el]; omega), rd_at_s hi]
    by_cases x0 : x = 0
    · subst x0
      refine ky_lg hf hT a5 a6 a7 (by decide) (ρ := [(p.length : Int), (rd_L S n (0 :: p) : Int), (rd_W S (0 :: p) : Int), (rd_M p : Int)]) (wt_1 g hg) ⟨⟨by omega, by omega⟩, ⟨by omega, by omega⟩, ⟨by omega, by omega⟩, ⟨by omega, by omega⟩, trivial⟩ aFs.nil aHh.nil (by rfl) (by rfl) (lEr (lEr (lEi ae_ev_k (lEi (ev_s rfl) (lEi (ev_s rfl) (lEi (ev_s rfl) (lEi (ev_s rfl) lE0))))))) sE0 (lvk2 := []) lE0 (stk2 := [.inl (ae_k ((rd_W S (0 :: p) : Int))), .inl (ae_k ((rd_L S n (0 :: p) : Int))), .inl (ae_k (((0 :: p).length : Int))), .inr (0, 81)]) (sEi (ev_s rfl) (sEi (ev_s rfl) (sEi (by simp only [ae_ev, ae_el, ae_s, ae_k, List.getD_cons_zero, List.getD_cons_succ]; omega) (sEr sE0)))) (fun w2 b1 b2 b3 b4 b5 => ?_)
      have f : ∀ q, jS w2 82 q = if q = p.length then ((0 : Nat) : Int) else jS w 82 q := fun q => by
        rw [b5 82 q]
        simp [lg_ap, ae_ev, ae_el, ae_s, ae_k]
      have v2 : cv E al w0 w2 := ⟨b1, b2, b3, d.trans (b4.more (by decide))⟩
      have s2 : cs S n w2 st := hs.st (fun i => b5 81 i) (fun i => b5 83 i)
      refine hp_call HV (d := 2 * g + 12) (y2 := 118) (as := [.inr (0, 81), .inl (ae_k ((0 :: p).length : Int)), .inl (ae_k (rd_L S n (0 :: p) : Int)), .inl (ae_k (rd_W S (0 :: p) : Int))]) (rest := []) (by decide) (by rfl) (hW.e (J := fun _ => True) b1 trivial)
        (fun AS h => (tb_mj hf hT H hn (u := 0 :: p) ⟨by rw [el]; omega, by rw [el]; omega⟩ v2 (upd w2 f) s2 h).weaken (by omega) (Nat.le_refl _) (Nat.le_refl _) (fun v w h => h)) (fun w3 hR => ?_)
      obtain ⟨r1, r2, r3⟩ := hR
      have r10 := r1
      obtain ⟨a5, a6, a7, d⟩ := r1
      refine ky_go hf hT a5 (by decide) (ρ := []) (wt_9 g hg) trivial aFs.nil aHh.nil (by rfl) (by rfl) lE0 sE0 (lvk2 := []) lE0 (stk2 := []) sE0 ?_
      exact hp_ret HV (by decide) (by decide +kernel) (by decide +kernel) ⟨rfl, r10, fun i hi => by rw [r2 i]; exact back w2 (upd w2 f) i hi, r3⟩
    · refine ky_lg hf hT a5 a6 a7 (by decide) (ρ := [(x : Int), (p.length : Int), (rd_L S n (x :: p) : Int), (rd_W S (x :: p) : Int), (rd_M p : Int)]) (wt_2 g hg) ⟨⟨by omega, by omega⟩, ⟨by omega, by omega⟩, ⟨by omega, by omega⟩, ⟨by omega, by omega⟩, ⟨by omega, by omega⟩, trivial⟩ aFs.nil aHh.nil (by rfl) (by rfl) (lEr (lEr (lEi (ev_s rfl) (lEi (ev_s rfl) (lEi (ev_s rfl) (lEi (ev_s rfl) (lEi (ev_s rfl) lE0))))))) sE0 (lvk2 := []) lE0 (stk2 := [.inl (ae_k ((x : Int))), .inl (ae_k (1)), .inl (ae_k ((rd_M p : Int))), .inl (ae_k ((rd_W S (x :: p) : Int))), .inl (ae_k ((rd_L S n (x :: p) : Int))), .inl (ae_k (((x :: p).length : Int))), .inl (ae_k ((x : Int))), .inr (0, 1), .inr (0, 81)]) (sEi (ev_s rfl) (sEi ae_ev_k (sEi (ev_s rfl) (sEi (ev_s rfl) (sEi (ev_s rfl) (sEi (by simp only [ae_ev, ae_el, ae_s, ae_k, List.getD_cons_zero, List.getD_cons_succ]; omega) (sEi (ev_s rfl) (sEr (sEr sE0))))))))) (fun w2 b1 b2 b3 b4 b5 => ?_)
      have f : ∀ q, jS w2 82 q = if q = p.length then (x : Int) else jS w 82 q := fun q => by
        rw [b5 82 q]
        simp [lg_ap, ae_ev, ae_el, ae_s, ae_k]
      have v2 : cv E al w0 w2 := ⟨b1, b2, b3, d.trans (b4.more (by decide))⟩
      have s2 : cs S n w2 st := hs.st (fun i => b5 81 i) (fun i => b5 83 i)
      refine hg_or (by decide +kernel) (by decide +kernel) bm hx ?_
      refine hp_call HV (d := 2 * g + 12) (y2 := 119) (as := [.inr (0, 81), .inr (0, 1), .inl (ae_k (x : Int)), .inl (ae_k ((x :: p).length : Int)), .inl (ae_k (rd_L S n (x :: p) : Int)), .inl (ae_k (rd_W S (x :: p) : Int)), .inl (ae_k (rd_M (x :: p) : Int))]) (rest := []) (by decide) (by rfl) (hW.e (J := fun _ => True) b1 trivial)
        (fun AS h => wo_mj hf hT H hn hg (ih (by omega)) (x := x) (p := p) (st := st) (by omega) hq v2 (upd w2 f) s2 h) (fun w3 hR => ?_)
      obtain ⟨r1, r2, r3⟩ := hR
      refine hp_ret HV (by decide) (by decide +kernel) (by decide +kernel) ⟨rfl, r1, back w3 r2, ?_⟩
      show cs S n w3 ((if x = 0 then [x :: p] else rd_fr S (rd_ws S g) x p 5).foldl (rd_tk S n) st)
      rw [if_neg x0]
      exact r3
end RD
