/-! BROUGHT, the component: way by way -/
section
set_option maxRecDepth 100000
theorem ct_5 : ∀ g, g < 5 → hp_chk gV0 1000 (11) 112 (0, [(0, 4), (1, 4), (0, 2), (0, 31)], [], [], [(0, .inr (0, 81)), (1, .inr (0, 1)), (2, .inl (ae_s 0)), (3, .inl (ae_k 5)), (4, .inl (ae_s 1)), (5, .inl (ae_s 2)), (6, .inl (ae_s 3))], []) [] [(5, [(0, 4), (1, 4), (0, 2), (0, 31)], [], [], [], [], [], mMU)] = true := by decide +kernel
theorem ct_0 : ∀ g, g < 5 → hp_chk gV0 1000 (2 * g + 13) 112 (0, [(0, 4), (0, 4), (1, 4), (0, 2), (0, 31)], [], [], [(0, .inr (0, 81)), (1, .inr (0, 1)), (2, .inl (ae_s 0)), (3, .inl (ae_s 1)), (4, .inl (ae_s 2)), (5, .inl (ae_s 3)), (6, .inl (ae_s 4))], []) [] [(9, [(0, 4), (0, 4), (1, 4), (0, 2), (0, 31)], [], [(0, .inr (0, 81)), (1, .inr (0, 1)), (2, .inl (ae_s 0)), (3, .inl (ae_s 1)), (4, .inl (ae_s 2)), (5, .inl (ae_s 3)), (6, .inl (ae_s 4)), (7, .inl (ae_k 0))], [], [], [], mMU)] = true := by decide +kernel
theorem ct_1 : ∀ g, g < 5 → hp_chk gV0 1000 (2 * g + 13) 112 (9, [(0, 4), (0, 4), (1, 4), (0, 2), (0, 31), (0, 2)], [], [], [(0, .inr (0, 81)), (1, .inr (0, 1)), (2, .inl (ae_s 0)), (3, .inl (ae_s 1)), (4, .inl (ae_s 2)), (5, .inl (ae_s 3)), (6, .inl (ae_s 4)), (7, .inl (ae_s 5))], []) [] [(28, [(0, 4), (0, 4), (1, 4), (0, 2), (0, 31), (0, 2)], [], [(0, .inr (0, 81)), (1, .inr (0, 1)), (2, .inl (ae_s 0)), (3, .inl (ae_s 1)), (4, .inl (ae_s 2)), (5, .inl (ae_s 3)), (6, .inl (ae_s 4)), (7, .inl (ae_s 5))], [.inl (ae_s 5), .inl (ae_s 1), .inl (ae_s 0), .inr (0, 1), .inr (0, 81), .inl (ae_s 5), .inl (ae_s 1), .inr (0, 86)], [], [], mMU)] = true := by decide +kernel
theorem ct_2 : ∀ g, g < 5 → lp_chk (aG00 []) (2 * g + 13) 112 (31, [(0, 4), (0, 4), (1, 4), (0, 2), (0, 31), (0, 2), (0, 24299757)], [], [], [(0, .inr (0, 81)), (1, .inr (0, 1)), (2, .inl (ae_s 0)), (3, .inl (ae_s 1)), (4, .inl (ae_s 2)), (5, .inl (ae_s 3)), (6, .inl (ae_s 4)), (7, .inl (ae_s 5))], [.inl (ae_s 6), .inl (ae_s 5), .inl (ae_s 1), .inr (0, 86)]) 9 [(0, .inr (0, 81)), (1, .inr (0, 1)), (2, .inl (ae_s 0)), (3, .inl (ae_s 1)), (4, .inl (ae_s 2)), (5, .inl (ae_s 3)), (6, .inl (ae_s 4)), (7, .inl (([(5, 1)], 1)))] [] [(87, some (([(1, 3), (5, 1)], 0), ae_s 6))] = true := by decide +kernel
theorem ct_3a : ∀ g, g < 5 → lp_chk (aG00 []) (2 * g + 13) 112 (9, [(0, 4), (1, 4), (0, 2), (0, 31), (0, 24299757), aF], [([(4, (-1)), (5, 1)], 1)], [((87, ([(0, 3), (2, 1)], 0)), ae_s 4), ((81, ae_k 7), ae_s 5)], [(0, .inr (0, 81)), (1, .inr (0, 1)), (2, .inl (ae_s 1)), (3, .inl (ae_s 0)), (4, .inl (ae_s 1)), (5, .inl (ae_s 2)), (6, .inl (ae_s 3)), (7, .inl (ae_k 3))], []) 87 [] [] [(81, some (ae_k 7, ae_s 4))] = true := by decide +kernel
theorem ct_3b : ∀ g, g < 5 → lp_chk (aG00 []) (2 * g + 13) 112 (9, [(0, 4), (1, 4), (0, 2), (0, 31), (0, 24299757), aF], [([(4, 1), (5, (-1))], 0)], [((87, ([(0, 3), (2, 1)], 0)), ae_s 4), ((81, ae_k 7), ae_s 5)], [(0, .inr (0, 81)), (1, .inr (0, 1)), (2, .inl (ae_s 1)), (3, .inl (ae_s 0)), (4, .inl (ae_s 1)), (5, .inl (ae_s 2)), (6, .inl (ae_s 3)), (7, .inl (ae_k 3))], []) 87 [] [] [(81, some (ae_k 7, ae_s 5))] = true := by decide +kernel
theorem ct_4a : ∀ g, g < 5 → hp_chk gV0 1000 (2 * g + 13) 112 (9, [(0, 4), (0, 4), (1, 4), (0, 2), (0, 31)], [([(0, 1), (2, (-1))], 1)], [], [(0, .inr (0, 81)), (1, .inr (0, 1)), (2, .inl (ae_s 0)), (3, .inl (ae_s 1)), (4, .inl (ae_s 2)), (5, .inl (ae_s 3)), (6, .inl (ae_s 4)), (7, .inl (ae_k 3))], []) [] [(82, [(0, 4), (0, 4), (1, 4), (0, 2), (0, 31)], [], [], [.inl (ae_s 0), .inl (ae_k 1), .inl (ae_s 4), .inl (ae_s 3), .inl (ae_s 2), .inl (ae_s 1), .inl (ae_s 0), .inr (0, 1), .inr (0, 81)], [], [], mMU)] = true := by decide +kernel
theorem ct_4b : ∀ g, g < 5 → hp_chk gV0 1000 (2 * g + 13) 112 (9, [(0, 4), (0, 4), (1, 4), (0, 2), (0, 31)], [([(0, (-1)), (2, 1)], 1)], [], [(0, .inr (0, 81)), (1, .inr (0, 1)), (2, .inl (ae_s 0)), (3, .inl (ae_s 1)), (4, .inl (ae_s 2)), (5, .inl (ae_s 3)), (6, .inl (ae_s 4)), (7, .inl (ae_k 3))], []) [] [(82, [(0, 4), (0, 4), (1, 4), (0, 2), (0, 31)], [], [], [.inl (ae_s 0), .inl (ae_k 1), .inl (ae_s 4), .inl (ae_s 3), .inl (ae_s 2), .inl (ae_s 1), .inl (ae_s 0), .inr (0, 1), .inr (0, 81)], [], [], mMU)] = true := by decide +kernel
theorem cn_0 : ∀ g, g < 5 → hp_chk gV0 1000 (2 * g + 12) 114 (0, [(0, 4), (0, 4), (1, 4), (0, 2), (0, 31)], [], [], [(0, .inr (0, 81)), (1, .inr (0, 1)), (2, .inl (ae_s 0)), (3, .inl (ae_s 1)), (4, .inl (ae_s 2)), (5, .inl (ae_s 3)), (6, .inl (ae_s 4))], []) [] [(3, [(0, 4), (0, 4), (1, 4), (0, 2), (0, 31)], [], [(0, .inr (0, 81)), (1, .inr (0, 1)), (2, .inl (ae_s 0)), (3, .inl (ae_s 1)), (4, .inl (ae_s 2)), (5, .inl (ae_s 3)), (6, .inl (ae_s 4)), (7, .inl (ae_k 0))], [], [], [], mMU)] = true := by decide +kernel
theorem cn_1 : ∀ g, g < 5 → hp_chk gV0 1000 (2 * g + 12) 114 (3, [(0, 4), (0, 4), (1, 4), (0, 2), (0, 31), (0, 4), (0, 99)], [], [((33, ([(0, 5), (5, 1)], 0)), ae_s 6)], [(0, .inr (0, 81)), (1, .inr (0, 1)), (2, .inl (ae_s 0)), (3, .inl (ae_s 1)), (4, .inl (ae_s 2)), (5, .inl (ae_s 3)), (6, .inl (ae_s 4)), (7, .inl (ae_s 5))], []) [] [(3, [(0, 4), (0, 4), (1, 4), (0, 2), (0, 31), (0, 4), (0, 99)], [], [(0, .inr (0, 81)), (1, .inr (0, 1)), (2, .inl (ae_s 0)), (3, .inl (ae_s 1)), (4, .inl (ae_s 2)), (5, .inl (ae_s 3)), (6, .inl (ae_s 4)), (7, .inl (([(5, 1)], 1)))], [], [], [], mMU)] = true := by decide +kernel
theorem cn_2 : ∀ g, g < 5 → hp_chk gV0 1000 (2 * g + 12) 114 (3, [(0, 4), (0, 4), (1, 4), (0, 2), (0, 31), (0, 4), (100, 999)], [], [((33, ([(0, 5), (5, 1)], 0)), ae_s 6)], [(0, .inr (0, 81)), (1, .inr (0, 1)), (2, .inl (ae_s 0)), (3, .inl (ae_s 1)), (4, .inl (ae_s 2)), (5, .inl (ae_s 3)), (6, .inl (ae_s 4)), (7, .inl (ae_s 5))], []) [] [(28, [(0, 4), (0, 4), (1, 4), (0, 2), (0, 31), (0, 4), (100, 999)], [], [(0, .inr (0, 81)), (1, .inr (0, 1)), (2, .inl (ae_s 0)), (3, .inl (ae_s 1)), (4, .inl (ae_s 2)), (5, .inl (ae_s 3)), (6, .inl (ae_s 4)), (7, .inl (ae_s 5))], [.inl (ae_s 5), .inl (ae_s 4)], [], [], mMU)] = true := by decide +kernel
theorem cn_3 : ∀ g, g < 5 → hp_chk gV0 1000 (2 * g + 12) 114 (31, [(0, 4), (0, 4), (1, 4), (0, 2), (0, 31), (0, 4)], [], [], [(0, .inr (0, 81)), (1, .inr (0, 1)), (2, .inl (ae_s 0)), (3, .inl (ae_s 1)), (4, .inl (ae_s 2)), (5, .inl (ae_s 3)), (6, .inl (ae_s 4)), (7, .inl (ae_s 5))], [.inl (ae_k 1)]) [] [(3, [(0, 4), (0, 4), (1, 4), (0, 2), (0, 31), (0, 4)], [], [(0, .inr (0, 81)), (1, .inr (0, 1)), (2, .inl (ae_s 0)), (3, .inl (ae_s 1)), (4, .inl (ae_s 2)), (5, .inl (ae_s 3)), (6, .inl (ae_s 4)), (7, .inl (([(5, 1)], 1)))], [], [], [], mMU)] = true := by decide +kernel
theorem cn_4 : ∀ g, g < 5 → hp_chk gV0 1000 (2 * g + 12) 114 (31, [(0, 4), (0, 4), (1, 4), (0, 2), (0, 31), (0, 4)], [], [], [(0, .inr (0, 81)), (1, .inr (0, 1)), (2, .inl (ae_s 0)), (3, .inl (ae_s 1)), (4, .inl (ae_s 2)), (5, .inl (ae_s 3)), (6, .inl (ae_s 4)), (7, .inl (ae_s 5))], [.inl (ae_k 0)]) [] [(41, [(0, 4), (0, 4), (1, 4), (0, 2), (0, 31), (0, 4)], [], [(0, .inr (0, 81)), (1, .inr (0, 1)), (2, .inl (ae_s 0)), (3, .inl (ae_s 1)), (4, .inl (ae_s 2)), (5, .inl (ae_s 3)), (6, .inl (ae_s 4)), (7, .inl (ae_s 5)), (8, .inl (ae_k 0))], [], [], [], mMU)] = true := by decide +kernel
theorem cn_5 : ∀ g, g < 5 → lp_chk (aG00 []) (2 * g + 12) 114 (41, [(0, 4), (0, 3), (1, 4), (0, 2), (0, 31), (0, 4), (0, 2), (0, 24299757)], [], [((87, ([(1, 3), (6, 1)], 0)), ae_s 7)], [(0, .inr (0, 81)), (1, .inr (0, 1)), (2, .inl (ae_s 0)), (3, .inl (ae_s 1)), (4, .inl (ae_s 2)), (5, .inl (ae_s 3)), (6, .inl (ae_s 4)), (7, .inl (ae_s 5)), (8, .inl (ae_s 6))], []) 41 [(0, .inr (0, 81)), (1, .inr (0, 1)), (2, .inl (ae_s 0)), (3, .inl (ae_s 1)), (4, .inl (ae_s 2)), (5, .inl (ae_s 3)), (6, .inl (ae_s 4)), (7, .inl (ae_s 5)), (8, .inl (([(6, 1)], 1)))] [] [(85, some (([(1, 3), (6, 1)], 3), ae_s 7))] = true := by decide +kernel
theorem cn_5b : ∀ g, g < 5 → hp_chk gV0 1000 (2 * g + 12) 114 (41, [(0, 4), (1, 4), (0, 2), (0, 31), (0, 4), (0, 2)], [], [], [(0, .inr (0, 81)), (1, .inr (0, 1)), (2, .inl (ae_s 0)), (3, .inl (ae_k 4)), (4, .inl (ae_s 1)), (5, .inl (ae_s 2)), (6, .inl (ae_s 3)), (7, .inl (ae_s 4)), (8, .inl (ae_s 5))], []) [] [(41, [(0, 4), (1, 4), (0, 2), (0, 31), (0, 4), (0, 2)], [], [(0, .inr (0, 81)), (1, .inr (0, 1)), (2, .inl (ae_s 0)), (3, .inl (ae_k 4)), (4, .inl (ae_s 1)), (5, .inl (ae_s 2)), (6, .inl (ae_s 3)), (7, .inl (ae_s 4)), (8, .inl (([(5, 1)], 1)))], [], [], [], mMU)] = true := by decide +kernel
theorem cn_6 : ∀ g, g < 5 → hp_chk gV0 1000 (2 * g + 12) 114 (41, [(0, 4), (0, 4), (1, 4), (0, 2), (0, 31), (0, 4)], [], [], [(0, .inr (0, 81)), (1, .inr (0, 1)), (2, .inl (ae_s 0)), (3, .inl (ae_s 1)), (4, .inl (ae_s 2)), (5, .inl (ae_s 3)), (6, .inl (ae_s 4)), (7, .inl (ae_s 5)), (8, .inl (ae_k 3))], []) [] [(88, [(0, 4), (0, 4), (1, 4), (0, 2), (0, 31), (0, 4)], [], [(0, .inr (0, 81)), (1, .inr (0, 1)), (2, .inl (ae_s 0)), (3, .inl (ae_s 1)), (4, .inl (ae_s 2)), (5, .inl (ae_s 3)), (6, .inl (ae_s 4)), (7, .inl (ae_s 5))], [.inl (ae_s 4), .inl (ae_s 3), .inl (ae_s 2), .inl (([(1, 1)], 1)), .inl (ae_s 5), .inr (0, 1), .inr (0, 81)], [], [], mMU)] = true := by decide +kernel
theorem cn_7 : ∀ g, g < 5 → hp_chk gV0 1000 (2 * g + 12) 114 (91, [(0, 4), (0, 4), (1, 4), (0, 2), (0, 31), (0, 4)], [], [], [(0, .inr (0, 81)), (1, .inr (0, 1)), (2, .inl (ae_s 0)), (3, .inl (ae_s 1)), (4, .inl (ae_s 2)), (5, .inl (ae_s 3)), (6, .inl (ae_s 4)), (7, .inl (ae_s 5))], []) [] [(3, [(0, 4), (0, 4), (1, 4), (0, 2), (0, 31), (0, 4)], [], [(0, .inr (0, 81)), (1, .inr (0, 1)), (2, .inl (ae_s 0)), (3, .inl (ae_s 1)), (4, .inl (ae_s 2)), (5, .inl (ae_s 3)), (6, .inl (ae_s 4)), (7, .inl (([(5, 1)], 1)))], [], [], [], mMU)] = true := by decide +kernel
theorem cn_8 : ∀ g, g < 5 → hp_chk gV0 1000 (2 * g + 12) 114 (3, [(0, 4), (0, 4), (1, 4), (0, 2), (0, 31)], [], [], [(0, .inr (0, 81)), (1, .inr (0, 1)), (2, .inl (ae_s 0)), (3, .inl (ae_s 1)), (4, .inl (ae_s 2)), (5, .inl (ae_s 3)), (6, .inl (ae_s 4)), (7, .inl (ae_k 5))], []) [] [(97, [(0, 4), (0, 4), (1, 4), (0, 2), (0, 31)], [], [], [], [], [], mMU)] = true := by decide +kernel
end
/-- the ports of a way as bits -/
def rd_M : List Nat → Nat
  | [] => 0
  | q :: t => rd_M t ||| 2 ^ q
theorem rd_M_lt : ∀ {p : List Nat}, (∀ q ∈ p, q < 5) → rd_M p < 32
  | [], _ => by decide
  | q :: t, h => Nat.or_lt_two_pow (n := 5) (rd_M_lt (p := t) (fun y hy => h y (List.mem_cons_of_mem _ hy))) (Nat.pow_lt_pow_right (by decide) (h q List.mem_cons_self))
theorem rd_M_bit {k : Nat} : ∀ {p : List Nat}, (rd_M p).testBit k = decide (k ∈ p)
  | [] => by simp [rd_M]
  | q :: t => by
    unfold rd_M
    rw [Nat.testBit_or, rd_M_bit (p := t), Nat.testBit_two_pow]
    by_cases e : q = k
    · subst e
      simp
    · by_cases m : k ∈ t
      · simp [m]
      · simp [m, e, show ¬ k = q from fun h => e h.symm]

section BD
variable {E : mj_E} {Q : Option Value → va_W → Prop} {al : List Nat} {w w0 w1 w2 : va_W} {S r v0 : Nat → Nat} {to b : Nat}
def cv2 (E : mj_E) (al : List Nat) (w0 w : va_W) : Prop := aWd E al aLay w ∧ aRs aRules w ∧ jJ0 w ∧ hD [81, 85, 87] w0 w
/-- the sails, the rates -/
def dw (w : va_W) (S r : Nat → Nat) : Prop := (∀ k, k < 25 → jS w 33 k = (S k : Int)) ∧ (∀ k, S k ≤ 999) ∧ (∀ k, k < 45 → jS w 31 k = (r k : Int)) ∧ ∀ k, r k ≤ 3000
theorem jL_33 : ∀ k, k < 25 → (jLay 33 k).isSome = true := by decide +kernel
theorem jL_87 : ∀ k, k < 15 → (jLay 87 k).isSome = true := by decide +kernel
theorem dw.sl (H : dw w0 S r) (h : cv2 E al w0 w) {k : Nat} (hk : k < 25) : aSl w 33 k (S k : Int) := by
  rw [← H.1 k hk, ← jS.at (h.2.2.2.2 33 (by decide))]
  exact jLay_sl h.1 (jL_33 k hk)
theorem al_81 : ∃ fs, aLay[(81 : Nat)]? = some (.inl (4, fs)) ∧ fs[(5 : Nat)]? = some (.inl 84) := ⟨_, rfl, rfl⟩
theorem al_1 : ∃ fs, aLay[(1 : Nat)]? = some (.inl (0, fs)) ∧ fs[(16 : Nat)]? = some (.inl 30) := ⟨_, rfl, rfl⟩
theorem al_84 : ∃ fs, aLay[(84 : Nat)]? = some (.inl (2, fs)) := ⟨_, rfl⟩
theorem al_30 : ∃ fs, aLay[(30 : Nat)]? = some (.inl (2, fs)) := ⟨_, rfl⟩
theorem mw_of (hf : E.2.2.2.1.category = 1) (hT : ∀ σ : List Int, aTb E σ aTabs) (H : dw w0 S r) (h : cv2 E al w0 w) {dep : Nat} {v : Nat → Nat} (hd : dep < 5) (hv : ∀ c, c < 3 → jS w 85 (3 * dep + c) = (v c : Int) ∧ v c ≤ 24299757) :
    ∃ a81 a1 a84 a30 f81 f1 f84 f30, al[81]? = some a81 ∧ al[1]? = some a1 ∧ mw E w a81 a1 a84 a30 f81 f1 f84 f30 dep v r := by
  obtain ⟨a5, a6, a7, d⟩ := h
  obtain ⟨x81, l81, k81⟩ := al_81
  obtain ⟨x1, l1, k1⟩ := al_1
  obtain ⟨x84, l84⟩ := al_84
  obtain ⟨x30, l30⟩ := al_30
  obtain ⟨a81, f81, g81, m81, y81⟩ := wd_obj a5 l81
  obtain ⟨a1, f1, g1, m1, y1⟩ := wd_obj a5 l1
  obtain ⟨a84, f84, g84, m84, y84⟩ := wd_obj a5 l84
  obtain ⟨a30, f30, g30, m30, y30⟩ := wd_obj a5 l30
  obtain ⟨u0, p0, c0, z0, rfl⟩ := y81 5 _ k81
  obtain ⟨u1, p1, c1, z1, rfl⟩ := y1 16 _ k1
  have e0 := m84.symm.trans z0
  have e1 := m30.symm.trans z1
  cases e0
  cases e1
  refine ⟨a81, a1, _, _, f81, f1, f84, f30, m81, m1, ⟨g81, p0⟩, ⟨g1, p1⟩, g84, g30, fun c hc => ⟨(hv c hc).2, ga_mj hf hT a5 a6 a7 m84 hd hc (hv c hc).1⟩, fun p c hp hc => ⟨H.2.2.2 _, gr_mj hf hT a5 a6 a7 m30 hp hc ?_⟩⟩
  rw [← H.2.2.1 _ (by omega)]
  exact jS.at (d.2 31 (by decide))
/-- the most of a coin, as a call -/
theorem mo_call (hf : E.2.2.2.1.category = 1) (hT : ∀ σ : List Int, aTb E σ aTabs) (H : dw w0 S r) (h : cv2 E al w0 w) {dep x c : Nat} {v : Nat → Nat} (hd : dep < 5) (hx : x < 5) (hc : c < 3) (hv : ∀ c, c < 3 → jS w 85 (3 * dep + c) = (v c : Int) ∧ v c ≤ 24299757) {AS : List Value} (hA : gL E al [] [.inr (0, 81), .inr (0, 1), .inl (ae_k (x : Int)), .inl (ae_k (dep : Int)), .inl (ae_k (c : Int))] AS) :
    MJ E 6 0 0 (mj_in0 113 AS w) (fun q w2 => ∃ z : Int32, q = some (.int z) ∧ z.toInt = (bg_c r x v c 3 : Int) ∧ w2 = w) := by
  obtain ⟨a81, a1, a84, a30, f81, f1, f84, f30, m81, m1, hm⟩ := mw_of hf hT H h hd hv
  obtain ⟨q1, u1, rfl, ⟨n1, g1, rfl⟩, q2, u2, rfl, ⟨n2, g2, rfl⟩, q3, u3, rfl, ⟨z3, rfl, e3⟩, q4, u4, rfl, ⟨z4, rfl, e4⟩, q5, u5, rfl, ⟨z5, rfl, e5⟩, h6⟩ := hA
  have h6 : u5 = [] := h6
  subst h6
  rw [m81] at g1
  rw [m1] at g2
  cases g1
  cases g2
  have x3 : z3 = nI x := Int32.toInt_inj.mp (by rw [e3.of_k, nI_toInt (by omega)])
  have x4 : z4 = nI dep := Int32.toInt_inj.mp (by rw [e4.of_k, nI_toInt (by omega)])
  have x5 : z5 = nI c := Int32.toInt_inj.mp (by rw [e5.of_k, nI_toInt (by omega)])
  subst x3
  subst x4
  subst x5
  have bb := bg_cb (r := r) (p := x) (v := v) (c := c) (M := 24299757) H.2.2.2 hc (fun c hc => (hv c hc).2) (m := 3) (by omega)
  exact (mo_mj hm hx hc).weaken (Nat.le_refl _) (Nat.le_refl _) (Nat.le_refl _) (fun q w2 h => ⟨_, h.1, nI_toInt (by omega), h.2⟩)
def ctP (E : mj_E) (al : List Nat) (w0 : va_W) (S r v0 : Nat → Nat) (to b g : Nat) : Prop := ∀ (x : Nat) (p : List Nat) (m : Int) (w : va_W), p.length + g = 5 → (∀ q ∈ x :: p, q < 5) → cv2 E al w0 w → jS w 81 7 = m → (p.length ≤ 4 → ∀ c, c < 3 → jS w 85 (3 * p.length + c) = (bg_A r v0 p c : Int)) → ∀ AS, gL E al [] [.inr (0, 81), .inr (0, 1), .inl (ae_k (x : Int)), .inl (ae_k (p.length : Int)), .inl (ae_k (to : Int)), .inl (ae_k (b : Int)), .inl (ae_k (rd_M p : Int))] AS →
  MJ E (2 * g + 11) 0 0 (mj_in0 112 AS w) (fun v w2 => v = none ∧ cv2 E al w0 w2 ∧ (∀ k, k < 3 * p.length → jS w2 87 k = jS w 87 k) ∧ jS w2 81 7 = (bw_ws S to g (x :: p)).foldl (bg_m r v0 b) m)
/-- what has changed at a port goes on to the next -/
theorem cc_go (hf : E.2.2.2.1.category = 1) (hT : ∀ σ : List Int, aTb E σ aTabs) (H : dw w0 S r) (hto : 1 ≤ to ∧ to ≤ 4) (hb : b < 3) (hv0 : ∀ c, c < 3 → v0 c ≤ 99999) {g : Nat} (hg : g < 5) {x nx : Nat} {p : List Nat} (hp : p.length ≤ 4) (hx : x < 5) (hnx : nx < 5) (hm : rd_M (x :: p) < 32) (hA : ∀ c, c < 3 → jS w1 87 (3 * p.length + c) = (bg_A r v0 (x :: p) c : Int)) (hQ : ∀ w2, cv2 E al w0 w2 → (∀ k, jS w2 87 k = jS w1 87 k) → (∀ k, jS w2 81 k = jS w1 81 k) → (p.length + 1 ≤ 4 → ∀ c, c < 3 → jS w2 85 (3 * (p.length + 1) + c) = (bg_A r v0 (x :: p) c : Int)) → hG E al (2 * g + 12) 114 41 [(0, .inr (0, 81)), (1, .inr (0, 1)), (2, .inl (ae_k (x : Int))), (3, .inl (ae_k (p.length : Int))), (4, .inl (ae_k (to : Int))), (5, .inl (ae_k (b : Int))), (6, .inl (ae_k (rd_M (x :: p) : Int))), (7, .inl (ae_k (nx : Int))), (8, .inl (ae_k 3))] [] [] w2 Q) :
    ∀ (m c : Nat) (w : va_W), c + m = 3 → cv2 E al w0 w → (∀ k, jS w 87 k = jS w1 87 k) → (∀ k, jS w 81 k = jS w1 81 k) → (p.length + 1 ≤ 4 → ∀ q, q < c → jS w 85 (3 * (p.length + 1) + q) = (bg_A r v0 (x :: p) q : Int)) → hG E al (2 * g + 12) 114 41 [(0, .inr (0, 81)), (1, .inr (0, 1)), (2, .inl (ae_k (x : Int))), (3, .inl (ae_k (p.length : Int))), (4, .inl (ae_k (to : Int))), (5, .inl (ae_k (b : Int))), (6, .inl (ae_k (rd_M (x :: p) : Int))), (7, .inl (ae_k (nx : Int))), (8, .inl (ae_k (c : Int)))] [] [] w Q := by
  intro m
  induction m with
  | zero =>
    intro c w hc hv h7 h1 h5
    have e : c = 3 := by omega
    subst e
    exact hQ w hv h7 h1 h5
  | succ m ih =>
    intro c w hc hv h7 h1 h5
    have hv1 := hv
    obtain ⟨a5, a6, a7, d⟩ := hv
    by_cases l4 : p.length = 4
    · rw [l4]
      refine ky_go hf hT a5 (by decide) (ρ := [(x : Int), (to : Int), (b : Int), (rd_M (x :: p) : Int), (nx : Int), (c : Int)]) (cn_5b g hg) ⟨⟨by omega, by omega⟩, ⟨by omega, by omega⟩, ⟨by omega, by omega⟩, ⟨by omega, by omega⟩, ⟨by omega, by omega⟩, ⟨by omega, by omega⟩, trivial⟩ aFs.nil aHh.nil (by rfl) (by rfl) (lEr (lEr (lEi (ev_s rfl) (lEi ae_ev_k (lEi (ev_s rfl) (lEi (ev_s rfl) (lEi (ev_s rfl) (lEi (ev_s rfl) (lEi (ev_s rfl) lE0))))))))) sE0 (lvk2 := [(0, .inr (0, 81)), (1, .inr (0, 1)), (2, .inl (ae_k ((x : Int)))), (3, .inl (ae_k (4))), (4, .inl (ae_k ((to : Int)))), (5, .inl (ae_k ((b : Int)))), (6, .inl (ae_k ((rd_M (x :: p) : Int)))), (7, .inl (ae_k ((nx : Int)))), (8, .inl (ae_k (((c + 1 : Nat) : Int))))]) (lEr (lEr (lEi (ev_s rfl) (lEi ae_ev_k (lEi (ev_s rfl) (lEi (ev_s rfl) (lEi (ev_s rfl) (lEi (ev_s rfl) (lEi (by simp only [ae_ev, ae_el, ae_s, ae_k, List.getD_cons_zero, List.getD_cons_succ]; omega) lE0))))))))) (stk2 := []) sE0 ?_
      have := ih (c + 1) w (by omega) hv1 h7 h1 (fun h => by omega)
      rw [l4] at this
      exact this
    · have s : aSl w 87 (3 * p.length + c) (bg_A r v0 (x :: p) c : Int) := by
        rw [← hA c (by omega), ← h7]
        exact jLay_sl a5 (jL_87 _ (by omega))
      have bb := bg_Ab (r := r) (v := v0) (M := 99999) H.2.2.2 hv0 (p := x :: p) (c := c) (by omega)
      have bp : 3 ^ (x :: p).length ≤ 3 ^ 5 := Nat.pow_le_pow_right (by decide) (by simp only [List.length_cons]; omega)
      have bb2 : bg_A r v0 (x :: p) c ≤ 24299757 := Nat.le_trans bb (Nat.le_trans (Nat.mul_le_mul_right _ bp) (by decide))
      refine ky_lg hf hT a5 a6 a7 (by decide) (ρ := [(x : Int), (p.length : Int), (to : Int), (b : Int), (rd_M (x :: p) : Int), (nx : Int), (c : Int), (bg_A r v0 (x :: p) c : Int)]) (cn_5 g hg) ⟨⟨by omega, by omega⟩, ⟨by omega, by omega⟩, ⟨by omega, by omega⟩, ⟨by omega, by omega⟩, ⟨by omega, by omega⟩, ⟨by omega, by omega⟩, ⟨by omega, by omega⟩, ⟨by omega, by omega⟩, trivial⟩ aFs.nil (aHh.cons (kns (by decide) rfl rfl (i := 3 * p.length + c) (by simp only [ae_ev, ae_el, ae_s, ae_k, List.getD_cons_zero, List.getD_cons_succ]; omega) (ev_s rfl) s) aHh.nil) (by rfl) (by rfl) (lEr (lEr (lEi (ev_s rfl) (lEi (ev_s rfl) (lEi (ev_s rfl) (lEi (ev_s rfl) (lEi (ev_s rfl) (lEi (ev_s rfl) (lEi (ev_s rfl) lE0))))))))) sE0 (lvk2 := [(0, .inr (0, 81)), (1, .inr (0, 1)), (2, .inl (ae_k ((x : Int)))), (3, .inl (ae_k ((p.length : Int)))), (4, .inl (ae_k ((to : Int)))), (5, .inl (ae_k ((b : Int)))), (6, .inl (ae_k ((rd_M (x :: p) : Int)))), (7, .inl (ae_k ((nx : Int)))), (8, .inl (ae_k (((c + 1 : Nat) : Int))))]) (lEr (lEr (lEi (ev_s rfl) (lEi (ev_s rfl) (lEi (ev_s rfl) (lEi (ev_s rfl) (lEi (ev_s rfl) (lEi (ev_s rfl) (lEi (by simp only [ae_ev, ae_el, ae_s, ae_k, List.getD_cons_zero, List.getD_cons_succ]; omega) lE0))))))))) (stk2 := []) sE0 (fun w2 b1 b2 b3 b4 b5 => ?_)
      have f : ∀ k, jS w2 85 k = if k = 3 * (p.length + 1) + c then (bg_A r v0 (x :: p) c : Int) else jS w 85 k := fun k => by
        rw [b5 85 k]
        simp [lg_ap, ae_ev, ae_el, ae_s, ae_k]
        have e : (3 * (p.length : Int) + (c : Int) + 3).toNat = 3 * (p.length + 1) + c := by omega
        rw [e]
      refine ih (c + 1) w2 (by omega) ⟨b1, b2, b3, d.trans (b4.more (by decide))⟩ (fun k => (b5 87 k).trans (h7 k)) (fun k => (b5 81 k).trans (h1 k)) (fun h q hq => ?_)
      rw [f]
      by_cases e : q = c
      · subst e
        rw [if_pos rfl]
      · rw [if_neg (by omega)]
        exact h5 h q (by omega)
theorem cn_go (hf : E.2.2.2.1.category = 1) (hT : ∀ σ : List Int, aTb E σ aTabs) (H : dw w0 S r) (hto : 1 ≤ to ∧ to ≤ 4) (hb : b < 3) (hv0 : ∀ c, c < 3 → v0 c ≤ 99999) {g : Nat} (hg : g < 5) (IH : ctP E al w0 S r v0 to b g) {x : Nat} {p : List Nat} {FIN : Int} (hp : p.length + 1 + g = 5) (hq : ∀ q ∈ x :: p, q < 5) (hA : ∀ c, c < 3 → jS w1 87 (3 * p.length + c) = (bg_A r v0 (x :: p) c : Int)) (hQ : ∀ w2, cv2 E al w0 w2 → (∀ k, k < 3 * (p.length + 1) → jS w2 87 k = jS w1 87 k) → jS w2 81 7 = FIN → Q none w2) :
    ∀ (m : Nat) (mm : Int) (w : va_W), m ≤ 5 → cv2 E al w0 w → (∀ k, k < 3 * (p.length + 1) → jS w 87 k = jS w1 87 k) → jS w 81 7 = mm → (rd_fr S (bw_ws S to g) x p m).foldl (bg_m r v0 b) mm = FIN → hG E al (2 * g + 12) 114 3 [(0, .inr (0, 81)), (1, .inr (0, 1)), (2, .inl (ae_k (x : Int))), (3, .inl (ae_k (p.length : Int))), (4, .inl (ae_k (to : Int))), (5, .inl (ae_k (b : Int))), (6, .inl (ae_k (rd_M (x :: p) : Int))), (7, .inl (ae_k ((5 - m : Nat) : Int)))] [] [] w Q := by
  have HV : hOk E al gV0 (fun _ => True) := hOkV hf hT (fun _ _ _ h => h)
  have hx := hq x List.mem_cons_self
  have bm := rd_M_lt hq
  have el : (x :: p).length = p.length + 1 := rfl
  intro m
  induction m with
  | zero =>
    intro mm w hm hv h7 h1 hF
    have hF : mm = FIN := hF
    subst hF
    have hv1 := hv
    obtain ⟨a5, a6, a7, d⟩ := hv
    refine ky_go hf hT a5 (by decide) (ρ := [(x : Int), (p.length : Int), (to : Int), (b : Int), (rd_M (x :: p) : Int)]) (cn_8 g hg) ⟨⟨by omega, by omega⟩, ⟨by omega, by omega⟩, ⟨by omega, by omega⟩, ⟨by omega, by omega⟩, ⟨by omega, by omega⟩, trivial⟩ aFs.nil aHh.nil (by rfl) (by rfl) (lEr (lEr (lEi (ev_s rfl) (lEi (ev_s rfl) (lEi (ev_s rfl) (lEi (ev_s rfl) (lEi (ev_s rfl) (lEi ae_ev_k lE0)))))))) sE0 (lvk2 := []) lE0 (stk2 := []) sE0 ?_
    exact hp_ret HV (by decide) (by decide +kernel) (by decide +kernel) (hQ w hv1 h7 h1)
  | succ m ih =>
    intro mm w hm hv h7 h1 hF
    have hv1 := hv
    obtain ⟨a5, a6, a7, d⟩ := hv
    have e5 : 5 - (m + 1) = 4 - m := by omega
    have e6 : ((4 - m : Nat) : Int) + 1 = ((5 - m : Nat) : Int) := by omega
    have hS := H.2.1 (5 * x + (4 - m))
    have sl := H.sl hv1 (k := 5 * x + (4 - m)) (by omega)
    have stp : rd_fr S (bw_ws S to g) x p (m + 1) = (if rd_ok S x p (4 - m) = true then bw_ws S to g ((4 - m) :: x :: p) else []) ++ rd_fr S (bw_ws S to g) x p m := rfl
    rw [stp, List.foldl_append] at hF
    have bit := rd_M_bit (k := 4 - m) (p := x :: p)
    rw [e5]
    by_cases s1 : S (5 * x + (4 - m)) < 100
    · have no : ¬ rd_ok S x p (4 - m) = true := by
        unfold rd_ok
        simp only [Bool.and_eq_true, decide_eq_true_eq]
        omega
      rw [if_neg no] at hF
      refine ky_go hf hT a5 (by decide) (ρ := [(x : Int), (p.length : Int), (to : Int), (b : Int), (rd_M (x :: p) : Int), ((4 - m : Nat) : Int), (S (5 * x + (4 - m)) : Int)]) (cn_1 g hg) ⟨⟨by omega, by omega⟩, ⟨by omega, by omega⟩, ⟨by omega, by omega⟩, ⟨by omega, by omega⟩, ⟨by omega, by omega⟩, ⟨by omega, by omega⟩, ⟨by omega, by omega⟩, trivial⟩ aFs.nil (aHh.cons (kns (by decide) rfl rfl (i := 5 * x + (4 - m)) (by simp only [ae_ev, ae_el, ae_s, ae_k, List.getD_cons_zero, List.getD_cons_succ]; omega) (ev_s rfl) sl) aHh.nil) (by rfl) (by rfl) (lEr (lEr (lEi (ev_s rfl) (lEi (ev_s rfl) (lEi (ev_s rfl) (lEi (ev_s rfl) (lEi (ev_s rfl) (lEi (ev_s rfl) lE0)))))))) sE0 (lvk2 := [(0, .inr (0, 81)), (1, .inr (0, 1)), (2, .inl (ae_k ((x : Int)))), (3, .inl (ae_k ((p.length : Int)))), (4, .inl (ae_k ((to : Int)))), (5, .inl (ae_k ((b : Int)))), (6, .inl (ae_k ((rd_M (x :: p) : Int)))), (7, .inl (ae_k (((5 - m : Nat) : Int))))]) (lEr (lEr (lEi (ev_s rfl) (lEi (ev_s rfl) (lEi (ev_s rfl) (lEi (ev_s rfl) (lEi (ev_s rfl) (lEi (by simp only [ae_ev, ae_el, ae_s, ae_k, List.getD_cons_zero, List.getD_cons_succ]; omega) lE0)))))))) (stk2 := []) sE0 ?_
      exact ih mm w (by omega) hv1 h7 h1 hF
    · refine ky_go hf hT a5 (by decide) (ρ := [(x : Int), (p.length : Int), (to : Int), (b : Int), (rd_M (x :: p) : Int), ((4 - m : Nat) : Int), (S (5 * x + (4 - m)) : Int)]) (cn_2 g hg) ⟨⟨by omega, by omega⟩, ⟨by omega, by omega⟩, ⟨by omega, by omega⟩, ⟨by omega, by omega⟩, ⟨by omega, by omega⟩, ⟨by omega, by omega⟩, ⟨by omega, by omega⟩, trivial⟩ aFs.nil (aHh.cons (kns (by decide) rfl rfl (i := 5 * x + (4 - m)) (by simp only [ae_ev, ae_el, ae_s, ae_k, List.getD_cons_zero, List.getD_cons_succ]; omega) (ev_s rfl) sl) aHh.nil) (by rfl) (by rfl) (lEr (lEr (lEi (ev_s rfl) (lEi (ev_s rfl) (lEi (ev_s rfl) (lEi (ev_s rfl) (lEi (ev_s rfl) (lEi (ev_s rfl) lE0)))))))) sE0 (lvk2 := [(0, .inr (0, 81)), (1, .inr (0, 1)), (2, .inl (ae_k ((x : Int)))), (3, .inl (ae_k ((p.length : Int)))), (4, .inl (ae_k ((to : Int)))), (5, .inl (ae_k ((b : Int)))), (6, .inl (ae_k ((rd_M (x :: p) : Int)))), (7, .inl (ae_k (((4 - m : Nat) : Int))))]) (lEr (lEr (lEi (ev_s rfl) (lEi (ev_s rfl) (lEi (ev_s rfl) (lEi (ev_s rfl) (lEi (ev_s rfl) (lEi (ev_s rfl) lE0)))))))) (stk2 := [.inl (ae_k (((4 - m : Nat) : Int))), .inl (ae_k ((rd_M (x :: p) : Int)))]) (sEi (ev_s rfl) (sEi (ev_s rfl) sE0)) ?_
      refine hg_bit (by decide +kernel) (by decide +kernel) (by decide +kernel) (by omega) (by omega) ?_
      rw [bit]
      by_cases hm2 : 4 - m ∈ x :: p
      · have no : ¬ rd_ok S x p (4 - m) = true := by
          unfold rd_ok
          simp only [Bool.and_eq_true, decide_eq_true_eq]
          exact fun h => h.2.1 hm2
        rw [if_neg no] at hF
        rw [if_pos (decide_eq_true hm2)]
        refine ky_go hf hT a5 (by decide) (ρ := [(x : Int), (p.length : Int), (to : Int), (b : Int), (rd_M (x :: p) : Int), ((4 - m : Nat) : Int)]) (cn_3 g hg) ⟨⟨by omega, by omega⟩, ⟨by omega, by omega⟩, ⟨by omega, by omega⟩, ⟨by omega, by omega⟩, ⟨by omega, by omega⟩, ⟨by omega, by omega⟩, trivial⟩ aFs.nil aHh.nil (by rfl) (by rfl) (lEr (lEr (lEi (ev_s rfl) (lEi (ev_s rfl) (lEi (ev_s rfl) (lEi (ev_s rfl) (lEi (ev_s rfl) (lEi (ev_s rfl) lE0)))))))) (sEi ae_ev_k sE0) (lvk2 := [(0, .inr (0, 81)), (1, .inr (0, 1)), (2, .inl (ae_k ((x : Int)))), (3, .inl (ae_k ((p.length : Int)))), (4, .inl (ae_k ((to : Int)))), (5, .inl (ae_k ((b : Int)))), (6, .inl (ae_k ((rd_M (x :: p) : Int)))), (7, .inl (ae_k (((5 - m : Nat) : Int))))]) (lEr (lEr (lEi (ev_s rfl) (lEi (ev_s rfl) (lEi (ev_s rfl) (lEi (ev_s rfl) (lEi (ev_s rfl) (lEi (by simp only [ae_ev, ae_el, ae_s, ae_k, List.getD_cons_zero, List.getD_cons_succ]; omega) lE0)))))))) (stk2 := []) sE0 ?_
        exact ih mm w (by omega) hv1 h7 h1 hF
      · rw [if_neg (by simpa using hm2)]
        refine ky_go hf hT a5 (by decide) (ρ := [(x : Int), (p.length : Int), (to : Int), (b : Int), (rd_M (x :: p) : Int), ((4 - m : Nat) : Int)]) (cn_4 g hg) ⟨⟨by omega, by omega⟩, ⟨by omega, by omega⟩, ⟨by omega, by omega⟩, ⟨by omega, by omega⟩, ⟨by omega, by omega⟩, ⟨by omega, by omega⟩, trivial⟩ aFs.nil aHh.nil (by rfl) (by rfl) (lEr (lEr (lEi (ev_s rfl) (lEi (ev_s rfl) (lEi (ev_s rfl) (lEi (ev_s rfl) (lEi (ev_s rfl) (lEi (ev_s rfl) lE0)))))))) (sEi ae_ev_k sE0) (lvk2 := [(0, .inr (0, 81)), (1, .inr (0, 1)), (2, .inl (ae_k ((x : Int)))), (3, .inl (ae_k ((p.length : Int)))), (4, .inl (ae_k ((to : Int)))), (5, .inl (ae_k ((b : Int)))), (6, .inl (ae_k ((rd_M (x :: p) : Int)))), (7, .inl (ae_k (((4 - m : Nat) : Int)))), (8, .inl (ae_k (0)))]) (lEr (lEr (lEi (ev_s rfl) (lEi (ev_s rfl) (lEi (ev_s rfl) (lEi (ev_s rfl) (lEi (ev_s rfl) (lEi (ev_s rfl) (lEi ae_ev_k lE0))))))))) (stk2 := []) sE0 ?_
        refine cc_go (w1 := w) hf hT H hto hb hv0 hg (by omega) hx (by omega) bm (fun c hc => by rw [h7 _ (by omega)]; exact hA c hc) (fun w2 v2 k7 k1 k5 => ?_) 3 0 w (by omega) hv1 (fun k => rfl) (fun k => rfl) (fun _ q hq => absurd hq (by omega))
        have v20 := v2
        obtain ⟨a5, a6, a7, d⟩ := v2
        refine ky_go hf hT a5 (by decide) (ρ := [(x : Int), (p.length : Int), (to : Int), (b : Int), (rd_M (x :: p) : Int), ((4 - m : Nat) : Int)]) (cn_6 g hg) ⟨⟨by omega, by omega⟩, ⟨by omega, by omega⟩, ⟨by omega, by omega⟩, ⟨by omega, by omega⟩, ⟨by omega, by omega⟩, ⟨by omega, by omega⟩, trivial⟩ aFs.nil aHh.nil (by rfl) (by rfl) (lEr (lEr (lEi (ev_s rfl) (lEi (ev_s rfl) (lEi (ev_s rfl) (lEi (ev_s rfl) (lEi (ev_s rfl) (lEi (ev_s rfl) (lEi ae_ev_k lE0))))))))) sE0 (lvk2 := [(0, .inr (0, 81)), (1, .inr (0, 1)), (2, .inl (ae_k ((x : Int)))), (3, .inl (ae_k ((p.length : Int)))), (4, .inl (ae_k ((to : Int)))), (5, .inl (ae_k ((b : Int)))), (6, .inl (ae_k ((rd_M (x :: p) : Int)))), (7, .inl (ae_k (((4 - m : Nat) : Int))))]) (lEr (lEr (lEi (ev_s rfl) (lEi (ev_s rfl) (lEi (ev_s rfl) (lEi (ev_s rfl) (lEi (ev_s rfl) (lEi (ev_s rfl) lE0)))))))) (stk2 := [.inl (ae_k ((rd_M (x :: p) : Int))), .inl (ae_k ((b : Int))), .inl (ae_k ((to : Int))), .inl (ae_k (((x :: p).length : Int))), .inl (ae_k (((4 - m : Nat) : Int))), .inr (0, 1), .inr (0, 81)]) (sEi (ev_s rfl) (sEi (ev_s rfl) (sEi (ev_s rfl) (sEi (by simp only [ae_ev, ae_el, ae_s, ae_k, List.getD_cons_zero, List.getD_cons_succ]; omega) (sEi (ev_s rfl) (sEr (sEr sE0))))))) ?_
        refine hp_call HV (d := 2 * g + 11) (y2 := 112) (as := [.inr (0, 81), .inr (0, 1), .inl (ae_k ((4 - m : Nat) : Int)), .inl (ae_k ((x :: p).length : Int)), .inl (ae_k (to : Int)), .inl (ae_k (b : Int)), .inl (ae_k (rd_M (x :: p) : Int))]) (rest := []) (by decide) (by rfl) (hW.e (J := fun _ => True) a5 trivial)
          (fun AS h => IH (4 - m) (x :: p) mm w2 (by rw [el]; omega) (fun q hq2 => (List.mem_cons.mp hq2).elim (fun e => by omega) (hq q)) v20 ((k1 7).trans h1) (fun h c hc => k5 h c hc) AS h) (fun w3 hR => ?_)
        obtain ⟨r1, r2, r3⟩ := hR
        have r10 := r1
        obtain ⟨a5, a6, a7, d⟩ := r1
        refine ky_go hf hT a5 (by decide) (ρ := [(x : Int), (p.length : Int), (to : Int), (b : Int), (rd_M (x :: p) : Int), ((4 - m : Nat) : Int)]) (cn_7 g hg) ⟨⟨by omega, by omega⟩, ⟨by omega, by omega⟩, ⟨by omega, by omega⟩, ⟨by omega, by omega⟩, ⟨by omega, by omega⟩, ⟨by omega, by omega⟩, trivial⟩ aFs.nil aHh.nil (by rfl) (by rfl) (lEr (lEr (lEi (ev_s rfl) (lEi (ev_s rfl) (lEi (ev_s rfl) (lEi (ev_s rfl) (lEi (ev_s rfl) (lEi (ev_s rfl) lE0)))))))) sE0 (lvk2 := [(0, .inr (0, 81)), (1, .inr (0, 1)), (2, .inl (ae_k ((x : Int)))), (3, .inl (ae_k ((p.length : Int)))), (4, .inl (ae_k ((to : Int)))), (5, .inl (ae_k ((b : Int)))), (6, .inl (ae_k ((rd_M (x :: p) : Int)))), (7, .inl (ae_k (((5 - m : Nat) : Int))))]) (lEr (lEr (lEi (ev_s rfl) (lEi (ev_s rfl) (lEi (ev_s rfl) (lEi (ev_s rfl) (lEi (ev_s rfl) (lEi (by simp only [ae_ev, ae_el, ae_s, ae_k, List.getD_cons_zero, List.getD_cons_succ]; omega) lE0)))))))) (stk2 := []) sE0 ?_
        refine ih _ w3 (by omega) r10 (fun k hk => by rw [r2 k hk, k7 k]; exact h7 k hk) r3 ?_
        rw [← hF]
        by_cases ho : rd_ok S x p (4 - m) = true
        · rw [if_pos ho]
        · rw [if_neg ho]
          have g0 : g = 0 := by
            unfold rd_ok at ho
            simp only [Bool.and_eq_true, decide_eq_true_eq] at ho
            by_cases h5 : p.length + 1 < 5
            · exact absurd ⟨by omega, hm2, h5⟩ ho
            · omega
          subst g0
          rfl
theorem cn_mj (hf : E.2.2.2.1.category = 1) (hT : ∀ σ : List Int, aTb E σ aTabs) (H : dw w0 S r) (hto : 1 ≤ to ∧ to ≤ 4) (hb : b < 3) (hv0 : ∀ c, c < 3 → v0 c ≤ 99999) {g : Nat} (hg : g < 5) (IH : ctP E al w0 S r v0 to b g) {x : Nat} {p : List Nat} {m : Int} (hp : p.length + 1 + g = 5) (hq : ∀ q ∈ x :: p, q < 5) (hv : cv2 E al w0 w) (hA : ∀ c, c < 3 → jS w 87 (3 * p.length + c) = (bg_A r v0 (x :: p) c : Int)) (h1 : jS w 81 7 = m) {AS : List Value} (hAS : gL E al [] [.inr (0, 81), .inr (0, 1), .inl (ae_k (x : Int)), .inl (ae_k (p.length : Int)), .inl (ae_k (to : Int)), .inl (ae_k (b : Int)), .inl (ae_k (rd_M (x :: p) : Int))] AS) :
    MJ E (2 * g + 12) 0 0 (mj_in0 114 AS w) (fun v w2 => v = none ∧ cv2 E al w0 w2 ∧ (∀ k, k < 3 * (p.length + 1) → jS w2 87 k = jS w 87 k) ∧ jS w2 81 7 = (rd_fr S (bw_ws S to g) x p 5).foldl (bg_m r v0 b) m) := by
  have hx := hq x List.mem_cons_self
  have bm := rd_M_lt hq
  have hv1 := hv
  obtain ⟨a5, a6, a7, d⟩ := hv
  refine hG.in0 hf (d := 2 * g + 12) (as := [.inr (0, 81), .inr (0, 1), .inl (ae_k (x : Int)), .inl (ae_k (p.length : Int)), .inl (ae_k (to : Int)), .inl (ae_k (b : Int)), .inl (ae_k (rd_M (x :: p) : Int))]) ?_ hAS
  show hG E al (2 * g + 12) 114 0 [(0, .inr (0, 81)), (1, .inr (0, 1)), (2, .inl (ae_k (x : Int))), (3, .inl (ae_k (p.length : Int))), (4, .inl (ae_k (to : Int))), (5, .inl (ae_k (b : Int))), (6, .inl (ae_k (rd_M (x :: p) : Int)))] [] [] w _
  refine ky_go hf hT a5 (by decide) (ρ := [(x : Int), (p.length : Int), (to : Int), (b : Int), (rd_M (x :: p) : Int)]) (cn_0 g hg) ⟨⟨by omega, by omega⟩, ⟨by omega, by omega⟩, ⟨by omega, by omega⟩, ⟨by omega, by omega⟩, ⟨by omega, by omega⟩, trivial⟩ aFs.nil aHh.nil (by rfl) (by rfl) (lEr (lEr (lEi (ev_s rfl) (lEi (ev_s rfl) (lEi (ev_s rfl) (lEi (ev_s rfl) (lEi (ev_s rfl) lE0))))))) sE0 (lvk2 := [(0, .inr (0, 81)), (1, .inr (0, 1)), (2, .inl (ae_k ((x : Int)))), (3, .inl (ae_k ((p.length : Int)))), (4, .inl (ae_k ((to : Int)))), (5, .inl (ae_k ((b : Int)))), (6, .inl (ae_k ((rd_M (x :: p) : Int)))), (7, .inl (ae_k (0)))]) (lEr (lEr (lEi (ev_s rfl) (lEi (ev_s rfl) (lEi (ev_s rfl) (lEi (ev_s rfl) (lEi (ev_s rfl) (lEi ae_ev_k lE0)))))))) (stk2 := []) sE0 ?_
  exact cn_go (w1 := w) hf hT H hto hb hv0 hg IH hp hq hA (FIN := (rd_fr S (bw_ws S to g) x p 5).foldl (bg_m r v0 b) m) (fun w2 g1 g2 g3 => ⟨rfl, g1, g2, g3⟩) 5 m w (by omega) hv1 (fun k _ => rfl) h1 rfl
/-- the changes at a port, coin by coin -/
theorem ch_go (hf : E.2.2.2.1.category = 1) (hT : ∀ σ : List Int, aTb E σ aTabs) (H : dw w0 S r) (hto : 1 ≤ to ∧ to ≤ 4) (hb : b < 3) (hv0 : ∀ c, c < 3 → v0 c ≤ 99999) {g : Nat} (hg : g < 5) {x : Nat} {p : List Nat} (hp : p.length ≤ 4) (hx : x < 5) (hm : rd_M p < 32) (hA : ∀ c, c < 3 → jS w1 85 (3 * p.length + c) = (bg_A r v0 p c : Int)) (hQ : ∀ w2, cv2 E al w0 w2 → (∀ k, k < 3 * p.length → jS w2 87 k = jS w1 87 k) → (∀ k, jS w2 81 k = jS w1 81 k) → (∀ c, c < 3 → jS w2 87 (3 * p.length + c) = (bg_A r v0 (x :: p) c : Int)) → hG E al (2 * g + 13) 112 9 [(0, .inr (0, 81)), (1, .inr (0, 1)), (2, .inl (ae_k (x : Int))), (3, .inl (ae_k (p.length : Int))), (4, .inl (ae_k (to : Int))), (5, .inl (ae_k (b : Int))), (6, .inl (ae_k (rd_M p : Int))), (7, .inl (ae_k 3))] [] [] w2 Q) :
    ∀ (m c : Nat) (w : va_W), c + m = 3 → cv2 E al w0 w → (∀ k, k < 3 * p.length → jS w 87 k = jS w1 87 k) → (∀ k, jS w 81 k = jS w1 81 k) → (∀ k, jS w 85 k = jS w1 85 k) → (∀ q, q < c → jS w 87 (3 * p.length + q) = (bg_A r v0 (x :: p) q : Int)) → hG E al (2 * g + 13) 112 9 [(0, .inr (0, 81)), (1, .inr (0, 1)), (2, .inl (ae_k (x : Int))), (3, .inl (ae_k (p.length : Int))), (4, .inl (ae_k (to : Int))), (5, .inl (ae_k (b : Int))), (6, .inl (ae_k (rd_M p : Int))), (7, .inl (ae_k (c : Int)))] [] [] w Q := by
  have HV : hOk E al gV0 (fun _ => True) := hOkV hf hT (fun _ _ _ h => h)
  have bA : ∀ c, c < 3 → bg_A r v0 p c ≤ 24299757 := fun c hc => by
    have bb := bg_Ab (r := r) (v := v0) (M := 99999) H.2.2.2 hv0 (p := p) (c := c) hc
    have bp : 3 ^ p.length ≤ 3 ^ 5 := Nat.pow_le_pow_right (by decide) (by omega)
    exact Nat.le_trans bb (Nat.le_trans (Nat.mul_le_mul_right _ bp) (by decide))
  have bB : ∀ c, c < 3 → bg_A r v0 (x :: p) c ≤ 24299757 := fun c hc => by
    have bb := bg_Ab (r := r) (v := v0) (M := 99999) H.2.2.2 hv0 (p := x :: p) (c := c) hc
    have bp : 3 ^ (x :: p).length ≤ 3 ^ 5 := Nat.pow_le_pow_right (by decide) (by simp only [List.length_cons]; omega)
    exact Nat.le_trans bb (Nat.le_trans (Nat.mul_le_mul_right _ bp) (by decide))
  intro m
  induction m with
  | zero =>
    intro c w hc hv h7 h1 h5 hd
    have e : c = 3 := by omega
    subst e
    exact hQ w hv h7 h1 hd
  | succ m ih =>
    intro c w hc hv h7 h1 h5 hd
    have hv1 := hv
    obtain ⟨a5, a6, a7, d⟩ := hv
    have hc3 : c < 3 := by omega
    refine ky_go hf hT a5 (by decide) (ρ := [(x : Int), (p.length : Int), (to : Int), (b : Int), (rd_M p : Int), (c : Int)]) (ct_1 g hg) ⟨⟨by omega, by omega⟩, ⟨by omega, by omega⟩, ⟨by omega, by omega⟩, ⟨by omega, by omega⟩, ⟨by omega, by omega⟩, ⟨by omega, by omega⟩, trivial⟩ aFs.nil aHh.nil (by rfl) (by rfl) (lEr (lEr (lEi (ev_s rfl) (lEi (ev_s rfl) (lEi (ev_s rfl) (lEi (ev_s rfl) (lEi (ev_s rfl) (lEi (ev_s rfl) lE0)))))))) sE0 (lvk2 := [(0, .inr (0, 81)), (1, .inr (0, 1)), (2, .inl (ae_k ((x : Int)))), (3, .inl (ae_k ((p.length : Int)))), (4, .inl (ae_k ((to : Int)))), (5, .inl (ae_k ((b : Int)))), (6, .inl (ae_k ((rd_M p : Int)))), (7, .inl (ae_k ((c : Int))))]) (lEr (lEr (lEi (ev_s rfl) (lEi (ev_s rfl) (lEi (ev_s rfl) (lEi (ev_s rfl) (lEi (ev_s rfl) (lEi (ev_s rfl) lE0)))))))) (stk2 := [.inl (ae_k ((c : Int))), .inl (ae_k ((p.length : Int))), .inl (ae_k ((x : Int))), .inr (0, 1), .inr (0, 81), .inl (ae_k ((c : Int))), .inl (ae_k ((p.length : Int))), .inr (0, 86)]) (sEi (ev_s rfl) (sEi (ev_s rfl) (sEi (ev_s rfl) (sEr (sEr (sEi (ev_s rfl) (sEi (ev_s rfl) (sEr sE0)))))))) ?_
    refine hp_callV HV (d := 2 * g + 12) (y2 := 113) (as := [.inr (0, 81), .inr (0, 1), .inl (ae_k (x : Int)), .inl (ae_k (p.length : Int)), .inl (ae_k (c : Int))]) (rest := [.inl (ae_k (c : Int)), .inl (ae_k (p.length : Int)), .inr (0, 86)]) (by decide) (by rfl) (hW.e (J := fun _ => True) a5 trivial) (fun AS h => (mo_call hf hT H hv1 (v := bg_A r v0 p) (by omega) hx hc3 (fun c hc => ⟨by rw [h5]; exact hA c hc, bA c hc⟩) h).weaken (by omega) (Nat.le_refl _) (Nat.le_refl _) (fun v w h => h)) (fun z w3 hR => ?_)
    obtain ⟨hz, rfl⟩ := hR
    have hz : z.toInt = (bg_A r v0 (x :: p) c : Int) := hz
    have bz := bB c hc3
    rw [hz]
    refine ky_lg hf hT a5 a6 a7 (by decide) (ρ := [(x : Int), (p.length : Int), (to : Int), (b : Int), (rd_M p : Int), (c : Int), (bg_A r v0 (x :: p) c : Int)]) (ct_2 g hg) ⟨⟨by omega, by omega⟩, ⟨by omega, by omega⟩, ⟨by omega, by omega⟩, ⟨by omega, by omega⟩, ⟨by omega, by omega⟩, ⟨by omega, by omega⟩, ⟨by omega, by omega⟩, trivial⟩ aFs.nil aHh.nil (by rfl) (by rfl) (lEr (lEr (lEi (ev_s rfl) (lEi (ev_s rfl) (lEi (ev_s rfl) (lEi (ev_s rfl) (lEi (ev_s rfl) (lEi (ev_s rfl) lE0)))))))) (sEi (ev_s rfl) (sEi (ev_s rfl) (sEi (ev_s rfl) (sEr sE0)))) (lvk2 := [(0, .inr (0, 81)), (1, .inr (0, 1)), (2, .inl (ae_k ((x : Int)))), (3, .inl (ae_k ((p.length : Int)))), (4, .inl (ae_k ((to : Int)))), (5, .inl (ae_k ((b : Int)))), (6, .inl (ae_k ((rd_M p : Int)))), (7, .inl (ae_k (((c + 1 : Nat) : Int))))]) (lEr (lEr (lEi (ev_s rfl) (lEi (ev_s rfl) (lEi (ev_s rfl) (lEi (ev_s rfl) (lEi (ev_s rfl) (lEi (by simp only [ae_ev, ae_el, ae_s, ae_k, List.getD_cons_zero, List.getD_cons_succ]; omega) lE0)))))))) (stk2 := []) sE0 (fun w2 b1 b2 b3 b4 b5 => ?_)
    have f : ∀ k, jS w2 87 k = if k = 3 * p.length + c then (bg_A r v0 (x :: p) c : Int) else jS w3 87 k := fun k => by
      rw [b5 87 k]
      simp [lg_ap, ae_ev, ae_el, ae_s, ae_k]
      have e : (3 * (p.length : Int) + (c : Int)).toNat = 3 * p.length + c := by omega
      rw [e]
    refine ih (c + 1) w2 (by omega) ⟨b1, b2, b3, d.trans (b4.more (by decide))⟩ (fun k hk => by rw [f, if_neg (by omega)]; exact h7 k hk) (fun k => (b5 81 k).trans (h1 k)) (fun k => (b5 85 k).trans (h5 k)) (fun q hq => ?_)
    rw [f]
    by_cases e : q = c
    · subst e
      rw [if_pos rfl]
    · rw [if_neg (by omega)]
      exact hd q (by omega)
theorem ct_mj (hf : E.2.2.2.1.category = 1) (hT : ∀ σ : List Int, aTb E σ aTabs) (H : dw w0 S r) (hto : 1 ≤ to ∧ to ≤ 4) (hb : b < 3) (hv0 : ∀ c, c < 3 → v0 c ≤ 99999) : ∀ g, g ≤ 5 → ctP E al w0 S r v0 to b g := by
  have HV : hOk E al gV0 (fun _ => True) := hOkV hf hT (fun _ _ _ h => h)
  intro g
  induction g with
  | zero =>
    intro g5 x p m w hp hq hv h1 h5 AS hA
    have hx := hq x List.mem_cons_self
    have bm := rd_M_lt (p := p) (fun q h => hq q (List.mem_cons_of_mem _ h))
    have hv1 := hv
    obtain ⟨a5, a6, a7, d⟩ := hv
    have e5 : p.length = 5 := by omega
    rw [e5] at hA
    refine hG.in0 hf (d := 11) (as := [.inr (0, 81), .inr (0, 1), .inl (ae_k (x : Int)), .inl (ae_k ((5 : Nat) : Int)), .inl (ae_k (to : Int)), .inl (ae_k (b : Int)), .inl (ae_k (rd_M p : Int))]) ?_ hA
    show hG E al 11 112 0 [(0, .inr (0, 81)), (1, .inr (0, 1)), (2, .inl (ae_k (x : Int))), (3, .inl (ae_k 5)), (4, .inl (ae_k (to : Int))), (5, .inl (ae_k (b : Int))), (6, .inl (ae_k (rd_M p : Int)))] [] [] w _
    refine ky_go hf hT a5 (by decide) (ρ := [(x : Int), (to : Int), (b : Int), (rd_M p : Int)]) (ct_5 0 (by decide)) ⟨⟨by omega, by omega⟩, ⟨by omega, by omega⟩, ⟨by omega, by omega⟩, ⟨by omega, by omega⟩, trivial⟩ aFs.nil aHh.nil (by rfl) (by rfl) (lEr (lEr (lEi (ev_s rfl) (lEi ae_ev_k (lEi (ev_s rfl) (lEi (ev_s rfl) (lEi (ev_s rfl) lE0))))))) sE0 (lvk2 := []) lE0 (stk2 := []) sE0 ?_
    exact hp_ret HV (by decide) (by decide +kernel) (by decide +kernel) ⟨rfl, hv1, fun k _ => rfl, h1⟩
  | succ g ih =>
    intro g5 x p m w hp hq hv h1 h5 AS hA
    have hg : g < 5 := by omega
    have hx := hq x List.mem_cons_self
    have bm := rd_M_lt (p := p) (fun q h => hq q (List.mem_cons_of_mem _ h))
    have hv1 := hv
    obtain ⟨a5, a6, a7, d⟩ := hv
    show MJ E (2 * g + 13) 0 0 (mj_in0 112 AS w) _
    refine hG.in0 hf (d := 2 * g + 13) (as := [.inr (0, 81), .inr (0, 1), .inl (ae_k (x : Int)), .inl (ae_k (p.length : Int)), .inl (ae_k (to : Int)), .inl (ae_k (b : Int)), .inl (ae_k (rd_M p : Int))]) ?_ hA
    show hG E al (2 * g + 13) 112 0 [(0, .inr (0, 81)), (1, .inr (0, 1)), (2, .inl (ae_k (x : Int))), (3, .inl (ae_k (p.length : Int))), (4, .inl (ae_k (to : Int))), (5, .inl (ae_k (b : Int))), (6, .inl (ae_k (rd_M p : Int)))] [] [] w _
    refine ky_go hf hT a5 (by decide) (ρ := [(x : Int), (p.length : Int), (to : Int), (b : Int), (rd_M p : Int)]) (ct_0 g hg) ⟨⟨by omega, by omega⟩, ⟨by omega, by omega⟩, ⟨by omega, by omega⟩, ⟨by omega, by omega⟩, ⟨by omega, by omega⟩, trivial⟩ aFs.nil aHh.nil (by rfl) (by rfl) (lEr (lEr (lEi (ev_s rfl) (lEi (ev_s rfl) (lEi (ev_s rfl) (lEi (ev_s rfl) (lEi (ev_s rfl) lE0))))))) sE0 (lvk2 := [(0, .inr (0, 81)), (1, .inr (0, 1)), (2, .inl (ae_k ((x : Int)))), (3, .inl (ae_k ((p.length : Int)))), (4, .inl (ae_k ((to : Int)))), (5, .inl (ae_k ((b : Int)))), (6, .inl (ae_k ((rd_M p : Int)))), (7, .inl (ae_k (0)))]) (lEr (lEr (lEi (ev_s rfl) (lEi (ev_s rfl) (lEi (ev_s rfl) (lEi (ev_s rfl) (lEi (ev_s rfl) (lEi ae_ev_k lE0)))))))) (stk2 := []) sE0 ?_
    refine ch_go (w1 := w) hf hT H hto hb hv0 hg (by omega) hx bm (h5 (by omega)) (fun w3 v3 k7 k1 kd => ?_) 3 0 w (by omega) hv1 (fun k _ => rfl) (fun k => rfl) (fun k => rfl) (fun q hq => absurd hq (by omega))
    have v30 := v3
    obtain ⟨a5, a6, a7, d⟩ := v3
    have h13 : jS w3 81 7 = m := (k1 7).trans h1
    have bb : bg_A r v0 (x :: p) b ≤ 24299757 := by
      have bb := bg_Ab (r := r) (v := v0) (M := 99999) H.2.2.2 hv0 (p := x :: p) (c := b) hb
      have bp : 3 ^ (x :: p).length ≤ 3 ^ 5 := Nat.pow_le_pow_right (by decide) (by simp only [List.length_cons]; omega)
      exact Nat.le_trans bb (Nat.le_trans (Nat.mul_le_mul_right _ bp) (by decide))
    by_cases x0 : x = to
    · have sv : aSl w3 87 (3 * p.length + b) (bg_A r v0 (x :: p) b : Int) := by
        rw [← kd b hb]
        exact jLay_sl a5 (jL_87 _ (by omega))
      have sm : aSl w3 81 7 m := by
        rw [← h13]
        exact jLay_sl a5 (by decide +kernel)
      have im := sm.i32
      have ews : (bw_ws S to (g + 1) (x :: p)).foldl (bg_m r v0 b) m = max m (bg_A r v0 (x :: p) b : Int) := by
        show (if x = to then [x :: p] else _).foldl _ _ = _
        rw [if_pos x0]
        rfl
      rw [x0] at sv bb
      rw [ews, x0]
      by_cases c1 : m < (bg_A r v0 (to :: p) b : Int)
      · refine ky_lg hf hT a5 a6 a7 (by decide) (ρ := [(p.length : Int), (to : Int), (b : Int), (rd_M p : Int), (bg_A r v0 (to :: p) b : Int), m]) (ct_3a g hg) ⟨⟨by omega, by omega⟩, ⟨by omega, by omega⟩, ⟨by omega, by omega⟩, ⟨by omega, by omega⟩, ⟨by omega, by omega⟩, im, trivial⟩ (aFs.cons rfl (by simp only [ae_ev, ae_el, ae_s, ae_k, List.getD_cons_zero, List.getD_cons_succ]; omega) aFs.nil) (aHh.cons (kns (by decide) rfl rfl (i := 3 * p.length + b) (by simp only [ae_ev, ae_el, ae_s, ae_k, List.getD_cons_zero, List.getD_cons_succ]; omega) (ev_s rfl) sv) (aHh.cons (kn1 (i := 7) (by decide) rfl (ev_s rfl) sm) aHh.nil)) (by rfl) (by rfl) (lEr (lEr (lEi (ev_s rfl) (lEi (ev_s rfl) (lEi (ev_s rfl) (lEi (ev_s rfl) (lEi (ev_s rfl) (lEi ae_ev_k lE0)))))))) sE0 (lvk2 := []) lE0 (stk2 := []) sE0 (fun w2 b1 b2 b3 b4 b5 => ?_)
        have f : ∀ k, jS w2 81 k = if k = 7 then (bg_A r v0 (to :: p) b : Int) else jS w3 81 k := fun k => by
          rw [b5 81 k]
          simp [lg_ap, ae_ev, ae_el, ae_s, ae_k]
        exact hp_ret HV (by decide) (by decide +kernel) (by decide +kernel) ⟨rfl, ⟨b1, b2, b3, d.trans (b4.more (by decide))⟩, fun k hk => (b5 87 k).trans (k7 k hk), by rw [f, if_pos rfl]; omega⟩
      · refine ky_lg hf hT a5 a6 a7 (by decide) (ρ := [(p.length : Int), (to : Int), (b : Int), (rd_M p : Int), (bg_A r v0 (to :: p) b : Int), m]) (ct_3b g hg) ⟨⟨by omega, by omega⟩, ⟨by omega, by omega⟩, ⟨by omega, by omega⟩, ⟨by omega, by omega⟩, ⟨by omega, by omega⟩, im, trivial⟩ (aFs.cons rfl (by simp only [ae_ev, ae_el, ae_s, ae_k, List.getD_cons_zero, List.getD_cons_succ]; omega) aFs.nil) (aHh.cons (kns (by decide) rfl rfl (i := 3 * p.length + b) (by simp only [ae_ev, ae_el, ae_s, ae_k, List.getD_cons_zero, List.getD_cons_succ]; omega) (ev_s rfl) sv) (aHh.cons (kn1 (i := 7) (by decide) rfl (ev_s rfl) sm) aHh.nil)) (by rfl) (by rfl) (lEr (lEr (lEi (ev_s rfl) (lEi (ev_s rfl) (lEi (ev_s rfl) (lEi (ev_s rfl) (lEi (ev_s rfl) (lEi ae_ev_k lE0)))))))) sE0 (lvk2 := []) lE0 (stk2 := []) sE0 (fun w2 b1 b2 b3 b4 b5 => ?_)
        have f : ∀ k, jS w2 81 k = if k = 7 then m else jS w3 81 k := fun k => by
          rw [b5 81 k]
          simp [lg_ap, ae_ev, ae_el, ae_s, ae_k]
        exact hp_ret HV (by decide) (by decide +kernel) (by decide +kernel) ⟨rfl, ⟨b1, b2, b3, d.trans (b4.more (by decide))⟩, fun k hk => (b5 87 k).trans (k7 k hk), by rw [f, if_pos rfl]; omega⟩
    · have ews : (bw_ws S to (g + 1) (x :: p)).foldl (bg_m r v0 b) m = (rd_fr S (bw_ws S to g) x p 5).foldl (bg_m r v0 b) m := by
        show (if x = to then [x :: p] else rd_fr S (bw_ws S to g) x p 5).foldl _ _ = _
        rw [if_neg x0]
      rw [ews]
      have rest : hG E al (2 * g + 13) 112 82 [] [.inl (ae_k (x : Int)), .inl (ae_k 1), .inl (ae_k (rd_M p : Int)), .inl (ae_k (b : Int)), .inl (ae_k (to : Int)), .inl (ae_k (p.length : Int)), .inl (ae_k (x : Int)), .inr (0, 1), .inr (0, 81)] [] w3 (fun v w2 => v = none ∧ cv2 E al w0 w2 ∧ (∀ k, k < 3 * p.length → jS w2 87 k = jS w 87 k) ∧ jS w2 81 7 = (rd_fr S (bw_ws S to g) x p 5).foldl (bg_m r v0 b) m) := by
        refine hg_or (by decide +kernel) (by decide +kernel) bm hx ?_
        refine hp_call HV (d := 2 * g + 12) (y2 := 114) (as := [.inr (0, 81), .inr (0, 1), .inl (ae_k (x : Int)), .inl (ae_k (p.length : Int)), .inl (ae_k (to : Int)), .inl (ae_k (b : Int)), .inl (ae_k (rd_M (x :: p) : Int))]) (rest := []) (by decide) (by rfl) (hW.e (J := fun _ => True) a5 trivial)
          (fun AS h => cn_mj hf hT H hto hb hv0 hg (ih (by omega)) (by omega) hq v30 kd h13 h) (fun w4 hR => ?_)
        obtain ⟨r1, r2, r3⟩ := hR
        exact hp_ret HV (by decide) (by decide +kernel) (by decide +kernel) ⟨rfl, r1, fun k hk => by rw [r2 k (by omega)]; exact k7 k hk, r3⟩
      by_cases lt : x < to
      · refine ky_go hf hT a5 (by decide) (ρ := [(x : Int), (p.length : Int), (to : Int), (b : Int), (rd_M p : Int)]) (ct_4a g hg) ⟨⟨by omega, by omega⟩, ⟨by omega, by omega⟩, ⟨by omega, by omega⟩, ⟨by omega, by omega⟩, ⟨by omega, by omega⟩, trivial⟩ (aFs.cons rfl (by simp only [ae_ev, ae_el, ae_s, ae_k, List.getD_cons_zero, List.getD_cons_succ]; omega) aFs.nil) aHh.nil (by rfl) (by rfl) (lEr (lEr (lEi (ev_s rfl) (lEi (ev_s rfl) (lEi (ev_s rfl) (lEi (ev_s rfl) (lEi (ev_s rfl) (lEi ae_ev_k lE0)))))))) sE0 (lvk2 := []) lE0 (stk2 := [.inl (ae_k ((x : Int))), .inl (ae_k (1)), .inl (ae_k ((rd_M p : Int))), .inl (ae_k ((b : Int))), .inl (ae_k ((to : Int))), .inl (ae_k ((p.length : Int))), .inl (ae_k ((x : Int))), .inr (0, 1), .inr (0, 81)]) (sEi (ev_s rfl) (sEi ae_ev_k (sEi (ev_s rfl) (sEi (ev_s rfl) (sEi (ev_s rfl) (sEi (ev_s rfl) (sEi (ev_s rfl) (sEr (sEr sE0))))))))) ?_
        exact rest
      · refine ky_go hf hT a5 (by decide) (ρ := [(x : Int), (p.length : Int), (to : Int), (b : Int), (rd_M p : Int)]) (ct_4b g hg) ⟨⟨by omega, by omega⟩, ⟨by omega, by omega⟩, ⟨by omega, by omega⟩, ⟨by omega, by omega⟩, ⟨by omega, by omega⟩, trivial⟩ (aFs.cons rfl (by simp only [ae_ev, ae_el, ae_s, ae_k, List.getD_cons_zero, List.getD_cons_succ]; omega) aFs.nil) aHh.nil (by rfl) (by rfl) (lEr (lEr (lEi (ev_s rfl) (lEi (ev_s rfl) (lEi (ev_s rfl) (lEi (ev_s rfl) (lEi (ev_s rfl) (lEi ae_ev_k lE0)))))))) sE0 (lvk2 := []) lE0 (stk2 := [.inl (ae_k ((x : Int))), .inl (ae_k (1)), .inl (ae_k ((rd_M p : Int))), .inl (ae_k ((b : Int))), .inl (ae_k ((to : Int))), .inl (ae_k ((p.length : Int))), .inl (ae_k ((x : Int))), .inr (0, 1), .inr (0, 81)]) (sEi (ev_s rfl) (sEi ae_ev_k (sEi (ev_s rfl) (sEi (ev_s rfl) (sEi (ev_s rfl) (sEi (ev_s rfl) (sEi (ev_s rfl) (sEr (sEr sE0))))))))) ?_
        exact rest
end BD
/-! BROUGHT, the component, whole -/
section
set_option maxRecDepth 100000
theorem mb_0 : lp_chk (aG00 []) 84 111 (0, [(1, 4), (0, 2), (0, 2), (1, 99999)], [], [], [(0, .inr (0, 81)), (1, .inr (0, 1)), (2, .inl (ae_s 0)), (3, .inl (ae_s 1)), (4, .inl (ae_s 2)), (5, .inl (ae_s 3))], []) 33 [(0, .inr (0, 81))] [.inl (ae_k 0), .inl (ae_s 2), .inl (ae_s 0), .inl (ae_k 0), .inl (ae_k 0), .inr (0, 1), .inr (0, 81)] [(85, some (ae_s 1, ae_s 3)), (85, some (ae_k 2, ae_k 0)), (85, some (ae_k 1, ae_k 0)), (85, some (ae_k 0, ae_k 0)), (81, some (ae_k 7, ae_k (-3)))] = true := by decide +kernel
theorem mb_1 : hp_chk gV0 1000 84 111 (36, [aF], [], [((81, ae_k 7), ae_s 0)], [(0, .inr (0, 81))], []) [] [(40, [aF], [], [], [.inl (ae_s 0)], [], [], mMU)] = true := by decide +kernel
theorem bc_0 : hp_chk gV0 1000 85 110 (0, [aF, aF, aF, aF], [ae_s 0], [], [(0, .inr (0, 0)), (1, .inl (ae_s 0)), (2, .inl (ae_s 1)), (3, .inl (ae_s 2)), (4, .inl (ae_s 3))], []) [] [(33, [aF, aF, aF, aF], [], [], [.inl (ae_k (-1))], [], [], mMU)] = true := by decide +kernel
theorem bc_1 : hp_chk gV0 1000 85 110 (0, [aF, aF, aF, aF], [([(0, (-1))], 5)], [], [(0, .inr (0, 0)), (1, .inl (ae_s 0)), (2, .inl (ae_s 1)), (3, .inl (ae_s 2)), (4, .inl (ae_s 3))], []) [] [(33, [aF, aF, aF, aF], [], [], [.inl (ae_k (-1))], [], [], mMU)] = true := by decide +kernel
theorem bc_2 : hp_chk gV0 1000 85 110 (0, [(1, 4), aF, aF, aF], [([(1, 1)], 1)], [], [(0, .inr (0, 0)), (1, .inl (ae_s 0)), (2, .inl (ae_s 1)), (3, .inl (ae_s 2)), (4, .inl (ae_s 3))], []) [] [(33, [(1, 4), aF, aF, aF], [], [], [.inl (ae_k (-1))], [], [], mMU)] = true := by decide +kernel
theorem bc_3 : hp_chk gV0 1000 85 110 (0, [(1, 4), aF, aF, aF], [([(1, (-1))], 3)], [], [(0, .inr (0, 0)), (1, .inl (ae_s 0)), (2, .inl (ae_s 1)), (3, .inl (ae_s 2)), (4, .inl (ae_s 3))], []) [] [(33, [(1, 4), aF, aF, aF], [], [], [.inl (ae_k (-1))], [], [], mMU)] = true := by decide +kernel
theorem bc_4 : hp_chk gV0 1000 85 110 (0, [(1, 4), (0, 2), aF, aF], [([(2, 1)], 1)], [], [(0, .inr (0, 0)), (1, .inl (ae_s 0)), (2, .inl (ae_s 1)), (3, .inl (ae_s 2)), (4, .inl (ae_s 3))], []) [] [(33, [(1, 4), (0, 2), aF, aF], [], [], [.inl (ae_k (-1))], [], [], mMU)] = true := by decide +kernel
theorem bc_5 : hp_chk gV0 1000 85 110 (0, [(1, 4), (0, 2), aF, aF], [([(2, (-1))], 3)], [], [(0, .inr (0, 0)), (1, .inl (ae_s 0)), (2, .inl (ae_s 1)), (3, .inl (ae_s 2)), (4, .inl (ae_s 3))], []) [] [(33, [(1, 4), (0, 2), aF, aF], [], [], [.inl (ae_k (-1))], [], [], mMU)] = true := by decide +kernel
theorem bc_6 : hp_chk gV0 1000 85 110 (0, [(1, 4), (0, 2), (0, 2), aF], [ae_s 3], [], [(0, .inr (0, 0)), (1, .inl (ae_s 0)), (2, .inl (ae_s 1)), (3, .inl (ae_s 2)), (4, .inl (ae_s 3))], []) [] [(33, [(1, 4), (0, 2), (0, 2), aF], [], [], [.inl (ae_k (-1))], [], [], mMU)] = true := by decide +kernel
theorem bc_7 : hp_chk gV0 1000 85 110 (0, [(1, 4), (0, 2), (0, 2), aF], [([(3, (-1))], 100000)], [], [(0, .inr (0, 0)), (1, .inl (ae_s 0)), (2, .inl (ae_s 1)), (3, .inl (ae_s 2)), (4, .inl (ae_s 3))], []) [] [(33, [(1, 4), (0, 2), (0, 2), aF], [], [], [.inl (ae_k (-1))], [], [], mMU)] = true := by decide +kernel
theorem bc_ok : hp_chk gV0 1000 85 110 (0, [(1, 4), (0, 2), (0, 2), (1, 99999)], [], [], [(0, .inr (0, 0)), (1, .inl (ae_s 0)), (2, .inl (ae_s 1)), (3, .inl (ae_s 2)), (4, .inl (ae_s 3))], []) [] [(47, [(1, 4), (0, 2), (0, 2), (1, 99999)], [], [], [.inl (ae_s 3), .inl (ae_s 2), .inl (ae_s 1), .inl (ae_s 0), .inr (0, 1), .inr (0, 81)], [], [], mMU)] = true := by decide +kernel
end
section BE
variable {E : mj_E} {al : List Nat} {w0 w : va_W} {S r : Nat → Nat}
def bg_R (S r : Nat → Nat) (port a b n : Int) : Int := if 1 ≤ port ∧ port ≤ 4 ∧ 0 ≤ a ∧ a ≤ 2 ∧ 0 ≤ b ∧ b ≤ 2 ∧ 1 ≤ n ∧ n ≤ 99999 then bg_T S r port.toNat a.toNat b.toNat n.toNat else -1
theorem mb_mj (hf : E.2.2.2.1.category = 1) (hT : ∀ σ : List Int, aTb E σ aTabs) {port a b n : Nat} (H : dw w S r) (hp : 1 ≤ port ∧ port ≤ 4) (ha : a < 3) (hb : b < 3) (hn : 1 ≤ n ∧ n ≤ 99999) (a5 : aWd E al aLay w) (a6 : aRs aRules w) (a7 : jJ0 w) {AS : List Value} (hA : gL E al [] [.inr (0, 81), .inr (0, 1), .inl (ae_k (port : Int)), .inl (ae_k (a : Int)), .inl (ae_k (b : Int)), .inl (ae_k (n : Int))] AS) :
    MJ E 84 0 0 (mj_in0 111 AS w) (fun v w2 => ∃ z : Int32, v = some (.int z) ∧ z.toInt = bg_T S r port a b n ∧ cv2 E al w w2) := by
  have HV : hOk E al gV0 (fun _ => True) := hOkV hf hT (fun _ _ _ h => h)
  refine hG.in0 hf (d := 84) (as := [.inr (0, 81), .inr (0, 1), .inl (ae_k (port : Int)), .inl (ae_k (a : Int)), .inl (ae_k (b : Int)), .inl (ae_k (n : Int))]) ?_ hA
  show hG E al 84 111 0 [(0, .inr (0, 81)), (1, .inr (0, 1)), (2, .inl (ae_k (port : Int))), (3, .inl (ae_k (a : Int))), (4, .inl (ae_k (b : Int))), (5, .inl (ae_k (n : Int)))] [] [] w _
  refine ky_lg hf hT a5 a6 a7 (by decide) (ρ := [(port : Int), (a : Int), (b : Int), (n : Int)]) mb_0 ⟨⟨by omega, by omega⟩, ⟨by omega, by omega⟩, ⟨by omega, by omega⟩, ⟨by omega, by omega⟩, trivial⟩ aFs.nil aHh.nil (by rfl) (by rfl) (lEr (lEr (lEi (ev_s rfl) (lEi (ev_s rfl) (lEi (ev_s rfl) (lEi (ev_s rfl) lE0)))))) sE0 (lvk2 := [(0, .inr (0, 81))]) (lEr lE0) (stk2 := [.inl (ae_k (0)), .inl (ae_k ((b : Int))), .inl (ae_k ((port : Int))), .inl (ae_k (0)), .inl (ae_k (0)), .inr (0, 1), .inr (0, 81)]) (sEi ae_ev_k (sEi (ev_s rfl) (sEi (ev_s rfl) (sEi ae_ev_k (sEi ae_ev_k (sEr (sEr sE0))))))) (fun w2 b1 b2 b3 b4 b5 => ?_)
  have f : ∀ k, jS w2 85 k = if k = a then (n : Int) else if k = 2 then 0 else if k = 1 then 0 else if k = 0 then 0 else jS w 85 k := fun k => by
    rw [b5 85 k]
    simp [lg_ap, ae_ev, ae_el, ae_s, ae_k]
  have m : jS w2 81 7 = -3 := by
    rw [b5 81 7]
    simp [lg_ap, ae_ev, ae_el, ae_s, ae_k]
  have v2 : cv2 E al w w2 := ⟨b1, b2, b3, b4.more (by decide)⟩
  refine hp_call HV (d := 83) (y2 := 112) (as := [.inr (0, 81), .inr (0, 1), .inl (ae_k 0), .inl (ae_k 0), .inl (ae_k (port : Int)), .inl (ae_k (b : Int)), .inl (ae_k 0)]) (rest := []) (by decide) (by rfl) (hW.e (J := fun _ => True) b1 trivial)
    (fun AS h => (ct_mj (v0 := bg_0 a n) hf hT H hp hb (fun c _ => by unfold bg_0; split <;> omega) 5 (by decide) 0 [] (-3) w2 rfl (fun q hq => by
      have := List.mem_singleton.mp hq
      omega) v2 m (fun _ c hc => by
        show jS w2 85 (3 * 0 + c) = ((bg_0 a n c : Nat) : Int)
        rw [f]
        unfold bg_0
        by_cases e : 3 * 0 + c = a
        · rw [if_pos e, if_pos (show c = a by omega)]
        · rw [if_neg e, if_neg (show ¬ c = a by omega)]
          rcases (by omega : c = 0 ∨ c = 1 ∨ c = 2) with rfl | rfl | rfl <;> simp) AS h).weaken (by decide) (Nat.le_refl _) (Nat.le_refl _) (fun v w h => h)) (fun w3 hR => ?_)
  obtain ⟨r1, r2, r3⟩ := hR
  have r10 := r1
  obtain ⟨a5, a6, a7, d⟩ := r1
  have r3 : jS w3 81 7 = bg_T S r port a b n := r3
  have sl : aSl w3 81 7 (bg_T S r port a b n) := by rw [← r3]; exact jLay_sl a5 (by decide +kernel)
  have im := sl.i32
  refine ky_go hf hT a5 (by decide) (ρ := [(bg_T S r port a b n)]) mb_1 ⟨im, trivial⟩ aFs.nil (aHh.cons (kn1 (i := 7) (by decide) rfl (ev_s rfl) sl) aHh.nil) (by rfl) (by rfl) (lEr lE0) sE0 (lvk2 := []) lE0 (stk2 := [.inl (ae_k ((bg_T S r port a b n)))]) (sEi (ev_s rfl) sE0) ?_
  exact hp_retI (pc := 40) (ty := .int) (x := bg_T S r port a b n) (by decide) (by decide +kernel) (by decide +kernel) (aV.k _) (fun n hn => rfl) (fun z hz => ⟨z, rfl, hz, r10⟩)
/-- brought, the component -/
theorem bgc_mj (hf : E.2.2.2.1.category = 1) (hT : ∀ σ : List Int, aTb E σ aTabs) (a5 : aWd E al aLay w) (a6 : aRs aRules w) (a7 : jJ0 w) (H : dw w S r) {port a b n : Int} (x1 : aI0 ≤ port ∧ port ≤ aI1) (x2 : aI0 ≤ a ∧ a ≤ aI1) (x3 : aI0 ≤ b ∧ b ≤ aI1) (x4 : aI0 ≤ n ∧ n ≤ aI1) {AS : List Value} (hA : gL E al [] [.inr (0, 0), .inl (ae_k port), .inl (ae_k a), .inl (ae_k b), .inl (ae_k n)] AS) :
    MJ E 85 0 0 (mj_in0 110 AS w) (fun v w2 => ∃ z : Int32, v = some (.int z) ∧ z.toInt = bg_R S r port a b n ∧ cv2 E al w w2) := by
  have HV : hOk E al gV0 (fun _ => True) := hOkV hf hT (fun _ _ _ h => h)
  refine hG.in0 hf (d := 85) (as := [.inr (0, 0), .inl (ae_k port), .inl (ae_k a), .inl (ae_k b), .inl (ae_k n)]) ?_ hA
  show hG E al 85 110 0 [(0, .inr (0, 0)), (1, .inl (ae_k port)), (2, .inl (ae_k a)), (3, .inl (ae_k b)), (4, .inl (ae_k n))] [] [] w _
  by_cases c0 : port ≤ 0
  · refine ky_go hf hT a5 (by decide) (ρ := [port, a, b, n]) bc_0 ⟨x1, x2, x3, x4, trivial⟩ (aFs.cons rfl (by simp only [ae_ev, ae_el, ae_s, ae_k, List.getD_cons_zero, List.getD_cons_succ]; omega) aFs.nil) aHh.nil (by rfl) (by rfl) (lEr (lEi (ev_s rfl) (lEi (ev_s rfl) (lEi (ev_s rfl) (lEi (ev_s rfl) lE0))))) sE0 (lvk2 := []) lE0 (stk2 := [.inl (ae_k ((-1)))]) (sEi ae_ev_k sE0) ?_
    exact hp_retI (pc := 33) (ty := .int) (x := -1) (by decide) (by decide +kernel) (by decide +kernel) (aV.k _) (fun n hn => rfl) (fun z hz => ⟨z, rfl, by rw [hz]; unfold bg_R; rw [if_neg (by omega)], a5, a6, a7, hD.refl⟩)
  by_cases c1 : 5 ≤ port
  · refine ky_go hf hT a5 (by decide) (ρ := [port, a, b, n]) bc_1 ⟨x1, x2, x3, x4, trivial⟩ (aFs.cons rfl (by simp only [ae_ev, ae_el, ae_s, ae_k, List.getD_cons_zero, List.getD_cons_succ]; omega) aFs.nil) aHh.nil (by rfl) (by rfl) (lEr (lEi (ev_s rfl) (lEi (ev_s rfl) (lEi (ev_s rfl) (lEi (ev_s rfl) lE0))))) sE0 (lvk2 := []) lE0 (stk2 := [.inl (ae_k ((-1)))]) (sEi ae_ev_k sE0) ?_
    exact hp_retI (pc := 33) (ty := .int) (x := -1) (by decide) (by decide +kernel) (by decide +kernel) (aV.k _) (fun n hn => rfl) (fun z hz => ⟨z, rfl, by rw [hz]; unfold bg_R; rw [if_neg (by omega)], a5, a6, a7, hD.refl⟩)
  by_cases c2 : a ≤ -1
  · refine ky_go hf hT a5 (by decide) (ρ := [port, a, b, n]) bc_2 ⟨⟨by omega, by omega⟩, x2, x3, x4, trivial⟩ (aFs.cons rfl (by simp only [ae_ev, ae_el, ae_s, ae_k, List.getD_cons_zero, List.getD_cons_succ]; omega) aFs.nil) aHh.nil (by rfl) (by rfl) (lEr (lEi (ev_s rfl) (lEi (ev_s rfl) (lEi (ev_s rfl) (lEi (ev_s rfl) lE0))))) sE0 (lvk2 := []) lE0 (stk2 := [.inl (ae_k ((-1)))]) (sEi ae_ev_k sE0) ?_
    exact hp_retI (pc := 33) (ty := .int) (x := -1) (by decide) (by decide +kernel) (by decide +kernel) (aV.k _) (fun n hn => rfl) (fun z hz => ⟨z, rfl, by rw [hz]; unfold bg_R; rw [if_neg (by omega)], a5, a6, a7, hD.refl⟩)
  by_cases c3 : 3 ≤ a
  · refine ky_go hf hT a5 (by decide) (ρ := [port, a, b, n]) bc_3 ⟨⟨by omega, by omega⟩, x2, x3, x4, trivial⟩ (aFs.cons rfl (by simp only [ae_ev, ae_el, ae_s, ae_k, List.getD_cons_zero, List.getD_cons_succ]; omega) aFs.nil) aHh.nil (by rfl) (by rfl) (lEr (lEi (ev_s rfl) (lEi (ev_s rfl) (lEi (ev_s rfl) (lEi (ev_s rfl) lE0))))) sE0 (lvk2 := []) lE0 (stk2 := [.inl (ae_k ((-1)))]) (sEi ae_ev_k sE0) ?_
    exact hp_retI (pc := 33) (ty := .int) (x := -1) (by decide) (by decide +kernel) (by decide +kernel) (aV.k _) (fun n hn => rfl) (fun z hz => ⟨z, rfl, by rw [hz]; unfold bg_R; rw [if_neg (by omega)], a5, a6, a7, hD.refl⟩)
  by_cases c4 : b ≤ -1
  · refine ky_go hf hT a5 (by decide) (ρ := [port, a, b, n]) bc_4 ⟨⟨by omega, by omega⟩, ⟨by omega, by omega⟩, x3, x4, trivial⟩ (aFs.cons rfl (by simp only [ae_ev, ae_el, ae_s, ae_k, List.getD_cons_zero, List.getD_cons_succ]; omega) aFs.nil) aHh.nil (by rfl) (by rfl) (lEr (lEi (ev_s rfl) (lEi (ev_s rfl) (lEi (ev_s rfl) (lEi (ev_s rfl) lE0))))) sE0 (lvk2 := []) lE0 (stk2 := [.inl (ae_k ((-1)))]) (sEi ae_ev_k sE0) ?_
    exact hp_retI (pc := 33) (ty := .int) (x := -1) (by decide) (by decide +kernel) (by decide +kernel) (aV.k _) (fun n hn => rfl) (fun z hz => ⟨z, rfl, by rw [hz]; unfold bg_R; rw [if_neg (by omega)], a5, a6, a7, hD.refl⟩)
  by_cases c5 : 3 ≤ b
  · refine ky_go hf hT a5 (by decide) (ρ := [port, a, b, n]) bc_5 ⟨⟨by omega, by omega⟩, ⟨by omega, by omega⟩, x3, x4, trivial⟩ (aFs.cons rfl (by simp only [ae_ev, ae_el, ae_s, ae_k, List.getD_cons_zero, List.getD_cons_succ]; omega) aFs.nil) aHh.nil (by rfl) (by rfl) (lEr (lEi (ev_s rfl) (lEi (ev_s rfl) (lEi (ev_s rfl) (lEi (ev_s rfl) lE0))))) sE0 (lvk2 := []) lE0 (stk2 := [.inl (ae_k ((-1)))]) (sEi ae_ev_k sE0) ?_
    exact hp_retI (pc := 33) (ty := .int) (x := -1) (by decide) (by decide +kernel) (by decide +kernel) (aV.k _) (fun n hn => rfl) (fun z hz => ⟨z, rfl, by rw [hz]; unfold bg_R; rw [if_neg (by omega)], a5, a6, a7, hD.refl⟩)
  by_cases c6 : n ≤ 0
  · refine ky_go hf hT a5 (by decide) (ρ := [port, a, b, n]) bc_6 ⟨⟨by omega, by omega⟩, ⟨by omega, by omega⟩, ⟨by omega, by omega⟩, x4, trivial⟩ (aFs.cons rfl (by simp only [ae_ev, ae_el, ae_s, ae_k, List.getD_cons_zero, List.getD_cons_succ]; omega) aFs.nil) aHh.nil (by rfl) (by rfl) (lEr (lEi (ev_s rfl) (lEi (ev_s rfl) (lEi (ev_s rfl) (lEi (ev_s rfl) lE0))))) sE0 (lvk2 := []) lE0 (stk2 := [.inl (ae_k ((-1)))]) (sEi ae_ev_k sE0) ?_
    exact hp_retI (pc := 33) (ty := .int) (x := -1) (by decide) (by decide +kernel) (by decide +kernel) (aV.k _) (fun n hn => rfl) (fun z hz => ⟨z, rfl, by rw [hz]; unfold bg_R; rw [if_neg (by omega)], a5, a6, a7, hD.refl⟩)
  by_cases c7 : 100000 ≤ n
  · refine ky_go hf hT a5 (by decide) (ρ := [port, a, b, n]) bc_7 ⟨⟨by omega, by omega⟩, ⟨by omega, by omega⟩, ⟨by omega, by omega⟩, x4, trivial⟩ (aFs.cons rfl (by simp only [ae_ev, ae_el, ae_s, ae_k, List.getD_cons_zero, List.getD_cons_succ]; omega) aFs.nil) aHh.nil (by rfl) (by rfl) (lEr (lEi (ev_s rfl) (lEi (ev_s rfl) (lEi (ev_s rfl) (lEi (ev_s rfl) lE0))))) sE0 (lvk2 := []) lE0 (stk2 := [.inl (ae_k ((-1)))]) (sEi ae_ev_k sE0) ?_
    exact hp_retI (pc := 33) (ty := .int) (x := -1) (by decide) (by decide +kernel) (by decide +kernel) (aV.k _) (fun n hn => rfl) (fun z hz => ⟨z, rfl, by rw [hz]; unfold bg_R; rw [if_neg (by omega)], a5, a6, a7, hD.refl⟩)
  obtain ⟨p, rfl⟩ : ∃ p : Nat, port = p := ⟨port.toNat, by omega⟩
  obtain ⟨ca, rfl⟩ : ∃ p : Nat, a = p := ⟨a.toNat, by omega⟩
  obtain ⟨cb, rfl⟩ : ∃ p : Nat, b = p := ⟨b.toNat, by omega⟩
  obtain ⟨k, rfl⟩ : ∃ k : Nat, n = k := ⟨n.toNat, by omega⟩
  have ans : bg_R S r p ca cb k = bg_T S r p ca cb k := by
    unfold bg_R
    rw [if_pos (by omega), Int.toNat_natCast, Int.toNat_natCast, Int.toNat_natCast, Int.toNat_natCast]
  rw [ans]
  refine ky_go hf hT a5 (by decide) (ρ := [(p : Int), (ca : Int), (cb : Int), (k : Int)]) bc_ok ⟨⟨by omega, by omega⟩, ⟨by omega, by omega⟩, ⟨by omega, by omega⟩, ⟨by omega, by omega⟩, trivial⟩ aFs.nil aHh.nil (by rfl) (by rfl) (lEr (lEi (ev_s rfl) (lEi (ev_s rfl) (lEi (ev_s rfl) (lEi (ev_s rfl) lE0))))) sE0 (lvk2 := []) lE0 (stk2 := [.inl (ae_k ((k : Int))), .inl (ae_k ((cb : Int))), .inl (ae_k ((ca : Int))), .inl (ae_k ((p : Int))), .inr (0, 1), .inr (0, 81)]) (sEi (ev_s rfl) (sEi (ev_s rfl) (sEi (ev_s rfl) (sEi (ev_s rfl) (sEr (sEr sE0)))))) ?_
  refine hp_callV HV (d := 84) (y2 := 111) (as := [.inr (0, 81), .inr (0, 1), .inl (ae_k (p : Int)), .inl (ae_k (ca : Int)), .inl (ae_k (cb : Int)), .inl (ae_k (k : Int))]) (rest := []) (by decide) (by rfl) (hW.e (J := fun _ => True) a5 trivial) (fun AS h => mb_mj hf hT H ⟨by omega, by omega⟩ (by omega) (by omega) ⟨by omega, by omega⟩ a5 a6 a7 h) (fun z w2 hR => ?_)
  obtain ⟨q1, q2⟩ := hR
  rw [q1]
  exact hp_retI (pc := 50) (ty := .int) (x := bg_T S r p ca cb k) (by decide) (by decide +kernel) (by decide +kernel) (aV.k _) (fun n hn => rfl) (fun z hz => ⟨z, rfl, hz, q2⟩)
end BE
