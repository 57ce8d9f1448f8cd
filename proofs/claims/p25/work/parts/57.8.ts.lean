/-! THE TEXTS, the reference: want, hold, conditions -/
def bx_C : List ((Int × Int) × (Int × Int)) := [((0, 0), (aI0, aI1)), ((1, 1), (aI0, 10630)), ((1, 1), (10632, aI1)), ((2, 2), (aI0, aI1)), ((3, 3), (aI0, 39)), ((3, 3), (41, aI1))]
theorem bx_C_of {k v : Int} (hk : 0 ≤ k ∧ k ≤ 3) (hv : aI0 ≤ v ∧ v ≤ aI1) (h0 : ¬ (k = 1 ∧ v = 10631)) (g0 : ¬ (k = 3 ∧ v = 40)) : ∃ b ∈ bx_C, (b.1.1 ≤ k ∧ k ≤ b.1.2) ∧ b.2.1 ≤ v ∧ v ≤ b.2.2 := by
  rcases (by omega : k = 0 ∨ k = 1 ∨ k = 2 ∨ k = 3) with rfl | rfl | rfl | rfl
  · exact ⟨_, List.mem_of_getElem? (i := 0) rfl, ⟨by decide, by decide⟩, hv⟩
  · rcases (by omega : (v ≤ 10630) ∨ (10632 ≤ v)) with c | c
    · exact ⟨_, List.mem_of_getElem? (i := 1) rfl, ⟨by decide, by decide⟩, hv.1, c⟩
    · exact ⟨_, List.mem_of_getElem? (i := 2) rfl, ⟨by decide, by decide⟩, c, hv.2⟩
  · exact ⟨_, List.mem_of_getElem? (i := 3) rfl, ⟨by decide, by decide⟩, hv⟩
  · rcases (by omega : (v ≤ 39) ∨ (41 ≤ v)) with c | c
    · exact ⟨_, List.mem_of_getElem? (i := 4) rfl, ⟨by decide, by decide⟩, hv.1, c⟩
    · exact ⟨_, List.mem_of_getElem? (i := 5) rfl, ⟨by decide, by decide⟩, c, hv.2⟩
def bx_O : List ((Int × Int) × (Int × Int)) := [((0, 0), (aI0, aI1)), ((1, 1), (aI0, 422)), ((1, 1), (424, 1110)), ((1, 1), (1112, aI1)), ((2, 2), (aI0, aI1)), ((3, 3), (aI0, aI1))]
theorem bx_O_of {k v : Int} (hk : 0 ≤ k ∧ k ≤ 3) (hv : aI0 ≤ v ∧ v ≤ aI1) (h0 : ¬ (k = 1 ∧ v = 1111)) (h1 : ¬ (k = 1 ∧ v = 423))  : ∃ b ∈ bx_O, (b.1.1 ≤ k ∧ k ≤ b.1.2) ∧ b.2.1 ≤ v ∧ v ≤ b.2.2 := by
  rcases (by omega : k = 0 ∨ k = 1 ∨ k = 2 ∨ k = 3) with rfl | rfl | rfl | rfl
  · exact ⟨_, List.mem_of_getElem? (i := 0) rfl, ⟨by decide, by decide⟩, hv⟩
  · rcases (by omega : (v ≤ 422) ∨ (424 ≤ v ∧ v ≤ 1110) ∨ (1112 ≤ v)) with c | c | c
    · exact ⟨_, List.mem_of_getElem? (i := 1) rfl, ⟨by decide, by decide⟩, hv.1, c⟩
    · exact ⟨_, List.mem_of_getElem? (i := 2) rfl, ⟨by decide, by decide⟩, c.1, c.2⟩
    · exact ⟨_, List.mem_of_getElem? (i := 3) rfl, ⟨by decide, by decide⟩, c, hv.2⟩
  · exact ⟨_, List.mem_of_getElem? (i := 4) rfl, ⟨by decide, by decide⟩, hv⟩
  · exact ⟨_, List.mem_of_getElem? (i := 5) rfl, ⟨by decide, by decide⟩, hv⟩
def bx_P : List ((Int × Int) × (Int × Int)) := [((0, 0), (aI0, aI1)), ((1, 1), (aI0, aI1)), ((2, 2), (aI0, aI1)), ((3, 3), (aI0, 40)), ((3, 3), (42, aI1))]
theorem bx_P_of {k v : Int} (hk : 0 ≤ k ∧ k ≤ 3) (hv : aI0 ≤ v ∧ v ≤ aI1)  (g0 : ¬ (k = 3 ∧ v = 41)) : ∃ b ∈ bx_P, (b.1.1 ≤ k ∧ k ≤ b.1.2) ∧ b.2.1 ≤ v ∧ v ≤ b.2.2 := by
  rcases (by omega : k = 0 ∨ k = 1 ∨ k = 2 ∨ k = 3) with rfl | rfl | rfl | rfl
  · exact ⟨_, List.mem_of_getElem? (i := 0) rfl, ⟨by decide, by decide⟩, hv⟩
  · exact ⟨_, List.mem_of_getElem? (i := 1) rfl, ⟨by decide, by decide⟩, hv⟩
  · exact ⟨_, List.mem_of_getElem? (i := 2) rfl, ⟨by decide, by decide⟩, hv⟩
  · rcases (by omega : (v ≤ 40) ∨ (42 ≤ v)) with c | c
    · exact ⟨_, List.mem_of_getElem? (i := 3) rfl, ⟨by decide, by decide⟩, hv.1, c⟩
    · exact ⟨_, List.mem_of_getElem? (i := 4) rfl, ⟨by decide, by decide⟩, c, hv.2⟩
section
set_option maxRecDepth 100000
theorem rc_0 : lp_chk gR 8 242 (0, [], [], [], [(0, .inr (0, 99))], []) 11 [(0, .inr (0, 99)), (1, .inl (ae_k 0)), (2, .inl (ae_k 1)), (3, .inl (ae_k 1))] [] [(99, some (ae_k 29, ae_k 0))] = true := by decide +kernel
theorem rc_1 : hp_chk gV0 1000 8 242 (11, [(0, 4), (aI0, (-1))], [], [((99, ae_k 24), ae_s 1), ((99, ae_k 20), ae_k 1), ((99, ae_k 23), ae_k 10631)], [(0, .inr (0, 99)), (1, .inl (ae_s 0)), (2, .inl (ae_k 1)), (3, .inl (ae_k 1))], []) [] [(38, [(0, 4), (aI0, (-1))], [], [(0, .inr (0, 99)), (1, .inl (ae_s 0)), (2, .inl (ae_k 1)), (3, .inl (ae_k 1))], [.inl (ae_k 3), .inr (0, 99)], [], [], mMU)] = true := by decide +kernel
theorem rc_2 : hp_chk gV0 1000 8 242 (41, [(0, 4)], [], [], [(0, .inr (0, 99)), (1, .inl (ae_s 0)), (2, .inl (ae_k 1)), (3, .inl (ae_k 1))], []) [] [(11, [(0, 4)], [], [(0, .inr (0, 99)), (1, .inl (ae_s 0)), (2, .inl (ae_k 1)), (3, .inl (ae_k 1))], [], [], [], mMU)] = true := by decide +kernel
theorem rc_3 : lp_chk gR 8 242 (11, [(aI0, (-1)), (0, 250)], [], [((99, ae_k 24), ae_s 0), ((99, ae_k 20), ae_k 3), ((99, ae_k 23), ae_k 40), ((99, ae_k 21), ae_s 1)], [(0, .inr (0, 99)), (1, .inl (ae_k 4)), (2, .inl (ae_k 1)), (3, .inl (ae_k 1))], []) 11 [(0, .inr (0, 99)), (1, .inl (ae_k 4)), (2, .inl (ae_k 1)), (3, .inl (ae_k 1))] [] [(99, some (ae_k 24, ae_s 1))] = true := by decide +kernel
theorem rc_4 : hp_chk gV0 1000 8 242 (11, [(0, 3), (aI0, (-1))], [], [((99, ae_k 24), ae_s 1), ((99, ae_k 20), ae_k 3), ((99, ae_k 23), ae_k 40)], [(0, .inr (0, 99)), (1, .inl (ae_s 0)), (2, .inl (ae_k 1)), (3, .inl (ae_k 1))], []) [] [(68, [(0, 3), (aI0, (-1))], [], [(0, .inr (0, 99)), (1, .inl (ae_s 0)), (2, .inl (ae_k 1)), (3, .inl (ae_k 1))], [.inl (ae_k 6), .inr (0, 99)], [], [], mMU)] = true := by decide +kernel
theorem rc_5 : hp_chk gV0 1000 8 242 (71, [(0, 3)], [], [], [(0, .inr (0, 99)), (1, .inl (ae_s 0)), (2, .inl (ae_k 1)), (3, .inl (ae_k 1))], []) [] [(11, [(0, 3)], [], [(0, .inr (0, 99)), (1, .inl (([(0, 1)], 1))), (2, .inl (ae_k 1)), (3, .inl (ae_k 1))], [], [], [], mMU)] = true := by decide +kernel
theorem rc_6 : ∀ b ∈ bx_C, hp_chk gV0 1000 8 242 (11, [(0, 4), (aI0, (-1)), b.1, b.2], [], [((99, ae_k 24), ae_s 1), ((99, ae_k 20), ae_s 2), ((99, ae_k 23), ae_s 3)], [(0, .inr (0, 99)), (1, .inl (ae_s 0)), (2, .inl (ae_k 1)), (3, .inl (ae_k 1))], []) [] [(78, [(0, 4), (aI0, (-1)), b.1, b.2], [], [(0, .inr (0, 99)), (1, .inl (ae_s 0)), (2, .inl (ae_k 1)), (3, .inl (ae_k 1))], [.inr (0, 99)], [], [], mMU)] = true := by decide +kernel
theorem rc_7 : hp_chk gV0 1000 8 242 (81, [(0, 4)], [], [], [(0, .inr (0, 99)), (1, .inl (ae_s 0)), (2, .inl (ae_k 1)), (3, .inl (ae_k 1))], []) [] [(83, [(0, 4)], [], [(0, .inr (0, 99)), (1, .inl (ae_s 0)), (2, .inl (ae_k 1)), (3, .inl (ae_k 1))], [.inl (ae_k 3), .inr (0, 99)], [], [], mMU)] = true := by decide +kernel
theorem rc_8 : hp_chk gV0 1000 8 242 (86, [(0, 4)], [], [], [(0, .inr (0, 99)), (1, .inl (ae_s 0)), (2, .inl (ae_k 1)), (3, .inl (ae_k 1))], []) [] [(11, [(0, 4)], [], [(0, .inr (0, 99)), (1, .inl (ae_s 0)), (2, .inl (ae_k 0)), (3, .inl (ae_k 1))], [], [], [], mMU)] = true := by decide +kernel
theorem rc_9 : hp_chk gV0 1000 8 242 (11, [(0, 4), (aI0, (-1))], [], [((99, ae_k 24), ae_s 1), ((99, ae_k 20), ae_k 1), ((99, ae_k 23), ae_k 1111)], [(0, .inr (0, 99)), (1, .inl (ae_s 0)), (2, .inl (ae_k 0)), (3, .inl (ae_k 1))], []) [] [(131, [(0, 4), (aI0, (-1))], [], [(0, .inr (0, 99)), (1, .inl (ae_s 0)), (2, .inl (ae_k 0)), (3, .inl (ae_k 1)), (4, .inl (ae_k 4))], [.inl (ae_k 4), .inr (0, 99)], [], [], mMU)] = true := by decide +kernel
theorem rc_b4 : hp_chk gV0 1000 8 242 (134, [(0, 4)], [], [], [(0, .inr (0, 99)), (1, .inl (ae_s 0)), (2, .inl (ae_k 0)), (3, .inl (ae_k 1)), (4, .inl (ae_k 4))], []) [] [(137, [(0, 4)], [], [(0, .inr (0, 99)), (1, .inl (ae_s 0)), (2, .inl (ae_k 0)), (3, .inl (ae_k 1)), (4, .inl (ae_k 4))], [.inl (ae_k 4), .inr (0, 99)], [], [], mMU)] = true := by decide +kernel
theorem rc_c4 : hp_chk gV0 1000 8 242 (140, [(0, 4)], [], [], [(0, .inr (0, 99)), (1, .inl (ae_s 0)), (2, .inl (ae_k 0)), (3, .inl (ae_k 1)), (4, .inl (ae_k 4))], []) [] [(11, [(0, 4)], [], [(0, .inr (0, 99)), (1, .inl (ae_s 0)), (2, .inl (ae_k 1)), (3, .inl (ae_k 1))], [], [], [], mMU)] = true := by decide +kernel
theorem rc_a : hp_chk gV0 1000 8 242 (11, [(0, 4), (aI0, (-1))], [], [((99, ae_k 24), ae_s 1), ((99, ae_k 20), ae_k 1), ((99, ae_k 23), ae_k 423)], [(0, .inr (0, 99)), (1, .inl (ae_s 0)), (2, .inl (ae_k 0)), (3, .inl (ae_k 1))], []) [] [(131, [(0, 4), (aI0, (-1))], [], [(0, .inr (0, 99)), (1, .inl (ae_s 0)), (2, .inl (ae_k 0)), (3, .inl (ae_k 1)), (4, .inl (ae_k 5))], [.inl (ae_k 5), .inr (0, 99)], [], [], mMU)] = true := by decide +kernel
theorem rc_b5 : hp_chk gV0 1000 8 242 (134, [(0, 4)], [], [], [(0, .inr (0, 99)), (1, .inl (ae_s 0)), (2, .inl (ae_k 0)), (3, .inl (ae_k 1)), (4, .inl (ae_k 5))], []) [] [(137, [(0, 4)], [], [(0, .inr (0, 99)), (1, .inl (ae_s 0)), (2, .inl (ae_k 0)), (3, .inl (ae_k 1)), (4, .inl (ae_k 5))], [.inl (ae_k 5), .inr (0, 99)], [], [], mMU)] = true := by decide +kernel
theorem rc_c5 : hp_chk gV0 1000 8 242 (140, [(0, 4)], [], [], [(0, .inr (0, 99)), (1, .inl (ae_s 0)), (2, .inl (ae_k 0)), (3, .inl (ae_k 1)), (4, .inl (ae_k 5))], []) [] [(11, [(0, 4)], [], [(0, .inr (0, 99)), (1, .inl (ae_s 0)), (2, .inl (ae_k 1)), (3, .inl (ae_k 1))], [], [], [], mMU)] = true := by decide +kernel
theorem rc_d : ∀ b ∈ bx_O, hp_chk gV0 1000 8 242 (11, [(1, 4), (aI0, (-1)), b.1, b.2], [], [((99, ae_k 24), ae_s 1), ((99, ae_k 20), ae_s 2), ((99, ae_k 23), ae_s 3)], [(0, .inr (0, 99)), (1, .inl (ae_s 0)), (2, .inl (ae_k 0)), (3, .inl (ae_k 1))], []) [] [(151, [(1, 4), (aI0, (-1)), b.1, b.2], [], [(0, .inr (0, 99)), (1, .inl (ae_s 0)), (2, .inl (ae_k 0)), (3, .inl (ae_k 1))], [.inl (ae_k 5), .inr (0, 99)], [], [], mMU)] = true := by decide +kernel
theorem rc_e : ∀ b ∈ bx_O, hp_chk gV0 1000 8 242 (11, [(aI0, (-1)), b.1, b.2], [], [((99, ae_k 24), ae_s 0), ((99, ae_k 20), ae_s 1), ((99, ae_k 23), ae_s 2)], [(0, .inr (0, 99)), (1, .inl (ae_k 0)), (2, .inl (ae_k 0)), (3, .inl (ae_k 1))], []) [] [(11, [(aI0, (-1)), b.1, b.2], [], [(0, .inr (0, 99)), (1, .inl (ae_k 0)), (2, .inl (ae_k 0)), (3, .inl (ae_k 0))], [], [], [], mMU)] = true := by decide +kernel
theorem rc_f : lp_chk gR 8 242 (154, [(1, 4), (1, 256)], [], [((99, ae_k 29), ae_s 1), ((99, ae_k 20), ae_k 3), ((99, ae_k 23), ae_k 41)], [(0, .inr (0, 99)), (1, .inl (ae_s 0)), (2, .inl (ae_k 0)), (3, .inl (ae_k 1))], []) 174 [(0, .inr (0, 99)), (1, .inl (([(0, 1)], (-1)))), (2, .inl (ae_k 0)), (3, .inl (ae_k 1))] [.inl (ae_k 1), .inr (0, 99)] [(99, some (ae_k 29, ([(1, 1)], (-1))))] = true := by decide +kernel
theorem rc_g : ∀ b ∈ bx_P, lp_chk gR 8 242 (154, [(1, 4), (1, 256), b.1, b.2], [], [((99, ae_k 29), ae_s 1), ((99, ae_k 20), ae_s 2), ((99, ae_k 23), ae_s 3)], [(0, .inr (0, 99)), (1, .inl (ae_s 0)), (2, .inl (ae_k 0)), (3, .inl (ae_k 1))], []) 174 [(0, .inr (0, 99)), (1, .inl (([(0, 1)], (-1)))), (2, .inl (ae_k 0)), (3, .inl (ae_k 1))] [.inl (ae_k 0), .inr (0, 99)] [(99, some (ae_k 29, ([(1, 1)], (-1))))] = true := by decide +kernel
theorem rc_h : hp_chk gV0 1000 8 242 (177, [(0, 3)], [], [], [(0, .inr (0, 99)), (1, .inl (ae_s 0)), (2, .inl (ae_k 0)), (3, .inl (ae_k 1))], []) [] [(179, [(0, 3)], [], [(0, .inr (0, 99)), (1, .inl (ae_s 0)), (2, .inl (ae_k 0)), (3, .inl (ae_k 1))], [.inl (ae_k 3), .inr (0, 99)], [], [], mMU)] = true := by decide +kernel
theorem rc_i : hp_chk gV0 1000 8 242 (182, [(0, 3)], [], [], [(0, .inr (0, 99)), (1, .inl (ae_s 0)), (2, .inl (ae_k 0)), (3, .inl (ae_k 1))], []) [] [(11, [(0, 3)], [], [(0, .inr (0, 99)), (1, .inl (ae_s 0)), (2, .inl (ae_k 0)), (3, .inl (ae_k 1))], [], [], [], mMU)] = true := by decide +kernel
theorem rc_j : hp_chk gV0 1000 8 242 (11, [], [], [], [(0, .inr (0, 99)), (3, .inl (ae_k 0))], []) [] [(192, [], [], [(0, .inr (0, 99))], [.inl (ae_k 5), .inr (0, 99)], [], [], mMU)] = true := by decide +kernel
theorem rc_k : hp_chk gV0 1000 8 242 (11, [(0, aI1)], [], [((99, ae_k 24), ae_s 0)], [(0, .inr (0, 99)), (3, .inl (ae_k 1))], []) [] [(192, [(0, aI1)], [], [(0, .inr (0, 99))], [.inl (ae_k 5), .inr (0, 99)], [], [], mMU)] = true := by decide +kernel
end
section RR
variable {E : mj_E} {Q : Option Value → va_W → Prop} {al : List Nat} {w w0 w1 w2 ws ws0 : va_W} {T : Nat → Int} {n : Nat} {ρ : List Int}
theorem twF {i s : Nat} {p : Prop} (h : tw i T n s = true ↔ p) (e : tw i T n s = false) : ¬ p := fun q => by rw [h.mpr q] at e; cases e
/-- advance, on with what comes -/
theorem ra_call (hf : E.2.2.2.1.category = 1) (hT : ∀ σ : List Int, aTb E σ aTabs) (H : hOk E al gR jJ) (h : hI E al jJ w) (HT : rtT w T n) {s : Nat} (hk : rtk w T n s) {d y pc : Nat} {lv : List (Nat × av)} {rest : List av} (hy : y < mj_lawNo) (hd : 2 ≤ d)
    (hc : ak_callat gV0 (d + 1) y pc lv (.inr (0, 99) :: rest) ([], [], [], [], []) = some (233, [.inr (0, 99)], rest))
    (hq : ∀ w2, hI E al jJ w2 → hD [99] w w2 → rtk w2 T n (tX T n s) → jF w2 24 = jF w 24 → jF w2 28 = jF w 28 → jF w2 29 = jF w 29 → hG E al (d + 1) y (pc + 3) lv rest [] w2 Q) : hG E al (d + 1) y pc lv (.inr (0, 99) :: rest) [] w Q := by
  have HV : hOk E al gV0 (fun _ => True) := hOkV hf hT (fun _ _ _ _ h => h)
  have be := tE_le (T := T) hk.1
  refine hp_call HV (d := d) (y2 := 233) (as := [.inr (0, 99)]) (rest := rest) (R := fun w2 => hI E al jJ w2 ∧ hD [99] w w2 ∧ rtk w2 T n (tX T n s) ∧ jF w2 24 = jF w 24 ∧ jF w2 28 = jF w 28 ∧ jF w2 29 = jF w 29) hy hc (hW.e (J := fun _ => True) h.1 trivial) (fun AS hA => (ra_mj hf hT H h HT hk.2.1 be.2 hk.2.2.2.2.1 hA).weaken hd (Nat.le_refl _) (Nat.le_refl _) (fun v w2 h => h)) (fun w2 hR => ?_)
  exact hq w2 hR.1 hR.2.1 hR.2.2.1 hR.2.2.2.1 hR.2.2.2.2.1 hR.2.2.2.2.2
/-- want, where it is so -/
theorem rw_t (hf : E.2.2.2.1.category = 1) (hT : ∀ σ : List Int, aTb E σ aTabs) (H : hOk E al gR jJ) (h : hI E al jJ w) (HT : rtT w T n) {s : Nat} (hk : rtk w T n s) (hg : jF w 24 < 0) {AS : List Value} (hA : gL E al [] [.inr (0, 99), .inl (ae_k 1)] AS) :
    MJ E 4 0 0 (mj_in0 241 AS w) (fun v w2 => v = none ∧ hI E al jJ w2 ∧ hD [99] w w2 ∧ rtk w2 T n (tX T n s) ∧ jF w2 24 = jF w 24 ∧ jF w2 28 = jF w 28 ∧ jF w2 29 = jF w 29) := by
  have HV : hOk E al gV0 (fun _ => True) := hOkV hf hT (fun _ _ _ _ h => h)
  have b24 := h.f (i := 24) (b := aF) (by decide +kernel)
  have s24 := rsl h (i := 24) (b := aF) (by decide +kernel) rfl
  refine hG.in0 hf (d := 4) (as := [.inr (0, 99), .inl (ae_k 1)]) ?_ hA
  show hG E al 4 241 0 [(0, .inr (0, 99)), (1, .inl (ae_k 1))] [] [] w _
  refine ky_go hf hT h.1 (by decide) (ρ := [(jF w 24)]) rw1_0 ⟨⟨b24.1, by omega⟩, trivial⟩ aFs.nil (aHh.cons (kn1 (i := 24) (by decide) rfl (ev_s rfl) s24) aHh.nil) (by rfl) (by rfl) (lEr (lEi ae_ev_k lE0)) sE0 (lvk2 := []) lE0 (stk2 := [.inr (0, 99)]) (sEr sE0) ?_
  refine ra_call hf hT H h HT hk (d := 3) (by decide) (by decide) (by rfl) (fun w2 g1 g2 g3 g4 g5 g6 => ?_)
  refine ky_go hf hT g1.1 (by decide) (ρ := []) rw1_1 trivial aFs.nil aHh.nil (by rfl) (by rfl) lE0 sE0 (lvk2 := []) lE0 (stk2 := []) sE0 ?_
  exact hp_ret HV (by decide) (by decide +kernel) (by decide +kernel) ⟨rfl, g1, g2, g3, g4, g5, g6⟩
/-- want, where it isn't -/
theorem rw_f (hf : E.2.2.2.1.category = 1) (hT : ∀ σ : List Int, aTb E σ aTabs) (H : hOk E al gR jJ) (h : hI E al jJ w) {s : Nat} (hk : rtk w T n s) (hn : n ≤ 250) (hg : jF w 24 < 0) {AS : List Value} (hA : gL E al [] [.inr (0, 99), .inl (ae_k 0)] AS) :
    MJ E 4 0 0 (mj_in0 241 AS w) (fun v w2 => v = none ∧ hI E al jJ w2 ∧ hD [99] w w2 ∧ rtk w2 T n s ∧ jF w2 24 = (s : Int) ∧ jF w2 28 = jF w 28 ∧ jF w2 29 = jF w 29) := by
  have HV : hOk E al gV0 (fun _ => True) := hOkV hf hT (fun _ _ _ _ h => h)
  obtain ⟨k0, k1, k2, k3, k4, k5⟩ := hk
  have b24 := h.f (i := 24) (b := aF) (by decide +kernel)
  have s24 := rsl h (i := 24) (b := aF) (by decide +kernel) rfl
  have s21 := rsl h (i := 21) (b := (0, 250)) (by decide +kernel) k3
  refine hG.in0 hf (d := 4) (as := [.inr (0, 99), .inl (ae_k 0)]) ?_ hA
  show hG E al 4 241 0 [(0, .inr (0, 99)), (1, .inl (ae_k 0))] [] [] w _
  refine kz_lg H h (by decide) (ρ := [(jF w 24), (s : Int)]) rw1_2 ⟨⟨b24.1, by omega⟩, ⟨by omega, by omega⟩, trivial⟩ aFs.nil (aHh.cons (kn1 (i := 24) (by decide) rfl (ev_s rfl) s24) (aHh.cons (kn1 (i := 21) (by decide) rfl (ev_s rfl) s21) aHh.nil)) (by rfl) (by rfl) (lEr (lEi ae_ev_k lE0)) sE0 (lvk2 := []) lE0 (stk2 := []) sE0 (fun w2 b1 b4 b5 => ?_)
  have f19 : jF w2 19 = jF w 19 := by
    rw [jFS b1 19, jFS h 19, b5 99 19]
    simp [lg_ap, ae_ev, ae_el, ae_s, ae_k]
  have f20 : jF w2 20 = jF w 20 := by
    rw [jFS b1 20, jFS h 20, b5 99 20]
    simp [lg_ap, ae_ev, ae_el, ae_s, ae_k]
  have f21 : jF w2 21 = jF w 21 := by
    rw [jFS b1 21, jFS h 21, b5 99 21]
    simp [lg_ap, ae_ev, ae_el, ae_s, ae_k]
  have f22 : jF w2 22 = jF w 22 := by
    rw [jFS b1 22, jFS h 22, b5 99 22]
    simp [lg_ap, ae_ev, ae_el, ae_s, ae_k]
  have f23 : jF w2 23 = jF w 23 := by
    rw [jFS b1 23, jFS h 23, b5 99 23]
    simp [lg_ap, ae_ev, ae_el, ae_s, ae_k]
  have f24 : jF w2 24 = (s : Int) := by
    rw [jFS b1 24, b5 99 24]
    simp [lg_ap, ae_ev, ae_el, ae_s, ae_k]
    try omega
  have f28 : jF w2 28 = jF w 28 := by
    rw [jFS b1 28, jFS h 28, b5 99 28]
    simp [lg_ap, ae_ev, ae_el, ae_s, ae_k]
  have f29 : jF w2 29 = jF w 29 := by
    rw [jFS b1 29, jFS h 29, b5 99 29]
    simp [lg_ap, ae_ev, ae_el, ae_s, ae_k]
  exact hp_ret HV (by decide) (by decide +kernel) (by decide +kernel) ⟨rfl, b1, b4.more (by decide), ⟨k0, f19.trans k1, f20.trans k2, f21.trans k3, f22.trans k4, f23.trans k5⟩, f24, f28, f29⟩
/-- wantNumber -/
theorem rn_mj (hf : E.2.2.2.1.category = 1) (hT : ∀ σ : List Int, aTb E σ aTabs) (H : hOk E al gR jJ) (h : hI E al jJ w) (HT : rtT w T n) {s g : Nat} (hk : rtk w T n s) (hg : jF w 24 < 0) (hg9 : g ≤ 999) {AS : List Value} (hA : gL E al [] [.inr (0, 99), .inl (ae_k (g : Int))] AS) :
    MJ E 5 0 0 (mj_in0 240 AS w) (fun v w2 => ∃ z : Int32, v = some (.int z) ∧ (hI E al jJ w2 ∧ hD [99] w w2 ∧ jF w2 28 = jF w 28 ∧ jF w2 29 = jF w 29 ∧ ((tN g T n s ≠ -1 ∧ z.toInt = tN g T n s ∧ rtk w2 T n (tX T n s) ∧ jF w2 24 = jF w 24) ∨ (tN g T n s = -1 ∧ rtk w2 T n s ∧ jF w2 24 = (s : Int))))) := by
  have HV : hOk E al gV0 (fun _ => True) := hOkV hf hT (fun _ _ _ _ h => h)
  have hk0 := hk
  obtain ⟨k0, k1, k2, k3, k4, k5⟩ := hk
  have bn := HT.1
  have be := tE_le (T := T) k0
  have b23 := h.f (i := 23) (b := aF) (by decide +kernel)
  rw [k5] at b23
  have b24 := h.f (i := 24) (b := aF) (by decide +kernel)
  have kb := tK_b (T := T) (n := n) (s := s)
  have s24 := rsl h (i := 24) (b := aF) (by decide +kernel) rfl
  have s21 := rsl h (i := 21) (b := (0, 250)) (by decide +kernel) k3
  have s22 := rsl h (i := 22) (b := (0, 250)) (by decide +kernel) k4
  have s20 := rsl h (i := 20) (b := (0, 3)) (by decide +kernel) k2
  have s23 := rsl h (i := 23) (b := aF) (by decide +kernel) k5
  refine hG.in0 hf (d := 5) (as := [.inr (0, 99), .inl (ae_k (g : Int))]) ?_ hA
  show hG E al 5 240 0 [(0, .inr (0, 99)), (1, .inl (ae_k (g : Int)))] [] [] w _
  by_cases q : tK T n s = 2 ∧ tE T n s ≤ s + 3 ∧ tV T n s ≤ (g : Int)
  · obtain ⟨q1, q2, q3⟩ := q
    obtain ⟨et, p0⟩ := tN_yes q1 q2 q3
    rw [q1] at s20
    refine ky_go hf hT h.1 (by decide) (ρ := [(jF w 24), (s : Int), (tE T n s : Int), (tV T n s), (g : Int)]) rn_0 ⟨⟨b24.1, by omega⟩, ⟨by omega, by omega⟩, ⟨by omega, by omega⟩, b23, ⟨by omega, by omega⟩, trivial⟩ (aFs.cons rfl (by simp only [ae_ev, ae_el, ae_s, ae_k, List.getD_cons_zero, List.getD_cons_succ]; omega) (aFs.cons rfl (by simp only [ae_ev, ae_el, ae_s, ae_k, List.getD_cons_zero, List.getD_cons_succ]; omega) aFs.nil)) (aHh.cons (kn1 (i := 24) (by decide) rfl (ev_s rfl) s24) (aHh.cons (kn1 (i := 21) (by decide) rfl (ev_s rfl) s21) (aHh.cons (kn1 (i := 22) (by decide) rfl (ev_s rfl) s22) (aHh.cons (kn1 (i := 20) (by decide) rfl ae_ev_k s20) (aHh.cons (kn1 (i := 23) (by decide) rfl (ev_s rfl) s23) aHh.nil))))) (by rfl) (by rfl) (lEr (lEi (ev_s rfl) lE0)) sE0 (lvk2 := [(2, .inl (ae_k ((tV T n s))))]) (lEi (ev_s rfl) lE0) (stk2 := [.inr (0, 99)]) (sEr sE0) ?_
    refine ra_call hf hT H h HT hk0 (d := 4) (by decide) (by decide) (by rfl) (fun w2 g1 g2 g3 g4 g5 g6 => ?_)
    refine ky_go hf hT g1.1 (by decide) (ρ := [(tV T n s)]) rn_1 ⟨b23, trivial⟩ aFs.nil aHh.nil (by rfl) (by rfl) (lEi (ev_s rfl) lE0) sE0 (lvk2 := []) lE0 (stk2 := [.inl (ae_k ((tV T n s)))]) (sEi (ev_s rfl) sE0) ?_
    exact hp_retI (pc := 50) (ty := .int) (x := tV T n s) (by decide) (by decide +kernel) (by decide +kernel) (aV.k _) (fun n hn => rfl) (fun z hz => ⟨z, rfl, g1, g2, g5, g6, Or.inl ⟨by rw [et]; omega, by rw [hz, et], g3, g4⟩⟩)
  · have et := tN_no q
    have rest : ∀ w2, hI E al jJ w2 → hD [99] w w2 → jF w2 19 = jF w 19 → jF w2 20 = jF w 20 → jF w2 21 = jF w 21 → jF w2 22 = jF w 22 → jF w2 23 = jF w 23 → jF w2 24 = (s : Int) → jF w2 28 = jF w 28 → jF w2 29 = jF w 29 → hG E al 5 240 50 [] [.inl (ae_k (tV T n s))] [] w2 (fun v w2 => ∃ z : Int32, v = some (.int z) ∧ (hI E al jJ w2 ∧ hD [99] w w2 ∧ jF w2 28 = jF w 28 ∧ jF w2 29 = jF w 29 ∧ ((tN g T n s ≠ -1 ∧ z.toInt = tN g T n s ∧ rtk w2 T n (tX T n s) ∧ jF w2 24 = jF w 24) ∨ (tN g T n s = -1 ∧ rtk w2 T n s ∧ jF w2 24 = (s : Int))))) := fun w2 g1 g2 f19 f20 f21 f22 f23 f24 f28 f29 =>
      hp_retI (pc := 50) (ty := .int) (x := tV T n s) (by decide) (by decide +kernel) (by decide +kernel) (aV.k _) (fun n hn => rfl) (fun z hz => ⟨z, rfl, g1, g2, f28, f29, Or.inr ⟨et, ⟨k0, f19.trans k1, f20.trans k2, f21.trans k3, f22.trans k4, f23.trans k5⟩, f24⟩⟩)
    by_cases c2 : tK T n s = 2
    · rw [c2] at s20
      by_cases ce : s + 4 ≤ tE T n s
      · skip
        refine kz_lg H h (by decide) (ρ := [(jF w 24), (s : Int), (tE T n s : Int), (tV T n s), (g : Int)]) rn_4 ⟨⟨b24.1, by omega⟩, ⟨by omega, by omega⟩, ⟨by omega, by omega⟩, b23, ⟨by omega, by omega⟩, trivial⟩ (aFs.cons rfl (by simp only [ae_ev, ae_el, ae_s, ae_k, List.getD_cons_zero, List.getD_cons_succ]; omega) aFs.nil) (aHh.cons (kn1 (i := 24) (by decide) rfl (ev_s rfl) s24) (aHh.cons (kn1 (i := 21) (by decide) rfl (ev_s rfl) s21) (aHh.cons (kn1 (i := 22) (by decide) rfl (ev_s rfl) s22) (aHh.cons (kn1 (i := 20) (by decide) rfl ae_ev_k s20) (aHh.cons (kn1 (i := 23) (by decide) rfl (ev_s rfl) s23) aHh.nil))))) (by rfl) (by rfl) (lEr (lEi (ev_s rfl) lE0)) sE0 (lvk2 := []) lE0 (stk2 := [.inl (ae_k ((tV T n s)))]) (sEi (ev_s rfl) sE0) (fun w2 b1 b4 b5 => ?_)
        have f19 : jF w2 19 = jF w 19 := by
          rw [jFS b1 19, jFS h 19, b5 99 19]
          simp [lg_ap, ae_ev, ae_el, ae_s, ae_k]
        have f20 : jF w2 20 = jF w 20 := by
          rw [jFS b1 20, jFS h 20, b5 99 20]
          simp [lg_ap, ae_ev, ae_el, ae_s, ae_k]
        have f21 : jF w2 21 = jF w 21 := by
          rw [jFS b1 21, jFS h 21, b5 99 21]
          simp [lg_ap, ae_ev, ae_el, ae_s, ae_k]
        have f22 : jF w2 22 = jF w 22 := by
          rw [jFS b1 22, jFS h 22, b5 99 22]
          simp [lg_ap, ae_ev, ae_el, ae_s, ae_k]
        have f23 : jF w2 23 = jF w 23 := by
          rw [jFS b1 23, jFS h 23, b5 99 23]
          simp [lg_ap, ae_ev, ae_el, ae_s, ae_k]
        have f24 : jF w2 24 = (s : Int) := by
          rw [jFS b1 24, b5 99 24]
          simp [lg_ap, ae_ev, ae_el, ae_s, ae_k]
          try omega
        have f28 : jF w2 28 = jF w 28 := by
          rw [jFS b1 28, jFS h 28, b5 99 28]
          simp [lg_ap, ae_ev, ae_el, ae_s, ae_k]
        have f29 : jF w2 29 = jF w 29 := by
          rw [jFS b1 29, jFS h 29, b5 99 29]
          simp [lg_ap, ae_ev, ae_el, ae_s, ae_k]
        exact rest w2 b1 (b4.more (by decide)) f19 f20 f21 f22 f23 f24 f28 f29
      · have cg : (g : Int) + 1 ≤ tV T n s := by
          by_cases c : tV T n s ≤ (g : Int)
          · exact absurd ⟨c2, by omega, c⟩ q
          · omega
        refine kz_lg H h (by decide) (ρ := [(jF w 24), (s : Int), (tE T n s : Int), (tV T n s), (g : Int)]) rn_5 ⟨⟨b24.1, by omega⟩, ⟨by omega, by omega⟩, ⟨by omega, by omega⟩, b23, ⟨by omega, by omega⟩, trivial⟩ (aFs.cons rfl (by simp only [ae_ev, ae_el, ae_s, ae_k, List.getD_cons_zero, List.getD_cons_succ]; omega) (aFs.cons rfl (by simp only [ae_ev, ae_el, ae_s, ae_k, List.getD_cons_zero, List.getD_cons_succ]; omega) aFs.nil)) (aHh.cons (kn1 (i := 24) (by decide) rfl (ev_s rfl) s24) (aHh.cons (kn1 (i := 21) (by decide) rfl (ev_s rfl) s21) (aHh.cons (kn1 (i := 22) (by decide) rfl (ev_s rfl) s22) (aHh.cons (kn1 (i := 20) (by decide) rfl ae_ev_k s20) (aHh.cons (kn1 (i := 23) (by decide) rfl (ev_s rfl) s23) aHh.nil))))) (by rfl) (by rfl) (lEr (lEi (ev_s rfl) lE0)) sE0 (lvk2 := []) lE0 (stk2 := [.inl (ae_k ((tV T n s)))]) (sEi (ev_s rfl) sE0) (fun w2 b1 b4 b5 => ?_)
        have f19 : jF w2 19 = jF w 19 := by
          rw [jFS b1 19, jFS h 19, b5 99 19]
          simp [lg_ap, ae_ev, ae_el, ae_s, ae_k]
        have f20 : jF w2 20 = jF w 20 := by
          rw [jFS b1 20, jFS h 20, b5 99 20]
          simp [lg_ap, ae_ev, ae_el, ae_s, ae_k]
        have f21 : jF w2 21 = jF w 21 := by
          rw [jFS b1 21, jFS h 21, b5 99 21]
          simp [lg_ap, ae_ev, ae_el, ae_s, ae_k]
        have f22 : jF w2 22 = jF w 22 := by
          rw [jFS b1 22, jFS h 22, b5 99 22]
          simp [lg_ap, ae_ev, ae_el, ae_s, ae_k]
        have f23 : jF w2 23 = jF w 23 := by
          rw [jFS b1 23, jFS h 23, b5 99 23]
          simp [lg_ap, ae_ev, ae_el, ae_s, ae_k]
        have f24 : jF w2 24 = (s : Int) := by
          rw [jFS b1 24, b5 99 24]
          simp [lg_ap, ae_ev, ae_el, ae_s, ae_k]
          try omega
        have f28 : jF w2 28 = jF w 28 := by
          rw [jFS b1 28, jFS h 28, b5 99 28]
          simp [lg_ap, ae_ev, ae_el, ae_s, ae_k]
        have f29 : jF w2 29 = jF w 29 := by
          rw [jFS b1 29, jFS h 29, b5 99 29]
          simp [lg_ap, ae_ev, ae_el, ae_s, ae_k]
        exact rest w2 b1 (b4.more (by decide)) f19 f20 f21 f22 f23 f24 f28 f29
    · by_cases c1 : tK T n s ≤ 1
      · skip
        refine kz_lg H h (by decide) (ρ := [(jF w 24), (s : Int), (tV T n s), (g : Int), (tK T n s)]) rn_2 ⟨⟨b24.1, by omega⟩, ⟨by omega, by omega⟩, b23, ⟨by omega, by omega⟩, ⟨by omega, by omega⟩, trivial⟩ aFs.nil (aHh.cons (kn1 (i := 24) (by decide) rfl (ev_s rfl) s24) (aHh.cons (kn1 (i := 21) (by decide) rfl (ev_s rfl) s21) (aHh.cons (kn1 (i := 20) (by decide) rfl (ev_s rfl) s20) (aHh.cons (kn1 (i := 23) (by decide) rfl (ev_s rfl) s23) aHh.nil)))) (by rfl) (by rfl) (lEr (lEi (ev_s rfl) lE0)) sE0 (lvk2 := []) lE0 (stk2 := [.inl (ae_k ((tV T n s)))]) (sEi (ev_s rfl) sE0) (fun w2 b1 b4 b5 => ?_)
        have f19 : jF w2 19 = jF w 19 := by
          rw [jFS b1 19, jFS h 19, b5 99 19]
          simp [lg_ap, ae_ev, ae_el, ae_s, ae_k]
        have f20 : jF w2 20 = jF w 20 := by
          rw [jFS b1 20, jFS h 20, b5 99 20]
          simp [lg_ap, ae_ev, ae_el, ae_s, ae_k]
        have f21 : jF w2 21 = jF w 21 := by
          rw [jFS b1 21, jFS h 21, b5 99 21]
          simp [lg_ap, ae_ev, ae_el, ae_s, ae_k]
        have f22 : jF w2 22 = jF w 22 := by
          rw [jFS b1 22, jFS h 22, b5 99 22]
          simp [lg_ap, ae_ev, ae_el, ae_s, ae_k]
        have f23 : jF w2 23 = jF w 23 := by
          rw [jFS b1 23, jFS h 23, b5 99 23]
          simp [lg_ap, ae_ev, ae_el, ae_s, ae_k]
        have f24 : jF w2 24 = (s : Int) := by
          rw [jFS b1 24, b5 99 24]
          simp [lg_ap, ae_ev, ae_el, ae_s, ae_k]
          try omega
        have f28 : jF w2 28 = jF w 28 := by
          rw [jFS b1 28, jFS h 28, b5 99 28]
          simp [lg_ap, ae_ev, ae_el, ae_s, ae_k]
        have f29 : jF w2 29 = jF w 29 := by
          rw [jFS b1 29, jFS h 29, b5 99 29]
          simp [lg_ap, ae_ev, ae_el, ae_s, ae_k]
        exact rest w2 b1 (b4.more (by decide)) f19 f20 f21 f22 f23 f24 f28 f29
      · skip
        refine kz_lg H h (by decide) (ρ := [(jF w 24), (s : Int), (tV T n s), (g : Int), (tK T n s)]) rn_3 ⟨⟨b24.1, by omega⟩, ⟨by omega, by omega⟩, b23, ⟨by omega, by omega⟩, ⟨by omega, by omega⟩, trivial⟩ aFs.nil (aHh.cons (kn1 (i := 24) (by decide) rfl (ev_s rfl) s24) (aHh.cons (kn1 (i := 21) (by decide) rfl (ev_s rfl) s21) (aHh.cons (kn1 (i := 20) (by decide) rfl (ev_s rfl) s20) (aHh.cons (kn1 (i := 23) (by decide) rfl (ev_s rfl) s23) aHh.nil)))) (by rfl) (by rfl) (lEr (lEi (ev_s rfl) lE0)) sE0 (lvk2 := []) lE0 (stk2 := [.inl (ae_k ((tV T n s)))]) (sEi (ev_s rfl) sE0) (fun w2 b1 b4 b5 => ?_)
        have f19 : jF w2 19 = jF w 19 := by
          rw [jFS b1 19, jFS h 19, b5 99 19]
          simp [lg_ap, ae_ev, ae_el, ae_s, ae_k]
        have f20 : jF w2 20 = jF w 20 := by
          rw [jFS b1 20, jFS h 20, b5 99 20]
          simp [lg_ap, ae_ev, ae_el, ae_s, ae_k]
        have f21 : jF w2 21 = jF w 21 := by
          rw [jFS b1 21, jFS h 21, b5 99 21]
          simp [lg_ap, ae_ev, ae_el, ae_s, ae_k]
        have f22 : jF w2 22 = jF w 22 := by
          rw [jFS b1 22, jFS h 22, b5 99 22]
          simp [lg_ap, ae_ev, ae_el, ae_s, ae_k]
        have f23 : jF w2 23 = jF w 23 := by
          rw [jFS b1 23, jFS h 23, b5 99 23]
          simp [lg_ap, ae_ev, ae_el, ae_s, ae_k]
        have f24 : jF w2 24 = (s : Int) := by
          rw [jFS b1 24, b5 99 24]
          simp [lg_ap, ae_ev, ae_el, ae_s, ae_k]
          try omega
        have f28 : jF w2 28 = jF w 28 := by
          rw [jFS b1 28, jFS h 28, b5 99 28]
          simp [lg_ap, ae_ev, ae_el, ae_s, ae_k]
        have f29 : jF w2 29 = jF w 29 := by
          rw [jFS b1 29, jFS h 29, b5 99 29]
          simp [lg_ap, ae_ev, ae_el, ae_s, ae_k]
        exact rest w2 b1 (b4.more (by decide)) f19 f20 f21 f22 f23 f24 f28 f29
/-- hold -/
theorem rh_mj (hf : E.2.2.2.1.category = 1) (hT : ∀ σ : List Int, aTb E σ aTabs) (H : hOk E al gR jJ) (h : hI E al jJ w) (HT : rtT w T n) {s : Nat} (hk : rtk w T n s) (hg : jF w 24 < 0) (hf9 : jF w 29 ≤ 255) (x : Int32) {AS : List Value} (hA : gL E al [] [.inr (0, 99), .inl (ae_k x.toInt)] AS) :
    MJ E 5 0 0 (mj_in0 243 AS w) (fun v w2 => v = none ∧ hP E al x w w2 ∧ rtk w2 T n (tX T n s) ∧ jF w2 24 = jF w 24) := by
  have HV : hOk E al gV0 (fun _ => True) := hOkV hf hT (fun _ _ _ _ h => h)
  have b := h.bds
  have be := tE_le (T := T) hk.1
  have bx := tS_le (T := T) be.2
  have bx32 := And.intro (i32_lo x) (i32_hi x)
  have s29 := rsl h (i := 29) (b := (0, 256)) (by decide +kernel) rfl
  refine hG.in0 hf (d := 5) (as := [.inr (0, 99), .inl (ae_k x.toInt)]) ?_ hA
  show hG E al 5 243 0 [(0, .inr (0, 99)), (1, .inl (ae_k x.toInt))] [] [] w _
  refine ky_go hf hT h.1 (by decide) (ρ := [x.toInt, (jF w 29)]) rh_0 ⟨bx32, ⟨by omega, by omega⟩, trivial⟩ aFs.nil (aHh.cons (kn1 (i := 29) (by decide) rfl (ev_s rfl) s29) aHh.nil) (by rfl) (by rfl) (lEr (lEi (ev_s rfl) lE0)) sE0 (lvk2 := [(0, .inr (0, 99))]) (lEr lE0) (stk2 := [.inl (ae_k (x.toInt)), .inl (ae_k ((jF w 29))), .inr (0, 121)]) (sEi (ev_s rfl) (sEi (ev_s rfl) (sEr sE0))) ?_
  refine hp_ias (by decide +kernel) h.1 aw_121 (aV.k _) (aV.k _) (by omega) (by omega) (fun z w3 hz hq hj hw => ?_)
  obtain ⟨q, rfl⟩ := hq
  have ez : z = x := i32_inj hz
  subst ez
  have d3 : hD [121] w (w.set 121 q) := hD.set
  have h3 : hI E al jJ (w.set 121 q) := h.set (hw (aF_any rfl)) (by decide +kernel) (by decide)
  have o := rT.at (d3.2 99 (by decide))
  have o8 := jF.at (d3.2 99 (by decide)) 28
  have o9 := jF.at (d3.2 99 (by decide)) 29
  have s29b := rsl h3 (i := 29) (b := (0, 256)) (by decide +kernel) o9
  refine kz_lg H h3 (by decide) (ρ := [(jF w 29)]) rh_1 ⟨⟨by omega, by omega⟩, trivial⟩ aFs.nil (aHh.cons (kn1 (i := 29) (by decide) rfl (ev_s rfl) s29b) aHh.nil) (by rfl) (by rfl) (lEr lE0) sE0 (lvk2 := []) lE0 (stk2 := [.inr (0, 99)]) (sEr sE0) (fun w2 b1 b4 b5 => ?_)
  have f19 : jF w2 19 = jF (w.set 121 q) 19 := by
    rw [jFS b1 19, jFS h3 19, b5 99 19]
    simp [lg_ap, ae_ev, ae_el, ae_s, ae_k]
  have f20 : jF w2 20 = jF (w.set 121 q) 20 := by
    rw [jFS b1 20, jFS h3 20, b5 99 20]
    simp [lg_ap, ae_ev, ae_el, ae_s, ae_k]
  have f21 : jF w2 21 = jF (w.set 121 q) 21 := by
    rw [jFS b1 21, jFS h3 21, b5 99 21]
    simp [lg_ap, ae_ev, ae_el, ae_s, ae_k]
  have f22 : jF w2 22 = jF (w.set 121 q) 22 := by
    rw [jFS b1 22, jFS h3 22, b5 99 22]
    simp [lg_ap, ae_ev, ae_el, ae_s, ae_k]
  have f23 : jF w2 23 = jF (w.set 121 q) 23 := by
    rw [jFS b1 23, jFS h3 23, b5 99 23]
    simp [lg_ap, ae_ev, ae_el, ae_s, ae_k]
  have f24 : jF w2 24 = jF (w.set 121 q) 24 := by
    rw [jFS b1 24, jFS h3 24, b5 99 24]
    simp [lg_ap, ae_ev, ae_el, ae_s, ae_k]
  have f28 : jF w2 28 = jF (w.set 121 q) 28 := by
    rw [jFS b1 28, jFS h3 28, b5 99 28]
    simp [lg_ap, ae_ev, ae_el, ae_s, ae_k]
  have f29 : jF w2 29 = jF w 29 + 1 := by
    rw [jFS b1 29, b5 99 29]
    simp [lg_ap, ae_ev, ae_el, ae_s, ae_k]
    try omega
  have t2 : rT w w2 := o.trans ⟨f19, f20, f21, f22, f23, f24⟩
  have hk2 := hk.t t2
  have HT2 : rtT w2 T n := (HT.more d3 (by decide)).more b4 (by decide)
  refine ra_call hf hT H b1 HT2 hk2 (d := 4) (by decide) (by decide) (by rfl) (fun w4 g1 g2 g3 g4 g5 g6 => ?_)
  have e24 : jF w4 24 = jF w 24 := g4.trans t2.2.2.2.2.2
  obtain ⟨t, ht, hK, -⟩ := g3.K (by omega)
  refine hp_ret HV (by decide) (by decide +kernel) (by decide +kernel) ⟨rfl, ⟨g1, (d3.more (by simp)).trans ((b4.more (by simp)).trans (g2.more (by simp))), ⟨t, ht, hK⟩, ?_, by omega, by omega, ?_, ?_⟩, g3, e24⟩
  · rw [g3.2.1, hk.2.1]
  · rw [g3.2.2.2.1, hk.2.2.2.2.1]
    unfold tX
    omega
  · rw [g2.row (by decide), b4.row (c := 121) (by decide), hj]
/-- what wantAsk leaves -/
def rqQ (E : mj_E) (al : List Nat) (w : va_W) (T : Nat → Int) (n s : Nat) (v : Option Value) (w2 : va_W) : Prop := wa_post E al w v w2 ∧ ((jF w2 24 < 0 ∧ ∃ s2, s < s2 ∧ rtk w2 T n s2 ∧ ∀ o ls, run T n 5 o ls s = run T n 8 o ls s2) ∨ (0 ≤ jF w2 24 ∧ ∃ s2 : Nat, rtk w2 T n s2 ∧ jF w2 24 = (s2 : Int) ∧ ∀ o ls, run T n 5 o ls s = ((s2 : Int), ls)))
/-- a good end -/
theorem rq_good {s s2 : Nat} {x : Int32} (hk : rtk w T n s) (hss : s < s2) (h2 : hI E al jJ w2) (hd : hD [99, 120] w w2) (hk2 : rtk w2 T n s2) (hg : jF w2 24 < 0) (e29 : jF w2 29 = jF w 29) (e28 : jF w2 28 = jF w 28 + 1) (hx : x.toInt = 1 ∨ x.toInt = 2 ∨ 10000 ≤ x.toInt) (hj : jR w2 120 = upd (jR w 120) (jF w 28).toNat x) (hr : ∀ o ls, run T n 5 o ls s = run T n 8 o ls s2) : rqQ E al w T n s none w2 := by
  obtain ⟨t, ht, hK, -⟩ := hk2.K hg
  refine ⟨⟨rfl, h2, hd, hk2.2.1.trans hk.2.1.symm, e29, Or.inl ⟨t, ht, hK, e28, ?_, x, hx, hj⟩⟩, Or.inl ⟨hg, s2, hss, hk2, hr⟩⟩
  rw [hk.2.2.2.1, hk2.2.2.2.1]
  omega
theorem rq_bad {s s2 : Nat} (hk : rtk w T n s) (hss : s ≤ s2) (h2 : hI E al jJ w2) (hd : hD [99] w w2) (hk2 : rtk w2 T n s2) (hg : jF w2 24 = (s2 : Int)) (e29 : jF w2 29 = jF w 29) (e28 : jF w2 28 = jF w 28) (hr : ∀ o ls, run T n 5 o ls s = ((s2 : Int), ls)) : rqQ E al w T n s none w2 := by
  refine ⟨⟨rfl, h2, hd.more (by simp), hk2.2.1.trans hk.2.1.symm, e29, Or.inr ⟨hk2.K4 (by omega), e28, ?_, hd.row (by decide)⟩⟩, Or.inr ⟨by omega, s2, hk2, hg, hr⟩⟩
  rw [hk.2.2.2.1, hk2.2.2.2.1]
  omega
/-- emit, on with what comes -/
theorem re_call (hf : E.2.2.2.1.category = 1) (hT : ∀ σ : List Int, aTb E σ aTabs) (H : hOk E al gR jJ) (h : hI E al jJ w) (h28 : jF w 28 ≤ 255) {x : Int} (hx : aI0 ≤ x ∧ x ≤ aI1) {d y pc : Nat} {lv : List (Nat × av)} {rest : List av} (hy : y < mj_lawNo) (hd : 1 ≤ d)
    (hc : ak_callat gV0 (d + 1) y pc lv (.inl (ae_k x) :: .inr (0, 99) :: rest) ([], [], [], [], []) = some (246, [.inr (0, 99), .inl (ae_k x)], rest))
    (hq : ∀ w2, hI E al jJ w2 → hD [99, 120] w w2 → rT w w2 → jF w2 28 = jF w 28 + 1 → jF w2 29 = jF w 29 → jR w2 120 = upd (jR w 120) (jF w 28).toNat (Int32.ofInt x) → hG E al (d + 1) y (pc + 3) lv rest [] w2 Q) : hG E al (d + 1) y pc lv (.inl (ae_k x) :: .inr (0, 99) :: rest) [] w Q := by
  have HV : hOk E al gV0 (fun _ => True) := hOkV hf hT (fun _ _ _ _ h => h)
  have ex : (Int32.ofInt x).toInt = x := i32_of hx.1 hx.2
  refine hp_call HV (d := d) (y2 := 246) (as := [.inr (0, 99), .inl (ae_k x)]) (rest := rest) (R := fun w2 => hI E al jJ w2 ∧ hD [99, 120] w w2 ∧ rT w w2 ∧ jF w2 28 = jF w 28 + 1 ∧ jF w2 29 = jF w 29 ∧ jR w2 120 = upd (jR w 120) (jF w 28).toNat (Int32.ofInt x)) hy hc (hW.e (J := fun _ => True) h.1 trivial) (fun AS hA => (rd_emit H h h28 (Int32.ofInt x) (AS := AS) (by rw [ex]; exact hA)).weaken hd (Nat.le_refl _) (Nat.le_refl _) (fun v w2 h => h)) (fun w2 hR => ?_)
  exact hq w2 hR.1 hR.2.1 hR.2.2.1 hR.2.2.2.1 hR.2.2.2.2.1 hR.2.2.2.2.2
/-- want, on with what comes -/
theorem rw_callT (hf : E.2.2.2.1.category = 1) (hT : ∀ σ : List Int, aTb E σ aTabs) (H : hOk E al gR jJ) (h : hI E al jJ w) (HT : rtT w T n) {s : Nat} (hk : rtk w T n s) (hg : jF w 24 < 0) {d y pc : Nat} {lv : List (Nat × av)} {rest : List av} (hy : y < mj_lawNo) (hd : 4 ≤ d)
    (hc : ak_callat gV0 (d + 1) y pc lv (.inl (ae_k 1) :: .inr (0, 99) :: rest) ([], [], [], [], []) = some (241, [.inr (0, 99), .inl (ae_k 1)], rest))
    (hq : ∀ w2, hI E al jJ w2 → hD [99] w w2 → rtk w2 T n (tX T n s) → jF w2 24 = jF w 24 → jF w2 28 = jF w 28 → jF w2 29 = jF w 29 → hG E al (d + 1) y (pc + 3) lv rest [] w2 Q) : hG E al (d + 1) y pc lv (.inl (ae_k 1) :: .inr (0, 99) :: rest) [] w Q := by
  have HV : hOk E al gV0 (fun _ => True) := hOkV hf hT (fun _ _ _ _ h => h)
  refine hp_call HV (d := d) (y2 := 241) (as := [.inr (0, 99), .inl (ae_k 1)]) (rest := rest) (R := fun w2 => hI E al jJ w2 ∧ hD [99] w w2 ∧ rtk w2 T n (tX T n s) ∧ jF w2 24 = jF w 24 ∧ jF w2 28 = jF w 28 ∧ jF w2 29 = jF w 29) hy hc (hW.e (J := fun _ => True) h.1 trivial) (fun AS hA => (rw_t hf hT H h HT hk hg hA).weaken hd (Nat.le_refl _) (Nat.le_refl _) (fun v w2 h => h)) (fun w2 hR => ?_)
  exact hq w2 hR.1 hR.2.1 hR.2.2.1 hR.2.2.2.1 hR.2.2.2.2.1 hR.2.2.2.2.2
theorem rw_callF (hf : E.2.2.2.1.category = 1) (hT : ∀ σ : List Int, aTb E σ aTabs) (H : hOk E al gR jJ) (h : hI E al jJ w) (hn : n ≤ 250) {s : Nat} (hk : rtk w T n s) (hg : jF w 24 < 0) {d y pc : Nat} {lv : List (Nat × av)} {rest : List av} (hy : y < mj_lawNo) (hd : 4 ≤ d)
    (hc : ak_callat gV0 (d + 1) y pc lv (.inl (ae_k 0) :: .inr (0, 99) :: rest) ([], [], [], [], []) = some (241, [.inr (0, 99), .inl (ae_k 0)], rest))
    (hq : ∀ w2, hI E al jJ w2 → hD [99] w w2 → rtk w2 T n s → jF w2 24 = (s : Int) → jF w2 28 = jF w 28 → jF w2 29 = jF w 29 → hG E al (d + 1) y (pc + 3) lv rest [] w2 Q) : hG E al (d + 1) y pc lv (.inl (ae_k 0) :: .inr (0, 99) :: rest) [] w Q := by
  have HV : hOk E al gV0 (fun _ => True) := hOkV hf hT (fun _ _ _ _ h => h)
  refine hp_call HV (d := d) (y2 := 241) (as := [.inr (0, 99), .inl (ae_k 0)]) (rest := rest) (R := fun w2 => hI E al jJ w2 ∧ hD [99] w w2 ∧ rtk w2 T n s ∧ jF w2 24 = (s : Int) ∧ jF w2 28 = jF w 28 ∧ jF w2 29 = jF w 29) hy hc (hW.e (J := fun _ => True) h.1 trivial) (fun AS hA => (rw_f hf hT H h hk hn hg hA).weaken hd (Nat.le_refl _) (Nat.le_refl _) (fun v w2 h => h)) (fun w2 hR => ?_)
  exact hq w2 hR.1 hR.2.1 hR.2.2.1 hR.2.2.2.1 hR.2.2.2.2.1 hR.2.2.2.2.2
/-- wantNumber, on with what comes -/
theorem rn_call (hf : E.2.2.2.1.category = 1) (hT : ∀ σ : List Int, aTb E σ aTabs) (H : hOk E al gR jJ) (h : hI E al jJ w) (HT : rtT w T n) {s g : Nat} (hk : rtk w T n s) (hg : jF w 24 < 0) (hg9 : g ≤ 999) {d y pc : Nat} {lv : List (Nat × av)} {rest : List av} (hy : y < mj_lawNo) (hd : 5 ≤ d)
    (hc : ak_callat gV0 (d + 1) y pc lv (.inl (ae_k (g : Int)) :: .inr (0, 99) :: rest) ([], [], [], [], []) = some (240, [.inr (0, 99), .inl (ae_k (g : Int))], rest))
    (h1 : tN g T n s ≠ -1 → ∀ w2, hI E al jJ w2 → hD [99] w w2 → rtk w2 T n (tX T n s) → jF w2 24 = jF w 24 → jF w2 28 = jF w 28 → jF w2 29 = jF w 29 → hG E al (d + 1) y (pc + 3) lv (.inl (ae_k (tN g T n s)) :: rest) [] w2 Q)
    (h0 : tN g T n s = -1 → ∀ (z : Int) (w2 : va_W), aI0 ≤ z ∧ z ≤ aI1 → hI E al jJ w2 → hD [99] w w2 → rtk w2 T n s → jF w2 24 = (s : Int) → jF w2 28 = jF w 28 → jF w2 29 = jF w 29 → hG E al (d + 1) y (pc + 3) lv (.inl (ae_k z) :: rest) [] w2 Q) : hG E al (d + 1) y pc lv (.inl (ae_k (g : Int)) :: .inr (0, 99) :: rest) [] w Q := by
  have HV : hOk E al gV0 (fun _ => True) := hOkV hf hT (fun _ _ _ _ h => h)
  refine hp_callV HV (d := d) (y2 := 240) (as := [.inr (0, 99), .inl (ae_k (g : Int))]) (rest := rest) (R := fun z w2 => hI E al jJ w2 ∧ hD [99] w w2 ∧ jF w2 28 = jF w 28 ∧ jF w2 29 = jF w 29 ∧ ((tN g T n s ≠ -1 ∧ z.toInt = tN g T n s ∧ rtk w2 T n (tX T n s) ∧ jF w2 24 = jF w 24) ∨ (tN g T n s = -1 ∧ rtk w2 T n s ∧ jF w2 24 = (s : Int)))) hy hc (hW.e (J := fun _ => True) h.1 trivial) (fun AS hA => (rn_mj hf hT H h HT hk hg hg9 hA).weaken hd (Nat.le_refl _) (Nat.le_refl _) (fun v w2 h => h)) (fun z w2 hR => ?_)
  obtain ⟨g1, g2, g5, g6, ⟨c, hz, g3, g4⟩ | ⟨c, g3, g4⟩⟩ := hR
  · rw [hz]
    exact h1 c w2 g1 g2 g3 g4 g5 g6
  · exact h0 c z.toInt w2 ⟨i32_lo z, i32_hi z⟩ g1 g2 g3 g4 g5 g6
/-- wantAsk, behind the fact -/
theorem rq_62 (hf : E.2.2.2.1.category = 1) (hT : ∀ σ : List Int, aTb E σ aTabs) (H : hOk E al gR jJ) (h : hI E al jJ w) {s s1 f : Nat} (hk : rtk w T n s) (h1 : hI E al jJ w1) (hd : hD [99] w w1) (HT : rtT w1 T n) (hk1 : rtk w1 T n s1) (hg : jF w1 24 < 0) (e28 : jF w1 28 = jF w 28) (e29 : jF w1 29 = jF w 29) (h28 : jF w 28 ≤ 255) (hss : s < s1) (hf6 : f < 6) (hr : ∀ o ls, run T n 5 o ls s = run T n 6 o ls s1) : hG E al 6 245 62 [(0, .inr (0, 99)), (1, .inl (ae_k (f : Int)))] [] [] w1 (rqQ E al w T n s) := by
  have HV : hOk E al gV0 (fun _ => True) := hOkV hf hT (fun _ _ _ _ h => h)
  have hn := HT.1
  have x1 := tX_le (T := T) hk1.1
  have kb := tK_b (T := T) (n := n) (s := s1)
  have b23 := h1.f (i := 23) (b := aF) (by decide +kernel)
  rw [hk1.2.2.2.2.2] at b23
  have s20 := rsl h1 (i := 20) (b := (0, 3)) (by decide +kernel) hk1.2.2.1
  have s23 := rsl h1 (i := 23) (b := aF) (by decide +kernel) hk1.2.2.2.2.2
  -- the number
  have nm : ∀ (j : Nat) (w3 : va_W), j < 3 → hI E al jJ w3 → hD [99] w w3 → rtk w3 T n (tX T n s1) → jF w3 24 < 0 → jF w3 28 = jF w 28 → jF w3 29 = jF w 29 → s1 < tX T n s1 → (∀ o ls, run T n 5 o ls s = run T n 7 o ls (tX T n s1)) → hG E al 6 245 116 [(0, .inr (0, 99)), (1, .inl (ae_k (f : Int))), (2, .inl (ae_k (j : Int)))] [] [] w3 (rqQ E al w T n s) := by
    intro j w3 hj h3 d3 k3 g3 a28 a29 hs3 hr3
    have HT3 : rtT w3 T n := ⟨hn, fun i hi => by
      rw [jS.at (d3.2 118 (by decide)), ← jS.at (hd.2 118 (by decide))]
      exact HT.2.1 i hi, HT.2.2⟩
    refine ky_go hf hT h3.1 (by decide) (ρ := [(f : Int), (j : Int)]) rq_i ⟨⟨by omega, by omega⟩, ⟨by omega, by omega⟩, trivial⟩ aFs.nil aHh.nil (by rfl) (by rfl) (lEr (lEi (ev_s rfl) (lEi (ev_s rfl) lE0))) sE0 (lvk2 := [(0, .inr (0, 99)), (1, .inl (ae_k ((f : Int)))), (2, .inl (ae_k ((j : Int))))]) (lEr (lEi (ev_s rfl) (lEi (ev_s rfl) lE0))) (stk2 := [.inl (ae_k (999)), .inr (0, 99)]) (sEi ae_ev_k (sEr sE0)) ?_
    refine rn_call hf hT H h3 HT3 k3 g3 (g := 999) (by decide) (d := 5) (by decide) (by decide) (by rfl) (fun e w4 m1 m2 m3 m4 m5 m6 => ?_) (fun e z w4 hz m1 m2 m3 m4 m5 m6 => ?_)
    · have bN := tN_b (T := T) (n := n) (s := tX T n s1) (g := ((999 : Nat) : Int)) (by decide)
      have x2 := tX_lt (T := T) (tN_lt e)
      have b24 := m1.f (i := 24) (b := aF) (by decide +kernel)
      have r24 := rsl m1 (i := 24) (b := aF) (by decide +kernel) rfl
      refine ky_go hf hT m1.1 (by decide) (ρ := [(f : Int), (j : Int), (tN ((999 : Nat) : Int) T n (tX T n s1)), (jF w4 24)]) rq_j ⟨⟨by omega, by omega⟩, ⟨by omega, by omega⟩, ⟨by omega, by omega⟩, ⟨b24.1, by omega⟩, trivial⟩ aFs.nil (aHh.cons (kn1 (i := 24) (by decide) rfl (ev_s rfl) r24) aHh.nil) (by rfl) (by rfl) (lEr (lEi (ev_s rfl) (lEi (ev_s rfl) lE0))) (sEi (ev_s rfl) sE0) (lvk2 := [(0, .inr (0, 99))]) (lEr lE0) (stk2 := [.inl (ae_k (10000 + 4000 * (f : Int) + 1000 * (j : Int) + tN ((999 : Nat) : Int) T n (tX T n s1))), .inr (0, 99)]) (sEi (by simp only [ae_ev, ae_el, ae_s, ae_k, List.getD_cons_zero, List.getD_cons_succ]; omega) (sEr sE0)) ?_
      refine re_call hf hT H m1 (by omega) (by unfold aI0 aI1; omega) (d := 5) (by decide) (by decide) (by rfl) (fun w5 p1 p2 p3 p4 p5 p6 => ?_)
      have ex : (Int32.ofInt (10000 + 4000 * (f : Int) + 1000 * (j : Int) + tN ((999 : Nat) : Int) T n (tX T n s1))).toInt = 10000 + 4000 * (f : Int) + 1000 * (j : Int) + tN ((999 : Nat) : Int) T n (tX T n s1) := i32_of (by unfold aI0; omega) (by unfold aI1; omega)
      have e24 : jF w5 24 = jF w4 24 := p3.2.2.2.2.2
      refine hp_ret HV (by decide) (by decide +kernel) (by decide +kernel) (rq_good hk (by omega) p1 ((d3.more (by simp)).trans ((m2.more (by simp)).trans p2)) (m3.t p3) (by omega) (by omega) (by omega) (Or.inr (Or.inr (by rw [ex]; omega))) ?_ (fun o ls => ?_))
      · rw [p6, m2.row (by decide), d3.row (by decide), m5, a28]
      · rw [hr3 o ls]
        exact run_go (q := (8, o, ls)) (by
          show (if tN 999 T n (tX T n s1) = -1 then none else some (8, o, ls)) = _
          exact if_neg e)
    · skip
      have r24 := rsl m1 (i := 24) (b := aF) (by decide +kernel) rfl
      have b24 := m1.f (i := 24) (b := aF) (by decide +kernel)
      refine hG.sub (lv2 := [(0, .inr (0, 99))]) ?_ (fun q hq => by simp only [List.mem_singleton] at hq; simp [hq])
      refine ky_go hf hT m1.1 (by decide) (ρ := [(jF w4 24), z]) rq_k ⟨⟨by omega, b24.2⟩, hz, trivial⟩ aFs.nil (aHh.cons (kn1 (i := 24) (by decide) rfl (ev_s rfl) r24) aHh.nil) (by rfl) (by rfl) (lEr lE0) (sEi (ev_s rfl) sE0) (lvk2 := []) lE0 (stk2 := []) sE0 ?_
      exact hp_ret HV (by decide) (by decide +kernel) (by decide +kernel) (rq_bad hk (by omega) m1 (d3.trans m2) m3 m4 (by omega) (by omega) (fun o ls => by
        rw [hr3 o ls]
        exact run_no (by
          show (if tN 999 T n (tX T n s1) = -1 then none else some (8, o, ls)) = none
          exact if_pos e) (Or.inr (by decide))))
  cases e0 : tw 18 T n s1 with
  | true =>
    obtain ⟨q1, q2⟩ := tw_18.mp e0
    rw [q1] at s20
    rw [q2] at s23
    have x2 := tX_lt (T := T) (tw_lt e0)
    refine ky_go hf hT h1.1 (by decide) (ρ := [(f : Int)]) rq_g0 ⟨⟨by omega, by omega⟩, trivial⟩ aFs.nil (aHh.cons (kn1 (i := 20) (by decide) rfl ae_ev_k s20) (aHh.cons (kn1 (i := 23) (by decide) rfl ae_ev_k s23) aHh.nil)) (by rfl) (by rfl) (lEr (lEi (ev_s rfl) lE0)) sE0 (lvk2 := [(0, .inr (0, 99)), (1, .inl (ae_k ((f : Int)))), (2, .inl (ae_k (0)))]) (lEr (lEi (ev_s rfl) (lEi ae_ev_k lE0))) (stk2 := [.inl (ae_k (1)), .inr (0, 99)]) (sEi ae_ev_k (sEr sE0)) ?_
    exact rw_callT hf hT H h1 HT hk1 hg (d := 5) (by decide) (by decide) (by rfl) (fun w3 m1 m2 m3 m4 m5 m6 => nm 0 w3 (by decide) m1 (hd.trans m2) m3 (by omega) (by omega) (by omega) (by omega) (fun o ls => by
      rw [hr o ls]
      exact run_go (q := (7, o, ls)) (by simp [tStep, e0])))
  | false =>
  cases e1 : tw 19 T n s1 with
  | true =>
    obtain ⟨q1, q2⟩ := tw_19.mp e1
    rw [q1] at s20
    rw [q2] at s23
    have x2 := tX_lt (T := T) (tw_lt e1)
    refine ky_go hf hT h1.1 (by decide) (ρ := [(f : Int)]) rq_g1 ⟨⟨by omega, by omega⟩, trivial⟩ aFs.nil (aHh.cons (kn1 (i := 20) (by decide) rfl ae_ev_k s20) (aHh.cons (kn1 (i := 23) (by decide) rfl ae_ev_k s23) aHh.nil)) (by rfl) (by rfl) (lEr (lEi (ev_s rfl) lE0)) sE0 (lvk2 := [(0, .inr (0, 99)), (1, .inl (ae_k ((f : Int)))), (2, .inl (ae_k (1)))]) (lEr (lEi (ev_s rfl) (lEi ae_ev_k lE0))) (stk2 := [.inl (ae_k (1)), .inr (0, 99)]) (sEi ae_ev_k (sEr sE0)) ?_
    exact rw_callT hf hT H h1 HT hk1 hg (d := 5) (by decide) (by decide) (by rfl) (fun w3 m1 m2 m3 m4 m5 m6 => nm 1 w3 (by decide) m1 (hd.trans m2) m3 (by omega) (by omega) (by omega) (by omega) (fun o ls => by
      rw [hr o ls]
      exact run_go (q := (7, o, ls)) (by simp [tStep, e0, e1])))
  | false =>
  cases e2 : tw 20 T n s1 with
  | true =>
    obtain ⟨q1, q2⟩ := tw_20.mp e2
    rw [q1] at s20
    rw [q2] at s23
    have x2 := tX_lt (T := T) (tw_lt e2)
    refine ky_go hf hT h1.1 (by decide) (ρ := [(f : Int)]) rq_g2 ⟨⟨by omega, by omega⟩, trivial⟩ aFs.nil (aHh.cons (kn1 (i := 20) (by decide) rfl ae_ev_k s20) (aHh.cons (kn1 (i := 23) (by decide) rfl ae_ev_k s23) aHh.nil)) (by rfl) (by rfl) (lEr (lEi (ev_s rfl) lE0)) sE0 (lvk2 := [(0, .inr (0, 99)), (1, .inl (ae_k ((f : Int)))), (2, .inl (ae_k (2)))]) (lEr (lEi (ev_s rfl) (lEi ae_ev_k lE0))) (stk2 := [.inl (ae_k (1)), .inr (0, 99)]) (sEi ae_ev_k (sEr sE0)) ?_
    exact rw_callT hf hT H h1 HT hk1 hg (d := 5) (by decide) (by decide) (by rfl) (fun w3 m1 m2 m3 m4 m5 m6 => nm 2 w3 (by decide) m1 (hd.trans m2) m3 (by omega) (by omega) (by omega) (by omega) (fun o ls => by
      rw [hr o ls]
      exact run_go (q := (7, o, ls)) (by simp [tStep, e0, e1, e2])))
  | false =>
  obtain ⟨b, hb, q⟩ := bx_S_of (k := tK T n s1) (v := tV T n s1) kb b23 (twF tw_18 e0) (twF tw_19 e1) (twF tw_20 e2)
  refine ky_go hf hT h1.1 (by decide) (ρ := [(f : Int), (tK T n s1), (tV T n s1)]) (rq_h b hb) ⟨⟨by omega, by omega⟩, q.1, q.2, trivial⟩ aFs.nil (aHh.cons (kn1 (i := 20) (by decide) rfl (ev_s rfl) s20) (aHh.cons (kn1 (i := 23) (by decide) rfl (ev_s rfl) s23) aHh.nil)) (by rfl) (by rfl) (lEr (lEi (ev_s rfl) lE0)) sE0 (lvk2 := [(0, .inr (0, 99)), (1, .inl (ae_k ((f : Int)))), (2, .inl (ae_k ((-1))))]) (lEr (lEi (ev_s rfl) (lEi ae_ev_k lE0))) (stk2 := [.inl (ae_k (0)), .inr (0, 99)]) (sEi ae_ev_k (sEr sE0)) ?_
  refine rw_callF hf hT H h1 hn hk1 hg (d := 5) (by decide) (by decide) (by rfl) (fun w3 m1 m2 m3 m4 m5 m6 => ?_)
  have b24 := m1.f (i := 24) (b := aF) (by decide +kernel)
  have c23 := m1.f (i := 23) (b := aF) (by decide +kernel)
  have r24 := rsl m1 (i := 24) (b := aF) (by decide +kernel) rfl
  have r23 := rsl m1 (i := 23) (b := aF) (by decide +kernel) rfl
  refine hG.sub (lv2 := [(0, .inr (0, 99))]) ?_ (fun q hq => by simp only [List.mem_singleton] at hq; simp [hq])
  refine ky_go hf hT m1.1 (by decide) (ρ := [(jF w3 24), (jF w3 23)]) rq_l ⟨⟨by omega, b24.2⟩, c23, trivial⟩ aFs.nil (aHh.cons (kn1 (i := 24) (by decide) rfl (ev_s rfl) r24) (aHh.cons (kn1 (i := 23) (by decide) rfl (ev_s rfl) r23) aHh.nil)) (by rfl) (by rfl) (lEr lE0) sE0 (lvk2 := []) lE0 (stk2 := []) sE0 ?_
  exact hp_ret HV (by decide) (by decide +kernel) (by decide +kernel) (rq_bad hk (by omega) m1 (hd.trans m2) m3 m4 (by omega) (by omega) (fun o ls => by
    rw [hr o ls]
    exact run_no (by simp [tStep, e0, e1, e2]) (Or.inr (by decide))))
/-- wantAsk -/
theorem rq_mj (hf : E.2.2.2.1.category = 1) (hT : ∀ σ : List Int, aTb E σ aTabs) (H : hOk E al gR jJ) (h : hI E al jJ w) (HT : rtT w T n) {s : Nat} (hk : rtk w T n s) (hg : jF w 24 < 0) (h28 : jF w 28 ≤ 255) (h7 : tw 7 T n s = false) (h8 : tw 8 T n s = false) {AS : List Value} (hA : gL E al [] [.inr (0, 99)] AS) : MJ E 6 0 0 (mj_in0 245 AS w) (rqQ E al w T n s) := by
  have HV : hOk E al gV0 (fun _ => True) := hOkV hf hT (fun _ _ _ _ h => h)
  have hn := HT.1
  have kb := tK_b (T := T) (n := n) (s := s)
  have b23 := h.f (i := 23) (b := aF) (by decide +kernel)
  rw [hk.2.2.2.2.2] at b23
  refine hG.in0 hf (d := 6) (as := [.inr (0, 99)]) ?_ hA
  show hG E al 6 245 0 [(0, .inr (0, 99))] [] [] w _
  have s20 := rsl h (i := 20) (b := (0, 3)) (by decide +kernel) hk.2.2.1
  have s23 := rsl h (i := 23) (b := aF) (by decide +kernel) hk.2.2.2.2.2
  cases e10 : tw 10 T n s with
  | true =>
    obtain ⟨q1, q2⟩ := tw_10.mp e10
    rw [q1] at s20
    rw [q2] at s23
    have x2 := tX_lt (T := T) (tw_lt e10)
    refine ky_go hf hT h.1 (by decide) (ρ := []) rq_s1 trivial aFs.nil (aHh.cons (kn1 (i := 20) (by decide) rfl ae_ev_k s20) (aHh.cons (kn1 (i := 23) (by decide) rfl ae_ev_k s23) aHh.nil)) (by rfl) (by rfl) (lEr lE0) sE0 (lvk2 := [(0, .inr (0, 99))]) (lEr lE0) (stk2 := [.inl (ae_k (1)), .inr (0, 99)]) (sEi ae_ev_k (sEr sE0)) ?_
    refine re_call hf hT H h h28 (x := 1) (by decide) (d := 5) (by decide) (by decide) (by rfl) (fun w3 p1 p2 p3 p4 p5 p6 => ?_)
    refine hG.sub (lv2 := [(0, .inr (0, 99))]) ?_ (fun q hq => hq)
    refine ky_go hf hT p1.1 (by decide) (ρ := []) rq_t trivial aFs.nil aHh.nil (by rfl) (by rfl) (lEr lE0) sE0 (lvk2 := []) lE0 (stk2 := [.inr (0, 99)]) (sEr sE0) ?_
    refine ra_call hf hT H p1 (HT.more p2 (by decide)) (hk.t p3) (d := 5) (by decide) (by decide) (by rfl) (fun w4 m1 m2 m3 m4 m5 m6 => ?_)
    have e24 : jF w3 24 = jF w 24 := p3.2.2.2.2.2
    refine hp_ret HV (by decide) (by decide +kernel) (by decide +kernel) (rq_good (x := Int32.ofInt 1) hk (by omega) m1 (p2.trans (m2.more (by simp))) m3 (by omega) (by omega) (by omega) (Or.inl (by decide)) ?_ (fun o ls => run_go (q := (8, o, ls)) (by simp [tStep, h7, h8, e10])))
    rw [m2.row (by decide), p6]
  | false =>
  cases e11 : tw 11 T n s with
  | true =>
    obtain ⟨q1, q2⟩ := tw_11.mp e11
    rw [q1] at s20
    rw [q2] at s23
    have x2 := tX_lt (T := T) (tw_lt e11)
    refine ky_go hf hT h.1 (by decide) (ρ := []) rq_s2 trivial aFs.nil (aHh.cons (kn1 (i := 20) (by decide) rfl ae_ev_k s20) (aHh.cons (kn1 (i := 23) (by decide) rfl ae_ev_k s23) aHh.nil)) (by rfl) (by rfl) (lEr lE0) sE0 (lvk2 := [(0, .inr (0, 99))]) (lEr lE0) (stk2 := [.inl (ae_k (2)), .inr (0, 99)]) (sEi ae_ev_k (sEr sE0)) ?_
    refine re_call hf hT H h h28 (x := 2) (by decide) (d := 5) (by decide) (by decide) (by rfl) (fun w3 p1 p2 p3 p4 p5 p6 => ?_)
    refine hG.sub (lv2 := [(0, .inr (0, 99))]) ?_ (fun q hq => hq)
    refine ky_go hf hT p1.1 (by decide) (ρ := []) rq_t trivial aFs.nil aHh.nil (by rfl) (by rfl) (lEr lE0) sE0 (lvk2 := []) lE0 (stk2 := [.inr (0, 99)]) (sEr sE0) ?_
    refine ra_call hf hT H p1 (HT.more p2 (by decide)) (hk.t p3) (d := 5) (by decide) (by decide) (by rfl) (fun w4 m1 m2 m3 m4 m5 m6 => ?_)
    have e24 : jF w3 24 = jF w 24 := p3.2.2.2.2.2
    refine hp_ret HV (by decide) (by decide +kernel) (by decide +kernel) (rq_good (x := Int32.ofInt 2) hk (by omega) m1 (p2.trans (m2.more (by simp))) m3 (by omega) (by omega) (by omega) (Or.inr (Or.inl (by decide))) ?_ (fun o ls => run_go (q := (8, o, ls)) (by simp [tStep, h7, h8, e10, e11])))
    rw [m2.row (by decide), p6]
  | false =>
  cases e12 : tw 12 T n s with
  | true =>
    obtain ⟨q1, q2⟩ := tw_12.mp e12
    rw [q1] at s20
    rw [q2] at s23
    have x2 := tX_lt (T := T) (tw_lt e12)
    refine ky_go hf hT h.1 (by decide) (ρ := []) rq_f0 trivial aFs.nil (aHh.cons (kn1 (i := 20) (by decide) rfl ae_ev_k s20) (aHh.cons (kn1 (i := 23) (by decide) rfl ae_ev_k s23) aHh.nil)) (by rfl) (by rfl) (lEr lE0) sE0 (lvk2 := [(0, .inr (0, 99)), (1, .inl (ae_k (0)))]) (lEr (lEi ae_ev_k lE0)) (stk2 := [.inl (ae_k (1)), .inr (0, 99)]) (sEi ae_ev_k (sEr sE0)) ?_
    exact rw_callT hf hT H h HT hk hg (d := 5) (by decide) (by decide) (by rfl) (fun w3 m1 m2 m3 m4 m5 m6 => rq_62 (f := 0) hf hT H h hk m1 m2 (HT.more m2 (by decide)) m3 (by omega) m5 m6 h28 (by omega) (by decide) (fun o ls => run_go (q := (6, o, ls)) (by simp [tStep, h7, h8, e10, e11, e12])))
  | false =>
  cases e13 : tw 13 T n s with
  | true =>
    obtain ⟨q1, q2⟩ := tw_13.mp e13
    rw [q1] at s20
    rw [q2] at s23
    have x2 := tX_lt (T := T) (tw_lt e13)
    refine ky_go hf hT h.1 (by decide) (ρ := []) rq_f1 trivial aFs.nil (aHh.cons (kn1 (i := 20) (by decide) rfl ae_ev_k s20) (aHh.cons (kn1 (i := 23) (by decide) rfl ae_ev_k s23) aHh.nil)) (by rfl) (by rfl) (lEr lE0) sE0 (lvk2 := [(0, .inr (0, 99)), (1, .inl (ae_k (1)))]) (lEr (lEi ae_ev_k lE0)) (stk2 := [.inl (ae_k (1)), .inr (0, 99)]) (sEi ae_ev_k (sEr sE0)) ?_
    exact rw_callT hf hT H h HT hk hg (d := 5) (by decide) (by decide) (by rfl) (fun w3 m1 m2 m3 m4 m5 m6 => rq_62 (f := 1) hf hT H h hk m1 m2 (HT.more m2 (by decide)) m3 (by omega) m5 m6 h28 (by omega) (by decide) (fun o ls => run_go (q := (6, o, ls)) (by simp [tStep, h7, h8, e10, e11, e12, e13])))
  | false =>
  cases e14 : tw 14 T n s with
  | true =>
    obtain ⟨q1, q2⟩ := tw_14.mp e14
    rw [q1] at s20
    rw [q2] at s23
    have x2 := tX_lt (T := T) (tw_lt e14)
    refine ky_go hf hT h.1 (by decide) (ρ := []) rq_f2 trivial aFs.nil (aHh.cons (kn1 (i := 20) (by decide) rfl ae_ev_k s20) (aHh.cons (kn1 (i := 23) (by decide) rfl ae_ev_k s23) aHh.nil)) (by rfl) (by rfl) (lEr lE0) sE0 (lvk2 := [(0, .inr (0, 99)), (1, .inl (ae_k (2)))]) (lEr (lEi ae_ev_k lE0)) (stk2 := [.inl (ae_k (1)), .inr (0, 99)]) (sEi ae_ev_k (sEr sE0)) ?_
    exact rw_callT hf hT H h HT hk hg (d := 5) (by decide) (by decide) (by rfl) (fun w3 m1 m2 m3 m4 m5 m6 => rq_62 (f := 2) hf hT H h hk m1 m2 (HT.more m2 (by decide)) m3 (by omega) m5 m6 h28 (by omega) (by decide) (fun o ls => run_go (q := (6, o, ls)) (by simp [tStep, h7, h8, e10, e11, e12, e13, e14])))
  | false =>
  cases e15 : tw 15 T n s with
  | true =>
    obtain ⟨q1, q2⟩ := tw_15.mp e15
    rw [q1] at s20
    rw [q2] at s23
    have x2 := tX_lt (T := T) (tw_lt e15)
    refine ky_go hf hT h.1 (by decide) (ρ := []) rq_f3 trivial aFs.nil (aHh.cons (kn1 (i := 20) (by decide) rfl ae_ev_k s20) (aHh.cons (kn1 (i := 23) (by decide) rfl ae_ev_k s23) aHh.nil)) (by rfl) (by rfl) (lEr lE0) sE0 (lvk2 := [(0, .inr (0, 99)), (1, .inl (ae_k (3)))]) (lEr (lEi ae_ev_k lE0)) (stk2 := [.inl (ae_k (1)), .inr (0, 99)]) (sEi ae_ev_k (sEr sE0)) ?_
    exact rw_callT hf hT H h HT hk hg (d := 5) (by decide) (by decide) (by rfl) (fun w3 m1 m2 m3 m4 m5 m6 => rq_62 (f := 3) hf hT H h hk m1 m2 (HT.more m2 (by decide)) m3 (by omega) m5 m6 h28 (by omega) (by decide) (fun o ls => run_go (q := (6, o, ls)) (by simp [tStep, h7, h8, e10, e11, e12, e13, e14, e15])))
  | false =>
  cases e16 : tw 16 T n s with
  | true =>
    obtain ⟨q1, q2⟩ := tw_16.mp e16
    rw [q1] at s20
    rw [q2] at s23
    have x2 := tX_lt (T := T) (tw_lt e16)
    refine ky_go hf hT h.1 (by decide) (ρ := []) rq_f4 trivial aFs.nil (aHh.cons (kn1 (i := 20) (by decide) rfl ae_ev_k s20) (aHh.cons (kn1 (i := 23) (by decide) rfl ae_ev_k s23) aHh.nil)) (by rfl) (by rfl) (lEr lE0) sE0 (lvk2 := [(0, .inr (0, 99)), (1, .inl (ae_k (4)))]) (lEr (lEi ae_ev_k lE0)) (stk2 := [.inl (ae_k (1)), .inr (0, 99)]) (sEi ae_ev_k (sEr sE0)) ?_
    exact rw_callT hf hT H h HT hk hg (d := 5) (by decide) (by decide) (by rfl) (fun w3 m1 m2 m3 m4 m5 m6 => rq_62 (f := 4) hf hT H h hk m1 m2 (HT.more m2 (by decide)) m3 (by omega) m5 m6 h28 (by omega) (by decide) (fun o ls => run_go (q := (6, o, ls)) (by simp [tStep, h7, h8, e10, e11, e12, e13, e14, e15, e16])))
  | false =>
  cases e17 : tw 17 T n s with
  | true =>
    obtain ⟨q1, q2⟩ := tw_17.mp e17
    rw [q1] at s20
    rw [q2] at s23
    have x2 := tX_lt (T := T) (tw_lt e17)
    refine ky_go hf hT h.1 (by decide) (ρ := []) rq_f5 trivial aFs.nil (aHh.cons (kn1 (i := 20) (by decide) rfl ae_ev_k s20) (aHh.cons (kn1 (i := 23) (by decide) rfl ae_ev_k s23) aHh.nil)) (by rfl) (by rfl) (lEr lE0) sE0 (lvk2 := [(0, .inr (0, 99)), (1, .inl (ae_k (5)))]) (lEr (lEi ae_ev_k lE0)) (stk2 := [.inl (ae_k (1)), .inr (0, 99)]) (sEi ae_ev_k (sEr sE0)) ?_
    exact rw_callT hf hT H h HT hk hg (d := 5) (by decide) (by decide) (by rfl) (fun w3 m1 m2 m3 m4 m5 m6 => rq_62 (f := 5) hf hT H h hk m1 m2 (HT.more m2 (by decide)) m3 (by omega) m5 m6 h28 (by omega) (by decide) (fun o ls => run_go (q := (6, o, ls)) (by simp [tStep, h7, h8, e10, e11, e12, e13, e14, e15, e16, e17])))
  | false =>
  obtain ⟨b, hb, q⟩ := bx_A_of (k := tK T n s) (v := tV T n s) kb b23 (twF tw_10 e10) (twF tw_11 e11) (twF tw_12 e12) (twF tw_13 e13) (twF tw_14 e14) (twF tw_15 e15) (twF tw_16 e16) (twF tw_17 e17)
  refine ky_go hf hT h.1 (by decide) (ρ := [(tK T n s), (tV T n s)]) (rq_n b hb) ⟨q.1, q.2, trivial⟩ aFs.nil (aHh.cons (kn1 (i := 20) (by decide) rfl (ev_s rfl) s20) (aHh.cons (kn1 (i := 23) (by decide) rfl (ev_s rfl) s23) aHh.nil)) (by rfl) (by rfl) (lEr lE0) sE0 (lvk2 := [(0, .inr (0, 99)), (1, .inl (ae_k ((-1))))]) (lEr (lEi ae_ev_k lE0)) (stk2 := [.inl (ae_k (0)), .inr (0, 99)]) (sEi ae_ev_k (sEr sE0)) ?_
  refine rw_callF hf hT H h hn hk hg (d := 5) (by decide) (by decide) (by rfl) (fun w3 m1 m2 m3 m4 m5 m6 => ?_)
  have b24 := m1.f (i := 24) (b := aF) (by decide +kernel)
  have c23 := m1.f (i := 23) (b := aF) (by decide +kernel)
  have c20 := m1.f (i := 20) (b := (0, 3)) (by decide +kernel)
  have r24 := rsl m1 (i := 24) (b := aF) (by decide +kernel) rfl
  have r23 := rsl m1 (i := 23) (b := aF) (by decide +kernel) rfl
  have r20 := rsl m1 (i := 20) (b := (0, 3)) (by decide +kernel) rfl
  refine hG.sub (lv2 := [(0, .inr (0, 99))]) ?_ (fun q hq => by simp only [List.mem_singleton] at hq; simp [hq])
  refine ky_go hf hT m1.1 (by decide) (ρ := [(jF w3 24), (jF w3 23), (jF w3 20)]) rq_m ⟨⟨by omega, b24.2⟩, c23, c20, trivial⟩ aFs.nil (aHh.cons (kn1 (i := 24) (by decide) rfl (ev_s rfl) r24) (aHh.cons (kn1 (i := 23) (by decide) rfl (ev_s rfl) r23) (aHh.cons (kn1 (i := 20) (by decide) rfl (ev_s rfl) r20) aHh.nil))) (by rfl) (by rfl) (lEr lE0) sE0 (lvk2 := []) lE0 (stk2 := []) sE0 ?_
  exact hp_ret HV (by decide) (by decide +kernel) (by decide +kernel) (rq_bad hk (Nat.le_refl _) m1 m2 m3 m4 (by omega) (by omega) (fun o ls => run_no (by simp [tStep, h7, h8, e10, e11, e12, e13, e14, e15, e16, e17]) (Or.inr (by decide))))
/-- what wantCond leaves -/
def rcQ (E : mj_E) (al : List Nat) (ws0 : va_W) (T : Nat → Int) (n s0 : Nat) (ls : tLs) (v : Option Value) (w : va_W) : Prop := wc_post E al ws0 v w ∧ ((jF w 24 < 0 ∧ ∃ s2, s0 < s2 ∧ rtk w T n s2 ∧ run T n 5 0 ls s0 = run T n 8 0 ls s2 ∧ tw 21 T n s2 = false ∧ tw 22 T n s2 = false) ∨ (0 ≤ jF w 24 ∧ (∃ s2, rtk w T n s2) ∧ (run T n 5 0 ls s0).1 = jF w 24))
/-- at the loop's head -/
def rcH (E : mj_E) (al : List Nat) (ws0 : va_W) (T : Nat → Int) (n s0 : Nat) (ls : tLs) (w : va_W) (o a s : Nat) : Prop := cB E al ws0 w ∧ cG ws0 w (o : Int) a ∧ o ≤ 4 ∧ rtk w T n s ∧ jF w 24 < 0 ∧ s0 ≤ s ∧ (a = 0 → s0 < s) ∧ run T n 5 0 ls s0 = run T n (if a = 1 then 5 else 8) o ls s
/-- a fault -/
def rcB (E : mj_E) (al : List Nat) (ws0 : va_W) (T : Nat → Int) (n s0 : Nat) (ls : tLs) (w : va_W) : Prop := cB E al ws0 w ∧ 0 ≤ jF w 24 ∧ (∃ s2, rtk w T n s2) ∧ (run T n 5 0 ls s0).1 = jF w 24
theorem rc_endG (hf : E.2.2.2.1.category = 1) (hT : ∀ σ : List Int, aTb E σ aTabs) (H : hOk E al gR jJ) (h0 : hI E al jJ ws0) {s0 s : Nat} {ls : tLs} (hb : cB E al ws0 w) (hg : cG ws0 w 0 0) (hk : rtk w T n s) (h24 : jF w 24 < 0) (hs : s0 < s) (hr : run T n 5 0 ls s0 = run T n 8 0 ls s) (h21 : tw 21 T n s = false) (h22 : tw 22 T n s = false) : hG E al 8 242 192 [(0, .inr (0, 99))] [.inl (ae_k 5), .inr (0, 99)] [] w (rcQ E al ws0 T n s0 ls) := by
  refine wc_settle H hb (by decide) (by rfl) (fun w2 hS => ?_)
  obtain ⟨c1, c2⟩ := hb.settle h0 hS
  have k2 := hk.t hS.2.2.1
  have e24 : jF w2 24 = jF w 24 := hS.2.2.1.2.2.2.2.2
  obtain ⟨t, ht, hK, -⟩ := k2.K (by omega)
  refine hp_ret (pc := 195) H (by decide) (by decide +kernel) (by decide +kernel) ⟨⟨rfl, c1, t, by omega, hK, fun _ => ?_⟩, Or.inl ⟨by omega, s, hs, k2, hr, h21, h22⟩⟩
  rw [(c2 0 hg).2.2]
  exact fun e => by cases e
theorem rc_endB (hf : E.2.2.2.1.category = 1) (hT : ∀ σ : List Int, aTb E σ aTabs) (H : hOk E al gR jJ) (h0 : hI E al jJ ws0) {s0 : Nat} {ls : tLs} (hb : rcB E al ws0 T n s0 ls w) : hG E al 8 242 192 [(0, .inr (0, 99))] [.inl (ae_k 5), .inr (0, 99)] [] w (rcQ E al ws0 T n s0 ls) := by
  obtain ⟨hb, h24, ⟨s2, hk⟩, hr⟩ := hb
  refine wc_settle H hb (by decide) (by rfl) (fun w2 hS => ?_)
  obtain ⟨c1, c2⟩ := hb.settle h0 hS
  have k2 := hk.t hS.2.2.1
  have e24 : jF w2 24 = jF w 24 := hS.2.2.1.2.2.2.2.2
  exact hp_ret (pc := 195) H (by decide) (by decide +kernel) (by decide +kernel) ⟨⟨rfl, c1, 4, by decide, k2.K4 (by omega), fun h => by omega⟩, Or.inr ⟨by omega, ⟨s2, k2⟩, by rw [e24]; exact hr⟩⟩
theorem rc_bad (hf : E.2.2.2.1.category = 1) (hT : ∀ σ : List Int, aTb E σ aTabs) (H : hOk E al gR jJ) (h0 : hI E al jJ ws0) {s0 : Nat} {ls : tLs} (hb : rcB E al ws0 T n s0 ls w) {o a : Int} : hG E al 8 242 11 [(0, .inr (0, 99)), (1, .inl (ae_k o)), (2, .inl (ae_k a)), (3, .inl (ae_k 1))] [] [] w (rcQ E al ws0 T n s0 ls) := by
  have h := hb.1.1
  have h24 := hb.2.1
  have b24 := h.f (i := 24) (b := aF) (by decide +kernel)
  have s24 := rsl h (i := 24) (b := aF) (by decide +kernel) rfl
  refine hG.sub (lv2 := [(0, .inr (0, 99)), (3, .inl (ae_k 1))]) ?_ (fun q hq => by
    simp only [List.mem_cons, List.not_mem_nil, or_false] at hq
    rcases hq with rfl | rfl <;> simp)
  refine ky_go hf hT h.1 (by decide) (ρ := [(jF w 24)]) rc_k ⟨⟨h24, b24.2⟩, trivial⟩ aFs.nil (aHh.cons (kn1 (i := 24) (by decide) rfl (ev_s rfl) s24) aHh.nil) (by rfl) (by rfl) (lEr (lEi ae_ev_k lE0)) sE0 (lvk2 := [(0, .inr (0, 99))]) (lEr lE0) (stk2 := [.inl (ae_k (5)), .inr (0, 99)]) (sEi ae_ev_k (sEr sE0)) ?_
  exact rc_endB hf hT H h0 hb
/-- hold, as it is called -/
theorem rc_hold (hf : E.2.2.2.1.category = 1) (hT : ∀ σ : List Int, aTb E σ aTabs) (H : hOk E al gR jJ) (h : cB E al ws0 w) (HT : rtT w T n) {s : Nat} (hk : rtk w T n s) (hg : jF w 24 < 0) (hsn : s < n) {pc : Nat} {lv : List (Nat × av)} {x : Int32} {rest : List av} (hc : ak_callat gR 8 242 pc lv (.inl (ae_k x.toInt) :: .inr (0, 99) :: rest) ([], [], [], [], []) = some (243, [.inr (0, 99), .inl (ae_k x.toInt)], rest))
    (hq : ∀ w2, hP E al x w w2 → rtk w2 T n (tX T n s) → jF w2 24 = jF w 24 → hG E al 8 242 (pc + 3) lv rest [] w2 Q) : hG E al 8 242 pc lv (.inl (ae_k x.toInt) :: .inr (0, 99) :: rest) [] w Q := by
  have b := h.1.bds
  have h5 := h.2.2.2.2.1
  have hn := HT.1
  have e21 := hk.2.2.2.1
  refine rd_call (d := 7) (R := fun w2 => hP E al x w w2 ∧ rtk w2 T n (tX T n s) ∧ jF w2 24 = jF w 24) H h.1 (by decide) hc (fun AS ha => ?_) (fun w2 hR => hq w2 hR.1 hR.2.1 hR.2.2)
  exact (rh_mj hf hT H h.1 HT hk hg (by omega) x ha).weaken (by decide) (Nat.le_refl _) (Nat.le_refl _) (fun _ _ z => z)
/-- the token has moved or the fault is set -/
theorem cB.tok (h : cB E al ws0 w) (h2 : hI E al jJ w2) (hd : hD [99] w w2) (e19 : jF w2 19 = jF w 19) (e28 : jF w2 28 = jF w 28) (e29 : jF w2 29 = jF w 29) (e21 : jF w 21 ≤ jF w2 21) : cB E al ws0 w2 := by
  obtain ⟨-, m2, m3, m4, m5, m6, m7⟩ := h
  have e120 : jR w2 120 = jR w 120 := hd.row (by decide)
  exact ⟨h2, m2.trans (hd.more (by simp)), by omega, by omega, by omega, by omega, fun i hi => by rw [e120]; exact m7 i hi⟩
/-- one round -/
theorem rc_step (hf : E.2.2.2.1.category = 1) (hT : ∀ σ : List Int, aTb E σ aTabs) (H : hOk E al gR jJ) (h0 : hI E al jJ ws0) (HT0 : rtT ws0 T n) {s0 s o a : Nat} {ls : tLs} (ha : a = 0 ∨ a = 1) (hh : rcH E al ws0 T n s0 ls w o a s)
    (IH : ∀ (w2 : va_W) (o2 a2 s2 : Nat), (a2 = 0 ∨ a2 = 1) → s < s2 → rcH E al ws0 T n s0 ls w2 o2 a2 s2 → hG E al 8 242 11 [(0, .inr (0, 99)), (1, .inl (ae_k (o2 : Int))), (2, .inl (ae_k (a2 : Int))), (3, .inl (ae_k 1))] [] [] w2 (rcQ E al ws0 T n s0 ls)) :
    hG E al 8 242 11 [(0, .inr (0, 99)), (1, .inl (ae_k (o : Int))), (2, .inl (ae_k (a : Int))), (3, .inl (ae_k 1))] [] [] w (rcQ E al ws0 T n s0 ls) := by
  obtain ⟨hb, hg, ho, hk, h24, hs0, hs1, hr⟩ := hh
  have h := hb.1
  have HT : rtT w T n := HT0.more hb.2.1 (by decide)
  have hn := HT.1
  have hk1 := hk.1
  have bw := h.bds
  have b29 := hb.2.2.2.2.1
  have e21 := hk.2.2.2.1
  have e22 := hk.2.2.2.2.1
  have kb := tK_b (T := T) (n := n) (s := s)
  have b24 := h.f (i := 24) (b := aF) (by decide +kernel)
  have b23 := h.f (i := 23) (b := aF) (by decide +kernel)
  rw [hk.2.2.2.2.2] at b23
  have s20 := rsl h (i := 20) (b := (0, 3)) (by decide +kernel) hk.2.2.1
  have s21 := rsl h (i := 21) (b := (0, 250)) (by decide +kernel) hk.2.2.2.1
  have s23 := rsl h (i := 23) (b := aF) (by decide +kernel) hk.2.2.2.2.2
  have s24 := rsl h (i := 24) (b := aF) (by decide +kernel) rfl
  rcases ha with rfl | rfl
  · -- behind an operand
    have hr : run T n 5 0 ls s0 = run T n 8 o ls s := hr
    have hs0 := hs1 rfl
    have bin : ∀ (i : Nat) (x : Int32), (x.toInt = 4 ∨ x.toInt = 5) → s < n → tStep T n 8 o ls s = some (5, o, ls) → ∀ (w2 : va_W), sP E al x.toInt w w2 → ∀ {lv : List (Nat × av)}, ak_callat gR 8 242 137 lv (.inl (ae_k x.toInt) :: .inr (0, 99) :: []) ([], [], [], [], []) = some (243, [.inr (0, 99), .inl (ae_k x.toInt)], []) → (∀ w3, hI E al jJ w3 → rcH E al ws0 T n s0 ls w3 o 1 (tX T n s) → hG E al 8 242 140 lv [] [] w3 (rcQ E al ws0 T n s0 ls)) → hG E al 8 242 137 lv [.inl (ae_k x.toInt), .inr (0, 99)] [] w2 (rcQ E al ws0 T n s0 ls) := by
      intro i x hx hsn hst w2 hS lv hc hq
      obtain ⟨d1, d2⟩ := hb.settle h0 hS
      have k2 := hk.t hS.2.2.1
      have e24 : jF w2 24 = jF w 24 := hS.2.2.1.2.2.2.2.2
      have x2 := tX_lt (T := T) hsn
      have tl := tE_lt (T := T) hsn
      have k21 := k2.2.2.2.1
      have k22 := k2.2.2.2.2.1
      refine rc_hold hf hT H d1 (HT0.more d1.2.1 (by decide)) k2 (by omega) hsn hc (fun w3 hP3 k3 f24 => ?_)
      obtain ⟨c1, c2, -, -, c3⟩ := d1.hold h0 (by omega) hP3
      exact hq w3 c1.1 ⟨c1, c3 o hx (d2 o hg), ho, k3, by omega, by omega, fun e => by omega, hr.trans (run_go hst)⟩
    cases e21 : tw 21 T n s with
    | true =>
      obtain ⟨q1, q2⟩ := tw_21.mp e21
      rw [q1] at s20
      rw [q2] at s23
      refine ky_go hf hT h.1 (by decide) (ρ := [(o : Int), (jF w 24)]) rc_9 ⟨⟨by omega, by omega⟩, ⟨b24.1, by omega⟩, trivial⟩ aFs.nil (aHh.cons (kn1 (i := 24) (by decide) rfl (ev_s rfl) s24) (aHh.cons (kn1 (i := 20) (by decide) rfl ae_ev_k s20) (aHh.cons (kn1 (i := 23) (by decide) rfl ae_ev_k s23) aHh.nil))) (by rfl) (by rfl) (lEr (lEi (ev_s rfl) (lEi ae_ev_k (lEi ae_ev_k lE0)))) sE0 (lvk2 := [(0, .inr (0, 99)), (1, .inl (ae_k ((o : Int)))), (2, .inl (ae_k (0))), (3, .inl (ae_k (1))), (4, .inl (ae_k (4)))]) (lEr (lEi (ev_s rfl) (lEi ae_ev_k (lEi ae_ev_k (lEi ae_ev_k lE0))))) (stk2 := [.inl (ae_k (4)), .inr (0, 99)]) (sEi ae_ev_k (sEr sE0)) ?_
      refine wc_settle (least := 4) H hb (by decide) (by rfl) (fun w2 hS => ?_)
      refine ky_go hf hT hS.1.1 (by decide) (ρ := [(o : Int)]) rc_b4 ⟨⟨by omega, by omega⟩, trivial⟩ aFs.nil aHh.nil (by rfl) (by rfl) (lEr (lEi (ev_s rfl) (lEi ae_ev_k (lEi ae_ev_k (lEi ae_ev_k lE0))))) sE0 (lvk2 := [(0, .inr (0, 99)), (1, .inl (ae_k ((o : Int)))), (2, .inl (ae_k (0))), (3, .inl (ae_k (1))), (4, .inl (ae_k (4)))]) (lEr (lEi (ev_s rfl) (lEi ae_ev_k (lEi ae_ev_k (lEi ae_ev_k lE0))))) (stk2 := [.inl (ae_k (4)), .inr (0, 99)]) (sEi ae_ev_k (sEr sE0)) ?_
      refine bin 21 (4 : Int32) (by decide) (tw_lt e21) (by simp [tStep, e21]) w2 hS (by rfl) (fun w3 h3 hh3 => ?_)
      refine ky_go hf hT h3.1 (by decide) (ρ := [(o : Int)]) rc_c4 ⟨⟨by omega, by omega⟩, trivial⟩ aFs.nil aHh.nil (by rfl) (by rfl) (lEr (lEi (ev_s rfl) (lEi ae_ev_k (lEi ae_ev_k (lEi ae_ev_k lE0))))) sE0 (lvk2 := [(0, .inr (0, 99)), (1, .inl (ae_k ((o : Int)))), (2, .inl (ae_k (1))), (3, .inl (ae_k (1)))]) (lEr (lEi (ev_s rfl) (lEi ae_ev_k (lEi ae_ev_k lE0)))) (stk2 := []) sE0 ?_
      exact IH w3 o 1 (tX T n s) (Or.inr rfl) (by have := tX_lt (T := T) (tw_lt e21); omega) hh3
    | false =>
    cases e22 : tw 22 T n s with
    | true =>
      obtain ⟨q1, q2⟩ := tw_22.mp e22
      rw [q1] at s20
      rw [q2] at s23
      refine ky_go hf hT h.1 (by decide) (ρ := [(o : Int), (jF w 24)]) rc_a ⟨⟨by omega, by omega⟩, ⟨b24.1, by omega⟩, trivial⟩ aFs.nil (aHh.cons (kn1 (i := 24) (by decide) rfl (ev_s rfl) s24) (aHh.cons (kn1 (i := 20) (by decide) rfl ae_ev_k s20) (aHh.cons (kn1 (i := 23) (by decide) rfl ae_ev_k s23) aHh.nil))) (by rfl) (by rfl) (lEr (lEi (ev_s rfl) (lEi ae_ev_k (lEi ae_ev_k lE0)))) sE0 (lvk2 := [(0, .inr (0, 99)), (1, .inl (ae_k ((o : Int)))), (2, .inl (ae_k (0))), (3, .inl (ae_k (1))), (4, .inl (ae_k (5)))]) (lEr (lEi (ev_s rfl) (lEi ae_ev_k (lEi ae_ev_k (lEi ae_ev_k lE0))))) (stk2 := [.inl (ae_k (5)), .inr (0, 99)]) (sEi ae_ev_k (sEr sE0)) ?_
      refine wc_settle (least := 5) H hb (by decide) (by rfl) (fun w2 hS => ?_)
      refine ky_go hf hT hS.1.1 (by decide) (ρ := [(o : Int)]) rc_b5 ⟨⟨by omega, by omega⟩, trivial⟩ aFs.nil aHh.nil (by rfl) (by rfl) (lEr (lEi (ev_s rfl) (lEi ae_ev_k (lEi ae_ev_k (lEi ae_ev_k lE0))))) sE0 (lvk2 := [(0, .inr (0, 99)), (1, .inl (ae_k ((o : Int)))), (2, .inl (ae_k (0))), (3, .inl (ae_k (1))), (4, .inl (ae_k (5)))]) (lEr (lEi (ev_s rfl) (lEi ae_ev_k (lEi ae_ev_k (lEi ae_ev_k lE0))))) (stk2 := [.inl (ae_k (5)), .inr (0, 99)]) (sEi ae_ev_k (sEr sE0)) ?_
      refine bin 22 (5 : Int32) (by decide) (tw_lt e22) (by simp [tStep, e21, e22]) w2 hS (by rfl) (fun w3 h3 hh3 => ?_)
      refine ky_go hf hT h3.1 (by decide) (ρ := [(o : Int)]) rc_c5 ⟨⟨by omega, by omega⟩, trivial⟩ aFs.nil aHh.nil (by rfl) (by rfl) (lEr (lEi (ev_s rfl) (lEi ae_ev_k (lEi ae_ev_k (lEi ae_ev_k lE0))))) sE0 (lvk2 := [(0, .inr (0, 99)), (1, .inl (ae_k ((o : Int)))), (2, .inl (ae_k (1))), (3, .inl (ae_k (1)))]) (lEr (lEi (ev_s rfl) (lEi ae_ev_k (lEi ae_ev_k lE0)))) (stk2 := []) sE0 ?_
      exact IH w3 o 1 (tX T n s) (Or.inr rfl) (by have := tX_lt (T := T) (tw_lt e22); omega) hh3
    | false =>
    obtain ⟨b, hb2, q⟩ := bx_O_of (k := tK T n s) (v := tV T n s) kb b23 (twF tw_21 e21) (twF tw_22 e22)
    by_cases o0 : o = 0
    · subst o0
      refine ky_go hf hT h.1 (by decide) (ρ := [(jF w 24), (tK T n s), (tV T n s)]) (rc_e b hb2) ⟨⟨b24.1, by omega⟩, q.1, q.2, trivial⟩ aFs.nil (aHh.cons (kn1 (i := 24) (by decide) rfl (ev_s rfl) s24) (aHh.cons (kn1 (i := 20) (by decide) rfl (ev_s rfl) s20) (aHh.cons (kn1 (i := 23) (by decide) rfl (ev_s rfl) s23) aHh.nil))) (by rfl) (by rfl) (lEr (lEi ae_ev_k (lEi ae_ev_k (lEi ae_ev_k lE0)))) sE0 (lvk2 := [(0, .inr (0, 99)), (1, .inl (ae_k (0))), (2, .inl (ae_k (0))), (3, .inl (ae_k (0)))]) (lEr (lEi ae_ev_k (lEi ae_ev_k (lEi ae_ev_k lE0)))) (stk2 := []) sE0 ?_
      refine hG.sub (lv2 := [(0, .inr (0, 99)), (3, .inl (ae_k 0))]) ?_ (fun q hq => by
        simp only [List.mem_cons, List.not_mem_nil, or_false] at hq
        rcases hq with rfl | rfl <;> simp)
      refine ky_go hf hT h.1 (by decide) (ρ := []) rc_j trivial aFs.nil aHh.nil (by rfl) (by rfl) (lEr (lEi ae_ev_k lE0)) sE0 (lvk2 := [(0, .inr (0, 99))]) (lEr lE0) (stk2 := [.inl (ae_k (5)), .inr (0, 99)]) (sEi ae_ev_k (sEr sE0)) ?_
      exact rc_endG hf hT H h0 hb hg hk h24 hs0 hr e21 e22
    · skip
      refine ky_go hf hT h.1 (by decide) (ρ := [(o : Int), (jF w 24), (tK T n s), (tV T n s)]) (rc_d b hb2) ⟨⟨by omega, by omega⟩, ⟨b24.1, by omega⟩, q.1, q.2, trivial⟩ aFs.nil (aHh.cons (kn1 (i := 24) (by decide) rfl (ev_s rfl) s24) (aHh.cons (kn1 (i := 20) (by decide) rfl (ev_s rfl) s20) (aHh.cons (kn1 (i := 23) (by decide) rfl (ev_s rfl) s23) aHh.nil))) (by rfl) (by rfl) (lEr (lEi (ev_s rfl) (lEi ae_ev_k (lEi ae_ev_k lE0)))) sE0 (lvk2 := [(0, .inr (0, 99)), (1, .inl (ae_k ((o : Int)))), (2, .inl (ae_k (0))), (3, .inl (ae_k (1)))]) (lEr (lEi (ev_s rfl) (lEi ae_ev_k (lEi ae_ev_k lE0)))) (stk2 := [.inl (ae_k (5)), .inr (0, 99)]) (sEi ae_ev_k (sEr sE0)) ?_
      refine wc_settle (least := 5) H hb (by decide) (by rfl) (fun w2 hS => ?_)
      obtain ⟨d1, d2⟩ := hb.settle h0 hS
      obtain ⟨p1, p2⟩ := hb.top hS hg (by omega)
      have k2 := hk.t hS.2.2.1
      have f24 : jF w2 24 = jF w 24 := hS.2.2.1.2.2.2.2.2
      have bw2 := d1.1.bds
      have h2 := d1.1
      have c20 := k2.2.2.1
      have c23 := k2.2.2.2.2.2
      have t20 := rsl h2 (i := 20) (b := (0, 3)) (by decide +kernel) c20
      have t23 := rsl h2 (i := 23) (b := aF) (by decide +kernel) c23
      have t29 := rsl h2 (i := 29) (b := (0, 256)) (by decide +kernel) rfl
      -- what waits behind the bracket
      have pop : ∀ w3, hI E al jJ w3 → hD [99] w2 w3 → jF w3 28 = jF w2 28 → jF w3 29 = jF w2 29 - 1 → jF w3 19 = jF w2 19 → jF w2 21 ≤ jF w3 21 → cB E al ws0 w3 ∧ cG ws0 w3 ((o - 1 : Nat) : Int) 0 := by
        intro w3 g1 dd g4 g5 g3 g6
        obtain ⟨-, m2, m3, m4, m5, m6, m7⟩ := d1
        have e120 : jR w3 120 = jR w2 120 := dd.row (by decide)
        have e121 : jR w3 121 = jR w2 121 := dd.row (by decide)
        have b3 := g1.bds
        refine ⟨⟨g1, m2.trans (dd.more (by simp)), by omega, by omega, by omega, by omega, fun i hi => by rw [e120]; exact m7 i hi⟩, ?_⟩
        obtain ⟨q1, q2, q3⟩ := d2 o hg
        unfold cG
        have e29 : (jF w2 29).toNat = (jF w3 29).toNat + 1 := by omega
        have ez : ((jF w2 29).toNat - 1) = (jF w3 29).toNat := by omega
        rw [ez] at p2
        rw [e29] at q1 q2 q3
        rw [e120, e121, g4]
        have n1 : no (jR w2 121) ((jF w3 29).toNat + 1) = no (jR w2 121) (jF w3 29).toNat + 1 := by
          show no (jR w2 121) (jF w3 29).toNat + _ = _
          rw [if_pos p2]
        have n2 : nb (jR w2 121) ((jF w3 29).toNat + 1) = nb (jR w2 121) (jF w3 29).toNat := by
          show nb (jR w2 121) (jF w3 29).toNat + _ = _
          rw [if_neg (by omega)]; rfl
        rw [n1] at q2
        rw [n2] at q3
        exact ⟨fun i hi => q1 i (by omega), by omega, q3⟩
      cases e9 : tw 9 T n s with
      | true =>
        obtain ⟨q1, q2⟩ := tw_9.mp e9
        rw [q1] at t20
        rw [q2] at t23
        have x2 := tX_lt (T := T) (tw_lt e9)
        refine kz_lg H h2 (by decide) (ρ := [(o : Int), (jF w2 29)]) rc_f ⟨⟨by omega, by omega⟩, ⟨by omega, by omega⟩, trivial⟩ aFs.nil (aHh.cons (kn1 (i := 29) (by decide) rfl (ev_s rfl) t29) (aHh.cons (kn1 (i := 20) (by decide) rfl ae_ev_k t20) (aHh.cons (kn1 (i := 23) (by decide) rfl ae_ev_k t23) aHh.nil))) (by rfl) (by rfl) (lEr (lEi (ev_s rfl) (lEi ae_ev_k (lEi ae_ev_k lE0)))) sE0 (lvk2 := [(0, .inr (0, 99)), (1, .inl (ae_k (((o - 1 : Nat) : Int)))), (2, .inl (ae_k (0))), (3, .inl (ae_k (1)))]) (lEr (lEi (by simp only [ae_ev, ae_el, ae_s, ae_k, List.getD_cons_zero, List.getD_cons_succ]; omega) (lEi ae_ev_k (lEi ae_ev_k lE0)))) (stk2 := [.inl (ae_k (1)), .inr (0, 99)]) (sEi ae_ev_k (sEr sE0)) (fun w3 b1 b4 b5 => ?_)
        have f19 : jF w3 19 = jF w2 19 := by
          rw [jFS b1 19, jFS h2 19, b5 99 19]
          simp [lg_ap, ae_ev, ae_el, ae_s, ae_k]
        have f20 : jF w3 20 = jF w2 20 := by
          rw [jFS b1 20, jFS h2 20, b5 99 20]
          simp [lg_ap, ae_ev, ae_el, ae_s, ae_k]
        have f21 : jF w3 21 = jF w2 21 := by
          rw [jFS b1 21, jFS h2 21, b5 99 21]
          simp [lg_ap, ae_ev, ae_el, ae_s, ae_k]
        have f22 : jF w3 22 = jF w2 22 := by
          rw [jFS b1 22, jFS h2 22, b5 99 22]
          simp [lg_ap, ae_ev, ae_el, ae_s, ae_k]
        have f23 : jF w3 23 = jF w2 23 := by
          rw [jFS b1 23, jFS h2 23, b5 99 23]
          simp [lg_ap, ae_ev, ae_el, ae_s, ae_k]
        have f24 : jF w3 24 = jF w2 24 := by
          rw [jFS b1 24, jFS h2 24, b5 99 24]
          simp [lg_ap, ae_ev, ae_el, ae_s, ae_k]
        have f28 : jF w3 28 = jF w2 28 := by
          rw [jFS b1 28, jFS h2 28, b5 99 28]
          simp [lg_ap, ae_ev, ae_el, ae_s, ae_k]
        have f29 : jF w3 29 = jF w2 29 - 1 := by
          rw [jFS b1 29, b5 99 29]
          simp [lg_ap, ae_ev, ae_el, ae_s, ae_k]
          try omega
        obtain ⟨r1, r2⟩ := pop w3 b1 (b4.more (by decide)) f28 f29 f19 (by omega)
        have k3 : rtk w3 T n s := k2.t ⟨f19, f20, f21, f22, f23, f24⟩
        refine rw_callT hf hT H b1 (HT0.more r1.2.1 (by decide)) k3 (by omega) (d := 7) (by decide) (by decide) (by rfl) (fun w4 m1 m2 m3 m4 m5 m6 => ?_)
        have cb4 := r1.tok m1 m2 (m3.2.1.trans k3.2.1.symm) m5 m6 (by rw [k3.2.2.2.1, m3.2.2.2.1]; omega)
        have cg4 : cG ws0 w4 ((o - 1 : Nat) : Int) 0 := by
          unfold cG at r2 ⊢
          rw [m2.row (by decide), m2.row (by decide), m5, m6]
          exact r2
        refine ky_go hf hT m1.1 (by decide) (ρ := [((o - 1 : Nat) : Int)]) rc_h ⟨⟨by omega, by omega⟩, trivial⟩ aFs.nil aHh.nil (by rfl) (by rfl) (lEr (lEi (ev_s rfl) (lEi ae_ev_k (lEi ae_ev_k lE0)))) sE0 (lvk2 := [(0, .inr (0, 99)), (1, .inl (ae_k (((o - 1 : Nat) : Int)))), (2, .inl (ae_k (0))), (3, .inl (ae_k (1)))]) (lEr (lEi (ev_s rfl) (lEi ae_ev_k (lEi ae_ev_k lE0)))) (stk2 := [.inl (ae_k (3)), .inr (0, 99)]) (sEi ae_ev_k (sEr sE0)) ?_
        refine wc_settle (least := 3) H cb4 (by decide) (by rfl) (fun w5 hS5 => ?_)
        obtain ⟨y1, y2⟩ := cb4.settle h0 hS5
        have k5 := m3.t hS5.2.2.1
        have f24c : jF w5 24 = jF w4 24 := hS5.2.2.1.2.2.2.2.2
        refine ky_go hf hT y1.1.1 (by decide) (ρ := [((o - 1 : Nat) : Int)]) rc_i ⟨⟨by omega, by omega⟩, trivial⟩ aFs.nil aHh.nil (by rfl) (by rfl) (lEr (lEi (ev_s rfl) (lEi ae_ev_k (lEi ae_ev_k lE0)))) sE0 (lvk2 := [(0, .inr (0, 99)), (1, .inl (ae_k (((o - 1 : Nat) : Int)))), (2, .inl (ae_k (0))), (3, .inl (ae_k (1)))]) (lEr (lEi (ev_s rfl) (lEi ae_ev_k (lEi ae_ev_k lE0)))) (stk2 := []) sE0 ?_
        exact IH w5 (o - 1) 0 (tX T n s) (Or.inl rfl) (by omega) ⟨y1, y2 _ cg4, by omega, k5, by omega, by omega, fun _ => by omega, hr.trans (run_go (q := (8, o - 1, ls)) (by simp [tStep, e21, e22, o0, e9]))⟩
      | false =>
        obtain ⟨b, hb2, q⟩ := bx_P_of (k := tK T n s) (v := tV T n s) kb b23 (twF tw_9 e9)
        refine kz_lg H h2 (by decide) (ρ := [(o : Int), (jF w2 29), (tK T n s), (tV T n s)]) (rc_g b hb2) ⟨⟨by omega, by omega⟩, ⟨by omega, by omega⟩, q.1, q.2, trivial⟩ aFs.nil (aHh.cons (kn1 (i := 29) (by decide) rfl (ev_s rfl) t29) (aHh.cons (kn1 (i := 20) (by decide) rfl (ev_s rfl) t20) (aHh.cons (kn1 (i := 23) (by decide) rfl (ev_s rfl) t23) aHh.nil))) (by rfl) (by rfl) (lEr (lEi (ev_s rfl) (lEi ae_ev_k (lEi ae_ev_k lE0)))) sE0 (lvk2 := [(0, .inr (0, 99)), (1, .inl (ae_k (((o - 1 : Nat) : Int)))), (2, .inl (ae_k (0))), (3, .inl (ae_k (1)))]) (lEr (lEi (by simp only [ae_ev, ae_el, ae_s, ae_k, List.getD_cons_zero, List.getD_cons_succ]; omega) (lEi ae_ev_k (lEi ae_ev_k lE0)))) (stk2 := [.inl (ae_k (0)), .inr (0, 99)]) (sEi ae_ev_k (sEr sE0)) (fun w3 b1 b4 b5 => ?_)
        have f19 : jF w3 19 = jF w2 19 := by
          rw [jFS b1 19, jFS h2 19, b5 99 19]
          simp [lg_ap, ae_ev, ae_el, ae_s, ae_k]
        have f20 : jF w3 20 = jF w2 20 := by
          rw [jFS b1 20, jFS h2 20, b5 99 20]
          simp [lg_ap, ae_ev, ae_el, ae_s, ae_k]
        have f21 : jF w3 21 = jF w2 21 := by
          rw [jFS b1 21, jFS h2 21, b5 99 21]
          simp [lg_ap, ae_ev, ae_el, ae_s, ae_k]
        have f22 : jF w3 22 = jF w2 22 := by
          rw [jFS b1 22, jFS h2 22, b5 99 22]
          simp [lg_ap, ae_ev, ae_el, ae_s, ae_k]
        have f23 : jF w3 23 = jF w2 23 := by
          rw [jFS b1 23, jFS h2 23, b5 99 23]
          simp [lg_ap, ae_ev, ae_el, ae_s, ae_k]
        have f24 : jF w3 24 = jF w2 24 := by
          rw [jFS b1 24, jFS h2 24, b5 99 24]
          simp [lg_ap, ae_ev, ae_el, ae_s, ae_k]
        have f28 : jF w3 28 = jF w2 28 := by
          rw [jFS b1 28, jFS h2 28, b5 99 28]
          simp [lg_ap, ae_ev, ae_el, ae_s, ae_k]
        have f29 : jF w3 29 = jF w2 29 - 1 := by
          rw [jFS b1 29, b5 99 29]
          simp [lg_ap, ae_ev, ae_el, ae_s, ae_k]
          try omega
        obtain ⟨r1, r2⟩ := pop w3 b1 (b4.more (by decide)) f28 f29 f19 (by omega)
        have k3 : rtk w3 T n s := k2.t ⟨f19, f20, f21, f22, f23, f24⟩
        refine rw_callF hf hT H b1 hn k3 (by omega) (d := 7) (by decide) (by decide) (by rfl) (fun w4 m1 m2 m3 m4 m5 m6 => ?_)
        have cb4 := r1.tok m1 m2 (m3.2.1.trans k3.2.1.symm) m5 m6 (by rw [k3.2.2.2.1, m3.2.2.2.1]; omega)
        refine ky_go hf hT m1.1 (by decide) (ρ := [((o - 1 : Nat) : Int)]) rc_h ⟨⟨by omega, by omega⟩, trivial⟩ aFs.nil aHh.nil (by rfl) (by rfl) (lEr (lEi (ev_s rfl) (lEi ae_ev_k (lEi ae_ev_k lE0)))) sE0 (lvk2 := [(0, .inr (0, 99)), (1, .inl (ae_k (((o - 1 : Nat) : Int)))), (2, .inl (ae_k (0))), (3, .inl (ae_k (1)))]) (lEr (lEi (ev_s rfl) (lEi ae_ev_k (lEi ae_ev_k lE0)))) (stk2 := [.inl (ae_k (3)), .inr (0, 99)]) (sEi ae_ev_k (sEr sE0)) ?_
        refine wc_settle (least := 3) H cb4 (by decide) (by rfl) (fun w5 hS5 => ?_)
        obtain ⟨y1, y2⟩ := cb4.settle h0 hS5
        have k5 := m3.t hS5.2.2.1
        have f24c : jF w5 24 = jF w4 24 := hS5.2.2.1.2.2.2.2.2
        refine ky_go hf hT y1.1.1 (by decide) (ρ := [((o - 1 : Nat) : Int)]) rc_i ⟨⟨by omega, by omega⟩, trivial⟩ aFs.nil aHh.nil (by rfl) (by rfl) (lEr (lEi (ev_s rfl) (lEi ae_ev_k (lEi ae_ev_k lE0)))) sE0 (lvk2 := [(0, .inr (0, 99)), (1, .inl (ae_k (((o - 1 : Nat) : Int)))), (2, .inl (ae_k (0))), (3, .inl (ae_k (1)))]) (lEr (lEi (ev_s rfl) (lEi ae_ev_k (lEi ae_ev_k lE0)))) (stk2 := []) sE0 ?_
        exact rc_bad hf hT H h0 ⟨y1, by omega, ⟨s, k5⟩, by rw [hr, run_no (by simp [tStep, e21, e22, o0, e9]) (Or.inr (by decide)), f24c, m4]⟩
  · -- an operand is wanted
    have hr : run T n 5 0 ls s0 = run T n 5 o ls s := hr
    cases e7 : tw 7 T n s with
    | true =>
      obtain ⟨q1, q2⟩ := tw_7.mp e7
      rw [q1] at s20
      rw [q2] at s23
      have x2 := tX_lt (T := T) (tw_lt e7)
      have tl := tE_lt (T := T) (tw_lt e7)
      refine ky_go hf hT h.1 (by decide) (ρ := [(o : Int), (jF w 24)]) rc_1 ⟨⟨by omega, by omega⟩, ⟨b24.1, by omega⟩, trivial⟩ aFs.nil (aHh.cons (kn1 (i := 24) (by decide) rfl (ev_s rfl) s24) (aHh.cons (kn1 (i := 20) (by decide) rfl ae_ev_k s20) (aHh.cons (kn1 (i := 23) (by decide) rfl ae_ev_k s23) aHh.nil))) (by rfl) (by rfl) (lEr (lEi (ev_s rfl) (lEi ae_ev_k (lEi ae_ev_k lE0)))) sE0 (lvk2 := [(0, .inr (0, 99)), (1, .inl (ae_k ((o : Int)))), (2, .inl (ae_k (1))), (3, .inl (ae_k (1)))]) (lEr (lEi (ev_s rfl) (lEi ae_ev_k (lEi ae_ev_k lE0)))) (stk2 := [.inl (ae_k (3)), .inr (0, 99)]) (sEi ae_ev_k (sEr sE0)) ?_
      show hG E al 8 242 38 _ [.inl (ae_k (3 : Int32).toInt), .inr (0, 99)] [] w _
      refine rc_hold hf hT H hb HT hk h24 (tw_lt e7) (by rfl) (fun w3 hP3 k3 f24 => ?_)
      obtain ⟨c1, c2, c3, -, -⟩ := hb.hold h0 (by omega) hP3
      refine ky_go hf hT c1.1.1 (by decide) (ρ := [(o : Int)]) rc_2 ⟨⟨by omega, by omega⟩, trivial⟩ aFs.nil aHh.nil (by rfl) (by rfl) (lEr (lEi (ev_s rfl) (lEi ae_ev_k (lEi ae_ev_k lE0)))) sE0 (lvk2 := [(0, .inr (0, 99)), (1, .inl (ae_k ((o : Int)))), (2, .inl (ae_k (1))), (3, .inl (ae_k (1)))]) (lEr (lEi (ev_s rfl) (lEi ae_ev_k (lEi ae_ev_k lE0)))) (stk2 := []) sE0 ?_
      exact IH w3 o 1 (tX T n s) (Or.inr rfl) (by omega) ⟨c1, c3 o rfl hg, ho, k3, by omega, by omega, fun e => by omega, hr.trans (run_go (q := (5, o, ls)) (by simp [tStep, e7]))⟩
    | false =>
    cases e8 : tw 8 T n s with
    | true =>
      obtain ⟨q1, q2⟩ := tw_8.mp e8
      rw [q1] at s20
      rw [q2] at s23
      have x2 := tX_lt (T := T) (tw_lt e8)
      have tl := tE_lt (T := T) (tw_lt e8)
      by_cases o4 : o = 4
      · subst o4
        refine kz_lg H h (by decide) (ρ := [(jF w 24), (s : Int)]) rc_3 ⟨⟨b24.1, by omega⟩, ⟨by omega, by omega⟩, trivial⟩ aFs.nil (aHh.cons (kn1 (i := 24) (by decide) rfl (ev_s rfl) s24) (aHh.cons (kn1 (i := 20) (by decide) rfl ae_ev_k s20) (aHh.cons (kn1 (i := 23) (by decide) rfl ae_ev_k s23) (aHh.cons (kn1 (i := 21) (by decide) rfl (ev_s rfl) s21) aHh.nil)))) (by rfl) (by rfl) (lEr (lEi ae_ev_k (lEi ae_ev_k (lEi ae_ev_k lE0)))) sE0 (lvk2 := [(0, .inr (0, 99)), (1, .inl (ae_k (4))), (2, .inl (ae_k (1))), (3, .inl (ae_k (1)))]) (lEr (lEi ae_ev_k (lEi ae_ev_k (lEi ae_ev_k lE0)))) (stk2 := []) sE0 (fun w2 b1 b4 b5 => ?_)
        have f19 : jF w2 19 = jF w 19 := by
          rw [jFS b1 19, jFS h 19, b5 99 19]
          simp [lg_ap, ae_ev, ae_el, ae_s, ae_k]
        have f20 : jF w2 20 = jF w 20 := by
          rw [jFS b1 20, jFS h 20, b5 99 20]
          simp [lg_ap, ae_ev, ae_el, ae_s, ae_k]
        have f21 : jF w2 21 = jF w 21 := by
          rw [jFS b1 21, jFS h 21, b5 99 21]
          simp [lg_ap, ae_ev, ae_el, ae_s, ae_k]
        have f22 : jF w2 22 = jF w 22 := by
          rw [jFS b1 22, jFS h 22, b5 99 22]
          simp [lg_ap, ae_ev, ae_el, ae_s, ae_k]
        have f23 : jF w2 23 = jF w 23 := by
          rw [jFS b1 23, jFS h 23, b5 99 23]
          simp [lg_ap, ae_ev, ae_el, ae_s, ae_k]
        have f24 : jF w2 24 = (s : Int) := by
          rw [jFS b1 24, b5 99 24]
          simp [lg_ap, ae_ev, ae_el, ae_s, ae_k]
          try omega
        have f28 : jF w2 28 = jF w 28 := by
          rw [jFS b1 28, jFS h 28, b5 99 28]
          simp [lg_ap, ae_ev, ae_el, ae_s, ae_k]
        have f29 : jF w2 29 = jF w 29 := by
          rw [jFS b1 29, jFS h 29, b5 99 29]
          simp [lg_ap, ae_ev, ae_el, ae_s, ae_k]
        refine rc_bad hf hT H h0 ⟨hb.tok b1 (b4.more (by decide)) f19 f28 f29 (by omega), by omega, ⟨s, hk.1, f19.trans hk.2.1, f20.trans hk.2.2.1, f21.trans hk.2.2.2.1, f22.trans hk.2.2.2.2.1, f23.trans hk.2.2.2.2.2⟩, by rw [hr, run_no (by simp [tStep, e7, e8]) (Or.inr (by decide)), f24]⟩
      · skip
        refine ky_go hf hT h.1 (by decide) (ρ := [(o : Int), (jF w 24)]) rc_4 ⟨⟨by omega, by omega⟩, ⟨b24.1, by omega⟩, trivial⟩ aFs.nil (aHh.cons (kn1 (i := 24) (by decide) rfl (ev_s rfl) s24) (aHh.cons (kn1 (i := 20) (by decide) rfl ae_ev_k s20) (aHh.cons (kn1 (i := 23) (by decide) rfl ae_ev_k s23) aHh.nil))) (by rfl) (by rfl) (lEr (lEi (ev_s rfl) (lEi ae_ev_k (lEi ae_ev_k lE0)))) sE0 (lvk2 := [(0, .inr (0, 99)), (1, .inl (ae_k ((o : Int)))), (2, .inl (ae_k (1))), (3, .inl (ae_k (1)))]) (lEr (lEi (ev_s rfl) (lEi ae_ev_k (lEi ae_ev_k lE0)))) (stk2 := [.inl (ae_k (6)), .inr (0, 99)]) (sEi ae_ev_k (sEr sE0)) ?_
        show hG E al 8 242 68 _ [.inl (ae_k (6 : Int32).toInt), .inr (0, 99)] [] w _
        refine rc_hold hf hT H hb HT hk h24 (tw_lt e8) (by rfl) (fun w3 hP3 k3 f24 => ?_)
        obtain ⟨c1, c2, -, c3, -⟩ := hb.hold h0 (by omega) hP3
        refine ky_go hf hT c1.1.1 (by decide) (ρ := [(o : Int)]) rc_5 ⟨⟨by omega, by omega⟩, trivial⟩ aFs.nil aHh.nil (by rfl) (by rfl) (lEr (lEi (ev_s rfl) (lEi ae_ev_k (lEi ae_ev_k lE0)))) sE0 (lvk2 := [(0, .inr (0, 99)), (1, .inl (ae_k (((o + 1 : Nat) : Int)))), (2, .inl (ae_k (1))), (3, .inl (ae_k (1)))]) (lEr (lEi (by simp only [ae_ev, ae_el, ae_s, ae_k, List.getD_cons_zero, List.getD_cons_succ]; omega) (lEi ae_ev_k (lEi ae_ev_k lE0)))) (stk2 := []) sE0 ?_
        exact IH w3 (o + 1) 1 (tX T n s) (Or.inr rfl) (by omega) ⟨c1, c3 o rfl hg, by omega, k3, by omega, by omega, fun e => by omega, hr.trans (run_go (q := (5, o + 1, ls)) (by simp [tStep, e7, e8]; omega))⟩
    | false =>
    obtain ⟨b, hb2, q⟩ := bx_C_of (k := tK T n s) (v := tV T n s) kb b23 (twF tw_7 e7) (twF tw_8 e8)
    refine ky_go hf hT h.1 (by decide) (ρ := [(o : Int), (jF w 24), (tK T n s), (tV T n s)]) (rc_6 b hb2) ⟨⟨by omega, by omega⟩, ⟨b24.1, by omega⟩, q.1, q.2, trivial⟩ aFs.nil (aHh.cons (kn1 (i := 24) (by decide) rfl (ev_s rfl) s24) (aHh.cons (kn1 (i := 20) (by decide) rfl (ev_s rfl) s20) (aHh.cons (kn1 (i := 23) (by decide) rfl (ev_s rfl) s23) aHh.nil))) (by rfl) (by rfl) (lEr (lEi (ev_s rfl) (lEi ae_ev_k (lEi ae_ev_k lE0)))) sE0 (lvk2 := [(0, .inr (0, 99)), (1, .inl (ae_k ((o : Int)))), (2, .inl (ae_k (1))), (3, .inl (ae_k (1)))]) (lEr (lEi (ev_s rfl) (lEi ae_ev_k (lEi ae_ev_k lE0)))) (stk2 := [.inr (0, 99)]) (sEr sE0) ?_
    refine rd_call (d := 7) (y2 := 245) (as := [.inr (0, 99)]) (rest := []) (R := fun w2 => rqQ E al w T n s none w2) H h (by decide) (by rfl) (fun AS ha => ?_) (fun w2 hR => ?_)
    · exact (rq_mj hf hT H h HT hk h24 (by omega) e7 e8 ha).weaken (by decide) (Nat.le_refl _) (Nat.le_refl _) (fun v w z => ⟨z.1.1, ⟨rfl, z.1.2⟩, z.2⟩)
    · obtain ⟨hA, hF⟩ := hR
      obtain ⟨c1, t, ht, ct, c2⟩ := hb.ask h0 hA
      refine ky_go hf hT c1.1.1 (by decide) (ρ := [(o : Int)]) rc_7 ⟨⟨by omega, by omega⟩, trivial⟩ aFs.nil aHh.nil (by rfl) (by rfl) (lEr (lEi (ev_s rfl) (lEi ae_ev_k (lEi ae_ev_k lE0)))) sE0 (lvk2 := [(0, .inr (0, 99)), (1, .inl (ae_k ((o : Int)))), (2, .inl (ae_k (1))), (3, .inl (ae_k (1)))]) (lEr (lEi (ev_s rfl) (lEi ae_ev_k (lEi ae_ev_k lE0)))) (stk2 := [.inl (ae_k (3)), .inr (0, 99)]) (sEi ae_ev_k (sEr sE0)) ?_
      refine wc_settle (least := 3) H c1 (by decide) (by rfl) (fun w3 hS => ?_)
      obtain ⟨d1, d2⟩ := c1.settle h0 hS
      have f24 : jF w3 24 = jF w2 24 := hS.2.2.1.2.2.2.2.2
      refine ky_go hf hT d1.1.1 (by decide) (ρ := [(o : Int)]) rc_8 ⟨⟨by omega, by omega⟩, trivial⟩ aFs.nil aHh.nil (by rfl) (by rfl) (lEr (lEi (ev_s rfl) (lEi ae_ev_k (lEi ae_ev_k lE0)))) sE0 (lvk2 := [(0, .inr (0, 99)), (1, .inl (ae_k ((o : Int)))), (2, .inl (ae_k (0))), (3, .inl (ae_k (1)))]) (lEr (lEi (ev_s rfl) (lEi ae_ev_k (lEi ae_ev_k lE0)))) (stk2 := []) sE0 ?_
      rcases hF with ⟨g24, s2, hss, k2, hr2⟩ | ⟨g24, s2, k2, q2, hr2⟩
      · have t4 : t < 4 := by
          rcases (by omega : t < 4 ∨ t = 4) with h4 | h4
          · exact h4
          · subst h4
            have := ct.2.2.1 rfl
            omega
        exact IH w3 o 0 s2 (Or.inl rfl) hss ⟨d1, d2 o ((c2 t4).2 o hg), ho, k2.t hS.2.2.1, by omega, by omega, fun _ => by omega, hr.trans (hr2 o ls)⟩
      · exact rc_bad hf hT H h0 ⟨d1, by omega, ⟨s2, k2.t hS.2.2.1⟩, by rw [hr, hr2 o ls, f24, q2]⟩
theorem rc_go (hf : E.2.2.2.1.category = 1) (hT : ∀ σ : List Int, aTb E σ aTabs) (H : hOk E al gR jJ) (h0 : hI E al jJ ws0) (HT0 : rtT ws0 T n) {s0 : Nat} {ls : tLs} : ∀ (m : Nat) (w : va_W) (o a s : Nat), n - s ≤ m → (a = 0 ∨ a = 1) → rcH E al ws0 T n s0 ls w o a s → hG E al 8 242 11 [(0, .inr (0, 99)), (1, .inl (ae_k (o : Int))), (2, .inl (ae_k (a : Int))), (3, .inl (ae_k 1))] [] [] w (rcQ E al ws0 T n s0 ls) := by
  intro m
  induction m with
  | zero => exact fun w o a s hm ha hh => rc_step hf hT H h0 HT0 ha hh (fun w2 o2 a2 s2 ha2 hs2 hh2 => by have := hh2.2.2.2.1.1; omega)
  | succ m ih => exact fun w o a s hm ha hh => rc_step hf hT H h0 HT0 ha hh (fun w2 o2 a2 s2 ha2 hs2 hh2 => ih w2 o2 a2 s2 (by have := hh2.2.2.2.1.1; omega) ha2 hh2)
/-- wantCond -/
theorem rc_mj (hf : E.2.2.2.1.category = 1) (hT : ∀ σ : List Int, aTb E σ aTabs) (H : hOk E al gR jJ) (h0 : hI E al jJ ws0) (HT0 : rtT ws0 T n) {s : Nat} {ls : tLs} (hk : rtk ws0 T n s) (h24 : jF ws0 24 < 0) (h28 : jF ws0 28 ≤ jF ws0 21) {AS : List Value} (hA : gL E al [] [.inr (0, 99)] AS) : MJ E 8 0 0 (mj_in0 242 AS ws0) (rcQ E al ws0 T n s ls) := by
  have b := h0.bds
  refine hG.in0 hf (d := 8) (as := [.inr (0, 99)]) ?_ hA
  show hG E al 8 242 0 [(0, .inr (0, 99))] [] [] ws0 _
  refine kz_lg H h0 (by decide) (ρ := []) rc_0 trivial aFs.nil aHh.nil (by rfl) (by rfl) (lEr lE0) sE0 (lvk2 := [(0, .inr (0, 99)), (1, .inl (ae_k (0))), (2, .inl (ae_k (1))), (3, .inl (ae_k (1)))]) (lEr (lEi ae_ev_k (lEi ae_ev_k (lEi ae_ev_k lE0)))) (stk2 := []) sE0 (fun w2 b1 b4 b5 => ?_)
  have f19 : jF w2 19 = jF ws0 19 := by
    rw [jFS b1 19, jFS h0 19, b5 99 19]
    simp [lg_ap, ae_ev, ae_el, ae_s, ae_k]
  have f20 : jF w2 20 = jF ws0 20 := by
    rw [jFS b1 20, jFS h0 20, b5 99 20]
    simp [lg_ap, ae_ev, ae_el, ae_s, ae_k]
  have f21 : jF w2 21 = jF ws0 21 := by
    rw [jFS b1 21, jFS h0 21, b5 99 21]
    simp [lg_ap, ae_ev, ae_el, ae_s, ae_k]
  have f22 : jF w2 22 = jF ws0 22 := by
    rw [jFS b1 22, jFS h0 22, b5 99 22]
    simp [lg_ap, ae_ev, ae_el, ae_s, ae_k]
  have f23 : jF w2 23 = jF ws0 23 := by
    rw [jFS b1 23, jFS h0 23, b5 99 23]
    simp [lg_ap, ae_ev, ae_el, ae_s, ae_k]
  have f24 : jF w2 24 = jF ws0 24 := by
    rw [jFS b1 24, jFS h0 24, b5 99 24]
    simp [lg_ap, ae_ev, ae_el, ae_s, ae_k]
  have f28 : jF w2 28 = jF ws0 28 := by
    rw [jFS b1 28, jFS h0 28, b5 99 28]
    simp [lg_ap, ae_ev, ae_el, ae_s, ae_k]
  have f29 : jF w2 29 = 0 := by
    rw [jFS b1 29, b5 99 29]
    simp [lg_ap, ae_ev, ae_el, ae_s, ae_k]
    try omega
  have dd : hD [99] ws0 w2 := b4.more (by decide)
  have e120 : jR w2 120 = jR ws0 120 := dd.row (by decide)
  have cb : cB E al ws0 w2 := ⟨b1, dd.more (by simp), f19, by omega, by omega, by omega, fun i hi => by rw [e120]⟩
  refine rc_go hf hT H h0 HT0 (n - s) w2 0 1 s (Nat.le_refl _) (Or.inr rfl) ⟨cb, ?_, by decide, hk.t ⟨f19, f20, f21, f22, f23, f24⟩, by omega, Nat.le_refl _, fun e => by omega, rfl⟩
  unfold cG
  rw [f29, f28, show (jF ws0 28).toNat - (jF ws0 28).toNat = 0 by omega]
  exact ⟨fun i hi => by simp at hi, rfl, rfl⟩
/-- wantCond, where there is a fault already -/
theorem rc_mjB (hf : E.2.2.2.1.category = 1) (hT : ∀ σ : List Int, aTb E σ aTabs) (H : hOk E al gR jJ) (h0 : hI E al jJ ws0) {s : Nat} (hk : rtk ws0 T n s) (h24 : 0 ≤ jF ws0 24) (h28 : jF ws0 28 ≤ jF ws0 21) {AS : List Value} (hA : gL E al [] [.inr (0, 99)] AS) : MJ E 8 0 0 (mj_in0 242 AS ws0) (fun v w => v = none ∧ cB E al ws0 w ∧ rtk w T n s ∧ jF w 24 = jF ws0 24) := by
  have b := h0.bds
  refine hG.in0 hf (d := 8) (as := [.inr (0, 99)]) ?_ hA
  show hG E al 8 242 0 [(0, .inr (0, 99))] [] [] ws0 _
  refine kz_lg H h0 (by decide) (ρ := []) rc_0 trivial aFs.nil aHh.nil (by rfl) (by rfl) (lEr lE0) sE0 (lvk2 := [(0, .inr (0, 99)), (1, .inl (ae_k (0))), (2, .inl (ae_k (1))), (3, .inl (ae_k (1)))]) (lEr (lEi ae_ev_k (lEi ae_ev_k (lEi ae_ev_k lE0)))) (stk2 := []) sE0 (fun w2 b1 b4 b5 => ?_)
  have f19 : jF w2 19 = jF ws0 19 := by
    rw [jFS b1 19, jFS h0 19, b5 99 19]
    simp [lg_ap, ae_ev, ae_el, ae_s, ae_k]
  have f20 : jF w2 20 = jF ws0 20 := by
    rw [jFS b1 20, jFS h0 20, b5 99 20]
    simp [lg_ap, ae_ev, ae_el, ae_s, ae_k]
  have f21 : jF w2 21 = jF ws0 21 := by
    rw [jFS b1 21, jFS h0 21, b5 99 21]
    simp [lg_ap, ae_ev, ae_el, ae_s, ae_k]
  have f22 : jF w2 22 = jF ws0 22 := by
    rw [jFS b1 22, jFS h0 22, b5 99 22]
    simp [lg_ap, ae_ev, ae_el, ae_s, ae_k]
  have f23 : jF w2 23 = jF ws0 23 := by
    rw [jFS b1 23, jFS h0 23, b5 99 23]
    simp [lg_ap, ae_ev, ae_el, ae_s, ae_k]
  have f24 : jF w2 24 = jF ws0 24 := by
    rw [jFS b1 24, jFS h0 24, b5 99 24]
    simp [lg_ap, ae_ev, ae_el, ae_s, ae_k]
  have f28 : jF w2 28 = jF ws0 28 := by
    rw [jFS b1 28, jFS h0 28, b5 99 28]
    simp [lg_ap, ae_ev, ae_el, ae_s, ae_k]
  have f29 : jF w2 29 = 0 := by
    rw [jFS b1 29, b5 99 29]
    simp [lg_ap, ae_ev, ae_el, ae_s, ae_k]
    try omega
  have dd : hD [99] ws0 w2 := b4.more (by decide)
  have e120 : jR w2 120 = jR ws0 120 := dd.row (by decide)
  have cb : cB E al ws0 w2 := ⟨b1, dd.more (by simp), f19, by omega, by omega, by omega, fun i hi => by rw [e120]⟩
  have b24 := b1.f (i := 24) (b := aF) (by decide +kernel)
  have s24 := rsl b1 (i := 24) (b := aF) (by decide +kernel) rfl
  refine hG.sub (lv2 := [(0, .inr (0, 99)), (3, .inl (ae_k 1))]) ?_ (fun q hq => by
    simp only [List.mem_cons, List.not_mem_nil, or_false] at hq
    rcases hq with rfl | rfl <;> simp)
  refine ky_go hf hT b1.1 (by decide) (ρ := [(jF w2 24)]) rc_k ⟨⟨by omega, b24.2⟩, trivial⟩ aFs.nil (aHh.cons (kn1 (i := 24) (by decide) rfl (ev_s rfl) s24) aHh.nil) (by rfl) (by rfl) (lEr (lEi ae_ev_k lE0)) sE0 (lvk2 := [(0, .inr (0, 99))]) (lEr lE0) (stk2 := [.inl (ae_k (5)), .inr (0, 99)]) (sEi ae_ev_k (sEr sE0)) ?_
  refine wc_settle H cb (by decide) (by rfl) (fun w3 hS => ?_)
  have e24 : jF w3 24 = jF w2 24 := hS.2.2.1.2.2.2.2.2
  exact hp_ret (pc := 195) H (by decide) (by decide +kernel) (by decide +kernel) ⟨rfl, (cb.settle h0 hS).1, (hk.t ⟨f19, f20, f21, f22, f23, f24⟩).t hS.2.2.1, by omega⟩
end RR
