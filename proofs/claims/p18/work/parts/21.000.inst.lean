/-! THE INSTANCES: found by a program (wip/), checked here -/
def aF : Int × Int := (aI0, aI1)
def aLay_0 : List aD := [.inl (5, [.inl 1, .inl 38, .inr (0, 1), .inl 75, .inl 81, .inl 88, .inl 90, .inl 92, .inl 94, .inl 96]), .inl (0, [.inr aF, .inr aF, .inl 2, .inl 4, .inl 6, .inl 8, .inl 10, .inl 12, .inl 14, .inl 16, .inl 18, .inl 20, .inl 22, .inl 24, .inl 26, .inl 28, .inl 30, .inl 32, .inl 34, .inl 36]), .inl (2, [.inr (16, 16), .inr (15, 15), .inl 3, .inr aF]), .inr (0, 240, [aF]), .inl (2, [.inr (5, 5), .inr (1, 1), .inl 5, .inr aF]), .inr (0, 5, [aF]), .inl (2, [.inr (12, 12), .inr (3, 3), .inl 7, .inr aF]), .inr (0, 36, [aF]), .inl (2, [.inr (5, 5), .inr (1, 1), .inl 9, .inr aF]), .inr (0, 5, [aF]), .inl (2, [.inr (4, 4), .inr (1, 1), .inl 11, .inr aF]), .inr (0, 4, [aF]), .inl (2, [.inr (27, 27), .inr (1, 1), .inl 13, .inr aF]), .inr (0, 27, [aF]), .inl (2, [.inr (6, 6), .inr (2, 2), .inl 15, .inr aF]), .inr (0, 12, [aF]), .inl (2, [.inr (24, 24), .inr (1, 1), .inl 17, .inr aF]), .inr (0, 24, [aF]), .inl (2, [.inr (12, 12), .inr (4, 4), .inl 19, .inr aF]), .inr (0, 48, [aF]), .inl (2, [.inr (6, 6), .inr (2, 2), .inl 21, .inr aF]), .inr (0, 12, [aF]), .inl (2, [.inr (8, 8), .inr (2, 2), .inl 23, .inr aF]), .inr (0, 16, [aF]), .inl (2, [.inr (72, 72), .inr (4, 4), .inl 25, .inr aF]), .inr (0, 288, [aF]), .inl (2, [.inr (512, 512), .inr (1, 1), .inl 27, .inr aF]), .inr (0, 512, [aF]), .inl (2, [.inr (20, 20), .inr (2, 2), .inl 29, .inr aF]), .inr (0, 40, [aF])]
def aLay_1 : List aD := [.inl (2, [.inr (5, 5), .inr (9, 9), .inl 31, .inr aF]), .inr (0, 45, [aF]), .inl (2, [.inr (5, 5), .inr (5, 5), .inl 33, .inr aF]), .inr (0, 25, [aF]), .inl (2, [.inr (4, 4), .inr (4, 4), .inl 35, .inr aF]), .inr (0, 16, [aF]), .inl (2, [.inr (8, 8), .inr (3, 3), .inl 37, .inr aF]), .inr (0, 24, [aF]), .inl (0, [.inr aF, .inr aF, .inl 39, .inl 41, .inl 43, .inl 45, .inl 47, .inl 49, .inl 51, .inl 53, .inl 55, .inl 57, .inl 59, .inl 61, .inl 63, .inl 65, .inl 67, .inl 69, .inl 71, .inl 73]), .inl (2, [.inr (16, 16), .inr (15, 15), .inl 40, .inr aF]), .inr (0, 240, [aF]), .inl (2, [.inr (5, 5), .inr (1, 1), .inl 42, .inr aF]), .inr (0, 5, [aF]), .inl (2, [.inr (12, 12), .inr (3, 3), .inl 44, .inr aF]), .inr (0, 36, [aF]), .inl (2, [.inr (5, 5), .inr (1, 1), .inl 46, .inr aF]), .inr (0, 5, [aF]), .inl (2, [.inr (4, 4), .inr (1, 1), .inl 48, .inr aF]), .inr (0, 4, [aF]), .inl (2, [.inr (27, 27), .inr (1, 1), .inl 50, .inr aF]), .inr (0, 27, [aF]), .inl (2, [.inr (6, 6), .inr (2, 2), .inl 52, .inr aF]), .inr (0, 12, [aF]), .inl (2, [.inr (24, 24), .inr (1, 1), .inl 54, .inr aF]), .inr (0, 24, [aF]), .inl (2, [.inr (12, 12), .inr (4, 4), .inl 56, .inr aF]), .inr (0, 48, [aF]), .inl (2, [.inr (6, 6), .inr (2, 2), .inl 58, .inr aF]), .inr (0, 12, [aF]), .inl (2, [.inr (8, 8), .inr (2, 2), .inl 60, .inr aF])]
def aLay_2 : List aD := [.inr (0, 16, [aF]), .inl (2, [.inr (72, 72), .inr (4, 4), .inl 62, .inr aF]), .inr (0, 288, [aF]), .inl (2, [.inr (512, 512), .inr (1, 1), .inl 64, .inr aF]), .inr (0, 512, [aF]), .inl (2, [.inr (20, 20), .inr (2, 2), .inl 66, .inr aF]), .inr (0, 40, [aF]), .inl (2, [.inr (5, 5), .inr (9, 9), .inl 68, .inr aF]), .inr (0, 45, [aF]), .inl (2, [.inr (5, 5), .inr (5, 5), .inl 70, .inr aF]), .inr (0, 25, [aF]), .inl (2, [.inr (4, 4), .inr (4, 4), .inl 72, .inr aF]), .inr (0, 16, [aF]), .inl (2, [.inr (8, 8), .inr (3, 3), .inl 74, .inr aF]), .inr (0, 24, [aF]), .inl (3, [.inl 76, .inr (0, 250), .inl 77, .inl 79, .inr (0, 250), .inr (0, 250)]), .inr (0, 250, [aF]), .inl (2, [.inr (9, 9), .inr (4, 4), .inl 78, .inr aF]), .inr (0, 36, [aF]), .inl (2, [.inr (64, 64), .inr (1, 1), .inl 80, .inr aF]), .inr (0, 64, [aF]), .inl (4, [.inl 82, .inl 83, .inr aF, .inr aF, .inr aF, .inl 84, .inl 86, .inr aF]), .inr (0, 5, [aF]), .inr (0, 5, [aF]), .inl (2, [.inr (5, 5), .inr (3, 3), .inl 85, .inr aF]), .inr (0, 15, [aF]), .inl (2, [.inr (5, 5), .inr (3, 3), .inl 87, .inr aF]), .inr (0, 15, [aF]), .inl (2, [.inr (12, 12), .inr (3, 3), .inl 89, .inr aF]), .inr (0, 36, [aF])]
def aLay_3 : List aD := [.inl (2, [.inr (12, 12), .inr (2, 2), .inl 91, .inr aF]), .inr (0, 24, [aF]), .inl (2, [.inr (4, 4), .inr (42, 42), .inl 93, .inr aF]), .inr (0, 168, [aF]), .inl (2, [.inr (4, 4), .inr (3, 3), .inl 95, .inr aF]), .inr (0, 12, [aF]), .inl (1, [.inr aF, .inr aF, .inr aF, .inr (0, 1), .inl 97]), .inl (2, [.inr (30, 30), .inr (1, 1), .inl 98, .inr aF]), .inr (0, 30, [aF]), .inl (6, [.inl 100, .inl 101, .inl 102, .inl 103, .inl 104, .inl 105, .inl 106, .inl 107, .inl 108, .inl 109, .inl 110, .inl 111, .inl 112, .inl 113, .inl 114, .inl 115, .inl 116, .inl 117, .inl 118, .inr (0, 250), .inr (0, 3), .inr (0, 250), .inr (0, 250), .inr aF, .inr aF, .inl 119, .inl 120, .inl 121, .inr (0, 256), .inr (0, 256), .inl 122, .inl 123, .inr (0, 5), .inl 124, .inl 125, .inl 126, .inr (0, 5), .inr aF, .inr aF, .inl 127, .inl 128, .inl 129, .inl 130, .inl 131, .inr (0, 12), .inr (0, 12), .inl 132, .inl 133, .inl 134, .inl 135, .inl 136, .inl 137, .inl 138, .inr aF, .inr aF, .inr aF, .inl 139, .inr (0, 30), .inr (0, 1), .inr (0, 1), .inl 140, .inr (0, 3000)]), .inr (0, 11, [aF, (0, 16), (0, 12), (0, 24), (0, 12), (0, 6), (0, 8), (0, 20), (0, 4), (0, 8), aF]), .inr (0, 256, [aF, aF, aF, (0, 3), aF, (0, 4), aF, aF, aF, aF, aF, aF, ((-1), 3), aF, aF, aF]), .inr (0, 5, [(0, 4)]), .inr (0, 5, [aF]), .inr (0, 4, [aF]), .inr (0, 27, [aF]), .inr (0, 36, [aF]), .inr (0, 72, [aF]), .inr (0, 48, [aF]), .inr (0, 12, [aF]), .inr (0, 16, [(0, 9), aF]), .inr (0, 288, [aF, aF, (0, 256), (0, 256)]), .inr (0, 2048, [aF]), .inr (0, 40, [aF]), .inr (0, 45, [aF]), .inr (0, 25, [aF]), .inr (0, 16, [(0, 4), aF, aF, aF]), .inr (0, 24, [aF, aF, (0, 3)]), .inr (0, 250, [aF]), .inr (0, 36, [aF])]
def aLay_4 : List aD := [.inr (0, 256, [aF]), .inr (0, 256, [aF]), .inr (2, 256, [(0, 1)]), .inr (0, 5, [(0, 4)]), .inr (1, 3, []), .inr (1, 3, []), .inr (0, 5, [aF]), .inr (0, 12, [(0, 15)]), .inr (0, 12, [aF]), .inr (0, 12, [(0, 9)]), .inr (0, 10, [aF]), .inr (0, 10, [aF]), .inr (0, 24, [aF]), .inr (0, 4, [((-1), 4)]), .inr (0, 4, [(0, 40)]), .inr (0, 160, [aF]), .inr (0, 4, [((-1), 4)]), .inr (0, 4, [aF]), .inr (0, 4, [aF]), .inr (0, 30, [aF]), .inr (0, 3000, [aF])]
def aLay : List aD := aLay_0 ++ aLay_1 ++ aLay_2 ++ aLay_3 ++ aLay_4
def aRules : List aRule := [(101, 16, 7, 2, 12, 0, 3), (111, 4, 0, 0, 1, 0, 9)]
def aTabs : List (ae × Int × Int) := [(ae_k 7, (-1), 5), (ae_k 28, 10, 71)]
def aProt0 : List Nat := [110, 111, 112, 140]
/-- what the claim's own relation speaks of: slots (1000 (i + 1) + c) and cells -/
def jXp : List Nat := [3000, 60099, 4018, 5100, 4055, 140]
def aProt : List Nat := aProt0 ++ jXp
def aG0 (cs : List aCon) : aG := (aLay, aRules, aTabs, aProt, cs)
def aG00 (cs : List aCon) : aG := (aLay, aRules, aTabs, aProt0, cs)
/-- by hand: whether a line holds -/
def ac_holds : aCon := (228, [(0, 7), (0, 8), (0, 15), aF, (0, 9)], [([(1, 1), (4, (-1))], 1)], [.inr (0, 99), .inl (ae_s 0), .inl (ae_s 1), .inl (ae_s 2), .inl (ae_s 3)], [((110, ([(0, 2)], 0)), ae_s 4)], [122], 8, [([], [], some (.inl (ae_k 0)), []), ([], [], some (.inl (ae_k 1)), [])])
def ak_ent (G : aG) (f : Nat) (q : aInst) : Bool := ak_ends q.1.2.1.length q.1 (ak_run G f q.1.2.2.2.2.2.2.1 q.1.1 q.1.2.1.length [] q.2 none true (mj_kd q.1.1) (ak_args 0 q.1.2.2.2.1) [] (q.1.2.1, q.1.2.2.1, [], q.1.2.2.2.2.1, []))
def ak_ct (G : aG) (f : Nat) (q : aInst) (T : aCut) : Bool := ae_le0 T.2.1 (ae_neg T.2.2.2.2.2.2.2) && decide (q.1.2.1.length ≤ T.2.1.length) && ak_ends q.1.2.1.length q.1 (ak_run G f q.1.2.2.2.2.2.2.1 q.1.1 q.1.2.1.length [] q.2 (some T.2.2.2.2.2.2.2) false (mj_jmp q.1.1 T.1) T.2.2.2.1 T.2.2.2.2.1 (T.2.1, T.2.2.1, [], T.2.2.2.2.2.1, T.2.2.2.2.2.2.1.map (fun c => (c, none))))
theorem ak_inst_of {G : aG} {f : Nat} {q : aInst} (h1 : ak_ent G f q = true) (h2 : q.2.all (ak_ct G f q) = true) : ak_inst G f q = true := by
  unfold ak_inst
  exact Bool.and_eq_true_iff.mpr ⟨h1, h2⟩
theorem ak_an {p : aCut → Bool} : ([] : List aCut).all p = true := rfl
theorem ak_ac {p : aCut → Bool} {T : aCut} {l : List aCut} (h1 : p T = true) (h2 : l.all p = true) : (T :: l).all p = true := by
  rw [List.all_cons, h1, h2]; rfl
def ak_chain (f : Nat) : List aInst → List aCon → Bool
  | [], _ => true
  | q :: t, cs => decide (q.1.1 < mj_lawNo) && ak_inst (aG0 cs) f q && ak_chain f t (q.1 :: cs)
def ak_cons : List aInst → List aCon → List aCon
  | [], cs => cs
  | q :: t, cs => ak_cons t (q.1 :: cs)
theorem ak_ch1 {f : Nat} {q : aInst} {cs : List aCon} (h1 : q.1.1 < mj_lawNo) (h2 : ak_inst (aG0 cs) f q = true) : ak_chain f [q] cs = true := by
  unfold ak_chain
  rw [h2, decide_eq_true h1]
  rfl
theorem ak_chain_ok {E : mj_E} {al : List Nat} {J : va_W → Prop} (hf : E.2.2.2.1.category = 1) (hJ : ∀ w w' : va_W, (∀ c ∈ aProt, aE1 c w w') → J w → J w') (hT : ∀ σ : List Int, aTb E σ aTabs) {f : Nat} : ∀ {l : List aInst} {cs : List aCon}, ak_chain f l cs = true → (∀ c ∈ cs, aCO E al (aG0 []) J c) → ∀ c ∈ ak_cons l cs, aCO E al (aG0 []) J c
  | [], _, _, h => h
  | q :: t, cs, h, hc => by
    unfold ak_chain at h
    rw [Bool.and_eq_true, Bool.and_eq_true] at h
    obtain ⟨⟨h1, h2⟩, h3⟩ := h
    have hq : aCO E al (aG0 []) J q.1 := ak_inst_ok (G := aG0 cs) hf (by show aLay.length < 1000000; decide +kernel) (by show aRok aRules = true; decide +kernel) hJ hc hT (of_decide_eq_true h1) h2
    show ∀ c ∈ ak_cons t (q.1 :: cs), aCO E al (aG0 []) J c
    refine ak_chain_ok hf hJ hT h3 (fun c hcm => ?_)
    rcases List.mem_cons.mp hcm with rfl | hcm
    · exact hq
    · exact hc c hcm
/-- THE CLAIM'S OWN RELATION: both sides keep, or neither does; slots of the component and of the reference that hold the same, also where they are kept. A slot: the component's cell and index, the reference's, its place among what is kept, bounds -/
abbrev jQ : Type := Nat × Nat × Nat × Nat × Nat × Int × Int
def jLv : List jQ := [(18, 3, 100, 4, 4, 0, 12)]
