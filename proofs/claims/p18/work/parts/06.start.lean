/-! WHAT STANDS AT THE LAW'S START -/
def mj_NW : List Cond := flatC (Jvm.Cond.and given_1 narrow_1)
def mj_kind : List Int32 := [-1, 0, 1, 0, 0, 4, 5]
def mj_bodies : List Int32 := [10, 11, 12, 13, 20, 11, 12, 13, 20, 30, 12, 13, 10, 11, 40, 41, 10, 50, 12, 13, 60, 50, 61, 13, 60, 70, 61, 71]
def mj_tm (i : Nat) : Term := .string (mj_txo i).1 (mj_txo i).2.1
def mj_oktx (i : Nat) : Bool :=
  decide (Cond.exactly (mj_tm i) "java/lang/String" ∈ mj_NW) && decide (Cond.eq (.field (mj_tm i) "java/lang/String" "coder" "B") (.int 0) ∈ mj_NW) && decide (Cond.arrayOf (.field (mj_tm i) "java/lang/String" "value" "[B") .byte ∈ mj_NW) &&
  decide (Cond.eq (.length (.field (mj_tm i) "java/lang/String" "value" "[B")) (.int (Int32.ofNat (mj_txl i))) ∈ mj_NW) && decide (mj_txl i < 100) &&
  (List.range (mj_txl i)).all (fun j => decide (Cond.eq (.elem (.field (mj_tm i) "java/lang/String" "value" "[B") (.int (Int32.ofNat j))) (.int ((mj_txb i).getD j 0)) ∈ mj_NW)) &&
  decide (Cond.stringRef (mj_txo i).1 (mj_txo i).2.1 (mj_txo i).2.2 ∈ lw_tbl)
set_option maxRecDepth 100000 in
theorem mj_chk_tx0 : ((List.range 24).take 8).all mj_oktx = true := by decide +kernel
set_option maxRecDepth 100000 in
theorem mj_chk_tx1 : (((List.range 24).drop 8).take 8).all mj_oktx = true := by decide +kernel
set_option maxRecDepth 100000 in
theorem mj_chk_tx2 : ((List.range 24).drop 16).all mj_oktx = true := by decide +kernel
def mj_okarr (n : String) (L : List Int32) : Bool :=
  decide (Cond.arrayOf (.static "FriarLists" n "[I") .int ∈ mj_NW) && decide (Cond.eq (.length (.static "FriarLists" n "[I")) (.int (Int32.ofNat L.length)) ∈ mj_NW) && decide (L.length < 100) &&
  (List.range L.length).all (fun j => decide (Cond.eq (.elem (.static "FriarLists" n "[I") (.int (Int32.ofNat j))) (.int (L.getD j 0)) ∈ mj_NW)) && decide (Cond.laysStatic "FriarLists" n "[I" ∈ lw_tbl)
set_option maxRecDepth 100000 in
theorem mj_chk_a0 : mj_okarr "KIND_ABOVE" mj_kind = true := by decide +kernel
set_option maxRecDepth 100000 in
theorem mj_chk_a1 : mj_okarr "BODIES" mj_bodies = true := by decide +kernel
set_option maxRecDepth 100000 in
theorem mj_chk_st : Cond.eq (.static "java/lang/String" "COMPACT_STRINGS" "Z") (.int 1) ∈ mj_NW ∧ Cond.isRef (.static "jdk/internal/util/Preconditions" "SIOOBE_FORMATTER" "Ljava/util/function/BiFunction;") ∈ mj_NW ∧ Cond.laysStatic "java/lang/String" "COMPACT_STRINGS" "Z" ∈ lw_tbl ∧ Cond.laysStatic "jdk/internal/util/Preconditions" "SIOOBE_FORMATTER" "Ljava/util/function/BiFunction;" ∈ lw_tbl ∧
    Cond.initialized "java/lang/String" ∈ lw_tbl ∧ Cond.initialized "jdk/internal/util/Preconditions" ∈ lw_tbl ∧ Cond.initialized "FriarLists" ∈ lw_tbl ∧ Cond.arrayClass .int ∈ lw_tbl ∧ Cond.arrayClass .long ∈ lw_tbl ∧ Cond.arrayClass .boolean ∈ lw_tbl := by decide +kernel
set_option maxRecDepth 100000 in
theorem mj_chk_in : (List.range mj_cl.length).all (fun c => match mj_cl[c]? with | some (C, _, N) => decide (lw_tbl[(mj_in.getD c (0, 0)).1]? = some (.instantiable C N)) | none => true) = true := by decide +kernel
section ST
variable {args : Array Value} {s : State} {A : Nat → Prop}
theorem mj_tx_ok {i : Nat} (hi : i < 24) : mj_oktx i = true := by
  have h9 := mj_all_step mj_oktx (List.range 24) 0 8 mj_chk_tx0 (mj_all_step mj_oktx _ 8 8 mj_chk_tx1 mj_chk_tx2)
  exact List.all_eq_true.mp h9 i (by simpa using hi)
theorem mj_arr (hn : ∀ w ∈ mj_NW, w.before args s = true) (hts : ∀ w ∈ lw_tbl, w.before args s = true) (hA : ∀ a : Nat, a < s.heap.size → ¬ A a) {n : String} {L : List Int32} (hk : mj_okarr n L = true) :
    ∃ t : Nat, va_Z "FriarLists" n "[I" (.ref t) A s s.heap ∧ va_T .int t L.length (fun j => .int (L.getD j 0)) A s s.heap := by
  simp only [mj_okarr, Bool.and_eq_true, decide_eq_true_eq, List.all_eq_true, List.mem_range] at hk
  obtain ⟨⟨⟨⟨h1, h2⟩, h3⟩, h4⟩, h5⟩ := hk
  obtain ⟨t, ht, hT⟩ := va_Tof (f := fun j => .int (L.getD j 0)) (by omega) (hn _ h1) (va_eqt (hn _ h2)) (fun j hj => va_eqt (hn _ (h4 j hj))) hA
  exact ⟨t, va_Zof (hts _ h5) (hts _ mj_chk_st.2.2.2.2.2.2.1) ht hA, hT⟩
theorem mj_str (hn : ∀ w ∈ mj_NW, w.before args s = true) (hts : ∀ w ∈ lw_tbl, w.before args s = true) (hA : ∀ a : Nat, a < s.heap.size → ¬ A a) (i : Nat) : ∃ q : Nat × Nat, i < 24 →
    va_O "java/lang/String" q.1 A s s.heap ∧ va_OF "java/lang/String" "coder" "B" (.int 0) q.1 A s s.heap ∧ va_OF "java/lang/String" "value" "[B" (.ref q.2) q.1 A s s.heap ∧ va_T .byte q.2 (mj_txl i) (fun j => .int ((mj_txb i).getD j 0)) A s s.heap ∧
    vk_R (mj_txo i).1 (mj_txo i).2.1 (mj_txo i).2.2 q.1 s := by
  by_cases hi : i < 24
  · have hk := mj_tx_ok hi
    simp only [mj_oktx, Bool.and_eq_true, decide_eq_true_eq, List.all_eq_true, List.mem_range] at hk
    obtain ⟨⟨⟨⟨⟨⟨h1, h2⟩, h3⟩, h4⟩, h5⟩, h6⟩, h7⟩ := hk
    obtain ⟨a, c, cA, kA, q1, q2, q3, q4, q5, q6, -⟩ := Cond.exactly_spec (args := args) (first := s) (o := none) (s := s) (idx := []) (t := mj_tm i) (cls := "java/lang/String") (hn _ h1)
    obtain ⟨t, ht, hT⟩ := va_Tof (f := fun j => .int ((mj_txb i).getD j 0)) (A := A) (by omega) (hn _ h3) (va_eqt (hn _ h4)) (fun j hj => va_eqt (hn _ (h6 j hj))) hA
    exact ⟨(a, t), fun _ => ⟨⟨cA, q3, q5, by rw [q6]; exact q2, hA a (Array.getElem?_eq_some_iff.mp q3).1⟩, vk_OFof q1 (va_eqt (hn _ h2)) hA, vk_OFof q1 ht hA, hT, vk_R.of (hts _ h7) q1⟩⟩
  · exact ⟨(0, 0), fun h => absurd h hi⟩
theorem mj_start (hn : ∀ w ∈ mj_NW, w.before args s = true) (hts : ∀ w ∈ lw_tbl, w.before args s = true) (hA : ∀ a : Nat, a < s.heap.size → ¬ A a) {b L : Nat} {xs : Nat → Int32} (hX : va_X b L xs s s.heap) (hL : L < 2 ^ 31) :
    ∃ (E : mj_E) (D : va_G), mj_RO E A s ∧ va_K D mj_cl (mj_tys E) s ∧ (E.2.2.1 0).2 = (7, fun j => mj_kind.getD j 0) ∧ (E.2.2.1 1).2 = (28, fun j => mj_bodies.getD j 0) ∧ E.2.2.1 2 = (b, L, xs) ∧ E.2.2.2.1.category = 1 := by
  obtain ⟨t0, z0, a0⟩ := mj_arr hn hts hA mj_chk_a0
  obtain ⟨t1, z1, a1⟩ := mj_arr hn hts hA mj_chk_a1
  obtain ⟨ad, had⟩ := Classical.axiomOfChoice (mj_str hn hts hA)
  have hz2 : va_Z "java/lang/String" "COMPACT_STRINGS" "Z" (.int 1) A s s.heap := va_Zof (hts _ mj_chk_st.2.2.1) (hts _ mj_chk_st.2.2.2.2.1) (va_eqi (hn _ mj_chk_st.1)) hA
  have hz3 : ∃ v, va_Z "jdk/internal/util/Preconditions" "SIOOBE_FORMATTER" "Ljava/util/function/BiFunction;" v A s s.heap ∧ v.category = 1 := by
    rcases va_Zqof (A := A) (hts _ mj_chk_st.2.2.2.1) (hts _ mj_chk_st.2.2.2.2.2.1) (hn _ mj_chk_st.2.1) hA with h | ⟨t, h⟩
    · exact ⟨.null, h, rfl⟩
    · exact ⟨.ref t, h, rfl⟩
  obtain ⟨fv, hz3, hfv⟩ := hz3
  have harr : ∀ ty : FieldType, (∀ C, ty ≠ .object C) → Cond.arrayClass ty ∈ lw_tbl → ∃ cA : ClassId, ArrOfT s cA ty ∧ va_RA s cA ty := by
    intro ty hty hw
    obtain ⟨cA, kA, comp, h1, h2, h3⟩ := Cond.arrayClass_spec (hts _ hw)
    refine ⟨cA, fun n z => ⟨fun k h => (by cases h), kA, h2, comp, h3⟩, ?_⟩
    cases ty <;> first | exact h1 | exact absurd rfl (hty _)
  obtain ⟨cI, hI⟩ := harr .int (fun C z => by cases z) mj_chk_st.2.2.2.2.2.2.2.1
  obtain ⟨cL, hLo⟩ := harr .long (fun C z => by cases z) mj_chk_st.2.2.2.2.2.2.2.2.1
  obtain ⟨cZ, hZ⟩ := harr .boolean (fun C z => by cases z) mj_chk_st.2.2.2.2.2.2.2.2.2
  have hcl : ∀ c : Nat, ∃ q : ClassId × (Nat → Nat), ∀ r, mj_cl[c]? = some r → u_Kn s r.1 r.2.1 r.2.2 q.1 q.2 := by
    intro c
    cases hc : mj_cl[c]? with
    | none => exact ⟨(cI, fun _ => 0), fun r h => by cases h⟩
    | some r =>
      obtain ⟨C, T, N⟩ := r
      have h1 := List.all_eq_true.mp mj_chk_in c (by
        have := (List.getElem?_eq_some_iff.mp hc).1
        exact List.mem_range.mpr this)
      rw [hc] at h1
      simp only [decide_eq_true_eq] at h1
      obtain ⟨cC, iS, hK⟩ := u_known (ws := lw_tbl) hts (fun w hw => (List.mem_filter.mp ((mj_cl_use hc).1 w hw)).1) (hts _ (List.mem_of_getElem? h1))
      exact ⟨(cC, iS), fun r h => by cases h; exact hK⟩
  obtain ⟨dq, hdq⟩ := Classical.axiomOfChoice hcl
  refine ⟨(fun i => (ad i).1, fun i => (ad i).2, fun k => match k with | 0 => (t0, 7, fun j => mj_kind.getD j 0) | 1 => (t1, 28, fun j => mj_bodies.getD j 0) | _ => (b, L, xs), fv, cI, cL, cZ), (fun c => (dq c).1, fun c => (dq c).2), ⟨?_, ?_, ?_, ?_, ?_⟩, ⟨fun c q hq => hdq c q hq, ?_⟩, rfl, rfl, rfl, hfv⟩
  · intro k hk
    match k, hk with
    | 0, _ => exact z0
    | 1, _ => exact z1
    | 2, _ => exact hz2
    | 3, _ => exact hz3
  · intro k hk
    match k, hk with
    | 0, _ => exact a0
    | 1, _ => exact a1
    | 2, _ =>
      obtain ⟨scr, h1, h2, h3, h4, h5⟩ := hX
      exact ⟨scr, h1, h2, h3, by rw [h4]; exact Nat.le_refl _, by rw [h4]; rfl, h5, hA b (Array.getElem?_eq_some_iff.mp h1).1⟩
  · intro i hi
    obtain ⟨h1, h2, h3, h4, -⟩ := had i hi
    exact ⟨h1, h2, h3, h4⟩
  · intro i hi
    exact (had i hi).2.2.2.2
  · intro w hw
    obtain ⟨h1, h2⟩ := List.mem_filter.mp hw
    exact va_Nw.of (mj_isN.on h2) (hts w h1)
  · intro k q hq
    match k, hq with
    | 0, h => cases h; exact hI
    | 1, h => cases h; exact hLo
    | 2, h => cases h; exact hZ
end ST
