/-! THE TABLES ARE RIGHT, by program -/
/-- the same entry, by a piece of the row -/
theorem mj_ck {α : Type} (L : List α) (n y : Nat) : (L.drop (y / n * n))[y % n]? = L[y]? := by
  rw [List.getElem?_drop, Nat.mul_comm, Nat.div_add_mod]
theorem mj_ckd {α : Type} (L : List α) (n y : Nat) (d : α) : (L.drop (y / n * n)).getD (y % n) d = L.getD y d := by
  rw [List.getD_eq_getElem?_getD, List.getD_eq_getElem?_getD, mj_ck]
def mj_w (p : Nat) : Option Cond := (lw_tbl.drop (p / 64 * 64))[p % 64]?
theorem mj_w_eq (p : Nat) : mj_w p = lw_tbl[p]? := mj_ck lw_tbl 64 p
def mj_m (y : Nat) : Nat × Nat × Nat × Nat × Nat × Nat × Nat := (mj_M.drop (y / 16 * 16)).getD (y % 16) (0, 0, 0, 0, 0, 0, 0)
def mj_lawNo : Nat := 320
def mj_cd (y : Nat) : MethodName × ByteArray × Nat × Option FieldType :=
  if y = mj_lawNo then (x, code, maxLocals, ret) else
  match mj_w (mj_m y).1 with
  | some (.code a b c d) => (a, b, c, d)
  | _ => (⟨"", "", ""⟩, ⟨#[]⟩, 0, none)
def mj_y (y : Nat) : MethodName := (mj_cd y).1
def mj_b (y : Nat) : ByteArray := (mj_cd y).2.1
def mj_l (y : Nat) : Nat := (mj_cd y).2.2.1
def mj_r (y : Nat) : Option FieldType := (mj_cd y).2.2.2
def mj_cn (y : Nat) : Nat := if y = mj_lawNo then 15 else (mj_m y).2.1
def mj_sn : Nat → String × String × String
  | 0 => ("FriarLists", "KIND_ABOVE", "[I")
  | 1 => ("FriarLists", "BODIES", "[I")
  | 2 => ("java/lang/String", "COMPACT_STRINGS", "Z")
  | _ => ("jdk/internal/util/Preconditions", "SIOOBE_FORMATTER", "Ljava/util/function/BiFunction;")
def mj_isN : Cond → Bool
  | .fieldLinkNest .. | .methodLinkNest .. => true
  | _ => false
/-- the words of nest mates' links -/
def mj_nw : List Cond := lw_tbl.filter mj_isN
/-- the words that every method bears -/
def mj_tb : List Cond := lw_tbl.filter goodWord
theorem mj_isN.on {w : Cond} (h : mj_isN w = true) : w.onTables = true := by cases w <;> first | rfl | cases h
def mj_txo (i : Nat) : String × Nat × String := mj_tx.getD i ("", 0, "")
def mj_objNo : Nat := 1
def mj_okm (y : Nat) : Bool :=
  plainName (mj_y y).cls && decide (mj_cls (mj_cn y) = (mj_y y).cls) && decide ((mj_y y).cls ≠ "java/lang/invoke/MethodHandle") && decide ((mj_y y).cls ≠ "java/lang/invoke/VarHandle") &&
  decide ((parseMethodDescriptor (mj_y y).desc).map (fun d => d.parameters.length) = some (mj_m y).2.2.2.2.2.2) && decide (mj_w (mj_m y).2.2.2.2.2.1 = some (.initialized (mj_y y).cls)) &&
  (if (mj_m y).2.2.1 = 1 then decide (mj_w (mj_m y).2.2.2.1 = some (.static (mj_y y))) else decide (mj_w (mj_m y).2.2.2.1 = some (.instanceMethod (mj_y y)))) &&
  (match mj_w (mj_m y).1 with | some (.code _ _ _ _) => true | _ => false)
def mj_exm (y : Nat) : Bool := y == mj_objNo || (mj_y y).cls == "java/lang/Math" || mj_okm y
set_option maxRecDepth 100000 in
theorem mj_chk_m0 : ((List.range 320).drop 0).take 40 |>.all mj_exm := by decide +kernel
set_option maxRecDepth 100000 in
theorem mj_chk_m1 : ((List.range 320).drop 40).take 40 |>.all mj_exm := by decide +kernel
set_option maxRecDepth 100000 in
theorem mj_chk_m2 : ((List.range 320).drop 80).take 40 |>.all mj_exm := by decide +kernel
set_option maxRecDepth 100000 in
theorem mj_chk_m3 : ((List.range 320).drop 120).take 40 |>.all mj_exm := by decide +kernel
set_option maxRecDepth 100000 in
theorem mj_chk_m4 : ((List.range 320).drop 160).take 40 |>.all mj_exm := by decide +kernel
set_option maxRecDepth 100000 in
theorem mj_chk_m5 : ((List.range 320).drop 200).take 40 |>.all mj_exm := by decide +kernel
set_option maxRecDepth 100000 in
theorem mj_chk_m6 : ((List.range 320).drop 240).take 40 |>.all mj_exm := by decide +kernel
set_option maxRecDepth 100000 in
theorem mj_chk_m7 : ((List.range 320).drop 280).take 40 |>.all mj_exm := by decide +kernel
def mj_okfl (q : Nat × Nat × Nat × Nat × Nat) : Bool := match mj_cl[q.2.2.1]? with
  | some (C, T, N) => decide (q.2.2.2.1 < N) && decide ((T q.2.2.2.1).1 = C) && decide (mj_w q.2.2.2.2 = some (.fieldLink (mj_cls q.1) q.2.1 C (T q.2.2.2.1).2.1 (T q.2.2.2.1).2.2.1))
  | none => false
set_option maxRecDepth 100000 in
theorem mj_chk_fl : mj_fl.all mj_okfl = true := by decide +kernel
def mj_okml (q : Nat × Nat × Nat × Nat × Nat) : Bool := match q with
  | (c, ix, kd, y, pl) => match kd with
    | 0 => decide (y < mj_lawNo) && decide (y ≠ mj_objNo) && decide ((mj_y y).cls ≠ "java/lang/Math") && decide ((mj_m y).2.2.1 = 0) && decide (mj_w pl = some (.methodLink (mj_cls c) ix (mj_y y))) && decide (mj_w (mj_m y).2.2.2.2.1 = some (.selects (mj_y y).cls (mj_y y) (mj_y y)))
    | 1 => decide (y < mj_lawNo) && decide (y ≠ mj_objNo) && decide ((mj_y y).cls ≠ "java/lang/Math") && decide ((mj_m y).2.2.1 = 1) && decide (mj_w pl = some (.methodLink (mj_cls c) ix (mj_y y)))
    | 2 => decide (y < mj_lawNo) && decide (y ≠ mj_objNo) && decide ((mj_y y).cls ≠ "java/lang/Math") && decide ((mj_m y).2.2.1 = 0) && decide ((mj_y y).name = "<init>") && decide (mj_r y = none) && decide (mj_w pl = some (.methodLink (mj_cls c) ix (mj_y y)))
    | 3 => decide (y < mj_lawNo) && decide (y ≠ mj_objNo) && decide ((mj_y y).cls ≠ "java/lang/Math") && decide ((mj_m y).2.2.1 = 0) && decide ((mj_y y).name = "<init>") && decide (mj_r y = none) && decide (mj_w pl = some (.methodLinkNest (mj_cls c) ix (mj_y y) "FriarLists"))
    | 4 => decide (y < mj_lawNo) && decide (y ≠ mj_objNo) && decide ((mj_y y).cls ≠ "java/lang/Math") && decide ((mj_m y).2.2.1 = 1) && decide (mj_w pl = some (.methodLinkNest (mj_cls c) ix (mj_y y) "FriarLists"))
    | 5 => decide (mj_w pl = some (.methodLink (mj_cls c) ix Lib.objectInit))
    | 6 => decide (mj_w pl = some (.methodLink (mj_cls c) ix arraycopyName))
    | 7 => decide (mj_w pl = some (.methodLink (mj_cls c) ix Lib.Math.max.name))
    | 8 => decide (mj_w pl = some (.methodLink (mj_cls c) ix Lib.Math.min.name))
    | _ => false
set_option maxRecDepth 100000 in
theorem mj_chk_ml0 : mj_ml_0.all mj_okml = true := by decide +kernel
set_option maxRecDepth 100000 in
theorem mj_chk_ml1 : mj_ml_1.all mj_okml = true := by decide +kernel
set_option maxRecDepth 100000 in
theorem mj_chk_ml2 : mj_ml_2.all mj_okml = true := by decide +kernel
set_option maxRecDepth 100000 in
theorem mj_chk_ml3 : mj_ml_3.all mj_okml = true := by decide +kernel
set_option maxRecDepth 100000 in
theorem mj_chk_ml4 : mj_ml_4.all mj_okml = true := by decide +kernel
set_option maxRecDepth 100000 in
theorem mj_chk_ml5 : mj_ml_5.all mj_okml = true := by decide +kernel
set_option maxRecDepth 100000 in
theorem mj_chk_ml6 : mj_ml_6.all mj_okml = true := by decide +kernel
set_option maxRecDepth 100000 in
theorem mj_chk_ml7 : mj_ml_7.all mj_okml = true := by decide +kernel
set_option maxRecDepth 100000 in
theorem mj_chk_ml8 : mj_ml_8.all mj_okml = true := by decide +kernel
set_option maxRecDepth 100000 in
theorem mj_chk_ml9 : mj_ml_9.all mj_okml = true := by decide +kernel
def mj_okkl (q : Nat × Nat × Nat × Int × Nat) : Bool := match q with
  | (c, ix, kd, v, pl) => match kd with
    | 0 => decide (mj_w pl = some (.constant (mj_cls c) ix (Int32.ofInt v)))
    | 1 => decide (mj_w pl = some (.constantLong (mj_cls c) ix (Int64.ofInt v)))
    | 2 => decide (0 ≤ v) && decide ((mj_txo v.toNat).1 = mj_cls c) && decide ((mj_txo v.toNat).2.1 = ix)
    | _ => false
set_option maxRecDepth 100000 in
theorem mj_chk_kl : mj_kl.all mj_okkl = true := by decide +kernel
def mj_oksl (q : Nat × Nat × Nat × Nat) : Bool := match q with
  | (c, ix, kd, pl) => match kd with
    | 0 => decide (mj_w pl = some (.fieldLink (mj_cls c) ix "java/lang/String" "value" "[B"))
    | 1 => decide (mj_w pl = some (.fieldLink (mj_cls c) ix "java/lang/String" "coder" "B"))
    | _ => false
set_option maxRecDepth 100000 in
theorem mj_chk_sl : mj_sl.all mj_oksl = true := by decide +kernel
def mj_okstl (q : Nat × Nat × Nat × Nat × Nat) : Bool := match q with
  | (c, ix, sid, ns, pl) => decide (sid < 4) && (if ns = 0 then decide (mj_w pl = some (.fieldLink (mj_cls c) ix (mj_sn sid).1 (mj_sn sid).2.1 (mj_sn sid).2.2)) else decide (mj_w pl = some (.fieldLinkNest (mj_cls c) ix (mj_sn sid).1 (mj_sn sid).2.1 (mj_sn sid).2.2 "FriarLists")))
set_option maxRecDepth 100000 in
theorem mj_chk_stl : mj_stl.all mj_okstl = true := by decide +kernel
def mj_oknl (q : Nat × Nat × Nat × Nat) : Bool := match q with
  | (c, ix, ci, pl) => match mj_cl[ci]? with
    | some (C, _, N) => decide (mj_w pl = some (.classLink (mj_cls c) ix C)) && decide (mj_w (mj_in.getD ci (0, 0)).1 = some (.instantiable C N)) && decide (mj_w (mj_in.getD ci (0, 0)).2 = some (.initialized C))
    | none => false
set_option maxRecDepth 100000 in
theorem mj_chk_nl : mj_nl.all mj_oknl = true := by decide +kernel
def mj_okcl (q : vw_C) : Bool := (u_ws q.1 q.2.1 q.2.2).all (fun w => decide (w ∈ lw_tbl)) && (List.range q.2.2).all (fun k => (parseFieldDescriptor (q.2.1 k).2.2.1).isSome) && (List.range q.2.2).all (fun a => (List.range q.2.2).all (fun b => decide (a = b) || decide ((q.2.1 a).2.1 ≠ (q.2.1 b).2.1)))
set_option maxRecDepth 100000 in
theorem mj_chk_cl : mj_cl.all mj_okcl = true := by decide +kernel
/-! what the checks give -/
theorem mj_in_tb {pl : Nat} {w : Cond} (h : mj_w pl = some w) (hg : goodWord w = true) : w ∈ mj_tb := List.mem_filter.mpr ⟨List.mem_of_getElem? ((mj_w_eq _).symm.trans h), hg⟩
theorem mj_in_nw {pl : Nat} {w : Cond} (h : mj_w pl = some w) (hg : mj_isN w = true) : w ∈ mj_nw := List.mem_filter.mpr ⟨List.mem_of_getElem? ((mj_w_eq _).symm.trans h), hg⟩
theorem mj_all_step {α : Type} (p : α → Bool) (L : List α) (a n : Nat) (h1 : ((L.drop a).take n).all p = true) (h2 : (L.drop (a + n)).all p = true) : (L.drop a).all p = true := by
  have h : ((L.drop a).take n ++ (L.drop a).drop n).all p = true := by
    rw [List.all_append, h1, List.drop_drop, h2]; rfl
  rwa [List.take_append_drop] at h
set_option maxRecDepth 100000 in
theorem mj_exm_all : (List.range 320).all mj_exm = true := by
  have h9 : ((List.range 320).drop 320).all mj_exm = true := by rw [List.drop_eq_nil_of_le (by simp)]; rfl
  have h0 := mj_all_step mj_exm _ 0 40 mj_chk_m0 (mj_all_step mj_exm _ 40 40 mj_chk_m1 (mj_all_step mj_exm _ 80 40 mj_chk_m2 (mj_all_step mj_exm _ 120 40 mj_chk_m3 (mj_all_step mj_exm _ 160 40 mj_chk_m4 (mj_all_step mj_exm _ 200 40 mj_chk_m5 (mj_all_step mj_exm _ 240 40 mj_chk_m6 (mj_all_step mj_exm _ 280 40 mj_chk_m7 h9)))))))
  simpa using h0
theorem mj_m_use {y : Nat} (hy : y < mj_lawNo) (h1 : y ≠ mj_objNo) (h2 : (mj_y y).cls ≠ "java/lang/Math") :
    plainName (mj_y y).cls = true ∧ mj_cls (mj_cn y) = (mj_y y).cls ∧ (mj_y y).cls ≠ "java/lang/invoke/MethodHandle" ∧ (mj_y y).cls ≠ "java/lang/invoke/VarHandle" ∧
    (parseMethodDescriptor (mj_y y).desc).map (fun d => d.parameters.length) = some (mj_m y).2.2.2.2.2.2 ∧ .initialized (mj_y y).cls ∈ mj_tb ∧ ((mj_m y).2.2.1 = 1 → .static (mj_y y) ∈ mj_tb) ∧ ((mj_m y).2.2.1 = 0 → .instanceMethod (mj_y y) ∈ mj_tb) ∧
    .code (mj_y y) (mj_b y) (mj_l y) (mj_r y) ∈ mj_tb := by
  have h := List.all_eq_true.mp mj_exm_all y (List.mem_range.mpr hy)
  simp only [mj_exm, Bool.or_eq_true, beq_iff_eq] at h
  rcases h with (h | h) | h
  · exact absurd h h1
  · exact absurd h h2
  · simp only [mj_okm, Bool.and_eq_true, decide_eq_true_eq] at h
    obtain ⟨⟨⟨⟨⟨⟨⟨a1, a2⟩, a3⟩, a4⟩, a5⟩, a6⟩, a7⟩, a8⟩ := h
    refine ⟨a1, a2, a3, a4, a5, mj_in_tb a6 rfl, fun z => ?_, fun z => ?_, ?_⟩
    · rw [if_pos z] at a7
      exact mj_in_tb (of_decide_eq_true a7) rfl
    · rw [if_neg (by rw [z]; decide)] at a7
      exact mj_in_tb (of_decide_eq_true a7) rfl
    · have hc : ∃ a b c d, mj_w (mj_m y).1 = some (.code a b c d) := by
        cases hw : mj_w (mj_m y).1 with
        | none => rw [hw] at a8; cases a8
        | some w =>
          rw [hw] at a8
          cases w <;> first | exact ⟨_, _, _, _, rfl⟩ | cases a8
      obtain ⟨a, b, c, d, hc⟩ := hc
      have e : mj_cd y = (a, b, c, d) := by
        unfold mj_cd
        rw [if_neg (Nat.ne_of_lt hy), hc]
      have : Cond.code (mj_y y) (mj_b y) (mj_l y) (mj_r y) = .code a b c d := by
        unfold mj_y mj_b mj_l mj_r
        rw [e]
      rw [this]
      exact mj_in_tb hc rfl
theorem mj_fl_use {c ix ci k pl : Nat} (h : (c, ix, ci, k, pl) ∈ mj_fl) : ∃ C T N, mj_cl[ci]? = some (C, T, N) ∧ k < N ∧ (T k).1 = C ∧ Cond.fieldLink (mj_cls c) ix C (T k).2.1 (T k).2.2.1 ∈ mj_tb := by
  have h1 := List.all_eq_true.mp mj_chk_fl _ h
  unfold mj_okfl at h1
  cases hc : mj_cl[ci]? with
  | none => simp only [hc] at h1; cases h1
  | some q =>
    obtain ⟨C, T, N⟩ := q
    simp only [hc, Bool.and_eq_true, decide_eq_true_eq] at h1
    exact ⟨C, T, N, rfl, h1.1.1, h1.1.2, mj_in_tb h1.2 rfl⟩
theorem mj_ml_all : mj_ml.all mj_okml = true := by
  unfold mj_ml
  simp only [List.all_append, mj_chk_ml0, mj_chk_ml1, mj_chk_ml2, mj_chk_ml3, mj_chk_ml4, mj_chk_ml5, mj_chk_ml6, mj_chk_ml7, mj_chk_ml8, mj_chk_ml9, Bool.and_self]
theorem mj_ml_use {c ix kd y pl : Nat} (h : (c, ix, kd, y, pl) ∈ mj_ml) : mj_okml (c, ix, kd, y, pl) = true := List.all_eq_true.mp mj_ml_all _ h
theorem mj_kl_use {c ix kd pl : Nat} {v : Int} (h : (c, ix, kd, v, pl) ∈ mj_kl) : mj_okkl (c, ix, kd, v, pl) = true := List.all_eq_true.mp mj_chk_kl _ h
theorem mj_sl_use {c ix kd pl : Nat} (h : (c, ix, kd, pl) ∈ mj_sl) : mj_oksl (c, ix, kd, pl) = true := List.all_eq_true.mp mj_chk_sl _ h
theorem mj_stl_use {c ix k ns pl : Nat} (h : (c, ix, k, ns, pl) ∈ mj_stl) : mj_okstl (c, ix, k, ns, pl) = true := List.all_eq_true.mp mj_chk_stl _ h
theorem mj_nl_use {c ix ci pl : Nat} (h : (c, ix, ci, pl) ∈ mj_nl) : ∃ C T N, mj_cl[ci]? = some (C, T, N) ∧ Cond.classLink (mj_cls c) ix C ∈ mj_tb ∧ Cond.instantiable C N ∈ mj_tb ∧ Cond.initialized C ∈ mj_tb := by
  have h1 := List.all_eq_true.mp mj_chk_nl _ h
  unfold mj_oknl at h1
  cases hc : mj_cl[ci]? with
  | none => simp only [hc] at h1; cases h1
  | some q =>
    obtain ⟨C, T, N⟩ := q
    simp only [hc, Bool.and_eq_true, decide_eq_true_eq] at h1
    exact ⟨C, T, N, rfl, mj_in_tb h1.1.1 rfl, mj_in_tb h1.1.2 rfl, mj_in_tb h1.2 rfl⟩
/-- of a class: its words, its types, its names -/
theorem mj_cl_use {ci N : Nat} {C : String} {T : u_T} (h : mj_cl[ci]? = some (C, T, N)) :
    (∀ w ∈ u_ws C T N, w ∈ mj_tb) ∧ (∀ k, k < N → parseFieldDescriptor (T k).2.2.1 = some ((parseFieldDescriptor (T k).2.2.1).getD .int)) ∧ (∀ a, a < N → ∀ b, b < N → a ≠ b → (T a).2.1 ≠ (T b).2.1) := by
  have h1 := List.all_eq_true.mp mj_chk_cl _ (List.mem_of_getElem? h)
  simp only [mj_okcl, Bool.and_eq_true, List.all_eq_true, decide_eq_true_eq, List.mem_range, Bool.or_eq_true] at h1
  obtain ⟨⟨h2, h3⟩, h4⟩ := h1
  refine ⟨fun w hw => List.mem_filter.mpr ⟨h2 w hw, ?_⟩, fun k hk => ?_, fun a ha b hb hab => ?_⟩
  · obtain ⟨k, -, rfl⟩ := List.mem_map.mp hw
    unfold u_lay
    split <;> rfl
  · obtain ⟨ty, e⟩ := Option.isSome_iff_exists.mp (h3 k hk)
    rw [e]; rfl
  · rcases h4 a ha b hb with z | z
    · exact absurd z hab
    · exact z
