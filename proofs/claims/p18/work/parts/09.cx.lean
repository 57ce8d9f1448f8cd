/-! CONSTRUCTORS: an evaluator of the small machine without unknowns -/
abbrev cx_v : Type := Int32 ⊕ (Nat × Nat)
/-- a cell: an object (class, fields), or a row (0 ints, 1 longs, 2 booleans; length; contents) -/
abbrev cx_c : Type := (Nat × List cx_v) ⊕ (Nat × Nat × (Nat → Int32))
abbrev cx_w : Type := List cx_c
abbrev cx_R : Type := (Option Nat × List (Nat × cx_v) × List cx_v × cx_w) ⊕ (Nat × List cx_v × List cx_v) ⊕ (Option cx_v) ⊕ (cx_c × Nat × List cx_v)
def cx_nx (lv : List (Nat × cx_v)) (st : List cx_v) (w : cx_w) : Option cx_R := some (.inl (none, lv, st, w))
def cx_jp (pc : Nat) (off : Int) (lv : List (Nat × cx_v)) (st : List cx_v) (w : cx_w) : Option cx_R := if (pc : Int) + off < 0 then none else some (.inl (some ((pc : Int) + off).toNat, lv, st, w))
def cx_ld (lv : List (Nat × cx_v)) (k : Nat) : Option cx_v := (lv.find? (fun q => q.1 == k)).map (·.2)
def cx_s1 (lv : List (Nat × cx_v)) (i : Nat) (v : cx_v) : List (Nat × cx_v) := (i, v) :: lv.filter (fun q => !(q.1 == i))
def cx_c1 (c : ClassFile.Cond) (a b : Int32) : Bool := match c with
  | .eq => decide (a = b)
  | .ne => decide (¬ a = b)
  | .lt => decide (a < b)
  | .ge => decide (b ≤ a)
  | .gt => decide (b < a)
  | .le => decide (a ≤ b)
/-- the links of a class -/
def mj_by {α : Type} (L : List (Nat × Nat × α)) (c : Nat) : List (Nat × Nat × α) := match c with
  | 0 => L.filter (fun q => q.1 == 0)
  | 1 => L.filter (fun q => q.1 == 1)
  | 2 => L.filter (fun q => q.1 == 2)
  | 3 => L.filter (fun q => q.1 == 3)
  | 4 => L.filter (fun q => q.1 == 4)
  | 5 => L.filter (fun q => q.1 == 5)
  | 6 => L.filter (fun q => q.1 == 6)
  | 7 => L.filter (fun q => q.1 == 7)
  | 8 => L.filter (fun q => q.1 == 8)
  | 9 => L.filter (fun q => q.1 == 9)
  | 10 => L.filter (fun q => q.1 == 10)
  | 11 => L.filter (fun q => q.1 == 11)
  | 12 => L.filter (fun q => q.1 == 12)
  | 13 => L.filter (fun q => q.1 == 13)
  | 14 => L.filter (fun q => q.1 == 14)
  | 15 => L.filter (fun q => q.1 == 15)
  | _ => L
theorem mj_by_in {α : Type} {L : List (Nat × Nat × α)} {c : Nat} {q : Nat × Nat × α} (h : q ∈ mj_by L c) : q ∈ L := by
  unfold mj_by at h
  split at h <;> first | exact (List.mem_filter.mp h).1 | exact h
def mj_ffl (c ix : Nat) : Option (Nat × Nat × Nat × Nat × Nat) := (mj_by mj_fl c).find? (fun q => q.1 == c && q.2.1 == ix)
def mj_fsl (c ix : Nat) : Option (Nat × Nat × Nat × Nat) := (mj_by mj_sl c).find? (fun q => q.1 == c && q.2.1 == ix)
def mj_fstl (c ix : Nat) : Option (Nat × Nat × Nat × Nat × Nat) := (mj_by mj_stl c).find? (fun q => q.1 == c && q.2.1 == ix)
def mj_fml (c ix : Nat) : Option (Nat × Nat × Nat × Nat × Nat) := (mj_by mj_ml c).find? (fun q => q.1 == c && q.2.1 == ix)
def mj_fkl (c ix : Nat) : Option (Nat × Nat × Nat × Int × Nat) := (mj_by mj_kl c).find? (fun q => q.1 == c && q.2.1 == ix)
def mj_fnl (c ix : Nat) : Option (Nat × Nat × Nat × Nat) := (mj_by mj_nl c).find? (fun q => q.1 == c && q.2.1 == ix)
theorem mj_find {α : Type} {L : List (Nat × Nat × α)} {c ix : Nat} {q : Nat × Nat × α} (h : (mj_by L c).find? (fun q => q.1 == c && q.2.1 == ix) = some q) : (c, ix, q.2.2) ∈ L := by
  have h1 := List.find?_some h
  simp only [Bool.and_eq_true, beq_iff_eq] at h1
  have h2 := mj_by_in (List.mem_of_find?_eq_some h)
  obtain ⟨a, b, e⟩ := q
  obtain ⟨rfl, rfl⟩ := h1
  exact h2
def mj_fty (ci k : Nat) : Option FieldType := parseFieldDescriptor (((mj_cl.getD ci ("", mj_T0, 0)).2.1 k).2.2.1)
def mj_fin (ci k : Nat) : Bool := ((mj_cl.getD ci ("", mj_T0, 0)).2.1 k).2.2.2
def mj_nf (ci : Nat) : Nat := (mj_cl.getD ci ("", mj_T0, 0)).2.2
def cx_fit (ty : Option FieldType) (v : cx_v) : Bool := match ty, v with
  | some .int, .inl _ => true
  | some .boolean, .inl x => decide (x = 0) || decide (x = 1)
  | some (.object _), .inr (0, _) => true
  | some (.array _), .inr (0, _) => true
  | _, _ => false
def cx_dv (ty : Option FieldType) : Option cx_v := match ty with
  | some .int => some (.inl 0)
  | some .boolean => some (.inl 0)
  | some (.object _) => some (.inr (3, 0))
  | some (.array _) => some (.inr (3, 0))
  | _ => none
def cx_dvs (ci : Nat) : List (Option cx_v) := (List.range (mj_nf ci)).map (fun k => cx_dv (mj_fty ci k))
def cx_all : List (Option cx_v) → Option (List cx_v)
  | [] => some []
  | some v :: t => (cx_all t).map (v :: ·)
  | none :: _ => none
def cx_bin (lv : List (Nat × cx_v)) (st : List cx_v) (w : cx_w) (f : Int32 → Int32 → Int32) : Option cx_R := match st with
  | .inl b :: .inl a :: t => cx_nx lv (.inl (f a b) :: t) w
  | _ => none
def cx_okc (y2 na : Nat) (rest : List cx_v) : Bool := decide (na ≤ mj_lx y2) && decide (mj_lx y2 ≤ 100) && decide (rest.length ≤ 8)
def cx_S (y pc : Nat) (lv : List (Nat × cx_v)) (st : List cx_v) (w : cx_w) : Instr → Option cx_R
  | .iconst k => cx_nx lv (.inl (Int32.ofInt k) :: st) w
  | .bipush k => cx_nx lv (.inl (Int8.ofInt k).toInt32 :: st) w
  | .sipush k => cx_nx lv (.inl (Int16.ofInt k).toInt32 :: st) w
  | .iload_n k => match cx_ld lv k with
    | some (.inl x) => cx_nx lv (.inl x :: st) w
    | _ => none
  | .aload_n k => match cx_ld lv k with
    | some (.inr (0, a)) => cx_nx lv (.inr (0, a) :: st) w
    | some (.inr (1, a)) => cx_nx lv (.inr (1, a) :: st) w
    | some (.inr (2, a)) => cx_nx lv (.inr (2, a) :: st) w
    | _ => none
  | .istore_n k => match st with
    | .inl x :: t => if (k : Nat) < mj_lx y then cx_nx (cx_s1 lv k (.inl x)) t w else none
    | _ => none
  | .iinc k c => match cx_ld lv k with
    | some (.inl x) => if k < mj_lx y then cx_nx (cx_s1 lv k (.inl (x + Int32.ofInt c))) st w else none
    | _ => none
  | .iadd => cx_bin lv st w (fun a b => a + b)
  | .isub => cx_bin lv st w (fun a b => a - b)
  | .imul => cx_bin lv st w (fun a b => a * b)
  | .iand => cx_bin lv st w (fun a b => a &&& b)
  | .ishr => cx_bin lv st w (fun a b => a >>> (b &&& 31))
  | .i2c => match st with
    | .inl a :: t => cx_nx lv (.inl (a.toUInt32 % 65536).toInt32 :: t) w
    | _ => none
  | .pop => match st with
    | .inl _ :: t => cx_nx lv t w
    | _ => none
  | .dup => match st with
    | .inl x :: t => cx_nx lv (.inl x :: .inl x :: t) w
    | .inr (0, a) :: t => cx_nx lv (.inr (0, a) :: .inr (0, a) :: t) w
    | _ => none
  | .ifCond c off => match st with
    | .inl a :: t => if (pc : Int) + off < 0 then none else if cx_c1 c a 0 then cx_jp pc off lv t w else cx_nx lv t w
    | _ => none
  | .if_icmp c off => match st with
    | .inl b :: .inl a :: t => if (pc : Int) + off < 0 then none else if cx_c1 c a b then cx_jp pc off lv t w else cx_nx lv t w
    | _ => none
  | .goto off => cx_jp pc off lv st w
  | .getfield ix => match st with
    | .inr (0, a) :: t => match mj_ffl (mj_cn y) ix, w[a]? with
      | some q, some (.inl (ci, fs)) => if ci = q.2.2.1 then (match fs[q.2.2.2.1]? with
        | some v => cx_nx lv (v :: t) w
        | none => none) else none
      | _, _ => none
    | .inr (1, i) :: t => match mj_fsl (mj_cn y) ix with
      | some q => if q.2.2.1 = 0 then cx_nx lv (.inr (2, i) :: t) w else if q.2.2.1 = 1 then cx_nx lv (.inl 0 :: t) w else none
      | none => none
    | _ => none
  | .putfield ix => match st with
    | v :: .inr (0, a) :: t => match mj_ffl (mj_cn y) ix, w[a]? with
      | some q, some (.inl (ci, fs)) => if ci = q.2.2.1 ∧ q.2.2.2.1 < fs.length ∧ cx_fit (mj_fty ci q.2.2.2.1) v = true ∧ (mj_fin ci q.2.2.2.1 = true → (mj_y y).name = "<init>" ∧ ci = mj_cn y) then cx_nx lv t (w.set a (.inl (ci, fs.set q.2.2.2.1 v))) else none
      | _, _ => none
    | _ => none
  | .getstatic ix => match mj_fstl (mj_cn y) ix with
    | some q => if q.2.2.1 = 2 then cx_nx lv (.inl 1 :: st) w else if q.2.2.1 = 3 then cx_nx lv (.inr (4, 0) :: st) w else none
    | none => none
  | .baload => match st with
    | .inl i :: .inr (2, k) :: t => if ¬ (i < 0 ∨ mj_txl k ≤ i.toNatClampNeg) then cx_nx lv (.inl ((mj_txb k).getD i.toNatClampNeg 0) :: t) w else none
    | _ => none
  | .iastore => match st with
    | .inl x :: .inl i :: .inr (0, a) :: t => match w[a]? with
      | some (.inr (0, N, f)) => if ¬ (i < 0 ∨ N ≤ i.toNatClampNeg) then cx_nx lv t (w.set a (.inr (0, N, upd f i.toNatClampNeg x))) else none
      | _ => none
    | _ => none
  | .arraylength => match st with
    | .inr (2, k) :: t => cx_nx lv (.inl (Int32.ofNat (mj_txl k)) :: t) w
    | _ => none
  | .newarray at0 => match st with
    | .inl x :: t => if ¬ x < 0 ∧ x.toNatClampNeg ≤ 60000 then (match at0 with
      | .int => some (.inr (.inr (.inr (.inr (0, x.toNatClampNeg, fun _ => 0), x.toNatClampNeg, t))))
      | .long => some (.inr (.inr (.inr (.inr (1, x.toNatClampNeg, fun _ => 0), x.toNatClampNeg, t))))
      | .boolean => some (.inr (.inr (.inr (.inr (2, x.toNatClampNeg, fun _ => 0), x.toNatClampNeg, t))))
      | _ => none) else none
    | _ => none
  | .new ix => match mj_fnl (mj_cn y) ix with
    | some q => if q.2.2.1 < 7 then (match cx_all (cx_dvs q.2.2.1) with
      | some fs => some (.inr (.inr (.inr (.inl (q.2.2.1, fs), mj_nf q.2.2.1, st))))
      | none => none) else none
    | none => none
  | .ldc ix => match mj_fkl (mj_cn y) ix with
    | some q => if q.2.2.1 = 2 ∧ 0 ≤ q.2.2.2.1 ∧ q.2.2.2.1 < 24 then cx_nx lv (.inr (1, q.2.2.2.1.toNat) :: st) w else none
    | none => none
  | .invokevirtual ix => match mj_fml (mj_cn y) ix with
    | some q => if q.2.2.1 = 0 then (match st.drop (mj_m q.2.2.2.1).2.2.2.2.2.2 with
      | .inr (0, a) :: rest => match w[a]? with
        | some (.inl (ci, _)) => if ci = mj_cn q.2.2.2.1 ∧ ci < 7 ∧ cx_okc q.2.2.2.1 ((mj_m q.2.2.2.1).2.2.2.2.2.2 + 1) rest = true then some (.inr (.inl (q.2.2.2.1, .inr (0, a) :: (st.take (mj_m q.2.2.2.1).2.2.2.2.2.2).reverse, rest))) else none
        | _ => none
      | .inr (1, i) :: rest => if mj_cn q.2.2.2.1 = 7 ∧ cx_okc q.2.2.2.1 ((mj_m q.2.2.2.1).2.2.2.2.2.2 + 1) rest = true then some (.inr (.inl (q.2.2.2.1, .inr (1, i) :: (st.take (mj_m q.2.2.2.1).2.2.2.2.2.2).reverse, rest))) else none
      | _ => none) else none
    | none => none
  | .invokestatic ix => match mj_fml (mj_cn y) ix with
    | some q => if q.2.2.1 = 1 ∨ q.2.2.1 = 4 then (if (mj_m q.2.2.2.1).2.2.2.2.2.2 ≤ st.length ∧ cx_okc q.2.2.2.1 (mj_m q.2.2.2.1).2.2.2.2.2.2 (st.drop (mj_m q.2.2.2.1).2.2.2.2.2.2) = true then some (.inr (.inl (q.2.2.2.1, (st.take (mj_m q.2.2.2.1).2.2.2.2.2.2).reverse, st.drop (mj_m q.2.2.2.1).2.2.2.2.2.2))) else none)
      else if q.2.2.1 = 7 then (match st with
        | .inl b :: .inl a :: t => if t.length ≤ 8 then cx_nx lv (.inl (if a < b then b else a) :: t) w else none
        | _ => none) else none
    | none => none
  | .invokespecial ix => match mj_fml (mj_cn y) ix with
    | some q => if q.2.2.1 = 2 ∨ q.2.2.1 = 3 then (match st.drop (mj_m q.2.2.2.1).2.2.2.2.2.2 with
      | .inr (0, a) :: rest => if cx_okc q.2.2.2.1 ((mj_m q.2.2.2.1).2.2.2.2.2.2 + 1) rest = true then some (.inr (.inl (q.2.2.2.1, .inr (0, a) :: (st.take (mj_m q.2.2.2.1).2.2.2.2.2.2).reverse, rest))) else none
      | _ => none)
      else if q.2.2.1 = 5 then (match st with
        | .inr (0, _) :: t => if t.length ≤ 8 then cx_nx lv t w else none
        | _ => none) else none
    | none => none
  | .ireturn => match st with
    | [.inl x] => (match mj_rx y with
      | some .int => some (.inr (.inr (.inl (some (.inl x)))))
      | some .boolean => if x = 0 ∨ x = 1 then some (.inr (.inr (.inl (some (.inl x))))) else none
      | some .byte => if x.toInt8.toInt32 = x then some (.inr (.inr (.inl (some (.inl x))))) else none
      | some .char => if x.toUInt32.toUInt16.toUInt32.toInt32 = x then some (.inr (.inr (.inl (some (.inl x))))) else none
      | _ => none)
    | _ => none
  | .return_ => match st with
    | [] => if mj_rx y = none then some (.inr (.inr (.inl none))) else none
    | _ => none
  | _ => none
def cx_args : Nat → List cx_v → List (Nat × cx_v)
  | _, [] => []
  | i, v :: vs => (i, v) :: cx_args (i + 1) vs
def cx_run : Nat → Nat → Nat → List (Nat × Instr × Nat) → List (Nat × cx_v) → List cx_v → cx_w → Option (Option cx_v × cx_w)
  | 0, _, _, _, _, _, _ => none
  | _ + 1, _, _, [], _, _, _ => none
  | f + 1, d, y, (pc, i, _) :: tl, lv, st, w => match cx_S y pc lv st w i with
    | none => none
    | some (.inl (none, lv1, st1, w1)) => cx_run f d y tl lv1 st1 w1
    | some (.inl (some t, lv1, st1, w1)) => cx_run f d y (mj_jmp y t) lv1 st1 w1
    | some (.inr (.inl (y2, as, rest))) => match d with
      | 0 => none
      | d2 + 1 => if y2 < mj_lawNo then (match cx_run f d2 y2 (mj_kd y2) (cx_args 0 as) [] w with
        | none => none
        | some (v, w1) => cx_run f d y tl lv (v.toList ++ rest) w1) else none
    | some (.inr (.inr (.inl v))) => some (v, w)
    | some (.inr (.inr (.inr (c, _, rest)))) => cx_run f d y tl lv (.inr (0, w.length) :: rest) (w ++ [c])
/-- the two sides, just made -/
def cx_made : Option (Option cx_v × cx_w) := cx_run 20000 20 0 (mj_kd 0) [(0, .inr (0, 0))] [] [.inl (5, (cx_all (cx_dvs 5)).getD [])]
def cx_made2 (w : cx_w) : Option (Option cx_v × cx_w) := cx_run 20000 20 181 (mj_kd 181) [(0, .inr (0, w.length))] [] (w ++ [.inl (6, (cx_all (cx_dvs 6)).getD [])])
