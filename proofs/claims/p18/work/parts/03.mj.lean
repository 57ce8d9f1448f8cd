/-! THE SMALL MACHINE: what an instruction of these methods does to locals, stack and world, and what it asks for; a call is one step, by a contract. Part 03 shows that the machine keeps to it. -/
/-- what lies outside the worlds: the texts' objects and their rows of bytes, three rows of ints (two statics, the script), one reference that is only carried, the classes of int, long and boolean rows -/
abbrev mj_E : Type := (Nat → Nat) × (Nat → Nat) × (Nat → Nat × Nat × (Nat → Int32)) × Value × ClassId × ClassId × ClassId
abbrev mj_C : Type := Nat × Nat × List (Nat × Value) × List Value × va_W
/-- what comes of a step: the next place; a call; a return; a new cell, whose reference is pushed -/
abbrev mj_R : Type := (Nat × List (Nat × Value) × List Value × va_W) ⊕ (Nat × List Value × List Value) ⊕ Option Value ⊕ (va_E × Nat × Nat × List Value)
def mj_nx (pc : Nat) (lv : List (Nat × Value)) (st : List Value) (ws : va_W) : mj_R := .inl (pc, lv, st, ws)
def mj_s1 (lv : List (Nat × Value)) (i : Nat) (v : Value) : List (Nat × Value) := (i, v) :: lv.filter (fun q => !(q.1 == i) && !(q.1 + 1 == i && q.2.category == 2))
def mj_s2 (lv : List (Nat × Value)) (i : Nat) (v : Value) : List (Nat × Value) := (i, v) :: lv.filter (fun q => !(q.1 == i) && (!(q.1 == i + 1) && !(q.1 + 1 == i && q.2.category == 2)))
def mj_go (pc : Nat) (off : Int) (t : Nat) : Prop := (pc : Int) + off = (t : Int)
def mj_c1 (c : ClassFile.Cond) (a b : Int32) : Prop := match c with
  | .eq => a = b
  | .ne => ¬ a = b
  | .lt => a < b
  | .ge => b ≤ a
  | .gt => b < a
  | .le => a ≤ b
def mj_bin (pc : Nat) (lv : List (Nat × Value)) (st : List Value) (ws : va_W) (r : mj_R) (n : Nat) (f : Int32 → Int32 → Int32) : Prop :=
  n = 1 ∧ ∃ a b t, st = .int b :: .int a :: t ∧ r = mj_nx (pc + 1) lv (.int (f a b) :: t) ws
def mj_binl (pc : Nat) (lv : List (Nat × Value)) (st : List Value) (ws : va_W) (r : mj_R) (n : Nat) (f : Int64 → Int64 → Int64) : Prop :=
  n = 1 ∧ ∃ a b t, st = .long b :: .long a :: t ∧ r = mj_nx (pc + 1) lv (.long (f a b) :: t) ws
def mj_shl (pc : Nat) (lv : List (Nat × Value)) (st : List Value) (ws : va_W) (r : mj_R) (n : Nat) (f : Int64 → Int32 → Int64) : Prop :=
  n = 1 ∧ ∃ a b t, st = .int b :: .long a :: t ∧ r = mj_nx (pc + 1) lv (.long (f a b) :: t) ws
def mj_un (pc : Nat) (lv : List (Nat × Value)) (st : List Value) (ws : va_W) (r : mj_R) (n : Nat) (f : Int32 → Value) : Prop :=
  n = 1 ∧ ∃ a t, st = .int a :: t ∧ r = mj_nx (pc + 1) lv (f a :: t) ws
/-- the static of a number -/
def mj_sv (E : mj_E) : Nat → Value
  | 0 => .ref (E.2.2.1 0).1
  | 1 => .ref (E.2.2.1 1).1
  | 2 => .int 1
  | _ => E.2.2.2.1
def mj_txl (i : Nat) : Nat := (mj_tx.getD i ("", 0, "")).2.2.length
/-- a text's bytes -/
def mj_txb (i : Nat) : List Int32 := (mj_tx.getD i ("", 0, "")).2.2.toList.map (fun c => Int32.ofNat c.toNat)
/-- what a field of a class may hold: the type, narrowed already -/
def mj_fit (ci k : Nat) (v : Value) : Prop := ∃ ty, parseFieldDescriptor (((mj_cl.getD ci ("", mj_T0, 0)).2.1 k).2.2.1) = some ty ∧ narrow ty v = v ∧ fits ty v = true
/-- a call of method y2 with these arguments over that rest of the stack -/
def mj_callee (y2 : Nat) (as rest : List Value) (ne : Nat) : Prop :=
  y2 < mj_lawNo ∧ as.length = ne ∧ (lg_sl as).length ≤ mj_l y2 ∧ mj_l y2 ≤ 100 ∧ (rest.map fun v => v.category).sum ≤ 8
def mj_new0 (E : mj_E) (n : Int32) : ArrayType → Option (va_E × FieldType)
  | .int => some (.inl (E.2.2.2.2.1, n.toNatClampNeg, .inl (fun _ => 0)), .int)
  | .long => some (.inl (E.2.2.2.2.2.1, n.toNatClampNeg, .inr (.inl (fun _ => 0))), .long)
  | .boolean => some (.inl (E.2.2.2.2.2.2, n.toNatClampNeg, .inl (fun _ => 0)), .boolean)
  | _ => none
def mj_I (E : mj_E) (d y pc : Nat) (lv : List (Nat × Value)) (st : List Value) (ws : va_W) (r : mj_R) (n : Nat) : Instr → Prop
  | .iconst k => n = 1 ∧ r = mj_nx (pc + 1) lv (.int (Int32.ofInt k) :: st) ws
  | .bipush k => n = 2 ∧ r = mj_nx (pc + 2) lv (.int (Int8.ofInt k).toInt32 :: st) ws
  | .sipush k => n = 3 ∧ r = mj_nx (pc + 3) lv (.int (Int16.ofInt k).toInt32 :: st) ws
  | .lconst k => n = 1 ∧ r = mj_nx (pc + 1) lv (.long (Int64.ofNat (k : Nat)) :: st) ws
  | .iload_n k => n = 1 ∧ ∃ v, ((k : Nat), Value.int v) ∈ lv ∧ r = mj_nx (pc + 1) lv (.int v :: st) ws
  | .iload k => n = 2 ∧ ∃ v, (k, Value.int v) ∈ lv ∧ r = mj_nx (pc + 2) lv (.int v :: st) ws
  | .lload_n k => n = 1 ∧ ∃ v, ((k : Nat), Value.long v) ∈ lv ∧ r = mj_nx (pc + 1) lv (.long v :: st) ws
  | .lload k => n = 2 ∧ ∃ v, (k, Value.long v) ∈ lv ∧ r = mj_nx (pc + 2) lv (.long v :: st) ws
  | .aload_n k => n = 1 ∧ ∃ a, ((k : Nat), Value.ref a) ∈ lv ∧ r = mj_nx (pc + 1) lv (.ref a :: st) ws
  | .istore_n k => n = 1 ∧ (k : Nat) < mj_l y ∧ ∃ v t, st = .int v :: t ∧ r = mj_nx (pc + 1) (mj_s1 lv k (.int v)) t ws
  | .istore k => n = 2 ∧ k < mj_l y ∧ ∃ v t, st = .int v :: t ∧ r = mj_nx (pc + 2) (mj_s1 lv k (.int v)) t ws
  | .lstore_n k => n = 1 ∧ (k : Nat) + 1 < mj_l y ∧ ∃ v t, st = .long v :: t ∧ r = mj_nx (pc + 1) (mj_s2 lv k (.long v)) t ws
  | .lstore k => n = 2 ∧ k + 1 < mj_l y ∧ ∃ v t, st = .long v :: t ∧ r = mj_nx (pc + 2) (mj_s2 lv k (.long v)) t ws
  | .astore_n k => n = 1 ∧ (k : Nat) < mj_l y ∧ ∃ v t, st = .ref v :: t ∧ r = mj_nx (pc + 1) (mj_s1 lv k (.ref v)) t ws
  | .iinc k c => n = 3 ∧ k < mj_l y ∧ ∃ v, (k, Value.int v) ∈ lv ∧ r = mj_nx (pc + 3) (mj_s1 lv k (.int (v + Int32.ofInt c))) st ws
  | .iadd => mj_bin pc lv st ws r n (fun a b => a + b)
  | .isub => mj_bin pc lv st ws r n (fun a b => a - b)
  | .imul => mj_bin pc lv st ws r n (fun a b => a * b)
  | .iand => mj_bin pc lv st ws r n (fun a b => a &&& b)
  | .ior => mj_bin pc lv st ws r n (fun a b => a ||| b)
  | .ixor => mj_bin pc lv st ws r n (fun a b => a ^^^ b)
  | .ishl => mj_bin pc lv st ws r n (fun a b => a <<< (b &&& 31))
  | .ishr => mj_bin pc lv st ws r n (fun a b => a >>> (b &&& 31))
  | .iushr => mj_bin pc lv st ws r n (fun a b => (a.toUInt32 >>> (b.toUInt32 &&& Int32.toUInt32 31)).toInt32)
  | .idiv => n = 1 ∧ ∃ a b t, st = .int b :: .int a :: t ∧ ¬ b = 0 ∧ r = mj_nx (pc + 1) lv (.int (a / b) :: t) ws
  | .irem => n = 1 ∧ ∃ a b t, st = .int b :: .int a :: t ∧ ¬ b = 0 ∧ r = mj_nx (pc + 1) lv (.int (a - a / b * b) :: t) ws
  | .ineg => mj_un pc lv st ws r n (fun a => .int (-a))
  | .i2l => mj_un pc lv st ws r n (fun a => .long a.toInt64)
  | .i2b => mj_un pc lv st ws r n (fun a => .int a.toInt8.toInt32)
  | .i2s => mj_un pc lv st ws r n (fun a => .int a.toInt16.toInt32)
  | .i2c => mj_un pc lv st ws r n (fun a => .int (a.toUInt32 % 65536).toInt32)
  | .ladd => mj_binl pc lv st ws r n (fun a b => a + b)
  | .lmul => mj_binl pc lv st ws r n (fun a b => a * b)
  | .land => mj_binl pc lv st ws r n (fun a b => a &&& b)
  | .lor => mj_binl pc lv st ws r n (fun a b => a ||| b)
  | .ldiv => n = 1 ∧ ∃ a b t, st = .long b :: .long a :: t ∧ ¬ b = 0 ∧ r = mj_nx (pc + 1) lv (.long (a / b) :: t) ws
  | .lshl => mj_shl pc lv st ws r n (fun a b => a <<< (b.toInt64 &&& 63))
  | .lshr => mj_shl pc lv st ws r n (fun a b => a >>> (b.toInt64 &&& 63))
  | .lushr => mj_shl pc lv st ws r n (fun a b => (a.toUInt64 >>> (b.toInt64.toUInt64 &&& Int64.toUInt64 63)).toInt64)
  | .lcmp => n = 1 ∧ ∃ a b t, st = .long b :: .long a :: t ∧ r = mj_nx (pc + 1) lv (.int (lg_cmp a b) :: t) ws
  | .l2i => n = 1 ∧ ∃ a t, st = .long a :: t ∧ r = mj_nx (pc + 1) lv (.int a.toInt32 :: t) ws
  | .pop => n = 1 ∧ ∃ v t, st = v :: t ∧ v.category = 1 ∧ r = mj_nx (pc + 1) lv t ws
  | .dup => n = 1 ∧ ∃ v t, st = v :: t ∧ v.category = 1 ∧ r = mj_nx (pc + 1) lv (v :: v :: t) ws
  | .dup2 => n = 1 ∧ ∃ v u t, st = v :: u :: t ∧ v.category = 1 ∧ u.category = 1 ∧ r = mj_nx (pc + 1) lv (v :: u :: v :: u :: t) ws
  | .ifCond c off => n = 3 ∧ ∃ v t tg, st = .int v :: t ∧ mj_go pc off tg ∧ ((mj_c1 c v 0 ∧ r = mj_nx tg lv t ws) ∨ (¬ mj_c1 c v 0 ∧ r = mj_nx (pc + 3) lv t ws))
  | .if_icmp c off => n = 3 ∧ ∃ a b t tg, st = .int b :: .int a :: t ∧ mj_go pc off tg ∧ ((mj_c1 c a b ∧ r = mj_nx tg lv t ws) ∨ (¬ mj_c1 c a b ∧ r = mj_nx (pc + 3) lv t ws))
  | .goto off => n = 3 ∧ ∃ tg, mj_go pc off tg ∧ r = mj_nx tg lv st ws
  | .tableswitch df lo hi offs => ∃ v t off tg, st = .int v :: t ∧ mj_go pc off tg ∧ (((v.toInt < lo ∨ hi < v.toInt) ∧ off = df) ∨ (¬ v.toInt < lo ∧ ¬ hi < v.toInt ∧ offs[(v.toInt - lo).toNat]? = some off)) ∧ r = mj_nx tg lv t ws
  | .lookupswitch df ps => ∃ v t tg, st = .int v :: t ∧ (ps.toList.zip (ps.toList.drop 1)).all (fun (a, next) => a.1 < next.1) = true ∧ mj_go pc (Op.lookupswitch.offset ps.toList df v.toInt) tg ∧ r = mj_nx tg lv t ws
  | .getfield ix => n = 3 ∧ ∃ a t, st = .ref a :: t ∧
      ((∃ (ci k pl q0 : Nat) (fs : List Value) (v : Value), (mj_cn y, ix, ci, k, pl) ∈ mj_fl ∧ ws[q0]? = some (a, .inr (ci, fs)) ∧ fs[k]? = some v ∧ r = mj_nx (pc + 3) lv (v :: t) ws) ∨
       (∃ i pl, i < 24 ∧ a = E.1 i ∧ (((mj_cn y, ix, 0, pl) ∈ mj_sl ∧ r = mj_nx (pc + 3) lv (.ref (E.2.1 i) :: t) ws) ∨ ((mj_cn y, ix, 1, pl) ∈ mj_sl ∧ r = mj_nx (pc + 3) lv (.int 0 :: t) ws))))
  | .putfield ix => n = 3 ∧ ∃ (v : Value) (a : Nat) (t : List Value) (ci k pl q0 : Nat) (fs : List Value), st = v :: .ref a :: t ∧ (mj_cn y, ix, ci, k, pl) ∈ mj_fl ∧ ws[q0]? = some (a, .inr (ci, fs)) ∧ k < fs.length ∧ mj_fit ci k v ∧
      ((((mj_cl.getD ci ("", mj_T0, 0)).2.1 k).2.2.2 = true) → (mj_y y).name = "<init>" ∧ ci = mj_cn y) ∧ r = mj_nx (pc + 3) lv t (ws.set q0 (a, .inr (ci, fs.set k v)))
  | .getstatic ix => n = 3 ∧ ∃ sid ns pl, (mj_cn y, ix, sid, ns, pl) ∈ mj_stl ∧ r = mj_nx (pc + 3) lv (mj_sv E sid :: st) ws
  | .iaload => n = 1 ∧ ∃ (i : Int32) (a : Nat) (t : List Value), st = .int i :: .ref a :: t ∧
      ((∃ (q0 N : Nat) (f : Nat → Int32), ws[q0]? = some (a, .inl (E.2.2.2.2.1, N, .inl f)) ∧ vp_in i N ∧ r = mj_nx (pc + 1) lv (.int (f i.toNatClampNeg) :: t) ws) ∨
       (∃ k, k < 3 ∧ a = (E.2.2.1 k).1 ∧ vp_in i (E.2.2.1 k).2.1 ∧ r = mj_nx (pc + 1) lv (.int ((E.2.2.1 k).2.2 i.toNatClampNeg) :: t) ws))
  | .laload => n = 1 ∧ ∃ (i : Int32) (a : Nat) (t : List Value) (q0 N : Nat) (f : Nat → Int64), st = .int i :: .ref a :: t ∧ ws[q0]? = some (a, .inl (E.2.2.2.2.2.1, N, .inr (.inl f))) ∧ vp_in i N ∧ r = mj_nx (pc + 1) lv (.long (f i.toNatClampNeg) :: t) ws
  | .baload => n = 1 ∧ ∃ (i : Int32) (a : Nat) (t : List Value), st = .int i :: .ref a :: t ∧
      ((∃ (q0 N : Nat) (f : Nat → Int32), ws[q0]? = some (a, .inl (E.2.2.2.2.2.2, N, .inl f)) ∧ vp_in i N ∧ r = mj_nx (pc + 1) lv (.int (f i.toNatClampNeg) :: t) ws) ∨
       (∃ k, k < 24 ∧ a = E.2.1 k ∧ vp_in i (mj_txl k) ∧ r = mj_nx (pc + 1) lv (.int ((mj_txb k).getD i.toNatClampNeg 0) :: t) ws))
  | .iastore => n = 1 ∧ ∃ (x i : Int32) (a : Nat) (t : List Value) (q0 N : Nat) (f : Nat → Int32), st = .int x :: .int i :: .ref a :: t ∧ ws[q0]? = some (a, .inl (E.2.2.2.2.1, N, .inl f)) ∧ vp_in i N ∧ r = mj_nx (pc + 1) lv t (ws.set q0 (a, .inl (E.2.2.2.2.1, N, .inl (upd f i.toNatClampNeg x))))
  | .lastore => n = 1 ∧ ∃ (x : Int64) (i : Int32) (a : Nat) (t : List Value) (q0 N : Nat) (f : Nat → Int64), st = .long x :: .int i :: .ref a :: t ∧ ws[q0]? = some (a, .inl (E.2.2.2.2.2.1, N, .inr (.inl f))) ∧ vp_in i N ∧ r = mj_nx (pc + 1) lv t (ws.set q0 (a, .inl (E.2.2.2.2.2.1, N, .inr (.inl (vp_updL f i.toNatClampNeg x)))))
  | .bastore => n = 1 ∧ ∃ (x i : Int32) (a : Nat) (t : List Value) (q0 N : Nat) (f : Nat → Int32), st = .int x :: .int i :: .ref a :: t ∧ ws[q0]? = some (a, .inl (E.2.2.2.2.2.2, N, .inl f)) ∧ vp_in i N ∧ r = mj_nx (pc + 1) lv t (ws.set q0 (a, .inl (E.2.2.2.2.2.2, N, .inl (upd f i.toNatClampNeg (vp_nar .boolean x)))))
  | .arraylength => n = 1 ∧ ∃ a t, st = .ref a :: t ∧
      ((∃ (q0 : Nat) (x : vp_A), ws[q0]? = some (a, .inl (E.2.2.2.2.1, x)) ∧ r = mj_nx (pc + 1) lv (.int (Int32.ofNat x.1) :: t) ws) ∨
       (∃ k, k < 3 ∧ a = (E.2.2.1 k).1 ∧ r = mj_nx (pc + 1) lv (.int (Int32.ofNat (E.2.2.1 k).2.1) :: t) ws) ∨
       (∃ k, k < 24 ∧ a = E.2.1 k ∧ r = mj_nx (pc + 1) lv (.int (Int32.ofNat (mj_txl k)) :: t) ws))
  | .newarray at0 => n = 2 ∧ ∃ (x : Int32) (t : List Value) (e : va_E) (ty : FieldType), st = .int x :: t ∧ ¬ x < 0 ∧ mj_new0 E x at0 = some (e, ty) ∧ x.toNatClampNeg ≤ 60000 ∧ r = .inr (.inr (.inr (e, x.toNatClampNeg, pc + 2, t)))
  | .new ix => n = 3 ∧ ∃ (ci pl : Nat) (fs : List Value), (mj_cn y, ix, ci, pl) ∈ mj_nl ∧ ci < 7 ∧ fs = (List.range (mj_cl.getD ci ("", mj_T0, 0)).2.2).map (fun k => match parseFieldDescriptor (((mj_cl.getD ci ("", mj_T0, 0)).2.1 k).2.2.1) with | some ty => defaultValue ty | none => .null) ∧
      r = .inr (.inr (.inr (.inr (ci, fs), (mj_cl.getD ci ("", mj_T0, 0)).2.2, pc + 3, st)))
  | .ldc ix => n = 2 ∧ ((∃ v pl, (mj_cn y, ix, 0, v, pl) ∈ mj_kl ∧ r = mj_nx (pc + 2) lv (.int (Int32.ofInt v) :: st) ws) ∨ (∃ (i pl : Nat), i < 24 ∧ (mj_cn y, ix, 2, (i : Int), pl) ∈ mj_kl ∧ r = mj_nx (pc + 2) lv (.ref (E.1 i) :: st) ws))
  | .ldc_w ix => n = 3 ∧ ∃ v pl, (mj_cn y, ix, 0, v, pl) ∈ mj_kl ∧ r = mj_nx (pc + 3) lv (.int (Int32.ofInt v) :: st) ws
  | .ldc2_w ix => n = 3 ∧ ∃ v pl, (mj_cn y, ix, 1, v, pl) ∈ mj_kl ∧ r = mj_nx (pc + 3) lv (.long (Int64.ofInt v) :: st) ws
  | .invokevirtual ix => n = 3 ∧ ∃ (y2 pl : Nat) (as : List Value) (a : Nat) (rest : List Value), (mj_cn y, ix, 0, y2, pl) ∈ mj_ml ∧ st = as.reverse ++ .ref a :: rest ∧ mj_callee y2 (.ref a :: as) rest ((mj_m y2).2.2.2.2.2.2 + 1) ∧
      ((∃ (q0 ci : Nat) (fs : List Value), ws[q0]? = some (a, .inr (ci, fs)) ∧ mj_cls ci = (mj_y y2).cls ∧ ci < 7) ∨ (∃ i, i < 24 ∧ a = E.1 i ∧ (mj_y y2).cls = "java/lang/String")) ∧ r = .inr (.inl (y2, .ref a :: as, rest))
  | .invokestatic ix => n = 3 ∧ ((∃ (y2 pl : Nat) (as rest : List Value), ((mj_cn y, ix, 1, y2, pl) ∈ mj_ml ∨ (mj_cn y, ix, 4, y2, pl) ∈ mj_ml) ∧ st = as.reverse ++ rest ∧ mj_callee y2 as rest ((mj_m y2).2.2.2.2.2.2) ∧ r = .inr (.inl (y2, as, rest))) ∨
      (∃ (pl z0 : Nat) (sp dp nn : Int32) (a0 a1 q0 q1 n0 n1 : Nat) (f g : Nat → Int32) (rest : List Value), (mj_cn y, ix, 6, z0, pl) ∈ mj_ml ∧ 1 ≤ d ∧ st = .int nn :: .int dp :: .ref a1 :: .int sp :: .ref a0 :: rest ∧ (rest.map fun v => v.category).sum ≤ 8 ∧ ws[q0]? = some (a0, .inl (E.2.2.2.2.1, n0, .inl f)) ∧ ws[q1]? = some (a1, .inl (E.2.2.2.2.1, n1, .inl g)) ∧
        ¬ sp < 0 ∧ ¬ dp < 0 ∧ ¬ nn < 0 ∧ sp.toNatClampNeg + nn.toNatClampNeg ≤ n0 ∧ dp.toNatClampNeg + nn.toNatClampNeg ≤ n1 ∧
        r = mj_nx (pc + 3) lv rest (ws.set q1 (a1, .inl (E.2.2.2.2.1, n1, .inl (va_cpy f g sp.toNatClampNeg dp.toNatClampNeg nn.toNatClampNeg))))) ∨
      (∃ (pl z0 : Nat) (a b : Int32) (rest : List Value), (mj_cn y, ix, 7, z0, pl) ∈ mj_ml ∧ 1 ≤ d ∧ st = .int b :: .int a :: rest ∧ (rest.map fun v => v.category).sum ≤ 8 ∧ r = mj_nx (pc + 3) lv (.int (if a < b then b else a) :: rest) ws) ∨
      (∃ (pl z0 : Nat) (a b : Int32) (rest : List Value), (mj_cn y, ix, 8, z0, pl) ∈ mj_ml ∧ 1 ≤ d ∧ st = .int b :: .int a :: rest ∧ (rest.map fun v => v.category).sum ≤ 8 ∧ r = mj_nx (pc + 3) lv (.int (if b < a then b else a) :: rest) ws))
  | .invokespecial ix => n = 3 ∧ ((∃ (y2 pl : Nat) (as : List Value) (a : Nat) (rest : List Value), ((mj_cn y, ix, 2, y2, pl) ∈ mj_ml ∨ (mj_cn y, ix, 3, y2, pl) ∈ mj_ml) ∧ st = as.reverse ++ .ref a :: rest ∧ mj_callee y2 (.ref a :: as) rest ((mj_m y2).2.2.2.2.2.2 + 1) ∧ r = .inr (.inl (y2, .ref a :: as, rest))) ∨
      (∃ (pl z0 a : Nat) (rest : List Value), (mj_cn y, ix, 5, z0, pl) ∈ mj_ml ∧ 1 ≤ d ∧ st = .ref a :: rest ∧ (rest.map fun v => v.category).sum ≤ 8 ∧ r = mj_nx (pc + 3) lv rest ws))
  | .ireturn => n = 1 ∧ ∃ v ty, st = [.int v] ∧ mj_r y = some ty ∧ narrow ty (.int v) = .int v ∧ r = .inr (.inr (.inl (some (.int v))))
  | .lreturn => n = 1 ∧ ∃ v, st = [.long v] ∧ mj_r y = some .long ∧ r = .inr (.inr (.inl (some (.long v))))
  | .return_ => n = 1 ∧ st = [] ∧ mj_r y = none ∧ r = .inr (.inr (.inl none))
  | _ => False
def mj_S (E : mj_E) (d : Nat) (cf : mj_C) (r : mj_R) : Prop :=
  ∃ (i : Instr) (n : Nat), decode (mj_b cf.1) cf.2.1 = .ok (i, n) ∧ mj_I E d cf.1 cf.2.1 cf.2.2.1 cf.2.2.2.1 cf.2.2.2.2 r n i
abbrev mj_P : Type := Nat → Nat → Nat → mj_C → (Option Value → va_W → Prop) → Prop
/-- the place at which a call of y2 begins -/
def mj_in0 (y2 : Nat) (as : List Value) (ws : va_W) : mj_C := (y2, 0, lv_args 0 as, [], ws)
/-- one step: P of what comes gives it of what is -/
def mj_F (E : mj_E) (P : mj_P) (d mc ms : Nat) (cf : mj_C) (Q : Option Value → va_W → Prop) : Prop :=
  ∃ r, mj_S E d cf r ∧ match r with
  | .inl (pc, lv, st, ws) => P d mc ms (cf.1, pc, lv, st, ws) Q
  | .inr (.inl (y2, as, rest)) => ∃ (d2 mc2 ms2 mc3 ms3 : Nat) (R : Option Value → va_W → Prop), d = d2 + 1 ∧ mc = mc2 + mc3 ∧ ms = ms2 + ms3 ∧ P d2 mc2 ms2 (mj_in0 y2 as cf.2.2.2.2) R ∧
      ∀ v ws1, R v ws1 → P d mc3 ms3 (cf.1, cf.2.1 + 3, cf.2.2.1, v.toList ++ rest, ws1) Q
  | .inr (.inr (.inl v)) => Q v cf.2.2.2.2
  | .inr (.inr (.inr (e, w, pc, rest))) => ∃ mc2 ms2, mc = mc2 + 1 ∧ ms = ms2 + w ∧ ∀ q : Nat, (∀ z ∈ cf.2.2.2.2, z.1 ≠ q) → P d mc2 ms2 (cf.1, pc, cf.2.2.1, .ref q :: rest, cf.2.2.2.2 ++ [(q, e)]) Q
/-- from cf the small machine comes to a return, with Q; at most d frames deep, at most mc new cells of ms slots -/
def MJ (E : mj_E) (d mc ms : Nat) (cf : mj_C) (Q : Option Value → va_W → Prop) : Prop :=
  ∀ P : mj_P, (∀ d mc ms cf Q, mj_F E P d mc ms cf Q → P d mc ms cf Q) → P d mc ms cf Q
theorem mj_F.mono {E : mj_E} {P P2 : mj_P} (h : ∀ d mc ms cf Q, P d mc ms cf Q → P2 d mc ms cf Q) {d mc ms : Nat} {cf : mj_C} {Q : Option Value → va_W → Prop} (hF : mj_F E P d mc ms cf Q) : mj_F E P2 d mc ms cf Q := by
  obtain ⟨r, hs, hr⟩ := hF
  refine ⟨r, hs, ?_⟩
  rcases r with ⟨pc, lv, st, ws⟩ | ⟨y2, as, rest⟩ | v | ⟨e, w, pc, rest⟩
  · exact h _ _ _ _ _ hr
  · obtain ⟨d2, mc2, ms2, mc3, ms3, R, e1, e2, e3, h1, h2⟩ := hr
    exact ⟨d2, mc2, ms2, mc3, ms3, R, e1, e2, e3, h _ _ _ _ _ h1, fun v ws1 hv => h _ _ _ _ _ (h2 v ws1 hv)⟩
  · exact hr
  · obtain ⟨mc2, ms2, e1, e2, h1⟩ := hr
    exact ⟨mc2, ms2, e1, e2, fun q hq => h _ _ _ _ _ (h1 q hq)⟩
/-- a step ahead -/
theorem MJ.step {E : mj_E} {d mc ms : Nat} {cf : mj_C} {Q : Option Value → va_W → Prop} (h : mj_F E (MJ E) d mc ms cf Q) : MJ E d mc ms cf Q := by
  intro P hP
  exact hP _ _ _ _ _ (h.mono (fun d mc ms cf Q hM => hM P hP))
