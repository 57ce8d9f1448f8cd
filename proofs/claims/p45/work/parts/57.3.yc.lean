/-! BY HAND, OVER VALUES: the locals that are followed, the stack as it is (longs, too) -/
section NG
variable {E : mj_E} {d y pc : Nat} {lx : List (Nat × Value)} {ST : List Value} {ws : va_W} {Q : Option Value → va_W → Prop}
def nG (E : mj_E) (d y pc : Nat) (lx : List (Nat × Value)) (ST : List Value) (ws : va_W) (Q : Option Value → va_W → Prop) : Prop := ∀ LV, (∀ q ∈ lx, q ∈ LV) → MJ E d 0 0 (y, pc, LV, ST, ws) Q
theorem n_nx {i : Instr} {n pc2 : Nat} {ST2 : List Value} (hd : decode (mj_b y) pc = .ok (i, n)) (hI : ∀ LV, (∀ q ∈ lx, q ∈ LV) → mj_I E d y pc LV ST ws (mj_nx pc2 LV ST2 ws) n i) (h : nG E d y pc2 lx ST2 ws Q) : nG E d y pc lx ST ws Q := fun LV hL => MJ.nx hd (hI LV hL) (h LV hL)
theorem n_il {k : Nat} {v : Int32} (hd : decode (mj_b y) pc = .ok (.iload k, 2)) (hm : (k, Value.int v) ∈ lx) (h : nG E d y (pc + 2) lx (.int v :: ST) ws Q) : nG E d y pc lx ST ws Q := n_nx hd (fun LV hL => ⟨rfl, v, hL _ hm, rfl⟩) h
theorem n_iln {k : Fin 4} {v : Int32} (hd : decode (mj_b y) pc = .ok (.iload_n k, 1)) (hm : ((k : Nat), Value.int v) ∈ lx) (h : nG E d y (pc + 1) lx (.int v :: ST) ws Q) : nG E d y pc lx ST ws Q := n_nx hd (fun LV hL => ⟨rfl, v, hL _ hm, rfl⟩) h
theorem n_ll {k : Nat} {v : Int64} (hd : decode (mj_b y) pc = .ok (.lload k, 2)) (hm : (k, Value.long v) ∈ lx) (h : nG E d y (pc + 2) lx (.long v :: ST) ws Q) : nG E d y pc lx ST ws Q := n_nx hd (fun LV hL => ⟨rfl, v, hL _ hm, rfl⟩) h
theorem n_lln {k : Fin 4} {v : Int64} (hd : decode (mj_b y) pc = .ok (.lload_n k, 1)) (hm : ((k : Nat), Value.long v) ∈ lx) (h : nG E d y (pc + 1) lx (.long v :: ST) ws Q) : nG E d y pc lx ST ws Q := n_nx hd (fun LV hL => ⟨rfl, v, hL _ hm, rfl⟩) h
theorem n_al {k : Fin 4} {a : Nat} (hd : decode (mj_b y) pc = .ok (.aload_n k, 1)) (hm : ((k : Nat), Value.ref a) ∈ lx) (h : nG E d y (pc + 1) lx (.ref a :: ST) ws Q) : nG E d y pc lx ST ws Q := n_nx hd (fun LV hL => ⟨rfl, a, hL _ hm, rfl⟩) h
theorem n_k {k : Int} {v : Int32} (hd : decode (mj_b y) pc = .ok (.iconst k, 1)) (hv : Int32.ofInt k = v) (h : nG E d y (pc + 1) lx (.int v :: ST) ws Q) : nG E d y pc lx ST ws Q := by
  subst hv
  exact n_nx hd (fun LV _ => ⟨rfl, rfl⟩) h
theorem n_bi {k : Int} {v : Int32} (hd : decode (mj_b y) pc = .ok (.bipush k, 2)) (hv : (Int8.ofInt k).toInt32 = v) (h : nG E d y (pc + 2) lx (.int v :: ST) ws Q) : nG E d y pc lx ST ws Q := by
  subst hv
  exact n_nx hd (fun LV _ => ⟨rfl, rfl⟩) h
theorem n_lk {k : Fin 2} {v : Int64} (hd : decode (mj_b y) pc = .ok (.lconst k, 1)) (hv : Int64.ofNat (k : Nat) = v) (h : nG E d y (pc + 1) lx (.long v :: ST) ws Q) : nG E d y pc lx ST ws Q := by
  subst hv
  exact n_nx hd (fun LV _ => ⟨rfl, rfl⟩) h
theorem n_ldl {ix : Nat} {v : Int} (hd : decode (mj_b y) pc = .ok (.ldc2_w ix, 3)) (hq : (mj_fkl (mj_cn y) ix).any (fun q => q.2.2.1 == 1 && q.2.2.2.1 == v) = true) (h : nG E d y (pc + 3) lx (.long (Int64.ofInt v) :: ST) ws Q) : nG E d y pc lx ST ws Q := by
  cases hm : mj_fkl (mj_cn y) ix with
  | none => rw [hm] at hq; cases hq
  | some q =>
    rw [hm] at hq
    have m := mj_find hm
    obtain ⟨a, b, kd, v2, pl⟩ := q
    simp only [Option.any_some, Bool.and_eq_true, beq_iff_eq] at hq
    obtain ⟨rfl, rfl⟩ := hq
    exact n_nx hd (fun LV _ => ⟨rfl, v2, pl, m, rfl⟩) h
theorem n_gf {ix q0 a ci k : Nat} {fs : List Value} {v : Value} (hd : decode (mj_b y) pc = .ok (.getfield ix, 3)) (hq : (mj_ffl (mj_cn y) ix).any (fun q => q.2.2.1 == ci && q.2.2.2.1 == k) = true) (hw : ws[q0]? = some (a, .inr (ci, fs))) (hv : fs[k]? = some v) (h : nG E d y (pc + 3) lx (v :: ST) ws Q) : nG E d y pc lx (.ref a :: ST) ws Q := by
  cases hm : mj_ffl (mj_cn y) ix with
  | none => rw [hm] at hq; cases hq
  | some q =>
    rw [hm] at hq
    have m := mj_find hm
    obtain ⟨a1, b, c2, k2, pl⟩ := q
    simp only [Option.any_some, Bool.and_eq_true, beq_iff_eq] at hq
    obtain ⟨rfl, rfl⟩ := hq
    exact n_nx hd (fun LV _ => ⟨rfl, a, ST, rfl, Or.inl ⟨c2, k2, pl, q0, fs, v, m, hw, hv, rfl⟩⟩) h
theorem n_iadd {a b c : Int32} (hd : decode (mj_b y) pc = .ok (.iadd, 1)) (hc : a + b = c) (h : nG E d y (pc + 1) lx (.int c :: ST) ws Q) : nG E d y pc lx (.int b :: .int a :: ST) ws Q := by
  subst hc
  exact n_nx hd (fun LV _ => ⟨rfl, a, b, ST, rfl, rfl⟩) h
theorem n_isub {a b c : Int32} (hd : decode (mj_b y) pc = .ok (.isub, 1)) (hc : a - b = c) (h : nG E d y (pc + 1) lx (.int c :: ST) ws Q) : nG E d y pc lx (.int b :: .int a :: ST) ws Q := by
  subst hc
  exact n_nx hd (fun LV _ => ⟨rfl, a, b, ST, rfl, rfl⟩) h
theorem n_imul {a b c : Int32} (hd : decode (mj_b y) pc = .ok (.imul, 1)) (hc : a * b = c) (h : nG E d y (pc + 1) lx (.int c :: ST) ws Q) : nG E d y pc lx (.int b :: .int a :: ST) ws Q := by
  subst hc
  exact n_nx hd (fun LV _ => ⟨rfl, a, b, ST, rfl, rfl⟩) h
theorem n_iand {a b c : Int32} (hd : decode (mj_b y) pc = .ok (.iand, 1)) (hc : a &&& b = c) (h : nG E d y (pc + 1) lx (.int c :: ST) ws Q) : nG E d y pc lx (.int b :: .int a :: ST) ws Q := by
  subst hc
  exact n_nx hd (fun LV _ => ⟨rfl, a, b, ST, rfl, rfl⟩) h
theorem n_ishl {a b c : Int32} (hd : decode (mj_b y) pc = .ok (.ishl, 1)) (hc : a <<< (b &&& 31) = c) (h : nG E d y (pc + 1) lx (.int c :: ST) ws Q) : nG E d y pc lx (.int b :: .int a :: ST) ws Q := by
  subst hc
  exact n_nx hd (fun LV _ => ⟨rfl, a, b, ST, rfl, rfl⟩) h
theorem n_ishr {a b c : Int32} (hd : decode (mj_b y) pc = .ok (.ishr, 1)) (hc : a >>> (b &&& 31) = c) (h : nG E d y (pc + 1) lx (.int c :: ST) ws Q) : nG E d y pc lx (.int b :: .int a :: ST) ws Q := by
  subst hc
  exact n_nx hd (fun LV _ => ⟨rfl, a, b, ST, rfl, rfl⟩) h
theorem n_i2l {a : Int32} {c : Int64} (hd : decode (mj_b y) pc = .ok (.i2l, 1)) (hc : a.toInt64 = c) (h : nG E d y (pc + 1) lx (.long c :: ST) ws Q) : nG E d y pc lx (.int a :: ST) ws Q := by
  subst hc
  exact n_nx hd (fun LV _ => ⟨rfl, a, ST, rfl, rfl⟩) h
theorem n_l2i {a : Int64} {c : Int32} (hd : decode (mj_b y) pc = .ok (.l2i, 1)) (hc : a.toInt32 = c) (h : nG E d y (pc + 1) lx (.int c :: ST) ws Q) : nG E d y pc lx (.long a :: ST) ws Q := by
  subst hc
  exact n_nx hd (fun LV _ => ⟨rfl, a, ST, rfl, rfl⟩) h
theorem n_ladd {a b c : Int64} (hd : decode (mj_b y) pc = .ok (.ladd, 1)) (hc : a + b = c) (h : nG E d y (pc + 1) lx (.long c :: ST) ws Q) : nG E d y pc lx (.long b :: .long a :: ST) ws Q := by
  subst hc
  exact n_nx hd (fun LV _ => ⟨rfl, a, b, ST, rfl, rfl⟩) h
theorem n_land {a b c : Int64} (hd : decode (mj_b y) pc = .ok (.land, 1)) (hc : a &&& b = c) (h : nG E d y (pc + 1) lx (.long c :: ST) ws Q) : nG E d y pc lx (.long b :: .long a :: ST) ws Q := by
  subst hc
  exact n_nx hd (fun LV _ => ⟨rfl, a, b, ST, rfl, rfl⟩) h
theorem n_lshl {a c : Int64} {b : Int32} (hd : decode (mj_b y) pc = .ok (.lshl, 1)) (hc : a <<< (b.toInt64 &&& 63) = c) (h : nG E d y (pc + 1) lx (.long c :: ST) ws Q) : nG E d y pc lx (.int b :: .long a :: ST) ws Q := by
  subst hc
  exact n_nx hd (fun LV _ => ⟨rfl, a, b, ST, rfl, rfl⟩) h
theorem n_lshr {a c : Int64} {b : Int32} (hd : decode (mj_b y) pc = .ok (.lshr, 1)) (hc : a >>> (b.toInt64 &&& 63) = c) (h : nG E d y (pc + 1) lx (.long c :: ST) ws Q) : nG E d y pc lx (.int b :: .long a :: ST) ws Q := by
  subst hc
  exact n_nx hd (fun LV _ => ⟨rfl, a, b, ST, rfl, rfl⟩) h
theorem n_lcmp {a b : Int64} {c : Int32} (hd : decode (mj_b y) pc = .ok (.lcmp, 1)) (hc : lg_cmp a b = c) (h : nG E d y (pc + 1) lx (.int c :: ST) ws Q) : nG E d y pc lx (.long b :: .long a :: ST) ws Q := by
  subst hc
  exact n_nx hd (fun LV _ => ⟨rfl, a, b, ST, rfl, rfl⟩) h
theorem n_ifT {c : ClassFile.Cond} {off : Int} {v : Int32} {tg : Nat} (hd : decode (mj_b y) pc = .ok (.ifCond c off, 3)) (hg : mj_go pc off tg) (hc : mj_c1 c v 0) (h : nG E d y tg lx ST ws Q) : nG E d y pc lx (.int v :: ST) ws Q := n_nx hd (fun LV _ => ⟨rfl, v, ST, tg, rfl, hg, Or.inl ⟨hc, rfl⟩⟩) h
theorem n_ifF {c : ClassFile.Cond} {off : Int} {v : Int32} {tg : Nat} (hd : decode (mj_b y) pc = .ok (.ifCond c off, 3)) (hg : mj_go pc off tg) (hc : ¬ mj_c1 c v 0) (h : nG E d y (pc + 3) lx ST ws Q) : nG E d y pc lx (.int v :: ST) ws Q := n_nx hd (fun LV _ => ⟨rfl, v, ST, tg, rfl, hg, Or.inr ⟨hc, rfl⟩⟩) h
theorem n_icT {c : ClassFile.Cond} {off : Int} {a b : Int32} {tg : Nat} (hd : decode (mj_b y) pc = .ok (.if_icmp c off, 3)) (hg : mj_go pc off tg) (hc : mj_c1 c a b) (h : nG E d y tg lx ST ws Q) : nG E d y pc lx (.int b :: .int a :: ST) ws Q := n_nx hd (fun LV _ => ⟨rfl, a, b, ST, tg, rfl, hg, Or.inl ⟨hc, rfl⟩⟩) h
theorem n_icF {c : ClassFile.Cond} {off : Int} {a b : Int32} {tg : Nat} (hd : decode (mj_b y) pc = .ok (.if_icmp c off, 3)) (hg : mj_go pc off tg) (hc : ¬ mj_c1 c a b) (h : nG E d y (pc + 3) lx ST ws Q) : nG E d y pc lx (.int b :: .int a :: ST) ws Q := n_nx hd (fun LV _ => ⟨rfl, a, b, ST, tg, rfl, hg, Or.inr ⟨hc, rfl⟩⟩) h
theorem n_goto {off : Int} {tg : Nat} (hd : decode (mj_b y) pc = .ok (.goto off, 3)) (hg : mj_go pc off tg) (h : nG E d y tg lx ST ws Q) : nG E d y pc lx ST ws Q := n_nx hd (fun LV _ => ⟨rfl, tg, hg, rfl⟩) h
theorem s1_mono {LV : List (Nat × Value)} {k : Nat} {v : Value} (h : ∀ q ∈ lx, q ∈ LV) : ∀ q ∈ mj_s1 lx k v, q ∈ mj_s1 LV k v := by
  intro q hq
  rcases List.mem_cons.mp hq with rfl | hq
  · exact List.mem_cons_self
  · obtain ⟨h1, h2⟩ := List.mem_filter.mp hq
    exact List.mem_cons_of_mem _ (List.mem_filter.mpr ⟨h q h1, h2⟩)
theorem s2_mono {LV : List (Nat × Value)} {k : Nat} {v : Value} (h : ∀ q ∈ lx, q ∈ LV) : ∀ q ∈ mj_s2 lx k v, q ∈ mj_s2 LV k v := by
  intro q hq
  rcases List.mem_cons.mp hq with rfl | hq
  · exact List.mem_cons_self
  · obtain ⟨h1, h2⟩ := List.mem_filter.mp hq
    exact List.mem_cons_of_mem _ (List.mem_filter.mpr ⟨h q h1, h2⟩)
theorem n_is {k : Nat} {v : Int32} (hd : decode (mj_b y) pc = .ok (.istore k, 2)) (hk : k < mj_l y) (h : nG E d y (pc + 2) (mj_s1 lx k (.int v)) ST ws Q) : nG E d y pc lx (.int v :: ST) ws Q := fun LV hL => MJ.nx hd ⟨rfl, hk, v, ST, rfl, rfl⟩ (h _ (s1_mono hL))
theorem n_isn {k : Fin 4} {v : Int32} (hd : decode (mj_b y) pc = .ok (.istore_n k, 1)) (hk : (k : Nat) < mj_l y) (h : nG E d y (pc + 1) (mj_s1 lx k (.int v)) ST ws Q) : nG E d y pc lx (.int v :: ST) ws Q := fun LV hL => MJ.nx hd ⟨rfl, hk, v, ST, rfl, rfl⟩ (h _ (s1_mono hL))
theorem n_ls {k : Nat} {v : Int64} (hd : decode (mj_b y) pc = .ok (.lstore k, 2)) (hk : k + 1 < mj_l y) (h : nG E d y (pc + 2) (mj_s2 lx k (.long v)) ST ws Q) : nG E d y pc lx (.long v :: ST) ws Q := fun LV hL => MJ.nx hd ⟨rfl, hk, v, ST, rfl, rfl⟩ (h _ (s2_mono hL))
theorem n_lsn {k : Fin 4} {v : Int64} (hd : decode (mj_b y) pc = .ok (.lstore_n k, 1)) (hk : (k : Nat) + 1 < mj_l y) (h : nG E d y (pc + 1) (mj_s2 lx k (.long v)) ST ws Q) : nG E d y pc lx (.long v :: ST) ws Q := fun LV hL => MJ.nx hd ⟨rfl, hk, v, ST, rfl, rfl⟩ (h _ (s2_mono hL))
theorem n_inc {k : Nat} {c : Int} {v v2 : Int32} (hd : decode (mj_b y) pc = .ok (.iinc k c, 3)) (hk : k < mj_l y) (hm : (k, Value.int v) ∈ lx) (hv : v + Int32.ofInt c = v2) (h : nG E d y (pc + 3) (mj_s1 lx k (.int v2)) ST ws Q) : nG E d y pc lx ST ws Q := by
  subst hv
  exact fun LV hL => MJ.nx hd ⟨rfl, hk, v, hL _ hm, rfl⟩ (h _ (s1_mono hL))
theorem n_reti {v : Int32} {ty : FieldType} (hd : decode (mj_b y) pc = .ok (.ireturn, 1)) (hr : mj_r y = some ty) (hn : narrow ty (.int v) = .int v) (h : Q (some (.int v)) ws) : nG E d y pc lx [.int v] ws Q := fun _ _ => MJ.rt hd ⟨rfl, v, ty, rfl, hr, hn, rfl⟩ h
theorem n_retl {v : Int64} (hd : decode (mj_b y) pc = .ok (.lreturn, 1)) (hr : mj_r y = some .long) (h : Q (some (.long v)) ws) : nG E d y pc lx [.long v] ws Q := fun _ _ => MJ.rt hd ⟨rfl, v, rfl, hr, rfl⟩ h
/-- a call of an object's method; what it leaves alone is the world -/
theorem n_cv {ix y2 q0 ci a : Nat} {fs as rest : List Value} {x : Value} (hd : decode (mj_b y) pc = .ok (.invokevirtual ix, 3)) (hq : (mj_fml (mj_cn y) ix).any (fun q => q.2.2.1 == 0 && q.2.2.2.1 == y2) = true) (hs : ST = as.reverse ++ .ref a :: rest) (hc : mj_callee y2 (.ref a :: as) rest ((mj_m y2).2.2.2.2.2.2 + 1))
    (hw : ws[q0]? = some (a, .inr (ci, fs))) (hci : mj_cls ci = (mj_y y2).cls ∧ ci < 7) (hM : MJ E d 0 0 (mj_in0 y2 (.ref a :: as) ws) (fun v w => v = some x ∧ w = ws)) (h : nG E (d + 1) y (pc + 3) lx (x :: rest) ws Q) : nG E (d + 1) y pc lx ST ws Q := by
  subst hs
  cases hm : mj_fml (mj_cn y) ix with
  | none => rw [hm] at hq; cases hq
  | some q =>
    rw [hm] at hq
    have m := mj_find hm
    obtain ⟨a1, b, kd, y3, pl⟩ := q
    simp only [Option.any_some, Bool.and_eq_true, beq_iff_eq] at hq
    obtain ⟨rfl, rfl⟩ := hq
    intro LV hL
    refine MJ.cl hd (y2 := y3) (as := .ref a :: as) (rest := rest) ⟨rfl, y3, pl, as, a, rest, m, rfl, hc, Or.inl ⟨q0, ci, fs, hw, hci⟩, rfl⟩ (d2 := d) (mc2 := 0) (ms2 := 0) (mc3 := 0) (ms3 := 0) rfl rfl rfl hM (fun v w hv => ?_)
    obtain ⟨rfl, rfl⟩ := hv
    exact h LV hL
/-- a call of a class's method -/
theorem n_cs {ix y2 : Nat} {as rest : List Value} {x : Value} (hd : decode (mj_b y) pc = .ok (.invokestatic ix, 3)) (hq : (mj_fml (mj_cn y) ix).any (fun q => (q.2.2.1 == 1 || q.2.2.1 == 4) && q.2.2.2.1 == y2) = true) (hs : ST = as.reverse ++ rest) (hc : mj_callee y2 as rest (mj_m y2).2.2.2.2.2.2)
    (hM : MJ E d 0 0 (mj_in0 y2 as ws) (fun v w => v = some x ∧ w = ws)) (h : nG E (d + 1) y (pc + 3) lx (x :: rest) ws Q) : nG E (d + 1) y pc lx ST ws Q := by
  subst hs
  cases hm : mj_fml (mj_cn y) ix with
  | none => rw [hm] at hq; cases hq
  | some q =>
    rw [hm] at hq
    have m := mj_find hm
    obtain ⟨a1, b, kd, y3, pl⟩ := q
    simp only [Option.any_some, Bool.and_eq_true, Bool.or_eq_true, beq_iff_eq] at hq
    obtain ⟨hk, rfl⟩ := hq
    intro LV hL
    refine MJ.cl hd (y2 := y3) (as := as) (rest := rest) ⟨rfl, Or.inl ⟨y3, pl, as, rest, ?_, rfl, hc, rfl⟩⟩ (d2 := d) (mc2 := 0) (ms2 := 0) (mc3 := 0) (ms3 := 0) rfl rfl rfl hM (fun v w hv => ?_)
    · rcases hk with rfl | rfl
      · exact Or.inl m
      · exact Or.inr m
    · obtain ⟨rfl, rfl⟩ := hv
      exact h LV hL
end NG
/-! VOYAGES: what a set of them costs and brings -/
def vs_c (A : Nat → Nat) (s : Nat) : Nat → Nat
  | 0 => 0
  | k + 1 => vs_c A s k + (if s.testBit k then A (3 * k) else 0)
def vs_r (A : Nat → Nat) (s r : Nat) : Nat → Nat
  | 0 => 0
  | k + 1 => vs_r A s r k + (if s.testBit k then (if A (3 * k + 2) = r then A (3 * k + 1) else 0) else 0)
def vs_w (A : Nat → Nat) (s : Nat) : Nat → Nat
  | 0 => 0
  | k + 1 => vs_w A s k + (if s.testBit k then A (3 * k + 1) * 2 ^ (8 * (3 - A (3 * k + 2))) else 0)
def vs_B (A : Nat → Nat) : Prop := ∀ k, k < 8 → A (3 * k) ≤ 999 ∧ A (3 * k + 1) ≤ 9 ∧ A (3 * k + 2) ≤ 3
theorem vs_cb {A : Nat → Nat} {s : Nat} (h : vs_B A) : ∀ {k : Nat}, k ≤ 8 → vs_c A s k ≤ 999 * k
  | 0, _ => by unfold vs_c; omega
  | k + 1, hk => by
    have h1 := vs_cb (s := s) h (k := k) (by omega)
    have h2 := h k (by omega)
    unfold vs_c
    split <;> omega
theorem vs_rb {A : Nat → Nat} {s r : Nat} (h : vs_B A) : ∀ {k : Nat}, k ≤ 8 → vs_r A s r k ≤ 9 * k
  | 0, _ => by unfold vs_r; omega
  | k + 1, hk => by
    have h1 := vs_rb (s := s) (r := r) h (k := k) (by omega)
    have h2 := h k (by omega)
    unfold vs_r
    split
    · split <;> omega
    · omega
/-- the four ranks, each in a byte of its own -/
theorem vs_wr {A : Nat → Nat} {s : Nat} (h : vs_B A) : ∀ {k : Nat}, k ≤ 8 → vs_w A s k = vs_r A s 0 k * 16777216 + vs_r A s 1 k * 65536 + vs_r A s 2 k * 256 + vs_r A s 3 k
  | 0, _ => by simp [vs_w, vs_r]
  | k + 1, hk => by
    have h1 := vs_wr (s := s) h (k := k) (by omega)
    have h2 := h k (by omega)
    unfold vs_w vs_r
    rw [h1]
    by_cases hb : s.testBit k = true
    · rw [if_pos hb, if_pos hb, if_pos hb, if_pos hb, if_pos hb]
      rcases (by omega : A (3 * k + 2) = 0 ∨ A (3 * k + 2) = 1 ∨ A (3 * k + 2) = 2 ∨ A (3 * k + 2) = 3) with e | e | e | e <;> (rw [e]; simp; omega)
    · rw [if_neg hb, if_neg hb, if_neg hb, if_neg hb, if_neg hb]
      omega
theorem vs_wb {A : Nat → Nat} {s : Nat} (h : vs_B A) {k : Nat} (hk : k ≤ 8) : vs_w A s k < 2147483648 := by
  have h0 := vs_rb (s := s) (r := 0) h hk
  have h1 := vs_rb (s := s) (r := 1) h hk
  have h2 := vs_rb (s := s) (r := 2) h hk
  have h3 := vs_rb (s := s) (r := 3) h hk
  rw [vs_wr h hk]
  omega
/-- whether a set is left out for the best so far -/
def vs_no (C Wt : Nat → Nat) (coin j b : Nat) : Prop := coin < C j ∨ Wt j < Wt b ∨ (Wt j = Wt b ∧ C b ≤ C j)
def vs_bb (C Wt : Nat → Nat) (coin : Nat) : Nat → Nat
  | 0 => 0
  | j + 1 => if coin < C (j + 1) ∨ Wt (j + 1) < Wt (vs_bb C Wt coin j) ∨ (Wt (j + 1) = Wt (vs_bb C Wt coin j) ∧ C (vs_bb C Wt coin j) ≤ C (j + 1)) then vs_bb C Wt coin j else j + 1
theorem vs_bbb {C Wt : Nat → Nat} {coin : Nat} : ∀ {j : Nat}, vs_bb C Wt coin j ≤ j
  | 0 => Nat.le_refl _
  | j + 1 => by
    have := vs_bbb (C := C) (Wt := Wt) (coin := coin) (j := j)
    unfold vs_bb
    split <;> omega
section
set_option maxRecDepth 100000
theorem vs_bit : ∀ s, s < 256 → ∀ k, k < 8 → (nI s >>> (nI k &&& 31)) &&& nI 1 = nI (if s.testBit k then 1 else 0) := by decide +kernel
theorem vs_one : ∀ n, n < 9 → nI 1 <<< (nI n &&& 31) = nI (2 ^ n) := by decide +kernel
theorem vs_sh : ∀ r, r < 4 → nI 8 * (nI 3 - nI r) = nI (8 * (3 - r)) := by decide +kernel
theorem vs_shl : ∀ b, b < 10 → ∀ r, r < 4 → lN b <<< ((nI (8 * (3 - r))).toInt64 &&& 63) = lN (b * 2 ^ (8 * (3 - r))) := by decide +kernel
theorem vs_sm : ∀ r, r < 4 → ((nI (8 * (3 - r))).toInt64 &&& 63).toBitVec.smod 64 = BitVec.ofNat 64 (8 * (3 - r)) := by decide +kernel
end
theorem vs_shr {a d : Nat} {D : Int64} (hD : (D.toBitVec.smod 64).toNat = d) (h : a < 2147483648) : lN a >>> D = lN (a / 2 ^ d) := by
  have hd : a / 2 ^ d ≤ a := Nat.div_le_self _ _
  apply Int64.toInt_inj.mp
  have e : (lN a >>> D).toInt = (lN a).toInt >>> d := by
    rw [← hD]
    exact BitVec.toInt_sshiftRight ..
  rw [e, Int.shiftRight_eq_div_pow, lN_toInt (by omega), lN_toInt (by omega)]
  rfl
theorem vs_and {a : Nat} (h : a < 2147483648) : lN a &&& lN 255 = lN (a % 256) := by
  have hc : a &&& 255 = a % 256 := Nat.and_two_pow_sub_one_eq_mod a 8
  have t : ∀ {n : Nat}, n < 2 ^ 64 → (UInt64.ofNat n).toNat = n := fun h => Nat.mod_eq_of_lt h
  have h1 : UInt64.ofNat a &&& UInt64.ofNat 255 = UInt64.ofNat (a &&& 255) := UInt64.toNat_inj.mp (by rw [UInt64.toNat_and, t (by omega), t (by omega), t (by rw [hc]; omega)])
  have h2 := congrArg UInt64.toInt64 h1
  rw [hc] at h2
  exact h2
section YC
variable {E : mj_E} {Q : Option Value → va_W → Prop} {al : List Nat} {ws : va_W} {a0 a1 a36 n : Nat} {f0 f1 f36 : List Value} {A : Nat → Nat}
theorem nG.in0 {d y : Nat} {as : List Value} (h : nG E d y 0 (lv_args 0 as) [] ws Q) : MJ E d 0 0 (mj_in0 y as ws) Q := h _ (fun _ h => h)
/-- the component's lists of voyages -/
def vw (E : mj_E) (ws : va_W) (a0 a1 a36 : Nat) (f0 f1 f36 : List Value) (n : Nat) (A : Nat → Nat) : Prop :=
  (ws[0]? = some (a0, .inr (5, f0)) ∧ f0[0]? = some (.ref a1)) ∧ (ws[1]? = some (a1, .inr (0, f1)) ∧ f1[19]? = some (.ref a36)) ∧ (ws[36]? = some (a36, .inr (2, f36)) ∧ f36[3]? = some (.int (nI n))) ∧ n ≤ 8 ∧ vs_B A ∧
  ∀ i c, i < 8 → c < 3 → MJ E 80 0 0 (mj_in0 25 [.ref a36, .int (nI i), .int (nI c)] ws) (fun v w => v = some (.int (nI (A (3 * i + c)))) ∧ w = ws)
theorem sh_mj {r : Nat} (hr : r < 4) : MJ E 80 0 0 (mj_in0 150 [.int (nI r)] ws) (fun v w => v = some (.int (nI (8 * (3 - r)))) ∧ w = ws) := by
  refine nG.in0 ?_
  show nG E 80 150 0 [(0, .int (nI r))] [] ws _
  refine n_bi (k := 8) (v := nI 8) (by decide +kernel) (by decide) ?_
  refine n_k (k := 3) (v := nI 3) (by decide +kernel) (by decide) ?_
  refine n_iln (k := 0) (by decide +kernel) List.mem_cons_self ?_
  refine n_isub (c := nI 3 - nI r) (by decide +kernel) rfl ?_
  refine n_imul (c := nI (8 * (3 - r))) (by decide +kernel) (vs_sh r hr) ?_
  exact n_reti (ty := .int) (by decide +kernel) (by decide +kernel) rfl ⟨rfl, rfl⟩
/-- costOf, its loop -/
theorem co_go (hv : vw E ws a0 a1 a36 f0 f1 f36 n A) {s : Nat} (hs : s < 256) (hQ : Q (some (.int (nI (vs_c A s n)))) ws) : ∀ (m i : Nat), i + m = n → nG E 81 148 4 [(0, .ref a1), (1, .int (nI s)), (2, .int (nI (vs_c A s i))), (3, .int (nI i))] [] ws Q := by
  have hv0 := hv
  obtain ⟨⟨h0, h0b⟩, ⟨h1, h1b⟩, ⟨h36, h36b⟩, hn, hB, hG⟩ := hv
  intro m
  induction m with
  | zero =>
    intro i hi
    have e : i = n := by omega
    subst e
    refine n_iln (k := 3) (by decide +kernel) (List.mem_cons_of_mem _ (List.mem_cons_of_mem _ (List.mem_cons_of_mem _ List.mem_cons_self))) ?_
    refine n_al (k := 0) (by decide +kernel) List.mem_cons_self ?_
    refine n_gf (ix := 75) (ci := 0) (k := 19) (by decide +kernel) (by decide +kernel) h1 h1b ?_
    refine n_gf (ix := 98) (ci := 2) (k := 3) (by decide +kernel) (by decide +kernel) h36 h36b ?_
    refine n_icT (c := .ge) (off := 30) (tg := 42) (by decide +kernel) (by unfold mj_go; decide) (nI_le (Nat.le_refl _) (by omega)) ?_
    refine n_iln (k := 2) (by decide +kernel) (List.mem_cons_of_mem _ (List.mem_cons_of_mem _ List.mem_cons_self)) ?_
    exact n_reti (ty := .int) (by decide +kernel) (by decide +kernel) rfl hQ
  | succ m ih =>
    intro i hi
    have hb := hB i (by omega)
    have hc := vs_cb (s := s) hB (k := i) (by omega)
    have st : vs_c A s (i + 1) = vs_c A s i + (if s.testBit i then A (3 * i) else 0) := rfl
    have bit := vs_bit s hs i (by omega)
    have nx := ih (i + 1) (by omega)
    rw [st] at nx
    refine n_iln (k := 3) (by decide +kernel) (List.mem_cons_of_mem _ (List.mem_cons_of_mem _ (List.mem_cons_of_mem _ List.mem_cons_self))) ?_
    refine n_al (k := 0) (by decide +kernel) List.mem_cons_self ?_
    refine n_gf (ix := 75) (ci := 0) (k := 19) (by decide +kernel) (by decide +kernel) h1 h1b ?_
    refine n_gf (ix := 98) (ci := 2) (k := 3) (by decide +kernel) (by decide +kernel) h36 h36b ?_
    refine n_icF (c := .ge) (off := 30) (tg := 42) (by decide +kernel) (by unfold mj_go; decide) (nI_ge (show i < n by omega) (by omega)) ?_
    refine n_iln (k := 1) (by decide +kernel) (List.mem_cons_of_mem _ List.mem_cons_self) ?_
    refine n_iln (k := 3) (by decide +kernel) (List.mem_cons_of_mem _ (List.mem_cons_of_mem _ (List.mem_cons_of_mem _ List.mem_cons_self))) ?_
    refine n_ishr (c := nI s >>> (nI i &&& 31)) (by decide +kernel) rfl ?_
    refine n_k (k := 1) (v := nI 1) (by decide +kernel) (by decide) ?_
    refine n_iand (c := nI (if s.testBit i then 1 else 0)) (by decide +kernel) bit ?_
    refine n_k (k := 1) (v := nI 1) (by decide +kernel) (by decide) ?_
    by_cases hbt : s.testBit i = true
    · rw [if_pos hbt] at nx ⊢
      show nG E 81 148 21 [(0, .ref a1), (1, .int (nI s)), (2, .int (nI (vs_c A s i))), (3, .int (nI i))] [.int (nI 1), .int (nI 1)] ws _
      refine n_icF (c := .ne) (off := 15) (tg := 36) (by decide +kernel) (by unfold mj_go; decide) (fun h => h rfl) ?_
      refine n_iln (k := 2) (by decide +kernel) (List.mem_cons_of_mem _ (List.mem_cons_of_mem _ List.mem_cons_self)) ?_
      refine n_al (k := 0) (by decide +kernel) List.mem_cons_self ?_
      refine n_gf (ix := 75) (ci := 0) (k := 19) (by decide +kernel) (by decide +kernel) h1 h1b ?_
      refine n_iln (k := 3) (by decide +kernel) (List.mem_cons_of_mem _ (List.mem_cons_of_mem _ (List.mem_cons_of_mem _ List.mem_cons_self))) ?_
      refine n_k (k := 0) (v := nI 0) (by decide +kernel) (by decide) ?_
      refine n_cv (ix := 105) (y2 := 25) (as := [.int (nI i), .int (nI 0)]) (rest := [.int (nI (vs_c A s i))]) (x := .int (nI (A (3 * i + 0)))) (by decide +kernel) (by decide +kernel) rfl ⟨by decide, rfl, (by show 3 ≤ _; decide +kernel), by decide +kernel, (by show 1 + 0 ≤ 8; decide)⟩ h36 ⟨by decide +kernel, by decide⟩ (hG i 0 (by omega) (by decide)) ?_
      refine n_iadd (c := nI (vs_c A s i + A (3 * i))) (by decide +kernel) (nI_add _ _) ?_
      refine n_isn (k := 2) (by decide +kernel) (by decide +kernel) ?_
      show nG E 81 148 36 [(2, .int (nI (vs_c A s i + A (3 * i)))), (0, .ref a1), (1, .int (nI s)), (3, .int (nI i))] [] ws _
      refine n_inc (k := 3) (c := 1) (v2 := nI (i + 1)) (by decide +kernel) (by decide +kernel) (List.mem_cons_of_mem _ (List.mem_cons_of_mem _ (List.mem_cons_of_mem _ List.mem_cons_self))) (nI_1 i) ?_
      show nG E 81 148 39 [(3, .int (nI (i + 1))), (2, .int (nI (vs_c A s i + A (3 * i)))), (0, .ref a1), (1, .int (nI s))] [] ws _
      refine n_goto (off := (-35)) (tg := 4) (by decide +kernel) (by unfold mj_go; decide) ?_
      exact fun LV hL => nx LV (fun q hq => hL q (by simp only [List.mem_cons, List.not_mem_nil, or_false] at hq ⊢; rcases hq with rfl | rfl | rfl | rfl <;> simp))
    · rw [if_neg hbt] at nx ⊢
      show nG E 81 148 21 [(0, .ref a1), (1, .int (nI s)), (2, .int (nI (vs_c A s i))), (3, .int (nI i))] [.int (nI 1), .int (nI 0)] ws _
      refine n_icT (c := .ne) (off := 15) (tg := 36) (by decide +kernel) (by unfold mj_go; decide) (show ¬ nI 0 = nI 1 by decide) ?_
      refine n_inc (k := 3) (c := 1) (v2 := nI (i + 1)) (by decide +kernel) (by decide +kernel) (List.mem_cons_of_mem _ (List.mem_cons_of_mem _ (List.mem_cons_of_mem _ List.mem_cons_self))) (nI_1 i) ?_
      show nG E 81 148 39 [(3, .int (nI (i + 1))), (0, .ref a1), (1, .int (nI s)), (2, .int (nI (vs_c A s i)))] [] ws _
      refine n_goto (off := (-35)) (tg := 4) (by decide +kernel) (by unfold mj_go; decide) ?_
      exact fun LV hL => nx LV (fun q hq => hL q (by simp only [List.mem_cons, List.not_mem_nil, or_false] at hq ⊢; rcases hq with rfl | rfl | rfl | rfl <;> simp))
theorem co_mj (hv : vw E ws a0 a1 a36 f0 f1 f36 n A) {s : Nat} (hs : s < 256) : MJ E 81 0 0 (mj_in0 148 [.ref a1, .int (nI s)] ws) (fun v w => v = some (.int (nI (vs_c A s n))) ∧ w = ws) := by
  refine nG.in0 ?_
  show nG E 81 148 0 [(0, .ref a1), (1, .int (nI s))] [] ws _
  refine n_k (k := 0) (v := nI 0) (by decide +kernel) (by decide) ?_
  refine n_isn (k := 2) (by decide +kernel) (by decide +kernel) ?_
  show nG E 81 148 2 [(2, .int (nI 0)), (0, .ref a1), (1, .int (nI s))] [] ws _
  refine n_k (k := 0) (v := nI 0) (by decide +kernel) (by decide) ?_
  refine n_isn (k := 3) (by decide +kernel) (by decide +kernel) ?_
  show nG E 81 148 4 [(3, .int (nI 0)), (2, .int (nI 0)), (0, .ref a1), (1, .int (nI s))] [] ws _
  exact fun LV hL => co_go hv hs ⟨rfl, rfl⟩ n 0 (by omega) LV (fun q hq => hL q (by simp only [List.mem_cons, List.not_mem_nil, or_false] at hq ⊢; rcases hq with rfl | rfl | rfl | rfl <;> simp [vs_c]))
/-- worthOf, its loop -/
theorem wo_go (hv : vw E ws a0 a1 a36 f0 f1 f36 n A) {s : Nat} (hs : s < 256) (hQ : Q (some (.long (lN (vs_w A s n)))) ws) : ∀ (m i : Nat), i + m = n → nG E 81 149 5 [(0, .ref a1), (1, .int (nI s)), (2, .long (lN (vs_w A s i))), (4, .int (nI i))] [] ws Q := by
  have hv0 := hv
  obtain ⟨⟨h0, h0b⟩, ⟨h1, h1b⟩, ⟨h36, h36b⟩, hn, hB, hG⟩ := hv
  intro m
  induction m with
  | zero =>
    intro i hi
    have e : i = n := by omega
    subst e
    refine n_il (k := 4) (by decide +kernel) (List.mem_cons_of_mem _ (List.mem_cons_of_mem _ (List.mem_cons_of_mem _ List.mem_cons_self))) ?_
    refine n_al (k := 0) (by decide +kernel) List.mem_cons_self ?_
    refine n_gf (ix := 75) (ci := 0) (k := 19) (by decide +kernel) (by decide +kernel) h1 h1b ?_
    refine n_gf (ix := 98) (ci := 2) (k := 3) (by decide +kernel) (by decide +kernel) h36 h36b ?_
    refine n_icT (c := .ge) (off := 49) (tg := 63) (by decide +kernel) (by unfold mj_go; decide) (nI_le (Nat.le_refl _) (by omega)) ?_
    refine n_lln (k := 2) (by decide +kernel) (List.mem_cons_of_mem _ (List.mem_cons_of_mem _ List.mem_cons_self)) ?_
    exact n_retl (by decide +kernel) (by decide +kernel) hQ
  | succ m ih =>
    intro i hi
    have hb := hB i (by omega)
    have st : vs_w A s (i + 1) = vs_w A s i + (if s.testBit i then A (3 * i + 1) * 2 ^ (8 * (3 - A (3 * i + 2))) else 0) := rfl
    have bit := vs_bit s hs i (by omega)
    have nx := ih (i + 1) (by omega)
    rw [st] at nx
    refine n_il (k := 4) (by decide +kernel) (List.mem_cons_of_mem _ (List.mem_cons_of_mem _ (List.mem_cons_of_mem _ List.mem_cons_self))) ?_
    refine n_al (k := 0) (by decide +kernel) List.mem_cons_self ?_
    refine n_gf (ix := 75) (ci := 0) (k := 19) (by decide +kernel) (by decide +kernel) h1 h1b ?_
    refine n_gf (ix := 98) (ci := 2) (k := 3) (by decide +kernel) (by decide +kernel) h36 h36b ?_
    refine n_icF (c := .ge) (off := 49) (tg := 63) (by decide +kernel) (by unfold mj_go; decide) (nI_ge (show i < n by omega) (by omega)) ?_
    refine n_iln (k := 1) (by decide +kernel) (List.mem_cons_of_mem _ List.mem_cons_self) ?_
    refine n_il (k := 4) (by decide +kernel) (List.mem_cons_of_mem _ (List.mem_cons_of_mem _ (List.mem_cons_of_mem _ List.mem_cons_self))) ?_
    refine n_ishr (c := nI s >>> (nI i &&& 31)) (by decide +kernel) rfl ?_
    refine n_k (k := 1) (v := nI 1) (by decide +kernel) (by decide) ?_
    refine n_iand (c := nI (if s.testBit i then 1 else 0)) (by decide +kernel) bit ?_
    by_cases hbt : s.testBit i = true
    · rw [if_pos hbt] at nx ⊢
      show nG E 81 149 23 [(0, .ref a1), (1, .int (nI s)), (2, .long (lN (vs_w A s i))), (4, .int (nI i))] [.int (nI 1)] ws _
      refine n_ifT (c := .ne) (off := 6) (tg := 29) (by decide +kernel) (by unfold mj_go; decide) (show ¬ nI 1 = 0 by decide) ?_
      refine n_lln (k := 2) (by decide +kernel) (List.mem_cons_of_mem _ (List.mem_cons_of_mem _ List.mem_cons_self)) ?_
      refine n_al (k := 0) (by decide +kernel) List.mem_cons_self ?_
      refine n_gf (ix := 75) (ci := 0) (k := 19) (by decide +kernel) (by decide +kernel) h1 h1b ?_
      refine n_il (k := 4) (by decide +kernel) (List.mem_cons_of_mem _ (List.mem_cons_of_mem _ (List.mem_cons_of_mem _ List.mem_cons_self))) ?_
      refine n_k (k := 1) (v := nI 1) (by decide +kernel) (by decide) ?_
      refine n_cv (ix := 105) (y2 := 25) (as := [.int (nI i), .int (nI 1)]) (rest := [.long (lN (vs_w A s i))]) (x := .int (nI (A (3 * i + 1)))) (by decide +kernel) (by decide +kernel) rfl ⟨by decide, rfl, (by show 3 ≤ _; decide +kernel), by decide +kernel, (by show 2 + 0 ≤ 8; decide)⟩ h36 ⟨by decide +kernel, by decide⟩ (hG i 1 (by omega) (by decide)) ?_
      refine n_i2l (c := lN (A (3 * i + 1))) (by decide +kernel) (nI_l (by omega)) ?_
      refine n_al (k := 0) (by decide +kernel) List.mem_cons_self ?_
      refine n_gf (ix := 75) (ci := 0) (k := 19) (by decide +kernel) (by decide +kernel) h1 h1b ?_
      refine n_il (k := 4) (by decide +kernel) (List.mem_cons_of_mem _ (List.mem_cons_of_mem _ (List.mem_cons_of_mem _ List.mem_cons_self))) ?_
      refine n_k (k := 2) (v := nI 2) (by decide +kernel) (by decide) ?_
      refine n_cv (ix := 105) (y2 := 25) (as := [.int (nI i), .int (nI 2)]) (rest := [.long (lN (A (3 * i + 1))), .long (lN (vs_w A s i))]) (x := .int (nI (A (3 * i + 2)))) (by decide +kernel) (by decide +kernel) rfl ⟨by decide, rfl, (by show 3 ≤ _; decide +kernel), by decide +kernel, (by show 2 + 2 + 0 ≤ 8; decide)⟩ h36 ⟨by decide +kernel, by decide⟩ (hG i 2 (by omega) (by decide)) ?_
      refine n_cs (ix := 195) (y2 := 150) (as := [.int (nI (A (3 * i + 2)))]) (rest := [.long (lN (A (3 * i + 1))), .long (lN (vs_w A s i))]) (x := .int (nI (8 * (3 - A (3 * i + 2))))) (by decide +kernel) (by decide +kernel) rfl ⟨by decide, rfl, (by show 1 ≤ _; decide +kernel), by decide +kernel, (by show 2 + 2 + 0 ≤ 8; decide)⟩ (sh_mj (by omega)) ?_
      refine n_lshl (c := lN (A (3 * i + 1) * 2 ^ (8 * (3 - A (3 * i + 2))))) (by decide +kernel) (vs_shl _ (by omega) _ (by omega)) ?_
      refine n_ladd (c := lN (vs_w A s i + A (3 * i + 1) * 2 ^ (8 * (3 - A (3 * i + 2))))) (by decide +kernel) (lN_add _ _) ?_
      refine n_lsn (k := 2) (by decide +kernel) (by decide +kernel) ?_
      show nG E 81 149 57 [(2, .long (lN (vs_w A s i + A (3 * i + 1) * 2 ^ (8 * (3 - A (3 * i + 2)))))), (0, .ref a1), (1, .int (nI s)), (4, .int (nI i))] [] ws _
      refine n_inc (k := 4) (c := 1) (v2 := nI (i + 1)) (by decide +kernel) (by decide +kernel) (List.mem_cons_of_mem _ (List.mem_cons_of_mem _ (List.mem_cons_of_mem _ List.mem_cons_self))) (nI_1 i) ?_
      show nG E 81 149 60 [(4, .int (nI (i + 1))), (2, .long (lN (vs_w A s i + A (3 * i + 1) * 2 ^ (8 * (3 - A (3 * i + 2)))))), (0, .ref a1), (1, .int (nI s))] [] ws _
      refine n_goto (off := (-55)) (tg := 5) (by decide +kernel) (by unfold mj_go; decide) ?_
      exact fun LV hL => nx LV (fun q hq => hL q (by simp only [List.mem_cons, List.not_mem_nil, or_false] at hq ⊢; rcases hq with rfl | rfl | rfl | rfl <;> simp))
    · rw [if_neg hbt] at nx ⊢
      show nG E 81 149 23 [(0, .ref a1), (1, .int (nI s)), (2, .long (lN (vs_w A s i))), (4, .int (nI i))] [.int (nI 0)] ws _
      refine n_ifF (c := .ne) (off := 6) (tg := 29) (by decide +kernel) (by unfold mj_go; decide) (fun h => h (by decide)) ?_
      refine n_goto (off := 31) (tg := 57) (by decide +kernel) (by unfold mj_go; decide) ?_
      refine n_inc (k := 4) (c := 1) (v2 := nI (i + 1)) (by decide +kernel) (by decide +kernel) (List.mem_cons_of_mem _ (List.mem_cons_of_mem _ (List.mem_cons_of_mem _ List.mem_cons_self))) (nI_1 i) ?_
      show nG E 81 149 60 [(4, .int (nI (i + 1))), (0, .ref a1), (1, .int (nI s)), (2, .long (lN (vs_w A s i)))] [] ws _
      refine n_goto (off := (-55)) (tg := 5) (by decide +kernel) (by unfold mj_go; decide) ?_
      exact fun LV hL => nx LV (fun q hq => hL q (by simp only [List.mem_cons, List.not_mem_nil, or_false] at hq ⊢; rcases hq with rfl | rfl | rfl | rfl <;> simp))
theorem wo_mj (hv : vw E ws a0 a1 a36 f0 f1 f36 n A) {s : Nat} (hs : s < 256) : MJ E 81 0 0 (mj_in0 149 [.ref a1, .int (nI s)] ws) (fun v w => v = some (.long (lN (vs_w A s n))) ∧ w = ws) := by
  refine nG.in0 ?_
  show nG E 81 149 0 [(0, .ref a1), (1, .int (nI s))] [] ws _
  refine n_lk (k := 0) (v := lN 0) (by decide +kernel) rfl ?_
  refine n_lsn (k := 2) (by decide +kernel) (by decide +kernel) ?_
  show nG E 81 149 2 [(2, .long (lN 0)), (0, .ref a1), (1, .int (nI s))] [] ws _
  refine n_k (k := 0) (v := nI 0) (by decide +kernel) (by decide) ?_
  refine n_is (k := 4) (by decide +kernel) (by decide +kernel) ?_
  show nG E 81 149 5 [(4, .int (nI 0)), (2, .long (lN 0)), (0, .ref a1), (1, .int (nI s))] [] ws _
  exact fun LV hL => wo_go hv hs ⟨rfl, rfl⟩ n 0 (by omega) LV (fun q hq => hL q (by simp only [List.mem_cons, List.not_mem_nil, or_false] at hq ⊢; rcases hq with rfl | rfl | rfl | rfl <;> simp [vs_w]))
/-- bestVoyages, its loop: j sets are looked at -/
theorem bv_go (hv : vw E ws a0 a1 a36 f0 f1 f36 n A) {coin : Nat} (hc : coin ≤ 99999) (hQ : Q (some (.int (nI (vs_bb (fun s => vs_c A s n) (fun s => vs_w A s n) coin (2 ^ n - 1))))) ws) : ∀ (m j b : Nat), j + m = 2 ^ n - 1 → vs_bb (fun s => vs_c A s n) (fun s => vs_w A s n) coin j = b →
    nG E 82 147 10 [(0, .ref a1), (1, .int (nI coin)), (2, .int (nI b)), (3, .int (nI (vs_c A b n))), (4, .long (lN (vs_w A b n))), (6, .int (nI (j + 1)))] [] ws Q := by
  have hv0 := hv
  obtain ⟨⟨h0, h0b⟩, ⟨h1, h1b⟩, ⟨h36, h36b⟩, hn, hB, hG⟩ := hv
  have hp : 1 ≤ 2 ^ n ∧ 2 ^ n ≤ 256 := ⟨Nat.one_le_two_pow, Nat.pow_le_pow_right (by decide) hn⟩
  have one := vs_one n (by omega)
  intro m
  induction m with
  | zero =>
    intro j b hj hb
    have e : j + 1 = 2 ^ n := by omega
    rw [show j = 2 ^ n - 1 by omega] at hb
    rw [hb] at hQ
    refine n_il (k := 6) (by decide +kernel) (List.mem_cons_of_mem _ (List.mem_cons_of_mem _ (List.mem_cons_of_mem _ (List.mem_cons_of_mem _ (List.mem_cons_of_mem _ List.mem_cons_self))))) ?_
    refine n_k (k := 1) (v := nI 1) (by decide +kernel) (by decide) ?_
    refine n_al (k := 0) (by decide +kernel) List.mem_cons_self ?_
    refine n_gf (ix := 75) (ci := 0) (k := 19) (by decide +kernel) (by decide +kernel) h1 h1b ?_
    refine n_gf (ix := 98) (ci := 2) (k := 3) (by decide +kernel) (by decide +kernel) h36 h36b ?_
    refine n_ishl (c := nI (2 ^ n)) (by decide +kernel) one ?_
    refine n_icT (c := .ge) (off := 66) (tg := 87) (by decide +kernel) (by unfold mj_go; decide) (nI_le (show 2 ^ n ≤ j + 1 by omega) (by omega)) ?_
    refine n_iln (k := 2) (by decide +kernel) (List.mem_cons_of_mem _ (List.mem_cons_of_mem _ List.mem_cons_self)) ?_
    exact n_reti (ty := .int) (by decide +kernel) (by decide +kernel) rfl hQ
  | succ m ih =>
    intro j b hj hb
    have bj : vs_bb (fun s => vs_c A s n) (fun s => vs_w A s n) coin (j + 1) = if coin < vs_c A (j + 1) n ∨ vs_w A (j + 1) n < vs_w A b n ∨ (vs_w A (j + 1) n = vs_w A b n ∧ vs_c A b n ≤ vs_c A (j + 1) n) then b else j + 1 := by
      show (if _ then _ else _) = _
      rw [hb]
    have c1 := vs_cb (s := j + 1) hB hn
    have c2 := vs_cb (s := b) hB hn
    have w1 := vs_wb (s := j + 1) hB hn
    have w2 := vs_wb (s := b) hB hn
    have keep : vs_bb (fun s => vs_c A s n) (fun s => vs_w A s n) coin (j + 1) = b → nG E 82 147 81 [(8, .long (lN (vs_w A (j + 1) n))), (7, .int (nI (vs_c A (j + 1) n))), (0, .ref a1), (1, .int (nI coin)), (2, .int (nI b)), (3, .int (nI (vs_c A b n))), (4, .long (lN (vs_w A b n))), (6, .int (nI (j + 1)))] [] ws Q := by
      intro hk
      have nx := ih (j + 1) b (by omega) hk
      refine n_inc (k := 6) (c := 1) (v2 := nI (j + 1 + 1)) (by decide +kernel) (by decide +kernel) (List.mem_cons_of_mem _ (List.mem_cons_of_mem _ (List.mem_cons_of_mem _ (List.mem_cons_of_mem _ (List.mem_cons_of_mem _ (List.mem_cons_of_mem _ (List.mem_cons_of_mem _ List.mem_cons_self))))))) (nI_1 (j + 1)) ?_
      show nG E 82 147 84 [(6, .int (nI (j + 1 + 1))), (8, .long (lN (vs_w A (j + 1) n))), (7, .int (nI (vs_c A (j + 1) n))), (0, .ref a1), (1, .int (nI coin)), (2, .int (nI b)), (3, .int (nI (vs_c A b n))), (4, .long (lN (vs_w A b n)))] [] ws _
      refine n_goto (off := (-74)) (tg := 10) (by decide +kernel) (by unfold mj_go; decide) ?_
      exact fun LV hL => nx LV (fun q hq => hL q (by simp only [List.mem_cons, List.not_mem_nil, or_false] at hq ⊢; rcases hq with rfl | rfl | rfl | rfl | rfl | rfl <;> simp))
    have take : vs_bb (fun s => vs_c A s n) (fun s => vs_w A s n) coin (j + 1) = j + 1 → nG E 82 147 71 [(8, .long (lN (vs_w A (j + 1) n))), (7, .int (nI (vs_c A (j + 1) n))), (0, .ref a1), (1, .int (nI coin)), (2, .int (nI b)), (3, .int (nI (vs_c A b n))), (4, .long (lN (vs_w A b n))), (6, .int (nI (j + 1)))] [] ws Q := by
      intro hk
      have nx := ih (j + 1) (j + 1) (by omega) hk
      refine n_il (k := 6) (by decide +kernel) (List.mem_cons_of_mem _ (List.mem_cons_of_mem _ (List.mem_cons_of_mem _ (List.mem_cons_of_mem _ (List.mem_cons_of_mem _ (List.mem_cons_of_mem _ (List.mem_cons_of_mem _ List.mem_cons_self))))))) ?_
      refine n_isn (k := 2) (by decide +kernel) (by decide +kernel) ?_
      show nG E 82 147 74 [(2, .int (nI (j + 1))), (8, .long (lN (vs_w A (j + 1) n))), (7, .int (nI (vs_c A (j + 1) n))), (0, .ref a1), (1, .int (nI coin)), (3, .int (nI (vs_c A b n))), (4, .long (lN (vs_w A b n))), (6, .int (nI (j + 1)))] [] ws _
      refine n_il (k := 7) (by decide +kernel) (List.mem_cons_of_mem _ (List.mem_cons_of_mem _ List.mem_cons_self)) ?_
      refine n_isn (k := 3) (by decide +kernel) (by decide +kernel) ?_
      show nG E 82 147 77 [(3, .int (nI (vs_c A (j + 1) n))), (2, .int (nI (j + 1))), (8, .long (lN (vs_w A (j + 1) n))), (7, .int (nI (vs_c A (j + 1) n))), (0, .ref a1), (1, .int (nI coin)), (4, .long (lN (vs_w A b n))), (6, .int (nI (j + 1)))] [] ws _
      refine n_ll (k := 8) (by decide +kernel) (List.mem_cons_of_mem _ (List.mem_cons_of_mem _ List.mem_cons_self)) ?_
      refine n_ls (k := 4) (by decide +kernel) (by decide +kernel) ?_
      show nG E 82 147 81 [(4, .long (lN (vs_w A (j + 1) n))), (3, .int (nI (vs_c A (j + 1) n))), (2, .int (nI (j + 1))), (8, .long (lN (vs_w A (j + 1) n))), (7, .int (nI (vs_c A (j + 1) n))), (0, .ref a1), (1, .int (nI coin)), (6, .int (nI (j + 1)))] [] ws _
      refine n_inc (k := 6) (c := 1) (v2 := nI (j + 1 + 1)) (by decide +kernel) (by decide +kernel) (List.mem_cons_of_mem _ (List.mem_cons_of_mem _ (List.mem_cons_of_mem _ (List.mem_cons_of_mem _ (List.mem_cons_of_mem _ (List.mem_cons_of_mem _ (List.mem_cons_of_mem _ List.mem_cons_self))))))) (nI_1 (j + 1)) ?_
      show nG E 82 147 84 [(6, .int (nI (j + 1 + 1))), (4, .long (lN (vs_w A (j + 1) n))), (3, .int (nI (vs_c A (j + 1) n))), (2, .int (nI (j + 1))), (8, .long (lN (vs_w A (j + 1) n))), (7, .int (nI (vs_c A (j + 1) n))), (0, .ref a1), (1, .int (nI coin))] [] ws _
      refine n_goto (off := (-74)) (tg := 10) (by decide +kernel) (by unfold mj_go; decide) ?_
      exact fun LV hL => nx LV (fun q hq => hL q (by simp only [List.mem_cons, List.not_mem_nil, or_false] at hq ⊢; rcases hq with rfl | rfl | rfl | rfl | rfl | rfl <;> simp))
    refine n_il (k := 6) (by decide +kernel) (List.mem_cons_of_mem _ (List.mem_cons_of_mem _ (List.mem_cons_of_mem _ (List.mem_cons_of_mem _ (List.mem_cons_of_mem _ List.mem_cons_self))))) ?_
    refine n_k (k := 1) (v := nI 1) (by decide +kernel) (by decide) ?_
    refine n_al (k := 0) (by decide +kernel) List.mem_cons_self ?_
    refine n_gf (ix := 75) (ci := 0) (k := 19) (by decide +kernel) (by decide +kernel) h1 h1b ?_
    refine n_gf (ix := 98) (ci := 2) (k := 3) (by decide +kernel) (by decide +kernel) h36 h36b ?_
    refine n_ishl (c := nI (2 ^ n)) (by decide +kernel) one ?_
    refine n_icF (c := .ge) (off := 66) (tg := 87) (by decide +kernel) (by unfold mj_go; decide) (nI_ge (show j + 1 < 2 ^ n by omega) (by omega)) ?_
    refine n_al (k := 0) (by decide +kernel) List.mem_cons_self ?_
    refine n_il (k := 6) (by decide +kernel) (List.mem_cons_of_mem _ (List.mem_cons_of_mem _ (List.mem_cons_of_mem _ (List.mem_cons_of_mem _ (List.mem_cons_of_mem _ List.mem_cons_self))))) ?_
    refine n_cv (ix := 198) (y2 := 148) (as := [.int (nI (j + 1))]) (rest := []) (x := .int (nI (vs_c A (j + 1) n))) (by decide +kernel) (by decide +kernel) rfl ⟨by decide, rfl, (by show 2 ≤ _; decide +kernel), by decide +kernel, (by show 0 ≤ 8; decide)⟩ h1 ⟨by decide +kernel, by decide⟩ (co_mj hv0 (by omega)) ?_
    refine n_is (k := 7) (by decide +kernel) (by decide +kernel) ?_
    show nG E 82 147 32 [(7, .int (nI (vs_c A (j + 1) n))), (0, .ref a1), (1, .int (nI coin)), (2, .int (nI b)), (3, .int (nI (vs_c A b n))), (4, .long (lN (vs_w A b n))), (6, .int (nI (j + 1)))] [] ws _
    refine n_al (k := 0) (by decide +kernel) (List.mem_cons_of_mem _ List.mem_cons_self) ?_
    refine n_il (k := 6) (by decide +kernel) (List.mem_cons_of_mem _ (List.mem_cons_of_mem _ (List.mem_cons_of_mem _ (List.mem_cons_of_mem _ (List.mem_cons_of_mem _ (List.mem_cons_of_mem _ List.mem_cons_self)))))) ?_
    refine n_cv (ix := 201) (y2 := 149) (as := [.int (nI (j + 1))]) (rest := []) (x := .long (lN (vs_w A (j + 1) n))) (by decide +kernel) (by decide +kernel) rfl ⟨by decide, rfl, (by show 2 ≤ _; decide +kernel), by decide +kernel, (by show 0 ≤ 8; decide)⟩ h1 ⟨by decide +kernel, by decide⟩ (wo_mj hv0 (by omega)) ?_
    refine n_ls (k := 8) (by decide +kernel) (by decide +kernel) ?_
    show nG E 82 147 40 [(8, .long (lN (vs_w A (j + 1) n))), (7, .int (nI (vs_c A (j + 1) n))), (0, .ref a1), (1, .int (nI coin)), (2, .int (nI b)), (3, .int (nI (vs_c A b n))), (4, .long (lN (vs_w A b n))), (6, .int (nI (j + 1)))] [] ws _
    refine n_il (k := 7) (by decide +kernel) (List.mem_cons_of_mem _ List.mem_cons_self) ?_
    refine n_iln (k := 1) (by decide +kernel) (List.mem_cons_of_mem _ (List.mem_cons_of_mem _ (List.mem_cons_of_mem _ List.mem_cons_self))) ?_
    by_cases d1 : coin < vs_c A (j + 1) n
    · refine n_icT (c := .gt) (off := 38) (tg := 81) (by decide +kernel) (by unfold mj_go; decide) (nI_lt d1 (by omega)) ?_
      exact keep (by rw [bj, if_pos (Or.inl d1)])
    refine n_icF (c := .gt) (off := 38) (tg := 81) (by decide +kernel) (by unfold mj_go; decide) (nI_nlt (by omega) (by omega)) ?_
    refine n_ll (k := 8) (by decide +kernel) List.mem_cons_self ?_
    refine n_ll (k := 4) (by decide +kernel) (List.mem_cons_of_mem _ (List.mem_cons_of_mem _ (List.mem_cons_of_mem _ (List.mem_cons_of_mem _ (List.mem_cons_of_mem _ (List.mem_cons_of_mem _ List.mem_cons_self)))))) ?_
    refine n_lcmp (c := lg_cmp (lN (vs_w A (j + 1) n)) (lN (vs_w A b n))) (by decide +kernel) rfl ?_
    by_cases d2 : vs_w A (j + 1) n < vs_w A b n
    · refine n_ifT (c := .lt) (off := 30) (tg := 81) (by decide +kernel) (by unfold mj_go; decide) ((lg_cmp_lt _ _).mpr ((lN_lt w1 w2).mpr d2)) ?_
      exact keep (by rw [bj, if_pos (Or.inr (Or.inl d2))])
    refine n_ifF (c := .lt) (off := 30) (tg := 81) (by decide +kernel) (by unfold mj_go; decide) (fun h => d2 ((lN_lt w1 w2).mp ((lg_cmp_lt _ _).mp h))) ?_
    refine n_ll (k := 8) (by decide +kernel) List.mem_cons_self ?_
    refine n_ll (k := 4) (by decide +kernel) (List.mem_cons_of_mem _ (List.mem_cons_of_mem _ (List.mem_cons_of_mem _ (List.mem_cons_of_mem _ (List.mem_cons_of_mem _ (List.mem_cons_of_mem _ List.mem_cons_self)))))) ?_
    refine n_lcmp (c := lg_cmp (lN (vs_w A (j + 1) n)) (lN (vs_w A b n))) (by decide +kernel) rfl ?_
    by_cases d3 : vs_w A (j + 1) n = vs_w A b n
    · refine n_ifF (c := .ne) (off := 12) (tg := 71) (by decide +kernel) (by unfold mj_go; decide) (fun h => h ((lg_cmp_eq _ _).mpr ((lN_eq w1 w2).mpr d3))) ?_
      refine n_il (k := 7) (by decide +kernel) (List.mem_cons_of_mem _ List.mem_cons_self) ?_
      refine n_iln (k := 3) (by decide +kernel) (List.mem_cons_of_mem _ (List.mem_cons_of_mem _ (List.mem_cons_of_mem _ (List.mem_cons_of_mem _ (List.mem_cons_of_mem _ List.mem_cons_self))))) ?_
      by_cases d4 : vs_c A b n ≤ vs_c A (j + 1) n
      · refine n_icF (c := .lt) (off := 6) (tg := 71) (by decide +kernel) (by unfold mj_go; decide) (nI_nlt d4 (by omega)) ?_
        refine n_goto (off := 13) (tg := 81) (by decide +kernel) (by unfold mj_go; decide) ?_
        exact keep (by rw [bj, if_pos (Or.inr (Or.inr ⟨d3, d4⟩))])
      · refine n_icT (c := .lt) (off := 6) (tg := 71) (by decide +kernel) (by unfold mj_go; decide) (nI_lt (show vs_c A (j + 1) n < vs_c A b n by omega) (by omega)) ?_
        exact take (by rw [bj, if_neg (by omega)])
    · refine n_ifT (c := .ne) (off := 12) (tg := 71) (by decide +kernel) (by unfold mj_go; decide) (fun h => d3 ((lN_eq w1 w2).mp ((lg_cmp_eq _ _).mp h))) ?_
      exact take (by rw [bj, if_neg (by omega)])
theorem bv_mj (hv : vw E ws a0 a1 a36 f0 f1 f36 n A) {coin : Nat} (hc : coin ≤ 99999) : MJ E 82 0 0 (mj_in0 147 [.ref a1, .int (nI coin)] ws) (fun v w => v = some (.int (nI (vs_bb (fun s => vs_c A s n) (fun s => vs_w A s n) coin (2 ^ n - 1)))) ∧ w = ws) := by
  have z : ∀ k, vs_c A 0 k = 0 ∧ vs_w A 0 k = 0 := by
    intro k
    induction k with
    | zero => exact ⟨rfl, rfl⟩
    | succ k ih => simp [vs_c, vs_w, ih]
  refine nG.in0 ?_
  show nG E 82 147 0 [(0, .ref a1), (1, .int (nI coin))] [] ws _
  refine n_k (k := 0) (v := nI 0) (by decide +kernel) (by decide) ?_
  refine n_isn (k := 2) (by decide +kernel) (by decide +kernel) ?_
  show nG E 82 147 2 [(2, .int (nI 0)), (0, .ref a1), (1, .int (nI coin))] [] ws _
  refine n_k (k := 0) (v := nI 0) (by decide +kernel) (by decide) ?_
  refine n_isn (k := 3) (by decide +kernel) (by decide +kernel) ?_
  show nG E 82 147 4 [(3, .int (nI 0)), (2, .int (nI 0)), (0, .ref a1), (1, .int (nI coin))] [] ws _
  refine n_lk (k := 0) (v := lN 0) (by decide +kernel) rfl ?_
  refine n_ls (k := 4) (by decide +kernel) (by decide +kernel) ?_
  show nG E 82 147 7 [(4, .long (lN 0)), (3, .int (nI 0)), (2, .int (nI 0)), (0, .ref a1), (1, .int (nI coin))] [] ws _
  refine n_k (k := 1) (v := nI 1) (by decide +kernel) (by decide) ?_
  refine n_is (k := 6) (by decide +kernel) (by decide +kernel) ?_
  show nG E 82 147 10 [(6, .int (nI 1)), (4, .long (lN 0)), (3, .int (nI 0)), (2, .int (nI 0)), (0, .ref a1), (1, .int (nI coin))] [] ws _
  have g := bv_go (Q := fun v w => v = some (.int (nI (vs_bb (fun s => vs_c A s n) (fun s => vs_w A s n) coin (2 ^ n - 1)))) ∧ w = ws) hv hc ⟨rfl, rfl⟩ (2 ^ n - 1) 0 0 (by omega) rfl
  rw [(z n).1, (z n).2] at g
  exact fun LV hL => g LV (fun q hq => hL q (by simp only [List.mem_cons, List.not_mem_nil, or_false] at hq ⊢; rcases hq with rfl | rfl | rfl | rfl | rfl | rfl <;> simp))
def yr_F (C Wt : Nat → Nat) (coin n : Nat) : Nat := vs_bb C Wt coin (2 ^ n - 1)
/-- what years answers -/
def yr_A (A : Nat → Nat) (n : Nat) (coin what : Int) : Int :=
  if 0 ≤ coin ∧ coin ≤ 99999 ∧ -2 ≤ what ∧ what ≤ 3 then
    (if what = -1 then (yr_F (fun s => vs_c A s n) (fun s => vs_w A s n) coin.toNat n : Int) else if what = -2 then (vs_c A (yr_F (fun s => vs_c A s n) (fun s => vs_w A s n) coin.toNat n) n : Int) else (vs_r A (yr_F (fun s => vs_c A s n) (fun s => vs_w A s n) coin.toNat n) what.toNat n : Int)) else -1
end YC
