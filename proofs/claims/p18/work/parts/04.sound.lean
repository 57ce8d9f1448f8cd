/-! THE MACHINE KEEPS TO THE SMALL MACHINE -/
def mj_tys (E : mj_E) : List (ClassId × FieldType) := [(E.2.2.2.2.1, .int), (E.2.2.2.2.2.1, .long), (E.2.2.2.2.2.2, .boolean)]
/-- what is only read stands at U -/
def mj_RO (E : mj_E) (A : Nat → Prop) (U : State) : Prop :=
  (∀ k, k < 4 → va_Z (mj_sn k).1 (mj_sn k).2.1 (mj_sn k).2.2 (mj_sv E k) A U U.heap) ∧
  (∀ k, k < 3 → va_T .int (E.2.2.1 k).1 (E.2.2.1 k).2.1 (fun j => .int ((E.2.2.1 k).2.2 j)) A U U.heap) ∧
  (∀ i, i < 24 → va_O "java/lang/String" (E.1 i) A U U.heap ∧ va_OF "java/lang/String" "coder" "B" (.int 0) (E.1 i) A U U.heap ∧ va_OF "java/lang/String" "value" "[B" (.ref (E.2.1 i)) (E.1 i) A U U.heap ∧ va_T .byte (E.2.1 i) (mj_txl i) (fun j => .int ((mj_txb i).getD j 0)) A U U.heap) ∧
  (∀ i, i < 24 → vk_R (mj_txo i).1 (mj_txo i).2.1 (mj_txo i).2.2 (E.1 i) U) ∧ ∀ w ∈ mj_nw, va_Nw w U
theorem mj_RO.warm {E : mj_E} {A : Nat → Prop} {s U : State} (h : mj_RO E A s) (hW : s.WarmedH U.vm) (hq : ∀ q : Nat, q < s.heap.size → ¬ A q → U.heap[q]? = s.heap[q]?) : mj_RO E A U := by
  obtain ⟨h1, h2, h3, h4, h5⟩ := h
  have hv : s.vm.Alike U.vm := hW.alike
  exact ⟨fun k hk => ((h1 k hk).moved hv).kept hq, fun k hk => ((h2 k hk).moved hv).kept hq,
    fun i hi => ⟨((h3 i hi).1.moved hv).kept hq, ((h3 i hi).2.1.moved hv).kept hq, ((h3 i hi).2.2.1.moved hv).kept hq, ((h3 i hi).2.2.2.moved hv).kept hq⟩, fun i hi => (h4 i hi).warm hW, fun w hw => by
      have hn := (List.mem_filter.mp hw).2
      have hz := h5 w hw
      cases w <;> first | exact va_Nw.warmF hW hz | exact va_Nw.warmM hW hz | cases hn⟩
theorem mj_RO.calling {E : mj_E} {A : Nat → Prop} {U : State} (h : mj_RO E A U) (g : JFrame) (mk : MethodId) (a : Array Value) : mj_RO E A (U.calling g mk a) := by
  obtain ⟨h1, h2, h3, h4, h5⟩ := h
  have hv : U.vm.Alike (U.calling g mk a).vm := Vm.Alike.refl U.vm
  exact ⟨fun k hk => va_Z.moved hv (h1 k hk), fun k hk => va_T.moved hv (h2 k hk),
    fun i hi => ⟨va_O.moved hv (h3 i hi).1, va_OF.moved hv (h3 i hi).2.1, va_OF.moved hv (h3 i hi).2.2.1, va_T.moved hv (h3 i hi).2.2.2⟩, fun i hi => vk_R.same (u := U) rfl (h4 i hi), fun w hw => va_Nw.same (u := U) (mj_isN.on (List.mem_filter.mp hw).2) rfl (h5 w hw)⟩
/-- at a return: the instruction, the answer, the stack -/
def mj_Rt (y pc : Nat) (v : Option Value) (st : List Value) : Prop :=
  (decode (mj_b y) pc = .ok (.ireturn, 1) ∧ ∃ w ty, v = some (.int w) ∧ st = [.int w] ∧ mj_r y = some ty ∧ narrow ty (.int w) = .int w) ∨
  (decode (mj_b y) pc = .ok (.lreturn, 1) ∧ ∃ w, v = some (.long w) ∧ st = [.long w] ∧ mj_r y = some .long) ∨
  (decode (mj_b y) pc = .ok (.return_, 1) ∧ v = none ∧ st = [] ∧ mj_r y = none)
/-- what the small machine's P means for the machine -/
def mj_W (l : Launch) (E : mj_E) (D : va_G) (A : Nat → Prop) : mj_P := fun d mc ms cf Q =>
  ∀ (p : Program) (e : Env) (R : Room) (s : State) (m : MethodId) (args : Array Value) (below : List Frame) (meth : Method) (c : Code) (ls : Array Slot) (H : Heap) (locs : List Loc) (cells slots : Nat) (Z : State → Prop),
    cf.1 ≤ mj_lawNo → p.tables.exec = Jvm.exec → c.code = mj_b cf.1 → c.maxLocals = mj_l cf.1 → s.vm.findClass (mj_cls (mj_cn cf.1)) = some m.cls → ((mj_y cf.1).name = "<init>" → meth.name = "<init>") →
    (∀ w ∈ mj_tb, w.before args s = true) → mj_RO E A s → va_K D mj_cl (mj_tys E) s → (∀ q : Nat, s.heap.size ≤ q → A q) →
    lv_has ls (mj_l cf.1) cf.2.2.1 → va_P D mj_cl cf.2.2.2.2 H → va_D A cf.2.2.2.2 → va_S A s.heap H locs →
    d ≤ R.frames → 256 * d ≤ R.locals → cells + mc ≤ R.cells → slots + ms ≤ R.slots →
    (∀ (v : Option Value) (ws1 : va_W) (H1 : Heap) (locs1 : List Loc) (cells1 slots1 pc1 : Nat) (ls1 : Array Slot) (st1 : List Value), Q v ws1 → va_P D mj_cl ws1 H1 → va_D A ws1 → va_S A s.heap H1 locs1 → cells1 ≤ cells + mc → slots1 ≤ slots + ms → mj_Rt cf.1 pc1 v st1 →
      W p l e R s m args below meth c H1 locs1 cells1 slots1 Z (F0 m pc1 ls1 st1)) →
    W p l e R s m args below meth c H locs cells slots Z (F0 m cf.2.1 ls cf.2.2.2.1)
def mj_ws (y : Nat) : List Cond := .code (mj_y y) (mj_b y) (mj_l y) (mj_r y) :: mj_tb
def mj_Pc (E : mj_E) (D : va_G) (A : Nat → Prop) (as : List Value) (ws : va_W) : Array Value → State → Prop :=
  va_Pc as (fun U => mj_RO E A U ∧ va_K D mj_cl (mj_tys E) U ∧ va_P D mj_cl ws U.heap ∧ ∀ q : Nat, U.heap.size ≤ q → A q)
def mj_Qc (D : va_G) (A : Nat → Prop) (Q : Option Value → va_W → Prop) : Array Value → State → Outcome → State → Prop :=
  fun _ st o t => (∃ v ws1, o = .returned v ∧ Q v ws1 ∧ va_P D mj_cl ws1 t.heap ∧ va_D A ws1) ∧ va_F A st t
def mj_rm (d mc ms : Nat) : Room := { frames := d, cells := mc, slots := ms, locals := 256 * d }
theorem mj_met {l : Launch} {E : mj_E} {D : va_G} {A : Nat → Prop} {d mc ms y2 : Nat} {as : List Value} {ws : va_W} {Q : Option Value → va_W → Prop} (hW : mj_W l E D A d mc ms (mj_in0 y2 as ws) Q)
    (hy2 : y2 < mj_lawNo) (h1 : y2 ≠ mj_objNo) (h2 : (mj_y y2).cls ≠ "java/lang/Math") (hlen : (lg_sl as).length ≤ mj_l y2) (hD : va_D A ws) :
    Met l (mj_y y2) (mj_ws y2) (mj_rm d mc ms) (mj_Pc E D A as ws) (mj_Qc D A Q) mc ms A := by
  obtain ⟨k1, k2, -⟩ := mj_m_use hy2 h1 h2
  refine Met.ofW (cc := mj_b y2) (maxL := mj_l y2) (ret := mj_r y2) k1 rfl ?_
  intro p e s m args below meth c s₁ B hml hv
  obtain ⟨rfl, hRO, hK, hP, hA⟩ := hv
  have hts0 := atoms_spec (ws := mj_ws y2) B.pre
  have hts : ∀ w ∈ mj_tb, w.before as.toArray s = true := fun w h => hts0 w (List.mem_cons_of_mem _ h)
  have hown : s.vm.findClass (mj_cls (mj_cn y2)) = some m.cls := by rw [k2]; exact findClass_of_methodNamed B.named
  have hnm0 := (name_of_methodNamed B.named B.method).1
  have hnm : (mj_y y2).name = "<init>" → meth.name = "<init>" := fun h => hnm0.trans h
  have hl := lv_entry as (n := mj_l y2) hlen
  rw [lg_entry_eq]
  refine hW p e _ s m _ below meth c _ s.heap [] 0 0 _ (Nat.le_of_lt hy2) B.exec B.bytes hml hown hnm hts hRO hK hA hl hP hD va_S.rf (Nat.le_refl _) (Nat.le_refl _) (by show 0 + mc ≤ mc; omega) (by show 0 + ms ≤ ms; omega) ?_
  intro v ws1 H1 locs1 cells1 slots1 pc1 ls1 st1 hQ hP1 hD1 hS1 hc1 hs1 hrt
  refine W.widen (k := mc) (n := ms) (by omega) (by omega) ?_
  rcases hrt with ⟨hdg, w, ty, rfl, rfl, hr, hn⟩ | ⟨hdg, w, rfl, rfl, hr⟩ | ⟨hdg, rfl, rfl, hr⟩
  · exact W.zret B.exec B.bytes (B.returns.trans hr) hn (fun t ht hW => ⟨⟨_, ws1, rfl, hQ, by rw [ht]; exact hP1, hD1⟩, hS1.F ht⟩) hS1.2.2 hdg B.notSynchronized
  · exact W.lret B.exec B.bytes (B.returns.trans hr) (fun t ht hW => ⟨⟨_, ws1, rfl, hQ, by rw [ht]; exact hP1, hD1⟩, hS1.F ht⟩) hS1.2.2 hdg B.notSynchronized
  · exact W.vret B.exec B.bytes (B.returns.trans hr) (fun t ht hW => ⟨⟨_, ws1, rfl, hQ, by rw [ht]; exact hP1, hD1⟩, hS1.F ht⟩) hS1.2.2 hdg B.notSynchronized
theorem mj_call {p : Program} {l : Launch} {e : Env} {R : Room} {s : State} {m : MethodId} {args : Array Value} {below : List Frame} {meth : Method} {c : Code} {H : Heap} {locs : List Loc} {cells slots mc2 ms2 pc : Nat} {Z : State → Prop} {D : va_G} {A : Nat → Prop} {ls : Array Slot} {st0 rest : List Value} {Q : Option Value → va_W → Prop} {a : Array Value}
    (hr : va_Run p l e R s m args below meth c H locs cells slots mc2 ms2 (F0 m pc ls st0) rest (mj_Qc D A Q a) A) (hS : va_S A s.heap H locs)
    (kk : ∀ (v : Option Value) (ws1 : va_W) (H1 : Heap) (locs1 : List Loc), Q v ws1 → va_P D mj_cl ws1 H1 → va_D A ws1 → va_S A s.heap H1 locs1 → W p l e R s m args below meth c H1 locs1 (cells + mc2) (slots + ms2) Z (F0 m (pc + 3) ls (v.toList ++ rest))) :
    W p l e R s m args below meth c H locs cells slots Z (F0 m pc ls st0) := by
  intro T hT X
  obtain ⟨v, st₀, t, T', L, h0, X', hL, e1, e2, ⟨⟨v2, ws1, hv, hq, hP1, hD1⟩, hz, hk⟩, st⟩ := hr T hT X
  cases hv
  rw [h0] at hz hk
  obtain ⟨t2, a1, b1⟩ := kk v ws1 T'.heap (locs ++ L) hq (by rw [e1]; exact hP1) hD1
    ⟨Nat.le_trans hS.1 (by rw [e1]; exact hz), fun q h1 h2 => by rw [e1, hk q (Nat.lt_of_lt_of_le h1 hS.1) h2]; exact hS.2.1 q h1 h2, fun q hq => by
      rcases List.mem_append.mp hq with h | h
      · exact hS.2.2 q h
      · exact hL q h⟩ T' rfl X'
  exact ⟨t2, st t2 a1, b1⟩
theorem mj_goodIn (y : Nat) (hc : .code (mj_y y) (mj_b y) (mj_l y) (mj_r y) ∈ mj_tb) : GoodIn mj_tb (mj_ws y) := by
  intro w hw
  rcases List.mem_cons.mp hw with rfl | h
  · exact ⟨hc, good_of_word (List.mem_filter.mp hc).2⟩
  · exact ⟨h, good_of_word (List.mem_filter.mp h).2⟩
