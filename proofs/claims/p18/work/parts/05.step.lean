/-! ONE STEP OF THE SMALL MACHINE IS THE MACHINE'S -/
theorem mj_cl_of {ci : Nat} (h : ci < 7) : ∃ T N, mj_cl[ci]? = some (mj_cls ci, T, N) := by
  match ci, h with
  | 0, _ => exact ⟨_, _, rfl⟩
  | 1, _ => exact ⟨_, _, rfl⟩
  | 2, _ => exact ⟨_, _, rfl⟩
  | 3, _ => exact ⟨_, _, rfl⟩
  | 4, _ => exact ⟨_, _, rfl⟩
  | 5, _ => exact ⟨_, _, rfl⟩
  | 6, _ => exact ⟨_, _, rfl⟩
set_option maxRecDepth 20000 in
theorem mj_objInit_in : Cond.instanceMethod Lib.objectInit ∈ mj_tb ∧ Cond.code Lib.objectInit ⟨#[0xb1]⟩ 1 none ∈ mj_tb := ⟨mj_in_tb (pl := 133) (by decide +kernel) rfl, mj_in_tb (pl := 134) rfl rfl⟩
set_option maxRecDepth 20000 in
theorem mj_math_in : Cond.static Lib.Math.max.name ∈ mj_tb ∧ Cond.static Lib.Math.min.name ∈ mj_tb ∧ Cond.initialized "java/lang/Math" ∈ mj_tb := ⟨mj_in_tb (pl := 148) (by decide +kernel) rfl, mj_in_tb (pl := 704) (by decide +kernel) rfl, mj_in_tb (pl := 116) (by decide +kernel) rfl⟩
set_option maxRecDepth 20000 in
theorem mj_max_in : Cond.code Lib.Math.max.name Lib.Math.max.code 2 (some .int) ∈ mj_tb := mj_in_tb (pl := 149) rfl rfl
set_option maxRecDepth 20000 in
theorem mj_min_in : Cond.code Lib.Math.min.name Lib.Math.min.code 2 (some .int) ∈ mj_tb := mj_in_tb (pl := 705) rfl rfl
set_option maxRecDepth 20000 in
theorem mj_copy_in : Cond.native arraycopyName ∈ mj_tb ∧ Cond.static arraycopyName ∈ mj_tb ∧ Cond.initialized "java/lang/System" ∈ mj_tb := ⟨mj_in_tb (pl := 867) (by decide +kernel) rfl, mj_in_tb (pl := 866) (by decide +kernel) rfl, mj_in_tb (pl := 126) (by decide +kernel) rfl⟩
set_option maxRecDepth 20000 in
theorem mj_arr_in : Cond.arrayClass .int ∈ mj_tb ∧ Cond.arrayClass .long ∈ mj_tb ∧ Cond.arrayClass .boolean ∈ mj_tb := ⟨mj_in_tb (pl := 166) (by decide +kernel) rfl, mj_in_tb (pl := 1328) (by decide +kernel) rfl, mj_in_tb (pl := 1327) (by decide +kernel) rfl⟩
theorem mj_frameBlind (E : mj_E) (D : va_G) (A : Nat → Prop) (as : List Value) (ws : va_W) : FrameBlind (mj_Pc E D A as ws) := by
  intro a U g mk h
  obtain ⟨h0, h1, h2, h3, h4⟩ := h
  exact ⟨h0, h1.calling g mk a, va_K.moved (u := U) (U := U.calling g mk a) (Vm.Alike.refl U.vm) h2, h3, h4⟩
/-- new cells lie at new addresses -/
theorem mj_fresh {A : Nat → Prop} {ws : va_W} {q : Nat} {e : va_E} (h : va_D A (ws ++ [(q, e)])) : ∀ z ∈ ws, z.1 ≠ q := by
  intro z hz hq
  obtain ⟨i, hi⟩ := List.getElem?_of_mem hz
  have hlt : i < ws.length := (List.getElem?_eq_some_iff.mp hi).1
  have h1 : (ws ++ [(q, e)])[i]? = some z := by rw [List.getElem?_append_left hlt]; exact hi
  have h2 : (ws ++ [(q, e)])[ws.length]? = some (q, e) := by rw [List.getElem?_append_right (Nat.le_refl _), Nat.sub_self]; rfl
  have := h.1 i ws.length z (q, e) h1 h2 hq
  omega
set_option maxHeartbeats 4000000 in
set_option maxRecDepth 100000 in
theorem mj_W.step {l : Launch} {E : mj_E} {D : va_G} {A : Nat → Prop} {d mc ms : Nat} {cf : mj_C} {Q : Option Value → va_W → Prop} (h : mj_F E (mj_W l E D A) d mc ms cf Q) : mj_W l E D A d mc ms cf Q := by
  obtain ⟨y, pc, lv, st, ws⟩ := cf
  obtain ⟨r, ⟨i, n, hdg, hI⟩, hF⟩ := h
  intro p e R s m args below meth c ls H locs cells slots Z hy hx hb hml hown hnm hts hRO hK hA hl hP hD hS hd hlo hcc hss hret
  dsimp only at hy hb hml hown hnm hl hP hD hret hdg hI hF ⊢
  have goG : ∀ {mc1 ms1 cells1 slots1 pc1 : Nat} {lv1 : List (Nat × Value)} {st1 : List Value} {ws1 : va_W}, mj_W l E D A d mc1 ms1 (y, pc1, lv1, st1, ws1) Q → cells1 + mc1 ≤ cells + mc → slots1 + ms1 ≤ slots + ms → ∀ {ls1 : Array Slot} {H1 : Heap} {locs1 : List Loc}, lv_has ls1 (mj_l y) lv1 → va_P D mj_cl ws1 H1 → va_D A ws1 → va_S A s.heap H1 locs1 →
      W p l e R s m args below meth c H1 locs1 cells1 slots1 Z (F0 m pc1 ls1 st1) := by
    intro mc1 ms1 cells1 slots1 pc1 lv1 st1 ws1 hr g1 g2 ls1 H1 locs1 hl1 hP1 hD1 hS1
    exact hr p e R s m args below meth c ls1 H1 locs1 cells1 slots1 Z hy hx hb hml hown hnm hts hRO hK hA hl1 hP1 hD1 hS1 hd hlo (by omega) (by omega)
      (fun v ws2 H2 locs2 c2 s2 pc2 ls2 st2 hq a1 a2 a3 b1 b2 hrt => hret v ws2 H2 locs2 c2 s2 pc2 ls2 st2 hq a1 a2 a3 (by omega) (by omega) hrt)
  have go : ∀ {pc1 : Nat} {lv1 : List (Nat × Value)} {st1 : List Value} {ws1 : va_W}, r = mj_nx pc1 lv1 st1 ws1 → ∀ {ls1 : Array Slot} {H1 : Heap} {locs1 : List Loc}, lv_has ls1 (mj_l y) lv1 → va_P D mj_cl ws1 H1 → va_D A ws1 → va_S A s.heap H1 locs1 →
      W p l e R s m args below meth c H1 locs1 cells slots Z (F0 m pc1 ls1 st1) := by
    intro pc1 lv1 st1 ws1 hr ls1 H1 locs1 hl1 hP1 hD1 hS1
    subst hr
    exact goG hF (Nat.le_refl _) (Nat.le_refl _) hl1 hP1 hD1 hS1
  have hpre : ∀ (as : List Value) (U : State), U.heap = H → s.WarmedH U.vm → mj_Pc E D A as ws as.toArray U := by
    intro as U hU hW
    exact ⟨rfl, hRO.warm hW (fun q h1 h2 => by rw [hU]; exact hS.2.1 q h1 h2), va_K.moved hW.alike hK, by rw [hU]; exact hP, fun q h => hA q (Nat.le_trans hS.1 (by rw [hU] at h; exact h))⟩
  have hcallB : ∀ {y2 d2 mc2 ms2 ix : Nat}, y2 < mj_lawNo → y2 ≠ mj_objNo → (mj_y y2).cls ≠ "java/lang/Math" → d = d2 + 1 → mj_l y2 ≤ 100 → (Cond.methodLink (mj_cls (mj_cn y)) ix (mj_y y2)).before args s = true →
      CallB R s args (mj_cls (mj_cn y)) ix (mj_y y2) (mj_b y2) (mj_l y2) (mj_r y2) (mj_ws y2) (mj_rm d2 mc2 ms2) mc2 ms2 (mj_m y2).2.2.2.2.2.2 := by
    intro y2 d2 mc2 ms2 ix q1 q2 q3 q4 q5 q6
    obtain ⟨k1, k2, k3, k4, k5, k6, k7, k8, k9⟩ := mj_m_use q1 q2 q3
    exact callB_of (Ts := mj_tb) (ws' := mj_tb) _ hts (mj_goodIn y2 k9) rfl rfl rfl (hts _ k6) q6 ⟨k3, k4, k5⟩ ⟨by show d2 + 1 ≤ R.frames; omega, by show 8 + (mj_l y2 + 11) + 256 * d2 ≤ R.locals; omega⟩
  have hcallN : ∀ {y2 d2 mc2 ms2 ix : Nat}, y2 < mj_lawNo → y2 ≠ mj_objNo → (mj_y y2).cls ≠ "java/lang/Math" → d = d2 + 1 → mj_l y2 ≤ 100 → va_Nw (.methodLinkNest (mj_cls (mj_cn y)) ix (mj_y y2) "FriarLists") s →
      va_CN R s args (mj_cls (mj_cn y)) ix (mj_y y2) "FriarLists" (mj_b y2) (mj_l y2) (mj_r y2) (mj_ws y2) (mj_rm d2 mc2 ms2) mc2 ms2 (mj_m y2).2.2.2.2.2.2 := by
    intro y2 d2 mc2 ms2 ix q1 q2 q3 q4 q5 q6
    obtain ⟨k1, k2, k3, k4, k5, k6, k7, k8, k9⟩ := mj_m_use q1 q2 q3
    exact va_cnB (Ts := mj_tb) (ws' := mj_tb) _ hts (mj_goodIn y2 k9) rfl rfl rfl q6 (hts _ k6) ⟨k3, k4, k5⟩ ⟨by show d2 + 1 ≤ R.frames; omega, by show 8 + (mj_l y2 + 11) + 256 * d2 ≤ R.locals; omega⟩
  cases i
  case iconst k => obtain ⟨rfl, hr⟩ := hI; exact lv_iconst hx hb hdg rfl (go hr hl hP hD hS)
  case bipush k => obtain ⟨rfl, hr⟩ := hI; exact lv_bipush hx hb hdg rfl (go hr hl hP hD hS)
  case sipush k => obtain ⟨rfl, hr⟩ := hI; exact lv_sipush hx hb hdg rfl (go hr hl hP hD hS)
  case lconst k => obtain ⟨rfl, hr⟩ := hI; exact lv_lconst hx hb hdg rfl (go hr hl hP hD hS)
  case iload_n k => obtain ⟨rfl, v, hv, hr⟩ := hI; exact lv_iload_n hx hb hdg rfl (hl.2.2 _ hv) (go hr hl hP hD hS)
  case iload k => obtain ⟨rfl, v, hv, hr⟩ := hI; exact lv_iload hx hb hdg (hl.2.2 _ hv) (go hr hl hP hD hS)
  case lload_n k => obtain ⟨rfl, v, hv, hr⟩ := hI; exact lv_lload_n hx hb hdg rfl (hl.2.2 _ hv) (go hr hl hP hD hS)
  case lload k => obtain ⟨rfl, v, hv, hr⟩ := hI; exact lv_lload hx hb hdg (hl.2.2 _ hv) (go hr hl hP hD hS)
  case aload_n k => obtain ⟨rfl, v, hv, hr⟩ := hI; exact lv_aload_n hx hb hdg rfl (hl.2.2 _ hv) (go hr hl hP hD hS)
  case istore_n k => obtain ⟨rfl, hn, v, t, rfl, hr⟩ := hI; exact lv_istore_n hx hb hdg rfl hl hn rfl (fun ls1 hl1 => go hr hl1 hP hD hS)
  case istore k => obtain ⟨rfl, hn, v, t, rfl, hr⟩ := hI; exact lv_istore hx hb hdg hl hn rfl (fun ls1 hl1 => go hr hl1 hP hD hS)
  case lstore_n k => obtain ⟨rfl, hn, v, t, rfl, hr⟩ := hI; exact lv_lstore_n hx hb hdg rfl hl hn rfl (fun ls1 hl1 => go hr hl1 hP hD hS)
  case lstore k => obtain ⟨rfl, hn, v, t, rfl, hr⟩ := hI; exact lv_lstore hx hb hdg hl hn rfl (fun ls1 hl1 => go hr hl1 hP hD hS)
  case astore_n k => obtain ⟨rfl, hn, v, t, rfl, hr⟩ := hI; exact lv_astore_n hx hb hdg rfl hl hn rfl (fun ls1 hl1 => go hr hl1 hP hD hS)
  case iinc k cst =>
    obtain ⟨rfl, hn, v, hv, hr⟩ := hI
    obtain ⟨j, hj⟩ := List.getElem?_of_mem hv
    exact lv_iinc hx hb hdg hl hj rfl hn rfl (fun ls1 hl1 => go hr hl1 hP hD hS)
  case iadd => obtain ⟨rfl, a, b, t, rfl, hr⟩ := hI; exact lv_iadd hx hb hdg (go hr hl hP hD hS)
  case isub => obtain ⟨rfl, a, b, t, rfl, hr⟩ := hI; exact lv_isub hx hb hdg (go hr hl hP hD hS)
  case imul => obtain ⟨rfl, a, b, t, rfl, hr⟩ := hI; exact lv_imul hx hb hdg (go hr hl hP hD hS)
  case iand => obtain ⟨rfl, a, b, t, rfl, hr⟩ := hI; exact lv_iand hx hb hdg (go hr hl hP hD hS)
  case ior => obtain ⟨rfl, a, b, t, rfl, hr⟩ := hI; exact lv_ior hx hb hdg (go hr hl hP hD hS)
  case ixor => obtain ⟨rfl, a, b, t, rfl, hr⟩ := hI; exact lv_ixor hx hb hdg (go hr hl hP hD hS)
  case ishl => obtain ⟨rfl, a, b, t, rfl, hr⟩ := hI; exact lv_ishl hx hb hdg (go hr hl hP hD hS)
  case ishr => obtain ⟨rfl, a, b, t, rfl, hr⟩ := hI; exact lv_ishr hx hb hdg (go hr hl hP hD hS)
  case iushr => obtain ⟨rfl, a, b, t, rfl, hr⟩ := hI; exact lv_iushr hx hb hdg rfl (go hr hl hP hD hS)
  case idiv => obtain ⟨rfl, a, b, t, rfl, hne, hr⟩ := hI; exact lv_idiv hx hb hdg hne (go hr hl hP hD hS)
  case irem => obtain ⟨rfl, a, b, t, rfl, hne, hr⟩ := hI; exact lv_irem hx hb hdg hne (go hr hl hP hD hS)
  case ineg => obtain ⟨rfl, a, t, rfl, hr⟩ := hI; exact lv_ineg hx hb hdg (go hr hl hP hD hS)
  case i2l => obtain ⟨rfl, a, t, rfl, hr⟩ := hI; exact lv_i2l hx hb hdg rfl (go hr hl hP hD hS)
  case i2b => obtain ⟨rfl, a, t, rfl, hr⟩ := hI; exact lv_i2b hx hb hdg rfl (go hr hl hP hD hS)
  case i2s => obtain ⟨rfl, a, t, rfl, hr⟩ := hI; exact lv_i2s hx hb hdg rfl (go hr hl hP hD hS)
  case i2c => obtain ⟨rfl, a, t, rfl, hr⟩ := hI; exact lv_i2c hx hb hdg rfl (go hr hl hP hD hS)
  case ladd => obtain ⟨rfl, a, b, t, rfl, hr⟩ := hI; exact lv_ladd hx hb hdg (go hr hl hP hD hS)
  case lmul => obtain ⟨rfl, a, b, t, rfl, hr⟩ := hI; exact lv_lmul hx hb hdg (go hr hl hP hD hS)
  case land => obtain ⟨rfl, a, b, t, rfl, hr⟩ := hI; exact lv_land hx hb hdg (go hr hl hP hD hS)
  case lor => obtain ⟨rfl, a, b, t, rfl, hr⟩ := hI; exact lv_lor hx hb hdg (go hr hl hP hD hS)
  case ldiv => obtain ⟨rfl, a, b, t, rfl, hne, hr⟩ := hI; exact lv_ldiv hx hb hdg hne (go hr hl hP hD hS)
  case lshl => obtain ⟨rfl, a, b, t, rfl, hr⟩ := hI; exact lv_lshl hx hb hdg rfl (go hr hl hP hD hS)
  case lshr => obtain ⟨rfl, a, b, t, rfl, hr⟩ := hI; exact lv_lshr hx hb hdg rfl (go hr hl hP hD hS)
  case lushr => obtain ⟨rfl, a, b, t, rfl, hr⟩ := hI; exact lv_lushr hx hb hdg rfl (go hr hl hP hD hS)
  case lcmp => obtain ⟨rfl, a, b, t, rfl, hr⟩ := hI; exact W.lcmp hx hb hdg (go hr hl hP hD hS)
  case l2i => obtain ⟨rfl, a, t, rfl, hr⟩ := hI; exact lv_l2i hx hb hdg rfl (go hr hl hP hD hS)
  case pop => obtain ⟨rfl, v, t, rfl, h1, hr⟩ := hI; exact lv_pop hx hb hdg h1 (go hr hl hP hD hS)
  case dup => obtain ⟨rfl, v, t, rfl, h1, hr⟩ := hI; exact lv_dup hx hb hdg h1 (go hr hl hP hD hS)
  case dup2 => obtain ⟨rfl, v, u, t, rfl, h1, h2, hr⟩ := hI; exact lv_dup2_11 hx hb hdg h1 h2 (go hr hl hP hD hS)
  case ifCond cd off =>
    obtain ⟨rfl, v, t, tg, rfl, ht, h⟩ := hI
    have kt : mj_c1 cd v 0 → W p l e R s m args below meth c H locs cells slots Z (F0 m tg ls t) := fun z => h.elim (fun q => go q.2 hl hP hD hS) (fun q => absurd z q.1)
    have kf : ¬ mj_c1 cd v 0 → W p l e R s m args below meth c H locs cells slots Z (F0 m (pc + 3) ls t) := fun z => h.elim (fun q => absurd q.1 z) (fun q => go q.2 hl hP hD hS)
    cases cd
    · exact lv_if_eq hx hb hdg ht (fun z => kt z) (fun z => kf z)
    · exact lv_if_ne hx hb hdg ht (fun z => kt z) (fun z => kf (fun q => q z))
    · exact lv_if_lt hx hb hdg ht (fun z => kt z) (fun z => kf z)
    · exact lv_if_ge hx hb hdg ht (fun z => kt z) (fun z => kf z)
    · exact lv_if_gt hx hb hdg ht (fun z => kt z) (fun z => kf z)
    · exact lv_if_le hx hb hdg ht (fun z => kt z) (fun z => kf z)
  case if_icmp cd off =>
    obtain ⟨rfl, a, b, t, tg, rfl, ht, h⟩ := hI
    have kt : mj_c1 cd a b → W p l e R s m args below meth c H locs cells slots Z (F0 m tg ls t) := fun z => h.elim (fun q => go q.2 hl hP hD hS) (fun q => absurd z q.1)
    have kf : ¬ mj_c1 cd a b → W p l e R s m args below meth c H locs cells slots Z (F0 m (pc + 3) ls t) := fun z => h.elim (fun q => absurd q.1 z) (fun q => go q.2 hl hP hD hS)
    cases cd
    · exact lv_icmp_eq hx hb hdg ht (fun z => kt z) (fun z => kf z)
    · exact lv_icmp_ne hx hb hdg ht (fun z => kt z) (fun z => kf (fun q => q z))
    · exact lv_icmp_lt hx hb hdg ht (fun z => kt z) (fun z => kf z)
    · exact lv_icmp_ge hx hb hdg ht (fun z => kt z) (fun z => kf z)
    · exact lv_icmp_gt hx hb hdg ht (fun z => kt z) (fun z => kf z)
    · exact lv_icmp_le hx hb hdg ht (fun z => kt z) (fun z => kf z)
  case goto off => obtain ⟨rfl, tg, ht, hr⟩ := hI; exact lv_goto hx hb hdg ht (go hr hl hP hD hS)
  case tableswitch df lo hi offs =>
    obtain ⟨v, t, off, tg, rfl, ht, h, hr⟩ := hI
    rcases h with ⟨h1, rfl⟩ | ⟨h1, h2, h3⟩
    · exact lv_tableOut hx hb hdg h1 ht (go hr hl hP hD hS)
    · exact lv_tableIn hx hb hdg h1 h2 h3 ht (go hr hl hP hD hS)
  case lookupswitch df ps =>
    obtain ⟨v, t, tg, rfl, h1, ht, hr⟩ := hI
    exact lv_lookup hx hb hdg h1 rfl ht (go hr hl hP hD hS)
  case getfield ix =>
    obtain ⟨rfl, a, t, rfl, h⟩ := hI
    rcases h with ⟨ci, k, pl, q0, fs, v, h1, h2, h3, hr⟩ | ⟨i, pl, hi, rfl, h⟩
    · obtain ⟨C, T, N, g1, g2, g3, g4⟩ := mj_fl_use h1
      exact va_get hx hb hts (mj_cl_use g1).1 hown hK hP q0 h2 g1 k g2 (hts _ g4) (fun x hx => by rw [g3] at hx; exact hx) h3 hdg (go hr hl hP hD hS)
    · rcases h with ⟨h1, hr⟩ | ⟨h1, hr⟩
      · have g := mj_sl_use h1
        exact vk_getf hx hb (hRO.2.2.1 i hi).2.2.1 hS hown (hts _ (mj_in_tb (of_decide_eq_true g) rfl)) (fun _ h9 => h9) hdg (go hr hl hP hD hS)
      · have g := mj_sl_use h1
        exact vk_getf hx hb (hRO.2.2.1 i hi).2.1 hS hown (hts _ (mj_in_tb (of_decide_eq_true g) rfl)) (fun _ h9 => h9) hdg (go hr hl hP hD hS)
  case putfield ix =>
    obtain ⟨rfl, v, a, t, ci, k, pl, q0, fs, rfl, h1, h2, h3, ⟨ty, h4, h5, h6⟩, h7, hr⟩ := hI
    obtain ⟨C, T, N, g1, g2, g3, g4⟩ := mj_fl_use h1
    obtain ⟨u1, u2, u3⟩ := mj_cl_use g1
    have eT : (mj_cl.getD ci ("", mj_T0, 0)) = (C, T, N) := by rw [List.getD_eq_getElem?_getD, g1]; rfl
    rw [eT] at h4 h7
    dsimp only at h4 h7
    by_cases hf : (T k).2.2.2 = true
    · obtain ⟨f1, f2⟩ := h7 hf
      refine va_putF hx hb hts u1 _ u2 u3 hown hK hP hD hS q0 h2 g1 k g2 (hts _ g4) (fun x hx => by rw [g3] at hx; exact hx) hf (hnm f1) ?_ h4 h5 h6 h3 hdg (fun H1 locs1 hP1 hD1 hS1 => go hr hl hP1 hD1 hS1)
      rw [g3, ← f2]
      have := g1
      match ci, this with
      | 0, h => exact (congrArg (·.1) (Option.some.inj h)).symm
      | 1, h => exact (congrArg (·.1) (Option.some.inj h)).symm
      | 2, h => exact (congrArg (·.1) (Option.some.inj h)).symm
      | 3, h => exact (congrArg (·.1) (Option.some.inj h)).symm
      | 4, h => exact (congrArg (·.1) (Option.some.inj h)).symm
      | 5, h => exact (congrArg (·.1) (Option.some.inj h)).symm
      | 6, h => exact (congrArg (·.1) (Option.some.inj h)).symm
      | n + 7, h => exact absurd h (by rw [List.getElem?_eq_none (by show 7 ≤ n + 7; omega)]; intro z; cases z)
    · exact va_put hx hb hts u1 _ u2 u3 hown hK hP hD hS q0 h2 g1 k g2 (hts _ g4) (fun x hx => by rw [g3] at hx; exact hx) (by simpa using hf) h4 h5 h6 h3 hdg (fun H1 locs1 hP1 hD1 hS1 => go hr hl hP1 hD1 hS1)
  case getstatic ix =>
    obtain ⟨rfl, sid, ns, pl, h1, hr⟩ := hI
    have g := mj_stl_use h1
    simp only [mj_okstl, Bool.and_eq_true, decide_eq_true_eq] at g
    obtain ⟨g1, g2⟩ := g
    by_cases hz : ns = 0
    · rw [if_pos hz] at g2
      exact va_gets hx hb (hRO.1 sid g1) hS hown (hts _ (mj_in_tb (of_decide_eq_true g2) rfl)) (fun _ h9 => h9) hdg (go hr hl hP hD hS)
    · rw [if_neg hz] at g2
      exact va_getsN hx hb (hRO.1 sid g1) hS hown (va_Nw.use rfl (hRO.2.2.2.2 _ (mj_in_nw (of_decide_eq_true g2) rfl))) (fun _ h9 => h9) hdg (go hr hl hP hD hS)
  case iaload =>
    obtain ⟨rfl, i, a, t, rfl, h⟩ := hI
    rcases h with ⟨q0, N, f, h1, h2, hr⟩ | ⟨k, hk, rfl, h2, hr⟩
    · exact va_iald hx hb hK hP q0 0 h1 rfl h2 hdg (go hr hl hP hD hS)
    · exact va_ti hx hb (hRO.2.1 k hk) hS h2 rfl hdg (go hr hl hP hD hS)
  case laload => obtain ⟨rfl, i, a, t, q0, N, f, rfl, h1, h2, hr⟩ := hI; exact va_lald hx hb hK hP q0 1 h1 rfl h2 hdg (go hr hl hP hD hS)
  case baload =>
    obtain ⟨rfl, i, a, t, rfl, h⟩ := hI
    rcases h with ⟨q0, N, f, h1, h2, hr⟩ | ⟨k, hk, rfl, h2, hr⟩
    · exact va_zald hx hb hK hP q0 2 h1 rfl h2 hdg (go hr hl hP hD hS)
    · exact va_tb hx hb (hRO.2.2.1 k hk).2.2.2 hS h2 rfl hdg (go hr hl hP hD hS)
  case iastore => obtain ⟨rfl, x, i, a, t, q0, N, f, rfl, h1, h2, hr⟩ := hI; exact va_iast hx hb hK hP hD hS q0 0 h1 rfl h2 hdg (fun H1 locs1 hP1 hD1 hS1 => go hr hl hP1 hD1 hS1)
  case lastore => obtain ⟨rfl, x, i, a, t, q0, N, f, rfl, h1, h2, hr⟩ := hI; exact va_last hx hb hK hP hD hS q0 1 h1 rfl h2 hdg (fun H1 locs1 hP1 hD1 hS1 => go hr hl hP1 hD1 hS1)
  case bastore => obtain ⟨rfl, x, i, a, t, q0, N, f, rfl, h1, h2, hr⟩ := hI; exact va_zast hx hb hK hP hD hS q0 2 h1 rfl h2 hdg (fun H1 locs1 hP1 hD1 hS1 => go hr hl hP1 hD1 hS1)
  case arraylength =>
    obtain ⟨rfl, a, t, rfl, h⟩ := hI
    rcases h with ⟨q0, x, h1, hr⟩ | ⟨k, hk, rfl, hr⟩ | ⟨k, hk, rfl, hr⟩
    · exact va_alen hx hb hK hP q0 0 h1 (ty := .int) rfl rfl hdg (go hr hl hP hD hS)
    · exact va_tlen hx hb (hRO.2.1 k hk) hS rfl hdg (go hr hl hP hD hS)
    · exact va_tlen hx hb (hRO.2.2.1 k hk).2.2.2 hS rfl hdg (go hr hl hP hD hS)
  case ldc ix =>
    obtain ⟨rfl, h⟩ := hI
    rcases h with ⟨v, pl, h1, hr⟩ | ⟨i, pl, hi, h1, hr⟩
    · have g := mj_kl_use h1
      exact lv_ldc hx hb hown (hts _ (mj_in_tb (of_decide_eq_true g) rfl)) hdg (go hr hl hP hD hS)
    · have g := mj_kl_use h1
      simp only [mj_okkl, Bool.and_eq_true, decide_eq_true_eq, Int.toNat_natCast] at g
      have hz := hRO.2.2.2.1 i hi
      rw [g.1.2, g.2] at hz
      exact va_ldcS hx hb hown hz hdg (go hr hl hP hD hS)
  case ldc_w ix =>
    obtain ⟨rfl, v, pl, h1, hr⟩ := hI
    exact lv_ldcw hx hb hown (hts _ (mj_in_tb (of_decide_eq_true (mj_kl_use h1)) rfl)) hdg (go hr hl hP hD hS)
  case ldc2_w ix =>
    obtain ⟨rfl, v, pl, h1, hr⟩ := hI
    exact lv_ldc2 hx hb hown (hts _ (mj_in_tb (of_decide_eq_true (mj_kl_use h1)) rfl)) hdg (go hr hl hP hD hS)
  case newarray at0 =>
    obtain ⟨rfl, x, t, e, ty, rfl, hn, he, hlen, rfl⟩ := hI
    obtain ⟨mc2, ms2, e1, e2, hF⟩ := hF
    have hc1 : cells + 1 ≤ R.cells := by omega
    have hs1 : slots + x.toNatClampNeg ≤ R.slots := by omega
    have key : ∀ (ty : FieldType) (cI cA : ClassId) (k : Nat), (∀ C, ty ≠ .object C) → (mj_tys E)[k]? = some (cI, ty) → va_K D mj_cl (mj_tys E ++ [(cA, ty)]) s → cA = cI := by
      intro ty cI cA k hty hk hK1
      have a1 := (hK.2 k _ hk).2
      have a2 := (hK1.2 3 (cA, ty) rfl).2
      have b1 : s.vm.findClass ("[" ++ ty.toString) = some cI := by
        cases ty <;> first | exact a1 | exact absurd rfl (hty _)
      have b2 : s.vm.findClass ("[" ++ ty.toString) = some cA := by
        cases ty <;> first | exact a2 | exact absurd rfl (hty _)
      exact Option.some.inj (b2.symm.trans b1)
    cases at0
    case int =>
      cases he
      refine va_newa (atype := .int) hx hb (hts _ mj_arr_in.1) rfl hK hP hD hS hA (a0 := (x.toNatClampNeg, .inl (fun _ => 0))) (fun _ => rfl) hn rfl (by show x.toNatClampNeg * 4 ≤ _; omega) hc1 hs1 hdg (fun q cA H1 hK1 hP1 hD1 hS1 => ?_)
      have hz := key .int _ cA 0 (fun C z => by cases z) rfl hK1
      subst hz
      exact goG (hF q (mj_fresh hD1)) (by omega) (by omega) hl hP1 hD1 hS1
    case long =>
      cases he
      refine va_newa (atype := .long) hx hb (hts _ mj_arr_in.2.1) rfl hK hP hD hS hA (a0 := (x.toNatClampNeg, .inr (.inl (fun _ => 0)))) (fun _ => rfl) hn rfl (by show x.toNatClampNeg * 8 ≤ _; omega) hc1 hs1 hdg (fun q cA H1 hK1 hP1 hD1 hS1 => ?_)
      have hz := key .long _ cA 1 (fun C z => by cases z) rfl hK1
      subst hz
      exact goG (hF q (mj_fresh hD1)) (by omega) (by omega) hl hP1 hD1 hS1
    case boolean =>
      cases he
      refine va_newa (atype := .boolean) hx hb (hts _ mj_arr_in.2.2) rfl hK hP hD hS hA (a0 := (x.toNatClampNeg, .inl (fun _ => 0))) (fun _ => rfl) hn rfl (by show x.toNatClampNeg * 1 ≤ _; omega) hc1 hs1 hdg (fun q cA H1 hK1 hP1 hD1 hS1 => ?_)
      have hz := key .boolean _ cA 2 (fun C z => by cases z) rfl hK1
      subst hz
      exact goG (hF q (mj_fresh hD1)) (by omega) (by omega) hl hP1 hD1 hS1
    all_goals cases he
  case new ix =>
    obtain ⟨rfl, ci, pl, fs, h1, h2, h3, rfl⟩ := hI
    obtain ⟨mc2, ms2, e1, e2, hF⟩ := hF
    obtain ⟨C, T, N, g1, g2, g3, g4⟩ := mj_nl_use h1
    obtain ⟨u1, u2, u3⟩ := mj_cl_use g1
    have eT : (mj_cl.getD ci ("", mj_T0, 0)) = (C, T, N) := by rw [List.getD_eq_getElem?_getD, g1]; rfl
    rw [eT] at h3 e2
    dsimp only at h3 e2
    refine va_new hx hb hts u1 _ u2 hown (hts _ g2) (hts _ g3) (hts _ g4) hK hP hD hS hA g1 (fs := fs) (fun j hj => ?_) (by omega) (by omega) hdg (fun q H1 hP1 hD1 hS1 => ?_)
    · rw [h3]
      unfold vp_V
      rw [List.getD_eq_getElem?_getD, List.getElem?_map, List.getElem?_range hj]
      simp only [Option.map_some, Option.getD_some]
      obtain ⟨ty, e⟩ : ∃ ty, parseFieldDescriptor (T j).2.2.1 = some ty := ⟨_, u2 j hj⟩
      rw [e]; rfl
    · exact goG (hF q (mj_fresh hD1)) (by omega) (by omega) hl hP1 hD1 hS1
  case invokevirtual ix =>
    obtain ⟨rfl, y2, pl, as, a, rest, h1, rfl, ⟨c1, c2, c3, c4, c5⟩, h3, rfl⟩ := hI
    obtain ⟨d2, mc2, ms2, mc3, ms3, Rq, e1, e2, e3, hC, hN⟩ := hF
    have g := mj_ml_use h1
    simp only [mj_okml, Bool.and_eq_true, decide_eq_true_eq] at g
    obtain ⟨⟨⟨⟨⟨g1, g2⟩, g3⟩, g4⟩, g5⟩, g6⟩ := g
    obtain ⟨k1, k2, k3, k4, k5, k6, k7, k8, k9⟩ := mj_m_use g1 g2 g3
    have hrecv : ∃ cellB : Cell, H[a]? = some cellB ∧ cellB.vm.isStatics = false ∧ s.vm.findClass (mj_y y2).cls = some cellB.cls := by
      rcases h3 with ⟨q0, ci, fs, b1, b2, b3⟩ | ⟨i, hi, rfl, b2⟩
      · obtain ⟨T, N, hc⟩ := mj_cl_of b3
        obtain ⟨cell, z1, z2, z3⟩ := va_recv hK hP hc b1
        exact ⟨cell, z1, z2, by rw [← b2]; exact z3⟩
      · obtain ⟨cell, z1, z2, z3, -⟩ := (hRO.2.2.1 i hi).1.kept hS.2.1
        exact ⟨cell, z1, z2, by rw [b2]; exact z3⟩
    refine mj_call (va_runV (As := as) (rest := rest) (C := (mj_y y2).cls) (b := a) ⟨hx, hb, hml, hown, hts⟩ (mj_met hC g1 g2 g3 c3 hD) ⟨hcallB g1 g2 g3 e1 c4 (hts _ (mj_in_tb g5 rfl)), hts _ (k8 g4), hts _ (mj_in_tb g6 rfl)⟩ ⟨mj_frameBlind E D A _ ws, hrecv, fun U hU hW => hpre _ U hU hW⟩ rfl ?_ hl.1 rfl (lv_room c5) hdg ⟨by omega, by omega⟩) hS (fun v ws1 H1 locs1 hq hP1 hD1 hS1 => goG (hN v ws1 hq) (by omega) (by omega) hl hP1 hD1 hS1)
    simpa using c2
  case invokestatic ix =>
    obtain ⟨rfl, h⟩ := hI
    rcases h with ⟨y2, pl, as, rest, h1, rfl, ⟨c1, c2, c3, c4, c5⟩, rfl⟩ | ⟨pl, z0, sp, dp, nn, a0, a1, q0, q1, n0, n1, f, g, rest, h1, h2, rfl, h3, h4, h5, h6, h7, h8, h9, h10, hr⟩ | ⟨pl, z0, a, b, rest, h1, h2, rfl, h3, hr⟩ | ⟨pl, z0, a, b, rest, h1, h2, rfl, h3, hr⟩
    · obtain ⟨d2, mc2, ms2, mc3, ms3, Rq, e1, e2, e3, hC, hN⟩ := hF
      rcases h1 with h1 | h1
      · have g := mj_ml_use h1
        simp only [mj_okml, Bool.and_eq_true, decide_eq_true_eq] at g
        obtain ⟨⟨⟨⟨g1, g2⟩, g3⟩, g4⟩, g5⟩ := g
        obtain ⟨k1, k2, k3, k4, k5, k6, k7, k8, k9⟩ := mj_m_use g1 g2 g3
        exact mj_call (va_runS (As := as) (rest := rest) ⟨hx, hb, hml, hown, hts⟩ (mj_met hC g1 g2 g3 c3 hD) ⟨hcallB g1 g2 g3 e1 c4 (hts _ (mj_in_tb g5 rfl)), hts _ (k7 g4)⟩ ⟨mj_frameBlind E D A _ ws, fun U hU hW => hpre _ U hU hW⟩ rfl c2 hl.1 rfl (lv_room c5) hdg ⟨by omega, by omega⟩) hS (fun v ws1 H1 locs1 hq hP1 hD1 hS1 => goG (hN v ws1 hq) (by omega) (by omega) hl hP1 hD1 hS1)
      · have g := mj_ml_use h1
        simp only [mj_okml, Bool.and_eq_true, decide_eq_true_eq] at g
        obtain ⟨⟨⟨⟨g1, g2⟩, g3⟩, g4⟩, g5⟩ := g
        obtain ⟨k1, k2, k3, k4, k5, k6, k7, k8, k9⟩ := mj_m_use g1 g2 g3
        exact mj_call (va_runSN (As := as) (rest := rest) ⟨hx, hb, hml, hown, hts⟩ (mj_met hC g1 g2 g3 c3 hD) ⟨hcallN g1 g2 g3 e1 c4 (hRO.2.2.2.2 _ (mj_in_nw g5 rfl)), hts _ (k7 g4), trivial⟩ ⟨mj_frameBlind E D A _ ws, fun U hU hW => hpre _ U hU hW⟩ rfl c2 hl.1 rfl (lv_room c5) hdg ⟨by omega, by omega⟩) hS (fun v ws1 H1 locs1 hq hP1 hD1 hS1 => goG (hN v ws1 hq) (by omega) (by omega) hl hP1 hD1 hS1)
    · have hnf : nativeFrameWords "java/lang/System" "arraycopy" 5 ≤ 200 := by decide +kernel
      exact va_copyi hx hb (by rw [hml]; exact hl.1.symm) hown (hts _ (mj_in_tb (of_decide_eq_true (mj_ml_use h1)) rfl)) (hts _ mj_copy_in.1) (hts _ mj_copy_in.2.1) (hts _ mj_copy_in.2.2) hK hP hD hS q0 q1 0 0 h4 h5 rfl rfl rfl h6 h7 h8 h9 h10 (fun _ _ => rfl) (by omega) (by omega) hdg (fun H1 locs1 hP1 hD1 hS1 => go hr hl hP1 hD1 hS1)
    · exact va_mmax hx hb (by rw [hml]; exact hl.1.symm) hown (hts _ (mj_in_tb (of_decide_eq_true (mj_ml_use h1)) rfl)) (hts _ mj_math_in.1) (hts _ mj_math_in.2.2) (hts _ mj_max_in) (by omega) (by omega) (by omega) (by omega) hdg (go hr hl hP hD hS)
    · exact va_mmin hx hb (by rw [hml]; exact hl.1.symm) hown (hts _ (mj_in_tb (of_decide_eq_true (mj_ml_use h1)) rfl)) (hts _ mj_math_in.2.1) (hts _ mj_math_in.2.2) (hts _ mj_min_in) (by omega) (by omega) (by omega) (by omega) hdg (go hr hl hP hD hS)
  case invokespecial ix =>
    obtain ⟨rfl, h⟩ := hI
    rcases h with ⟨y2, pl, as, a, rest, h1, rfl, ⟨c1, c2, c3, c4, c5⟩, rfl⟩ | ⟨pl, z0, a, rest, h1, h2, rfl, h3, hr⟩
    · obtain ⟨d2, mc2, ms2, mc3, ms3, Rq, e1, e2, e3, hC, hN⟩ := hF
      have c2 : as.length = (mj_m y2).2.2.2.2.2.2 := by simpa using c2
      rcases h1 with h1 | h1
      · have g := mj_ml_use h1
        simp only [mj_okml, Bool.and_eq_true, decide_eq_true_eq] at g
        obtain ⟨⟨⟨⟨⟨⟨g1, g2⟩, g3⟩, g4⟩, g5⟩, g6⟩, g7⟩ := g
        obtain ⟨k1, k2, k3, k4, k5, k6, k7, k8, k9⟩ := mj_m_use g1 g2 g3
        have hcb := hcallB (mc2 := mc2) (ms2 := ms2) g1 g2 g3 e1 c4 (hts _ (mj_in_tb g7 rfl))
        rw [g6] at hcb
        exact mj_call (va_runI (As := as) (b := a) (rest := rest) ⟨hx, hb, hml, hown, hts⟩ (mj_met hC g1 g2 g3 c3 hD) ⟨hcb, g5, hts _ (k8 g4)⟩ ⟨mj_frameBlind E D A _ ws, fun U hU hW => hpre _ U hU hW⟩ rfl c2 hl.1 rfl (lv_room c5) hdg ⟨by omega, by omega⟩) hS (fun v ws1 H1 locs1 hq hP1 hD1 hS1 => goG (hN v ws1 hq) (by omega) (by omega) hl hP1 hD1 hS1)
      · have g := mj_ml_use h1
        simp only [mj_okml, Bool.and_eq_true, decide_eq_true_eq] at g
        obtain ⟨⟨⟨⟨⟨⟨g1, g2⟩, g3⟩, g4⟩, g5⟩, g6⟩, g7⟩ := g
        obtain ⟨k1, k2, k3, k4, k5, k6, k7, k8, k9⟩ := mj_m_use g1 g2 g3
        have hcb := hcallN (mc2 := mc2) (ms2 := ms2) g1 g2 g3 e1 c4 (hRO.2.2.2.2 _ (mj_in_nw g7 rfl))
        rw [g6] at hcb
        exact mj_call (va_runIN (As := as) (b := a) (rest := rest) ⟨hx, hb, hml, hown, hts⟩ (mj_met hC g1 g2 g3 c3 hD) ⟨hcb, g5, hts _ (k8 g4)⟩ ⟨mj_frameBlind E D A _ ws, fun U hU hW => hpre _ U hU hW⟩ rfl c2 hl.1 rfl (lv_room c5) hdg ⟨by omega, by omega⟩) hS (fun v ws1 H1 locs1 hq hP1 hD1 hS1 => goG (hN v ws1 hq) (by omega) (by omega) hl hP1 hD1 hS1)
    · refine W.objInit hx hb hown (hts _ (mj_in_tb (of_decide_eq_true (mj_ml_use h1)) rfl)) (hts _ mj_objInit_in.1) (hts _ mj_objInit_in.2) rfl (by rw [hml]; exact hl.1) rfl hdg (by omega) (by show 2 * 0 + _ + 12 ≤ _; omega) ?_
      exact W.eq (g2 := F0 m (pc + 3) ls rest) rfl (go hr hl hP hD hS)
  case ireturn =>
    obtain ⟨rfl, v, ty, rfl, h1, h2, rfl⟩ := hI
    exact hret _ _ H locs cells slots pc ls _ hF hP hD hS (by omega) (by omega) (Or.inl ⟨hdg, v, ty, rfl, rfl, h1, h2⟩)
  case lreturn =>
    obtain ⟨rfl, v, rfl, h1, rfl⟩ := hI
    exact hret _ _ H locs cells slots pc ls _ hF hP hD hS (by omega) (by omega) (Or.inr (Or.inl ⟨hdg, v, rfl, rfl, h1⟩))
  case return_ =>
    obtain ⟨rfl, rfl, h1, rfl⟩ := hI
    exact hret _ _ H locs cells slots pc ls _ hF hP hD hS (by omega) (by omega) (Or.inr (Or.inr ⟨hdg, rfl, rfl, h1⟩))
  all_goals exact hI.elim
/-- THE BRIDGE: what the small machine does, the machine does -/
theorem MJ.sound {l : Launch} {E : mj_E} {D : va_G} {A : Nat → Prop} {d mc ms : Nat} {cf : mj_C} {Q : Option Value → va_W → Prop} (h : MJ E d mc ms cf Q) : mj_W l E D A d mc ms cf Q := h _ (fun _ _ _ _ _ hF => mj_W.step hF)
