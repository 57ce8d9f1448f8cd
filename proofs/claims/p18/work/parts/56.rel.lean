/-! THE TWO SIDES: keep, again, and the call whose answers are compared -/
section LAW
variable {E : mj_E} {Q : Option Value → va_W → Prop}
def ckM : List Nat := [0, 38, 39, 40, 41, 42, 43, 44, 45, 46, 47, 48, 49, 50, 51, 52, 53, 54, 55, 56, 57, 58, 59, 60, 61, 62, 63, 64, 65, 66, 67, 68, 69, 70, 71, 72, 73, 74]
def caM : List Nat := [1, 2, 3, 4, 5, 6, 7, 8, 9, 10, 11, 12, 13, 14, 15, 16, 17, 18, 19, 20, 21, 22, 23, 24, 25, 26, 27, 28, 29, 30, 31, 32, 33, 34, 35, 36, 37]
/-- the cells that the call may write, on either side -/
def xMc : List Nat := [1, 15, 18, 19]
def xMr : List Nat := [100, 108]
/-- slots with expressions -/
def jHe (cs : List (Nat × Nat)) (es : List ae) : aH := (cs.zip es).map (fun p => ((p.1.1, ae_k (p.1.2 : Int)), p.2))
def jCc (up : Nat) : List (Nat × Nat) := jLv.map (fun q => (q.1 + up, q.2.1))
def jCr : List (Nat × Nat) := jLv.map (fun q => (q.2.2.1, q.2.2.2.1))
def jSs (n : Nat) : List ae := (List.range jLv.length).map (fun k => ae_s (n + k))
def jVs (w : va_W) (cs : List (Nat × Nat)) : List Int := cs.map (fun c => jS w c.1 c.2)
def jFs : List (Int × Int) := jLv.map (fun _ => aF)
def ai_ck : aInst := ((177, jFs, [], [.inr (0, 0)], jHe (jCc 0) (jSs 0), ckM, 3, [([], [], some (.inl (ae_k 1)), ((0, ae_k 2), ae_k 1) :: jHe (jCc 37) (jSs 0))]), [])
def ai_ca0 : aInst := ((180, [], [], [.inr (0, 0)], [((0, ae_k 2), ae_k 0)], [], 3, [([], [], some (.inl (ae_k (-3))), [])]), [])
def ai_ca1 : aInst := ((180, jFs, [], [.inr (0, 0)], ((0, ae_k 2), ae_k 1) :: jHe (jCc 37) (jSs 0), caM, 3, [([], [], some (.inl (ae_k 1)), jHe (jCc 0) (jSs 0))]), [])
/-- the bounds of a slot -/
def jLay (c i : Nat) : Option (Int × Int) := match aLay[c]? with
  | some (.inl (_, fs)) => (match fs[i]? with
    | some (.inr b) => some b
    | _ => none)
  | some (.inr (0, N, cols)) => if i < N then cols[i % cols.length]? else none
  | _ => none
def jLy (q : jQ) : Bool := decide (q.1 < 900) && decide (q.2.2.1 < 900) && (jLay q.2.2.1 q.2.2.2.1).isSome && ((jLay (q.1 + 0) q.2.1).isSome && ((jLay (q.1 + 37) q.2.1).isSome && mvs.any (fun r => decide (r.1 = q.2.2.1 ∧ q.2.2.2.1 < r.2.1 ∧ q.2.2.2.2.1 = r.2.2 + q.2.2.2.1))))
def jMd (q : jQ) : Prop := q.1 ∉ ckM ∧ q.1 ∉ ([99, 140] : List Nat) ∧ q.1 ∉ mvc ∧ q.1 ∉ xMr ∧ q.1 + 37 ∉ caM ∧ q.1 + 37 ∉ ([99, 140] : List Nat) ∧ q.1 + 37 ∉ mvc ∧ q.1 + 37 ∉ xMc ∧ q.1 + 37 ∉ xMr ∧ q.2.2.1 ∉ ckM ∧ q.2.2.1 ∉ caM ∧ q.2.2.1 ∉ ([99, 140] : List Nat) ∧ q.2.2.1 ∉ xMc
section
set_option maxRecDepth 100000
theorem ck_chk : ak_inst (aG00 []) 100000 ai_ck = true := by decide +kernel
theorem ca0_chk : ak_inst (aG00 []) 100000 ai_ca0 = true := by decide +kernel
theorem ca1_chk : ak_inst (aG00 []) 100000 ai_ca1 = true := by decide +kernel
theorem jLy_all : jLv.all jLy = true := by decide +kernel
theorem jMd_all : ∀ q ∈ jLv, jMd q := by unfold jMd; decide +kernel
theorem jM_0 : 0 ∉ xMc ∧ 0 ∉ xMr ∧ 99 ∉ xMc ∧ 99 ∉ xMr ∧ 140 ∉ xMc ∧ 140 ∉ xMr := by decide +kernel
theorem lp_k1 : laP 2191 [] 2192 laLv [.inr (0, 0)] = true := by decide +kernel
theorem lp_k2 : laP 2195 [.inl (ae_k 1)] 2197 laLv [.inr (0, 99)] = true := by decide +kernel
theorem lp_k3 : laP 2200 [.inl (ae_k 1)] 2217 laLv [] = true := by decide +kernel
theorem lp_a1 : laP 2204 [] 2205 laLv [.inr (0, 0)] = true := by decide +kernel
theorem lp_a2a : laP 2208 [.inl (ae_k (-3))] 2210 laLv [.inr (0, 99)] = true := by decide +kernel
theorem lp_a3a : laP 2213 [.inl (ae_k (-3))] 2217 laLv [] = true := by decide +kernel
theorem lp_a2b : laP 2208 [.inl (ae_k 1)] 2210 laLv [.inr (0, 99)] = true := by decide +kernel
theorem lp_a3b : laP 2213 [.inl (ae_k 1)] 2217 laLv [] = true := by decide +kernel
end
section SIDES
variable {al : List Nat} {ws w w2 : va_W} {L : Nat} {i : Int} {ρ : List Int}
theorem aLay_00 : ∃ fs, aLay[(0 : Nat)]? = some (.inl (5, fs)) ∧ fs[(2 : Nat)]? = some (.inr (0, 1)) := ⟨_, rfl, rfl⟩
theorem wd_02 (h : aWd E al aLay w) : aSl w 0 2 (jS w 0 2) ∧ 0 ≤ jS w 0 2 ∧ jS w 0 2 ≤ 1 := by
  obtain ⟨fs, l1, l2⟩ := aLay_00
  exact wd_sl h l1 l2
theorem kn1 {c i : Nat} {x : Int} {e : ae} (hc : c < 1000000) (hr : e.1.all (fun q => decide (q.1 < ρ.length)) = true) (he : ae_ev ρ e = x) (h : aSl ws c i x) : aH1 ρ ws ((c, ae_k (i : Int)), e) :=
  aH1.mk hc rfl hr (by rw [ae_ev_k]; omega) (by rw [ae_ev_k, he, Int.toNat_natCast]; exact h)
theorem ev_s {k : Nat} {x : Int} (h : ρ[k]? = some x) : ae_ev ρ (ae_s k) = x := ((aV.s h).ev).symm
theorem aSl.i32 {c i : Nat} {x : Int} (h : aSl w c i x) : aI0 ≤ x ∧ x ≤ aI1 := by
  rcases h with ⟨a, ci, vs, n, -, -, rfl⟩ | ⟨a, cl, N, f, -, -, rfl⟩
  · exact ⟨i32_lo _, i32_hi _⟩
  · exact ⟨i32_lo _, i32_hi _⟩
theorem jLay_ok (h : aWd E al aLay w) {c i : Nat} {b : Int × Int} (hb : jLay c i = some b) : aSl w c i (jS w c i) ∧ b.1 ≤ jS w c i ∧ jS w c i ≤ b.2 := by
  unfold jLay at hb
  split at hb
  · rename_i ci fs hl
    split at hb
    · rename_i b0 hf
      cases hb
      exact wd_sl h hl hf
    · cases hb
  · rename_i N cols hl
    split at hb
    · rename_i hi
      exact wd_rw h hl hi hb
    · cases hb
  · cases hb
theorem jLay_sl (h : aWd E al aLay w) {c i : Nat} (hb : (jLay c i).isSome = true) : aSl w c i (jS w c i) := by
  obtain ⟨b, hb⟩ := Option.isSome_iff_exists.mp hb
  exact (jLay_ok h hb).1
/-- what the table of slots says -/
theorem jLy_ok {q : jQ} (hq : q ∈ jLv) : (q.1 < 900 ∧ q.2.2.1 < 900) ∧ (jLay q.2.2.1 q.2.2.2.1).isSome = true ∧ (jLay (q.1 + 0) q.2.1).isSome = true ∧ (jLay (q.1 + 37) q.2.1).isSome = true ∧ ∃ r ∈ mvs, r.1 = q.2.2.1 ∧ q.2.2.2.1 < r.2.1 ∧ q.2.2.2.2.1 = r.2.2 + q.2.2.2.1 := by
  have m := List.all_eq_true.mp jLy_all q hq
  unfold jLy at m
  simp only [Bool.and_eq_true, decide_eq_true_eq, List.any_eq_true] at m
  exact ⟨m.1.1, m.1.2, m.2.1, m.2.2.1, m.2.2.2⟩
theorem jHe_ok {cs : List (Nat × Nat)} {es : List ae} (h : ∀ (k : Nat) (c : Nat × Nat) (e : ae), cs[k]? = some c → es[k]? = some e → c.1 < 1000000 ∧ e.1.all (fun q => decide (q.1 < ρ.length)) = true ∧ aSl ws c.1 c.2 (ae_ev ρ e)) : aHh ρ ws (jHe cs es) := by
  intro q hq
  obtain ⟨p, hp, rfl⟩ := List.mem_map.mp hq
  obtain ⟨k, hk⟩ := List.getElem?_of_mem hp
  obtain ⟨h1, h2⟩ := List.getElem?_zip_eq_some.mp hk
  obtain ⟨g1, g2, g3⟩ := h k _ _ h1 h2
  exact kn1 g1 g2 rfl g3
theorem jHe_mem {cs : List (Nat × Nat)} {es : List ae} {k : Nat} {c : Nat × Nat} {e : ae} (h1 : cs[k]? = some c) (h2 : es[k]? = some e) : ((c.1, ae_k (c.2 : Int)), e) ∈ jHe cs es :=
  List.mem_map.mpr ⟨(c, e), List.mem_of_getElem? (List.getElem?_zip_eq_some.mpr ⟨h1, h2⟩), rfl⟩
theorem jHe_get {h : aH} (hh : aHh ρ w h) {c i : Nat} {e : ae} (hm : ((c, ae_k (i : Int)), e) ∈ h) (hc : c < 1000000) : jS w c i = ae_ev ρ e := by
  have := (hh.sl hm hc).2
  rw [ae_ev_k, Int.toNat_natCast] at this
  exact jS.sl this
theorem jSs_get {n k : Nat} {q : jQ} (hk : jLv[k]? = some q) : (jSs n)[k]? = some (ae_s (n + k)) := by
  unfold jSs
  rw [List.getElem?_map, List.getElem?_range (List.getElem?_eq_some_iff.mp hk).1]
  rfl
theorem jSs_of {n k : Nat} {e : ae} (h : (jSs n)[k]? = some e) : k < jLv.length ∧ e = ae_s (n + k) := by
  have hl : k < jLv.length := by
    have := (List.getElem?_eq_some_iff.mp h).1
    simpa [jSs] using this
  rw [jSs_get (List.getElem?_eq_getElem hl)] at h
  cases h
  exact ⟨hl, rfl⟩
theorem jCc_get {up k : Nat} {q : jQ} (hk : jLv[k]? = some q) : (jCc up)[k]? = some (q.1 + up, q.2.1) := by
  unfold jCc
  rw [List.getElem?_map, hk]
  rfl
theorem jCr_get {k : Nat} {q : jQ} (hk : jLv[k]? = some q) : jCr[k]? = some (q.2.2.1, q.2.2.2.1) := by
  unfold jCr
  rw [List.getElem?_map, hk]
  rfl
theorem jCc_of {up k : Nat} {c : Nat × Nat} (h : (jCc up)[k]? = some c) : ∃ q, jLv[k]? = some q ∧ c = (q.1 + up, q.2.1) := by
  unfold jCc at h
  rw [List.getElem?_map, Option.map_eq_some_iff] at h
  obtain ⟨q, h1, h2⟩ := h
  exact ⟨q, h1, h2.symm⟩
theorem jCr_of {k : Nat} {c : Nat × Nat} (h : jCr[k]? = some c) : ∃ q, jLv[k]? = some q ∧ c = (q.2.2.1, q.2.2.2.1) := by
  unfold jCr at h
  rw [List.getElem?_map, Option.map_eq_some_iff] at h
  obtain ⟨q, h1, h2⟩ := h
  exact ⟨q, h1, h2.symm⟩
theorem jVs_get {up k : Nat} {q : jQ} (hk : jLv[k]? = some q) : (jVs w (jCc up))[k]? = some (jS w (q.1 + up) q.2.1) := by
  unfold jVs
  rw [List.getElem?_map, jCc_get hk]
  rfl
theorem jVs_len {up : Nat} : (jVs w (jCc up)).length = jLv.length := by simp [jVs, jCc]
theorem jVs_env (hw : aWd E al aLay w) {up : Nat} (hs : ∀ q ∈ jLv, (jLay (q.1 + up) q.2.1).isSome = true) : aEv (jVs w (jCc up)) jFs := by
  refine ⟨by rw [jVs_len]; simp [jFs], fun k x b hk hb => ?_⟩
  have hl : k < jLv.length := by
    have := (List.getElem?_eq_some_iff.mp hk).1
    rw [jVs_len] at this
    exact this
  have hq := List.getElem?_eq_getElem hl
  rw [jVs_get hq] at hk
  cases hk
  unfold jFs at hb
  rw [List.getElem?_map, hq] at hb
  cases hb
  exact (jLay_sl hw (hs _ (List.mem_of_getElem? hq))).i32
theorem jVs_kn (hw : aWd E al aLay w) {up : Nat} (hu : up < 900) (hs : ∀ q ∈ jLv, (jLay (q.1 + up) q.2.1).isSome = true) : aHh (jVs w (jCc up)) w (jHe (jCc up) (jSs 0)) := by
  refine jHe_ok (fun k c e h1 h2 => ?_)
  obtain ⟨q, hq, rfl⟩ := jCc_of h1
  obtain ⟨hl, rfl⟩ := jSs_of h2
  have hm := List.mem_of_getElem? hq
  have hlt := (jLy_ok hm).1.1
  refine ⟨by show q.1 + up < 1000000; omega, ?_, ?_⟩
  · rw [jVs_len]
    simpa [ae_s] using hl
  · rw [ev_s (x := jS w (q.1 + up) q.2.1) (by rw [Nat.zero_add]; exact jVs_get hq)]
    exact jLay_sl hw (hs _ hm)
/-- the component keeps -/
theorem ck_mj (hf : E.2.2.2.1.category = 1) (hT : ∀ σ : List Int, aTb E σ aTabs) (a5 : aWd E al aLay ws) (a6 : aRs aRules ws) (a7 : jJ0 ws) {AS : List Value} (ha : gL E al ρ [.inr (0, 0)] AS) :
    MJ E 85 0 0 (mj_in0 177 AS ws) (fun v w => ∃ z : Int32, v = some (.int z) ∧ z.toInt = 1 ∧ aWd E al aLay w ∧ aRs aRules w ∧ jJ0 w ∧ hD ckM ws w ∧ jS w 0 2 = 1 ∧ ∀ q ∈ jLv, jS w (q.1 + 37) q.2.1 = jS ws q.1 q.2.1) := by
  have hs : ∀ q ∈ jLv, (jLay (q.1 + 0) q.2.1).isSome = true := fun q hq => (jLy_ok hq).2.2.1
  refine (ai00L hf hT (cs := []) (fun c hc => by cases hc) (q := ai_ck) (by decide) ck_chk (jVs ws (jCc 0)) AS ws (jVs_env a5 hs) aFs.nil ha (jVs_kn a5 (by decide) hs) a5 a6 a7 85 (by decide)).weaken (Nat.le_refl _) (Nat.le_refl _) (Nat.le_refl _) (fun v w h => ?_)
  obtain ⟨cs, hcs, r, h1, h2, h3, h4, h5, h6, h7, h8, h9⟩ := h
  have hcs := List.mem_singleton.mp hcs
  subst hcs
  obtain ⟨u, rfl, z, rfl, hz⟩ := h3
  have e2 := jHe_get (i := 2) h4 List.mem_cons_self (by decide)
  rw [ae_ev_k] at e2
  refine ⟨z, rfl, hz.of_k, h5, h6, h7, ⟨h8, fun k hk => h9 k hk⟩, e2, fun q hq => ?_⟩
  obtain ⟨k, hk⟩ := List.getElem?_of_mem hq
  have hlt := (jLy_ok hq).1.1
  have m : ((q.1 + 37, ae_k (q.2.1 : Int)), ae_s (0 + k)) ∈ jHe (jCc 37) (jSs 0) := jHe_mem (jCc_get hk) (jSs_get hk)
  rw [jHe_get h4 (List.mem_cons_of_mem _ m) (by omega)]
  refine ev_s ?_
  rw [Nat.zero_add, List.getElem?_append_left (by rw [jVs_len]; exact (List.getElem?_eq_some_iff.mp hk).1)]
  exact jVs_get (up := 0) hk
/-- the component takes back what it kept, or has nothing -/
theorem ca_mj (hf : E.2.2.2.1.category = 1) (hT : ∀ σ : List Int, aTb E σ aTabs) (a5 : aWd E al aLay ws) (a6 : aRs aRules ws) (a7 : jJ0 ws) {AS : List Value} (ha : gL E al ρ [.inr (0, 0)] AS) :
    MJ E 85 0 0 (mj_in0 180 AS ws) (fun v w => ∃ z : Int32, v = some (.int z) ∧ aWd E al aLay w ∧ aRs aRules w ∧ jJ0 w ∧ hD caM ws w ∧ ((jS ws 0 2 = 0 ∧ z.toInt = -3 ∧ ∀ q ∈ jLv, jS w q.1 q.2.1 = jS ws q.1 q.2.1) ∨ (jS ws 0 2 = 1 ∧ z.toInt = 1 ∧ ∀ q ∈ jLv, jS w q.1 q.2.1 = jS ws (q.1 + 37) q.2.1))) := by
  obtain ⟨s1, s2, s3⟩ := wd_02 a5
  have hb : jS ws 0 2 = 0 ∨ jS ws 0 2 = 1 := by omega
  rcases hb with hb | hb
  · rw [hb] at s1
    refine (ai00L hf hT (cs := []) (fun c hc => by cases hc) (q := ai_ca0) (by decide) ca0_chk [] AS ws (hEv.ok (σ := []) (env := []) trivial) aFs.nil ha (aHh.cons (kn1 (by decide) rfl (by rw [ae_ev_k]) s1) aHh.nil) a5 a6 a7 85 (by decide)).weaken (Nat.le_refl _) (Nat.le_refl _) (Nat.le_refl _) (fun v w h => ?_)
    obtain ⟨cs, hcs, r, h1, h2, h3, h4, h5, h6, h7, h8, h9⟩ := h
    have hcs := List.mem_singleton.mp hcs
    subst hcs
    obtain ⟨u, rfl, z, rfl, hz⟩ := h3
    have d : hD [] ws w := ⟨h8, fun k hk => h9 k hk⟩
    exact ⟨z, rfl, h5, h6, h7, d.more (by simp), Or.inl ⟨hb, hz.of_k, fun q hq => jS.at (d.2 q.1 (by simp))⟩⟩
  · rw [hb] at s1
    have hs : ∀ q ∈ jLv, (jLay (q.1 + 37) q.2.1).isSome = true := fun q hq => (jLy_ok hq).2.2.2.1
    refine (ai00L hf hT (cs := []) (fun c hc => by cases hc) (q := ai_ca1) (by decide) ca1_chk (jVs ws (jCc 37)) AS ws (jVs_env a5 hs) aFs.nil ha (aHh.cons (kn1 (by decide) rfl (by rw [ae_ev_k]) s1) (jVs_kn a5 (by decide) hs)) a5 a6 a7 85 (by decide)).weaken (Nat.le_refl _) (Nat.le_refl _) (Nat.le_refl _) (fun v w h => ?_)
    obtain ⟨cs, hcs, r, h1, h2, h3, h4, h5, h6, h7, h8, h9⟩ := h
    have hcs := List.mem_singleton.mp hcs
    subst hcs
    obtain ⟨u, rfl, z, rfl, hz⟩ := h3
    refine ⟨z, rfl, h5, h6, h7, ⟨h8, fun k hk => h9 k hk⟩, Or.inr ⟨hb, hz.of_k, fun q hq => ?_⟩⟩
    obtain ⟨k, hk⟩ := List.getElem?_of_mem hq
    have hlt := (jLy_ok hq).1.1
    have m : ((q.1 + 0, ae_k (q.2.1 : Int)), ae_s (0 + k)) ∈ jHe (jCc 0) (jSs 0) := jHe_mem (jCc_get hk) (jSs_get hk)
    rw [show q.1 = q.1 + 0 from rfl, jHe_get h4 m (by omega)]
    refine ev_s ?_
    rw [Nat.zero_add, List.getElem?_append_left (by rw [jVs_len]; exact (List.getElem?_eq_some_iff.mp hk).1)]
    exact jVs_get (up := 37) hk
/-- a row's slot, kept or come back -/
theorem kept_of {w1 w2 : va_W} (h1 : aWd E al aLay w1) (h2 : aWd E al aLay w2) {r : Nat × Nat × Nat} (hr : r ∈ mvs) {i : Nat} (h : jR w2 140 (r.2.2 + i) = jR w1 r.1 i) : jS w2 140 (r.2.2 + i) = jS w1 r.1 i := by
  obtain ⟨a, e, -⟩ := h2.row aw_140
  obtain ⟨b, e2, -⟩ := h1.row (mv_lay r hr)
  rw [jS.row ⟨a, _, _, _, e⟩, jS.row ⟨b, _, _, _, e2⟩, h]
set_option maxRecDepth 100000 in
/-- both keep -/
theorem la_keepH (hf : E.2.2.2.1.category = 1) (hT : ∀ σ : List Int, aTb E σ aTabs) (hL : L ≤ 3584) (H1 : hOkL E al laG1 (fun _ => True) [(L : Int), i] 2) (h : laI E al L i w) (hj : jJ w)
    (hq : ∀ w2, laI E al L i w2 → jJ w2 → hG E al 86 320 2217 laLv [] [(L : Int), i] w2 Q) : hG E al 86 320 2191 laLv [] [(L : Int), i] w Q := by
  obtain ⟨jx0, jx1, jx2⟩ := hj.2
  refine la_glue H1 hL lp_k1 h ?_
  refine law_callV (d := 85) (y2 := 177) (as := [.inr (0, 0)]) (rest := []) mj_li_law H1 (by rfl) (h.hW hL) (fun AS ha => ck_mj hf hT h.2.1 h.2.2 hj.1 ha) (fun z w1 hR => ?_)
  obtain ⟨hz, g1, g2, g3, g4, g5, g6⟩ := hR
  have h1 : laI E al L i w1 := ⟨h.1, g1, g2⟩
  rw [hz]
  refine la_glue H1 hL lp_k2 h1 ?_
  refine law_callV (d := 85) (y2 := 316) (as := [.inr (0, 99)]) (rest := []) mj_li_law H1 (by rfl) (h1.hW hL) (fun AS ha => (keep_mj hf hT g1 g2 g3 ha).weaken (by decide) (Nat.le_refl _) (Nat.le_refl _) (fun v w h => h)) (fun z w2 hR => ?_)
  obtain ⟨hz, m1, m2, m3, m4, m5, m6⟩ := hR
  have h2 : laI E al L i w2 := ⟨h.1, m1, m2⟩
  rw [hz]
  refine la_glue H1 hL lp_k3 h2 (hq w2 h2 ⟨m3, ?_, fun q hq => ?_, fun _ q hq => ?_⟩)
  · rw [m6, jS.at (m4.2 0 (by decide))]
    exact g5
  · obtain ⟨d1, d2, d3, d4, d5, d6, d7, d8, d9, d10, d11, d12, d13⟩ := jMd_all q hq
    unfold jO
    rw [jS.at (m4.2 _ d2), jS.at (g4.2 _ d1), jS.at (m4.2 _ d12), jS.at (g4.2 _ d10)]
    exact jx1 q hq
  · obtain ⟨d1, d2, d3, d4, d5, d6, d7, d8, d9, d10, d11, d12, d13⟩ := jMd_all q hq
    obtain ⟨-, -, -, -, r, hr, r1, r2, r3⟩ := jLy_ok hq
    have e := kept_of g1 m1 hr (m5 r hr _ r2)
    rw [r1] at e
    unfold jO
    rw [jS.at (m4.2 _ d6), g6 q hq, r3, e, jS.at (g4.2 _ d10)]
    exact jx1 q hq
set_option maxRecDepth 100000 in
/-- both ask for what was kept -/
theorem la_againH (hf : E.2.2.2.1.category = 1) (hT : ∀ σ : List Int, aTb E σ aTabs) (hL : L ≤ 3584) (H1 : hOkL E al laG1 (fun _ => True) [(L : Int), i] 2) (h : laI E al L i w) (hj : jJ w)
    (hq : ∀ w2, laI E al L i w2 → jJ w2 → hG E al 86 320 2217 laLv [] [(L : Int), i] w2 Q) : hG E al 86 320 2204 laLv [] [(L : Int), i] w Q := by
  obtain ⟨jx0, jx1, jx2⟩ := hj.2
  refine la_glue H1 hL lp_a1 h ?_
  refine law_callV (d := 85) (y2 := 180) (as := [.inr (0, 0)]) (rest := []) mj_li_law H1 (by rfl) (h.hW hL) (fun AS ha => ca_mj hf hT h.2.1 h.2.2 hj.1 ha) (fun z w1 hR => ?_)
  obtain ⟨g1, g2, g3, g4, g5⟩ := hR
  have h1 : laI E al L i w1 := ⟨h.1, g1, g2⟩
  have e99 : jS w1 99 59 = jS w 99 59 := jS.at (g4.2 99 (by decide))
  have e0 : jS w1 0 2 = jS w 0 2 := jS.at (g4.2 0 (by decide))
  have two : ∀ (x : Int), z.toInt = x → (∀ z2 : Int32, ((jS w1 99 59 = 0 ∧ z2.toInt = -3) ∨ (jS w1 99 59 = 1 ∧ z2.toInt = 1)) → z2.toInt = x) → laP 2208 [.inl (ae_k x)] 2210 laLv [.inr (0, 99)] = true → laP 2213 [.inl (ae_k x)] 2217 laLv [] = true → hG E al 86 320 2208 laLv [.inl (ae_k z.toInt)] [(L : Int), i] w1 Q := by
    intro x ex hx2 p1 p2
    rw [ex]
    refine la_glue H1 hL p1 h1 ?_
    refine law_callV (d := 85) (y2 := 319) (as := [.inr (0, 99)]) (rest := []) mj_li_law H1 (by rfl) (h1.hW hL) (fun AS ha => (again_mj hf hT g1 g2 g3 ha).weaken (by decide) (Nat.le_refl _) (Nat.le_refl _) (fun v w h => h)) (fun z2 w2 hR => ?_)
    obtain ⟨m1, m2, m3, m4, m5, m6⟩ := hR
    have h2 : laI E al L i w2 := ⟨h.1, m1, m2⟩
    rw [hx2 z2 (by
      rcases m6 with ⟨y1, y2, -⟩ | ⟨y1, y2, -⟩
      · exact Or.inl ⟨y1, y2⟩
      · exact Or.inr ⟨y1, y2⟩)]
    refine la_glue H1 hL p2 h2 (hq w2 h2 ⟨m3, ?_, fun q hq => ?_, fun hk q hq => ?_⟩)
    · rw [m5, jS.at (m4.2 0 (by decide)), e0, e99]
      exact jx0
    · obtain ⟨d1, d2, d3, d4, d5, d6, d7, d8, d9, d10, d11, d12, d13⟩ := jMd_all q hq
      unfold jO
      rw [jS.at (m4.2 _ d3)]
      rcases m6 with ⟨y1, y2, rfl⟩ | ⟨y1, y2, y3⟩
      · rcases g5 with ⟨k1, k2, k3⟩ | ⟨k1, k2, k3⟩
        · rw [k3 q hq, jS.at (g4.2 _ d11)]
          exact jx1 q hq
        · omega
      · rcases g5 with ⟨k1, k2, k3⟩ | ⟨k1, k2, k3⟩
        · omega
        · obtain ⟨-, -, -, -, r, hr, r1, r2, r3⟩ := jLy_ok hq
          have e := kept_of m1 g1 hr (y3 r hr _ r2).symm
          rw [r1] at e
          rw [k3 q hq, ← e, jS.at (g4.2 140 (by decide)), ← r3]
          exact jx2 k1 q hq
    · obtain ⟨d1, d2, d3, d4, d5, d6, d7, d8, d9, d10, d11, d12, d13⟩ := jMd_all q hq
      unfold jO
      rw [jS.at (m4.2 _ d7), jS.at (g4.2 _ d5), jS.at (m4.2 140 (by decide)), jS.at (g4.2 140 (by decide))]
      exact jx2 (by rw [← e0, ← jS.at (m4.2 0 (by decide))]; exact hk) q hq
  rcases g5 with ⟨y1, y2, -⟩ | ⟨y1, y2, -⟩
  · exact two (-3) y2 (fun z2 h => by omega) lp_a2a lp_a3a
  · exact two 1 y2 (fun z2 h => by omega) lp_a2b lp_a3b
end SIDES
end LAW
