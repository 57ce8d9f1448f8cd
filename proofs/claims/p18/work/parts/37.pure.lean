/-! what waits and what was emitted -/
def nb (W : Nat → Int32) : Nat → Nat
  | 0 => 0
  | w + 1 => nb W w + (if (W w).toInt = 4 ∨ (W w).toInt = 5 then 1 else 0)
def no (W : Nat → Int32) : Nat → Nat
  | 0 => 0
  | w + 1 => no W w + (if (W w).toInt = 6 then 1 else 0)
def wOK (W : Nat → Int32) (w : Nat) : Prop := ∀ i, i < w → 3 ≤ (W i).toInt ∧ (W i).toInt ≤ 6
theorem nb_congr {W W2 : Nat → Int32} : ∀ {w : Nat}, (∀ i, i < w → W i = W2 i) → nb W w = nb W2 w
  | 0, _ => rfl
  | w + 1, h => by unfold nb; rw [nb_congr (w := w) (fun i hi => h i (by omega)), h w (by omega)]
theorem no_congr {W W2 : Nat → Int32} : ∀ {w : Nat}, (∀ i, i < w → W i = W2 i) → no W w = no W2 w
  | 0, _ => rfl
  | w + 1, h => by unfold no; rw [no_congr (w := w) (fun i hi => h i (by omega)), h w (by omega)]
theorem upd_lo {W : Nat → Int32} {w i : Nat} {x : Int32} (h : i ≠ w) : upd W w x i = W i := by simp [upd, h]
theorem upd_at {W : Nat → Int32} {w : Nat} {x : Int32} : upd W w x w = x := by simp [upd]
theorem nb_upd {W : Nat → Int32} {w : Nat} {x : Int32} : nb (upd W w x) (w + 1) = nb W w + (if x.toInt = 4 ∨ x.toInt = 5 then 1 else 0) := by
  show nb (upd W w x) w + (if (upd W w x w).toInt = 4 ∨ (upd W w x w).toInt = 5 then 1 else 0) = _
  rw [upd_at, nb_congr (fun i hi => upd_lo (show i ≠ w by omega))]
theorem no_upd {W : Nat → Int32} {w : Nat} {x : Int32} : no (upd W w x) (w + 1) = no W w + (if x.toInt = 6 then 1 else 0) := by
  show no (upd W w x) w + (if (upd W w x w).toInt = 6 then 1 else 0) = _
  rw [upd_at, no_congr (fun i hi => upd_lo (show i ≠ w by omega))]
theorem wOK_upd {W : Nat → Int32} {w : Nat} {x : Int32} (h : wOK W w) (h1 : 3 ≤ x.toInt) (h2 : x.toInt ≤ 6) : wOK (upd W w x) (w + 1) := by
  intro i hi
  by_cases e : i = w
  · subst e; rw [upd_at]; exact ⟨h1, h2⟩
  · rw [upd_lo e]; exact h i (by omega)
/-- one more sign -/
theorem dep_upd {F : Nat → Int32} {a m d d2 : Nat} {x : Int32} (h : dep F a m = some d) (hx : dps x d = some d2) : dep (upd F (a + m) x) a (m + 1) = some d2 := by
  show (dep (upd F (a + m) x) a m).bind (dps (upd F (a + m) x (a + m))) = some d2
  rw [upd_at, dep_congr (F2 := F) (a2 := a) (fun i hi => upd_lo (by omega)), h]
  exact hx
theorem dps_not {x : Int32} {d : Nat} (h : x.toInt = 3) (hd : 1 ≤ d) : dps x d = some d := by unfold dps; rw [if_pos h, if_pos hd]
theorem dps_bin {x : Int32} {d : Nat} (h : x.toInt = 4 ∨ x.toInt = 5) (hd : 2 ≤ d) : dps x d = some (d - 1) := by unfold dps; rw [if_neg (by omega), if_pos h, if_pos hd]
theorem dps_ask {x : Int32} {d : Nat} (h : x.toInt = 1 ∨ x.toInt = 2 ∨ 10000 ≤ x.toInt) : dps x d = some (d + 1) := by unfold dps; rw [if_neg (by omega), if_neg (by omega)]
/-! settle -/
theorem stl_sum {least : Int} {W : Nat → Int32} : ∀ {w : Nat} {F : Nat → Int32} {f : Nat}, (stl least W w F f).2.1 + (stl least W w F f).2.2 = f + w ∧ f ≤ (stl least W w F f).2.1 ∧ (stl least W w F f).2.2 ≤ w
  | 0, F, f => ⟨rfl, Nat.le_refl _, Nat.le_refl _⟩
  | w + 1, F, f => by
    unfold stl
    split
    · have := stl_sum (least := least) (W := W) (w := w) (F := upd F f (W w)) (f := f + 1)
      omega
    · exact ⟨rfl, Nat.le_refl _, Nat.le_refl _⟩
theorem stl_below {least : Int} {W : Nat → Int32} : ∀ {w : Nat} {F : Nat → Int32} {f i : Nat}, i < f → (stl least W w F f).1 i = F i
  | 0, F, f, i, _ => rfl
  | w + 1, F, f, i, h => by
    unfold stl
    split
    · rw [stl_below (by omega), upd_lo (by omega)]
    · rfl
theorem stl_no {least : Int} {W : Nat → Int32} : ∀ {w : Nat} {F : Nat → Int32} {f : Nat}, no W (stl least W w F f).2.2 = no W w
  | 0, F, f => rfl
  | w + 1, F, f => by
    unfold stl
    split
    · rename_i h
      rw [stl_no]
      show no W w = no W w + _
      rw [if_neg h.1]; rfl
    · rfl
theorem stl_top {W : Nat → Int32} : ∀ {w : Nat} {F : Nat → Int32} {f : Nat}, wOK W w → (stl 5 W w F f).2.2 = 0 ∨ ∃ k, (stl 5 W w F f).2.2 = k + 1 ∧ (W k).toInt = 6
  | 0, F, f, _ => Or.inl rfl
  | w + 1, F, f, h => by
    unfold stl
    split
    · exact stl_top (fun i hi => h i (by omega))
    · rename_i hc
      have := h w (by omega)
      exact Or.inr ⟨w, rfl, by omega⟩
/-- settle behind an asked condition keeps to the stack -/
theorem stl_dep {least : Int} {W : Nat → Int32} {a : Nat} : ∀ {w : Nat} {F : Nat → Int32} {f : Nat}, wOK W w → a ≤ f → dep F a (f - a) = some (nb W w + 1) → dep (stl least W w F f).1 a ((stl least W w F f).2.1 - a) = some (nb W (stl least W w F f).2.2 + 1)
  | 0, F, f, _, _, h => h
  | w + 1, F, f, hw, ha, h => by
    unfold stl
    split
    · rename_i hc
      refine stl_dep (fun i hi => hw i (by omega)) (by omega) ?_
      have h0 := hw w (by omega)
      have e : a + (f - a) = f := by omega
      have e2 : f + 1 - a = f - a + 1 := by omega
      rw [e2]
      have key : ∀ d2, dps (W w) (nb W (w + 1) + 1) = some d2 → dep (upd F f (W w)) a (f - a + 1) = some d2 := by
        intro d2 hx
        have := dep_upd h hx
        rwa [e] at this
      apply key
      by_cases e3 : (W w).toInt = 3
      · rw [dps_not e3 (by omega)]
        show some (nb W w + _ + 1) = _
        rw [if_neg (by omega)]
      · have e4 : (W w).toInt = 4 ∨ (W w).toInt = 5 := by omega
        have e5 : nb W (w + 1) = nb W w + 1 := by
          show nb W w + _ = _
          rw [if_pos e4]
        rw [dps_bin e4 (by omega), e5]; rfl
    · exact h
/-- something open waits -/
theorem no_pos {W : Nat → Int32} : ∀ {w : Nat}, w = 0 → no W w = 0
  | _, rfl => rfl
/-! glue -/
section GLUE
variable {E : mj_E} {al : List Nat} {ρ σ : List Int} {ws w2 : va_W} {Q : Option Value → va_W → Prop}
theorem hp_same {N : Nat} (k1 : ∀ k, k < N → σ[k]? = ρ[k]?) (h1 : σ.length = N) (h2 : ρ.length = N) : σ = ρ := by
  apply List.ext_getElem?
  intro k
  by_cases h : k < N
  · exact k1 k h
  · rw [List.getElem?_eq_none (by omega), List.getElem?_eq_none (by omega)]
/-- a piece that changes nothing -/
theorem rd_glue (H : hOk E al gR jJ) (h : hI E al jJ ws) {s : Nat} (hs : s < 7) (hk : rK s ws) {env0 : List (Int × Int)} (hE : hEv ρ env0) {d y pc pc2 : Nat} {lv lv2 lvk lvk2 : List (Nat × av)} {st st2 stk stk2 : List av} (hy : y < mj_lawNo)
    (hc : hp_chk gR 100000 d y (rPt pc env0 s [] lv st) [] [rCt pc2 env0 s lv2 st2] = true) (r1 : lv.all (fun q => av_rg (ρ ++ rX ws).length q.2) = true) (r2 : st.all (av_rg (ρ ++ rX ws).length) = true)
    (e1 : lvE (ρ ++ rX ws) lv = lvk) (e2 : st.map (avE (ρ ++ rX ws)) = stk) (e3 : lvE (ρ ++ rX ws) lv2 = lvk2) (e4 : st2.map (avE (ρ ++ rX ws)) = stk2) (hq : hG E al d y pc2 lvk2 stk2 [] ws Q) : hG E al d y pc lvk stk [] ws Q := by
  have hl : ρ.length = env0.length := hE.ok.1
  have st0 := hp_st (ρ := ρ) (G := gR) (env := env0) (fs := []) (h0 := []) h hs hk rfl rfl hE.ok aFs.nil aHh.nil
  rw [hl] at st0
  refine (hp_go (ρ := ρ ++ rX ws) (p := rPt pc env0 s [] lv st) H hy hc st0 ?_).toK r1 r2 e1 e2
  intro T hT σ w2 k1 k2 k3 k4
  have hT := List.mem_singleton.mp hT
  subst hT
  have e := hD.eq (ws := ws) (w := w2) ⟨k3, fun k hk => k4 k hk⟩
  subst e
  have hσ := hp_same k1 k2.1.1 (by rw [List.length_append, hl, rX_get]; show _ = (env0 ++ rEnv s).length; rw [List.length_append]; rfl)
  subst hσ
  exact hq.ofK e3 e4
end GLUE
