section LAW
variable {E : mj_E} {Q : Option Value → va_W → Prop}
/-! THE KEY OF A NAME: what both sides answer -/
/-- the key of digits (low to high), and the class of the last of them that was looked at -/
def kc_F (cl : Int → Int) : List Int → Int × Int
  | [] => (0, 0)
  | d :: t => (if (if d = 0 then 0 else cl d) ≠ 0 ∧ (if d = 0 then 0 else cl d) ≠ (kc_F cl t).2 then (kc_F cl t).1 * 10 + (if d = 0 then 0 else cl d) else (kc_F cl t).1, if d = 0 then 0 else cl d)
def ky_v : List Int → Int
  | [] => 0
  | d :: t => d + 27 * ky_v t
/-- no digit below another one is 0 -/
def ky_ok : List Int → Prop
  | [] => True
  | d :: t => (0 ≤ d ∧ d ≤ 26) ∧ (ky_v t ≠ 0 → d ≠ 0) ∧ ky_ok t
/-- a name, by at most n letters from here on -/
def ky_n : Nat → Int → Bool
  | 0, _ => true
  | n + 1, v => if v ≤ 0 then true else if v % 27 = 0 then false else ky_n n (v / 27)
def ky_D (v : Int) : List Int := [v % 27, v / 27 % 27, v / 27 / 27 % 27, v / 27 / 27 / 27 % 27, v / 27 / 27 / 27 / 27 % 27, v / 27 / 27 / 27 / 27 / 27 % 27]
def ky_is (v : Int) : Bool := decide (1 ≤ v) && (decide (v ≤ 387420488) && ky_n 6 v)
def ky_A (cl : Int → Int) (v : Int) : Int := if ky_is v = true then (kc_F cl (ky_D v)).1 else -1
def ky_u : Nat → Int
  | 0 => 14348907
  | 1 => 531441
  | 2 => 19683
  | 3 => 729
  | 4 => 27
  | 5 => 1
  | _ => 0
def ky_p : Nat → Int
  | 0 => 1
  | 1 => 10
  | 2 => 100
  | 3 => 1000
  | 4 => 10000
  | 5 => 100000
  | 6 => 1000000
  | _ => 0
theorem ky_v_nn : ∀ {l : List Int}, ky_ok l → 0 ≤ ky_v l
  | [], _ => Int.le_refl _
  | d :: t, h => by
    have := ky_v_nn h.2.2
    have := h.1
    show 0 ≤ d + 27 * ky_v t
    omega
theorem kc_0 {cl : Int → Int} : ∀ {l : List Int}, ky_ok l → ky_v l = 0 → kc_F cl l = (0, 0)
  | [], _, _ => rfl
  | d :: t, h, hv => by
    have h0 := ky_v_nn h.2.2
    have hv : d + 27 * ky_v t = 0 := hv
    have hd : d = 0 := by have := h.1; omega
    have ht : ky_v t = 0 := by omega
    show (_, _) = _
    rw [hd, kc_0 h.2.2 ht]
    rfl
theorem ky_six {v : Int} (h : ky_is v = true) : ky_ok (ky_D v) ∧ ky_v (ky_D v) = v := by
  unfold ky_is at h
  simp only [Bool.and_eq_true, decide_eq_true_eq] at h
  obtain ⟨h1, h2, h3⟩ := h
  have key : ky_v (ky_D v) = v := by
    unfold ky_D ky_v ky_v ky_v ky_v ky_v ky_v ky_v
    omega
  refine ⟨?_, key⟩
  have st : ∀ {n : Nat} {x : Int}, ky_n (n + 1) x = true → 0 < x → x % 27 ≠ 0 ∧ ky_n n (x / 27) = true := by
    intro n x hn hx
    unfold ky_n at hn
    rw [if_neg (by omega)] at hn
    split at hn
    · cases hn
    · rename_i h27
      exact ⟨h27, hn⟩
  have b : ∀ x : Int, 0 ≤ x % 27 ∧ x % 27 ≤ 26 := fun x => by omega
  have n1 : 0 < v → v % 27 ≠ 0 ∧ ky_n 5 (v / 27) = true := st h3
  have n2 : 0 < v / 27 → v / 27 % 27 ≠ 0 ∧ ky_n 4 (v / 27 / 27) = true := fun h => st (n1 (by omega)).2 h
  have n3 : 0 < v / 27 / 27 → v / 27 / 27 % 27 ≠ 0 ∧ ky_n 3 (v / 27 / 27 / 27) = true := fun h => st (n2 (by omega)).2 h
  have n4 : 0 < v / 27 / 27 / 27 → v / 27 / 27 / 27 % 27 ≠ 0 ∧ ky_n 2 (v / 27 / 27 / 27 / 27) = true := fun h => st (n3 (by omega)).2 h
  have n5 : 0 < v / 27 / 27 / 27 / 27 → v / 27 / 27 / 27 / 27 % 27 ≠ 0 ∧ ky_n 1 (v / 27 / 27 / 27 / 27 / 27) = true := fun h => st (n4 (by omega)).2 h
  refine ⟨b _, fun h => ?_, b _, fun h => ?_, b _, fun h => ?_, b _, fun h => ?_, b _, fun h => ?_, b _, fun h => ?_, trivial⟩
  · exact (n1 (by omega)).1
  · exact (n2 (by unfold ky_v ky_v ky_v ky_v ky_v at h; omega)).1
  · exact (n3 (by unfold ky_v ky_v ky_v ky_v at h; omega)).1
  · exact (n4 (by unfold ky_v ky_v ky_v at h; omega)).1
  · exact (n5 (by unfold ky_v ky_v at h; omega)).1
  · exact absurd rfl h
theorem ky_p1 {m : Nat} (h : m ≤ 5) : ky_p (m + 1) = 10 * ky_p m := by
  match m, h with
  | 0, _ => rfl
  | 1, _ => rfl
  | 2, _ => rfl
  | 3, _ => rfl
  | 4, _ => rfl
  | 5, _ => rfl
theorem ky_pb {m : Nat} (h : m ≤ 5) : 1 ≤ ky_p m ∧ ky_p m ≤ 100000 := by
  match m, h with
  | 0, _ => decide
  | 1, _ => decide
  | 2, _ => decide
  | 3, _ => decide
  | 4, _ => decide
  | 5, _ => decide
theorem ky_F {v : Int} (h1 : -2147483648 ≤ v) (h2 : v ≤ 2147483647) : aF.1 ≤ v ∧ v ≤ aF.2 := ⟨h1, h2⟩
section KY
variable {al : List Nat} {ws : va_W} {cl : Int → Int}
theorem hp_callV {G : aG} {J : va_W → Prop} {ρ : List Int} (H : hOk E al G J) {d y pc y2 : Nat} {env : List (Int × Int)} {fs : List ae} {h : aH} {lv : List (Nat × av)} {st as rest : List av} {R : Int32 → va_W → Prop} (hy : y < mj_lawNo)
    (hs : ak_callat G (d + 1) y pc lv st (env, fs, [], h, []) = some (y2, as, rest)) (hW0 : hW E al G J ρ env fs h ws)
    (hc : ∀ AS, gL E al ρ as AS → MJ E d 0 0 (mj_in0 y2 AS ws) (fun v w => ∃ z : Int32, v = some (.int z) ∧ R z w))
    (hk : ∀ z w, R z w → hG E al (d + 1) y (pc + 3) lv (.inl (ae_k z.toInt) :: rest) ρ w Q) : hG E al (d + 1) y pc lv st ρ ws Q :=
  law_callV (n := ρ.length) (mj_li_use hy) ⟨H.1, H.2.1, H.2.2.1, H.2.2.2.1, H.2.2.2.2.1, fun σ _ => H.2.2.2.2.2 σ⟩ hs hW0 hc hk
/-- a piece that changes nothing, over symbols; what is known and what holds there -/
theorem ky_go (hf : E.2.2.2.1.category = 1) (hT : ∀ σ : List Int, aTb E σ aTabs) (a5 : aWd E al aLay ws) {d y pc pc2 : Nat} (hy : y < mj_lawNo) {ρ : List Int} {env : List (Int × Int)} {fs : List ae} {h0 : aH} {lv lv2 lvk lvk2 : List (Nat × av)} {st st2 stk stk2 : List av}
    (hc : hp_chk gV0 1000 d y (pc, env, fs, h0, lv, st) [] [(pc2, env, [], lv2, st2, [], [], mMU)] = true) (h1 : hEv ρ env) (h2 : aFs ρ fs) (h3 : aHh ρ ws h0) (r1 : lv.all (fun q => av_rg ρ.length q.2) = true) (r2 : st.all (av_rg ρ.length) = true)
    (e1 : lvE ρ lv = lvk) (e2 : st.map (avE ρ) = stk) (e3 : lvE ρ lv2 = lvk2) (e4 : st2.map (avE ρ) = stk2) (hq : hG E al d y pc2 lvk2 stk2 [] ws Q) : hG E al d y pc lvk stk [] ws Q := by
  have H : hOk E al gV0 (fun _ => True) := hOkV hf hT (fun _ _ _ h => h)
  exact mv_glue H hy hc (hW.v a5 trivial h1 h2 h3) r1 r2 e1 e2 e3 e4 hq
theorem kq {ρ : List Int} {u : Nat} {ix v : ae} (hr1 : ix.1.all (fun q => decide (q.1 < ρ.length)) = true) (hr2 : v.1.all (fun q => decide (q.1 < ρ.length)) = true) (he : ae_ev ρ v = ae_ev ρ ix / (u : Int)) : aH1 ρ ws ((1000000 + 2 * u, ix), v) :=
  ⟨_, _, aV.mk hr1, aV.mk hr2, by
    rw [if_neg (show ¬ 1000000 + 2 * u < 1000000 by omega), if_pos (show (1000000 + 2 * u) % 2 = 0 by omega), he]
    rw [show (1000000 + 2 * u - 1000000) / 2 = u by omega]⟩
theorem kr {ρ : List Int} {u : Nat} {ix v : ae} (hr1 : ix.1.all (fun q => decide (q.1 < ρ.length)) = true) (hr2 : v.1.all (fun q => decide (q.1 < ρ.length)) = true) (he : ae_ev ρ v = ae_ev ρ ix % (u : Int)) : aH1 ρ ws ((1000001 + 2 * u, ix), v) :=
  ⟨_, _, aV.mk hr1, aV.mk hr2, by
    rw [if_neg (show ¬ 1000001 + 2 * u < 1000000 by omega), if_neg (show ¬ (1000001 + 2 * u) % 2 = 0 by omega), he]
    rw [show (1000001 + 2 * u - 1000001) / 2 = u by omega]⟩
/-! the component: keyOf (55) -/
def kc_lv (k : Nat) (key ah rest : ae) : List (Nat × av) := [(0, .inr (0, 1)), (2, .inl key), (3, .inl ah), (4, .inl (ae_k (ky_u k))), (5, .inl rest), (6, .inl (ae_k (k : Int)))]
def kc_K (k : Nat) (key ah rest : Int) : List (Nat × av) := kc_lv k (ae_k key) (ae_k ah) (ae_k rest)
/-- symbols: rest, letter, what remains, key, class ahead, class -/
def kc_e (k : Nat) (q0 a0 c0 : Int) : List (Int × Int) := [(0, 27 * ky_u k - 1), (q0, 26), (0, ky_u k - 1), (0, ky_p k - 1), (a0, 5), (c0, 5)]
def kc_h (k : Nat) (q : ae) : aH := [((1000000 + 2 * (ky_u k).toNat, ae_s 0), q), ((1000001 + 2 * (ky_u k).toNat, ae_s 0), ae_s 2)]
def kc_S (k : Nat) : List (Nat × av) := kc_lv k (ae_s 3) (ae_s 4) (ae_s 0)
def kc_p (k : Nat) (q0 a0 c0 : Int) (fs : List ae) (h : aH) (key ah : ae) : Bool := hp_chk gV0 1000 80 55 (14, kc_e k q0 a0 c0, fs, h, kc_S k, []) [] [(14, kc_e k q0 a0 c0, [], kc_lv (k + 1) key ah (ae_s 2), [], [], [], mMU)]
def kc_A (k : Nat) : Bool := kc_p k 0 0 0 [] (kc_h k (ae_k 0)) (ae_s 3) (ae_k 0)
def kc_1 (k : Nat) : Bool := kc_p k 1 0 0 [] (((13, ae_s 1), ae_k 0) :: kc_h k (ae_s 1)) (ae_s 3) (ae_k 0)
def kc_2 (k : Nat) : Bool := kc_p k 1 1 0 [] (((13, ae_s 1), ae_s 4) :: kc_h k (ae_s 1)) (ae_s 3) (ae_s 4)
def kc_ten : ae := ([(3, 10), (5, 1)], 0)
def kc_3 (k : Nat) : Bool := kc_p k 1 0 1 [([(4, (-1)), (5, 1)], 1)] (((13, ae_s 1), ae_s 5) :: kc_h k (ae_s 1)) kc_ten (ae_s 5)
def kc_4 (k : Nat) : Bool := kc_p k 1 0 1 [([(4, 1), (5, (-1))], 1)] (((13, ae_s 1), ae_s 5) :: kc_h k (ae_s 1)) kc_ten (ae_s 5)
section
set_option maxRecDepth 100000
theorem kc_k : (List.range 6).all (fun k => kc_A k && (kc_1 k && (kc_2 k && (kc_3 k && kc_4 k)))) = true := by decide +kernel
theorem kc_kE : hp_chk gV0 1000 80 55 (0, [aF], [], [], [(0, .inr (0, 1)), (1, .inl (ae_s 0))], []) [] [(14, [aF], [], kc_lv 0 (ae_k 0) (ae_k 0) (ae_s 0), [], [], [], mMU)] = true := by decide +kernel
theorem kc_kX : hp_chk gV0 1000 80 55 (14, [aF, aF], [], [], kc_lv 6 (ae_s 0) (ae_s 1) (ae_k 0), []) [] [(97, [aF, aF], [], [], [.inl (ae_s 0)], [], [], mMU)] = true := by decide +kernel
end
theorem kc_u {k : Nat} (hk : k ≤ 5) : ((ky_u k).toNat : Int) = ky_u k ∧ 1 ≤ ky_u k := by
  match k, hk with
  | 0, _ => decide
  | 1, _ => decide
  | 2, _ => decide
  | 3, _ => decide
  | 4, _ => decide
  | 5, _ => decide

theorem kc_E {k : Nat} {x0 x1 x2 x3 x4 x5 : Int} {key ah : ae} : lvE [x0, x1, x2, x3, x4, x5] (kc_lv k key ah (ae_s 2)) = kc_K k (ae_ev [x0, x1, x2, x3, x4, x5] key) (ae_ev [x0, x1, x2, x3, x4, x5] ah) x2 := by
  simp only [lvE, avE, kc_lv, kc_K, List.map_cons, List.map_nil, ae_ev_k, ev_s (ρ := [x0, x1, x2, x3, x4, x5]) (k := 2) (x := x2) rfl]
theorem kc_ES {k : Nat} {x0 x1 x2 x3 x4 x5 : Int} : lvE [x0, x1, x2, x3, x4, x5] (kc_S k) = kc_K k x3 x4 x0 := by
  simp only [lvE, avE, kc_S, kc_lv, kc_K, List.map_cons, List.map_nil, ae_ev_k, ev_s (ρ := [x0, x1, x2, x3, x4, x5]) (k := 0) (x := x0) rfl, ev_s (ρ := [x0, x1, x2, x3, x4, x5]) (k := 3) (x := x3) rfl, ev_s (ρ := [x0, x1, x2, x3, x4, x5]) (k := 4) (x := x4) rfl]
/-- the classes that both sides have -/
def ky_W (ws : va_W) (c : Nat) (cl : Int → Int) : Prop := ∀ d : Int, 1 ≤ d → d ≤ 26 → aSl ws c d.toNat (cl d) ∧ 0 ≤ cl d ∧ cl d ≤ 5
/-- one letter -/
theorem kc_step (hf : E.2.2.2.1.category = 1) (hT : ∀ σ : List Int, aTb E σ aTabs) (a5 : aWd E al aLay ws) (hcl : ky_W ws 13 cl) {k : Nat} (hk : k ≤ 5) {t : List Int} {rest q r : Int} (hq : rest / ky_u k = q) (hr : rest % ky_u k = r) (b0 : 0 ≤ rest ∧ rest ≤ 27 * ky_u k - 1) (bq : 0 ≤ q ∧ q ≤ 26) (br : 0 ≤ r ∧ r ≤ ky_u k - 1)
    (bk : 0 ≤ (kc_F cl t).1 ∧ (kc_F cl t).1 ≤ ky_p k - 1) (ba : 0 ≤ (kc_F cl t).2 ∧ (kc_F cl t).2 ≤ 5) (hgo : hG E al 80 55 14 (kc_K (k + 1) (kc_F cl (q :: t)).1 (kc_F cl (q :: t)).2 r) [] [] ws Q) : hG E al 80 55 14 (kc_K k (kc_F cl t).1 (kc_F cl t).2 rest) [] [] ws Q := by
  have ck := List.all_eq_true.mp kc_k k (List.mem_range.mpr (by omega))
  simp only [Bool.and_eq_true] at ck
  obtain ⟨cA, c1, c2, c3, c4⟩ := ck
  obtain ⟨u1, u2⟩ := kc_u hk
  have e1 : (kc_F cl (q :: t)).1 = if (if q = 0 then 0 else cl q) ≠ 0 ∧ (if q = 0 then 0 else cl q) ≠ (kc_F cl t).2 then (kc_F cl t).1 * 10 + (if q = 0 then 0 else cl q) else (kc_F cl t).1 := rfl
  have e2 : (kc_F cl (q :: t)).2 = if q = 0 then 0 else cl q := rfl
  rw [e1, e2] at hgo
  generalize (kc_F cl t).1 = key at *
  generalize (kc_F cl t).2 = ah at *
  have hh : ∀ {x1 x5 : Int} {v : ae}, ae_ev [rest, x1, r, key, ah, x5] v = q → v.1.all (fun q => decide (q.1 < 6)) = true → aHh [rest, x1, r, key, ah, x5] ws (kc_h k v) := by
    intro x1 x5 v hv hr1
    refine aHh.cons (kq (ρ := [rest, x1, r, key, ah, x5]) rfl hr1 ?_) (aHh.cons (kr (ρ := [rest, x1, r, key, ah, x5]) rfl rfl ?_) aHh.nil)
    · rw [hv, ev_s (ρ := [rest, x1, r, key, ah, x5]) (k := 0) (x := rest) rfl, u1]
      exact hq.symm
    · rw [ev_s (ρ := [rest, x1, r, key, ah, x5]) (k := 2) (x := r) rfl, ev_s (ρ := [rest, x1, r, key, ah, x5]) (k := 0) (x := rest) rfl, u1]
      exact hr.symm
  by_cases hz : q = 0
  · rw [if_pos hz, if_neg (by simp)] at hgo
    refine ky_go hf hT a5 (by decide) (ρ := [rest, 0, r, key, ah, 0]) cA ⟨b0, ⟨by decide, by decide⟩, br, bk, ba, ⟨by decide, by decide⟩, trivial⟩ aFs.nil (hh (by rw [ae_ev_k]; exact hz.symm) rfl) (by rfl) rfl kc_ES rfl kc_E rfl ?_
    rw [ev_s (ρ := [rest, 0, r, key, ah, 0]) (k := 3) (x := key) rfl, ae_ev_k]
    exact hgo
  · rw [if_neg hz] at hgo
    obtain ⟨w1, w2, w3⟩ := hcl q (by omega) (by omega)
    generalize cl q = c at *
    have hs : ∀ {x5 : Int} {v : ae}, ae_ev [rest, q, r, key, ah, x5] v = c → v.1.all (fun q => decide (q.1 < 6)) = true → aH1 [rest, q, r, key, ah, x5] ws ((13, ae_s 1), v) := by
      intro x5 v hv hr1
      have e0 : ae_ev [rest, q, r, key, ah, x5] (ae_s 1) = q := ev_s rfl
      exact aH1.mk (by decide) rfl hr1 (by rw [e0]; omega) (by rw [e0, hv]; exact w1)
    by_cases h0 : c = 0
    · rw [h0, if_neg (by simp)] at hgo
      refine ky_go hf hT a5 (by decide) (ρ := [rest, q, r, key, ah, 0]) c1 ⟨b0, ⟨by omega, bq.2⟩, br, bk, ba, ⟨by decide, by decide⟩, trivial⟩ aFs.nil (aHh.cons (hs (by rw [ae_ev_k]; exact h0.symm) rfl) (hh (ev_s rfl) rfl)) (by rfl) rfl kc_ES rfl kc_E rfl ?_
      rw [ev_s (ρ := [rest, q, r, key, ah, 0]) (k := 3) (x := key) rfl, ae_ev_k]
      exact hgo
    · by_cases h1 : c = ah
      · rw [if_neg (by omega)] at hgo
        refine ky_go hf hT a5 (by decide) (ρ := [rest, q, r, key, ah, 0]) c2 ⟨b0, ⟨by omega, bq.2⟩, br, bk, ⟨by omega, ba.2⟩, ⟨by decide, by decide⟩, trivial⟩ aFs.nil (aHh.cons (hs ((ev_s rfl).trans h1.symm) rfl) (hh (ev_s rfl) rfl)) (by rfl) rfl kc_ES rfl kc_E rfl ?_
        rw [ev_s (ρ := [rest, q, r, key, ah, 0]) (k := 3) (x := key) rfl, ev_s (ρ := [rest, q, r, key, ah, 0]) (k := 4) (x := ah) rfl, ← h1]
        exact hgo
      · rw [if_pos ⟨h0, h1⟩] at hgo
        have ten : ae_ev [rest, q, r, key, ah, c] kc_ten = key * 10 + c := by
          simp only [kc_ten, ae_ev, ae_el, List.getD_cons_zero, List.getD_cons_succ]
          omega
        by_cases hlt : c < ah
        · refine ky_go hf hT a5 (by decide) (ρ := [rest, q, r, key, ah, c]) c3 ⟨b0, ⟨by omega, bq.2⟩, br, bk, ba, ⟨by omega, w3⟩, trivial⟩ (aFs.cons rfl (by simp only [ae_ev, ae_el, List.getD_cons_zero, List.getD_cons_succ]; omega) aFs.nil) (aHh.cons (hs (ev_s rfl) rfl) (hh (ev_s rfl) rfl)) (by rfl) rfl kc_ES rfl kc_E rfl ?_
          rw [ten, ev_s (ρ := [rest, q, r, key, ah, c]) (k := 5) (x := c) rfl]
          exact hgo
        · refine ky_go hf hT a5 (by decide) (ρ := [rest, q, r, key, ah, c]) c4 ⟨b0, ⟨by omega, bq.2⟩, br, bk, ba, ⟨by omega, w3⟩, trivial⟩ (aFs.cons rfl (by simp only [ae_ev, ae_el, List.getD_cons_zero, List.getD_cons_succ]; omega) aFs.nil) (aHh.cons (hs (ev_s rfl) rfl) (hh (ev_s rfl) rfl)) (by rfl) rfl kc_ES rfl kc_E rfl ?_
          rw [ten, ev_s (ρ := [rest, q, r, key, ah, c]) (k := 5) (x := c) rfl]
          exact hgo
/-- the key is below a power of 10 -/
theorem kc_b (hcl : ky_W ws 13 cl) : ∀ {t : List Int}, t.length ≤ 6 → (∀ d ∈ t, 0 ≤ d ∧ d ≤ 26) → (0 ≤ (kc_F cl t).1 ∧ (kc_F cl t).1 ≤ ky_p t.length - 1) ∧ 0 ≤ (kc_F cl t).2 ∧ (kc_F cl t).2 ≤ 5
  | [], _, _ => ⟨⟨Int.le_refl _, by show (0 : Int) ≤ ky_p 0 - 1; decide⟩, Int.le_refl _, by show (0 : Int) ≤ 5; decide⟩
  | d :: t, hl, hd => by
    have hl : t.length + 1 ≤ 6 := hl
    obtain ⟨⟨h1, h2⟩, h3, h4⟩ := kc_b hcl (t := t) (by omega) (fun x hx => hd x (List.mem_cons_of_mem _ hx))
    have hd0 := hd d List.mem_cons_self
    have hc : 0 ≤ (if d = 0 then 0 else cl d) ∧ (if d = 0 then 0 else cl d) ≤ 5 := by
      by_cases e : d = 0
      · rw [if_pos e]; decide
      · rw [if_neg e]; exact (hcl d (by omega) (by omega)).2
    have hp := ky_p1 (m := t.length) (by omega)
    have hp0 := ky_pb (m := t.length) (by omega)
    show (0 ≤ (if (if d = 0 then 0 else cl d) ≠ 0 ∧ (if d = 0 then 0 else cl d) ≠ (kc_F cl t).2 then (kc_F cl t).1 * 10 + (if d = 0 then 0 else cl d) else (kc_F cl t).1) ∧ (if (if d = 0 then 0 else cl d) ≠ 0 ∧ (if d = 0 then 0 else cl d) ≠ (kc_F cl t).2 then (kc_F cl t).1 * 10 + (if d = 0 then 0 else cl d) else (kc_F cl t).1) ≤ ky_p (t.length + 1) - 1) ∧ 0 ≤ (if d = 0 then 0 else cl d) ∧ (if d = 0 then 0 else cl d) ≤ 5
    generalize (if d = 0 then 0 else cl d) = c at *
    refine ⟨?_, hc⟩
    split <;> omega
/-- keyOf of a name -/
theorem kc_mj (hf : E.2.2.2.1.category = 1) (hT : ∀ σ : List Int, aTb E σ aTabs) (a5 : aWd E al aLay ws) (hcl : ky_W ws 13 cl) {v : Int} (hv : ky_is v = true) {AS : List Value} (ha : gL E al [] [.inr (0, 1), .inl (ae_k v)] AS) :
    MJ E 80 0 0 (mj_in0 55 AS ws) (fun x w => ∃ z : Int32, x = some (.int z) ∧ z.toInt = (kc_F cl (ky_D v)).1 ∧ w = ws) := by
  obtain ⟨hok, hval⟩ := ky_six hv
  have hb : 1 ≤ v ∧ v ≤ 387420488 := by
    unfold ky_is at hv
    simp only [Bool.and_eq_true, decide_eq_true_eq] at hv
    exact ⟨hv.1, hv.2.1⟩
  unfold ky_D at hok hval ⊢
  generalize v % 27 = d0 at *
  generalize v / 27 % 27 = d1 at *
  generalize v / 27 / 27 % 27 = d2 at *
  generalize v / 27 / 27 / 27 % 27 = d3 at *
  generalize v / 27 / 27 / 27 / 27 % 27 = d4 at *
  generalize v / 27 / 27 / 27 / 27 / 27 % 27 = d5 at *
  obtain ⟨i0, -, i1, -, i2, -, i3, -, i4, -, i5, -, -⟩ := hok
  have hval : d0 + 27 * (d1 + 27 * (d2 + 27 * (d3 + 27 * (d4 + 27 * (d5 + 27 * 0))))) = v := hval
  refine hG.in0 hf (d := 80) (as := _) ?_ ha
  refine ky_go hf hT a5 (by decide) (ρ := [v]) kc_kE ⟨ky_F (by omega) (by omega), trivial⟩ aFs.nil aHh.nil (by rfl) rfl (by simp only [lvE, avE, ak_args, av_cat, List.map_cons, List.map_nil, ev_s (ρ := [v]) (k := 0) (x := v) rfl] <;> rfl) rfl (lvk2 := kc_K 0 (kc_F cl []).1 (kc_F cl []).2 v) (by simp only [lvE, avE, kc_lv, kc_K, kc_F, List.map_cons, List.map_nil, ae_ev_k, ev_s (ρ := [v]) (k := 0) (x := v) rfl]) rfl ?_
  have bb : ∀ {t : List Int}, t.length ≤ 6 → (∀ d ∈ t, 0 ≤ d ∧ d ≤ 26) → (0 ≤ (kc_F cl t).1 ∧ (kc_F cl t).1 ≤ ky_p t.length - 1) ∧ 0 ≤ (kc_F cl t).2 ∧ (kc_F cl t).2 ≤ 5 := fun h1 h2 => kc_b hcl h1 h2
  have m0 : ∀ d ∈ ([] : List Int), 0 ≤ d ∧ d ≤ 26 := fun d hd => by cases hd
  have m5 : ∀ d ∈ [d5], 0 ≤ d ∧ d ≤ 26 := List.forall_mem_cons.mpr ⟨i5, m0⟩
  have m4 : ∀ d ∈ [d4, d5], 0 ≤ d ∧ d ≤ 26 := List.forall_mem_cons.mpr ⟨i4, m5⟩
  have m3 : ∀ d ∈ [d3, d4, d5], 0 ≤ d ∧ d ≤ 26 := List.forall_mem_cons.mpr ⟨i3, m4⟩
  have m2 : ∀ d ∈ [d2, d3, d4, d5], 0 ≤ d ∧ d ≤ 26 := List.forall_mem_cons.mpr ⟨i2, m3⟩
  have m1 : ∀ d ∈ [d1, d2, d3, d4, d5], 0 ≤ d ∧ d ≤ 26 := List.forall_mem_cons.mpr ⟨i1, m2⟩
  refine kc_step hf hT a5 hcl (k := 0) (by decide) (t := []) (rest := v) (q := d5) (r := (d0 + 27 * d1 + 729 * d2 + 19683 * d3 + 531441 * d4)) (by show v / 14348907 = _; omega) (by show v % 14348907 = _; omega) ⟨by omega, by show _ ≤ 27 * 14348907 - 1; omega⟩ i5 ⟨by omega, by show _ ≤ 14348907 - 1; omega⟩ (bb (t := []) (by simp) m0).1 (bb (t := []) (by simp) m0).2 ?_
  refine kc_step hf hT a5 hcl (k := 1) (by decide) (t := [d5]) (rest := (d0 + 27 * d1 + 729 * d2 + 19683 * d3 + 531441 * d4)) (q := d4) (r := (d0 + 27 * d1 + 729 * d2 + 19683 * d3)) (by show (d0 + 27 * d1 + 729 * d2 + 19683 * d3 + 531441 * d4) / 531441 = _; omega) (by show (d0 + 27 * d1 + 729 * d2 + 19683 * d3 + 531441 * d4) % 531441 = _; omega) ⟨by omega, by show _ ≤ 27 * 531441 - 1; omega⟩ i4 ⟨by omega, by show _ ≤ 531441 - 1; omega⟩ (bb (t := [d5]) (by simp) m5).1 (bb (t := [d5]) (by simp) m5).2 ?_
  refine kc_step hf hT a5 hcl (k := 2) (by decide) (t := [d4, d5]) (rest := (d0 + 27 * d1 + 729 * d2 + 19683 * d3)) (q := d3) (r := (d0 + 27 * d1 + 729 * d2)) (by show (d0 + 27 * d1 + 729 * d2 + 19683 * d3) / 19683 = _; omega) (by show (d0 + 27 * d1 + 729 * d2 + 19683 * d3) % 19683 = _; omega) ⟨by omega, by show _ ≤ 27 * 19683 - 1; omega⟩ i3 ⟨by omega, by show _ ≤ 19683 - 1; omega⟩ (bb (t := [d4, d5]) (by simp) m4).1 (bb (t := [d4, d5]) (by simp) m4).2 ?_
  refine kc_step hf hT a5 hcl (k := 3) (by decide) (t := [d3, d4, d5]) (rest := (d0 + 27 * d1 + 729 * d2)) (q := d2) (r := (d0 + 27 * d1)) (by show (d0 + 27 * d1 + 729 * d2) / 729 = _; omega) (by show (d0 + 27 * d1 + 729 * d2) % 729 = _; omega) ⟨by omega, by show _ ≤ 27 * 729 - 1; omega⟩ i2 ⟨by omega, by show _ ≤ 729 - 1; omega⟩ (bb (t := [d3, d4, d5]) (by simp) m3).1 (bb (t := [d3, d4, d5]) (by simp) m3).2 ?_
  refine kc_step hf hT a5 hcl (k := 4) (by decide) (t := [d2, d3, d4, d5]) (rest := (d0 + 27 * d1)) (q := d1) (r := (d0)) (by show (d0 + 27 * d1) / 27 = _; omega) (by show (d0 + 27 * d1) % 27 = _; omega) ⟨by omega, by show _ ≤ 27 * 27 - 1; omega⟩ i1 ⟨by omega, by show _ ≤ 27 - 1; omega⟩ (bb (t := [d2, d3, d4, d5]) (by simp) m2).1 (bb (t := [d2, d3, d4, d5]) (by simp) m2).2 ?_
  refine kc_step hf hT a5 hcl (k := 5) (by decide) (t := [d1, d2, d3, d4, d5]) (rest := (d0)) (q := d0) (r := (0)) (by show (d0) / 1 = _; omega) (by show (d0) % 1 = _; omega) ⟨by omega, by show _ ≤ 27 * 1 - 1; omega⟩ i0 ⟨by omega, by show _ ≤ 1 - 1; omega⟩ (bb (t := [d1, d2, d3, d4, d5]) (by simp) m1).1 (bb (t := [d1, d2, d3, d4, d5]) (by simp) m1).2 ?_
  generalize hK : (kc_F cl [d0, d1, d2, d3, d4, d5]).1 = key
  generalize hA : (kc_F cl [d0, d1, d2, d3, d4, d5]).2 = ah
  obtain ⟨bK, bA⟩ := bb (t := [d0, d1, d2, d3, d4, d5]) (by simp) (List.forall_mem_cons.mpr ⟨i0, m1⟩)
  rw [hK] at bK
  rw [hA] at bA
  have bK2 : key ≤ 1000000 - 1 := bK.2
  refine ky_go hf hT a5 (by decide) (ρ := [key, ah]) kc_kX ⟨ky_F (by omega) (by omega), ky_F (by omega) (by omega), trivial⟩ aFs.nil aHh.nil (by rfl) rfl (by simp only [lvE, avE, kc_lv, kc_K, List.map_cons, List.map_nil, ae_ev_k, ev_s (ρ := [key, ah]) (k := 0) (x := key) rfl, ev_s (ρ := [key, ah]) (k := 1) (x := ah) rfl]) rfl (lvk2 := []) (stk2 := [.inl (ae_k key)]) rfl (by simp only [avE, List.map_cons, List.map_nil, ev_s (ρ := [key, ah]) (k := 0) (x := key) rfl]) ?_
  exact hp_retI (pc := 97) (ty := .int) (x := key) (by decide) (by decide +kernel) (by decide +kernel) (aV.k key) (fun n hn => rfl) (fun z hz => ⟨z, rfl, hz, rfl⟩)
/-! the reference: keyOf (207) -/
def kr_lv (m : Nat) (key rest : ae) : List (Nat × av) := [(0, .inr (0, 99)), (2, .inl key), (3, .inl (ae_k (ky_p m))), (4, .inl rest)]
def kr_K (m : Nat) (key rest : Int) : List (Nat × av) := kr_lv m (ae_k key) (ae_k rest)
/-- symbols: rest, letter, what remains, class, letter ahead, its class, key -/
def kr_e (q0 c0 : Int) : List (Int × Int) := [(1, 387420488), (1, 26), (q0, 14348906), (c0, 5), (1, 26), (0, 5), (0, 99999)]
def kr_p (m m2 : Nat) (q0 c0 : Int) (fs : List ae) (h : aH) (key rest : ae) : Bool := hp_chk gV0 1000 80 207 (7, kr_e q0 c0, fs, h, kr_lv m (ae_s 6) (ae_s 0), []) [] [(7, kr_e q0 c0, [], kr_lv m2 key rest, [], [], [], mMU)]
def kr_h (q c : ae) : aH := [((1000055, ae_s 0), ae_s 1), ((1000054, ae_s 0), q), ((105, ae_s 1), c)]
def kr_h2 (c2 : ae) : aH := [((1000055, ae_s 0), ae_s 1), ((1000054, ae_s 0), ae_s 2), ((105, ae_s 1), ae_s 3), ((1000055, ae_s 2), ae_s 4), ((105, ae_s 4), c2)]
def kr_t (m : Nat) : ae := ([(3, ky_p m), (6, 1)], 0)
section
set_option maxRecDepth 100000
theorem kr_k : (List.range 6).all (fun m => kr_p m m 0 0 [] (kr_h (ae_s 2) (ae_k 0)) (ae_s 6) (ae_s 2) && (kr_p m (m + 1) 0 1 [] (kr_h (ae_k 0) (ae_s 3)) (kr_t m) (ae_k 0) && (kr_p m m 1 1 [] (kr_h2 (ae_s 3)) (ae_s 6) (ae_s 2) && (kr_p m (m + 1) 1 1 [([(3, (-1)), (5, 1)], 1)] (kr_h2 (ae_s 5)) (kr_t m) (ae_s 2) && kr_p m (m + 1) 1 1 [([(3, 1), (5, (-1))], 1)] (kr_h2 (ae_s 5)) (kr_t m) (ae_s 2))))) = true := by decide +kernel
theorem kr_kX : (List.range 7).all (fun m => hp_chk gV0 1000 80 207 (7, [aF], [], [], kr_lv m (ae_s 0) (ae_k 0), []) [] [(97, [aF], [], [], [.inl (ae_s 0)], [], [], mMU)]) = true := by decide +kernel
theorem kr_kE : hp_chk gV0 1000 80 207 (0, [aF], [], [], [(0, .inr (0, 99)), (1, .inl (ae_s 0))], []) [] [(7, [aF], [], kr_lv 0 (ae_k 0) (ae_s 0), [], [], [], mMU)] = true := by decide +kernel
end
theorem kr_E {m : Nat} {x0 x1 x2 x3 x4 x5 x6 : Int} {key rest : ae} : lvE [x0, x1, x2, x3, x4, x5, x6] (kr_lv m key rest) = kr_K m (ae_ev [x0, x1, x2, x3, x4, x5, x6] key) (ae_ev [x0, x1, x2, x3, x4, x5, x6] rest) := by
  simp only [lvE, avE, kr_lv, kr_K, List.map_cons, List.map_nil, ae_ev_k]
theorem kr_ES {m : Nat} {x0 x1 x2 x3 x4 x5 x6 : Int} : lvE [x0, x1, x2, x3, x4, x5, x6] (kr_lv m (ae_s 6) (ae_s 0)) = kr_K m x6 x0 := by
  rw [kr_E, ev_s (ρ := [x0, x1, x2, x3, x4, x5, x6]) (k := 6) (x := x6) rfl, ev_s (ρ := [x0, x1, x2, x3, x4, x5, x6]) (k := 0) (x := x0) rfl]
theorem kr_exit (hf : E.2.2.2.1.category = 1) (hT : ∀ σ : List Int, aTb E σ aTabs) (a5 : aWd E al aLay ws) {m : Nat} (hm : m ≤ 6) {key : Int} (bk : aI0 ≤ key ∧ key ≤ aI1) (hQ : ∀ z : Int32, z.toInt = key → Q (some (.int z)) ws) : hG E al 80 207 7 (kr_K m key 0) [] [] ws Q := by
  refine ky_go hf hT a5 (by decide) (ρ := [key]) (List.all_eq_true.mp kr_kX m (List.mem_range.mpr (by omega))) ⟨bk, trivial⟩ aFs.nil aHh.nil (by rfl) rfl (by simp only [lvE, avE, kr_lv, kr_K, List.map_cons, List.map_nil, ae_ev_k, ev_s (ρ := [key]) (k := 0) (x := key) rfl]) rfl (lvk2 := []) (stk2 := [.inl (ae_k key)]) rfl (by simp only [avE, List.map_cons, List.map_nil, ev_s (ρ := [key]) (k := 0) (x := key) rfl]) ?_
  exact hp_retI (pc := 97) (ty := .int) (x := key) (by decide) (by decide +kernel) (by decide +kernel) (aV.k key) (fun n hn => rfl) (fun z hz => hQ z hz)
/-- from the head of its loop -/
theorem kr_go (hf : E.2.2.2.1.category = 1) (hT : ∀ σ : List Int, aTb E σ aTabs) (a5 : aWd E al aLay ws) (hcl : ky_W ws 105 cl) : ∀ (ds : List Int) (m : Nat) (key : Int), m + ds.length ≤ 6 → ky_ok ds → ky_v ds ≤ 387420488 → (0 ≤ key ∧ key ≤ ky_p m - 1) → (∀ z : Int32, z.toInt = key + ky_p m * (kc_F cl ds).1 → Q (some (.int z)) ws) → hG E al 80 207 7 (kr_K m key (ky_v ds)) [] [] ws Q
  | [], m, key, hm, _, _, bk, hQ => by
    have hp : ky_p m ≤ 1000000 := by
      match m, hm with
      | 0, _ => decide
      | 1, _ => decide
      | 2, _ => decide
      | 3, _ => decide
      | 4, _ => decide
      | 5, _ => decide
      | 6, _ => decide
    exact kr_exit hf hT a5 (by have : m + 0 ≤ 6 := hm; omega) ⟨by unfold aI0; omega, by unfold aI1; omega⟩ (fun z hz => hQ z (by rw [hz]; show key = key + ky_p m * 0; omega))
  | d :: t, m, key, hm, hok, hv, bk, hQ => by
    have hm : m + (t.length + 1) ≤ 6 := hm
    have hp0 := ky_pb (m := m) (by omega)
    have hp1 := ky_p1 (m := m) (by omega)
    have hV := ky_v_nn hok.2.2
    have e : ky_v (d :: t) = d + 27 * ky_v t := rfl
    by_cases hz : ky_v (d :: t) = 0
    · rw [hz]
      refine kr_exit hf hT a5 (by omega) ⟨by unfold aI0; omega, by unfold aI1; omega⟩ (fun z h => hQ z ?_)
      rw [h, kc_0 hok hz]
      show key = key + ky_p m * 0
      omega
    · have hd : 1 ≤ d ∧ d ≤ 26 := by
        have h1 := hok.1
        have h2 := hok.2.1
        by_cases h0 : ky_v t = 0
        · omega
        · have := h2 h0
          omega
      rw [e] at hz hv ⊢
      have h27 : (d + 27 * ky_v t) % 27 = d := by omega
      have hq27 : (d + 27 * ky_v t) / 27 = ky_v t := by omega
      obtain ⟨w1, w2, w3⟩ := hcl d hd.1 hd.2
      have ck := List.all_eq_true.mp kr_k m (List.mem_range.mpr (by omega))
      simp only [Bool.and_eq_true] at ck
      obtain ⟨c1, c2, c3, c4, c5⟩ := ck
      have F1 : (kc_F cl (d :: t)).1 = if cl d ≠ 0 ∧ cl d ≠ (kc_F cl t).2 then (kc_F cl t).1 * 10 + cl d else (kc_F cl t).1 := by
        show (if (if d = 0 then 0 else cl d) ≠ 0 ∧ (if d = 0 then 0 else cl d) ≠ (kc_F cl t).2 then (kc_F cl t).1 * 10 + (if d = 0 then 0 else cl d) else (kc_F cl t).1) = _
        rw [if_neg (show ¬ d = 0 by omega)]
      rw [F1] at hQ
      have ih := kr_go hf hT a5 hcl t
      generalize hC : cl d = c at *
      have hsl : ∀ {ρ : List Int} {x : Int} {k : Nat} {v : ae} {cc : Int}, ρ[k]? = some x → (1 ≤ x ∧ x ≤ 26) → v.1.all (fun q => decide (q.1 < ρ.length)) = true → ae_ev ρ v = cl x → aH1 ρ ws ((105, ae_s k), v) := by
        intro ρ x k v cc h1 h2 h3 h4
        have e0 : ae_ev ρ (ae_s k) = x := ev_s h1
        have hl := (List.getElem?_eq_some_iff.mp h1).1
        exact aH1.mk (by decide) (by simpa [ae_s] using hl) h3 (by rw [e0]; omega) (by rw [e0, h4]; exact (hcl x h2.1 h2.2).1)
      by_cases h0 : c = 0
      · rw [if_neg (by simp [h0])] at hQ
        refine ky_go hf hT a5 (by decide) (ρ := [d + 27 * ky_v t, d, ky_v t, 0, 1, 0, key]) c1 ⟨⟨by omega, hv⟩, hd, ⟨hV, by omega⟩, ⟨by decide, by decide⟩, ⟨by decide, by decide⟩, ⟨by decide, by decide⟩, ⟨bk.1, by omega⟩, trivial⟩ aFs.nil
          (aHh.cons (kr (u := 27) rfl rfl ?_) (aHh.cons (kq (u := 27) rfl rfl ?_) (aHh.cons (hsl (x := d) (cc := 0) rfl hd rfl ?_) aHh.nil))) (by rfl) rfl kr_ES rfl kr_E rfl ?_
        · rw [ev_s (k := 1) (x := d) rfl, ev_s (k := 0) (x := d + 27 * ky_v t) rfl]; exact h27.symm
        · rw [ev_s (k := 2) (x := ky_v t) rfl, ev_s (k := 0) (x := d + 27 * ky_v t) rfl]; exact hq27.symm
        · rw [ae_ev_k, hC, h0]
        · rw [ev_s (k := 6) (x := key) rfl, ev_s (k := 2) (x := ky_v t) rfl]
          exact ih m key (by omega) hok.2.2 (by omega) bk hQ
      · have pc0 : 0 ≤ ky_p m * c := Int.mul_nonneg (by omega) (by omega)
        have pc1 : ky_p m * c ≤ ky_p m * 5 := Int.mul_le_mul_of_nonneg_left w3 (by omega)
        have tk : ∀ {x0 x1 x2 x4 x5 : Int}, ae_ev [x0, x1, x2, c, x4, x5, key] (kr_t m) = key + ky_p m * c := by
          intro x0 x1 x2 x4 x5
          simp only [kr_t, ae_ev, ae_el, List.getD_cons_zero, List.getD_cons_succ]
          omega
        by_cases hV0 : ky_v t = 0
        · have F0 := kc_0 (cl := cl) hok.2.2 hV0
          rw [F0, if_pos ⟨h0, h0⟩] at hQ
          refine ky_go hf hT a5 (by decide) (ρ := [d + 27 * ky_v t, d, 0, c, 1, 0, key]) c2 ⟨⟨by omega, hv⟩, hd, ⟨by decide, by decide⟩, ⟨by omega, w3⟩, ⟨by decide, by decide⟩, ⟨by decide, by decide⟩, ⟨bk.1, by omega⟩, trivial⟩ aFs.nil
            (aHh.cons (kr (u := 27) rfl rfl ?_) (aHh.cons (kq (u := 27) rfl rfl ?_) (aHh.cons (hsl (x := d) (cc := 0) rfl hd rfl ?_) aHh.nil))) (by rfl) rfl kr_ES rfl kr_E rfl ?_
          · rw [ev_s (k := 1) (x := d) rfl, ev_s (k := 0) (x := d + 27 * ky_v t) rfl]; exact h27.symm
          · rw [ae_ev_k, ev_s (k := 0) (x := d + 27 * ky_v t) rfl, ← hV0]; exact hq27.symm
          · rw [ev_s (k := 3) (x := c) rfl, hC]
          · rw [tk, ae_ev_k, ← hV0]
            refine ih (m + 1) (key + ky_p m * c) (by omega) hok.2.2 (by omega) ⟨by omega, by omega⟩ (fun z hz => hQ z ?_)
            rw [hz, F0]
            show key + ky_p m * c + ky_p (m + 1) * 0 = key + ky_p m * (0 * 10 + c)
            rw [Int.zero_mul, Int.zero_add]
            omega
        · obtain ⟨d2, t2, rfl⟩ : ∃ d2 t2, t = d2 :: t2 := by
            cases t with
            | nil => exact absurd rfl hV0
            | cons d2 t2 => exact ⟨d2, t2, rfl⟩
          have e2 : ky_v (d2 :: t2) = d2 + 27 * ky_v t2 := rfl
          have hV2 := ky_v_nn hok.2.2.2.2
          have hd2 : 1 ≤ d2 ∧ d2 ≤ 26 := by
            have h1 := hok.2.2.1
            have h2 := hok.2.2.2.1
            by_cases h0 : ky_v t2 = 0
            · omega
            · have := h2 h0
              omega
          have q2 : ky_v (d2 :: t2) % 27 = d2 := by omega
          have hF2 : (kc_F cl (d2 :: t2)).2 = cl d2 := by
            show (if d2 = 0 then 0 else cl d2) = _
            rw [if_neg (by omega)]
          obtain ⟨-, v2, v3⟩ := hcl d2 hd2.1 hd2.2
          rw [hF2] at hQ
          generalize hV9 : ky_v (d2 :: t2) = V at *
          generalize (kc_F cl (d2 :: t2)).1 = F at *
          generalize hC2 : cl d2 = c9 at *
          have five : ∀ {x5 : Int} {v : ae}, v.1.all (fun q => decide (q.1 < 7)) = true → ae_ev [d + 27 * V, d, V, c, d2, x5, key] v = c9 → aHh [d + 27 * V, d, V, c, d2, x5, key] ws (kr_h2 v) := by
            intro x5 v g1 g2
            refine aHh.cons (kr (ρ := [d + 27 * V, d, V, c, d2, x5, key]) (u := 27) rfl rfl ?_) (aHh.cons (kq (ρ := [d + 27 * V, d, V, c, d2, x5, key]) (u := 27) rfl rfl ?_) (aHh.cons (hsl (ρ := [d + 27 * V, d, V, c, d2, x5, key]) (x := d) (cc := 0) rfl hd rfl ?_) (aHh.cons (kr (ρ := [d + 27 * V, d, V, c, d2, x5, key]) (u := 27) rfl rfl ?_) (aHh.cons (hsl (ρ := [d + 27 * V, d, V, c, d2, x5, key]) (x := d2) (cc := 0) rfl hd2 g1 ?_) aHh.nil))))
            · rw [ev_s (k := 1) (x := d) rfl, ev_s (k := 0) (x := d + 27 * V) rfl]; exact h27.symm
            · rw [ev_s (k := 2) (x := V) rfl, ev_s (k := 0) (x := d + 27 * V) rfl]; exact hq27.symm
            · rw [ev_s (k := 3) (x := c) rfl, hC]
            · rw [ev_s (k := 4) (x := d2) rfl, ev_s (k := 2) (x := V) rfl]; exact q2.symm
            · rw [g2, hC2]
          by_cases hcc : c = c9
          · rw [if_neg (by omega)] at hQ
            refine ky_go hf hT a5 (by decide) (ρ := [d + 27 * V, d, V, c, d2, 0, key]) c3 ⟨⟨by omega, hv⟩, hd, ⟨by omega, by omega⟩, ⟨by omega, w3⟩, hd2, ⟨by decide, by decide⟩, ⟨bk.1, by omega⟩, trivial⟩ aFs.nil (five rfl ((ev_s rfl).trans hcc)) (by rfl) rfl kr_ES rfl kr_E rfl ?_
            rw [ev_s (k := 6) (x := key) rfl, ev_s (k := 2) (x := V) rfl]
            exact ih m key (by omega) hok.2.2 (by omega) bk hQ
          · rw [if_pos ⟨h0, hcc⟩] at hQ
            have fin : hG E al 80 207 7 (kr_K (m + 1) (key + ky_p m * c) V) [] [] ws Q := by
              refine ih (m + 1) (key + ky_p m * c) (by omega) hok.2.2 (by omega) ⟨by omega, by omega⟩ (fun z hz => hQ z ?_)
              rw [hz, hp1, Int.mul_add, ← Int.mul_assoc, Int.mul_comm (ky_p m * F) 10, ← Int.mul_assoc]
              omega
            by_cases hlt : c9 < c
            · refine ky_go hf hT a5 (by decide) (ρ := [d + 27 * V, d, V, c, d2, c9, key]) c4 ⟨⟨by omega, hv⟩, hd, ⟨by omega, by omega⟩, ⟨by omega, w3⟩, hd2, ⟨v2, v3⟩, ⟨bk.1, by omega⟩, trivial⟩ (aFs.cons rfl (by simp only [ae_ev, ae_el, List.getD_cons_zero, List.getD_cons_succ]; omega) aFs.nil) (five rfl (ev_s rfl)) (by rfl) rfl kr_ES rfl kr_E rfl ?_
              rw [tk, ev_s (k := 2) (x := V) rfl]
              exact fin
            · refine ky_go hf hT a5 (by decide) (ρ := [d + 27 * V, d, V, c, d2, c9, key]) c5 ⟨⟨by omega, hv⟩, hd, ⟨by omega, by omega⟩, ⟨by omega, w3⟩, hd2, ⟨v2, v3⟩, ⟨bk.1, by omega⟩, trivial⟩ (aFs.cons rfl (by simp only [ae_ev, ae_el, List.getD_cons_zero, List.getD_cons_succ]; omega) aFs.nil) (five rfl (ev_s rfl)) (by rfl) rfl kr_ES rfl kr_E rfl ?_
              rw [tk, ev_s (k := 2) (x := V) rfl]
              exact fin
/-- keyOf of a name -/
theorem kr_mj (hf : E.2.2.2.1.category = 1) (hT : ∀ σ : List Int, aTb E σ aTabs) (a5 : aWd E al aLay ws) (hcl : ky_W ws 105 cl) {v : Int} (hv : ky_is v = true) {AS : List Value} (ha : gL E al [] [.inr (0, 99), .inl (ae_k v)] AS) :
    MJ E 80 0 0 (mj_in0 207 AS ws) (fun x w => ∃ z : Int32, x = some (.int z) ∧ z.toInt = (kc_F cl (ky_D v)).1 ∧ w = ws) := by
  obtain ⟨hok, hval⟩ := ky_six hv
  have hb : 1 ≤ v ∧ v ≤ 387420488 := by
    unfold ky_is at hv
    simp only [Bool.and_eq_true, decide_eq_true_eq] at hv
    exact ⟨hv.1, hv.2.1⟩
  refine hG.in0 hf (d := 80) (as := _) ?_ ha
  refine ky_go hf hT a5 (by decide) (ρ := [v]) kr_kE ⟨ky_F (by omega) (by omega), trivial⟩ aFs.nil aHh.nil (by rfl) rfl (by simp only [lvE, avE, ak_args, av_cat, List.map_cons, List.map_nil, ev_s (ρ := [v]) (k := 0) (x := v) rfl] <;> rfl) rfl (lvk2 := kr_K 0 0 v) (by simp only [lvE, avE, kr_lv, kr_K, List.map_cons, List.map_nil, ae_ev_k, ev_s (ρ := [v]) (k := 0) (x := v) rfl]) rfl ?_
  have := kr_go (Q := fun x w => ∃ z : Int32, x = some (.int z) ∧ z.toInt = (kc_F cl (ky_D v)).1 ∧ w = ws) hf hT a5 hcl (ky_D v) 0 0 (by show 0 + 6 ≤ 6; decide) hok (by omega) ⟨by decide, by decide⟩ (fun z hz => ⟨z, rfl, by rw [hz]; show 0 + 1 * _ = _; omega, rfl⟩)
  rw [hval] at this
  exact this
/-! whether it is a name: the component (28) -/
def ni_lv (k : Nat) (rest : ae) : List (Nat × av) := [(1, .inl rest), (2, .inl (ae_k (k : Int)))]
def ni_K (k : Nat) (rest : Int) : List (Nat × av) := ni_lv k (ae_k rest)
def ni_e (r0 : Int) : List (Int × Int) := [(1, 387420488), (r0, 26), (0, 14348906)]
section
set_option maxRecDepth 100000
theorem ni_k0 : hp_chk gV0 1000 80 28 (0, [(aI0, 0)], [], [], [(0, .inl (ae_s 0))], []) [] [(12, [(aI0, 0)], [], [], [.inl (ae_k 0)], [], [], mMU)] = true := by decide +kernel
theorem ni_k1 : hp_chk gV0 1000 80 28 (0, [(387420489, aI1)], [], [], [(0, .inl (ae_s 0))], []) [] [(12, [(387420489, aI1)], [], [], [.inl (ae_k 0)], [], [], mMU)] = true := by decide +kernel
theorem ni_k2 : hp_chk gV0 1000 80 28 (0, [(1, 387420488)], [], [], [(0, .inl (ae_s 0))], []) [] [(17, [(1, 387420488)], [], ni_lv 0 (ae_s 0), [], [], [], mMU)] = true := by decide +kernel
theorem ni_kX : (List.range 7).all (fun k => hp_chk gV0 1000 80 28 (17, [], [], [], ni_lv k (ae_k 0), []) [] [(48, [], [], [], [.inl (ae_k 1)], [], [], mMU)]) = true := by decide +kernel
theorem ni_k6 : hp_chk gV0 1000 80 28 (17, [aF], [], [], ni_lv 6 (ae_s 0), []) [] [(48, [aF], [], [], [.inl (ae_k 1)], [], [], mMU)] = true := by decide +kernel
theorem ni_kZ : (List.range 6).all (fun k => hp_chk gV0 1000 80 28 (17, ni_e 0, [], [((1000055, ae_s 0), ae_k 0)], ni_lv k (ae_s 0), []) [] [(35, ni_e 0, [], [], [.inl (ae_k 0)], [], [], mMU)]) = true := by decide +kernel
theorem ni_kN : (List.range 6).all (fun k => hp_chk gV0 1000 80 28 (17, ni_e 1, [], [((1000055, ae_s 0), ae_s 1), ((1000054, ae_s 0), ae_s 2)], ni_lv k (ae_s 0), []) [] [(17, ni_e 1, [], ni_lv (k + 1) (ae_s 2), [], [], [], mMU)]) = true := by decide +kernel
end
theorem i32_01 {n : Int32} (h : n.toInt = 0 ∨ n.toInt = 1) : narrow .boolean (.int n) = .int n := by
  rcases h with h | h
  · rw [i32_inj (b := 0) (h.trans (by decide))]; decide
  · rw [i32_inj (b := 1) (h.trans (by decide))]; decide
theorem ni_go (hf : E.2.2.2.1.category = 1) (hT : ∀ σ : List Int, aTb E σ aTabs) (a5 : aWd E al aLay ws) : ∀ (n k : Nat) (rest : Int), n + k = 6 → (0 ≤ rest ∧ rest ≤ 387420488) → (∀ z : Int32, z.toInt = (if ky_n n rest = true then 1 else 0) → Q (some (.int z)) ws) → hG E al 80 28 17 (ni_K k rest) [] [] ws Q := by
  intro n
  induction n with
  | zero =>
    intro k rest hk hb hQ
    have e : k = 6 := by omega
    subst e
    refine ky_go hf hT a5 (by decide) (ρ := [rest]) ni_k6 ⟨ky_F (by omega) (by omega), trivial⟩ aFs.nil aHh.nil (by rfl) rfl (by simp only [lvE, avE, ni_lv, ni_K, List.map_cons, List.map_nil, ae_ev_k, ev_s (ρ := [rest]) (k := 0) (x := rest) rfl]) rfl (lvk2 := []) (stk2 := [.inl (ae_k 1)]) rfl (by simp only [avE, List.map_cons, List.map_nil, ae_ev_k]) ?_
    exact hp_retI (pc := 48) (ty := .boolean) (x := 1) (by decide) (by decide +kernel) (by decide +kernel) (aV.k 1) (fun n hn => i32_01 (Or.inr hn)) (fun z hz => hQ z (by rw [hz]; rfl))
  | succ n ih =>
    intro k rest hk hb hQ
    by_cases h0 : rest = 0
    · subst h0
      refine ky_go hf hT a5 (by decide) (ρ := []) (List.all_eq_true.mp ni_kX k (List.mem_range.mpr (by omega))) trivial aFs.nil aHh.nil (by rfl) rfl (by simp only [lvE, avE, ni_lv, ni_K, List.map_cons, List.map_nil, ae_ev_k]) rfl (lvk2 := []) (stk2 := [.inl (ae_k 1)]) rfl (by simp only [avE, List.map_cons, List.map_nil, ae_ev_k]) ?_
      exact hp_retI (pc := 48) (ty := .boolean) (x := 1) (by decide) (by decide +kernel) (by decide +kernel) (aV.k 1) (fun n hn => i32_01 (Or.inr hn)) (fun z hz => hQ z (by rw [hz]; rfl))
    · by_cases hz : rest % 27 = 0
      · refine ky_go hf hT a5 (by decide) (ρ := [rest, 0, 0]) (List.all_eq_true.mp ni_kZ k (List.mem_range.mpr (by omega))) ⟨⟨by omega, hb.2⟩, ⟨by decide, by decide⟩, ⟨by decide, by decide⟩, trivial⟩ aFs.nil (aHh.cons (kr (u := 27) rfl rfl (by rw [ae_ev_k, ev_s (k := 0) (x := rest) rfl]; exact hz.symm)) aHh.nil) (by rfl) rfl (by simp only [lvE, avE, ni_lv, ni_K, List.map_cons, List.map_nil, ae_ev_k, ev_s (ρ := [rest, 0, 0]) (k := 0) (x := rest) rfl]) rfl (lvk2 := []) (stk2 := [.inl (ae_k 0)]) rfl (by simp only [avE, List.map_cons, List.map_nil, ae_ev_k]) ?_
        refine hp_retI (pc := 35) (ty := .boolean) (x := 0) (by decide) (by decide +kernel) (by decide +kernel) (aV.k 0) (fun n hn => i32_01 (Or.inl hn)) (fun z h => hQ z ?_)
        have e : ky_n (n + 1) rest = false := by
          show (if rest ≤ 0 then true else if rest % 27 = 0 then false else ky_n n (rest / 27)) = false
          rw [if_neg (by omega), if_pos hz]
        rw [h, e]
        rfl
      · refine ky_go hf hT a5 (by decide) (ρ := [rest, rest % 27, rest / 27]) (List.all_eq_true.mp ni_kN k (List.mem_range.mpr (by omega))) ⟨⟨by omega, hb.2⟩, ⟨by omega, by omega⟩, ⟨by omega, by omega⟩, trivial⟩ aFs.nil (aHh.cons (kr (u := 27) rfl rfl ?_) (aHh.cons (kq (u := 27) rfl rfl ?_) aHh.nil)) (by rfl) rfl (by simp only [lvE, avE, ni_lv, ni_K, List.map_cons, List.map_nil, ae_ev_k, ev_s (ρ := [rest, rest % 27, rest / 27]) (k := 0) (x := rest) rfl]) rfl (lvk2 := ni_K (k + 1) (rest / 27)) (by simp only [lvE, avE, ni_lv, ni_K, List.map_cons, List.map_nil, ae_ev_k, ev_s (ρ := [rest, rest % 27, rest / 27]) (k := 2) (x := rest / 27) rfl]) rfl ?_
        · rw [ev_s (k := 1) (x := rest % 27) rfl, ev_s (k := 0) (x := rest) rfl]; rfl
        · rw [ev_s (k := 2) (x := rest / 27) rfl, ev_s (k := 0) (x := rest) rfl]; rfl
        · refine ih (k + 1) (rest / 27) (by omega) ⟨by omega, by omega⟩ (fun z h => hQ z ?_)
          have e : ky_n (n + 1) rest = ky_n n (rest / 27) := by
            show (if rest ≤ 0 then true else if rest % 27 = 0 then false else ky_n n (rest / 27)) = _
            rw [if_neg (by omega), if_neg hz]
          rw [h, e]
theorem ni_mj (hf : E.2.2.2.1.category = 1) (hT : ∀ σ : List Int, aTb E σ aTabs) (a5 : aWd E al aLay ws) {v : Int} (bv : aI0 ≤ v ∧ v ≤ aI1) {AS : List Value} (ha : gL E al [] [.inl (ae_k v)] AS) :
    MJ E 80 0 0 (mj_in0 28 AS ws) (fun x w => ∃ z : Int32, x = some (.int z) ∧ z.toInt = (if ky_is v = true then 1 else 0) ∧ w = ws) := by
  refine hG.in0 hf (d := 80) (as := _) ?_ ha
  by_cases h0 : v ≤ 0
  · refine ky_go hf hT a5 (by decide) (ρ := [v]) ni_k0 ⟨⟨bv.1, h0⟩, trivial⟩ aFs.nil aHh.nil (by rfl) rfl (by simp only [lvE, avE, ak_args, av_cat, List.map_cons, List.map_nil, ev_s (ρ := [v]) (k := 0) (x := v) rfl] <;> rfl) rfl (lvk2 := []) (stk2 := [.inl (ae_k 0)]) rfl (by simp only [avE, List.map_cons, List.map_nil, ae_ev_k]) ?_
    refine hp_retI (pc := 12) (ty := .boolean) (x := 0) (by decide) (by decide +kernel) (by decide +kernel) (aV.k 0) (fun n hn => i32_01 (Or.inl hn)) (fun z hz => ⟨z, rfl, ?_, rfl⟩)
    rw [hz]
    unfold ky_is
    rw [decide_eq_false (by omega)]
    rfl
  · by_cases h1 : 387420489 ≤ v
    · refine ky_go hf hT a5 (by decide) (ρ := [v]) ni_k1 ⟨⟨h1, bv.2⟩, trivial⟩ aFs.nil aHh.nil (by rfl) rfl (by simp only [lvE, avE, ak_args, av_cat, List.map_cons, List.map_nil, ev_s (ρ := [v]) (k := 0) (x := v) rfl] <;> rfl) rfl (lvk2 := []) (stk2 := [.inl (ae_k 0)]) rfl (by simp only [avE, List.map_cons, List.map_nil, ae_ev_k]) ?_
      refine hp_retI (pc := 12) (ty := .boolean) (x := 0) (by decide) (by decide +kernel) (by decide +kernel) (aV.k 0) (fun n hn => i32_01 (Or.inl hn)) (fun z hz => ⟨z, rfl, ?_, rfl⟩)
      rw [hz]
      unfold ky_is
      rw [decide_eq_true (show 1 ≤ v by omega), decide_eq_false (show ¬ v ≤ 387420488 by omega)]
      rfl
    · refine ky_go hf hT a5 (by decide) (ρ := [v]) ni_k2 ⟨⟨by omega, by omega⟩, trivial⟩ aFs.nil aHh.nil (by rfl) rfl (by simp only [lvE, avE, ak_args, av_cat, List.map_cons, List.map_nil, ev_s (ρ := [v]) (k := 0) (x := v) rfl] <;> rfl) rfl (lvk2 := ni_K 0 v) (by simp only [lvE, avE, ni_lv, ni_K, List.map_cons, List.map_nil, ae_ev_k, ev_s (ρ := [v]) (k := 0) (x := v) rfl]) rfl ?_
      refine ni_go hf hT a5 6 0 v (by decide) ⟨by omega, by omega⟩ (fun z hz => ⟨z, rfl, ?_, rfl⟩)
      rw [hz]
      unfold ky_is
      rw [decide_eq_true (show 1 ≤ v by omega), decide_eq_true (show v ≤ 387420488 by omega), Bool.true_and, Bool.true_and]
/-! the reference (189) -/
def nr_lv (k : Nat) (v rest : ae) : List (Nat × av) := [(0, .inl v), (1, .inl (ae_k (k : Int))), (2, .inl rest)]
def nr_K (k : Nat) (v rest : Int) : List (Nat × av) := nr_lv k (ae_k v) (ae_k rest)
def nr_e (r0 : Int) : List (Int × Int) := [(1, aI1), (1, aI1), (r0, 26), (0, 79536431)]
section
set_option maxRecDepth 100000
theorem nr_k0 : hp_chk gV0 1000 80 189 (0, [(aI0, 0)], [], [], [(0, .inl (ae_s 0))], []) [] [(43, [(aI0, 0)], [], [], [.inl (ae_k 0)], [], [], mMU)] = true := by decide +kernel
theorem nr_k2 : hp_chk gV0 1000 80 189 (0, [(1, aI1)], [], [], [(0, .inl (ae_s 0))], []) [] [(4, [(1, aI1)], [], nr_lv 0 (ae_s 0) (ae_s 0), [], [], [], mMU)] = true := by decide +kernel
theorem nr_kX : (List.range 8).all (fun k => hp_chk gV0 1000 80 189 (4, [(1, aI1)], [], [], nr_lv k (ae_s 0) (ae_k 0), []) [] [(43, [(1, aI1)], [], [], [.inl (ae_k (if k ≤ 6 then 1 else 0))], [], [], mMU)]) = true := by decide +kernel
theorem nr_kZ : (List.range 7).all (fun k => hp_chk gV0 1000 80 189 (4, nr_e 0, [], [((1000055, ae_s 1), ae_k 0)], nr_lv k (ae_s 0) (ae_s 1), []) [] [(16, nr_e 0, [], [], [.inl (ae_k 0)], [], [], mMU)]) = true := by decide +kernel
theorem nr_kN : (List.range 7).all (fun k => hp_chk gV0 1000 80 189 (4, nr_e 1, [], [((1000055, ae_s 1), ae_s 2), ((1000054, ae_s 1), ae_s 3)], nr_lv k (ae_s 0) (ae_s 1), []) [] [(4, nr_e 1, [], nr_lv (k + 1) (ae_s 0) (ae_s 3), [], [], [], mMU)]) = true := by decide +kernel
end
def nr_b : Nat → Int
  | 0 => 0
  | n + 1 => 27 * nr_b n + 26
/-- j: how many letters more a name may have -/
theorem nr_go (hf : E.2.2.2.1.category = 1) (hT : ∀ σ : List Int, aTb E σ aTabs) (a5 : aWd E al aLay ws) {v : Int} (bv : 1 ≤ v ∧ v ≤ aI1) : ∀ (j k : Nat) (rest : Int), j + k = 7 → (0 ≤ rest ∧ rest ≤ nr_b j ∧ rest ≤ aI1) → (∀ z : Int32, z.toInt = (if 1 ≤ j ∧ ky_n (j - 1) rest = true ∧ rest ≤ nr_b (j - 1) then 1 else 0) → Q (some (.int z)) ws) → hG E al 80 189 4 (nr_K k v rest) [] [] ws Q := by
  have ex : ∀ {k : Nat}, k ≤ 7 → (∀ z : Int32, z.toInt = (if k ≤ 6 then 1 else 0) → Q (some (.int z)) ws) → hG E al 80 189 4 (nr_K k v 0) [] [] ws Q := by
    intro k hk hQ
    refine ky_go hf hT a5 (by decide) (ρ := [v]) (List.all_eq_true.mp nr_kX k (List.mem_range.mpr (by omega))) ⟨bv, trivial⟩ aFs.nil aHh.nil (by rfl) (by rfl) (by simp only [lvE, avE, nr_lv, nr_K, List.map_cons, List.map_nil, ae_ev_k, ev_s (ρ := [v]) (k := 0) (x := v) rfl]) rfl (lvk2 := []) (stk2 := [.inl (ae_k (if k ≤ 6 then 1 else 0))]) rfl (by simp only [avE, List.map_cons, List.map_nil, ae_ev_k]) ?_
    exact hp_retI (pc := 43) (ty := .boolean) (x := if k ≤ 6 then 1 else 0) (by decide) (by decide +kernel) (by decide +kernel) (aV.k _) (fun n hn => i32_01 (by split at hn <;> omega)) (fun z hz => hQ z hz)
  intro j
  induction j with
  | zero =>
    intro k rest hk hb hQ
    have e : rest = 0 := by
      have : nr_b 0 = 0 := rfl
      omega
    subst e
    refine ex (by omega) (fun z hz => hQ z ?_)
    rw [hz, if_neg (by omega), if_neg (by omega)]
  | succ j ih =>
    intro k rest hk hb hQ
    have eb : nr_b (j + 1) = 27 * nr_b j + 26 := rfl
    have nb : ∀ m, 0 ≤ nr_b m := by
      intro m
      induction m with
      | zero => decide
      | succ m ihm =>
        show 0 ≤ 27 * nr_b m + 26
        omega
    have nbj := nb j
    rw [show j + 1 - 1 = j by omega] at hQ
    by_cases h0 : rest = 0
    · subst h0
      refine ex (by omega) (fun z hz => hQ z ?_)
      have e : ky_n j 0 = true := by
        cases j with
        | zero => rfl
        | succ j => rfl
      rw [hz, if_pos (by omega), if_pos ⟨by omega, e, nbj⟩]
    · have b9 : rest / 27 ≤ 79536431 := by have := hb.2.2; unfold aI1 at this; omega
      by_cases hz : rest % 27 = 0
      · refine ky_go hf hT a5 (by decide) (ρ := [v, rest, 0, 0]) (List.all_eq_true.mp nr_kZ k (List.mem_range.mpr (by omega))) ⟨bv, ⟨by omega, hb.2.2⟩, ⟨by decide, by decide⟩, ⟨by decide, by decide⟩, trivial⟩ aFs.nil (aHh.cons (kr (u := 27) rfl rfl (by rw [ae_ev_k, ev_s (k := 1) (x := rest) rfl]; exact hz.symm)) aHh.nil) (by rfl) rfl (by simp only [lvE, avE, nr_lv, nr_K, List.map_cons, List.map_nil, ae_ev_k, ev_s (ρ := [v, rest, 0, 0]) (k := 0) (x := v) rfl, ev_s (ρ := [v, rest, 0, 0]) (k := 1) (x := rest) rfl]) rfl (lvk2 := []) (stk2 := [.inl (ae_k 0)]) rfl (by simp only [avE, List.map_cons, List.map_nil, ae_ev_k]) ?_
        refine hp_retI (pc := 16) (ty := .boolean) (x := 0) (by decide) (by decide +kernel) (by decide +kernel) (aV.k 0) (fun n hn => i32_01 (Or.inl hn)) (fun z h => hQ z ?_)
        rw [h]
        cases j with
        | zero =>
          have : nr_b 0 = 0 := rfl
          rw [if_neg (fun q => by omega)]
        | succ j =>
          rw [if_neg (fun q => ?_)]
          have q2 := q.2.1
          unfold ky_n at q2
          rw [if_neg (by omega), if_pos hz] at q2
          cases q2
      · refine ky_go hf hT a5 (by decide) (ρ := [v, rest, rest % 27, rest / 27]) (List.all_eq_true.mp nr_kN k (List.mem_range.mpr (by omega))) ⟨bv, ⟨by omega, hb.2.2⟩, ⟨by omega, by omega⟩, ⟨by omega, b9⟩, trivial⟩ aFs.nil (aHh.cons (kr (u := 27) rfl rfl ?_) (aHh.cons (kq (u := 27) rfl rfl ?_) aHh.nil)) (by rfl) rfl (by simp only [lvE, avE, nr_lv, nr_K, List.map_cons, List.map_nil, ae_ev_k, ev_s (ρ := [v, rest, rest % 27, rest / 27]) (k := 0) (x := v) rfl, ev_s (ρ := [v, rest, rest % 27, rest / 27]) (k := 1) (x := rest) rfl]) rfl (lvk2 := nr_K (k + 1) v (rest / 27)) (by simp only [lvE, avE, nr_lv, nr_K, List.map_cons, List.map_nil, ae_ev_k, ev_s (ρ := [v, rest, rest % 27, rest / 27]) (k := 0) (x := v) rfl, ev_s (ρ := [v, rest, rest % 27, rest / 27]) (k := 3) (x := rest / 27) rfl]) rfl ?_
        · rw [ev_s (k := 2) (x := rest % 27) rfl, ev_s (k := 1) (x := rest) rfl]; rfl
        · rw [ev_s (k := 3) (x := rest / 27) rfl, ev_s (k := 1) (x := rest) rfl]; rfl
        · refine ih (k + 1) (rest / 27) (by omega) ⟨by omega, by omega, by unfold aI1; omega⟩ (fun z h => hQ z ?_)
          rw [h]
          cases j with
          | zero =>
            have : nr_b 0 = 0 := rfl
            rw [if_neg (fun q => by omega), if_neg (fun q => by omega)]
          | succ j =>
            have e1 : ky_n (j + 1) rest = ky_n j (rest / 27) := by
              show (if rest ≤ 0 then true else if rest % 27 = 0 then false else ky_n j (rest / 27)) = _
              rw [if_neg (by omega), if_neg hz]
            have e2 : nr_b (j + 1) = 27 * nr_b j + 26 := rfl
            rw [e1, show j + 1 - 1 = j by omega]
            by_cases g : rest / 27 ≤ nr_b j
            · have g2 : rest ≤ nr_b (j + 1) := by omega
              simp only [g, g2, and_true]
              simp
            · have g2 : ¬ rest ≤ nr_b (j + 1) := by omega
              rw [if_neg (fun q => g q.2.2), if_neg (fun q => g2 q.2.2)]
theorem nr_mj (hf : E.2.2.2.1.category = 1) (hT : ∀ σ : List Int, aTb E σ aTabs) (a5 : aWd E al aLay ws) {v : Int} (bv : aI0 ≤ v ∧ v ≤ aI1) {AS : List Value} (ha : gL E al [] [.inl (ae_k v)] AS) :
    MJ E 80 0 0 (mj_in0 189 AS ws) (fun x w => ∃ z : Int32, x = some (.int z) ∧ z.toInt = (if ky_is v = true then 1 else 0) ∧ w = ws) := by
  refine hG.in0 hf (d := 80) (as := _) ?_ ha
  by_cases h0 : v ≤ 0
  · refine ky_go hf hT a5 (by decide) (ρ := [v]) nr_k0 ⟨⟨bv.1, h0⟩, trivial⟩ aFs.nil aHh.nil (by rfl) rfl (by simp only [lvE, avE, ak_args, av_cat, List.map_cons, List.map_nil, ev_s (ρ := [v]) (k := 0) (x := v) rfl] <;> rfl) rfl (lvk2 := []) (stk2 := [.inl (ae_k 0)]) rfl (by simp only [avE, List.map_cons, List.map_nil, ae_ev_k]) ?_
    refine hp_retI (pc := 43) (ty := .boolean) (x := 0) (by decide) (by decide +kernel) (by decide +kernel) (aV.k 0) (fun n hn => i32_01 (Or.inl hn)) (fun z hz => ⟨z, rfl, ?_, rfl⟩)
    rw [hz]
    unfold ky_is
    rw [decide_eq_false (by omega)]
    rfl
  · refine ky_go hf hT a5 (by decide) (ρ := [v]) nr_k2 ⟨⟨by omega, bv.2⟩, trivial⟩ aFs.nil aHh.nil (by rfl) rfl (by simp only [lvE, avE, ak_args, av_cat, List.map_cons, List.map_nil, ev_s (ρ := [v]) (k := 0) (x := v) rfl] <;> rfl) rfl (lvk2 := nr_K 0 v v) (by simp only [lvE, avE, nr_lv, nr_K, List.map_cons, List.map_nil, ae_ev_k, ev_s (ρ := [v]) (k := 0) (x := v) rfl]) rfl ?_
    have b7 : nr_b 7 = 10460353202 := by decide
    have b6 : nr_b 6 = 387420488 := by decide
    refine nr_go hf hT a5 ⟨by omega, bv.2⟩ 7 0 v (by decide) ⟨by omega, by rw [b7]; have := bv.2; unfold aI1 at this; omega, bv.2⟩ (fun z hz => ⟨z, rfl, ?_, rfl⟩)
    rw [hz, show 7 - 1 = 6 from rfl, b6]
    unfold ky_is
    rw [decide_eq_true (show 1 ≤ v by omega), Bool.true_and]
    by_cases g : v ≤ 387420488
    · rw [decide_eq_true g, Bool.true_and]
      simp [g]
    · rw [decide_eq_false g, if_neg (fun q => g q.2.2)]
      rfl
/-! key, the component (54) and the reference (206) -/
section
set_option maxRecDepth 100000
theorem kk_c0 : hp_chk gV0 1000 81 54 (0, [aF], [], [], [(0, .inr (0, 0)), (1, .inl (ae_s 0))], []) [] [(1, [aF], [], [(0, .inr (0, 0)), (1, .inl (ae_s 0))], [.inl (ae_s 0)], [], [], mMU)] = true := by decide +kernel
theorem kk_c1 : hp_chk gV0 1000 81 54 (4, [aF], [], [], [(0, .inr (0, 0)), (1, .inl (ae_s 0))], [.inl (ae_k 1)]) [] [(14, [aF], [], [], [.inl (ae_s 0), .inr (0, 1)], [], [], mMU)] = true := by decide +kernel
theorem kk_c2 : hp_chk gV0 1000 81 54 (4, [aF], [], [], [(0, .inr (0, 0)), (1, .inl (ae_s 0))], [.inl (ae_k 0)]) [] [(8, [aF], [], [], [.inl (ae_k (-1))], [], [], mMU)] = true := by decide +kernel
theorem kk_r0 : hp_chk gV0 1000 81 206 (0, [aF], [], [], [(0, .inr (0, 99)), (1, .inl (ae_s 0))], []) [] [(1, [aF], [], [(0, .inr (0, 99)), (1, .inl (ae_s 0))], [.inl (ae_s 0)], [], [], mMU)] = true := by decide +kernel
theorem kk_r1 : hp_chk gV0 1000 81 206 (4, [aF], [], [], [(0, .inr (0, 99)), (1, .inl (ae_s 0))], [.inl (ae_k 1)]) [] [(9, [aF], [], [], [.inl (ae_s 0), .inr (0, 99)], [], [], mMU)] = true := by decide +kernel
theorem kk_r2 : hp_chk gV0 1000 81 206 (4, [aF], [], [], [(0, .inr (0, 99)), (1, .inl (ae_s 0))], [.inl (ae_k 0)]) [] [(16, [aF], [], [], [.inl (ae_k (-1))], [], [], mMU)] = true := by decide +kernel
theorem kk_r3 : hp_chk gV0 1000 81 206 (12, [aF], [], [], [], [.inl (ae_s 0)]) [] [(16, [aF], [], [], [.inl (ae_s 0)], [], [], mMU)] = true := by decide +kernel
end
theorem kkc_mj (hf : E.2.2.2.1.category = 1) (hT : ∀ σ : List Int, aTb E σ aTabs) (a5 : aWd E al aLay ws) (hcl : ky_W ws 13 cl) {v : Int} (bv : aI0 ≤ v ∧ v ≤ aI1) {AS : List Value} (ha : gL E al [] [.inr (0, 0), .inl (ae_k v)] AS) :
    MJ E 81 0 0 (mj_in0 54 AS ws) (fun x w => ∃ z : Int32, x = some (.int z) ∧ z.toInt = ky_A cl v ∧ w = ws) := by
  have H : hOk E al gV0 (fun _ => True) := hOkV hf hT (fun _ _ _ h => h)
  have e0 : lvE [v] [(0, .inr (0, 0)), (1, .inl (ae_s 0))] = [(0, .inr (0, 0)), (1, .inl (ae_k v))] := by simp only [lvE, avE, List.map_cons, List.map_nil, ev_s (ρ := [v]) (k := 0) (x := v) rfl]
  refine hG.in0 hf (d := 81) (as := _) ?_ ha
  refine ky_go hf hT a5 (by decide) (ρ := [v]) kk_c0 ⟨bv, trivial⟩ aFs.nil aHh.nil (by rfl) rfl (lvk := ak_args 0 [.inr (0, 0), .inl (ae_k v)]) e0 rfl e0 (stk2 := [.inl (ae_k v)]) (by simp only [avE, List.map_cons, List.map_nil, ev_s (ρ := [v]) (k := 0) (x := v) rfl]) ?_
  refine hp_callV H (d := 80) (y2 := 28) (as := [.inl (ae_k v)]) (rest := []) (by decide) (by rfl) (hW.e (J := fun _ => True) a5 trivial) (fun AS ha => ni_mj hf hT a5 bv ha) (fun z w hR => ?_)
  obtain ⟨hz, rfl⟩ := hR
  by_cases hv : ky_is v = true
  · rw [if_pos hv] at hz
    rw [hz]
    refine ky_go hf hT a5 (by decide) (ρ := [v]) kk_c1 ⟨bv, trivial⟩ aFs.nil aHh.nil (by rfl) rfl e0 (by simp only [avE, List.map_cons, List.map_nil, ae_ev_k]) (lvk2 := []) rfl (stk2 := [.inl (ae_k v), .inr (0, 1)]) (by simp only [avE, List.map_cons, List.map_nil, ev_s (ρ := [v]) (k := 0) (x := v) rfl]) ?_
    refine hp_callV H (d := 80) (y2 := 55) (as := [.inr (0, 1), .inl (ae_k v)]) (rest := []) (by decide) (by rfl) (hW.e (J := fun _ => True) a5 trivial) (fun AS ha => kc_mj hf hT a5 hcl hv ha) (fun z2 w2 hR => ?_)
    obtain ⟨hz2, rfl⟩ := hR
    have hA : z2.toInt = ky_A cl v := by
      unfold ky_A
      rw [if_pos hv]
      exact hz2

    exact hp_retI (pc := 17) (ty := .int) (x := z2.toInt) (by decide) (by decide +kernel) (by decide +kernel) (aV.k _) (fun n hn => rfl) (fun n hn => ⟨n, rfl, hn.trans hA, rfl⟩)
  · rw [if_neg hv] at hz
    rw [hz]
    refine ky_go hf hT a5 (by decide) (ρ := [v]) kk_c2 ⟨bv, trivial⟩ aFs.nil aHh.nil (by rfl) rfl e0 (by simp only [avE, List.map_cons, List.map_nil, ae_ev_k]) (lvk2 := []) rfl (stk2 := [.inl (ae_k (-1))]) (by simp only [avE, List.map_cons, List.map_nil, ae_ev_k]) ?_
    refine hp_retI (pc := 8) (ty := .int) (x := -1) (by decide) (by decide +kernel) (by decide +kernel) (aV.k (-1)) (fun n hn => rfl) (fun n hn => ⟨n, rfl, ?_, rfl⟩)
    unfold ky_A
    rw [if_neg hv]
    exact hn
theorem kkr_mj (hf : E.2.2.2.1.category = 1) (hT : ∀ σ : List Int, aTb E σ aTabs) (a5 : aWd E al aLay ws) (hcl : ky_W ws 105 cl) {v : Int} (bv : aI0 ≤ v ∧ v ≤ aI1) {AS : List Value} (ha : gL E al [] [.inr (0, 99), .inl (ae_k v)] AS) :
    MJ E 81 0 0 (mj_in0 206 AS ws) (fun x w => ∃ z : Int32, x = some (.int z) ∧ z.toInt = ky_A cl v ∧ w = ws) := by
  have H : hOk E al gV0 (fun _ => True) := hOkV hf hT (fun _ _ _ h => h)
  have e0 : lvE [v] [(0, .inr (0, 99)), (1, .inl (ae_s 0))] = [(0, .inr (0, 99)), (1, .inl (ae_k v))] := by simp only [lvE, avE, List.map_cons, List.map_nil, ev_s (ρ := [v]) (k := 0) (x := v) rfl]
  refine hG.in0 hf (d := 81) (as := _) ?_ ha
  refine ky_go hf hT a5 (by decide) (ρ := [v]) kk_r0 ⟨bv, trivial⟩ aFs.nil aHh.nil (by rfl) rfl (lvk := ak_args 0 [.inr (0, 99), .inl (ae_k v)]) e0 rfl e0 (stk2 := [.inl (ae_k v)]) (by simp only [avE, List.map_cons, List.map_nil, ev_s (ρ := [v]) (k := 0) (x := v) rfl]) ?_
  refine hp_callV H (d := 80) (y2 := 189) (as := [.inl (ae_k v)]) (rest := []) (by decide) (by rfl) (hW.e (J := fun _ => True) a5 trivial) (fun AS ha => nr_mj hf hT a5 bv ha) (fun z w hR => ?_)
  obtain ⟨hz, rfl⟩ := hR
  by_cases hv : ky_is v = true
  · rw [if_pos hv] at hz
    rw [hz]
    refine ky_go hf hT a5 (by decide) (ρ := [v]) kk_r1 ⟨bv, trivial⟩ aFs.nil aHh.nil (by rfl) rfl e0 (by simp only [avE, List.map_cons, List.map_nil, ae_ev_k]) (lvk2 := []) rfl (stk2 := [.inl (ae_k v), .inr (0, 99)]) (by simp only [avE, List.map_cons, List.map_nil, ev_s (ρ := [v]) (k := 0) (x := v) rfl]) ?_
    refine hp_callV H (d := 80) (y2 := 207) (as := [.inr (0, 99), .inl (ae_k v)]) (rest := []) (by decide) (by rfl) (hW.e (J := fun _ => True) a5 trivial) (fun AS ha => kr_mj hf hT a5 hcl hv ha) (fun z2 w2 hR => ?_)
    obtain ⟨hz2, rfl⟩ := hR
    have hA : z2.toInt = ky_A cl v := by
      unfold ky_A
      rw [if_pos hv]
      exact hz2

    refine ky_go hf hT a5 (by decide) (ρ := [z2.toInt]) kk_r3 ⟨⟨i32_lo _, i32_hi _⟩, trivial⟩ aFs.nil aHh.nil (by rfl) (by rfl) (lvk := []) rfl (by simp only [avE, List.map_cons, List.map_nil, ev_s (ρ := [z2.toInt]) (k := 0) (x := z2.toInt) rfl]) (lvk2 := []) rfl (stk2 := [.inl (ae_k z2.toInt)]) (by simp only [avE, List.map_cons, List.map_nil, ev_s (ρ := [z2.toInt]) (k := 0) (x := z2.toInt) rfl]) ?_
    exact hp_retI (pc := 16) (ty := .int) (x := z2.toInt) (by decide) (by decide +kernel) (by decide +kernel) (aV.k _) (fun n hn => rfl) (fun n hn => ⟨n, rfl, hn.trans hA, rfl⟩)
  · rw [if_neg hv] at hz
    rw [hz]
    refine ky_go hf hT a5 (by decide) (ρ := [v]) kk_r2 ⟨bv, trivial⟩ aFs.nil aHh.nil (by rfl) rfl e0 (by simp only [avE, List.map_cons, List.map_nil, ae_ev_k]) (lvk2 := []) rfl (stk2 := [.inl (ae_k (-1))]) (by simp only [avE, List.map_cons, List.map_nil, ae_ev_k]) ?_
    refine hp_retI (pc := 16) (ty := .int) (x := -1) (by decide) (by decide +kernel) (by decide +kernel) (aV.k (-1)) (fun n hn => rfl) (fun n hn => ⟨n, rfl, ?_, rfl⟩)
    unfold ky_A
    rw [if_neg hv]
    exact hn
end KY

section
set_option maxRecDepth 100000
theorem jLv_l : (List.range 27).all (fun d => decide (d = 0) || jLv.elem (13, d, 105, d, 281 + d, 0, 5)) = true := by decide +kernel
theorem lp_gk : (la_ldc 717 1 && la_ldc 726 1) = true := by decide +kernel
theorem lx_1k : decode (mj_b 320) 716 = .ok (.aload_n 1, 1) := by decide +kernel
theorem lx_2k : decode (mj_b 320) 725 = .ok (.aload_n 2, 1) := by decide +kernel
theorem lx_3k : decode (mj_b 320) 734 = .ok (.if_icmp .eq 1483, 3) := by decide +kernel

end
section SIDES
variable {al : List Nat} {ws w w2 : va_W} {L : Nat} {i : Int} {ρ : List Int}
theorem ky_cls (hw : aWd E al aLay w) (hx : jX w) : ky_W w 13 (fun d => jS w 13 d.toNat) ∧ ky_W w 105 (fun d => jS w 13 d.toNat) := by
  obtain ⟨jx0, jx1, jx2⟩ := hx
  have key : ∀ d : Int, 1 ≤ d → d ≤ 26 → aSl w 13 d.toNat (jS w 13 d.toNat) ∧ aSl w 105 d.toNat (jS w 13 d.toNat) ∧ 0 ≤ jS w 13 d.toNat ∧ jS w 13 d.toNat ≤ 5 := by
    intro d h1 h2
    have m := List.all_eq_true.mp jLv_l d.toNat (List.mem_range.mpr (by omega))
    rw [Bool.or_eq_true, decide_eq_true_eq] at m
    have hm := List.mem_of_elem_eq_true (m.resolve_left (by omega))
    have l := jLy_ok hm
    have j : jO w 13 d.toNat 105 d.toNat 0 5 := jx1 _ hm
    refine ⟨jLay_sl hw l.2.2.1, ?_, j.2⟩
    rw [j.1]
    exact jLay_sl hw l.2.1
  exact ⟨fun d h1 h2 => ⟨(key d h1 h2).1, (key d h1 h2).2.2⟩, fun d h1 h2 => ⟨(key d h1 h2).2.1, (key d h1 h2).2.2⟩⟩
set_option maxRecDepth 100000 in
/-- both sides are called, their answers compared -/
theorem la_xHk (hf : E.2.2.2.1.category = 1) (hT : ∀ σ : List Int, aTb E σ aTabs) (hL : L ≤ 3584) (hE : (E.2.2.1 2).2.1 = L) (H1 : hOkL E al laG1 (fun _ => True) [(L : Int), i] 2) (h : laI E al L i w) (hj : jJ w) (h7 : i + 7 ≤ L)
    (hq : ∀ w2, laI E al L i w2 → jJ w2 → hG E al 86 320 2217 laLv [] [(L : Int), i] w2 Q) : hG E al 86 320 716 laLv [] [(L : Int), i] w Q := by
  have lg := lp_gk
  simp only [Bool.and_eq_true] at lg
  obtain ⟨q0, q1⟩ := lg
  have hx : ∀ k : Int, aI0 ≤ (laX E (i + k)).toInt ∧ (laX E (i + k)).toInt ≤ aI1 := fun k => ⟨i32_lo _, i32_hi _⟩
  have re : ∀ {AS : List Value} {self : Nat}, gL E al [(L : Int), i] (.inr (0, self) :: [ae_k (laX E (i + 1)).toInt].map .inl) AS → gL E al [] (.inr (0, self) :: [ae_k (laX E (i + 1)).toInt].map .inl) AS := by
    intro AS self ha
    obtain ⟨v, u, rfl, h1, h2⟩ := ha
    exact ⟨v, u, rfl, h1, gL_re (by simp [ae_ev_k]) (by rfl) h2⟩
  obtain ⟨k1, k2⟩ := ky_cls h.2.1 hj.2
  refine la_al1 lx_1k ?_
  refine la_arg q0 (by decide) hL hE ⟨h.1.1, h7⟩ ?_
  refine law_callV (d := 85) (y2 := 54) (as := [.inr (0, 0), .inl (ae_k (laX E (i + 1)).toInt)]) (rest := []) mj_li_law H1 (by rfl) (h.hW hL) (fun AS ha => (kkc_mj hf hT h.2.1 k1 (hx 1) (re ha)).weaken (by decide) (Nat.le_refl _) (Nat.le_refl _) (fun v w h => h)) (fun z w1 hR => ?_)
  obtain ⟨g0, e1⟩ := hR
  subst e1
  refine la_al2 lx_2k ?_
  refine la_arg q1 (by decide) hL hE ⟨h.1.1, h7⟩ ?_
  refine law_callV (d := 85) (y2 := 206) (as := [.inr (0, 99), .inl (ae_k (laX E (i + 1)).toInt)]) (rest := [.inl (ae_k z.toInt)]) mj_li_law H1 (by rfl) (h.hW hL) (fun AS ha => (kkr_mj hf hT h.2.1 k2 (hx 1) (re ha)).weaken (by decide) (Nat.le_refl _) (Nat.le_refl _) (fun v w h => h)) (fun z2 w2 hR => ?_)
  obtain ⟨m0, e2⟩ := hR
  subst e2
  have h2 := h
  have ez : z = z2 := i32_inj (g0.trans m0.symm)
  subst ez
  have done := hj
  exact la_eq lx_3k (by show mj_go 734 1483 2217; unfold mj_go; decide) (hq w2 h2 done)
end SIDES
end LAW
