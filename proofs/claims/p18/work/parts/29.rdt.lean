/-! THE READER, by hand: tools -/
def gR : aG := aG0 [ac_adv]
/-- fields of before and behind, with a difference -/
def rEqs (n m : Nat) (l : List (Nat × Int)) : List ae := l.flatMap (fun q => [([(n + q.1, 1), (m + q.1, -1)], q.2), ([(n + q.1, -1), (m + q.1, 1)], -q.2)])
/-- the token lies p further, at least -/
def rLe (n m : Nat) (p : Int) : List ae := [([(n + 2, 1), (m + 2, -1)], p), ([(n + 2, 1), (m + 3, -1)], p)]
/-- nothing but these cells has changed -/
def hD (cs : List Nat) (ws w : va_W) : Prop := w.length = ws.length ∧ ∀ k, k ∉ cs → w[k]? = ws[k]?
section RDT
variable {E : mj_E} {al : List Nat} {ρ σ : List Int} {ws : va_W} {Q : Option Value → va_W → Prop}
theorem hD.refl {cs : List Nat} : hD cs ws ws := ⟨rfl, fun _ _ => rfl⟩
theorem hD.trans {cs : List Nat} {w w2 : va_W} (h1 : hD cs ws w) (h2 : hD cs w w2) : hD cs ws w2 := ⟨h2.1.trans h1.1, fun k hk => (h2.2 k hk).trans (h1.2 k hk)⟩
theorem hD.more {cs cs2 : List Nat} {w : va_W} (h1 : hD cs ws w) (h2 : ∀ c ∈ cs, c ∈ cs2) : hD cs2 ws w := ⟨h1.1, fun k hk => h1.2 k (fun h => hk (h2 k h))⟩
theorem hD.eq {w : va_W} (h : hD [] ws w) : w = ws := List.ext_getElem? (fun k => h.2 k (by simp))
theorem hD.set {c : Nat} {q : Nat × va_E} : hD [c] ws (ws.set c q) := ⟨by simp, fun k hk => List.getElem?_set_ne (fun e => hk (by simp [e]))⟩
theorem hD.row {cs : List Nat} {w : va_W} (h : hD cs ws w) {c : Nat} (hc : c ∉ cs) : jR w c = jR ws c := jR.at (h.2 c hc)
theorem hD.prot {cs prot : List Nat} {w w2 : va_W} (h : hD cs w w2) (hc : prot.all (fun q => decide (q % 1000 ∉ cs)) = true) : ∀ q ∈ prot, aE1 q w w2 := by
  intro q hq
  have h1 := of_decide_eq_true (List.all_eq_true.mp hc q hq)
  unfold aE1
  split
  · rename_i hl
    rw [Nat.mod_eq_of_lt hl] at h1
    exact (h.2 q h1).symm
  · exact jS.at (h.2 _ h1).symm
theorem rEqs_ok {n m : Nat} : ∀ {l : List (Nat × Int)}, (∀ f ∈ rEqs n m l, ae_ev σ f ≤ 0) → ∀ (j : Nat) (c : Int), (j, c) ∈ l → σ.getD (m + j) 0 = σ.getD (n + j) 0 + c := by
  intro l h j c hq
  have h1 := h ([(n + j, 1), (m + j, -1)], c) (List.mem_flatMap.mpr ⟨(j, c), hq, List.mem_cons_self⟩)
  have h2 := h ([(n + j, -1), (m + j, 1)], -c) (List.mem_flatMap.mpr ⟨(j, c), hq, List.mem_cons_of_mem _ List.mem_cons_self⟩)
  simp only [ae_ev, ae_el] at h1 h2
  omega
theorem rLe_ok {n m : Nat} {p : Int} (h : ∀ f ∈ rLe n m p, ae_ev σ f ≤ 0) : σ.getD (n + 2) 0 + p ≤ σ.getD (m + 2) 0 ∧ σ.getD (n + 2) 0 + p ≤ σ.getD (m + 3) 0 := by
  have h1 := h _ List.mem_cons_self
  have h2 := h _ (List.mem_cons_of_mem _ List.mem_cons_self)
  simp only [ae_ev, ae_el] at h1 h2
  omega
theorem rX_of {n : Nat} (hn : ρ.length = n) {N : Nat} (hN : n + 8 ≤ N) (h : ∀ k, k < N → σ[k]? = (ρ ++ rX ws)[k]?) : σ.getD (n + 0) 0 = jF ws 19 ∧ σ.getD (n + 1) 0 = jF ws 20 ∧ σ.getD (n + 2) 0 = jF ws 21 ∧ σ.getD (n + 3) 0 = jF ws 22 ∧ σ.getD (n + 4) 0 = jF ws 23 ∧ σ.getD (n + 5) 0 = jF ws 24 ∧ σ.getD (n + 6) 0 = jF ws 28 ∧ σ.getD (n + 7) 0 = jF ws 29 := by
  have g : ∀ j x, (rX ws)[j]? = some x → j < 8 → σ.getD (n + j) 0 = x := fun j x hx hj => by
    rw [getD_of h (by omega), List.getD_eq_getElem?_getD, List.getElem?_append_right (by omega), hn, Nat.add_sub_cancel_left, hx]
    rfl
  exact ⟨g 0 _ rfl (by decide), g 1 _ rfl (by decide), g 2 _ rfl (by decide), g 3 _ rfl (by decide), g 4 _ rfl (by decide), g 5 _ rfl (by decide), g 6 _ rfl (by decide), g 7 _ rfl (by decide)⟩
theorem rX_ge {n : Nat} (hn : ρ.length = n) {N k : Nat} (hk : k < n) (hN : n ≤ N) (h : ∀ k, k < N → σ[k]? = (ρ ++ rX ws)[k]?) : σ.getD k 0 = ρ.getD k 0 := by
  rw [getD_of h (by omega), List.getD_eq_getElem?_getD, List.getElem?_append_left (by omega), ← List.getD_eq_getElem?_getD]
/-- a store into a row of ints, by hand -/
theorem hp_ias {lay : List aD} {d y pc c N : Nat} {cols : List (Int × Int)} {lv : List (Nat × av)} {rest : List av} {xe ie : ae} {x i : Int} (hr : (mj_jmp y pc).map (·.2.1) = [.iastore] ++ ((mj_jmp y pc).map (·.2.1)).drop 1) (hW : aWd E al lay ws) (hl : lay[c]? = some (.inr (0, N, cols))) (hx : aV ρ xe x) (hi : aV ρ ie i) (h0 : 0 ≤ i) (hN : i < (N : Int))
    (hk : ∀ (n : Int32) (w2 : va_W), n.toInt = x → (∃ q, w2 = ws.set c q) → jR w2 c = upd (jR ws c) i.toNat n → ((∀ b, cols[i.toNat % cols.length]? = some b → b.1 ≤ x ∧ x ≤ b.2) → aWd E al lay w2) → hG E al d y (pc + 1) lv rest ρ w2 Q) :
    hG E al d y pc lv (.inl xe :: .inl ie :: .inr (0, c) :: rest) ρ ws Q := by
  intro LV ST h1 h2
  obtain ⟨v1, u1, rfl, ⟨n, rfl, hn⟩, v2, u2, rfl, ⟨k, rfl, hk2⟩, v3, u3, rfl, ⟨a, ha, rfl⟩, h3⟩ := h2
  have en := hn.uniq hx
  have ek := hk2.uniq hi
  obtain ⟨e, he, hc⟩ := hW.at hl ha
  obtain ⟨f, rfl, hf⟩ := hc
  have hj := mj_jmp_cok y pc
  cases hm : mj_jmp y pc with
  | nil => rw [hm] at hr; simp at hr
  | cons q tl =>
    obtain ⟨p, ins, n2⟩ := q
    rw [hm] at hr hj
    have hins : ins = .iastore := by simpa using hr
    subst hins
    have hp : p = pc := hj.2 (by simp)
    subst hp
    obtain ⟨hdec, -, hn2, -⟩ := hj.1
    have hn2 : n2 = 1 := by simpa [mj_isw, mj_len] using hn2
    subst hn2
    have hlt := (List.getElem?_eq_some_iff.mp he).1
    refine MJ.nx hdec ⟨rfl, n, k, a, u3, c, N, f, rfl, he, i32_in (by omega) (by omega), rfl⟩ ?_
    have et : k.toNatClampNeg = i.toNat := by rw [show k.toNatClampNeg = k.toInt.toNat from rfl, ek]
    refine hk n _ en ⟨_, rfl⟩ ?_ (fun hb => ?_) LV u3 h1 h3
    · rw [jR.row (List.getElem?_set_self hlt), jR.row he, et]
    · refine hW.set he (fun D hD => ?_)
      rw [hl] at hD
      cases hD
      refine ⟨_, rfl, hf.put (fun b hb2 => ?_)⟩
      rw [et] at hb2
      rw [en]
      exact hb b hb2
end RDT
