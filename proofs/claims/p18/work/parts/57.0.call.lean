/-! THE CALLS BY TEMPLATES, what is common -/
section LAW
variable {E : mj_E} {Q : Option Value → va_W → Prop}
abbrev xT : Type := List ae × List ae × ae × List ae × List aCut × List aCut
section SIDES
variable {al : List Nat} {ws w w2 : va_W} {L : Nat} {i : Int} {ρ : List Int}
theorem gL_re {σ : List Int} : ∀ {es es2 : List ae} {AS : List Value}, es.map (ae_ev σ) = es2.map (ae_ev ρ) → es2.all (fun e => e.1.all (fun q => decide (q.1 < ρ.length))) = true → gL E al σ (es.map .inl) AS → gL E al ρ (es2.map .inl) AS
  | [], [], _, _, _, h => h
  | [], _ :: _, _, h, _, _ => by cases h
  | _ :: _, [], _, h, _, _ => by cases h
  | e :: es, e2 :: es2, AS, h, hs, ha => by
    obtain ⟨v, u, rfl, ⟨n, rfl, hn⟩, h3⟩ := ha
    rw [List.map_cons, List.map_cons] at h
    injection h with h1 h2
    rw [List.all_cons, Bool.and_eq_true] at hs
    refine ⟨.int n, u, rfl, ⟨n, rfl, ?_⟩, gL_re h2 hs.2 h3⟩
    have := aV.mk (σ := ρ) hs.1
    rw [← h1, ← hn.ev] at this
    exact this
theorem la_pop {pc : Nat} (d : decode (mj_b 320) pc = .ok (.pop, 1)) {e : ae} {st : List av} (hq : hG E al 86 320 (pc + 1) laLv st ρ w Q) : hG E al 86 320 pc laLv (.inl e :: st) ρ w Q := by
  intro LV ST h1 h2
  obtain ⟨v, u, rfl, ⟨n, rfl, -⟩, h3⟩ := h2
  exact MJ.nx d ⟨rfl, _, _, rfl, rfl, rfl⟩ (hq LV u h1 h3)
end SIDES
end LAW
