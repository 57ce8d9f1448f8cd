/-! TEXTS: tokens, and what a text is (core alone) -/
section TOK
/-- blanks are passed -/
def tsF (T : Nat → Int) (n : Nat) : Nat → Nat → Nat
  | 0, p => p
  | f + 1, p => if p < n ∧ T p = 32 then tsF T n f (p + 1) else p
def tS (T : Nat → Int) (n p : Nat) : Nat := tsF T n (n - p) p
/-- bytes of a kind are passed -/
def trF (T : Nat → Int) (n : Nat) (lo hi : Int) : Nat → Nat → Nat
  | 0, p => p
  | f + 1, p => if p < n ∧ lo ≤ T p ∧ T p ≤ hi then trF T n lo hi f (p + 1) else p
def tR (T : Nat → Int) (n : Nat) (lo hi : Int) (p : Nat) : Nat := trF T n lo hi (n - p) p
/-- where the token that begins at s ends -/
def tE (T : Nat → Int) (n s : Nat) : Nat := if n ≤ s then s else if 97 ≤ T s ∧ T s ≤ 122 then tR T n 97 122 (s + 1) else if 48 ≤ T s ∧ T s ≤ 57 then tR T n 48 57 (s + 1) else s + 1
/-- the next token's beginning -/
def tX (T : Nat → Int) (n s : Nat) : Nat := tS T n (tE T n s)
section A
variable {T : Nat → Int} {n : Nat} {lo hi : Int}
theorem tS_eq (p : Nat) : tS T n p = if p < n ∧ T p = 32 then tS T n (p + 1) else p := by
  unfold tS
  by_cases h : p < n
  · obtain ⟨f, hf⟩ : ∃ f, n - p = f + 1 := ⟨n - p - 1, by omega⟩
    have e : n - (p + 1) = f := by omega
    rw [hf, e]
    rfl
  · have e : n - p = 0 := by omega
    rw [e, if_neg (fun q => h q.1)]
    rfl
theorem tR_eq (p : Nat) : tR T n lo hi p = if p < n ∧ lo ≤ T p ∧ T p ≤ hi then tR T n lo hi (p + 1) else p := by
  unfold tR
  by_cases h : p < n
  · obtain ⟨f, hf⟩ : ∃ f, n - p = f + 1 := ⟨n - p - 1, by omega⟩
    have e : n - (p + 1) = f := by omega
    rw [hf, e]
    rfl
  · have e : n - p = 0 := by omega
    rw [e, if_neg (fun q => h q.1)]
    rfl
theorem tsF_le : ∀ (f p : Nat), p ≤ tsF T n f p ∧ tsF T n f p ≤ p + f
  | 0, p => ⟨Nat.le_refl _, Nat.le_refl _⟩
  | f + 1, p => by
    have h := tsF_le f (p + 1)
    show p ≤ (if p < n ∧ T p = 32 then tsF T n f (p + 1) else p) ∧ (if p < n ∧ T p = 32 then tsF T n f (p + 1) else p) ≤ p + (f + 1)
    split
    · omega
    · omega
theorem trF_le : ∀ (f p : Nat), p ≤ trF T n lo hi f p ∧ trF T n lo hi f p ≤ p + f
  | 0, p => ⟨Nat.le_refl _, Nat.le_refl _⟩
  | f + 1, p => by
    have h := trF_le f (p + 1)
    show p ≤ (if p < n ∧ lo ≤ T p ∧ T p ≤ hi then trF T n lo hi f (p + 1) else p) ∧ (if p < n ∧ lo ≤ T p ∧ T p ≤ hi then trF T n lo hi f (p + 1) else p) ≤ p + (f + 1)
    split
    · omega
    · omega
theorem trF_in : ∀ (f p i : Nat), p ≤ i → i < trF T n lo hi f p → lo ≤ T i ∧ T i ≤ hi
  | 0, p, i, h1, h2 => by
    have h2 : i < p := h2
    omega
  | f + 1, p, i, h1, h2 => by
    have h2 : i < (if p < n ∧ lo ≤ T p ∧ T p ≤ hi then trF T n lo hi f (p + 1) else p) := h2
    split at h2
    · rename_i h
      by_cases e : i = p
      · rw [e]
        exact h.2
      · exact trF_in f (p + 1) i (by omega) h2
    · omega
theorem tS_le {p : Nat} (h : p ≤ n) : p ≤ tS T n p ∧ tS T n p ≤ n := by
  have := tsF_le (T := T) (n := n) (n - p) p
  unfold tS
  omega
theorem tR_le {p : Nat} (h : p ≤ n) : p ≤ tR T n lo hi p ∧ tR T n lo hi p ≤ n := by
  have := trF_le (T := T) (n := n) (lo := lo) (hi := hi) (n - p) p
  unfold tR
  omega
theorem tE_ge {s : Nat} (h : n ≤ s) : tE T n s = s := by
  unfold tE
  rw [if_pos h]
theorem tE_w {s : Nat} (h : s < n) (h1 : 97 ≤ T s ∧ T s ≤ 122) : tE T n s = tR T n 97 122 (s + 1) := by
  unfold tE
  rw [if_neg (by omega), if_pos h1]
theorem tE_d {s : Nat} (h : s < n) (h1 : 48 ≤ T s ∧ T s ≤ 57) : tE T n s = tR T n 48 57 (s + 1) := by
  unfold tE
  rw [if_neg (by omega), if_neg (by omega), if_pos h1]
theorem tE_m {s : Nat} (h : s < n) (h1 : ¬ (97 ≤ T s ∧ T s ≤ 122)) (h2 : ¬ (48 ≤ T s ∧ T s ≤ 57)) : tE T n s = s + 1 := by
  unfold tE
  rw [if_neg (by omega), if_neg h1, if_neg h2]
theorem tE_lt {s : Nat} (h : s < n) : s + 1 ≤ tE T n s ∧ tE T n s ≤ n := by
  by_cases h1 : 97 ≤ T s ∧ T s ≤ 122
  · rw [tE_w h h1]
    exact tR_le (by omega)
  · by_cases h2 : 48 ≤ T s ∧ T s ≤ 57
    · rw [tE_d h h2]
      exact tR_le (by omega)
    · rw [tE_m h h1 h2]
      omega
theorem tE_le {s : Nat} (h : s ≤ n) : s ≤ tE T n s ∧ tE T n s ≤ n := by
  by_cases h1 : s < n
  · have := tE_lt (T := T) h1
    omega
  · rw [tE_ge (by omega)]
    omega
theorem tX_le {s : Nat} (h : s ≤ n) : s ≤ tX T n s ∧ tX T n s ≤ n := by
  have h1 := tE_le (T := T) h
  have h2 := tS_le (T := T) h1.2
  unfold tX
  omega
theorem tX_lt {s : Nat} (h : s < n) : s + 1 ≤ tX T n s ∧ tX T n s ≤ n := by
  have h1 := tE_lt (T := T) h
  have h2 := tS_le (T := T) h1.2
  unfold tX
  omega
/-- a word's, a number's bytes -/
theorem tE_let {s i : Nat} (h : s < n) (h1 : 97 ≤ T s ∧ T s ≤ 122) (hi1 : s ≤ i) (hi2 : i < tE T n s) : 97 ≤ T i ∧ T i ≤ 122 := by
  rw [tE_w h h1] at hi2
  by_cases e : i = s
  · rw [e]
    exact h1
  · exact trF_in (n - (s + 1)) (s + 1) i (by omega) hi2
theorem tE_dig {s i : Nat} (h : s < n) (h1 : 48 ≤ T s ∧ T s ≤ 57) (hi1 : s ≤ i) (hi2 : i < tE T n s) : 48 ≤ T i ∧ T i ≤ 57 := by
  rw [tE_d h h1] at hi2
  by_cases e : i = s
  · rw [e]
    exact h1
  · exact trF_in (n - (s + 1)) (s + 1) i (by omega) hi2
end A
/-- the words and signs, by their numbers among the texts: rank bar left proof buys if not ( ) sick turned age weeks trade parish paid master < = > and or ; -/
def wW : Nat → List Int
  | 1 => [114, 97, 110, 107]
  | 2 => [98, 97, 114]
  | 3 => [108, 101, 102, 116]
  | 4 => [112, 114, 111, 111, 102]
  | 5 => [98, 117, 121, 115]
  | 6 => [105, 102]
  | 7 => [110, 111, 116]
  | 8 => [40]
  | 9 => [41]
  | 10 => [115, 105, 99, 107]
  | 11 => [116, 117, 114, 110, 101, 100]
  | 12 => [97, 103, 101]
  | 13 => [119, 101, 101, 107, 115]
  | 14 => [116, 114, 97, 100, 101]
  | 15 => [112, 97, 114, 105, 115, 104]
  | 16 => [112, 97, 105, 100]
  | 17 => [109, 97, 115, 116, 101, 114]
  | 18 => [60]
  | 19 => [61]
  | 20 => [62]
  | 21 => [97, 110, 100]
  | 22 => [111, 114]
  | _ => [59]
/-- the token at s is that word -/
def wB (w : List Int) (T : Nat → Int) (n s : Nat) : Bool := decide (tE T n s = s + w.length) && (List.range w.length).all (fun i => decide (T (s + i) = w.getD i 0))
def tw (i : Nat) (T : Nat → Int) (n s : Nat) : Bool := wB (wW i) T n s
/-- a number's value by its first digits; a word's -/
def v10 (T : Nat → Int) (s : Nat) : Nat → Int
  | 0 => 0
  | k + 1 => 10 * v10 T s k + T (s + k) - 48
def v27 (T : Nat → Int) (s : Nat) : Nat → Int
  | 0 => 0
  | k + 1 => 27 * v27 T s k + T (s + k) - 96
/-- a number of three digits at most, not above g: its value; -1 if there is none -/
def tN (g : Int) (T : Nat → Int) (n s : Nat) : Int := if s < n ∧ (48 ≤ T s ∧ T s ≤ 57) ∧ tE T n s ≤ s + 3 ∧ v10 T s (tE T n s - s) ≤ g then v10 T s (tE T n s - s) else -1
/-- the token's kind and value -/
def tK (T : Nat → Int) (n s : Nat) : Int := if n ≤ s then 0 else if 97 ≤ T s ∧ T s ≤ 122 then 1 else if 48 ≤ T s ∧ T s ≤ 57 then 2 else 3
def tV (T : Nat → Int) (n s : Nat) : Int := if n ≤ s then 0 else if 97 ≤ T s ∧ T s ≤ 122 then (if tE T n s ≤ s + 6 then v27 T s (tE T n s - s) else 0) else if 48 ≤ T s ∧ T s ≤ 57 then v10 T s (min 3 (tE T n s - s)) else T s
section B
variable {T : Nat → Int} {n s : Nat}
theorem wB_iff {w : List Int} : wB w T n s = true ↔ tE T n s = s + w.length ∧ ∀ i, i < w.length → T (s + i) = w.getD i 0 := by
  unfold wB
  rw [Bool.and_eq_true, decide_eq_true_eq, List.all_eq_true]
  constructor
  · intro h
    exact ⟨h.1, fun i hi => of_decide_eq_true (h.2 i (List.mem_range.mpr hi))⟩
  · intro h
    exact ⟨h.1, fun i hi => decide_eq_true (h.2 i (List.mem_range.mp hi))⟩
theorem tw_len (i : Nat) : 1 ≤ (wW i).length ∧ (wW i).length ≤ 6 := by
  unfold wW
  split <;> decide
theorem tw_lt {i : Nat} (h : tw i T n s = true) : s < n := by
  have h1 := (wB_iff.mp h).1
  have h2 := tw_len i
  by_cases e : s < n
  · exact e
  · rw [tE_ge (by omega)] at h1
    omega
theorem v10_b : ∀ k, (∀ i, i < k → 48 ≤ T (s + i) ∧ T (s + i) ≤ 57) → 0 ≤ v10 T s k
  | 0, _ => Int.le_refl _
  | k + 1, h => by
    have h1 := v10_b k (fun i hi => h i (by omega))
    have h2 := h k (by omega)
    show 0 ≤ 10 * v10 T s k + T (s + k) - 48
    omega
theorem tN_b {g : Int} (hg : 0 ≤ g) : -1 ≤ tN g T n s ∧ tN g T n s ≤ g := by
  unfold tN
  split
  · rename_i h
    have := v10_b (T := T) (s := s) (tE T n s - s) (fun i hi => tE_dig (i := s + i) h.1 h.2.1 (by omega) (by omega))
    omega
  · omega
theorem tN_lt {g : Int} (h : tN g T n s ≠ -1) : s < n := by
  unfold tN at h
  split at h
  · rename_i q
    exact q.1
  · exact absurd rfl h
/-- words of letters: one value, one word -/
theorem v27_p : ∀ k, (∀ i, i < k → 97 ≤ T (s + i) ∧ T (s + i) ≤ 122) → 0 ≤ v27 T s k ∧ (0 < k → 1 ≤ v27 T s k)
  | 0, _ => ⟨Int.le_refl _, fun h => absurd h (Nat.lt_irrefl _)⟩
  | k + 1, h => by
    have h1 := (v27_p k (fun i hi => h i (by omega))).1
    have h2 := h k (by omega)
    show 0 ≤ 27 * v27 T s k + T (s + k) - 96 ∧ (0 < k + 1 → 1 ≤ 27 * v27 T s k + T (s + k) - 96)
    omega
theorem v27_inj {U : Nat → Int} {r : Nat} : ∀ k j, (∀ i, i < k → 97 ≤ T (s + i) ∧ T (s + i) ≤ 122) → (∀ i, i < j → 97 ≤ U (r + i) ∧ U (r + i) ≤ 122) → v27 T s k = v27 U r j → k = j ∧ ∀ i, i < k → T (s + i) = U (r + i)
  | 0, 0, _, _, _ => ⟨rfl, fun i hi => absurd hi (Nat.not_lt_zero i)⟩
  | 0, j + 1, _, h2, h => by
    have h0 := (v27_p (T := U) (s := r) (j + 1) h2).2 (Nat.succ_pos j)
    have h : 0 = v27 U r (j + 1) := h
    omega
  | k + 1, 0, h1, _, h => by
    have h0 := (v27_p (T := T) (s := s) (k + 1) h1).2 (Nat.succ_pos k)
    have h : v27 T s (k + 1) = 0 := h
    omega
  | k + 1, j + 1, h1, h2, h => by
    have a1 := h1 k (by omega)
    have a2 := h2 j (by omega)
    have h : 27 * v27 T s k + T (s + k) - 96 = 27 * v27 U r j + U (r + j) - 96 := h
    have e : v27 T s k = v27 U r j := by omega
    obtain ⟨e1, e2⟩ := v27_inj k j (fun i hi => h1 i (by omega)) (fun i hi => h2 i (by omega)) e
    subst e1
    refine ⟨rfl, fun i hi => ?_⟩
    by_cases ei : i = k
    · rw [ei]
      omega
    · exact e2 i (by omega)
theorem v27_congr {U : Nat → Int} {r : Nat} : ∀ k, (∀ i, i < k → T (s + i) = U (r + i)) → v27 T s k = v27 U r k
  | 0, _ => rfl
  | k + 1, h => by
    show 27 * v27 T s k + T (s + k) - 96 = 27 * v27 U r k + U (r + k) - 96
    rw [v27_congr k (fun i hi => h i (by omega)), h k (by omega)]
/-- a word of letters by its value -/
theorem wB_word {w : List Int} {v : Int} (hl : 1 ≤ w.length ∧ w.length ≤ 6) (ha : ∀ i, i < w.length → 97 ≤ w.getD i 0 ∧ w.getD i 0 ≤ 122) (hv : v27 (fun i => w.getD i 0) 0 w.length = v) : wB w T n s = true ↔ tK T n s = 1 ∧ tV T n s = v := by
  have vp := (v27_p (T := fun i => w.getD i 0) (s := 0) w.length (fun i hi => by rw [Nat.zero_add]; exact ha i hi)).2 (by omega)
  rw [wB_iff]
  constructor
  · intro h
    obtain ⟨h1, h2⟩ := h
    have hs : s < n := by
      by_cases e : s < n
      · exact e
      · rw [tE_ge (by omega)] at h1
        omega
    have t0 : 97 ≤ T s ∧ T s ≤ 122 := by
      have := h2 0 (by omega)
      rw [Nat.add_zero] at this
      rw [this]
      exact ha 0 (by omega)
    unfold tK tV
    rw [if_neg (by omega), if_pos t0, if_neg (by omega), if_pos t0, if_pos (by omega), h1, Nat.add_sub_cancel_left]
    refine ⟨rfl, ?_⟩
    rw [← hv]
    exact v27_congr _ (fun i hi => by rw [Nat.zero_add]; exact h2 i hi)
  · intro h
    obtain ⟨h1, h2⟩ := h
    unfold tK at h1
    unfold tV at h2
    split at h1
    · omega
    · rename_i hs
      split at h1
      · rename_i t0
        rw [if_neg hs, if_pos t0] at h2
        split at h2
        · rename_i h6
          have b := tE_lt (T := T) (n := n) (s := s) (by omega)
          obtain ⟨e1, e2⟩ := v27_inj (T := T) (s := s) (U := fun i => w.getD i 0) (r := 0) (tE T n s - s) w.length (fun i hi => tE_let (T := T) (n := n) (s := s) (i := s + i) (by omega) t0 (by omega) (by omega)) (fun i hi => by rw [Nat.zero_add]; exact ha i hi) (h2.trans hv.symm)
          refine ⟨by omega, fun i hi => ?_⟩
          have := e2 i (by omega)
          rw [Nat.zero_add] at this
          exact this
        · omega
      · split at h1 <;> omega
/-- a sign by its value -/
theorem wB_mark {m : Int} (h1 : ¬ (97 ≤ m ∧ m ≤ 122)) (h2 : ¬ (48 ≤ m ∧ m ≤ 57)) : wB [m] T n s = true ↔ tK T n s = 3 ∧ tV T n s = m := by
  rw [wB_iff]
  constructor
  · intro h
    obtain ⟨e1, e2⟩ := h
    have e1 : tE T n s = s + 1 := e1
    have e2 : T s = m := e2 0 Nat.one_pos
    have hs : s < n := by
      by_cases e : s < n
      · exact e
      · rw [tE_ge (by omega)] at e1
        omega
    unfold tK tV
    rw [e2, if_neg (by omega), if_neg h1, if_neg h2, if_neg (by omega), if_neg h1, if_neg h2]
    exact ⟨rfl, rfl⟩
  · intro h
    obtain ⟨e1, e2⟩ := h
    unfold tK at e1
    unfold tV at e2
    split at e1
    · omega
    · rename_i hs
      split at e1
      · omega
      · rename_i a1
        split at e1
        · omega
        · rename_i a2
          rw [if_neg hs, if_neg a1, if_neg a2] at e2
          refine ⟨tE_m (by omega) a1 a2, fun i hi => ?_⟩
          have e : i = 0 := by
            have hi : i < 1 := hi
            omega
          subst e
          exact e2
/-- a number by kind, length and value -/
theorem tK_d (hs : s < n) (hd : 48 ≤ T s ∧ T s ≤ 57) : tK T n s = 2 ∧ tV T n s = v10 T s (min 3 (tE T n s - s)) := by
  unfold tK tV
  rw [if_neg (by omega), if_neg (by omega), if_pos hd, if_neg (by omega), if_neg (by omega), if_pos hd]
  exact ⟨rfl, rfl⟩
theorem tK_2 (h : tK T n s = 2) : s < n ∧ 48 ≤ T s ∧ T s ≤ 57 := by
  unfold tK at h
  split at h
  · omega
  · split at h
    · omega
    · split at h
      · rename_i h1 h2 h3
        exact ⟨by omega, h3⟩
      · omega
theorem tN_yes {g : Int} (h1 : tK T n s = 2) (h2 : tE T n s ≤ s + 3) (h3 : tV T n s ≤ g) : tN g T n s = tV T n s ∧ 0 ≤ tV T n s := by
  obtain ⟨hs, hd⟩ := tK_2 h1
  have hv := (tK_d hs hd).2
  have b := tE_lt (T := T) hs
  rw [show min 3 (tE T n s - s) = tE T n s - s by omega] at hv
  have p := v10_b (T := T) (s := s) (tE T n s - s) (fun i hi => tE_dig (i := s + i) hs hd (by omega) (by omega))
  unfold tN
  rw [hv] at h3 ⊢
  rw [if_pos ⟨hs, hd, h2, h3⟩]
  exact ⟨rfl, p⟩
theorem tN_no {g : Int} (h : ¬ (tK T n s = 2 ∧ tE T n s ≤ s + 3 ∧ tV T n s ≤ g)) : tN g T n s = -1 := by
  unfold tN
  rw [if_neg]
  intro q
  obtain ⟨hs, hd, h2, h3⟩ := q
  have b := tE_lt (T := T) hs
  obtain ⟨k1, k2⟩ := tK_d hs hd
  rw [show min 3 (tE T n s - s) = tE T n s - s by omega] at k2
  exact h ⟨k1, h2, by rw [k2]; exact h3⟩
theorem tw_1 : tw 1 T n s = true ↔ tK T n s = 1 ∧ tV T n s = 355412 := wB_word (by decide) (by decide) (by decide)
theorem tw_2 : tw 2 T n s = true ↔ tK T n s = 1 ∧ tV T n s = 1503 := wB_word (by decide) (by decide) (by decide)
theorem tw_3 : tw 3 T n s = true ↔ tK T n s = 1 ∧ tV T n s = 240023 := wB_word (by decide) (by decide) (by decide)
theorem tw_4 : tw 4 T n s = true ↔ tK T n s = 1 ∧ tV T n s = 8868696 := wB_word (by decide) (by decide) (by decide)
theorem tw_6 : tw 6 T n s = true ↔ tK T n s = 1 ∧ tV T n s = 249 := wB_word (by decide) (by decide) (by decide)
theorem tw_5 : tw 5 T n s = true ↔ tK T n s = 1 ∧ tV T n s = 55369 := wB_word (by decide) (by decide) (by decide)
theorem tw_22 : tw 22 T n s = true ↔ tK T n s = 1 ∧ tV T n s = 423 := wB_word (by decide) (by decide) (by decide)
theorem tw_21 : tw 21 T n s = true ↔ tK T n s = 1 ∧ tV T n s = 1111 := wB_word (by decide) (by decide) (by decide)
theorem tw_7 : tw 7 T n s = true ↔ tK T n s = 1 ∧ tV T n s = 10631 := wB_word (by decide) (by decide) (by decide)
theorem tw_10 : tw 10 T n s = true ↔ tK T n s = 1 ∧ tV T n s = 380630 := wB_word (by decide) (by decide) (by decide)
theorem tw_11 : tw 11 T n s = true ↔ tK T n s = 1 ∧ tV T n s = 298503040 := wB_word (by decide) (by decide) (by decide)
theorem tw_12 : tw 12 T n s = true ↔ tK T n s = 1 ∧ tV T n s = 923 := wB_word (by decide) (by decide) (by decide)
theorem tw_13 : tw 13 T n s = true ↔ tK T n s = 1 ∧ tV T n s = 12325519 := wB_word (by decide) (by decide) (by decide)
theorem tw_14 : tw 14 T n s = true ↔ tK T n s = 1 ∧ tV T n s = 10983956 := wB_word (by decide) (by decide) (by decide)
theorem tw_15 : tw 15 T n s = true ↔ tK T n s = 1 ∧ tV T n s = 230475329 := wB_word (by decide) (by decide) (by decide)
theorem tw_16 : tw 16 T n s = true ↔ tK T n s = 1 ∧ tV T n s = 315904 := wB_word (by decide) (by decide) (by decide)
theorem tw_17 : tw 17 T n s = true ↔ tK T n s = 1 ∧ tV T n s = 187455942 := wB_word (by decide) (by decide) (by decide)
theorem tw_8 : tw 8 T n s = true ↔ tK T n s = 3 ∧ tV T n s = 40 := wB_mark (by decide) (by decide)
theorem tw_9 : tw 9 T n s = true ↔ tK T n s = 3 ∧ tV T n s = 41 := wB_mark (by decide) (by decide)
theorem tw_23 : tw 23 T n s = true ↔ tK T n s = 3 ∧ tV T n s = 59 := wB_mark (by decide) (by decide)
theorem tw_18 : tw 18 T n s = true ↔ tK T n s = 3 ∧ tV T n s = 60 := wB_mark (by decide) (by decide)
theorem tw_19 : tw 19 T n s = true ↔ tK T n s = 3 ∧ tV T n s = 61 := wB_mark (by decide) (by decide)
theorem tw_20 : tw 20 T n s = true ↔ tK T n s = 3 ∧ tV T n s = 62 := wB_mark (by decide) (by decide)
end B
/-! what a text is: places between tokens. 0: a line or the end; 1: a number (o: the line's sort); 2: if; 3: if or ;; 4: buys; 5: an operand (o are open); 6: a sign; 7: a number; 8: behind an operand; 9: ; -/
abbrev tLs : Type := List (Int × Int)
def tStep (T : Nat → Int) (n : Nat) (k o : Nat) (ls : tLs) (s : Nat) : Option (Nat × Nat × tLs) := match k with
  | 0 => if 9 ≤ ls.length then none else if tw 1 T n s then some (1, 0, ls) else if tw 2 T n s then some (2, 0, ls) else if tw 3 T n s then some (1, 2, ls) else if tw 4 T n s then some (1, 3, ls) else none
  | 1 => if tN (if o = 2 then 5 else 9) T n s = -1 then none else some (if o = 0 then 3 else if o = 2 then 4 else 9, 0, ls ++ [((o : Int), tN (if o = 2 then 5 else 9) T n s)])
  | 2 => if tw 6 T n s then some (5, 0, ls ++ [(1, -3)]) else none
  | 3 => if tw 6 T n s then some (5, 0, ls) else if tw 23 T n s then some (0, 0, ls) else none
  | 4 => if tw 5 T n s then some (5, 0, ls) else none
  | 5 => if tw 7 T n s then some (5, o, ls) else if tw 8 T n s then (if o < 4 then some (5, o + 1, ls) else none) else if tw 10 T n s || tw 11 T n s then some (8, o, ls) else if tw 12 T n s || tw 13 T n s || tw 14 T n s || tw 15 T n s || tw 16 T n s || tw 17 T n s then some (6, o, ls) else none
  | 6 => if tw 18 T n s || tw 19 T n s || tw 20 T n s then some (7, o, ls) else none
  | 7 => if tN 999 T n s = -1 then none else some (8, o, ls)
  | 8 => if tw 21 T n s || tw 22 T n s then some (5, o, ls) else if o = 0 then (if tw 23 T n s then some (0, 0, ls) else none) else if tw 9 T n s then some (8, o - 1, ls) else none
  | _ => if tw 23 T n s then some (0, 0, ls) else none
/-- what comes of it: the fault's place, or -1; the lines -/
def runF (T : Nat → Int) (n : Nat) : Nat → Nat → Nat → tLs → Nat → Int × tLs
  | 0, k, _, ls, s => (if k = 0 then -1 else (s : Int), ls)
  | f + 1, k, o, ls, s => match tStep T n k o ls s with
    | none => (if n ≤ s ∧ k = 0 then -1 else (s : Int), ls)
    | some q => runF T n f q.1 q.2.1 q.2.2 (tX T n s)
def run (T : Nat → Int) (n k o : Nat) (ls : tLs) (s : Nat) : Int × tLs := runF T n (n - s) k o ls s
section C
variable {T : Nat → Int} {n k o s : Nat} {ls : tLs}
theorem tw_ge {i : Nat} (h : n ≤ s) : tw i T n s = false := by
  cases e : tw i T n s with
  | false => rfl
  | true =>
    have := tw_lt e
    omega
theorem tN_ge {g : Int} (h : n ≤ s) : tN g T n s = -1 := by
  unfold tN
  rw [if_neg (by omega)]
theorem tStep_ge (h : n ≤ s) : tStep T n k o ls s = none := by
  unfold tStep
  simp only [tw_ge h, tN_ge h]
  split <;> simp
theorem tStep_lt {q : Nat × Nat × tLs} (h : tStep T n k o ls s = some q) : s < n := by
  by_cases e : s < n
  · exact e
  · rw [tStep_ge (by omega)] at h
    cases h
theorem runF_more : ∀ (f g k o : Nat) (ls : tLs) (s : Nat), n - s ≤ f → n - s ≤ g → runF T n f k o ls s = runF T n g k o ls s
  | 0, 0, k, o, ls, s, _, _ => rfl
  | 0, g + 1, k, o, ls, s, h1, _ => by
    show (if k = 0 then -1 else (s : Int), ls) = match tStep T n k o ls s with
      | none => (if n ≤ s ∧ k = 0 then -1 else (s : Int), ls)
      | some q => runF T n g q.1 q.2.1 q.2.2 (tX T n s)
    cases hq : tStep T n k o ls s with
    | none =>
      have hs : n ≤ s := by omega
      by_cases e : k = 0
      · simp [e, hs]
      · simp [e]
    | some q =>
      have := tStep_lt hq
      omega
  | f + 1, 0, k, o, ls, s, _, h1 => by
    show (match tStep T n k o ls s with
      | none => (if n ≤ s ∧ k = 0 then -1 else (s : Int), ls)
      | some q => runF T n f q.1 q.2.1 q.2.2 (tX T n s)) = (if k = 0 then -1 else (s : Int), ls)
    cases hq : tStep T n k o ls s with
    | none =>
      have hs : n ≤ s := by omega
      by_cases e : k = 0
      · simp [e, hs]
      · simp [e]
    | some q =>
      have := tStep_lt hq
      omega
  | f + 1, g + 1, k, o, ls, s, h1, h2 => by
    show (match tStep T n k o ls s with
      | none => (if n ≤ s ∧ k = 0 then -1 else (s : Int), ls)
      | some q => runF T n f q.1 q.2.1 q.2.2 (tX T n s)) = match tStep T n k o ls s with
      | none => (if n ≤ s ∧ k = 0 then -1 else (s : Int), ls)
      | some q => runF T n g q.1 q.2.1 q.2.2 (tX T n s)
    cases hq : tStep T n k o ls s with
    | none => rfl
    | some q =>
      have h3 := tX_lt (T := T) (tStep_lt hq)
      exact runF_more f g q.1 q.2.1 q.2.2 (tX T n s) (by omega) (by omega)
theorem run_go {q : Nat × Nat × tLs} (h : tStep T n k o ls s = some q) : run T n k o ls s = run T n q.1 q.2.1 q.2.2 (tX T n s) := by
  have hs := tStep_lt h
  have h3 := tX_lt (T := T) hs
  unfold run
  obtain ⟨f, hf⟩ : ∃ f, n - s = f + 1 := ⟨n - s - 1, by omega⟩
  rw [hf]
  show (match tStep T n k o ls s with
      | none => (if n ≤ s ∧ k = 0 then -1 else (s : Int), ls)
      | some q => runF T n f q.1 q.2.1 q.2.2 (tX T n s)) = _
  rw [h]
  exact runF_more f (n - tX T n s) q.1 q.2.1 q.2.2 (tX T n s) (by omega) (Nat.le_refl _)
theorem run_no (h : tStep T n k o ls s = none) (hk : s < n ∨ k ≠ 0) : run T n k o ls s = ((s : Int), ls) := by
  unfold run
  cases hf : n - s with
  | zero =>
    show (if k = 0 then -1 else (s : Int), ls) = _
    rw [if_neg (by omega)]
  | succ f =>
    show (match tStep T n k o ls s with
      | none => (if n ≤ s ∧ k = 0 then -1 else (s : Int), ls)
      | some q => runF T n f q.1 q.2.1 q.2.2 (tX T n s)) = _
    rw [h]
    show (if n ≤ s ∧ k = 0 then -1 else (s : Int), ls) = _
    rw [if_neg (by omega)]
theorem runF_le : ∀ (f k o : Nat) (ls : tLs) (s : Nat), s ≤ n → (runF T n f k o ls s).1 ≤ (n : Int)
  | 0, k, o, ls, s, h => by
    show (if k = 0 then -1 else (s : Int)) ≤ (n : Int)
    split <;> omega
  | f + 1, k, o, ls, s, h => by
    show (match tStep T n k o ls s with
      | none => (if n ≤ s ∧ k = 0 then -1 else (s : Int), ls)
      | some q => runF T n f q.1 q.2.1 q.2.2 (tX T n s)).1 ≤ (n : Int)
    cases hq : tStep T n k o ls s with
    | none =>
      show (if n ≤ s ∧ k = 0 then -1 else (s : Int)) ≤ (n : Int)
      split <;> omega
    | some q => exact runF_le f q.1 q.2.1 q.2.2 (tX T n s) (tX_le h).2
theorem run_le (h : s ≤ n) : (run T n k o ls s).1 ≤ (n : Int) := runF_le _ _ _ _ _ h
theorem run_end (hs : n ≤ s) : run T n 0 o ls s = (-1, ls) := by
  unfold run
  rw [show n - s = 0 by omega]
  rfl
end C
end TOK
