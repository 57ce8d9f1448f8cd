/-! THE CALL WHOSE ANSWERS ARE COMPARED: by templates (facts, arguments, answer, the slots behind it, each side's cuts); both sides keep to the same ones -/
section LAW
variable {E : mj_E} {Q : Option Value → va_W → Prop}
def xEs : List (Int × Int) := List.replicate 2 aF ++ jLv.map (fun q => (q.2.2.2.2.2.1, q.2.2.2.2.2.2))
def xCs (y self : Nat) (cells : List (Nat × Nat)) (md : List Nat) (dep : Nat) (t : xT) (cuts : List aCut) : aInst := ((y, xEs, t.1, .inr (0, self) :: t.2.1.map .inl, jHe cells (jSs 2), md, dep, [([], [], some (.inl t.2.2.1), jHe cells t.2.2.2.1)]), cuts)
def xT_0s : xT := ([ae_s 0], [ae_s 0, ae_s 1], ae_k (-1), [ae_s 2, ae_s 3, ae_s 4, ae_s 5, ae_s 6, ae_s 7, ae_s 8, ae_s 9, ae_s 10, ae_s 11, ae_s 12, ae_s 13, ae_s 14, ae_s 15, ae_s 16, ae_s 17, ae_s 18, ae_s 19, ae_s 20, ae_s 21, ae_s 22, ae_s 23, ae_s 24, ae_s 25, ae_s 26, ae_s 27], [], [])
def xT_1s : xT := ([([(0, (-1))], 27)], [ae_s 0, ae_s 1], ae_k (-1), [ae_s 2, ae_s 3, ae_s 4, ae_s 5, ae_s 6, ae_s 7, ae_s 8, ae_s 9, ae_s 10, ae_s 11, ae_s 12, ae_s 13, ae_s 14, ae_s 15, ae_s 16, ae_s 17, ae_s 18, ae_s 19, ae_s 20, ae_s 21, ae_s 22, ae_s 23, ae_s 24, ae_s 25, ae_s 26, ae_s 27], [], [])
def xT_2s : xT := ([([(1, 1)], 1)], [ae_s 0, ae_s 1], ae_k (-1), [ae_s 2, ae_s 3, ae_s 4, ae_s 5, ae_s 6, ae_s 7, ae_s 8, ae_s 9, ae_s 10, ae_s 11, ae_s 12, ae_s 13, ae_s 14, ae_s 15, ae_s 16, ae_s 17, ae_s 18, ae_s 19, ae_s 20, ae_s 21, ae_s 22, ae_s 23, ae_s 24, ae_s 25, ae_s 26, ae_s 27], [], [])
def xT_3s : xT := ([([(1, (-1))], 6)], [ae_s 0, ae_s 1], ae_k (-1), [ae_s 2, ae_s 3, ae_s 4, ae_s 5, ae_s 6, ae_s 7, ae_s 8, ae_s 9, ae_s 10, ae_s 11, ae_s 12, ae_s 13, ae_s 14, ae_s 15, ae_s 16, ae_s 17, ae_s 18, ae_s 19, ae_s 20, ae_s 21, ae_s 22, ae_s 23, ae_s 24, ae_s 25, ae_s 26, ae_s 27], [], [])
def xT_4s : xT := ([([(1, (-1))], 0), ([(1, 1)], (-5))], [ae_k 1, ae_s 1], ae_s 2, [ae_s 1, ae_s 3, ae_s 4, ae_s 5, ae_s 6, ae_s 7, ae_s 8, ae_s 9, ae_s 10, ae_s 11, ae_s 12, ae_s 13, ae_s 14, ae_s 15, ae_s 16, ae_s 17, ae_s 18, ae_s 19, ae_s 20, ae_s 21, ae_s 22, ae_s 23, ae_s 24, ae_s 25, ae_s 26, ae_s 27], [], [])
def xT_5s : xT := ([([(1, (-1))], 0), ([(1, 1)], (-5))], [ae_k 2, ae_s 1], ae_s 3, [ae_s 2, ae_s 1, ae_s 4, ae_s 5, ae_s 6, ae_s 7, ae_s 8, ae_s 9, ae_s 10, ae_s 11, ae_s 12, ae_s 13, ae_s 14, ae_s 15, ae_s 16, ae_s 17, ae_s 18, ae_s 19, ae_s 20, ae_s 21, ae_s 22, ae_s 23, ae_s 24, ae_s 25, ae_s 26, ae_s 27], [], [])
def xT_6s : xT := ([([(1, (-1))], 0), ([(1, 1)], (-5))], [ae_k 3, ae_s 1], ae_s 4, [ae_s 2, ae_s 3, ae_s 1, ae_s 5, ae_s 6, ae_s 7, ae_s 8, ae_s 9, ae_s 10, ae_s 11, ae_s 12, ae_s 13, ae_s 14, ae_s 15, ae_s 16, ae_s 17, ae_s 18, ae_s 19, ae_s 20, ae_s 21, ae_s 22, ae_s 23, ae_s 24, ae_s 25, ae_s 26, ae_s 27], [], [])
def xT_7s : xT := ([([(1, (-1))], 0), ([(1, 1)], (-5))], [ae_k 4, ae_s 1], ae_s 5, [ae_s 2, ae_s 3, ae_s 4, ae_s 1, ae_s 6, ae_s 7, ae_s 8, ae_s 9, ae_s 10, ae_s 11, ae_s 12, ae_s 13, ae_s 14, ae_s 15, ae_s 16, ae_s 17, ae_s 18, ae_s 19, ae_s 20, ae_s 21, ae_s 22, ae_s 23, ae_s 24, ae_s 25, ae_s 26, ae_s 27], [], [])
def xT_8s : xT := ([([(1, (-1))], 0), ([(1, 1)], (-5))], [ae_k 5, ae_s 1], ae_s 6, [ae_s 2, ae_s 3, ae_s 4, ae_s 5, ae_s 1, ae_s 7, ae_s 8, ae_s 9, ae_s 10, ae_s 11, ae_s 12, ae_s 13, ae_s 14, ae_s 15, ae_s 16, ae_s 17, ae_s 18, ae_s 19, ae_s 20, ae_s 21, ae_s 22, ae_s 23, ae_s 24, ae_s 25, ae_s 26, ae_s 27], [], [])
def xT_9s : xT := ([([(1, (-1))], 0), ([(1, 1)], (-5))], [ae_k 6, ae_s 1], ae_s 7, [ae_s 2, ae_s 3, ae_s 4, ae_s 5, ae_s 6, ae_s 1, ae_s 8, ae_s 9, ae_s 10, ae_s 11, ae_s 12, ae_s 13, ae_s 14, ae_s 15, ae_s 16, ae_s 17, ae_s 18, ae_s 19, ae_s 20, ae_s 21, ae_s 22, ae_s 23, ae_s 24, ae_s 25, ae_s 26, ae_s 27], [], [])
def xT_10s : xT := ([([(1, (-1))], 0), ([(1, 1)], (-5))], [ae_k 7, ae_s 1], ae_s 8, [ae_s 2, ae_s 3, ae_s 4, ae_s 5, ae_s 6, ae_s 7, ae_s 1, ae_s 9, ae_s 10, ae_s 11, ae_s 12, ae_s 13, ae_s 14, ae_s 15, ae_s 16, ae_s 17, ae_s 18, ae_s 19, ae_s 20, ae_s 21, ae_s 22, ae_s 23, ae_s 24, ae_s 25, ae_s 26, ae_s 27], [], [])
def xT_11s : xT := ([([(1, (-1))], 0), ([(1, 1)], (-5))], [ae_k 8, ae_s 1], ae_s 9, [ae_s 2, ae_s 3, ae_s 4, ae_s 5, ae_s 6, ae_s 7, ae_s 8, ae_s 1, ae_s 10, ae_s 11, ae_s 12, ae_s 13, ae_s 14, ae_s 15, ae_s 16, ae_s 17, ae_s 18, ae_s 19, ae_s 20, ae_s 21, ae_s 22, ae_s 23, ae_s 24, ae_s 25, ae_s 26, ae_s 27], [], [])
def xT_12s : xT := ([([(1, (-1))], 0), ([(1, 1)], (-5))], [ae_k 9, ae_s 1], ae_s 10, [ae_s 2, ae_s 3, ae_s 4, ae_s 5, ae_s 6, ae_s 7, ae_s 8, ae_s 9, ae_s 1, ae_s 11, ae_s 12, ae_s 13, ae_s 14, ae_s 15, ae_s 16, ae_s 17, ae_s 18, ae_s 19, ae_s 20, ae_s 21, ae_s 22, ae_s 23, ae_s 24, ae_s 25, ae_s 26, ae_s 27], [], [])
def xT_13s : xT := ([([(1, (-1))], 0), ([(1, 1)], (-5))], [ae_k 10, ae_s 1], ae_s 11, [ae_s 2, ae_s 3, ae_s 4, ae_s 5, ae_s 6, ae_s 7, ae_s 8, ae_s 9, ae_s 10, ae_s 1, ae_s 12, ae_s 13, ae_s 14, ae_s 15, ae_s 16, ae_s 17, ae_s 18, ae_s 19, ae_s 20, ae_s 21, ae_s 22, ae_s 23, ae_s 24, ae_s 25, ae_s 26, ae_s 27], [], [])
def xT_14s : xT := ([([(1, (-1))], 0), ([(1, 1)], (-5))], [ae_k 11, ae_s 1], ae_s 12, [ae_s 2, ae_s 3, ae_s 4, ae_s 5, ae_s 6, ae_s 7, ae_s 8, ae_s 9, ae_s 10, ae_s 11, ae_s 1, ae_s 13, ae_s 14, ae_s 15, ae_s 16, ae_s 17, ae_s 18, ae_s 19, ae_s 20, ae_s 21, ae_s 22, ae_s 23, ae_s 24, ae_s 25, ae_s 26, ae_s 27], [], [])
def xT_15s : xT := ([([(1, (-1))], 0), ([(1, 1)], (-5))], [ae_k 12, ae_s 1], ae_s 13, [ae_s 2, ae_s 3, ae_s 4, ae_s 5, ae_s 6, ae_s 7, ae_s 8, ae_s 9, ae_s 10, ae_s 11, ae_s 12, ae_s 1, ae_s 14, ae_s 15, ae_s 16, ae_s 17, ae_s 18, ae_s 19, ae_s 20, ae_s 21, ae_s 22, ae_s 23, ae_s 24, ae_s 25, ae_s 26, ae_s 27], [], [])
def xT_16s : xT := ([([(1, (-1))], 0), ([(1, 1)], (-5))], [ae_k 13, ae_s 1], ae_s 14, [ae_s 2, ae_s 3, ae_s 4, ae_s 5, ae_s 6, ae_s 7, ae_s 8, ae_s 9, ae_s 10, ae_s 11, ae_s 12, ae_s 13, ae_s 1, ae_s 15, ae_s 16, ae_s 17, ae_s 18, ae_s 19, ae_s 20, ae_s 21, ae_s 22, ae_s 23, ae_s 24, ae_s 25, ae_s 26, ae_s 27], [], [])
def xT_17s : xT := ([([(1, (-1))], 0), ([(1, 1)], (-5))], [ae_k 14, ae_s 1], ae_s 15, [ae_s 2, ae_s 3, ae_s 4, ae_s 5, ae_s 6, ae_s 7, ae_s 8, ae_s 9, ae_s 10, ae_s 11, ae_s 12, ae_s 13, ae_s 14, ae_s 1, ae_s 16, ae_s 17, ae_s 18, ae_s 19, ae_s 20, ae_s 21, ae_s 22, ae_s 23, ae_s 24, ae_s 25, ae_s 26, ae_s 27], [], [])
def xT_18s : xT := ([([(1, (-1))], 0), ([(1, 1)], (-5))], [ae_k 15, ae_s 1], ae_s 16, [ae_s 2, ae_s 3, ae_s 4, ae_s 5, ae_s 6, ae_s 7, ae_s 8, ae_s 9, ae_s 10, ae_s 11, ae_s 12, ae_s 13, ae_s 14, ae_s 15, ae_s 1, ae_s 17, ae_s 18, ae_s 19, ae_s 20, ae_s 21, ae_s 22, ae_s 23, ae_s 24, ae_s 25, ae_s 26, ae_s 27], [], [])
def xT_19s : xT := ([([(1, (-1))], 0), ([(1, 1)], (-5))], [ae_k 16, ae_s 1], ae_s 17, [ae_s 2, ae_s 3, ae_s 4, ae_s 5, ae_s 6, ae_s 7, ae_s 8, ae_s 9, ae_s 10, ae_s 11, ae_s 12, ae_s 13, ae_s 14, ae_s 15, ae_s 16, ae_s 1, ae_s 18, ae_s 19, ae_s 20, ae_s 21, ae_s 22, ae_s 23, ae_s 24, ae_s 25, ae_s 26, ae_s 27], [], [])
def xT_20s : xT := ([([(1, (-1))], 0), ([(1, 1)], (-5))], [ae_k 17, ae_s 1], ae_s 18, [ae_s 2, ae_s 3, ae_s 4, ae_s 5, ae_s 6, ae_s 7, ae_s 8, ae_s 9, ae_s 10, ae_s 11, ae_s 12, ae_s 13, ae_s 14, ae_s 15, ae_s 16, ae_s 17, ae_s 1, ae_s 19, ae_s 20, ae_s 21, ae_s 22, ae_s 23, ae_s 24, ae_s 25, ae_s 26, ae_s 27], [], [])
def xT_21s : xT := ([([(1, (-1))], 0), ([(1, 1)], (-5))], [ae_k 18, ae_s 1], ae_s 19, [ae_s 2, ae_s 3, ae_s 4, ae_s 5, ae_s 6, ae_s 7, ae_s 8, ae_s 9, ae_s 10, ae_s 11, ae_s 12, ae_s 13, ae_s 14, ae_s 15, ae_s 16, ae_s 17, ae_s 18, ae_s 1, ae_s 20, ae_s 21, ae_s 22, ae_s 23, ae_s 24, ae_s 25, ae_s 26, ae_s 27], [], [])
def xT_22s : xT := ([([(1, (-1))], 0), ([(1, 1)], (-5))], [ae_k 19, ae_s 1], ae_s 20, [ae_s 2, ae_s 3, ae_s 4, ae_s 5, ae_s 6, ae_s 7, ae_s 8, ae_s 9, ae_s 10, ae_s 11, ae_s 12, ae_s 13, ae_s 14, ae_s 15, ae_s 16, ae_s 17, ae_s 18, ae_s 19, ae_s 1, ae_s 21, ae_s 22, ae_s 23, ae_s 24, ae_s 25, ae_s 26, ae_s 27], [], [])
def xT_23s : xT := ([([(1, (-1))], 0), ([(1, 1)], (-5))], [ae_k 20, ae_s 1], ae_s 21, [ae_s 2, ae_s 3, ae_s 4, ae_s 5, ae_s 6, ae_s 7, ae_s 8, ae_s 9, ae_s 10, ae_s 11, ae_s 12, ae_s 13, ae_s 14, ae_s 15, ae_s 16, ae_s 17, ae_s 18, ae_s 19, ae_s 20, ae_s 1, ae_s 22, ae_s 23, ae_s 24, ae_s 25, ae_s 26, ae_s 27], [], [])
def xT_24s : xT := ([([(1, (-1))], 0), ([(1, 1)], (-5))], [ae_k 21, ae_s 1], ae_s 22, [ae_s 2, ae_s 3, ae_s 4, ae_s 5, ae_s 6, ae_s 7, ae_s 8, ae_s 9, ae_s 10, ae_s 11, ae_s 12, ae_s 13, ae_s 14, ae_s 15, ae_s 16, ae_s 17, ae_s 18, ae_s 19, ae_s 20, ae_s 21, ae_s 1, ae_s 23, ae_s 24, ae_s 25, ae_s 26, ae_s 27], [], [])
def xT_25s : xT := ([([(1, (-1))], 0), ([(1, 1)], (-5))], [ae_k 22, ae_s 1], ae_s 23, [ae_s 2, ae_s 3, ae_s 4, ae_s 5, ae_s 6, ae_s 7, ae_s 8, ae_s 9, ae_s 10, ae_s 11, ae_s 12, ae_s 13, ae_s 14, ae_s 15, ae_s 16, ae_s 17, ae_s 18, ae_s 19, ae_s 20, ae_s 21, ae_s 22, ae_s 1, ae_s 24, ae_s 25, ae_s 26, ae_s 27], [], [])
def xT_26s : xT := ([([(1, (-1))], 0), ([(1, 1)], (-5))], [ae_k 23, ae_s 1], ae_s 24, [ae_s 2, ae_s 3, ae_s 4, ae_s 5, ae_s 6, ae_s 7, ae_s 8, ae_s 9, ae_s 10, ae_s 11, ae_s 12, ae_s 13, ae_s 14, ae_s 15, ae_s 16, ae_s 17, ae_s 18, ae_s 19, ae_s 20, ae_s 21, ae_s 22, ae_s 23, ae_s 1, ae_s 25, ae_s 26, ae_s 27], [], [])
def xT_27s : xT := ([([(1, (-1))], 0), ([(1, 1)], (-5))], [ae_k 24, ae_s 1], ae_s 25, [ae_s 2, ae_s 3, ae_s 4, ae_s 5, ae_s 6, ae_s 7, ae_s 8, ae_s 9, ae_s 10, ae_s 11, ae_s 12, ae_s 13, ae_s 14, ae_s 15, ae_s 16, ae_s 17, ae_s 18, ae_s 19, ae_s 20, ae_s 21, ae_s 22, ae_s 23, ae_s 24, ae_s 1, ae_s 26, ae_s 27], [], [])
def xT_28s : xT := ([([(1, (-1))], 0), ([(1, 1)], (-5))], [ae_k 25, ae_s 1], ae_s 26, [ae_s 2, ae_s 3, ae_s 4, ae_s 5, ae_s 6, ae_s 7, ae_s 8, ae_s 9, ae_s 10, ae_s 11, ae_s 12, ae_s 13, ae_s 14, ae_s 15, ae_s 16, ae_s 17, ae_s 18, ae_s 19, ae_s 20, ae_s 21, ae_s 22, ae_s 23, ae_s 24, ae_s 25, ae_s 1, ae_s 27], [], [])
def xT_29s : xT := ([([(1, (-1))], 0), ([(1, 1)], (-5))], [ae_k 26, ae_s 1], ae_s 27, [ae_s 2, ae_s 3, ae_s 4, ae_s 5, ae_s 6, ae_s 7, ae_s 8, ae_s 9, ae_s 10, ae_s 11, ae_s 12, ae_s 13, ae_s 14, ae_s 15, ae_s 16, ae_s 17, ae_s 18, ae_s 19, ae_s 20, ae_s 21, ae_s 22, ae_s 23, ae_s 24, ae_s 25, ae_s 26, ae_s 1], [], [])
def xTs_0s : List xT := [xT_0s, xT_1s, xT_2s, xT_3s, xT_4s, xT_5s, xT_6s, xT_7s]
def xTs_1s : List xT := [xT_8s, xT_9s, xT_10s, xT_11s, xT_12s, xT_13s, xT_14s, xT_15s]
def xTs_2s : List xT := [xT_16s, xT_17s, xT_18s, xT_19s, xT_20s, xT_21s, xT_22s, xT_23s]
def xTs_3s : List xT := [xT_24s, xT_25s, xT_26s, xT_27s, xT_28s, xT_29s]
def xTss : List xT := xTs_0s ++ (xTs_1s ++ (xTs_2s ++ (xTs_3s)))
def xcss : List aCon := []
def xrss : List aCon := []
def xOks (t : xT) : Bool := ak_inst (aG00 xcss) 100000 (xCs 53 0 (jCc 0) xMc 2 t t.2.2.2.2.1) && ak_inst (aG00 xrss) 100000 (xCs 205 99 jCr xMr 1 t t.2.2.2.2.2) && t.1.all (fun f => f.1.all (fun q => decide (q.1 < 28))) && t.2.1.all (fun f => f.1.all (fun q => decide (q.1 < 28))) && decide (t.2.2.2.1.length = jLv.length) && (jLv.zip t.2.2.2.1).all (fun p => aP_in (xEs, t.1, [], [], []) p.1.2.2.2.2.2.1 p.1.2.2.2.2.2.2 p.2 && p.2.1.all (fun q => decide (q.1 < 28)))
section
set_option maxRecDepth 100000
theorem xk_0s : xTs_0s.all xOks = true := by decide +kernel
theorem xk_1s : xTs_1s.all xOks = true := by decide +kernel
theorem xk_2s : xTs_2s.all xOks = true := by decide +kernel
theorem xk_3s : xTs_3s.all xOks = true := by decide +kernel
theorem xE_lens : xEs.length = 28 := by decide +kernel
theorem lp_gs : (la_ldc 684 1 && la_ldc 689 2 && la_ldc 699 1 && la_ldc 704 2) = true := by decide +kernel
theorem lx_1s : decode (mj_b 320) 683 = .ok (.aload_n 1, 1) := by decide +kernel
theorem lx_2s : decode (mj_b 320) 698 = .ok (.aload_n 2, 1) := by decide +kernel
theorem lx_3s : decode (mj_b 320) 712 = .ok (.pop, 1) := by decide +kernel
theorem lx_4s : decode (mj_b 320) 697 = .ok (.pop, 1) := by decide +kernel
theorem lp_x9s : laP 713 [] 2217 laLv [] = true := by decide +kernel
end
section SIDES
variable {al : List Nat} {ws w w2 : va_W} {L : Nat} {i : Int} {ρ : List Int}
theorem xks : ∀ t ∈ xTss, xOks t = true := by
  unfold xTss
  exact List.forall_mem_append.mpr ⟨List.all_eq_true.mp xk_0s, List.forall_mem_append.mpr ⟨List.all_eq_true.mp xk_1s, List.forall_mem_append.mpr ⟨List.all_eq_true.mp xk_2s, List.all_eq_true.mp xk_3s⟩⟩⟩
theorem xcs_oks (hf : E.2.2.2.1.category = 1) (hT : ∀ σ : List Int, aTb E σ aTabs) : ∀ c ∈ xcss, aCO E al (aG00 []) jJ0 c := by
  have h_0 : ∀ c ∈ ([] : List aCon), aCO E al (aG00 []) jJ0 c := fun c hc => by cases hc
  exact h_0
theorem xrs_oks (hf : E.2.2.2.1.category = 1) (hT : ∀ σ : List Int, aTb E σ aTabs) : ∀ c ∈ xrss, aCO E al (aG00 []) jJ0 c := by
  have h_0 : ∀ c ∈ ([] : List aCon), aCO E al (aG00 []) jJ0 c := fun c hc => by cases hc
  exact h_0
/-- a side's call, by a template -/
theorem x_mjs (hf : E.2.2.2.1.category = 1) (hT : ∀ σ : List Int, aTb E σ aTabs) {y self : Nat} {cells : List (Nat × Nat)} {md : List Nat} {dep : Nat} {t : xT} {cuts : List aCut} {cs : List aCon} (hcs : ∀ c ∈ cs, aCO E al (aG00 []) jJ0 c) (hy : y < mj_lawNo) (hk : ak_inst (aG00 cs) 100000 (xCs y self cells md dep t cuts) = true) (hd : dep ≤ 85)
    (a5 : aWd E al aLay ws) (a6 : aRs aRules ws) (a7 : jJ0 ws) (he : aEv ρ xEs) (hfs : aFs ρ t.1) (hl : cells.length = jLv.length) (hcell : ∀ (k : Nat) (c : Nat × Nat), cells[k]? = some c → c.1 < 1000000 ∧ ρ[2 + k]? = some (jS ws c.1 c.2) ∧ aSl ws c.1 c.2 (jS ws c.1 c.2)) {AS : List Value} (ha : gL E al ρ (.inr (0, self) :: t.2.1.map .inl) AS) :
    MJ E 85 0 0 (mj_in0 y AS ws) (fun v w => ∃ z : Int32, v = some (.int z) ∧ z.toInt = ae_ev ρ t.2.2.1 ∧ aWd E al aLay w ∧ aRs aRules w ∧ jJ0 w ∧ hD md ws w ∧ ∀ (k : Nat) (c : Nat × Nat) (e : ae), cells[k]? = some c → t.2.2.2.1[k]? = some e → jS w c.1 c.2 = ae_ev ρ e) := by
  have kn : aHh ρ ws (jHe cells (jSs 2)) := by
    refine jHe_ok (fun k c e h1 h2 => ?_)
    obtain ⟨g1, g2, g3⟩ := hcell k c h1
    obtain ⟨hlt, rfl⟩ := jSs_of h2
    refine ⟨g1, ?_, ?_⟩
    · have := (List.getElem?_eq_some_iff.mp g2).1
      simpa [ae_s] using this
    · rw [ev_s g2]
      exact g3
  refine (ai00L hf hT hcs (q := xCs y self cells md dep t cuts) hy hk ρ AS ws he hfs ha kn a5 a6 a7 85 hd).weaken (Nat.le_refl _) (Nat.le_refl _) (Nat.le_refl _) (fun v w h => ?_)
  obtain ⟨cs', hcs', r, h1, h2, h3, h4, h5, h6, h7, h8, h9⟩ := h
  have hcs' := List.mem_singleton.mp hcs'
  subst hcs'
  have hr : r = [] := by
    have e1 := h1.1
    have e2 := he.1
    have e3 : (ρ ++ r).length = (xEs ++ []).length := e1
    rw [List.length_append, List.append_nil] at e3
    exact List.eq_nil_of_length_eq_zero (by omega)
  subst hr
  rw [List.append_nil] at h3 h4
  obtain ⟨u, rfl, z, rfl, hz⟩ := h3
  refine ⟨z, rfl, hz.ev, h5, h6, h7, ⟨h8, fun k hk => h9 k hk⟩, fun k c e hc he => ?_⟩
  exact jHe_get h4 (jHe_mem hc he) (hcell k c hc).1
/-- one of the templates fits -/
theorem x_covs {S : List Int} (a1 a2 : Int) (hb : ∀ (k : Nat) (b : Int × Int), xEs[k]? = some b → b.1 ≤ ([a1, a2] ++ S).getD k 0 ∧ ([a1, a2] ++ S).getD k 0 ≤ b.2) : ∃ t ∈ xTss, (∀ f ∈ t.1, ae_ev ([a1, a2] ++ S) f ≤ 0) ∧ t.2.1.map (ae_ev ([a1, a2] ++ S)) = [a1, a2] := by
  have e0 : ([a1, a2] ++ S).getD 0 0 = a1 := rfl
  have e1 : ([a1, a2] ++ S).getD 1 0 = a2 := rfl
  rcases (by omega : (a1 ≤ 0) ∨ (27 ≤ a1) ∨ (a2 ≤ (-1)) ∨ (6 ≤ a2) ∨ (a1 = 1 ∧ 0 ≤ a2 ∧ a2 ≤ 5) ∨ (a1 = 2 ∧ 0 ≤ a2 ∧ a2 ≤ 5) ∨ (a1 = 3 ∧ 0 ≤ a2 ∧ a2 ≤ 5) ∨ (a1 = 4 ∧ 0 ≤ a2 ∧ a2 ≤ 5) ∨ (a1 = 5 ∧ 0 ≤ a2 ∧ a2 ≤ 5) ∨ (a1 = 6 ∧ 0 ≤ a2 ∧ a2 ≤ 5) ∨ (a1 = 7 ∧ 0 ≤ a2 ∧ a2 ≤ 5) ∨ (a1 = 8 ∧ 0 ≤ a2 ∧ a2 ≤ 5) ∨ (a1 = 9 ∧ 0 ≤ a2 ∧ a2 ≤ 5) ∨ (a1 = 10 ∧ 0 ≤ a2 ∧ a2 ≤ 5) ∨ (a1 = 11 ∧ 0 ≤ a2 ∧ a2 ≤ 5) ∨ (a1 = 12 ∧ 0 ≤ a2 ∧ a2 ≤ 5) ∨ (a1 = 13 ∧ 0 ≤ a2 ∧ a2 ≤ 5) ∨ (a1 = 14 ∧ 0 ≤ a2 ∧ a2 ≤ 5) ∨ (a1 = 15 ∧ 0 ≤ a2 ∧ a2 ≤ 5) ∨ (a1 = 16 ∧ 0 ≤ a2 ∧ a2 ≤ 5) ∨ (a1 = 17 ∧ 0 ≤ a2 ∧ a2 ≤ 5) ∨ (a1 = 18 ∧ 0 ≤ a2 ∧ a2 ≤ 5) ∨ (a1 = 19 ∧ 0 ≤ a2 ∧ a2 ≤ 5) ∨ (a1 = 20 ∧ 0 ≤ a2 ∧ a2 ≤ 5) ∨ (a1 = 21 ∧ 0 ≤ a2 ∧ a2 ≤ 5) ∨ (a1 = 22 ∧ 0 ≤ a2 ∧ a2 ≤ 5) ∨ (a1 = 23 ∧ 0 ≤ a2 ∧ a2 ≤ 5) ∨ (a1 = 24 ∧ 0 ≤ a2 ∧ a2 ≤ 5) ∨ (a1 = 25 ∧ 0 ≤ a2 ∧ a2 ≤ 5) ∨ (a1 = 26 ∧ 0 ≤ a2 ∧ a2 ≤ 5)) with h | h | h | h | h | h | h | h | h | h | h | h | h | h | h | h | h | h | h | h | h | h | h | h | h | h | h | h | h | h
  · refine ⟨xT_0s, List.mem_of_getElem? (i := 0) (by rfl), fun f hf => ?_, ?_⟩
    · simp only [xT_0s, List.mem_cons, List.not_mem_nil, or_false] at hf
      rcases hf with rfl <;> (simp only [ae_ev, ae_el, ae_s, ae_k, e0, e1]; omega)
    · simp only [xT_0s, List.map_cons, List.map_nil, ae_ev, ae_el, ae_s, ae_k, e0, e1, List.cons.injEq, and_true]
      omega
  · refine ⟨xT_1s, List.mem_of_getElem? (i := 1) (by rfl), fun f hf => ?_, ?_⟩
    · simp only [xT_1s, List.mem_cons, List.not_mem_nil, or_false] at hf
      rcases hf with rfl <;> (simp only [ae_ev, ae_el, ae_s, ae_k, e0, e1]; omega)
    · simp only [xT_1s, List.map_cons, List.map_nil, ae_ev, ae_el, ae_s, ae_k, e0, e1, List.cons.injEq, and_true]
      omega
  · refine ⟨xT_2s, List.mem_of_getElem? (i := 2) (by rfl), fun f hf => ?_, ?_⟩
    · simp only [xT_2s, List.mem_cons, List.not_mem_nil, or_false] at hf
      rcases hf with rfl <;> (simp only [ae_ev, ae_el, ae_s, ae_k, e0, e1]; omega)
    · simp only [xT_2s, List.map_cons, List.map_nil, ae_ev, ae_el, ae_s, ae_k, e0, e1, List.cons.injEq, and_true]
      omega
  · refine ⟨xT_3s, List.mem_of_getElem? (i := 3) (by rfl), fun f hf => ?_, ?_⟩
    · simp only [xT_3s, List.mem_cons, List.not_mem_nil, or_false] at hf
      rcases hf with rfl <;> (simp only [ae_ev, ae_el, ae_s, ae_k, e0, e1]; omega)
    · simp only [xT_3s, List.map_cons, List.map_nil, ae_ev, ae_el, ae_s, ae_k, e0, e1, List.cons.injEq, and_true]
      omega
  · refine ⟨xT_4s, List.mem_of_getElem? (i := 4) (by rfl), fun f hf => ?_, ?_⟩
    · simp only [xT_4s, List.mem_cons, List.not_mem_nil, or_false] at hf
      rcases hf with rfl | rfl <;> (simp only [ae_ev, ae_el, ae_s, ae_k, e0, e1]; omega)
    · simp only [xT_4s, List.map_cons, List.map_nil, ae_ev, ae_el, ae_s, ae_k, e0, e1, List.cons.injEq, and_true]
      omega
  · refine ⟨xT_5s, List.mem_of_getElem? (i := 5) (by rfl), fun f hf => ?_, ?_⟩
    · simp only [xT_5s, List.mem_cons, List.not_mem_nil, or_false] at hf
      rcases hf with rfl | rfl <;> (simp only [ae_ev, ae_el, ae_s, ae_k, e0, e1]; omega)
    · simp only [xT_5s, List.map_cons, List.map_nil, ae_ev, ae_el, ae_s, ae_k, e0, e1, List.cons.injEq, and_true]
      omega
  · refine ⟨xT_6s, List.mem_of_getElem? (i := 6) (by rfl), fun f hf => ?_, ?_⟩
    · simp only [xT_6s, List.mem_cons, List.not_mem_nil, or_false] at hf
      rcases hf with rfl | rfl <;> (simp only [ae_ev, ae_el, ae_s, ae_k, e0, e1]; omega)
    · simp only [xT_6s, List.map_cons, List.map_nil, ae_ev, ae_el, ae_s, ae_k, e0, e1, List.cons.injEq, and_true]
      omega
  · refine ⟨xT_7s, List.mem_of_getElem? (i := 7) (by rfl), fun f hf => ?_, ?_⟩
    · simp only [xT_7s, List.mem_cons, List.not_mem_nil, or_false] at hf
      rcases hf with rfl | rfl <;> (simp only [ae_ev, ae_el, ae_s, ae_k, e0, e1]; omega)
    · simp only [xT_7s, List.map_cons, List.map_nil, ae_ev, ae_el, ae_s, ae_k, e0, e1, List.cons.injEq, and_true]
      omega
  · refine ⟨xT_8s, List.mem_of_getElem? (i := 8) (by rfl), fun f hf => ?_, ?_⟩
    · simp only [xT_8s, List.mem_cons, List.not_mem_nil, or_false] at hf
      rcases hf with rfl | rfl <;> (simp only [ae_ev, ae_el, ae_s, ae_k, e0, e1]; omega)
    · simp only [xT_8s, List.map_cons, List.map_nil, ae_ev, ae_el, ae_s, ae_k, e0, e1, List.cons.injEq, and_true]
      omega
  · refine ⟨xT_9s, List.mem_of_getElem? (i := 9) (by rfl), fun f hf => ?_, ?_⟩
    · simp only [xT_9s, List.mem_cons, List.not_mem_nil, or_false] at hf
      rcases hf with rfl | rfl <;> (simp only [ae_ev, ae_el, ae_s, ae_k, e0, e1]; omega)
    · simp only [xT_9s, List.map_cons, List.map_nil, ae_ev, ae_el, ae_s, ae_k, e0, e1, List.cons.injEq, and_true]
      omega
  · refine ⟨xT_10s, List.mem_of_getElem? (i := 10) (by rfl), fun f hf => ?_, ?_⟩
    · simp only [xT_10s, List.mem_cons, List.not_mem_nil, or_false] at hf
      rcases hf with rfl | rfl <;> (simp only [ae_ev, ae_el, ae_s, ae_k, e0, e1]; omega)
    · simp only [xT_10s, List.map_cons, List.map_nil, ae_ev, ae_el, ae_s, ae_k, e0, e1, List.cons.injEq, and_true]
      omega
  · refine ⟨xT_11s, List.mem_of_getElem? (i := 11) (by rfl), fun f hf => ?_, ?_⟩
    · simp only [xT_11s, List.mem_cons, List.not_mem_nil, or_false] at hf
      rcases hf with rfl | rfl <;> (simp only [ae_ev, ae_el, ae_s, ae_k, e0, e1]; omega)
    · simp only [xT_11s, List.map_cons, List.map_nil, ae_ev, ae_el, ae_s, ae_k, e0, e1, List.cons.injEq, and_true]
      omega
  · refine ⟨xT_12s, List.mem_of_getElem? (i := 12) (by rfl), fun f hf => ?_, ?_⟩
    · simp only [xT_12s, List.mem_cons, List.not_mem_nil, or_false] at hf
      rcases hf with rfl | rfl <;> (simp only [ae_ev, ae_el, ae_s, ae_k, e0, e1]; omega)
    · simp only [xT_12s, List.map_cons, List.map_nil, ae_ev, ae_el, ae_s, ae_k, e0, e1, List.cons.injEq, and_true]
      omega
  · refine ⟨xT_13s, List.mem_of_getElem? (i := 13) (by rfl), fun f hf => ?_, ?_⟩
    · simp only [xT_13s, List.mem_cons, List.not_mem_nil, or_false] at hf
      rcases hf with rfl | rfl <;> (simp only [ae_ev, ae_el, ae_s, ae_k, e0, e1]; omega)
    · simp only [xT_13s, List.map_cons, List.map_nil, ae_ev, ae_el, ae_s, ae_k, e0, e1, List.cons.injEq, and_true]
      omega
  · refine ⟨xT_14s, List.mem_of_getElem? (i := 14) (by rfl), fun f hf => ?_, ?_⟩
    · simp only [xT_14s, List.mem_cons, List.not_mem_nil, or_false] at hf
      rcases hf with rfl | rfl <;> (simp only [ae_ev, ae_el, ae_s, ae_k, e0, e1]; omega)
    · simp only [xT_14s, List.map_cons, List.map_nil, ae_ev, ae_el, ae_s, ae_k, e0, e1, List.cons.injEq, and_true]
      omega
  · refine ⟨xT_15s, List.mem_of_getElem? (i := 15) (by rfl), fun f hf => ?_, ?_⟩
    · simp only [xT_15s, List.mem_cons, List.not_mem_nil, or_false] at hf
      rcases hf with rfl | rfl <;> (simp only [ae_ev, ae_el, ae_s, ae_k, e0, e1]; omega)
    · simp only [xT_15s, List.map_cons, List.map_nil, ae_ev, ae_el, ae_s, ae_k, e0, e1, List.cons.injEq, and_true]
      omega
  · refine ⟨xT_16s, List.mem_of_getElem? (i := 16) (by rfl), fun f hf => ?_, ?_⟩
    · simp only [xT_16s, List.mem_cons, List.not_mem_nil, or_false] at hf
      rcases hf with rfl | rfl <;> (simp only [ae_ev, ae_el, ae_s, ae_k, e0, e1]; omega)
    · simp only [xT_16s, List.map_cons, List.map_nil, ae_ev, ae_el, ae_s, ae_k, e0, e1, List.cons.injEq, and_true]
      omega
  · refine ⟨xT_17s, List.mem_of_getElem? (i := 17) (by rfl), fun f hf => ?_, ?_⟩
    · simp only [xT_17s, List.mem_cons, List.not_mem_nil, or_false] at hf
      rcases hf with rfl | rfl <;> (simp only [ae_ev, ae_el, ae_s, ae_k, e0, e1]; omega)
    · simp only [xT_17s, List.map_cons, List.map_nil, ae_ev, ae_el, ae_s, ae_k, e0, e1, List.cons.injEq, and_true]
      omega
  · refine ⟨xT_18s, List.mem_of_getElem? (i := 18) (by rfl), fun f hf => ?_, ?_⟩
    · simp only [xT_18s, List.mem_cons, List.not_mem_nil, or_false] at hf
      rcases hf with rfl | rfl <;> (simp only [ae_ev, ae_el, ae_s, ae_k, e0, e1]; omega)
    · simp only [xT_18s, List.map_cons, List.map_nil, ae_ev, ae_el, ae_s, ae_k, e0, e1, List.cons.injEq, and_true]
      omega
  · refine ⟨xT_19s, List.mem_of_getElem? (i := 19) (by rfl), fun f hf => ?_, ?_⟩
    · simp only [xT_19s, List.mem_cons, List.not_mem_nil, or_false] at hf
      rcases hf with rfl | rfl <;> (simp only [ae_ev, ae_el, ae_s, ae_k, e0, e1]; omega)
    · simp only [xT_19s, List.map_cons, List.map_nil, ae_ev, ae_el, ae_s, ae_k, e0, e1, List.cons.injEq, and_true]
      omega
  · refine ⟨xT_20s, List.mem_of_getElem? (i := 20) (by rfl), fun f hf => ?_, ?_⟩
    · simp only [xT_20s, List.mem_cons, List.not_mem_nil, or_false] at hf
      rcases hf with rfl | rfl <;> (simp only [ae_ev, ae_el, ae_s, ae_k, e0, e1]; omega)
    · simp only [xT_20s, List.map_cons, List.map_nil, ae_ev, ae_el, ae_s, ae_k, e0, e1, List.cons.injEq, and_true]
      omega
  · refine ⟨xT_21s, List.mem_of_getElem? (i := 21) (by rfl), fun f hf => ?_, ?_⟩
    · simp only [xT_21s, List.mem_cons, List.not_mem_nil, or_false] at hf
      rcases hf with rfl | rfl <;> (simp only [ae_ev, ae_el, ae_s, ae_k, e0, e1]; omega)
    · simp only [xT_21s, List.map_cons, List.map_nil, ae_ev, ae_el, ae_s, ae_k, e0, e1, List.cons.injEq, and_true]
      omega
  · refine ⟨xT_22s, List.mem_of_getElem? (i := 22) (by rfl), fun f hf => ?_, ?_⟩
    · simp only [xT_22s, List.mem_cons, List.not_mem_nil, or_false] at hf
      rcases hf with rfl | rfl <;> (simp only [ae_ev, ae_el, ae_s, ae_k, e0, e1]; omega)
    · simp only [xT_22s, List.map_cons, List.map_nil, ae_ev, ae_el, ae_s, ae_k, e0, e1, List.cons.injEq, and_true]
      omega
  · refine ⟨xT_23s, List.mem_of_getElem? (i := 23) (by rfl), fun f hf => ?_, ?_⟩
    · simp only [xT_23s, List.mem_cons, List.not_mem_nil, or_false] at hf
      rcases hf with rfl | rfl <;> (simp only [ae_ev, ae_el, ae_s, ae_k, e0, e1]; omega)
    · simp only [xT_23s, List.map_cons, List.map_nil, ae_ev, ae_el, ae_s, ae_k, e0, e1, List.cons.injEq, and_true]
      omega
  · refine ⟨xT_24s, List.mem_of_getElem? (i := 24) (by rfl), fun f hf => ?_, ?_⟩
    · simp only [xT_24s, List.mem_cons, List.not_mem_nil, or_false] at hf
      rcases hf with rfl | rfl <;> (simp only [ae_ev, ae_el, ae_s, ae_k, e0, e1]; omega)
    · simp only [xT_24s, List.map_cons, List.map_nil, ae_ev, ae_el, ae_s, ae_k, e0, e1, List.cons.injEq, and_true]
      omega
  · refine ⟨xT_25s, List.mem_of_getElem? (i := 25) (by rfl), fun f hf => ?_, ?_⟩
    · simp only [xT_25s, List.mem_cons, List.not_mem_nil, or_false] at hf
      rcases hf with rfl | rfl <;> (simp only [ae_ev, ae_el, ae_s, ae_k, e0, e1]; omega)
    · simp only [xT_25s, List.map_cons, List.map_nil, ae_ev, ae_el, ae_s, ae_k, e0, e1, List.cons.injEq, and_true]
      omega
  · refine ⟨xT_26s, List.mem_of_getElem? (i := 26) (by rfl), fun f hf => ?_, ?_⟩
    · simp only [xT_26s, List.mem_cons, List.not_mem_nil, or_false] at hf
      rcases hf with rfl | rfl <;> (simp only [ae_ev, ae_el, ae_s, ae_k, e0, e1]; omega)
    · simp only [xT_26s, List.map_cons, List.map_nil, ae_ev, ae_el, ae_s, ae_k, e0, e1, List.cons.injEq, and_true]
      omega
  · refine ⟨xT_27s, List.mem_of_getElem? (i := 27) (by rfl), fun f hf => ?_, ?_⟩
    · simp only [xT_27s, List.mem_cons, List.not_mem_nil, or_false] at hf
      rcases hf with rfl | rfl <;> (simp only [ae_ev, ae_el, ae_s, ae_k, e0, e1]; omega)
    · simp only [xT_27s, List.map_cons, List.map_nil, ae_ev, ae_el, ae_s, ae_k, e0, e1, List.cons.injEq, and_true]
      omega
  · refine ⟨xT_28s, List.mem_of_getElem? (i := 28) (by rfl), fun f hf => ?_, ?_⟩
    · simp only [xT_28s, List.mem_cons, List.not_mem_nil, or_false] at hf
      rcases hf with rfl | rfl <;> (simp only [ae_ev, ae_el, ae_s, ae_k, e0, e1]; omega)
    · simp only [xT_28s, List.map_cons, List.map_nil, ae_ev, ae_el, ae_s, ae_k, e0, e1, List.cons.injEq, and_true]
      omega
  · refine ⟨xT_29s, List.mem_of_getElem? (i := 29) (by rfl), fun f hf => ?_, ?_⟩
    · simp only [xT_29s, List.mem_cons, List.not_mem_nil, or_false] at hf
      rcases hf with rfl | rfl <;> (simp only [ae_ev, ae_el, ae_s, ae_k, e0, e1]; omega)
    · simp only [xT_29s, List.map_cons, List.map_nil, ae_ev, ae_el, ae_s, ae_k, e0, e1, List.cons.injEq, and_true]
      omega
set_option maxRecDepth 100000 in
/-- both sides are called, their answers compared -/
theorem la_xHs (hf : E.2.2.2.1.category = 1) (hT : ∀ σ : List Int, aTb E σ aTabs) (hL : L ≤ 3584) (hE : (E.2.2.1 2).2.1 = L) (H1 : hOkL E al laG1 (fun _ => True) [(L : Int), i] 2) (h : laI E al L i w) (hj : jJ w) (h7 : i + 7 ≤ L)
    (hq : ∀ w2, laI E al L i w2 → jJ w2 → hG E al 86 320 2217 laLv [] [(L : Int), i] w2 Q) : hG E al 86 320 683 laLv [] [(L : Int), i] w Q := by
  have lg := lp_gs
  simp only [Bool.and_eq_true] at lg
  obtain ⟨⟨⟨q0, q1⟩, q2⟩, q3⟩ := lg
  obtain ⟨jx0, jx1, jx2⟩ := hj.2
  have hx : ∀ k : Int, aI0 ≤ (laX E (i + k)).toInt ∧ (laX E (i + k)).toInt ≤ aI1 := fun k => ⟨i32_lo _, i32_hi _⟩
  have hlen : ([(laX E (i + 1)).toInt, (laX E (i + 2)).toInt] ++ jVs w (jCc 0)).length = 28 := by
    rw [List.length_append, jVs_len, ← xE_lens]
    simp [xEs] <;> omega
  have he : aEv ([(laX E (i + 1)).toInt, (laX E (i + 2)).toInt] ++ jVs w (jCc 0)) xEs := by
    refine ⟨by rw [hlen, xE_lens], fun k x b hk hb => ?_⟩
    by_cases hlt : k < 2
    · rw [List.getElem?_append_left (by simpa using hlt)] at hk
      unfold xEs at hb
      rw [List.getElem?_append_left (by simpa using hlt), List.getElem?_replicate] at hb
      rw [if_pos hlt] at hb
      cases hb
      match k, hlt, hk with
      | 0, _, hk =>
        cases hk
        exact hx 1
      | 1, _, hk =>
        cases hk
        exact hx 2
      | n + 2, hlt, _ => omega
    · rw [List.getElem?_append_right (by simpa using Nat.le_of_not_lt hlt)] at hk
      unfold xEs at hb
      rw [List.getElem?_append_right (by simpa using Nat.le_of_not_lt hlt), List.getElem?_map] at hb
      simp only [List.length_cons, List.length_nil, List.length_replicate] at hk hb
      have hl := (List.getElem?_eq_some_iff.mp hk).1
      rw [jVs_len] at hl
      have hq0 := List.getElem?_eq_getElem hl
      have hk2 := jVs_get (w := w) (up := 0) hq0
      rw [hq0] at hb
      cases hb
      have e := Option.some.inj (hk2.symm.trans hk)
      have hm := List.mem_of_getElem? hq0
      rw [← e]
      exact (jx1 _ hm).2
  obtain ⟨t, ht, hfs, hargs⟩ := x_covs (S := jVs w (jCc 0)) (laX E (i + 1)).toInt (laX E (i + 2)).toInt (fun k b hb => he.ev hb)
  have kt := xks t ht
  unfold xOks at kt
  simp only [Bool.and_eq_true, decide_eq_true_eq] at kt
  obtain ⟨⟨⟨⟨⟨kc, kr⟩, ks⟩, ka⟩, kl⟩, kb⟩ := kt
  have hfs : aFs ([(laX E (i + 1)).toInt, (laX E (i + 2)).toInt] ++ jVs w (jCc 0)) t.1 := aFs.mk (by rw [hlen]; exact ks) hfs
  have hre : ∀ {AS : List Value} {self : Nat}, gL E al [(L : Int), i] (.inr (0, self) :: [ae_k (laX E (i + 1)).toInt, ae_k (laX E (i + 2)).toInt].map .inl) AS → gL E al ([(laX E (i + 1)).toInt, (laX E (i + 2)).toInt] ++ jVs w (jCc 0)) (.inr (0, self) :: t.2.1.map .inl) AS := by
    intro AS self ha
    obtain ⟨v, u, rfl, h1, h2⟩ := ha
    refine ⟨v, u, rfl, h1, gL_re ?_ (by rw [hlen]; exact ka) h2⟩
    rw [hargs]
    simp [ae_ev_k]
  refine la_al1 lx_1s ?_
  refine la_arg q0 (by decide) hL hE ⟨h.1.1, h7⟩ ?_
  refine la_arg q1 (by decide) hL hE ⟨h.1.1, h7⟩ ?_
  refine law_callV (d := 85) (y2 := 53) (as := [.inr (0, 0), .inl (ae_k (laX E (i + 1)).toInt), .inl (ae_k (laX E (i + 2)).toInt)]) (rest := []) mj_li_law H1 (by rfl) (h.hW hL) (fun AS ha => x_mjs hf hT (xcs_oks hf hT) (by decide) kc (by decide) h.2.1 h.2.2 hj.1 he hfs (by simp [jCc]) (fun k c hc => ?_) (hre ha)) (fun z w1 hR => ?_)
  · obtain ⟨q, hq1, rfl⟩ := jCc_of hc
    have hm := List.mem_of_getElem? hq1
    have hlt := (jLy_ok hm).1.1
    refine ⟨by show q.1 + 0 < 1000000; omega, ?_, jLay_sl h.2.1 (jLy_ok hm).2.2.1⟩
    rw [List.getElem?_append_right (by simp)]
    simp only [List.length_cons, List.length_nil, Nat.zero_add, Nat.add_sub_cancel_left]
    exact jVs_get hq1
  obtain ⟨g0, g1, g2, g3, g4, g5⟩ := hR
  have h1 : laI E al L i w1 := ⟨h.1, g1, g2⟩
  refine la_pop lx_4s ?_
  refine la_al2 lx_2s ?_
  refine la_arg q2 (by decide) hL hE ⟨h.1.1, h7⟩ ?_
  refine la_arg q3 (by decide) hL hE ⟨h.1.1, h7⟩ ?_
  refine law_callV (d := 85) (y2 := 205) (as := [.inr (0, 99), .inl (ae_k (laX E (i + 1)).toInt), .inl (ae_k (laX E (i + 2)).toInt)]) (rest := []) mj_li_law H1 (by rfl) (h1.hW hL) (fun AS ha => x_mjs hf hT (xrs_oks hf hT) (by decide) kr (by decide) g1 g2 g3 he hfs (by simp [jCr]) (fun k c hc => ?_) (hre ha)) (fun z2 w2 hR => ?_)
  · obtain ⟨q, hq1, rfl⟩ := jCr_of hc
    have hm := List.mem_of_getElem? hq1
    have hlt := (jLy_ok hm).1.2
    obtain ⟨d1, d2, d3, d4, d5, d6, d7, d8, d9, d10, d11, d12, d13⟩ := jMd_all q hm
    refine ⟨by show q.2.2.1 < 1000000; omega, ?_, jLay_sl g1 (jLy_ok hm).2.1⟩
    rw [List.getElem?_append_right (by simp)]
    simp only [List.length_cons, List.length_nil, Nat.zero_add, Nat.add_sub_cancel_left]
    rw [jVs_get hq1, jS.at (g4.2 _ d13), ← (jx1 q hm).1]
    rfl
  obtain ⟨m0, m1, m2, m3, m4, m5⟩ := hR
  have h2 : laI E al L i w2 := ⟨h.1, m1, m2⟩
  have done : jJ w2 := by
    refine ⟨m3, ?_, fun q hm => ?_, fun hk q hm => ?_⟩
    · rw [jS.at (m4.2 0 jM_0.2.1), jS.at (g4.2 0 jM_0.1), jS.at (m4.2 99 jM_0.2.2.2.1), jS.at (g4.2 99 jM_0.2.2.1)]
      exact jx0
    · obtain ⟨k, hk⟩ := List.getElem?_of_mem hm
      obtain ⟨d1, d2, d3, d4, d5, d6, d7, d8, d9, d10, d11, d12, d13⟩ := jMd_all q hm
      have hkl : k < t.2.2.2.1.length := by rw [kl]; exact (List.getElem?_eq_some_iff.mp hk).1
      have hek := List.getElem?_eq_getElem hkl
      have u1 := g5 k _ _ (jCc_get hk) hek
      have u2 := m5 k _ _ (jCr_get hk) hek
      have hz : (q, t.2.2.2.1[k]) ∈ jLv.zip t.2.2.2.1 := List.mem_of_getElem? (i := k) (List.getElem?_zip_eq_some.mpr ⟨hk, hek⟩)
      have b := List.all_eq_true.mp kb _ hz
      rw [Bool.and_eq_true] at b
      have b2 := aPv.in (P := (xEs, t.1, [], [], [])) ⟨he, hfs, fun z hz => by cases hz⟩ b.1 (aV.mk (by rw [hlen]; exact b.2))
      unfold jO
      rw [jS.at (m4.2 _ d4)]
      refine ⟨u1.trans u2.symm, ?_⟩
      have u1 : jS w1 q.1 q.2.1 = _ := u1
      rw [u1]
      exact b2
    · obtain ⟨d1, d2, d3, d4, d5, d6, d7, d8, d9, d10, d11, d12, d13⟩ := jMd_all q hm
      unfold jO
      rw [jS.at (m4.2 _ d9), jS.at (g4.2 _ d8), jS.at (m4.2 140 jM_0.2.2.2.2.2), jS.at (g4.2 140 jM_0.2.2.2.2.1)]
      exact jx2 (by rw [← jS.at (g4.2 0 jM_0.1), ← jS.at (m4.2 0 jM_0.2.1)]; exact hk) q hm
  exact la_pop lx_3s (la_glue H1 hL lp_x9s h2 (hq w2 h2 done))
end SIDES
end LAW
