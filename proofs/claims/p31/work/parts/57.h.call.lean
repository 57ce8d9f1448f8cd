/-! THE CALL WHOSE ANSWERS ARE COMPARED: by templates (facts, arguments, answer, the slots behind it, each side's cuts); both sides keep to the same ones -/
section LAW
variable {E : mj_E} {Q : Option Value → va_W → Prop}
def xE : List (Int × Int) := List.replicate 3 aF ++ jLv.map (fun q => (q.2.2.2.2.2.1, q.2.2.2.2.2.2))
def xC (y self : Nat) (cells : List (Nat × Nat)) (md : List Nat) (dep : Nat) (t : xT) (cuts : List aCut) : aInst := ((y, xE, t.1, .inr (0, self) :: t.2.1.map .inl, jHe cells (jSs 3), md, dep, [([], [], some (.inl t.2.2.1), jHe cells t.2.2.2.1)]), cuts)
def xT_0 : xT := ([([(0, 1)], 1)], [ae_s 0, ae_s 1, ae_s 2], ae_k (-1), [ae_s 3, ae_s 4, ae_s 5, ae_s 6, ae_s 7, ae_s 8, ae_s 9, ae_s 10, ae_s 11, ae_s 12, ae_s 13, ae_s 14, ae_s 15, ae_s 16, ae_s 17, ae_s 18, ae_s 19, ae_s 20, ae_s 21, ae_s 22, ae_s 23, ae_s 24, ae_s 25, ae_s 26, ae_s 27], [], [])
def xT_1 : xT := ([([(0, (-1))], 5)], [ae_s 0, ae_s 1, ae_s 2], ae_k (-1), [ae_s 3, ae_s 4, ae_s 5, ae_s 6, ae_s 7, ae_s 8, ae_s 9, ae_s 10, ae_s 11, ae_s 12, ae_s 13, ae_s 14, ae_s 15, ae_s 16, ae_s 17, ae_s 18, ae_s 19, ae_s 20, ae_s 21, ae_s 22, ae_s 23, ae_s 24, ae_s 25, ae_s 26, ae_s 27], [], [])
def xT_2 : xT := ([([(1, 1)], 1)], [ae_s 0, ae_s 1, ae_s 2], ae_k (-1), [ae_s 3, ae_s 4, ae_s 5, ae_s 6, ae_s 7, ae_s 8, ae_s 9, ae_s 10, ae_s 11, ae_s 12, ae_s 13, ae_s 14, ae_s 15, ae_s 16, ae_s 17, ae_s 18, ae_s 19, ae_s 20, ae_s 21, ae_s 22, ae_s 23, ae_s 24, ae_s 25, ae_s 26, ae_s 27], [], [])
def xT_3 : xT := ([([(1, (-1))], 5)], [ae_s 0, ae_s 1, ae_s 2], ae_k (-1), [ae_s 3, ae_s 4, ae_s 5, ae_s 6, ae_s 7, ae_s 8, ae_s 9, ae_s 10, ae_s 11, ae_s 12, ae_s 13, ae_s 14, ae_s 15, ae_s 16, ae_s 17, ae_s 18, ae_s 19, ae_s 20, ae_s 21, ae_s 22, ae_s 23, ae_s 24, ae_s 25, ae_s 26, ae_s 27], [], [])
def xT_4 : xT := ([([(2, 1)], 1)], [ae_s 0, ae_s 1, ae_s 2], ae_k (-1), [ae_s 3, ae_s 4, ae_s 5, ae_s 6, ae_s 7, ae_s 8, ae_s 9, ae_s 10, ae_s 11, ae_s 12, ae_s 13, ae_s 14, ae_s 15, ae_s 16, ae_s 17, ae_s 18, ae_s 19, ae_s 20, ae_s 21, ae_s 22, ae_s 23, ae_s 24, ae_s 25, ae_s 26, ae_s 27], [], [])
def xT_5 : xT := ([([(2, (-1))], 1000)], [ae_s 0, ae_s 1, ae_s 2], ae_k (-1), [ae_s 3, ae_s 4, ae_s 5, ae_s 6, ae_s 7, ae_s 8, ae_s 9, ae_s 10, ae_s 11, ae_s 12, ae_s 13, ae_s 14, ae_s 15, ae_s 16, ae_s 17, ae_s 18, ae_s 19, ae_s 20, ae_s 21, ae_s 22, ae_s 23, ae_s 24, ae_s 25, ae_s 26, ae_s 27], [], [])
def xT_6 : xT := ([([(2, (-1))], 0), ([(2, 1)], (-999))], [ae_k 0, ae_k 0, ae_s 2], ae_k (-1), [ae_s 3, ae_s 4, ae_s 5, ae_s 6, ae_s 7, ae_s 8, ae_s 9, ae_s 10, ae_s 11, ae_s 12, ae_s 13, ae_s 14, ae_s 15, ae_s 16, ae_s 17, ae_s 18, ae_s 19, ae_s 20, ae_s 21, ae_s 22, ae_s 23, ae_s 24, ae_s 25, ae_s 26, ae_s 27], [], [])
def xT_7 : xT := ([([(2, (-1))], 0), ([(2, 1)], (-999))], [ae_k 0, ae_k 1, ae_s 2], ae_s 4, [ae_s 3, ae_s 2, ae_s 5, ae_s 6, ae_s 7, ae_s 2, ae_s 9, ae_s 10, ae_s 11, ae_s 12, ae_s 13, ae_s 14, ae_s 15, ae_s 16, ae_s 17, ae_s 18, ae_s 19, ae_s 20, ae_s 21, ae_s 22, ae_s 23, ae_s 24, ae_s 25, ae_s 26, ae_s 27], [], [])
def xT_8 : xT := ([([(2, (-1))], 0), ([(2, 1)], (-999))], [ae_k 0, ae_k 2, ae_s 2], ae_s 5, [ae_s 3, ae_s 4, ae_s 2, ae_s 6, ae_s 7, ae_s 8, ae_s 9, ae_s 10, ae_s 11, ae_s 12, ae_s 2, ae_s 14, ae_s 15, ae_s 16, ae_s 17, ae_s 18, ae_s 19, ae_s 20, ae_s 21, ae_s 22, ae_s 23, ae_s 24, ae_s 25, ae_s 26, ae_s 27], [], [])
def xT_9 : xT := ([([(2, (-1))], 0), ([(2, 1)], (-999))], [ae_k 0, ae_k 3, ae_s 2], ae_s 6, [ae_s 3, ae_s 4, ae_s 5, ae_s 2, ae_s 7, ae_s 8, ae_s 9, ae_s 10, ae_s 11, ae_s 12, ae_s 13, ae_s 14, ae_s 15, ae_s 16, ae_s 17, ae_s 2, ae_s 19, ae_s 20, ae_s 21, ae_s 22, ae_s 23, ae_s 24, ae_s 25, ae_s 26, ae_s 27], [], [])
def xT_10 : xT := ([([(2, (-1))], 0), ([(2, 1)], (-999))], [ae_k 0, ae_k 4, ae_s 2], ae_s 7, [ae_s 3, ae_s 4, ae_s 5, ae_s 6, ae_s 2, ae_s 8, ae_s 9, ae_s 10, ae_s 11, ae_s 12, ae_s 13, ae_s 14, ae_s 15, ae_s 16, ae_s 17, ae_s 18, ae_s 19, ae_s 20, ae_s 21, ae_s 22, ae_s 2, ae_s 24, ae_s 25, ae_s 26, ae_s 27], [], [])
def xT_11 : xT := ([([(2, (-1))], 0), ([(2, 1)], (-999))], [ae_k 1, ae_k 0, ae_s 2], ae_s 8, [ae_s 3, ae_s 2, ae_s 5, ae_s 6, ae_s 7, ae_s 2, ae_s 9, ae_s 10, ae_s 11, ae_s 12, ae_s 13, ae_s 14, ae_s 15, ae_s 16, ae_s 17, ae_s 18, ae_s 19, ae_s 20, ae_s 21, ae_s 22, ae_s 23, ae_s 24, ae_s 25, ae_s 26, ae_s 27], [], [])
def xT_12 : xT := ([([(2, (-1))], 0), ([(2, 1)], (-999))], [ae_k 1, ae_k 1, ae_s 2], ae_k (-1), [ae_s 3, ae_s 4, ae_s 5, ae_s 6, ae_s 7, ae_s 8, ae_s 9, ae_s 10, ae_s 11, ae_s 12, ae_s 13, ae_s 14, ae_s 15, ae_s 16, ae_s 17, ae_s 18, ae_s 19, ae_s 20, ae_s 21, ae_s 22, ae_s 23, ae_s 24, ae_s 25, ae_s 26, ae_s 27], [], [])
def xT_13 : xT := ([([(2, (-1))], 0), ([(2, 1)], (-999))], [ae_k 1, ae_k 2, ae_s 2], ae_s 10, [ae_s 3, ae_s 4, ae_s 5, ae_s 6, ae_s 7, ae_s 8, ae_s 9, ae_s 2, ae_s 11, ae_s 12, ae_s 13, ae_s 2, ae_s 15, ae_s 16, ae_s 17, ae_s 18, ae_s 19, ae_s 20, ae_s 21, ae_s 22, ae_s 23, ae_s 24, ae_s 25, ae_s 26, ae_s 27], [], [])
def xT_14 : xT := ([([(2, (-1))], 0), ([(2, 1)], (-999))], [ae_k 1, ae_k 3, ae_s 2], ae_s 11, [ae_s 3, ae_s 4, ae_s 5, ae_s 6, ae_s 7, ae_s 8, ae_s 9, ae_s 10, ae_s 2, ae_s 12, ae_s 13, ae_s 14, ae_s 15, ae_s 16, ae_s 17, ae_s 18, ae_s 2, ae_s 20, ae_s 21, ae_s 22, ae_s 23, ae_s 24, ae_s 25, ae_s 26, ae_s 27], [], [])
def xT_15 : xT := ([([(2, (-1))], 0), ([(2, 1)], (-999))], [ae_k 1, ae_k 4, ae_s 2], ae_s 12, [ae_s 3, ae_s 4, ae_s 5, ae_s 6, ae_s 7, ae_s 8, ae_s 9, ae_s 10, ae_s 11, ae_s 2, ae_s 13, ae_s 14, ae_s 15, ae_s 16, ae_s 17, ae_s 18, ae_s 19, ae_s 20, ae_s 21, ae_s 22, ae_s 23, ae_s 2, ae_s 25, ae_s 26, ae_s 27], [], [])
def xT_16 : xT := ([([(2, (-1))], 0), ([(2, 1)], (-999))], [ae_k 2, ae_k 0, ae_s 2], ae_s 13, [ae_s 3, ae_s 4, ae_s 2, ae_s 6, ae_s 7, ae_s 8, ae_s 9, ae_s 10, ae_s 11, ae_s 12, ae_s 2, ae_s 14, ae_s 15, ae_s 16, ae_s 17, ae_s 18, ae_s 19, ae_s 20, ae_s 21, ae_s 22, ae_s 23, ae_s 24, ae_s 25, ae_s 26, ae_s 27], [], [])
def xT_17 : xT := ([([(2, (-1))], 0), ([(2, 1)], (-999))], [ae_k 2, ae_k 1, ae_s 2], ae_s 14, [ae_s 3, ae_s 4, ae_s 5, ae_s 6, ae_s 7, ae_s 8, ae_s 9, ae_s 2, ae_s 11, ae_s 12, ae_s 13, ae_s 2, ae_s 15, ae_s 16, ae_s 17, ae_s 18, ae_s 19, ae_s 20, ae_s 21, ae_s 22, ae_s 23, ae_s 24, ae_s 25, ae_s 26, ae_s 27], [], [])
def xT_18 : xT := ([([(2, (-1))], 0), ([(2, 1)], (-999))], [ae_k 2, ae_k 2, ae_s 2], ae_k (-1), [ae_s 3, ae_s 4, ae_s 5, ae_s 6, ae_s 7, ae_s 8, ae_s 9, ae_s 10, ae_s 11, ae_s 12, ae_s 13, ae_s 14, ae_s 15, ae_s 16, ae_s 17, ae_s 18, ae_s 19, ae_s 20, ae_s 21, ae_s 22, ae_s 23, ae_s 24, ae_s 25, ae_s 26, ae_s 27], [], [])
def xT_19 : xT := ([([(2, (-1))], 0), ([(2, 1)], (-999))], [ae_k 2, ae_k 3, ae_s 2], ae_s 16, [ae_s 3, ae_s 4, ae_s 5, ae_s 6, ae_s 7, ae_s 8, ae_s 9, ae_s 10, ae_s 11, ae_s 12, ae_s 13, ae_s 14, ae_s 15, ae_s 2, ae_s 17, ae_s 18, ae_s 19, ae_s 2, ae_s 21, ae_s 22, ae_s 23, ae_s 24, ae_s 25, ae_s 26, ae_s 27], [], [])
def xT_20 : xT := ([([(2, (-1))], 0), ([(2, 1)], (-999))], [ae_k 2, ae_k 4, ae_s 2], ae_s 17, [ae_s 3, ae_s 4, ae_s 5, ae_s 6, ae_s 7, ae_s 8, ae_s 9, ae_s 10, ae_s 11, ae_s 12, ae_s 13, ae_s 14, ae_s 15, ae_s 16, ae_s 2, ae_s 18, ae_s 19, ae_s 20, ae_s 21, ae_s 22, ae_s 23, ae_s 24, ae_s 2, ae_s 26, ae_s 27], [], [])
def xT_21 : xT := ([([(2, (-1))], 0), ([(2, 1)], (-999))], [ae_k 3, ae_k 0, ae_s 2], ae_s 18, [ae_s 3, ae_s 4, ae_s 5, ae_s 2, ae_s 7, ae_s 8, ae_s 9, ae_s 10, ae_s 11, ae_s 12, ae_s 13, ae_s 14, ae_s 15, ae_s 16, ae_s 17, ae_s 2, ae_s 19, ae_s 20, ae_s 21, ae_s 22, ae_s 23, ae_s 24, ae_s 25, ae_s 26, ae_s 27], [], [])
def xT_22 : xT := ([([(2, (-1))], 0), ([(2, 1)], (-999))], [ae_k 3, ae_k 1, ae_s 2], ae_s 19, [ae_s 3, ae_s 4, ae_s 5, ae_s 6, ae_s 7, ae_s 8, ae_s 9, ae_s 10, ae_s 2, ae_s 12, ae_s 13, ae_s 14, ae_s 15, ae_s 16, ae_s 17, ae_s 18, ae_s 2, ae_s 20, ae_s 21, ae_s 22, ae_s 23, ae_s 24, ae_s 25, ae_s 26, ae_s 27], [], [])
def xT_23 : xT := ([([(2, (-1))], 0), ([(2, 1)], (-999))], [ae_k 3, ae_k 2, ae_s 2], ae_s 20, [ae_s 3, ae_s 4, ae_s 5, ae_s 6, ae_s 7, ae_s 8, ae_s 9, ae_s 10, ae_s 11, ae_s 12, ae_s 13, ae_s 14, ae_s 15, ae_s 2, ae_s 17, ae_s 18, ae_s 19, ae_s 2, ae_s 21, ae_s 22, ae_s 23, ae_s 24, ae_s 25, ae_s 26, ae_s 27], [], [])
def xT_24 : xT := ([([(2, (-1))], 0), ([(2, 1)], (-999))], [ae_k 3, ae_k 3, ae_s 2], ae_k (-1), [ae_s 3, ae_s 4, ae_s 5, ae_s 6, ae_s 7, ae_s 8, ae_s 9, ae_s 10, ae_s 11, ae_s 12, ae_s 13, ae_s 14, ae_s 15, ae_s 16, ae_s 17, ae_s 18, ae_s 19, ae_s 20, ae_s 21, ae_s 22, ae_s 23, ae_s 24, ae_s 25, ae_s 26, ae_s 27], [], [])
def xT_25 : xT := ([([(2, (-1))], 0), ([(2, 1)], (-999))], [ae_k 3, ae_k 4, ae_s 2], ae_s 22, [ae_s 3, ae_s 4, ae_s 5, ae_s 6, ae_s 7, ae_s 8, ae_s 9, ae_s 10, ae_s 11, ae_s 12, ae_s 13, ae_s 14, ae_s 15, ae_s 16, ae_s 17, ae_s 18, ae_s 19, ae_s 20, ae_s 21, ae_s 2, ae_s 23, ae_s 24, ae_s 25, ae_s 2, ae_s 27], [], [])
def xT_26 : xT := ([([(2, (-1))], 0), ([(2, 1)], (-999))], [ae_k 4, ae_k 0, ae_s 2], ae_s 23, [ae_s 3, ae_s 4, ae_s 5, ae_s 6, ae_s 2, ae_s 8, ae_s 9, ae_s 10, ae_s 11, ae_s 12, ae_s 13, ae_s 14, ae_s 15, ae_s 16, ae_s 17, ae_s 18, ae_s 19, ae_s 20, ae_s 21, ae_s 22, ae_s 2, ae_s 24, ae_s 25, ae_s 26, ae_s 27], [], [])
def xT_27 : xT := ([([(2, (-1))], 0), ([(2, 1)], (-999))], [ae_k 4, ae_k 1, ae_s 2], ae_s 24, [ae_s 3, ae_s 4, ae_s 5, ae_s 6, ae_s 7, ae_s 8, ae_s 9, ae_s 10, ae_s 11, ae_s 2, ae_s 13, ae_s 14, ae_s 15, ae_s 16, ae_s 17, ae_s 18, ae_s 19, ae_s 20, ae_s 21, ae_s 22, ae_s 23, ae_s 2, ae_s 25, ae_s 26, ae_s 27], [], [])
def xT_28 : xT := ([([(2, (-1))], 0), ([(2, 1)], (-999))], [ae_k 4, ae_k 2, ae_s 2], ae_s 25, [ae_s 3, ae_s 4, ae_s 5, ae_s 6, ae_s 7, ae_s 8, ae_s 9, ae_s 10, ae_s 11, ae_s 12, ae_s 13, ae_s 14, ae_s 15, ae_s 16, ae_s 2, ae_s 18, ae_s 19, ae_s 20, ae_s 21, ae_s 22, ae_s 23, ae_s 24, ae_s 2, ae_s 26, ae_s 27], [], [])
def xT_29 : xT := ([([(2, (-1))], 0), ([(2, 1)], (-999))], [ae_k 4, ae_k 3, ae_s 2], ae_s 26, [ae_s 3, ae_s 4, ae_s 5, ae_s 6, ae_s 7, ae_s 8, ae_s 9, ae_s 10, ae_s 11, ae_s 12, ae_s 13, ae_s 14, ae_s 15, ae_s 16, ae_s 17, ae_s 18, ae_s 19, ae_s 20, ae_s 21, ae_s 2, ae_s 23, ae_s 24, ae_s 25, ae_s 2, ae_s 27], [], [])
def xT_30 : xT := ([([(2, (-1))], 0), ([(2, 1)], (-999))], [ae_k 4, ae_k 4, ae_s 2], ae_k (-1), [ae_s 3, ae_s 4, ae_s 5, ae_s 6, ae_s 7, ae_s 8, ae_s 9, ae_s 10, ae_s 11, ae_s 12, ae_s 13, ae_s 14, ae_s 15, ae_s 16, ae_s 17, ae_s 18, ae_s 19, ae_s 20, ae_s 21, ae_s 22, ae_s 23, ae_s 24, ae_s 25, ae_s 26, ae_s 27], [], [])
def xTs_0 : List xT := [xT_0, xT_1, xT_2, xT_3, xT_4, xT_5, xT_6, xT_7]
def xTs_1 : List xT := [xT_8, xT_9, xT_10, xT_11, xT_12, xT_13, xT_14, xT_15]
def xTs_2 : List xT := [xT_16, xT_17, xT_18, xT_19, xT_20, xT_21, xT_22, xT_23]
def xTs_3 : List xT := [xT_24, xT_25, xT_26, xT_27, xT_28, xT_29, xT_30]
def xTs : List xT := xTs_0 ++ (xTs_1 ++ (xTs_2 ++ (xTs_3)))
def xcs : List aCon := []
def xrs : List aCon := []
def xOk (t : xT) : Bool := ak_inst (aG00 xcs) 100000 (xC 109 0 (jCc 0) xMc 2 t t.2.2.2.2.1) && ak_inst (aG00 xrs) 100000 (xC 259 99 jCr xMr 2 t t.2.2.2.2.2) && t.1.all (fun f => f.1.all (fun q => decide (q.1 < 28))) && t.2.1.all (fun f => f.1.all (fun q => decide (q.1 < 28))) && decide (t.2.2.2.1.length = jLv.length) && (jLv.zip t.2.2.2.1).all (fun p => aP_in (xE, t.1, [], [], []) p.1.2.2.2.2.2.1 p.1.2.2.2.2.2.2 p.2 && p.2.1.all (fun q => decide (q.1 < 28)))
section
set_option maxRecDepth 100000
theorem xk_0 : xTs_0.all xOk = true := by decide +kernel
theorem xk_1 : xTs_1.all xOk = true := by decide +kernel
theorem xk_2 : xTs_2.all xOk = true := by decide +kernel
theorem xk_3 : xTs_3.all xOk = true := by decide +kernel
theorem xE_len : xE.length = 28 := by decide +kernel
theorem lp_g : (la_ldc 1288 1 && la_ldc 1293 2 && la_ldc 1298 3 && la_ldc 1307 1 && la_ldc 1312 2 && la_ldc 1317 3) = true := by decide +kernel
theorem lx_1 : decode (mj_b 320) 1287 = .ok (.aload_n 1, 1) := by decide +kernel
theorem lx_2 : decode (mj_b 320) 1306 = .ok (.aload_n 2, 1) := by decide +kernel
theorem lx_3 : decode (mj_b 320) 1325 = .ok (.if_icmp .eq 892, 3) := by decide +kernel

end
section SIDES
variable {al : List Nat} {ws w w2 : va_W} {L : Nat} {i : Int} {ρ : List Int}
theorem xk : ∀ t ∈ xTs, xOk t = true := by
  unfold xTs
  exact List.forall_mem_append.mpr ⟨List.all_eq_true.mp xk_0, List.forall_mem_append.mpr ⟨List.all_eq_true.mp xk_1, List.forall_mem_append.mpr ⟨List.all_eq_true.mp xk_2, List.all_eq_true.mp xk_3⟩⟩⟩
theorem xcs_ok (hf : E.2.2.2.1.category = 1) (hT : ∀ σ : List Int, aTb E σ aTabs) : ∀ c ∈ xcs, aCO E al (aG00 []) jJ0 c := by
  have h_0 : ∀ c ∈ ([] : List aCon), aCO E al (aG00 []) jJ0 c := fun c hc => by cases hc
  exact h_0
theorem xrs_ok (hf : E.2.2.2.1.category = 1) (hT : ∀ σ : List Int, aTb E σ aTabs) : ∀ c ∈ xrs, aCO E al (aG00 []) jJ0 c := by
  have h_0 : ∀ c ∈ ([] : List aCon), aCO E al (aG00 []) jJ0 c := fun c hc => by cases hc
  exact h_0
/-- a side's call, by a template -/
theorem x_mj (hf : E.2.2.2.1.category = 1) (hT : ∀ σ : List Int, aTb E σ aTabs) {y self : Nat} {cells : List (Nat × Nat)} {md : List Nat} {dep : Nat} {t : xT} {cuts : List aCut} {cs : List aCon} (hcs : ∀ c ∈ cs, aCO E al (aG00 []) jJ0 c) (hy : y < mj_lawNo) (hk : ak_inst (aG00 cs) 100000 (xC y self cells md dep t cuts) = true) (hd : dep ≤ 85)
    (a5 : aWd E al aLay ws) (a6 : aRs aRules ws) (a7 : jJ0 ws) (he : aEv ρ xE) (hfs : aFs ρ t.1) (hl : cells.length = jLv.length) (hcell : ∀ (k : Nat) (c : Nat × Nat), cells[k]? = some c → c.1 < 1000000 ∧ ρ[3 + k]? = some (jS ws c.1 c.2) ∧ aSl ws c.1 c.2 (jS ws c.1 c.2)) {AS : List Value} (ha : gL E al ρ (.inr (0, self) :: t.2.1.map .inl) AS) :
    MJ E 85 0 0 (mj_in0 y AS ws) (fun v w => ∃ z : Int32, v = some (.int z) ∧ z.toInt = ae_ev ρ t.2.2.1 ∧ aWd E al aLay w ∧ aRs aRules w ∧ jJ0 w ∧ hD md ws w ∧ ∀ (k : Nat) (c : Nat × Nat) (e : ae), cells[k]? = some c → t.2.2.2.1[k]? = some e → jS w c.1 c.2 = ae_ev ρ e) := by
  have kn : aHh ρ ws (jHe cells (jSs 3)) := by
    refine jHe_ok (fun k c e h1 h2 => ?_)
    obtain ⟨g1, g2, g3⟩ := hcell k c h1
    obtain ⟨hlt, rfl⟩ := jSs_of h2
    refine ⟨g1, ?_, ?_⟩
    · have := (List.getElem?_eq_some_iff.mp g2).1
      simpa [ae_s] using this
    · rw [ev_s g2]
      exact g3
  refine (ai00L hf hT hcs (q := xC y self cells md dep t cuts) hy hk ρ AS ws he hfs ha kn a5 a6 a7 85 hd).weaken (Nat.le_refl _) (Nat.le_refl _) (Nat.le_refl _) (fun v w h => ?_)
  obtain ⟨cs', hcs', r, h1, h2, h3, h4, h5, h6, h7, h8, h9⟩ := h
  have hcs' := List.mem_singleton.mp hcs'
  subst hcs'
  have hr : r = [] := by
    have e1 := h1.1
    have e2 := he.1
    have e3 : (ρ ++ r).length = (xE ++ []).length := e1
    rw [List.length_append, List.append_nil] at e3
    exact List.eq_nil_of_length_eq_zero (by omega)
  subst hr
  rw [List.append_nil] at h3 h4
  obtain ⟨u, rfl, z, rfl, hz⟩ := h3
  refine ⟨z, rfl, hz.ev, h5, h6, h7, ⟨h8, fun k hk => h9 k hk⟩, fun k c e hc he => ?_⟩
  exact jHe_get h4 (jHe_mem hc he) (hcell k c hc).1
theorem x_cv_0 {S : List Int} (a1 a2 a3 : Int) (h : a1 ≤ (-1)) : ∃ t ∈ xTs, (∀ f ∈ t.1, ae_ev ([a1, a2, a3] ++ S) f ≤ 0) ∧ t.2.1.map (ae_ev ([a1, a2, a3] ++ S)) = [a1, a2, a3] := by
  have e0 : ([a1, a2, a3] ++ S).getD 0 0 = a1 := rfl
  have e1 : ([a1, a2, a3] ++ S).getD 1 0 = a2 := rfl
  have e2 : ([a1, a2, a3] ++ S).getD 2 0 = a3 := rfl
  refine ⟨xT_0, List.mem_of_getElem? (i := 0) (by rfl), fun f hf => ?_, ?_⟩
  · simp only [xT_0, List.mem_cons, List.not_mem_nil, or_false] at hf
    rcases hf with rfl <;> (simp only [ae_ev, ae_el, ae_s, ae_k, e0, e1, e2]; omega)
  · simp only [xT_0, List.map_cons, List.map_nil, ae_ev, ae_el, ae_s, ae_k, e0, e1, e2, List.cons.injEq, and_true]
    omega
theorem x_cv_1 {S : List Int} (a1 a2 a3 : Int) (h : 5 ≤ a1) : ∃ t ∈ xTs, (∀ f ∈ t.1, ae_ev ([a1, a2, a3] ++ S) f ≤ 0) ∧ t.2.1.map (ae_ev ([a1, a2, a3] ++ S)) = [a1, a2, a3] := by
  have e0 : ([a1, a2, a3] ++ S).getD 0 0 = a1 := rfl
  have e1 : ([a1, a2, a3] ++ S).getD 1 0 = a2 := rfl
  have e2 : ([a1, a2, a3] ++ S).getD 2 0 = a3 := rfl
  refine ⟨xT_1, List.mem_of_getElem? (i := 1) (by rfl), fun f hf => ?_, ?_⟩
  · simp only [xT_1, List.mem_cons, List.not_mem_nil, or_false] at hf
    rcases hf with rfl <;> (simp only [ae_ev, ae_el, ae_s, ae_k, e0, e1, e2]; omega)
  · simp only [xT_1, List.map_cons, List.map_nil, ae_ev, ae_el, ae_s, ae_k, e0, e1, e2, List.cons.injEq, and_true]
    omega
theorem x_cv_2 {S : List Int} (a1 a2 a3 : Int) (h : a2 ≤ (-1)) : ∃ t ∈ xTs, (∀ f ∈ t.1, ae_ev ([a1, a2, a3] ++ S) f ≤ 0) ∧ t.2.1.map (ae_ev ([a1, a2, a3] ++ S)) = [a1, a2, a3] := by
  have e0 : ([a1, a2, a3] ++ S).getD 0 0 = a1 := rfl
  have e1 : ([a1, a2, a3] ++ S).getD 1 0 = a2 := rfl
  have e2 : ([a1, a2, a3] ++ S).getD 2 0 = a3 := rfl
  refine ⟨xT_2, List.mem_of_getElem? (i := 2) (by rfl), fun f hf => ?_, ?_⟩
  · simp only [xT_2, List.mem_cons, List.not_mem_nil, or_false] at hf
    rcases hf with rfl <;> (simp only [ae_ev, ae_el, ae_s, ae_k, e0, e1, e2]; omega)
  · simp only [xT_2, List.map_cons, List.map_nil, ae_ev, ae_el, ae_s, ae_k, e0, e1, e2, List.cons.injEq, and_true]
    omega
theorem x_cv_3 {S : List Int} (a1 a2 a3 : Int) (h : 5 ≤ a2) : ∃ t ∈ xTs, (∀ f ∈ t.1, ae_ev ([a1, a2, a3] ++ S) f ≤ 0) ∧ t.2.1.map (ae_ev ([a1, a2, a3] ++ S)) = [a1, a2, a3] := by
  have e0 : ([a1, a2, a3] ++ S).getD 0 0 = a1 := rfl
  have e1 : ([a1, a2, a3] ++ S).getD 1 0 = a2 := rfl
  have e2 : ([a1, a2, a3] ++ S).getD 2 0 = a3 := rfl
  refine ⟨xT_3, List.mem_of_getElem? (i := 3) (by rfl), fun f hf => ?_, ?_⟩
  · simp only [xT_3, List.mem_cons, List.not_mem_nil, or_false] at hf
    rcases hf with rfl <;> (simp only [ae_ev, ae_el, ae_s, ae_k, e0, e1, e2]; omega)
  · simp only [xT_3, List.map_cons, List.map_nil, ae_ev, ae_el, ae_s, ae_k, e0, e1, e2, List.cons.injEq, and_true]
    omega
theorem x_cv_4 {S : List Int} (a1 a2 a3 : Int) (h : a3 ≤ (-1)) : ∃ t ∈ xTs, (∀ f ∈ t.1, ae_ev ([a1, a2, a3] ++ S) f ≤ 0) ∧ t.2.1.map (ae_ev ([a1, a2, a3] ++ S)) = [a1, a2, a3] := by
  have e0 : ([a1, a2, a3] ++ S).getD 0 0 = a1 := rfl
  have e1 : ([a1, a2, a3] ++ S).getD 1 0 = a2 := rfl
  have e2 : ([a1, a2, a3] ++ S).getD 2 0 = a3 := rfl
  refine ⟨xT_4, List.mem_of_getElem? (i := 4) (by rfl), fun f hf => ?_, ?_⟩
  · simp only [xT_4, List.mem_cons, List.not_mem_nil, or_false] at hf
    rcases hf with rfl <;> (simp only [ae_ev, ae_el, ae_s, ae_k, e0, e1, e2]; omega)
  · simp only [xT_4, List.map_cons, List.map_nil, ae_ev, ae_el, ae_s, ae_k, e0, e1, e2, List.cons.injEq, and_true]
    omega
theorem x_cv_5 {S : List Int} (a1 a2 a3 : Int) (h : 1000 ≤ a3) : ∃ t ∈ xTs, (∀ f ∈ t.1, ae_ev ([a1, a2, a3] ++ S) f ≤ 0) ∧ t.2.1.map (ae_ev ([a1, a2, a3] ++ S)) = [a1, a2, a3] := by
  have e0 : ([a1, a2, a3] ++ S).getD 0 0 = a1 := rfl
  have e1 : ([a1, a2, a3] ++ S).getD 1 0 = a2 := rfl
  have e2 : ([a1, a2, a3] ++ S).getD 2 0 = a3 := rfl
  refine ⟨xT_5, List.mem_of_getElem? (i := 5) (by rfl), fun f hf => ?_, ?_⟩
  · simp only [xT_5, List.mem_cons, List.not_mem_nil, or_false] at hf
    rcases hf with rfl <;> (simp only [ae_ev, ae_el, ae_s, ae_k, e0, e1, e2]; omega)
  · simp only [xT_5, List.map_cons, List.map_nil, ae_ev, ae_el, ae_s, ae_k, e0, e1, e2, List.cons.injEq, and_true]
    omega
theorem x_cv_6 {S : List Int} (a1 a2 a3 : Int) (h : a1 = 0 ∧ a2 = 0 ∧ 0 ≤ a3 ∧ a3 ≤ 999) : ∃ t ∈ xTs, (∀ f ∈ t.1, ae_ev ([a1, a2, a3] ++ S) f ≤ 0) ∧ t.2.1.map (ae_ev ([a1, a2, a3] ++ S)) = [a1, a2, a3] := by
  have e0 : ([a1, a2, a3] ++ S).getD 0 0 = a1 := rfl
  have e1 : ([a1, a2, a3] ++ S).getD 1 0 = a2 := rfl
  have e2 : ([a1, a2, a3] ++ S).getD 2 0 = a3 := rfl
  refine ⟨xT_6, List.mem_of_getElem? (i := 6) (by rfl), fun f hf => ?_, ?_⟩
  · simp only [xT_6, List.mem_cons, List.not_mem_nil, or_false] at hf
    rcases hf with rfl | rfl <;> (simp only [ae_ev, ae_el, ae_s, ae_k, e0, e1, e2]; omega)
  · simp only [xT_6, List.map_cons, List.map_nil, ae_ev, ae_el, ae_s, ae_k, e0, e1, e2, List.cons.injEq, and_true]
    omega
theorem x_cv_7 {S : List Int} (a1 a2 a3 : Int) (h : a1 = 0 ∧ a2 = 1 ∧ 0 ≤ a3 ∧ a3 ≤ 999) : ∃ t ∈ xTs, (∀ f ∈ t.1, ae_ev ([a1, a2, a3] ++ S) f ≤ 0) ∧ t.2.1.map (ae_ev ([a1, a2, a3] ++ S)) = [a1, a2, a3] := by
  have e0 : ([a1, a2, a3] ++ S).getD 0 0 = a1 := rfl
  have e1 : ([a1, a2, a3] ++ S).getD 1 0 = a2 := rfl
  have e2 : ([a1, a2, a3] ++ S).getD 2 0 = a3 := rfl
  refine ⟨xT_7, List.mem_of_getElem? (i := 7) (by rfl), fun f hf => ?_, ?_⟩
  · simp only [xT_7, List.mem_cons, List.not_mem_nil, or_false] at hf
    rcases hf with rfl | rfl <;> (simp only [ae_ev, ae_el, ae_s, ae_k, e0, e1, e2]; omega)
  · simp only [xT_7, List.map_cons, List.map_nil, ae_ev, ae_el, ae_s, ae_k, e0, e1, e2, List.cons.injEq, and_true]
    omega
theorem x_cv_8 {S : List Int} (a1 a2 a3 : Int) (h : a1 = 0 ∧ a2 = 2 ∧ 0 ≤ a3 ∧ a3 ≤ 999) : ∃ t ∈ xTs, (∀ f ∈ t.1, ae_ev ([a1, a2, a3] ++ S) f ≤ 0) ∧ t.2.1.map (ae_ev ([a1, a2, a3] ++ S)) = [a1, a2, a3] := by
  have e0 : ([a1, a2, a3] ++ S).getD 0 0 = a1 := rfl
  have e1 : ([a1, a2, a3] ++ S).getD 1 0 = a2 := rfl
  have e2 : ([a1, a2, a3] ++ S).getD 2 0 = a3 := rfl
  refine ⟨xT_8, List.mem_of_getElem? (i := 8) (by rfl), fun f hf => ?_, ?_⟩
  · simp only [xT_8, List.mem_cons, List.not_mem_nil, or_false] at hf
    rcases hf with rfl | rfl <;> (simp only [ae_ev, ae_el, ae_s, ae_k, e0, e1, e2]; omega)
  · simp only [xT_8, List.map_cons, List.map_nil, ae_ev, ae_el, ae_s, ae_k, e0, e1, e2, List.cons.injEq, and_true]
    omega
theorem x_cv_9 {S : List Int} (a1 a2 a3 : Int) (h : a1 = 0 ∧ a2 = 3 ∧ 0 ≤ a3 ∧ a3 ≤ 999) : ∃ t ∈ xTs, (∀ f ∈ t.1, ae_ev ([a1, a2, a3] ++ S) f ≤ 0) ∧ t.2.1.map (ae_ev ([a1, a2, a3] ++ S)) = [a1, a2, a3] := by
  have e0 : ([a1, a2, a3] ++ S).getD 0 0 = a1 := rfl
  have e1 : ([a1, a2, a3] ++ S).getD 1 0 = a2 := rfl
  have e2 : ([a1, a2, a3] ++ S).getD 2 0 = a3 := rfl
  refine ⟨xT_9, List.mem_of_getElem? (i := 9) (by rfl), fun f hf => ?_, ?_⟩
  · simp only [xT_9, List.mem_cons, List.not_mem_nil, or_false] at hf
    rcases hf with rfl | rfl <;> (simp only [ae_ev, ae_el, ae_s, ae_k, e0, e1, e2]; omega)
  · simp only [xT_9, List.map_cons, List.map_nil, ae_ev, ae_el, ae_s, ae_k, e0, e1, e2, List.cons.injEq, and_true]
    omega
theorem x_cv_10 {S : List Int} (a1 a2 a3 : Int) (h : a1 = 0 ∧ a2 = 4 ∧ 0 ≤ a3 ∧ a3 ≤ 999) : ∃ t ∈ xTs, (∀ f ∈ t.1, ae_ev ([a1, a2, a3] ++ S) f ≤ 0) ∧ t.2.1.map (ae_ev ([a1, a2, a3] ++ S)) = [a1, a2, a3] := by
  have e0 : ([a1, a2, a3] ++ S).getD 0 0 = a1 := rfl
  have e1 : ([a1, a2, a3] ++ S).getD 1 0 = a2 := rfl
  have e2 : ([a1, a2, a3] ++ S).getD 2 0 = a3 := rfl
  refine ⟨xT_10, List.mem_of_getElem? (i := 10) (by rfl), fun f hf => ?_, ?_⟩
  · simp only [xT_10, List.mem_cons, List.not_mem_nil, or_false] at hf
    rcases hf with rfl | rfl <;> (simp only [ae_ev, ae_el, ae_s, ae_k, e0, e1, e2]; omega)
  · simp only [xT_10, List.map_cons, List.map_nil, ae_ev, ae_el, ae_s, ae_k, e0, e1, e2, List.cons.injEq, and_true]
    omega
theorem x_cv_11 {S : List Int} (a1 a2 a3 : Int) (h : a1 = 1 ∧ a2 = 0 ∧ 0 ≤ a3 ∧ a3 ≤ 999) : ∃ t ∈ xTs, (∀ f ∈ t.1, ae_ev ([a1, a2, a3] ++ S) f ≤ 0) ∧ t.2.1.map (ae_ev ([a1, a2, a3] ++ S)) = [a1, a2, a3] := by
  have e0 : ([a1, a2, a3] ++ S).getD 0 0 = a1 := rfl
  have e1 : ([a1, a2, a3] ++ S).getD 1 0 = a2 := rfl
  have e2 : ([a1, a2, a3] ++ S).getD 2 0 = a3 := rfl
  refine ⟨xT_11, List.mem_of_getElem? (i := 11) (by rfl), fun f hf => ?_, ?_⟩
  · simp only [xT_11, List.mem_cons, List.not_mem_nil, or_false] at hf
    rcases hf with rfl | rfl <;> (simp only [ae_ev, ae_el, ae_s, ae_k, e0, e1, e2]; omega)
  · simp only [xT_11, List.map_cons, List.map_nil, ae_ev, ae_el, ae_s, ae_k, e0, e1, e2, List.cons.injEq, and_true]
    omega
theorem x_cv_12 {S : List Int} (a1 a2 a3 : Int) (h : a1 = 1 ∧ a2 = 1 ∧ 0 ≤ a3 ∧ a3 ≤ 999) : ∃ t ∈ xTs, (∀ f ∈ t.1, ae_ev ([a1, a2, a3] ++ S) f ≤ 0) ∧ t.2.1.map (ae_ev ([a1, a2, a3] ++ S)) = [a1, a2, a3] := by
  have e0 : ([a1, a2, a3] ++ S).getD 0 0 = a1 := rfl
  have e1 : ([a1, a2, a3] ++ S).getD 1 0 = a2 := rfl
  have e2 : ([a1, a2, a3] ++ S).getD 2 0 = a3 := rfl
  refine ⟨xT_12, List.mem_of_getElem? (i := 12) (by rfl), fun f hf => ?_, ?_⟩
  · simp only [xT_12, List.mem_cons, List.not_mem_nil, or_false] at hf
    rcases hf with rfl | rfl <;> (simp only [ae_ev, ae_el, ae_s, ae_k, e0, e1, e2]; omega)
  · simp only [xT_12, List.map_cons, List.map_nil, ae_ev, ae_el, ae_s, ae_k, e0, e1, e2, List.cons.injEq, and_true]
    omega
theorem x_cv_13 {S : List Int} (a1 a2 a3 : Int) (h : a1 = 1 ∧ a2 = 2 ∧ 0 ≤ a3 ∧ a3 ≤ 999) : ∃ t ∈ xTs, (∀ f ∈ t.1, ae_ev ([a1, a2, a3] ++ S) f ≤ 0) ∧ t.2.1.map (ae_ev ([a1, a2, a3] ++ S)) = [a1, a2, a3] := by
  have e0 : ([a1, a2, a3] ++ S).getD 0 0 = a1 := rfl
  have e1 : ([a1, a2, a3] ++ S).getD 1 0 = a2 := rfl
  have e2 : ([a1, a2, a3] ++ S).getD 2 0 = a3 := rfl
  refine ⟨xT_13, List.mem_of_getElem? (i := 13) (by rfl), fun f hf => ?_, ?_⟩
  · simp only [xT_13, List.mem_cons, List.not_mem_nil, or_false] at hf
    rcases hf with rfl | rfl <;> (simp only [ae_ev, ae_el, ae_s, ae_k, e0, e1, e2]; omega)
  · simp only [xT_13, List.map_cons, List.map_nil, ae_ev, ae_el, ae_s, ae_k, e0, e1, e2, List.cons.injEq, and_true]
    omega
theorem x_cv_14 {S : List Int} (a1 a2 a3 : Int) (h : a1 = 1 ∧ a2 = 3 ∧ 0 ≤ a3 ∧ a3 ≤ 999) : ∃ t ∈ xTs, (∀ f ∈ t.1, ae_ev ([a1, a2, a3] ++ S) f ≤ 0) ∧ t.2.1.map (ae_ev ([a1, a2, a3] ++ S)) = [a1, a2, a3] := by
  have e0 : ([a1, a2, a3] ++ S).getD 0 0 = a1 := rfl
  have e1 : ([a1, a2, a3] ++ S).getD 1 0 = a2 := rfl
  have e2 : ([a1, a2, a3] ++ S).getD 2 0 = a3 := rfl
  refine ⟨xT_14, List.mem_of_getElem? (i := 14) (by rfl), fun f hf => ?_, ?_⟩
  · simp only [xT_14, List.mem_cons, List.not_mem_nil, or_false] at hf
    rcases hf with rfl | rfl <;> (simp only [ae_ev, ae_el, ae_s, ae_k, e0, e1, e2]; omega)
  · simp only [xT_14, List.map_cons, List.map_nil, ae_ev, ae_el, ae_s, ae_k, e0, e1, e2, List.cons.injEq, and_true]
    omega
theorem x_cv_15 {S : List Int} (a1 a2 a3 : Int) (h : a1 = 1 ∧ a2 = 4 ∧ 0 ≤ a3 ∧ a3 ≤ 999) : ∃ t ∈ xTs, (∀ f ∈ t.1, ae_ev ([a1, a2, a3] ++ S) f ≤ 0) ∧ t.2.1.map (ae_ev ([a1, a2, a3] ++ S)) = [a1, a2, a3] := by
  have e0 : ([a1, a2, a3] ++ S).getD 0 0 = a1 := rfl
  have e1 : ([a1, a2, a3] ++ S).getD 1 0 = a2 := rfl
  have e2 : ([a1, a2, a3] ++ S).getD 2 0 = a3 := rfl
  refine ⟨xT_15, List.mem_of_getElem? (i := 15) (by rfl), fun f hf => ?_, ?_⟩
  · simp only [xT_15, List.mem_cons, List.not_mem_nil, or_false] at hf
    rcases hf with rfl | rfl <;> (simp only [ae_ev, ae_el, ae_s, ae_k, e0, e1, e2]; omega)
  · simp only [xT_15, List.map_cons, List.map_nil, ae_ev, ae_el, ae_s, ae_k, e0, e1, e2, List.cons.injEq, and_true]
    omega
theorem x_cv_16 {S : List Int} (a1 a2 a3 : Int) (h : a1 = 2 ∧ a2 = 0 ∧ 0 ≤ a3 ∧ a3 ≤ 999) : ∃ t ∈ xTs, (∀ f ∈ t.1, ae_ev ([a1, a2, a3] ++ S) f ≤ 0) ∧ t.2.1.map (ae_ev ([a1, a2, a3] ++ S)) = [a1, a2, a3] := by
  have e0 : ([a1, a2, a3] ++ S).getD 0 0 = a1 := rfl
  have e1 : ([a1, a2, a3] ++ S).getD 1 0 = a2 := rfl
  have e2 : ([a1, a2, a3] ++ S).getD 2 0 = a3 := rfl
  refine ⟨xT_16, List.mem_of_getElem? (i := 16) (by rfl), fun f hf => ?_, ?_⟩
  · simp only [xT_16, List.mem_cons, List.not_mem_nil, or_false] at hf
    rcases hf with rfl | rfl <;> (simp only [ae_ev, ae_el, ae_s, ae_k, e0, e1, e2]; omega)
  · simp only [xT_16, List.map_cons, List.map_nil, ae_ev, ae_el, ae_s, ae_k, e0, e1, e2, List.cons.injEq, and_true]
    omega
theorem x_cv_17 {S : List Int} (a1 a2 a3 : Int) (h : a1 = 2 ∧ a2 = 1 ∧ 0 ≤ a3 ∧ a3 ≤ 999) : ∃ t ∈ xTs, (∀ f ∈ t.1, ae_ev ([a1, a2, a3] ++ S) f ≤ 0) ∧ t.2.1.map (ae_ev ([a1, a2, a3] ++ S)) = [a1, a2, a3] := by
  have e0 : ([a1, a2, a3] ++ S).getD 0 0 = a1 := rfl
  have e1 : ([a1, a2, a3] ++ S).getD 1 0 = a2 := rfl
  have e2 : ([a1, a2, a3] ++ S).getD 2 0 = a3 := rfl
  refine ⟨xT_17, List.mem_of_getElem? (i := 17) (by rfl), fun f hf => ?_, ?_⟩
  · simp only [xT_17, List.mem_cons, List.not_mem_nil, or_false] at hf
    rcases hf with rfl | rfl <;> (simp only [ae_ev, ae_el, ae_s, ae_k, e0, e1, e2]; omega)
  · simp only [xT_17, List.map_cons, List.map_nil, ae_ev, ae_el, ae_s, ae_k, e0, e1, e2, List.cons.injEq, and_true]
    omega
theorem x_cv_18 {S : List Int} (a1 a2 a3 : Int) (h : a1 = 2 ∧ a2 = 2 ∧ 0 ≤ a3 ∧ a3 ≤ 999) : ∃ t ∈ xTs, (∀ f ∈ t.1, ae_ev ([a1, a2, a3] ++ S) f ≤ 0) ∧ t.2.1.map (ae_ev ([a1, a2, a3] ++ S)) = [a1, a2, a3] := by
  have e0 : ([a1, a2, a3] ++ S).getD 0 0 = a1 := rfl
  have e1 : ([a1, a2, a3] ++ S).getD 1 0 = a2 := rfl
  have e2 : ([a1, a2, a3] ++ S).getD 2 0 = a3 := rfl
  refine ⟨xT_18, List.mem_of_getElem? (i := 18) (by rfl), fun f hf => ?_, ?_⟩
  · simp only [xT_18, List.mem_cons, List.not_mem_nil, or_false] at hf
    rcases hf with rfl | rfl <;> (simp only [ae_ev, ae_el, ae_s, ae_k, e0, e1, e2]; omega)
  · simp only [xT_18, List.map_cons, List.map_nil, ae_ev, ae_el, ae_s, ae_k, e0, e1, e2, List.cons.injEq, and_true]
    omega
theorem x_cv_19 {S : List Int} (a1 a2 a3 : Int) (h : a1 = 2 ∧ a2 = 3 ∧ 0 ≤ a3 ∧ a3 ≤ 999) : ∃ t ∈ xTs, (∀ f ∈ t.1, ae_ev ([a1, a2, a3] ++ S) f ≤ 0) ∧ t.2.1.map (ae_ev ([a1, a2, a3] ++ S)) = [a1, a2, a3] := by
  have e0 : ([a1, a2, a3] ++ S).getD 0 0 = a1 := rfl
  have e1 : ([a1, a2, a3] ++ S).getD 1 0 = a2 := rfl
  have e2 : ([a1, a2, a3] ++ S).getD 2 0 = a3 := rfl
  refine ⟨xT_19, List.mem_of_getElem? (i := 19) (by rfl), fun f hf => ?_, ?_⟩
  · simp only [xT_19, List.mem_cons, List.not_mem_nil, or_false] at hf
    rcases hf with rfl | rfl <;> (simp only [ae_ev, ae_el, ae_s, ae_k, e0, e1, e2]; omega)
  · simp only [xT_19, List.map_cons, List.map_nil, ae_ev, ae_el, ae_s, ae_k, e0, e1, e2, List.cons.injEq, and_true]
    omega
theorem x_cv_20 {S : List Int} (a1 a2 a3 : Int) (h : a1 = 2 ∧ a2 = 4 ∧ 0 ≤ a3 ∧ a3 ≤ 999) : ∃ t ∈ xTs, (∀ f ∈ t.1, ae_ev ([a1, a2, a3] ++ S) f ≤ 0) ∧ t.2.1.map (ae_ev ([a1, a2, a3] ++ S)) = [a1, a2, a3] := by
  have e0 : ([a1, a2, a3] ++ S).getD 0 0 = a1 := rfl
  have e1 : ([a1, a2, a3] ++ S).getD 1 0 = a2 := rfl
  have e2 : ([a1, a2, a3] ++ S).getD 2 0 = a3 := rfl
  refine ⟨xT_20, List.mem_of_getElem? (i := 20) (by rfl), fun f hf => ?_, ?_⟩
  · simp only [xT_20, List.mem_cons, List.not_mem_nil, or_false] at hf
    rcases hf with rfl | rfl <;> (simp only [ae_ev, ae_el, ae_s, ae_k, e0, e1, e2]; omega)
  · simp only [xT_20, List.map_cons, List.map_nil, ae_ev, ae_el, ae_s, ae_k, e0, e1, e2, List.cons.injEq, and_true]
    omega
theorem x_cv_21 {S : List Int} (a1 a2 a3 : Int) (h : a1 = 3 ∧ a2 = 0 ∧ 0 ≤ a3 ∧ a3 ≤ 999) : ∃ t ∈ xTs, (∀ f ∈ t.1, ae_ev ([a1, a2, a3] ++ S) f ≤ 0) ∧ t.2.1.map (ae_ev ([a1, a2, a3] ++ S)) = [a1, a2, a3] := by
  have e0 : ([a1, a2, a3] ++ S).getD 0 0 = a1 := rfl
  have e1 : ([a1, a2, a3] ++ S).getD 1 0 = a2 := rfl
  have e2 : ([a1, a2, a3] ++ S).getD 2 0 = a3 := rfl
  refine ⟨xT_21, List.mem_of_getElem? (i := 21) (by rfl), fun f hf => ?_, ?_⟩
  · simp only [xT_21, List.mem_cons, List.not_mem_nil, or_false] at hf
    rcases hf with rfl | rfl <;> (simp only [ae_ev, ae_el, ae_s, ae_k, e0, e1, e2]; omega)
  · simp only [xT_21, List.map_cons, List.map_nil, ae_ev, ae_el, ae_s, ae_k, e0, e1, e2, List.cons.injEq, and_true]
    omega
theorem x_cv_22 {S : List Int} (a1 a2 a3 : Int) (h : a1 = 3 ∧ a2 = 1 ∧ 0 ≤ a3 ∧ a3 ≤ 999) : ∃ t ∈ xTs, (∀ f ∈ t.1, ae_ev ([a1, a2, a3] ++ S) f ≤ 0) ∧ t.2.1.map (ae_ev ([a1, a2, a3] ++ S)) = [a1, a2, a3] := by
  have e0 : ([a1, a2, a3] ++ S).getD 0 0 = a1 := rfl
  have e1 : ([a1, a2, a3] ++ S).getD 1 0 = a2 := rfl
  have e2 : ([a1, a2, a3] ++ S).getD 2 0 = a3 := rfl
  refine ⟨xT_22, List.mem_of_getElem? (i := 22) (by rfl), fun f hf => ?_, ?_⟩
  · simp only [xT_22, List.mem_cons, List.not_mem_nil, or_false] at hf
    rcases hf with rfl | rfl <;> (simp only [ae_ev, ae_el, ae_s, ae_k, e0, e1, e2]; omega)
  · simp only [xT_22, List.map_cons, List.map_nil, ae_ev, ae_el, ae_s, ae_k, e0, e1, e2, List.cons.injEq, and_true]
    omega
theorem x_cv_23 {S : List Int} (a1 a2 a3 : Int) (h : a1 = 3 ∧ a2 = 2 ∧ 0 ≤ a3 ∧ a3 ≤ 999) : ∃ t ∈ xTs, (∀ f ∈ t.1, ae_ev ([a1, a2, a3] ++ S) f ≤ 0) ∧ t.2.1.map (ae_ev ([a1, a2, a3] ++ S)) = [a1, a2, a3] := by
  have e0 : ([a1, a2, a3] ++ S).getD 0 0 = a1 := rfl
  have e1 : ([a1, a2, a3] ++ S).getD 1 0 = a2 := rfl
  have e2 : ([a1, a2, a3] ++ S).getD 2 0 = a3 := rfl
  refine ⟨xT_23, List.mem_of_getElem? (i := 23) (by rfl), fun f hf => ?_, ?_⟩
  · simp only [xT_23, List.mem_cons, List.not_mem_nil, or_false] at hf
    rcases hf with rfl | rfl <;> (simp only [ae_ev, ae_el, ae_s, ae_k, e0, e1, e2]; omega)
  · simp only [xT_23, List.map_cons, List.map_nil, ae_ev, ae_el, ae_s, ae_k, e0, e1, e2, List.cons.injEq, and_true]
    omega
theorem x_cv_24 {S : List Int} (a1 a2 a3 : Int) (h : a1 = 3 ∧ a2 = 3 ∧ 0 ≤ a3 ∧ a3 ≤ 999) : ∃ t ∈ xTs, (∀ f ∈ t.1, ae_ev ([a1, a2, a3] ++ S) f ≤ 0) ∧ t.2.1.map (ae_ev ([a1, a2, a3] ++ S)) = [a1, a2, a3] := by
  have e0 : ([a1, a2, a3] ++ S).getD 0 0 = a1 := rfl
  have e1 : ([a1, a2, a3] ++ S).getD 1 0 = a2 := rfl
  have e2 : ([a1, a2, a3] ++ S).getD 2 0 = a3 := rfl
  refine ⟨xT_24, List.mem_of_getElem? (i := 24) (by rfl), fun f hf => ?_, ?_⟩
  · simp only [xT_24, List.mem_cons, List.not_mem_nil, or_false] at hf
    rcases hf with rfl | rfl <;> (simp only [ae_ev, ae_el, ae_s, ae_k, e0, e1, e2]; omega)
  · simp only [xT_24, List.map_cons, List.map_nil, ae_ev, ae_el, ae_s, ae_k, e0, e1, e2, List.cons.injEq, and_true]
    omega
theorem x_cv_25 {S : List Int} (a1 a2 a3 : Int) (h : a1 = 3 ∧ a2 = 4 ∧ 0 ≤ a3 ∧ a3 ≤ 999) : ∃ t ∈ xTs, (∀ f ∈ t.1, ae_ev ([a1, a2, a3] ++ S) f ≤ 0) ∧ t.2.1.map (ae_ev ([a1, a2, a3] ++ S)) = [a1, a2, a3] := by
  have e0 : ([a1, a2, a3] ++ S).getD 0 0 = a1 := rfl
  have e1 : ([a1, a2, a3] ++ S).getD 1 0 = a2 := rfl
  have e2 : ([a1, a2, a3] ++ S).getD 2 0 = a3 := rfl
  refine ⟨xT_25, List.mem_of_getElem? (i := 25) (by rfl), fun f hf => ?_, ?_⟩
  · simp only [xT_25, List.mem_cons, List.not_mem_nil, or_false] at hf
    rcases hf with rfl | rfl <;> (simp only [ae_ev, ae_el, ae_s, ae_k, e0, e1, e2]; omega)
  · simp only [xT_25, List.map_cons, List.map_nil, ae_ev, ae_el, ae_s, ae_k, e0, e1, e2, List.cons.injEq, and_true]
    omega
theorem x_cv_26 {S : List Int} (a1 a2 a3 : Int) (h : a1 = 4 ∧ a2 = 0 ∧ 0 ≤ a3 ∧ a3 ≤ 999) : ∃ t ∈ xTs, (∀ f ∈ t.1, ae_ev ([a1, a2, a3] ++ S) f ≤ 0) ∧ t.2.1.map (ae_ev ([a1, a2, a3] ++ S)) = [a1, a2, a3] := by
  have e0 : ([a1, a2, a3] ++ S).getD 0 0 = a1 := rfl
  have e1 : ([a1, a2, a3] ++ S).getD 1 0 = a2 := rfl
  have e2 : ([a1, a2, a3] ++ S).getD 2 0 = a3 := rfl
  refine ⟨xT_26, List.mem_of_getElem? (i := 26) (by rfl), fun f hf => ?_, ?_⟩
  · simp only [xT_26, List.mem_cons, List.not_mem_nil, or_false] at hf
    rcases hf with rfl | rfl <;> (simp only [ae_ev, ae_el, ae_s, ae_k, e0, e1, e2]; omega)
  · simp only [xT_26, List.map_cons, List.map_nil, ae_ev, ae_el, ae_s, ae_k, e0, e1, e2, List.cons.injEq, and_true]
    omega
theorem x_cv_27 {S : List Int} (a1 a2 a3 : Int) (h : a1 = 4 ∧ a2 = 1 ∧ 0 ≤ a3 ∧ a3 ≤ 999) : ∃ t ∈ xTs, (∀ f ∈ t.1, ae_ev ([a1, a2, a3] ++ S) f ≤ 0) ∧ t.2.1.map (ae_ev ([a1, a2, a3] ++ S)) = [a1, a2, a3] := by
  have e0 : ([a1, a2, a3] ++ S).getD 0 0 = a1 := rfl
  have e1 : ([a1, a2, a3] ++ S).getD 1 0 = a2 := rfl
  have e2 : ([a1, a2, a3] ++ S).getD 2 0 = a3 := rfl
  refine ⟨xT_27, List.mem_of_getElem? (i := 27) (by rfl), fun f hf => ?_, ?_⟩
  · simp only [xT_27, List.mem_cons, List.not_mem_nil, or_false] at hf
    rcases hf with rfl | rfl <;> (simp only [ae_ev, ae_el, ae_s, ae_k, e0, e1, e2]; omega)
  · simp only [xT_27, List.map_cons, List.map_nil, ae_ev, ae_el, ae_s, ae_k, e0, e1, e2, List.cons.injEq, and_true]
    omega
theorem x_cv_28 {S : List Int} (a1 a2 a3 : Int) (h : a1 = 4 ∧ a2 = 2 ∧ 0 ≤ a3 ∧ a3 ≤ 999) : ∃ t ∈ xTs, (∀ f ∈ t.1, ae_ev ([a1, a2, a3] ++ S) f ≤ 0) ∧ t.2.1.map (ae_ev ([a1, a2, a3] ++ S)) = [a1, a2, a3] := by
  have e0 : ([a1, a2, a3] ++ S).getD 0 0 = a1 := rfl
  have e1 : ([a1, a2, a3] ++ S).getD 1 0 = a2 := rfl
  have e2 : ([a1, a2, a3] ++ S).getD 2 0 = a3 := rfl
  refine ⟨xT_28, List.mem_of_getElem? (i := 28) (by rfl), fun f hf => ?_, ?_⟩
  · simp only [xT_28, List.mem_cons, List.not_mem_nil, or_false] at hf
    rcases hf with rfl | rfl <;> (simp only [ae_ev, ae_el, ae_s, ae_k, e0, e1, e2]; omega)
  · simp only [xT_28, List.map_cons, List.map_nil, ae_ev, ae_el, ae_s, ae_k, e0, e1, e2, List.cons.injEq, and_true]
    omega
theorem x_cv_29 {S : List Int} (a1 a2 a3 : Int) (h : a1 = 4 ∧ a2 = 3 ∧ 0 ≤ a3 ∧ a3 ≤ 999) : ∃ t ∈ xTs, (∀ f ∈ t.1, ae_ev ([a1, a2, a3] ++ S) f ≤ 0) ∧ t.2.1.map (ae_ev ([a1, a2, a3] ++ S)) = [a1, a2, a3] := by
  have e0 : ([a1, a2, a3] ++ S).getD 0 0 = a1 := rfl
  have e1 : ([a1, a2, a3] ++ S).getD 1 0 = a2 := rfl
  have e2 : ([a1, a2, a3] ++ S).getD 2 0 = a3 := rfl
  refine ⟨xT_29, List.mem_of_getElem? (i := 29) (by rfl), fun f hf => ?_, ?_⟩
  · simp only [xT_29, List.mem_cons, List.not_mem_nil, or_false] at hf
    rcases hf with rfl | rfl <;> (simp only [ae_ev, ae_el, ae_s, ae_k, e0, e1, e2]; omega)
  · simp only [xT_29, List.map_cons, List.map_nil, ae_ev, ae_el, ae_s, ae_k, e0, e1, e2, List.cons.injEq, and_true]
    omega
theorem x_cv_30 {S : List Int} (a1 a2 a3 : Int) (h : a1 = 4 ∧ a2 = 4 ∧ 0 ≤ a3 ∧ a3 ≤ 999) : ∃ t ∈ xTs, (∀ f ∈ t.1, ae_ev ([a1, a2, a3] ++ S) f ≤ 0) ∧ t.2.1.map (ae_ev ([a1, a2, a3] ++ S)) = [a1, a2, a3] := by
  have e0 : ([a1, a2, a3] ++ S).getD 0 0 = a1 := rfl
  have e1 : ([a1, a2, a3] ++ S).getD 1 0 = a2 := rfl
  have e2 : ([a1, a2, a3] ++ S).getD 2 0 = a3 := rfl
  refine ⟨xT_30, List.mem_of_getElem? (i := 30) (by rfl), fun f hf => ?_, ?_⟩
  · simp only [xT_30, List.mem_cons, List.not_mem_nil, or_false] at hf
    rcases hf with rfl | rfl <;> (simp only [ae_ev, ae_el, ae_s, ae_k, e0, e1, e2]; omega)
  · simp only [xT_30, List.map_cons, List.map_nil, ae_ev, ae_el, ae_s, ae_k, e0, e1, e2, List.cons.injEq, and_true]
    omega
/-- one of the templates fits -/
theorem x_cov {S : List Int} (a1 a2 a3 : Int) (_hb : ∀ (k : Nat) (b : Int × Int), xE[k]? = some b → b.1 ≤ ([a1, a2, a3] ++ S).getD k 0 ∧ ([a1, a2, a3] ++ S).getD k 0 ≤ b.2) : ∃ t ∈ xTs, (∀ f ∈ t.1, ae_ev ([a1, a2, a3] ++ S) f ≤ 0) ∧ t.2.1.map (ae_ev ([a1, a2, a3] ++ S)) = [a1, a2, a3] := by
  by_cases n0 : a1 ≤ (-1)
  · exact x_cv_0 a1 a2 a3 n0
  by_cases n1 : 5 ≤ a1
  · exact x_cv_1 a1 a2 a3 n1
  by_cases n2 : a2 ≤ (-1)
  · exact x_cv_2 a1 a2 a3 n2
  by_cases n3 : 5 ≤ a2
  · exact x_cv_3 a1 a2 a3 n3
  by_cases n4 : a3 ≤ (-1)
  · exact x_cv_4 a1 a2 a3 n4
  by_cases n5 : 1000 ≤ a3
  · exact x_cv_5 a1 a2 a3 n5
  have v0 : 0 ≤ a3 := by omega
  have v1 : a3 ≤ 999 := by omega
  rcases (by omega : a1 = 0 ∨ a1 = 1 ∨ a1 = 2 ∨ a1 = 3 ∨ a1 = 4) with g0 | g0 | g0 | g0 | g0
  · skip
    rcases (by omega : a2 = 0 ∨ a2 = 1 ∨ a2 = 2 ∨ a2 = 3 ∨ a2 = 4) with g1 | g1 | g1 | g1 | g1
    · skip
      exact x_cv_6 a1 a2 a3 ⟨g0, g1, v0, v1⟩
    · skip
      exact x_cv_7 a1 a2 a3 ⟨g0, g1, v0, v1⟩
    · skip
      exact x_cv_8 a1 a2 a3 ⟨g0, g1, v0, v1⟩
    · skip
      exact x_cv_9 a1 a2 a3 ⟨g0, g1, v0, v1⟩
    · skip
      exact x_cv_10 a1 a2 a3 ⟨g0, g1, v0, v1⟩
  · skip
    rcases (by omega : a2 = 0 ∨ a2 = 1 ∨ a2 = 2 ∨ a2 = 3 ∨ a2 = 4) with g1 | g1 | g1 | g1 | g1
    · skip
      exact x_cv_11 a1 a2 a3 ⟨g0, g1, v0, v1⟩
    · skip
      exact x_cv_12 a1 a2 a3 ⟨g0, g1, v0, v1⟩
    · skip
      exact x_cv_13 a1 a2 a3 ⟨g0, g1, v0, v1⟩
    · skip
      exact x_cv_14 a1 a2 a3 ⟨g0, g1, v0, v1⟩
    · skip
      exact x_cv_15 a1 a2 a3 ⟨g0, g1, v0, v1⟩
  · skip
    rcases (by omega : a2 = 0 ∨ a2 = 1 ∨ a2 = 2 ∨ a2 = 3 ∨ a2 = 4) with g1 | g1 | g1 | g1 | g1
    · skip
      exact x_cv_16 a1 a2 a3 ⟨g0, g1, v0, v1⟩
    · skip
      exact x_cv_17 a1 a2 a3 ⟨g0, g1, v0, v1⟩
    · skip
      exact x_cv_18 a1 a2 a3 ⟨g0, g1, v0, v1⟩
    · skip
      exact x_cv_19 a1 a2 a3 ⟨g0, g1, v0, v1⟩
    · skip
      exact x_cv_20 a1 a2 a3 ⟨g0, g1, v0, v1⟩
  · skip
    rcases (by omega : a2 = 0 ∨ a2 = 1 ∨ a2 = 2 ∨ a2 = 3 ∨ a2 = 4) with g1 | g1 | g1 | g1 | g1
    · skip
      exact x_cv_21 a1 a2 a3 ⟨g0, g1, v0, v1⟩
    · skip
      exact x_cv_22 a1 a2 a3 ⟨g0, g1, v0, v1⟩
    · skip
      exact x_cv_23 a1 a2 a3 ⟨g0, g1, v0, v1⟩
    · skip
      exact x_cv_24 a1 a2 a3 ⟨g0, g1, v0, v1⟩
    · skip
      exact x_cv_25 a1 a2 a3 ⟨g0, g1, v0, v1⟩
  · skip
    rcases (by omega : a2 = 0 ∨ a2 = 1 ∨ a2 = 2 ∨ a2 = 3 ∨ a2 = 4) with g1 | g1 | g1 | g1 | g1
    · skip
      exact x_cv_26 a1 a2 a3 ⟨g0, g1, v0, v1⟩
    · skip
      exact x_cv_27 a1 a2 a3 ⟨g0, g1, v0, v1⟩
    · skip
      exact x_cv_28 a1 a2 a3 ⟨g0, g1, v0, v1⟩
    · skip
      exact x_cv_29 a1 a2 a3 ⟨g0, g1, v0, v1⟩
    · skip
      exact x_cv_30 a1 a2 a3 ⟨g0, g1, v0, v1⟩
set_option maxRecDepth 100000 in
/-- both sides are called, their answers compared -/
theorem la_xH (hf : E.2.2.2.1.category = 1) (hT : ∀ σ : List Int, aTb E σ aTabs) (hL : L ≤ 3584) (hE : (E.2.2.1 2).2.1 = L) (H1 : hOkL E al laG1 (fun _ => True) [(L : Int), i] 2) (h : laI E al L i w) (hj : jJ w) (h7 : i + 7 ≤ L)
    (hq : ∀ w2, laI E al L i w2 → jJ w2 → hG E al 86 320 2217 laLv [] [(L : Int), i] w2 Q) : hG E al 86 320 1287 laLv [] [(L : Int), i] w Q := by
  have lg := lp_g
  simp only [Bool.and_eq_true] at lg
  obtain ⟨⟨⟨⟨⟨q0, q1⟩, q2⟩, q3⟩, q4⟩, q5⟩ := lg
  obtain ⟨jx0, jx1, jx2⟩ := hj.2
  have hx : ∀ k : Int, aI0 ≤ (laX E (i + k)).toInt ∧ (laX E (i + k)).toInt ≤ aI1 := fun k => ⟨i32_lo _, i32_hi _⟩
  have hlen : ([(laX E (i + 1)).toInt, (laX E (i + 2)).toInt, (laX E (i + 3)).toInt] ++ jVs w (jCc 0)).length = 28 := by
    rw [List.length_append, jVs_len, ← xE_len]
    simp [xE] <;> omega
  have he : aEv ([(laX E (i + 1)).toInt, (laX E (i + 2)).toInt, (laX E (i + 3)).toInt] ++ jVs w (jCc 0)) xE := by
    refine ⟨by rw [hlen, xE_len], fun k x b hk hb => ?_⟩
    by_cases hlt : k < 3
    · rw [List.getElem?_append_left (by simpa using hlt)] at hk
      unfold xE at hb
      rw [List.getElem?_append_left (by simpa using hlt), List.getElem?_replicate] at hb
      rw [if_pos hlt] at hb
      cases hb
      match k, hlt, hk with
      | 0, _, hk =>
        cases hk
        exact hx 1
      | 1, _, hk =>
        cases hk
        exact hx 2
      | 2, _, hk =>
        cases hk
        exact hx 3
      | n + 3, hlt, _ => omega
    · rw [List.getElem?_append_right (by simpa using Nat.le_of_not_lt hlt)] at hk
      unfold xE at hb
      rw [List.getElem?_append_right (by simpa using Nat.le_of_not_lt hlt), List.getElem?_map] at hb
      simp only [List.length_cons, List.length_nil, List.length_replicate] at hk hb
      have hl := (List.getElem?_eq_some_iff.mp hk).1
      rw [jVs_len] at hl
      have hq0 := List.getElem?_eq_getElem hl
      have hk2 := jVs_get (w := w) (up := 0) hq0
      rw [hq0] at hb
      cases hb
      have e := Option.some.inj (hk2.symm.trans hk)
      have hm := List.mem_of_getElem? hq0
      rw [← e]
      exact (jx1 _ hm).2
  obtain ⟨t, ht, hfs, hargs⟩ := x_cov (S := jVs w (jCc 0)) (laX E (i + 1)).toInt (laX E (i + 2)).toInt (laX E (i + 3)).toInt (fun k b hb => he.ev hb)
  have kt := xk t ht
  unfold xOk at kt
  simp only [Bool.and_eq_true, decide_eq_true_eq] at kt
  obtain ⟨⟨⟨⟨⟨kc, kr⟩, ks⟩, ka⟩, kl⟩, kb⟩ := kt
  have hfs : aFs ([(laX E (i + 1)).toInt, (laX E (i + 2)).toInt, (laX E (i + 3)).toInt] ++ jVs w (jCc 0)) t.1 := aFs.mk (by rw [hlen]; exact ks) hfs
  have hre : ∀ {AS : List Value} {self : Nat}, gL E al [(L : Int), i] (.inr (0, self) :: [ae_k (laX E (i + 1)).toInt, ae_k (laX E (i + 2)).toInt, ae_k (laX E (i + 3)).toInt].map .inl) AS → gL E al ([(laX E (i + 1)).toInt, (laX E (i + 2)).toInt, (laX E (i + 3)).toInt] ++ jVs w (jCc 0)) (.inr (0, self) :: t.2.1.map .inl) AS := by
    intro AS self ha
    obtain ⟨v, u, rfl, h1, h2⟩ := ha
    refine ⟨v, u, rfl, h1, gL_re ?_ (by rw [hlen]; exact ka) h2⟩
    rw [hargs]
    simp [ae_ev_k]
  refine la_al1 lx_1 ?_
  refine la_arg q0 (by decide) hL hE ⟨h.1.1, h7⟩ ?_
  refine la_arg q1 (by decide) hL hE ⟨h.1.1, h7⟩ ?_
  refine la_arg q2 (by decide) hL hE ⟨h.1.1, h7⟩ ?_
  refine law_callV (d := 85) (y2 := 109) (as := [.inr (0, 0), .inl (ae_k (laX E (i + 1)).toInt), .inl (ae_k (laX E (i + 2)).toInt), .inl (ae_k (laX E (i + 3)).toInt)]) (rest := []) mj_li_law H1 (by rfl) (h.hW hL) (fun AS ha => x_mj hf hT (xcs_ok hf hT) (by decide) kc (by decide) h.2.1 h.2.2 hj.1 he hfs (by simp [jCc]) (fun k c hc => ?_) (hre ha)) (fun z w1 hR => ?_)
  · obtain ⟨q, hq1, rfl⟩ := jCc_of hc
    have hm := List.mem_of_getElem? hq1
    have hlt := (jLy_ok hm).1.1
    refine ⟨by show q.1 + 0 < 1000000; omega, ?_, jLay_sl h.2.1 (jLy_ok hm).2.2.1⟩
    rw [List.getElem?_append_right (by simp)]
    simp only [List.length_cons, List.length_nil, Nat.zero_add, Nat.add_sub_cancel_left]
    exact jVs_get hq1
  obtain ⟨g0, g1, g2, g3, g4, g5⟩ := hR
  have h1 : laI E al L i w1 := ⟨h.1, g1, g2⟩
  refine la_al2 lx_2 ?_
  refine la_arg q3 (by decide) hL hE ⟨h.1.1, h7⟩ ?_
  refine la_arg q4 (by decide) hL hE ⟨h.1.1, h7⟩ ?_
  refine la_arg q5 (by decide) hL hE ⟨h.1.1, h7⟩ ?_
  refine law_callV (d := 85) (y2 := 259) (as := [.inr (0, 99), .inl (ae_k (laX E (i + 1)).toInt), .inl (ae_k (laX E (i + 2)).toInt), .inl (ae_k (laX E (i + 3)).toInt)]) (rest := [.inl (ae_k z.toInt)]) mj_li_law H1 (by rfl) (h1.hW hL) (fun AS ha => x_mj hf hT (xrs_ok hf hT) (by decide) kr (by decide) g1 g2 g3 he hfs (by simp [jCr]) (fun k c hc => ?_) (hre ha)) (fun z2 w2 hR => ?_)
  · obtain ⟨q, hq1, rfl⟩ := jCr_of hc
    have hm := List.mem_of_getElem? hq1
    have hlt := (jLy_ok hm).1.2
    obtain ⟨d1, d2, d3, d4, d5, d6, d7, d8, d9, d10, d11, d12, d13⟩ := jMd_all q hm
    refine ⟨by show q.2.2.1 < 1000000; omega, ?_, jLay_sl g1 (jLy_ok hm).2.1⟩
    rw [List.getElem?_append_right (by simp)]
    simp only [List.length_cons, List.length_nil, Nat.zero_add, Nat.add_sub_cancel_left]
    rw [jVs_get hq1, jS.at (g4.2 _ d13), ← (jx1 q hm).1]
    rfl
  obtain ⟨m0, m1, m2, m3, m4, m5⟩ := hR
  have h2 : laI E al L i w2 := ⟨h.1, m1, m2⟩
  have ez : z = z2 := i32_inj (g0.trans m0.symm)
  subst ez
  have done : jJ w2 := by
    refine ⟨m3, ?_, fun q hm => ?_, fun hk q hm => ?_⟩
    · rw [jS.at (m4.2 0 jM_0.2.1), jS.at (g4.2 0 jM_0.1), jS.at (m4.2 99 jM_0.2.2.2.1), jS.at (g4.2 99 jM_0.2.2.1)]
      exact jx0
    · obtain ⟨k, hk⟩ := List.getElem?_of_mem hm
      obtain ⟨d1, d2, d3, d4, d5, d6, d7, d8, d9, d10, d11, d12, d13⟩ := jMd_all q hm
      have hkl : k < t.2.2.2.1.length := by rw [kl]; exact (List.getElem?_eq_some_iff.mp hk).1
      have hek := List.getElem?_eq_getElem hkl
      have u1 := g5 k _ _ (jCc_get hk) hek
      have u2 := m5 k _ _ (jCr_get hk) hek
      have hz : (q, t.2.2.2.1[k]) ∈ jLv.zip t.2.2.2.1 := List.mem_of_getElem? (i := k) (List.getElem?_zip_eq_some.mpr ⟨hk, hek⟩)
      have b := List.all_eq_true.mp kb _ hz
      rw [Bool.and_eq_true] at b
      have b2 := aPv.in (P := (xE, t.1, [], [], [])) ⟨he, hfs, fun z hz => by cases hz⟩ b.1 (aV.mk (by rw [hlen]; exact b.2))
      unfold jO
      rw [jS.at (m4.2 _ d4)]
      refine ⟨u1.trans u2.symm, ?_⟩
      have u1 : jS w1 q.1 q.2.1 = _ := u1
      rw [u1]
      exact b2
    · obtain ⟨d1, d2, d3, d4, d5, d6, d7, d8, d9, d10, d11, d12, d13⟩ := jMd_all q hm
      unfold jO
      rw [jS.at (m4.2 _ d9), jS.at (g4.2 _ d8), jS.at (m4.2 140 jM_0.2.2.2.2.2), jS.at (g4.2 140 jM_0.2.2.2.2.1)]
      exact jx2 (by rw [← jS.at (g4.2 0 jM_0.1), ← jS.at (m4.2 0 jM_0.2.1)]; exact hk) q hm
  exact la_eq lx_3 (by show mj_go 1325 892 2217; unfold mj_go; decide) (hq w2 h2 done)
end SIDES
end LAW
