/-! THE LAW, whole -/
section LAW
variable {E : mj_E} {Q : Option Value → va_W → Prop}
theorem la_kinds : (List.range 7).all (fun i => decide (-1 ≤ (mj_kind.getD i 0).toInt) && decide ((mj_kind.getD i 0).toInt ≤ 5)) = true := by decide +kernel
theorem la_bodies : (List.range 28).all (fun i => decide (10 ≤ (mj_bodies.getD i 0).toInt) && decide ((mj_bodies.getD i 0).toInt ≤ 71)) = true := by decide +kernel
theorem la_tabs (h0 : (E.2.2.1 0).2 = (7, fun j => mj_kind.getD j 0)) (h1 : (E.2.2.1 1).2 = (28, fun j => mj_bodies.getD j 0)) : ∀ σ : List Int, aTb E σ aTabs := by
  intro σ k q hq hk
  match k, hk with
  | 0, _ =>
    have hq : some (ae_k 7, (-1 : Int), (5 : Int)) = some q := hq
    cases hq
    rw [h0]
    refine ⟨aV.k 7, by decide, fun i hi => ?_⟩
    have := List.all_eq_true.mp la_kinds i (List.mem_range.mpr hi)
    simpa only [Bool.and_eq_true, decide_eq_true_eq] using this
  | 1, _ =>
    have hq : some (ae_k 28, (10 : Int), (71 : Int)) = some q := hq
    cases hq
    rw [h1]
    refine ⟨aV.k 28, by decide, fun i hi => ?_⟩
    have := List.all_eq_true.mp la_bodies i (List.mem_range.mpr hi)
    simpa only [Bool.and_eq_true, decide_eq_true_eq] using this
  | 2, _ => cases hq
theorem la_cons {al : List Nat} (hf : E.2.2.2.1.category = 1) (hT : ∀ σ : List Int, aTb E σ aTabs) : ∀ c ∈ laCs, aCO E al (aG0 []) jJ c := by
  have hS : ∀ c ∈ [ac_holds], aCO E al (aG0 []) jJ c := fun c hc => by
    rw [List.mem_singleton.mp hc]
    exact hs_ok hf hT
  have h0 : ∀ c ∈ aCs_0, aCO E al (aG0 []) jJ c := by
    rw [show aCs_0 = ak_cons aIn_0 [ac_holds] from rfl]
    exact ak_chain_ok hf jJ_prot hT aChk_0 hS
  have h1 : ∀ c ∈ aCs_1, aCO E al (aG0 []) jJ c := by
    rw [show aCs_1 = ak_cons aIn_1 aCs_0 from rfl]
    exact ak_chain_ok hf jJ_prot hT aChk_1 h0
  have h2 : ∀ c ∈ aCs_2, aCO E al (aG0 []) jJ c := by
    rw [show aCs_2 = ak_cons aIn_2 aCs_1 from rfl]
    exact ak_chain_ok hf jJ_prot hT aChk_2 h1
  have h3 : ∀ c ∈ aCs_3, aCO E al (aG0 []) jJ c := by
    rw [show aCs_3 = ak_cons aIn_3 aCs_2 from rfl]
    exact ak_chain_ok hf jJ_prot hT aChk_3 h2
  have h4 : ∀ c ∈ aCs_4, aCO E al (aG0 []) jJ c := by
    rw [show aCs_4 = ak_cons aIn_4 aCs_3 from rfl]
    exact ak_chain_ok hf jJ_prot hT aChk_4 h3
  have h5 : ∀ c ∈ aCs_5, aCO E al (aG0 []) jJ c := by
    rw [show aCs_5 = ak_cons aIn_5 aCs_4 from rfl]
    exact ak_chain_ok hf jJ_prot hT aChk_5 h4
  have h6 : ∀ c ∈ aCs_6, aCO E al (aG0 []) jJ c := by
    rw [show aCs_6 = ak_cons aIn_6 aCs_5 from rfl]
    exact ak_chain_ok hf jJ_prot hT aChk_6 h5
  have h7 : ∀ c ∈ aCs_7, aCO E al (aG0 []) jJ c := by
    rw [show aCs_7 = ak_cons aIn_7 aCs_6 from rfl]
    exact ak_chain_ok hf jJ_prot hT aChk_7 h6
  have h8 : ∀ c ∈ aCs_8, aCO E al (aG0 []) jJ c := by
    rw [show aCs_8 = ak_cons aIn_8 aCs_7 from rfl]
    exact ak_chain_ok hf jJ_prot hT aChk_8 h7
  have h9 : ∀ c ∈ aCs_9, aCO E al (aG0 []) jJ c := by
    rw [show aCs_9 = ak_cons aIn_9 aCs_8 from rfl]
    exact ak_chain_ok hf jJ_prot hT aChk_9 h8
  have h10 : ∀ c ∈ aCs_10, aCO E al (aG0 []) jJ c := by
    rw [show aCs_10 = ak_cons aIn_10 aCs_9 from rfl]
    exact ak_chain_ok hf jJ_prot hT aChk_10 h9
  have h11 : ∀ c ∈ aCs_11, aCO E al (aG0 []) jJ c := by
    rw [show aCs_11 = ak_cons aIn_11 aCs_10 from rfl]
    exact ak_chain_ok hf jJ_prot hT aChk_11 h10
  have h12 : ∀ c ∈ aCs_12, aCO E al (aG0 []) jJ c := by
    rw [show aCs_12 = ak_cons aIn_12 aCs_11 from rfl]
    exact ak_chain_ok hf jJ_prot hT aChk_12 h11
  have h13 : ∀ c ∈ aCs_13, aCO E al (aG0 []) jJ c := by
    rw [show aCs_13 = ak_cons aIn_13 aCs_12 from rfl]
    exact ak_chain_ok hf jJ_prot hT aChk_13 h12
  have h14 : ∀ c ∈ aCs_14, aCO E al (aG0 []) jJ c := by
    rw [show aCs_14 = ak_cons aIn_14 aCs_13 from rfl]
    exact ak_chain_ok hf jJ_prot hT aChk_14 h13
  have h15 : ∀ c ∈ aCs_15, aCO E al (aG0 []) jJ c := by
    rw [show aCs_15 = ak_cons aIn_15 aCs_14 from rfl]
    exact ak_chain_ok hf jJ_prot hT aChk_15 h14
  have h16 : ∀ c ∈ aCs_16, aCO E al (aG0 []) jJ c := by
    rw [show aCs_16 = ak_cons aIn_16 aCs_15 from rfl]
    exact ak_chain_ok hf jJ_prot hT aChk_16 h15
  have h17 : ∀ c ∈ aCs_17, aCO E al (aG0 []) jJ c := by
    rw [show aCs_17 = ak_cons aIn_17 aCs_16 from rfl]
    exact ak_chain_ok hf jJ_prot hT aChk_17 h16
  have h18 : ∀ c ∈ aCs_18, aCO E al (aG0 []) jJ c := by
    rw [show aCs_18 = ak_cons aIn_18 aCs_17 from rfl]
    exact ak_chain_ok hf jJ_prot hT aChk_18 h17
  have h19 : ∀ c ∈ aCs_19, aCO E al (aG0 []) jJ c := by
    rw [show aCs_19 = ak_cons aIn_19 aCs_18 from rfl]
    exact ak_chain_ok hf jJ_prot hT aChk_19 h18
  have h20 : ∀ c ∈ aCs_20, aCO E al (aG0 []) jJ c := by
    rw [show aCs_20 = ak_cons aIn_20 aCs_19 from rfl]
    exact ak_chain_ok hf jJ_prot hT aChk_20 h19
  have h21 : ∀ c ∈ aCs_21, aCO E al (aG0 []) jJ c := by
    rw [show aCs_21 = ak_cons aIn_21 aCs_20 from rfl]
    exact ak_chain_ok hf jJ_prot hT aChk_21 h20
  have h22 : ∀ c ∈ aCs_22, aCO E al (aG0 []) jJ c := by
    rw [show aCs_22 = ak_cons aIn_22 aCs_21 from rfl]
    exact ak_chain_ok hf jJ_prot hT aChk_22 h21
  have h23 : ∀ c ∈ aCs_23, aCO E al (aG0 []) jJ c := by
    rw [show aCs_23 = ak_cons aIn_23 aCs_22 from rfl]
    exact ak_chain_ok hf jJ_prot hT aChk_23 h22
  have h24 : ∀ c ∈ aCs_24, aCO E al (aG0 []) jJ c := by
    rw [show aCs_24 = ak_cons aIn_24 aCs_23 from rfl]
    exact ak_chain_ok hf jJ_prot hT aChk_24 h23
  have h25 : ∀ c ∈ aCs_25, aCO E al (aG0 []) jJ c := by
    rw [show aCs_25 = ak_cons aIn_25 aCs_24 from rfl]
    exact ak_chain_ok hf jJ_prot hT aChk_25 h24
  have h26 : ∀ c ∈ aCs_26, aCO E al (aG0 []) jJ c := by
    rw [show aCs_26 = ak_cons aIn_26 aCs_25 from rfl]
    exact ak_chain_ok hf jJ_prot hT aChk_26 h25
  have h27 : ∀ c ∈ aCs_27, aCO E al (aG0 []) jJ c := by
    rw [show aCs_27 = ak_cons aIn_27 aCs_26 from rfl]
    exact ak_chain_ok hf jJ_prot hT aChk_27 h26
  have h28 : ∀ c ∈ aCs_28, aCO E al (aG0 []) jJ c := by
    rw [show aCs_28 = ak_cons aIn_28 aCs_27 from rfl]
    exact ak_chain_ok hf jJ_prot hT aChk_28 h27
  have h29 : ∀ c ∈ aCs_29, aCO E al (aG0 []) jJ c := by
    rw [show aCs_29 = ak_cons aIn_29 aCs_28 from rfl]
    exact ak_chain_ok hf jJ_prot hT aChk_29 h28
  have h30 : ∀ c ∈ aCs_30, aCO E al (aG0 []) jJ c := by
    rw [show aCs_30 = ak_cons aIn_30 aCs_29 from rfl]
    exact ak_chain_ok hf jJ_prot hT aChk_30 h29
  have h31 : ∀ c ∈ aCs_31, aCO E al (aG0 []) jJ c := by
    rw [show aCs_31 = ak_cons aIn_31 aCs_30 from rfl]
    exact ak_chain_ok hf jJ_prot hT aChk_31 h30
  have h32 : ∀ c ∈ aCs_32, aCO E al (aG0 []) jJ c := by
    rw [show aCs_32 = ak_cons aIn_32 aCs_31 from rfl]
    exact ak_chain_ok hf jJ_prot hT aChk_32 h31
  have h33 : ∀ c ∈ aCs_33, aCO E al (aG0 []) jJ c := by
    rw [show aCs_33 = ak_cons aIn_33 aCs_32 from rfl]
    exact ak_chain_ok hf jJ_prot hT aChk_33 h32
  have h34 : ∀ c ∈ aCs_34, aCO E al (aG0 []) jJ c := by
    rw [show aCs_34 = ak_cons aIn_34 aCs_33 from rfl]
    exact ak_chain_ok hf jJ_prot hT aChk_34 h33
  have h35 : ∀ c ∈ aCs_35, aCO E al (aG0 []) jJ c := by
    rw [show aCs_35 = ak_cons aIn_35 aCs_34 from rfl]
    exact ak_chain_ok hf jJ_prot hT aChk_35 h34
  have h36 : ∀ c ∈ aCs_36, aCO E al (aG0 []) jJ c := by
    rw [show aCs_36 = ak_cons aIn_36 aCs_35 from rfl]
    exact ak_chain_ok hf jJ_prot hT aChk_36 h35
  have h37 : ∀ c ∈ aCs_37, aCO E al (aG0 []) jJ c := by
    rw [show aCs_37 = ak_cons aIn_37 aCs_36 from rfl]
    exact ak_chain_ok hf jJ_prot hT aChk_37 h36
  have h38 : ∀ c ∈ aCs_38, aCO E al (aG0 []) jJ c := by
    rw [show aCs_38 = ak_cons aIn_38 aCs_37 from rfl]
    exact ak_chain_ok hf jJ_prot hT aChk_38 h37
  have h39 : ∀ c ∈ aCs_39, aCO E al (aG0 []) jJ c := by
    rw [show aCs_39 = ak_cons aIn_39 aCs_38 from rfl]
    exact ak_chain_ok hf jJ_prot hT aChk_39 h38
  have h40 : ∀ c ∈ aCs_40, aCO E al (aG0 []) jJ c := by
    rw [show aCs_40 = ak_cons aIn_40 aCs_39 from rfl]
    exact ak_chain_ok hf jJ_prot hT aChk_40 h39
  have h41 : ∀ c ∈ aCs_41, aCO E al (aG0 []) jJ c := by
    rw [show aCs_41 = ak_cons aIn_41 aCs_40 from rfl]
    exact ak_chain_ok hf jJ_prot hT aChk_41 h40
  have h42 : ∀ c ∈ aCs_42, aCO E al (aG0 []) jJ c := by
    rw [show aCs_42 = ak_cons aIn_42 aCs_41 from rfl]
    exact ak_chain_ok hf jJ_prot hT aChk_42 h41
  have h43 : ∀ c ∈ aCs_43, aCO E al (aG0 []) jJ c := by
    rw [show aCs_43 = ak_cons aIn_43 aCs_42 from rfl]
    exact ak_chain_ok hf jJ_prot hT aChk_43 h42
  have h44 : ∀ c ∈ aCs_44, aCO E al (aG0 []) jJ c := by
    rw [show aCs_44 = ak_cons aIn_44 aCs_43 from rfl]
    exact ak_chain_ok hf jJ_prot hT aChk_44 h43
  have h45 : ∀ c ∈ aCs_45, aCO E al (aG0 []) jJ c := by
    rw [show aCs_45 = ak_cons aIn_45 aCs_44 from rfl]
    exact ak_chain_ok hf jJ_prot hT aChk_45 h44
  have h46 : ∀ c ∈ aCs_46, aCO E al (aG0 []) jJ c := by
    rw [show aCs_46 = ak_cons aIn_46 aCs_45 from rfl]
    exact ak_chain_ok hf jJ_prot hT aChk_46 h45
  have h47 : ∀ c ∈ aCs_47, aCO E al (aG0 []) jJ c := by
    rw [show aCs_47 = ak_cons aIn_47 aCs_46 from rfl]
    exact ak_chain_ok hf jJ_prot hT aChk_47 h46
  have h48 : ∀ c ∈ aCs_48, aCO E al (aG0 []) jJ c := by
    rw [show aCs_48 = ak_cons aIn_48 aCs_47 from rfl]
    exact ak_chain_ok hf jJ_prot hT aChk_48 h47
  have h49 : ∀ c ∈ aCs_49, aCO E al (aG0 []) jJ c := by
    rw [show aCs_49 = ak_cons aIn_49 aCs_48 from rfl]
    exact ak_chain_ok hf jJ_prot hT aChk_49 h48
  have h50 : ∀ c ∈ aCs_50, aCO E al (aG0 []) jJ c := by
    rw [show aCs_50 = ak_cons aIn_50 aCs_49 from rfl]
    exact ak_chain_ok hf jJ_prot hT aChk_50 h49
  have h51 : ∀ c ∈ aCs_51, aCO E al (aG0 []) jJ c := by
    rw [show aCs_51 = ak_cons aIn_51 aCs_50 from rfl]
    exact ak_chain_ok hf jJ_prot hT aChk_51 h50
  have h52 : ∀ c ∈ aCs_52, aCO E al (aG0 []) jJ c := by
    rw [show aCs_52 = ak_cons aIn_52 aCs_51 from rfl]
    exact ak_chain_ok hf jJ_prot hT aChk_52 h51
  have h53 : ∀ c ∈ aCs_53, aCO E al (aG0 []) jJ c := by
    rw [show aCs_53 = ak_cons aIn_53 aCs_52 from rfl]
    exact ak_chain_ok hf jJ_prot hT aChk_53 h52
  have h54 : ∀ c ∈ aCs_54, aCO E al (aG0 []) jJ c := by
    rw [show aCs_54 = ak_cons aIn_54 aCs_53 from rfl]
    exact ak_chain_ok hf jJ_prot hT aChk_54 h53
  have h55 : ∀ c ∈ aCs_55, aCO E al (aG0 []) jJ c := by
    rw [show aCs_55 = ak_cons aIn_55 aCs_54 from rfl]
    exact ak_chain_ok hf jJ_prot hT aChk_55 h54
  have h56 : ∀ c ∈ aCs_56, aCO E al (aG0 []) jJ c := by
    rw [show aCs_56 = ak_cons aIn_56 aCs_55 from rfl]
    exact ak_chain_ok hf jJ_prot hT aChk_56 h55
  have h57 : ∀ c ∈ aCs_57, aCO E al (aG0 []) jJ c := by
    rw [show aCs_57 = ak_cons aIn_57 aCs_56 from rfl]
    exact ak_chain_ok hf jJ_prot hT aChk_57 h56
  have h58 : ∀ c ∈ aCs_58, aCO E al (aG0 []) jJ c := by
    rw [show aCs_58 = ak_cons aIn_58 aCs_57 from rfl]
    exact ak_chain_ok hf jJ_prot hT aChk_58 h57
  have h59 : ∀ c ∈ aCs_59, aCO E al (aG0 []) jJ c := by
    rw [show aCs_59 = ak_cons aIn_59 aCs_58 from rfl]
    exact ak_chain_ok hf jJ_prot hT aChk_59 h58
  have h60 : ∀ c ∈ aCs_60, aCO E al (aG0 []) jJ c := by
    rw [show aCs_60 = ak_cons aIn_60 aCs_59 from rfl]
    exact ak_chain_ok hf jJ_prot hT aChk_60 h59
  have h61 : ∀ c ∈ aCs_61, aCO E al (aG0 []) jJ c := by
    rw [show aCs_61 = ak_cons aIn_61 aCs_60 from rfl]
    exact ak_chain_ok hf jJ_prot hT aChk_61 h60
  have h62 : ∀ c ∈ aCs_62, aCO E al (aG0 []) jJ c := by
    rw [show aCs_62 = ak_cons aIn_62 aCs_61 from rfl]
    exact ak_chain_ok hf jJ_prot hT aChk_62 h61
  have h63 : ∀ c ∈ aCs_63, aCO E al (aG0 []) jJ c := by
    rw [show aCs_63 = ak_cons aIn_63 aCs_62 from rfl]
    exact ak_chain_ok hf jJ_prot hT aChk_63 h62
  have h64 : ∀ c ∈ aCs_64, aCO E al (aG0 []) jJ c := by
    rw [show aCs_64 = ak_cons aIn_64 aCs_63 from rfl]
    exact ak_chain_ok hf jJ_prot hT aChk_64 h63
  have h65 : ∀ c ∈ aCs_65, aCO E al (aG0 []) jJ c := by
    rw [show aCs_65 = ak_cons aIn_65 aCs_64 from rfl]
    exact ak_chain_ok hf jJ_prot hT aChk_65 h64
  have h66 : ∀ c ∈ aCs_66, aCO E al (aG0 []) jJ c := by
    rw [show aCs_66 = ak_cons aIn_66 aCs_65 from rfl]
    exact ak_chain_ok hf jJ_prot hT aChk_66 h65
  have h67 : ∀ c ∈ aCs_67, aCO E al (aG0 []) jJ c := by
    rw [show aCs_67 = ak_cons aIn_67 aCs_66 from rfl]
    exact ak_chain_ok hf jJ_prot hT aChk_67 h66
  have h68 : ∀ c ∈ aCs_68, aCO E al (aG0 []) jJ c := by
    rw [show aCs_68 = ak_cons aIn_68 aCs_67 from rfl]
    exact ak_chain_ok hf jJ_prot hT aChk_68 h67
  have h69 : ∀ c ∈ aCs_69, aCO E al (aG0 []) jJ c := by
    rw [show aCs_69 = ak_cons aIn_69 aCs_68 from rfl]
    exact ak_chain_ok hf jJ_prot hT aChk_69 h68
  have h70 : ∀ c ∈ aCs_70, aCO E al (aG0 []) jJ c := by
    rw [show aCs_70 = ak_cons aIn_70 aCs_69 from rfl]
    exact ak_chain_ok hf jJ_prot hT aChk_70 h69
  have h71 : ∀ c ∈ aCs_71, aCO E al (aG0 []) jJ c := by
    rw [show aCs_71 = ak_cons aIn_71 aCs_70 from rfl]
    exact ak_chain_ok hf jJ_prot hT aChk_71 h70
  have h72 : ∀ c ∈ aCs_72, aCO E al (aG0 []) jJ c := by
    rw [show aCs_72 = ak_cons aIn_72 aCs_71 from rfl]
    exact ak_chain_ok hf jJ_prot hT aChk_72 h71
  intro c hc
  rcases List.mem_cons.mp hc with rfl | hc
  · exact read_ok hf hT
  exact h72 c hc
theorem la_tb {L : Nat} (hT : ∀ σ : List Int, aTb E σ aTabs) (hL : L ≤ 3584) (hE : (E.2.2.1 2).2.1 = L) {σ : List Int} (hσ : σ[0]? = some (L : Int)) : aTb E σ laTab := by
  intro k q hq hk
  match k, hk with
  | 0, h => exact hT σ 0 q hq h
  | 1, h => exact hT σ 1 q hq h
  | 2, _ =>
    have hq : some (ae_s 0, aI0, aI1) = some q := hq
    cases hq
    refine ⟨?_, by omega, fun i _ => ⟨i32_lo _, i32_hi _⟩⟩
    rw [hE]
    exact aV.s hσ
theorem la_H {al : List Nat} (hf : E.2.2.2.1.category = 1) (hT : ∀ σ : List Int, aTb E σ aTabs) {L : Nat} {i : Int} (hL : L ≤ 3584) (hE : (E.2.2.1 2).2.1 = L) : hOkL E al laG jJ [(L : Int), i] 2 :=
  ⟨hf, by show aLay.length < 1000000; decide +kernel, by show aRok aRules = true; decide +kernel, jJ_prot, fun c hc => la_cons hf hT c hc, fun σ hσ => la_tb hT hL hE ((hσ 0 (by decide)).trans rfl)⟩
theorem la_H1 {al : List Nat} (hf : E.2.2.2.1.category = 1) (hT : ∀ σ : List Int, aTb E σ aTabs) {L : Nat} {i : Int} (hL : L ≤ 3584) (hE : (E.2.2.1 2).2.1 = L) : hOkL E al laG1 (fun _ => True) [(L : Int), i] 2 :=
  ⟨hf, by show aLay.length < 1000000; decide +kernel, by show aRok aRules = true; decide +kernel, fun _ _ _ h => h, (fun c hc => by cases hc), fun σ hσ => la_tb hT hL hE ((hσ 0 (by decide)).trans rfl)⟩
/-- what stands between the pieces of a turn -/
def laI (E : mj_E) (al : List Nat) (L : Nat) (i : Int) (w : va_W) : Prop := (0 ≤ i ∧ i ≤ 3584) ∧ aWd E al aLay w ∧ aRs aRules w
section GLUE
variable {al : List Nat} {ws w : va_W} {L : Nat} {i : Int}
theorem laI.hW (h : laI E al L i w) (hL : L ≤ 3584) : hW E al laG1 (fun _ => True) [(L : Int), i] laE [] [] w :=
  ⟨hEv.ok (σ := [(L : Int), i]) (env := laE) ⟨⟨by show (0 : Int) ≤ L; omega, by show (L : Int) ≤ 3584; omega⟩, h.1, trivial⟩, aFs.nil, aHh.nil, h.2.1, h.2.2, trivial⟩
/-- a piece of the law that changes nothing -/
theorem la_glue (H1 : hOkL E al laG1 (fun _ => True) [(L : Int), i] 2) (hL : L ≤ 3584) {pc pc2 : Nat} {lv2 : List (Nat × av)} {st st2 : List av} (hc : laP pc st pc2 lv2 st2 = true) (h : laI E al L i w) (hq : hG E al 86 320 pc2 lv2 st2 [(L : Int), i] w Q) : hG E al 86 320 pc laLv st [(L : Int), i] w Q := by
  refine law_go (p := (pc, laE, [], [], laLv, st)) mj_li_law H1 rfl [] [(pc2, laE, [], lv2, st2, [], [], mMU)] hc (fun T hT => by cases hT) (by rfl) (h.hW hL) (fun T hT σ w2 k1 k2 k3 k4 => ?_)
  have hT := List.mem_singleton.mp hT
  subst hT
  have e := hD.eq (ws := w) (w := w2) ⟨k3, fun k hk => k4 k hk⟩
  subst e
  have hσ := hp_same k1 k2.1.1 rfl
  subst hσ
  exact hq
end GLUE
/-! the law's arguments, pushed by hand -/
def laX (E : mj_E) (k : Int) : Int32 := (E.2.2.1 2).2.2 k.toNat
def la_ldc (pc : Nat) (k : Int) : Bool := decide (decode (mj_b 320) pc = .ok (.aload_n 0, 1)) && decide (decode (mj_b 320) (pc + 1) = .ok (.iload_n 3, 1)) && decide (decode (mj_b 320) (pc + 2) = .ok (.iconst k, 1)) && decide (decode (mj_b 320) (pc + 3) = .ok (.iadd, 1)) && decide (decode (mj_b 320) (pc + 4) = .ok (.iaload, 1))
section ARG
variable {al : List Nat} {ws w : va_W} {L : Nat} {i : Int} {ρ : List Int}
theorem la_arg {pc : Nat} {k : Int} (hc : la_ldc pc k = true) (hk : 1 ≤ k ∧ k ≤ 6) (hL : L ≤ 3584) (hE : (E.2.2.1 2).2.1 = L) (hi : 0 ≤ i ∧ i + 7 ≤ L) {st : List av} (hq : hG E al 86 320 (pc + 5) laLv (.inl (ae_k (laX E (i + k)).toInt) :: st) [(L : Int), i] w Q) : hG E al 86 320 pc laLv st [(L : Int), i] w Q := by
  unfold la_ldc at hc
  simp only [Bool.and_eq_true, decide_eq_true_eq] at hc
  obtain ⟨⟨⟨⟨d0, d1⟩, d2⟩, d3⟩, d4⟩ := hc
  intro LV ST h1 h2
  obtain ⟨v0, m0, e0⟩ := h1 (0, .inr (3, 2)) (by simp [laLv])
  obtain ⟨-, rfl⟩ := e0
  obtain ⟨v3, m3, n, rfl, hn⟩ := h1 (3, .inl (ae_s 1)) (by simp [laLv])
  have en : n.toInt = i := hn.uniq (aV.s rfl)
  have ek : (Int32.ofInt k).toInt = k := i32_of (by unfold aI0; omega) (by unfold aI1; omega)
  have es : (n + Int32.ofInt k).toInt = i + k := i32_add (by rw [en, ek]) (by unfold aI0; omega) (by unfold aI1; omega)
  refine MJ.nx d0 ⟨rfl, _, m0, rfl⟩ (MJ.nx d1 ⟨rfl, _, m3, rfl⟩ (MJ.nx d2 ⟨rfl, rfl⟩ (MJ.nx d3 ⟨rfl, _, _, _, rfl, rfl⟩ (MJ.nx d4 ⟨rfl, _, _, _, rfl, Or.inr ⟨2, by decide, rfl, i32_in (by rw [es]; omega) (by rw [es, hE]; omega), rfl⟩⟩ ?_))))
  refine hq LV _ h1 ⟨_, ST, rfl, ⟨_, rfl, ?_⟩, h2⟩
  rw [show (n + Int32.ofInt k).toNatClampNeg = (i + k).toNat by rw [show (n + Int32.ofInt k).toNatClampNeg = (n + Int32.ofInt k).toInt.toNat from rfl, es]]
  exact aV.k _
theorem la_al1 {pc : Nat} (d : decode (mj_b 320) pc = .ok (.aload_n 1, 1)) {st : List av} (hq : hG E al 86 320 (pc + 1) laLv (.inr (0, 0) :: st) ρ w Q) : hG E al 86 320 pc laLv st ρ w Q := by
  intro LV ST h1 h2
  obtain ⟨v, m, a, ha, rfl⟩ := h1 (1, .inr (0, 0)) (by simp [laLv])
  exact MJ.nx d ⟨rfl, _, m, rfl⟩ (hq LV _ h1 ⟨_, ST, rfl, ⟨a, ha, rfl⟩, h2⟩)
theorem la_al2 {pc : Nat} (d : decode (mj_b 320) pc = .ok (.aload_n 2, 1)) {st : List av} (hq : hG E al 86 320 (pc + 1) laLv (.inr (0, 99) :: st) ρ w Q) : hG E al 86 320 pc laLv st ρ w Q := by
  intro LV ST h1 h2
  obtain ⟨v, m, a, ha, rfl⟩ := h1 (2, .inr (0, 99)) (by simp [laLv])
  exact MJ.nx d ⟨rfl, _, m, rfl⟩ (hq LV _ h1 ⟨_, ST, rfl, ⟨a, ha, rfl⟩, h2⟩)
theorem la_eq {pc tg : Nat} {off : Int} (d : decode (mj_b 320) pc = .ok (.if_icmp .eq off, 3)) (ht : mj_go pc off tg) {z : Int32} {st : List av} (hq : hG E al 86 320 tg laLv st ρ w Q) : hG E al 86 320 pc laLv (.inl (ae_k z.toInt) :: .inl (ae_k z.toInt) :: st) ρ w Q := by
  intro LV ST h1 h2
  obtain ⟨v1, u1, rfl, ⟨n1, rfl, e1⟩, v2, u2, rfl, ⟨n2, rfl, e2⟩, h3⟩ := h2
  have a1 : n1.toInt = z.toInt := e1.of_k
  have a2 : n2.toInt = z.toInt := e2.of_k
  have e : n2 = n1 := i32_inj (a2.trans a1.symm)
  subst e
  exact MJ.nx d ⟨rfl, _, _, _, tg, rfl, ht, Or.inl ⟨rfl, rfl⟩⟩ (hq LV u2 h1 h3)
theorem ai00L {q : aInst} {cs : List aCon} (hf : E.2.2.2.1.category = 1) (hT : ∀ σ : List Int, aTb E σ aTabs) (hcs : ∀ c ∈ cs, aCO E al (aG00 []) jJ0 c) (hy : q.1.1 < mj_lawNo) (h : ak_inst (aG00 cs) 100000 q = true) : aCO E al (aG00 []) jJ0 q.1 :=
  ak_inst_ok (G := aG00 cs) hf (by show aLay.length < 1000000; decide +kernel) (by show aRok aRules = true; decide +kernel) jJ0_prot hcs hT hy h
theorem wd_sl {c ci i : Nat} {fs : List (Nat ⊕ (Int × Int))} {b : Int × Int} (h : aWd E al aLay w) (l1 : aLay[c]? = some (.inl (ci, fs))) (l2 : fs[i]? = some (.inr b)) : aSl w c i (jS w c i) ∧ b.1 ≤ jS w c i ∧ jS w c i ≤ b.2 := by
  obtain ⟨q, h1, vs, h2, h3, h4⟩ := h.2 c _ l1
  obtain ⟨a, e⟩ := q
  have h2 : e = _ := h2
  subst h2
  obtain ⟨v, g1, n, rfl, g2⟩ := h4 i _ l2
  have hs : aSl w c i n.toInt := Or.inl ⟨a, _, vs, n, h1, g1, rfl⟩
  rw [jS.sl hs]
  exact ⟨hs, g2⟩
theorem wd_rw {c N i : Nat} {cols : List (Int × Int)} {b : Int × Int} (h : aWd E al aLay w) (l : aLay[c]? = some (.inr (0, N, cols))) (hi : i < N) (hb : cols[i % cols.length]? = some b) : aSl w c i (jS w c i) ∧ b.1 ≤ jS w c i ∧ jS w c i ≤ b.2 := by
  obtain ⟨a, e, hr⟩ := h.row l
  have := hr i b hi hb
  rw [jS.row ⟨a, _, _, _, e⟩]
  exact ⟨aSl.row e hi rfl, this⟩
end ARG
end LAW
