/-! THE LAW, whole -/
section LAW
variable {E : mj_E} {Q : Option Value → va_W → Prop}
theorem la_kinds : (List.range 7).all (fun i => decide (-1 ≤ (mj_kind.getD i 0).toInt) && decide ((mj_kind.getD i 0).toInt ≤ 5)) = true := by decide +kernel
theorem la_bodies : (List.range 28).all (fun i => decide (10 ≤ (mj_bodies.getD i 0).toInt) && decide ((mj_bodies.getD i 0).toInt ≤ 71)) = true := by decide +kernel
theorem la_tabs (h0 : (E.2.2.1 0).2 = (7, fun j => mj_kind.getD j 0)) (h1 : (E.2.2.1 1).2 = (28, fun j => mj_bodies.getD j 0)) : ∀ σ : List Int, aTb E σ aTabs := by
  intro σ k q hq hk
  match k, hk with
  | 0, _ =>
    have hq : some (ae_k 7, (-1 : Int), (5 : Int)) = some q := hq
    cases hq
    rw [h0]
    refine ⟨aV.k 7, by decide, fun i hi => ?_⟩
    have := List.all_eq_true.mp la_kinds i (List.mem_range.mpr hi)
    simpa only [Bool.and_eq_true, decide_eq_true_eq] using this
  | 1, _ =>
    have hq : some (ae_k 28, (10 : Int), (71 : Int)) = some q := hq
    cases hq
    rw [h1]
    refine ⟨aV.k 28, by decide, fun i hi => ?_⟩
    have := List.all_eq_true.mp la_bodies i (List.mem_range.mpr hi)
    simpa only [Bool.and_eq_true, decide_eq_true_eq] using this
  | 2, _ => cases hq
theorem la_cons {al : List Nat} (hf : E.2.2.2.1.category = 1) (hT : ∀ σ : List Int, aTb E σ aTabs) : ∀ c ∈ laCs, aCO E al (aG0 []) jJ c := by
  have hS : ∀ c ∈ [ac_holds], aCO E al (aG0 []) jJ c := fun c hc => by
    rw [List.mem_singleton.mp hc]
    exact hs_ok hf hT
  have h0 : ∀ c ∈ aCs_0, aCO E al (aG0 []) jJ c := by
    rw [show aCs_0 = ak_cons aIn_0 [ac_holds] from rfl]
    exact ak_chain_ok hf jJ_prot hT aChk_0 hS
  have h1 : ∀ c ∈ aCs_1, aCO E al (aG0 []) jJ c := by
    rw [show aCs_1 = ak_cons aIn_1 aCs_0 from rfl]
    exact ak_chain_ok hf jJ_prot hT aChk_1 h0
  have h2 : ∀ c ∈ aCs_2, aCO E al (aG0 []) jJ c := by
    rw [show aCs_2 = ak_cons aIn_2 aCs_1 from rfl]
    exact ak_chain_ok hf jJ_prot hT aChk_2 h1
  have h3 : ∀ c ∈ aCs_3, aCO E al (aG0 []) jJ c := by
    rw [show aCs_3 = ak_cons aIn_3 aCs_2 from rfl]
    exact ak_chain_ok hf jJ_prot hT aChk_3 h2
  have h4 : ∀ c ∈ aCs_4, aCO E al (aG0 []) jJ c := by
    rw [show aCs_4 = ak_cons aIn_4 aCs_3 from rfl]
    exact ak_chain_ok hf jJ_prot hT aChk_4 h3
  have h5 : ∀ c ∈ aCs_5, aCO E al (aG0 []) jJ c := by
    rw [show aCs_5 = ak_cons aIn_5 aCs_4 from rfl]
    exact ak_chain_ok hf jJ_prot hT aChk_5 h4
  have h6 : ∀ c ∈ aCs_6, aCO E al (aG0 []) jJ c := by
    rw [show aCs_6 = ak_cons aIn_6 aCs_5 from rfl]
    exact ak_chain_ok hf jJ_prot hT aChk_6 h5
  have h7 : ∀ c ∈ aCs_7, aCO E al (aG0 []) jJ c := by
    rw [show aCs_7 = ak_cons aIn_7 aCs_6 from rfl]
    exact ak_chain_ok hf jJ_prot hT aChk_7 h6
  have h8 : ∀ c ∈ aCs_8, aCO E al (aG0 []) jJ c := by
    rw [show aCs_8 = ak_cons aIn_8 aCs_7 from rfl]
    exact ak_chain_ok hf jJ_prot hT aChk_8 h7
  have h9 : ∀ c ∈ aCs_9, aCO E al (aG0 []) jJ c := by
    rw [show aCs_9 = ak_cons aIn_9 aCs_8 from rfl]
    exact ak_chain_ok hf jJ_prot hT aChk_9 h8
  have h10 : ∀ c ∈ aCs_10, aCO E al (aG0 []) jJ c := by
    rw [show aCs_10 = ak_cons aIn_10 aCs_9 from rfl]
    exact ak_chain_ok hf jJ_prot hT aChk_10 h9
  have h11 : ∀ c ∈ aCs_11, aCO E al (aG0 []) jJ c := by
    rw [show aCs_11 = ak_cons aIn_11 aCs_10 from rfl]
    exact ak_chain_ok hf jJ_prot hT aChk_11 h10
  have h12 : ∀ c ∈ aCs_12, aCO E al (aG0 []) jJ c := by
    rw [show aCs_12 = ak_cons aIn_12 aCs_11 from rfl]
    exact ak_chain_ok hf jJ_prot hT aChk_12 h11
  have h13 : ∀ c ∈ aCs_13, aCO E al (aG0 []) jJ c := by
    rw [show aCs_13 = ak_cons aIn_13 aCs_12 from rfl]
    exact ak_chain_ok hf jJ_prot hT aChk_13 h12
  have h14 : ∀ c ∈ aCs_14, aCO E al (aG0 []) jJ c := by
    rw [show aCs_14 = ak_cons aIn_14 aCs_13 from rfl]
    exact ak_chain_ok hf jJ_prot hT aChk_14 h13
  have h15 : ∀ c ∈ aCs_15, aCO E al (aG0 []) jJ c := by
    rw [show aCs_15 = ak_cons aIn_15 aCs_14 from rfl]
    exact ak_chain_ok hf jJ_prot hT aChk_15 h14
  have h16 : ∀ c ∈ aCs_16, aCO E al (aG0 []) jJ c := by
    rw [show aCs_16 = ak_cons aIn_16 aCs_15 from rfl]
    exact ak_chain_ok hf jJ_prot hT aChk_16 h15
  have h17 : ∀ c ∈ aCs_17, aCO E al (aG0 []) jJ c := by
    rw [show aCs_17 = ak_cons aIn_17 aCs_16 from rfl]
    exact ak_chain_ok hf jJ_prot hT aChk_17 h16
  have h18 : ∀ c ∈ aCs_18, aCO E al (aG0 []) jJ c := by
    rw [show aCs_18 = ak_cons aIn_18 aCs_17 from rfl]
    exact ak_chain_ok hf jJ_prot hT aChk_18 h17
  have h19 : ∀ c ∈ aCs_19, aCO E al (aG0 []) jJ c := by
    rw [show aCs_19 = ak_cons aIn_19 aCs_18 from rfl]
    exact ak_chain_ok hf jJ_prot hT aChk_19 h18
  have h20 : ∀ c ∈ aCs_20, aCO E al (aG0 []) jJ c := by
    rw [show aCs_20 = ak_cons aIn_20 aCs_19 from rfl]
    exact ak_chain_ok hf jJ_prot hT aChk_20 h19
  have h21 : ∀ c ∈ aCs_21, aCO E al (aG0 []) jJ c := by
    rw [show aCs_21 = ak_cons aIn_21 aCs_20 from rfl]
    exact ak_chain_ok hf jJ_prot hT aChk_21 h20
  have h22 : ∀ c ∈ aCs_22, aCO E al (aG0 []) jJ c := by
    rw [show aCs_22 = ak_cons aIn_22 aCs_21 from rfl]
    exact ak_chain_ok hf jJ_prot hT aChk_22 h21
  have h23 : ∀ c ∈ aCs_23, aCO E al (aG0 []) jJ c := by
    rw [show aCs_23 = ak_cons aIn_23 aCs_22 from rfl]
    exact ak_chain_ok hf jJ_prot hT aChk_23 h22
  have h24 : ∀ c ∈ aCs_24, aCO E al (aG0 []) jJ c := by
    rw [show aCs_24 = ak_cons aIn_24 aCs_23 from rfl]
    exact ak_chain_ok hf jJ_prot hT aChk_24 h23
  have h25 : ∀ c ∈ aCs_25, aCO E al (aG0 []) jJ c := by
    rw [show aCs_25 = ak_cons aIn_25 aCs_24 from rfl]
    exact ak_chain_ok hf jJ_prot hT aChk_25 h24
  have h26 : ∀ c ∈ aCs_26, aCO E al (aG0 []) jJ c := by
    rw [show aCs_26 = ak_cons aIn_26 aCs_25 from rfl]
    exact ak_chain_ok hf jJ_prot hT aChk_26 h25
  have h27 : ∀ c ∈ aCs_27, aCO E al (aG0 []) jJ c := by
    rw [show aCs_27 = ak_cons aIn_27 aCs_26 from rfl]
    exact ak_chain_ok hf jJ_prot hT aChk_27 h26
  have h28 : ∀ c ∈ aCs_28, aCO E al (aG0 []) jJ c := by
    rw [show aCs_28 = ak_cons aIn_28 aCs_27 from rfl]
    exact ak_chain_ok hf jJ_prot hT aChk_28 h27
  have h29 : ∀ c ∈ aCs_29, aCO E al (aG0 []) jJ c := by
    rw [show aCs_29 = ak_cons aIn_29 aCs_28 from rfl]
    exact ak_chain_ok hf jJ_prot hT aChk_29 h28
  have h30 : ∀ c ∈ aCs_30, aCO E al (aG0 []) jJ c := by
    rw [show aCs_30 = ak_cons aIn_30 aCs_29 from rfl]
    exact ak_chain_ok hf jJ_prot hT aChk_30 h29
  have h31 : ∀ c ∈ aCs_31, aCO E al (aG0 []) jJ c := by
    rw [show aCs_31 = ak_cons aIn_31 aCs_30 from rfl]
    exact ak_chain_ok hf jJ_prot hT aChk_31 h30
  have h32 : ∀ c ∈ aCs_32, aCO E al (aG0 []) jJ c := by
    rw [show aCs_32 = ak_cons aIn_32 aCs_31 from rfl]
    exact ak_chain_ok hf jJ_prot hT aChk_32 h31
  have h33 : ∀ c ∈ aCs_33, aCO E al (aG0 []) jJ c := by
    rw [show aCs_33 = ak_cons aIn_33 aCs_32 from rfl]
    exact ak_chain_ok hf jJ_prot hT aChk_33 h32
  have h34 : ∀ c ∈ aCs_34, aCO E al (aG0 []) jJ c := by
    rw [show aCs_34 = ak_cons aIn_34 aCs_33 from rfl]
    exact ak_chain_ok hf jJ_prot hT aChk_34 h33
  have h35 : ∀ c ∈ aCs_35, aCO E al (aG0 []) jJ c := by
    rw [show aCs_35 = ak_cons aIn_35 aCs_34 from rfl]
    exact ak_chain_ok hf jJ_prot hT aChk_35 h34
  have h36 : ∀ c ∈ aCs_36, aCO E al (aG0 []) jJ c := by
    rw [show aCs_36 = ak_cons aIn_36 aCs_35 from rfl]
    exact ak_chain_ok hf jJ_prot hT aChk_36 h35
  have h37 : ∀ c ∈ aCs_37, aCO E al (aG0 []) jJ c := by
    rw [show aCs_37 = ak_cons aIn_37 aCs_36 from rfl]
    exact ak_chain_ok hf jJ_prot hT aChk_37 h36
  have h38 : ∀ c ∈ aCs_38, aCO E al (aG0 []) jJ c := by
    rw [show aCs_38 = ak_cons aIn_38 aCs_37 from rfl]
    exact ak_chain_ok hf jJ_prot hT aChk_38 h37
  have h39 : ∀ c ∈ aCs_39, aCO E al (aG0 []) jJ c := by
    rw [show aCs_39 = ak_cons aIn_39 aCs_38 from rfl]
    exact ak_chain_ok hf jJ_prot hT aChk_39 h38
  have h40 : ∀ c ∈ aCs_40, aCO E al (aG0 []) jJ c := by
    rw [show aCs_40 = ak_cons aIn_40 aCs_39 from rfl]
    exact ak_chain_ok hf jJ_prot hT aChk_40 h39
  have h41 : ∀ c ∈ aCs_41, aCO E al (aG0 []) jJ c := by
    rw [show aCs_41 = ak_cons aIn_41 aCs_40 from rfl]
    exact ak_chain_ok hf jJ_prot hT aChk_41 h40
  have h42 : ∀ c ∈ aCs_42, aCO E al (aG0 []) jJ c := by
    rw [show aCs_42 = ak_cons aIn_42 aCs_41 from rfl]
    exact ak_chain_ok hf jJ_prot hT aChk_42 h41
  have h43 : ∀ c ∈ aCs_43, aCO E al (aG0 []) jJ c := by
    rw [show aCs_43 = ak_cons aIn_43 aCs_42 from rfl]
    exact ak_chain_ok hf jJ_prot hT aChk_43 h42
  have h44 : ∀ c ∈ aCs_44, aCO E al (aG0 []) jJ c := by
    rw [show aCs_44 = ak_cons aIn_44 aCs_43 from rfl]
    exact ak_chain_ok hf jJ_prot hT aChk_44 h43
  have h45 : ∀ c ∈ aCs_45, aCO E al (aG0 []) jJ c := by
    rw [show aCs_45 = ak_cons aIn_45 aCs_44 from rfl]
    exact ak_chain_ok hf jJ_prot hT aChk_45 h44
  have h46 : ∀ c ∈ aCs_46, aCO E al (aG0 []) jJ c := by
    rw [show aCs_46 = ak_cons aIn_46 aCs_45 from rfl]
    exact ak_chain_ok hf jJ_prot hT aChk_46 h45
  have h47 : ∀ c ∈ aCs_47, aCO E al (aG0 []) jJ c := by
    rw [show aCs_47 = ak_cons aIn_47 aCs_46 from rfl]
    exact ak_chain_ok hf jJ_prot hT aChk_47 h46
  have h48 : ∀ c ∈ aCs_48, aCO E al (aG0 []) jJ c := by
    rw [show aCs_48 = ak_cons aIn_48 aCs_47 from rfl]
    exact ak_chain_ok hf jJ_prot hT aChk_48 h47
  have h49 : ∀ c ∈ aCs_49, aCO E al (aG0 []) jJ c := by
    rw [show aCs_49 = ak_cons aIn_49 aCs_48 from rfl]
    exact ak_chain_ok hf jJ_prot hT aChk_49 h48
  have h50 : ∀ c ∈ aCs_50, aCO E al (aG0 []) jJ c := by
    rw [show aCs_50 = ak_cons aIn_50 aCs_49 from rfl]
    exact ak_chain_ok hf jJ_prot hT aChk_50 h49
  have h51 : ∀ c ∈ aCs_51, aCO E al (aG0 []) jJ c := by
    rw [show aCs_51 = ak_cons aIn_51 aCs_50 from rfl]
    exact ak_chain_ok hf jJ_prot hT aChk_51 h50
  have h52 : ∀ c ∈ aCs_52, aCO E al (aG0 []) jJ c := by
    rw [show aCs_52 = ak_cons aIn_52 aCs_51 from rfl]
    exact ak_chain_ok hf jJ_prot hT aChk_52 h51
  have h53 : ∀ c ∈ aCs_53, aCO E al (aG0 []) jJ c := by
    rw [show aCs_53 = ak_cons aIn_53 aCs_52 from rfl]
    exact ak_chain_ok hf jJ_prot hT aChk_53 h52
  have h54 : ∀ c ∈ aCs_54, aCO E al (aG0 []) jJ c := by
    rw [show aCs_54 = ak_cons aIn_54 aCs_53 from rfl]
    exact ak_chain_ok hf jJ_prot hT aChk_54 h53
  have h55 : ∀ c ∈ aCs_55, aCO E al (aG0 []) jJ c := by
    rw [show aCs_55 = ak_cons aIn_55 aCs_54 from rfl]
    exact ak_chain_ok hf jJ_prot hT aChk_55 h54
  have h56 : ∀ c ∈ aCs_56, aCO E al (aG0 []) jJ c := by
    rw [show aCs_56 = ak_cons aIn_56 aCs_55 from rfl]
    exact ak_chain_ok hf jJ_prot hT aChk_56 h55
  have h57 : ∀ c ∈ aCs_57, aCO E al (aG0 []) jJ c := by
    rw [show aCs_57 = ak_cons aIn_57 aCs_56 from rfl]
    exact ak_chain_ok hf jJ_prot hT aChk_57 h56
  have h58 : ∀ c ∈ aCs_58, aCO E al (aG0 []) jJ c := by
    rw [show aCs_58 = ak_cons aIn_58 aCs_57 from rfl]
    exact ak_chain_ok hf jJ_prot hT aChk_58 h57
  have h59 : ∀ c ∈ aCs_59, aCO E al (aG0 []) jJ c := by
    rw [show aCs_59 = ak_cons aIn_59 aCs_58 from rfl]
    exact ak_chain_ok hf jJ_prot hT aChk_59 h58
  have h60 : ∀ c ∈ aCs_60, aCO E al (aG0 []) jJ c := by
    rw [show aCs_60 = ak_cons aIn_60 aCs_59 from rfl]
    exact ak_chain_ok hf jJ_prot hT aChk_60 h59
  have h61 : ∀ c ∈ aCs_61, aCO E al (aG0 []) jJ c := by
    rw [show aCs_61 = ak_cons aIn_61 aCs_60 from rfl]
    exact ak_chain_ok hf jJ_prot hT aChk_61 h60
  have h62 : ∀ c ∈ aCs_62, aCO E al (aG0 []) jJ c := by
    rw [show aCs_62 = ak_cons aIn_62 aCs_61 from rfl]
    exact ak_chain_ok hf jJ_prot hT aChk_62 h61
  have h63 : ∀ c ∈ aCs_63, aCO E al (aG0 []) jJ c := by
    rw [show aCs_63 = ak_cons aIn_63 aCs_62 from rfl]
    exact ak_chain_ok hf jJ_prot hT aChk_63 h62
  have h64 : ∀ c ∈ aCs_64, aCO E al (aG0 []) jJ c := by
    rw [show aCs_64 = ak_cons aIn_64 aCs_63 from rfl]
    exact ak_chain_ok hf jJ_prot hT aChk_64 h63
  have h65 : ∀ c ∈ aCs_65, aCO E al (aG0 []) jJ c := by
    rw [show aCs_65 = ak_cons aIn_65 aCs_64 from rfl]
    exact ak_chain_ok hf jJ_prot hT aChk_65 h64
  have h66 : ∀ c ∈ aCs_66, aCO E al (aG0 []) jJ c := by
    rw [show aCs_66 = ak_cons aIn_66 aCs_65 from rfl]
    exact ak_chain_ok hf jJ_prot hT aChk_66 h65
  have h67 : ∀ c ∈ aCs_67, aCO E al (aG0 []) jJ c := by
    rw [show aCs_67 = ak_cons aIn_67 aCs_66 from rfl]
    exact ak_chain_ok hf jJ_prot hT aChk_67 h66
  have h68 : ∀ c ∈ aCs_68, aCO E al (aG0 []) jJ c := by
    rw [show aCs_68 = ak_cons aIn_68 aCs_67 from rfl]
    exact ak_chain_ok hf jJ_prot hT aChk_68 h67
  have h69 : ∀ c ∈ aCs_69, aCO E al (aG0 []) jJ c := by
    rw [show aCs_69 = ak_cons aIn_69 aCs_68 from rfl]
    exact ak_chain_ok hf jJ_prot hT aChk_69 h68
  have h70 : ∀ c ∈ aCs_70, aCO E al (aG0 []) jJ c := by
    rw [show aCs_70 = ak_cons aIn_70 aCs_69 from rfl]
    exact ak_chain_ok hf jJ_prot hT aChk_70 h69
  have h71 : ∀ c ∈ aCs_71, aCO E al (aG0 []) jJ c := by
    rw [show aCs_71 = ak_cons aIn_71 aCs_70 from rfl]
    exact ak_chain_ok hf jJ_prot hT aChk_71 h70
  have h72 : ∀ c ∈ aCs_72, aCO E al (aG0 []) jJ c := by
    rw [show aCs_72 = ak_cons aIn_72 aCs_71 from rfl]
    exact ak_chain_ok hf jJ_prot hT aChk_72 h71
  intro c hc
  rcases List.mem_cons.mp hc with rfl | hc
  · exact read_ok hf hT
  exact h72 c hc
theorem la_tb {L : Nat} (hT : ∀ σ : List Int, aTb E σ aTabs) (hL : L ≤ 3584) (hE : (E.2.2.1 2).2.1 = L) {σ : List Int} (hσ : σ[0]? = some (L : Int)) : aTb E σ laTab := by
  intro k q hq hk
  match k, hk with
  | 0, h => exact hT σ 0 q hq h
  | 1, h => exact hT σ 1 q hq h
  | 2, _ =>
    have hq : some (ae_s 0, aI0, aI1) = some q := hq
    cases hq
    refine ⟨?_, by omega, fun i _ => ⟨i32_lo _, i32_hi _⟩⟩
    rw [hE]
    exact aV.s hσ
theorem la_H {al : List Nat} (hf : E.2.2.2.1.category = 1) (hT : ∀ σ : List Int, aTb E σ aTabs) {L : Nat} {i : Int} (hL : L ≤ 3584) (hE : (E.2.2.1 2).2.1 = L) : hOkL E al laG jJ [(L : Int), i] 2 :=
  ⟨hf, by show aLay.length < 1000000; decide +kernel, by show aRok aRules = true; decide +kernel, jJ_prot, fun c hc => la_cons hf hT c hc, fun σ hσ => la_tb hT hL hE ((hσ 0 (by decide)).trans rfl)⟩
theorem la_H1 {al : List Nat} (hf : E.2.2.2.1.category = 1) (hT : ∀ σ : List Int, aTb E σ aTabs) {L : Nat} {i : Int} (hL : L ≤ 3584) (hE : (E.2.2.1 2).2.1 = L) : hOkL E al laG1 (fun _ => True) [(L : Int), i] 2 :=
  ⟨hf, by show aLay.length < 1000000; decide +kernel, by show aRok aRules = true; decide +kernel, fun _ _ _ h => h, (fun c hc => by cases hc), fun σ hσ => la_tb hT hL hE ((hσ 0 (by decide)).trans rfl)⟩
/-- what stands between the pieces of a turn -/
def laI (E : mj_E) (al : List Nat) (L : Nat) (i : Int) (w : va_W) : Prop := (0 ≤ i ∧ i ≤ 3584) ∧ aWd E al aLay w ∧ aRs aRules w
section GLUE
variable {al : List Nat} {ws w : va_W} {L : Nat} {i : Int}
theorem laI.hW (h : laI E al L i w) (hL : L ≤ 3584) : hW E al laG1 (fun _ => True) [(L : Int), i] laE [] [] w :=
  ⟨hEv.ok (σ := [(L : Int), i]) (env := laE) ⟨⟨by show (0 : Int) ≤ L; omega, by show (L : Int) ≤ 3584; omega⟩, h.1, trivial⟩, aFs.nil, aHh.nil, h.2.1, h.2.2, trivial⟩
/-- a piece of the law that changes nothing -/
theorem la_glue (H1 : hOkL E al laG1 (fun _ => True) [(L : Int), i] 2) (hL : L ≤ 3584) {pc pc2 : Nat} {lv2 : List (Nat × av)} {st st2 : List av} (hc : laP pc st pc2 lv2 st2 = true) (h : laI E al L i w) (hq : hG E al 86 320 pc2 lv2 st2 [(L : Int), i] w Q) : hG E al 86 320 pc laLv st [(L : Int), i] w Q := by
  refine law_go (p := (pc, laE, [], [], laLv, st)) mj_li_law H1 rfl [] [(pc2, laE, [], lv2, st2, [], [], mMU)] hc (fun T hT => by cases hT) (by rfl) (h.hW hL) (fun T hT σ w2 k1 k2 k3 k4 => ?_)
  have hT := List.mem_singleton.mp hT
  subst hT
  have e := hD.eq (ws := w) (w := w2) ⟨k3, fun k hk => k4 k hk⟩
  subst e
  have hσ := hp_same k1 k2.1.1 rfl
  subst hσ
  exact hq
end GLUE
/-! the component's keep and again, for themselves -/
def ckM : List Nat := [0, 38, 39, 40, 41, 42, 43, 44, 45, 46, 47, 48, 49, 50, 51, 52, 53, 54, 55, 56, 57, 58, 59, 60, 61, 62, 63, 64, 65, 66, 67, 68, 69, 70, 71, 72, 73, 74]
def caM : List Nat := [1, 2, 3, 4, 5, 6, 7, 8, 9, 10, 11, 12, 13, 14, 15, 16, 17, 18, 19, 20, 21, 22, 23, 24, 25, 26, 27, 28, 29, 30, 31, 32, 33, 34, 35, 36, 37]
def ai_ck : aInst := ((177, [], [], [.inr (0, 0)], [], ckM, 3, [([], [], some (.inl (ae_k 1)), [((0, ae_k 2), ae_k 1)])]), [])
def ai_ca0 : aInst := ((180, [], [], [.inr (0, 0)], [((0, ae_k 2), ae_k 0)], [], 3, [([], [], some (.inl (ae_k (-3))), [])]), [])
def ai_ca1 : aInst := ((180, [], [], [.inr (0, 0)], [((0, ae_k 2), ae_k 1)], caM, 3, [([], [], some (.inl (ae_k 1)), [])]), [])
section
set_option maxRecDepth 100000
theorem ck_chk : ak_inst (aG00 []) 100000 ai_ck = true := by decide +kernel
theorem ca0_chk : ak_inst (aG00 []) 100000 ai_ca0 = true := by decide +kernel
theorem ca1_chk : ak_inst (aG00 []) 100000 ai_ca1 = true := by decide +kernel
theorem lp_k1 : laP 2191 [] 2192 laLv [.inr (0, 0)] = true := by decide +kernel
theorem lp_k2 : laP 2195 [.inl (ae_k 1)] 2197 laLv [.inr (0, 99)] = true := by decide +kernel
theorem lp_k3 : laP 2200 [.inl (ae_k 1)] 2217 laLv [] = true := by decide +kernel
theorem lp_a1 : laP 2204 [] 2205 laLv [.inr (0, 0)] = true := by decide +kernel
theorem lp_a2a : laP 2208 [.inl (ae_k (-3))] 2209 laLv [.inr (0, 99), .inl (ae_k (-3))] = true := by decide +kernel
theorem lp_a2b : laP 2208 [.inl (ae_k 1)] 2209 laLv [.inr (0, 99), .inl (ae_k 1)] = true := by decide +kernel
theorem lp_a3a : laP 2212 [.inl (ae_k (-3)), .inl (ae_k (-3))] 2217 laLv [] = true := by decide +kernel
theorem lp_a3b : laP 2212 [.inl (ae_k 1), .inl (ae_k 1)] 2217 laLv [] = true := by decide +kernel
end
section SIDES
variable {al : List Nat} {ws w : va_W} {L : Nat} {i : Int} {ρ : List Int}
theorem ai00 {q : aInst} (hf : E.2.2.2.1.category = 1) (hT : ∀ σ : List Int, aTb E σ aTabs) (hy : q.1.1 < mj_lawNo) (h : ak_inst (aG00 []) 100000 q = true) : aCO E al (aG00 []) jJ0 q.1 :=
  ak_inst_ok (G := aG00 []) hf (by show aLay.length < 1000000; decide +kernel) (by show aRok aRules = true; decide +kernel) jJ0_prot (fun c hc => by cases hc) hT hy h
theorem aLay_00 : ∃ fs, aLay[(0 : Nat)]? = some (.inl (5, fs)) ∧ fs[(2 : Nat)]? = some (.inr (0, 1)) := ⟨_, rfl, rfl⟩
theorem wd_sl {c ci i : Nat} {fs : List (Nat ⊕ (Int × Int))} {b : Int × Int} (h : aWd E al aLay w) (l1 : aLay[c]? = some (.inl (ci, fs))) (l2 : fs[i]? = some (.inr b)) : aSl w c i (jS w c i) ∧ b.1 ≤ jS w c i ∧ jS w c i ≤ b.2 := by
  obtain ⟨q, h1, vs, h2, h3, h4⟩ := h.2 c _ l1
  obtain ⟨a, e⟩ := q
  have h2 : e = _ := h2
  subst h2
  obtain ⟨v, g1, n, rfl, g2⟩ := h4 i _ l2
  have hs : aSl w c i n.toInt := Or.inl ⟨a, _, vs, n, h1, g1, rfl⟩
  rw [jS.sl hs]
  exact ⟨hs, g2⟩
theorem wd_02 (h : aWd E al aLay w) : aSl w 0 2 (jS w 0 2) ∧ 0 ≤ jS w 0 2 ∧ jS w 0 2 ≤ 1 := by
  obtain ⟨fs, l1, l2⟩ := aLay_00
  exact wd_sl h l1 l2
theorem kn1 {c i : Nat} {x : Int} {e : ae} (hc : c < 1000000) (hr : e.1.all (fun q => decide (q.1 < ρ.length)) = true) (he : ae_ev ρ e = x) (h : aSl ws c i x) : aH1 ρ ws ((c, ae_k (i : Int)), e) :=
  aH1.mk hc rfl hr (by rw [ae_ev_k]; omega) (by rw [ae_ev_k, he, Int.toNat_natCast]; exact h)
theorem ck_mj (hf : E.2.2.2.1.category = 1) (hT : ∀ σ : List Int, aTb E σ aTabs) (a5 : aWd E al aLay ws) (a6 : aRs aRules ws) (a7 : jJ0 ws) {AS : List Value} (ha : gL E al ρ [.inr (0, 0)] AS) :
    MJ E 85 0 0 (mj_in0 177 AS ws) (fun v w => ∃ z : Int32, v = some (.int z) ∧ z.toInt = 1 ∧ aWd E al aLay w ∧ aRs aRules w ∧ jJ0 w ∧ hD ckM ws w ∧ jS w 0 2 = 1) := by
  refine (ai00 hf hT (q := ai_ck) (by decide) ck_chk [] AS ws (hEv.ok (σ := []) (env := []) trivial) aFs.nil ha aHh.nil a5 a6 a7 85 (by decide)).weaken (Nat.le_refl _) (Nat.le_refl _) (Nat.le_refl _) (fun v w h => ?_)
  obtain ⟨cs, hcs, r, h1, h2, h3, h4, h5, h6, h7, h8, h9⟩ := h
  have hcs := List.mem_singleton.mp hcs
  subst hcs
  obtain ⟨u, rfl, z, rfl, hz⟩ := h3
  have e2 := (h4.sl (c := 0) (i := ae_k 2) (v := ae_k 1) (by simp) (by decide)).2
  rw [ae_ev_k, ae_ev_k] at e2
  exact ⟨z, rfl, hz.of_k, h5, h6, h7, ⟨h8, fun k hk => h9 k hk⟩, jS.sl e2⟩
theorem ca_mj (hf : E.2.2.2.1.category = 1) (hT : ∀ σ : List Int, aTb E σ aTabs) (a5 : aWd E al aLay ws) (a6 : aRs aRules ws) (a7 : jJ0 ws) {AS : List Value} (ha : gL E al ρ [.inr (0, 0)] AS) :
    MJ E 85 0 0 (mj_in0 180 AS ws) (fun v w => ∃ z : Int32, v = some (.int z) ∧ aWd E al aLay w ∧ aRs aRules w ∧ jJ0 w ∧ hD caM ws w ∧ ((jS ws 0 2 = 0 ∧ z.toInt = -3) ∨ (jS ws 0 2 = 1 ∧ z.toInt = 1))) := by
  obtain ⟨s1, s2, s3⟩ := wd_02 a5
  have hb : jS ws 0 2 = 0 ∨ jS ws 0 2 = 1 := by omega
  rcases hb with hb | hb
  · rw [hb] at s1
    refine (ai00 hf hT (q := ai_ca0) (by decide) ca0_chk [] AS ws (hEv.ok (σ := []) (env := []) trivial) aFs.nil ha (aHh.cons (kn1 (by decide) rfl (by rw [ae_ev_k]) s1) aHh.nil) a5 a6 a7 85 (by decide)).weaken (Nat.le_refl _) (Nat.le_refl _) (Nat.le_refl _) (fun v w h => ?_)
    obtain ⟨cs, hcs, r, h1, h2, h3, h4, h5, h6, h7, h8, h9⟩ := h
    have hcs := List.mem_singleton.mp hcs
    subst hcs
    obtain ⟨u, rfl, z, rfl, hz⟩ := h3
    have d : hD [] ws w := ⟨h8, fun k hk => h9 k hk⟩
    exact ⟨z, rfl, h5, h6, h7, d.more (by simp), Or.inl ⟨hb, hz.of_k⟩⟩
  · rw [hb] at s1
    refine (ai00 hf hT (q := ai_ca1) (by decide) ca1_chk [] AS ws (hEv.ok (σ := []) (env := []) trivial) aFs.nil ha (aHh.cons (kn1 (by decide) rfl (by rw [ae_ev_k]) s1) aHh.nil) a5 a6 a7 85 (by decide)).weaken (Nat.le_refl _) (Nat.le_refl _) (Nat.le_refl _) (fun v w h => ?_)
    obtain ⟨cs, hcs, r, h1, h2, h3, h4, h5, h6, h7, h8, h9⟩ := h
    have hcs := List.mem_singleton.mp hcs
    subst hcs
    obtain ⟨u, rfl, z, rfl, hz⟩ := h3
    exact ⟨z, rfl, h5, h6, h7, ⟨h8, fun k hk => h9 k hk⟩, Or.inr ⟨hb, hz.of_k⟩⟩
set_option maxRecDepth 100000 in
/-- both keep -/
theorem la_keepH (hf : E.2.2.2.1.category = 1) (hT : ∀ σ : List Int, aTb E σ aTabs) (hL : L ≤ 3584) (H1 : hOkL E al laG1 (fun _ => True) [(L : Int), i] 2) (h : laI E al L i w) (hj : jJ w)
    (hq : ∀ w2, laI E al L i w2 → jJ w2 → hG E al 86 320 2217 laLv [] [(L : Int), i] w2 Q) : hG E al 86 320 2191 laLv [] [(L : Int), i] w Q := by
  refine la_glue H1 hL lp_k1 h ?_
  refine law_callV (d := 85) (y2 := 177) (as := [.inr (0, 0)]) (rest := []) mj_li_law H1 (by rfl) (h.hW hL) (fun AS ha => ck_mj hf hT h.2.1 h.2.2 hj.1 ha) (fun z w1 hR => ?_)
  obtain ⟨hz, g1, g2, g3, g4, g5⟩ := hR
  have h1 : laI E al L i w1 := ⟨h.1, g1, g2⟩
  rw [hz]
  refine la_glue H1 hL lp_k2 h1 ?_
  refine law_callV (d := 85) (y2 := 316) (as := [.inr (0, 99)]) (rest := []) mj_li_law H1 (by rfl) (h1.hW hL) (fun AS ha => (keep_mj hf hT g1 g2 g3 ha).weaken (by decide) (Nat.le_refl _) (Nat.le_refl _) (fun v w h => h)) (fun z w2 hR => ?_)
  obtain ⟨hz, m1, m2, m3, m4, m5, m6⟩ := hR
  have h2 : laI E al L i w2 := ⟨h.1, m1, m2⟩
  rw [hz]
  refine la_glue H1 hL lp_k3 h2 (hq w2 h2 ⟨m3, ?_⟩)
  show jS w2 0 2 = jS w2 99 59
  rw [m6, jS.at (m4.2 0 (by decide))]
  exact g5
set_option maxRecDepth 100000 in
/-- both ask for what was kept -/
theorem la_againH (hf : E.2.2.2.1.category = 1) (hT : ∀ σ : List Int, aTb E σ aTabs) (hL : L ≤ 3584) (H1 : hOkL E al laG1 (fun _ => True) [(L : Int), i] 2) (h : laI E al L i w) (hj : jJ w)
    (hq : ∀ w2, laI E al L i w2 → jJ w2 → hG E al 86 320 2217 laLv [] [(L : Int), i] w2 Q) : hG E al 86 320 2204 laLv [] [(L : Int), i] w Q := by
  have jx0 : jS w 0 2 = jS w 99 59 := hj.2
  refine la_glue H1 hL lp_a1 h ?_
  refine law_callV (d := 85) (y2 := 180) (as := [.inr (0, 0)]) (rest := []) mj_li_law H1 (by rfl) (h.hW hL) (fun AS ha => ca_mj hf hT h.2.1 h.2.2 hj.1 ha) (fun z w1 hR => ?_)
  obtain ⟨g1, g2, g3, g4, g5⟩ := hR
  have h1 : laI E al L i w1 := ⟨h.1, g1, g2⟩
  have e99 : jS w1 99 59 = jS w 99 59 := jS.at (g4.2 99 (by decide))
  have e0 : jS w1 0 2 = jS w 0 2 := jS.at (g4.2 0 (by decide))
  have two : ∀ (x : Int), z.toInt = x → (∀ z2 : Int32, ((jS w1 99 59 = 0 ∧ z2.toInt = -3) ∨ (jS w1 99 59 = 1 ∧ z2.toInt = 1)) → z2.toInt = x) → laP 2208 [.inl (ae_k x)] 2209 laLv [.inr (0, 99), .inl (ae_k x)] = true → laP 2212 [.inl (ae_k x), .inl (ae_k x)] 2217 laLv [] = true → hG E al 86 320 2208 laLv [.inl (ae_k z.toInt)] [(L : Int), i] w1 Q := by
    intro x ex hx2 p1 p2
    rw [ex]
    refine la_glue H1 hL p1 h1 ?_
    refine law_callV (d := 85) (y2 := 319) (as := [.inr (0, 99)]) (rest := [.inl (ae_k x)]) mj_li_law H1 (by rfl) (h1.hW hL) (fun AS ha => (again_mj hf hT g1 g2 g3 ha).weaken (by decide) (Nat.le_refl _) (Nat.le_refl _) (fun v w h => h)) (fun z2 w2 hR => ?_)
    obtain ⟨m1, m2, m3, m4, m5, m6⟩ := hR
    have h2 : laI E al L i w2 := ⟨h.1, m1, m2⟩
    rw [hx2 z2 (by
      rcases m6 with ⟨y1, y2, -⟩ | ⟨y1, y2, -⟩
      · exact Or.inl ⟨y1, y2⟩
      · exact Or.inr ⟨y1, y2⟩)]
    refine la_glue H1 hL p2 h2 (hq w2 h2 ⟨m3, ?_⟩)
    show jS w2 0 2 = jS w2 99 59
    rw [m5, jS.at (m4.2 0 (by decide)), e0, e99]
    exact jx0
  rcases g5 with ⟨y1, y2⟩ | ⟨y1, y2⟩
  · exact two (-3) y2 (fun z2 h => by omega) lp_a2a lp_a3a
  · exact two 1 y2 (fun z2 h => by omega) lp_a2b lp_a3b
end SIDES
/-- from the head of the law's loop -/
theorem la_it {al : List Nat} (hf : E.2.2.2.1.category = 1) (hT : ∀ σ : List Int, aTb E σ aTabs) {L : Nat} (hL : L ≤ 3584) (hE : (E.2.2.1 2).2.1 = L) : ∀ (N : Nat) (i : Int) (w : va_W), (L : Int) - i < N → i ≤ L → laI E al L i w → jJ w → hG E al 86 320 18 laLv [] [(L : Int), i] w (fun v _ => v = some (.int 1)) := by
  intro N
  induction N with
  | zero => intro i w h1 h2; omega
  | succ N ih =>
    intro i w hN hi h hj
    have H : hOkL E al laG jJ [(L : Int), i] 2 := la_H hf hT hL hE
    have H1 : hOkL E al laG1 (fun _ => True) [(L : Int), i] 2 := la_H1 hf hT hL hE
    have nxt : i + 7 ≤ L → ∀ w2, laI E al L i w2 → jJ w2 → hG E al 86 320 2217 laLv [] [(L : Int), i] w2 (fun v _ => v = some (.int 1)) := by
      intro h7 w2 g gj
      refine la_glue H1 hL la_kn g ?_
      have := ih (i + 7) w2 (by omega) (by omega) ⟨by have := g.1; omega, g.2⟩ gj
      refine (this.toK rfl rfl (lv2 := lvE [(L : Int), i] laLv7) (st2 := []) ?_ rfl).ofK rfl rfl
      simp [lvE, avE, laLv, laLv7, ae_s, ae_inc, ae_k, ae_ev, ae_el]
    refine law_go (p := (18, laE, [([(0, -1), (1, 1)], 0)], [], laLv, [])) mj_li_law H rfl laIs laBs la_kh (fun T hT2 => ?_) la_kl ⟨(h.hW hL).1, aFs.cons rfl (by simp [ae_ev, ae_el]; omega) aFs.nil, aHh.nil, h.2.1, h.2.2, hj⟩ (fun T hT2 σ w2 k1 k2 k3 k4 => ?_)
    · obtain ⟨t, ht, rfl⟩ := List.mem_map.mp hT2
      exact ⟨_, la_kts t ht⟩
    · rcases List.mem_cons.mp hT2 with rfl | hT2
      · have one : ∀ n : Int32, n.toInt = 1 → n = 1 := fun n hn => i32_inj (hn.trans (by decide))
        exact law_ret (pc := 2224) (ty := .boolean) (x := 1) mj_li_law (by decide +kernel) (by decide +kernel) (aV.k 1) (fun n hn => by rw [one n hn]; decide) (fun n hn => by rw [one n hn])
      · obtain ⟨t, ht, rfl⟩ := List.mem_map.mp hT2
        have hσ := hp_same k1 k2.1.1 rfl
        subst hσ
        have h7 : i + 7 ≤ L := by
          have := k2.2.1.ev (f := ([(0, (-1)), (1, 1)], 7)) List.mem_cons_self
          simp [ae_ev, ae_el] at this
          omega
        have g : laI E al L i w2 := ⟨h.1, k2.2.2.2.1, k2.2.2.2.2.1⟩
        have gj : jJ w2 := k2.2.2.2.2.2
        simp only [laSp, List.mem_cons, List.not_mem_nil, or_false] at ht
        rcases ht with rfl | rfl | rfl
        · exact nxt h7 w2 g gj
        · exact la_keepH hf hT hL H1 g gj (nxt h7)
        · exact la_againH hf hT hL H1 g gj (nxt h7)
theorem la_start {al : List Nat} {ws : va_W} (hf : E.2.2.2.1.category = 1) (hT : ∀ σ : List Int, aTb E σ aTabs) {L : Nat} (hL : L ≤ 3584) (hE : (E.2.2.1 2).2.1 = L) (hw : aWd E al aLay ws) (hr : aRs aRules ws) (hj : jJ ws) : hG E al 86 320 16 laLv0 [] [(L : Int)] ws (fun v _ => v = some (.int 1)) := by
  have H1 : hOkL E al laG1 (fun _ => True) [(L : Int)] 1 :=
    ⟨hf, by show aLay.length < 1000000; decide +kernel, by show aRok aRules = true; decide +kernel, fun _ _ _ h => h, (fun c hc => by cases hc), fun σ hσ => la_tb hT hL hE ((hσ 0 (by decide)).trans rfl)⟩
  refine law_go (p := (16, [(0, 3584)], [], [], laLv0, [])) mj_li_law H1 rfl [] [(18, [(0, 3584)], [], [(0, .inr (3, 2)), (1, .inr (0, 0)), (2, .inr (0, 99)), (3, .inl (ae_k 0))], [], [], [], mMU)] la_ke (fun T hT => by cases hT) (by rfl) ⟨hEv.ok (σ := [(L : Int)]) (env := [(0, 3584)]) ⟨⟨by show (0 : Int) ≤ L; omega, by show (L : Int) ≤ 3584; omega⟩, trivial⟩, aFs.nil, aHh.nil, hw, hr, trivial⟩ (fun T hT2 σ w2 k1 k2 k3 k4 => ?_)
  have hT2 := List.mem_singleton.mp hT2
  subst hT2
  have e := hD.eq (ws := ws) (w := w2) ⟨k3, fun k hk => k4 k hk⟩
  subst e
  have hσ := hp_same k1 k2.1.1 rfl
  subst hσ
  refine ((la_it hf hT hL hE (L + 1) 0 w2 (by omega) (by omega) ⟨by omega, hw, hr⟩ hj).toK rfl rfl (lv2 := lvE [(L : Int)] [(0, .inr (3, 2)), (1, .inr (0, 0)), (2, .inr (0, 99)), (3, .inl (ae_k 0))]) (st2 := []) ?_ rfl).ofK rfl rfl
  simp [lvE, avE, laLv, ae_s, ae_k, ae_ev, ae_el]
/-- an object is made: new, dup, its constructor -/
theorem la_make (hf : E.2.2.2.1.category = 1) {pc ix ix2 ci pl y2 pl2 : Nat} {w w1 : cx_w} {fs0 : List cx_v} {v : Option cx_v} (d0 : decode (mj_b 320) pc = .ok (.new ix, 3)) (d1 : decode (mj_b 320) (pc + 3) = .ok (.dup, 1)) (d2 : decode (mj_b 320) (pc + 4) = .ok (.invokespecial ix2, 3))
    (hn : (mj_cn 320, ix, ci, pl) ∈ mj_nl) (hci : ci < 7) (hm : (mj_cn 320, ix2, 2, y2, pl2) ∈ mj_ml) (hy2 : y2 < mj_lawNo) (hc : 1 ≤ mj_l y2 ∧ mj_l y2 ≤ 100 ∧ (mj_m y2).2.2.2.2.2.2 = 0) (hfs : cx_all (cx_dvs ci) = some fs0)
    (hr : cx_run 20000 20 y2 (mj_kd y2) [(0, .inr (0, w.length))] [] (w ++ [.inl (ci, fs0)]) = some (v, w1)) (hv : v = none) :
    ∃ cn sn : Nat, w1.length = w.length + 1 + cn ∧ cx_sz w1 = cx_sz w + mj_nf ci + sn ∧ ∀ (al : List Nat) (lv : List (Nat × Value)) (ws : va_W) (mc ms : Nat) (Q : Option Value → va_W → Prop), cx_W E al w ws →
      (∀ (ext : List Nat) (q : Nat) (ws2 : va_W), (al ++ ext)[w.length]? = some q → cx_W E (al ++ ext) w1 ws2 → MJ E 86 mc ms (320, pc + 7, lv, [.ref q], ws2) Q) → MJ E 86 (1 + cn + mc) (mj_nf ci + sn + ms) (320, pc, lv, [], ws) Q := by
  subst hv
  obtain ⟨cn, sn, e1, e2, hM⟩ := cx_run_ok hf 20000 20 y2 (mj_kd y2) _ _ _ _ w1 hr hy2 (mj_kd_cok y2).1
  rw [List.length_append] at e1
  rw [cx_sz_app] at e2
  refine ⟨cn, sn, e1, ?_, fun al lv ws mc ms Q hW hQ => ?_⟩
  · have : cx_sz [.inl (ci, fs0)] = mj_nf ci := rfl
    omega
  have hal : al.length = w.length := by rw [← hW.1, List.length_map]; exact hW.2.1.symm
  refine MJ.al d0 (pc1 := pc + 3) (w := mj_nf ci) (rest := []) ⟨rfl, ci, pl, _, hn, hci, rfl, rfl⟩ (mc2 := cn + mc) (ms2 := sn + ms) (by omega) (by omega) (fun q _ => ?_)
  refine MJ.nx d1 ⟨rfl, .ref q, [], rfl, rfl, rfl⟩ ?_
  have hq : (al ++ [q])[w.length]? = some q := by rw [List.getElem?_append_right (by omega), hal, Nat.sub_self]; rfl
  have k1 : cx_L E (al ++ [q]) [.inr (0, w.length)] [.ref q] := ⟨.ref q, [], rfl, ⟨q, hq, rfl⟩, rfl⟩
  have hW2 := hW.app (q := q) (c := .inl (ci, fs0)) ⟨_, rfl, cx_all_ok (E := E) (al := al) (mj_fty ci) _ fs0 hfs⟩
  have h1 := hM (al ++ [q]) (lv_args 0 [.ref q]) [] _ (k1.args hf 0) rfl hW2
  rw [(mj_kd_cok y2).2] at h1
  refine MJ.cl d2 (y2 := y2) (as := [.ref q]) (rest := [.ref q]) ⟨rfl, Or.inl ⟨y2, pl2, [], q, [.ref q], Or.inl hm, rfl, ⟨hy2, by rw [hc.2.2]; rfl, hc.1, hc.2.1, by show (1 : Nat) + 0 ≤ 8; omega⟩, rfl⟩⟩ (d2 := 85) (mc2 := cn) (ms2 := sn) (mc3 := mc) (ms3 := ms) rfl rfl rfl (h1.weaken (by decide) (Nat.le_refl _) (Nat.le_refl _) (fun _ _ h => h)) (fun v2 ws2 hv2 => ?_)
  obtain ⟨ext, o1, o2⟩ := hv2
  have o1 : v2 = none := o1
  subst o1
  rw [List.append_assoc] at o2
  exact hQ ([q] ++ ext) q ws2 (by rw [← List.append_assoc, List.getElem?_append_left (List.getElem?_eq_some_iff.mp hq).1]; exact hq) o2
theorem la_n0 : (cx_made.get cx_made_some).1 = none := by decide +kernel
theorem la_n1 : (cx_md2.get cx_md2_some).1 = none := by decide +kernel
theorem la_f5 : (cx_all (cx_dvs 5)).isSome = true := by decide +kernel
theorem la_f6 : (cx_all (cx_dvs 6)).isSome = true := by decide +kernel
theorem la_getD {α : Type} {o : Option (List α)} (h : o.isSome = true) : o = some (o.getD []) := by
  cases o with
  | none => cases h
  | some x => rfl
theorem la_pair {α β : Type} {p : Option α × β} (h : p.1 = none) : p = (none, p.2) := by
  obtain ⟨a, b⟩ := p
  cases h
  rfl
theorem la_m5 : cx_run 20000 20 0 (mj_kd 0) [(0, .inr (0, ([] : cx_w).length))] [] ([] ++ [.inl (5, (cx_all (cx_dvs 5)).getD [])]) = some (none, cx_w1) := by
  have h : cx_made = some (none, (cx_made.get cx_made_some).2) := (Option.some_get cx_made_some).symm.trans (congrArg some (la_pair la_n0))
  exact h
theorem la_m6 : cx_run 20000 20 181 (mj_kd 181) [(0, .inr (0, cx_w1.length))] [] (cx_w1 ++ [.inl (6, (cx_all (cx_dvs 6)).getD [])]) = some (none, cx_w2) := by
  have h : cx_md2 = some (none, (cx_md2.get cx_md2_some).2) := (Option.some_get cx_md2_some).symm.trans (congrArg some (la_pair la_n1))
  exact h
theorem la_nl1 : (mj_cn 320, 7, 5, 127) ∈ mj_nl := by decide +kernel
theorem la_nl2 : (mj_cn 320, 10, 6, 1134) ∈ mj_nl := by decide +kernel
theorem la_ml1 : (mj_cn 320, 9, 2, 0, 129) ∈ mj_ml := by decide +kernel
theorem la_ml2 : (mj_cn 320, 12, 2, 181, 1136) ∈ mj_ml := by decide +kernel
theorem la_d0 : decode (mj_b 320) 0 = .ok (.new 7, 3) := by decide +kernel
theorem la_d3 : decode (mj_b 320) 3 = .ok (.dup, 1) := by decide +kernel
theorem la_d4 : decode (mj_b 320) 4 = .ok (.invokespecial 9, 3) := by decide +kernel
theorem la_d7 : decode (mj_b 320) 7 = .ok (.astore_n 1, 1) := by decide +kernel
theorem la_d8 : decode (mj_b 320) 8 = .ok (.new 10, 3) := by decide +kernel
theorem la_d11 : decode (mj_b 320) 11 = .ok (.dup, 1) := by decide +kernel
theorem la_d12 : decode (mj_b 320) 12 = .ok (.invokespecial 12, 3) := by decide +kernel
theorem la_d15 : decode (mj_b 320) 15 = .ok (.astore_n 2, 1) := by decide +kernel
theorem la_l4 : mj_l 320 = 4 := by decide +kernel
/-- the law, from its entry -/
theorem la_all (hf : E.2.2.2.1.category = 1) (hT : ∀ σ : List Int, aTb E σ aTabs) {L : Nat} (hL : L ≤ 3584) (hE : (E.2.2.1 2).2.1 = L) :
    ∃ mc ms : Nat, mc ≤ 600000 ∧ ms ≤ 7302249 ∧ MJ E 86 mc ms (320, 0, [(0, .ref (E.2.2.1 2).1)], [], []) (fun v _ => v = some (.int 1)) := by
  obtain ⟨c1, s1, a1, a2, h1⟩ := la_make (E := E) hf (w := []) la_d0 la_d3 la_d4 la_nl1 (by decide) la_ml1 (by decide) (by decide +kernel) (la_getD la_f5) la_m5 rfl
  obtain ⟨c2, s2, b1, b2, h2⟩ := la_make (E := E) hf (w := cx_w1) la_d8 la_d11 la_d12 la_nl2 (by decide) la_ml2 (by decide) (by decide +kernel) (la_getD la_f6) la_m6 rfl
  obtain ⟨z1, z2, z3⟩ := cx_w2_size
  have y1 : ([] : cx_w).length = 0 := rfl
  have y2 : cx_sz ([] : cx_w) = 0 := rfl
  refine ⟨1 + c1 + (1 + c2 + 0), mj_nf 5 + s1 + (mj_nf 6 + s2 + 0), by omega, by omega, h1 [] _ [] _ _ _ ⟨rfl, rfl, fun k c q h _ => by cases h⟩ (fun ext q ws2 hq hW2 => ?_)⟩
  refine MJ.nx la_d7 ⟨rfl, by rw [la_l4]; decide, q, [], rfl, rfl⟩ ?_
  refine h2 _ _ ws2 0 0 _ hW2 (fun ext2 q2 ws3 hq2 hW3 => ?_)
  refine MJ.nx la_d15 ⟨rfl, by rw [la_l4]; decide, q2, [], rfl, rfl⟩ ?_
  have hq : ([] ++ ext)[(0 : Nat)]? = some q := hq
  have hq3 : ([] ++ ext ++ ext2)[(0 : Nat)]? = some q := by rw [List.getElem?_append_left (List.getElem?_eq_some_iff.mp hq).1]; exact hq
  rw [z1] at hq2
  refine la_start hf hT hL hE (aWd_start hW3) (cx_rules hW3) (cx_J hW3) _ [] (fun p hp => ?_) rfl
  simp only [laLv0, List.mem_cons, List.not_mem_nil, or_false] at hp
  rcases hp with rfl | rfl | rfl
  · exact ⟨.ref (E.2.2.1 2).1, by simp [mj_s1, Value.category], by decide, rfl⟩
  · exact ⟨.ref q, by simp [mj_s1, Value.category], q, hq3, rfl⟩
  · exact ⟨.ref q2, by simp [mj_s1], q2, hq2, rfl⟩
end LAW
