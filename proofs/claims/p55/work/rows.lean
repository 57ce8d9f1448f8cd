section
-- ===== PART A: goes FIRST, ahead of the names: the tables' words, and 'selects' of the private methods out of them =====
/-- a private method of a class that the tables say can be made, by its rows of tables_1 -/
def lw_okq (q : MethodName × Nat) : Prop := (q.1.cls ≠ "java/lang/invoke/MethodHandle" ∧ q.1.cls ≠ "java/lang/invoke/VarHandle") ∧ Cond.instantiable q.1.cls q.2 ∈ tables_1 ∧ Cond.privateMethod q.1 ∈ tables_1 ∧ Cond.instanceMethod q.1 ∈ tables_1
theorem lw_p0 : lw_okq (⟨"FriarLists$Lists", "dieOfSickness", "(I)V"⟩, 20) := ⟨⟨by decide +kernel, by decide +kernel⟩, List.mem_of_getElem? (i := 24) (by decide +kernel), List.mem_of_getElem? (i := 328) (by decide +kernel), List.mem_of_getElem? (i := 329) (by decide +kernel)⟩
theorem lw_p1 : lw_okq (⟨"FriarLists$Lists", "comeToTheMole", "(I)V"⟩, 20) := ⟨⟨by decide +kernel, by decide +kernel⟩, List.mem_of_getElem? (i := 24) (by decide +kernel), List.mem_of_getElem? (i := 340) (by decide +kernel), List.mem_of_getElem? (i := 341) (by decide +kernel)⟩
theorem lw_p2 : lw_okq (⟨"FriarLists$Lists", "factOf", "(III)I"⟩, 20) := ⟨⟨by decide +kernel, by decide +kernel⟩, List.mem_of_getElem? (i := 24) (by decide +kernel), List.mem_of_getElem? (i := 385) (by decide +kernel), List.mem_of_getElem? (i := 386) (by decide +kernel)⟩
theorem lw_p3 : lw_okq (⟨"FriarLists$Lists", "greatestGroup", "(II)I"⟩, 20) := ⟨⟨by decide +kernel, by decide +kernel⟩, List.mem_of_getElem? (i := 24) (by decide +kernel), List.mem_of_getElem? (i := 491) (by decide +kernel), List.mem_of_getElem? (i := 492) (by decide +kernel)⟩
theorem lw_p4 : lw_okq (⟨"FriarLists$Lists", "groupOf", "(III)I"⟩, 20) := ⟨⟨by decide +kernel, by decide +kernel⟩, List.mem_of_getElem? (i := 24) (by decide +kernel), List.mem_of_getElem? (i := 495) (by decide +kernel), List.mem_of_getElem? (i := 496) (by decide +kernel)⟩
theorem lw_p5 : lw_okq (⟨"FriarLists$Lists", "answerTo", "(II)I"⟩, 20) := ⟨⟨by decide +kernel, by decide +kernel⟩, List.mem_of_getElem? (i := 24) (by decide +kernel), List.mem_of_getElem? (i := 499) (by decide +kernel), List.mem_of_getElem? (i := 500) (by decide +kernel)⟩
theorem lw_p6 : lw_okq (⟨"FriarLists$Lists", "rulesOf", "(I)I"⟩, 20) := ⟨⟨by decide +kernel, by decide +kernel⟩, List.mem_of_getElem? (i := 24) (by decide +kernel), List.mem_of_getElem? (i := 547) (by decide +kernel), List.mem_of_getElem? (i := 548) (by decide +kernel)⟩
theorem lw_p7 : lw_okq (⟨"FriarLists$Lists", "firstLine", "(I)I"⟩, 20) := ⟨⟨by decide +kernel, by decide +kernel⟩, List.mem_of_getElem? (i := 24) (by decide +kernel), List.mem_of_getElem? (i := 551) (by decide +kernel), List.mem_of_getElem? (i := 552) (by decide +kernel)⟩
theorem lw_p8 : lw_okq (⟨"FriarLists$Lists", "endOfLines", "(I)I"⟩, 20) := ⟨⟨by decide +kernel, by decide +kernel⟩, List.mem_of_getElem? (i := 24) (by decide +kernel), List.mem_of_getElem? (i := 555) (by decide +kernel), List.mem_of_getElem? (i := 556) (by decide +kernel)⟩
theorem lw_p9 : lw_okq (⟨"FriarLists$Lists", "holds", "(III)Z"⟩, 20) := ⟨⟨by decide +kernel, by decide +kernel⟩, List.mem_of_getElem? (i := 24) (by decide +kernel), List.mem_of_getElem? (i := 559) (by decide +kernel), List.mem_of_getElem? (i := 560) (by decide +kernel)⟩
theorem lw_p10 : lw_okq (⟨"FriarLists$Lists", "isTrue", "(III)Z"⟩, 20) := ⟨⟨by decide +kernel, by decide +kernel⟩, List.mem_of_getElem? (i := 24) (by decide +kernel), List.mem_of_getElem? (i := 563) (by decide +kernel), List.mem_of_getElem? (i := 564) (by decide +kernel)⟩
theorem lw_p11 : lw_okq (⟨"FriarLists$TextReader", "lookOn", "()V"⟩, 6) := ⟨⟨by decide +kernel, by decide +kernel⟩, List.mem_of_getElem? (i := 192) (by decide +kernel), List.mem_of_getElem? (i := 588) (by decide +kernel), List.mem_of_getElem? (i := 589) (by decide +kernel)⟩
theorem lw_p12 : lw_okq (⟨"FriarLists$TextReader", "readsLine", "()Z"⟩, 6) := ⟨⟨by decide +kernel, by decide +kernel⟩, List.mem_of_getElem? (i := 192) (by decide +kernel), List.mem_of_getElem? (i := 596) (by decide +kernel), List.mem_of_getElem? (i := 597) (by decide +kernel)⟩
theorem lw_p13 : lw_okq (⟨"FriarLists$TextReader", "readsSort", "()I"⟩, 6) := ⟨⟨by decide +kernel, by decide +kernel⟩, List.mem_of_getElem? (i := 192) (by decide +kernel), List.mem_of_getElem? (i := 600) (by decide +kernel), List.mem_of_getElem? (i := 601) (by decide +kernel)⟩
theorem lw_p14 : lw_okq (⟨"FriarLists$TextReader", "passes", "(Ljava/lang/String;)Z"⟩, 6) := ⟨⟨by decide +kernel, by decide +kernel⟩, List.mem_of_getElem? (i := 192) (by decide +kernel), List.mem_of_getElem? (i := 605) (by decide +kernel), List.mem_of_getElem? (i := 606) (by decide +kernel)⟩
theorem lw_p15 : lw_okq (⟨"FriarLists$TextReader", "isAt", "(Ljava/lang/String;)Z"⟩, 6) := ⟨⟨by decide +kernel, by decide +kernel⟩, List.mem_of_getElem? (i := 192) (by decide +kernel), List.mem_of_getElem? (i := 609) (by decide +kernel), List.mem_of_getElem? (i := 610) (by decide +kernel)⟩
def lw_privs_1 : List (MethodName × Nat) := [(⟨"FriarLists$Lists", "dieOfSickness", "(I)V"⟩, 20), (⟨"FriarLists$Lists", "comeToTheMole", "(I)V"⟩, 20), (⟨"FriarLists$Lists", "factOf", "(III)I"⟩, 20), (⟨"FriarLists$Lists", "greatestGroup", "(II)I"⟩, 20), (⟨"FriarLists$Lists", "groupOf", "(III)I"⟩, 20), (⟨"FriarLists$Lists", "answerTo", "(II)I"⟩, 20), (⟨"FriarLists$Lists", "rulesOf", "(I)I"⟩, 20), (⟨"FriarLists$Lists", "firstLine", "(I)I"⟩, 20), (⟨"FriarLists$Lists", "endOfLines", "(I)I"⟩, 20), (⟨"FriarLists$Lists", "holds", "(III)Z"⟩, 20), (⟨"FriarLists$Lists", "isTrue", "(III)Z"⟩, 20), (⟨"FriarLists$TextReader", "lookOn", "()V"⟩, 6), (⟨"FriarLists$TextReader", "readsLine", "()Z"⟩, 6), (⟨"FriarLists$TextReader", "readsSort", "()I"⟩, 6), (⟨"FriarLists$TextReader", "passes", "(Ljava/lang/String;)Z"⟩, 6), (⟨"FriarLists$TextReader", "isAt", "(Ljava/lang/String;)Z"⟩, 6)]
theorem lw_r1 : ∀ q ∈ lw_privs_1, lw_okq q := List.forall_mem_cons.mpr ⟨lw_p0, List.forall_mem_cons.mpr ⟨lw_p1, List.forall_mem_cons.mpr ⟨lw_p2, List.forall_mem_cons.mpr ⟨lw_p3, List.forall_mem_cons.mpr ⟨lw_p4, List.forall_mem_cons.mpr ⟨lw_p5, List.forall_mem_cons.mpr ⟨lw_p6, List.forall_mem_cons.mpr ⟨lw_p7, List.forall_mem_cons.mpr ⟨lw_p8, List.forall_mem_cons.mpr ⟨lw_p9, List.forall_mem_cons.mpr ⟨lw_p10, List.forall_mem_cons.mpr ⟨lw_p11, List.forall_mem_cons.mpr ⟨lw_p12, List.forall_mem_cons.mpr ⟨lw_p13, List.forall_mem_cons.mpr ⟨lw_p14, List.forall_mem_cons.mpr ⟨lw_p15, fun _ h => absurd h List.not_mem_nil⟩⟩⟩⟩⟩⟩⟩⟩⟩⟩⟩⟩⟩⟩⟩⟩
theorem lw_p16 : lw_okq (⟨"FriarLists$TextReader", "readsNumber", "(I)I"⟩, 6) := ⟨⟨by decide +kernel, by decide +kernel⟩, List.mem_of_getElem? (i := 192) (by decide +kernel), List.mem_of_getElem? (i := 618) (by decide +kernel), List.mem_of_getElem? (i := 619) (by decide +kernel)⟩
theorem lw_p17 : lw_okq (⟨"FriarLists$TextReader", "readsCondition", "(I)Z"⟩, 6) := ⟨⟨by decide +kernel, by decide +kernel⟩, List.mem_of_getElem? (i := 192) (by decide +kernel), List.mem_of_getElem? (i := 626) (by decide +kernel), List.mem_of_getElem? (i := 627) (by decide +kernel)⟩
theorem lw_p18 : lw_okq (⟨"FriarLists$TextReader", "readsOne", "(I)Z"⟩, 6) := ⟨⟨by decide +kernel, by decide +kernel⟩, List.mem_of_getElem? (i := 192) (by decide +kernel), List.mem_of_getElem? (i := 630) (by decide +kernel), List.mem_of_getElem? (i := 631) (by decide +kernel)⟩
theorem lw_p19 : lw_okq (⟨"FriarLists$TextReader", "readsFact", "()I"⟩, 6) := ⟨⟨by decide +kernel, by decide +kernel⟩, List.mem_of_getElem? (i := 192) (by decide +kernel), List.mem_of_getElem? (i := 639) (by decide +kernel), List.mem_of_getElem? (i := 640) (by decide +kernel)⟩
theorem lw_p20 : lw_okq (⟨"FriarLists$TextReader", "addStep", "(I)V"⟩, 6) := ⟨⟨by decide +kernel, by decide +kernel⟩, List.mem_of_getElem? (i := 192) (by decide +kernel), List.mem_of_getElem? (i := 652) (by decide +kernel), List.mem_of_getElem? (i := 653) (by decide +kernel)⟩
theorem lw_p21 : lw_okq (⟨"FriarLists$Ways", "carryTo", "(LFriarLists$Lists;IIIII)V"⟩, 8) := ⟨⟨by decide +kernel, by decide +kernel⟩, List.mem_of_getElem? (i := 223) (by decide +kernel), List.mem_of_getElem? (i := 723) (by decide +kernel), List.mem_of_getElem? (i := 724) (by decide +kernel)⟩
theorem lw_p22 : lw_okq (⟨"FriarLists$Ways", "mostOf", "(LFriarLists$Lists;III)I"⟩, 8) := ⟨⟨by decide +kernel, by decide +kernel⟩, List.mem_of_getElem? (i := 223) (by decide +kernel), List.mem_of_getElem? (i := 727) (by decide +kernel), List.mem_of_getElem? (i := 728) (by decide +kernel)⟩
theorem lw_p23 : lw_okq (⟨"FriarLists$Ways", "carryOn", "(LFriarLists$Lists;IIIII)V"⟩, 8) := ⟨⟨by decide +kernel, by decide +kernel⟩, List.mem_of_getElem? (i := 223) (by decide +kernel), List.mem_of_getElem? (i := 734) (by decide +kernel), List.mem_of_getElem? (i := 735) (by decide +kernel)⟩
theorem lw_p24 : lw_okq (⟨"FriarLists$Ways", "walkTo", "(LFriarLists$Lists;IIIII)V"⟩, 8) := ⟨⟨by decide +kernel, by decide +kernel⟩, List.mem_of_getElem? (i := 223) (by decide +kernel), List.mem_of_getElem? (i := 746) (by decide +kernel), List.mem_of_getElem? (i := 747) (by decide +kernel)⟩
theorem lw_p25 : lw_okq (⟨"FriarLists$Ways", "takeIfBetter", "(III)V"⟩, 8) := ⟨⟨by decide +kernel, by decide +kernel⟩, List.mem_of_getElem? (i := 223) (by decide +kernel), List.mem_of_getElem? (i := 750) (by decide +kernel), List.mem_of_getElem? (i := 751) (by decide +kernel)⟩
theorem lw_p26 : lw_okq (⟨"FriarLists$Ways", "walkOn", "(LFriarLists$Lists;IIIII)V"⟩, 8) := ⟨⟨by decide +kernel, by decide +kernel⟩, List.mem_of_getElem? (i := 223) (by decide +kernel), List.mem_of_getElem? (i := 757) (by decide +kernel), List.mem_of_getElem? (i := 758) (by decide +kernel)⟩
theorem lw_p27 : lw_okq (⟨"FriarLists", "gatherOffers", "(I)V"⟩, 10) := ⟨⟨by decide +kernel, by decide +kernel⟩, List.mem_of_getElem? (i := 16) (by decide +kernel), List.mem_of_getElem? (i := 769) (by decide +kernel), List.mem_of_getElem? (i := 770) (by decide +kernel)⟩
theorem lw_p28 : lw_okq (⟨"FriarLists$Lists", "proofsWanted", "()I"⟩, 20) := ⟨⟨by decide +kernel, by decide +kernel⟩, List.mem_of_getElem? (i := 24) (by decide +kernel), List.mem_of_getElem? (i := 781) (by decide +kernel), List.mem_of_getElem? (i := 782) (by decide +kernel)⟩
theorem lw_p29 : lw_okq (⟨"FriarLists", "chooseOffers", "(I)I"⟩, 10) := ⟨⟨by decide +kernel, by decide +kernel⟩, List.mem_of_getElem? (i := 16) (by decide +kernel), List.mem_of_getElem? (i := 785) (by decide +kernel), List.mem_of_getElem? (i := 786) (by decide +kernel)⟩
theorem lw_p30 : lw_okq (⟨"FriarLists", "firstOffer", "(I)I"⟩, 10) := ⟨⟨by decide +kernel, by decide +kernel⟩, List.mem_of_getElem? (i := 16) (by decide +kernel), List.mem_of_getElem? (i := 789) (by decide +kernel), List.mem_of_getElem? (i := 790) (by decide +kernel)⟩
theorem lw_p31 : lw_okq (⟨"FriarLists", "isAhead", "(II)Z"⟩, 10) := ⟨⟨by decide +kernel, by decide +kernel⟩, List.mem_of_getElem? (i := 16) (by decide +kernel), List.mem_of_getElem? (i := 793) (by decide +kernel), List.mem_of_getElem? (i := 794) (by decide +kernel)⟩
def lw_privs_2 : List (MethodName × Nat) := [(⟨"FriarLists$TextReader", "readsNumber", "(I)I"⟩, 6), (⟨"FriarLists$TextReader", "readsCondition", "(I)Z"⟩, 6), (⟨"FriarLists$TextReader", "readsOne", "(I)Z"⟩, 6), (⟨"FriarLists$TextReader", "readsFact", "()I"⟩, 6), (⟨"FriarLists$TextReader", "addStep", "(I)V"⟩, 6), (⟨"FriarLists$Ways", "carryTo", "(LFriarLists$Lists;IIIII)V"⟩, 8), (⟨"FriarLists$Ways", "mostOf", "(LFriarLists$Lists;III)I"⟩, 8), (⟨"FriarLists$Ways", "carryOn", "(LFriarLists$Lists;IIIII)V"⟩, 8), (⟨"FriarLists$Ways", "walkTo", "(LFriarLists$Lists;IIIII)V"⟩, 8), (⟨"FriarLists$Ways", "takeIfBetter", "(III)V"⟩, 8), (⟨"FriarLists$Ways", "walkOn", "(LFriarLists$Lists;IIIII)V"⟩, 8), (⟨"FriarLists", "gatherOffers", "(I)V"⟩, 10), (⟨"FriarLists$Lists", "proofsWanted", "()I"⟩, 20), (⟨"FriarLists", "chooseOffers", "(I)I"⟩, 10), (⟨"FriarLists", "firstOffer", "(I)I"⟩, 10), (⟨"FriarLists", "isAhead", "(II)Z"⟩, 10)]
theorem lw_r2 : ∀ q ∈ lw_privs_2, lw_okq q := List.forall_mem_cons.mpr ⟨lw_p16, List.forall_mem_cons.mpr ⟨lw_p17, List.forall_mem_cons.mpr ⟨lw_p18, List.forall_mem_cons.mpr ⟨lw_p19, List.forall_mem_cons.mpr ⟨lw_p20, List.forall_mem_cons.mpr ⟨lw_p21, List.forall_mem_cons.mpr ⟨lw_p22, List.forall_mem_cons.mpr ⟨lw_p23, List.forall_mem_cons.mpr ⟨lw_p24, List.forall_mem_cons.mpr ⟨lw_p25, List.forall_mem_cons.mpr ⟨lw_p26, List.forall_mem_cons.mpr ⟨lw_p27, List.forall_mem_cons.mpr ⟨lw_p28, List.forall_mem_cons.mpr ⟨lw_p29, List.forall_mem_cons.mpr ⟨lw_p30, List.forall_mem_cons.mpr ⟨lw_p31, fun _ h => absurd h List.not_mem_nil⟩⟩⟩⟩⟩⟩⟩⟩⟩⟩⟩⟩⟩⟩⟩⟩
theorem lw_p32 : lw_okq (⟨"FriarLists", "writeRows", "(I)V"⟩, 10) := ⟨⟨by decide +kernel, by decide +kernel⟩, List.mem_of_getElem? (i := 16) (by decide +kernel), List.mem_of_getElem? (i := 797) (by decide +kernel), List.mem_of_getElem? (i := 798) (by decide +kernel)⟩
theorem lw_p33 : lw_okq (⟨"FriarLists$Lists", "isAboard", "(II)Z"⟩, 20) := ⟨⟨by decide +kernel, by decide +kernel⟩, List.mem_of_getElem? (i := 24) (by decide +kernel), List.mem_of_getElem? (i := 854) (by decide +kernel), List.mem_of_getElem? (i := 855) (by decide +kernel)⟩
theorem lw_p34 : lw_okq (⟨"FriarLists", "refusalOf", "(II)I"⟩, 10) := ⟨⟨by decide +kernel, by decide +kernel⟩, List.mem_of_getElem? (i := 16) (by decide +kernel), List.mem_of_getElem? (i := 914) (by decide +kernel), List.mem_of_getElem? (i := 915) (by decide +kernel)⟩
theorem lw_p35 : lw_okq (⟨"FriarLists", "isThing", "(II)Z"⟩, 10) := ⟨⟨by decide +kernel, by decide +kernel⟩, List.mem_of_getElem? (i := 16) (by decide +kernel), List.mem_of_getElem? (i := 927) (by decide +kernel), List.mem_of_getElem? (i := 928) (by decide +kernel)⟩
theorem lw_p36 : lw_okq (⟨"FriarLists", "noteRow", "(II)V"⟩, 10) := ⟨⟨by decide +kernel, by decide +kernel⟩, List.mem_of_getElem? (i := 16) (by decide +kernel), List.mem_of_getElem? (i := 931) (by decide +kernel), List.mem_of_getElem? (i := 932) (by decide +kernel)⟩
theorem lw_p37 : lw_okq (⟨"FriarLists", "takePaper", "(I)Z"⟩, 10) := ⟨⟨by decide +kernel, by decide +kernel⟩, List.mem_of_getElem? (i := 16) (by decide +kernel), List.mem_of_getElem? (i := 939) (by decide +kernel), List.mem_of_getElem? (i := 940) (by decide +kernel)⟩
theorem lw_p38 : lw_okq (⟨"FriarLists", "kindOf", "(II)I"⟩, 10) := ⟨⟨by decide +kernel, by decide +kernel⟩, List.mem_of_getElem? (i := 16) (by decide +kernel), List.mem_of_getElem? (i := 943) (by decide +kernel), List.mem_of_getElem? (i := 944) (by decide +kernel)⟩
theorem lw_p39 : lw_okq (⟨"FriarLists", "amountOf", "(II)I"⟩, 10) := ⟨⟨by decide +kernel, by decide +kernel⟩, List.mem_of_getElem? (i := 16) (by decide +kernel), List.mem_of_getElem? (i := 950) (by decide +kernel), List.mem_of_getElem? (i := 951) (by decide +kernel)⟩
theorem lw_p40 : lw_okq (⟨"FriarLists$Paper", "runs", "(IIII)I"⟩, 5) := ⟨⟨by decide +kernel, by decide +kernel⟩, List.mem_of_getElem? (i := 260) (by decide +kernel), List.mem_of_getElem? (i := 972) (by decide +kernel), List.mem_of_getElem? (i := 973) (by decide +kernel)⟩
theorem lw_p41 : lw_okq (⟨"FriarLists$Paper", "answers", "(III)I"⟩, 5) := ⟨⟨by decide +kernel, by decide +kernel⟩, List.mem_of_getElem? (i := 260) (by decide +kernel), List.mem_of_getElem? (i := 981) (by decide +kernel), List.mem_of_getElem? (i := 982) (by decide +kernel)⟩
theorem lw_p42 : lw_okq (⟨"FriarLists$Paper", "parts", "(II)I"⟩, 5) := ⟨⟨by decide +kernel, by decide +kernel⟩, List.mem_of_getElem? (i := 260) (by decide +kernel), List.mem_of_getElem? (i := 985) (by decide +kernel), List.mem_of_getElem? (i := 986) (by decide +kernel)⟩
theorem lw_p43 : lw_okq (⟨"FriarListsModel", "comesWeek", "()V"⟩, 62) := ⟨⟨by decide +kernel, by decide +kernel⟩, List.mem_of_getElem? (i := 1023) (by decide +kernel), List.mem_of_getElem? (i := 1225) (by decide +kernel), List.mem_of_getElem? (i := 1226) (by decide +kernel)⟩
theorem lw_p44 : lw_okq (⟨"FriarListsModel", "get", "(II)I"⟩, 62) := ⟨⟨by decide +kernel, by decide +kernel⟩, List.mem_of_getElem? (i := 1023) (by decide +kernel), List.mem_of_getElem? (i := 1229) (by decide +kernel), List.mem_of_getElem? (i := 1230) (by decide +kernel)⟩
theorem lw_p45 : lw_okq (⟨"FriarListsModel", "set", "(III)V"⟩, 62) := ⟨⟨by decide +kernel, by decide +kernel⟩, List.mem_of_getElem? (i := 1023) (by decide +kernel), List.mem_of_getElem? (i := 1233) (by decide +kernel), List.mem_of_getElem? (i := 1234) (by decide +kernel)⟩
theorem lw_p46 : lw_okq (⟨"FriarListsModel", "lands", "(I)V"⟩, 62) := ⟨⟨by decide +kernel, by decide +kernel⟩, List.mem_of_getElem? (i := 1023) (by decide +kernel), List.mem_of_getElem? (i := 1237) (by decide +kernel), List.mem_of_getElem? (i := 1238) (by decide +kernel)⟩
theorem lw_p47 : lw_okq (⟨"FriarListsModel", "isCaptive", "(I)Z"⟩, 62) := ⟨⟨by decide +kernel, by decide +kernel⟩, List.mem_of_getElem? (i := 1023) (by decide +kernel), List.mem_of_getElem? (i := 1252) (by decide +kernel), List.mem_of_getElem? (i := 1253) (by decide +kernel)⟩
def lw_privs_3 : List (MethodName × Nat) := [(⟨"FriarLists", "writeRows", "(I)V"⟩, 10), (⟨"FriarLists$Lists", "isAboard", "(II)Z"⟩, 20), (⟨"FriarLists", "refusalOf", "(II)I"⟩, 10), (⟨"FriarLists", "isThing", "(II)Z"⟩, 10), (⟨"FriarLists", "noteRow", "(II)V"⟩, 10), (⟨"FriarLists", "takePaper", "(I)Z"⟩, 10), (⟨"FriarLists", "kindOf", "(II)I"⟩, 10), (⟨"FriarLists", "amountOf", "(II)I"⟩, 10), (⟨"FriarLists$Paper", "runs", "(IIII)I"⟩, 5), (⟨"FriarLists$Paper", "answers", "(III)I"⟩, 5), (⟨"FriarLists$Paper", "parts", "(II)I"⟩, 5), (⟨"FriarListsModel", "comesWeek", "()V"⟩, 62), (⟨"FriarListsModel", "get", "(II)I"⟩, 62), (⟨"FriarListsModel", "set", "(III)V"⟩, 62), (⟨"FriarListsModel", "lands", "(I)V"⟩, 62), (⟨"FriarListsModel", "isCaptive", "(I)Z"⟩, 62)]
theorem lw_r3 : ∀ q ∈ lw_privs_3, lw_okq q := List.forall_mem_cons.mpr ⟨lw_p32, List.forall_mem_cons.mpr ⟨lw_p33, List.forall_mem_cons.mpr ⟨lw_p34, List.forall_mem_cons.mpr ⟨lw_p35, List.forall_mem_cons.mpr ⟨lw_p36, List.forall_mem_cons.mpr ⟨lw_p37, List.forall_mem_cons.mpr ⟨lw_p38, List.forall_mem_cons.mpr ⟨lw_p39, List.forall_mem_cons.mpr ⟨lw_p40, List.forall_mem_cons.mpr ⟨lw_p41, List.forall_mem_cons.mpr ⟨lw_p42, List.forall_mem_cons.mpr ⟨lw_p43, List.forall_mem_cons.mpr ⟨lw_p44, List.forall_mem_cons.mpr ⟨lw_p45, List.forall_mem_cons.mpr ⟨lw_p46, List.forall_mem_cons.mpr ⟨lw_p47, fun _ h => absurd h List.not_mem_nil⟩⟩⟩⟩⟩⟩⟩⟩⟩⟩⟩⟩⟩⟩⟩⟩
theorem lw_p48 : lw_okq (⟨"FriarListsModel", "ageIn", "(II)I"⟩, 62) := ⟨⟨by decide +kernel, by decide +kernel⟩, List.mem_of_getElem? (i := 1023) (by decide +kernel), List.mem_of_getElem? (i := 1259) (by decide +kernel), List.mem_of_getElem? (i := 1260) (by decide +kernel)⟩
theorem lw_p49 : lw_okq (⟨"FriarListsModel", "since", "(II)I"⟩, 62) := ⟨⟨by decide +kernel, by decide +kernel⟩, List.mem_of_getElem? (i := 1023) (by decide +kernel), List.mem_of_getElem? (i := 1263) (by decide +kernel), List.mem_of_getElem? (i := 1264) (by decide +kernel)⟩
theorem lw_p50 : lw_okq (⟨"FriarListsModel", "asks", "(II)I"⟩, 62) := ⟨⟨by decide +kernel, by decide +kernel⟩, List.mem_of_getElem? (i := 1023) (by decide +kernel), List.mem_of_getElem? (i := 1302) (by decide +kernel), List.mem_of_getElem? (i := 1303) (by decide +kernel)⟩
theorem lw_p51 : lw_okq (⟨"FriarListsModel", "keyOf", "(I)I"⟩, 62) := ⟨⟨by decide +kernel, by decide +kernel⟩, List.mem_of_getElem? (i := 1023) (by decide +kernel), List.mem_of_getElem? (i := 1314) (by decide +kernel), List.mem_of_getElem? (i := 1315) (by decide +kernel)⟩
theorem lw_p52 : lw_okq (⟨"FriarListsModel", "meantBy", "(II)I"⟩, 62) := ⟨⟨by decide +kernel, by decide +kernel⟩, List.mem_of_getElem? (i := 1023) (by decide +kernel), List.mem_of_getElem? (i := 1328) (by decide +kernel), List.mem_of_getElem? (i := 1329) (by decide +kernel)⟩
theorem lw_p53 : lw_okq (⟨"FriarListsModel", "alike", "(II)I"⟩, 62) := ⟨⟨by decide +kernel, by decide +kernel⟩, List.mem_of_getElem? (i := 1023) (by decide +kernel), List.mem_of_getElem? (i := 1339) (by decide +kernel), List.mem_of_getElem? (i := 1340) (by decide +kernel)⟩
theorem lw_p54 : lw_okq (⟨"FriarListsModel", "answerOf", "(II)I"⟩, 62) := ⟨⟨by decide +kernel, by decide +kernel⟩, List.mem_of_getElem? (i := 1023) (by decide +kernel), List.mem_of_getElem? (i := 1343) (by decide +kernel), List.mem_of_getElem? (i := 1344) (by decide +kernel)⟩
theorem lw_p55 : lw_okq (⟨"FriarListsModel", "lackOf", "(I)I"⟩, 62) := ⟨⟨by decide +kernel, by decide +kernel⟩, List.mem_of_getElem? (i := 1023) (by decide +kernel), List.mem_of_getElem? (i := 1359) (by decide +kernel), List.mem_of_getElem? (i := 1360) (by decide +kernel)⟩
theorem lw_p56 : lw_okq (⟨"FriarListsModel", "ahead", "(I)I"⟩, 62) := ⟨⟨by decide +kernel, by decide +kernel⟩, List.mem_of_getElem? (i := 1023) (by decide +kernel), List.mem_of_getElem? (i := 1363) (by decide +kernel), List.mem_of_getElem? (i := 1364) (by decide +kernel)⟩
theorem lw_p57 : lw_okq (⟨"FriarListsModel", "isLegacy", "(I)Z"⟩, 62) := ⟨⟨by decide +kernel, by decide +kernel⟩, List.mem_of_getElem? (i := 1023) (by decide +kernel), List.mem_of_getElem? (i := 1379) (by decide +kernel), List.mem_of_getElem? (i := 1380) (by decide +kernel)⟩
theorem lw_p58 : lw_okq (⟨"FriarListsModel", "amiss", "(I)I"⟩, 62) := ⟨⟨by decide +kernel, by decide +kernel⟩, List.mem_of_getElem? (i := 1023) (by decide +kernel), List.mem_of_getElem? (i := 1383) (by decide +kernel), List.mem_of_getElem? (i := 1384) (by decide +kernel)⟩
theorem lw_p59 : lw_okq (⟨"FriarListsModel", "mayBuy", "(III)Z"⟩, 62) := ⟨⟨by decide +kernel, by decide +kernel⟩, List.mem_of_getElem? (i := 1023) (by decide +kernel), List.mem_of_getElem? (i := 1387) (by decide +kernel), List.mem_of_getElem? (i := 1388) (by decide +kernel)⟩
theorem lw_p60 : lw_okq (⟨"FriarListsModel", "rulesIn", "(I)I"⟩, 62) := ⟨⟨by decide +kernel, by decide +kernel⟩, List.mem_of_getElem? (i := 1023) (by decide +kernel), List.mem_of_getElem? (i := 1391) (by decide +kernel), List.mem_of_getElem? (i := 1392) (by decide +kernel)⟩
theorem lw_p61 : lw_okq (⟨"FriarListsModel", "holds", "(IIII)Z"⟩, 62) := ⟨⟨by decide +kernel, by decide +kernel⟩, List.mem_of_getElem? (i := 1023) (by decide +kernel), List.mem_of_getElem? (i := 1395) (by decide +kernel), List.mem_of_getElem? (i := 1396) (by decide +kernel)⟩
theorem lw_p62 : lw_okq (⟨"FriarListsModel", "isSo", "(III)Z"⟩, 62) := ⟨⟨by decide +kernel, by decide +kernel⟩, List.mem_of_getElem? (i := 1023) (by decide +kernel), List.mem_of_getElem? (i := 1399) (by decide +kernel), List.mem_of_getElem? (i := 1400) (by decide +kernel)⟩
theorem lw_p63 : lw_okq (⟨"FriarListsModel", "factOf", "(III)I"⟩, 62) := ⟨⟨by decide +kernel, by decide +kernel⟩, List.mem_of_getElem? (i := 1023) (by decide +kernel), List.mem_of_getElem? (i := 1403) (by decide +kernel), List.mem_of_getElem? (i := 1404) (by decide +kernel)⟩
def lw_privs_4 : List (MethodName × Nat) := [(⟨"FriarListsModel", "ageIn", "(II)I"⟩, 62), (⟨"FriarListsModel", "since", "(II)I"⟩, 62), (⟨"FriarListsModel", "asks", "(II)I"⟩, 62), (⟨"FriarListsModel", "keyOf", "(I)I"⟩, 62), (⟨"FriarListsModel", "meantBy", "(II)I"⟩, 62), (⟨"FriarListsModel", "alike", "(II)I"⟩, 62), (⟨"FriarListsModel", "answerOf", "(II)I"⟩, 62), (⟨"FriarListsModel", "lackOf", "(I)I"⟩, 62), (⟨"FriarListsModel", "ahead", "(I)I"⟩, 62), (⟨"FriarListsModel", "isLegacy", "(I)Z"⟩, 62), (⟨"FriarListsModel", "amiss", "(I)I"⟩, 62), (⟨"FriarListsModel", "mayBuy", "(III)Z"⟩, 62), (⟨"FriarListsModel", "rulesIn", "(I)I"⟩, 62), (⟨"FriarListsModel", "holds", "(IIII)Z"⟩, 62), (⟨"FriarListsModel", "isSo", "(III)Z"⟩, 62), (⟨"FriarListsModel", "factOf", "(III)I"⟩, 62)]
theorem lw_r4 : ∀ q ∈ lw_privs_4, lw_okq q := List.forall_mem_cons.mpr ⟨lw_p48, List.forall_mem_cons.mpr ⟨lw_p49, List.forall_mem_cons.mpr ⟨lw_p50, List.forall_mem_cons.mpr ⟨lw_p51, List.forall_mem_cons.mpr ⟨lw_p52, List.forall_mem_cons.mpr ⟨lw_p53, List.forall_mem_cons.mpr ⟨lw_p54, List.forall_mem_cons.mpr ⟨lw_p55, List.forall_mem_cons.mpr ⟨lw_p56, List.forall_mem_cons.mpr ⟨lw_p57, List.forall_mem_cons.mpr ⟨lw_p58, List.forall_mem_cons.mpr ⟨lw_p59, List.forall_mem_cons.mpr ⟨lw_p60, List.forall_mem_cons.mpr ⟨lw_p61, List.forall_mem_cons.mpr ⟨lw_p62, List.forall_mem_cons.mpr ⟨lw_p63, fun _ h => absurd h List.not_mem_nil⟩⟩⟩⟩⟩⟩⟩⟩⟩⟩⟩⟩⟩⟩⟩⟩
theorem lw_p64 : lw_okq (⟨"FriarListsModel", "advance", "()V"⟩, 62) := ⟨⟨by decide +kernel, by decide +kernel⟩, List.mem_of_getElem? (i := 1023) (by decide +kernel), List.mem_of_getElem? (i := 1416) (by decide +kernel), List.mem_of_getElem? (i := 1417) (by decide +kernel)⟩
theorem lw_p65 : lw_okq (⟨"FriarListsModel", "isGood", "()Z"⟩, 62) := ⟨⟨by decide +kernel, by decide +kernel⟩, List.mem_of_getElem? (i := 1023) (by decide +kernel), List.mem_of_getElem? (i := 1426) (by decide +kernel), List.mem_of_getElem? (i := 1427) (by decide +kernel)⟩
theorem lw_p66 : lw_okq (⟨"FriarListsModel", "wantLine", "(I)V"⟩, 62) := ⟨⟨by decide +kernel, by decide +kernel⟩, List.mem_of_getElem? (i := 1023) (by decide +kernel), List.mem_of_getElem? (i := 1430) (by decide +kernel), List.mem_of_getElem? (i := 1431) (by decide +kernel)⟩
theorem lw_p67 : lw_okq (⟨"FriarListsModel", "isWord", "(I)Z"⟩, 62) := ⟨⟨by decide +kernel, by decide +kernel⟩, List.mem_of_getElem? (i := 1023) (by decide +kernel), List.mem_of_getElem? (i := 1435) (by decide +kernel), List.mem_of_getElem? (i := 1436) (by decide +kernel)⟩
theorem lw_p68 : lw_okq (⟨"FriarListsModel", "wrong", "()V"⟩, 62) := ⟨⟨by decide +kernel, by decide +kernel⟩, List.mem_of_getElem? (i := 1023) (by decide +kernel), List.mem_of_getElem? (i := 1441) (by decide +kernel), List.mem_of_getElem? (i := 1442) (by decide +kernel)⟩
theorem lw_p69 : lw_okq (⟨"FriarListsModel", "wantNumber", "(I)I"⟩, 62) := ⟨⟨by decide +kernel, by decide +kernel⟩, List.mem_of_getElem? (i := 1023) (by decide +kernel), List.mem_of_getElem? (i := 1445) (by decide +kernel), List.mem_of_getElem? (i := 1446) (by decide +kernel)⟩
theorem lw_p70 : lw_okq (⟨"FriarListsModel", "want", "(Z)V"⟩, 62) := ⟨⟨by decide +kernel, by decide +kernel⟩, List.mem_of_getElem? (i := 1023) (by decide +kernel), List.mem_of_getElem? (i := 1449) (by decide +kernel), List.mem_of_getElem? (i := 1450) (by decide +kernel)⟩
theorem lw_p71 : lw_okq (⟨"FriarListsModel", "wantCond", "()V"⟩, 62) := ⟨⟨by decide +kernel, by decide +kernel⟩, List.mem_of_getElem? (i := 1023) (by decide +kernel), List.mem_of_getElem? (i := 1453) (by decide +kernel), List.mem_of_getElem? (i := 1454) (by decide +kernel)⟩
theorem lw_p72 : lw_okq (⟨"FriarListsModel", "hold", "(I)V"⟩, 62) := ⟨⟨by decide +kernel, by decide +kernel⟩, List.mem_of_getElem? (i := 1023) (by decide +kernel), List.mem_of_getElem? (i := 1457) (by decide +kernel), List.mem_of_getElem? (i := 1458) (by decide +kernel)⟩
theorem lw_p73 : lw_okq (⟨"FriarListsModel", "isMark", "(I)Z"⟩, 62) := ⟨⟨by decide +kernel, by decide +kernel⟩, List.mem_of_getElem? (i := 1023) (by decide +kernel), List.mem_of_getElem? (i := 1461) (by decide +kernel), List.mem_of_getElem? (i := 1462) (by decide +kernel)⟩
theorem lw_p74 : lw_okq (⟨"FriarListsModel", "wantAsk", "()V"⟩, 62) := ⟨⟨by decide +kernel, by decide +kernel⟩, List.mem_of_getElem? (i := 1023) (by decide +kernel), List.mem_of_getElem? (i := 1465) (by decide +kernel), List.mem_of_getElem? (i := 1466) (by decide +kernel)⟩
theorem lw_p75 : lw_okq (⟨"FriarListsModel", "emit", "(I)V"⟩, 62) := ⟨⟨by decide +kernel, by decide +kernel⟩, List.mem_of_getElem? (i := 1023) (by decide +kernel), List.mem_of_getElem? (i := 1471) (by decide +kernel), List.mem_of_getElem? (i := 1472) (by decide +kernel)⟩
theorem lw_p76 : lw_okq (⟨"FriarListsModel", "factHere", "()I"⟩, 62) := ⟨⟨by decide +kernel, by decide +kernel⟩, List.mem_of_getElem? (i := 1023) (by decide +kernel), List.mem_of_getElem? (i := 1475) (by decide +kernel), List.mem_of_getElem? (i := 1476) (by decide +kernel)⟩
theorem lw_p77 : lw_okq (⟨"FriarListsModel", "settle", "(I)V"⟩, 62) := ⟨⟨by decide +kernel, by decide +kernel⟩, List.mem_of_getElem? (i := 1023) (by decide +kernel), List.mem_of_getElem? (i := 1484) (by decide +kernel), List.mem_of_getElem? (i := 1485) (by decide +kernel)⟩
theorem lw_p78 : lw_okq (⟨"FriarListsModel", "rankIn", "(II)I"⟩, 62) := ⟨⟨by decide +kernel, by decide +kernel⟩, List.mem_of_getElem? (i := 1023) (by decide +kernel), List.mem_of_getElem? (i := 1497) (by decide +kernel), List.mem_of_getElem? (i := 1498) (by decide +kernel)⟩
theorem lw_p79 : lw_okq (⟨"FriarListsModel", "isBarred", "(II)Z"⟩, 62) := ⟨⟨by decide +kernel, by decide +kernel⟩, List.mem_of_getElem? (i := 1023) (by decide +kernel), List.mem_of_getElem? (i := 1505) (by decide +kernel), List.mem_of_getElem? (i := 1506) (by decide +kernel)⟩
def lw_privs_5 : List (MethodName × Nat) := [(⟨"FriarListsModel", "advance", "()V"⟩, 62), (⟨"FriarListsModel", "isGood", "()Z"⟩, 62), (⟨"FriarListsModel", "wantLine", "(I)V"⟩, 62), (⟨"FriarListsModel", "isWord", "(I)Z"⟩, 62), (⟨"FriarListsModel", "wrong", "()V"⟩, 62), (⟨"FriarListsModel", "wantNumber", "(I)I"⟩, 62), (⟨"FriarListsModel", "want", "(Z)V"⟩, 62), (⟨"FriarListsModel", "wantCond", "()V"⟩, 62), (⟨"FriarListsModel", "hold", "(I)V"⟩, 62), (⟨"FriarListsModel", "isMark", "(I)Z"⟩, 62), (⟨"FriarListsModel", "wantAsk", "()V"⟩, 62), (⟨"FriarListsModel", "emit", "(I)V"⟩, 62), (⟨"FriarListsModel", "factHere", "()I"⟩, 62), (⟨"FriarListsModel", "settle", "(I)V"⟩, 62), (⟨"FriarListsModel", "rankIn", "(II)I"⟩, 62), (⟨"FriarListsModel", "isBarred", "(II)Z"⟩, 62)]
theorem lw_r5 : ∀ q ∈ lw_privs_5, lw_okq q := List.forall_mem_cons.mpr ⟨lw_p64, List.forall_mem_cons.mpr ⟨lw_p65, List.forall_mem_cons.mpr ⟨lw_p66, List.forall_mem_cons.mpr ⟨lw_p67, List.forall_mem_cons.mpr ⟨lw_p68, List.forall_mem_cons.mpr ⟨lw_p69, List.forall_mem_cons.mpr ⟨lw_p70, List.forall_mem_cons.mpr ⟨lw_p71, List.forall_mem_cons.mpr ⟨lw_p72, List.forall_mem_cons.mpr ⟨lw_p73, List.forall_mem_cons.mpr ⟨lw_p74, List.forall_mem_cons.mpr ⟨lw_p75, List.forall_mem_cons.mpr ⟨lw_p76, List.forall_mem_cons.mpr ⟨lw_p77, List.forall_mem_cons.mpr ⟨lw_p78, List.forall_mem_cons.mpr ⟨lw_p79, fun _ h => absurd h List.not_mem_nil⟩⟩⟩⟩⟩⟩⟩⟩⟩⟩⟩⟩⟩⟩⟩⟩
theorem lw_p80 : lw_okq (⟨"FriarListsModel", "proofsOf", "(I)I"⟩, 62) := ⟨⟨by decide +kernel, by decide +kernel⟩, List.mem_of_getElem? (i := 1023) (by decide +kernel), List.mem_of_getElem? (i := 1517) (by decide +kernel), List.mem_of_getElem? (i := 1518) (by decide +kernel)⟩
theorem lw_p81 : lw_okq (⟨"FriarListsModel", "nextWay", "(I)Z"⟩, 62) := ⟨⟨by decide +kernel, by decide +kernel⟩, List.mem_of_getElem? (i := 1023) (by decide +kernel), List.mem_of_getElem? (i := 1538) (by decide +kernel), List.mem_of_getElem? (i := 1539) (by decide +kernel)⟩
theorem lw_p82 : lw_okq (⟨"FriarListsModel", "canGo", "(I)Z"⟩, 62) := ⟨⟨by decide +kernel, by decide +kernel⟩, List.mem_of_getElem? (i := 1023) (by decide +kernel), List.mem_of_getElem? (i := 1542) (by decide +kernel), List.mem_of_getElem? (i := 1543) (by decide +kernel)⟩
theorem lw_p83 : lw_okq (⟨"FriarListsModel", "change", "(I)V"⟩, 62) := ⟨⟨by decide +kernel, by decide +kernel⟩, List.mem_of_getElem? (i := 1023) (by decide +kernel), List.mem_of_getElem? (i := 1546) (by decide +kernel), List.mem_of_getElem? (i := 1547) (by decide +kernel)⟩
theorem lw_p84 : lw_okq (⟨"FriarListsModel", "findRoad", "(II)Z"⟩, 62) := ⟨⟨by decide +kernel, by decide +kernel⟩, List.mem_of_getElem? (i := 1023) (by decide +kernel), List.mem_of_getElem? (i := 1555) (by decide +kernel), List.mem_of_getElem? (i := 1556) (by decide +kernel)⟩
theorem lw_p85 : lw_okq (⟨"FriarListsModel", "findMole", "(II)I"⟩, 62) := ⟨⟨by decide +kernel, by decide +kernel⟩, List.mem_of_getElem? (i := 1023) (by decide +kernel), List.mem_of_getElem? (i := 1566) (by decide +kernel), List.mem_of_getElem? (i := 1567) (by decide +kernel)⟩
theorem lw_p86 : lw_okq (⟨"FriarListsModel", "findThere", "(I)V"⟩, 62) := ⟨⟨by decide +kernel, by decide +kernel⟩, List.mem_of_getElem? (i := 1023) (by decide +kernel), List.mem_of_getElem? (i := 1570) (by decide +kernel), List.mem_of_getElem? (i := 1571) (by decide +kernel)⟩
theorem lw_p87 : lw_okq (⟨"FriarListsModel", "isThere", "(II)Z"⟩, 62) := ⟨⟨by decide +kernel, by decide +kernel⟩, List.mem_of_getElem? (i := 1023) (by decide +kernel), List.mem_of_getElem? (i := 1574) (by decide +kernel), List.mem_of_getElem? (i := 1575) (by decide +kernel)⟩
theorem lw_p88 : lw_okq (⟨"FriarListsModel", "canBeBought", "(I)Z"⟩, 62) := ⟨⟨by decide +kernel, by decide +kernel⟩, List.mem_of_getElem? (i := 1023) (by decide +kernel), List.mem_of_getElem? (i := 1578) (by decide +kernel), List.mem_of_getElem? (i := 1579) (by decide +kernel)⟩
theorem lw_p89 : lw_okq (⟨"FriarListsModel", "wanted", "()I"⟩, 62) := ⟨⟨by decide +kernel, by decide +kernel⟩, List.mem_of_getElem? (i := 1023) (by decide +kernel), List.mem_of_getElem? (i := 1582) (by decide +kernel), List.mem_of_getElem? (i := 1583) (by decide +kernel)⟩
theorem lw_p90 : lw_okq (⟨"FriarListsModel", "isBetter", "(II)Z"⟩, 62) := ⟨⟨by decide +kernel, by decide +kernel⟩, List.mem_of_getElem? (i := 1023) (by decide +kernel), List.mem_of_getElem? (i := 1586) (by decide +kernel), List.mem_of_getElem? (i := 1587) (by decide +kernel)⟩
theorem lw_p91 : lw_okq (⟨"FriarListsModel", "isRow", "(II)Z"⟩, 62) := ⟨⟨by decide +kernel, by decide +kernel⟩, List.mem_of_getElem? (i := 1023) (by decide +kernel), List.mem_of_getElem? (i := 1594) (by decide +kernel), List.mem_of_getElem? (i := 1595) (by decide +kernel)⟩
theorem lw_p92 : lw_okq (⟨"FriarListsModel", "isShip", "(I)Z"⟩, 62) := ⟨⟨by decide +kernel, by decide +kernel⟩, List.mem_of_getElem? (i := 1023) (by decide +kernel), List.mem_of_getElem? (i := 1626) (by decide +kernel), List.mem_of_getElem? (i := 1627) (by decide +kernel)⟩
theorem lw_p93 : lw_okq (⟨"FriarListsModel", "aboardOf", "(I)I"⟩, 62) := ⟨⟨by decide +kernel, by decide +kernel⟩, List.mem_of_getElem? (i := 1023) (by decide +kernel), List.mem_of_getElem? (i := 1630) (by decide +kernel), List.mem_of_getElem? (i := 1631) (by decide +kernel)⟩
theorem lw_p94 : lw_okq (⟨"FriarListsModel", "isAboard", "(II)Z"⟩, 62) := ⟨⟨by decide +kernel, by decide +kernel⟩, List.mem_of_getElem? (i := 1023) (by decide +kernel), List.mem_of_getElem? (i := 1634) (by decide +kernel), List.mem_of_getElem? (i := 1635) (by decide +kernel)⟩
theorem lw_p95 : lw_okq (⟨"FriarListsModel", "lacksSort", "(II)I"⟩, 62) := ⟨⟨by decide +kernel, by decide +kernel⟩, List.mem_of_getElem? (i := 1023) (by decide +kernel), List.mem_of_getElem? (i := 1668) (by decide +kernel), List.mem_of_getElem? (i := 1669) (by decide +kernel)⟩
def lw_privs_6 : List (MethodName × Nat) := [(⟨"FriarListsModel", "proofsOf", "(I)I"⟩, 62), (⟨"FriarListsModel", "nextWay", "(I)Z"⟩, 62), (⟨"FriarListsModel", "canGo", "(I)Z"⟩, 62), (⟨"FriarListsModel", "change", "(I)V"⟩, 62), (⟨"FriarListsModel", "findRoad", "(II)Z"⟩, 62), (⟨"FriarListsModel", "findMole", "(II)I"⟩, 62), (⟨"FriarListsModel", "findThere", "(I)V"⟩, 62), (⟨"FriarListsModel", "isThere", "(II)Z"⟩, 62), (⟨"FriarListsModel", "canBeBought", "(I)Z"⟩, 62), (⟨"FriarListsModel", "wanted", "()I"⟩, 62), (⟨"FriarListsModel", "isBetter", "(II)Z"⟩, 62), (⟨"FriarListsModel", "isRow", "(II)Z"⟩, 62), (⟨"FriarListsModel", "isShip", "(I)Z"⟩, 62), (⟨"FriarListsModel", "aboardOf", "(I)I"⟩, 62), (⟨"FriarListsModel", "isAboard", "(II)Z"⟩, 62), (⟨"FriarListsModel", "lacksSort", "(II)I"⟩, 62)]
theorem lw_r6 : ∀ q ∈ lw_privs_6, lw_okq q := List.forall_mem_cons.mpr ⟨lw_p80, List.forall_mem_cons.mpr ⟨lw_p81, List.forall_mem_cons.mpr ⟨lw_p82, List.forall_mem_cons.mpr ⟨lw_p83, List.forall_mem_cons.mpr ⟨lw_p84, List.forall_mem_cons.mpr ⟨lw_p85, List.forall_mem_cons.mpr ⟨lw_p86, List.forall_mem_cons.mpr ⟨lw_p87, List.forall_mem_cons.mpr ⟨lw_p88, List.forall_mem_cons.mpr ⟨lw_p89, List.forall_mem_cons.mpr ⟨lw_p90, List.forall_mem_cons.mpr ⟨lw_p91, List.forall_mem_cons.mpr ⟨lw_p92, List.forall_mem_cons.mpr ⟨lw_p93, List.forall_mem_cons.mpr ⟨lw_p94, List.forall_mem_cons.mpr ⟨lw_p95, fun _ h => absurd h List.not_mem_nil⟩⟩⟩⟩⟩⟩⟩⟩⟩⟩⟩⟩⟩⟩⟩⟩
theorem lw_p96 : lw_okq (⟨"FriarListsModel", "isThing", "(II)Z"⟩, 62) := ⟨⟨by decide +kernel, by decide +kernel⟩, List.mem_of_getElem? (i := 1023) (by decide +kernel), List.mem_of_getElem? (i := 1681) (by decide +kernel), List.mem_of_getElem? (i := 1682) (by decide +kernel)⟩
theorem lw_p97 : lw_okq (⟨"FriarListsModel", "kindOn", "(I)I"⟩, 62) := ⟨⟨by decide +kernel, by decide +kernel⟩, List.mem_of_getElem? (i := 1023) (by decide +kernel), List.mem_of_getElem? (i := 1689) (by decide +kernel), List.mem_of_getElem? (i := 1690) (by decide +kernel)⟩
theorem lw_p98 : lw_okq (⟨"FriarListsModel", "theirs", "(II)I"⟩, 62) := ⟨⟨by decide +kernel, by decide +kernel⟩, List.mem_of_getElem? (i := 1023) (by decide +kernel), List.mem_of_getElem? (i := 1700) (by decide +kernel), List.mem_of_getElem? (i := 1701) (by decide +kernel)⟩
theorem lw_p99 : lw_okq (⟨"FriarListsModel", "counts", "(I)I"⟩, 62) := ⟨⟨by decide +kernel, by decide +kernel⟩, List.mem_of_getElem? (i := 1023) (by decide +kernel), List.mem_of_getElem? (i := 1704) (by decide +kernel), List.mem_of_getElem? (i := 1705) (by decide +kernel)⟩
theorem lw_p100 : lw_okq (⟨"FriarListsModel", "ran", "(I)V"⟩, 62) := ⟨⟨by decide +kernel, by decide +kernel⟩, List.mem_of_getElem? (i := 1023) (by decide +kernel), List.mem_of_getElem? (i := 1708) (by decide +kernel), List.mem_of_getElem? (i := 1709) (by decide +kernel)⟩
theorem lw_p101 : lw_okq (⟨"FriarListsModel", "binds", "(I)I"⟩, 62) := ⟨⟨by decide +kernel, by decide +kernel⟩, List.mem_of_getElem? (i := 1023) (by decide +kernel), List.mem_of_getElem? (i := 1712) (by decide +kernel), List.mem_of_getElem? (i := 1713) (by decide +kernel)⟩
theorem lw_p102 : lw_okq (⟨"FriarListsModel", "paperBinds", "(I)I"⟩, 62) := ⟨⟨by decide +kernel, by decide +kernel⟩, List.mem_of_getElem? (i := 1023) (by decide +kernel), List.mem_of_getElem? (i := 1716) (by decide +kernel), List.mem_of_getElem? (i := 1717) (by decide +kernel)⟩
theorem lw_p103 : lw_okq (⟨"FriarListsModel", "priceBinds", "(I)I"⟩, 62) := ⟨⟨by decide +kernel, by decide +kernel⟩, List.mem_of_getElem? (i := 1023) (by decide +kernel), List.mem_of_getElem? (i := 1720) (by decide +kernel), List.mem_of_getElem? (i := 1721) (by decide +kernel)⟩
theorem lw_p104 : lw_okq (⟨"FriarListsModel", "goes", "(I)I"⟩, 62) := ⟨⟨by decide +kernel, by decide +kernel⟩, List.mem_of_getElem? (i := 1023) (by decide +kernel), List.mem_of_getElem? (i := 1724) (by decide +kernel), List.mem_of_getElem? (i := 1725) (by decide +kernel)⟩
theorem lw_p105 : lw_okq (⟨"FriarListsModel", "paperGoes", "(I)I"⟩, 62) := ⟨⟨by decide +kernel, by decide +kernel⟩, List.mem_of_getElem? (i := 1023) (by decide +kernel), List.mem_of_getElem? (i := 1728) (by decide +kernel), List.mem_of_getElem? (i := 1729) (by decide +kernel)⟩
theorem lw_p106 : lw_okq (⟨"FriarListsModel", "tells", "(I)I"⟩, 62) := ⟨⟨by decide +kernel, by decide +kernel⟩, List.mem_of_getElem? (i := 1023) (by decide +kernel), List.mem_of_getElem? (i := 1732) (by decide +kernel), List.mem_of_getElem? (i := 1733) (by decide +kernel)⟩
theorem lw_p107 : lw_okq (⟨"FriarListsModel", "paperTells", "(I)I"⟩, 62) := ⟨⟨by decide +kernel, by decide +kernel⟩, List.mem_of_getElem? (i := 1023) (by decide +kernel), List.mem_of_getElem? (i := 1736) (by decide +kernel), List.mem_of_getElem? (i := 1737) (by decide +kernel)⟩
theorem lw_p108 : lw_okq (⟨"FriarListsModel", "irregular", "()I"⟩, 62) := ⟨⟨by decide +kernel, by decide +kernel⟩, List.mem_of_getElem? (i := 1023) (by decide +kernel), List.mem_of_getElem? (i := 1748) (by decide +kernel), List.mem_of_getElem? (i := 1749) (by decide +kernel)⟩
theorem lw_p109 : lw_okq (⟨"FriarListsModel", "inState", "(I)I"⟩, 62) := ⟨⟨by decide +kernel, by decide +kernel⟩, List.mem_of_getElem? (i := 1023) (by decide +kernel), List.mem_of_getElem? (i := 1752) (by decide +kernel), List.mem_of_getElem? (i := 1753) (by decide +kernel)⟩
theorem lw_p110 : lw_okq (⟨"FriarListsModel", "moveAll", "(Z)V"⟩, 62) := ⟨⟨by decide +kernel, by decide +kernel⟩, List.mem_of_getElem? (i := 1023) (by decide +kernel), List.mem_of_getElem? (i := 1760) (by decide +kernel), List.mem_of_getElem? (i := 1761) (by decide +kernel)⟩
theorem lw_p111 : lw_okq (⟨"FriarListsModel", "move", "([IIZ)V"⟩, 62) := ⟨⟨by decide +kernel, by decide +kernel⟩, List.mem_of_getElem? (i := 1023) (by decide +kernel), List.mem_of_getElem? (i := 1764) (by decide +kernel), List.mem_of_getElem? (i := 1765) (by decide +kernel)⟩
def lw_privs_7 : List (MethodName × Nat) := [(⟨"FriarListsModel", "isThing", "(II)Z"⟩, 62), (⟨"FriarListsModel", "kindOn", "(I)I"⟩, 62), (⟨"FriarListsModel", "theirs", "(II)I"⟩, 62), (⟨"FriarListsModel", "counts", "(I)I"⟩, 62), (⟨"FriarListsModel", "ran", "(I)V"⟩, 62), (⟨"FriarListsModel", "binds", "(I)I"⟩, 62), (⟨"FriarListsModel", "paperBinds", "(I)I"⟩, 62), (⟨"FriarListsModel", "priceBinds", "(I)I"⟩, 62), (⟨"FriarListsModel", "goes", "(I)I"⟩, 62), (⟨"FriarListsModel", "paperGoes", "(I)I"⟩, 62), (⟨"FriarListsModel", "tells", "(I)I"⟩, 62), (⟨"FriarListsModel", "paperTells", "(I)I"⟩, 62), (⟨"FriarListsModel", "irregular", "()I"⟩, 62), (⟨"FriarListsModel", "inState", "(I)I"⟩, 62), (⟨"FriarListsModel", "moveAll", "(Z)V"⟩, 62), (⟨"FriarListsModel", "move", "([IIZ)V"⟩, 62)]
theorem lw_r7 : ∀ q ∈ lw_privs_7, lw_okq q := List.forall_mem_cons.mpr ⟨lw_p96, List.forall_mem_cons.mpr ⟨lw_p97, List.forall_mem_cons.mpr ⟨lw_p98, List.forall_mem_cons.mpr ⟨lw_p99, List.forall_mem_cons.mpr ⟨lw_p100, List.forall_mem_cons.mpr ⟨lw_p101, List.forall_mem_cons.mpr ⟨lw_p102, List.forall_mem_cons.mpr ⟨lw_p103, List.forall_mem_cons.mpr ⟨lw_p104, List.forall_mem_cons.mpr ⟨lw_p105, List.forall_mem_cons.mpr ⟨lw_p106, List.forall_mem_cons.mpr ⟨lw_p107, List.forall_mem_cons.mpr ⟨lw_p108, List.forall_mem_cons.mpr ⟨lw_p109, List.forall_mem_cons.mpr ⟨lw_p110, List.forall_mem_cons.mpr ⟨lw_p111, fun _ h => absurd h List.not_mem_nil⟩⟩⟩⟩⟩⟩⟩⟩⟩⟩⟩⟩⟩⟩⟩⟩
def lw_privs : List (MethodName × Nat) := lw_privs_1 ++ (lw_privs_2 ++ (lw_privs_3 ++ (lw_privs_4 ++ (lw_privs_5 ++ (lw_privs_6 ++ (lw_privs_7))))))
def lw_tbl : List Cond := k2_sels lw_privs ++ tables_1
theorem lw_privs_ok : ∀ q ∈ lw_privs, lw_okq q := by
  show ∀ q ∈ lw_privs_1 ++ (lw_privs_2 ++ (lw_privs_3 ++ (lw_privs_4 ++ (lw_privs_5 ++ (lw_privs_6 ++ (lw_privs_7)))))), lw_okq q
  exact List.forall_mem_append.mpr ⟨lw_r1, List.forall_mem_append.mpr ⟨lw_r2, List.forall_mem_append.mpr ⟨lw_r3, List.forall_mem_append.mpr ⟨lw_r4, List.forall_mem_append.mpr ⟨lw_r5, List.forall_mem_append.mpr ⟨lw_r6, lw_r7⟩⟩⟩⟩⟩⟩

/-! the claim's own tables: fields, methods, links; each entry names its place among the words -/
def mj_L0 : List (String × String × String × Bool) := [("FriarLists$Lists", "now", "I", false), ("FriarLists$Lists", "chest", "I", false), ("FriarLists$Lists", "captives", "LFriarLists$Table;", true), ("FriarLists$Lists", "masters", "LFriarLists$Table;", true), ("FriarLists$Lists", "news", "LFriarLists$Table;", true), ("FriarLists$Lists", "lags", "LFriarLists$Table;", true), ("FriarLists$Lists", "premiums", "LFriarLists$Table;", true), ("FriarLists$Lists", "letters", "LFriarLists$Table;", true), ("FriarLists$Lists", "boxes", "LFriarLists$Table;", true), ("FriarLists$Lists", "alms", "LFriarLists$Table;", true), ("FriarLists$Lists", "openings", "LFriarLists$Table;", true), ("FriarLists$Lists", "legacies", "LFriarLists$Table;", true), ("FriarLists$Lists", "versions", "LFriarLists$Table;", true), ("FriarLists$Lists", "lines", "LFriarLists$Table;", true), ("FriarLists$Lists", "steps", "LFriarLists$Table;", true), ("FriarLists$Lists", "proofs", "LFriarLists$Table;", true), ("FriarLists$Lists", "rates", "LFriarLists$Table;", true), ("FriarLists$Lists", "sails", "LFriarLists$Table;", true), ("FriarLists$Lists", "ships", "LFriarLists$Table;", true), ("FriarLists$Lists", "voyages", "LFriarLists$Table;", true)]
def mj_T0 : u_T := fun k => mj_L0.getD k ("", "", "", false)
def mj_L1 : List (String × String × String × Bool) := [("FriarLists$Paper", "kind", "I", false), ("FriarLists$Paper", "number", "I", false), ("FriarLists$Paper", "amount", "I", false), ("FriarLists$Paper", "isParted", "Z", false), ("FriarLists$Paper", "trace", "LFriarLists$Table;", true)]
def mj_T1 : u_T := fun k => mj_L1.getD k ("", "", "", false)
def mj_L2 : List (String × String × String × Bool) := [("FriarLists$Table", "most", "I", true), ("FriarLists$Table", "width", "I", true), ("FriarLists$Table", "cells", "[I", true), ("FriarLists$Table", "count", "I", false)]
def mj_T2 : u_T := fun k => mj_L2.getD k ("", "", "", false)
def mj_L3 : List (String × String × String × Bool) := [("FriarLists$TextReader", "tape", "[I", true), ("FriarLists$TextReader", "tapeLength", "I", false), ("FriarLists$TextReader", "lines", "LFriarLists$Table;", true), ("FriarLists$TextReader", "steps", "LFriarLists$Table;", true), ("FriarLists$TextReader", "start", "I", false), ("FriarLists$TextReader", "end", "I", false)]
def mj_T3 : u_T := fun k => mj_L3.getD k ("", "", "", false)
def mj_L4 : List (String × String × String × Bool) := [("FriarLists$Ways", "way", "[I", true), ("FriarLists$Ways", "roadPorts", "[I", true), ("FriarLists$Ways", "roadLength", "I", false), ("FriarLists$Ways", "roadLeft", "I", false), ("FriarLists$Ways", "roadWeeks", "I", false), ("FriarLists$Ways", "arrived", "LFriarLists$Table;", true), ("FriarLists$Ways", "changed", "LFriarLists$Table;", true), ("FriarLists$Ways", "most", "I", false)]
def mj_T4 : u_T := fun k => mj_L4.getD k ("", "", "", false)
def mj_L5 : List (String × String × String × Bool) := [("FriarLists", "lists", "LFriarLists$Lists;", true), ("FriarLists", "kept", "LFriarLists$Lists;", true), ("FriarLists", "isKept", "Z", false), ("FriarLists", "reader", "LFriarLists$TextReader;", true), ("FriarLists", "ways", "LFriarLists$Ways;", true), ("FriarLists", "offers", "LFriarLists$Table;", true), ("FriarLists", "rows", "LFriarLists$Table;", true), ("FriarLists", "sheets", "LFriarLists$Table;", true), ("FriarLists", "shelves", "LFriarLists$Table;", true), ("FriarLists", "paper", "LFriarLists$Paper;", true)]
def mj_T5 : u_T := fun k => mj_L5.getD k ("", "", "", false)
def mj_L6 : List (String × String × String × Bool) := [("FriarListsModel", "numbers", "[I", true), ("FriarListsModel", "captives", "[I", true), ("FriarListsModel", "ports", "[I", true), ("FriarListsModel", "lags", "[I", true), ("FriarListsModel", "premiums", "[I", true), ("FriarListsModel", "classes", "[I", true), ("FriarListsModel", "news", "[I", true), ("FriarListsModel", "alms", "[I", true), ("FriarListsModel", "openings", "[I", true), ("FriarListsModel", "legacies", "[I", true), ("FriarListsModel", "versions", "[I", true), ("FriarListsModel", "lines", "[I", true), ("FriarListsModel", "signs", "[I", true), ("FriarListsModel", "proofs", "[I", true), ("FriarListsModel", "rates", "[I", true), ("FriarListsModel", "sails", "[I", true), ("FriarListsModel", "ships", "[I", true), ("FriarListsModel", "voyages", "[I", true), ("FriarListsModel", "tape", "[I", true), ("FriarListsModel", "tapeMany", "I", false), ("FriarListsModel", "tokenKind", "I", false), ("FriarListsModel", "tokenAt", "I", false), ("FriarListsModel", "tokenEnd", "I", false), ("FriarListsModel", "tokenValue", "I", false), ("FriarListsModel", "fault", "I", false), ("FriarListsModel", "freshLines", "[I", true), ("FriarListsModel", "freshSigns", "[I", true), ("FriarListsModel", "waiting", "[I", true), ("FriarListsModel", "freshMany", "I", false), ("FriarListsModel", "waits", "I", false), ("FriarListsModel", "stack", "[Z", true), ("FriarListsModel", "way", "[I", true), ("FriarListsModel", "wayMany", "I", false), ("FriarListsModel", "coins", "[J", true), ("FriarListsModel", "changed", "[J", true), ("FriarListsModel", "roadWay", "[I", true), ("FriarListsModel", "roadMany", "I", false), ("FriarListsModel", "roadLost", "I", false), ("FriarListsModel", "roadWeeks", "I", false), ("FriarListsModel", "there", "[I", true), ("FriarListsModel", "price", "[I", true), ("FriarListsModel", "ranked", "[I", true), ("FriarListsModel", "byRank", "[I", true), ("FriarListsModel", "bestByRank", "[I", true), ("FriarListsModel", "thereMany", "I", false), ("FriarListsModel", "rowMany", "I", false), ("FriarListsModel", "rows", "[I", true), ("FriarListsModel", "sorts", "[I", true), ("FriarListsModel", "sizes", "[I", true), ("FriarListsModel", "sheets", "[I", true), ("FriarListsModel", "held", "[I", true), ("FriarListsModel", "heldNumber", "[I", true), ("FriarListsModel", "heldSize", "[I", true), ("FriarListsModel", "kind", "I", false), ("FriarListsModel", "number", "I", false), ("FriarListsModel", "its", "I", false), ("FriarListsModel", "traced", "[I", true), ("FriarListsModel", "bodies", "I", false), ("FriarListsModel", "isParted", "Z", false), ("FriarListsModel", "isKept", "Z", false), ("FriarListsModel", "kept", "[I", true), ("FriarListsModel", "place", "I", false)]
def mj_T6 : u_T := fun k => mj_L6.getD k ("", "", "", false)
def mj_cls : Nat → String := fun k => (["FriarLists$Lists", "FriarLists$Paper", "FriarLists$Table", "FriarLists$TextReader", "FriarLists$Ways", "FriarLists", "FriarListsModel", "java/lang/String", "java/lang/StringLatin1", "java/lang/Math", "java/lang/Integer", "jdk/internal/util/Preconditions", "java/lang/Object", "java/lang/StringUTF16", "java/lang/System", "FriarListsLaw"] : List String).getD k ""
/-- the classes whose objects the worlds hold -/
def mj_cl : List vw_C := [(mj_cls 0, mj_T0, 20), (mj_cls 1, mj_T1, 5), (mj_cls 2, mj_T2, 4), (mj_cls 3, mj_T3, 6), (mj_cls 4, mj_T4, 8), (mj_cls 5, mj_T5, 10), (mj_cls 6, mj_T6, 62)]
/-- the methods: place of the code word, class, static, place of the word static or instanceMethod, of selects, of initialized; how many parameters -/
def mj_M_0 : List (Nat × Nat × Nat × Nat × Nat × Nat × Nat) := [(131, 5, 0, 130, 0, 113, 0), (134, 12, 0, 133, 0, 112, 0), (139, 0, 0, 138, 0, 114, 0), (145, 2, 0, 144, 0, 115, 2), (149, 9, 1, 148, 0, 116, 2), (170, 2, 0, 168, 169, 115, 3), (175, 7, 0, 173, 174, 117, 0), (179, 7, 0, 177, 178, 117, 0), (185, 7, 0, 183, 184, 117, 1), (189, 7, 0, 187, 188, 117, 0), (192, 8, 1, 191, 0, 118, 2), (195, 7, 1, 194, 0, 117, 2), (200, 11, 1, 199, 0, 119, 3), (203, 13, 1, 202, 0, 120, 2), (206, 13, 1, 205, 0, 120, 2), (209, 13, 1, 208, 0, 120, 1), (213, 13, 1, 212, 0, 120, 2), (307, 3, 0, 306, 0, 121, 0), (338, 4, 0, 337, 0, 122, 0), (375, 1, 0, 374, 0, 123, 0), (431, 5, 0, 429, 430, 113, 1), (434, 5, 1, 433, 0, 113, 3), (438, 0, 0, 436, 437, 114, 0), (442, 0, 0, 441, 0, 114, 1), (446, 0, 0, 444, 445, 114, 1), (450, 2, 0, 448, 449, 115, 2), (454, 0, 0, 453, 1, 114, 1), (458, 5, 0, 456, 457, 113, 5), (461, 5, 1, 460, 0, 113, 1), (465, 5, 1, 464, 0, 113, 1), (469, 2, 0, 467, 468, 115, 0), (473, 0, 0, 471, 472, 114, 5), (477, 2, 0, 475, 476, 115, 0), (482, 2, 0, 480, 481, 115, 1), (487, 5, 0, 485, 486, 113, 2), (491, 2, 0, 489, 490, 115, 1), (495, 0, 0, 493, 494, 114, 1), (499, 0, 0, 498, 2, 114, 3), (504, 0, 0, 502, 503, 114, 1), (509, 5, 0, 507, 508, 113, 2)]
def mj_M_1 : List (Nat × Nat × Nat × Nat × Nat × Nat × Nat) := [(514, 0, 0, 512, 513, 114, 2), (518, 5, 0, 516, 517, 113, 2), (522, 2, 0, 520, 521, 115, 3), (527, 5, 0, 525, 526, 113, 2), (531, 5, 0, 529, 530, 113, 2), (534, 5, 1, 533, 0, 113, 1), (538, 5, 0, 536, 537, 113, 2), (543, 5, 0, 541, 542, 113, 2), (547, 5, 0, 545, 546, 113, 2), (551, 5, 0, 549, 550, 113, 2), (554, 5, 1, 553, 0, 113, 1), (558, 0, 0, 556, 557, 114, 2), (562, 0, 0, 560, 561, 114, 1), (566, 5, 0, 564, 565, 113, 2), (570, 5, 0, 568, 569, 113, 1), (574, 0, 0, 572, 573, 114, 1), (579, 5, 0, 577, 578, 113, 2), (582, 5, 1, 581, 0, 113, 1), (586, 0, 0, 584, 585, 114, 2), (591, 5, 0, 589, 590, 113, 2), (594, 10, 1, 593, 0, 125, 1), (601, 0, 0, 599, 600, 114, 1), (605, 0, 0, 604, 3, 114, 2), (609, 0, 0, 608, 4, 114, 3), (613, 0, 0, 612, 5, 114, 2), (618, 5, 0, 616, 617, 113, 2), (621, 5, 1, 620, 0, 113, 1), (625, 5, 0, 623, 624, 113, 3), (629, 0, 0, 627, 628, 114, 3), (633, 5, 0, 631, 632, 113, 1), (637, 5, 0, 635, 636, 113, 1), (641, 0, 0, 639, 640, 114, 1), (645, 5, 0, 643, 644, 113, 1), (649, 5, 0, 647, 648, 113, 2), (653, 0, 0, 651, 652, 114, 1), (657, 0, 0, 655, 656, 114, 3), (661, 0, 0, 660, 6, 114, 1), (665, 0, 0, 664, 7, 114, 1), (669, 0, 0, 668, 8, 114, 1), (673, 0, 0, 672, 9, 114, 3)]
def mj_M_2 : List (Nat × Nat × Nat × Nat × Nat × Nat × Nat) := [(677, 0, 0, 676, 10, 114, 3), (681, 5, 0, 679, 680, 113, 2), (686, 3, 0, 684, 685, 121, 1), (690, 5, 0, 688, 689, 113, 0), (694, 3, 0, 692, 693, 121, 0), (698, 2, 0, 696, 697, 115, 0), (702, 3, 0, 701, 11, 121, 0), (705, 9, 1, 704, 0, 116, 2), (710, 3, 0, 709, 12, 121, 0), (714, 3, 0, 713, 13, 121, 0), (719, 3, 0, 718, 14, 121, 1), (723, 3, 0, 722, 15, 121, 1), (732, 3, 0, 731, 16, 121, 1), (740, 3, 0, 739, 17, 121, 1), (744, 3, 0, 743, 18, 121, 1), (753, 3, 0, 752, 19, 121, 0), (766, 3, 0, 765, 20, 121, 1), (774, 0, 0, 772, 773, 114, 1), (778, 5, 0, 776, 777, 113, 2), (782, 5, 0, 780, 781, 113, 2), (786, 0, 0, 784, 785, 114, 2), (790, 5, 0, 788, 789, 113, 2), (794, 0, 0, 792, 793, 114, 2), (798, 5, 0, 796, 797, 113, 3), (803, 5, 0, 801, 802, 113, 2), (807, 0, 0, 805, 806, 114, 1), (812, 5, 0, 810, 811, 113, 4), (815, 5, 1, 814, 0, 113, 1), (818, 5, 1, 817, 0, 113, 1), (822, 5, 0, 820, 821, 113, 3), (826, 5, 0, 824, 825, 113, 4), (831, 4, 0, 829, 830, 122, 5), (837, 4, 0, 836, 21, 122, 6), (841, 4, 0, 840, 22, 122, 4), (848, 4, 0, 847, 23, 122, 6), (852, 5, 0, 850, 851, 113, 3), (856, 4, 0, 854, 855, 122, 3), (860, 4, 0, 859, 24, 122, 6), (864, 4, 0, 863, 25, 122, 3), (871, 4, 0, 870, 26, 122, 6)]
def mj_M_3 : List (Nat × Nat × Nat × Nat × Nat × Nat × Nat) := [(875, 4, 0, 873, 874, 122, 1), (879, 5, 0, 877, 878, 113, 2), (883, 5, 0, 882, 27, 113, 1), (889, 0, 0, 887, 888, 114, 1), (895, 0, 0, 894, 28, 114, 0), (899, 5, 0, 898, 29, 113, 1), (903, 5, 0, 902, 30, 113, 1), (907, 5, 0, 906, 31, 113, 2), (911, 5, 0, 910, 32, 113, 1), (915, 5, 0, 913, 914, 113, 2), (919, 5, 0, 917, 918, 113, 3), (923, 5, 0, 921, 922, 113, 2), (927, 5, 0, 925, 926, 113, 2), (931, 0, 0, 929, 930, 114, 3), (935, 0, 0, 933, 934, 114, 3), (939, 5, 0, 937, 938, 113, 1), (943, 5, 0, 941, 942, 113, 6), (948, 5, 0, 946, 947, 113, 2), (952, 5, 0, 950, 951, 113, 2), (956, 0, 0, 954, 955, 114, 2), (960, 0, 0, 958, 959, 114, 1), (964, 0, 0, 962, 963, 114, 1), (968, 0, 0, 967, 33, 114, 2), (973, 5, 0, 971, 972, 113, 1), (978, 0, 0, 976, 977, 114, 2), (982, 5, 0, 980, 981, 113, 3), (986, 5, 0, 984, 985, 113, 2), (990, 0, 0, 988, 989, 114, 1), (994, 0, 0, 992, 993, 114, 1), (998, 0, 0, 996, 997, 114, 1), (1001, 5, 1, 1000, 0, 113, 1), (1008, 5, 0, 1006, 1007, 113, 3), (1012, 2, 0, 1010, 1011, 115, 1), (1017, 5, 0, 1015, 1016, 113, 3), (1020, 5, 1, 1019, 0, 113, 2), (1024, 5, 0, 1022, 1023, 113, 3), (1028, 5, 0, 1027, 34, 113, 2), (1032, 5, 0, 1030, 1031, 113, 2), (1037, 5, 0, 1035, 1036, 113, 3), (1041, 5, 0, 1040, 35, 113, 2)]
def mj_M_4 : List (Nat × Nat × Nat × Nat × Nat × Nat × Nat) := [(1045, 5, 0, 1044, 36, 113, 2), (1049, 5, 0, 1047, 1048, 113, 2), (1053, 5, 0, 1052, 37, 113, 1), (1057, 5, 0, 1056, 38, 113, 2), (1060, 5, 1, 1059, 0, 113, 1), (1064, 5, 0, 1063, 39, 113, 2), (1068, 1, 0, 1066, 1067, 123, 3), (1072, 1, 0, 1070, 1071, 123, 1), (1078, 5, 0, 1076, 1077, 113, 3), (1082, 1, 0, 1080, 1081, 123, 2), (1086, 1, 0, 1085, 40, 123, 4), (1095, 1, 0, 1094, 41, 123, 3), (1099, 1, 0, 1098, 42, 123, 2), (1103, 5, 0, 1101, 1102, 113, 1), (1107, 5, 0, 1105, 1106, 113, 1), (1111, 0, 0, 1109, 1110, 114, 1), (1115, 0, 0, 1113, 1114, 114, 0), (1119, 5, 0, 1117, 1118, 113, 0), (1123, 0, 0, 1121, 1122, 114, 1), (1127, 2, 0, 1125, 1126, 115, 1), (1133, 5, 0, 1131, 1132, 113, 0), (1138, 6, 0, 1137, 0, 124, 0), (1332, 6, 0, 1330, 1331, 124, 1), (1335, 6, 1, 1334, 0, 124, 3), (1339, 6, 0, 1338, 43, 124, 0), (1343, 6, 0, 1342, 44, 124, 2), (1347, 6, 0, 1346, 45, 124, 3), (1351, 6, 0, 1350, 46, 124, 1), (1355, 6, 0, 1353, 1354, 124, 5), (1358, 6, 1, 1357, 0, 124, 1), (1362, 6, 0, 1360, 1361, 124, 2), (1366, 6, 0, 1365, 47, 124, 1), (1369, 6, 1, 1368, 0, 124, 1), (1373, 6, 0, 1372, 48, 124, 2), (1377, 6, 0, 1376, 49, 124, 2), (1381, 6, 0, 1379, 1380, 124, 2), (1385, 6, 0, 1383, 1384, 124, 2), (1389, 6, 0, 1387, 1388, 124, 2), (1393, 6, 0, 1391, 1392, 124, 2), (1397, 6, 0, 1395, 1396, 124, 2)]
def mj_M_5 : List (Nat × Nat × Nat × Nat × Nat × Nat × Nat) := [(1401, 6, 0, 1399, 1400, 124, 2), (1405, 6, 0, 1403, 1404, 124, 2), (1409, 6, 0, 1407, 1408, 124, 2), (1412, 6, 1, 1411, 0, 124, 1), (1416, 6, 0, 1415, 50, 124, 2), (1420, 6, 0, 1418, 1419, 124, 2), (1424, 6, 0, 1422, 1423, 124, 1), (1428, 6, 0, 1427, 51, 124, 1), (1432, 6, 0, 1430, 1431, 124, 2), (1435, 6, 1, 1434, 0, 124, 2), (1438, 6, 1, 1437, 0, 124, 1), (1442, 6, 0, 1441, 52, 124, 2), (1446, 6, 0, 1444, 1445, 124, 2), (1449, 6, 1, 1448, 0, 124, 1), (1453, 6, 0, 1452, 53, 124, 2), (1457, 6, 0, 1456, 54, 124, 2), (1461, 6, 0, 1459, 1460, 124, 2), (1465, 6, 0, 1463, 1464, 124, 3), (1469, 6, 0, 1467, 1468, 124, 1), (1473, 6, 0, 1472, 55, 124, 1), (1477, 6, 0, 1476, 56, 124, 1), (1481, 6, 0, 1479, 1480, 124, 1), (1485, 6, 0, 1483, 1484, 124, 1), (1489, 6, 0, 1487, 1488, 124, 2), (1493, 6, 0, 1492, 57, 124, 1), (1497, 6, 0, 1496, 58, 124, 1), (1501, 6, 0, 1500, 59, 124, 3), (1505, 6, 0, 1504, 60, 124, 1), (1509, 6, 0, 1508, 61, 124, 4), (1513, 6, 0, 1512, 62, 124, 3), (1517, 6, 0, 1516, 63, 124, 3), (1521, 6, 0, 1519, 1520, 124, 2), (1526, 6, 0, 1524, 1525, 124, 0), (1530, 6, 0, 1529, 64, 124, 0), (1533, 6, 1, 1532, 0, 124, 1), (1536, 6, 1, 1535, 0, 124, 1), (1540, 6, 0, 1539, 65, 124, 0), (1544, 6, 0, 1543, 66, 124, 1), (1549, 6, 0, 1548, 67, 124, 1), (1555, 6, 0, 1554, 68, 124, 0)]
def mj_M_6 : List (Nat × Nat × Nat × Nat × Nat × Nat × Nat) := [(1559, 6, 0, 1558, 69, 124, 1), (1563, 6, 0, 1562, 70, 124, 1), (1567, 6, 0, 1566, 71, 124, 0), (1571, 6, 0, 1570, 72, 124, 1), (1575, 6, 0, 1574, 73, 124, 1), (1579, 6, 0, 1578, 74, 124, 0), (1585, 6, 0, 1584, 75, 124, 1), (1589, 6, 0, 1588, 76, 124, 0), (1598, 6, 0, 1597, 77, 124, 1), (1603, 6, 0, 1601, 1602, 124, 2), (1607, 6, 0, 1605, 1606, 124, 2), (1611, 6, 0, 1610, 78, 124, 2), (1615, 6, 0, 1613, 1614, 124, 2), (1619, 6, 0, 1618, 79, 124, 2), (1623, 6, 0, 1621, 1622, 124, 3), (1627, 6, 0, 1625, 1626, 124, 2), (1631, 6, 0, 1630, 80, 124, 1), (1635, 6, 0, 1633, 1634, 124, 4), (1638, 6, 1, 1637, 0, 124, 1), (1642, 6, 0, 1640, 1641, 124, 3), (1646, 6, 0, 1644, 1645, 124, 4), (1652, 6, 0, 1651, 81, 124, 1), (1656, 6, 0, 1655, 82, 124, 1), (1660, 6, 0, 1659, 83, 124, 1), (1665, 6, 0, 1663, 1664, 124, 3), (1669, 6, 0, 1668, 84, 124, 2), (1673, 6, 0, 1671, 1672, 124, 2), (1676, 6, 1, 1675, 0, 124, 2), (1680, 6, 0, 1679, 85, 124, 2), (1684, 6, 0, 1683, 86, 124, 1), (1688, 6, 0, 1687, 87, 124, 2), (1692, 6, 0, 1691, 88, 124, 1), (1696, 6, 0, 1695, 89, 124, 0), (1700, 6, 0, 1699, 90, 124, 2), (1704, 6, 0, 1702, 1703, 124, 2), (1708, 6, 0, 1707, 91, 124, 2), (1712, 6, 0, 1710, 1711, 124, 3), (1716, 6, 0, 1714, 1715, 124, 2), (1720, 6, 0, 1718, 1719, 124, 2), (1724, 6, 0, 1722, 1723, 124, 1)]
def mj_M_7 : List (Nat × Nat × Nat × Nat × Nat × Nat × Nat) := [(1728, 6, 0, 1726, 1727, 124, 6), (1732, 6, 0, 1730, 1731, 124, 2), (1736, 6, 0, 1734, 1735, 124, 2), (1740, 6, 0, 1739, 92, 124, 1), (1744, 6, 0, 1743, 93, 124, 1), (1748, 6, 0, 1747, 94, 124, 2), (1752, 6, 0, 1750, 1751, 124, 1), (1756, 6, 0, 1754, 1755, 124, 3), (1760, 6, 0, 1758, 1759, 124, 2), (1764, 6, 0, 1762, 1763, 124, 3), (1767, 6, 1, 1766, 0, 124, 1), (1771, 6, 0, 1769, 1770, 124, 3), (1774, 6, 1, 1773, 0, 124, 2), (1778, 6, 0, 1776, 1777, 124, 3), (1782, 6, 0, 1781, 95, 124, 2), (1786, 6, 0, 1784, 1785, 124, 2), (1791, 6, 0, 1789, 1790, 124, 3), (1795, 6, 0, 1794, 96, 124, 2), (1799, 6, 0, 1797, 1798, 124, 2), (1803, 6, 0, 1802, 97, 124, 1), (1806, 6, 1, 1805, 0, 124, 2), (1810, 6, 0, 1808, 1809, 124, 3), (1814, 6, 0, 1813, 98, 124, 2), (1818, 6, 0, 1817, 99, 124, 1), (1822, 6, 0, 1821, 100, 124, 1), (1826, 6, 0, 1825, 101, 124, 1), (1830, 6, 0, 1829, 102, 124, 1), (1834, 6, 0, 1833, 103, 124, 1), (1838, 6, 0, 1837, 104, 124, 1), (1842, 6, 0, 1841, 105, 124, 1), (1846, 6, 0, 1845, 106, 124, 1), (1850, 6, 0, 1849, 107, 124, 1), (1854, 6, 0, 1852, 1853, 124, 1), (1858, 6, 0, 1856, 1857, 124, 1), (1862, 6, 0, 1861, 108, 124, 0), (1866, 6, 0, 1865, 109, 124, 1), (1870, 6, 0, 1868, 1869, 124, 0), (1874, 6, 0, 1873, 110, 124, 1), (1878, 6, 0, 1877, 111, 124, 3), (1882, 6, 0, 1880, 1881, 124, 0)]
def mj_M : List (Nat × Nat × Nat × Nat × Nat × Nat × Nat) := mj_M_0 ++ (mj_M_1 ++ (mj_M_2 ++ (mj_M_3 ++ (mj_M_4 ++ (mj_M_5 ++ (mj_M_6 ++ (mj_M_7)))))))
/-- links of fields: class that links, index, class that has it, field, place -/
def mj_fl_0 : List (Nat × Nat × Nat × Nat × Nat) := [(2, 19, 2, 0, 150), (2, 22, 2, 1, 151), (2, 25, 2, 2, 152), (2, 7, 2, 3, 153), (0, 98, 2, 3, 154), (3, 91, 2, 3, 155), (5, 174, 2, 3, 156), (0, 9, 0, 0, 220), (5, 70, 0, 0, 221), (0, 15, 0, 1, 222), (5, 377, 0, 1, 223), (0, 23, 0, 2, 224), (5, 84, 0, 2, 225), (0, 27, 0, 3, 226), (5, 123, 0, 3, 227), (0, 30, 0, 4, 228), (5, 126, 0, 4, 229), (0, 33, 0, 5, 230), (5, 133, 0, 5, 231), (0, 36, 0, 6, 232), (5, 136, 0, 6, 233), (0, 39, 0, 7, 234), (5, 145, 0, 7, 235), (0, 42, 0, 8, 236), (5, 171, 0, 8, 237), (0, 45, 0, 9, 238), (5, 168, 0, 9, 239), (0, 48, 0, 10, 240), (5, 177, 0, 10, 241), (0, 51, 0, 11, 242), (5, 186, 0, 11, 243), (0, 54, 0, 12, 244), (5, 207, 0, 12, 245), (0, 57, 0, 13, 246), (5, 214, 0, 13, 247), (0, 60, 0, 14, 248), (0, 63, 0, 15, 249), (5, 227, 0, 15, 250), (0, 66, 0, 16, 251), (4, 91, 0, 16, 252)]
def mj_fl_1 : List (Nat × Nat × Nat × Nat × Nat) := [(5, 239, 0, 16, 253), (0, 69, 0, 17, 254), (4, 54, 0, 17, 255), (5, 242, 0, 17, 256), (0, 72, 0, 18, 257), (5, 298, 0, 18, 258), (0, 75, 0, 19, 259), (5, 313, 0, 19, 260), (3, 9, 3, 0, 311), (3, 15, 3, 1, 312), (5, 192, 3, 1, 313), (3, 24, 3, 2, 314), (0, 152, 3, 2, 315), (3, 28, 3, 3, 316), (0, 155, 3, 3, 317), (3, 31, 3, 4, 318), (5, 204, 3, 4, 319), (3, 34, 3, 5, 320), (4, 9, 4, 0, 342), (4, 15, 4, 1, 343), (4, 18, 4, 2, 344), (4, 22, 4, 3, 345), (5, 254, 4, 3, 346), (4, 25, 4, 4, 347), (5, 257, 4, 4, 348), (4, 33, 4, 5, 349), (4, 37, 4, 6, 350), (4, 40, 4, 7, 351), (1, 9, 1, 0, 379), (1, 15, 1, 1, 380), (1, 18, 1, 2, 381), (1, 21, 1, 3, 382), (1, 30, 1, 4, 383), (5, 356, 1, 4, 384), (5, 10, 5, 0, 397), (5, 16, 5, 1, 398), (5, 19, 5, 2, 399), (5, 26, 5, 3, 400), (5, 33, 5, 4, 401), (5, 42, 5, 5, 402)]
def mj_fl_2 : List (Nat × Nat × Nat × Nat × Nat) := [(5, 46, 5, 6, 403), (5, 49, 5, 7, 404), (5, 52, 5, 8, 405), (5, 58, 5, 9, 406), (6, 7, 6, 0, 1140), (6, 13, 6, 1, 1141), (6, 16, 6, 2, 1142), (6, 19, 6, 3, 1143), (6, 22, 6, 4, 1144), (6, 25, 6, 5, 1145), (6, 28, 6, 6, 1146), (6, 31, 6, 7, 1147), (6, 34, 6, 8, 1148), (6, 37, 6, 9, 1149), (6, 40, 6, 10, 1150), (6, 43, 6, 11, 1151), (6, 46, 6, 12, 1152), (6, 49, 6, 13, 1153), (6, 52, 6, 14, 1154), (6, 55, 6, 15, 1155), (6, 58, 6, 16, 1156), (6, 61, 6, 17, 1157), (6, 64, 6, 18, 1158), (6, 214, 6, 19, 1159), (6, 229, 6, 20, 1160), (6, 223, 6, 21, 1161), (6, 220, 6, 22, 1162), (6, 226, 6, 23, 1163), (6, 238, 6, 24, 1164), (6, 67, 6, 25, 1165), (6, 70, 6, 26, 1166), (6, 73, 6, 27, 1167), (6, 251, 6, 28, 1168), (6, 254, 6, 29, 1169), (6, 76, 6, 30, 1170), (6, 80, 6, 31, 1171), (6, 329, 6, 32, 1172), (6, 83, 6, 33, 1173), (6, 87, 6, 34, 1174), (6, 90, 6, 35, 1175)]
def mj_fl_3 : List (Nat × Nat × Nat × Nat × Nat) := [(6, 346, 6, 36, 1176), (6, 349, 6, 37, 1177), (6, 352, 6, 38, 1178), (6, 93, 6, 39, 1179), (6, 96, 6, 40, 1180), (6, 99, 6, 41, 1181), (6, 102, 6, 42, 1182), (6, 105, 6, 43, 1183), (6, 364, 6, 44, 1184), (6, 382, 6, 45, 1185), (6, 108, 6, 46, 1186), (6, 111, 6, 47, 1187), (6, 114, 6, 48, 1188), (6, 117, 6, 49, 1189), (6, 120, 6, 50, 1190), (6, 123, 6, 51, 1191), (6, 126, 6, 52, 1192), (6, 422, 6, 53, 1193), (6, 428, 6, 54, 1194), (6, 431, 6, 55, 1195), (6, 129, 6, 56, 1196), (6, 419, 6, 57, 1197), (6, 443, 6, 58, 1198), (6, 481, 6, 59, 1199), (6, 132, 6, 60, 1200), (6, 471, 6, 61, 1201)]
def mj_fl : List (Nat × Nat × Nat × Nat × Nat) := mj_fl_0 ++ (mj_fl_1 ++ (mj_fl_2 ++ (mj_fl_3)))
/-- links of String's fields -/
def mj_sl : List (Nat × Nat × Nat × Nat) := [(7, 9, 0, 1884), (7, 15, 1, 1885)]
/-- links of statics: .., which static, by a nest mate, place -/
def mj_stl : List (Nat × Nat × Nat × Nat × Nat) := [(7, 38, 2, 0, 180), (7, 1053, 3, 0, 196), (1, 34, 0, 1, 1073), (1, 42, 1, 1, 1087)]
/-- links of methods: .., kind (0 virtual, 1 static, 2 constructor, 3 and 4 by a nest mate: constructor, static; 5 Object(), 6 arraycopy, 7 and 8 Math.max, min), method, place -/
def mj_ml_0 : List (Nat × Nat × Nat × Nat × Nat) := [(15, 9, 2, 0, 129), (5, 1, 5, 0, 132), (5, 9, 2, 2, 137), (0, 3, 5, 0, 140), (0, 20, 2, 3, 143), (2, 1, 5, 0, 146), (2, 13, 7, 0, 147), (0, 78, 0, 5, 167), (0, 84, 0, 6, 172), (7, 335, 0, 7, 176), (0, 90, 0, 8, 182), (7, 492, 0, 9, 186), (7, 495, 1, 10, 190), (8, 9, 1, 11, 193), (7, 1059, 1, 12, 198), (7, 498, 1, 13, 201), (13, 67, 1, 14, 204), (13, 48, 1, 15, 207), (13, 414, 1, 11, 210), (13, 71, 1, 16, 211), (5, 25, 3, 17, 305), (3, 3, 5, 0, 308), (3, 21, 2, 3, 310), (5, 32, 3, 18, 336), (4, 3, 5, 0, 339), (4, 30, 2, 3, 341), (5, 39, 2, 3, 370), (5, 57, 3, 19, 373), (1, 3, 5, 0, 376), (1, 27, 2, 3, 378), (5, 62, 0, 5, 396), (15, 13, 0, 20, 428), (5, 66, 1, 21, 432), (5, 74, 0, 22, 435), (0, 101, 0, 23, 439), (0, 112, 0, 24, 443), (0, 105, 0, 25, 447), (0, 109, 0, 26, 451), (15, 18, 0, 27, 455), (5, 77, 1, 28, 459)]
def mj_ml_1 : List (Nat × Nat × Nat × Nat × Nat) := [(5, 81, 1, 29, 463), (5, 87, 0, 30, 466), (5, 91, 0, 31, 470), (0, 116, 0, 32, 474), (2, 29, 0, 30, 478), (2, 33, 0, 33, 479), (2, 37, 0, 5, 483), (15, 23, 0, 34, 484), (5, 95, 0, 35, 488), (5, 98, 0, 36, 492), (0, 119, 0, 37, 496), (0, 137, 7, 0, 500), (5, 102, 0, 38, 501), (5, 105, 0, 25, 505), (15, 28, 0, 39, 506), (5, 109, 0, 24, 510), (5, 112, 0, 40, 511), (15, 33, 0, 41, 515), (5, 116, 0, 42, 519), (2, 41, 0, 25, 523), (15, 37, 0, 43, 524), (15, 41, 0, 44, 528), (5, 120, 1, 45, 532), (15, 45, 0, 46, 535), (5, 129, 0, 32, 539), (15, 49, 0, 47, 540), (15, 53, 0, 48, 544), (15, 57, 0, 49, 548), (5, 139, 1, 50, 552), (5, 142, 0, 51, 555), (0, 123, 0, 52, 559), (15, 61, 0, 53, 563), (15, 65, 0, 54, 567), (5, 148, 0, 55, 571), (15, 69, 0, 56, 576), (5, 151, 1, 57, 580), (5, 154, 0, 58, 583), (0, 128, 0, 55, 587), (15, 73, 0, 59, 588), (5, 157, 1, 60, 592)]
def mj_ml_2 : List (Nat × Nat × Nat × Nat × Nat) := [(5, 162, 0, 61, 598), (0, 131, 0, 62, 602), (0, 134, 0, 63, 606), (0, 142, 0, 64, 610), (0, 145, 0, 36, 614), (15, 77, 0, 65, 615), (5, 165, 1, 66, 619), (15, 81, 0, 67, 622), (5, 180, 0, 68, 626), (15, 86, 0, 69, 630), (15, 90, 0, 70, 634), (5, 183, 0, 71, 638), (15, 94, 0, 72, 642), (15, 98, 0, 73, 646), (5, 189, 0, 74, 650), (0, 148, 0, 75, 654), (0, 156, 0, 76, 658), (0, 159, 0, 77, 662), (0, 162, 0, 78, 666), (0, 165, 0, 79, 670), (0, 173, 0, 80, 674), (15, 104, 0, 81, 678), (5, 197, 0, 82, 683), (15, 109, 0, 83, 687), (5, 201, 0, 84, 691), (3, 37, 0, 85, 695), (3, 40, 0, 86, 699), (3, 47, 8, 0, 703), (3, 53, 7, 0, 706), (3, 43, 0, 88, 707), (3, 70, 0, 89, 711), (3, 79, 0, 90, 716), (3, 66, 0, 91, 720), (3, 56, 0, 6, 724), (3, 62, 0, 8, 725), (3, 73, 0, 92, 729), (3, 84, 0, 32, 735), (3, 87, 0, 5, 736), (3, 94, 0, 93, 737), (3, 108, 0, 94, 741)]
def mj_ml_3 : List (Nat × Nat × Nat × Nat × Nat) := [(3, 129, 0, 95, 750), (3, 113, 0, 96, 763), (3, 150, 0, 30, 767), (5, 210, 0, 97, 771), (15, 114, 0, 98, 775), (15, 118, 0, 99, 779), (5, 217, 0, 100, 783), (15, 122, 0, 101, 787), (5, 220, 0, 102, 791), (15, 126, 0, 103, 795), (5, 224, 0, 75, 799), (15, 130, 0, 104, 800), (5, 230, 0, 105, 804), (0, 168, 1, 60, 808), (15, 134, 0, 106, 809), (5, 233, 1, 107, 813), (5, 236, 1, 108, 816), (15, 139, 0, 109, 819), (15, 143, 0, 110, 823), (5, 246, 0, 111, 828), (4, 69, 0, 33, 832), (4, 73, 0, 5, 833), (4, 76, 0, 112, 834), (4, 79, 0, 113, 838), (4, 59, 0, 25, 842), (4, 83, 7, 0, 844), (4, 88, 0, 114, 845), (15, 147, 0, 115, 849), (5, 250, 0, 116, 853), (4, 43, 0, 117, 857), (4, 47, 0, 118, 861), (4, 63, 6, 0, 865), (4, 51, 0, 119, 868), (5, 260, 0, 120, 872), (15, 151, 0, 121, 876), (5, 263, 0, 122, 880), (5, 272, 0, 85, 884), (5, 275, 0, 52, 885), (5, 278, 0, 123, 886), (0, 176, 0, 102, 890)]
def mj_ml_4 : List (Nat × Nat × Nat × Nat × Nat) := [(0, 180, 0, 105, 891), (0, 183, 0, 124, 892), (5, 266, 0, 125, 896), (5, 281, 0, 126, 900), (5, 284, 0, 127, 904), (5, 269, 0, 128, 908), (15, 155, 0, 129, 912), (15, 159, 0, 130, 916), (15, 163, 0, 131, 920), (15, 167, 0, 132, 924), (5, 287, 0, 133, 928), (5, 290, 0, 134, 932), (15, 171, 0, 135, 936), (15, 175, 0, 136, 940), (5, 293, 7, 0, 944), (15, 180, 0, 137, 945), (15, 184, 0, 138, 949), (5, 301, 0, 139, 953), (0, 189, 0, 140, 957), (0, 192, 0, 141, 961), (0, 186, 0, 142, 965), (5, 304, 0, 141, 969), (15, 188, 0, 143, 970), (5, 307, 0, 140, 974), (5, 310, 0, 144, 975), (15, 192, 0, 145, 979), (15, 196, 0, 146, 983), (5, 316, 0, 147, 987), (0, 198, 0, 148, 991), (0, 201, 0, 149, 995), (0, 195, 4, 150, 999), (5, 319, 0, 148, 1002), (5, 322, 0, 149, 1003), (5, 326, 1, 150, 1004), (15, 200, 0, 151, 1005), (5, 329, 0, 152, 1009), (5, 332, 0, 33, 1013), (15, 204, 0, 153, 1014), (5, 335, 1, 154, 1018), (15, 208, 0, 155, 1021)]
def mj_ml_5 : List (Nat × Nat × Nat × Nat × Nat) := [(5, 338, 0, 156, 1025), (15, 212, 0, 157, 1029), (5, 341, 0, 27, 1033), (15, 216, 0, 158, 1034), (5, 344, 0, 159, 1038), (5, 347, 0, 160, 1042), (15, 220, 0, 161, 1046), (5, 350, 0, 162, 1050), (5, 362, 0, 163, 1054), (5, 371, 1, 164, 1058), (5, 365, 0, 165, 1061), (5, 368, 0, 166, 1065), (5, 353, 0, 167, 1069), (15, 224, 0, 168, 1075), (5, 359, 0, 169, 1079), (1, 38, 0, 170, 1083), (1, 45, 0, 30, 1089), (1, 49, 0, 32, 1090), (1, 53, 0, 5, 1091), (1, 57, 0, 171, 1092), (1, 61, 0, 172, 1096), (15, 228, 0, 173, 1100), (15, 232, 0, 174, 1104), (5, 374, 0, 175, 1108), (5, 380, 0, 176, 1112), (15, 236, 0, 177, 1116), (5, 383, 0, 178, 1120), (0, 94, 0, 179, 1124), (2, 44, 8, 0, 1128), (2, 47, 6, 0, 1129), (15, 240, 0, 180, 1130), (15, 12, 2, 181, 1136), (6, 1, 5, 0, 1139), (15, 17, 0, 182, 1329), (6, 135, 1, 183, 1333), (6, 139, 0, 184, 1336), (6, 142, 0, 185, 1340), (6, 146, 0, 186, 1344), (6, 150, 0, 187, 1348), (15, 22, 0, 188, 1352)]
def mj_ml_6 : List (Nat × Nat × Nat × Nat × Nat) := [(6, 154, 1, 189, 1356), (15, 27, 0, 190, 1359), (6, 161, 0, 191, 1363), (6, 164, 1, 192, 1367), (6, 168, 0, 193, 1370), (6, 158, 0, 194, 1374), (15, 32, 0, 195, 1378), (15, 36, 0, 196, 1382), (15, 40, 0, 197, 1386), (15, 44, 0, 198, 1390), (15, 48, 0, 199, 1394), (15, 52, 0, 200, 1398), (15, 56, 0, 201, 1402), (15, 60, 0, 202, 1406), (6, 171, 1, 203, 1410), (6, 174, 0, 204, 1413), (15, 64, 0, 205, 1417), (15, 68, 0, 206, 1421), (6, 177, 0, 207, 1425), (15, 72, 0, 208, 1429), (6, 183, 1, 209, 1433), (6, 180, 1, 210, 1436), (6, 187, 0, 211, 1439), (15, 76, 0, 212, 1443), (6, 193, 1, 213, 1447), (6, 196, 0, 214, 1450), (6, 190, 0, 215, 1454), (15, 80, 0, 216, 1458), (15, 85, 0, 217, 1462), (15, 89, 0, 218, 1466), (6, 202, 0, 219, 1470), (6, 199, 0, 220, 1474), (15, 93, 0, 221, 1478), (15, 97, 0, 222, 1482), (15, 101, 0, 223, 1486), (6, 208, 0, 224, 1490), (6, 211, 0, 225, 1494), (6, 205, 0, 226, 1498), (6, 310, 0, 227, 1502), (6, 313, 0, 228, 1506)]
def mj_ml_7 : List (Nat × Nat × Nat × Nat × Nat) := [(6, 307, 0, 229, 1510), (6, 303, 0, 230, 1514), (15, 108, 0, 231, 1518), (15, 113, 0, 232, 1523), (6, 245, 0, 233, 1527), (6, 232, 1, 234, 1531), (6, 235, 1, 235, 1534), (6, 241, 0, 236, 1537), (6, 300, 0, 237, 1541), (6, 260, 0, 238, 1546), (6, 248, 0, 239, 1552), (6, 281, 0, 240, 1556), (6, 274, 0, 241, 1560), (6, 296, 0, 242, 1564), (6, 284, 0, 243, 1568), (6, 278, 0, 244, 1572), (6, 287, 0, 245, 1576), (6, 257, 0, 246, 1582), (6, 270, 0, 247, 1586), (6, 290, 0, 248, 1595), (15, 117, 0, 249, 1600), (15, 121, 0, 250, 1604), (6, 317, 0, 251, 1608), (15, 125, 0, 252, 1612), (6, 320, 0, 253, 1616), (15, 129, 0, 254, 1620), (15, 133, 0, 255, 1624), (6, 323, 0, 256, 1628), (15, 138, 0, 257, 1632), (6, 326, 1, 258, 1636), (15, 142, 0, 259, 1639), (15, 146, 0, 260, 1643), (6, 340, 0, 261, 1649), (6, 332, 0, 262, 1653), (6, 343, 0, 263, 1657), (15, 150, 0, 264, 1662), (6, 355, 0, 265, 1666), (15, 154, 0, 266, 1670), (6, 376, 1, 267, 1674), (6, 379, 0, 268, 1677)]
def mj_ml_8 : List (Nat × Nat × Nat × Nat × Nat) := [(6, 370, 0, 269, 1681), (6, 367, 0, 270, 1685), (6, 361, 0, 271, 1689), (6, 358, 0, 272, 1693), (6, 373, 0, 273, 1697), (15, 158, 0, 274, 1701), (6, 385, 0, 275, 1705), (15, 162, 0, 276, 1709), (15, 166, 0, 277, 1713), (15, 170, 0, 278, 1717), (15, 174, 0, 279, 1721), (15, 179, 0, 280, 1725), (15, 183, 0, 281, 1729), (15, 187, 0, 282, 1733), (6, 391, 0, 283, 1737), (6, 394, 0, 284, 1741), (6, 388, 0, 285, 1745), (15, 191, 0, 286, 1749), (15, 195, 0, 287, 1753), (15, 199, 0, 288, 1757), (15, 203, 0, 289, 1761), (6, 397, 1, 290, 1765), (15, 207, 0, 291, 1768), (6, 400, 1, 292, 1772), (15, 211, 0, 293, 1775), (6, 403, 0, 294, 1779), (15, 215, 0, 295, 1783), (6, 406, 0, 188, 1787), (15, 219, 0, 296, 1788), (6, 410, 0, 297, 1792), (15, 223, 0, 298, 1796), (6, 413, 0, 299, 1800), (6, 416, 1, 300, 1804), (15, 227, 0, 301, 1807), (6, 459, 0, 302, 1811), (6, 434, 0, 303, 1815), (6, 425, 0, 304, 1819), (6, 450, 0, 305, 1823), (6, 437, 0, 306, 1827), (6, 440, 0, 307, 1831)]
def mj_ml_9 : List (Nat × Nat × Nat × Nat × Nat) := [(6, 456, 0, 308, 1835), (6, 447, 0, 309, 1839), (6, 462, 0, 310, 1843), (6, 453, 0, 311, 1847), (15, 231, 0, 312, 1851), (15, 235, 0, 313, 1855), (6, 465, 0, 314, 1859), (6, 468, 0, 315, 1863), (15, 239, 0, 316, 1867), (6, 478, 0, 317, 1871), (6, 474, 0, 318, 1875), (15, 243, 0, 319, 1879)]
def mj_ml : List (Nat × Nat × Nat × Nat × Nat) := mj_ml_0 ++ (mj_ml_1 ++ (mj_ml_2 ++ (mj_ml_3 ++ (mj_ml_4 ++ (mj_ml_5 ++ (mj_ml_6 ++ (mj_ml_7 ++ (mj_ml_8 ++ (mj_ml_9)))))))))
/-- constants: .., kind (0 int, 1 long, 2 text), value, place -/
def mj_kl : List (Nat × Nat × Nat × Int × Nat) := [(0, 82, 2, 0, 171), (5, 387, 0, 387420488, 462), (0, 127, 0, 14348907, 575), (10, 265, 0, 1431655765, 595), (10, 266, 0, 858993459, 596), (10, 267, 0, 252645135, 597), (5, 195, 1, 255, 682), (3, 100, 2, 1, 715), (3, 102, 2, 2, 726), (3, 104, 2, 3, 727), (3, 106, 2, 4, 728), (3, 77, 2, 5, 733), (3, 82, 2, 6, 734), (3, 119, 2, 7, 745), (3, 121, 2, 8, 746), (3, 123, 2, 9, 747), (3, 125, 2, 10, 748), (3, 127, 2, 11, 749), (3, 132, 2, 12, 754), (3, 134, 2, 13, 755), (3, 136, 2, 14, 756), (3, 138, 2, 15, 757), (3, 140, 2, 16, 758), (3, 142, 2, 17, 759), (3, 144, 2, 18, 760), (3, 146, 2, 19, 761), (3, 148, 2, 20, 762), (3, 111, 2, 21, 768), (3, 117, 2, 22, 769), (3, 98, 2, 23, 770), (5, 245, 0, 99999, 827), (4, 94, 1, 1000, 843), (6, 218, 1, 255, 1522), (6, 293, 0, 355412, 1545), (6, 294, 0, 240023, 1550), (6, 295, 0, 8868696, 1551), (6, 268, 0, 380630, 1580), (6, 269, 0, 298503040, 1581), (6, 263, 0, 12325519, 1590), (6, 264, 0, 10983956, 1591), (6, 265, 0, 230475329, 1592), (6, 266, 0, 315904, 1593), (6, 267, 0, 187455942, 1594), (6, 299, 0, 55369, 1599), (6, 339, 0, 99999, 1647), (6, 335, 1, -1, 1648), (6, 337, 1, 1000, 1661), (15, 102, 1, 4294967295, 1883)]
/-- links of classes: .., class, place -/
def mj_nl : List (Nat × Nat × Nat × Nat) := [(15, 7, 5, 127), (5, 7, 0, 135), (0, 18, 2, 141), (5, 23, 3, 303), (3, 19, 2, 309), (5, 30, 4, 334), (4, 28, 2, 340), (5, 37, 2, 369), (5, 55, 1, 371), (1, 25, 2, 377), (15, 10, 6, 1134)]
/-- the texts: who loads it, index, text -/
def mj_tx : List (String × Nat × String) := [("FriarLists$Lists", 82, "01230120022455012423011202"), ("FriarLists$TextReader", 100, "rank"), ("FriarLists$TextReader", 102, "bar"), ("FriarLists$TextReader", 104, "left"), ("FriarLists$TextReader", 106, "proof"), ("FriarLists$TextReader", 77, "buys"), ("FriarLists$TextReader", 82, "if"), ("FriarLists$TextReader", 119, "not"), ("FriarLists$TextReader", 121, "("), ("FriarLists$TextReader", 123, ")"), ("FriarLists$TextReader", 125, "sick"), ("FriarLists$TextReader", 127, "turned"), ("FriarLists$TextReader", 132, "age"), ("FriarLists$TextReader", 134, "weeks"), ("FriarLists$TextReader", 136, "trade"), ("FriarLists$TextReader", 138, "parish"), ("FriarLists$TextReader", 140, "paid"), ("FriarLists$TextReader", 142, "master"), ("FriarLists$TextReader", 144, "<"), ("FriarLists$TextReader", 146, "="), ("FriarLists$TextReader", 148, ">"), ("FriarLists$TextReader", 111, "and"), ("FriarLists$TextReader", 117, "or"), ("FriarLists$TextReader", 98, ";")]
def mj_np : Nat := 112
/-- of each class: places of instantiable and of initialized -/
def mj_in : List (Nat × Nat) := [(136, 114), (372, 123), (142, 115), (304, 121), (335, 122), (128, 113), (1135, 124)]
end
section
/-! THE TABLES ARE RIGHT, by program -/
def mj_w (p : Nat) : Option Cond := lw_tbl[p]?
def mj_m (y : Nat) : Nat × Nat × Nat × Nat × Nat × Nat × Nat := mj_M.getD y (0, 0, 0, 0, 0, 0, 0)
def mj_lawNo : Nat := 320
def mj_cd (y : Nat) : MethodName × ByteArray × Nat × Option FieldType :=
  if y = mj_lawNo then (x, code, maxLocals, ret) else
  match mj_w (mj_m y).1 with
  | some (.code a b c d) => (a, b, c, d)
  | _ => (⟨"", "", ""⟩, ⟨#[]⟩, 0, none)
def mj_y (y : Nat) : MethodName := (mj_cd y).1
def mj_b (y : Nat) : ByteArray := (mj_cd y).2.1
def mj_l (y : Nat) : Nat := (mj_cd y).2.2.1
def mj_r (y : Nat) : Option FieldType := (mj_cd y).2.2.2
def mj_cn (y : Nat) : Nat := if y = mj_lawNo then 15 else (mj_m y).2.1
def mj_sn : Nat → String × String × String
  | 0 => ("FriarLists", "KIND_ABOVE", "[I")
  | 1 => ("FriarLists", "BODIES", "[I")
  | 2 => ("java/lang/String", "COMPACT_STRINGS", "Z")
  | _ => ("jdk/internal/util/Preconditions", "SIOOBE_FORMATTER", "Ljava/util/function/BiFunction;")
def mj_isN : Cond → Bool
  | .fieldLinkNest .. | .methodLinkNest .. => true
  | _ => false
/-- the words of nest mates' links -/
def mj_nw : List Cond := lw_tbl.filter mj_isN
/-- the words that every method bears -/
def mj_tb : List Cond := lw_tbl.filter goodWord
theorem mj_isN.on {w : Cond} (h : mj_isN w = true) : w.onTables = true := by cases w <;> first | rfl | cases h
def mj_txo (i : Nat) : String × Nat × String := mj_tx.getD i ("", 0, "")
def mj_objNo : Nat := 1
def mj_okm (y : Nat) : Bool :=
  plainName (mj_y y).cls && decide (mj_cls (mj_cn y) = (mj_y y).cls) && decide ((mj_y y).cls ≠ "java/lang/invoke/MethodHandle") && decide ((mj_y y).cls ≠ "java/lang/invoke/VarHandle") &&
  decide ((parseMethodDescriptor (mj_y y).desc).map (fun d => d.parameters.length) = some (mj_m y).2.2.2.2.2.2) && decide (mj_w (mj_m y).2.2.2.2.2.1 = some (.initialized (mj_y y).cls)) &&
  (if (mj_m y).2.2.1 = 1 then decide (mj_w (mj_m y).2.2.2.1 = some (.static (mj_y y))) else decide (mj_w (mj_m y).2.2.2.1 = some (.instanceMethod (mj_y y)))) &&
  (match mj_w (mj_m y).1 with | some (.code _ _ _ _) => true | _ => false)
def mj_exm (y : Nat) : Bool := y == mj_objNo || (mj_y y).cls == "java/lang/Math" || mj_okm y
set_option maxRecDepth 100000 in
theorem mj_chk_m0 : ((List.range 320).drop 0).take 40 |>.all mj_exm := by decide +kernel
set_option maxRecDepth 100000 in
theorem mj_chk_m1 : ((List.range 320).drop 40).take 40 |>.all mj_exm := by decide +kernel
set_option maxRecDepth 100000 in
theorem mj_chk_m2 : ((List.range 320).drop 80).take 40 |>.all mj_exm := by decide +kernel
set_option maxRecDepth 100000 in
theorem mj_chk_m3 : ((List.range 320).drop 120).take 40 |>.all mj_exm := by decide +kernel
set_option maxRecDepth 100000 in
theorem mj_chk_m4 : ((List.range 320).drop 160).take 40 |>.all mj_exm := by decide +kernel
set_option maxRecDepth 100000 in
theorem mj_chk_m5 : ((List.range 320).drop 200).take 40 |>.all mj_exm := by decide +kernel
set_option maxRecDepth 100000 in
theorem mj_chk_m6 : ((List.range 320).drop 240).take 40 |>.all mj_exm := by decide +kernel
set_option maxRecDepth 100000 in
theorem mj_chk_m7 : ((List.range 320).drop 280).take 40 |>.all mj_exm := by decide +kernel
def mj_okfl (q : Nat × Nat × Nat × Nat × Nat) : Bool := match mj_cl[q.2.2.1]? with
  | some (C, T, N) => decide (q.2.2.2.1 < N) && decide ((T q.2.2.2.1).1 = C) && decide (mj_w q.2.2.2.2 = some (.fieldLink (mj_cls q.1) q.2.1 C (T q.2.2.2.1).2.1 (T q.2.2.2.1).2.2.1))
  | none => false
set_option maxRecDepth 100000 in
theorem mj_chk_fl : mj_fl.all mj_okfl = true := by decide +kernel
def mj_okml (q : Nat × Nat × Nat × Nat × Nat) : Bool := match q with
  | (c, ix, kd, y, pl) => match kd with
    | 0 => decide (y < mj_lawNo) && decide (y ≠ mj_objNo) && decide ((mj_y y).cls ≠ "java/lang/Math") && decide ((mj_m y).2.2.1 = 0) && decide (mj_w pl = some (.methodLink (mj_cls c) ix (mj_y y))) && decide (mj_w (mj_m y).2.2.2.2.1 = some (.selects (mj_y y).cls (mj_y y) (mj_y y)))
    | 1 => decide (y < mj_lawNo) && decide (y ≠ mj_objNo) && decide ((mj_y y).cls ≠ "java/lang/Math") && decide ((mj_m y).2.2.1 = 1) && decide (mj_w pl = some (.methodLink (mj_cls c) ix (mj_y y)))
    | 2 => decide (y < mj_lawNo) && decide (y ≠ mj_objNo) && decide ((mj_y y).cls ≠ "java/lang/Math") && decide ((mj_m y).2.2.1 = 0) && decide ((mj_y y).name = "<init>") && decide (mj_r y = none) && decide (mj_w pl = some (.methodLink (mj_cls c) ix (mj_y y)))
    | 3 => decide (y < mj_lawNo) && decide (y ≠ mj_objNo) && decide ((mj_y y).cls ≠ "java/lang/Math") && decide ((mj_m y).2.2.1 = 0) && decide ((mj_y y).name = "<init>") && decide (mj_r y = none) && decide (mj_w pl = some (.methodLinkNest (mj_cls c) ix (mj_y y) "FriarLists"))
    | 4 => decide (y < mj_lawNo) && decide (y ≠ mj_objNo) && decide ((mj_y y).cls ≠ "java/lang/Math") && decide ((mj_m y).2.2.1 = 1) && decide (mj_w pl = some (.methodLinkNest (mj_cls c) ix (mj_y y) "FriarLists"))
    | 5 => decide (mj_w pl = some (.methodLink (mj_cls c) ix Lib.objectInit))
    | 6 => decide (mj_w pl = some (.methodLink (mj_cls c) ix arraycopyName))
    | 7 => decide (mj_w pl = some (.methodLink (mj_cls c) ix Lib.Math.max.name))
    | 8 => decide (mj_w pl = some (.methodLink (mj_cls c) ix Lib.Math.min.name))
    | _ => false
set_option maxRecDepth 100000 in
theorem mj_chk_ml0 : mj_ml_0.all mj_okml = true := by decide +kernel
set_option maxRecDepth 100000 in
theorem mj_chk_ml1 : mj_ml_1.all mj_okml = true := by decide +kernel
set_option maxRecDepth 100000 in
theorem mj_chk_ml2 : mj_ml_2.all mj_okml = true := by decide +kernel
set_option maxRecDepth 100000 in
theorem mj_chk_ml3 : mj_ml_3.all mj_okml = true := by decide +kernel
set_option maxRecDepth 100000 in
theorem mj_chk_ml4 : mj_ml_4.all mj_okml = true := by decide +kernel
set_option maxRecDepth 100000 in
theorem mj_chk_ml5 : mj_ml_5.all mj_okml = true := by decide +kernel
set_option maxRecDepth 100000 in
theorem mj_chk_ml6 : mj_ml_6.all mj_okml = true := by decide +kernel
set_option maxRecDepth 100000 in
theorem mj_chk_ml7 : mj_ml_7.all mj_okml = true := by decide +kernel
set_option maxRecDepth 100000 in
theorem mj_chk_ml8 : mj_ml_8.all mj_okml = true := by decide +kernel
set_option maxRecDepth 100000 in
theorem mj_chk_ml9 : mj_ml_9.all mj_okml = true := by decide +kernel
def mj_okkl (q : Nat × Nat × Nat × Int × Nat) : Bool := match q with
  | (c, ix, kd, v, pl) => match kd with
    | 0 => decide (mj_w pl = some (.constant (mj_cls c) ix (Int32.ofInt v)))
    | 1 => decide (mj_w pl = some (.constantLong (mj_cls c) ix (Int64.ofInt v)))
    | 2 => decide (0 ≤ v) && decide ((mj_txo v.toNat).1 = mj_cls c) && decide ((mj_txo v.toNat).2.1 = ix)
    | _ => false
set_option maxRecDepth 100000 in
theorem mj_chk_kl : mj_kl.all mj_okkl = true := by decide +kernel
def mj_oksl (q : Nat × Nat × Nat × Nat) : Bool := match q with
  | (c, ix, kd, pl) => match kd with
    | 0 => decide (mj_w pl = some (.fieldLink (mj_cls c) ix "java/lang/String" "value" "[B"))
    | 1 => decide (mj_w pl = some (.fieldLink (mj_cls c) ix "java/lang/String" "coder" "B"))
    | _ => false
set_option maxRecDepth 100000 in
theorem mj_chk_sl : mj_sl.all mj_oksl = true := by decide +kernel
def mj_okstl (q : Nat × Nat × Nat × Nat × Nat) : Bool := match q with
  | (c, ix, sid, ns, pl) => decide (sid < 4) && (if ns = 0 then decide (mj_w pl = some (.fieldLink (mj_cls c) ix (mj_sn sid).1 (mj_sn sid).2.1 (mj_sn sid).2.2)) else decide (mj_w pl = some (.fieldLinkNest (mj_cls c) ix (mj_sn sid).1 (mj_sn sid).2.1 (mj_sn sid).2.2 "FriarLists")))
set_option maxRecDepth 100000 in
theorem mj_chk_stl : mj_stl.all mj_okstl = true := by decide +kernel
def mj_oknl (q : Nat × Nat × Nat × Nat) : Bool := match q with
  | (c, ix, ci, pl) => match mj_cl[ci]? with
    | some (C, _, N) => decide (mj_w pl = some (.classLink (mj_cls c) ix C)) && decide (mj_w (mj_in.getD ci (0, 0)).1 = some (.instantiable C N)) && decide (mj_w (mj_in.getD ci (0, 0)).2 = some (.initialized C))
    | none => false
set_option maxRecDepth 100000 in
theorem mj_chk_nl : mj_nl.all mj_oknl = true := by decide +kernel
def mj_okcl (q : vw_C) : Bool := (u_ws q.1 q.2.1 q.2.2).all (fun w => decide (w ∈ lw_tbl)) && (List.range q.2.2).all (fun k => (parseFieldDescriptor (q.2.1 k).2.2.1).isSome) && (List.range q.2.2).all (fun a => (List.range q.2.2).all (fun b => decide (a = b) || decide ((q.2.1 a).2.1 ≠ (q.2.1 b).2.1)))
set_option maxRecDepth 100000 in
theorem mj_chk_cl : mj_cl.all mj_okcl = true := by decide +kernel
/-! what the checks give -/
theorem mj_in_tb {pl : Nat} {w : Cond} (h : mj_w pl = some w) (hg : goodWord w = true) : w ∈ mj_tb := List.mem_filter.mpr ⟨List.mem_of_getElem? h, hg⟩
theorem mj_in_nw {pl : Nat} {w : Cond} (h : mj_w pl = some w) (hg : mj_isN w = true) : w ∈ mj_nw := List.mem_filter.mpr ⟨List.mem_of_getElem? h, hg⟩
theorem mj_all_step {α : Type} (p : α → Bool) (L : List α) (a n : Nat) (h1 : ((L.drop a).take n).all p = true) (h2 : (L.drop (a + n)).all p = true) : (L.drop a).all p = true := by
  have h : ((L.drop a).take n ++ (L.drop a).drop n).all p = true := by
    rw [List.all_append, h1, List.drop_drop, h2]; rfl
  rwa [List.take_append_drop] at h
set_option maxRecDepth 100000 in
theorem mj_exm_all : (List.range 320).all mj_exm = true := by
  have h9 : ((List.range 320).drop 320).all mj_exm = true := by rw [List.drop_eq_nil_of_le (by simp)]; rfl
  have h0 := mj_all_step mj_exm _ 0 40 mj_chk_m0 (mj_all_step mj_exm _ 40 40 mj_chk_m1 (mj_all_step mj_exm _ 80 40 mj_chk_m2 (mj_all_step mj_exm _ 120 40 mj_chk_m3 (mj_all_step mj_exm _ 160 40 mj_chk_m4 (mj_all_step mj_exm _ 200 40 mj_chk_m5 (mj_all_step mj_exm _ 240 40 mj_chk_m6 (mj_all_step mj_exm _ 280 40 mj_chk_m7 h9)))))))
  simpa using h0
theorem mj_m_use {y : Nat} (hy : y < mj_lawNo) (h1 : y ≠ mj_objNo) (h2 : (mj_y y).cls ≠ "java/lang/Math") :
    plainName (mj_y y).cls = true ∧ mj_cls (mj_cn y) = (mj_y y).cls ∧ (mj_y y).cls ≠ "java/lang/invoke/MethodHandle" ∧ (mj_y y).cls ≠ "java/lang/invoke/VarHandle" ∧
    (parseMethodDescriptor (mj_y y).desc).map (fun d => d.parameters.length) = some (mj_m y).2.2.2.2.2.2 ∧ .initialized (mj_y y).cls ∈ mj_tb ∧ ((mj_m y).2.2.1 = 1 → .static (mj_y y) ∈ mj_tb) ∧ ((mj_m y).2.2.1 = 0 → .instanceMethod (mj_y y) ∈ mj_tb) ∧
    .code (mj_y y) (mj_b y) (mj_l y) (mj_r y) ∈ mj_tb := by
  have h := List.all_eq_true.mp mj_exm_all y (List.mem_range.mpr hy)
  simp only [mj_exm, Bool.or_eq_true, beq_iff_eq] at h
  rcases h with (h | h) | h
  · exact absurd h h1
  · exact absurd h h2
  · simp only [mj_okm, Bool.and_eq_true, decide_eq_true_eq] at h
    obtain ⟨⟨⟨⟨⟨⟨⟨a1, a2⟩, a3⟩, a4⟩, a5⟩, a6⟩, a7⟩, a8⟩ := h
    refine ⟨a1, a2, a3, a4, a5, mj_in_tb a6 rfl, fun z => ?_, fun z => ?_, ?_⟩
    · rw [if_pos z] at a7
      exact mj_in_tb (of_decide_eq_true a7) rfl
    · rw [if_neg (by rw [z]; decide)] at a7
      exact mj_in_tb (of_decide_eq_true a7) rfl
    · have hc : ∃ a b c d, mj_w (mj_m y).1 = some (.code a b c d) := by
        cases hw : mj_w (mj_m y).1 with
        | none => rw [hw] at a8; cases a8
        | some w =>
          rw [hw] at a8
          cases w <;> first | exact ⟨_, _, _, _, rfl⟩ | cases a8
      obtain ⟨a, b, c, d, hc⟩ := hc
      have e : mj_cd y = (a, b, c, d) := by
        unfold mj_cd
        rw [if_neg (Nat.ne_of_lt hy), hc]
      have : Cond.code (mj_y y) (mj_b y) (mj_l y) (mj_r y) = .code a b c d := by
        unfold mj_y mj_b mj_l mj_r
        rw [e]
      rw [this]
      exact mj_in_tb hc rfl
theorem mj_fl_use {c ix ci k pl : Nat} (h : (c, ix, ci, k, pl) ∈ mj_fl) : ∃ C T N, mj_cl[ci]? = some (C, T, N) ∧ k < N ∧ (T k).1 = C ∧ Cond.fieldLink (mj_cls c) ix C (T k).2.1 (T k).2.2.1 ∈ mj_tb := by
  have h1 := List.all_eq_true.mp mj_chk_fl _ h
  unfold mj_okfl at h1
  cases hc : mj_cl[ci]? with
  | none => simp only [hc] at h1; cases h1
  | some q =>
    obtain ⟨C, T, N⟩ := q
    simp only [hc, Bool.and_eq_true, decide_eq_true_eq] at h1
    exact ⟨C, T, N, rfl, h1.1.1, h1.1.2, mj_in_tb h1.2 rfl⟩
theorem mj_ml_all : mj_ml.all mj_okml = true := by
  unfold mj_ml
  simp only [List.all_append, mj_chk_ml0, mj_chk_ml1, mj_chk_ml2, mj_chk_ml3, mj_chk_ml4, mj_chk_ml5, mj_chk_ml6, mj_chk_ml7, mj_chk_ml8, mj_chk_ml9, Bool.and_self]
theorem mj_ml_use {c ix kd y pl : Nat} (h : (c, ix, kd, y, pl) ∈ mj_ml) : mj_okml (c, ix, kd, y, pl) = true := List.all_eq_true.mp mj_ml_all _ h
theorem mj_kl_use {c ix kd pl : Nat} {v : Int} (h : (c, ix, kd, v, pl) ∈ mj_kl) : mj_okkl (c, ix, kd, v, pl) = true := List.all_eq_true.mp mj_chk_kl _ h
theorem mj_sl_use {c ix kd pl : Nat} (h : (c, ix, kd, pl) ∈ mj_sl) : mj_oksl (c, ix, kd, pl) = true := List.all_eq_true.mp mj_chk_sl _ h
theorem mj_stl_use {c ix k ns pl : Nat} (h : (c, ix, k, ns, pl) ∈ mj_stl) : mj_okstl (c, ix, k, ns, pl) = true := List.all_eq_true.mp mj_chk_stl _ h
theorem mj_nl_use {c ix ci pl : Nat} (h : (c, ix, ci, pl) ∈ mj_nl) : ∃ C T N, mj_cl[ci]? = some (C, T, N) ∧ Cond.classLink (mj_cls c) ix C ∈ mj_tb ∧ Cond.instantiable C N ∈ mj_tb ∧ Cond.initialized C ∈ mj_tb := by
  have h1 := List.all_eq_true.mp mj_chk_nl _ h
  unfold mj_oknl at h1
  cases hc : mj_cl[ci]? with
  | none => simp only [hc] at h1; cases h1
  | some q =>
    obtain ⟨C, T, N⟩ := q
    simp only [hc, Bool.and_eq_true, decide_eq_true_eq] at h1
    exact ⟨C, T, N, rfl, mj_in_tb h1.1.1 rfl, mj_in_tb h1.1.2 rfl, mj_in_tb h1.2 rfl⟩
/-- of a class: its words, its types, its names -/
theorem mj_cl_use {ci N : Nat} {C : String} {T : u_T} (h : mj_cl[ci]? = some (C, T, N)) :
    (∀ w ∈ u_ws C T N, w ∈ mj_tb) ∧ (∀ k, k < N → parseFieldDescriptor (T k).2.2.1 = some ((parseFieldDescriptor (T k).2.2.1).getD .int)) ∧ (∀ a, a < N → ∀ b, b < N → a ≠ b → (T a).2.1 ≠ (T b).2.1) := by
  have h1 := List.all_eq_true.mp mj_chk_cl _ (List.mem_of_getElem? h)
  simp only [mj_okcl, Bool.and_eq_true, List.all_eq_true, decide_eq_true_eq, List.mem_range, Bool.or_eq_true] at h1
  obtain ⟨⟨h2, h3⟩, h4⟩ := h1
  refine ⟨fun w hw => List.mem_filter.mpr ⟨h2 w hw, ?_⟩, fun k hk => ?_, fun a ha b hb hab => ?_⟩
  · obtain ⟨k, -, rfl⟩ := List.mem_map.mp hw
    unfold u_lay
    split <;> rfl
  · obtain ⟨ty, e⟩ := Option.isSome_iff_exists.mp (h3 k hk)
    rw [e]; rfl
  · rcases h4 a ha b hb with z | z
    · exact absurd z hab
    · exact z
end
section
/-! THE SMALL MACHINE: what an instruction of these methods does to locals, stack and world, and what it asks for; a call is one step, by a contract. Part 03 shows that the machine keeps to it. -/
/-- what lies outside the worlds: the texts' objects and their rows of bytes, three rows of ints (two statics, the script), one reference that is only carried, the classes of int, long and boolean rows -/
abbrev mj_E : Type := (Nat → Nat) × (Nat → Nat) × (Nat → Nat × Nat × (Nat → Int32)) × Value × ClassId × ClassId × ClassId
abbrev mj_C : Type := Nat × Nat × List (Nat × Value) × List Value × va_W
/-- what comes of a step: the next place; a call; a return; a new cell, whose reference is pushed -/
abbrev mj_R : Type := (Nat × List (Nat × Value) × List Value × va_W) ⊕ (Nat × List Value × List Value) ⊕ Option Value ⊕ (va_E × Nat × Nat × List Value)
def mj_nx (pc : Nat) (lv : List (Nat × Value)) (st : List Value) (ws : va_W) : mj_R := .inl (pc, lv, st, ws)
def mj_s1 (lv : List (Nat × Value)) (i : Nat) (v : Value) : List (Nat × Value) := (i, v) :: lv.filter (fun q => !(q.1 == i) && !(q.1 + 1 == i && q.2.category == 2))
def mj_s2 (lv : List (Nat × Value)) (i : Nat) (v : Value) : List (Nat × Value) := (i, v) :: lv.filter (fun q => !(q.1 == i) && (!(q.1 == i + 1) && !(q.1 + 1 == i && q.2.category == 2)))
def mj_go (pc : Nat) (off : Int) (t : Nat) : Prop := (pc : Int) + off = (t : Int)
def mj_c1 (c : ClassFile.Cond) (a b : Int32) : Prop := match c with
  | .eq => a = b
  | .ne => ¬ a = b
  | .lt => a < b
  | .ge => b ≤ a
  | .gt => b < a
  | .le => a ≤ b
def mj_bin (pc : Nat) (lv : List (Nat × Value)) (st : List Value) (ws : va_W) (r : mj_R) (n : Nat) (f : Int32 → Int32 → Int32) : Prop :=
  n = 1 ∧ ∃ a b t, st = .int b :: .int a :: t ∧ r = mj_nx (pc + 1) lv (.int (f a b) :: t) ws
def mj_binl (pc : Nat) (lv : List (Nat × Value)) (st : List Value) (ws : va_W) (r : mj_R) (n : Nat) (f : Int64 → Int64 → Int64) : Prop :=
  n = 1 ∧ ∃ a b t, st = .long b :: .long a :: t ∧ r = mj_nx (pc + 1) lv (.long (f a b) :: t) ws
def mj_shl (pc : Nat) (lv : List (Nat × Value)) (st : List Value) (ws : va_W) (r : mj_R) (n : Nat) (f : Int64 → Int32 → Int64) : Prop :=
  n = 1 ∧ ∃ a b t, st = .int b :: .long a :: t ∧ r = mj_nx (pc + 1) lv (.long (f a b) :: t) ws
def mj_un (pc : Nat) (lv : List (Nat × Value)) (st : List Value) (ws : va_W) (r : mj_R) (n : Nat) (f : Int32 → Value) : Prop :=
  n = 1 ∧ ∃ a t, st = .int a :: t ∧ r = mj_nx (pc + 1) lv (f a :: t) ws
/-- the static of a number -/
def mj_sv (E : mj_E) : Nat → Value
  | 0 => .ref (E.2.2.1 0).1
  | 1 => .ref (E.2.2.1 1).1
  | 2 => .int 1
  | _ => E.2.2.2.1
def mj_txl (i : Nat) : Nat := (mj_tx.getD i ("", 0, "")).2.2.length
/-- a text's bytes -/
def mj_txb (i : Nat) : List Int32 := (mj_tx.getD i ("", 0, "")).2.2.toList.map (fun c => Int32.ofNat c.toNat)
/-- what a field of a class may hold: the type, narrowed already -/
def mj_fit (ci k : Nat) (v : Value) : Prop := ∃ ty, parseFieldDescriptor (((mj_cl.getD ci ("", mj_T0, 0)).2.1 k).2.2.1) = some ty ∧ narrow ty v = v ∧ fits ty v = true
/-- a call of method y2 with these arguments over that rest of the stack -/
def mj_callee (y2 : Nat) (as rest : List Value) (ne : Nat) : Prop :=
  y2 < mj_lawNo ∧ as.length = ne ∧ (lg_sl as).length ≤ mj_l y2 ∧ mj_l y2 ≤ 100 ∧ (rest.map fun v => v.category).sum ≤ 8
def mj_new0 (E : mj_E) (n : Int32) : ArrayType → Option (va_E × FieldType)
  | .int => some (.inl (E.2.2.2.2.1, n.toNatClampNeg, .inl (fun _ => 0)), .int)
  | .long => some (.inl (E.2.2.2.2.2.1, n.toNatClampNeg, .inr (.inl (fun _ => 0))), .long)
  | .boolean => some (.inl (E.2.2.2.2.2.2, n.toNatClampNeg, .inl (fun _ => 0)), .boolean)
  | _ => none
def mj_I (E : mj_E) (d y pc : Nat) (lv : List (Nat × Value)) (st : List Value) (ws : va_W) (r : mj_R) (n : Nat) : Instr → Prop
  | .iconst k => n = 1 ∧ r = mj_nx (pc + 1) lv (.int (Int32.ofInt k) :: st) ws
  | .bipush k => n = 2 ∧ r = mj_nx (pc + 2) lv (.int (Int8.ofInt k).toInt32 :: st) ws
  | .sipush k => n = 3 ∧ r = mj_nx (pc + 3) lv (.int (Int16.ofInt k).toInt32 :: st) ws
  | .lconst k => n = 1 ∧ r = mj_nx (pc + 1) lv (.long (Int64.ofNat (k : Nat)) :: st) ws
  | .iload_n k => n = 1 ∧ ∃ v, ((k : Nat), Value.int v) ∈ lv ∧ r = mj_nx (pc + 1) lv (.int v :: st) ws
  | .iload k => n = 2 ∧ ∃ v, (k, Value.int v) ∈ lv ∧ r = mj_nx (pc + 2) lv (.int v :: st) ws
  | .lload_n k => n = 1 ∧ ∃ v, ((k : Nat), Value.long v) ∈ lv ∧ r = mj_nx (pc + 1) lv (.long v :: st) ws
  | .lload k => n = 2 ∧ ∃ v, (k, Value.long v) ∈ lv ∧ r = mj_nx (pc + 2) lv (.long v :: st) ws
  | .aload_n k => n = 1 ∧ ∃ a, ((k : Nat), Value.ref a) ∈ lv ∧ r = mj_nx (pc + 1) lv (.ref a :: st) ws
  | .istore_n k => n = 1 ∧ (k : Nat) < mj_l y ∧ ∃ v t, st = .int v :: t ∧ r = mj_nx (pc + 1) (mj_s1 lv k (.int v)) t ws
  | .istore k => n = 2 ∧ k < mj_l y ∧ ∃ v t, st = .int v :: t ∧ r = mj_nx (pc + 2) (mj_s1 lv k (.int v)) t ws
  | .lstore_n k => n = 1 ∧ (k : Nat) + 1 < mj_l y ∧ ∃ v t, st = .long v :: t ∧ r = mj_nx (pc + 1) (mj_s2 lv k (.long v)) t ws
  | .lstore k => n = 2 ∧ k + 1 < mj_l y ∧ ∃ v t, st = .long v :: t ∧ r = mj_nx (pc + 2) (mj_s2 lv k (.long v)) t ws
  | .astore_n k => n = 1 ∧ (k : Nat) < mj_l y ∧ ∃ v t, st = .ref v :: t ∧ r = mj_nx (pc + 1) (mj_s1 lv k (.ref v)) t ws
  | .iinc k c => n = 3 ∧ k < mj_l y ∧ ∃ v, (k, Value.int v) ∈ lv ∧ r = mj_nx (pc + 3) (mj_s1 lv k (.int (v + Int32.ofInt c))) st ws
  | .iadd => mj_bin pc lv st ws r n (fun a b => a + b)
  | .isub => mj_bin pc lv st ws r n (fun a b => a - b)
  | .imul => mj_bin pc lv st ws r n (fun a b => a * b)
  | .iand => mj_bin pc lv st ws r n (fun a b => a &&& b)
  | .ior => mj_bin pc lv st ws r n (fun a b => a ||| b)
  | .ixor => mj_bin pc lv st ws r n (fun a b => a ^^^ b)
  | .ishl => mj_bin pc lv st ws r n (fun a b => a <<< (b &&& 31))
  | .ishr => mj_bin pc lv st ws r n (fun a b => a >>> (b &&& 31))
  | .iushr => mj_bin pc lv st ws r n (fun a b => (a.toUInt32 >>> (b.toUInt32 &&& Int32.toUInt32 31)).toInt32)
  | .idiv => n = 1 ∧ ∃ a b t, st = .int b :: .int a :: t ∧ ¬ b = 0 ∧ r = mj_nx (pc + 1) lv (.int (a / b) :: t) ws
  | .irem => n = 1 ∧ ∃ a b t, st = .int b :: .int a :: t ∧ ¬ b = 0 ∧ r = mj_nx (pc + 1) lv (.int (a - a / b * b) :: t) ws
  | .ineg => mj_un pc lv st ws r n (fun a => .int (-a))
  | .i2l => mj_un pc lv st ws r n (fun a => .long a.toInt64)
  | .i2b => mj_un pc lv st ws r n (fun a => .int a.toInt8.toInt32)
  | .i2s => mj_un pc lv st ws r n (fun a => .int a.toInt16.toInt32)
  | .i2c => mj_un pc lv st ws r n (fun a => .int (a.toUInt32 % 65536).toInt32)
  | .ladd => mj_binl pc lv st ws r n (fun a b => a + b)
  | .lmul => mj_binl pc lv st ws r n (fun a b => a * b)
  | .land => mj_binl pc lv st ws r n (fun a b => a &&& b)
  | .lor => mj_binl pc lv st ws r n (fun a b => a ||| b)
  | .ldiv => n = 1 ∧ ∃ a b t, st = .long b :: .long a :: t ∧ ¬ b = 0 ∧ r = mj_nx (pc + 1) lv (.long (a / b) :: t) ws
  | .lshl => mj_shl pc lv st ws r n (fun a b => a <<< (b.toInt64 &&& 63))
  | .lshr => mj_shl pc lv st ws r n (fun a b => a >>> (b.toInt64 &&& 63))
  | .lushr => mj_shl pc lv st ws r n (fun a b => (a.toUInt64 >>> (b.toInt64.toUInt64 &&& Int64.toUInt64 63)).toInt64)
  | .lcmp => n = 1 ∧ ∃ a b t, st = .long b :: .long a :: t ∧ r = mj_nx (pc + 1) lv (.int (lg_cmp a b) :: t) ws
  | .l2i => n = 1 ∧ ∃ a t, st = .long a :: t ∧ r = mj_nx (pc + 1) lv (.int a.toInt32 :: t) ws
  | .pop => n = 1 ∧ ∃ v t, st = v :: t ∧ v.category = 1 ∧ r = mj_nx (pc + 1) lv t ws
  | .dup => n = 1 ∧ ∃ v t, st = v :: t ∧ v.category = 1 ∧ r = mj_nx (pc + 1) lv (v :: v :: t) ws
  | .dup2 => n = 1 ∧ ∃ v u t, st = v :: u :: t ∧ v.category = 1 ∧ u.category = 1 ∧ r = mj_nx (pc + 1) lv (v :: u :: v :: u :: t) ws
  | .ifCond c off => n = 3 ∧ ∃ v t tg, st = .int v :: t ∧ mj_go pc off tg ∧ ((mj_c1 c v 0 ∧ r = mj_nx tg lv t ws) ∨ (¬ mj_c1 c v 0 ∧ r = mj_nx (pc + 3) lv t ws))
  | .if_icmp c off => n = 3 ∧ ∃ a b t tg, st = .int b :: .int a :: t ∧ mj_go pc off tg ∧ ((mj_c1 c a b ∧ r = mj_nx tg lv t ws) ∨ (¬ mj_c1 c a b ∧ r = mj_nx (pc + 3) lv t ws))
  | .goto off => n = 3 ∧ ∃ tg, mj_go pc off tg ∧ r = mj_nx tg lv st ws
  | .tableswitch df lo hi offs => ∃ v t off tg, st = .int v :: t ∧ mj_go pc off tg ∧ (((v.toInt < lo ∨ hi < v.toInt) ∧ off = df) ∨ (¬ v.toInt < lo ∧ ¬ hi < v.toInt ∧ offs[(v.toInt - lo).toNat]? = some off)) ∧ r = mj_nx tg lv t ws
  | .lookupswitch df ps => ∃ v t tg, st = .int v :: t ∧ (ps.toList.zip (ps.toList.drop 1)).all (fun (a, next) => a.1 < next.1) = true ∧ mj_go pc (Op.lookupswitch.offset ps.toList df v.toInt) tg ∧ r = mj_nx tg lv t ws
  | .getfield ix => n = 3 ∧ ∃ a t, st = .ref a :: t ∧
      ((∃ (ci k pl q0 : Nat) (fs : List Value) (v : Value), (mj_cn y, ix, ci, k, pl) ∈ mj_fl ∧ ws[q0]? = some (a, .inr (ci, fs)) ∧ fs[k]? = some v ∧ r = mj_nx (pc + 3) lv (v :: t) ws) ∨
       (∃ i pl, i < 24 ∧ a = E.1 i ∧ (((mj_cn y, ix, 0, pl) ∈ mj_sl ∧ r = mj_nx (pc + 3) lv (.ref (E.2.1 i) :: t) ws) ∨ ((mj_cn y, ix, 1, pl) ∈ mj_sl ∧ r = mj_nx (pc + 3) lv (.int 0 :: t) ws))))
  | .putfield ix => n = 3 ∧ ∃ (v : Value) (a : Nat) (t : List Value) (ci k pl q0 : Nat) (fs : List Value), st = v :: .ref a :: t ∧ (mj_cn y, ix, ci, k, pl) ∈ mj_fl ∧ ws[q0]? = some (a, .inr (ci, fs)) ∧ k < fs.length ∧ mj_fit ci k v ∧
      ((((mj_cl.getD ci ("", mj_T0, 0)).2.1 k).2.2.2 = true) → (mj_y y).name = "<init>" ∧ ci = mj_cn y) ∧ r = mj_nx (pc + 3) lv t (ws.set q0 (a, .inr (ci, fs.set k v)))
  | .getstatic ix => n = 3 ∧ ∃ sid ns pl, (mj_cn y, ix, sid, ns, pl) ∈ mj_stl ∧ r = mj_nx (pc + 3) lv (mj_sv E sid :: st) ws
  | .iaload => n = 1 ∧ ∃ (i : Int32) (a : Nat) (t : List Value), st = .int i :: .ref a :: t ∧
      ((∃ (q0 N : Nat) (f : Nat → Int32), ws[q0]? = some (a, .inl (E.2.2.2.2.1, N, .inl f)) ∧ vp_in i N ∧ r = mj_nx (pc + 1) lv (.int (f i.toNatClampNeg) :: t) ws) ∨
       (∃ k, k < 3 ∧ a = (E.2.2.1 k).1 ∧ vp_in i (E.2.2.1 k).2.1 ∧ r = mj_nx (pc + 1) lv (.int ((E.2.2.1 k).2.2 i.toNatClampNeg) :: t) ws))
  | .laload => n = 1 ∧ ∃ (i : Int32) (a : Nat) (t : List Value) (q0 N : Nat) (f : Nat → Int64), st = .int i :: .ref a :: t ∧ ws[q0]? = some (a, .inl (E.2.2.2.2.2.1, N, .inr (.inl f))) ∧ vp_in i N ∧ r = mj_nx (pc + 1) lv (.long (f i.toNatClampNeg) :: t) ws
  | .baload => n = 1 ∧ ∃ (i : Int32) (a : Nat) (t : List Value), st = .int i :: .ref a :: t ∧
      ((∃ (q0 N : Nat) (f : Nat → Int32), ws[q0]? = some (a, .inl (E.2.2.2.2.2.2, N, .inl f)) ∧ vp_in i N ∧ r = mj_nx (pc + 1) lv (.int (f i.toNatClampNeg) :: t) ws) ∨
       (∃ k, k < 24 ∧ a = E.2.1 k ∧ vp_in i (mj_txl k) ∧ r = mj_nx (pc + 1) lv (.int ((mj_txb k).getD i.toNatClampNeg 0) :: t) ws))
  | .iastore => n = 1 ∧ ∃ (x i : Int32) (a : Nat) (t : List Value) (q0 N : Nat) (f : Nat → Int32), st = .int x :: .int i :: .ref a :: t ∧ ws[q0]? = some (a, .inl (E.2.2.2.2.1, N, .inl f)) ∧ vp_in i N ∧ r = mj_nx (pc + 1) lv t (ws.set q0 (a, .inl (E.2.2.2.2.1, N, .inl (upd f i.toNatClampNeg x))))
  | .lastore => n = 1 ∧ ∃ (x : Int64) (i : Int32) (a : Nat) (t : List Value) (q0 N : Nat) (f : Nat → Int64), st = .long x :: .int i :: .ref a :: t ∧ ws[q0]? = some (a, .inl (E.2.2.2.2.2.1, N, .inr (.inl f))) ∧ vp_in i N ∧ r = mj_nx (pc + 1) lv t (ws.set q0 (a, .inl (E.2.2.2.2.2.1, N, .inr (.inl (vp_updL f i.toNatClampNeg x)))))
  | .bastore => n = 1 ∧ ∃ (x i : Int32) (a : Nat) (t : List Value) (q0 N : Nat) (f : Nat → Int32), st = .int x :: .int i :: .ref a :: t ∧ ws[q0]? = some (a, .inl (E.2.2.2.2.2.2, N, .inl f)) ∧ vp_in i N ∧ r = mj_nx (pc + 1) lv t (ws.set q0 (a, .inl (E.2.2.2.2.2.2, N, .inl (upd f i.toNatClampNeg (vp_nar .boolean x)))))
  | .arraylength => n = 1 ∧ ∃ a t, st = .ref a :: t ∧
      ((∃ (q0 : Nat) (x : vp_A), ws[q0]? = some (a, .inl (E.2.2.2.2.1, x)) ∧ r = mj_nx (pc + 1) lv (.int (Int32.ofNat x.1) :: t) ws) ∨
       (∃ k, k < 3 ∧ a = (E.2.2.1 k).1 ∧ r = mj_nx (pc + 1) lv (.int (Int32.ofNat (E.2.2.1 k).2.1) :: t) ws) ∨
       (∃ k, k < 24 ∧ a = E.2.1 k ∧ r = mj_nx (pc + 1) lv (.int (Int32.ofNat (mj_txl k)) :: t) ws))
  | .newarray at0 => n = 2 ∧ ∃ (x : Int32) (t : List Value) (e : va_E) (ty : FieldType), st = .int x :: t ∧ ¬ x < 0 ∧ mj_new0 E x at0 = some (e, ty) ∧ x.toNatClampNeg ≤ 60000 ∧ r = .inr (.inr (.inr (e, x.toNatClampNeg, pc + 2, t)))
  | .new ix => n = 3 ∧ ∃ (ci pl : Nat) (fs : List Value), (mj_cn y, ix, ci, pl) ∈ mj_nl ∧ ci < 7 ∧ fs = (List.range (mj_cl.getD ci ("", mj_T0, 0)).2.2).map (fun k => match parseFieldDescriptor (((mj_cl.getD ci ("", mj_T0, 0)).2.1 k).2.2.1) with | some ty => defaultValue ty | none => .null) ∧
      r = .inr (.inr (.inr (.inr (ci, fs), (mj_cl.getD ci ("", mj_T0, 0)).2.2, pc + 3, st)))
  | .ldc ix => n = 2 ∧ ((∃ v pl, (mj_cn y, ix, 0, v, pl) ∈ mj_kl ∧ r = mj_nx (pc + 2) lv (.int (Int32.ofInt v) :: st) ws) ∨ (∃ (i pl : Nat), i < 24 ∧ (mj_cn y, ix, 2, (i : Int), pl) ∈ mj_kl ∧ r = mj_nx (pc + 2) lv (.ref (E.1 i) :: st) ws))
  | .ldc_w ix => n = 3 ∧ ∃ v pl, (mj_cn y, ix, 0, v, pl) ∈ mj_kl ∧ r = mj_nx (pc + 3) lv (.int (Int32.ofInt v) :: st) ws
  | .ldc2_w ix => n = 3 ∧ ∃ v pl, (mj_cn y, ix, 1, v, pl) ∈ mj_kl ∧ r = mj_nx (pc + 3) lv (.long (Int64.ofInt v) :: st) ws
  | .invokevirtual ix => n = 3 ∧ ∃ (y2 pl : Nat) (as : List Value) (a : Nat) (rest : List Value), (mj_cn y, ix, 0, y2, pl) ∈ mj_ml ∧ st = as.reverse ++ .ref a :: rest ∧ mj_callee y2 (.ref a :: as) rest ((mj_m y2).2.2.2.2.2.2 + 1) ∧
      ((∃ (q0 ci : Nat) (fs : List Value), ws[q0]? = some (a, .inr (ci, fs)) ∧ mj_cls ci = (mj_y y2).cls ∧ ci < 7) ∨ (∃ i, i < 24 ∧ a = E.1 i ∧ (mj_y y2).cls = "java/lang/String")) ∧ r = .inr (.inl (y2, .ref a :: as, rest))
  | .invokestatic ix => n = 3 ∧ ((∃ (y2 pl : Nat) (as rest : List Value), ((mj_cn y, ix, 1, y2, pl) ∈ mj_ml ∨ (mj_cn y, ix, 4, y2, pl) ∈ mj_ml) ∧ st = as.reverse ++ rest ∧ mj_callee y2 as rest ((mj_m y2).2.2.2.2.2.2) ∧ r = .inr (.inl (y2, as, rest))) ∨
      (∃ (pl z0 : Nat) (sp dp nn : Int32) (a0 a1 q0 q1 n0 n1 : Nat) (f g : Nat → Int32) (rest : List Value), (mj_cn y, ix, 6, z0, pl) ∈ mj_ml ∧ 1 ≤ d ∧ st = .int nn :: .int dp :: .ref a1 :: .int sp :: .ref a0 :: rest ∧ (rest.map fun v => v.category).sum ≤ 8 ∧ ws[q0]? = some (a0, .inl (E.2.2.2.2.1, n0, .inl f)) ∧ ws[q1]? = some (a1, .inl (E.2.2.2.2.1, n1, .inl g)) ∧
        ¬ sp < 0 ∧ ¬ dp < 0 ∧ ¬ nn < 0 ∧ sp.toNatClampNeg + nn.toNatClampNeg ≤ n0 ∧ dp.toNatClampNeg + nn.toNatClampNeg ≤ n1 ∧
        r = mj_nx (pc + 3) lv rest (ws.set q1 (a1, .inl (E.2.2.2.2.1, n1, .inl (va_cpy f g sp.toNatClampNeg dp.toNatClampNeg nn.toNatClampNeg))))) ∨
      (∃ (pl z0 : Nat) (a b : Int32) (rest : List Value), (mj_cn y, ix, 7, z0, pl) ∈ mj_ml ∧ 1 ≤ d ∧ st = .int b :: .int a :: rest ∧ (rest.map fun v => v.category).sum ≤ 8 ∧ r = mj_nx (pc + 3) lv (.int (if a < b then b else a) :: rest) ws) ∨
      (∃ (pl z0 : Nat) (a b : Int32) (rest : List Value), (mj_cn y, ix, 8, z0, pl) ∈ mj_ml ∧ 1 ≤ d ∧ st = .int b :: .int a :: rest ∧ (rest.map fun v => v.category).sum ≤ 8 ∧ r = mj_nx (pc + 3) lv (.int (if b < a then b else a) :: rest) ws))
  | .invokespecial ix => n = 3 ∧ ((∃ (y2 pl : Nat) (as : List Value) (a : Nat) (rest : List Value), ((mj_cn y, ix, 2, y2, pl) ∈ mj_ml ∨ (mj_cn y, ix, 3, y2, pl) ∈ mj_ml) ∧ st = as.reverse ++ .ref a :: rest ∧ mj_callee y2 (.ref a :: as) rest ((mj_m y2).2.2.2.2.2.2 + 1) ∧ r = .inr (.inl (y2, .ref a :: as, rest))) ∨
      (∃ (pl z0 a : Nat) (rest : List Value), (mj_cn y, ix, 5, z0, pl) ∈ mj_ml ∧ 1 ≤ d ∧ st = .ref a :: rest ∧ (rest.map fun v => v.category).sum ≤ 8 ∧ r = mj_nx (pc + 3) lv rest ws))
  | .ireturn => n = 1 ∧ ∃ v ty, st = [.int v] ∧ mj_r y = some ty ∧ narrow ty (.int v) = .int v ∧ r = .inr (.inr (.inl (some (.int v))))
  | .lreturn => n = 1 ∧ ∃ v, st = [.long v] ∧ mj_r y = some .long ∧ r = .inr (.inr (.inl (some (.long v))))
  | .return_ => n = 1 ∧ st = [] ∧ mj_r y = none ∧ r = .inr (.inr (.inl none))
  | _ => False
def mj_S (E : mj_E) (d : Nat) (cf : mj_C) (r : mj_R) : Prop :=
  ∃ (i : Instr) (n : Nat), decode (mj_b cf.1) cf.2.1 = .ok (i, n) ∧ mj_I E d cf.1 cf.2.1 cf.2.2.1 cf.2.2.2.1 cf.2.2.2.2 r n i
abbrev mj_P : Type := Nat → Nat → Nat → mj_C → (Option Value → va_W → Prop) → Prop
/-- the place at which a call of y2 begins -/
def mj_in0 (y2 : Nat) (as : List Value) (ws : va_W) : mj_C := (y2, 0, lv_args 0 as, [], ws)
/-- one step: P of what comes gives it of what is -/
def mj_F (E : mj_E) (P : mj_P) (d mc ms : Nat) (cf : mj_C) (Q : Option Value → va_W → Prop) : Prop :=
  ∃ r, mj_S E d cf r ∧ match r with
  | .inl (pc, lv, st, ws) => P d mc ms (cf.1, pc, lv, st, ws) Q
  | .inr (.inl (y2, as, rest)) => ∃ (d2 mc2 ms2 mc3 ms3 : Nat) (R : Option Value → va_W → Prop), d = d2 + 1 ∧ mc = mc2 + mc3 ∧ ms = ms2 + ms3 ∧ P d2 mc2 ms2 (mj_in0 y2 as cf.2.2.2.2) R ∧
      ∀ v ws1, R v ws1 → P d mc3 ms3 (cf.1, cf.2.1 + 3, cf.2.2.1, v.toList ++ rest, ws1) Q
  | .inr (.inr (.inl v)) => Q v cf.2.2.2.2
  | .inr (.inr (.inr (e, w, pc, rest))) => ∃ mc2 ms2, mc = mc2 + 1 ∧ ms = ms2 + w ∧ ∀ q : Nat, (∀ z ∈ cf.2.2.2.2, z.1 ≠ q) → P d mc2 ms2 (cf.1, pc, cf.2.2.1, .ref q :: rest, cf.2.2.2.2 ++ [(q, e)]) Q
/-- from cf the small machine comes to a return, with Q; at most d frames deep, at most mc new cells of ms slots -/
def MJ (E : mj_E) (d mc ms : Nat) (cf : mj_C) (Q : Option Value → va_W → Prop) : Prop :=
  ∀ P : mj_P, (∀ d mc ms cf Q, mj_F E P d mc ms cf Q → P d mc ms cf Q) → P d mc ms cf Q
theorem mj_F.mono {E : mj_E} {P P2 : mj_P} (h : ∀ d mc ms cf Q, P d mc ms cf Q → P2 d mc ms cf Q) {d mc ms : Nat} {cf : mj_C} {Q : Option Value → va_W → Prop} (hF : mj_F E P d mc ms cf Q) : mj_F E P2 d mc ms cf Q := by
  obtain ⟨r, hs, hr⟩ := hF
  refine ⟨r, hs, ?_⟩
  rcases r with ⟨pc, lv, st, ws⟩ | ⟨y2, as, rest⟩ | v | ⟨e, w, pc, rest⟩
  · exact h _ _ _ _ _ hr
  · obtain ⟨d2, mc2, ms2, mc3, ms3, R, e1, e2, e3, h1, h2⟩ := hr
    exact ⟨d2, mc2, ms2, mc3, ms3, R, e1, e2, e3, h _ _ _ _ _ h1, fun v ws1 hv => h _ _ _ _ _ (h2 v ws1 hv)⟩
  · exact hr
  · obtain ⟨mc2, ms2, e1, e2, h1⟩ := hr
    exact ⟨mc2, ms2, e1, e2, fun q hq => h _ _ _ _ _ (h1 q hq)⟩
/-- a step ahead -/
theorem MJ.step {E : mj_E} {d mc ms : Nat} {cf : mj_C} {Q : Option Value → va_W → Prop} (h : mj_F E (MJ E) d mc ms cf Q) : MJ E d mc ms cf Q := by
  intro P hP
  exact hP _ _ _ _ _ (h.mono (fun d mc ms cf Q hM => hM P hP))
end
section
/-! THE MACHINE KEEPS TO THE SMALL MACHINE -/
def mj_tys (E : mj_E) : List (ClassId × FieldType) := [(E.2.2.2.2.1, .int), (E.2.2.2.2.2.1, .long), (E.2.2.2.2.2.2, .boolean)]
/-- what is only read stands at U -/
def mj_RO (E : mj_E) (A : Nat → Prop) (U : State) : Prop :=
  (∀ k, k < 4 → va_Z (mj_sn k).1 (mj_sn k).2.1 (mj_sn k).2.2 (mj_sv E k) A U U.heap) ∧
  (∀ k, k < 3 → va_T .int (E.2.2.1 k).1 (E.2.2.1 k).2.1 (fun j => .int ((E.2.2.1 k).2.2 j)) A U U.heap) ∧
  (∀ i, i < 24 → va_O "java/lang/String" (E.1 i) A U U.heap ∧ va_OF "java/lang/String" "coder" "B" (.int 0) (E.1 i) A U U.heap ∧ va_OF "java/lang/String" "value" "[B" (.ref (E.2.1 i)) (E.1 i) A U U.heap ∧ va_T .byte (E.2.1 i) (mj_txl i) (fun j => .int ((mj_txb i).getD j 0)) A U U.heap) ∧
  (∀ i, i < 24 → vk_R (mj_txo i).1 (mj_txo i).2.1 (mj_txo i).2.2 (E.1 i) U) ∧ ∀ w ∈ mj_nw, va_Nw w U
theorem mj_RO.warm {E : mj_E} {A : Nat → Prop} {s U : State} (h : mj_RO E A s) (hW : s.WarmedH U.vm) (hq : ∀ q : Nat, q < s.heap.size → ¬ A q → U.heap[q]? = s.heap[q]?) : mj_RO E A U := by
  obtain ⟨h1, h2, h3, h4, h5⟩ := h
  have hv : s.vm.Alike U.vm := hW.alike
  exact ⟨fun k hk => ((h1 k hk).moved hv).kept hq, fun k hk => ((h2 k hk).moved hv).kept hq,
    fun i hi => ⟨((h3 i hi).1.moved hv).kept hq, ((h3 i hi).2.1.moved hv).kept hq, ((h3 i hi).2.2.1.moved hv).kept hq, ((h3 i hi).2.2.2.moved hv).kept hq⟩, fun i hi => (h4 i hi).warm hW, fun w hw => by
      have hn := (List.mem_filter.mp hw).2
      have hz := h5 w hw
      cases w <;> first | exact va_Nw.warmF hW hz | exact va_Nw.warmM hW hz | cases hn⟩
theorem mj_RO.calling {E : mj_E} {A : Nat → Prop} {U : State} (h : mj_RO E A U) (g : JFrame) (mk : MethodId) (a : Array Value) : mj_RO E A (U.calling g mk a) := by
  obtain ⟨h1, h2, h3, h4, h5⟩ := h
  have hv : U.vm.Alike (U.calling g mk a).vm := Vm.Alike.refl U.vm
  exact ⟨fun k hk => va_Z.moved hv (h1 k hk), fun k hk => va_T.moved hv (h2 k hk),
    fun i hi => ⟨va_O.moved hv (h3 i hi).1, va_OF.moved hv (h3 i hi).2.1, va_OF.moved hv (h3 i hi).2.2.1, va_T.moved hv (h3 i hi).2.2.2⟩, fun i hi => vk_R.same (u := U) rfl (h4 i hi), fun w hw => va_Nw.same (u := U) (mj_isN.on (List.mem_filter.mp hw).2) rfl (h5 w hw)⟩
/-- at a return: the instruction, the answer, the stack -/
def mj_Rt (y pc : Nat) (v : Option Value) (st : List Value) : Prop :=
  (decode (mj_b y) pc = .ok (.ireturn, 1) ∧ ∃ w ty, v = some (.int w) ∧ st = [.int w] ∧ mj_r y = some ty ∧ narrow ty (.int w) = .int w) ∨
  (decode (mj_b y) pc = .ok (.lreturn, 1) ∧ ∃ w, v = some (.long w) ∧ st = [.long w] ∧ mj_r y = some .long) ∨
  (decode (mj_b y) pc = .ok (.return_, 1) ∧ v = none ∧ st = [] ∧ mj_r y = none)
/-- what the small machine's P means for the machine -/
def mj_W (l : Launch) (E : mj_E) (D : va_G) (A : Nat → Prop) : mj_P := fun d mc ms cf Q =>
  ∀ (p : Program) (e : Env) (R : Room) (s : State) (m : MethodId) (args : Array Value) (below : List Frame) (meth : Method) (c : Code) (ls : Array Slot) (H : Heap) (locs : List Loc) (cells slots : Nat) (Z : State → Prop),
    cf.1 ≤ mj_lawNo → p.tables.exec = Jvm.exec → c.code = mj_b cf.1 → c.maxLocals = mj_l cf.1 → s.vm.findClass (mj_cls (mj_cn cf.1)) = some m.cls → meth.name = (mj_y cf.1).name →
    (∀ w ∈ mj_tb, w.before args s = true) → mj_RO E A s → va_K D mj_cl (mj_tys E) s → (∀ q : Nat, s.heap.size ≤ q → A q) →
    lv_has ls (mj_l cf.1) cf.2.2.1 → va_P D mj_cl cf.2.2.2.2 H → va_D A cf.2.2.2.2 → va_S A s.heap H locs →
    d ≤ R.frames → 256 * d ≤ R.locals → cells + mc ≤ R.cells → slots + ms ≤ R.slots →
    (∀ (v : Option Value) (ws1 : va_W) (H1 : Heap) (locs1 : List Loc) (cells1 slots1 pc1 : Nat) (ls1 : Array Slot) (st1 : List Value), Q v ws1 → va_P D mj_cl ws1 H1 → va_D A ws1 → va_S A s.heap H1 locs1 → cells1 ≤ cells + mc → slots1 ≤ slots + ms → mj_Rt cf.1 pc1 v st1 →
      W p l e R s m args below meth c H1 locs1 cells1 slots1 Z (F0 m pc1 ls1 st1)) →
    W p l e R s m args below meth c H locs cells slots Z (F0 m cf.2.1 ls cf.2.2.2.1)
def mj_ws (y : Nat) : List Cond := .code (mj_y y) (mj_b y) (mj_l y) (mj_r y) :: mj_tb
def mj_Pc (E : mj_E) (D : va_G) (A : Nat → Prop) (as : List Value) (ws : va_W) : Array Value → State → Prop :=
  va_Pc as (fun U => mj_RO E A U ∧ va_K D mj_cl (mj_tys E) U ∧ va_P D mj_cl ws U.heap ∧ ∀ q : Nat, U.heap.size ≤ q → A q)
def mj_Qc (D : va_G) (A : Nat → Prop) (Q : Option Value → va_W → Prop) : Array Value → State → Outcome → State → Prop :=
  fun _ st o t => (∃ v ws1, o = .returned v ∧ Q v ws1 ∧ va_P D mj_cl ws1 t.heap ∧ va_D A ws1) ∧ va_F A st t
def mj_rm (d mc ms : Nat) : Room := { frames := d, cells := mc, slots := ms, locals := 256 * d }
theorem mj_met {l : Launch} {E : mj_E} {D : va_G} {A : Nat → Prop} {d mc ms y2 : Nat} {as : List Value} {ws : va_W} {Q : Option Value → va_W → Prop} (hW : mj_W l E D A d mc ms (mj_in0 y2 as ws) Q)
    (hy2 : y2 < mj_lawNo) (h1 : y2 ≠ mj_objNo) (h2 : (mj_y y2).cls ≠ "java/lang/Math") (hlen : (lg_sl as).length ≤ mj_l y2) (hD : va_D A ws) :
    Met l (mj_y y2) (mj_ws y2) (mj_rm d mc ms) (mj_Pc E D A as ws) (mj_Qc D A Q) mc ms A := by
  obtain ⟨k1, k2, -⟩ := mj_m_use hy2 h1 h2
  refine Met.ofW (cc := mj_b y2) (maxL := mj_l y2) (ret := mj_r y2) k1 rfl ?_
  intro p e s m args below meth c s₁ B hml hv
  obtain ⟨rfl, hRO, hK, hP, hA⟩ := hv
  have hts0 := atoms_spec (ws := mj_ws y2) B.pre
  have hts : ∀ w ∈ mj_tb, w.before as.toArray s = true := fun w h => hts0 w (List.mem_cons_of_mem _ h)
  have hown : s.vm.findClass (mj_cls (mj_cn y2)) = some m.cls := by rw [k2]; exact findClass_of_methodNamed B.named
  have hnm := (name_of_methodNamed B.named B.method).1
  have hl := lv_entry as (n := mj_l y2) hlen
  rw [lg_entry_eq]
  refine hW p e _ s m _ below meth c _ s.heap [] 0 0 _ (Nat.le_of_lt hy2) B.exec B.bytes hml hown hnm hts hRO hK hA hl hP hD va_S.rf (Nat.le_refl _) (Nat.le_refl _) (by show 0 + mc ≤ mc; omega) (by show 0 + ms ≤ ms; omega) ?_
  intro v ws1 H1 locs1 cells1 slots1 pc1 ls1 st1 hQ hP1 hD1 hS1 hc1 hs1 hrt
  refine W.widen (k := mc) (n := ms) (by omega) (by omega) ?_
  rcases hrt with ⟨hdg, w, ty, rfl, rfl, hr, hn⟩ | ⟨hdg, w, rfl, rfl, hr⟩ | ⟨hdg, rfl, rfl, hr⟩
  · exact W.zret B.exec B.bytes (B.returns.trans hr) hn (fun t ht hW => ⟨⟨_, ws1, rfl, hQ, by rw [ht]; exact hP1, hD1⟩, hS1.F ht⟩) hS1.2.2 hdg B.notSynchronized
  · exact W.lret B.exec B.bytes (B.returns.trans hr) (fun t ht hW => ⟨⟨_, ws1, rfl, hQ, by rw [ht]; exact hP1, hD1⟩, hS1.F ht⟩) hS1.2.2 hdg B.notSynchronized
  · exact W.vret B.exec B.bytes (B.returns.trans hr) (fun t ht hW => ⟨⟨_, ws1, rfl, hQ, by rw [ht]; exact hP1, hD1⟩, hS1.F ht⟩) hS1.2.2 hdg B.notSynchronized
theorem mj_call {p : Program} {l : Launch} {e : Env} {R : Room} {s : State} {m : MethodId} {args : Array Value} {below : List Frame} {meth : Method} {c : Code} {H : Heap} {locs : List Loc} {cells slots mc2 ms2 pc : Nat} {Z : State → Prop} {D : va_G} {A : Nat → Prop} {ls : Array Slot} {st0 rest : List Value} {Q : Option Value → va_W → Prop} {a : Array Value}
    (hr : va_Run p l e R s m args below meth c H locs cells slots mc2 ms2 (F0 m pc ls st0) rest (mj_Qc D A Q a) A) (hS : va_S A s.heap H locs)
    (kk : ∀ (v : Option Value) (ws1 : va_W) (H1 : Heap) (locs1 : List Loc), Q v ws1 → va_P D mj_cl ws1 H1 → va_D A ws1 → va_S A s.heap H1 locs1 → W p l e R s m args below meth c H1 locs1 (cells + mc2) (slots + ms2) Z (F0 m (pc + 3) ls (v.toList ++ rest))) :
    W p l e R s m args below meth c H locs cells slots Z (F0 m pc ls st0) := by
  intro T hT X
  obtain ⟨v, st₀, t, T', L, h0, X', hL, e1, e2, ⟨⟨v2, ws1, hv, hq, hP1, hD1⟩, hz, hk⟩, st⟩ := hr T hT X
  cases hv
  rw [h0] at hz hk
  obtain ⟨t2, a1, b1⟩ := kk v ws1 T'.heap (locs ++ L) hq (by rw [e1]; exact hP1) hD1
    ⟨Nat.le_trans hS.1 (by rw [e1]; exact hz), fun q h1 h2 => by rw [e1, hk q (Nat.lt_of_lt_of_le h1 hS.1) h2]; exact hS.2.1 q h1 h2, fun q hq => by
      rcases List.mem_append.mp hq with h | h
      · exact hS.2.2 q h
      · exact hL q h⟩ T' rfl X'
  exact ⟨t2, st t2 a1, b1⟩
theorem mj_goodIn (y : Nat) (hc : .code (mj_y y) (mj_b y) (mj_l y) (mj_r y) ∈ mj_tb) : GoodIn mj_tb (mj_ws y) := by
  intro w hw
  rcases List.mem_cons.mp hw with rfl | h
  · exact ⟨hc, good_of_word (List.mem_filter.mp hc).2⟩
  · exact ⟨h, good_of_word (List.mem_filter.mp h).2⟩
end
section
/-! ONE STEP OF THE SMALL MACHINE IS THE MACHINE'S -/
theorem mj_cl_of {ci : Nat} (h : ci < 7) : ∃ T N, mj_cl[ci]? = some (mj_cls ci, T, N) := by
  match ci, h with
  | 0, _ => exact ⟨_, _, rfl⟩
  | 1, _ => exact ⟨_, _, rfl⟩
  | 2, _ => exact ⟨_, _, rfl⟩
  | 3, _ => exact ⟨_, _, rfl⟩
  | 4, _ => exact ⟨_, _, rfl⟩
  | 5, _ => exact ⟨_, _, rfl⟩
  | 6, _ => exact ⟨_, _, rfl⟩
set_option maxRecDepth 20000 in
theorem mj_objInit_in : Cond.instanceMethod Lib.objectInit ∈ mj_tb ∧ Cond.code Lib.objectInit ⟨#[0xb1]⟩ 1 none ∈ mj_tb := ⟨mj_in_tb (pl := 133) (by decide +kernel) rfl, mj_in_tb (pl := 134) rfl rfl⟩
set_option maxRecDepth 20000 in
theorem mj_math_in : Cond.static Lib.Math.max.name ∈ mj_tb ∧ Cond.static Lib.Math.min.name ∈ mj_tb ∧ Cond.initialized "java/lang/Math" ∈ mj_tb := ⟨mj_in_tb (pl := 148) (by decide +kernel) rfl, mj_in_tb (pl := 704) (by decide +kernel) rfl, mj_in_tb (pl := 116) (by decide +kernel) rfl⟩
set_option maxRecDepth 20000 in
theorem mj_max_in : Cond.code Lib.Math.max.name Lib.Math.max.code 2 (some .int) ∈ mj_tb := mj_in_tb (pl := 149) rfl rfl
set_option maxRecDepth 20000 in
theorem mj_min_in : Cond.code Lib.Math.min.name Lib.Math.min.code 2 (some .int) ∈ mj_tb := mj_in_tb (pl := 705) rfl rfl
set_option maxRecDepth 20000 in
theorem mj_copy_in : Cond.native arraycopyName ∈ mj_tb ∧ Cond.static arraycopyName ∈ mj_tb ∧ Cond.initialized "java/lang/System" ∈ mj_tb := ⟨mj_in_tb (pl := 867) (by decide +kernel) rfl, mj_in_tb (pl := 866) (by decide +kernel) rfl, mj_in_tb (pl := 126) (by decide +kernel) rfl⟩
set_option maxRecDepth 20000 in
theorem mj_arr_in : Cond.arrayClass .int ∈ mj_tb ∧ Cond.arrayClass .long ∈ mj_tb ∧ Cond.arrayClass .boolean ∈ mj_tb := ⟨mj_in_tb (pl := 166) (by decide +kernel) rfl, mj_in_tb (pl := 1328) (by decide +kernel) rfl, mj_in_tb (pl := 1327) (by decide +kernel) rfl⟩
theorem mj_frameBlind (E : mj_E) (D : va_G) (A : Nat → Prop) (as : List Value) (ws : va_W) : FrameBlind (mj_Pc E D A as ws) := by
  intro a U g mk h
  obtain ⟨h0, h1, h2, h3, h4⟩ := h
  exact ⟨h0, h1.calling g mk a, va_K.moved (u := U) (U := U.calling g mk a) (Vm.Alike.refl U.vm) h2, h3, h4⟩
/-- new cells lie at new addresses -/
theorem mj_fresh {A : Nat → Prop} {ws : va_W} {q : Nat} {e : va_E} (h : va_D A (ws ++ [(q, e)])) : ∀ z ∈ ws, z.1 ≠ q := by
  intro z hz hq
  obtain ⟨i, hi⟩ := List.getElem?_of_mem hz
  have hlt : i < ws.length := (List.getElem?_eq_some_iff.mp hi).1
  have h1 : (ws ++ [(q, e)])[i]? = some z := by rw [List.getElem?_append_left hlt]; exact hi
  have h2 : (ws ++ [(q, e)])[ws.length]? = some (q, e) := by rw [List.getElem?_append_right (Nat.le_refl _), Nat.sub_self]; rfl
  have := h.1 i ws.length z (q, e) h1 h2 hq
  omega
set_option maxHeartbeats 4000000 in
set_option maxRecDepth 100000 in
theorem mj_W.step {l : Launch} {E : mj_E} {D : va_G} {A : Nat → Prop} {d mc ms : Nat} {cf : mj_C} {Q : Option Value → va_W → Prop} (h : mj_F E (mj_W l E D A) d mc ms cf Q) : mj_W l E D A d mc ms cf Q := by
  obtain ⟨y, pc, lv, st, ws⟩ := cf
  obtain ⟨r, ⟨i, n, hdg, hI⟩, hF⟩ := h
  intro p e R s m args below meth c ls H locs cells slots Z hy hx hb hml hown hnm hts hRO hK hA hl hP hD hS hd hlo hcc hss hret
  dsimp only at hy hb hml hown hnm hl hP hD hret hdg hI hF ⊢
  have goG : ∀ {mc1 ms1 cells1 slots1 pc1 : Nat} {lv1 : List (Nat × Value)} {st1 : List Value} {ws1 : va_W}, mj_W l E D A d mc1 ms1 (y, pc1, lv1, st1, ws1) Q → cells1 + mc1 ≤ cells + mc → slots1 + ms1 ≤ slots + ms → ∀ {ls1 : Array Slot} {H1 : Heap} {locs1 : List Loc}, lv_has ls1 (mj_l y) lv1 → va_P D mj_cl ws1 H1 → va_D A ws1 → va_S A s.heap H1 locs1 →
      W p l e R s m args below meth c H1 locs1 cells1 slots1 Z (F0 m pc1 ls1 st1) := by
    intro mc1 ms1 cells1 slots1 pc1 lv1 st1 ws1 hr g1 g2 ls1 H1 locs1 hl1 hP1 hD1 hS1
    exact hr p e R s m args below meth c ls1 H1 locs1 cells1 slots1 Z hy hx hb hml hown hnm hts hRO hK hA hl1 hP1 hD1 hS1 hd hlo (by omega) (by omega)
      (fun v ws2 H2 locs2 c2 s2 pc2 ls2 st2 hq a1 a2 a3 b1 b2 hrt => hret v ws2 H2 locs2 c2 s2 pc2 ls2 st2 hq a1 a2 a3 (by omega) (by omega) hrt)
  have go : ∀ {pc1 : Nat} {lv1 : List (Nat × Value)} {st1 : List Value} {ws1 : va_W}, r = mj_nx pc1 lv1 st1 ws1 → ∀ {ls1 : Array Slot} {H1 : Heap} {locs1 : List Loc}, lv_has ls1 (mj_l y) lv1 → va_P D mj_cl ws1 H1 → va_D A ws1 → va_S A s.heap H1 locs1 →
      W p l e R s m args below meth c H1 locs1 cells slots Z (F0 m pc1 ls1 st1) := by
    intro pc1 lv1 st1 ws1 hr ls1 H1 locs1 hl1 hP1 hD1 hS1
    subst hr
    exact goG hF (Nat.le_refl _) (Nat.le_refl _) hl1 hP1 hD1 hS1
  have hpre : ∀ (as : List Value) (U : State), U.heap = H → s.WarmedH U.vm → mj_Pc E D A as ws as.toArray U := by
    intro as U hU hW
    exact ⟨rfl, hRO.warm hW (fun q h1 h2 => by rw [hU]; exact hS.2.1 q h1 h2), va_K.moved hW.alike hK, by rw [hU]; exact hP, fun q h => hA q (Nat.le_trans hS.1 (by rw [hU] at h; exact h))⟩
  have hcallB : ∀ {y2 d2 mc2 ms2 ix : Nat}, y2 < mj_lawNo → y2 ≠ mj_objNo → (mj_y y2).cls ≠ "java/lang/Math" → d = d2 + 1 → mj_l y2 ≤ 100 → (Cond.methodLink (mj_cls (mj_cn y)) ix (mj_y y2)).before args s = true →
      CallB R s args (mj_cls (mj_cn y)) ix (mj_y y2) (mj_b y2) (mj_l y2) (mj_r y2) (mj_ws y2) (mj_rm d2 mc2 ms2) mc2 ms2 (mj_m y2).2.2.2.2.2.2 := by
    intro y2 d2 mc2 ms2 ix q1 q2 q3 q4 q5 q6
    obtain ⟨k1, k2, k3, k4, k5, k6, k7, k8, k9⟩ := mj_m_use q1 q2 q3
    exact callB_of (Ts := mj_tb) (ws' := mj_tb) _ hts (mj_goodIn y2 k9) rfl rfl rfl (hts _ k6) q6 ⟨k3, k4, k5⟩ ⟨by show d2 + 1 ≤ R.frames; omega, by show 8 + (mj_l y2 + 11) + 256 * d2 ≤ R.locals; omega⟩
  have hcallN : ∀ {y2 d2 mc2 ms2 ix : Nat}, y2 < mj_lawNo → y2 ≠ mj_objNo → (mj_y y2).cls ≠ "java/lang/Math" → d = d2 + 1 → mj_l y2 ≤ 100 → va_Nw (.methodLinkNest (mj_cls (mj_cn y)) ix (mj_y y2) "FriarLists") s →
      va_CN R s args (mj_cls (mj_cn y)) ix (mj_y y2) "FriarLists" (mj_b y2) (mj_l y2) (mj_r y2) (mj_ws y2) (mj_rm d2 mc2 ms2) mc2 ms2 (mj_m y2).2.2.2.2.2.2 := by
    intro y2 d2 mc2 ms2 ix q1 q2 q3 q4 q5 q6
    obtain ⟨k1, k2, k3, k4, k5, k6, k7, k8, k9⟩ := mj_m_use q1 q2 q3
    exact va_cnB (Ts := mj_tb) (ws' := mj_tb) _ hts (mj_goodIn y2 k9) rfl rfl rfl q6 (hts _ k6) ⟨k3, k4, k5⟩ ⟨by show d2 + 1 ≤ R.frames; omega, by show 8 + (mj_l y2 + 11) + 256 * d2 ≤ R.locals; omega⟩
  cases i
  case iconst k => obtain ⟨rfl, hr⟩ := hI; exact lv_iconst hx hb hdg rfl (go hr hl hP hD hS)
  case bipush k => obtain ⟨rfl, hr⟩ := hI; exact lv_bipush hx hb hdg rfl (go hr hl hP hD hS)
  case sipush k => obtain ⟨rfl, hr⟩ := hI; exact lv_sipush hx hb hdg rfl (go hr hl hP hD hS)
  case lconst k => obtain ⟨rfl, hr⟩ := hI; exact lv_lconst hx hb hdg rfl (go hr hl hP hD hS)
  case iload_n k => obtain ⟨rfl, v, hv, hr⟩ := hI; exact lv_iload_n hx hb hdg rfl (hl.2.2 _ hv) (go hr hl hP hD hS)
  case iload k => obtain ⟨rfl, v, hv, hr⟩ := hI; exact lv_iload hx hb hdg (hl.2.2 _ hv) (go hr hl hP hD hS)
  case lload_n k => obtain ⟨rfl, v, hv, hr⟩ := hI; exact lv_lload_n hx hb hdg rfl (hl.2.2 _ hv) (go hr hl hP hD hS)
  case lload k => obtain ⟨rfl, v, hv, hr⟩ := hI; exact lv_lload hx hb hdg (hl.2.2 _ hv) (go hr hl hP hD hS)
  case aload_n k => obtain ⟨rfl, v, hv, hr⟩ := hI; exact lv_aload_n hx hb hdg rfl (hl.2.2 _ hv) (go hr hl hP hD hS)
  case istore_n k => obtain ⟨rfl, hn, v, t, rfl, hr⟩ := hI; exact lv_istore_n hx hb hdg rfl hl hn rfl (fun ls1 hl1 => go hr hl1 hP hD hS)
  case istore k => obtain ⟨rfl, hn, v, t, rfl, hr⟩ := hI; exact lv_istore hx hb hdg hl hn rfl (fun ls1 hl1 => go hr hl1 hP hD hS)
  case lstore_n k => obtain ⟨rfl, hn, v, t, rfl, hr⟩ := hI; exact lv_lstore_n hx hb hdg rfl hl hn rfl (fun ls1 hl1 => go hr hl1 hP hD hS)
  case lstore k => obtain ⟨rfl, hn, v, t, rfl, hr⟩ := hI; exact lv_lstore hx hb hdg hl hn rfl (fun ls1 hl1 => go hr hl1 hP hD hS)
  case astore_n k => obtain ⟨rfl, hn, v, t, rfl, hr⟩ := hI; exact lv_astore_n hx hb hdg rfl hl hn rfl (fun ls1 hl1 => go hr hl1 hP hD hS)
  case iinc k cst =>
    obtain ⟨rfl, hn, v, hv, hr⟩ := hI
    obtain ⟨j, hj⟩ := List.getElem?_of_mem hv
    exact lv_iinc hx hb hdg hl hj rfl hn rfl (fun ls1 hl1 => go hr hl1 hP hD hS)
  case iadd => obtain ⟨rfl, a, b, t, rfl, hr⟩ := hI; exact lv_iadd hx hb hdg (go hr hl hP hD hS)
  case isub => obtain ⟨rfl, a, b, t, rfl, hr⟩ := hI; exact lv_isub hx hb hdg (go hr hl hP hD hS)
  case imul => obtain ⟨rfl, a, b, t, rfl, hr⟩ := hI; exact lv_imul hx hb hdg (go hr hl hP hD hS)
  case iand => obtain ⟨rfl, a, b, t, rfl, hr⟩ := hI; exact lv_iand hx hb hdg (go hr hl hP hD hS)
  case ior => obtain ⟨rfl, a, b, t, rfl, hr⟩ := hI; exact lv_ior hx hb hdg (go hr hl hP hD hS)
  case ixor => obtain ⟨rfl, a, b, t, rfl, hr⟩ := hI; exact lv_ixor hx hb hdg (go hr hl hP hD hS)
  case ishl => obtain ⟨rfl, a, b, t, rfl, hr⟩ := hI; exact lv_ishl hx hb hdg (go hr hl hP hD hS)
  case ishr => obtain ⟨rfl, a, b, t, rfl, hr⟩ := hI; exact lv_ishr hx hb hdg (go hr hl hP hD hS)
  case iushr => obtain ⟨rfl, a, b, t, rfl, hr⟩ := hI; exact lv_iushr hx hb hdg rfl (go hr hl hP hD hS)
  case idiv => obtain ⟨rfl, a, b, t, rfl, hne, hr⟩ := hI; exact lv_idiv hx hb hdg hne (go hr hl hP hD hS)
  case irem => obtain ⟨rfl, a, b, t, rfl, hne, hr⟩ := hI; exact lv_irem hx hb hdg hne (go hr hl hP hD hS)
  case ineg => obtain ⟨rfl, a, t, rfl, hr⟩ := hI; exact lv_ineg hx hb hdg (go hr hl hP hD hS)
  case i2l => obtain ⟨rfl, a, t, rfl, hr⟩ := hI; exact lv_i2l hx hb hdg rfl (go hr hl hP hD hS)
  case i2b => obtain ⟨rfl, a, t, rfl, hr⟩ := hI; exact lv_i2b hx hb hdg rfl (go hr hl hP hD hS)
  case i2s => obtain ⟨rfl, a, t, rfl, hr⟩ := hI; exact lv_i2s hx hb hdg rfl (go hr hl hP hD hS)
  case i2c => obtain ⟨rfl, a, t, rfl, hr⟩ := hI; exact lv_i2c hx hb hdg rfl (go hr hl hP hD hS)
  case ladd => obtain ⟨rfl, a, b, t, rfl, hr⟩ := hI; exact lv_ladd hx hb hdg (go hr hl hP hD hS)
  case lmul => obtain ⟨rfl, a, b, t, rfl, hr⟩ := hI; exact lv_lmul hx hb hdg (go hr hl hP hD hS)
  case land => obtain ⟨rfl, a, b, t, rfl, hr⟩ := hI; exact lv_land hx hb hdg (go hr hl hP hD hS)
  case lor => obtain ⟨rfl, a, b, t, rfl, hr⟩ := hI; exact lv_lor hx hb hdg (go hr hl hP hD hS)
  case ldiv => obtain ⟨rfl, a, b, t, rfl, hne, hr⟩ := hI; exact lv_ldiv hx hb hdg hne (go hr hl hP hD hS)
  case lshl => obtain ⟨rfl, a, b, t, rfl, hr⟩ := hI; exact lv_lshl hx hb hdg rfl (go hr hl hP hD hS)
  case lshr => obtain ⟨rfl, a, b, t, rfl, hr⟩ := hI; exact lv_lshr hx hb hdg rfl (go hr hl hP hD hS)
  case lushr => obtain ⟨rfl, a, b, t, rfl, hr⟩ := hI; exact lv_lushr hx hb hdg rfl (go hr hl hP hD hS)
  case lcmp => obtain ⟨rfl, a, b, t, rfl, hr⟩ := hI; exact W.lcmp hx hb hdg (go hr hl hP hD hS)
  case l2i => obtain ⟨rfl, a, t, rfl, hr⟩ := hI; exact lv_l2i hx hb hdg rfl (go hr hl hP hD hS)
  case pop => obtain ⟨rfl, v, t, rfl, h1, hr⟩ := hI; exact lv_pop hx hb hdg h1 (go hr hl hP hD hS)
  case dup => obtain ⟨rfl, v, t, rfl, h1, hr⟩ := hI; exact lv_dup hx hb hdg h1 (go hr hl hP hD hS)
  case dup2 => obtain ⟨rfl, v, u, t, rfl, h1, h2, hr⟩ := hI; exact lv_dup2_11 hx hb hdg h1 h2 (go hr hl hP hD hS)
  case ifCond cd off =>
    obtain ⟨rfl, v, t, tg, rfl, ht, h⟩ := hI
    have kt : mj_c1 cd v 0 → W p l e R s m args below meth c H locs cells slots Z (F0 m tg ls t) := fun z => h.elim (fun q => go q.2 hl hP hD hS) (fun q => absurd z q.1)
    have kf : ¬ mj_c1 cd v 0 → W p l e R s m args below meth c H locs cells slots Z (F0 m (pc + 3) ls t) := fun z => h.elim (fun q => absurd q.1 z) (fun q => go q.2 hl hP hD hS)
    cases cd
    · exact lv_if_eq hx hb hdg ht (fun z => kt z) (fun z => kf z)
    · exact lv_if_ne hx hb hdg ht (fun z => kt z) (fun z => kf (fun q => q z))
    · exact lv_if_lt hx hb hdg ht (fun z => kt z) (fun z => kf z)
    · exact lv_if_ge hx hb hdg ht (fun z => kt z) (fun z => kf z)
    · exact lv_if_gt hx hb hdg ht (fun z => kt z) (fun z => kf z)
    · exact lv_if_le hx hb hdg ht (fun z => kt z) (fun z => kf z)
  case if_icmp cd off =>
    obtain ⟨rfl, a, b, t, tg, rfl, ht, h⟩ := hI
    have kt : mj_c1 cd a b → W p l e R s m args below meth c H locs cells slots Z (F0 m tg ls t) := fun z => h.elim (fun q => go q.2 hl hP hD hS) (fun q => absurd z q.1)
    have kf : ¬ mj_c1 cd a b → W p l e R s m args below meth c H locs cells slots Z (F0 m (pc + 3) ls t) := fun z => h.elim (fun q => absurd q.1 z) (fun q => go q.2 hl hP hD hS)
    cases cd
    · exact lv_icmp_eq hx hb hdg ht (fun z => kt z) (fun z => kf z)
    · exact lv_icmp_ne hx hb hdg ht (fun z => kt z) (fun z => kf (fun q => q z))
    · exact lv_icmp_lt hx hb hdg ht (fun z => kt z) (fun z => kf z)
    · exact lv_icmp_ge hx hb hdg ht (fun z => kt z) (fun z => kf z)
    · exact lv_icmp_gt hx hb hdg ht (fun z => kt z) (fun z => kf z)
    · exact lv_icmp_le hx hb hdg ht (fun z => kt z) (fun z => kf z)
  case goto off => obtain ⟨rfl, tg, ht, hr⟩ := hI; exact lv_goto hx hb hdg ht (go hr hl hP hD hS)
  case tableswitch df lo hi offs =>
    obtain ⟨v, t, off, tg, rfl, ht, h, hr⟩ := hI
    rcases h with ⟨h1, rfl⟩ | ⟨h1, h2, h3⟩
    · exact lv_tableOut hx hb hdg h1 ht (go hr hl hP hD hS)
    · exact lv_tableIn hx hb hdg h1 h2 h3 ht (go hr hl hP hD hS)
  case lookupswitch df ps =>
    obtain ⟨v, t, tg, rfl, h1, ht, hr⟩ := hI
    exact lv_lookup hx hb hdg h1 rfl ht (go hr hl hP hD hS)
  case getfield ix =>
    obtain ⟨rfl, a, t, rfl, h⟩ := hI
    rcases h with ⟨ci, k, pl, q0, fs, v, h1, h2, h3, hr⟩ | ⟨i, pl, hi, rfl, h⟩
    · obtain ⟨C, T, N, g1, g2, g3, g4⟩ := mj_fl_use h1
      exact va_get hx hb hts (mj_cl_use g1).1 hown hK hP q0 h2 g1 k g2 (hts _ g4) (fun x hx => by rw [g3] at hx; exact hx) h3 hdg (go hr hl hP hD hS)
    · rcases h with ⟨h1, hr⟩ | ⟨h1, hr⟩
      · have g := mj_sl_use h1
        exact vk_getf hx hb (hRO.2.2.1 i hi).2.2.1 hS hown (hts _ (mj_in_tb (of_decide_eq_true g) rfl)) (fun _ h9 => h9) hdg (go hr hl hP hD hS)
      · have g := mj_sl_use h1
        exact vk_getf hx hb (hRO.2.2.1 i hi).2.1 hS hown (hts _ (mj_in_tb (of_decide_eq_true g) rfl)) (fun _ h9 => h9) hdg (go hr hl hP hD hS)
  case putfield ix =>
    obtain ⟨rfl, v, a, t, ci, k, pl, q0, fs, rfl, h1, h2, h3, ⟨ty, h4, h5, h6⟩, h7, hr⟩ := hI
    obtain ⟨C, T, N, g1, g2, g3, g4⟩ := mj_fl_use h1
    obtain ⟨u1, u2, u3⟩ := mj_cl_use g1
    have eT : (mj_cl.getD ci ("", mj_T0, 0)) = (C, T, N) := by rw [List.getD_eq_getElem?_getD, g1]; rfl
    rw [eT] at h4 h7
    dsimp only at h4 h7
    by_cases hf : (T k).2.2.2 = true
    · obtain ⟨f1, f2⟩ := h7 hf
      refine va_putF hx hb hts u1 _ u2 u3 hown hK hP hD hS q0 h2 g1 k g2 (hts _ g4) (fun x hx => by rw [g3] at hx; exact hx) hf (hnm.trans f1) ?_ h4 h5 h6 h3 hdg (fun H1 locs1 hP1 hD1 hS1 => go hr hl hP1 hD1 hS1)
      rw [g3, ← f2]
      have := g1
      match ci, this with
      | 0, h => exact (congrArg (·.1) (Option.some.inj h)).symm
      | 1, h => exact (congrArg (·.1) (Option.some.inj h)).symm
      | 2, h => exact (congrArg (·.1) (Option.some.inj h)).symm
      | 3, h => exact (congrArg (·.1) (Option.some.inj h)).symm
      | 4, h => exact (congrArg (·.1) (Option.some.inj h)).symm
      | 5, h => exact (congrArg (·.1) (Option.some.inj h)).symm
      | 6, h => exact (congrArg (·.1) (Option.some.inj h)).symm
      | n + 7, h => exact absurd h (by rw [List.getElem?_eq_none (by show 7 ≤ n + 7; omega)]; intro z; cases z)
    · exact va_put hx hb hts u1 _ u2 u3 hown hK hP hD hS q0 h2 g1 k g2 (hts _ g4) (fun x hx => by rw [g3] at hx; exact hx) (by simpa using hf) h4 h5 h6 h3 hdg (fun H1 locs1 hP1 hD1 hS1 => go hr hl hP1 hD1 hS1)
  case getstatic ix =>
    obtain ⟨rfl, sid, ns, pl, h1, hr⟩ := hI
    have g := mj_stl_use h1
    simp only [mj_okstl, Bool.and_eq_true, decide_eq_true_eq] at g
    obtain ⟨g1, g2⟩ := g
    by_cases hz : ns = 0
    · rw [if_pos hz] at g2
      exact va_gets hx hb (hRO.1 sid g1) hS hown (hts _ (mj_in_tb (of_decide_eq_true g2) rfl)) (fun _ h9 => h9) hdg (go hr hl hP hD hS)
    · rw [if_neg hz] at g2
      exact va_getsN hx hb (hRO.1 sid g1) hS hown (va_Nw.use rfl (hRO.2.2.2.2 _ (mj_in_nw (of_decide_eq_true g2) rfl))) (fun _ h9 => h9) hdg (go hr hl hP hD hS)
  case iaload =>
    obtain ⟨rfl, i, a, t, rfl, h⟩ := hI
    rcases h with ⟨q0, N, f, h1, h2, hr⟩ | ⟨k, hk, rfl, h2, hr⟩
    · exact va_iald hx hb hK hP q0 0 h1 rfl h2 hdg (go hr hl hP hD hS)
    · exact va_ti hx hb (hRO.2.1 k hk) hS h2 rfl hdg (go hr hl hP hD hS)
  case laload => obtain ⟨rfl, i, a, t, q0, N, f, rfl, h1, h2, hr⟩ := hI; exact va_lald hx hb hK hP q0 1 h1 rfl h2 hdg (go hr hl hP hD hS)
  case baload =>
    obtain ⟨rfl, i, a, t, rfl, h⟩ := hI
    rcases h with ⟨q0, N, f, h1, h2, hr⟩ | ⟨k, hk, rfl, h2, hr⟩
    · exact va_zald hx hb hK hP q0 2 h1 rfl h2 hdg (go hr hl hP hD hS)
    · exact va_tb hx hb (hRO.2.2.1 k hk).2.2.2 hS h2 rfl hdg (go hr hl hP hD hS)
  case iastore => obtain ⟨rfl, x, i, a, t, q0, N, f, rfl, h1, h2, hr⟩ := hI; exact va_iast hx hb hK hP hD hS q0 0 h1 rfl h2 hdg (fun H1 locs1 hP1 hD1 hS1 => go hr hl hP1 hD1 hS1)
  case lastore => obtain ⟨rfl, x, i, a, t, q0, N, f, rfl, h1, h2, hr⟩ := hI; exact va_last hx hb hK hP hD hS q0 1 h1 rfl h2 hdg (fun H1 locs1 hP1 hD1 hS1 => go hr hl hP1 hD1 hS1)
  case bastore => obtain ⟨rfl, x, i, a, t, q0, N, f, rfl, h1, h2, hr⟩ := hI; exact va_zast hx hb hK hP hD hS q0 2 h1 rfl h2 hdg (fun H1 locs1 hP1 hD1 hS1 => go hr hl hP1 hD1 hS1)
  case arraylength =>
    obtain ⟨rfl, a, t, rfl, h⟩ := hI
    rcases h with ⟨q0, x, h1, hr⟩ | ⟨k, hk, rfl, hr⟩ | ⟨k, hk, rfl, hr⟩
    · exact va_alen hx hb hK hP q0 0 h1 (ty := .int) rfl rfl hdg (go hr hl hP hD hS)
    · exact va_tlen hx hb (hRO.2.1 k hk) hS rfl hdg (go hr hl hP hD hS)
    · exact va_tlen hx hb (hRO.2.2.1 k hk).2.2.2 hS rfl hdg (go hr hl hP hD hS)
  case ldc ix =>
    obtain ⟨rfl, h⟩ := hI
    rcases h with ⟨v, pl, h1, hr⟩ | ⟨i, pl, hi, h1, hr⟩
    · have g := mj_kl_use h1
      exact lv_ldc hx hb hown (hts _ (mj_in_tb (of_decide_eq_true g) rfl)) hdg (go hr hl hP hD hS)
    · have g := mj_kl_use h1
      simp only [mj_okkl, Bool.and_eq_true, decide_eq_true_eq, Int.toNat_natCast] at g
      have hz := hRO.2.2.2.1 i hi
      rw [g.1.2, g.2] at hz
      exact va_ldcS hx hb hown hz hdg (go hr hl hP hD hS)
  case ldc_w ix =>
    obtain ⟨rfl, v, pl, h1, hr⟩ := hI
    exact lv_ldcw hx hb hown (hts _ (mj_in_tb (of_decide_eq_true (mj_kl_use h1)) rfl)) hdg (go hr hl hP hD hS)
  case ldc2_w ix =>
    obtain ⟨rfl, v, pl, h1, hr⟩ := hI
    exact lv_ldc2 hx hb hown (hts _ (mj_in_tb (of_decide_eq_true (mj_kl_use h1)) rfl)) hdg (go hr hl hP hD hS)
  case newarray at0 =>
    obtain ⟨rfl, x, t, e, ty, rfl, hn, he, hlen, rfl⟩ := hI
    obtain ⟨mc2, ms2, e1, e2, hF⟩ := hF
    have hc1 : cells + 1 ≤ R.cells := by omega
    have hs1 : slots + x.toNatClampNeg ≤ R.slots := by omega
    have key : ∀ (ty : FieldType) (cI cA : ClassId) (k : Nat), (∀ C, ty ≠ .object C) → (mj_tys E)[k]? = some (cI, ty) → va_K D mj_cl (mj_tys E ++ [(cA, ty)]) s → cA = cI := by
      intro ty cI cA k hty hk hK1
      have a1 := (hK.2 k _ hk).2
      have a2 := (hK1.2 3 (cA, ty) rfl).2
      have b1 : s.vm.findClass ("[" ++ ty.toString) = some cI := by
        cases ty <;> first | exact a1 | exact absurd rfl (hty _)
      have b2 : s.vm.findClass ("[" ++ ty.toString) = some cA := by
        cases ty <;> first | exact a2 | exact absurd rfl (hty _)
      exact Option.some.inj (b2.symm.trans b1)
    cases at0
    case int =>
      cases he
      refine va_newa (atype := .int) hx hb (hts _ mj_arr_in.1) rfl hK hP hD hS hA (a0 := (x.toNatClampNeg, .inl (fun _ => 0))) (fun _ => rfl) hn rfl (by show x.toNatClampNeg * 4 ≤ _; omega) hc1 hs1 hdg (fun q cA H1 hK1 hP1 hD1 hS1 => ?_)
      have hz := key .int _ cA 0 (fun C z => by cases z) rfl hK1
      subst hz
      exact goG (hF q (mj_fresh hD1)) (by omega) (by omega) hl hP1 hD1 hS1
    case long =>
      cases he
      refine va_newa (atype := .long) hx hb (hts _ mj_arr_in.2.1) rfl hK hP hD hS hA (a0 := (x.toNatClampNeg, .inr (.inl (fun _ => 0)))) (fun _ => rfl) hn rfl (by show x.toNatClampNeg * 8 ≤ _; omega) hc1 hs1 hdg (fun q cA H1 hK1 hP1 hD1 hS1 => ?_)
      have hz := key .long _ cA 1 (fun C z => by cases z) rfl hK1
      subst hz
      exact goG (hF q (mj_fresh hD1)) (by omega) (by omega) hl hP1 hD1 hS1
    case boolean =>
      cases he
      refine va_newa (atype := .boolean) hx hb (hts _ mj_arr_in.2.2) rfl hK hP hD hS hA (a0 := (x.toNatClampNeg, .inl (fun _ => 0))) (fun _ => rfl) hn rfl (by show x.toNatClampNeg * 1 ≤ _; omega) hc1 hs1 hdg (fun q cA H1 hK1 hP1 hD1 hS1 => ?_)
      have hz := key .boolean _ cA 2 (fun C z => by cases z) rfl hK1
      subst hz
      exact goG (hF q (mj_fresh hD1)) (by omega) (by omega) hl hP1 hD1 hS1
    all_goals cases he
  case new ix =>
    obtain ⟨rfl, ci, pl, fs, h1, h2, h3, rfl⟩ := hI
    obtain ⟨mc2, ms2, e1, e2, hF⟩ := hF
    obtain ⟨C, T, N, g1, g2, g3, g4⟩ := mj_nl_use h1
    obtain ⟨u1, u2, u3⟩ := mj_cl_use g1
    have eT : (mj_cl.getD ci ("", mj_T0, 0)) = (C, T, N) := by rw [List.getD_eq_getElem?_getD, g1]; rfl
    rw [eT] at h3 e2
    dsimp only at h3 e2
    refine va_new hx hb hts u1 _ u2 hown (hts _ g2) (hts _ g3) (hts _ g4) hK hP hD hS hA g1 (fs := fs) (fun j hj => ?_) (by omega) (by omega) hdg (fun q H1 hP1 hD1 hS1 => ?_)
    · rw [h3]
      unfold vp_V
      rw [List.getD_eq_getElem?_getD, List.getElem?_map, List.getElem?_range hj]
      simp only [Option.map_some, Option.getD_some]
      obtain ⟨ty, e⟩ : ∃ ty, parseFieldDescriptor (T j).2.2.1 = some ty := ⟨_, u2 j hj⟩
      rw [e]; rfl
    · exact goG (hF q (mj_fresh hD1)) (by omega) (by omega) hl hP1 hD1 hS1
  case invokevirtual ix =>
    obtain ⟨rfl, y2, pl, as, a, rest, h1, rfl, ⟨c1, c2, c3, c4, c5⟩, h3, rfl⟩ := hI
    obtain ⟨d2, mc2, ms2, mc3, ms3, Rq, e1, e2, e3, hC, hN⟩ := hF
    have g := mj_ml_use h1
    simp only [mj_okml, Bool.and_eq_true, decide_eq_true_eq] at g
    obtain ⟨⟨⟨⟨⟨g1, g2⟩, g3⟩, g4⟩, g5⟩, g6⟩ := g
    obtain ⟨k1, k2, k3, k4, k5, k6, k7, k8, k9⟩ := mj_m_use g1 g2 g3
    have hrecv : ∃ cellB : Cell, H[a]? = some cellB ∧ cellB.vm.isStatics = false ∧ s.vm.findClass (mj_y y2).cls = some cellB.cls := by
      rcases h3 with ⟨q0, ci, fs, b1, b2, b3⟩ | ⟨i, hi, rfl, b2⟩
      · obtain ⟨T, N, hc⟩ := mj_cl_of b3
        obtain ⟨cell, z1, z2, z3⟩ := va_recv hK hP hc b1
        exact ⟨cell, z1, z2, by rw [← b2]; exact z3⟩
      · obtain ⟨cell, z1, z2, z3, -⟩ := (hRO.2.2.1 i hi).1.kept hS.2.1
        exact ⟨cell, z1, z2, by rw [b2]; exact z3⟩
    refine mj_call (va_runV (As := as) (rest := rest) (C := (mj_y y2).cls) (b := a) ⟨hx, hb, hml, hown, hts⟩ (mj_met hC g1 g2 g3 c3 hD) ⟨hcallB g1 g2 g3 e1 c4 (hts _ (mj_in_tb g5 rfl)), hts _ (k8 g4), hts _ (mj_in_tb g6 rfl)⟩ ⟨mj_frameBlind E D A _ ws, hrecv, fun U hU hW => hpre _ U hU hW⟩ rfl ?_ hl.1 rfl (lv_room c5) hdg ⟨by omega, by omega⟩) hS (fun v ws1 H1 locs1 hq hP1 hD1 hS1 => goG (hN v ws1 hq) (by omega) (by omega) hl hP1 hD1 hS1)
    simpa using c2
  case invokestatic ix =>
    obtain ⟨rfl, h⟩ := hI
    rcases h with ⟨y2, pl, as, rest, h1, rfl, ⟨c1, c2, c3, c4, c5⟩, rfl⟩ | ⟨pl, z0, sp, dp, nn, a0, a1, q0, q1, n0, n1, f, g, rest, h1, h2, rfl, h3, h4, h5, h6, h7, h8, h9, h10, hr⟩ | ⟨pl, z0, a, b, rest, h1, h2, rfl, h3, hr⟩ | ⟨pl, z0, a, b, rest, h1, h2, rfl, h3, hr⟩
    · obtain ⟨d2, mc2, ms2, mc3, ms3, Rq, e1, e2, e3, hC, hN⟩ := hF
      rcases h1 with h1 | h1
      · have g := mj_ml_use h1
        simp only [mj_okml, Bool.and_eq_true, decide_eq_true_eq] at g
        obtain ⟨⟨⟨⟨g1, g2⟩, g3⟩, g4⟩, g5⟩ := g
        obtain ⟨k1, k2, k3, k4, k5, k6, k7, k8, k9⟩ := mj_m_use g1 g2 g3
        exact mj_call (va_runS (As := as) (rest := rest) ⟨hx, hb, hml, hown, hts⟩ (mj_met hC g1 g2 g3 c3 hD) ⟨hcallB g1 g2 g3 e1 c4 (hts _ (mj_in_tb g5 rfl)), hts _ (k7 g4)⟩ ⟨mj_frameBlind E D A _ ws, fun U hU hW => hpre _ U hU hW⟩ rfl c2 hl.1 rfl (lv_room c5) hdg ⟨by omega, by omega⟩) hS (fun v ws1 H1 locs1 hq hP1 hD1 hS1 => goG (hN v ws1 hq) (by omega) (by omega) hl hP1 hD1 hS1)
      · have g := mj_ml_use h1
        simp only [mj_okml, Bool.and_eq_true, decide_eq_true_eq] at g
        obtain ⟨⟨⟨⟨g1, g2⟩, g3⟩, g4⟩, g5⟩ := g
        obtain ⟨k1, k2, k3, k4, k5, k6, k7, k8, k9⟩ := mj_m_use g1 g2 g3
        exact mj_call (va_runSN (As := as) (rest := rest) ⟨hx, hb, hml, hown, hts⟩ (mj_met hC g1 g2 g3 c3 hD) ⟨hcallN g1 g2 g3 e1 c4 (hRO.2.2.2.2 _ (mj_in_nw g5 rfl)), hts _ (k7 g4), trivial⟩ ⟨mj_frameBlind E D A _ ws, fun U hU hW => hpre _ U hU hW⟩ rfl c2 hl.1 rfl (lv_room c5) hdg ⟨by omega, by omega⟩) hS (fun v ws1 H1 locs1 hq hP1 hD1 hS1 => goG (hN v ws1 hq) (by omega) (by omega) hl hP1 hD1 hS1)
    · have hnf : nativeFrameWords "java/lang/System" "arraycopy" 5 ≤ 200 := by decide +kernel
      exact va_copyi hx hb (by rw [hml]; exact hl.1.symm) hown (hts _ (mj_in_tb (of_decide_eq_true (mj_ml_use h1)) rfl)) (hts _ mj_copy_in.1) (hts _ mj_copy_in.2.1) (hts _ mj_copy_in.2.2) hK hP hD hS q0 q1 0 0 h4 h5 rfl rfl rfl h6 h7 h8 h9 h10 (fun _ _ => rfl) (by omega) (by omega) hdg (fun H1 locs1 hP1 hD1 hS1 => go hr hl hP1 hD1 hS1)
    · exact va_mmax hx hb (by rw [hml]; exact hl.1.symm) hown (hts _ (mj_in_tb (of_decide_eq_true (mj_ml_use h1)) rfl)) (hts _ mj_math_in.1) (hts _ mj_math_in.2.2) (hts _ mj_max_in) (by omega) (by omega) (by omega) (by omega) hdg (go hr hl hP hD hS)
    · exact va_mmin hx hb (by rw [hml]; exact hl.1.symm) hown (hts _ (mj_in_tb (of_decide_eq_true (mj_ml_use h1)) rfl)) (hts _ mj_math_in.2.1) (hts _ mj_math_in.2.2) (hts _ mj_min_in) (by omega) (by omega) (by omega) (by omega) hdg (go hr hl hP hD hS)
  case invokespecial ix =>
    obtain ⟨rfl, h⟩ := hI
    rcases h with ⟨y2, pl, as, a, rest, h1, rfl, ⟨c1, c2, c3, c4, c5⟩, rfl⟩ | ⟨pl, z0, a, rest, h1, h2, rfl, h3, hr⟩
    · obtain ⟨d2, mc2, ms2, mc3, ms3, Rq, e1, e2, e3, hC, hN⟩ := hF
      have c2 : as.length = (mj_m y2).2.2.2.2.2.2 := by simpa using c2
      rcases h1 with h1 | h1
      · have g := mj_ml_use h1
        simp only [mj_okml, Bool.and_eq_true, decide_eq_true_eq] at g
        obtain ⟨⟨⟨⟨⟨⟨g1, g2⟩, g3⟩, g4⟩, g5⟩, g6⟩, g7⟩ := g
        obtain ⟨k1, k2, k3, k4, k5, k6, k7, k8, k9⟩ := mj_m_use g1 g2 g3
        have hcb := hcallB (mc2 := mc2) (ms2 := ms2) g1 g2 g3 e1 c4 (hts _ (mj_in_tb g7 rfl))
        rw [g6] at hcb
        exact mj_call (va_runI (As := as) (b := a) (rest := rest) ⟨hx, hb, hml, hown, hts⟩ (mj_met hC g1 g2 g3 c3 hD) ⟨hcb, g5, hts _ (k8 g4)⟩ ⟨mj_frameBlind E D A _ ws, fun U hU hW => hpre _ U hU hW⟩ rfl c2 hl.1 rfl (lv_room c5) hdg ⟨by omega, by omega⟩) hS (fun v ws1 H1 locs1 hq hP1 hD1 hS1 => goG (hN v ws1 hq) (by omega) (by omega) hl hP1 hD1 hS1)
      · have g := mj_ml_use h1
        simp only [mj_okml, Bool.and_eq_true, decide_eq_true_eq] at g
        obtain ⟨⟨⟨⟨⟨⟨g1, g2⟩, g3⟩, g4⟩, g5⟩, g6⟩, g7⟩ := g
        obtain ⟨k1, k2, k3, k4, k5, k6, k7, k8, k9⟩ := mj_m_use g1 g2 g3
        have hcb := hcallN (mc2 := mc2) (ms2 := ms2) g1 g2 g3 e1 c4 (hRO.2.2.2.2 _ (mj_in_nw g7 rfl))
        rw [g6] at hcb
        exact mj_call (va_runIN (As := as) (b := a) (rest := rest) ⟨hx, hb, hml, hown, hts⟩ (mj_met hC g1 g2 g3 c3 hD) ⟨hcb, g5, hts _ (k8 g4)⟩ ⟨mj_frameBlind E D A _ ws, fun U hU hW => hpre _ U hU hW⟩ rfl c2 hl.1 rfl (lv_room c5) hdg ⟨by omega, by omega⟩) hS (fun v ws1 H1 locs1 hq hP1 hD1 hS1 => goG (hN v ws1 hq) (by omega) (by omega) hl hP1 hD1 hS1)
    · refine W.objInit hx hb hown (hts _ (mj_in_tb (of_decide_eq_true (mj_ml_use h1)) rfl)) (hts _ mj_objInit_in.1) (hts _ mj_objInit_in.2) rfl (by rw [hml]; exact hl.1) rfl hdg (by omega) (by show 2 * 0 + _ + 12 ≤ _; omega) ?_
      exact W.eq (g2 := F0 m (pc + 3) ls rest) rfl (go hr hl hP hD hS)
  case ireturn =>
    obtain ⟨rfl, v, ty, rfl, h1, h2, rfl⟩ := hI
    exact hret _ _ H locs cells slots pc ls _ hF hP hD hS (by omega) (by omega) (Or.inl ⟨hdg, v, ty, rfl, rfl, h1, h2⟩)
  case lreturn =>
    obtain ⟨rfl, v, rfl, h1, rfl⟩ := hI
    exact hret _ _ H locs cells slots pc ls _ hF hP hD hS (by omega) (by omega) (Or.inr (Or.inl ⟨hdg, v, rfl, rfl, h1⟩))
  case return_ =>
    obtain ⟨rfl, rfl, h1, rfl⟩ := hI
    exact hret _ _ H locs cells slots pc ls _ hF hP hD hS (by omega) (by omega) (Or.inr (Or.inr ⟨hdg, rfl, rfl, h1⟩))
  all_goals exact hI.elim
/-- THE BRIDGE: what the small machine does, the machine does -/
theorem MJ.sound {l : Launch} {E : mj_E} {D : va_G} {A : Nat → Prop} {d mc ms : Nat} {cf : mj_C} {Q : Option Value → va_W → Prop} (h : MJ E d mc ms cf Q) : mj_W l E D A d mc ms cf Q := h _ (fun _ _ _ _ _ hF => mj_W.step hF)
end
section
/-! WHAT STANDS AT THE LAW'S START -/
def mj_NW : List Cond := flatC (Jvm.Cond.and given_1 narrow_1)
def mj_kind : List Int32 := [-1, 0, 1, 0, 0, 4, 5]
def mj_bodies : List Int32 := [10, 11, 12, 13, 20, 11, 12, 13, 20, 30, 12, 13, 10, 11, 40, 41, 10, 50, 12, 13, 60, 50, 61, 13, 60, 70, 61, 71]
def mj_tm (i : Nat) : Term := .string (mj_txo i).1 (mj_txo i).2.1
def mj_oktx (i : Nat) : Bool :=
  decide (Cond.exactly (mj_tm i) "java/lang/String" ∈ mj_NW) && decide (Cond.eq (.field (mj_tm i) "java/lang/String" "coder" "B") (.int 0) ∈ mj_NW) && decide (Cond.arrayOf (.field (mj_tm i) "java/lang/String" "value" "[B") .byte ∈ mj_NW) &&
  decide (Cond.eq (.length (.field (mj_tm i) "java/lang/String" "value" "[B")) (.int (Int32.ofNat (mj_txl i))) ∈ mj_NW) && decide (mj_txl i < 100) &&
  (List.range (mj_txl i)).all (fun j => decide (Cond.eq (.elem (.field (mj_tm i) "java/lang/String" "value" "[B") (.int (Int32.ofNat j))) (.int ((mj_txb i).getD j 0)) ∈ mj_NW)) &&
  decide (Cond.stringRef (mj_txo i).1 (mj_txo i).2.1 (mj_txo i).2.2 ∈ lw_tbl)
set_option maxRecDepth 100000 in
theorem mj_chk_tx0 : ((List.range 24).take 8).all mj_oktx = true := by decide +kernel
set_option maxRecDepth 100000 in
theorem mj_chk_tx1 : (((List.range 24).drop 8).take 8).all mj_oktx = true := by decide +kernel
set_option maxRecDepth 100000 in
theorem mj_chk_tx2 : ((List.range 24).drop 16).all mj_oktx = true := by decide +kernel
def mj_okarr (n : String) (L : List Int32) : Bool :=
  decide (Cond.arrayOf (.static "FriarLists" n "[I") .int ∈ mj_NW) && decide (Cond.eq (.length (.static "FriarLists" n "[I")) (.int (Int32.ofNat L.length)) ∈ mj_NW) && decide (L.length < 100) &&
  (List.range L.length).all (fun j => decide (Cond.eq (.elem (.static "FriarLists" n "[I") (.int (Int32.ofNat j))) (.int (L.getD j 0)) ∈ mj_NW)) && decide (Cond.laysStatic "FriarLists" n "[I" ∈ lw_tbl)
set_option maxRecDepth 100000 in
theorem mj_chk_a0 : mj_okarr "KIND_ABOVE" mj_kind = true := by decide +kernel
set_option maxRecDepth 100000 in
theorem mj_chk_a1 : mj_okarr "BODIES" mj_bodies = true := by decide +kernel
set_option maxRecDepth 100000 in
theorem mj_chk_st : Cond.eq (.static "java/lang/String" "COMPACT_STRINGS" "Z") (.int 1) ∈ mj_NW ∧ Cond.isRef (.static "jdk/internal/util/Preconditions" "SIOOBE_FORMATTER" "Ljava/util/function/BiFunction;") ∈ mj_NW ∧ Cond.laysStatic "java/lang/String" "COMPACT_STRINGS" "Z" ∈ lw_tbl ∧ Cond.laysStatic "jdk/internal/util/Preconditions" "SIOOBE_FORMATTER" "Ljava/util/function/BiFunction;" ∈ lw_tbl ∧
    Cond.initialized "java/lang/String" ∈ lw_tbl ∧ Cond.initialized "jdk/internal/util/Preconditions" ∈ lw_tbl ∧ Cond.initialized "FriarLists" ∈ lw_tbl ∧ Cond.arrayClass .int ∈ lw_tbl ∧ Cond.arrayClass .long ∈ lw_tbl ∧ Cond.arrayClass .boolean ∈ lw_tbl := by decide +kernel
set_option maxRecDepth 100000 in
theorem mj_chk_in : (List.range mj_cl.length).all (fun c => match mj_cl[c]? with | some (C, _, N) => decide (lw_tbl[(mj_in.getD c (0, 0)).1]? = some (.instantiable C N)) | none => true) = true := by decide +kernel
section ST
variable {args : Array Value} {s : State} {A : Nat → Prop}
theorem mj_tx_ok {i : Nat} (hi : i < 24) : mj_oktx i = true := by
  have h9 := mj_all_step mj_oktx (List.range 24) 0 8 mj_chk_tx0 (mj_all_step mj_oktx _ 8 8 mj_chk_tx1 mj_chk_tx2)
  exact List.all_eq_true.mp h9 i (by simpa using hi)
theorem mj_arr (hn : ∀ w ∈ mj_NW, w.before args s = true) (hts : ∀ w ∈ lw_tbl, w.before args s = true) (hA : ∀ a : Nat, a < s.heap.size → ¬ A a) {n : String} {L : List Int32} (hk : mj_okarr n L = true) :
    ∃ t : Nat, va_Z "FriarLists" n "[I" (.ref t) A s s.heap ∧ va_T .int t L.length (fun j => .int (L.getD j 0)) A s s.heap := by
  simp only [mj_okarr, Bool.and_eq_true, decide_eq_true_eq, List.all_eq_true, List.mem_range] at hk
  obtain ⟨⟨⟨⟨h1, h2⟩, h3⟩, h4⟩, h5⟩ := hk
  obtain ⟨t, ht, hT⟩ := va_Tof (f := fun j => .int (L.getD j 0)) (by omega) (hn _ h1) (va_eqt (hn _ h2)) (fun j hj => va_eqt (hn _ (h4 j hj))) hA
  exact ⟨t, va_Zof (hts _ h5) (hts _ mj_chk_st.2.2.2.2.2.2.1) ht hA, hT⟩
theorem mj_str (hn : ∀ w ∈ mj_NW, w.before args s = true) (hts : ∀ w ∈ lw_tbl, w.before args s = true) (hA : ∀ a : Nat, a < s.heap.size → ¬ A a) (i : Nat) : ∃ q : Nat × Nat, i < 24 →
    va_O "java/lang/String" q.1 A s s.heap ∧ va_OF "java/lang/String" "coder" "B" (.int 0) q.1 A s s.heap ∧ va_OF "java/lang/String" "value" "[B" (.ref q.2) q.1 A s s.heap ∧ va_T .byte q.2 (mj_txl i) (fun j => .int ((mj_txb i).getD j 0)) A s s.heap ∧
    vk_R (mj_txo i).1 (mj_txo i).2.1 (mj_txo i).2.2 q.1 s := by
  by_cases hi : i < 24
  · have hk := mj_tx_ok hi
    simp only [mj_oktx, Bool.and_eq_true, decide_eq_true_eq, List.all_eq_true, List.mem_range] at hk
    obtain ⟨⟨⟨⟨⟨⟨h1, h2⟩, h3⟩, h4⟩, h5⟩, h6⟩, h7⟩ := hk
    obtain ⟨a, c, cA, kA, q1, q2, q3, q4, q5, q6, -⟩ := Cond.exactly_spec (args := args) (first := s) (o := none) (s := s) (idx := []) (t := mj_tm i) (cls := "java/lang/String") (hn _ h1)
    obtain ⟨t, ht, hT⟩ := va_Tof (f := fun j => .int ((mj_txb i).getD j 0)) (A := A) (by omega) (hn _ h3) (va_eqt (hn _ h4)) (fun j hj => va_eqt (hn _ (h6 j hj))) hA
    exact ⟨(a, t), fun _ => ⟨⟨cA, q3, q5, by rw [q6]; exact q2, hA a (Array.getElem?_eq_some_iff.mp q3).1⟩, vk_OFof q1 (va_eqt (hn _ h2)) hA, vk_OFof q1 ht hA, hT, vk_R.of (hts _ h7) q1⟩⟩
  · exact ⟨(0, 0), fun h => absurd h hi⟩
theorem mj_start (hn : ∀ w ∈ mj_NW, w.before args s = true) (hts : ∀ w ∈ lw_tbl, w.before args s = true) (hA : ∀ a : Nat, a < s.heap.size → ¬ A a) {b L : Nat} {xs : Nat → Int32} (hX : va_X b L xs s s.heap) (hL : L < 2 ^ 31) :
    ∃ (E : mj_E) (D : va_G), mj_RO E A s ∧ va_K D mj_cl (mj_tys E) s ∧ (E.2.2.1 0).2 = (7, fun j => mj_kind.getD j 0) ∧ (E.2.2.1 1).2 = (28, fun j => mj_bodies.getD j 0) ∧ E.2.2.1 2 = (b, L, xs) := by
  obtain ⟨t0, z0, a0⟩ := mj_arr hn hts hA mj_chk_a0
  obtain ⟨t1, z1, a1⟩ := mj_arr hn hts hA mj_chk_a1
  obtain ⟨ad, had⟩ := Classical.axiomOfChoice (mj_str hn hts hA)
  have hz2 : va_Z "java/lang/String" "COMPACT_STRINGS" "Z" (.int 1) A s s.heap := va_Zof (hts _ mj_chk_st.2.2.1) (hts _ mj_chk_st.2.2.2.2.1) (va_eqi (hn _ mj_chk_st.1)) hA
  have hz3 : ∃ v, va_Z "jdk/internal/util/Preconditions" "SIOOBE_FORMATTER" "Ljava/util/function/BiFunction;" v A s s.heap ∧ v.category = 1 := by
    rcases va_Zqof (A := A) (hts _ mj_chk_st.2.2.2.1) (hts _ mj_chk_st.2.2.2.2.2.1) (hn _ mj_chk_st.2.1) hA with h | ⟨t, h⟩
    · exact ⟨.null, h, rfl⟩
    · exact ⟨.ref t, h, rfl⟩
  obtain ⟨fv, hz3, -⟩ := hz3
  have harr : ∀ ty : FieldType, (∀ C, ty ≠ .object C) → Cond.arrayClass ty ∈ lw_tbl → ∃ cA : ClassId, ArrOfT s cA ty ∧ va_RA s cA ty := by
    intro ty hty hw
    obtain ⟨cA, kA, comp, h1, h2, h3⟩ := Cond.arrayClass_spec (hts _ hw)
    refine ⟨cA, fun n z => ⟨fun k h => (by cases h), kA, h2, comp, h3⟩, ?_⟩
    cases ty <;> first | exact h1 | exact absurd rfl (hty _)
  obtain ⟨cI, hI⟩ := harr .int (fun C z => by cases z) mj_chk_st.2.2.2.2.2.2.2.1
  obtain ⟨cL, hLo⟩ := harr .long (fun C z => by cases z) mj_chk_st.2.2.2.2.2.2.2.2.1
  obtain ⟨cZ, hZ⟩ := harr .boolean (fun C z => by cases z) mj_chk_st.2.2.2.2.2.2.2.2.2
  have hcl : ∀ c : Nat, ∃ q : ClassId × (Nat → Nat), ∀ r, mj_cl[c]? = some r → u_Kn s r.1 r.2.1 r.2.2 q.1 q.2 := by
    intro c
    cases hc : mj_cl[c]? with
    | none => exact ⟨(cI, fun _ => 0), fun r h => by cases h⟩
    | some r =>
      obtain ⟨C, T, N⟩ := r
      have h1 := List.all_eq_true.mp mj_chk_in c (by
        have := (List.getElem?_eq_some_iff.mp hc).1
        exact List.mem_range.mpr this)
      rw [hc] at h1
      simp only [decide_eq_true_eq] at h1
      obtain ⟨cC, iS, hK⟩ := u_known (ws := lw_tbl) hts (fun w hw => (List.mem_filter.mp ((mj_cl_use hc).1 w hw)).1) (hts _ (List.mem_of_getElem? h1))
      exact ⟨(cC, iS), fun r h => by cases h; exact hK⟩
  obtain ⟨dq, hdq⟩ := Classical.axiomOfChoice hcl
  refine ⟨(fun i => (ad i).1, fun i => (ad i).2, fun k => match k with | 0 => (t0, 7, fun j => mj_kind.getD j 0) | 1 => (t1, 28, fun j => mj_bodies.getD j 0) | _ => (b, L, xs), fv, cI, cL, cZ), (fun c => (dq c).1, fun c => (dq c).2), ⟨?_, ?_, ?_, ?_, ?_⟩, ⟨fun c q hq => hdq c q hq, ?_⟩, rfl, rfl, rfl⟩
  · intro k hk
    match k, hk with
    | 0, _ => exact z0
    | 1, _ => exact z1
    | 2, _ => exact hz2
    | 3, _ => exact hz3
  · intro k hk
    match k, hk with
    | 0, _ => exact a0
    | 1, _ => exact a1
    | 2, _ =>
      obtain ⟨scr, h1, h2, h3, h4, h5⟩ := hX
      exact ⟨scr, h1, h2, h3, by rw [h4]; exact Nat.le_refl _, by rw [h4]; rfl, h5, hA b (Array.getElem?_eq_some_iff.mp h1).1⟩
  · intro i hi
    obtain ⟨h1, h2, h3, h4, -⟩ := had i hi
    exact ⟨h1, h2, h3, h4⟩
  · intro i hi
    exact (had i hi).2.2.2.2
  · intro w hw
    obtain ⟨h1, h2⟩ := List.mem_filter.mp hw
    exact va_Nw.of (mj_isN.on h2) (hts w h1)
  · intro k q hq
    match k, hq with
    | 0, h => cases h; exact hI
    | 1, h => cases h; exact hLo
    | 2, h => cases h; exact hZ
end ST
end
