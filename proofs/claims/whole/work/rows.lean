section
-- ===== PART A: goes FIRST, ahead of the names: the tables' words, and 'selects' of the private methods out of them =====
/-- a private method of a class that the tables say can be made, by its rows of tables_1 -/
def lw_okq (q : MethodName × Nat) : Prop := (q.1.cls ≠ "java/lang/invoke/MethodHandle" ∧ q.1.cls ≠ "java/lang/invoke/VarHandle") ∧ Cond.instantiable q.1.cls q.2 ∈ tables_1 ∧ Cond.privateMethod q.1 ∈ tables_1 ∧ Cond.instanceMethod q.1 ∈ tables_1
theorem lw_p0 : lw_okq (⟨"SumBounds$Reader", "accepts", "(I)Z"⟩, 7) := ⟨⟨by decide +kernel, by decide +kernel⟩, List.mem_of_getElem? (i := 47) (by decide +kernel), List.mem_of_getElem? (i := 254) (by decide +kernel), List.mem_of_getElem? (i := 255) (by decide +kernel)⟩
theorem lw_p1 : lw_okq (⟨"SumBounds$Reader", "beginsStep", "(I)Z"⟩, 7) := ⟨⟨by decide +kernel, by decide +kernel⟩, List.mem_of_getElem? (i := 47) (by decide +kernel), List.mem_of_getElem? (i := 258) (by decide +kernel), List.mem_of_getElem? (i := 259) (by decide +kernel)⟩
theorem lw_p2 : lw_okq (⟨"SumBounds$Reader", "goesOn", "(I)Z"⟩, 7) := ⟨⟨by decide +kernel, by decide +kernel⟩, List.mem_of_getElem? (i := 47) (by decide +kernel), List.mem_of_getElem? (i := 362) (by decide +kernel), List.mem_of_getElem? (i := 363) (by decide +kernel)⟩
theorem lw_p3 : lw_okq (⟨"SumBounds$Reader", "fits", "(CI)Z"⟩, 7) := ⟨⟨by decide +kernel, by decide +kernel⟩, List.mem_of_getElem? (i := 47) (by decide +kernel), List.mem_of_getElem? (i := 386) (by decide +kernel), List.mem_of_getElem? (i := 387) (by decide +kernel)⟩
theorem lw_p4 : lw_okq (⟨"SumBounds$Reader", "keep", "(CI)V"⟩, 7) := ⟨⟨by decide +kernel, by decide +kernel⟩, List.mem_of_getElem? (i := 47) (by decide +kernel), List.mem_of_getElem? (i := 393) (by decide +kernel), List.mem_of_getElem? (i := 394) (by decide +kernel)⟩
theorem lw_p5 : lw_okq (⟨"SumBounds$Steps", "copyStep", "(II)V"⟩, 5) := ⟨⟨by decide +kernel, by decide +kernel⟩, List.mem_of_getElem? (i := 53) (by decide +kernel), List.mem_of_getElem? (i := 401) (by decide +kernel), List.mem_of_getElem? (i := 402) (by decide +kernel)⟩
theorem lw_p6 : lw_okq (⟨"SumBounds", "runAgain", "()V"⟩, 12) := ⟨⟨by decide +kernel, by decide +kernel⟩, List.mem_of_getElem? (i := 21) (by decide +kernel), List.mem_of_getElem? (i := 421) (by decide +kernel), List.mem_of_getElem? (i := 422) (by decide +kernel)⟩
theorem lw_p7 : lw_okq (⟨"SumBounds$Shape", "setBound", "(III)V"⟩, 2) := ⟨⟨by decide +kernel, by decide +kernel⟩, List.mem_of_getElem? (i := 117) (by decide +kernel), List.mem_of_getElem? (i := 463) (by decide +kernel), List.mem_of_getElem? (i := 464) (by decide +kernel)⟩
theorem lw_p8 : lw_okq (⟨"SumBounds$Shape", "turn", "(I)V"⟩, 2) := ⟨⟨by decide +kernel, by decide +kernel⟩, List.mem_of_getElem? (i := 117) (by decide +kernel), List.mem_of_getElem? (i := 471) (by decide +kernel), List.mem_of_getElem? (i := 472) (by decide +kernel)⟩
theorem lw_p9 : lw_okq (⟨"SumBounds$Shape", "shift", "(II)V"⟩, 2) := ⟨⟨by decide +kernel, by decide +kernel⟩, List.mem_of_getElem? (i := 117) (by decide +kernel), List.mem_of_getElem? (i := 475) (by decide +kernel), List.mem_of_getElem? (i := 476) (by decide +kernel)⟩
theorem lw_p10 : lw_okq (⟨"SumBounds$Shape", "chainBy", "(I)V"⟩, 2) := ⟨⟨by decide +kernel, by decide +kernel⟩, List.mem_of_getElem? (i := 117) (by decide +kernel), List.mem_of_getElem? (i := 490) (by decide +kernel), List.mem_of_getElem? (i := 491) (by decide +kernel)⟩
theorem lw_p11 : lw_okq (⟨"SumBounds", "isStep", "(I)Z"⟩, 12) := ⟨⟨by decide +kernel, by decide +kernel⟩, List.mem_of_getElem? (i := 21) (by decide +kernel), List.mem_of_getElem? (i := 513) (by decide +kernel), List.mem_of_getElem? (i := 514) (by decide +kernel)⟩
theorem lw_p12 : lw_okq (⟨"SumBounds", "isIdle", "(I)Z"⟩, 12) := ⟨⟨by decide +kernel, by decide +kernel⟩, List.mem_of_getElem? (i := 21) (by decide +kernel), List.mem_of_getElem? (i := 531) (by decide +kernel), List.mem_of_getElem? (i := 532) (by decide +kernel)⟩
theorem lw_p13 : lw_okq (⟨"SumBounds", "hasShape", "(I)Z"⟩, 12) := ⟨⟨by decide +kernel, by decide +kernel⟩, List.mem_of_getElem? (i := 21) (by decide +kernel), List.mem_of_getElem? (i := 569) (by decide +kernel), List.mem_of_getElem? (i := 570) (by decide +kernel)⟩
theorem lw_p14 : lw_okq (⟨"SumBounds$Shape", "containsPair", "(II)Z"⟩, 2) := ⟨⟨by decide +kernel, by decide +kernel⟩, List.mem_of_getElem? (i := 117) (by decide +kernel), List.mem_of_getElem? (i := 587) (by decide +kernel), List.mem_of_getElem? (i := 588) (by decide +kernel)⟩
theorem lw_p15 : lw_okq (⟨"SumBounds$Shape", "roomFor", "(III)I"⟩, 2) := ⟨⟨by decide +kernel, by decide +kernel⟩, List.mem_of_getElem? (i := 117) (by decide +kernel), List.mem_of_getElem? (i := 591) (by decide +kernel), List.mem_of_getElem? (i := 592) (by decide +kernel)⟩
def lw_privs_1 : List (MethodName × Nat) := [(⟨"SumBounds$Reader", "accepts", "(I)Z"⟩, 7), (⟨"SumBounds$Reader", "beginsStep", "(I)Z"⟩, 7), (⟨"SumBounds$Reader", "goesOn", "(I)Z"⟩, 7), (⟨"SumBounds$Reader", "fits", "(CI)Z"⟩, 7), (⟨"SumBounds$Reader", "keep", "(CI)V"⟩, 7), (⟨"SumBounds$Steps", "copyStep", "(II)V"⟩, 5), (⟨"SumBounds", "runAgain", "()V"⟩, 12), (⟨"SumBounds$Shape", "setBound", "(III)V"⟩, 2), (⟨"SumBounds$Shape", "turn", "(I)V"⟩, 2), (⟨"SumBounds$Shape", "shift", "(II)V"⟩, 2), (⟨"SumBounds$Shape", "chainBy", "(I)V"⟩, 2), (⟨"SumBounds", "isStep", "(I)Z"⟩, 12), (⟨"SumBounds", "isIdle", "(I)Z"⟩, 12), (⟨"SumBounds", "hasShape", "(I)Z"⟩, 12), (⟨"SumBounds$Shape", "containsPair", "(II)Z"⟩, 2), (⟨"SumBounds$Shape", "roomFor", "(III)I"⟩, 2)]
theorem lw_r1 : ∀ q ∈ lw_privs_1, lw_okq q := List.forall_mem_cons.mpr ⟨lw_p0, List.forall_mem_cons.mpr ⟨lw_p1, List.forall_mem_cons.mpr ⟨lw_p2, List.forall_mem_cons.mpr ⟨lw_p3, List.forall_mem_cons.mpr ⟨lw_p4, List.forall_mem_cons.mpr ⟨lw_p5, List.forall_mem_cons.mpr ⟨lw_p6, List.forall_mem_cons.mpr ⟨lw_p7, List.forall_mem_cons.mpr ⟨lw_p8, List.forall_mem_cons.mpr ⟨lw_p9, List.forall_mem_cons.mpr ⟨lw_p10, List.forall_mem_cons.mpr ⟨lw_p11, List.forall_mem_cons.mpr ⟨lw_p12, List.forall_mem_cons.mpr ⟨lw_p13, List.forall_mem_cons.mpr ⟨lw_p14, List.forall_mem_cons.mpr ⟨lw_p15, fun _ h => absurd h List.not_mem_nil⟩⟩⟩⟩⟩⟩⟩⟩⟩⟩⟩⟩⟩⟩⟩⟩
theorem lw_p16 : lw_okq (⟨"SumBounds$Draws", "draw", "(I)I"⟩, 1) := ⟨⟨by decide +kernel, by decide +kernel⟩, List.mem_of_getElem? (i := 184) (by decide +kernel), List.mem_of_getElem? (i := 695) (by decide +kernel), List.mem_of_getElem? (i := 696) (by decide +kernel)⟩
theorem lw_p17 : lw_okq (⟨"SumBounds", "countDead", "()I"⟩, 12) := ⟨⟨by decide +kernel, by decide +kernel⟩, List.mem_of_getElem? (i := 21) (by decide +kernel), List.mem_of_getElem? (i := 730) (by decide +kernel), List.mem_of_getElem? (i := 731) (by decide +kernel)⟩
theorem lw_p18 : lw_okq (⟨"SumBounds", "countIdle", "()I"⟩, 12) := ⟨⟨by decide +kernel, by decide +kernel⟩, List.mem_of_getElem? (i := 21) (by decide +kernel), List.mem_of_getElem? (i := 734) (by decide +kernel), List.mem_of_getElem? (i := 735) (by decide +kernel)⟩
theorem lw_p19 : lw_okq (⟨"SumBounds", "digestOfSteps", "(J)J"⟩, 12) := ⟨⟨by decide +kernel, by decide +kernel⟩, List.mem_of_getElem? (i := 21) (by decide +kernel), List.mem_of_getElem? (i := 747) (by decide +kernel), List.mem_of_getElem? (i := 748) (by decide +kernel)⟩
theorem lw_p20 : lw_okq (⟨"SumBounds", "digestOfShapes", "(J)J"⟩, 12) := ⟨⟨by decide +kernel, by decide +kernel⟩, List.mem_of_getElem? (i := 21) (by decide +kernel), List.mem_of_getElem? (i := 753) (by decide +kernel), List.mem_of_getElem? (i := 754) (by decide +kernel)⟩
theorem lw_p21 : lw_okq (⟨"SumBoundsModel", "faultOf", "()I"⟩, 29) := ⟨⟨by decide +kernel, by decide +kernel⟩, List.mem_of_getElem? (i := 762) (by decide +kernel), List.mem_of_getElem? (i := 876) (by decide +kernel), List.mem_of_getElem? (i := 877) (by decide +kernel)⟩
theorem lw_p22 : lw_okq (⟨"SumBoundsModel", "isGood", "(I)Z"⟩, 29) := ⟨⟨by decide +kernel, by decide +kernel⟩, List.mem_of_getElem? (i := 762) (by decide +kernel), List.mem_of_getElem? (i := 880) (by decide +kernel), List.mem_of_getElem? (i := 881) (by decide +kernel)⟩
theorem lw_p23 : lw_okq (⟨"SumBoundsModel", "isBegun", "(I)Z"⟩, 29) := ⟨⟨by decide +kernel, by decide +kernel⟩, List.mem_of_getElem? (i := 762) (by decide +kernel), List.mem_of_getElem? (i := 884) (by decide +kernel), List.mem_of_getElem? (i := 885) (by decide +kernel)⟩
theorem lw_p24 : lw_okq (⟨"SumBoundsModel", "isInside", "(I)Z"⟩, 29) := ⟨⟨by decide +kernel, by decide +kernel⟩, List.mem_of_getElem? (i := 762) (by decide +kernel), List.mem_of_getElem? (i := 894) (by decide +kernel), List.mem_of_getElem? (i := 895) (by decide +kernel)⟩
theorem lw_p25 : lw_okq (⟨"SumBoundsModel", "isFirstDigit", "(I)Z"⟩, 29) := ⟨⟨by decide +kernel, by decide +kernel⟩, List.mem_of_getElem? (i := 762) (by decide +kernel), List.mem_of_getElem? (i := 898) (by decide +kernel), List.mem_of_getElem? (i := 899) (by decide +kernel)⟩
theorem lw_p26 : lw_okq (⟨"SumBoundsModel", "isSecondDigit", "(I)Z"⟩, 29) := ⟨⟨by decide +kernel, by decide +kernel⟩, List.mem_of_getElem? (i := 762) (by decide +kernel), List.mem_of_getElem? (i := 905) (by decide +kernel), List.mem_of_getElem? (i := 906) (by decide +kernel)⟩
theorem lw_p27 : lw_okq (⟨"SumBoundsModel", "isSign", "(I)Z"⟩, 29) := ⟨⟨by decide +kernel, by decide +kernel⟩, List.mem_of_getElem? (i := 762) (by decide +kernel), List.mem_of_getElem? (i := 909) (by decide +kernel), List.mem_of_getElem? (i := 910) (by decide +kernel)⟩
theorem lw_p28 : lw_okq (⟨"SumBoundsModel", "isLastDigit", "(I)Z"⟩, 29) := ⟨⟨by decide +kernel, by decide +kernel⟩, List.mem_of_getElem? (i := 762) (by decide +kernel), List.mem_of_getElem? (i := 913) (by decide +kernel), List.mem_of_getElem? (i := 914) (by decide +kernel)⟩
theorem lw_p29 : lw_okq (⟨"SumBoundsModel", "endStep", "()V"⟩, 29) := ⟨⟨by decide +kernel, by decide +kernel⟩, List.mem_of_getElem? (i := 762) (by decide +kernel), List.mem_of_getElem? (i := 918) (by decide +kernel), List.mem_of_getElem? (i := 919) (by decide +kernel)⟩
theorem lw_p30 : lw_okq (⟨"SumBoundsModel", "changed", "()V"⟩, 29) := ⟨⟨by decide +kernel, by decide +kernel⟩, List.mem_of_getElem? (i := 762) (by decide +kernel), List.mem_of_getElem? (i := 929) (by decide +kernel), List.mem_of_getElem? (i := 930) (by decide +kernel)⟩
theorem lw_p31 : lw_okq (⟨"SumBoundsModel", "isPlace", "(I)Z"⟩, 29) := ⟨⟨by decide +kernel, by decide +kernel⟩, List.mem_of_getElem? (i := 762) (by decide +kernel), List.mem_of_getElem? (i := 937) (by decide +kernel), List.mem_of_getElem? (i := 938) (by decide +kernel)⟩
def lw_privs_2 : List (MethodName × Nat) := [(⟨"SumBounds$Draws", "draw", "(I)I"⟩, 1), (⟨"SumBounds", "countDead", "()I"⟩, 12), (⟨"SumBounds", "countIdle", "()I"⟩, 12), (⟨"SumBounds", "digestOfSteps", "(J)J"⟩, 12), (⟨"SumBounds", "digestOfShapes", "(J)J"⟩, 12), (⟨"SumBoundsModel", "faultOf", "()I"⟩, 29), (⟨"SumBoundsModel", "isGood", "(I)Z"⟩, 29), (⟨"SumBoundsModel", "isBegun", "(I)Z"⟩, 29), (⟨"SumBoundsModel", "isInside", "(I)Z"⟩, 29), (⟨"SumBoundsModel", "isFirstDigit", "(I)Z"⟩, 29), (⟨"SumBoundsModel", "isSecondDigit", "(I)Z"⟩, 29), (⟨"SumBoundsModel", "isSign", "(I)Z"⟩, 29), (⟨"SumBoundsModel", "isLastDigit", "(I)Z"⟩, 29), (⟨"SumBoundsModel", "endStep", "()V"⟩, 29), (⟨"SumBoundsModel", "changed", "()V"⟩, 29), (⟨"SumBoundsModel", "isPlace", "(I)Z"⟩, 29)]
theorem lw_r2 : ∀ q ∈ lw_privs_2, lw_okq q := List.forall_mem_cons.mpr ⟨lw_p16, List.forall_mem_cons.mpr ⟨lw_p17, List.forall_mem_cons.mpr ⟨lw_p18, List.forall_mem_cons.mpr ⟨lw_p19, List.forall_mem_cons.mpr ⟨lw_p20, List.forall_mem_cons.mpr ⟨lw_p21, List.forall_mem_cons.mpr ⟨lw_p22, List.forall_mem_cons.mpr ⟨lw_p23, List.forall_mem_cons.mpr ⟨lw_p24, List.forall_mem_cons.mpr ⟨lw_p25, List.forall_mem_cons.mpr ⟨lw_p26, List.forall_mem_cons.mpr ⟨lw_p27, List.forall_mem_cons.mpr ⟨lw_p28, List.forall_mem_cons.mpr ⟨lw_p29, List.forall_mem_cons.mpr ⟨lw_p30, List.forall_mem_cons.mpr ⟨lw_p31, fun _ h => absurd h List.not_mem_nil⟩⟩⟩⟩⟩⟩⟩⟩⟩⟩⟩⟩⟩⟩⟩⟩
theorem lw_p32 : lw_okq (⟨"SumBoundsModel", "lacks", "()Z"⟩, 29) := ⟨⟨by decide +kernel, by decide +kernel⟩, List.mem_of_getElem? (i := 762) (by decide +kernel), List.mem_of_getElem? (i := 941) (by decide +kernel), List.mem_of_getElem? (i := 942) (by decide +kernel)⟩
theorem lw_p33 : lw_okq (⟨"SumBoundsModel", "freshen", "()V"⟩, 29) := ⟨⟨by decide +kernel, by decide +kernel⟩, List.mem_of_getElem? (i := 762) (by decide +kernel), List.mem_of_getElem? (i := 945) (by decide +kernel), List.mem_of_getElem? (i := 946) (by decide +kernel)⟩
theorem lw_p34 : lw_okq (⟨"SumBoundsModel", "kind", "(I)I"⟩, 29) := ⟨⟨by decide +kernel, by decide +kernel⟩, List.mem_of_getElem? (i := 762) (by decide +kernel), List.mem_of_getElem? (i := 949) (by decide +kernel), List.mem_of_getElem? (i := 950) (by decide +kernel)⟩
theorem lw_p35 : lw_okq (⟨"SumBoundsModel", "doLoop", "(I)V"⟩, 29) := ⟨⟨by decide +kernel, by decide +kernel⟩, List.mem_of_getElem? (i := 762) (by decide +kernel), List.mem_of_getElem? (i := 953) (by decide +kernel), List.mem_of_getElem? (i := 954) (by decide +kernel)⟩
theorem lw_p36 : lw_okq (⟨"SumBoundsModel", "one", "(I)I"⟩, 29) := ⟨⟨by decide +kernel, by decide +kernel⟩, List.mem_of_getElem? (i := 762) (by decide +kernel), List.mem_of_getElem? (i := 957) (by decide +kernel), List.mem_of_getElem? (i := 958) (by decide +kernel)⟩
theorem lw_p37 : lw_okq (⟨"SumBoundsModel", "copyShape", "(II)V"⟩, 29) := ⟨⟨by decide +kernel, by decide +kernel⟩, List.mem_of_getElem? (i := 762) (by decide +kernel), List.mem_of_getElem? (i := 961) (by decide +kernel), List.mem_of_getElem? (i := 962) (by decide +kernel)⟩
theorem lw_p38 : lw_okq (⟨"SumBoundsModel", "pointsIn", "(I)I"⟩, 29) := ⟨⟨by decide +kernel, by decide +kernel⟩, List.mem_of_getElem? (i := 762) (by decide +kernel), List.mem_of_getElem? (i := 965) (by decide +kernel), List.mem_of_getElem? (i := 966) (by decide +kernel)⟩
theorem lw_p39 : lw_okq (⟨"SumBoundsModel", "layBounds", "(I[I)V"⟩, 29) := ⟨⟨by decide +kernel, by decide +kernel⟩, List.mem_of_getElem? (i := 762) (by decide +kernel), List.mem_of_getElem? (i := 969) (by decide +kernel), List.mem_of_getElem? (i := 970) (by decide +kernel)⟩
theorem lw_p40 : lw_okq (⟨"SumBoundsModel", "raise", "(I[I)V"⟩, 29) := ⟨⟨by decide +kernel, by decide +kernel⟩, List.mem_of_getElem? (i := 762) (by decide +kernel), List.mem_of_getElem? (i := 973) (by decide +kernel), List.mem_of_getElem? (i := 974) (by decide +kernel)⟩
theorem lw_p41 : lw_okq (⟨"SumBoundsModel", "doAll", "(II)V"⟩, 29) := ⟨⟨by decide +kernel, by decide +kernel⟩, List.mem_of_getElem? (i := 762) (by decide +kernel), List.mem_of_getElem? (i := 977) (by decide +kernel), List.mem_of_getElem? (i := 978) (by decide +kernel)⟩
theorem lw_p42 : lw_okq (⟨"SumBoundsModel", "doStep", "(I)V"⟩, 29) := ⟨⟨by decide +kernel, by decide +kernel⟩, List.mem_of_getElem? (i := 762) (by decide +kernel), List.mem_of_getElem? (i := 981) (by decide +kernel), List.mem_of_getElem? (i := 982) (by decide +kernel)⟩
theorem lw_p43 : lw_okq (⟨"SumBoundsModel", "doPoint", "(III)V"⟩, 29) := ⟨⟨by decide +kernel, by decide +kernel⟩, List.mem_of_getElem? (i := 762) (by decide +kernel), List.mem_of_getElem? (i := 985) (by decide +kernel), List.mem_of_getElem? (i := 986) (by decide +kernel)⟩
theorem lw_p44 : lw_okq (⟨"SumBoundsModel", "signed", "(II)I"⟩, 29) := ⟨⟨by decide +kernel, by decide +kernel⟩, List.mem_of_getElem? (i := 762) (by decide +kernel), List.mem_of_getElem? (i := 989) (by decide +kernel), List.mem_of_getElem? (i := 990) (by decide +kernel)⟩
theorem lw_p45 : lw_okq (⟨"SumBoundsModel", "other", "(I)I"⟩, 29) := ⟨⟨by decide +kernel, by decide +kernel⟩, List.mem_of_getElem? (i := 762) (by decide +kernel), List.mem_of_getElem? (i := 993) (by decide +kernel), List.mem_of_getElem? (i := 994) (by decide +kernel)⟩
theorem lw_p46 : lw_okq (⟨"SumBoundsModel", "number", "(I)I"⟩, 29) := ⟨⟨by decide +kernel, by decide +kernel⟩, List.mem_of_getElem? (i := 762) (by decide +kernel), List.mem_of_getElem? (i := 997) (by decide +kernel), List.mem_of_getElem? (i := 998) (by decide +kernel)⟩
theorem lw_p47 : lw_okq (⟨"SumBoundsModel", "lay", "(II)V"⟩, 29) := ⟨⟨by decide +kernel, by decide +kernel⟩, List.mem_of_getElem? (i := 762) (by decide +kernel), List.mem_of_getElem? (i := 1001) (by decide +kernel), List.mem_of_getElem? (i := 1002) (by decide +kernel)⟩
def lw_privs_3 : List (MethodName × Nat) := [(⟨"SumBoundsModel", "lacks", "()Z"⟩, 29), (⟨"SumBoundsModel", "freshen", "()V"⟩, 29), (⟨"SumBoundsModel", "kind", "(I)I"⟩, 29), (⟨"SumBoundsModel", "doLoop", "(I)V"⟩, 29), (⟨"SumBoundsModel", "one", "(I)I"⟩, 29), (⟨"SumBoundsModel", "copyShape", "(II)V"⟩, 29), (⟨"SumBoundsModel", "pointsIn", "(I)I"⟩, 29), (⟨"SumBoundsModel", "layBounds", "(I[I)V"⟩, 29), (⟨"SumBoundsModel", "raise", "(I[I)V"⟩, 29), (⟨"SumBoundsModel", "doAll", "(II)V"⟩, 29), (⟨"SumBoundsModel", "doStep", "(I)V"⟩, 29), (⟨"SumBoundsModel", "doPoint", "(III)V"⟩, 29), (⟨"SumBoundsModel", "signed", "(II)I"⟩, 29), (⟨"SumBoundsModel", "other", "(I)I"⟩, 29), (⟨"SumBoundsModel", "number", "(I)I"⟩, 29), (⟨"SumBoundsModel", "lay", "(II)V"⟩, 29)]
theorem lw_r3 : ∀ q ∈ lw_privs_3, lw_okq q := List.forall_mem_cons.mpr ⟨lw_p32, List.forall_mem_cons.mpr ⟨lw_p33, List.forall_mem_cons.mpr ⟨lw_p34, List.forall_mem_cons.mpr ⟨lw_p35, List.forall_mem_cons.mpr ⟨lw_p36, List.forall_mem_cons.mpr ⟨lw_p37, List.forall_mem_cons.mpr ⟨lw_p38, List.forall_mem_cons.mpr ⟨lw_p39, List.forall_mem_cons.mpr ⟨lw_p40, List.forall_mem_cons.mpr ⟨lw_p41, List.forall_mem_cons.mpr ⟨lw_p42, List.forall_mem_cons.mpr ⟨lw_p43, List.forall_mem_cons.mpr ⟨lw_p44, List.forall_mem_cons.mpr ⟨lw_p45, List.forall_mem_cons.mpr ⟨lw_p46, List.forall_mem_cons.mpr ⟨lw_p47, fun _ h => absurd h List.not_mem_nil⟩⟩⟩⟩⟩⟩⟩⟩⟩⟩⟩⟩⟩⟩⟩⟩
theorem lw_p48 : lw_okq (⟨"SumBoundsModel", "join", "(III)V"⟩, 29) := ⟨⟨by decide +kernel, by decide +kernel⟩, List.mem_of_getElem? (i := 762) (by decide +kernel), List.mem_of_getElem? (i := 1010) (by decide +kernel), List.mem_of_getElem? (i := 1011) (by decide +kernel)⟩
theorem lw_p49 : lw_okq (⟨"SumBoundsModel", "layBy", "([II)V"⟩, 29) := ⟨⟨by decide +kernel, by decide +kernel⟩, List.mem_of_getElem? (i := 762) (by decide +kernel), List.mem_of_getElem? (i := 1014) (by decide +kernel), List.mem_of_getElem? (i := 1015) (by decide +kernel)⟩
theorem lw_p50 : lw_okq (⟨"SumBoundsModel", "isBy", "([II)Z"⟩, 29) := ⟨⟨by decide +kernel, by decide +kernel⟩, List.mem_of_getElem? (i := 762) (by decide +kernel), List.mem_of_getElem? (i := 1018) (by decide +kernel), List.mem_of_getElem? (i := 1019) (by decide +kernel)⟩
theorem lw_p51 : lw_okq (⟨"SumBoundsModel", "isLike", "(II)Z"⟩, 29) := ⟨⟨by decide +kernel, by decide +kernel⟩, List.mem_of_getElem? (i := 762) (by decide +kernel), List.mem_of_getElem? (i := 1022) (by decide +kernel), List.mem_of_getElem? (i := 1023) (by decide +kernel)⟩
theorem lw_p52 : lw_okq (⟨"SumBoundsModel", "widen", "(Z)V"⟩, 29) := ⟨⟨by decide +kernel, by decide +kernel⟩, List.mem_of_getElem? (i := 762) (by decide +kernel), List.mem_of_getElem? (i := 1026) (by decide +kernel), List.mem_of_getElem? (i := 1027) (by decide +kernel)⟩
theorem lw_p53 : lw_okq (⟨"SumBoundsModel", "boundOf", "(III)I"⟩, 29) := ⟨⟨by decide +kernel, by decide +kernel⟩, List.mem_of_getElem? (i := 762) (by decide +kernel), List.mem_of_getElem? (i := 1031) (by decide +kernel), List.mem_of_getElem? (i := 1032) (by decide +kernel)⟩
theorem lw_p54 : lw_okq (⟨"SumBoundsModel", "boundIn", "(III)I"⟩, 29) := ⟨⟨by decide +kernel, by decide +kernel⟩, List.mem_of_getElem? (i := 762) (by decide +kernel), List.mem_of_getElem? (i := 1035) (by decide +kernel), List.mem_of_getElem? (i := 1036) (by decide +kernel)⟩
theorem lw_p55 : lw_okq (⟨"SumBoundsModel", "compareOf", "(II)I"⟩, 29) := ⟨⟨by decide +kernel, by decide +kernel⟩, List.mem_of_getElem? (i := 762) (by decide +kernel), List.mem_of_getElem? (i := 1066) (by decide +kernel), List.mem_of_getElem? (i := 1067) (by decide +kernel)⟩
theorem lw_p56 : lw_okq (⟨"SumBoundsModel", "isStep", "(I)Z"⟩, 29) := ⟨⟨by decide +kernel, by decide +kernel⟩, List.mem_of_getElem? (i := 762) (by decide +kernel), List.mem_of_getElem? (i := 1074) (by decide +kernel), List.mem_of_getElem? (i := 1075) (by decide +kernel)⟩
theorem lw_p57 : lw_okq (⟨"SumBoundsModel", "tellStep", "(II)I"⟩, 29) := ⟨⟨by decide +kernel, by decide +kernel⟩, List.mem_of_getElem? (i := 762) (by decide +kernel), List.mem_of_getElem? (i := 1078) (by decide +kernel), List.mem_of_getElem? (i := 1079) (by decide +kernel)⟩
theorem lw_p58 : lw_okq (⟨"SumBoundsModel", "dead", "(I)I"⟩, 29) := ⟨⟨by decide +kernel, by decide +kernel⟩, List.mem_of_getElem? (i := 762) (by decide +kernel), List.mem_of_getElem? (i := 1082) (by decide +kernel), List.mem_of_getElem? (i := 1083) (by decide +kernel)⟩
theorem lw_p59 : lw_okq (⟨"SumBoundsModel", "idle", "(I)I"⟩, 29) := ⟨⟨by decide +kernel, by decide +kernel⟩, List.mem_of_getElem? (i := 762) (by decide +kernel), List.mem_of_getElem? (i := 1086) (by decide +kernel), List.mem_of_getElem? (i := 1087) (by decide +kernel)⟩
theorem lw_p60 : lw_okq (⟨"SumBoundsModel", "sortsOf", "(I)I"⟩, 29) := ⟨⟨by decide +kernel, by decide +kernel⟩, List.mem_of_getElem? (i := 762) (by decide +kernel), List.mem_of_getElem? (i := 1090) (by decide +kernel), List.mem_of_getElem? (i := 1091) (by decide +kernel)⟩
theorem lw_p61 : lw_okq (⟨"SumBoundsModel", "askOf", "(I)I"⟩, 29) := ⟨⟨by decide +kernel, by decide +kernel⟩, List.mem_of_getElem? (i := 762) (by decide +kernel), List.mem_of_getElem? (i := 1097) (by decide +kernel), List.mem_of_getElem? (i := 1098) (by decide +kernel)⟩
theorem lw_p62 : lw_okq (⟨"SumBoundsModel", "rackedOf", "(I)I"⟩, 29) := ⟨⟨by decide +kernel, by decide +kernel⟩, List.mem_of_getElem? (i := 762) (by decide +kernel), List.mem_of_getElem? (i := 1134) (by decide +kernel), List.mem_of_getElem? (i := 1135) (by decide +kernel)⟩
theorem lw_p63 : lw_okq (⟨"SumBoundsModel", "drawTest", "()V"⟩, 29) := ⟨⟨by decide +kernel, by decide +kernel⟩, List.mem_of_getElem? (i := 762) (by decide +kernel), List.mem_of_getElem? (i := 1155) (by decide +kernel), List.mem_of_getElem? (i := 1156) (by decide +kernel)⟩
def lw_privs_4 : List (MethodName × Nat) := [(⟨"SumBoundsModel", "join", "(III)V"⟩, 29), (⟨"SumBoundsModel", "layBy", "([II)V"⟩, 29), (⟨"SumBoundsModel", "isBy", "([II)Z"⟩, 29), (⟨"SumBoundsModel", "isLike", "(II)Z"⟩, 29), (⟨"SumBoundsModel", "widen", "(Z)V"⟩, 29), (⟨"SumBoundsModel", "boundOf", "(III)I"⟩, 29), (⟨"SumBoundsModel", "boundIn", "(III)I"⟩, 29), (⟨"SumBoundsModel", "compareOf", "(II)I"⟩, 29), (⟨"SumBoundsModel", "isStep", "(I)Z"⟩, 29), (⟨"SumBoundsModel", "tellStep", "(II)I"⟩, 29), (⟨"SumBoundsModel", "dead", "(I)I"⟩, 29), (⟨"SumBoundsModel", "idle", "(I)I"⟩, 29), (⟨"SumBoundsModel", "sortsOf", "(I)I"⟩, 29), (⟨"SumBoundsModel", "askOf", "(I)I"⟩, 29), (⟨"SumBoundsModel", "rackedOf", "(I)I"⟩, 29), (⟨"SumBoundsModel", "drawTest", "()V"⟩, 29)]
theorem lw_r4 : ∀ q ∈ lw_privs_4, lw_okq q := List.forall_mem_cons.mpr ⟨lw_p48, List.forall_mem_cons.mpr ⟨lw_p49, List.forall_mem_cons.mpr ⟨lw_p50, List.forall_mem_cons.mpr ⟨lw_p51, List.forall_mem_cons.mpr ⟨lw_p52, List.forall_mem_cons.mpr ⟨lw_p53, List.forall_mem_cons.mpr ⟨lw_p54, List.forall_mem_cons.mpr ⟨lw_p55, List.forall_mem_cons.mpr ⟨lw_p56, List.forall_mem_cons.mpr ⟨lw_p57, List.forall_mem_cons.mpr ⟨lw_p58, List.forall_mem_cons.mpr ⟨lw_p59, List.forall_mem_cons.mpr ⟨lw_p60, List.forall_mem_cons.mpr ⟨lw_p61, List.forall_mem_cons.mpr ⟨lw_p62, List.forall_mem_cons.mpr ⟨lw_p63, fun _ h => absurd h List.not_mem_nil⟩⟩⟩⟩⟩⟩⟩⟩⟩⟩⟩⟩⟩⟩⟩⟩
theorem lw_p64 : lw_okq (⟨"SumBoundsModel", "draw", "(I)I"⟩, 29) := ⟨⟨by decide +kernel, by decide +kernel⟩, List.mem_of_getElem? (i := 762) (by decide +kernel), List.mem_of_getElem? (i := 1159) (by decide +kernel), List.mem_of_getElem? (i := 1160) (by decide +kernel)⟩
theorem lw_p65 : lw_okq (⟨"SumBoundsModel", "countOf", "(I)I"⟩, 29) := ⟨⟨by decide +kernel, by decide +kernel⟩, List.mem_of_getElem? (i := 762) (by decide +kernel), List.mem_of_getElem? (i := 1179) (by decide +kernel), List.mem_of_getElem? (i := 1180) (by decide +kernel)⟩
theorem lw_p66 : lw_okq (⟨"SumBoundsModel", "countProgram", "(I)I"⟩, 29) := ⟨⟨by decide +kernel, by decide +kernel⟩, List.mem_of_getElem? (i := 762) (by decide +kernel), List.mem_of_getElem? (i := 1183) (by decide +kernel), List.mem_of_getElem? (i := 1184) (by decide +kernel)⟩
theorem lw_p67 : lw_okq (⟨"SumBoundsModel", "stepsBy", "(I)I"⟩, 29) := ⟨⟨by decide +kernel, by decide +kernel⟩, List.mem_of_getElem? (i := 762) (by decide +kernel), List.mem_of_getElem? (i := 1187) (by decide +kernel), List.mem_of_getElem? (i := 1188) (by decide +kernel)⟩
theorem lw_p68 : lw_okq (⟨"SumBoundsModel", "rackedAll", "()I"⟩, 29) := ⟨⟨by decide +kernel, by decide +kernel⟩, List.mem_of_getElem? (i := 762) (by decide +kernel), List.mem_of_getElem? (i := 1191) (by decide +kernel), List.mem_of_getElem? (i := 1192) (by decide +kernel)⟩
theorem lw_p69 : lw_okq (⟨"SumBoundsModel", "say", "(J)V"⟩, 29) := ⟨⟨by decide +kernel, by decide +kernel⟩, List.mem_of_getElem? (i := 762) (by decide +kernel), List.mem_of_getElem? (i := 1200) (by decide +kernel), List.mem_of_getElem? (i := 1201) (by decide +kernel)⟩
theorem lw_p70 : lw_okq (⟨"SumBoundsModel", "sayPlaces", "()V"⟩, 29) := ⟨⟨by decide +kernel, by decide +kernel⟩, List.mem_of_getElem? (i := 762) (by decide +kernel), List.mem_of_getElem? (i := 1205) (by decide +kernel), List.mem_of_getElem? (i := 1206) (by decide +kernel)⟩
def lw_privs_5 : List (MethodName × Nat) := [(⟨"SumBoundsModel", "draw", "(I)I"⟩, 29), (⟨"SumBoundsModel", "countOf", "(I)I"⟩, 29), (⟨"SumBoundsModel", "countProgram", "(I)I"⟩, 29), (⟨"SumBoundsModel", "stepsBy", "(I)I"⟩, 29), (⟨"SumBoundsModel", "rackedAll", "()I"⟩, 29), (⟨"SumBoundsModel", "say", "(J)V"⟩, 29), (⟨"SumBoundsModel", "sayPlaces", "()V"⟩, 29)]
theorem lw_r5 : ∀ q ∈ lw_privs_5, lw_okq q := List.forall_mem_cons.mpr ⟨lw_p64, List.forall_mem_cons.mpr ⟨lw_p65, List.forall_mem_cons.mpr ⟨lw_p66, List.forall_mem_cons.mpr ⟨lw_p67, List.forall_mem_cons.mpr ⟨lw_p68, List.forall_mem_cons.mpr ⟨lw_p69, List.forall_mem_cons.mpr ⟨lw_p70, fun _ h => absurd h List.not_mem_nil⟩⟩⟩⟩⟩⟩⟩
def lw_privs : List (MethodName × Nat) := lw_privs_1 ++ (lw_privs_2 ++ (lw_privs_3 ++ (lw_privs_4 ++ (lw_privs_5))))
def lw_tbl : List Cond := k2_sels lw_privs ++ tables_1
theorem lw_privs_ok : ∀ q ∈ lw_privs, lw_okq q := by
  show ∀ q ∈ lw_privs_1 ++ (lw_privs_2 ++ (lw_privs_3 ++ (lw_privs_4 ++ (lw_privs_5)))), lw_okq q
  exact List.forall_mem_append.mpr ⟨lw_r1, List.forall_mem_append.mpr ⟨lw_r2, List.forall_mem_append.mpr ⟨lw_r3, List.forall_mem_append.mpr ⟨lw_r4, lw_r5⟩⟩⟩⟩
end
section
/-! ===== BEGIN printed: names, fields, word lists, decode rows ===== -/
def RX0 : String := "SumBounds$Draws"
def TX0 : u_T := fun k => match k with
  | _ => ("SumBounds$Draws", "seed", "I", false)
def tyX0 : Nat → FieldType := fun k => match k with
  | _ => .int
abbrev wsX00 : List Cond := u_ws RX0 TX0 1
theorem nmX0 : ∀ a, a < 1 → ∀ b, b < 1 → a ≠ b → (TX0 a).2.1 ≠ (TX0 b).2.1 := by decide +kernel
theorem tyX0_ok : ∀ k, k < 1 → parseFieldDescriptor (TX0 k).2.2.1 = some (tyX0 k) := by decide +kernel
abbrev cX0_init : ByteArray := prog_2_method_1_code
def yX0_init : MethodName := ⟨RX0, "<init>", "()V"⟩
abbrev cX0_draw : ByteArray := prog_2_method_2_code
def yX0_draw : MethodName := ⟨RX0, "draw", "(I)I"⟩
abbrev cX0_shapeOfFourTests : ByteArray := prog_2_method_3_code
def yX0_shapeOfFourTests : MethodName := ⟨RX0, "shapeOfFourTests", "(LSumBounds$Shape;)V"⟩
def RX1 : String := "SumBounds$Page"
def TX1 : u_T := fun k => match k with
  | 0 => ("SumBounds$Page", "letters", "[I", true)
  | _ => ("SumBounds$Page", "size", "I", false)
def tyX1 : Nat → FieldType := fun k => match k with
  | 0 => .array .int
  | _ => .int
abbrev wsX10 : List Cond := u_ws RX1 TX1 2
theorem nmX1 : ∀ a, a < 2 → ∀ b, b < 2 → a ≠ b → (TX1 a).2.1 ≠ (TX1 b).2.1 := by decide +kernel
theorem tyX1_ok : ∀ k, k < 2 → parseFieldDescriptor (TX1 k).2.2.1 = some (tyX1 k) := by decide +kernel
abbrev cX1_init : ByteArray := prog_3_method_1_code
def yX1_init : MethodName := ⟨RX1, "<init>", "()V"⟩
abbrev cX1_append : ByteArray := prog_3_method_2_code
def yX1_append : MethodName := ⟨RX1, "append", "(I)V"⟩
def RX2 : String := "SumBounds$Racks"
def TX2 : u_T := fun k => match k with
  | 0 => ("SumBounds$Racks", "places", "[I", true)
  | _ => ("SumBounds$Racks", "sizes", "[I", true)
def tyX2 : Nat → FieldType := fun k => match k with
  | 0 => .array .int
  | _ => .array .int
abbrev wsX20 : List Cond := u_ws RX2 TX2 2
theorem nmX2 : ∀ a, a < 2 → ∀ b, b < 2 → a ≠ b → (TX2 a).2.1 ≠ (TX2 b).2.1 := by decide +kernel
theorem tyX2_ok : ∀ k, k < 2 → parseFieldDescriptor (TX2 k).2.2.1 = some (tyX2 k) := by decide +kernel
abbrev cX2_init : ByteArray := prog_4_method_1_code
def yX2_init : MethodName := ⟨RX2, "<init>", "()V"⟩
abbrev cX2_clear : ByteArray := prog_4_method_2_code
def yX2_clear : MethodName := ⟨RX2, "clear", "()V"⟩
abbrev cX2_lay : ByteArray := prog_4_method_3_code
def yX2_lay : MethodName := ⟨RX2, "lay", "(II)I"⟩
abbrev cX2_stepAt : ByteArray := prog_4_method_4_code
def yX2_stepAt : MethodName := ⟨RX2, "stepAt", "(II)I"⟩
abbrev cX2_countAll : ByteArray := prog_4_method_5_code
def yX2_countAll : MethodName := ⟨RX2, "countAll", "()I"⟩
def RX3 : String := "SumBounds$Reader"
def TX3 : u_T := fun k => match k with
  | 0 => ("SumBounds$Reader", "read", "LSumBounds$Steps;", true)
  | 1 => ("SumBounds$Reader", "kind", "I", false)
  | 2 => ("SumBounds$Reader", "place", "I", false)
  | 3 => ("SumBounds$Reader", "first", "I", false)
  | 4 => ("SumBounds$Reader", "second", "I", false)
  | 5 => ("SumBounds$Reader", "number", "I", false)
  | _ => ("SumBounds$Reader", "below", "Z", false)
def tyX3 : Nat → FieldType := fun k => match k with
  | 0 => .object "SumBounds$Steps"
  | 1 => .int
  | 2 => .int
  | 3 => .int
  | 4 => .int
  | 5 => .int
  | _ => .boolean
abbrev wsX30 : List Cond := u_ws RX3 TX3 7
theorem nmX3 : ∀ a, a < 7 → ∀ b, b < 7 → a ≠ b → (TX3 a).2.1 ≠ (TX3 b).2.1 := by decide +kernel
theorem tyX3_ok : ∀ k, k < 7 → parseFieldDescriptor (TX3 k).2.2.1 = some (tyX3 k) := by decide +kernel
abbrev cX3_init : ByteArray := prog_5_method_1_code
def yX3_init : MethodName := ⟨RX3, "<init>", "()V"⟩
abbrev cX3_faultOf : ByteArray := prog_5_method_2_code
def yX3_faultOf : MethodName := ⟨RX3, "faultOf", "(LSumBounds$Page;)I"⟩
abbrev cX3_atAnEnd : ByteArray := prog_5_method_3_code
def yX3_atAnEnd : MethodName := ⟨RX3, "atAnEnd", "()Z"⟩
abbrev cX3_accepts : ByteArray := prog_5_method_4_code
def yX3_accepts : MethodName := ⟨RX3, "accepts", "(I)Z"⟩
abbrev cX3_beginsStep : ByteArray := prog_5_method_5_code
def yX3_beginsStep : MethodName := ⟨RX3, "beginsStep", "(I)Z"⟩
abbrev cX3_goesOn : ByteArray := prog_5_method_6_code
def yX3_goesOn : MethodName := ⟨RX3, "goesOn", "(I)Z"⟩
abbrev cX3_formOf : ByteArray := prog_5_method_7_code
def yX3_formOf : MethodName := ⟨RX3, "formOf", "(I)Ljava/lang/String;"⟩
abbrev cX3_fits : ByteArray := prog_5_method_8_code
def yX3_fits : MethodName := ⟨RX3, "fits", "(CI)Z"⟩
abbrev cX3_keep : ByteArray := prog_5_method_9_code
def yX3_keep : MethodName := ⟨RX3, "keep", "(CI)V"⟩
def RX4 : String := "SumBounds$Run"
def TX4 : u_T := fun k => match k with
  | 0 => ("SumBounds$Run", "ahead", "[LSumBounds$Shape;", true)
  | 1 => ("SumBounds$Run", "counted", "[I", true)
  | 2 => ("SumBounds$Run", "first", "LSumBounds$Shape;", true)
  | 3 => ("SumBounds$Run", "next", "LSumBounds$Shape;", true)
  | 4 => ("SumBounds$Run", "raw", "LSumBounds$Shape;", true)
  | _ => ("SumBounds$Run", "rounds", "I", false)
def tyX4 : Nat → FieldType := fun k => match k with
  | 0 => .array (.object "SumBounds$Shape")
  | 1 => .array .int
  | 2 => .object "SumBounds$Shape"
  | 3 => .object "SumBounds$Shape"
  | 4 => .object "SumBounds$Shape"
  | _ => .int
abbrev wsX40 : List Cond := u_ws RX4 TX4 6
theorem nmX4 : ∀ a, a < 6 → ∀ b, b < 6 → a ≠ b → (TX4 a).2.1 ≠ (TX4 b).2.1 := by decide +kernel
theorem tyX4_ok : ∀ k, k < 6 → parseFieldDescriptor (TX4 k).2.2.1 = some (tyX4 k) := by decide +kernel
abbrev cX4_init : ByteArray := prog_6_method_1_code
def yX4_init : MethodName := ⟨RX4, "<init>", "()V"⟩
abbrev cX4_begin : ByteArray := prog_6_method_2_code
def yX4_begin : MethodName := ⟨RX4, "begin", "()V"⟩
abbrev cX4_doStep : ByteArray := prog_6_method_3_code
def yX4_doStep : MethodName := ⟨RX4, "doStep", "(LSumBounds$Steps;I)V"⟩
abbrev cX4_goRound : ByteArray := prog_6_method_4_code
def yX4_goRound : MethodName := ⟨RX4, "goRound", "(LSumBounds$Steps;II)V"⟩
abbrev cX4_pointsAhead : ByteArray := prog_6_method_5_code
def yX4_pointsAhead : MethodName := ⟨RX4, "pointsAhead", "(I)I"⟩
abbrev cX4_isDead : ByteArray := prog_6_method_6_code
def yX4_isDead : MethodName := ⟨RX4, "isDead", "(I)Z"⟩
abbrev cX4_kills : ByteArray := prog_6_method_7_code
def yX4_kills : MethodName := ⟨RX4, "kills", "(I)Z"⟩
abbrev cX4_changesNothing : ByteArray := prog_6_method_8_code
def yX4_changesNothing : MethodName := ⟨RX4, "changesNothing", "(I)Z"⟩
def RX5 : String := "SumBounds$Seen"
def TX5 : u_T := fun k => match k with
  | 0 => ("SumBounds$Seen", "steps", "[I", true)
  | 1 => ("SumBounds$Seen", "sorts", "[I", true)
  | _ => ("SumBounds$Seen", "size", "I", false)
def tyX5 : Nat → FieldType := fun k => match k with
  | 0 => .array .int
  | 1 => .array .int
  | _ => .int
abbrev wsX50 : List Cond := u_ws RX5 TX5 3
theorem nmX5 : ∀ a, a < 3 → ∀ b, b < 3 → a ≠ b → (TX5 a).2.1 ≠ (TX5 b).2.1 := by decide +kernel
theorem tyX5_ok : ∀ k, k < 3 → parseFieldDescriptor (TX5 k).2.2.1 = some (tyX5 k) := by decide +kernel
abbrev cX5_init : ByteArray := prog_7_method_1_code
def yX5_init : MethodName := ⟨RX5, "<init>", "()V"⟩
abbrev cX5_append : ByteArray := prog_7_method_2_code
def yX5_append : MethodName := ⟨RX5, "append", "(IIZ)V"⟩
abbrev cX5_copy : ByteArray := prog_7_method_3_code
def yX5_copy : MethodName := ⟨RX5, "copy", "(LSumBounds$Seen;)V"⟩
abbrev cX5_sortsOf : ByteArray := prog_7_method_4_code
def yX5_sortsOf : MethodName := ⟨RX5, "sortsOf", "(I)I"⟩
def RX6 : String := "SumBounds$Shape"
def TX6 : u_T := fun k => match k with
  | 0 => ("SumBounds$Shape", "bounds", "[I", true)
  | _ => ("SumBounds$Shape", "empty", "Z", false)
def tyX6 : Nat → FieldType := fun k => match k with
  | 0 => .array .int
  | _ => .boolean
abbrev wsX60 : List Cond := u_ws RX6 TX6 2
theorem nmX6 : ∀ a, a < 2 → ∀ b, b < 2 → a ≠ b → (TX6 a).2.1 ≠ (TX6 b).2.1 := by decide +kernel
theorem tyX6_ok : ∀ k, k < 2 → parseFieldDescriptor (TX6 k).2.2.1 = some (tyX6 k) := by decide +kernel
abbrev cX6_init : ByteArray := prog_8_method_1_code
def yX6_init : MethodName := ⟨RX6, "<init>", "()V"⟩
abbrev cX6_fill : ByteArray := prog_8_method_2_code
def yX6_fill : MethodName := ⟨RX6, "fill", "()V"⟩
abbrev cX6_copy : ByteArray := prog_8_method_3_code
def yX6_copy : MethodName := ⟨RX6, "copy", "(LSumBounds$Shape;)V"⟩
abbrev cX6_boundOf : ByteArray := prog_8_method_4_code
def yX6_boundOf : MethodName := ⟨RX6, "boundOf", "(II)I"⟩
abbrev cX6_setBound : ByteArray := prog_8_method_5_code
def yX6_setBound : MethodName := ⟨RX6, "setBound", "(III)V"⟩
abbrev cX6_limit : ByteArray := prog_8_method_6_code
def yX6_limit : MethodName := ⟨RX6, "limit", "(III)V"⟩
abbrev cX6_close : ByteArray := prog_8_method_7_code
def yX6_close : MethodName := ⟨RX6, "close", "()V"⟩
abbrev cX6_chainBy : ByteArray := prog_8_method_8_code
def yX6_chainBy : MethodName := ⟨RX6, "chainBy", "(I)V"⟩
abbrev cX6_lose : ByteArray := prog_8_method_9_code
def yX6_lose : MethodName := ⟨RX6, "lose", "(I)V"⟩
abbrev cX6_assign : ByteArray := prog_8_method_10_code
def yX6_assign : MethodName := ⟨RX6, "assign", "(III)V"⟩
abbrev cX6_turn : ByteArray := prog_8_method_11_code
def yX6_turn : MethodName := ⟨RX6, "turn", "(I)V"⟩
abbrev cX6_shift : ByteArray := prog_8_method_12_code
def yX6_shift : MethodName := ⟨RX6, "shift", "(II)V"⟩
abbrev cX6_join : ByteArray := prog_8_method_13_code
def yX6_join : MethodName := ⟨RX6, "join", "(LSumBounds$Shape;)V"⟩
abbrev cX6_meet : ByteArray := prog_8_method_14_code
def yX6_meet : MethodName := ⟨RX6, "meet", "(LSumBounds$Shape;)V"⟩
abbrev cX6_widen : ByteArray := prog_8_method_15_code
def yX6_widen : MethodName := ⟨RX6, "widen", "(LSumBounds$Shape;)V"⟩
abbrev cX6_isWithin : ByteArray := prog_8_method_16_code
def yX6_isWithin : MethodName := ⟨RX6, "isWithin", "(LSumBounds$Shape;)Z"⟩
abbrev cX6_contains : ByteArray := prog_8_method_17_code
def yX6_contains : MethodName := ⟨RX6, "contains", "(III)Z"⟩
abbrev cX6_countPoints : ByteArray := prog_8_method_18_code
def yX6_countPoints : MethodName := ⟨RX6, "countPoints", "()I"⟩
abbrev cX6_containsPair : ByteArray := prog_8_method_19_code
def yX6_containsPair : MethodName := ⟨RX6, "containsPair", "(II)Z"⟩
abbrev cX6_roomFor : ByteArray := prog_8_method_20_code
def yX6_roomFor : MethodName := ⟨RX6, "roomFor", "(III)I"⟩
def RX7 : String := "SumBounds$Steps"
def TX7 : u_T := fun k => match k with
  | 0 => ("SumBounds$Steps", "kinds", "[I", true)
  | 1 => ("SumBounds$Steps", "firsts", "[I", true)
  | 2 => ("SumBounds$Steps", "seconds", "[I", true)
  | 3 => ("SumBounds$Steps", "numbers", "[I", true)
  | _ => ("SumBounds$Steps", "size", "I", false)
def tyX7 : Nat → FieldType := fun k => match k with
  | 0 => .array .int
  | 1 => .array .int
  | 2 => .array .int
  | 3 => .array .int
  | _ => .int
abbrev wsX70 : List Cond := u_ws RX7 TX7 5
theorem nmX7 : ∀ a, a < 5 → ∀ b, b < 5 → a ≠ b → (TX7 a).2.1 ≠ (TX7 b).2.1 := by decide +kernel
theorem tyX7_ok : ∀ k, k < 5 → parseFieldDescriptor (TX7 k).2.2.1 = some (tyX7 k) := by decide +kernel
abbrev cX7_init : ByteArray := prog_9_method_1_code
def yX7_init : MethodName := ⟨RX7, "<init>", "()V"⟩
abbrev cX7_copy : ByteArray := prog_9_method_2_code
def yX7_copy : MethodName := ⟨RX7, "copy", "(LSumBounds$Steps;)V"⟩
abbrev cX7_insert : ByteArray := prog_9_method_3_code
def yX7_insert : MethodName := ⟨RX7, "insert", "(IIIII)V"⟩
abbrev cX7_remove : ByteArray := prog_9_method_4_code
def yX7_remove : MethodName := ⟨RX7, "remove", "(I)V"⟩
abbrev cX7_copyStep : ByteArray := prog_9_method_5_code
def yX7_copyStep : MethodName := ⟨RX7, "copyStep", "(II)V"⟩
abbrev cX7_isAllOfALoop : ByteArray := prog_9_method_6_code
def yX7_isAllOfALoop : MethodName := ⟨RX7, "isAllOfALoop", "(I)Z"⟩
abbrev cX7_behindLastLoop : ByteArray := prog_9_method_7_code
def yX7_behindLastLoop : MethodName := ⟨RX7, "behindLastLoop", "()I"⟩
abbrev cX7_countLoops : ByteArray := prog_9_method_8_code
def yX7_countLoops : MethodName := ⟨RX7, "countLoops", "()I"⟩
def RX8 : String := "SumBounds"
def TX8 : u_T := fun k => match k with
  | 0 => ("SumBounds", "page", "LSumBounds$Page;", true)
  | 1 => ("SumBounds", "reader", "LSumBounds$Reader;", true)
  | 2 => ("SumBounds", "steps", "LSumBounds$Steps;", true)
  | 3 => ("SumBounds", "run", "LSumBounds$Run;", true)
  | 4 => ("SumBounds", "racks", "LSumBounds$Racks;", true)
  | 5 => ("SumBounds", "seen", "LSumBounds$Seen;", true)
  | 6 => ("SumBounds", "imageSteps", "LSumBounds$Steps;", true)
  | 7 => ("SumBounds", "imageSeen", "LSumBounds$Seen;", true)
  | 8 => ("SumBounds", "draws", "LSumBounds$Draws;", true)
  | 9 => ("SumBounds", "scratch", "LSumBounds$Shape;", true)
  | 10 => ("SumBounds", "imageKept", "Z", false)
  | _ => ("SumBounds", "readings", "I", false)
def tyX8 : Nat → FieldType := fun k => match k with
  | 0 => .object "SumBounds$Page"
  | 1 => .object "SumBounds$Reader"
  | 2 => .object "SumBounds$Steps"
  | 3 => .object "SumBounds$Run"
  | 4 => .object "SumBounds$Racks"
  | 5 => .object "SumBounds$Seen"
  | 6 => .object "SumBounds$Steps"
  | 7 => .object "SumBounds$Seen"
  | 8 => .object "SumBounds$Draws"
  | 9 => .object "SumBounds$Shape"
  | 10 => .boolean
  | _ => .int
abbrev wsX80 : List Cond := u_ws RX8 TX8 12
theorem nmX8 : ∀ a, a < 12 → ∀ b, b < 12 → a ≠ b → (TX8 a).2.1 ≠ (TX8 b).2.1 := by decide +kernel
theorem tyX8_ok : ∀ k, k < 12 → parseFieldDescriptor (TX8 k).2.2.1 = some (tyX8 k) := by decide +kernel
abbrev cX8_init : ByteArray := prog_1_method_1_code
def yX8_init : MethodName := ⟨RX8, "<init>", "()V"⟩
abbrev cX8_letter : ByteArray := prog_1_method_2_code
def yX8_letter : MethodName := ⟨RX8, "letter", "(I)I"⟩
abbrev cX8_blank : ByteArray := prog_1_method_3_code
def yX8_blank : MethodName := ⟨RX8, "blank", "()I"⟩
abbrev cX8_fault : ByteArray := prog_1_method_4_code
def yX8_fault : MethodName := ⟨RX8, "fault", "()I"⟩
abbrev cX8_program : ByteArray := prog_1_method_5_code
def yX8_program : MethodName := ⟨RX8, "program", "()I"⟩
abbrev cX8_step : ByteArray := prog_1_method_6_code
def yX8_step : MethodName := ⟨RX8, "step", "(II)I"⟩
abbrev cX8_as : ByteArray := prog_1_method_7_code
def yX8_as : MethodName := ⟨RX8, "as", "(II)I"⟩
abbrev cX8_bound : ByteArray := prog_1_method_8_code
def yX8_bound : MethodName := ⟨RX8, "bound", "(III)I"⟩
abbrev cX8_points : ByteArray := prog_1_method_9_code
def yX8_points : MethodName := ⟨RX8, "points", "(I)I"⟩
abbrev cX8_has : ByteArray := prog_1_method_10_code
def yX8_has : MethodName := ⟨RX8, "has", "(IIII)I"⟩
abbrev cX8_share : ByteArray := prog_1_method_11_code
def yX8_share : MethodName := ⟨RX8, "share", "(I)J"⟩
abbrev cX8_compare : ByteArray := prog_1_method_12_code
def yX8_compare : MethodName := ⟨RX8, "compare", "(II)I"⟩
abbrev cX8_put : ByteArray := prog_1_method_13_code
def yX8_put : MethodName := ⟨RX8, "put", "(IIIII)I"⟩
abbrev cX8_take : ByteArray := prog_1_method_14_code
def yX8_take : MethodName := ⟨RX8, "take", "(I)I"⟩
abbrev cX8_by : ByteArray := prog_1_method_15_code
def yX8_by : MethodName := ⟨RX8, "by", "(II)I"⟩
abbrev cX8_rack : ByteArray := prog_1_method_16_code
def yX8_rack : MethodName := ⟨RX8, "rack", "(II)I"⟩
abbrev cX8_racked : ByteArray := prog_1_method_17_code
def yX8_racked : MethodName := ⟨RX8, "racked", "(II)I"⟩
abbrev cX8_see : ByteArray := prog_1_method_18_code
def yX8_see : MethodName := ⟨RX8, "see", "(IIZ)I"⟩
abbrev cX8_forget : ByteArray := prog_1_method_19_code
def yX8_forget : MethodName := ⟨RX8, "forget", "()I"⟩
abbrev cX8_drawn : ByteArray := prog_1_method_20_code
def yX8_drawn : MethodName := ⟨RX8, "drawn", "(III)I"⟩
abbrev cX8_image : ByteArray := prog_1_method_21_code
def yX8_image : MethodName := ⟨RX8, "image", "()I"⟩
abbrev cX8_restore : ByteArray := prog_1_method_22_code
def yX8_restore : MethodName := ⟨RX8, "restore", "()I"⟩
abbrev cX8_count : ByteArray := prog_1_method_23_code
def yX8_count : MethodName := ⟨RX8, "count", "(I)I"⟩
abbrev cX8_digest : ByteArray := prog_1_method_24_code
def yX8_digest : MethodName := ⟨RX8, "digest", "()J"⟩
abbrev cX8_digestOfSteps : ByteArray := prog_1_method_25_code
def yX8_digestOfSteps : MethodName := ⟨RX8, "digestOfSteps", "(J)J"⟩
abbrev cX8_digestOfShapes : ByteArray := prog_1_method_26_code
def yX8_digestOfShapes : MethodName := ⟨RX8, "digestOfShapes", "(J)J"⟩
abbrev cX8_runAgain : ByteArray := prog_1_method_27_code
def yX8_runAgain : MethodName := ⟨RX8, "runAgain", "()V"⟩
abbrev cX8_isStep : ByteArray := prog_1_method_28_code
def yX8_isStep : MethodName := ⟨RX8, "isStep", "(I)Z"⟩
abbrev cX8_hasShape : ByteArray := prog_1_method_29_code
def yX8_hasShape : MethodName := ⟨RX8, "hasShape", "(I)Z"⟩
abbrev cX8_isIdle : ByteArray := prog_1_method_30_code
def yX8_isIdle : MethodName := ⟨RX8, "isIdle", "(I)Z"⟩
abbrev cX8_countDead : ByteArray := prog_1_method_31_code
def yX8_countDead : MethodName := ⟨RX8, "countDead", "()I"⟩
abbrev cX8_countIdle : ByteArray := prog_1_method_32_code
def yX8_countIdle : MethodName := ⟨RX8, "countIdle", "()I"⟩
abbrev cX8_canBePut : ByteArray := prog_1_method_33_code
def yX8_canBePut : MethodName := ⟨RX8, "canBePut", "(IIII)Z"⟩
abbrev cX8_isKind : ByteArray := prog_1_method_34_code
def yX8_isKind : MethodName := ⟨RX8, "isKind", "(I)Z"⟩
abbrev cX8_isSigned : ByteArray := prog_1_method_35_code
def yX8_isSigned : MethodName := ⟨RX8, "isSigned", "(I)Z"⟩
abbrev cX8_isNumber : ByteArray := prog_1_method_36_code
def yX8_isNumber : MethodName := ⟨RX8, "isNumber", "(I)Z"⟩
abbrev cX8_isBy : ByteArray := prog_1_method_37_code
def yX8_isBy : MethodName := ⟨RX8, "isBy", "(I)Z"⟩
abbrev cX8_hasSecond : ByteArray := prog_1_method_38_code
def yX8_hasSecond : MethodName := ⟨RX8, "hasSecond", "(I)Z"⟩
abbrev cX8_hasNumber : ByteArray := prog_1_method_39_code
def yX8_hasNumber : MethodName := ⟨RX8, "hasNumber", "(I)Z"⟩
abbrev cX8_isSuch : ByteArray := prog_1_method_40_code
def yX8_isSuch : MethodName := ⟨RX8, "isSuch", "(II)Z"⟩
abbrev cX8_asInt : ByteArray := prog_1_method_41_code
def yX8_asInt : MethodName := ⟨RX8, "asInt", "(Z)I"⟩
abbrev cX8_questionFor : ByteArray := prog_1_method_42_code
def yX8_questionFor : MethodName := ⟨RX8, "questionFor", "(I)I"⟩
abbrev cX8_shareBits : ByteArray := prog_1_method_43_code
def yX8_shareBits : MethodName := ⟨RX8, "shareBits", "(I)J"⟩
def RX9 : String := "SumBoundsModel"
def TX9 : u_T := fun k => match k with
  | 0 => ("SumBoundsModel", "page", "[I", true)
  | 1 => ("SumBoundsModel", "pageMany", "I", false)
  | 2 => ("SumBoundsModel", "readMany", "I", false)
  | 3 => ("SumBoundsModel", "readHere", "I", false)
  | 4 => ("SumBoundsModel", "readKind", "I", false)
  | 5 => ("SumBoundsModel", "readFree", "I", false)
  | 6 => ("SumBoundsModel", "readSign", "I", false)
  | 7 => ("SumBoundsModel", "readSteps", "[I", true)
  | 8 => ("SumBoundsModel", "many", "I", false)
  | 9 => ("SumBoundsModel", "programsRead", "I", false)
  | 10 => ("SumBoundsModel", "steps", "[I", true)
  | 11 => ("SumBoundsModel", "old", "Z", false)
  | 12 => ("SumBoundsModel", "shapes", "[I", true)
  | 13 => ("SumBoundsModel", "signedAt", "[I", true)
  | 14 => ("SumBoundsModel", "bounds", "[I", true)
  | 15 => ("SumBoundsModel", "otherBounds", "[I", true)
  | 16 => ("SumBoundsModel", "raw", "[I", true)
  | 17 => ("SumBoundsModel", "rounds", "I", false)
  | 18 => ("SumBoundsModel", "told", "[I", true)
  | 19 => ("SumBoundsModel", "racks", "[I", true)
  | 20 => ("SumBoundsModel", "seenMany", "I", false)
  | 21 => ("SumBoundsModel", "sights", "[I", true)
  | 22 => ("SumBoundsModel", "seedNow", "I", false)
  | 23 => ("SumBoundsModel", "keptProgram", "I", false)
  | 24 => ("SumBoundsModel", "keptMany", "I", false)
  | 25 => ("SumBoundsModel", "keptSeen", "I", false)
  | 26 => ("SumBoundsModel", "keptSteps", "[I", true)
  | 27 => ("SumBoundsModel", "keptSights", "[I", true)
  | _ => ("SumBoundsModel", "hash", "J", false)
def tyX9 : Nat → FieldType := fun k => match k with
  | 0 => .array .int
  | 1 => .int
  | 2 => .int
  | 3 => .int
  | 4 => .int
  | 5 => .int
  | 6 => .int
  | 7 => .array .int
  | 8 => .int
  | 9 => .int
  | 10 => .array .int
  | 11 => .boolean
  | 12 => .array .int
  | 13 => .array .int
  | 14 => .array .int
  | 15 => .array .int
  | 16 => .array .int
  | 17 => .int
  | 18 => .array .int
  | 19 => .array .int
  | 20 => .int
  | 21 => .array .int
  | 22 => .int
  | 23 => .int
  | 24 => .int
  | 25 => .int
  | 26 => .array .int
  | 27 => .array .int
  | _ => .long
abbrev wsX90 : List Cond := u_ws RX9 TX9 29
theorem nmX9 : ∀ a, a < 29 → ∀ b, b < 29 → a ≠ b → (TX9 a).2.1 ≠ (TX9 b).2.1 := by decide +kernel
theorem tyX9_ok : ∀ k, k < 29 → parseFieldDescriptor (TX9 k).2.2.1 = some (tyX9 k) := by decide +kernel
abbrev cX9_init : ByteArray := prog_11_method_1_code
def yX9_init : MethodName := ⟨RX9, "<init>", "()V"⟩
abbrev cX9_in : ByteArray := prog_11_method_2_code
def yX9_in : MethodName := ⟨RX9, "in", "(JJJ)Z"⟩
abbrev cX9_copy : ByteArray := prog_11_method_3_code
def yX9_copy : MethodName := ⟨RX9, "copy", "([I[I)V"⟩
abbrev cX9_letter : ByteArray := prog_11_method_4_code
def yX9_letter : MethodName := ⟨RX9, "letter", "(I)I"⟩
abbrev cX9_blank : ByteArray := prog_11_method_5_code
def yX9_blank : MethodName := ⟨RX9, "blank", "()I"⟩
abbrev cX9_kindBy : ByteArray := prog_11_method_6_code
def yX9_kindBy : MethodName := ⟨RX9, "kindBy", "(I)I"⟩
abbrev cX9_longOf : ByteArray := prog_11_method_7_code
def yX9_longOf : MethodName := ⟨RX9, "longOf", "(I)I"⟩
abbrev cX9_isBegun : ByteArray := prog_11_method_8_code
def yX9_isBegun : MethodName := ⟨RX9, "isBegun", "(I)Z"⟩
abbrev cX9_endStep : ByteArray := prog_11_method_9_code
def yX9_endStep : MethodName := ⟨RX9, "endStep", "()V"⟩
abbrev cX9_isFirstDigit : ByteArray := prog_11_method_10_code
def yX9_isFirstDigit : MethodName := ⟨RX9, "isFirstDigit", "(I)Z"⟩
abbrev cX9_isSecondDigit : ByteArray := prog_11_method_11_code
def yX9_isSecondDigit : MethodName := ⟨RX9, "isSecondDigit", "(I)Z"⟩
abbrev cX9_isSign : ByteArray := prog_11_method_12_code
def yX9_isSign : MethodName := ⟨RX9, "isSign", "(I)Z"⟩
abbrev cX9_isLastDigit : ByteArray := prog_11_method_13_code
def yX9_isLastDigit : MethodName := ⟨RX9, "isLastDigit", "(I)Z"⟩
abbrev cX9_isInside : ByteArray := prog_11_method_14_code
def yX9_isInside : MethodName := ⟨RX9, "isInside", "(I)Z"⟩
abbrev cX9_isGood : ByteArray := prog_11_method_15_code
def yX9_isGood : MethodName := ⟨RX9, "isGood", "(I)Z"⟩
abbrev cX9_faultOf : ByteArray := prog_11_method_16_code
def yX9_faultOf : MethodName := ⟨RX9, "faultOf", "()I"⟩
abbrev cX9_fault : ByteArray := prog_11_method_17_code
def yX9_fault : MethodName := ⟨RX9, "fault", "()I"⟩
abbrev cX9_program : ByteArray := prog_11_method_18_code
def yX9_program : MethodName := ⟨RX9, "program", "()I"⟩
abbrev cX9_changed : ByteArray := prog_11_method_19_code
def yX9_changed : MethodName := ⟨RX9, "changed", "()V"⟩
abbrev cX9_lacks : ByteArray := prog_11_method_20_code
def yX9_lacks : MethodName := ⟨RX9, "lacks", "()Z"⟩
abbrev cX9_isStep : ByteArray := prog_11_method_21_code
def yX9_isStep : MethodName := ⟨RX9, "isStep", "(I)Z"⟩
abbrev cX9_kind : ByteArray := prog_11_method_22_code
def yX9_kind : MethodName := ⟨RX9, "kind", "(I)I"⟩
abbrev cX9_one : ByteArray := prog_11_method_23_code
def yX9_one : MethodName := ⟨RX9, "one", "(I)I"⟩
abbrev cX9_other : ByteArray := prog_11_method_24_code
def yX9_other : MethodName := ⟨RX9, "other", "(I)I"⟩
abbrev cX9_number : ByteArray := prog_11_method_25_code
def yX9_number : MethodName := ⟨RX9, "number", "(I)I"⟩
abbrev cX9_value : ByteArray := prog_11_method_26_code
def yX9_value : MethodName := ⟨RX9, "value", "(II)I"⟩
abbrev cX9_signed : ByteArray := prog_11_method_27_code
def yX9_signed : MethodName := ⟨RX9, "signed", "(II)I"⟩
abbrev cX9_pointOf : ByteArray := prog_11_method_28_code
def yX9_pointOf : MethodName := ⟨RX9, "pointOf", "(III)I"⟩
abbrev cX9_withValue : ByteArray := prog_11_method_29_code
def yX9_withValue : MethodName := ⟨RX9, "withValue", "(III)I"⟩
abbrev cX9_pointsIn : ByteArray := prog_11_method_30_code
def yX9_pointsIn : MethodName := ⟨RX9, "pointsIn", "(I)I"⟩
abbrev cX9_lay : ByteArray := prog_11_method_31_code
def yX9_lay : MethodName := ⟨RX9, "lay", "(II)V"⟩
abbrev cX9_doPoint : ByteArray := prog_11_method_32_code
def yX9_doPoint : MethodName := ⟨RX9, "doPoint", "(III)V"⟩
abbrev cX9_doStep : ByteArray := prog_11_method_33_code
def yX9_doStep : MethodName := ⟨RX9, "doStep", "(I)V"⟩
abbrev cX9_boundIn : ByteArray := prog_11_method_34_code
def yX9_boundIn : MethodName := ⟨RX9, "boundIn", "(III)I"⟩
abbrev cX9_raise : ByteArray := prog_11_method_35_code
def yX9_raise : MethodName := ⟨RX9, "raise", "(I[I)V"⟩
abbrev cX9_layBounds : ByteArray := prog_11_method_36_code
def yX9_layBounds : MethodName := ⟨RX9, "layBounds", "(I[I)V"⟩
abbrev cX9_isBy : ByteArray := prog_11_method_37_code
def yX9_isBy : MethodName := ⟨RX9, "isBy", "([II)Z"⟩
abbrev cX9_layBy : ByteArray := prog_11_method_38_code
def yX9_layBy : MethodName := ⟨RX9, "layBy", "([II)V"⟩
abbrev cX9_copyShape : ByteArray := prog_11_method_39_code
def yX9_copyShape : MethodName := ⟨RX9, "copyShape", "(II)V"⟩
abbrev cX9_join : ByteArray := prog_11_method_40_code
def yX9_join : MethodName := ⟨RX9, "join", "(III)V"⟩
abbrev cX9_isLike : ByteArray := prog_11_method_41_code
def yX9_isLike : MethodName := ⟨RX9, "isLike", "(II)Z"⟩
abbrev cX9_doAll : ByteArray := prog_11_method_42_code
def yX9_doAll : MethodName := ⟨RX9, "doAll", "(II)V"⟩
abbrev cX9_widen : ByteArray := prog_11_method_43_code
def yX9_widen : MethodName := ⟨RX9, "widen", "(Z)V"⟩
abbrev cX9_doLoop : ByteArray := prog_11_method_44_code
def yX9_doLoop : MethodName := ⟨RX9, "doLoop", "(I)V"⟩
abbrev cX9_freshen : ByteArray := prog_11_method_45_code
def yX9_freshen : MethodName := ⟨RX9, "freshen", "()V"⟩
abbrev cX9_isPlace : ByteArray := prog_11_method_46_code
def yX9_isPlace : MethodName := ⟨RX9, "isPlace", "(I)Z"⟩
abbrev cX9_boundOf : ByteArray := prog_11_method_47_code
def yX9_boundOf : MethodName := ⟨RX9, "boundOf", "(III)I"⟩
abbrev cX9_bound : ByteArray := prog_11_method_48_code
def yX9_bound : MethodName := ⟨RX9, "bound", "(III)I"⟩
abbrev cX9_points : ByteArray := prog_11_method_49_code
def yX9_points : MethodName := ⟨RX9, "points", "(I)I"⟩
abbrev cX9_has : ByteArray := prog_11_method_50_code
def yX9_has : MethodName := ⟨RX9, "has", "(IIII)I"⟩
abbrev cX9_bitsOf : ByteArray := prog_11_method_51_code
def yX9_bitsOf : MethodName := ⟨RX9, "bitsOf", "(I)J"⟩
abbrev cX9_share : ByteArray := prog_11_method_52_code
def yX9_share : MethodName := ⟨RX9, "share", "(I)J"⟩
abbrev cX9_compareOf : ByteArray := prog_11_method_53_code
def yX9_compareOf : MethodName := ⟨RX9, "compareOf", "(II)I"⟩
abbrev cX9_compare : ByteArray := prog_11_method_54_code
def yX9_compare : MethodName := ⟨RX9, "compare", "(II)I"⟩
abbrev cX9_dead : ByteArray := prog_11_method_55_code
def yX9_dead : MethodName := ⟨RX9, "dead", "(I)I"⟩
abbrev cX9_idle : ByteArray := prog_11_method_56_code
def yX9_idle : MethodName := ⟨RX9, "idle", "(I)I"⟩
abbrev cX9_tellStep : ByteArray := prog_11_method_57_code
def yX9_tellStep : MethodName := ⟨RX9, "tellStep", "(II)I"⟩
abbrev cX9_step : ByteArray := prog_11_method_58_code
def yX9_step : MethodName := ⟨RX9, "step", "(II)I"⟩
abbrev cX9_isOf : ByteArray := prog_11_method_59_code
def yX9_isOf : MethodName := ⟨RX9, "isOf", "(II)Z"⟩
abbrev cX9_as : ByteArray := prog_11_method_60_code
def yX9_as : MethodName := ⟨RX9, "as", "(II)I"⟩
abbrev cX9_isAsTold : ByteArray := prog_11_method_61_code
def yX9_isAsTold : MethodName := ⟨RX9, "isAsTold", "(IIII)Z"⟩
abbrev cX9_put : ByteArray := prog_11_method_62_code
def yX9_put : MethodName := ⟨RX9, "put", "(IIIII)I"⟩
abbrev cX9_take : ByteArray := prog_11_method_63_code
def yX9_take : MethodName := ⟨RX9, "take", "(I)I"⟩
abbrev cX9_by : ByteArray := prog_11_method_64_code
def yX9_by : MethodName := ⟨RX9, "by", "(II)I"⟩
abbrev cX9_rackedOf : ByteArray := prog_11_method_65_code
def yX9_rackedOf : MethodName := ⟨RX9, "rackedOf", "(I)I"⟩
abbrev cX9_rack : ByteArray := prog_11_method_66_code
def yX9_rack : MethodName := ⟨RX9, "rack", "(II)I"⟩
abbrev cX9_racked : ByteArray := prog_11_method_67_code
def yX9_racked : MethodName := ⟨RX9, "racked", "(II)I"⟩
abbrev cX9_see : ByteArray := prog_11_method_68_code
def yX9_see : MethodName := ⟨RX9, "see", "(IIZ)I"⟩
abbrev cX9_forget : ByteArray := prog_11_method_69_code
def yX9_forget : MethodName := ⟨RX9, "forget", "()I"⟩
abbrev cX9_sortsBy : ByteArray := prog_11_method_70_code
def yX9_sortsBy : MethodName := ⟨RX9, "sortsBy", "(I)I"⟩
abbrev cX9_sortsOf : ByteArray := prog_11_method_71_code
def yX9_sortsOf : MethodName := ⟨RX9, "sortsOf", "(I)I"⟩
abbrev cX9_ones : ByteArray := prog_11_method_72_code
def yX9_ones : MethodName := ⟨RX9, "ones", "(I)I"⟩
abbrev cX9_askOf : ByteArray := prog_11_method_73_code
def yX9_askOf : MethodName := ⟨RX9, "askOf", "(I)I"⟩
abbrev cX9_draw : ByteArray := prog_11_method_74_code
def yX9_draw : MethodName := ⟨RX9, "draw", "(I)I"⟩
abbrev cX9_drawTest : ByteArray := prog_11_method_75_code
def yX9_drawTest : MethodName := ⟨RX9, "drawTest", "()V"⟩
abbrev cX9_drawn : ByteArray := prog_11_method_76_code
def yX9_drawn : MethodName := ⟨RX9, "drawn", "(III)I"⟩
abbrev cX9_image : ByteArray := prog_11_method_77_code
def yX9_image : MethodName := ⟨RX9, "image", "()I"⟩
abbrev cX9_restore : ByteArray := prog_11_method_78_code
def yX9_restore : MethodName := ⟨RX9, "restore", "()I"⟩
abbrev cX9_stepsBy : ByteArray := prog_11_method_79_code
def yX9_stepsBy : MethodName := ⟨RX9, "stepsBy", "(I)I"⟩
abbrev cX9_countProgram : ByteArray := prog_11_method_80_code
def yX9_countProgram : MethodName := ⟨RX9, "countProgram", "(I)I"⟩
abbrev cX9_rackedAll : ByteArray := prog_11_method_81_code
def yX9_rackedAll : MethodName := ⟨RX9, "rackedAll", "()I"⟩
abbrev cX9_countOf : ByteArray := prog_11_method_82_code
def yX9_countOf : MethodName := ⟨RX9, "countOf", "(I)I"⟩
abbrev cX9_count : ByteArray := prog_11_method_83_code
def yX9_count : MethodName := ⟨RX9, "count", "(I)I"⟩
abbrev cX9_say : ByteArray := prog_11_method_84_code
def yX9_say : MethodName := ⟨RX9, "say", "(J)V"⟩
abbrev cX9_sayPlaces : ByteArray := prog_11_method_85_code
def yX9_sayPlaces : MethodName := ⟨RX9, "sayPlaces", "()V"⟩
abbrev cX9_digest : ByteArray := prog_11_method_86_code
def yX9_digest : MethodName := ⟨RX9, "digest", "()J"⟩
def RJx145de : String := "java/io/Serializable"
def TJx145de : u_T := fun k => match k with
  | _ => ("", "", "", false)
def tyJx145de : Nat → FieldType := fun k => match k with
  | _ => .int
abbrev wsJx145de0 : List Cond := u_ws RJx145de TJx145de 0
theorem nmJx145de : ∀ a, a < 0 → ∀ b, b < 0 → a ≠ b → (TJx145de a).2.1 ≠ (TJx145de b).2.1 := by decide +kernel
theorem tyJx145de_ok : ∀ k, k < 0 → parseFieldDescriptor (TJx145de k).2.2.1 = some (tyJx145de k) := by decide +kernel
def RJx9f9b0 : String := "java/lang/CharSequence"
def TJx9f9b0 : u_T := fun k => match k with
  | _ => ("", "", "", false)
def tyJx9f9b0 : Nat → FieldType := fun k => match k with
  | _ => .int
abbrev wsJx9f9b00 : List Cond := u_ws RJx9f9b0 TJx9f9b0 0
theorem nmJx9f9b0 : ∀ a, a < 0 → ∀ b, b < 0 → a ≠ b → (TJx9f9b0 a).2.1 ≠ (TJx9f9b0 b).2.1 := by decide +kernel
theorem tyJx9f9b0_ok : ∀ k, k < 0 → parseFieldDescriptor (TJx9f9b0 k).2.2.1 = some (tyJx9f9b0 k) := by decide +kernel
def RJ11 : String := "java/lang/Character"
def TJ11 : u_T := fun k => match k with
  | _ => ("", "", "", false)
def tyJ11 : Nat → FieldType := fun k => match k with
  | _ => .int
abbrev wsJ110 : List Cond := u_ws RJ11 TJ11 0
theorem nmJ11 : ∀ a, a < 0 → ∀ b, b < 0 → a ≠ b → (TJ11 a).2.1 ≠ (TJ11 b).2.1 := by decide +kernel
theorem tyJ11_ok : ∀ k, k < 0 → parseFieldDescriptor (TJ11 k).2.2.1 = some (tyJ11 k) := by decide +kernel
abbrev cJ11_isValidCodePoint_9a6ad : ByteArray := prog_12_method_11_code
def yJ11_isValidCodePoint_9a6ad : MethodName := ⟨RJ11, "isValidCodePoint", "(I)Z"⟩
abbrev cJ11_highSurrogate_5068e : ByteArray := prog_12_method_28_code
def yJ11_highSurrogate_5068e : MethodName := ⟨RJ11, "highSurrogate", "(I)C"⟩
abbrev cJ11_lowSurrogate_5068e : ByteArray := prog_12_method_29_code
def yJ11_lowSurrogate_5068e : MethodName := ⟨RJ11, "lowSurrogate", "(I)C"⟩
def RJxb160c : String := "java/lang/Comparable"
def TJxb160c : u_T := fun k => match k with
  | _ => ("", "", "", false)
def tyJxb160c : Nat → FieldType := fun k => match k with
  | _ => .int
abbrev wsJxb160c0 : List Cond := u_ws RJxb160c TJxb160c 0
theorem nmJxb160c : ∀ a, a < 0 → ∀ b, b < 0 → a ≠ b → (TJxb160c a).2.1 ≠ (TJxb160c b).2.1 := by decide +kernel
theorem tyJxb160c_ok : ∀ k, k < 0 → parseFieldDescriptor (TJxb160c k).2.2.1 = some (tyJxb160c k) := by decide +kernel
def RJ6 : String := "java/lang/Integer"
def TJ6 : u_T := fun k => match k with
  | _ => ("", "", "", false)
def tyJ6 : Nat → FieldType := fun k => match k with
  | _ => .int
abbrev wsJ60 : List Cond := u_ws RJ6 TJ6 0
theorem nmJ6 : ∀ a, a < 0 → ∀ b, b < 0 → a ≠ b → (TJ6 a).2.1 ≠ (TJ6 b).2.1 := by decide +kernel
theorem tyJ6_ok : ∀ k, k < 0 → parseFieldDescriptor (TJ6 k).2.2.1 = some (tyJ6 k) := by decide +kernel
abbrev cJ6_bitCount_0f7a4 : ByteArray := prog_13_method_49_code
def yJ6_bitCount_0f7a4 : MethodName := ⟨RJ6, "bitCount", "(I)I"⟩
def RJ9 : String := "java/lang/Math"
def TJ9 : u_T := fun k => match k with
  | _ => ("", "", "", false)
def tyJ9 : Nat → FieldType := fun k => match k with
  | _ => .int
abbrev wsJ90 : List Cond := u_ws RJ9 TJ9 0
theorem nmJ9 : ∀ a, a < 0 → ∀ b, b < 0 → a ≠ b → (TJ9 a).2.1 ≠ (TJ9 b).2.1 := by decide +kernel
theorem tyJ9_ok : ∀ k, k < 0 → parseFieldDescriptor (TJ9 k).2.2.1 = some (tyJ9 k) := by decide +kernel
abbrev cJ9_floorMod_7cf53 : ByteArray := prog_14_method_50_code
def yJ9_floorMod_7cf53 : MethodName := ⟨RJ9, "floorMod", "(II)I"⟩
abbrev cJ9_max_7cf53 : ByteArray := prog_14_method_65_code
def yJ9_max_7cf53 : MethodName := ⟨RJ9, "max", "(II)I"⟩
abbrev cJ9_min_7cf53 : ByteArray := prog_14_method_69_code
def yJ9_min_7cf53 : MethodName := ⟨RJ9, "min", "(II)I"⟩
def RJ0 : String := "java/lang/String"
def TJ0 : u_T := fun k => match k with
  | _ => ("", "", "", false)
def tyJ0 : Nat → FieldType := fun k => match k with
  | _ => .int
abbrev wsJ00 : List Cond := u_ws RJ0 TJ0 0
theorem nmJ0 : ∀ a, a < 0 → ∀ b, b < 0 → a ≠ b → (TJ0 a).2.1 ≠ (TJ0 b).2.1 := by decide +kernel
theorem tyJ0_ok : ∀ k, k < 0 → parseFieldDescriptor (TJ0 k).2.2.1 = some (tyJ0 k) := by decide +kernel
abbrev cJ0_length_8abf5 : ByteArray := prog_15_method_54_code
def yJ0_length_8abf5 : MethodName := ⟨RJ0, "length", "()I"⟩
abbrev cJ0_charAt_5068e : ByteArray := prog_15_method_56_code
def yJ0_charAt_5068e : MethodName := ⟨RJ0, "charAt", "(I)C"⟩
abbrev cJ0_indexOf_0f7a4 : ByteArray := prog_15_method_79_code
def yJ0_indexOf_0f7a4 : MethodName := ⟨RJ0, "indexOf", "(I)I"⟩
abbrev cJ0_indexOf_7cf53 : ByteArray := prog_15_method_80_code
def yJ0_indexOf_7cf53 : MethodName := ⟨RJ0, "indexOf", "(II)I"⟩
abbrev cJ0_coder_7d493 : ByteArray := prog_15_method_152_code
def yJ0_coder_7d493 : MethodName := ⟨RJ0, "coder", "()B"⟩
abbrev cJ0_isLatin1_aae02 : ByteArray := prog_15_method_154_code
def yJ0_isLatin1_aae02 : MethodName := ⟨RJ0, "isLatin1", "()Z"⟩
abbrev cJ0_checkIndex_df160 : ByteArray := prog_15_method_155_code
def yJ0_checkIndex_df160 : MethodName := ⟨RJ0, "checkIndex", "(II)V"⟩
abbrev cJ0_checkBoundsBeginEnd_23922 : ByteArray := prog_15_method_158_code
def yJ0_checkBoundsBeginEnd_23922 : MethodName := ⟨RJ0, "checkBoundsBeginEnd", "(III)V"⟩
def RJ1 : String := "java/lang/StringLatin1"
def TJ1 : u_T := fun k => match k with
  | _ => ("", "", "", false)
def tyJ1 : Nat → FieldType := fun k => match k with
  | _ => .int
abbrev wsJ10 : List Cond := u_ws RJ1 TJ1 0
theorem nmJ1 : ∀ a, a < 0 → ∀ b, b < 0 → a ≠ b → (TJ1 a).2.1 ≠ (TJ1 b).2.1 := by decide +kernel
theorem tyJ1_ok : ∀ k, k < 0 → parseFieldDescriptor (TJ1 k).2.2.1 = some (tyJ1 k) := by decide +kernel
abbrev cJ1_charAt_3b067 : ByteArray := prog_16_method_2_code
def yJ1_charAt_3b067 : MethodName := ⟨RJ1, "charAt", "([BI)C"⟩
abbrev cJ1_canEncode_9a6ad : ByteArray := prog_16_method_4_code
def yJ1_canEncode_9a6ad : MethodName := ⟨RJ1, "canEncode", "(I)Z"⟩
abbrev cJ1_indexOf_4cfef : ByteArray := prog_16_method_22_code
def yJ1_indexOf_4cfef : MethodName := ⟨RJ1, "indexOf", "([BIII)I"⟩
abbrev cJ1_indexOfChar_4cfef : ByteArray := prog_16_method_23_code
def yJ1_indexOfChar_4cfef : MethodName := ⟨RJ1, "indexOfChar", "([BIII)I"⟩
def RJ2 : String := "java/lang/StringUTF16"
def TJ2 : u_T := fun k => match k with
  | _ => ("", "", "", false)
def tyJ2 : Nat → FieldType := fun k => match k with
  | _ => .int
abbrev wsJ20 : List Cond := u_ws RJ2 TJ2 0
theorem nmJ2 : ∀ a, a < 0 → ∀ b, b < 0 → a ≠ b → (TJ2 a).2.1 ≠ (TJ2 b).2.1 := by decide +kernel
theorem tyJ2_ok : ∀ k, k < 0 → parseFieldDescriptor (TJ2 k).2.2.1 = some (tyJ2 k) := by decide +kernel
abbrev cJ2_getChar_3b067 : ByteArray := prog_17_method_5_code
def yJ2_getChar_3b067 : MethodName := ⟨RJ2, "getChar", "([BI)C"⟩
abbrev cJ2_length_9d52b : ByteArray := prog_17_method_6_code
def yJ2_length_9d52b : MethodName := ⟨RJ2, "length", "([B)I"⟩
abbrev cJ2_indexOf_4cfef : ByteArray := prog_17_method_40_code
def yJ2_indexOf_4cfef : MethodName := ⟨RJ2, "indexOf", "([BIII)I"⟩
abbrev cJ2_indexOfChar_4cfef : ByteArray := prog_17_method_47_code
def yJ2_indexOfChar_4cfef : MethodName := ⟨RJ2, "indexOfChar", "([BIII)I"⟩
abbrev cJ2_indexOfCharUnsafe_4cfef : ByteArray := prog_17_method_48_code
def yJ2_indexOfCharUnsafe_4cfef : MethodName := ⟨RJ2, "indexOfCharUnsafe", "([BIII)I"⟩
abbrev cJ2_indexOfSupplementary_4cfef : ByteArray := prog_17_method_49_code
def yJ2_indexOfSupplementary_4cfef : MethodName := ⟨RJ2, "indexOfSupplementary", "([BIII)I"⟩
abbrev cJ2_charAt_3b067 : ByteArray := prog_17_method_83_code
def yJ2_charAt_3b067 : MethodName := ⟨RJ2, "charAt", "([BI)C"⟩
abbrev cJ2_checkIndex_2214a : ByteArray := prog_17_method_91_code
def yJ2_checkIndex_2214a : MethodName := ⟨RJ2, "checkIndex", "(I[B)V"⟩
abbrev cJ2_checkBoundsBeginEnd_d044e : ByteArray := prog_17_method_93_code
def yJ2_checkBoundsBeginEnd_d044e : MethodName := ⟨RJ2, "checkBoundsBeginEnd", "(II[B)V"⟩
def RJ10 : String := "java/lang/System"
def TJ10 : u_T := fun k => match k with
  | _ => ("", "", "", false)
def tyJ10 : Nat → FieldType := fun k => match k with
  | _ => .int
abbrev wsJ100 : List Cond := u_ws RJ10 TJ10 0
theorem nmJ10 : ∀ a, a < 0 → ∀ b, b < 0 → a ≠ b → (TJ10 a).2.1 ≠ (TJ10 b).2.1 := by decide +kernel
theorem tyJ10_ok : ∀ k, k < 0 → parseFieldDescriptor (TJ10 k).2.2.1 = some (tyJ10 k) := by decide +kernel
def RJxfd54e : String := "java/lang/constant/Constable"
def TJxfd54e : u_T := fun k => match k with
  | _ => ("", "", "", false)
def tyJxfd54e : Nat → FieldType := fun k => match k with
  | _ => .int
abbrev wsJxfd54e0 : List Cond := u_ws RJxfd54e TJxfd54e 0
theorem nmJxfd54e : ∀ a, a < 0 → ∀ b, b < 0 → a ≠ b → (TJxfd54e a).2.1 ≠ (TJxfd54e b).2.1 := by decide +kernel
theorem tyJxfd54e_ok : ∀ k, k < 0 → parseFieldDescriptor (TJxfd54e k).2.2.1 = some (tyJxfd54e k) := by decide +kernel
def RJx3cf43 : String := "java/lang/constant/ConstantDesc"
def TJx3cf43 : u_T := fun k => match k with
  | _ => ("", "", "", false)
def tyJx3cf43 : Nat → FieldType := fun k => match k with
  | _ => .int
abbrev wsJx3cf430 : List Cond := u_ws RJx3cf43 TJx3cf43 0
theorem nmJx3cf43 : ∀ a, a < 0 → ∀ b, b < 0 → a ≠ b → (TJx3cf43 a).2.1 ≠ (TJx3cf43 b).2.1 := by decide +kernel
theorem tyJx3cf43_ok : ∀ k, k < 0 → parseFieldDescriptor (TJx3cf43 k).2.2.1 = some (tyJx3cf43 k) := by decide +kernel
def RJ7 : String := "java/util/Arrays"
def TJ7 : u_T := fun k => match k with
  | _ => ("", "", "", false)
def tyJ7 : Nat → FieldType := fun k => match k with
  | _ => .int
abbrev wsJ70 : List Cond := u_ws RJ7 TJ7 0
theorem nmJ7 : ∀ a, a < 0 → ∀ b, b < 0 → a ≠ b → (TJ7 a).2.1 ≠ (TJ7 b).2.1 := by decide +kernel
theorem tyJ7_ok : ∀ k, k < 0 → parseFieldDescriptor (TJ7 k).2.2.1 = some (tyJ7 k) := by decide +kernel
abbrev cJ7_fill_53178 : ByteArray := prog_19_method_103_code
def yJ7_fill_53178 : MethodName := ⟨RJ7, "fill", "([II)V"⟩
def RJ3 : String := "jdk/internal/util/Preconditions"
def TJ3 : u_T := fun k => match k with
  | _ => ("", "", "", false)
def tyJ3 : Nat → FieldType := fun k => match k with
  | _ => .int
abbrev wsJ30 : List Cond := u_ws RJ3 TJ3 0
theorem nmJ3 : ∀ a, a < 0 → ∀ b, b < 0 → a ≠ b → (TJ3 a).2.1 ≠ (TJ3 b).2.1 := by decide +kernel
theorem tyJ3_ok : ∀ k, k < 0 → parseFieldDescriptor (TJ3 k).2.2.1 = some (tyJ3 k) := by decide +kernel
abbrev cJ3_checkIndex_8e157 : ByteArray := prog_20_method_11_code
def yJ3_checkIndex_8e157 : MethodName := ⟨RJ3, "checkIndex", "(IILjava/util/function/BiFunction;)I"⟩
abbrev cJ3_checkFromToIndex_8c36e : ByteArray := prog_20_method_12_code
def yJ3_checkFromToIndex_8c36e : MethodName := ⟨RJ3, "checkFromToIndex", "(IIILjava/util/function/BiFunction;)I"⟩
def RL : String := "SumBoundsLaw"
abbrev cL_law : ByteArray := code
def yL_law : MethodName := ⟨RL, "law", "([I)Z"⟩
end
section
theorem dX0_init_0 : decode cX0_init 0 = .ok (.aload_n 0, 1) := by decide +kernel
theorem dX0_init_1 : decode cX0_init 1 = .ok (.invokespecial 3, 3) := by decide +kernel
theorem dX0_init_4 : decode cX0_init 4 = .ok (.return_, 1) := by decide +kernel
theorem dX0_draw_0 : decode cX0_draw 0 = .ok (.aload_n 0, 1) := by decide +kernel
theorem dX0_draw_1 : decode cX0_draw 1 = .ok (.ldc2_w 9, 3) := by decide +kernel
theorem dX0_draw_4 : decode cX0_draw 4 = .ok (.aload_n 0, 1) := by decide +kernel
theorem dX0_draw_5 : decode cX0_draw 5 = .ok (.getfield 11, 3) := by decide +kernel
theorem dX0_draw_8 : decode cX0_draw 8 = .ok (.i2l, 1) := by decide +kernel
theorem dX0_draw_9 : decode cX0_draw 9 = .ok (.lmul, 1) := by decide +kernel
theorem dX0_draw_10 : decode cX0_draw 10 = .ok (.ldc2_w 17, 3) := by decide +kernel
theorem dX0_draw_13 : decode cX0_draw 13 = .ok (.ladd, 1) := by decide +kernel
theorem dX0_draw_14 : decode cX0_draw 14 = .ok (.ldc2_w 19, 3) := by decide +kernel
theorem dX0_draw_17 : decode cX0_draw 17 = .ok (.land, 1) := by decide +kernel
theorem dX0_draw_18 : decode cX0_draw 18 = .ok (.l2i, 1) := by decide +kernel
theorem dX0_draw_19 : decode cX0_draw 19 = .ok (.putfield 11, 3) := by decide +kernel
theorem dX0_draw_22 : decode cX0_draw 22 = .ok (.aload_n 0, 1) := by decide +kernel
theorem dX0_draw_23 : decode cX0_draw 23 = .ok (.getfield 11, 3) := by decide +kernel
theorem dX0_draw_26 : decode cX0_draw 26 = .ok (.ldc 21, 2) := by decide +kernel
theorem dX0_draw_28 : decode cX0_draw 28 = .ok (.idiv, 1) := by decide +kernel
theorem dX0_draw_29 : decode cX0_draw 29 = .ok (.iload_n 1, 1) := by decide +kernel
theorem dX0_draw_30 : decode cX0_draw 30 = .ok (.invokestatic 22, 3) := by decide +kernel
theorem dX0_draw_33 : decode cX0_draw 33 = .ok (.ireturn, 1) := by decide +kernel
theorem dX0_shapeOfFourTests_0 : decode cX0_shapeOfFourTests 0 = .ok (.aload_n 1, 1) := by decide +kernel
theorem dX0_shapeOfFourTests_1 : decode cX0_shapeOfFourTests 1 = .ok (.invokevirtual 28, 3) := by decide +kernel
theorem dX0_shapeOfFourTests_4 : decode cX0_shapeOfFourTests 4 = .ok (.iconst 0, 1) := by decide +kernel
theorem dX0_shapeOfFourTests_5 : decode cX0_shapeOfFourTests 5 = .ok (.istore_n 2, 1) := by decide +kernel
theorem dX0_shapeOfFourTests_6 : decode cX0_shapeOfFourTests 6 = .ok (.iload_n 2, 1) := by decide +kernel
theorem dX0_shapeOfFourTests_7 : decode cX0_shapeOfFourTests 7 = .ok (.iconst 4, 1) := by decide +kernel
theorem dX0_shapeOfFourTests_8 : decode cX0_shapeOfFourTests 8 = .ok (.if_icmp .ge 43, 3) := by decide +kernel
theorem dX0_shapeOfFourTests_11 : decode cX0_shapeOfFourTests 11 = .ok (.aload_n 0, 1) := by decide +kernel
theorem dX0_shapeOfFourTests_12 : decode cX0_shapeOfFourTests 12 = .ok (.bipush 6, 2) := by decide +kernel
theorem dX0_shapeOfFourTests_14 : decode cX0_shapeOfFourTests 14 = .ok (.invokevirtual 33, 3) := by decide +kernel
theorem dX0_shapeOfFourTests_17 : decode cX0_shapeOfFourTests 17 = .ok (.istore_n 3, 1) := by decide +kernel
theorem dX0_shapeOfFourTests_18 : decode cX0_shapeOfFourTests 18 = .ok (.aload_n 0, 1) := by decide +kernel
theorem dX0_shapeOfFourTests_19 : decode cX0_shapeOfFourTests 19 = .ok (.bipush 6, 2) := by decide +kernel
theorem dX0_shapeOfFourTests_21 : decode cX0_shapeOfFourTests 21 = .ok (.invokevirtual 33, 3) := by decide +kernel
theorem dX0_shapeOfFourTests_24 : decode cX0_shapeOfFourTests 24 = .ok (.istore 4, 2) := by decide +kernel
theorem dX0_shapeOfFourTests_26 : decode cX0_shapeOfFourTests 26 = .ok (.aload_n 0, 1) := by decide +kernel
theorem dX0_shapeOfFourTests_27 : decode cX0_shapeOfFourTests 27 = .ok (.bipush 12, 2) := by decide +kernel
theorem dX0_shapeOfFourTests_29 : decode cX0_shapeOfFourTests 29 = .ok (.invokevirtual 33, 3) := by decide +kernel
theorem dX0_shapeOfFourTests_32 : decode cX0_shapeOfFourTests 32 = .ok (.iconst 4, 1) := by decide +kernel
theorem dX0_shapeOfFourTests_33 : decode cX0_shapeOfFourTests 33 = .ok (.isub, 1) := by decide +kernel
theorem dX0_shapeOfFourTests_34 : decode cX0_shapeOfFourTests 34 = .ok (.istore 5, 2) := by decide +kernel
theorem dX0_shapeOfFourTests_36 : decode cX0_shapeOfFourTests 36 = .ok (.aload_n 1, 1) := by decide +kernel
theorem dX0_shapeOfFourTests_37 : decode cX0_shapeOfFourTests 37 = .ok (.iload_n 3, 1) := by decide +kernel
theorem dX0_shapeOfFourTests_38 : decode cX0_shapeOfFourTests 38 = .ok (.iload 4, 2) := by decide +kernel
theorem dX0_shapeOfFourTests_40 : decode cX0_shapeOfFourTests 40 = .ok (.iload 5, 2) := by decide +kernel
theorem dX0_shapeOfFourTests_42 : decode cX0_shapeOfFourTests 42 = .ok (.invokevirtual 37, 3) := by decide +kernel
theorem dX0_shapeOfFourTests_45 : decode cX0_shapeOfFourTests 45 = .ok (.iinc 2 1, 3) := by decide +kernel
theorem dX0_shapeOfFourTests_48 : decode cX0_shapeOfFourTests 48 = .ok (.goto (-42), 3) := by decide +kernel
theorem dX0_shapeOfFourTests_51 : decode cX0_shapeOfFourTests 51 = .ok (.aload_n 1, 1) := by decide +kernel
theorem dX0_shapeOfFourTests_52 : decode cX0_shapeOfFourTests 52 = .ok (.invokevirtual 41, 3) := by decide +kernel
theorem dX0_shapeOfFourTests_55 : decode cX0_shapeOfFourTests 55 = .ok (.return_, 1) := by decide +kernel
theorem dX1_init_0 : decode cX1_init 0 = .ok (.aload_n 0, 1) := by decide +kernel
theorem dX1_init_1 : decode cX1_init 1 = .ok (.invokespecial 3, 3) := by decide +kernel
theorem dX1_init_4 : decode cX1_init 4 = .ok (.aload_n 0, 1) := by decide +kernel
theorem dX1_init_5 : decode cX1_init 5 = .ok (.bipush 36, 2) := by decide +kernel
theorem dX1_init_7 : decode cX1_init 7 = .ok (.newarray .int, 2) := by decide +kernel
theorem dX1_init_9 : decode cX1_init 9 = .ok (.putfield 9, 3) := by decide +kernel
theorem dX1_init_12 : decode cX1_init 12 = .ok (.return_, 1) := by decide +kernel
theorem dX1_append_0 : decode cX1_append 0 = .ok (.aload_n 0, 1) := by decide +kernel
theorem dX1_append_1 : decode cX1_append 1 = .ok (.getfield 9, 3) := by decide +kernel
theorem dX1_append_4 : decode cX1_append 4 = .ok (.aload_n 0, 1) := by decide +kernel
theorem dX1_append_5 : decode cX1_append 5 = .ok (.getfield 15, 3) := by decide +kernel
theorem dX1_append_8 : decode cX1_append 8 = .ok (.iload_n 1, 1) := by decide +kernel
theorem dX1_append_9 : decode cX1_append 9 = .ok (.iastore, 1) := by decide +kernel
theorem dX1_append_10 : decode cX1_append 10 = .ok (.aload_n 0, 1) := by decide +kernel
theorem dX1_append_11 : decode cX1_append 11 = .ok (.dup, 1) := by decide +kernel
theorem dX1_append_12 : decode cX1_append 12 = .ok (.getfield 15, 3) := by decide +kernel
theorem dX1_append_15 : decode cX1_append 15 = .ok (.iconst 1, 1) := by decide +kernel
theorem dX1_append_16 : decode cX1_append 16 = .ok (.iadd, 1) := by decide +kernel
theorem dX1_append_17 : decode cX1_append 17 = .ok (.putfield 15, 3) := by decide +kernel
theorem dX1_append_20 : decode cX1_append 20 = .ok (.return_, 1) := by decide +kernel
theorem dX2_init_0 : decode cX2_init 0 = .ok (.aload_n 0, 1) := by decide +kernel
theorem dX2_init_1 : decode cX2_init 1 = .ok (.invokespecial 3, 3) := by decide +kernel
theorem dX2_init_4 : decode cX2_init 4 = .ok (.aload_n 0, 1) := by decide +kernel
theorem dX2_init_5 : decode cX2_init 5 = .ok (.bipush 15, 2) := by decide +kernel
theorem dX2_init_7 : decode cX2_init 7 = .ok (.newarray .int, 2) := by decide +kernel
theorem dX2_init_9 : decode cX2_init 9 = .ok (.putfield 9, 3) := by decide +kernel
theorem dX2_init_12 : decode cX2_init 12 = .ok (.aload_n 0, 1) := by decide +kernel
theorem dX2_init_13 : decode cX2_init 13 = .ok (.iconst 5, 1) := by decide +kernel
theorem dX2_init_14 : decode cX2_init 14 = .ok (.newarray .int, 2) := by decide +kernel
theorem dX2_init_16 : decode cX2_init 16 = .ok (.putfield 15, 3) := by decide +kernel
theorem dX2_init_19 : decode cX2_init 19 = .ok (.return_, 1) := by decide +kernel
theorem dX2_clear_0 : decode cX2_clear 0 = .ok (.aload_n 0, 1) := by decide +kernel
theorem dX2_clear_1 : decode cX2_clear 1 = .ok (.getfield 15, 3) := by decide +kernel
theorem dX2_clear_4 : decode cX2_clear 4 = .ok (.iconst 0, 1) := by decide +kernel
theorem dX2_clear_5 : decode cX2_clear 5 = .ok (.invokestatic 18, 3) := by decide +kernel
theorem dX2_clear_8 : decode cX2_clear 8 = .ok (.return_, 1) := by decide +kernel
theorem dX2_lay_0 : decode cX2_lay 0 = .ok (.aload_n 0, 1) := by decide +kernel
theorem dX2_lay_1 : decode cX2_lay 1 = .ok (.getfield 9, 3) := by decide +kernel
theorem dX2_lay_4 : decode cX2_lay 4 = .ok (.iload_n 1, 1) := by decide +kernel
theorem dX2_lay_5 : decode cX2_lay 5 = .ok (.iconst 3, 1) := by decide +kernel
theorem dX2_lay_6 : decode cX2_lay 6 = .ok (.imul, 1) := by decide +kernel
theorem dX2_lay_7 : decode cX2_lay 7 = .ok (.aload_n 0, 1) := by decide +kernel
theorem dX2_lay_8 : decode cX2_lay 8 = .ok (.getfield 15, 3) := by decide +kernel
theorem dX2_lay_11 : decode cX2_lay 11 = .ok (.iload_n 1, 1) := by decide +kernel
theorem dX2_lay_12 : decode cX2_lay 12 = .ok (.iaload, 1) := by decide +kernel
theorem dX2_lay_13 : decode cX2_lay 13 = .ok (.iadd, 1) := by decide +kernel
theorem dX2_lay_14 : decode cX2_lay 14 = .ok (.iload_n 2, 1) := by decide +kernel
theorem dX2_lay_15 : decode cX2_lay 15 = .ok (.iastore, 1) := by decide +kernel
theorem dX2_lay_16 : decode cX2_lay 16 = .ok (.aload_n 0, 1) := by decide +kernel
theorem dX2_lay_17 : decode cX2_lay 17 = .ok (.getfield 15, 3) := by decide +kernel
theorem dX2_lay_20 : decode cX2_lay 20 = .ok (.iload_n 1, 1) := by decide +kernel
theorem dX2_lay_21 : decode cX2_lay 21 = .ok (.dup2, 1) := by decide +kernel
theorem dX2_lay_22 : decode cX2_lay 22 = .ok (.iaload, 1) := by decide +kernel
theorem dX2_lay_23 : decode cX2_lay 23 = .ok (.iconst 1, 1) := by decide +kernel
theorem dX2_lay_24 : decode cX2_lay 24 = .ok (.iadd, 1) := by decide +kernel
theorem dX2_lay_25 : decode cX2_lay 25 = .ok (.iastore, 1) := by decide +kernel
theorem dX2_lay_26 : decode cX2_lay 26 = .ok (.aload_n 0, 1) := by decide +kernel
theorem dX2_lay_27 : decode cX2_lay 27 = .ok (.getfield 15, 3) := by decide +kernel
theorem dX2_lay_30 : decode cX2_lay 30 = .ok (.iload_n 1, 1) := by decide +kernel
theorem dX2_lay_31 : decode cX2_lay 31 = .ok (.iaload, 1) := by decide +kernel
theorem dX2_lay_32 : decode cX2_lay 32 = .ok (.ireturn, 1) := by decide +kernel
theorem dX2_stepAt_0 : decode cX2_stepAt 0 = .ok (.iload_n 2, 1) := by decide +kernel
theorem dX2_stepAt_1 : decode cX2_stepAt 1 = .ok (.aload_n 0, 1) := by decide +kernel
theorem dX2_stepAt_2 : decode cX2_stepAt 2 = .ok (.getfield 15, 3) := by decide +kernel
theorem dX2_stepAt_5 : decode cX2_stepAt 5 = .ok (.iload_n 1, 1) := by decide +kernel
theorem dX2_stepAt_6 : decode cX2_stepAt 6 = .ok (.iaload, 1) := by decide +kernel
theorem dX2_stepAt_7 : decode cX2_stepAt 7 = .ok (.if_icmp .ge 16, 3) := by decide +kernel
theorem dX2_stepAt_10 : decode cX2_stepAt 10 = .ok (.aload_n 0, 1) := by decide +kernel
theorem dX2_stepAt_11 : decode cX2_stepAt 11 = .ok (.getfield 9, 3) := by decide +kernel
theorem dX2_stepAt_14 : decode cX2_stepAt 14 = .ok (.iload_n 1, 1) := by decide +kernel
theorem dX2_stepAt_15 : decode cX2_stepAt 15 = .ok (.iconst 3, 1) := by decide +kernel
theorem dX2_stepAt_16 : decode cX2_stepAt 16 = .ok (.imul, 1) := by decide +kernel
theorem dX2_stepAt_17 : decode cX2_stepAt 17 = .ok (.iload_n 2, 1) := by decide +kernel
theorem dX2_stepAt_18 : decode cX2_stepAt 18 = .ok (.iadd, 1) := by decide +kernel
theorem dX2_stepAt_19 : decode cX2_stepAt 19 = .ok (.iaload, 1) := by decide +kernel
theorem dX2_stepAt_20 : decode cX2_stepAt 20 = .ok (.goto 4, 3) := by decide +kernel
theorem dX2_stepAt_23 : decode cX2_stepAt 23 = .ok (.iconst (-1), 1) := by decide +kernel
theorem dX2_stepAt_24 : decode cX2_stepAt 24 = .ok (.ireturn, 1) := by decide +kernel
theorem dX2_countAll_0 : decode cX2_countAll 0 = .ok (.iconst 0, 1) := by decide +kernel
theorem dX2_countAll_1 : decode cX2_countAll 1 = .ok (.istore_n 1, 1) := by decide +kernel
theorem dX2_countAll_2 : decode cX2_countAll 2 = .ok (.iconst 0, 1) := by decide +kernel
theorem dX2_countAll_3 : decode cX2_countAll 3 = .ok (.istore_n 2, 1) := by decide +kernel
theorem dX2_countAll_4 : decode cX2_countAll 4 = .ok (.iload_n 2, 1) := by decide +kernel
theorem dX2_countAll_5 : decode cX2_countAll 5 = .ok (.iconst 5, 1) := by decide +kernel
theorem dX2_countAll_6 : decode cX2_countAll 6 = .ok (.if_icmp .ge 18, 3) := by decide +kernel
theorem dX2_countAll_9 : decode cX2_countAll 9 = .ok (.iload_n 1, 1) := by decide +kernel
theorem dX2_countAll_10 : decode cX2_countAll 10 = .ok (.aload_n 0, 1) := by decide +kernel
theorem dX2_countAll_11 : decode cX2_countAll 11 = .ok (.getfield 15, 3) := by decide +kernel
theorem dX2_countAll_14 : decode cX2_countAll 14 = .ok (.iload_n 2, 1) := by decide +kernel
theorem dX2_countAll_15 : decode cX2_countAll 15 = .ok (.iaload, 1) := by decide +kernel
theorem dX2_countAll_16 : decode cX2_countAll 16 = .ok (.iadd, 1) := by decide +kernel
theorem dX2_countAll_17 : decode cX2_countAll 17 = .ok (.istore_n 1, 1) := by decide +kernel
theorem dX2_countAll_18 : decode cX2_countAll 18 = .ok (.iinc 2 1, 3) := by decide +kernel
theorem dX2_countAll_21 : decode cX2_countAll 21 = .ok (.goto (-17), 3) := by decide +kernel
theorem dX2_countAll_24 : decode cX2_countAll 24 = .ok (.iload_n 1, 1) := by decide +kernel
theorem dX2_countAll_25 : decode cX2_countAll 25 = .ok (.ireturn, 1) := by decide +kernel
theorem dX3_init_0 : decode cX3_init 0 = .ok (.aload_n 0, 1) := by decide +kernel
theorem dX3_init_1 : decode cX3_init 1 = .ok (.invokespecial 3, 3) := by decide +kernel
theorem dX3_init_4 : decode cX3_init 4 = .ok (.aload_n 0, 1) := by decide +kernel
theorem dX3_init_5 : decode cX3_init 5 = .ok (.new 9, 3) := by decide +kernel
theorem dX3_init_8 : decode cX3_init 8 = .ok (.dup, 1) := by decide +kernel
theorem dX3_init_9 : decode cX3_init 9 = .ok (.invokespecial 11, 3) := by decide +kernel
theorem dX3_init_12 : decode cX3_init 12 = .ok (.putfield 12, 3) := by decide +kernel
theorem dX3_init_15 : decode cX3_init 15 = .ok (.return_, 1) := by decide +kernel
theorem dX3_faultOf_0 : decode cX3_faultOf 0 = .ok (.aload_n 0, 1) := by decide +kernel
theorem dX3_faultOf_1 : decode cX3_faultOf 1 = .ok (.getfield 12, 3) := by decide +kernel
theorem dX3_faultOf_4 : decode cX3_faultOf 4 = .ok (.iconst 0, 1) := by decide +kernel
theorem dX3_faultOf_5 : decode cX3_faultOf 5 = .ok (.putfield 18, 3) := by decide +kernel
theorem dX3_faultOf_8 : decode cX3_faultOf 8 = .ok (.aload_n 0, 1) := by decide +kernel
theorem dX3_faultOf_9 : decode cX3_faultOf 9 = .ok (.iconst (-1), 1) := by decide +kernel
theorem dX3_faultOf_10 : decode cX3_faultOf 10 = .ok (.putfield 22, 3) := by decide +kernel
theorem dX3_faultOf_13 : decode cX3_faultOf 13 = .ok (.iconst 0, 1) := by decide +kernel
theorem dX3_faultOf_14 : decode cX3_faultOf 14 = .ok (.istore_n 2, 1) := by decide +kernel
theorem dX3_faultOf_15 : decode cX3_faultOf 15 = .ok (.iload_n 2, 1) := by decide +kernel
theorem dX3_faultOf_16 : decode cX3_faultOf 16 = .ok (.aload_n 1, 1) := by decide +kernel
theorem dX3_faultOf_17 : decode cX3_faultOf 17 = .ok (.getfield 25, 3) := by decide +kernel
theorem dX3_faultOf_20 : decode cX3_faultOf 20 = .ok (.if_icmp .ge 24, 3) := by decide +kernel
theorem dX3_faultOf_23 : decode cX3_faultOf 23 = .ok (.aload_n 0, 1) := by decide +kernel
theorem dX3_faultOf_24 : decode cX3_faultOf 24 = .ok (.aload_n 1, 1) := by decide +kernel
theorem dX3_faultOf_25 : decode cX3_faultOf 25 = .ok (.getfield 28, 3) := by decide +kernel
theorem dX3_faultOf_28 : decode cX3_faultOf 28 = .ok (.iload_n 2, 1) := by decide +kernel
theorem dX3_faultOf_29 : decode cX3_faultOf 29 = .ok (.iaload, 1) := by decide +kernel
theorem dX3_faultOf_30 : decode cX3_faultOf 30 = .ok (.invokevirtual 32, 3) := by decide +kernel
theorem dX3_faultOf_33 : decode cX3_faultOf 33 = .ok (.ifCond .ne 5, 3) := by decide +kernel
theorem dX3_faultOf_36 : decode cX3_faultOf 36 = .ok (.iload_n 2, 1) := by decide +kernel
theorem dX3_faultOf_37 : decode cX3_faultOf 37 = .ok (.ireturn, 1) := by decide +kernel
theorem dX3_faultOf_38 : decode cX3_faultOf 38 = .ok (.iinc 2 1, 3) := by decide +kernel
theorem dX3_faultOf_41 : decode cX3_faultOf 41 = .ok (.goto (-26), 3) := by decide +kernel
theorem dX3_faultOf_44 : decode cX3_faultOf 44 = .ok (.aload_n 1, 1) := by decide +kernel
theorem dX3_faultOf_45 : decode cX3_faultOf 45 = .ok (.getfield 25, 3) := by decide +kernel
theorem dX3_faultOf_48 : decode cX3_faultOf 48 = .ok (.ireturn, 1) := by decide +kernel
theorem dX3_atAnEnd_0 : decode cX3_atAnEnd 0 = .ok (.aload_n 0, 1) := by decide +kernel
theorem dX3_atAnEnd_1 : decode cX3_atAnEnd 1 = .ok (.getfield 22, 3) := by decide +kernel
theorem dX3_atAnEnd_4 : decode cX3_atAnEnd 4 = .ok (.iconst (-1), 1) := by decide +kernel
theorem dX3_atAnEnd_5 : decode cX3_atAnEnd 5 = .ok (.if_icmp .eq 24, 3) := by decide +kernel
theorem dX3_atAnEnd_8 : decode cX3_atAnEnd 8 = .ok (.aload_n 0, 1) := by decide +kernel
theorem dX3_atAnEnd_9 : decode cX3_atAnEnd 9 = .ok (.getfield 36, 3) := by decide +kernel
theorem dX3_atAnEnd_12 : decode cX3_atAnEnd 12 = .ok (.aload_n 0, 1) := by decide +kernel
theorem dX3_atAnEnd_13 : decode cX3_atAnEnd 13 = .ok (.getfield 22, 3) := by decide +kernel
theorem dX3_atAnEnd_16 : decode cX3_atAnEnd 16 = .ok (.invokestatic 39, 3) := by decide +kernel
theorem dX3_atAnEnd_19 : decode cX3_atAnEnd 19 = .ok (.invokevirtual 43, 3) := by decide +kernel
theorem dX3_atAnEnd_22 : decode cX3_atAnEnd 22 = .ok (.if_icmp .ne 7, 3) := by decide +kernel
theorem dX3_atAnEnd_25 : decode cX3_atAnEnd 25 = .ok (.iconst 1, 1) := by decide +kernel
theorem dX3_atAnEnd_26 : decode cX3_atAnEnd 26 = .ok (.goto 4, 3) := by decide +kernel
theorem dX3_atAnEnd_29 : decode cX3_atAnEnd 29 = .ok (.iconst 0, 1) := by decide +kernel
theorem dX3_atAnEnd_30 : decode cX3_atAnEnd 30 = .ok (.ireturn, 1) := by decide +kernel
theorem dX3_accepts_0 : decode cX3_accepts 0 = .ok (.aload_n 0, 1) := by decide +kernel
theorem dX3_accepts_1 : decode cX3_accepts 1 = .ok (.getfield 22, 3) := by decide +kernel
theorem dX3_accepts_4 : decode cX3_accepts 4 = .ok (.iconst (-1), 1) := by decide +kernel
theorem dX3_accepts_5 : decode cX3_accepts 5 = .ok (.if_icmp .ne 9, 3) := by decide +kernel
theorem dX3_accepts_8 : decode cX3_accepts 8 = .ok (.aload_n 0, 1) := by decide +kernel
theorem dX3_accepts_9 : decode cX3_accepts 9 = .ok (.iload_n 1, 1) := by decide +kernel
theorem dX3_accepts_10 : decode cX3_accepts 10 = .ok (.invokevirtual 49, 3) := by decide +kernel
theorem dX3_accepts_13 : decode cX3_accepts 13 = .ok (.ireturn, 1) := by decide +kernel
theorem dX3_accepts_14 : decode cX3_accepts 14 = .ok (.aload_n 0, 1) := by decide +kernel
theorem dX3_accepts_15 : decode cX3_accepts 15 = .ok (.getfield 22, 3) := by decide +kernel
theorem dX3_accepts_18 : decode cX3_accepts 18 = .ok (.invokestatic 39, 3) := by decide +kernel
theorem dX3_accepts_21 : decode cX3_accepts 21 = .ok (.astore_n 2, 1) := by decide +kernel
theorem dX3_accepts_22 : decode cX3_accepts 22 = .ok (.aload_n 0, 1) := by decide +kernel
theorem dX3_accepts_23 : decode cX3_accepts 23 = .ok (.getfield 36, 3) := by decide +kernel
theorem dX3_accepts_26 : decode cX3_accepts 26 = .ok (.aload_n 2, 1) := by decide +kernel
theorem dX3_accepts_27 : decode cX3_accepts 27 = .ok (.invokevirtual 43, 3) := by decide +kernel
theorem dX3_accepts_30 : decode cX3_accepts 30 = .ok (.if_icmp .lt 9, 3) := by decide +kernel
theorem dX3_accepts_33 : decode cX3_accepts 33 = .ok (.aload_n 0, 1) := by decide +kernel
theorem dX3_accepts_34 : decode cX3_accepts 34 = .ok (.iload_n 1, 1) := by decide +kernel
theorem dX3_accepts_35 : decode cX3_accepts 35 = .ok (.invokevirtual 52, 3) := by decide +kernel
theorem dX3_accepts_38 : decode cX3_accepts 38 = .ok (.ireturn, 1) := by decide +kernel
theorem dX3_accepts_39 : decode cX3_accepts 39 = .ok (.aload_n 2, 1) := by decide +kernel
theorem dX3_accepts_40 : decode cX3_accepts 40 = .ok (.aload_n 0, 1) := by decide +kernel
theorem dX3_accepts_41 : decode cX3_accepts 41 = .ok (.getfield 36, 3) := by decide +kernel
theorem dX3_accepts_44 : decode cX3_accepts 44 = .ok (.invokevirtual 55, 3) := by decide +kernel
theorem dX3_accepts_47 : decode cX3_accepts 47 = .ok (.istore_n 3, 1) := by decide +kernel
theorem dX3_accepts_48 : decode cX3_accepts 48 = .ok (.aload_n 0, 1) := by decide +kernel
theorem dX3_accepts_49 : decode cX3_accepts 49 = .ok (.iload_n 3, 1) := by decide +kernel
theorem dX3_accepts_50 : decode cX3_accepts 50 = .ok (.iload_n 1, 1) := by decide +kernel
theorem dX3_accepts_51 : decode cX3_accepts 51 = .ok (.invokevirtual 59, 3) := by decide +kernel
theorem dX3_accepts_54 : decode cX3_accepts 54 = .ok (.ifCond .ne 5, 3) := by decide +kernel
theorem dX3_accepts_57 : decode cX3_accepts 57 = .ok (.iconst 0, 1) := by decide +kernel
theorem dX3_accepts_58 : decode cX3_accepts 58 = .ok (.ireturn, 1) := by decide +kernel
theorem dX3_accepts_59 : decode cX3_accepts 59 = .ok (.aload_n 0, 1) := by decide +kernel
theorem dX3_accepts_60 : decode cX3_accepts 60 = .ok (.iload_n 3, 1) := by decide +kernel
theorem dX3_accepts_61 : decode cX3_accepts 61 = .ok (.iload_n 1, 1) := by decide +kernel
theorem dX3_accepts_62 : decode cX3_accepts 62 = .ok (.invokevirtual 63, 3) := by decide +kernel
theorem dX3_accepts_65 : decode cX3_accepts 65 = .ok (.aload_n 0, 1) := by decide +kernel
theorem dX3_accepts_66 : decode cX3_accepts 66 = .ok (.dup, 1) := by decide +kernel
theorem dX3_accepts_67 : decode cX3_accepts 67 = .ok (.getfield 36, 3) := by decide +kernel
theorem dX3_accepts_70 : decode cX3_accepts 70 = .ok (.iconst 1, 1) := by decide +kernel
theorem dX3_accepts_71 : decode cX3_accepts 71 = .ok (.iadd, 1) := by decide +kernel
theorem dX3_accepts_72 : decode cX3_accepts 72 = .ok (.putfield 36, 3) := by decide +kernel
theorem dX3_accepts_75 : decode cX3_accepts 75 = .ok (.aload_n 0, 1) := by decide +kernel
theorem dX3_accepts_76 : decode cX3_accepts 76 = .ok (.getfield 36, 3) := by decide +kernel
theorem dX3_accepts_79 : decode cX3_accepts 79 = .ok (.aload_n 2, 1) := by decide +kernel
theorem dX3_accepts_80 : decode cX3_accepts 80 = .ok (.invokevirtual 43, 3) := by decide +kernel
theorem dX3_accepts_83 : decode cX3_accepts 83 = .ok (.if_icmp .ne 33, 3) := by decide +kernel
theorem dX3_accepts_86 : decode cX3_accepts 86 = .ok (.aload_n 0, 1) := by decide +kernel
theorem dX3_accepts_87 : decode cX3_accepts 87 = .ok (.getfield 12, 3) := by decide +kernel
theorem dX3_accepts_90 : decode cX3_accepts 90 = .ok (.aload_n 0, 1) := by decide +kernel
theorem dX3_accepts_91 : decode cX3_accepts 91 = .ok (.getfield 12, 3) := by decide +kernel
theorem dX3_accepts_94 : decode cX3_accepts 94 = .ok (.getfield 18, 3) := by decide +kernel
theorem dX3_accepts_97 : decode cX3_accepts 97 = .ok (.aload_n 0, 1) := by decide +kernel
theorem dX3_accepts_98 : decode cX3_accepts 98 = .ok (.getfield 22, 3) := by decide +kernel
theorem dX3_accepts_101 : decode cX3_accepts 101 = .ok (.aload_n 0, 1) := by decide +kernel
theorem dX3_accepts_102 : decode cX3_accepts 102 = .ok (.getfield 67, 3) := by decide +kernel
theorem dX3_accepts_105 : decode cX3_accepts 105 = .ok (.aload_n 0, 1) := by decide +kernel
theorem dX3_accepts_106 : decode cX3_accepts 106 = .ok (.getfield 70, 3) := by decide +kernel
theorem dX3_accepts_109 : decode cX3_accepts 109 = .ok (.aload_n 0, 1) := by decide +kernel
theorem dX3_accepts_110 : decode cX3_accepts 110 = .ok (.getfield 73, 3) := by decide +kernel
theorem dX3_accepts_113 : decode cX3_accepts 113 = .ok (.invokevirtual 76, 3) := by decide +kernel
theorem dX3_accepts_116 : decode cX3_accepts 116 = .ok (.iconst 1, 1) := by decide +kernel
theorem dX3_accepts_117 : decode cX3_accepts 117 = .ok (.ireturn, 1) := by decide +kernel
theorem dX3_beginsStep_0 : decode cX3_beginsStep 0 = .ok (.ldc 80, 2) := by decide +kernel
theorem dX3_beginsStep_2 : decode cX3_beginsStep 2 = .ok (.iload_n 1, 1) := by decide +kernel
theorem dX3_beginsStep_3 : decode cX3_beginsStep 3 = .ok (.i2c, 1) := by decide +kernel
theorem dX3_beginsStep_4 : decode cX3_beginsStep 4 = .ok (.invokevirtual 82, 3) := by decide +kernel
theorem dX3_beginsStep_7 : decode cX3_beginsStep 7 = .ok (.istore_n 2, 1) := by decide +kernel
theorem dX3_beginsStep_8 : decode cX3_beginsStep 8 = .ok (.iload_n 2, 1) := by decide +kernel
theorem dX3_beginsStep_9 : decode cX3_beginsStep 9 = .ok (.ifCond .ge 5, 3) := by decide +kernel
theorem dX3_beginsStep_12 : decode cX3_beginsStep 12 = .ok (.iconst 0, 1) := by decide +kernel
theorem dX3_beginsStep_13 : decode cX3_beginsStep 13 = .ok (.ireturn, 1) := by decide +kernel
theorem dX3_beginsStep_14 : decode cX3_beginsStep 14 = .ok (.iload_n 2, 1) := by decide +kernel
theorem dX3_beginsStep_15 : decode cX3_beginsStep 15 = .ok (.iconst 4, 1) := by decide +kernel
theorem dX3_beginsStep_16 : decode cX3_beginsStep 16 = .ok (.if_icmp .ne 22, 3) := by decide +kernel
theorem dX3_beginsStep_19 : decode cX3_beginsStep 19 = .ok (.aload_n 0, 1) := by decide +kernel
theorem dX3_beginsStep_20 : decode cX3_beginsStep 20 = .ok (.getfield 12, 3) := by decide +kernel
theorem dX3_beginsStep_23 : decode cX3_beginsStep 23 = .ok (.invokevirtual 86, 3) := by decide +kernel
theorem dX3_beginsStep_26 : decode cX3_beginsStep 26 = .ok (.aload_n 0, 1) := by decide +kernel
theorem dX3_beginsStep_27 : decode cX3_beginsStep 27 = .ok (.getfield 12, 3) := by decide +kernel
theorem dX3_beginsStep_30 : decode cX3_beginsStep 30 = .ok (.getfield 18, 3) := by decide +kernel
theorem dX3_beginsStep_33 : decode cX3_beginsStep 33 = .ok (.if_icmp .lt 5, 3) := by decide +kernel
theorem dX3_beginsStep_36 : decode cX3_beginsStep 36 = .ok (.iconst 0, 1) := by decide +kernel
theorem dX3_beginsStep_37 : decode cX3_beginsStep 37 = .ok (.ireturn, 1) := by decide +kernel
theorem dX3_beginsStep_38 : decode cX3_beginsStep 38 = .ok (.aload_n 0, 1) := by decide +kernel
theorem dX3_beginsStep_39 : decode cX3_beginsStep 39 = .ok (.iload_n 2, 1) := by decide +kernel
theorem dX3_beginsStep_40 : decode cX3_beginsStep 40 = .ok (.putfield 22, 3) := by decide +kernel
theorem dX3_beginsStep_43 : decode cX3_beginsStep 43 = .ok (.aload_n 0, 1) := by decide +kernel
theorem dX3_beginsStep_44 : decode cX3_beginsStep 44 = .ok (.iconst 0, 1) := by decide +kernel
theorem dX3_beginsStep_45 : decode cX3_beginsStep 45 = .ok (.putfield 36, 3) := by decide +kernel
theorem dX3_beginsStep_48 : decode cX3_beginsStep 48 = .ok (.aload_n 0, 1) := by decide +kernel
theorem dX3_beginsStep_49 : decode cX3_beginsStep 49 = .ok (.iconst (-1), 1) := by decide +kernel
theorem dX3_beginsStep_50 : decode cX3_beginsStep 50 = .ok (.putfield 67, 3) := by decide +kernel
theorem dX3_beginsStep_53 : decode cX3_beginsStep 53 = .ok (.aload_n 0, 1) := by decide +kernel
theorem dX3_beginsStep_54 : decode cX3_beginsStep 54 = .ok (.iconst (-1), 1) := by decide +kernel
theorem dX3_beginsStep_55 : decode cX3_beginsStep 55 = .ok (.putfield 70, 3) := by decide +kernel
theorem dX3_beginsStep_58 : decode cX3_beginsStep 58 = .ok (.aload_n 0, 1) := by decide +kernel
theorem dX3_beginsStep_59 : decode cX3_beginsStep 59 = .ok (.iconst 0, 1) := by decide +kernel
theorem dX3_beginsStep_60 : decode cX3_beginsStep 60 = .ok (.putfield 73, 3) := by decide +kernel
theorem dX3_beginsStep_63 : decode cX3_beginsStep 63 = .ok (.aload_n 0, 1) := by decide +kernel
theorem dX3_beginsStep_64 : decode cX3_beginsStep 64 = .ok (.iconst 0, 1) := by decide +kernel
theorem dX3_beginsStep_65 : decode cX3_beginsStep 65 = .ok (.putfield 89, 3) := by decide +kernel
theorem dX3_beginsStep_68 : decode cX3_beginsStep 68 = .ok (.iconst 1, 1) := by decide +kernel
theorem dX3_beginsStep_69 : decode cX3_beginsStep 69 = .ok (.ireturn, 1) := by decide +kernel
theorem dX3_goesOn_0 : decode cX3_goesOn 0 = .ok (.iload_n 1, 1) := by decide +kernel
theorem dX3_goesOn_1 : decode cX3_goesOn 1 = .ok (.bipush 44, 2) := by decide +kernel
theorem dX3_goesOn_3 : decode cX3_goesOn 3 = .ok (.if_icmp .ne 15, 3) := by decide +kernel
theorem dX3_goesOn_6 : decode cX3_goesOn 6 = .ok (.aload_n 0, 1) := by decide +kernel
theorem dX3_goesOn_7 : decode cX3_goesOn 7 = .ok (.getfield 12, 3) := by decide +kernel
theorem dX3_goesOn_10 : decode cX3_goesOn 10 = .ok (.getfield 18, 3) := by decide +kernel
theorem dX3_goesOn_13 : decode cX3_goesOn 13 = .ok (.bipush 6, 2) := by decide +kernel
theorem dX3_goesOn_15 : decode cX3_goesOn 15 = .ok (.if_icmp .lt 5, 3) := by decide +kernel
theorem dX3_goesOn_18 : decode cX3_goesOn 18 = .ok (.iconst 0, 1) := by decide +kernel
theorem dX3_goesOn_19 : decode cX3_goesOn 19 = .ok (.ireturn, 1) := by decide +kernel
theorem dX3_goesOn_20 : decode cX3_goesOn 20 = .ok (.aload_n 0, 1) := by decide +kernel
theorem dX3_goesOn_21 : decode cX3_goesOn 21 = .ok (.iconst (-1), 1) := by decide +kernel
theorem dX3_goesOn_22 : decode cX3_goesOn 22 = .ok (.putfield 22, 3) := by decide +kernel
theorem dX3_goesOn_25 : decode cX3_goesOn 25 = .ok (.iconst 1, 1) := by decide +kernel
theorem dX3_goesOn_26 : decode cX3_goesOn 26 = .ok (.ireturn, 1) := by decide +kernel
theorem dX3_formOf_0 : decode cX3_formOf 0 = .ok (.iload_n 0, 1) := by decide +kernel
theorem dX3_formOf_1 : decode cX3_formOf 1 = .ok (.tableswitch 43 0 3 #[31, 34, 37, 40], 31) := by decide +kernel
theorem dX3_formOf_32 : decode cX3_formOf 32 = .ok (.ldc 93, 2) := by decide +kernel
theorem dX3_formOf_34 : decode cX3_formOf 34 = .ok (.areturn, 1) := by decide +kernel
theorem dX3_formOf_35 : decode cX3_formOf 35 = .ok (.ldc 95, 2) := by decide +kernel
theorem dX3_formOf_37 : decode cX3_formOf 37 = .ok (.areturn, 1) := by decide +kernel
theorem dX3_formOf_38 : decode cX3_formOf 38 = .ok (.ldc 97, 2) := by decide +kernel
theorem dX3_formOf_40 : decode cX3_formOf 40 = .ok (.areturn, 1) := by decide +kernel
theorem dX3_formOf_41 : decode cX3_formOf 41 = .ok (.ldc 99, 2) := by decide +kernel
theorem dX3_formOf_43 : decode cX3_formOf 43 = .ok (.areturn, 1) := by decide +kernel
theorem dX3_formOf_44 : decode cX3_formOf 44 = .ok (.ldc 101, 2) := by decide +kernel
theorem dX3_formOf_46 : decode cX3_formOf 46 = .ok (.areturn, 1) := by decide +kernel
theorem dX3_fits_0 : decode cX3_fits 0 = .ok (.iload_n 2, 1) := by decide +kernel
theorem dX3_fits_1 : decode cX3_fits 1 = .ok (.bipush 48, 2) := by decide +kernel
theorem dX3_fits_3 : decode cX3_fits 3 = .ok (.isub, 1) := by decide +kernel
theorem dX3_fits_4 : decode cX3_fits 4 = .ok (.istore_n 3, 1) := by decide +kernel
theorem dX3_fits_5 : decode cX3_fits 5 = .ok (.iload_n 1, 1) := by decide +kernel
theorem dX3_fits_6 : decode cX3_fits 6 = .ok (.lookupswitch 106 #[(100, 62), (107, 78), (110, 47), (120, 42)], 42) := by decide +kernel
theorem dX3_fits_48 : decode cX3_fits 48 = .ok (.iload_n 3, 1) := by decide +kernel
theorem dX3_fits_49 : decode cX3_fits 49 = .ok (.invokestatic 103, 3) := by decide +kernel
theorem dX3_fits_52 : decode cX3_fits 52 = .ok (.ireturn, 1) := by decide +kernel
theorem dX3_fits_53 : decode cX3_fits 53 = .ok (.iload_n 3, 1) := by decide +kernel
theorem dX3_fits_54 : decode cX3_fits 54 = .ok (.ifCond .lt 12, 3) := by decide +kernel
theorem dX3_fits_57 : decode cX3_fits 57 = .ok (.iload_n 3, 1) := by decide +kernel
theorem dX3_fits_58 : decode cX3_fits 58 = .ok (.iconst 3, 1) := by decide +kernel
theorem dX3_fits_59 : decode cX3_fits 59 = .ok (.if_icmp .ge 7, 3) := by decide +kernel
theorem dX3_fits_62 : decode cX3_fits 62 = .ok (.iconst 1, 1) := by decide +kernel
theorem dX3_fits_63 : decode cX3_fits 63 = .ok (.goto 4, 3) := by decide +kernel
theorem dX3_fits_66 : decode cX3_fits 66 = .ok (.iconst 0, 1) := by decide +kernel
theorem dX3_fits_67 : decode cX3_fits 67 = .ok (.ireturn, 1) := by decide +kernel
theorem dX3_fits_68 : decode cX3_fits 68 = .ok (.iload_n 3, 1) := by decide +kernel
theorem dX3_fits_69 : decode cX3_fits 69 = .ok (.ifCond .lt 13, 3) := by decide +kernel
theorem dX3_fits_72 : decode cX3_fits 72 = .ok (.iload_n 3, 1) := by decide +kernel
theorem dX3_fits_73 : decode cX3_fits 73 = .ok (.bipush 9, 2) := by decide +kernel
theorem dX3_fits_75 : decode cX3_fits 75 = .ok (.if_icmp .gt 7, 3) := by decide +kernel
theorem dX3_fits_78 : decode cX3_fits 78 = .ok (.iconst 1, 1) := by decide +kernel
theorem dX3_fits_79 : decode cX3_fits 79 = .ok (.goto 4, 3) := by decide +kernel
theorem dX3_fits_82 : decode cX3_fits 82 = .ok (.iconst 0, 1) := by decide +kernel
theorem dX3_fits_83 : decode cX3_fits 83 = .ok (.ireturn, 1) := by decide +kernel
theorem dX3_fits_84 : decode cX3_fits 84 = .ok (.iload_n 3, 1) := by decide +kernel
theorem dX3_fits_85 : decode cX3_fits 85 = .ok (.aload_n 0, 1) := by decide +kernel
theorem dX3_fits_86 : decode cX3_fits 86 = .ok (.getfield 12, 3) := by decide +kernel
theorem dX3_fits_89 : decode cX3_fits 89 = .ok (.invokevirtual 86, 3) := by decide +kernel
theorem dX3_fits_92 : decode cX3_fits 92 = .ok (.if_icmp .lt 18, 3) := by decide +kernel
theorem dX3_fits_95 : decode cX3_fits 95 = .ok (.iload_n 3, 1) := by decide +kernel
theorem dX3_fits_96 : decode cX3_fits 96 = .ok (.aload_n 0, 1) := by decide +kernel
theorem dX3_fits_97 : decode cX3_fits 97 = .ok (.getfield 12, 3) := by decide +kernel
theorem dX3_fits_100 : decode cX3_fits 100 = .ok (.getfield 18, 3) := by decide +kernel
theorem dX3_fits_103 : decode cX3_fits 103 = .ok (.if_icmp .ge 7, 3) := by decide +kernel
theorem dX3_fits_106 : decode cX3_fits 106 = .ok (.iconst 1, 1) := by decide +kernel
theorem dX3_fits_107 : decode cX3_fits 107 = .ok (.goto 4, 3) := by decide +kernel
theorem dX3_fits_110 : decode cX3_fits 110 = .ok (.iconst 0, 1) := by decide +kernel
theorem dX3_fits_111 : decode cX3_fits 111 = .ok (.ireturn, 1) := by decide +kernel
theorem dX3_fits_112 : decode cX3_fits 112 = .ok (.iload_n 2, 1) := by decide +kernel
theorem dX3_fits_113 : decode cX3_fits 113 = .ok (.bipush 43, 2) := by decide +kernel
theorem dX3_fits_115 : decode cX3_fits 115 = .ok (.if_icmp .eq 9, 3) := by decide +kernel
theorem dX3_fits_118 : decode cX3_fits 118 = .ok (.iload_n 2, 1) := by decide +kernel
theorem dX3_fits_119 : decode cX3_fits 119 = .ok (.bipush 45, 2) := by decide +kernel
theorem dX3_fits_121 : decode cX3_fits 121 = .ok (.if_icmp .ne 7, 3) := by decide +kernel
theorem dX3_fits_124 : decode cX3_fits 124 = .ok (.iconst 1, 1) := by decide +kernel
theorem dX3_fits_125 : decode cX3_fits 125 = .ok (.goto 4, 3) := by decide +kernel
theorem dX3_fits_128 : decode cX3_fits 128 = .ok (.iconst 0, 1) := by decide +kernel
theorem dX3_fits_129 : decode cX3_fits 129 = .ok (.ireturn, 1) := by decide +kernel
theorem dX3_keep_0 : decode cX3_keep 0 = .ok (.iload_n 2, 1) := by decide +kernel
theorem dX3_keep_1 : decode cX3_keep 1 = .ok (.bipush 48, 2) := by decide +kernel
theorem dX3_keep_3 : decode cX3_keep 3 = .ok (.isub, 1) := by decide +kernel
theorem dX3_keep_4 : decode cX3_keep 4 = .ok (.istore_n 3, 1) := by decide +kernel
theorem dX3_keep_5 : decode cX3_keep 5 = .ok (.iload_n 1, 1) := by decide +kernel
theorem dX3_keep_6 : decode cX3_keep 6 = .ok (.bipush 43, 2) := by decide +kernel
theorem dX3_keep_8 : decode cX3_keep 8 = .ok (.if_icmp .ne 21, 3) := by decide +kernel
theorem dX3_keep_11 : decode cX3_keep 11 = .ok (.aload_n 0, 1) := by decide +kernel
theorem dX3_keep_12 : decode cX3_keep 12 = .ok (.iload_n 2, 1) := by decide +kernel
theorem dX3_keep_13 : decode cX3_keep 13 = .ok (.bipush 45, 2) := by decide +kernel
theorem dX3_keep_15 : decode cX3_keep 15 = .ok (.if_icmp .ne 7, 3) := by decide +kernel
theorem dX3_keep_18 : decode cX3_keep 18 = .ok (.iconst 1, 1) := by decide +kernel
theorem dX3_keep_19 : decode cX3_keep 19 = .ok (.goto 4, 3) := by decide +kernel
theorem dX3_keep_22 : decode cX3_keep 22 = .ok (.iconst 0, 1) := by decide +kernel
theorem dX3_keep_23 : decode cX3_keep 23 = .ok (.putfield 89, 3) := by decide +kernel
theorem dX3_keep_26 : decode cX3_keep 26 = .ok (.goto 49, 3) := by decide +kernel
theorem dX3_keep_29 : decode cX3_keep 29 = .ok (.iload_n 1, 1) := by decide +kernel
theorem dX3_keep_30 : decode cX3_keep 30 = .ok (.bipush 100, 2) := by decide +kernel
theorem dX3_keep_32 : decode cX3_keep 32 = .ok (.if_icmp .ne 23, 3) := by decide +kernel
theorem dX3_keep_35 : decode cX3_keep 35 = .ok (.aload_n 0, 1) := by decide +kernel
theorem dX3_keep_36 : decode cX3_keep 36 = .ok (.aload_n 0, 1) := by decide +kernel
theorem dX3_keep_37 : decode cX3_keep 37 = .ok (.getfield 89, 3) := by decide +kernel
theorem dX3_keep_40 : decode cX3_keep 40 = .ok (.ifCond .eq 8, 3) := by decide +kernel
theorem dX3_keep_43 : decode cX3_keep 43 = .ok (.iload_n 3, 1) := by decide +kernel
theorem dX3_keep_44 : decode cX3_keep 44 = .ok (.ineg, 1) := by decide +kernel
theorem dX3_keep_45 : decode cX3_keep 45 = .ok (.goto 4, 3) := by decide +kernel
theorem dX3_keep_48 : decode cX3_keep 48 = .ok (.iload_n 3, 1) := by decide +kernel
theorem dX3_keep_49 : decode cX3_keep 49 = .ok (.putfield 73, 3) := by decide +kernel
theorem dX3_keep_52 : decode cX3_keep 52 = .ok (.goto 23, 3) := by decide +kernel
theorem dX3_keep_55 : decode cX3_keep 55 = .ok (.aload_n 0, 1) := by decide +kernel
theorem dX3_keep_56 : decode cX3_keep 56 = .ok (.getfield 36, 3) := by decide +kernel
theorem dX3_keep_59 : decode cX3_keep 59 = .ok (.ifCond .ne 11, 3) := by decide +kernel
theorem dX3_keep_62 : decode cX3_keep 62 = .ok (.aload_n 0, 1) := by decide +kernel
theorem dX3_keep_63 : decode cX3_keep 63 = .ok (.iload_n 3, 1) := by decide +kernel
theorem dX3_keep_64 : decode cX3_keep 64 = .ok (.putfield 67, 3) := by decide +kernel
theorem dX3_keep_67 : decode cX3_keep 67 = .ok (.goto 8, 3) := by decide +kernel
theorem dX3_keep_70 : decode cX3_keep 70 = .ok (.aload_n 0, 1) := by decide +kernel
theorem dX3_keep_71 : decode cX3_keep 71 = .ok (.iload_n 3, 1) := by decide +kernel
theorem dX3_keep_72 : decode cX3_keep 72 = .ok (.putfield 70, 3) := by decide +kernel
theorem dX3_keep_75 : decode cX3_keep 75 = .ok (.return_, 1) := by decide +kernel
theorem dX4_init_0 : decode cX4_init 0 = .ok (.aload_n 0, 1) := by decide +kernel
theorem dX4_init_1 : decode cX4_init 1 = .ok (.invokespecial 3, 3) := by decide +kernel
theorem dX4_init_4 : decode cX4_init 4 = .ok (.aload_n 0, 1) := by decide +kernel
theorem dX4_init_5 : decode cX4_init 5 = .ok (.bipush 7, 2) := by decide +kernel
theorem dX4_init_7 : decode cX4_init 7 = .ok (.anewarray 9, 3) := by decide +kernel
theorem dX4_init_10 : decode cX4_init 10 = .ok (.putfield 11, 3) := by decide +kernel
theorem dX4_init_13 : decode cX4_init 13 = .ok (.aload_n 0, 1) := by decide +kernel
theorem dX4_init_14 : decode cX4_init 14 = .ok (.bipush 7, 2) := by decide +kernel
theorem dX4_init_16 : decode cX4_init 16 = .ok (.newarray .int, 2) := by decide +kernel
theorem dX4_init_18 : decode cX4_init 18 = .ok (.putfield 17, 3) := by decide +kernel
theorem dX4_init_21 : decode cX4_init 21 = .ok (.aload_n 0, 1) := by decide +kernel
theorem dX4_init_22 : decode cX4_init 22 = .ok (.new 9, 3) := by decide +kernel
theorem dX4_init_25 : decode cX4_init 25 = .ok (.dup, 1) := by decide +kernel
theorem dX4_init_26 : decode cX4_init 26 = .ok (.invokespecial 21, 3) := by decide +kernel
theorem dX4_init_29 : decode cX4_init 29 = .ok (.putfield 22, 3) := by decide +kernel
theorem dX4_init_32 : decode cX4_init 32 = .ok (.aload_n 0, 1) := by decide +kernel
theorem dX4_init_33 : decode cX4_init 33 = .ok (.new 9, 3) := by decide +kernel
theorem dX4_init_36 : decode cX4_init 36 = .ok (.dup, 1) := by decide +kernel
theorem dX4_init_37 : decode cX4_init 37 = .ok (.invokespecial 21, 3) := by decide +kernel
theorem dX4_init_40 : decode cX4_init 40 = .ok (.putfield 26, 3) := by decide +kernel
theorem dX4_init_43 : decode cX4_init 43 = .ok (.aload_n 0, 1) := by decide +kernel
theorem dX4_init_44 : decode cX4_init 44 = .ok (.new 9, 3) := by decide +kernel
theorem dX4_init_47 : decode cX4_init 47 = .ok (.dup, 1) := by decide +kernel
theorem dX4_init_48 : decode cX4_init 48 = .ok (.invokespecial 21, 3) := by decide +kernel
theorem dX4_init_51 : decode cX4_init 51 = .ok (.putfield 29, 3) := by decide +kernel
theorem dX4_init_54 : decode cX4_init 54 = .ok (.iconst 0, 1) := by decide +kernel
theorem dX4_init_55 : decode cX4_init 55 = .ok (.istore_n 1, 1) := by decide +kernel
theorem dX4_init_56 : decode cX4_init 56 = .ok (.iload_n 1, 1) := by decide +kernel
theorem dX4_init_57 : decode cX4_init 57 = .ok (.bipush 6, 2) := by decide +kernel
theorem dX4_init_59 : decode cX4_init 59 = .ok (.if_icmp .gt 22, 3) := by decide +kernel
theorem dX4_init_62 : decode cX4_init 62 = .ok (.aload_n 0, 1) := by decide +kernel
theorem dX4_init_63 : decode cX4_init 63 = .ok (.getfield 11, 3) := by decide +kernel
theorem dX4_init_66 : decode cX4_init 66 = .ok (.iload_n 1, 1) := by decide +kernel
theorem dX4_init_67 : decode cX4_init 67 = .ok (.new 9, 3) := by decide +kernel
theorem dX4_init_70 : decode cX4_init 70 = .ok (.dup, 1) := by decide +kernel
theorem dX4_init_71 : decode cX4_init 71 = .ok (.invokespecial 21, 3) := by decide +kernel
theorem dX4_init_74 : decode cX4_init 74 = .ok (.aastore, 1) := by decide +kernel
theorem dX4_init_75 : decode cX4_init 75 = .ok (.iinc 1 1, 3) := by decide +kernel
theorem dX4_init_78 : decode cX4_init 78 = .ok (.goto (-22), 3) := by decide +kernel
theorem dX4_init_81 : decode cX4_init 81 = .ok (.return_, 1) := by decide +kernel
theorem dX4_begin_0 : decode cX4_begin 0 = .ok (.aload_n 0, 1) := by decide +kernel
theorem dX4_begin_1 : decode cX4_begin 1 = .ok (.iconst 0, 1) := by decide +kernel
theorem dX4_begin_2 : decode cX4_begin 2 = .ok (.putfield 32, 3) := by decide +kernel
theorem dX4_begin_5 : decode cX4_begin 5 = .ok (.aload_n 0, 1) := by decide +kernel
theorem dX4_begin_6 : decode cX4_begin 6 = .ok (.getfield 17, 3) := by decide +kernel
theorem dX4_begin_9 : decode cX4_begin 9 = .ok (.iconst (-1), 1) := by decide +kernel
theorem dX4_begin_10 : decode cX4_begin 10 = .ok (.invokestatic 36, 3) := by decide +kernel
theorem dX4_begin_13 : decode cX4_begin 13 = .ok (.aload_n 0, 1) := by decide +kernel
theorem dX4_begin_14 : decode cX4_begin 14 = .ok (.getfield 11, 3) := by decide +kernel
theorem dX4_begin_17 : decode cX4_begin 17 = .ok (.iconst 0, 1) := by decide +kernel
theorem dX4_begin_18 : decode cX4_begin 18 = .ok (.aaload, 1) := by decide +kernel
theorem dX4_begin_19 : decode cX4_begin 19 = .ok (.invokevirtual 42, 3) := by decide +kernel
theorem dX4_begin_22 : decode cX4_begin 22 = .ok (.return_, 1) := by decide +kernel
theorem dX4_doStep_0 : decode cX4_doStep 0 = .ok (.aload_n 0, 1) := by decide +kernel
theorem dX4_doStep_1 : decode cX4_doStep 1 = .ok (.getfield 11, 3) := by decide +kernel
theorem dX4_doStep_4 : decode cX4_doStep 4 = .ok (.iload_n 2, 1) := by decide +kernel
theorem dX4_doStep_5 : decode cX4_doStep 5 = .ok (.iconst 1, 1) := by decide +kernel
theorem dX4_doStep_6 : decode cX4_doStep 6 = .ok (.iadd, 1) := by decide +kernel
theorem dX4_doStep_7 : decode cX4_doStep 7 = .ok (.aaload, 1) := by decide +kernel
theorem dX4_doStep_8 : decode cX4_doStep 8 = .ok (.astore_n 3, 1) := by decide +kernel
theorem dX4_doStep_9 : decode cX4_doStep 9 = .ok (.aload_n 3, 1) := by decide +kernel
theorem dX4_doStep_10 : decode cX4_doStep 10 = .ok (.aload_n 0, 1) := by decide +kernel
theorem dX4_doStep_11 : decode cX4_doStep 11 = .ok (.getfield 11, 3) := by decide +kernel
theorem dX4_doStep_14 : decode cX4_doStep 14 = .ok (.iload_n 2, 1) := by decide +kernel
theorem dX4_doStep_15 : decode cX4_doStep 15 = .ok (.aaload, 1) := by decide +kernel
theorem dX4_doStep_16 : decode cX4_doStep 16 = .ok (.invokevirtual 44, 3) := by decide +kernel
theorem dX4_doStep_19 : decode cX4_doStep 19 = .ok (.aload_n 3, 1) := by decide +kernel
theorem dX4_doStep_20 : decode cX4_doStep 20 = .ok (.getfield 48, 3) := by decide +kernel
theorem dX4_doStep_23 : decode cX4_doStep 23 = .ok (.ifCond .eq 4, 3) := by decide +kernel
theorem dX4_doStep_26 : decode cX4_doStep 26 = .ok (.return_, 1) := by decide +kernel
theorem dX4_doStep_27 : decode cX4_doStep 27 = .ok (.aload_n 1, 1) := by decide +kernel
theorem dX4_doStep_28 : decode cX4_doStep 28 = .ok (.getfield 52, 3) := by decide +kernel
theorem dX4_doStep_31 : decode cX4_doStep 31 = .ok (.iload_n 2, 1) := by decide +kernel
theorem dX4_doStep_32 : decode cX4_doStep 32 = .ok (.iaload, 1) := by decide +kernel
theorem dX4_doStep_33 : decode cX4_doStep 33 = .ok (.istore 4, 2) := by decide +kernel
theorem dX4_doStep_35 : decode cX4_doStep 35 = .ok (.aload_n 1, 1) := by decide +kernel
theorem dX4_doStep_36 : decode cX4_doStep 36 = .ok (.getfield 57, 3) := by decide +kernel
theorem dX4_doStep_39 : decode cX4_doStep 39 = .ok (.iload_n 2, 1) := by decide +kernel
theorem dX4_doStep_40 : decode cX4_doStep 40 = .ok (.iaload, 1) := by decide +kernel
theorem dX4_doStep_41 : decode cX4_doStep 41 = .ok (.tableswitch 101 0 3 #[31, 52, 73, 82], 31) := by decide +kernel
theorem dX4_doStep_72 : decode cX4_doStep 72 = .ok (.aload_n 3, 1) := by decide +kernel
theorem dX4_doStep_73 : decode cX4_doStep 73 = .ok (.iload 4, 2) := by decide +kernel
theorem dX4_doStep_75 : decode cX4_doStep 75 = .ok (.aload_n 1, 1) := by decide +kernel
theorem dX4_doStep_76 : decode cX4_doStep 76 = .ok (.getfield 60, 3) := by decide +kernel
theorem dX4_doStep_79 : decode cX4_doStep 79 = .ok (.iload_n 2, 1) := by decide +kernel
theorem dX4_doStep_80 : decode cX4_doStep 80 = .ok (.iaload, 1) := by decide +kernel
theorem dX4_doStep_81 : decode cX4_doStep 81 = .ok (.aload_n 1, 1) := by decide +kernel
theorem dX4_doStep_82 : decode cX4_doStep 82 = .ok (.getfield 63, 3) := by decide +kernel
theorem dX4_doStep_85 : decode cX4_doStep 85 = .ok (.iload_n 2, 1) := by decide +kernel
theorem dX4_doStep_86 : decode cX4_doStep 86 = .ok (.iaload, 1) := by decide +kernel
theorem dX4_doStep_87 : decode cX4_doStep 87 = .ok (.invokevirtual 66, 3) := by decide +kernel
theorem dX4_doStep_90 : decode cX4_doStep 90 = .ok (.goto 52, 3) := by decide +kernel
theorem dX4_doStep_93 : decode cX4_doStep 93 = .ok (.aload_n 3, 1) := by decide +kernel
theorem dX4_doStep_94 : decode cX4_doStep 94 = .ok (.iload 4, 2) := by decide +kernel
theorem dX4_doStep_96 : decode cX4_doStep 96 = .ok (.aload_n 1, 1) := by decide +kernel
theorem dX4_doStep_97 : decode cX4_doStep 97 = .ok (.getfield 60, 3) := by decide +kernel
theorem dX4_doStep_100 : decode cX4_doStep 100 = .ok (.iload_n 2, 1) := by decide +kernel
theorem dX4_doStep_101 : decode cX4_doStep 101 = .ok (.iaload, 1) := by decide +kernel
theorem dX4_doStep_102 : decode cX4_doStep 102 = .ok (.aload_n 1, 1) := by decide +kernel
theorem dX4_doStep_103 : decode cX4_doStep 103 = .ok (.getfield 63, 3) := by decide +kernel
theorem dX4_doStep_106 : decode cX4_doStep 106 = .ok (.iload_n 2, 1) := by decide +kernel
theorem dX4_doStep_107 : decode cX4_doStep 107 = .ok (.iaload, 1) := by decide +kernel
theorem dX4_doStep_108 : decode cX4_doStep 108 = .ok (.invokevirtual 70, 3) := by decide +kernel
theorem dX4_doStep_111 : decode cX4_doStep 111 = .ok (.goto 31, 3) := by decide +kernel
theorem dX4_doStep_114 : decode cX4_doStep 114 = .ok (.aload_n 3, 1) := by decide +kernel
theorem dX4_doStep_115 : decode cX4_doStep 115 = .ok (.iload 4, 2) := by decide +kernel
theorem dX4_doStep_117 : decode cX4_doStep 117 = .ok (.invokevirtual 73, 3) := by decide +kernel
theorem dX4_doStep_120 : decode cX4_doStep 120 = .ok (.goto 22, 3) := by decide +kernel
theorem dX4_doStep_123 : decode cX4_doStep 123 = .ok (.aload_n 3, 1) := by decide +kernel
theorem dX4_doStep_124 : decode cX4_doStep 124 = .ok (.iload 4, 2) := by decide +kernel
theorem dX4_doStep_126 : decode cX4_doStep 126 = .ok (.iconst 2, 1) := by decide +kernel
theorem dX4_doStep_127 : decode cX4_doStep 127 = .ok (.iload 4, 2) := by decide +kernel
theorem dX4_doStep_129 : decode cX4_doStep 129 = .ok (.imul, 1) := by decide +kernel
theorem dX4_doStep_130 : decode cX4_doStep 130 = .ok (.aload_n 1, 1) := by decide +kernel
theorem dX4_doStep_131 : decode cX4_doStep 131 = .ok (.getfield 63, 3) := by decide +kernel
theorem dX4_doStep_134 : decode cX4_doStep 134 = .ok (.iload_n 2, 1) := by decide +kernel
theorem dX4_doStep_135 : decode cX4_doStep 135 = .ok (.iaload, 1) := by decide +kernel
theorem dX4_doStep_136 : decode cX4_doStep 136 = .ok (.invokevirtual 70, 3) := by decide +kernel
theorem dX4_doStep_139 : decode cX4_doStep 139 = .ok (.goto 3, 3) := by decide +kernel
theorem dX4_doStep_142 : decode cX4_doStep 142 = .ok (.aload_n 3, 1) := by decide +kernel
theorem dX4_doStep_143 : decode cX4_doStep 143 = .ok (.invokevirtual 77, 3) := by decide +kernel
theorem dX4_doStep_146 : decode cX4_doStep 146 = .ok (.return_, 1) := by decide +kernel
theorem dX4_goRound_0 : decode cX4_goRound 0 = .ok (.aload_n 0, 1) := by decide +kernel
theorem dX4_goRound_1 : decode cX4_goRound 1 = .ok (.getfield 11, 3) := by decide +kernel
theorem dX4_goRound_4 : decode cX4_goRound 4 = .ok (.iload_n 2, 1) := by decide +kernel
theorem dX4_goRound_5 : decode cX4_goRound 5 = .ok (.aaload, 1) := by decide +kernel
theorem dX4_goRound_6 : decode cX4_goRound 6 = .ok (.astore 4, 2) := by decide +kernel
theorem dX4_goRound_8 : decode cX4_goRound 8 = .ok (.aload_n 0, 1) := by decide +kernel
theorem dX4_goRound_9 : decode cX4_goRound 9 = .ok (.getfield 11, 3) := by decide +kernel
theorem dX4_goRound_12 : decode cX4_goRound 12 = .ok (.iload_n 3, 1) := by decide +kernel
theorem dX4_goRound_13 : decode cX4_goRound 13 = .ok (.aaload, 1) := by decide +kernel
theorem dX4_goRound_14 : decode cX4_goRound 14 = .ok (.astore 5, 2) := by decide +kernel
theorem dX4_goRound_16 : decode cX4_goRound 16 = .ok (.aload_n 0, 1) := by decide +kernel
theorem dX4_goRound_17 : decode cX4_goRound 17 = .ok (.getfield 22, 3) := by decide +kernel
theorem dX4_goRound_20 : decode cX4_goRound 20 = .ok (.aload 4, 2) := by decide +kernel
theorem dX4_goRound_22 : decode cX4_goRound 22 = .ok (.invokevirtual 44, 3) := by decide +kernel
theorem dX4_goRound_25 : decode cX4_goRound 25 = .ok (.aload_n 0, 1) := by decide +kernel
theorem dX4_goRound_26 : decode cX4_goRound 26 = .ok (.getfield 29, 3) := by decide +kernel
theorem dX4_goRound_29 : decode cX4_goRound 29 = .ok (.aload 4, 2) := by decide +kernel
theorem dX4_goRound_31 : decode cX4_goRound 31 = .ok (.invokevirtual 44, 3) := by decide +kernel
theorem dX4_goRound_34 : decode cX4_goRound 34 = .ok (.iconst 0, 1) := by decide +kernel
theorem dX4_goRound_35 : decode cX4_goRound 35 = .ok (.istore 6, 2) := by decide +kernel
theorem dX4_goRound_37 : decode cX4_goRound 37 = .ok (.iload 6, 2) := by decide +kernel
theorem dX4_goRound_39 : decode cX4_goRound 39 = .ok (.sipush 1000, 3) := by decide +kernel
theorem dX4_goRound_42 : decode cX4_goRound 42 = .ok (.if_icmp .ge 99, 3) := by decide +kernel
theorem dX4_goRound_45 : decode cX4_goRound 45 = .ok (.iload_n 2, 1) := by decide +kernel
theorem dX4_goRound_46 : decode cX4_goRound 46 = .ok (.istore 7, 2) := by decide +kernel
theorem dX4_goRound_48 : decode cX4_goRound 48 = .ok (.iload 7, 2) := by decide +kernel
theorem dX4_goRound_50 : decode cX4_goRound 50 = .ok (.iload_n 3, 1) := by decide +kernel
theorem dX4_goRound_51 : decode cX4_goRound 51 = .ok (.if_icmp .ge 16, 3) := by decide +kernel
theorem dX4_goRound_54 : decode cX4_goRound 54 = .ok (.aload_n 0, 1) := by decide +kernel
theorem dX4_goRound_55 : decode cX4_goRound 55 = .ok (.aload_n 1, 1) := by decide +kernel
theorem dX4_goRound_56 : decode cX4_goRound 56 = .ok (.iload 7, 2) := by decide +kernel
theorem dX4_goRound_58 : decode cX4_goRound 58 = .ok (.invokevirtual 80, 3) := by decide +kernel
theorem dX4_goRound_61 : decode cX4_goRound 61 = .ok (.iinc 7 1, 3) := by decide +kernel
theorem dX4_goRound_64 : decode cX4_goRound 64 = .ok (.goto (-16), 3) := by decide +kernel
theorem dX4_goRound_67 : decode cX4_goRound 67 = .ok (.aload_n 0, 1) := by decide +kernel
theorem dX4_goRound_68 : decode cX4_goRound 68 = .ok (.getfield 26, 3) := by decide +kernel
theorem dX4_goRound_71 : decode cX4_goRound 71 = .ok (.aload 4, 2) := by decide +kernel
theorem dX4_goRound_73 : decode cX4_goRound 73 = .ok (.invokevirtual 44, 3) := by decide +kernel
theorem dX4_goRound_76 : decode cX4_goRound 76 = .ok (.aload_n 0, 1) := by decide +kernel
theorem dX4_goRound_77 : decode cX4_goRound 77 = .ok (.getfield 26, 3) := by decide +kernel
theorem dX4_goRound_80 : decode cX4_goRound 80 = .ok (.aload 5, 2) := by decide +kernel
theorem dX4_goRound_82 : decode cX4_goRound 82 = .ok (.invokevirtual 84, 3) := by decide +kernel
theorem dX4_goRound_85 : decode cX4_goRound 85 = .ok (.aload_n 0, 1) := by decide +kernel
theorem dX4_goRound_86 : decode cX4_goRound 86 = .ok (.getfield 26, 3) := by decide +kernel
theorem dX4_goRound_89 : decode cX4_goRound 89 = .ok (.aload 4, 2) := by decide +kernel
theorem dX4_goRound_91 : decode cX4_goRound 91 = .ok (.invokevirtual 87, 3) := by decide +kernel
theorem dX4_goRound_94 : decode cX4_goRound 94 = .ok (.ifCond .eq 6, 3) := by decide +kernel
theorem dX4_goRound_97 : decode cX4_goRound 97 = .ok (.goto 44, 3) := by decide +kernel
theorem dX4_goRound_100 : decode cX4_goRound 100 = .ok (.aload_n 0, 1) := by decide +kernel
theorem dX4_goRound_101 : decode cX4_goRound 101 = .ok (.dup, 1) := by decide +kernel
theorem dX4_goRound_102 : decode cX4_goRound 102 = .ok (.getfield 32, 3) := by decide +kernel
theorem dX4_goRound_105 : decode cX4_goRound 105 = .ok (.iconst 1, 1) := by decide +kernel
theorem dX4_goRound_106 : decode cX4_goRound 106 = .ok (.iadd, 1) := by decide +kernel
theorem dX4_goRound_107 : decode cX4_goRound 107 = .ok (.putfield 32, 3) := by decide +kernel
theorem dX4_goRound_110 : decode cX4_goRound 110 = .ok (.aload_n 0, 1) := by decide +kernel
theorem dX4_goRound_111 : decode cX4_goRound 111 = .ok (.getfield 29, 3) := by decide +kernel
theorem dX4_goRound_114 : decode cX4_goRound 114 = .ok (.aload_n 0, 1) := by decide +kernel
theorem dX4_goRound_115 : decode cX4_goRound 115 = .ok (.getfield 26, 3) := by decide +kernel
theorem dX4_goRound_118 : decode cX4_goRound 118 = .ok (.invokevirtual 91, 3) := by decide +kernel
theorem dX4_goRound_121 : decode cX4_goRound 121 = .ok (.aload 4, 2) := by decide +kernel
theorem dX4_goRound_123 : decode cX4_goRound 123 = .ok (.aload_n 0, 1) := by decide +kernel
theorem dX4_goRound_124 : decode cX4_goRound 124 = .ok (.getfield 29, 3) := by decide +kernel
theorem dX4_goRound_127 : decode cX4_goRound 127 = .ok (.invokevirtual 44, 3) := by decide +kernel
theorem dX4_goRound_130 : decode cX4_goRound 130 = .ok (.aload 4, 2) := by decide +kernel
theorem dX4_goRound_132 : decode cX4_goRound 132 = .ok (.invokevirtual 77, 3) := by decide +kernel
theorem dX4_goRound_135 : decode cX4_goRound 135 = .ok (.iinc 6 1, 3) := by decide +kernel
theorem dX4_goRound_138 : decode cX4_goRound 138 = .ok (.goto (-101), 3) := by decide +kernel
theorem dX4_goRound_141 : decode cX4_goRound 141 = .ok (.aload 4, 2) := by decide +kernel
theorem dX4_goRound_143 : decode cX4_goRound 143 = .ok (.aload_n 0, 1) := by decide +kernel
theorem dX4_goRound_144 : decode cX4_goRound 144 = .ok (.getfield 22, 3) := by decide +kernel
theorem dX4_goRound_147 : decode cX4_goRound 147 = .ok (.invokevirtual 44, 3) := by decide +kernel
theorem dX4_goRound_150 : decode cX4_goRound 150 = .ok (.aload 4, 2) := by decide +kernel
theorem dX4_goRound_152 : decode cX4_goRound 152 = .ok (.aload 5, 2) := by decide +kernel
theorem dX4_goRound_154 : decode cX4_goRound 154 = .ok (.invokevirtual 84, 3) := by decide +kernel
theorem dX4_goRound_157 : decode cX4_goRound 157 = .ok (.iload_n 2, 1) := by decide +kernel
theorem dX4_goRound_158 : decode cX4_goRound 158 = .ok (.istore 6, 2) := by decide +kernel
theorem dX4_goRound_160 : decode cX4_goRound 160 = .ok (.iload 6, 2) := by decide +kernel
theorem dX4_goRound_162 : decode cX4_goRound 162 = .ok (.iload_n 3, 1) := by decide +kernel
theorem dX4_goRound_163 : decode cX4_goRound 163 = .ok (.if_icmp .ge 16, 3) := by decide +kernel
theorem dX4_goRound_166 : decode cX4_goRound 166 = .ok (.aload_n 0, 1) := by decide +kernel
theorem dX4_goRound_167 : decode cX4_goRound 167 = .ok (.aload_n 1, 1) := by decide +kernel
theorem dX4_goRound_168 : decode cX4_goRound 168 = .ok (.iload 6, 2) := by decide +kernel
theorem dX4_goRound_170 : decode cX4_goRound 170 = .ok (.invokevirtual 80, 3) := by decide +kernel
theorem dX4_goRound_173 : decode cX4_goRound 173 = .ok (.iinc 6 1, 3) := by decide +kernel
theorem dX4_goRound_176 : decode cX4_goRound 176 = .ok (.goto (-16), 3) := by decide +kernel
theorem dX4_goRound_179 : decode cX4_goRound 179 = .ok (.aload_n 0, 1) := by decide +kernel
theorem dX4_goRound_180 : decode cX4_goRound 180 = .ok (.getfield 11, 3) := by decide +kernel
theorem dX4_goRound_183 : decode cX4_goRound 183 = .ok (.iload_n 3, 1) := by decide +kernel
theorem dX4_goRound_184 : decode cX4_goRound 184 = .ok (.iconst 1, 1) := by decide +kernel
theorem dX4_goRound_185 : decode cX4_goRound 185 = .ok (.iadd, 1) := by decide +kernel
theorem dX4_goRound_186 : decode cX4_goRound 186 = .ok (.aaload, 1) := by decide +kernel
theorem dX4_goRound_187 : decode cX4_goRound 187 = .ok (.aload 4, 2) := by decide +kernel
theorem dX4_goRound_189 : decode cX4_goRound 189 = .ok (.invokevirtual 44, 3) := by decide +kernel
theorem dX4_goRound_192 : decode cX4_goRound 192 = .ok (.return_, 1) := by decide +kernel
theorem dX4_pointsAhead_0 : decode cX4_pointsAhead 0 = .ok (.aload_n 0, 1) := by decide +kernel
theorem dX4_pointsAhead_1 : decode cX4_pointsAhead 1 = .ok (.getfield 17, 3) := by decide +kernel
theorem dX4_pointsAhead_4 : decode cX4_pointsAhead 4 = .ok (.iload_n 1, 1) := by decide +kernel
theorem dX4_pointsAhead_5 : decode cX4_pointsAhead 5 = .ok (.iaload, 1) := by decide +kernel
theorem dX4_pointsAhead_6 : decode cX4_pointsAhead 6 = .ok (.iconst (-1), 1) := by decide +kernel
theorem dX4_pointsAhead_7 : decode cX4_pointsAhead 7 = .ok (.if_icmp .ne 18, 3) := by decide +kernel
theorem dX4_pointsAhead_10 : decode cX4_pointsAhead 10 = .ok (.aload_n 0, 1) := by decide +kernel
theorem dX4_pointsAhead_11 : decode cX4_pointsAhead 11 = .ok (.getfield 17, 3) := by decide +kernel
theorem dX4_pointsAhead_14 : decode cX4_pointsAhead 14 = .ok (.iload_n 1, 1) := by decide +kernel
theorem dX4_pointsAhead_15 : decode cX4_pointsAhead 15 = .ok (.aload_n 0, 1) := by decide +kernel
theorem dX4_pointsAhead_16 : decode cX4_pointsAhead 16 = .ok (.getfield 11, 3) := by decide +kernel
theorem dX4_pointsAhead_19 : decode cX4_pointsAhead 19 = .ok (.iload_n 1, 1) := by decide +kernel
theorem dX4_pointsAhead_20 : decode cX4_pointsAhead 20 = .ok (.aaload, 1) := by decide +kernel
theorem dX4_pointsAhead_21 : decode cX4_pointsAhead 21 = .ok (.invokevirtual 94, 3) := by decide +kernel
theorem dX4_pointsAhead_24 : decode cX4_pointsAhead 24 = .ok (.iastore, 1) := by decide +kernel
theorem dX4_pointsAhead_25 : decode cX4_pointsAhead 25 = .ok (.aload_n 0, 1) := by decide +kernel
theorem dX4_pointsAhead_26 : decode cX4_pointsAhead 26 = .ok (.getfield 17, 3) := by decide +kernel
theorem dX4_pointsAhead_29 : decode cX4_pointsAhead 29 = .ok (.iload_n 1, 1) := by decide +kernel
theorem dX4_pointsAhead_30 : decode cX4_pointsAhead 30 = .ok (.iaload, 1) := by decide +kernel
theorem dX4_pointsAhead_31 : decode cX4_pointsAhead 31 = .ok (.ireturn, 1) := by decide +kernel
theorem dX4_isDead_0 : decode cX4_isDead 0 = .ok (.aload_n 0, 1) := by decide +kernel
theorem dX4_isDead_1 : decode cX4_isDead 1 = .ok (.getfield 11, 3) := by decide +kernel
theorem dX4_isDead_4 : decode cX4_isDead 4 = .ok (.iload_n 1, 1) := by decide +kernel
theorem dX4_isDead_5 : decode cX4_isDead 5 = .ok (.aaload, 1) := by decide +kernel
theorem dX4_isDead_6 : decode cX4_isDead 6 = .ok (.getfield 48, 3) := by decide +kernel
theorem dX4_isDead_9 : decode cX4_isDead 9 = .ok (.ireturn, 1) := by decide +kernel
theorem dX4_kills_0 : decode cX4_kills 0 = .ok (.aload_n 0, 1) := by decide +kernel
theorem dX4_kills_1 : decode cX4_kills 1 = .ok (.getfield 11, 3) := by decide +kernel
theorem dX4_kills_4 : decode cX4_kills 4 = .ok (.iload_n 1, 1) := by decide +kernel
theorem dX4_kills_5 : decode cX4_kills 5 = .ok (.aaload, 1) := by decide +kernel
theorem dX4_kills_6 : decode cX4_kills 6 = .ok (.getfield 48, 3) := by decide +kernel
theorem dX4_kills_9 : decode cX4_kills 9 = .ok (.ifCond .ne 21, 3) := by decide +kernel
theorem dX4_kills_12 : decode cX4_kills 12 = .ok (.aload_n 0, 1) := by decide +kernel
theorem dX4_kills_13 : decode cX4_kills 13 = .ok (.getfield 11, 3) := by decide +kernel
theorem dX4_kills_16 : decode cX4_kills 16 = .ok (.iload_n 1, 1) := by decide +kernel
theorem dX4_kills_17 : decode cX4_kills 17 = .ok (.iconst 1, 1) := by decide +kernel
theorem dX4_kills_18 : decode cX4_kills 18 = .ok (.iadd, 1) := by decide +kernel
theorem dX4_kills_19 : decode cX4_kills 19 = .ok (.aaload, 1) := by decide +kernel
theorem dX4_kills_20 : decode cX4_kills 20 = .ok (.getfield 48, 3) := by decide +kernel
theorem dX4_kills_23 : decode cX4_kills 23 = .ok (.ifCond .eq 7, 3) := by decide +kernel
theorem dX4_kills_26 : decode cX4_kills 26 = .ok (.iconst 1, 1) := by decide +kernel
theorem dX4_kills_27 : decode cX4_kills 27 = .ok (.goto 4, 3) := by decide +kernel
theorem dX4_kills_30 : decode cX4_kills 30 = .ok (.iconst 0, 1) := by decide +kernel
theorem dX4_kills_31 : decode cX4_kills 31 = .ok (.ireturn, 1) := by decide +kernel
theorem dX4_changesNothing_0 : decode cX4_changesNothing 0 = .ok (.aload_n 0, 1) := by decide +kernel
theorem dX4_changesNothing_1 : decode cX4_changesNothing 1 = .ok (.getfield 11, 3) := by decide +kernel
theorem dX4_changesNothing_4 : decode cX4_changesNothing 4 = .ok (.iload_n 1, 1) := by decide +kernel
theorem dX4_changesNothing_5 : decode cX4_changesNothing 5 = .ok (.aaload, 1) := by decide +kernel
theorem dX4_changesNothing_6 : decode cX4_changesNothing 6 = .ok (.astore_n 2, 1) := by decide +kernel
theorem dX4_changesNothing_7 : decode cX4_changesNothing 7 = .ok (.aload_n 0, 1) := by decide +kernel
theorem dX4_changesNothing_8 : decode cX4_changesNothing 8 = .ok (.getfield 11, 3) := by decide +kernel
theorem dX4_changesNothing_11 : decode cX4_changesNothing 11 = .ok (.iload_n 1, 1) := by decide +kernel
theorem dX4_changesNothing_12 : decode cX4_changesNothing 12 = .ok (.iconst 1, 1) := by decide +kernel
theorem dX4_changesNothing_13 : decode cX4_changesNothing 13 = .ok (.iadd, 1) := by decide +kernel
theorem dX4_changesNothing_14 : decode cX4_changesNothing 14 = .ok (.aaload, 1) := by decide +kernel
theorem dX4_changesNothing_15 : decode cX4_changesNothing 15 = .ok (.astore_n 3, 1) := by decide +kernel
theorem dX4_changesNothing_16 : decode cX4_changesNothing 16 = .ok (.aload_n 2, 1) := by decide +kernel
theorem dX4_changesNothing_17 : decode cX4_changesNothing 17 = .ok (.getfield 48, 3) := by decide +kernel
theorem dX4_changesNothing_20 : decode cX4_changesNothing 20 = .ok (.ifCond .ne 23, 3) := by decide +kernel
theorem dX4_changesNothing_23 : decode cX4_changesNothing 23 = .ok (.aload_n 2, 1) := by decide +kernel
theorem dX4_changesNothing_24 : decode cX4_changesNothing 24 = .ok (.aload_n 3, 1) := by decide +kernel
theorem dX4_changesNothing_25 : decode cX4_changesNothing 25 = .ok (.invokevirtual 87, 3) := by decide +kernel
theorem dX4_changesNothing_28 : decode cX4_changesNothing 28 = .ok (.ifCond .eq 15, 3) := by decide +kernel
theorem dX4_changesNothing_31 : decode cX4_changesNothing 31 = .ok (.aload_n 3, 1) := by decide +kernel
theorem dX4_changesNothing_32 : decode cX4_changesNothing 32 = .ok (.aload_n 2, 1) := by decide +kernel
theorem dX4_changesNothing_33 : decode cX4_changesNothing 33 = .ok (.invokevirtual 87, 3) := by decide +kernel
theorem dX4_changesNothing_36 : decode cX4_changesNothing 36 = .ok (.ifCond .eq 7, 3) := by decide +kernel
theorem dX4_changesNothing_39 : decode cX4_changesNothing 39 = .ok (.iconst 1, 1) := by decide +kernel
theorem dX4_changesNothing_40 : decode cX4_changesNothing 40 = .ok (.goto 4, 3) := by decide +kernel
theorem dX4_changesNothing_43 : decode cX4_changesNothing 43 = .ok (.iconst 0, 1) := by decide +kernel
theorem dX4_changesNothing_44 : decode cX4_changesNothing 44 = .ok (.ireturn, 1) := by decide +kernel
end
section
theorem dX5_init_0 : decode cX5_init 0 = .ok (.aload_n 0, 1) := by decide +kernel
theorem dX5_init_1 : decode cX5_init 1 = .ok (.invokespecial 3, 3) := by decide +kernel
theorem dX5_init_4 : decode cX5_init 4 = .ok (.aload_n 0, 1) := by decide +kernel
theorem dX5_init_5 : decode cX5_init 5 = .ok (.bipush 6, 2) := by decide +kernel
theorem dX5_init_7 : decode cX5_init 7 = .ok (.newarray .int, 2) := by decide +kernel
theorem dX5_init_9 : decode cX5_init 9 = .ok (.putfield 9, 3) := by decide +kernel
theorem dX5_init_12 : decode cX5_init 12 = .ok (.aload_n 0, 1) := by decide +kernel
theorem dX5_init_13 : decode cX5_init 13 = .ok (.bipush 6, 2) := by decide +kernel
theorem dX5_init_15 : decode cX5_init 15 = .ok (.newarray .int, 2) := by decide +kernel
theorem dX5_init_17 : decode cX5_init 17 = .ok (.putfield 15, 3) := by decide +kernel
theorem dX5_init_20 : decode cX5_init 20 = .ok (.return_, 1) := by decide +kernel
theorem dX5_append_0 : decode cX5_append 0 = .ok (.aload_n 0, 1) := by decide +kernel
theorem dX5_append_1 : decode cX5_append 1 = .ok (.getfield 9, 3) := by decide +kernel
theorem dX5_append_4 : decode cX5_append 4 = .ok (.aload_n 0, 1) := by decide +kernel
theorem dX5_append_5 : decode cX5_append 5 = .ok (.getfield 18, 3) := by decide +kernel
theorem dX5_append_8 : decode cX5_append 8 = .ok (.iload_n 1, 1) := by decide +kernel
theorem dX5_append_9 : decode cX5_append 9 = .ok (.iastore, 1) := by decide +kernel
theorem dX5_append_10 : decode cX5_append 10 = .ok (.aload_n 0, 1) := by decide +kernel
theorem dX5_append_11 : decode cX5_append 11 = .ok (.getfield 15, 3) := by decide +kernel
theorem dX5_append_14 : decode cX5_append 14 = .ok (.aload_n 0, 1) := by decide +kernel
theorem dX5_append_15 : decode cX5_append 15 = .ok (.getfield 18, 3) := by decide +kernel
theorem dX5_append_18 : decode cX5_append 18 = .ok (.iload_n 3, 1) := by decide +kernel
theorem dX5_append_19 : decode cX5_append 19 = .ok (.ifCond .eq 11, 3) := by decide +kernel
theorem dX5_append_22 : decode cX5_append 22 = .ok (.getstatic 22, 3) := by decide +kernel
theorem dX5_append_25 : decode cX5_append 25 = .ok (.iload_n 2, 1) := by decide +kernel
theorem dX5_append_26 : decode cX5_append 26 = .ok (.iaload, 1) := by decide +kernel
theorem dX5_append_27 : decode cX5_append 27 = .ok (.goto 13, 3) := by decide +kernel
theorem dX5_append_30 : decode cX5_append 30 = .ok (.bipush 31, 2) := by decide +kernel
theorem dX5_append_32 : decode cX5_append 32 = .ok (.getstatic 22, 3) := by decide +kernel
theorem dX5_append_35 : decode cX5_append 35 = .ok (.iload_n 2, 1) := by decide +kernel
theorem dX5_append_36 : decode cX5_append 36 = .ok (.iaload, 1) := by decide +kernel
theorem dX5_append_37 : decode cX5_append 37 = .ok (.iconst (-1), 1) := by decide +kernel
theorem dX5_append_38 : decode cX5_append 38 = .ok (.ixor, 1) := by decide +kernel
theorem dX5_append_39 : decode cX5_append 39 = .ok (.iand, 1) := by decide +kernel
theorem dX5_append_40 : decode cX5_append 40 = .ok (.iastore, 1) := by decide +kernel
theorem dX5_append_41 : decode cX5_append 41 = .ok (.aload_n 0, 1) := by decide +kernel
theorem dX5_append_42 : decode cX5_append 42 = .ok (.dup, 1) := by decide +kernel
theorem dX5_append_43 : decode cX5_append 43 = .ok (.getfield 18, 3) := by decide +kernel
theorem dX5_append_46 : decode cX5_append 46 = .ok (.iconst 1, 1) := by decide +kernel
theorem dX5_append_47 : decode cX5_append 47 = .ok (.iadd, 1) := by decide +kernel
theorem dX5_append_48 : decode cX5_append 48 = .ok (.putfield 18, 3) := by decide +kernel
theorem dX5_append_51 : decode cX5_append 51 = .ok (.return_, 1) := by decide +kernel
theorem dX5_copy_0 : decode cX5_copy 0 = .ok (.aload_n 0, 1) := by decide +kernel
theorem dX5_copy_1 : decode cX5_copy 1 = .ok (.aload_n 1, 1) := by decide +kernel
theorem dX5_copy_2 : decode cX5_copy 2 = .ok (.getfield 18, 3) := by decide +kernel
theorem dX5_copy_5 : decode cX5_copy 5 = .ok (.putfield 18, 3) := by decide +kernel
theorem dX5_copy_8 : decode cX5_copy 8 = .ok (.aload_n 1, 1) := by decide +kernel
theorem dX5_copy_9 : decode cX5_copy 9 = .ok (.getfield 9, 3) := by decide +kernel
theorem dX5_copy_12 : decode cX5_copy 12 = .ok (.iconst 0, 1) := by decide +kernel
theorem dX5_copy_13 : decode cX5_copy 13 = .ok (.aload_n 0, 1) := by decide +kernel
theorem dX5_copy_14 : decode cX5_copy 14 = .ok (.getfield 9, 3) := by decide +kernel
theorem dX5_copy_17 : decode cX5_copy 17 = .ok (.iconst 0, 1) := by decide +kernel
theorem dX5_copy_18 : decode cX5_copy 18 = .ok (.bipush 6, 2) := by decide +kernel
theorem dX5_copy_20 : decode cX5_copy 20 = .ok (.invokestatic 25, 3) := by decide +kernel
theorem dX5_copy_23 : decode cX5_copy 23 = .ok (.aload_n 1, 1) := by decide +kernel
theorem dX5_copy_24 : decode cX5_copy 24 = .ok (.getfield 15, 3) := by decide +kernel
theorem dX5_copy_27 : decode cX5_copy 27 = .ok (.iconst 0, 1) := by decide +kernel
theorem dX5_copy_28 : decode cX5_copy 28 = .ok (.aload_n 0, 1) := by decide +kernel
theorem dX5_copy_29 : decode cX5_copy 29 = .ok (.getfield 15, 3) := by decide +kernel
theorem dX5_copy_32 : decode cX5_copy 32 = .ok (.iconst 0, 1) := by decide +kernel
theorem dX5_copy_33 : decode cX5_copy 33 = .ok (.bipush 6, 2) := by decide +kernel
theorem dX5_copy_35 : decode cX5_copy 35 = .ok (.invokestatic 25, 3) := by decide +kernel
theorem dX5_copy_38 : decode cX5_copy 38 = .ok (.return_, 1) := by decide +kernel
theorem dX5_sortsOf_0 : decode cX5_sortsOf 0 = .ok (.bipush 31, 2) := by decide +kernel
theorem dX5_sortsOf_2 : decode cX5_sortsOf 2 = .ok (.istore_n 2, 1) := by decide +kernel
theorem dX5_sortsOf_3 : decode cX5_sortsOf 3 = .ok (.iconst 0, 1) := by decide +kernel
theorem dX5_sortsOf_4 : decode cX5_sortsOf 4 = .ok (.istore_n 3, 1) := by decide +kernel
theorem dX5_sortsOf_5 : decode cX5_sortsOf 5 = .ok (.iload_n 3, 1) := by decide +kernel
theorem dX5_sortsOf_6 : decode cX5_sortsOf 6 = .ok (.aload_n 0, 1) := by decide +kernel
theorem dX5_sortsOf_7 : decode cX5_sortsOf 7 = .ok (.getfield 18, 3) := by decide +kernel
theorem dX5_sortsOf_10 : decode cX5_sortsOf 10 = .ok (.if_icmp .ge 28, 3) := by decide +kernel
theorem dX5_sortsOf_13 : decode cX5_sortsOf 13 = .ok (.aload_n 0, 1) := by decide +kernel
theorem dX5_sortsOf_14 : decode cX5_sortsOf 14 = .ok (.getfield 9, 3) := by decide +kernel
theorem dX5_sortsOf_17 : decode cX5_sortsOf 17 = .ok (.iload_n 3, 1) := by decide +kernel
theorem dX5_sortsOf_18 : decode cX5_sortsOf 18 = .ok (.iaload, 1) := by decide +kernel
theorem dX5_sortsOf_19 : decode cX5_sortsOf 19 = .ok (.iload_n 1, 1) := by decide +kernel
theorem dX5_sortsOf_20 : decode cX5_sortsOf 20 = .ok (.if_icmp .ne 12, 3) := by decide +kernel
theorem dX5_sortsOf_23 : decode cX5_sortsOf 23 = .ok (.iload_n 2, 1) := by decide +kernel
theorem dX5_sortsOf_24 : decode cX5_sortsOf 24 = .ok (.aload_n 0, 1) := by decide +kernel
theorem dX5_sortsOf_25 : decode cX5_sortsOf 25 = .ok (.getfield 15, 3) := by decide +kernel
theorem dX5_sortsOf_28 : decode cX5_sortsOf 28 = .ok (.iload_n 3, 1) := by decide +kernel
theorem dX5_sortsOf_29 : decode cX5_sortsOf 29 = .ok (.iaload, 1) := by decide +kernel
theorem dX5_sortsOf_30 : decode cX5_sortsOf 30 = .ok (.iand, 1) := by decide +kernel
theorem dX5_sortsOf_31 : decode cX5_sortsOf 31 = .ok (.istore_n 2, 1) := by decide +kernel
theorem dX5_sortsOf_32 : decode cX5_sortsOf 32 = .ok (.iinc 3 1, 3) := by decide +kernel
theorem dX5_sortsOf_35 : decode cX5_sortsOf 35 = .ok (.goto (-30), 3) := by decide +kernel
theorem dX5_sortsOf_38 : decode cX5_sortsOf 38 = .ok (.iload_n 2, 1) := by decide +kernel
theorem dX5_sortsOf_39 : decode cX5_sortsOf 39 = .ok (.ireturn, 1) := by decide +kernel
theorem dX6_init_0 : decode cX6_init 0 = .ok (.aload_n 0, 1) := by decide +kernel
theorem dX6_init_1 : decode cX6_init 1 = .ok (.invokespecial 3, 3) := by decide +kernel
theorem dX6_init_4 : decode cX6_init 4 = .ok (.aload_n 0, 1) := by decide +kernel
theorem dX6_init_5 : decode cX6_init 5 = .ok (.bipush 36, 2) := by decide +kernel
theorem dX6_init_7 : decode cX6_init 7 = .ok (.newarray .int, 2) := by decide +kernel
theorem dX6_init_9 : decode cX6_init 9 = .ok (.putfield 9, 3) := by decide +kernel
theorem dX6_init_12 : decode cX6_init 12 = .ok (.return_, 1) := by decide +kernel
theorem dX6_fill_0 : decode cX6_fill 0 = .ok (.aload_n 0, 1) := by decide +kernel
theorem dX6_fill_1 : decode cX6_fill 1 = .ok (.iconst 0, 1) := by decide +kernel
theorem dX6_fill_2 : decode cX6_fill 2 = .ok (.putfield 15, 3) := by decide +kernel
theorem dX6_fill_5 : decode cX6_fill 5 = .ok (.aload_n 0, 1) := by decide +kernel
theorem dX6_fill_6 : decode cX6_fill 6 = .ok (.getfield 9, 3) := by decide +kernel
theorem dX6_fill_9 : decode cX6_fill 9 = .ok (.bipush 16, 2) := by decide +kernel
theorem dX6_fill_11 : decode cX6_fill 11 = .ok (.invokestatic 19, 3) := by decide +kernel
theorem dX6_fill_14 : decode cX6_fill 14 = .ok (.iconst 0, 1) := by decide +kernel
theorem dX6_fill_15 : decode cX6_fill 15 = .ok (.istore_n 1, 1) := by decide +kernel
theorem dX6_fill_16 : decode cX6_fill 16 = .ok (.iload_n 1, 1) := by decide +kernel
theorem dX6_fill_17 : decode cX6_fill 17 = .ok (.bipush 6, 2) := by decide +kernel
theorem dX6_fill_19 : decode cX6_fill 19 = .ok (.if_icmp .ge 23, 3) := by decide +kernel
theorem dX6_fill_22 : decode cX6_fill 22 = .ok (.aload_n 0, 1) := by decide +kernel
theorem dX6_fill_23 : decode cX6_fill 23 = .ok (.getfield 9, 3) := by decide +kernel
theorem dX6_fill_26 : decode cX6_fill 26 = .ok (.iload_n 1, 1) := by decide +kernel
theorem dX6_fill_27 : decode cX6_fill 27 = .ok (.bipush 6, 2) := by decide +kernel
theorem dX6_fill_29 : decode cX6_fill 29 = .ok (.imul, 1) := by decide +kernel
theorem dX6_fill_30 : decode cX6_fill 30 = .ok (.iload_n 1, 1) := by decide +kernel
theorem dX6_fill_31 : decode cX6_fill 31 = .ok (.iconst 1, 1) := by decide +kernel
theorem dX6_fill_32 : decode cX6_fill 32 = .ok (.ixor, 1) := by decide +kernel
theorem dX6_fill_33 : decode cX6_fill 33 = .ok (.iadd, 1) := by decide +kernel
theorem dX6_fill_34 : decode cX6_fill 34 = .ok (.iconst 0, 1) := by decide +kernel
theorem dX6_fill_35 : decode cX6_fill 35 = .ok (.iastore, 1) := by decide +kernel
theorem dX6_fill_36 : decode cX6_fill 36 = .ok (.iinc 1 1, 3) := by decide +kernel
theorem dX6_fill_39 : decode cX6_fill 39 = .ok (.goto (-23), 3) := by decide +kernel
theorem dX6_fill_42 : decode cX6_fill 42 = .ok (.return_, 1) := by decide +kernel
theorem dX6_copy_0 : decode cX6_copy 0 = .ok (.aload_n 0, 1) := by decide +kernel
theorem dX6_copy_1 : decode cX6_copy 1 = .ok (.aload_n 1, 1) := by decide +kernel
theorem dX6_copy_2 : decode cX6_copy 2 = .ok (.getfield 15, 3) := by decide +kernel
theorem dX6_copy_5 : decode cX6_copy 5 = .ok (.putfield 15, 3) := by decide +kernel
theorem dX6_copy_8 : decode cX6_copy 8 = .ok (.aload_n 1, 1) := by decide +kernel
theorem dX6_copy_9 : decode cX6_copy 9 = .ok (.getfield 9, 3) := by decide +kernel
theorem dX6_copy_12 : decode cX6_copy 12 = .ok (.iconst 0, 1) := by decide +kernel
theorem dX6_copy_13 : decode cX6_copy 13 = .ok (.aload_n 0, 1) := by decide +kernel
theorem dX6_copy_14 : decode cX6_copy 14 = .ok (.getfield 9, 3) := by decide +kernel
theorem dX6_copy_17 : decode cX6_copy 17 = .ok (.iconst 0, 1) := by decide +kernel
theorem dX6_copy_18 : decode cX6_copy 18 = .ok (.bipush 36, 2) := by decide +kernel
theorem dX6_copy_20 : decode cX6_copy 20 = .ok (.invokestatic 25, 3) := by decide +kernel
theorem dX6_copy_23 : decode cX6_copy 23 = .ok (.return_, 1) := by decide +kernel
theorem dX6_boundOf_0 : decode cX6_boundOf 0 = .ok (.aload_n 0, 1) := by decide +kernel
theorem dX6_boundOf_1 : decode cX6_boundOf 1 = .ok (.getfield 9, 3) := by decide +kernel
theorem dX6_boundOf_4 : decode cX6_boundOf 4 = .ok (.iload_n 1, 1) := by decide +kernel
theorem dX6_boundOf_5 : decode cX6_boundOf 5 = .ok (.bipush 6, 2) := by decide +kernel
theorem dX6_boundOf_7 : decode cX6_boundOf 7 = .ok (.imul, 1) := by decide +kernel
theorem dX6_boundOf_8 : decode cX6_boundOf 8 = .ok (.iload_n 2, 1) := by decide +kernel
theorem dX6_boundOf_9 : decode cX6_boundOf 9 = .ok (.iadd, 1) := by decide +kernel
theorem dX6_boundOf_10 : decode cX6_boundOf 10 = .ok (.iaload, 1) := by decide +kernel
theorem dX6_boundOf_11 : decode cX6_boundOf 11 = .ok (.ireturn, 1) := by decide +kernel
theorem dX6_setBound_0 : decode cX6_setBound 0 = .ok (.aload_n 0, 1) := by decide +kernel
theorem dX6_setBound_1 : decode cX6_setBound 1 = .ok (.getfield 9, 3) := by decide +kernel
theorem dX6_setBound_4 : decode cX6_setBound 4 = .ok (.iload_n 1, 1) := by decide +kernel
theorem dX6_setBound_5 : decode cX6_setBound 5 = .ok (.bipush 6, 2) := by decide +kernel
theorem dX6_setBound_7 : decode cX6_setBound 7 = .ok (.imul, 1) := by decide +kernel
theorem dX6_setBound_8 : decode cX6_setBound 8 = .ok (.iload_n 2, 1) := by decide +kernel
theorem dX6_setBound_9 : decode cX6_setBound 9 = .ok (.iadd, 1) := by decide +kernel
theorem dX6_setBound_10 : decode cX6_setBound 10 = .ok (.iload_n 3, 1) := by decide +kernel
theorem dX6_setBound_11 : decode cX6_setBound 11 = .ok (.iastore, 1) := by decide +kernel
theorem dX6_setBound_12 : decode cX6_setBound 12 = .ok (.aload_n 0, 1) := by decide +kernel
theorem dX6_setBound_13 : decode cX6_setBound 13 = .ok (.getfield 9, 3) := by decide +kernel
theorem dX6_setBound_16 : decode cX6_setBound 16 = .ok (.iload_n 2, 1) := by decide +kernel
theorem dX6_setBound_17 : decode cX6_setBound 17 = .ok (.bipush 6, 2) := by decide +kernel
theorem dX6_setBound_19 : decode cX6_setBound 19 = .ok (.imul, 1) := by decide +kernel
theorem dX6_setBound_20 : decode cX6_setBound 20 = .ok (.iload_n 1, 1) := by decide +kernel
theorem dX6_setBound_21 : decode cX6_setBound 21 = .ok (.iadd, 1) := by decide +kernel
theorem dX6_setBound_22 : decode cX6_setBound 22 = .ok (.iload_n 3, 1) := by decide +kernel
theorem dX6_setBound_23 : decode cX6_setBound 23 = .ok (.iastore, 1) := by decide +kernel
theorem dX6_setBound_24 : decode cX6_setBound 24 = .ok (.return_, 1) := by decide +kernel
theorem dX6_limit_0 : decode cX6_limit 0 = .ok (.iload_n 3, 1) := by decide +kernel
theorem dX6_limit_1 : decode cX6_limit 1 = .ok (.aload_n 0, 1) := by decide +kernel
theorem dX6_limit_2 : decode cX6_limit 2 = .ok (.iload_n 1, 1) := by decide +kernel
theorem dX6_limit_3 : decode cX6_limit 3 = .ok (.iload_n 2, 1) := by decide +kernel
theorem dX6_limit_4 : decode cX6_limit 4 = .ok (.invokevirtual 31, 3) := by decide +kernel
theorem dX6_limit_7 : decode cX6_limit 7 = .ok (.if_icmp .ge 10, 3) := by decide +kernel
theorem dX6_limit_10 : decode cX6_limit 10 = .ok (.aload_n 0, 1) := by decide +kernel
theorem dX6_limit_11 : decode cX6_limit 11 = .ok (.iload_n 1, 1) := by decide +kernel
theorem dX6_limit_12 : decode cX6_limit 12 = .ok (.iload_n 2, 1) := by decide +kernel
theorem dX6_limit_13 : decode cX6_limit 13 = .ok (.iload_n 3, 1) := by decide +kernel
theorem dX6_limit_14 : decode cX6_limit 14 = .ok (.invokevirtual 35, 3) := by decide +kernel
theorem dX6_limit_17 : decode cX6_limit 17 = .ok (.return_, 1) := by decide +kernel
theorem dX6_close_0 : decode cX6_close 0 = .ok (.aload_n 0, 1) := by decide +kernel
theorem dX6_close_1 : decode cX6_close 1 = .ok (.getfield 15, 3) := by decide +kernel
theorem dX6_close_4 : decode cX6_close 4 = .ok (.ifCond .eq 4, 3) := by decide +kernel
theorem dX6_close_7 : decode cX6_close 7 = .ok (.return_, 1) := by decide +kernel
theorem dX6_close_8 : decode cX6_close 8 = .ok (.iconst 0, 1) := by decide +kernel
theorem dX6_close_9 : decode cX6_close 9 = .ok (.istore_n 1, 1) := by decide +kernel
theorem dX6_close_10 : decode cX6_close 10 = .ok (.iload_n 1, 1) := by decide +kernel
theorem dX6_close_11 : decode cX6_close 11 = .ok (.bipush 6, 2) := by decide +kernel
theorem dX6_close_13 : decode cX6_close 13 = .ok (.if_icmp .ge 14, 3) := by decide +kernel
theorem dX6_close_16 : decode cX6_close 16 = .ok (.aload_n 0, 1) := by decide +kernel
theorem dX6_close_17 : decode cX6_close 17 = .ok (.iload_n 1, 1) := by decide +kernel
theorem dX6_close_18 : decode cX6_close 18 = .ok (.invokevirtual 39, 3) := by decide +kernel
theorem dX6_close_21 : decode cX6_close 21 = .ok (.iinc 1 1, 3) := by decide +kernel
theorem dX6_close_24 : decode cX6_close 24 = .ok (.goto (-14), 3) := by decide +kernel
theorem dX6_close_27 : decode cX6_close 27 = .ok (.iconst 0, 1) := by decide +kernel
theorem dX6_close_28 : decode cX6_close 28 = .ok (.istore_n 1, 1) := by decide +kernel
theorem dX6_close_29 : decode cX6_close 29 = .ok (.iload_n 1, 1) := by decide +kernel
theorem dX6_close_30 : decode cX6_close 30 = .ok (.bipush 6, 2) := by decide +kernel
theorem dX6_close_32 : decode cX6_close 32 = .ok (.if_icmp .ge 40, 3) := by decide +kernel
theorem dX6_close_35 : decode cX6_close 35 = .ok (.aload_n 0, 1) := by decide +kernel
theorem dX6_close_36 : decode cX6_close 36 = .ok (.iload_n 1, 1) := by decide +kernel
theorem dX6_close_37 : decode cX6_close 37 = .ok (.iload_n 1, 1) := by decide +kernel
theorem dX6_close_38 : decode cX6_close 38 = .ok (.iconst 1, 1) := by decide +kernel
theorem dX6_close_39 : decode cX6_close 39 = .ok (.ixor, 1) := by decide +kernel
theorem dX6_close_40 : decode cX6_close 40 = .ok (.invokevirtual 31, 3) := by decide +kernel
theorem dX6_close_43 : decode cX6_close 43 = .ok (.ifCond .ge 8, 3) := by decide +kernel
theorem dX6_close_46 : decode cX6_close 46 = .ok (.aload_n 0, 1) := by decide +kernel
theorem dX6_close_47 : decode cX6_close 47 = .ok (.iconst 1, 1) := by decide +kernel
theorem dX6_close_48 : decode cX6_close 48 = .ok (.putfield 15, 3) := by decide +kernel
theorem dX6_close_51 : decode cX6_close 51 = .ok (.aload_n 0, 1) := by decide +kernel
theorem dX6_close_52 : decode cX6_close 52 = .ok (.iload_n 1, 1) := by decide +kernel
theorem dX6_close_53 : decode cX6_close 53 = .ok (.iload_n 1, 1) := by decide +kernel
theorem dX6_close_54 : decode cX6_close 54 = .ok (.aload_n 0, 1) := by decide +kernel
theorem dX6_close_55 : decode cX6_close 55 = .ok (.iload_n 1, 1) := by decide +kernel
theorem dX6_close_56 : decode cX6_close 56 = .ok (.iload_n 1, 1) := by decide +kernel
theorem dX6_close_57 : decode cX6_close 57 = .ok (.invokevirtual 31, 3) := by decide +kernel
theorem dX6_close_60 : decode cX6_close 60 = .ok (.bipush (-2), 2) := by decide +kernel
theorem dX6_close_62 : decode cX6_close 62 = .ok (.iand, 1) := by decide +kernel
theorem dX6_close_63 : decode cX6_close 63 = .ok (.invokevirtual 35, 3) := by decide +kernel
theorem dX6_close_66 : decode cX6_close 66 = .ok (.iinc 1 1, 3) := by decide +kernel
theorem dX6_close_69 : decode cX6_close 69 = .ok (.goto (-40), 3) := by decide +kernel
theorem dX6_close_72 : decode cX6_close 72 = .ok (.iconst 0, 1) := by decide +kernel
theorem dX6_close_73 : decode cX6_close 73 = .ok (.istore_n 1, 1) := by decide +kernel
theorem dX6_close_74 : decode cX6_close 74 = .ok (.iload_n 1, 1) := by decide +kernel
theorem dX6_close_75 : decode cX6_close 75 = .ok (.bipush 6, 2) := by decide +kernel
theorem dX6_close_77 : decode cX6_close 77 = .ok (.if_icmp .ge 34, 3) := by decide +kernel
theorem dX6_close_80 : decode cX6_close 80 = .ok (.aload_n 0, 1) := by decide +kernel
theorem dX6_close_81 : decode cX6_close 81 = .ok (.iload_n 1, 1) := by decide +kernel
theorem dX6_close_82 : decode cX6_close 82 = .ok (.iload_n 1, 1) := by decide +kernel
theorem dX6_close_83 : decode cX6_close 83 = .ok (.invokevirtual 31, 3) := by decide +kernel
theorem dX6_close_86 : decode cX6_close 86 = .ok (.aload_n 0, 1) := by decide +kernel
theorem dX6_close_87 : decode cX6_close 87 = .ok (.iload_n 1, 1) := by decide +kernel
theorem dX6_close_88 : decode cX6_close 88 = .ok (.iconst 1, 1) := by decide +kernel
theorem dX6_close_89 : decode cX6_close 89 = .ok (.iadd, 1) := by decide +kernel
theorem dX6_close_90 : decode cX6_close 90 = .ok (.iload_n 1, 1) := by decide +kernel
theorem dX6_close_91 : decode cX6_close 91 = .ok (.iconst 1, 1) := by decide +kernel
theorem dX6_close_92 : decode cX6_close 92 = .ok (.iadd, 1) := by decide +kernel
theorem dX6_close_93 : decode cX6_close 93 = .ok (.invokevirtual 31, 3) := by decide +kernel
theorem dX6_close_96 : decode cX6_close 96 = .ok (.iadd, 1) := by decide +kernel
theorem dX6_close_97 : decode cX6_close 97 = .ok (.ifCond .ge 8, 3) := by decide +kernel
theorem dX6_close_100 : decode cX6_close 100 = .ok (.aload_n 0, 1) := by decide +kernel
theorem dX6_close_101 : decode cX6_close 101 = .ok (.iconst 1, 1) := by decide +kernel
theorem dX6_close_102 : decode cX6_close 102 = .ok (.putfield 15, 3) := by decide +kernel
theorem dX6_close_105 : decode cX6_close 105 = .ok (.iinc 1 2, 3) := by decide +kernel
theorem dX6_close_108 : decode cX6_close 108 = .ok (.goto (-34), 3) := by decide +kernel
theorem dX6_close_111 : decode cX6_close 111 = .ok (.iconst 0, 1) := by decide +kernel
theorem dX6_close_112 : decode cX6_close 112 = .ok (.istore_n 1, 1) := by decide +kernel
theorem dX6_close_113 : decode cX6_close 113 = .ok (.iload_n 1, 1) := by decide +kernel
theorem dX6_close_114 : decode cX6_close 114 = .ok (.bipush 6, 2) := by decide +kernel
theorem dX6_close_116 : decode cX6_close 116 = .ok (.if_icmp .ge 43, 3) := by decide +kernel
theorem dX6_close_119 : decode cX6_close 119 = .ok (.iconst 0, 1) := by decide +kernel
theorem dX6_close_120 : decode cX6_close 120 = .ok (.istore_n 2, 1) := by decide +kernel
theorem dX6_close_121 : decode cX6_close 121 = .ok (.iload_n 2, 1) := by decide +kernel
theorem dX6_close_122 : decode cX6_close 122 = .ok (.iload_n 1, 1) := by decide +kernel
theorem dX6_close_123 : decode cX6_close 123 = .ok (.if_icmp .ge 30, 3) := by decide +kernel
theorem dX6_close_126 : decode cX6_close 126 = .ok (.aload_n 0, 1) := by decide +kernel
theorem dX6_close_127 : decode cX6_close 127 = .ok (.iload_n 1, 1) := by decide +kernel
theorem dX6_close_128 : decode cX6_close 128 = .ok (.iload_n 2, 1) := by decide +kernel
theorem dX6_close_129 : decode cX6_close 129 = .ok (.aload_n 0, 1) := by decide +kernel
theorem dX6_close_130 : decode cX6_close 130 = .ok (.iload_n 1, 1) := by decide +kernel
theorem dX6_close_131 : decode cX6_close 131 = .ok (.iload_n 1, 1) := by decide +kernel
theorem dX6_close_132 : decode cX6_close 132 = .ok (.invokevirtual 31, 3) := by decide +kernel
theorem dX6_close_135 : decode cX6_close 135 = .ok (.aload_n 0, 1) := by decide +kernel
theorem dX6_close_136 : decode cX6_close 136 = .ok (.iload_n 2, 1) := by decide +kernel
theorem dX6_close_137 : decode cX6_close 137 = .ok (.iload_n 2, 1) := by decide +kernel
theorem dX6_close_138 : decode cX6_close 138 = .ok (.invokevirtual 31, 3) := by decide +kernel
theorem dX6_close_141 : decode cX6_close 141 = .ok (.iadd, 1) := by decide +kernel
theorem dX6_close_142 : decode cX6_close 142 = .ok (.iconst 2, 1) := by decide +kernel
theorem dX6_close_143 : decode cX6_close 143 = .ok (.idiv, 1) := by decide +kernel
theorem dX6_close_144 : decode cX6_close 144 = .ok (.invokevirtual 43, 3) := by decide +kernel
theorem dX6_close_147 : decode cX6_close 147 = .ok (.iinc 2 1, 3) := by decide +kernel
theorem dX6_close_150 : decode cX6_close 150 = .ok (.goto (-29), 3) := by decide +kernel
theorem dX6_close_153 : decode cX6_close 153 = .ok (.iinc 1 1, 3) := by decide +kernel
theorem dX6_close_156 : decode cX6_close 156 = .ok (.goto (-43), 3) := by decide +kernel
theorem dX6_close_159 : decode cX6_close 159 = .ok (.return_, 1) := by decide +kernel
theorem dX6_chainBy_0 : decode cX6_chainBy 0 = .ok (.iconst 0, 1) := by decide +kernel
theorem dX6_chainBy_1 : decode cX6_chainBy 1 = .ok (.istore_n 2, 1) := by decide +kernel
theorem dX6_chainBy_2 : decode cX6_chainBy 2 = .ok (.iload_n 2, 1) := by decide +kernel
theorem dX6_chainBy_3 : decode cX6_chainBy 3 = .ok (.bipush 6, 2) := by decide +kernel
theorem dX6_chainBy_5 : decode cX6_chainBy 5 = .ok (.if_icmp .ge 71, 3) := by decide +kernel
theorem dX6_chainBy_8 : decode cX6_chainBy 8 = .ok (.aload_n 0, 1) := by decide +kernel
theorem dX6_chainBy_9 : decode cX6_chainBy 9 = .ok (.iload_n 2, 1) := by decide +kernel
theorem dX6_chainBy_10 : decode cX6_chainBy 10 = .ok (.iload_n 1, 1) := by decide +kernel
theorem dX6_chainBy_11 : decode cX6_chainBy 11 = .ok (.invokevirtual 31, 3) := by decide +kernel
theorem dX6_chainBy_14 : decode cX6_chainBy 14 = .ok (.istore_n 3, 1) := by decide +kernel
theorem dX6_chainBy_15 : decode cX6_chainBy 15 = .ok (.iconst 0, 1) := by decide +kernel
theorem dX6_chainBy_16 : decode cX6_chainBy 16 = .ok (.istore 4, 2) := by decide +kernel
theorem dX6_chainBy_18 : decode cX6_chainBy 18 = .ok (.iload 4, 2) := by decide +kernel
theorem dX6_chainBy_20 : decode cX6_chainBy 20 = .ok (.bipush 6, 2) := by decide +kernel
theorem dX6_chainBy_22 : decode cX6_chainBy 22 = .ok (.if_icmp .ge 48, 3) := by decide +kernel
theorem dX6_chainBy_25 : decode cX6_chainBy 25 = .ok (.iload_n 3, 1) := by decide +kernel
theorem dX6_chainBy_26 : decode cX6_chainBy 26 = .ok (.aload_n 0, 1) := by decide +kernel
theorem dX6_chainBy_27 : decode cX6_chainBy 27 = .ok (.iload_n 1, 1) := by decide +kernel
theorem dX6_chainBy_28 : decode cX6_chainBy 28 = .ok (.iconst 1, 1) := by decide +kernel
theorem dX6_chainBy_29 : decode cX6_chainBy 29 = .ok (.ixor, 1) := by decide +kernel
theorem dX6_chainBy_30 : decode cX6_chainBy 30 = .ok (.iload 4, 2) := by decide +kernel
theorem dX6_chainBy_32 : decode cX6_chainBy 32 = .ok (.invokevirtual 31, 3) := by decide +kernel
theorem dX6_chainBy_35 : decode cX6_chainBy 35 = .ok (.iadd, 1) := by decide +kernel
theorem dX6_chainBy_36 : decode cX6_chainBy 36 = .ok (.istore 5, 2) := by decide +kernel
theorem dX6_chainBy_38 : decode cX6_chainBy 38 = .ok (.iload 5, 2) := by decide +kernel
theorem dX6_chainBy_40 : decode cX6_chainBy 40 = .ok (.aload_n 0, 1) := by decide +kernel
theorem dX6_chainBy_41 : decode cX6_chainBy 41 = .ok (.iload_n 2, 1) := by decide +kernel
theorem dX6_chainBy_42 : decode cX6_chainBy 42 = .ok (.iload 4, 2) := by decide +kernel
theorem dX6_chainBy_44 : decode cX6_chainBy 44 = .ok (.invokevirtual 31, 3) := by decide +kernel
theorem dX6_chainBy_47 : decode cX6_chainBy 47 = .ok (.if_icmp .ge 17, 3) := by decide +kernel
theorem dX6_chainBy_50 : decode cX6_chainBy 50 = .ok (.aload_n 0, 1) := by decide +kernel
theorem dX6_chainBy_51 : decode cX6_chainBy 51 = .ok (.getfield 9, 3) := by decide +kernel
theorem dX6_chainBy_54 : decode cX6_chainBy 54 = .ok (.iload_n 2, 1) := by decide +kernel
theorem dX6_chainBy_55 : decode cX6_chainBy 55 = .ok (.bipush 6, 2) := by decide +kernel
theorem dX6_chainBy_57 : decode cX6_chainBy 57 = .ok (.imul, 1) := by decide +kernel
theorem dX6_chainBy_58 : decode cX6_chainBy 58 = .ok (.iload 4, 2) := by decide +kernel
theorem dX6_chainBy_60 : decode cX6_chainBy 60 = .ok (.iadd, 1) := by decide +kernel
theorem dX6_chainBy_61 : decode cX6_chainBy 61 = .ok (.iload 5, 2) := by decide +kernel
theorem dX6_chainBy_63 : decode cX6_chainBy 63 = .ok (.iastore, 1) := by decide +kernel
theorem dX6_chainBy_64 : decode cX6_chainBy 64 = .ok (.iinc 4 1, 3) := by decide +kernel
theorem dX6_chainBy_67 : decode cX6_chainBy 67 = .ok (.goto (-49), 3) := by decide +kernel
theorem dX6_chainBy_70 : decode cX6_chainBy 70 = .ok (.iinc 2 1, 3) := by decide +kernel
theorem dX6_chainBy_73 : decode cX6_chainBy 73 = .ok (.goto (-71), 3) := by decide +kernel
theorem dX6_chainBy_76 : decode cX6_chainBy 76 = .ok (.return_, 1) := by decide +kernel
theorem dX6_lose_0 : decode cX6_lose 0 = .ok (.iconst 2, 1) := by decide +kernel
theorem dX6_lose_1 : decode cX6_lose 1 = .ok (.iload_n 1, 1) := by decide +kernel
theorem dX6_lose_2 : decode cX6_lose 2 = .ok (.imul, 1) := by decide +kernel
theorem dX6_lose_3 : decode cX6_lose 3 = .ok (.istore_n 2, 1) := by decide +kernel
theorem dX6_lose_4 : decode cX6_lose 4 = .ok (.iload_n 2, 1) := by decide +kernel
theorem dX6_lose_5 : decode cX6_lose 5 = .ok (.istore_n 3, 1) := by decide +kernel
theorem dX6_lose_6 : decode cX6_lose 6 = .ok (.iload_n 3, 1) := by decide +kernel
theorem dX6_lose_7 : decode cX6_lose 7 = .ok (.iload_n 2, 1) := by decide +kernel
theorem dX6_lose_8 : decode cX6_lose 8 = .ok (.iconst 1, 1) := by decide +kernel
theorem dX6_lose_9 : decode cX6_lose 9 = .ok (.iadd, 1) := by decide +kernel
theorem dX6_lose_10 : decode cX6_lose 10 = .ok (.if_icmp .gt 42, 3) := by decide +kernel
theorem dX6_lose_13 : decode cX6_lose 13 = .ok (.iconst 0, 1) := by decide +kernel
theorem dX6_lose_14 : decode cX6_lose 14 = .ok (.istore 4, 2) := by decide +kernel
theorem dX6_lose_16 : decode cX6_lose 16 = .ok (.iload 4, 2) := by decide +kernel
theorem dX6_lose_18 : decode cX6_lose 18 = .ok (.bipush 6, 2) := by decide +kernel
theorem dX6_lose_20 : decode cX6_lose 20 = .ok (.if_icmp .ge 26, 3) := by decide +kernel
theorem dX6_lose_23 : decode cX6_lose 23 = .ok (.iload 4, 2) := by decide +kernel
theorem dX6_lose_25 : decode cX6_lose 25 = .ok (.iload_n 3, 1) := by decide +kernel
theorem dX6_lose_26 : decode cX6_lose 26 = .ok (.iconst 1, 1) := by decide +kernel
theorem dX6_lose_27 : decode cX6_lose 27 = .ok (.ixor, 1) := by decide +kernel
theorem dX6_lose_28 : decode cX6_lose 28 = .ok (.if_icmp .eq 12, 3) := by decide +kernel
theorem dX6_lose_31 : decode cX6_lose 31 = .ok (.aload_n 0, 1) := by decide +kernel
theorem dX6_lose_32 : decode cX6_lose 32 = .ok (.iload_n 3, 1) := by decide +kernel
theorem dX6_lose_33 : decode cX6_lose 33 = .ok (.iload 4, 2) := by decide +kernel
theorem dX6_lose_35 : decode cX6_lose 35 = .ok (.bipush 16, 2) := by decide +kernel
theorem dX6_lose_37 : decode cX6_lose 37 = .ok (.invokevirtual 35, 3) := by decide +kernel
theorem dX6_lose_40 : decode cX6_lose 40 = .ok (.iinc 4 1, 3) := by decide +kernel
theorem dX6_lose_43 : decode cX6_lose 43 = .ok (.goto (-27), 3) := by decide +kernel
theorem dX6_lose_46 : decode cX6_lose 46 = .ok (.iinc 3 1, 3) := by decide +kernel
theorem dX6_lose_49 : decode cX6_lose 49 = .ok (.goto (-43), 3) := by decide +kernel
theorem dX6_lose_52 : decode cX6_lose 52 = .ok (.return_, 1) := by decide +kernel
theorem dX6_assign_0 : decode cX6_assign 0 = .ok (.iconst 2, 1) := by decide +kernel
theorem dX6_assign_1 : decode cX6_assign 1 = .ok (.iload_n 1, 1) := by decide +kernel
theorem dX6_assign_2 : decode cX6_assign 2 = .ok (.imul, 1) := by decide +kernel
theorem dX6_assign_3 : decode cX6_assign 3 = .ok (.istore 4, 2) := by decide +kernel
theorem dX6_assign_5 : decode cX6_assign 5 = .ok (.iload_n 2, 1) := by decide +kernel
theorem dX6_assign_6 : decode cX6_assign 6 = .ok (.iload 4, 2) := by decide +kernel
theorem dX6_assign_8 : decode cX6_assign 8 = .ok (.iconst 1, 1) := by decide +kernel
theorem dX6_assign_9 : decode cX6_assign 9 = .ok (.iadd, 1) := by decide +kernel
theorem dX6_assign_10 : decode cX6_assign 10 = .ok (.if_icmp .ne 8, 3) := by decide +kernel
theorem dX6_assign_13 : decode cX6_assign 13 = .ok (.aload_n 0, 1) := by decide +kernel
theorem dX6_assign_14 : decode cX6_assign 14 = .ok (.iload_n 1, 1) := by decide +kernel
theorem dX6_assign_15 : decode cX6_assign 15 = .ok (.invokevirtual 46, 3) := by decide +kernel
theorem dX6_assign_18 : decode cX6_assign 18 = .ok (.iload_n 2, 1) := by decide +kernel
theorem dX6_assign_19 : decode cX6_assign 19 = .ok (.iconst 2, 1) := by decide +kernel
theorem dX6_assign_20 : decode cX6_assign 20 = .ok (.idiv, 1) := by decide +kernel
theorem dX6_assign_21 : decode cX6_assign 21 = .ok (.iload_n 1, 1) := by decide +kernel
theorem dX6_assign_22 : decode cX6_assign 22 = .ok (.if_icmp .ne 12, 3) := by decide +kernel
theorem dX6_assign_25 : decode cX6_assign 25 = .ok (.aload_n 0, 1) := by decide +kernel
theorem dX6_assign_26 : decode cX6_assign 26 = .ok (.iload_n 1, 1) := by decide +kernel
theorem dX6_assign_27 : decode cX6_assign 27 = .ok (.iload_n 3, 1) := by decide +kernel
theorem dX6_assign_28 : decode cX6_assign 28 = .ok (.invokevirtual 49, 3) := by decide +kernel
theorem dX6_assign_31 : decode cX6_assign 31 = .ok (.goto 29, 3) := by decide +kernel
theorem dX6_assign_34 : decode cX6_assign 34 = .ok (.aload_n 0, 1) := by decide +kernel
theorem dX6_assign_35 : decode cX6_assign 35 = .ok (.iload_n 1, 1) := by decide +kernel
theorem dX6_assign_36 : decode cX6_assign 36 = .ok (.invokevirtual 53, 3) := by decide +kernel
theorem dX6_assign_39 : decode cX6_assign 39 = .ok (.aload_n 0, 1) := by decide +kernel
theorem dX6_assign_40 : decode cX6_assign 40 = .ok (.iload 4, 2) := by decide +kernel
theorem dX6_assign_42 : decode cX6_assign 42 = .ok (.iload_n 2, 1) := by decide +kernel
theorem dX6_assign_43 : decode cX6_assign 43 = .ok (.iconst 1, 1) := by decide +kernel
theorem dX6_assign_44 : decode cX6_assign 44 = .ok (.ixor, 1) := by decide +kernel
theorem dX6_assign_45 : decode cX6_assign 45 = .ok (.iload_n 3, 1) := by decide +kernel
theorem dX6_assign_46 : decode cX6_assign 46 = .ok (.invokevirtual 43, 3) := by decide +kernel
theorem dX6_assign_49 : decode cX6_assign 49 = .ok (.aload_n 0, 1) := by decide +kernel
theorem dX6_assign_50 : decode cX6_assign 50 = .ok (.iload 4, 2) := by decide +kernel
theorem dX6_assign_52 : decode cX6_assign 52 = .ok (.iconst 1, 1) := by decide +kernel
theorem dX6_assign_53 : decode cX6_assign 53 = .ok (.iadd, 1) := by decide +kernel
theorem dX6_assign_54 : decode cX6_assign 54 = .ok (.iload_n 2, 1) := by decide +kernel
theorem dX6_assign_55 : decode cX6_assign 55 = .ok (.iload_n 3, 1) := by decide +kernel
theorem dX6_assign_56 : decode cX6_assign 56 = .ok (.ineg, 1) := by decide +kernel
theorem dX6_assign_57 : decode cX6_assign 57 = .ok (.invokevirtual 43, 3) := by decide +kernel
theorem dX6_assign_60 : decode cX6_assign 60 = .ok (.return_, 1) := by decide +kernel
theorem dX6_turn_0 : decode cX6_turn 0 = .ok (.iconst 2, 1) := by decide +kernel
theorem dX6_turn_1 : decode cX6_turn 1 = .ok (.iload_n 1, 1) := by decide +kernel
theorem dX6_turn_2 : decode cX6_turn 2 = .ok (.imul, 1) := by decide +kernel
theorem dX6_turn_3 : decode cX6_turn 3 = .ok (.istore_n 2, 1) := by decide +kernel
theorem dX6_turn_4 : decode cX6_turn 4 = .ok (.iload_n 2, 1) := by decide +kernel
theorem dX6_turn_5 : decode cX6_turn 5 = .ok (.iconst 1, 1) := by decide +kernel
theorem dX6_turn_6 : decode cX6_turn 6 = .ok (.iadd, 1) := by decide +kernel
theorem dX6_turn_7 : decode cX6_turn 7 = .ok (.istore_n 3, 1) := by decide +kernel
theorem dX6_turn_8 : decode cX6_turn 8 = .ok (.aload_n 0, 1) := by decide +kernel
theorem dX6_turn_9 : decode cX6_turn 9 = .ok (.iload_n 2, 1) := by decide +kernel
theorem dX6_turn_10 : decode cX6_turn 10 = .ok (.iload_n 2, 1) := by decide +kernel
theorem dX6_turn_11 : decode cX6_turn 11 = .ok (.invokevirtual 31, 3) := by decide +kernel
theorem dX6_turn_14 : decode cX6_turn 14 = .ok (.istore 4, 2) := by decide +kernel
theorem dX6_turn_16 : decode cX6_turn 16 = .ok (.aload_n 0, 1) := by decide +kernel
theorem dX6_turn_17 : decode cX6_turn 17 = .ok (.iload_n 2, 1) := by decide +kernel
theorem dX6_turn_18 : decode cX6_turn 18 = .ok (.iload_n 2, 1) := by decide +kernel
theorem dX6_turn_19 : decode cX6_turn 19 = .ok (.aload_n 0, 1) := by decide +kernel
theorem dX6_turn_20 : decode cX6_turn 20 = .ok (.iload_n 3, 1) := by decide +kernel
theorem dX6_turn_21 : decode cX6_turn 21 = .ok (.iload_n 3, 1) := by decide +kernel
theorem dX6_turn_22 : decode cX6_turn 22 = .ok (.invokevirtual 31, 3) := by decide +kernel
theorem dX6_turn_25 : decode cX6_turn 25 = .ok (.invokevirtual 35, 3) := by decide +kernel
theorem dX6_turn_28 : decode cX6_turn 28 = .ok (.aload_n 0, 1) := by decide +kernel
theorem dX6_turn_29 : decode cX6_turn 29 = .ok (.iload_n 3, 1) := by decide +kernel
theorem dX6_turn_30 : decode cX6_turn 30 = .ok (.iload_n 3, 1) := by decide +kernel
theorem dX6_turn_31 : decode cX6_turn 31 = .ok (.iload 4, 2) := by decide +kernel
theorem dX6_turn_33 : decode cX6_turn 33 = .ok (.invokevirtual 35, 3) := by decide +kernel
theorem dX6_turn_36 : decode cX6_turn 36 = .ok (.iconst 0, 1) := by decide +kernel
theorem dX6_turn_37 : decode cX6_turn 37 = .ok (.istore 5, 2) := by decide +kernel
theorem dX6_turn_39 : decode cX6_turn 39 = .ok (.iload 5, 2) := by decide +kernel
theorem dX6_turn_41 : decode cX6_turn 41 = .ok (.bipush 6, 2) := by decide +kernel
theorem dX6_turn_43 : decode cX6_turn 43 = .ok (.if_icmp .ge 52, 3) := by decide +kernel
theorem dX6_turn_46 : decode cX6_turn 46 = .ok (.iload 5, 2) := by decide +kernel
theorem dX6_turn_48 : decode cX6_turn 48 = .ok (.iconst 2, 1) := by decide +kernel
theorem dX6_turn_49 : decode cX6_turn 49 = .ok (.idiv, 1) := by decide +kernel
theorem dX6_turn_50 : decode cX6_turn 50 = .ok (.iload_n 1, 1) := by decide +kernel
theorem dX6_turn_51 : decode cX6_turn 51 = .ok (.if_icmp .ne 6, 3) := by decide +kernel
theorem dX6_turn_54 : decode cX6_turn 54 = .ok (.goto 35, 3) := by decide +kernel
theorem dX6_turn_57 : decode cX6_turn 57 = .ok (.aload_n 0, 1) := by decide +kernel
theorem dX6_turn_58 : decode cX6_turn 58 = .ok (.iload_n 2, 1) := by decide +kernel
theorem dX6_turn_59 : decode cX6_turn 59 = .ok (.iload 5, 2) := by decide +kernel
theorem dX6_turn_61 : decode cX6_turn 61 = .ok (.invokevirtual 31, 3) := by decide +kernel
theorem dX6_turn_64 : decode cX6_turn 64 = .ok (.istore 6, 2) := by decide +kernel
theorem dX6_turn_66 : decode cX6_turn 66 = .ok (.aload_n 0, 1) := by decide +kernel
theorem dX6_turn_67 : decode cX6_turn 67 = .ok (.iload_n 2, 1) := by decide +kernel
theorem dX6_turn_68 : decode cX6_turn 68 = .ok (.iload 5, 2) := by decide +kernel
theorem dX6_turn_70 : decode cX6_turn 70 = .ok (.aload_n 0, 1) := by decide +kernel
theorem dX6_turn_71 : decode cX6_turn 71 = .ok (.iload_n 3, 1) := by decide +kernel
theorem dX6_turn_72 : decode cX6_turn 72 = .ok (.iload 5, 2) := by decide +kernel
theorem dX6_turn_74 : decode cX6_turn 74 = .ok (.invokevirtual 31, 3) := by decide +kernel
theorem dX6_turn_77 : decode cX6_turn 77 = .ok (.invokevirtual 35, 3) := by decide +kernel
theorem dX6_turn_80 : decode cX6_turn 80 = .ok (.aload_n 0, 1) := by decide +kernel
theorem dX6_turn_81 : decode cX6_turn 81 = .ok (.iload_n 3, 1) := by decide +kernel
theorem dX6_turn_82 : decode cX6_turn 82 = .ok (.iload 5, 2) := by decide +kernel
theorem dX6_turn_84 : decode cX6_turn 84 = .ok (.iload 6, 2) := by decide +kernel
theorem dX6_turn_86 : decode cX6_turn 86 = .ok (.invokevirtual 35, 3) := by decide +kernel
theorem dX6_turn_89 : decode cX6_turn 89 = .ok (.iinc 5 1, 3) := by decide +kernel
theorem dX6_turn_92 : decode cX6_turn 92 = .ok (.goto (-53), 3) := by decide +kernel
theorem dX6_turn_95 : decode cX6_turn 95 = .ok (.return_, 1) := by decide +kernel
theorem dX6_shift_0 : decode cX6_shift 0 = .ok (.iconst 2, 1) := by decide +kernel
theorem dX6_shift_1 : decode cX6_shift 1 = .ok (.iload_n 1, 1) := by decide +kernel
theorem dX6_shift_2 : decode cX6_shift 2 = .ok (.imul, 1) := by decide +kernel
theorem dX6_shift_3 : decode cX6_shift 3 = .ok (.istore_n 3, 1) := by decide +kernel
theorem dX6_shift_4 : decode cX6_shift 4 = .ok (.iload_n 3, 1) := by decide +kernel
theorem dX6_shift_5 : decode cX6_shift 5 = .ok (.iconst 1, 1) := by decide +kernel
theorem dX6_shift_6 : decode cX6_shift 6 = .ok (.iadd, 1) := by decide +kernel
theorem dX6_shift_7 : decode cX6_shift 7 = .ok (.istore 4, 2) := by decide +kernel
theorem dX6_shift_9 : decode cX6_shift 9 = .ok (.iconst 0, 1) := by decide +kernel
theorem dX6_shift_10 : decode cX6_shift 10 = .ok (.istore 5, 2) := by decide +kernel
theorem dX6_shift_12 : decode cX6_shift 12 = .ok (.iload 5, 2) := by decide +kernel
theorem dX6_shift_14 : decode cX6_shift 14 = .ok (.bipush 6, 2) := by decide +kernel
theorem dX6_shift_16 : decode cX6_shift 16 = .ok (.if_icmp .ge 54, 3) := by decide +kernel
theorem dX6_shift_19 : decode cX6_shift 19 = .ok (.iload 5, 2) := by decide +kernel
theorem dX6_shift_21 : decode cX6_shift 21 = .ok (.iconst 2, 1) := by decide +kernel
theorem dX6_shift_22 : decode cX6_shift 22 = .ok (.idiv, 1) := by decide +kernel
theorem dX6_shift_23 : decode cX6_shift 23 = .ok (.iload_n 1, 1) := by decide +kernel
theorem dX6_shift_24 : decode cX6_shift 24 = .ok (.if_icmp .ne 6, 3) := by decide +kernel
theorem dX6_shift_27 : decode cX6_shift 27 = .ok (.goto 37, 3) := by decide +kernel
theorem dX6_shift_30 : decode cX6_shift 30 = .ok (.aload_n 0, 1) := by decide +kernel
theorem dX6_shift_31 : decode cX6_shift 31 = .ok (.iload_n 3, 1) := by decide +kernel
theorem dX6_shift_32 : decode cX6_shift 32 = .ok (.iload 5, 2) := by decide +kernel
theorem dX6_shift_34 : decode cX6_shift 34 = .ok (.aload_n 0, 1) := by decide +kernel
theorem dX6_shift_35 : decode cX6_shift 35 = .ok (.iload_n 3, 1) := by decide +kernel
theorem dX6_shift_36 : decode cX6_shift 36 = .ok (.iload 5, 2) := by decide +kernel
theorem dX6_shift_38 : decode cX6_shift 38 = .ok (.invokevirtual 31, 3) := by decide +kernel
theorem dX6_shift_41 : decode cX6_shift 41 = .ok (.iload_n 2, 1) := by decide +kernel
theorem dX6_shift_42 : decode cX6_shift 42 = .ok (.iadd, 1) := by decide +kernel
theorem dX6_shift_43 : decode cX6_shift 43 = .ok (.invokevirtual 35, 3) := by decide +kernel
theorem dX6_shift_46 : decode cX6_shift 46 = .ok (.aload_n 0, 1) := by decide +kernel
theorem dX6_shift_47 : decode cX6_shift 47 = .ok (.iload 4, 2) := by decide +kernel
theorem dX6_shift_49 : decode cX6_shift 49 = .ok (.iload 5, 2) := by decide +kernel
theorem dX6_shift_51 : decode cX6_shift 51 = .ok (.aload_n 0, 1) := by decide +kernel
theorem dX6_shift_52 : decode cX6_shift 52 = .ok (.iload 4, 2) := by decide +kernel
theorem dX6_shift_54 : decode cX6_shift 54 = .ok (.iload 5, 2) := by decide +kernel
theorem dX6_shift_56 : decode cX6_shift 56 = .ok (.invokevirtual 31, 3) := by decide +kernel
theorem dX6_shift_59 : decode cX6_shift 59 = .ok (.iload_n 2, 1) := by decide +kernel
theorem dX6_shift_60 : decode cX6_shift 60 = .ok (.isub, 1) := by decide +kernel
theorem dX6_shift_61 : decode cX6_shift 61 = .ok (.invokevirtual 35, 3) := by decide +kernel
theorem dX6_shift_64 : decode cX6_shift 64 = .ok (.iinc 5 1, 3) := by decide +kernel
theorem dX6_shift_67 : decode cX6_shift 67 = .ok (.goto (-55), 3) := by decide +kernel
theorem dX6_shift_70 : decode cX6_shift 70 = .ok (.aload_n 0, 1) := by decide +kernel
theorem dX6_shift_71 : decode cX6_shift 71 = .ok (.iload_n 3, 1) := by decide +kernel
theorem dX6_shift_72 : decode cX6_shift 72 = .ok (.iload_n 3, 1) := by decide +kernel
theorem dX6_shift_73 : decode cX6_shift 73 = .ok (.aload_n 0, 1) := by decide +kernel
theorem dX6_shift_74 : decode cX6_shift 74 = .ok (.iload_n 3, 1) := by decide +kernel
theorem dX6_shift_75 : decode cX6_shift 75 = .ok (.iload_n 3, 1) := by decide +kernel
theorem dX6_shift_76 : decode cX6_shift 76 = .ok (.invokevirtual 31, 3) := by decide +kernel
theorem dX6_shift_79 : decode cX6_shift 79 = .ok (.iconst 2, 1) := by decide +kernel
theorem dX6_shift_80 : decode cX6_shift 80 = .ok (.iload_n 2, 1) := by decide +kernel
theorem dX6_shift_81 : decode cX6_shift 81 = .ok (.imul, 1) := by decide +kernel
theorem dX6_shift_82 : decode cX6_shift 82 = .ok (.iadd, 1) := by decide +kernel
theorem dX6_shift_83 : decode cX6_shift 83 = .ok (.bipush 16, 2) := by decide +kernel
theorem dX6_shift_85 : decode cX6_shift 85 = .ok (.invokestatic 56, 3) := by decide +kernel
theorem dX6_shift_88 : decode cX6_shift 88 = .ok (.invokevirtual 35, 3) := by decide +kernel
theorem dX6_shift_91 : decode cX6_shift 91 = .ok (.aload_n 0, 1) := by decide +kernel
theorem dX6_shift_92 : decode cX6_shift 92 = .ok (.iload 4, 2) := by decide +kernel
theorem dX6_shift_94 : decode cX6_shift 94 = .ok (.iload 4, 2) := by decide +kernel
theorem dX6_shift_96 : decode cX6_shift 96 = .ok (.aload_n 0, 1) := by decide +kernel
theorem dX6_shift_97 : decode cX6_shift 97 = .ok (.iload 4, 2) := by decide +kernel
theorem dX6_shift_99 : decode cX6_shift 99 = .ok (.iload 4, 2) := by decide +kernel
theorem dX6_shift_101 : decode cX6_shift 101 = .ok (.invokevirtual 31, 3) := by decide +kernel
theorem dX6_shift_104 : decode cX6_shift 104 = .ok (.iconst 2, 1) := by decide +kernel
theorem dX6_shift_105 : decode cX6_shift 105 = .ok (.iload_n 2, 1) := by decide +kernel
theorem dX6_shift_106 : decode cX6_shift 106 = .ok (.imul, 1) := by decide +kernel
theorem dX6_shift_107 : decode cX6_shift 107 = .ok (.isub, 1) := by decide +kernel
theorem dX6_shift_108 : decode cX6_shift 108 = .ok (.bipush 16, 2) := by decide +kernel
theorem dX6_shift_110 : decode cX6_shift 110 = .ok (.invokestatic 56, 3) := by decide +kernel
theorem dX6_shift_113 : decode cX6_shift 113 = .ok (.invokevirtual 35, 3) := by decide +kernel
theorem dX6_shift_116 : decode cX6_shift 116 = .ok (.return_, 1) := by decide +kernel
theorem dX6_join_0 : decode cX6_join 0 = .ok (.aload_n 1, 1) := by decide +kernel
theorem dX6_join_1 : decode cX6_join 1 = .ok (.getfield 15, 3) := by decide +kernel
theorem dX6_join_4 : decode cX6_join 4 = .ok (.ifCond .eq 4, 3) := by decide +kernel
theorem dX6_join_7 : decode cX6_join 7 = .ok (.return_, 1) := by decide +kernel
theorem dX6_join_8 : decode cX6_join 8 = .ok (.aload_n 0, 1) := by decide +kernel
theorem dX6_join_9 : decode cX6_join 9 = .ok (.getfield 15, 3) := by decide +kernel
theorem dX6_join_12 : decode cX6_join 12 = .ok (.ifCond .eq 9, 3) := by decide +kernel
theorem dX6_join_15 : decode cX6_join 15 = .ok (.aload_n 0, 1) := by decide +kernel
theorem dX6_join_16 : decode cX6_join 16 = .ok (.aload_n 1, 1) := by decide +kernel
theorem dX6_join_17 : decode cX6_join 17 = .ok (.invokevirtual 61, 3) := by decide +kernel
theorem dX6_join_20 : decode cX6_join 20 = .ok (.return_, 1) := by decide +kernel
theorem dX6_join_21 : decode cX6_join 21 = .ok (.iconst 0, 1) := by decide +kernel
theorem dX6_join_22 : decode cX6_join 22 = .ok (.istore_n 2, 1) := by decide +kernel
theorem dX6_join_23 : decode cX6_join 23 = .ok (.iload_n 2, 1) := by decide +kernel
theorem dX6_join_24 : decode cX6_join 24 = .ok (.aload_n 0, 1) := by decide +kernel
theorem dX6_join_25 : decode cX6_join 25 = .ok (.getfield 9, 3) := by decide +kernel
theorem dX6_join_28 : decode cX6_join 28 = .ok (.arraylength, 1) := by decide +kernel
theorem dX6_join_29 : decode cX6_join 29 = .ok (.if_icmp .ge 30, 3) := by decide +kernel
theorem dX6_join_32 : decode cX6_join 32 = .ok (.aload_n 0, 1) := by decide +kernel
theorem dX6_join_33 : decode cX6_join 33 = .ok (.getfield 9, 3) := by decide +kernel
theorem dX6_join_36 : decode cX6_join 36 = .ok (.iload_n 2, 1) := by decide +kernel
theorem dX6_join_37 : decode cX6_join 37 = .ok (.aload_n 0, 1) := by decide +kernel
theorem dX6_join_38 : decode cX6_join 38 = .ok (.getfield 9, 3) := by decide +kernel
theorem dX6_join_41 : decode cX6_join 41 = .ok (.iload_n 2, 1) := by decide +kernel
theorem dX6_join_42 : decode cX6_join 42 = .ok (.iaload, 1) := by decide +kernel
theorem dX6_join_43 : decode cX6_join 43 = .ok (.aload_n 1, 1) := by decide +kernel
theorem dX6_join_44 : decode cX6_join 44 = .ok (.getfield 9, 3) := by decide +kernel
theorem dX6_join_47 : decode cX6_join 47 = .ok (.iload_n 2, 1) := by decide +kernel
theorem dX6_join_48 : decode cX6_join 48 = .ok (.iaload, 1) := by decide +kernel
theorem dX6_join_49 : decode cX6_join 49 = .ok (.invokestatic 65, 3) := by decide +kernel
theorem dX6_join_52 : decode cX6_join 52 = .ok (.iastore, 1) := by decide +kernel
theorem dX6_join_53 : decode cX6_join 53 = .ok (.iinc 2 1, 3) := by decide +kernel
theorem dX6_join_56 : decode cX6_join 56 = .ok (.goto (-33), 3) := by decide +kernel
theorem dX6_join_59 : decode cX6_join 59 = .ok (.return_, 1) := by decide +kernel
theorem dX6_meet_0 : decode cX6_meet 0 = .ok (.aload_n 0, 1) := by decide +kernel
theorem dX6_meet_1 : decode cX6_meet 1 = .ok (.aload_n 0, 1) := by decide +kernel
theorem dX6_meet_2 : decode cX6_meet 2 = .ok (.getfield 15, 3) := by decide +kernel
theorem dX6_meet_5 : decode cX6_meet 5 = .ok (.ifCond .ne 10, 3) := by decide +kernel
theorem dX6_meet_8 : decode cX6_meet 8 = .ok (.aload_n 1, 1) := by decide +kernel
theorem dX6_meet_9 : decode cX6_meet 9 = .ok (.getfield 15, 3) := by decide +kernel
theorem dX6_meet_12 : decode cX6_meet 12 = .ok (.ifCond .eq 7, 3) := by decide +kernel
theorem dX6_meet_15 : decode cX6_meet 15 = .ok (.iconst 1, 1) := by decide +kernel
theorem dX6_meet_16 : decode cX6_meet 16 = .ok (.goto 4, 3) := by decide +kernel
theorem dX6_meet_19 : decode cX6_meet 19 = .ok (.iconst 0, 1) := by decide +kernel
theorem dX6_meet_20 : decode cX6_meet 20 = .ok (.putfield 15, 3) := by decide +kernel
theorem dX6_meet_23 : decode cX6_meet 23 = .ok (.iconst 0, 1) := by decide +kernel
theorem dX6_meet_24 : decode cX6_meet 24 = .ok (.istore_n 2, 1) := by decide +kernel
theorem dX6_meet_25 : decode cX6_meet 25 = .ok (.iload_n 2, 1) := by decide +kernel
theorem dX6_meet_26 : decode cX6_meet 26 = .ok (.aload_n 0, 1) := by decide +kernel
theorem dX6_meet_27 : decode cX6_meet 27 = .ok (.getfield 9, 3) := by decide +kernel
theorem dX6_meet_30 : decode cX6_meet 30 = .ok (.arraylength, 1) := by decide +kernel
theorem dX6_meet_31 : decode cX6_meet 31 = .ok (.if_icmp .ge 30, 3) := by decide +kernel
theorem dX6_meet_34 : decode cX6_meet 34 = .ok (.aload_n 0, 1) := by decide +kernel
theorem dX6_meet_35 : decode cX6_meet 35 = .ok (.getfield 9, 3) := by decide +kernel
theorem dX6_meet_38 : decode cX6_meet 38 = .ok (.iload_n 2, 1) := by decide +kernel
theorem dX6_meet_39 : decode cX6_meet 39 = .ok (.aload_n 0, 1) := by decide +kernel
theorem dX6_meet_40 : decode cX6_meet 40 = .ok (.getfield 9, 3) := by decide +kernel
theorem dX6_meet_43 : decode cX6_meet 43 = .ok (.iload_n 2, 1) := by decide +kernel
theorem dX6_meet_44 : decode cX6_meet 44 = .ok (.iaload, 1) := by decide +kernel
theorem dX6_meet_45 : decode cX6_meet 45 = .ok (.aload_n 1, 1) := by decide +kernel
theorem dX6_meet_46 : decode cX6_meet 46 = .ok (.getfield 9, 3) := by decide +kernel
theorem dX6_meet_49 : decode cX6_meet 49 = .ok (.iload_n 2, 1) := by decide +kernel
theorem dX6_meet_50 : decode cX6_meet 50 = .ok (.iaload, 1) := by decide +kernel
theorem dX6_meet_51 : decode cX6_meet 51 = .ok (.invokestatic 56, 3) := by decide +kernel
theorem dX6_meet_54 : decode cX6_meet 54 = .ok (.iastore, 1) := by decide +kernel
theorem dX6_meet_55 : decode cX6_meet 55 = .ok (.iinc 2 1, 3) := by decide +kernel
theorem dX6_meet_58 : decode cX6_meet 58 = .ok (.goto (-33), 3) := by decide +kernel
theorem dX6_meet_61 : decode cX6_meet 61 = .ok (.aload_n 0, 1) := by decide +kernel
theorem dX6_meet_62 : decode cX6_meet 62 = .ok (.invokevirtual 68, 3) := by decide +kernel
theorem dX6_meet_65 : decode cX6_meet 65 = .ok (.return_, 1) := by decide +kernel
theorem dX6_widen_0 : decode cX6_widen 0 = .ok (.aload_n 0, 1) := by decide +kernel
theorem dX6_widen_1 : decode cX6_widen 1 = .ok (.getfield 15, 3) := by decide +kernel
theorem dX6_widen_4 : decode cX6_widen 4 = .ok (.ifCond .eq 9, 3) := by decide +kernel
theorem dX6_widen_7 : decode cX6_widen 7 = .ok (.aload_n 0, 1) := by decide +kernel
theorem dX6_widen_8 : decode cX6_widen 8 = .ok (.aload_n 1, 1) := by decide +kernel
theorem dX6_widen_9 : decode cX6_widen 9 = .ok (.invokevirtual 61, 3) := by decide +kernel
theorem dX6_widen_12 : decode cX6_widen 12 = .ok (.return_, 1) := by decide +kernel
theorem dX6_widen_13 : decode cX6_widen 13 = .ok (.iconst 0, 1) := by decide +kernel
theorem dX6_widen_14 : decode cX6_widen 14 = .ok (.istore_n 2, 1) := by decide +kernel
theorem dX6_widen_15 : decode cX6_widen 15 = .ok (.iload_n 2, 1) := by decide +kernel
theorem dX6_widen_16 : decode cX6_widen 16 = .ok (.aload_n 0, 1) := by decide +kernel
theorem dX6_widen_17 : decode cX6_widen 17 = .ok (.getfield 9, 3) := by decide +kernel
theorem dX6_widen_20 : decode cX6_widen 20 = .ok (.arraylength, 1) := by decide +kernel
theorem dX6_widen_21 : decode cX6_widen 21 = .ok (.if_icmp .ge 32, 3) := by decide +kernel
theorem dX6_widen_24 : decode cX6_widen 24 = .ok (.aload_n 0, 1) := by decide +kernel
theorem dX6_widen_25 : decode cX6_widen 25 = .ok (.getfield 9, 3) := by decide +kernel
theorem dX6_widen_28 : decode cX6_widen 28 = .ok (.iload_n 2, 1) := by decide +kernel
theorem dX6_widen_29 : decode cX6_widen 29 = .ok (.iaload, 1) := by decide +kernel
theorem dX6_widen_30 : decode cX6_widen 30 = .ok (.aload_n 1, 1) := by decide +kernel
theorem dX6_widen_31 : decode cX6_widen 31 = .ok (.getfield 9, 3) := by decide +kernel
theorem dX6_widen_34 : decode cX6_widen 34 = .ok (.iload_n 2, 1) := by decide +kernel
theorem dX6_widen_35 : decode cX6_widen 35 = .ok (.iaload, 1) := by decide +kernel
theorem dX6_widen_36 : decode cX6_widen 36 = .ok (.if_icmp .ge 11, 3) := by decide +kernel
theorem dX6_widen_39 : decode cX6_widen 39 = .ok (.aload_n 0, 1) := by decide +kernel
theorem dX6_widen_40 : decode cX6_widen 40 = .ok (.getfield 9, 3) := by decide +kernel
theorem dX6_widen_43 : decode cX6_widen 43 = .ok (.iload_n 2, 1) := by decide +kernel
theorem dX6_widen_44 : decode cX6_widen 44 = .ok (.bipush 16, 2) := by decide +kernel
theorem dX6_widen_46 : decode cX6_widen 46 = .ok (.iastore, 1) := by decide +kernel
theorem dX6_widen_47 : decode cX6_widen 47 = .ok (.iinc 2 1, 3) := by decide +kernel
theorem dX6_widen_50 : decode cX6_widen 50 = .ok (.goto (-35), 3) := by decide +kernel
theorem dX6_widen_53 : decode cX6_widen 53 = .ok (.return_, 1) := by decide +kernel
theorem dX6_isWithin_0 : decode cX6_isWithin 0 = .ok (.aload_n 0, 1) := by decide +kernel
theorem dX6_isWithin_1 : decode cX6_isWithin 1 = .ok (.getfield 15, 3) := by decide +kernel
theorem dX6_isWithin_4 : decode cX6_isWithin 4 = .ok (.ifCond .ne 10, 3) := by decide +kernel
theorem dX6_isWithin_7 : decode cX6_isWithin 7 = .ok (.aload_n 1, 1) := by decide +kernel
theorem dX6_isWithin_8 : decode cX6_isWithin 8 = .ok (.getfield 15, 3) := by decide +kernel
theorem dX6_isWithin_11 : decode cX6_isWithin 11 = .ok (.ifCond .eq 8, 3) := by decide +kernel
theorem dX6_isWithin_14 : decode cX6_isWithin 14 = .ok (.aload_n 0, 1) := by decide +kernel
theorem dX6_isWithin_15 : decode cX6_isWithin 15 = .ok (.getfield 15, 3) := by decide +kernel
theorem dX6_isWithin_18 : decode cX6_isWithin 18 = .ok (.ireturn, 1) := by decide +kernel
theorem dX6_isWithin_19 : decode cX6_isWithin 19 = .ok (.iconst 0, 1) := by decide +kernel
theorem dX6_isWithin_20 : decode cX6_isWithin 20 = .ok (.istore_n 2, 1) := by decide +kernel
theorem dX6_isWithin_21 : decode cX6_isWithin 21 = .ok (.iload_n 2, 1) := by decide +kernel
theorem dX6_isWithin_22 : decode cX6_isWithin 22 = .ok (.aload_n 0, 1) := by decide +kernel
theorem dX6_isWithin_23 : decode cX6_isWithin 23 = .ok (.getfield 9, 3) := by decide +kernel
theorem dX6_isWithin_26 : decode cX6_isWithin 26 = .ok (.arraylength, 1) := by decide +kernel
theorem dX6_isWithin_27 : decode cX6_isWithin 27 = .ok (.if_icmp .ge 26, 3) := by decide +kernel
theorem dX6_isWithin_30 : decode cX6_isWithin 30 = .ok (.aload_n 0, 1) := by decide +kernel
theorem dX6_isWithin_31 : decode cX6_isWithin 31 = .ok (.getfield 9, 3) := by decide +kernel
theorem dX6_isWithin_34 : decode cX6_isWithin 34 = .ok (.iload_n 2, 1) := by decide +kernel
theorem dX6_isWithin_35 : decode cX6_isWithin 35 = .ok (.iaload, 1) := by decide +kernel
theorem dX6_isWithin_36 : decode cX6_isWithin 36 = .ok (.aload_n 1, 1) := by decide +kernel
theorem dX6_isWithin_37 : decode cX6_isWithin 37 = .ok (.getfield 9, 3) := by decide +kernel
theorem dX6_isWithin_40 : decode cX6_isWithin 40 = .ok (.iload_n 2, 1) := by decide +kernel
theorem dX6_isWithin_41 : decode cX6_isWithin 41 = .ok (.iaload, 1) := by decide +kernel
theorem dX6_isWithin_42 : decode cX6_isWithin 42 = .ok (.if_icmp .le 5, 3) := by decide +kernel
theorem dX6_isWithin_45 : decode cX6_isWithin 45 = .ok (.iconst 0, 1) := by decide +kernel
theorem dX6_isWithin_46 : decode cX6_isWithin 46 = .ok (.ireturn, 1) := by decide +kernel
theorem dX6_isWithin_47 : decode cX6_isWithin 47 = .ok (.iinc 2 1, 3) := by decide +kernel
theorem dX6_isWithin_50 : decode cX6_isWithin 50 = .ok (.goto (-29), 3) := by decide +kernel
theorem dX6_isWithin_53 : decode cX6_isWithin 53 = .ok (.iconst 1, 1) := by decide +kernel
theorem dX6_isWithin_54 : decode cX6_isWithin 54 = .ok (.ireturn, 1) := by decide +kernel
theorem dX6_contains_0 : decode cX6_contains 0 = .ok (.aload_n 0, 1) := by decide +kernel
theorem dX6_contains_1 : decode cX6_contains 1 = .ok (.getfield 15, 3) := by decide +kernel
theorem dX6_contains_4 : decode cX6_contains 4 = .ok (.ifCond .ne 39, 3) := by decide +kernel
theorem dX6_contains_7 : decode cX6_contains 7 = .ok (.aload_n 0, 1) := by decide +kernel
theorem dX6_contains_8 : decode cX6_contains 8 = .ok (.iload_n 1, 1) := by decide +kernel
theorem dX6_contains_9 : decode cX6_contains 9 = .ok (.iload_n 2, 1) := by decide +kernel
theorem dX6_contains_10 : decode cX6_contains 10 = .ok (.invokevirtual 71, 3) := by decide +kernel
theorem dX6_contains_13 : decode cX6_contains 13 = .ok (.ifCond .eq 30, 3) := by decide +kernel
theorem dX6_contains_16 : decode cX6_contains 16 = .ok (.iload_n 3, 1) := by decide +kernel
theorem dX6_contains_17 : decode cX6_contains 17 = .ok (.aload_n 0, 1) := by decide +kernel
theorem dX6_contains_18 : decode cX6_contains 18 = .ok (.iconst 4, 1) := by decide +kernel
theorem dX6_contains_19 : decode cX6_contains 19 = .ok (.iload_n 1, 1) := by decide +kernel
theorem dX6_contains_20 : decode cX6_contains 20 = .ok (.iload_n 2, 1) := by decide +kernel
theorem dX6_contains_21 : decode cX6_contains 21 = .ok (.invokevirtual 75, 3) := by decide +kernel
theorem dX6_contains_24 : decode cX6_contains 24 = .ok (.if_icmp .gt 19, 3) := by decide +kernel
theorem dX6_contains_27 : decode cX6_contains 27 = .ok (.iload_n 3, 1) := by decide +kernel
theorem dX6_contains_28 : decode cX6_contains 28 = .ok (.ineg, 1) := by decide +kernel
theorem dX6_contains_29 : decode cX6_contains 29 = .ok (.aload_n 0, 1) := by decide +kernel
theorem dX6_contains_30 : decode cX6_contains 30 = .ok (.iconst 5, 1) := by decide +kernel
theorem dX6_contains_31 : decode cX6_contains 31 = .ok (.iload_n 1, 1) := by decide +kernel
theorem dX6_contains_32 : decode cX6_contains 32 = .ok (.iload_n 2, 1) := by decide +kernel
theorem dX6_contains_33 : decode cX6_contains 33 = .ok (.invokevirtual 75, 3) := by decide +kernel
theorem dX6_contains_36 : decode cX6_contains 36 = .ok (.if_icmp .gt 7, 3) := by decide +kernel
theorem dX6_contains_39 : decode cX6_contains 39 = .ok (.iconst 1, 1) := by decide +kernel
theorem dX6_contains_40 : decode cX6_contains 40 = .ok (.goto 4, 3) := by decide +kernel
theorem dX6_contains_43 : decode cX6_contains 43 = .ok (.iconst 0, 1) := by decide +kernel
theorem dX6_contains_44 : decode cX6_contains 44 = .ok (.ireturn, 1) := by decide +kernel
theorem dX6_countPoints_0 : decode cX6_countPoints 0 = .ok (.aload_n 0, 1) := by decide +kernel
theorem dX6_countPoints_1 : decode cX6_countPoints 1 = .ok (.getfield 15, 3) := by decide +kernel
theorem dX6_countPoints_4 : decode cX6_countPoints 4 = .ok (.ifCond .eq 5, 3) := by decide +kernel
theorem dX6_countPoints_7 : decode cX6_countPoints 7 = .ok (.iconst 0, 1) := by decide +kernel
theorem dX6_countPoints_8 : decode cX6_countPoints 8 = .ok (.ireturn, 1) := by decide +kernel
theorem dX6_countPoints_9 : decode cX6_countPoints 9 = .ok (.iconst 0, 1) := by decide +kernel
theorem dX6_countPoints_10 : decode cX6_countPoints 10 = .ok (.istore_n 1, 1) := by decide +kernel
theorem dX6_countPoints_11 : decode cX6_countPoints 11 = .ok (.bipush (-8), 2) := by decide +kernel
theorem dX6_countPoints_13 : decode cX6_countPoints 13 = .ok (.istore_n 2, 1) := by decide +kernel
theorem dX6_countPoints_14 : decode cX6_countPoints 14 = .ok (.iload_n 2, 1) := by decide +kernel
theorem dX6_countPoints_15 : decode cX6_countPoints 15 = .ok (.bipush 8, 2) := by decide +kernel
theorem dX6_countPoints_17 : decode cX6_countPoints 17 = .ok (.if_icmp .gt 60, 3) := by decide +kernel
theorem dX6_countPoints_20 : decode cX6_countPoints 20 = .ok (.bipush (-8), 2) := by decide +kernel
theorem dX6_countPoints_22 : decode cX6_countPoints 22 = .ok (.istore_n 3, 1) := by decide +kernel
theorem dX6_countPoints_23 : decode cX6_countPoints 23 = .ok (.iload_n 3, 1) := by decide +kernel
theorem dX6_countPoints_24 : decode cX6_countPoints 24 = .ok (.bipush 8, 2) := by decide +kernel
theorem dX6_countPoints_26 : decode cX6_countPoints 26 = .ok (.if_icmp .gt 45, 3) := by decide +kernel
theorem dX6_countPoints_29 : decode cX6_countPoints 29 = .ok (.aload_n 0, 1) := by decide +kernel
theorem dX6_countPoints_30 : decode cX6_countPoints 30 = .ok (.iload_n 2, 1) := by decide +kernel
theorem dX6_countPoints_31 : decode cX6_countPoints 31 = .ok (.iload_n 3, 1) := by decide +kernel
theorem dX6_countPoints_32 : decode cX6_countPoints 32 = .ok (.invokevirtual 71, 3) := by decide +kernel
theorem dX6_countPoints_35 : decode cX6_countPoints 35 = .ok (.ifCond .ne 6, 3) := by decide +kernel
theorem dX6_countPoints_38 : decode cX6_countPoints 38 = .ok (.goto 27, 3) := by decide +kernel
theorem dX6_countPoints_41 : decode cX6_countPoints 41 = .ok (.iload_n 1, 1) := by decide +kernel
theorem dX6_countPoints_42 : decode cX6_countPoints 42 = .ok (.iconst 0, 1) := by decide +kernel
theorem dX6_countPoints_43 : decode cX6_countPoints 43 = .ok (.aload_n 0, 1) := by decide +kernel
theorem dX6_countPoints_44 : decode cX6_countPoints 44 = .ok (.iconst 4, 1) := by decide +kernel
theorem dX6_countPoints_45 : decode cX6_countPoints 45 = .ok (.iload_n 2, 1) := by decide +kernel
theorem dX6_countPoints_46 : decode cX6_countPoints 46 = .ok (.iload_n 3, 1) := by decide +kernel
theorem dX6_countPoints_47 : decode cX6_countPoints 47 = .ok (.invokevirtual 75, 3) := by decide +kernel
theorem dX6_countPoints_50 : decode cX6_countPoints 50 = .ok (.aload_n 0, 1) := by decide +kernel
theorem dX6_countPoints_51 : decode cX6_countPoints 51 = .ok (.iconst 5, 1) := by decide +kernel
theorem dX6_countPoints_52 : decode cX6_countPoints 52 = .ok (.iload_n 2, 1) := by decide +kernel
theorem dX6_countPoints_53 : decode cX6_countPoints 53 = .ok (.iload_n 3, 1) := by decide +kernel
theorem dX6_countPoints_54 : decode cX6_countPoints 54 = .ok (.invokevirtual 75, 3) := by decide +kernel
theorem dX6_countPoints_57 : decode cX6_countPoints 57 = .ok (.iadd, 1) := by decide +kernel
theorem dX6_countPoints_58 : decode cX6_countPoints 58 = .ok (.iconst 1, 1) := by decide +kernel
theorem dX6_countPoints_59 : decode cX6_countPoints 59 = .ok (.iadd, 1) := by decide +kernel
theorem dX6_countPoints_60 : decode cX6_countPoints 60 = .ok (.invokestatic 65, 3) := by decide +kernel
theorem dX6_countPoints_63 : decode cX6_countPoints 63 = .ok (.iadd, 1) := by decide +kernel
theorem dX6_countPoints_64 : decode cX6_countPoints 64 = .ok (.istore_n 1, 1) := by decide +kernel
theorem dX6_countPoints_65 : decode cX6_countPoints 65 = .ok (.iinc 3 1, 3) := by decide +kernel
theorem dX6_countPoints_68 : decode cX6_countPoints 68 = .ok (.goto (-45), 3) := by decide +kernel
theorem dX6_countPoints_71 : decode cX6_countPoints 71 = .ok (.iinc 2 1, 3) := by decide +kernel
theorem dX6_countPoints_74 : decode cX6_countPoints 74 = .ok (.goto (-60), 3) := by decide +kernel
theorem dX6_countPoints_77 : decode cX6_countPoints 77 = .ok (.iload_n 1, 1) := by decide +kernel
theorem dX6_countPoints_78 : decode cX6_countPoints 78 = .ok (.ireturn, 1) := by decide +kernel
end
section
theorem dX6_containsPair_0 : decode cX6_containsPair 0 = .ok (.iconst 2, 1) := by decide +kernel
theorem dX6_containsPair_1 : decode cX6_containsPair 1 = .ok (.iload_n 1, 1) := by decide +kernel
theorem dX6_containsPair_2 : decode cX6_containsPair 2 = .ok (.imul, 1) := by decide +kernel
theorem dX6_containsPair_3 : decode cX6_containsPair 3 = .ok (.aload_n 0, 1) := by decide +kernel
theorem dX6_containsPair_4 : decode cX6_containsPair 4 = .ok (.iconst 0, 1) := by decide +kernel
theorem dX6_containsPair_5 : decode cX6_containsPair 5 = .ok (.iconst 0, 1) := by decide +kernel
theorem dX6_containsPair_6 : decode cX6_containsPair 6 = .ok (.invokevirtual 31, 3) := by decide +kernel
theorem dX6_containsPair_9 : decode cX6_containsPair 9 = .ok (.if_icmp .gt 94, 3) := by decide +kernel
theorem dX6_containsPair_12 : decode cX6_containsPair 12 = .ok (.bipush (-2), 2) := by decide +kernel
theorem dX6_containsPair_14 : decode cX6_containsPair 14 = .ok (.iload_n 1, 1) := by decide +kernel
theorem dX6_containsPair_15 : decode cX6_containsPair 15 = .ok (.imul, 1) := by decide +kernel
theorem dX6_containsPair_16 : decode cX6_containsPair 16 = .ok (.aload_n 0, 1) := by decide +kernel
theorem dX6_containsPair_17 : decode cX6_containsPair 17 = .ok (.iconst 1, 1) := by decide +kernel
theorem dX6_containsPair_18 : decode cX6_containsPair 18 = .ok (.iconst 1, 1) := by decide +kernel
theorem dX6_containsPair_19 : decode cX6_containsPair 19 = .ok (.invokevirtual 31, 3) := by decide +kernel
theorem dX6_containsPair_22 : decode cX6_containsPair 22 = .ok (.if_icmp .gt 81, 3) := by decide +kernel
theorem dX6_containsPair_25 : decode cX6_containsPair 25 = .ok (.iconst 2, 1) := by decide +kernel
theorem dX6_containsPair_26 : decode cX6_containsPair 26 = .ok (.iload_n 2, 1) := by decide +kernel
theorem dX6_containsPair_27 : decode cX6_containsPair 27 = .ok (.imul, 1) := by decide +kernel
theorem dX6_containsPair_28 : decode cX6_containsPair 28 = .ok (.aload_n 0, 1) := by decide +kernel
theorem dX6_containsPair_29 : decode cX6_containsPair 29 = .ok (.iconst 2, 1) := by decide +kernel
theorem dX6_containsPair_30 : decode cX6_containsPair 30 = .ok (.iconst 2, 1) := by decide +kernel
theorem dX6_containsPair_31 : decode cX6_containsPair 31 = .ok (.invokevirtual 31, 3) := by decide +kernel
theorem dX6_containsPair_34 : decode cX6_containsPair 34 = .ok (.if_icmp .gt 69, 3) := by decide +kernel
theorem dX6_containsPair_37 : decode cX6_containsPair 37 = .ok (.bipush (-2), 2) := by decide +kernel
theorem dX6_containsPair_39 : decode cX6_containsPair 39 = .ok (.iload_n 2, 1) := by decide +kernel
theorem dX6_containsPair_40 : decode cX6_containsPair 40 = .ok (.imul, 1) := by decide +kernel
theorem dX6_containsPair_41 : decode cX6_containsPair 41 = .ok (.aload_n 0, 1) := by decide +kernel
theorem dX6_containsPair_42 : decode cX6_containsPair 42 = .ok (.iconst 3, 1) := by decide +kernel
theorem dX6_containsPair_43 : decode cX6_containsPair 43 = .ok (.iconst 3, 1) := by decide +kernel
theorem dX6_containsPair_44 : decode cX6_containsPair 44 = .ok (.invokevirtual 31, 3) := by decide +kernel
theorem dX6_containsPair_47 : decode cX6_containsPair 47 = .ok (.if_icmp .gt 56, 3) := by decide +kernel
theorem dX6_containsPair_50 : decode cX6_containsPair 50 = .ok (.iload_n 1, 1) := by decide +kernel
theorem dX6_containsPair_51 : decode cX6_containsPair 51 = .ok (.iload_n 2, 1) := by decide +kernel
theorem dX6_containsPair_52 : decode cX6_containsPair 52 = .ok (.iadd, 1) := by decide +kernel
theorem dX6_containsPair_53 : decode cX6_containsPair 53 = .ok (.aload_n 0, 1) := by decide +kernel
theorem dX6_containsPair_54 : decode cX6_containsPair 54 = .ok (.iconst 0, 1) := by decide +kernel
theorem dX6_containsPair_55 : decode cX6_containsPair 55 = .ok (.iconst 2, 1) := by decide +kernel
theorem dX6_containsPair_56 : decode cX6_containsPair 56 = .ok (.invokevirtual 31, 3) := by decide +kernel
theorem dX6_containsPair_59 : decode cX6_containsPair 59 = .ok (.if_icmp .gt 44, 3) := by decide +kernel
theorem dX6_containsPair_62 : decode cX6_containsPair 62 = .ok (.iload_n 1, 1) := by decide +kernel
theorem dX6_containsPair_63 : decode cX6_containsPair 63 = .ok (.iload_n 2, 1) := by decide +kernel
theorem dX6_containsPair_64 : decode cX6_containsPair 64 = .ok (.isub, 1) := by decide +kernel
theorem dX6_containsPair_65 : decode cX6_containsPair 65 = .ok (.aload_n 0, 1) := by decide +kernel
theorem dX6_containsPair_66 : decode cX6_containsPair 66 = .ok (.iconst 0, 1) := by decide +kernel
theorem dX6_containsPair_67 : decode cX6_containsPair 67 = .ok (.iconst 3, 1) := by decide +kernel
theorem dX6_containsPair_68 : decode cX6_containsPair 68 = .ok (.invokevirtual 31, 3) := by decide +kernel
theorem dX6_containsPair_71 : decode cX6_containsPair 71 = .ok (.if_icmp .gt 32, 3) := by decide +kernel
theorem dX6_containsPair_74 : decode cX6_containsPair 74 = .ok (.iload_n 2, 1) := by decide +kernel
theorem dX6_containsPair_75 : decode cX6_containsPair 75 = .ok (.iload_n 1, 1) := by decide +kernel
theorem dX6_containsPair_76 : decode cX6_containsPair 76 = .ok (.isub, 1) := by decide +kernel
theorem dX6_containsPair_77 : decode cX6_containsPair 77 = .ok (.aload_n 0, 1) := by decide +kernel
theorem dX6_containsPair_78 : decode cX6_containsPair 78 = .ok (.iconst 1, 1) := by decide +kernel
theorem dX6_containsPair_79 : decode cX6_containsPair 79 = .ok (.iconst 2, 1) := by decide +kernel
theorem dX6_containsPair_80 : decode cX6_containsPair 80 = .ok (.invokevirtual 31, 3) := by decide +kernel
theorem dX6_containsPair_83 : decode cX6_containsPair 83 = .ok (.if_icmp .gt 20, 3) := by decide +kernel
theorem dX6_containsPair_86 : decode cX6_containsPair 86 = .ok (.iload_n 1, 1) := by decide +kernel
theorem dX6_containsPair_87 : decode cX6_containsPair 87 = .ok (.ineg, 1) := by decide +kernel
theorem dX6_containsPair_88 : decode cX6_containsPair 88 = .ok (.iload_n 2, 1) := by decide +kernel
theorem dX6_containsPair_89 : decode cX6_containsPair 89 = .ok (.isub, 1) := by decide +kernel
theorem dX6_containsPair_90 : decode cX6_containsPair 90 = .ok (.aload_n 0, 1) := by decide +kernel
theorem dX6_containsPair_91 : decode cX6_containsPair 91 = .ok (.iconst 1, 1) := by decide +kernel
theorem dX6_containsPair_92 : decode cX6_containsPair 92 = .ok (.iconst 3, 1) := by decide +kernel
theorem dX6_containsPair_93 : decode cX6_containsPair 93 = .ok (.invokevirtual 31, 3) := by decide +kernel
theorem dX6_containsPair_96 : decode cX6_containsPair 96 = .ok (.if_icmp .gt 7, 3) := by decide +kernel
theorem dX6_containsPair_99 : decode cX6_containsPair 99 = .ok (.iconst 1, 1) := by decide +kernel
theorem dX6_containsPair_100 : decode cX6_containsPair 100 = .ok (.goto 4, 3) := by decide +kernel
theorem dX6_containsPair_103 : decode cX6_containsPair 103 = .ok (.iconst 0, 1) := by decide +kernel
theorem dX6_containsPair_104 : decode cX6_containsPair 104 = .ok (.ireturn, 1) := by decide +kernel
theorem dX6_roomFor_0 : decode cX6_roomFor 0 = .ok (.aload_n 0, 1) := by decide +kernel
theorem dX6_roomFor_1 : decode cX6_roomFor 1 = .ok (.iload_n 1, 1) := by decide +kernel
theorem dX6_roomFor_2 : decode cX6_roomFor 2 = .ok (.iconst 0, 1) := by decide +kernel
theorem dX6_roomFor_3 : decode cX6_roomFor 3 = .ok (.invokevirtual 31, 3) := by decide +kernel
theorem dX6_roomFor_6 : decode cX6_roomFor 6 = .ok (.iload_n 2, 1) := by decide +kernel
theorem dX6_roomFor_7 : decode cX6_roomFor 7 = .ok (.isub, 1) := by decide +kernel
theorem dX6_roomFor_8 : decode cX6_roomFor 8 = .ok (.aload_n 0, 1) := by decide +kernel
theorem dX6_roomFor_9 : decode cX6_roomFor 9 = .ok (.iload_n 1, 1) := by decide +kernel
theorem dX6_roomFor_10 : decode cX6_roomFor 10 = .ok (.iconst 1, 1) := by decide +kernel
theorem dX6_roomFor_11 : decode cX6_roomFor 11 = .ok (.invokevirtual 31, 3) := by decide +kernel
theorem dX6_roomFor_14 : decode cX6_roomFor 14 = .ok (.iload_n 2, 1) := by decide +kernel
theorem dX6_roomFor_15 : decode cX6_roomFor 15 = .ok (.iadd, 1) := by decide +kernel
theorem dX6_roomFor_16 : decode cX6_roomFor 16 = .ok (.invokestatic 56, 3) := by decide +kernel
theorem dX6_roomFor_19 : decode cX6_roomFor 19 = .ok (.istore 4, 2) := by decide +kernel
theorem dX6_roomFor_21 : decode cX6_roomFor 21 = .ok (.aload_n 0, 1) := by decide +kernel
theorem dX6_roomFor_22 : decode cX6_roomFor 22 = .ok (.iload_n 1, 1) := by decide +kernel
theorem dX6_roomFor_23 : decode cX6_roomFor 23 = .ok (.iconst 2, 1) := by decide +kernel
theorem dX6_roomFor_24 : decode cX6_roomFor 24 = .ok (.invokevirtual 31, 3) := by decide +kernel
theorem dX6_roomFor_27 : decode cX6_roomFor 27 = .ok (.iload_n 3, 1) := by decide +kernel
theorem dX6_roomFor_28 : decode cX6_roomFor 28 = .ok (.isub, 1) := by decide +kernel
theorem dX6_roomFor_29 : decode cX6_roomFor 29 = .ok (.aload_n 0, 1) := by decide +kernel
theorem dX6_roomFor_30 : decode cX6_roomFor 30 = .ok (.iload_n 1, 1) := by decide +kernel
theorem dX6_roomFor_31 : decode cX6_roomFor 31 = .ok (.iconst 3, 1) := by decide +kernel
theorem dX6_roomFor_32 : decode cX6_roomFor 32 = .ok (.invokevirtual 31, 3) := by decide +kernel
theorem dX6_roomFor_35 : decode cX6_roomFor 35 = .ok (.iload_n 3, 1) := by decide +kernel
theorem dX6_roomFor_36 : decode cX6_roomFor 36 = .ok (.iadd, 1) := by decide +kernel
theorem dX6_roomFor_37 : decode cX6_roomFor 37 = .ok (.invokestatic 56, 3) := by decide +kernel
theorem dX6_roomFor_40 : decode cX6_roomFor 40 = .ok (.istore 5, 2) := by decide +kernel
theorem dX6_roomFor_42 : decode cX6_roomFor 42 = .ok (.aload_n 0, 1) := by decide +kernel
theorem dX6_roomFor_43 : decode cX6_roomFor 43 = .ok (.iload_n 1, 1) := by decide +kernel
theorem dX6_roomFor_44 : decode cX6_roomFor 44 = .ok (.iload_n 1, 1) := by decide +kernel
theorem dX6_roomFor_45 : decode cX6_roomFor 45 = .ok (.invokevirtual 31, 3) := by decide +kernel
theorem dX6_roomFor_48 : decode cX6_roomFor 48 = .ok (.iconst 2, 1) := by decide +kernel
theorem dX6_roomFor_49 : decode cX6_roomFor 49 = .ok (.idiv, 1) := by decide +kernel
theorem dX6_roomFor_50 : decode cX6_roomFor 50 = .ok (.iload 4, 2) := by decide +kernel
theorem dX6_roomFor_52 : decode cX6_roomFor 52 = .ok (.iload 5, 2) := by decide +kernel
theorem dX6_roomFor_54 : decode cX6_roomFor 54 = .ok (.invokestatic 56, 3) := by decide +kernel
theorem dX6_roomFor_57 : decode cX6_roomFor 57 = .ok (.invokestatic 56, 3) := by decide +kernel
theorem dX6_roomFor_60 : decode cX6_roomFor 60 = .ok (.ireturn, 1) := by decide +kernel
theorem dX7_init_0 : decode cX7_init 0 = .ok (.aload_n 0, 1) := by decide +kernel
theorem dX7_init_1 : decode cX7_init 1 = .ok (.invokespecial 3, 3) := by decide +kernel
theorem dX7_init_4 : decode cX7_init 4 = .ok (.aload_n 0, 1) := by decide +kernel
theorem dX7_init_5 : decode cX7_init 5 = .ok (.bipush 6, 2) := by decide +kernel
theorem dX7_init_7 : decode cX7_init 7 = .ok (.newarray .int, 2) := by decide +kernel
theorem dX7_init_9 : decode cX7_init 9 = .ok (.putfield 9, 3) := by decide +kernel
theorem dX7_init_12 : decode cX7_init 12 = .ok (.aload_n 0, 1) := by decide +kernel
theorem dX7_init_13 : decode cX7_init 13 = .ok (.bipush 6, 2) := by decide +kernel
theorem dX7_init_15 : decode cX7_init 15 = .ok (.newarray .int, 2) := by decide +kernel
theorem dX7_init_17 : decode cX7_init 17 = .ok (.putfield 15, 3) := by decide +kernel
theorem dX7_init_20 : decode cX7_init 20 = .ok (.aload_n 0, 1) := by decide +kernel
theorem dX7_init_21 : decode cX7_init 21 = .ok (.bipush 6, 2) := by decide +kernel
theorem dX7_init_23 : decode cX7_init 23 = .ok (.newarray .int, 2) := by decide +kernel
theorem dX7_init_25 : decode cX7_init 25 = .ok (.putfield 18, 3) := by decide +kernel
theorem dX7_init_28 : decode cX7_init 28 = .ok (.aload_n 0, 1) := by decide +kernel
theorem dX7_init_29 : decode cX7_init 29 = .ok (.bipush 6, 2) := by decide +kernel
theorem dX7_init_31 : decode cX7_init 31 = .ok (.newarray .int, 2) := by decide +kernel
theorem dX7_init_33 : decode cX7_init 33 = .ok (.putfield 21, 3) := by decide +kernel
theorem dX7_init_36 : decode cX7_init 36 = .ok (.return_, 1) := by decide +kernel
theorem dX7_copy_0 : decode cX7_copy 0 = .ok (.aload_n 0, 1) := by decide +kernel
theorem dX7_copy_1 : decode cX7_copy 1 = .ok (.aload_n 1, 1) := by decide +kernel
theorem dX7_copy_2 : decode cX7_copy 2 = .ok (.getfield 24, 3) := by decide +kernel
theorem dX7_copy_5 : decode cX7_copy 5 = .ok (.putfield 24, 3) := by decide +kernel
theorem dX7_copy_8 : decode cX7_copy 8 = .ok (.aload_n 1, 1) := by decide +kernel
theorem dX7_copy_9 : decode cX7_copy 9 = .ok (.getfield 9, 3) := by decide +kernel
theorem dX7_copy_12 : decode cX7_copy 12 = .ok (.iconst 0, 1) := by decide +kernel
theorem dX7_copy_13 : decode cX7_copy 13 = .ok (.aload_n 0, 1) := by decide +kernel
theorem dX7_copy_14 : decode cX7_copy 14 = .ok (.getfield 9, 3) := by decide +kernel
theorem dX7_copy_17 : decode cX7_copy 17 = .ok (.iconst 0, 1) := by decide +kernel
theorem dX7_copy_18 : decode cX7_copy 18 = .ok (.bipush 6, 2) := by decide +kernel
theorem dX7_copy_20 : decode cX7_copy 20 = .ok (.invokestatic 28, 3) := by decide +kernel
theorem dX7_copy_23 : decode cX7_copy 23 = .ok (.aload_n 1, 1) := by decide +kernel
theorem dX7_copy_24 : decode cX7_copy 24 = .ok (.getfield 15, 3) := by decide +kernel
theorem dX7_copy_27 : decode cX7_copy 27 = .ok (.iconst 0, 1) := by decide +kernel
theorem dX7_copy_28 : decode cX7_copy 28 = .ok (.aload_n 0, 1) := by decide +kernel
theorem dX7_copy_29 : decode cX7_copy 29 = .ok (.getfield 15, 3) := by decide +kernel
theorem dX7_copy_32 : decode cX7_copy 32 = .ok (.iconst 0, 1) := by decide +kernel
theorem dX7_copy_33 : decode cX7_copy 33 = .ok (.bipush 6, 2) := by decide +kernel
theorem dX7_copy_35 : decode cX7_copy 35 = .ok (.invokestatic 28, 3) := by decide +kernel
theorem dX7_copy_38 : decode cX7_copy 38 = .ok (.aload_n 1, 1) := by decide +kernel
theorem dX7_copy_39 : decode cX7_copy 39 = .ok (.getfield 18, 3) := by decide +kernel
theorem dX7_copy_42 : decode cX7_copy 42 = .ok (.iconst 0, 1) := by decide +kernel
theorem dX7_copy_43 : decode cX7_copy 43 = .ok (.aload_n 0, 1) := by decide +kernel
theorem dX7_copy_44 : decode cX7_copy 44 = .ok (.getfield 18, 3) := by decide +kernel
theorem dX7_copy_47 : decode cX7_copy 47 = .ok (.iconst 0, 1) := by decide +kernel
theorem dX7_copy_48 : decode cX7_copy 48 = .ok (.bipush 6, 2) := by decide +kernel
theorem dX7_copy_50 : decode cX7_copy 50 = .ok (.invokestatic 28, 3) := by decide +kernel
theorem dX7_copy_53 : decode cX7_copy 53 = .ok (.aload_n 1, 1) := by decide +kernel
theorem dX7_copy_54 : decode cX7_copy 54 = .ok (.getfield 21, 3) := by decide +kernel
theorem dX7_copy_57 : decode cX7_copy 57 = .ok (.iconst 0, 1) := by decide +kernel
theorem dX7_copy_58 : decode cX7_copy 58 = .ok (.aload_n 0, 1) := by decide +kernel
theorem dX7_copy_59 : decode cX7_copy 59 = .ok (.getfield 21, 3) := by decide +kernel
theorem dX7_copy_62 : decode cX7_copy 62 = .ok (.iconst 0, 1) := by decide +kernel
theorem dX7_copy_63 : decode cX7_copy 63 = .ok (.bipush 6, 2) := by decide +kernel
theorem dX7_copy_65 : decode cX7_copy 65 = .ok (.invokestatic 28, 3) := by decide +kernel
theorem dX7_copy_68 : decode cX7_copy 68 = .ok (.return_, 1) := by decide +kernel
theorem dX7_insert_0 : decode cX7_insert 0 = .ok (.aload_n 0, 1) := by decide +kernel
theorem dX7_insert_1 : decode cX7_insert 1 = .ok (.getfield 24, 3) := by decide +kernel
theorem dX7_insert_4 : decode cX7_insert 4 = .ok (.istore 6, 2) := by decide +kernel
theorem dX7_insert_6 : decode cX7_insert 6 = .ok (.iload 6, 2) := by decide +kernel
theorem dX7_insert_8 : decode cX7_insert 8 = .ok (.iload_n 1, 1) := by decide +kernel
theorem dX7_insert_9 : decode cX7_insert 9 = .ok (.if_icmp .le 52, 3) := by decide +kernel
theorem dX7_insert_12 : decode cX7_insert 12 = .ok (.aload_n 0, 1) := by decide +kernel
theorem dX7_insert_13 : decode cX7_insert 13 = .ok (.iload 6, 2) := by decide +kernel
theorem dX7_insert_15 : decode cX7_insert 15 = .ok (.iconst 1, 1) := by decide +kernel
theorem dX7_insert_16 : decode cX7_insert 16 = .ok (.isub, 1) := by decide +kernel
theorem dX7_insert_17 : decode cX7_insert 17 = .ok (.iload 6, 2) := by decide +kernel
theorem dX7_insert_19 : decode cX7_insert 19 = .ok (.invokevirtual 34, 3) := by decide +kernel
theorem dX7_insert_22 : decode cX7_insert 22 = .ok (.aload_n 0, 1) := by decide +kernel
theorem dX7_insert_23 : decode cX7_insert 23 = .ok (.getfield 9, 3) := by decide +kernel
theorem dX7_insert_26 : decode cX7_insert 26 = .ok (.iload 6, 2) := by decide +kernel
theorem dX7_insert_28 : decode cX7_insert 28 = .ok (.iaload, 1) := by decide +kernel
theorem dX7_insert_29 : decode cX7_insert 29 = .ok (.iconst 4, 1) := by decide +kernel
theorem dX7_insert_30 : decode cX7_insert 30 = .ok (.if_icmp .ne 25, 3) := by decide +kernel
theorem dX7_insert_33 : decode cX7_insert 33 = .ok (.aload_n 0, 1) := by decide +kernel
theorem dX7_insert_34 : decode cX7_insert 34 = .ok (.getfield 15, 3) := by decide +kernel
theorem dX7_insert_37 : decode cX7_insert 37 = .ok (.iload 6, 2) := by decide +kernel
theorem dX7_insert_39 : decode cX7_insert 39 = .ok (.iaload, 1) := by decide +kernel
theorem dX7_insert_40 : decode cX7_insert 40 = .ok (.iload_n 1, 1) := by decide +kernel
theorem dX7_insert_41 : decode cX7_insert 41 = .ok (.if_icmp .le 14, 3) := by decide +kernel
theorem dX7_insert_44 : decode cX7_insert 44 = .ok (.aload_n 0, 1) := by decide +kernel
theorem dX7_insert_45 : decode cX7_insert 45 = .ok (.getfield 15, 3) := by decide +kernel
theorem dX7_insert_48 : decode cX7_insert 48 = .ok (.iload 6, 2) := by decide +kernel
theorem dX7_insert_50 : decode cX7_insert 50 = .ok (.dup2, 1) := by decide +kernel
theorem dX7_insert_51 : decode cX7_insert 51 = .ok (.iaload, 1) := by decide +kernel
theorem dX7_insert_52 : decode cX7_insert 52 = .ok (.iconst 1, 1) := by decide +kernel
theorem dX7_insert_53 : decode cX7_insert 53 = .ok (.iadd, 1) := by decide +kernel
theorem dX7_insert_54 : decode cX7_insert 54 = .ok (.iastore, 1) := by decide +kernel
theorem dX7_insert_55 : decode cX7_insert 55 = .ok (.iinc 6 (-1), 3) := by decide +kernel
theorem dX7_insert_58 : decode cX7_insert 58 = .ok (.goto (-52), 3) := by decide +kernel
theorem dX7_insert_61 : decode cX7_insert 61 = .ok (.aload_n 0, 1) := by decide +kernel
theorem dX7_insert_62 : decode cX7_insert 62 = .ok (.getfield 9, 3) := by decide +kernel
theorem dX7_insert_65 : decode cX7_insert 65 = .ok (.iload_n 1, 1) := by decide +kernel
theorem dX7_insert_66 : decode cX7_insert 66 = .ok (.iload_n 2, 1) := by decide +kernel
theorem dX7_insert_67 : decode cX7_insert 67 = .ok (.iastore, 1) := by decide +kernel
theorem dX7_insert_68 : decode cX7_insert 68 = .ok (.aload_n 0, 1) := by decide +kernel
theorem dX7_insert_69 : decode cX7_insert 69 = .ok (.getfield 15, 3) := by decide +kernel
theorem dX7_insert_72 : decode cX7_insert 72 = .ok (.iload_n 1, 1) := by decide +kernel
theorem dX7_insert_73 : decode cX7_insert 73 = .ok (.iload_n 3, 1) := by decide +kernel
theorem dX7_insert_74 : decode cX7_insert 74 = .ok (.iastore, 1) := by decide +kernel
theorem dX7_insert_75 : decode cX7_insert 75 = .ok (.aload_n 0, 1) := by decide +kernel
theorem dX7_insert_76 : decode cX7_insert 76 = .ok (.getfield 18, 3) := by decide +kernel
theorem dX7_insert_79 : decode cX7_insert 79 = .ok (.iload_n 1, 1) := by decide +kernel
theorem dX7_insert_80 : decode cX7_insert 80 = .ok (.iload 4, 2) := by decide +kernel
theorem dX7_insert_82 : decode cX7_insert 82 = .ok (.iastore, 1) := by decide +kernel
theorem dX7_insert_83 : decode cX7_insert 83 = .ok (.aload_n 0, 1) := by decide +kernel
theorem dX7_insert_84 : decode cX7_insert 84 = .ok (.getfield 21, 3) := by decide +kernel
theorem dX7_insert_87 : decode cX7_insert 87 = .ok (.iload_n 1, 1) := by decide +kernel
theorem dX7_insert_88 : decode cX7_insert 88 = .ok (.iload 5, 2) := by decide +kernel
theorem dX7_insert_90 : decode cX7_insert 90 = .ok (.iastore, 1) := by decide +kernel
theorem dX7_insert_91 : decode cX7_insert 91 = .ok (.aload_n 0, 1) := by decide +kernel
theorem dX7_insert_92 : decode cX7_insert 92 = .ok (.dup, 1) := by decide +kernel
theorem dX7_insert_93 : decode cX7_insert 93 = .ok (.getfield 24, 3) := by decide +kernel
theorem dX7_insert_96 : decode cX7_insert 96 = .ok (.iconst 1, 1) := by decide +kernel
theorem dX7_insert_97 : decode cX7_insert 97 = .ok (.iadd, 1) := by decide +kernel
theorem dX7_insert_98 : decode cX7_insert 98 = .ok (.putfield 24, 3) := by decide +kernel
theorem dX7_insert_101 : decode cX7_insert 101 = .ok (.return_, 1) := by decide +kernel
theorem dX7_remove_0 : decode cX7_remove 0 = .ok (.aload_n 0, 1) := by decide +kernel
theorem dX7_remove_1 : decode cX7_remove 1 = .ok (.dup, 1) := by decide +kernel
theorem dX7_remove_2 : decode cX7_remove 2 = .ok (.getfield 24, 3) := by decide +kernel
theorem dX7_remove_5 : decode cX7_remove 5 = .ok (.iconst 1, 1) := by decide +kernel
theorem dX7_remove_6 : decode cX7_remove 6 = .ok (.isub, 1) := by decide +kernel
theorem dX7_remove_7 : decode cX7_remove 7 = .ok (.putfield 24, 3) := by decide +kernel
theorem dX7_remove_10 : decode cX7_remove 10 = .ok (.iload_n 1, 1) := by decide +kernel
theorem dX7_remove_11 : decode cX7_remove 11 = .ok (.istore_n 2, 1) := by decide +kernel
theorem dX7_remove_12 : decode cX7_remove 12 = .ok (.iload_n 2, 1) := by decide +kernel
theorem dX7_remove_13 : decode cX7_remove 13 = .ok (.aload_n 0, 1) := by decide +kernel
theorem dX7_remove_14 : decode cX7_remove 14 = .ok (.getfield 24, 3) := by decide +kernel
theorem dX7_remove_17 : decode cX7_remove 17 = .ok (.if_icmp .ge 47, 3) := by decide +kernel
theorem dX7_remove_20 : decode cX7_remove 20 = .ok (.aload_n 0, 1) := by decide +kernel
theorem dX7_remove_21 : decode cX7_remove 21 = .ok (.iload_n 2, 1) := by decide +kernel
theorem dX7_remove_22 : decode cX7_remove 22 = .ok (.iconst 1, 1) := by decide +kernel
theorem dX7_remove_23 : decode cX7_remove 23 = .ok (.iadd, 1) := by decide +kernel
theorem dX7_remove_24 : decode cX7_remove 24 = .ok (.iload_n 2, 1) := by decide +kernel
theorem dX7_remove_25 : decode cX7_remove 25 = .ok (.invokevirtual 34, 3) := by decide +kernel
theorem dX7_remove_28 : decode cX7_remove 28 = .ok (.aload_n 0, 1) := by decide +kernel
theorem dX7_remove_29 : decode cX7_remove 29 = .ok (.getfield 9, 3) := by decide +kernel
theorem dX7_remove_32 : decode cX7_remove 32 = .ok (.iload_n 2, 1) := by decide +kernel
theorem dX7_remove_33 : decode cX7_remove 33 = .ok (.iaload, 1) := by decide +kernel
theorem dX7_remove_34 : decode cX7_remove 34 = .ok (.iconst 4, 1) := by decide +kernel
theorem dX7_remove_35 : decode cX7_remove 35 = .ok (.if_icmp .ne 23, 3) := by decide +kernel
theorem dX7_remove_38 : decode cX7_remove 38 = .ok (.aload_n 0, 1) := by decide +kernel
theorem dX7_remove_39 : decode cX7_remove 39 = .ok (.getfield 15, 3) := by decide +kernel
theorem dX7_remove_42 : decode cX7_remove 42 = .ok (.iload_n 2, 1) := by decide +kernel
theorem dX7_remove_43 : decode cX7_remove 43 = .ok (.iaload, 1) := by decide +kernel
theorem dX7_remove_44 : decode cX7_remove 44 = .ok (.iload_n 1, 1) := by decide +kernel
theorem dX7_remove_45 : decode cX7_remove 45 = .ok (.if_icmp .le 13, 3) := by decide +kernel
theorem dX7_remove_48 : decode cX7_remove 48 = .ok (.aload_n 0, 1) := by decide +kernel
theorem dX7_remove_49 : decode cX7_remove 49 = .ok (.getfield 15, 3) := by decide +kernel
theorem dX7_remove_52 : decode cX7_remove 52 = .ok (.iload_n 2, 1) := by decide +kernel
theorem dX7_remove_53 : decode cX7_remove 53 = .ok (.dup2, 1) := by decide +kernel
theorem dX7_remove_54 : decode cX7_remove 54 = .ok (.iaload, 1) := by decide +kernel
theorem dX7_remove_55 : decode cX7_remove 55 = .ok (.iconst 1, 1) := by decide +kernel
theorem dX7_remove_56 : decode cX7_remove 56 = .ok (.isub, 1) := by decide +kernel
theorem dX7_remove_57 : decode cX7_remove 57 = .ok (.iastore, 1) := by decide +kernel
theorem dX7_remove_58 : decode cX7_remove 58 = .ok (.iinc 2 1, 3) := by decide +kernel
theorem dX7_remove_61 : decode cX7_remove 61 = .ok (.goto (-49), 3) := by decide +kernel
theorem dX7_remove_64 : decode cX7_remove 64 = .ok (.return_, 1) := by decide +kernel
theorem dX7_copyStep_0 : decode cX7_copyStep 0 = .ok (.aload_n 0, 1) := by decide +kernel
theorem dX7_copyStep_1 : decode cX7_copyStep 1 = .ok (.getfield 9, 3) := by decide +kernel
theorem dX7_copyStep_4 : decode cX7_copyStep 4 = .ok (.iload_n 2, 1) := by decide +kernel
theorem dX7_copyStep_5 : decode cX7_copyStep 5 = .ok (.aload_n 0, 1) := by decide +kernel
theorem dX7_copyStep_6 : decode cX7_copyStep 6 = .ok (.getfield 9, 3) := by decide +kernel
theorem dX7_copyStep_9 : decode cX7_copyStep 9 = .ok (.iload_n 1, 1) := by decide +kernel
theorem dX7_copyStep_10 : decode cX7_copyStep 10 = .ok (.iaload, 1) := by decide +kernel
theorem dX7_copyStep_11 : decode cX7_copyStep 11 = .ok (.iastore, 1) := by decide +kernel
theorem dX7_copyStep_12 : decode cX7_copyStep 12 = .ok (.aload_n 0, 1) := by decide +kernel
theorem dX7_copyStep_13 : decode cX7_copyStep 13 = .ok (.getfield 15, 3) := by decide +kernel
theorem dX7_copyStep_16 : decode cX7_copyStep 16 = .ok (.iload_n 2, 1) := by decide +kernel
theorem dX7_copyStep_17 : decode cX7_copyStep 17 = .ok (.aload_n 0, 1) := by decide +kernel
theorem dX7_copyStep_18 : decode cX7_copyStep 18 = .ok (.getfield 15, 3) := by decide +kernel
theorem dX7_copyStep_21 : decode cX7_copyStep 21 = .ok (.iload_n 1, 1) := by decide +kernel
theorem dX7_copyStep_22 : decode cX7_copyStep 22 = .ok (.iaload, 1) := by decide +kernel
theorem dX7_copyStep_23 : decode cX7_copyStep 23 = .ok (.iastore, 1) := by decide +kernel
theorem dX7_copyStep_24 : decode cX7_copyStep 24 = .ok (.aload_n 0, 1) := by decide +kernel
theorem dX7_copyStep_25 : decode cX7_copyStep 25 = .ok (.getfield 18, 3) := by decide +kernel
theorem dX7_copyStep_28 : decode cX7_copyStep 28 = .ok (.iload_n 2, 1) := by decide +kernel
theorem dX7_copyStep_29 : decode cX7_copyStep 29 = .ok (.aload_n 0, 1) := by decide +kernel
theorem dX7_copyStep_30 : decode cX7_copyStep 30 = .ok (.getfield 18, 3) := by decide +kernel
theorem dX7_copyStep_33 : decode cX7_copyStep 33 = .ok (.iload_n 1, 1) := by decide +kernel
theorem dX7_copyStep_34 : decode cX7_copyStep 34 = .ok (.iaload, 1) := by decide +kernel
theorem dX7_copyStep_35 : decode cX7_copyStep 35 = .ok (.iastore, 1) := by decide +kernel
theorem dX7_copyStep_36 : decode cX7_copyStep 36 = .ok (.aload_n 0, 1) := by decide +kernel
theorem dX7_copyStep_37 : decode cX7_copyStep 37 = .ok (.getfield 21, 3) := by decide +kernel
theorem dX7_copyStep_40 : decode cX7_copyStep 40 = .ok (.iload_n 2, 1) := by decide +kernel
theorem dX7_copyStep_41 : decode cX7_copyStep 41 = .ok (.aload_n 0, 1) := by decide +kernel
theorem dX7_copyStep_42 : decode cX7_copyStep 42 = .ok (.getfield 21, 3) := by decide +kernel
theorem dX7_copyStep_45 : decode cX7_copyStep 45 = .ok (.iload_n 1, 1) := by decide +kernel
theorem dX7_copyStep_46 : decode cX7_copyStep 46 = .ok (.iaload, 1) := by decide +kernel
theorem dX7_copyStep_47 : decode cX7_copyStep 47 = .ok (.iastore, 1) := by decide +kernel
theorem dX7_copyStep_48 : decode cX7_copyStep 48 = .ok (.return_, 1) := by decide +kernel
theorem dX7_isAllOfALoop_0 : decode cX7_isAllOfALoop 0 = .ok (.iload_n 1, 1) := by decide +kernel
theorem dX7_isAllOfALoop_1 : decode cX7_isAllOfALoop 1 = .ok (.iconst 1, 1) := by decide +kernel
theorem dX7_isAllOfALoop_2 : decode cX7_isAllOfALoop 2 = .ok (.iadd, 1) := by decide +kernel
theorem dX7_isAllOfALoop_3 : decode cX7_isAllOfALoop 3 = .ok (.istore_n 2, 1) := by decide +kernel
theorem dX7_isAllOfALoop_4 : decode cX7_isAllOfALoop 4 = .ok (.iload_n 2, 1) := by decide +kernel
theorem dX7_isAllOfALoop_5 : decode cX7_isAllOfALoop 5 = .ok (.aload_n 0, 1) := by decide +kernel
theorem dX7_isAllOfALoop_6 : decode cX7_isAllOfALoop 6 = .ok (.getfield 24, 3) := by decide +kernel
theorem dX7_isAllOfALoop_9 : decode cX7_isAllOfALoop 9 = .ok (.if_icmp .ge 27, 3) := by decide +kernel
theorem dX7_isAllOfALoop_12 : decode cX7_isAllOfALoop 12 = .ok (.aload_n 0, 1) := by decide +kernel
theorem dX7_isAllOfALoop_13 : decode cX7_isAllOfALoop 13 = .ok (.getfield 9, 3) := by decide +kernel
theorem dX7_isAllOfALoop_16 : decode cX7_isAllOfALoop 16 = .ok (.iload_n 2, 1) := by decide +kernel
theorem dX7_isAllOfALoop_17 : decode cX7_isAllOfALoop 17 = .ok (.iaload, 1) := by decide +kernel
theorem dX7_isAllOfALoop_18 : decode cX7_isAllOfALoop 18 = .ok (.iconst 4, 1) := by decide +kernel
theorem dX7_isAllOfALoop_19 : decode cX7_isAllOfALoop 19 = .ok (.if_icmp .ne 17, 3) := by decide +kernel
theorem dX7_isAllOfALoop_22 : decode cX7_isAllOfALoop 22 = .ok (.aload_n 0, 1) := by decide +kernel
theorem dX7_isAllOfALoop_23 : decode cX7_isAllOfALoop 23 = .ok (.getfield 15, 3) := by decide +kernel
theorem dX7_isAllOfALoop_26 : decode cX7_isAllOfALoop 26 = .ok (.iload_n 2, 1) := by decide +kernel
theorem dX7_isAllOfALoop_27 : decode cX7_isAllOfALoop 27 = .ok (.iaload, 1) := by decide +kernel
theorem dX7_isAllOfALoop_28 : decode cX7_isAllOfALoop 28 = .ok (.iload_n 1, 1) := by decide +kernel
theorem dX7_isAllOfALoop_29 : decode cX7_isAllOfALoop 29 = .ok (.if_icmp .ne 7, 3) := by decide +kernel
theorem dX7_isAllOfALoop_32 : decode cX7_isAllOfALoop 32 = .ok (.iconst 1, 1) := by decide +kernel
theorem dX7_isAllOfALoop_33 : decode cX7_isAllOfALoop 33 = .ok (.goto 4, 3) := by decide +kernel
theorem dX7_isAllOfALoop_36 : decode cX7_isAllOfALoop 36 = .ok (.iconst 0, 1) := by decide +kernel
theorem dX7_isAllOfALoop_37 : decode cX7_isAllOfALoop 37 = .ok (.ireturn, 1) := by decide +kernel
theorem dX7_behindLastLoop_0 : decode cX7_behindLastLoop 0 = .ok (.iconst 0, 1) := by decide +kernel
theorem dX7_behindLastLoop_1 : decode cX7_behindLastLoop 1 = .ok (.istore_n 1, 1) := by decide +kernel
theorem dX7_behindLastLoop_2 : decode cX7_behindLastLoop 2 = .ok (.iconst 0, 1) := by decide +kernel
theorem dX7_behindLastLoop_3 : decode cX7_behindLastLoop 3 = .ok (.istore_n 2, 1) := by decide +kernel
theorem dX7_behindLastLoop_4 : decode cX7_behindLastLoop 4 = .ok (.iload_n 2, 1) := by decide +kernel
theorem dX7_behindLastLoop_5 : decode cX7_behindLastLoop 5 = .ok (.aload_n 0, 1) := by decide +kernel
theorem dX7_behindLastLoop_6 : decode cX7_behindLastLoop 6 = .ok (.getfield 24, 3) := by decide +kernel
theorem dX7_behindLastLoop_9 : decode cX7_behindLastLoop 9 = .ok (.if_icmp .ge 23, 3) := by decide +kernel
theorem dX7_behindLastLoop_12 : decode cX7_behindLastLoop 12 = .ok (.aload_n 0, 1) := by decide +kernel
theorem dX7_behindLastLoop_13 : decode cX7_behindLastLoop 13 = .ok (.getfield 9, 3) := by decide +kernel
theorem dX7_behindLastLoop_16 : decode cX7_behindLastLoop 16 = .ok (.iload_n 2, 1) := by decide +kernel
theorem dX7_behindLastLoop_17 : decode cX7_behindLastLoop 17 = .ok (.iaload, 1) := by decide +kernel
theorem dX7_behindLastLoop_18 : decode cX7_behindLastLoop 18 = .ok (.iconst 4, 1) := by decide +kernel
theorem dX7_behindLastLoop_19 : decode cX7_behindLastLoop 19 = .ok (.if_icmp .ne 7, 3) := by decide +kernel
theorem dX7_behindLastLoop_22 : decode cX7_behindLastLoop 22 = .ok (.iload_n 2, 1) := by decide +kernel
theorem dX7_behindLastLoop_23 : decode cX7_behindLastLoop 23 = .ok (.iconst 1, 1) := by decide +kernel
theorem dX7_behindLastLoop_24 : decode cX7_behindLastLoop 24 = .ok (.iadd, 1) := by decide +kernel
theorem dX7_behindLastLoop_25 : decode cX7_behindLastLoop 25 = .ok (.istore_n 1, 1) := by decide +kernel
theorem dX7_behindLastLoop_26 : decode cX7_behindLastLoop 26 = .ok (.iinc 2 1, 3) := by decide +kernel
theorem dX7_behindLastLoop_29 : decode cX7_behindLastLoop 29 = .ok (.goto (-25), 3) := by decide +kernel
theorem dX7_behindLastLoop_32 : decode cX7_behindLastLoop 32 = .ok (.iload_n 1, 1) := by decide +kernel
theorem dX7_behindLastLoop_33 : decode cX7_behindLastLoop 33 = .ok (.ireturn, 1) := by decide +kernel
theorem dX7_countLoops_0 : decode cX7_countLoops 0 = .ok (.iconst 0, 1) := by decide +kernel
theorem dX7_countLoops_1 : decode cX7_countLoops 1 = .ok (.istore_n 1, 1) := by decide +kernel
theorem dX7_countLoops_2 : decode cX7_countLoops 2 = .ok (.iconst 0, 1) := by decide +kernel
theorem dX7_countLoops_3 : decode cX7_countLoops 3 = .ok (.istore_n 2, 1) := by decide +kernel
theorem dX7_countLoops_4 : decode cX7_countLoops 4 = .ok (.iload_n 2, 1) := by decide +kernel
theorem dX7_countLoops_5 : decode cX7_countLoops 5 = .ok (.aload_n 0, 1) := by decide +kernel
theorem dX7_countLoops_6 : decode cX7_countLoops 6 = .ok (.getfield 24, 3) := by decide +kernel
theorem dX7_countLoops_9 : decode cX7_countLoops 9 = .ok (.if_icmp .ge 22, 3) := by decide +kernel
theorem dX7_countLoops_12 : decode cX7_countLoops 12 = .ok (.aload_n 0, 1) := by decide +kernel
theorem dX7_countLoops_13 : decode cX7_countLoops 13 = .ok (.getfield 9, 3) := by decide +kernel
theorem dX7_countLoops_16 : decode cX7_countLoops 16 = .ok (.iload_n 2, 1) := by decide +kernel
theorem dX7_countLoops_17 : decode cX7_countLoops 17 = .ok (.iaload, 1) := by decide +kernel
theorem dX7_countLoops_18 : decode cX7_countLoops 18 = .ok (.iconst 4, 1) := by decide +kernel
theorem dX7_countLoops_19 : decode cX7_countLoops 19 = .ok (.if_icmp .ne 6, 3) := by decide +kernel
theorem dX7_countLoops_22 : decode cX7_countLoops 22 = .ok (.iinc 1 1, 3) := by decide +kernel
theorem dX7_countLoops_25 : decode cX7_countLoops 25 = .ok (.iinc 2 1, 3) := by decide +kernel
theorem dX7_countLoops_28 : decode cX7_countLoops 28 = .ok (.goto (-24), 3) := by decide +kernel
theorem dX7_countLoops_31 : decode cX7_countLoops 31 = .ok (.iload_n 1, 1) := by decide +kernel
theorem dX7_countLoops_32 : decode cX7_countLoops 32 = .ok (.ireturn, 1) := by decide +kernel
theorem dX8_init_0 : decode cX8_init 0 = .ok (.aload_n 0, 1) := by decide +kernel
theorem dX8_init_1 : decode cX8_init 1 = .ok (.invokespecial 1, 3) := by decide +kernel
theorem dX8_init_4 : decode cX8_init 4 = .ok (.aload_n 0, 1) := by decide +kernel
theorem dX8_init_5 : decode cX8_init 5 = .ok (.new 7, 3) := by decide +kernel
theorem dX8_init_8 : decode cX8_init 8 = .ok (.dup, 1) := by decide +kernel
theorem dX8_init_9 : decode cX8_init 9 = .ok (.invokespecial 9, 3) := by decide +kernel
theorem dX8_init_12 : decode cX8_init 12 = .ok (.putfield 10, 3) := by decide +kernel
theorem dX8_init_15 : decode cX8_init 15 = .ok (.aload_n 0, 1) := by decide +kernel
theorem dX8_init_16 : decode cX8_init 16 = .ok (.new 16, 3) := by decide +kernel
theorem dX8_init_19 : decode cX8_init 19 = .ok (.dup, 1) := by decide +kernel
theorem dX8_init_20 : decode cX8_init 20 = .ok (.invokespecial 18, 3) := by decide +kernel
theorem dX8_init_23 : decode cX8_init 23 = .ok (.putfield 19, 3) := by decide +kernel
theorem dX8_init_26 : decode cX8_init 26 = .ok (.aload_n 0, 1) := by decide +kernel
theorem dX8_init_27 : decode cX8_init 27 = .ok (.new 23, 3) := by decide +kernel
theorem dX8_init_30 : decode cX8_init 30 = .ok (.dup, 1) := by decide +kernel
theorem dX8_init_31 : decode cX8_init 31 = .ok (.invokespecial 25, 3) := by decide +kernel
theorem dX8_init_34 : decode cX8_init 34 = .ok (.putfield 26, 3) := by decide +kernel
theorem dX8_init_37 : decode cX8_init 37 = .ok (.aload_n 0, 1) := by decide +kernel
theorem dX8_init_38 : decode cX8_init 38 = .ok (.new 30, 3) := by decide +kernel
theorem dX8_init_41 : decode cX8_init 41 = .ok (.dup, 1) := by decide +kernel
theorem dX8_init_42 : decode cX8_init 42 = .ok (.invokespecial 32, 3) := by decide +kernel
theorem dX8_init_45 : decode cX8_init 45 = .ok (.putfield 33, 3) := by decide +kernel
theorem dX8_init_48 : decode cX8_init 48 = .ok (.aload_n 0, 1) := by decide +kernel
theorem dX8_init_49 : decode cX8_init 49 = .ok (.new 37, 3) := by decide +kernel
theorem dX8_init_52 : decode cX8_init 52 = .ok (.dup, 1) := by decide +kernel
theorem dX8_init_53 : decode cX8_init 53 = .ok (.invokespecial 39, 3) := by decide +kernel
theorem dX8_init_56 : decode cX8_init 56 = .ok (.putfield 40, 3) := by decide +kernel
theorem dX8_init_59 : decode cX8_init 59 = .ok (.aload_n 0, 1) := by decide +kernel
theorem dX8_init_60 : decode cX8_init 60 = .ok (.new 44, 3) := by decide +kernel
theorem dX8_init_63 : decode cX8_init 63 = .ok (.dup, 1) := by decide +kernel
theorem dX8_init_64 : decode cX8_init 64 = .ok (.invokespecial 46, 3) := by decide +kernel
theorem dX8_init_67 : decode cX8_init 67 = .ok (.putfield 47, 3) := by decide +kernel
theorem dX8_init_70 : decode cX8_init 70 = .ok (.aload_n 0, 1) := by decide +kernel
theorem dX8_init_71 : decode cX8_init 71 = .ok (.new 23, 3) := by decide +kernel
theorem dX8_init_74 : decode cX8_init 74 = .ok (.dup, 1) := by decide +kernel
theorem dX8_init_75 : decode cX8_init 75 = .ok (.invokespecial 25, 3) := by decide +kernel
theorem dX8_init_78 : decode cX8_init 78 = .ok (.putfield 51, 3) := by decide +kernel
theorem dX8_init_81 : decode cX8_init 81 = .ok (.aload_n 0, 1) := by decide +kernel
theorem dX8_init_82 : decode cX8_init 82 = .ok (.new 44, 3) := by decide +kernel
theorem dX8_init_85 : decode cX8_init 85 = .ok (.dup, 1) := by decide +kernel
theorem dX8_init_86 : decode cX8_init 86 = .ok (.invokespecial 46, 3) := by decide +kernel
theorem dX8_init_89 : decode cX8_init 89 = .ok (.putfield 54, 3) := by decide +kernel
theorem dX8_init_92 : decode cX8_init 92 = .ok (.aload_n 0, 1) := by decide +kernel
theorem dX8_init_93 : decode cX8_init 93 = .ok (.new 57, 3) := by decide +kernel
theorem dX8_init_96 : decode cX8_init 96 = .ok (.dup, 1) := by decide +kernel
theorem dX8_init_97 : decode cX8_init 97 = .ok (.invokespecial 59, 3) := by decide +kernel
theorem dX8_init_100 : decode cX8_init 100 = .ok (.putfield 60, 3) := by decide +kernel
theorem dX8_init_103 : decode cX8_init 103 = .ok (.aload_n 0, 1) := by decide +kernel
theorem dX8_init_104 : decode cX8_init 104 = .ok (.new 64, 3) := by decide +kernel
theorem dX8_init_107 : decode cX8_init 107 = .ok (.dup, 1) := by decide +kernel
theorem dX8_init_108 : decode cX8_init 108 = .ok (.invokespecial 66, 3) := by decide +kernel
theorem dX8_init_111 : decode cX8_init 111 = .ok (.putfield 67, 3) := by decide +kernel
theorem dX8_init_114 : decode cX8_init 114 = .ok (.aload_n 0, 1) := by decide +kernel
theorem dX8_init_115 : decode cX8_init 115 = .ok (.iconst 0, 1) := by decide +kernel
theorem dX8_init_116 : decode cX8_init 116 = .ok (.putfield 71, 3) := by decide +kernel
theorem dX8_init_119 : decode cX8_init 119 = .ok (.aload_n 0, 1) := by decide +kernel
theorem dX8_init_120 : decode cX8_init 120 = .ok (.iconst 0, 1) := by decide +kernel
theorem dX8_init_121 : decode cX8_init 121 = .ok (.putfield 75, 3) := by decide +kernel
theorem dX8_init_124 : decode cX8_init 124 = .ok (.return_, 1) := by decide +kernel
theorem dX8_letter_0 : decode cX8_letter 0 = .ok (.iload_n 1, 1) := by decide +kernel
theorem dX8_letter_1 : decode cX8_letter 1 = .ok (.iconst 1, 1) := by decide +kernel
theorem dX8_letter_2 : decode cX8_letter 2 = .ok (.if_icmp .lt 9, 3) := by decide +kernel
theorem dX8_letter_5 : decode cX8_letter 5 = .ok (.iload_n 1, 1) := by decide +kernel
theorem dX8_letter_6 : decode cX8_letter 6 = .ok (.bipush 126, 2) := by decide +kernel
theorem dX8_letter_8 : decode cX8_letter 8 = .ok (.if_icmp .le 6, 3) := by decide +kernel
theorem dX8_letter_11 : decode cX8_letter 11 = .ok (.bipush (-102), 2) := by decide +kernel
theorem dX8_letter_13 : decode cX8_letter 13 = .ok (.ireturn, 1) := by decide +kernel
theorem dX8_letter_14 : decode cX8_letter 14 = .ok (.aload_n 0, 1) := by decide +kernel
theorem dX8_letter_15 : decode cX8_letter 15 = .ok (.getfield 10, 3) := by decide +kernel
theorem dX8_letter_18 : decode cX8_letter 18 = .ok (.getfield 79, 3) := by decide +kernel
theorem dX8_letter_21 : decode cX8_letter 21 = .ok (.bipush 36, 2) := by decide +kernel
theorem dX8_letter_23 : decode cX8_letter 23 = .ok (.if_icmp .lt 6, 3) := by decide +kernel
theorem dX8_letter_26 : decode cX8_letter 26 = .ok (.bipush (-104), 2) := by decide +kernel
theorem dX8_letter_28 : decode cX8_letter 28 = .ok (.ireturn, 1) := by decide +kernel
theorem dX8_letter_29 : decode cX8_letter 29 = .ok (.aload_n 0, 1) := by decide +kernel
theorem dX8_letter_30 : decode cX8_letter 30 = .ok (.getfield 10, 3) := by decide +kernel
theorem dX8_letter_33 : decode cX8_letter 33 = .ok (.iload_n 1, 1) := by decide +kernel
theorem dX8_letter_34 : decode cX8_letter 34 = .ok (.invokevirtual 82, 3) := by decide +kernel
theorem dX8_letter_37 : decode cX8_letter 37 = .ok (.aload_n 0, 1) := by decide +kernel
theorem dX8_letter_38 : decode cX8_letter 38 = .ok (.getfield 10, 3) := by decide +kernel
theorem dX8_letter_41 : decode cX8_letter 41 = .ok (.getfield 79, 3) := by decide +kernel
theorem dX8_letter_44 : decode cX8_letter 44 = .ok (.ireturn, 1) := by decide +kernel
theorem dX8_blank_0 : decode cX8_blank 0 = .ok (.aload_n 0, 1) := by decide +kernel
theorem dX8_blank_1 : decode cX8_blank 1 = .ok (.getfield 10, 3) := by decide +kernel
theorem dX8_blank_4 : decode cX8_blank 4 = .ok (.getfield 79, 3) := by decide +kernel
theorem dX8_blank_7 : decode cX8_blank 7 = .ok (.istore_n 1, 1) := by decide +kernel
theorem dX8_blank_8 : decode cX8_blank 8 = .ok (.aload_n 0, 1) := by decide +kernel
theorem dX8_blank_9 : decode cX8_blank 9 = .ok (.getfield 10, 3) := by decide +kernel
theorem dX8_blank_12 : decode cX8_blank 12 = .ok (.iconst 0, 1) := by decide +kernel
theorem dX8_blank_13 : decode cX8_blank 13 = .ok (.putfield 79, 3) := by decide +kernel
theorem dX8_blank_16 : decode cX8_blank 16 = .ok (.iload_n 1, 1) := by decide +kernel
theorem dX8_blank_17 : decode cX8_blank 17 = .ok (.ireturn, 1) := by decide +kernel
theorem dX8_fault_0 : decode cX8_fault 0 = .ok (.aload_n 0, 1) := by decide +kernel
theorem dX8_fault_1 : decode cX8_fault 1 = .ok (.getfield 19, 3) := by decide +kernel
theorem dX8_fault_4 : decode cX8_fault 4 = .ok (.aload_n 0, 1) := by decide +kernel
theorem dX8_fault_5 : decode cX8_fault 5 = .ok (.getfield 10, 3) := by decide +kernel
theorem dX8_fault_8 : decode cX8_fault 8 = .ok (.invokevirtual 86, 3) := by decide +kernel
theorem dX8_fault_11 : decode cX8_fault 11 = .ok (.ireturn, 1) := by decide +kernel
theorem dX8_program_0 : decode cX8_program 0 = .ok (.aload_n 0, 1) := by decide +kernel
theorem dX8_program_1 : decode cX8_program 1 = .ok (.getfield 19, 3) := by decide +kernel
theorem dX8_program_4 : decode cX8_program 4 = .ok (.aload_n 0, 1) := by decide +kernel
theorem dX8_program_5 : decode cX8_program 5 = .ok (.getfield 10, 3) := by decide +kernel
theorem dX8_program_8 : decode cX8_program 8 = .ok (.invokevirtual 86, 3) := by decide +kernel
theorem dX8_program_11 : decode cX8_program 11 = .ok (.aload_n 0, 1) := by decide +kernel
theorem dX8_program_12 : decode cX8_program 12 = .ok (.getfield 10, 3) := by decide +kernel
theorem dX8_program_15 : decode cX8_program 15 = .ok (.getfield 79, 3) := by decide +kernel
theorem dX8_program_18 : decode cX8_program 18 = .ok (.if_icmp .lt 13, 3) := by decide +kernel
theorem dX8_program_21 : decode cX8_program 21 = .ok (.aload_n 0, 1) := by decide +kernel
theorem dX8_program_22 : decode cX8_program 22 = .ok (.getfield 19, 3) := by decide +kernel
theorem dX8_program_25 : decode cX8_program 25 = .ok (.invokevirtual 90, 3) := by decide +kernel
theorem dX8_program_28 : decode cX8_program 28 = .ok (.ifCond .ne 6, 3) := by decide +kernel
theorem dX8_program_31 : decode cX8_program 31 = .ok (.bipush (-103), 2) := by decide +kernel
theorem dX8_program_33 : decode cX8_program 33 = .ok (.ireturn, 1) := by decide +kernel
theorem dX8_program_34 : decode cX8_program 34 = .ok (.aload_n 0, 1) := by decide +kernel
theorem dX8_program_35 : decode cX8_program 35 = .ok (.getfield 26, 3) := by decide +kernel
theorem dX8_program_38 : decode cX8_program 38 = .ok (.aload_n 0, 1) := by decide +kernel
theorem dX8_program_39 : decode cX8_program 39 = .ok (.getfield 19, 3) := by decide +kernel
theorem dX8_program_42 : decode cX8_program 42 = .ok (.getfield 94, 3) := by decide +kernel
theorem dX8_program_45 : decode cX8_program 45 = .ok (.invokevirtual 97, 3) := by decide +kernel
theorem dX8_program_48 : decode cX8_program 48 = .ok (.aload_n 0, 1) := by decide +kernel
theorem dX8_program_49 : decode cX8_program 49 = .ok (.getfield 10, 3) := by decide +kernel
theorem dX8_program_52 : decode cX8_program 52 = .ok (.iconst 0, 1) := by decide +kernel
theorem dX8_program_53 : decode cX8_program 53 = .ok (.putfield 79, 3) := by decide +kernel
theorem dX8_program_56 : decode cX8_program 56 = .ok (.aload_n 0, 1) := by decide +kernel
theorem dX8_program_57 : decode cX8_program 57 = .ok (.getfield 47, 3) := by decide +kernel
theorem dX8_program_60 : decode cX8_program 60 = .ok (.iconst 0, 1) := by decide +kernel
theorem dX8_program_61 : decode cX8_program 61 = .ok (.putfield 101, 3) := by decide +kernel
theorem dX8_program_64 : decode cX8_program 64 = .ok (.aload_n 0, 1) := by decide +kernel
theorem dX8_program_65 : decode cX8_program 65 = .ok (.iconst 0, 1) := by decide +kernel
theorem dX8_program_66 : decode cX8_program 66 = .ok (.putfield 71, 3) := by decide +kernel
theorem dX8_program_69 : decode cX8_program 69 = .ok (.aload_n 0, 1) := by decide +kernel
theorem dX8_program_70 : decode cX8_program 70 = .ok (.dup, 1) := by decide +kernel
theorem dX8_program_71 : decode cX8_program 71 = .ok (.getfield 75, 3) := by decide +kernel
theorem dX8_program_74 : decode cX8_program 74 = .ok (.iconst 1, 1) := by decide +kernel
theorem dX8_program_75 : decode cX8_program 75 = .ok (.iadd, 1) := by decide +kernel
theorem dX8_program_76 : decode cX8_program 76 = .ok (.putfield 75, 3) := by decide +kernel
theorem dX8_program_79 : decode cX8_program 79 = .ok (.aload_n 0, 1) := by decide +kernel
theorem dX8_program_80 : decode cX8_program 80 = .ok (.invokevirtual 102, 3) := by decide +kernel
theorem dX8_program_83 : decode cX8_program 83 = .ok (.aload_n 0, 1) := by decide +kernel
theorem dX8_program_84 : decode cX8_program 84 = .ok (.getfield 26, 3) := by decide +kernel
theorem dX8_program_87 : decode cX8_program 87 = .ok (.getfield 105, 3) := by decide +kernel
theorem dX8_program_90 : decode cX8_program 90 = .ok (.ireturn, 1) := by decide +kernel
theorem dX8_step_0 : decode cX8_step 0 = .ok (.aload_n 0, 1) := by decide +kernel
theorem dX8_step_1 : decode cX8_step 1 = .ok (.iload_n 1, 1) := by decide +kernel
theorem dX8_step_2 : decode cX8_step 2 = .ok (.invokevirtual 106, 3) := by decide +kernel
theorem dX8_step_5 : decode cX8_step 5 = .ok (.ifCond .ne 6, 3) := by decide +kernel
theorem dX8_step_8 : decode cX8_step 8 = .ok (.bipush (-101), 2) := by decide +kernel
theorem dX8_step_10 : decode cX8_step 10 = .ok (.ireturn, 1) := by decide +kernel
theorem dX8_step_11 : decode cX8_step 11 = .ok (.iload_n 2, 1) := by decide +kernel
theorem dX8_step_12 : decode cX8_step 12 = .ok (.tableswitch 168 0 8 #[52, 62, 72, 82, 114, 126, 138, 147, 156], 52) := by decide +kernel
theorem dX8_step_64 : decode cX8_step 64 = .ok (.aload_n 0, 1) := by decide +kernel
theorem dX8_step_65 : decode cX8_step 65 = .ok (.getfield 26, 3) := by decide +kernel
theorem dX8_step_68 : decode cX8_step 68 = .ok (.getfield 110, 3) := by decide +kernel
theorem dX8_step_71 : decode cX8_step 71 = .ok (.iload_n 1, 1) := by decide +kernel
theorem dX8_step_72 : decode cX8_step 72 = .ok (.iaload, 1) := by decide +kernel
theorem dX8_step_73 : decode cX8_step 73 = .ok (.ireturn, 1) := by decide +kernel
theorem dX8_step_74 : decode cX8_step 74 = .ok (.aload_n 0, 1) := by decide +kernel
theorem dX8_step_75 : decode cX8_step 75 = .ok (.getfield 26, 3) := by decide +kernel
theorem dX8_step_78 : decode cX8_step 78 = .ok (.getfield 114, 3) := by decide +kernel
theorem dX8_step_81 : decode cX8_step 81 = .ok (.iload_n 1, 1) := by decide +kernel
theorem dX8_step_82 : decode cX8_step 82 = .ok (.iaload, 1) := by decide +kernel
theorem dX8_step_83 : decode cX8_step 83 = .ok (.ireturn, 1) := by decide +kernel
theorem dX8_step_84 : decode cX8_step 84 = .ok (.aload_n 0, 1) := by decide +kernel
theorem dX8_step_85 : decode cX8_step 85 = .ok (.getfield 26, 3) := by decide +kernel
theorem dX8_step_88 : decode cX8_step 88 = .ok (.getfield 117, 3) := by decide +kernel
theorem dX8_step_91 : decode cX8_step 91 = .ok (.iload_n 1, 1) := by decide +kernel
theorem dX8_step_92 : decode cX8_step 92 = .ok (.iaload, 1) := by decide +kernel
theorem dX8_step_93 : decode cX8_step 93 = .ok (.ireturn, 1) := by decide +kernel
theorem dX8_step_94 : decode cX8_step 94 = .ok (.aload_n 0, 1) := by decide +kernel
theorem dX8_step_95 : decode cX8_step 95 = .ok (.getfield 26, 3) := by decide +kernel
theorem dX8_step_98 : decode cX8_step 98 = .ok (.getfield 110, 3) := by decide +kernel
theorem dX8_step_101 : decode cX8_step 101 = .ok (.iload_n 1, 1) := by decide +kernel
theorem dX8_step_102 : decode cX8_step 102 = .ok (.iaload, 1) := by decide +kernel
theorem dX8_step_103 : decode cX8_step 103 = .ok (.invokestatic 120, 3) := by decide +kernel
theorem dX8_step_106 : decode cX8_step 106 = .ok (.ifCond .eq 18, 3) := by decide +kernel
theorem dX8_step_109 : decode cX8_step 109 = .ok (.aload_n 0, 1) := by decide +kernel
theorem dX8_step_110 : decode cX8_step 110 = .ok (.getfield 26, 3) := by decide +kernel
theorem dX8_step_113 : decode cX8_step 113 = .ok (.getfield 123, 3) := by decide +kernel
theorem dX8_step_116 : decode cX8_step 116 = .ok (.iload_n 1, 1) := by decide +kernel
theorem dX8_step_117 : decode cX8_step 117 = .ok (.iaload, 1) := by decide +kernel
theorem dX8_step_118 : decode cX8_step 118 = .ok (.bipush 100, 2) := by decide +kernel
theorem dX8_step_120 : decode cX8_step 120 = .ok (.iadd, 1) := by decide +kernel
theorem dX8_step_121 : decode cX8_step 121 = .ok (.goto 4, 3) := by decide +kernel
theorem dX8_step_124 : decode cX8_step 124 = .ok (.iconst (-1), 1) := by decide +kernel
theorem dX8_step_125 : decode cX8_step 125 = .ok (.ireturn, 1) := by decide +kernel
theorem dX8_step_126 : decode cX8_step 126 = .ok (.aload_n 0, 1) := by decide +kernel
theorem dX8_step_127 : decode cX8_step 127 = .ok (.getfield 33, 3) := by decide +kernel
theorem dX8_step_130 : decode cX8_step 130 = .ok (.iload_n 1, 1) := by decide +kernel
theorem dX8_step_131 : decode cX8_step 131 = .ok (.invokevirtual 126, 3) := by decide +kernel
theorem dX8_step_134 : decode cX8_step 134 = .ok (.invokestatic 129, 3) := by decide +kernel
theorem dX8_step_137 : decode cX8_step 137 = .ok (.ireturn, 1) := by decide +kernel
theorem dX8_step_138 : decode cX8_step 138 = .ok (.aload_n 0, 1) := by decide +kernel
theorem dX8_step_139 : decode cX8_step 139 = .ok (.getfield 33, 3) := by decide +kernel
theorem dX8_step_142 : decode cX8_step 142 = .ok (.iload_n 1, 1) := by decide +kernel
theorem dX8_step_143 : decode cX8_step 143 = .ok (.invokevirtual 133, 3) := by decide +kernel
theorem dX8_step_146 : decode cX8_step 146 = .ok (.invokestatic 129, 3) := by decide +kernel
theorem dX8_step_149 : decode cX8_step 149 = .ok (.ireturn, 1) := by decide +kernel
theorem dX8_step_150 : decode cX8_step 150 = .ok (.aload_n 0, 1) := by decide +kernel
theorem dX8_step_151 : decode cX8_step 151 = .ok (.iload_n 1, 1) := by decide +kernel
theorem dX8_step_152 : decode cX8_step 152 = .ok (.invokevirtual 136, 3) := by decide +kernel
theorem dX8_step_155 : decode cX8_step 155 = .ok (.invokestatic 129, 3) := by decide +kernel
theorem dX8_step_158 : decode cX8_step 158 = .ok (.ireturn, 1) := by decide +kernel
theorem dX8_step_159 : decode cX8_step 159 = .ok (.aload_n 0, 1) := by decide +kernel
theorem dX8_step_160 : decode cX8_step 160 = .ok (.getfield 47, 3) := by decide +kernel
theorem dX8_step_163 : decode cX8_step 163 = .ok (.iload_n 1, 1) := by decide +kernel
theorem dX8_step_164 : decode cX8_step 164 = .ok (.invokevirtual 139, 3) := by decide +kernel
theorem dX8_step_167 : decode cX8_step 167 = .ok (.ireturn, 1) := by decide +kernel
theorem dX8_step_168 : decode cX8_step 168 = .ok (.aload_n 0, 1) := by decide +kernel
theorem dX8_step_169 : decode cX8_step 169 = .ok (.getfield 47, 3) := by decide +kernel
theorem dX8_step_172 : decode cX8_step 172 = .ok (.iload_n 1, 1) := by decide +kernel
theorem dX8_step_173 : decode cX8_step 173 = .ok (.invokevirtual 139, 3) := by decide +kernel
theorem dX8_step_176 : decode cX8_step 176 = .ok (.invokestatic 143, 3) := by decide +kernel
theorem dX8_step_179 : decode cX8_step 179 = .ok (.ireturn, 1) := by decide +kernel
theorem dX8_step_180 : decode cX8_step 180 = .ok (.bipush (-102), 2) := by decide +kernel
theorem dX8_step_182 : decode cX8_step 182 = .ok (.ireturn, 1) := by decide +kernel
theorem dX8_as_0 : decode cX8_as 0 = .ok (.aload_n 0, 1) := by decide +kernel
theorem dX8_as_1 : decode cX8_as 1 = .ok (.iload_n 1, 1) := by decide +kernel
theorem dX8_as_2 : decode cX8_as 2 = .ok (.invokevirtual 106, 3) := by decide +kernel
theorem dX8_as_5 : decode cX8_as 5 = .ok (.ifCond .ne 6, 3) := by decide +kernel
theorem dX8_as_8 : decode cX8_as 8 = .ok (.bipush (-101), 2) := by decide +kernel
theorem dX8_as_10 : decode cX8_as 10 = .ok (.ireturn, 1) := by decide +kernel
theorem dX8_as_11 : decode cX8_as 11 = .ok (.iload_n 2, 1) := by decide +kernel
theorem dX8_as_12 : decode cX8_as 12 = .ok (.invokestatic 146, 3) := by decide +kernel
theorem dX8_as_15 : decode cX8_as 15 = .ok (.ifCond .ne 6, 3) := by decide +kernel
theorem dX8_as_18 : decode cX8_as 18 = .ok (.bipush (-102), 2) := by decide +kernel
theorem dX8_as_20 : decode cX8_as 20 = .ok (.ireturn, 1) := by decide +kernel
theorem dX8_as_21 : decode cX8_as 21 = .ok (.aload_n 0, 1) := by decide +kernel
theorem dX8_as_22 : decode cX8_as 22 = .ok (.getfield 26, 3) := by decide +kernel
theorem dX8_as_25 : decode cX8_as 25 = .ok (.getfield 110, 3) := by decide +kernel
theorem dX8_as_28 : decode cX8_as 28 = .ok (.iload_n 1, 1) := by decide +kernel
theorem dX8_as_29 : decode cX8_as 29 = .ok (.iaload, 1) := by decide +kernel
theorem dX8_as_30 : decode cX8_as 30 = .ok (.iload_n 2, 1) := by decide +kernel
theorem dX8_as_31 : decode cX8_as 31 = .ok (.invokestatic 149, 3) := by decide +kernel
theorem dX8_as_34 : decode cX8_as 34 = .ok (.ifCond .eq 7, 3) := by decide +kernel
theorem dX8_as_37 : decode cX8_as 37 = .ok (.iload_n 1, 1) := by decide +kernel
theorem dX8_as_38 : decode cX8_as 38 = .ok (.goto 4, 3) := by decide +kernel
theorem dX8_as_41 : decode cX8_as 41 = .ok (.iconst (-1), 1) := by decide +kernel
theorem dX8_as_42 : decode cX8_as 42 = .ok (.ireturn, 1) := by decide +kernel
theorem dX8_bound_0 : decode cX8_bound 0 = .ok (.aload_n 0, 1) := by decide +kernel
theorem dX8_bound_1 : decode cX8_bound 1 = .ok (.iload_n 1, 1) := by decide +kernel
theorem dX8_bound_2 : decode cX8_bound 2 = .ok (.invokevirtual 153, 3) := by decide +kernel
theorem dX8_bound_5 : decode cX8_bound 5 = .ok (.ifCond .ne 6, 3) := by decide +kernel
theorem dX8_bound_8 : decode cX8_bound 8 = .ok (.bipush (-101), 2) := by decide +kernel
theorem dX8_bound_10 : decode cX8_bound 10 = .ok (.ireturn, 1) := by decide +kernel
theorem dX8_bound_11 : decode cX8_bound 11 = .ok (.iload_n 2, 1) := by decide +kernel
theorem dX8_bound_12 : decode cX8_bound 12 = .ok (.invokestatic 156, 3) := by decide +kernel
theorem dX8_bound_15 : decode cX8_bound 15 = .ok (.ifCond .eq 10, 3) := by decide +kernel
theorem dX8_bound_18 : decode cX8_bound 18 = .ok (.iload_n 3, 1) := by decide +kernel
theorem dX8_bound_19 : decode cX8_bound 19 = .ok (.invokestatic 156, 3) := by decide +kernel
theorem dX8_bound_22 : decode cX8_bound 22 = .ok (.ifCond .ne 6, 3) := by decide +kernel
theorem dX8_bound_25 : decode cX8_bound 25 = .ok (.bipush (-102), 2) := by decide +kernel
theorem dX8_bound_27 : decode cX8_bound 27 = .ok (.ireturn, 1) := by decide +kernel
theorem dX8_bound_28 : decode cX8_bound 28 = .ok (.aload_n 0, 1) := by decide +kernel
theorem dX8_bound_29 : decode cX8_bound 29 = .ok (.getfield 33, 3) := by decide +kernel
theorem dX8_bound_32 : decode cX8_bound 32 = .ok (.getfield 159, 3) := by decide +kernel
theorem dX8_bound_35 : decode cX8_bound 35 = .ok (.iload_n 1, 1) := by decide +kernel
theorem dX8_bound_36 : decode cX8_bound 36 = .ok (.aaload, 1) := by decide +kernel
theorem dX8_bound_37 : decode cX8_bound 37 = .ok (.astore 4, 2) := by decide +kernel
theorem dX8_bound_39 : decode cX8_bound 39 = .ok (.aload 4, 2) := by decide +kernel
theorem dX8_bound_41 : decode cX8_bound 41 = .ok (.getfield 163, 3) := by decide +kernel
theorem dX8_bound_44 : decode cX8_bound 44 = .ok (.ifCond .eq 7, 3) := by decide +kernel
theorem dX8_bound_47 : decode cX8_bound 47 = .ok (.iconst (-1), 1) := by decide +kernel
theorem dX8_bound_48 : decode cX8_bound 48 = .ok (.goto 13, 3) := by decide +kernel
theorem dX8_bound_51 : decode cX8_bound 51 = .ok (.aload 4, 2) := by decide +kernel
theorem dX8_bound_53 : decode cX8_bound 53 = .ok (.iload_n 2, 1) := by decide +kernel
theorem dX8_bound_54 : decode cX8_bound 54 = .ok (.iload_n 3, 1) := by decide +kernel
theorem dX8_bound_55 : decode cX8_bound 55 = .ok (.invokevirtual 166, 3) := by decide +kernel
theorem dX8_bound_58 : decode cX8_bound 58 = .ok (.bipush 100, 2) := by decide +kernel
theorem dX8_bound_60 : decode cX8_bound 60 = .ok (.iadd, 1) := by decide +kernel
theorem dX8_bound_61 : decode cX8_bound 61 = .ok (.ireturn, 1) := by decide +kernel
theorem dX8_points_0 : decode cX8_points 0 = .ok (.aload_n 0, 1) := by decide +kernel
theorem dX8_points_1 : decode cX8_points 1 = .ok (.iload_n 1, 1) := by decide +kernel
theorem dX8_points_2 : decode cX8_points 2 = .ok (.invokevirtual 153, 3) := by decide +kernel
theorem dX8_points_5 : decode cX8_points 5 = .ok (.ifCond .ne 6, 3) := by decide +kernel
theorem dX8_points_8 : decode cX8_points 8 = .ok (.bipush (-101), 2) := by decide +kernel
theorem dX8_points_10 : decode cX8_points 10 = .ok (.ireturn, 1) := by decide +kernel
theorem dX8_points_11 : decode cX8_points 11 = .ok (.aload_n 0, 1) := by decide +kernel
theorem dX8_points_12 : decode cX8_points 12 = .ok (.getfield 33, 3) := by decide +kernel
theorem dX8_points_15 : decode cX8_points 15 = .ok (.iload_n 1, 1) := by decide +kernel
theorem dX8_points_16 : decode cX8_points 16 = .ok (.invokevirtual 170, 3) := by decide +kernel
theorem dX8_points_19 : decode cX8_points 19 = .ok (.ireturn, 1) := by decide +kernel
theorem dX8_has_0 : decode cX8_has 0 = .ok (.aload_n 0, 1) := by decide +kernel
theorem dX8_has_1 : decode cX8_has 1 = .ok (.iload_n 1, 1) := by decide +kernel
theorem dX8_has_2 : decode cX8_has 2 = .ok (.invokevirtual 153, 3) := by decide +kernel
theorem dX8_has_5 : decode cX8_has 5 = .ok (.ifCond .ne 6, 3) := by decide +kernel
theorem dX8_has_8 : decode cX8_has 8 = .ok (.bipush (-101), 2) := by decide +kernel
theorem dX8_has_10 : decode cX8_has 10 = .ok (.ireturn, 1) := by decide +kernel
theorem dX8_has_11 : decode cX8_has 11 = .ok (.iload_n 2, 1) := by decide +kernel
theorem dX8_has_12 : decode cX8_has 12 = .ok (.invokestatic 173, 3) := by decide +kernel
theorem dX8_has_15 : decode cX8_has 15 = .ok (.ifCond .eq 18, 3) := by decide +kernel
theorem dX8_has_18 : decode cX8_has 18 = .ok (.iload_n 3, 1) := by decide +kernel
theorem dX8_has_19 : decode cX8_has 19 = .ok (.invokestatic 173, 3) := by decide +kernel
theorem dX8_has_22 : decode cX8_has 22 = .ok (.ifCond .eq 11, 3) := by decide +kernel
theorem dX8_has_25 : decode cX8_has 25 = .ok (.iload 4, 2) := by decide +kernel
theorem dX8_has_27 : decode cX8_has 27 = .ok (.invokestatic 173, 3) := by decide +kernel
theorem dX8_has_30 : decode cX8_has 30 = .ok (.ifCond .ne 6, 3) := by decide +kernel
theorem dX8_has_33 : decode cX8_has 33 = .ok (.bipush (-102), 2) := by decide +kernel
theorem dX8_has_35 : decode cX8_has 35 = .ok (.ireturn, 1) := by decide +kernel
theorem dX8_has_36 : decode cX8_has 36 = .ok (.aload_n 0, 1) := by decide +kernel
theorem dX8_has_37 : decode cX8_has 37 = .ok (.getfield 33, 3) := by decide +kernel
theorem dX8_has_40 : decode cX8_has 40 = .ok (.getfield 159, 3) := by decide +kernel
theorem dX8_has_43 : decode cX8_has 43 = .ok (.iload_n 1, 1) := by decide +kernel
theorem dX8_has_44 : decode cX8_has 44 = .ok (.aaload, 1) := by decide +kernel
theorem dX8_has_45 : decode cX8_has 45 = .ok (.iload_n 2, 1) := by decide +kernel
theorem dX8_has_46 : decode cX8_has 46 = .ok (.iload_n 3, 1) := by decide +kernel
theorem dX8_has_47 : decode cX8_has 47 = .ok (.iload 4, 2) := by decide +kernel
theorem dX8_has_49 : decode cX8_has 49 = .ok (.invokevirtual 176, 3) := by decide +kernel
theorem dX8_has_52 : decode cX8_has 52 = .ok (.invokestatic 129, 3) := by decide +kernel
theorem dX8_has_55 : decode cX8_has 55 = .ok (.ireturn, 1) := by decide +kernel
theorem dX8_share_0 : decode cX8_share 0 = .ok (.aload_n 0, 1) := by decide +kernel
theorem dX8_share_1 : decode cX8_share 1 = .ok (.iload_n 1, 1) := by decide +kernel
theorem dX8_share_2 : decode cX8_share 2 = .ok (.invokevirtual 153, 3) := by decide +kernel
theorem dX8_share_5 : decode cX8_share 5 = .ok (.ifCond .ne 7, 3) := by decide +kernel
theorem dX8_share_8 : decode cX8_share 8 = .ok (.ldc2_w 180, 3) := by decide +kernel
theorem dX8_share_11 : decode cX8_share 11 = .ok (.lreturn, 1) := by decide +kernel
theorem dX8_share_12 : decode cX8_share 12 = .ok (.aload_n 0, 1) := by decide +kernel
theorem dX8_share_13 : decode cX8_share 13 = .ok (.getfield 33, 3) := by decide +kernel
theorem dX8_share_16 : decode cX8_share 16 = .ok (.iload_n 1, 1) := by decide +kernel
theorem dX8_share_17 : decode cX8_share 17 = .ok (.invokevirtual 170, 3) := by decide +kernel
theorem dX8_share_20 : decode cX8_share 20 = .ok (.invokestatic 182, 3) := by decide +kernel
theorem dX8_share_23 : decode cX8_share 23 = .ok (.lreturn, 1) := by decide +kernel
theorem dX8_compare_0 : decode cX8_compare 0 = .ok (.aload_n 0, 1) := by decide +kernel
theorem dX8_compare_1 : decode cX8_compare 1 = .ok (.iload_n 1, 1) := by decide +kernel
theorem dX8_compare_2 : decode cX8_compare 2 = .ok (.invokevirtual 153, 3) := by decide +kernel
theorem dX8_compare_5 : decode cX8_compare 5 = .ok (.ifCond .eq 11, 3) := by decide +kernel
theorem dX8_compare_8 : decode cX8_compare 8 = .ok (.aload_n 0, 1) := by decide +kernel
theorem dX8_compare_9 : decode cX8_compare 9 = .ok (.iload_n 2, 1) := by decide +kernel
theorem dX8_compare_10 : decode cX8_compare 10 = .ok (.invokevirtual 153, 3) := by decide +kernel
theorem dX8_compare_13 : decode cX8_compare 13 = .ok (.ifCond .ne 6, 3) := by decide +kernel
theorem dX8_compare_16 : decode cX8_compare 16 = .ok (.bipush (-101), 2) := by decide +kernel
theorem dX8_compare_18 : decode cX8_compare 18 = .ok (.ireturn, 1) := by decide +kernel
theorem dX8_compare_19 : decode cX8_compare 19 = .ok (.aload_n 0, 1) := by decide +kernel
theorem dX8_compare_20 : decode cX8_compare 20 = .ok (.getfield 33, 3) := by decide +kernel
theorem dX8_compare_23 : decode cX8_compare 23 = .ok (.getfield 159, 3) := by decide +kernel
theorem dX8_compare_26 : decode cX8_compare 26 = .ok (.iload_n 1, 1) := by decide +kernel
theorem dX8_compare_27 : decode cX8_compare 27 = .ok (.aaload, 1) := by decide +kernel
theorem dX8_compare_28 : decode cX8_compare 28 = .ok (.astore_n 3, 1) := by decide +kernel
theorem dX8_compare_29 : decode cX8_compare 29 = .ok (.aload_n 0, 1) := by decide +kernel
theorem dX8_compare_30 : decode cX8_compare 30 = .ok (.getfield 33, 3) := by decide +kernel
theorem dX8_compare_33 : decode cX8_compare 33 = .ok (.getfield 159, 3) := by decide +kernel
theorem dX8_compare_36 : decode cX8_compare 36 = .ok (.iload_n 2, 1) := by decide +kernel
theorem dX8_compare_37 : decode cX8_compare 37 = .ok (.aaload, 1) := by decide +kernel
theorem dX8_compare_38 : decode cX8_compare 38 = .ok (.astore 4, 2) := by decide +kernel
theorem dX8_compare_40 : decode cX8_compare 40 = .ok (.aload_n 3, 1) := by decide +kernel
theorem dX8_compare_41 : decode cX8_compare 41 = .ok (.aload 4, 2) := by decide +kernel
theorem dX8_compare_43 : decode cX8_compare 43 = .ok (.invokevirtual 186, 3) := by decide +kernel
theorem dX8_compare_46 : decode cX8_compare 46 = .ok (.istore 5, 2) := by decide +kernel
theorem dX8_compare_48 : decode cX8_compare 48 = .ok (.aload 4, 2) := by decide +kernel
theorem dX8_compare_50 : decode cX8_compare 50 = .ok (.aload_n 3, 1) := by decide +kernel
theorem dX8_compare_51 : decode cX8_compare 51 = .ok (.invokevirtual 186, 3) := by decide +kernel
theorem dX8_compare_54 : decode cX8_compare 54 = .ok (.istore 6, 2) := by decide +kernel
theorem dX8_compare_56 : decode cX8_compare 56 = .ok (.iload 5, 2) := by decide +kernel
theorem dX8_compare_58 : decode cX8_compare 58 = .ok (.ifCond .eq 10, 3) := by decide +kernel
theorem dX8_compare_61 : decode cX8_compare 61 = .ok (.iload 6, 2) := by decide +kernel
theorem dX8_compare_63 : decode cX8_compare 63 = .ok (.ifCond .eq 5, 3) := by decide +kernel
theorem dX8_compare_66 : decode cX8_compare 66 = .ok (.iconst 0, 1) := by decide +kernel
theorem dX8_compare_67 : decode cX8_compare 67 = .ok (.ireturn, 1) := by decide +kernel
theorem dX8_compare_68 : decode cX8_compare 68 = .ok (.iload 5, 2) := by decide +kernel
theorem dX8_compare_70 : decode cX8_compare 70 = .ok (.ifCond .eq 5, 3) := by decide +kernel
theorem dX8_compare_73 : decode cX8_compare 73 = .ok (.iconst 1, 1) := by decide +kernel
theorem dX8_compare_74 : decode cX8_compare 74 = .ok (.ireturn, 1) := by decide +kernel
theorem dX8_compare_75 : decode cX8_compare 75 = .ok (.iload 6, 2) := by decide +kernel
theorem dX8_compare_77 : decode cX8_compare 77 = .ok (.ifCond .eq 5, 3) := by decide +kernel
theorem dX8_compare_80 : decode cX8_compare 80 = .ok (.iconst 2, 1) := by decide +kernel
theorem dX8_compare_81 : decode cX8_compare 81 = .ok (.ireturn, 1) := by decide +kernel
theorem dX8_compare_82 : decode cX8_compare 82 = .ok (.aload_n 0, 1) := by decide +kernel
theorem dX8_compare_83 : decode cX8_compare 83 = .ok (.getfield 67, 3) := by decide +kernel
theorem dX8_compare_86 : decode cX8_compare 86 = .ok (.aload_n 3, 1) := by decide +kernel
theorem dX8_compare_87 : decode cX8_compare 87 = .ok (.invokevirtual 190, 3) := by decide +kernel
theorem dX8_compare_90 : decode cX8_compare 90 = .ok (.aload_n 0, 1) := by decide +kernel
theorem dX8_compare_91 : decode cX8_compare 91 = .ok (.getfield 67, 3) := by decide +kernel
theorem dX8_compare_94 : decode cX8_compare 94 = .ok (.aload 4, 2) := by decide +kernel
theorem dX8_compare_96 : decode cX8_compare 96 = .ok (.invokevirtual 193, 3) := by decide +kernel
theorem dX8_compare_99 : decode cX8_compare 99 = .ok (.aload_n 0, 1) := by decide +kernel
theorem dX8_compare_100 : decode cX8_compare 100 = .ok (.getfield 67, 3) := by decide +kernel
theorem dX8_compare_103 : decode cX8_compare 103 = .ok (.getfield 163, 3) := by decide +kernel
theorem dX8_compare_106 : decode cX8_compare 106 = .ok (.ifCond .eq 7, 3) := by decide +kernel
theorem dX8_compare_109 : decode cX8_compare 109 = .ok (.iconst 4, 1) := by decide +kernel
theorem dX8_compare_110 : decode cX8_compare 110 = .ok (.goto 4, 3) := by decide +kernel
theorem dX8_compare_113 : decode cX8_compare 113 = .ok (.iconst 3, 1) := by decide +kernel
theorem dX8_compare_114 : decode cX8_compare 114 = .ok (.ireturn, 1) := by decide +kernel
end
section
theorem dX8_put_0 : decode cX8_put 0 = .ok (.iload_n 1, 1) := by decide +kernel
theorem dX8_put_1 : decode cX8_put 1 = .ok (.ifCond .lt 14, 3) := by decide +kernel
theorem dX8_put_4 : decode cX8_put 4 = .ok (.iload_n 1, 1) := by decide +kernel
theorem dX8_put_5 : decode cX8_put 5 = .ok (.aload_n 0, 1) := by decide +kernel
theorem dX8_put_6 : decode cX8_put 6 = .ok (.getfield 26, 3) := by decide +kernel
theorem dX8_put_9 : decode cX8_put 9 = .ok (.getfield 105, 3) := by decide +kernel
theorem dX8_put_12 : decode cX8_put 12 = .ok (.if_icmp .le 6, 3) := by decide +kernel
theorem dX8_put_15 : decode cX8_put 15 = .ok (.bipush (-101), 2) := by decide +kernel
theorem dX8_put_17 : decode cX8_put 17 = .ok (.ireturn, 1) := by decide +kernel
theorem dX8_put_18 : decode cX8_put 18 = .ok (.iload_n 2, 1) := by decide +kernel
theorem dX8_put_19 : decode cX8_put 19 = .ok (.iload_n 3, 1) := by decide +kernel
theorem dX8_put_20 : decode cX8_put 20 = .ok (.iload 4, 2) := by decide +kernel
theorem dX8_put_22 : decode cX8_put 22 = .ok (.iload 5, 2) := by decide +kernel
theorem dX8_put_24 : decode cX8_put 24 = .ok (.invokestatic 196, 3) := by decide +kernel
theorem dX8_put_27 : decode cX8_put 27 = .ok (.ifCond .ne 6, 3) := by decide +kernel
theorem dX8_put_30 : decode cX8_put 30 = .ok (.bipush (-102), 2) := by decide +kernel
theorem dX8_put_32 : decode cX8_put 32 = .ok (.ireturn, 1) := by decide +kernel
theorem dX8_put_33 : decode cX8_put 33 = .ok (.aload_n 0, 1) := by decide +kernel
theorem dX8_put_34 : decode cX8_put 34 = .ok (.getfield 26, 3) := by decide +kernel
theorem dX8_put_37 : decode cX8_put 37 = .ok (.getfield 105, 3) := by decide +kernel
theorem dX8_put_40 : decode cX8_put 40 = .ok (.ifCond .ne 6, 3) := by decide +kernel
theorem dX8_put_43 : decode cX8_put 43 = .ok (.bipush (-103), 2) := by decide +kernel
theorem dX8_put_45 : decode cX8_put 45 = .ok (.ireturn, 1) := by decide +kernel
theorem dX8_put_46 : decode cX8_put 46 = .ok (.aload_n 0, 1) := by decide +kernel
theorem dX8_put_47 : decode cX8_put 47 = .ok (.getfield 26, 3) := by decide +kernel
theorem dX8_put_50 : decode cX8_put 50 = .ok (.getfield 105, 3) := by decide +kernel
theorem dX8_put_53 : decode cX8_put 53 = .ok (.bipush 6, 2) := by decide +kernel
theorem dX8_put_55 : decode cX8_put 55 = .ok (.if_icmp .lt 6, 3) := by decide +kernel
theorem dX8_put_58 : decode cX8_put 58 = .ok (.bipush (-104), 2) := by decide +kernel
theorem dX8_put_60 : decode cX8_put 60 = .ok (.ireturn, 1) := by decide +kernel
theorem dX8_put_61 : decode cX8_put 61 = .ok (.iload_n 2, 1) := by decide +kernel
theorem dX8_put_62 : decode cX8_put 62 = .ok (.invokestatic 200, 3) := by decide +kernel
theorem dX8_put_65 : decode cX8_put 65 = .ok (.ifCond .eq 8, 3) := by decide +kernel
theorem dX8_put_68 : decode cX8_put 68 = .ok (.iload 4, 2) := by decide +kernel
theorem dX8_put_70 : decode cX8_put 70 = .ok (.goto 4, 3) := by decide +kernel
theorem dX8_put_73 : decode cX8_put 73 = .ok (.iconst (-1), 1) := by decide +kernel
theorem dX8_put_74 : decode cX8_put 74 = .ok (.istore 6, 2) := by decide +kernel
theorem dX8_put_76 : decode cX8_put 76 = .ok (.iload_n 2, 1) := by decide +kernel
theorem dX8_put_77 : decode cX8_put 77 = .ok (.invokestatic 120, 3) := by decide +kernel
theorem dX8_put_80 : decode cX8_put 80 = .ok (.ifCond .eq 8, 3) := by decide +kernel
theorem dX8_put_83 : decode cX8_put 83 = .ok (.iload 5, 2) := by decide +kernel
theorem dX8_put_85 : decode cX8_put 85 = .ok (.goto 4, 3) := by decide +kernel
theorem dX8_put_88 : decode cX8_put 88 = .ok (.iconst 0, 1) := by decide +kernel
theorem dX8_put_89 : decode cX8_put 89 = .ok (.istore 7, 2) := by decide +kernel
theorem dX8_put_91 : decode cX8_put 91 = .ok (.aload_n 0, 1) := by decide +kernel
theorem dX8_put_92 : decode cX8_put 92 = .ok (.getfield 26, 3) := by decide +kernel
theorem dX8_put_95 : decode cX8_put 95 = .ok (.iload_n 1, 1) := by decide +kernel
theorem dX8_put_96 : decode cX8_put 96 = .ok (.iload_n 2, 1) := by decide +kernel
theorem dX8_put_97 : decode cX8_put 97 = .ok (.iload_n 3, 1) := by decide +kernel
theorem dX8_put_98 : decode cX8_put 98 = .ok (.iload 6, 2) := by decide +kernel
theorem dX8_put_100 : decode cX8_put 100 = .ok (.iload 7, 2) := by decide +kernel
theorem dX8_put_102 : decode cX8_put 102 = .ok (.invokevirtual 203, 3) := by decide +kernel
theorem dX8_put_105 : decode cX8_put 105 = .ok (.aload_n 0, 1) := by decide +kernel
theorem dX8_put_106 : decode cX8_put 106 = .ok (.invokevirtual 102, 3) := by decide +kernel
theorem dX8_put_109 : decode cX8_put 109 = .ok (.aload_n 0, 1) := by decide +kernel
theorem dX8_put_110 : decode cX8_put 110 = .ok (.getfield 26, 3) := by decide +kernel
theorem dX8_put_113 : decode cX8_put 113 = .ok (.getfield 105, 3) := by decide +kernel
theorem dX8_put_116 : decode cX8_put 116 = .ok (.ireturn, 1) := by decide +kernel
theorem dX8_take_0 : decode cX8_take 0 = .ok (.aload_n 0, 1) := by decide +kernel
theorem dX8_take_1 : decode cX8_take 1 = .ok (.iload_n 1, 1) := by decide +kernel
theorem dX8_take_2 : decode cX8_take 2 = .ok (.invokevirtual 106, 3) := by decide +kernel
theorem dX8_take_5 : decode cX8_take 5 = .ok (.ifCond .ne 6, 3) := by decide +kernel
theorem dX8_take_8 : decode cX8_take 8 = .ok (.bipush (-101), 2) := by decide +kernel
theorem dX8_take_10 : decode cX8_take 10 = .ok (.ireturn, 1) := by decide +kernel
theorem dX8_take_11 : decode cX8_take 11 = .ok (.aload_n 0, 1) := by decide +kernel
theorem dX8_take_12 : decode cX8_take 12 = .ok (.getfield 26, 3) := by decide +kernel
theorem dX8_take_15 : decode cX8_take 15 = .ok (.getfield 105, 3) := by decide +kernel
theorem dX8_take_18 : decode cX8_take 18 = .ok (.iconst 1, 1) := by decide +kernel
theorem dX8_take_19 : decode cX8_take 19 = .ok (.if_icmp .eq 14, 3) := by decide +kernel
theorem dX8_take_22 : decode cX8_take 22 = .ok (.aload_n 0, 1) := by decide +kernel
theorem dX8_take_23 : decode cX8_take 23 = .ok (.getfield 26, 3) := by decide +kernel
theorem dX8_take_26 : decode cX8_take 26 = .ok (.iload_n 1, 1) := by decide +kernel
theorem dX8_take_27 : decode cX8_take 27 = .ok (.invokevirtual 207, 3) := by decide +kernel
theorem dX8_take_30 : decode cX8_take 30 = .ok (.ifCond .eq 6, 3) := by decide +kernel
theorem dX8_take_33 : decode cX8_take 33 = .ok (.bipush (-103), 2) := by decide +kernel
theorem dX8_take_35 : decode cX8_take 35 = .ok (.ireturn, 1) := by decide +kernel
theorem dX8_take_36 : decode cX8_take 36 = .ok (.aload_n 0, 1) := by decide +kernel
theorem dX8_take_37 : decode cX8_take 37 = .ok (.getfield 26, 3) := by decide +kernel
theorem dX8_take_40 : decode cX8_take 40 = .ok (.iload_n 1, 1) := by decide +kernel
theorem dX8_take_41 : decode cX8_take 41 = .ok (.invokevirtual 210, 3) := by decide +kernel
theorem dX8_take_44 : decode cX8_take 44 = .ok (.aload_n 0, 1) := by decide +kernel
theorem dX8_take_45 : decode cX8_take 45 = .ok (.invokevirtual 102, 3) := by decide +kernel
theorem dX8_take_48 : decode cX8_take 48 = .ok (.aload_n 0, 1) := by decide +kernel
theorem dX8_take_49 : decode cX8_take 49 = .ok (.getfield 26, 3) := by decide +kernel
theorem dX8_take_52 : decode cX8_take 52 = .ok (.getfield 105, 3) := by decide +kernel
theorem dX8_take_55 : decode cX8_take 55 = .ok (.ireturn, 1) := by decide +kernel
theorem dX8_by_0 : decode cX8_by 0 = .ok (.aload_n 0, 1) := by decide +kernel
theorem dX8_by_1 : decode cX8_by 1 = .ok (.iload_n 1, 1) := by decide +kernel
theorem dX8_by_2 : decode cX8_by 2 = .ok (.invokevirtual 106, 3) := by decide +kernel
theorem dX8_by_5 : decode cX8_by 5 = .ok (.ifCond .ne 6, 3) := by decide +kernel
theorem dX8_by_8 : decode cX8_by 8 = .ok (.bipush (-101), 2) := by decide +kernel
theorem dX8_by_10 : decode cX8_by 10 = .ok (.ireturn, 1) := by decide +kernel
theorem dX8_by_11 : decode cX8_by 11 = .ok (.iload_n 2, 1) := by decide +kernel
theorem dX8_by_12 : decode cX8_by 12 = .ok (.invokestatic 213, 3) := by decide +kernel
theorem dX8_by_15 : decode cX8_by 15 = .ok (.ifCond .ne 6, 3) := by decide +kernel
theorem dX8_by_18 : decode cX8_by 18 = .ok (.bipush (-102), 2) := by decide +kernel
theorem dX8_by_20 : decode cX8_by 20 = .ok (.ireturn, 1) := by decide +kernel
theorem dX8_by_21 : decode cX8_by 21 = .ok (.aload_n 0, 1) := by decide +kernel
theorem dX8_by_22 : decode cX8_by 22 = .ok (.getfield 26, 3) := by decide +kernel
theorem dX8_by_25 : decode cX8_by 25 = .ok (.getfield 110, 3) := by decide +kernel
theorem dX8_by_28 : decode cX8_by 28 = .ok (.iload_n 1, 1) := by decide +kernel
theorem dX8_by_29 : decode cX8_by 29 = .ok (.iaload, 1) := by decide +kernel
theorem dX8_by_30 : decode cX8_by 30 = .ok (.invokestatic 120, 3) := by decide +kernel
theorem dX8_by_33 : decode cX8_by 33 = .ok (.ifCond .ne 6, 3) := by decide +kernel
theorem dX8_by_36 : decode cX8_by 36 = .ok (.bipush (-103), 2) := by decide +kernel
theorem dX8_by_38 : decode cX8_by 38 = .ok (.ireturn, 1) := by decide +kernel
theorem dX8_by_39 : decode cX8_by 39 = .ok (.aload_n 0, 1) := by decide +kernel
theorem dX8_by_40 : decode cX8_by 40 = .ok (.getfield 26, 3) := by decide +kernel
theorem dX8_by_43 : decode cX8_by 43 = .ok (.getfield 123, 3) := by decide +kernel
theorem dX8_by_46 : decode cX8_by 46 = .ok (.iload_n 1, 1) := by decide +kernel
theorem dX8_by_47 : decode cX8_by 47 = .ok (.iload_n 2, 1) := by decide +kernel
theorem dX8_by_48 : decode cX8_by 48 = .ok (.iastore, 1) := by decide +kernel
theorem dX8_by_49 : decode cX8_by 49 = .ok (.aload_n 0, 1) := by decide +kernel
theorem dX8_by_50 : decode cX8_by 50 = .ok (.invokevirtual 102, 3) := by decide +kernel
theorem dX8_by_53 : decode cX8_by 53 = .ok (.aload_n 0, 1) := by decide +kernel
theorem dX8_by_54 : decode cX8_by 54 = .ok (.getfield 33, 3) := by decide +kernel
theorem dX8_by_57 : decode cX8_by 57 = .ok (.aload_n 0, 1) := by decide +kernel
theorem dX8_by_58 : decode cX8_by 58 = .ok (.getfield 26, 3) := by decide +kernel
theorem dX8_by_61 : decode cX8_by 61 = .ok (.getfield 105, 3) := by decide +kernel
theorem dX8_by_64 : decode cX8_by 64 = .ok (.invokevirtual 170, 3) := by decide +kernel
theorem dX8_by_67 : decode cX8_by 67 = .ok (.ireturn, 1) := by decide +kernel
theorem dX8_rack_0 : decode cX8_rack 0 = .ok (.aload_n 0, 1) := by decide +kernel
theorem dX8_rack_1 : decode cX8_rack 1 = .ok (.iload_n 1, 1) := by decide +kernel
theorem dX8_rack_2 : decode cX8_rack 2 = .ok (.invokevirtual 106, 3) := by decide +kernel
theorem dX8_rack_5 : decode cX8_rack 5 = .ok (.ifCond .ne 6, 3) := by decide +kernel
theorem dX8_rack_8 : decode cX8_rack 8 = .ok (.bipush (-101), 2) := by decide +kernel
theorem dX8_rack_10 : decode cX8_rack 10 = .ok (.ireturn, 1) := by decide +kernel
theorem dX8_rack_11 : decode cX8_rack 11 = .ok (.iload_n 2, 1) := by decide +kernel
theorem dX8_rack_12 : decode cX8_rack 12 = .ok (.invokestatic 146, 3) := by decide +kernel
theorem dX8_rack_15 : decode cX8_rack 15 = .ok (.ifCond .ne 6, 3) := by decide +kernel
theorem dX8_rack_18 : decode cX8_rack 18 = .ok (.bipush (-102), 2) := by decide +kernel
theorem dX8_rack_20 : decode cX8_rack 20 = .ok (.ireturn, 1) := by decide +kernel
theorem dX8_rack_21 : decode cX8_rack 21 = .ok (.aload_n 0, 1) := by decide +kernel
theorem dX8_rack_22 : decode cX8_rack 22 = .ok (.getfield 40, 3) := by decide +kernel
theorem dX8_rack_25 : decode cX8_rack 25 = .ok (.getfield 216, 3) := by decide +kernel
theorem dX8_rack_28 : decode cX8_rack 28 = .ok (.iload_n 2, 1) := by decide +kernel
theorem dX8_rack_29 : decode cX8_rack 29 = .ok (.iaload, 1) := by decide +kernel
theorem dX8_rack_30 : decode cX8_rack 30 = .ok (.iconst 3, 1) := by decide +kernel
theorem dX8_rack_31 : decode cX8_rack 31 = .ok (.if_icmp .lt 6, 3) := by decide +kernel
theorem dX8_rack_34 : decode cX8_rack 34 = .ok (.bipush (-104), 2) := by decide +kernel
theorem dX8_rack_36 : decode cX8_rack 36 = .ok (.ireturn, 1) := by decide +kernel
theorem dX8_rack_37 : decode cX8_rack 37 = .ok (.aload_n 0, 1) := by decide +kernel
theorem dX8_rack_38 : decode cX8_rack 38 = .ok (.getfield 26, 3) := by decide +kernel
theorem dX8_rack_41 : decode cX8_rack 41 = .ok (.getfield 110, 3) := by decide +kernel
theorem dX8_rack_44 : decode cX8_rack 44 = .ok (.iload_n 1, 1) := by decide +kernel
theorem dX8_rack_45 : decode cX8_rack 45 = .ok (.iaload, 1) := by decide +kernel
theorem dX8_rack_46 : decode cX8_rack 46 = .ok (.iload_n 2, 1) := by decide +kernel
theorem dX8_rack_47 : decode cX8_rack 47 = .ok (.invokestatic 149, 3) := by decide +kernel
theorem dX8_rack_50 : decode cX8_rack 50 = .ok (.ifCond .ne 5, 3) := by decide +kernel
theorem dX8_rack_53 : decode cX8_rack 53 = .ok (.iconst (-1), 1) := by decide +kernel
theorem dX8_rack_54 : decode cX8_rack 54 = .ok (.ireturn, 1) := by decide +kernel
theorem dX8_rack_55 : decode cX8_rack 55 = .ok (.aload_n 0, 1) := by decide +kernel
theorem dX8_rack_56 : decode cX8_rack 56 = .ok (.getfield 40, 3) := by decide +kernel
theorem dX8_rack_59 : decode cX8_rack 59 = .ok (.iload_n 2, 1) := by decide +kernel
theorem dX8_rack_60 : decode cX8_rack 60 = .ok (.iload_n 1, 1) := by decide +kernel
theorem dX8_rack_61 : decode cX8_rack 61 = .ok (.invokevirtual 219, 3) := by decide +kernel
theorem dX8_rack_64 : decode cX8_rack 64 = .ok (.ireturn, 1) := by decide +kernel
theorem dX8_racked_0 : decode cX8_racked 0 = .ok (.iload_n 1, 1) := by decide +kernel
theorem dX8_racked_1 : decode cX8_racked 1 = .ok (.invokestatic 146, 3) := by decide +kernel
theorem dX8_racked_4 : decode cX8_racked 4 = .ok (.ifCond .eq 12, 3) := by decide +kernel
theorem dX8_racked_7 : decode cX8_racked 7 = .ok (.iload_n 2, 1) := by decide +kernel
theorem dX8_racked_8 : decode cX8_racked 8 = .ok (.ifCond .lt 8, 3) := by decide +kernel
theorem dX8_racked_11 : decode cX8_racked 11 = .ok (.iload_n 2, 1) := by decide +kernel
theorem dX8_racked_12 : decode cX8_racked 12 = .ok (.iconst 3, 1) := by decide +kernel
theorem dX8_racked_13 : decode cX8_racked 13 = .ok (.if_icmp .lt 6, 3) := by decide +kernel
theorem dX8_racked_16 : decode cX8_racked 16 = .ok (.bipush (-102), 2) := by decide +kernel
theorem dX8_racked_18 : decode cX8_racked 18 = .ok (.ireturn, 1) := by decide +kernel
theorem dX8_racked_19 : decode cX8_racked 19 = .ok (.aload_n 0, 1) := by decide +kernel
theorem dX8_racked_20 : decode cX8_racked 20 = .ok (.getfield 40, 3) := by decide +kernel
theorem dX8_racked_23 : decode cX8_racked 23 = .ok (.iload_n 1, 1) := by decide +kernel
theorem dX8_racked_24 : decode cX8_racked 24 = .ok (.iload_n 2, 1) := by decide +kernel
theorem dX8_racked_25 : decode cX8_racked 25 = .ok (.invokevirtual 222, 3) := by decide +kernel
theorem dX8_racked_28 : decode cX8_racked 28 = .ok (.ireturn, 1) := by decide +kernel
theorem dX8_see_0 : decode cX8_see 0 = .ok (.aload_n 0, 1) := by decide +kernel
theorem dX8_see_1 : decode cX8_see 1 = .ok (.iload_n 1, 1) := by decide +kernel
theorem dX8_see_2 : decode cX8_see 2 = .ok (.invokevirtual 106, 3) := by decide +kernel
theorem dX8_see_5 : decode cX8_see 5 = .ok (.ifCond .ne 6, 3) := by decide +kernel
theorem dX8_see_8 : decode cX8_see 8 = .ok (.bipush (-101), 2) := by decide +kernel
theorem dX8_see_10 : decode cX8_see 10 = .ok (.ireturn, 1) := by decide +kernel
theorem dX8_see_11 : decode cX8_see 11 = .ok (.iload_n 2, 1) := by decide +kernel
theorem dX8_see_12 : decode cX8_see 12 = .ok (.ifCond .lt 8, 3) := by decide +kernel
theorem dX8_see_15 : decode cX8_see 15 = .ok (.iload_n 2, 1) := by decide +kernel
theorem dX8_see_16 : decode cX8_see 16 = .ok (.iconst 4, 1) := by decide +kernel
theorem dX8_see_17 : decode cX8_see 17 = .ok (.if_icmp .lt 6, 3) := by decide +kernel
theorem dX8_see_20 : decode cX8_see 20 = .ok (.bipush (-102), 2) := by decide +kernel
theorem dX8_see_22 : decode cX8_see 22 = .ok (.ireturn, 1) := by decide +kernel
theorem dX8_see_23 : decode cX8_see 23 = .ok (.aload_n 0, 1) := by decide +kernel
theorem dX8_see_24 : decode cX8_see 24 = .ok (.getfield 47, 3) := by decide +kernel
theorem dX8_see_27 : decode cX8_see 27 = .ok (.getfield 101, 3) := by decide +kernel
theorem dX8_see_30 : decode cX8_see 30 = .ok (.bipush 6, 2) := by decide +kernel
theorem dX8_see_32 : decode cX8_see 32 = .ok (.if_icmp .lt 6, 3) := by decide +kernel
theorem dX8_see_35 : decode cX8_see 35 = .ok (.bipush (-104), 2) := by decide +kernel
theorem dX8_see_37 : decode cX8_see 37 = .ok (.ireturn, 1) := by decide +kernel
theorem dX8_see_38 : decode cX8_see 38 = .ok (.aload_n 0, 1) := by decide +kernel
theorem dX8_see_39 : decode cX8_see 39 = .ok (.getfield 47, 3) := by decide +kernel
theorem dX8_see_42 : decode cX8_see 42 = .ok (.iload_n 1, 1) := by decide +kernel
theorem dX8_see_43 : decode cX8_see 43 = .ok (.iload_n 2, 1) := by decide +kernel
theorem dX8_see_44 : decode cX8_see 44 = .ok (.iload_n 3, 1) := by decide +kernel
theorem dX8_see_45 : decode cX8_see 45 = .ok (.invokevirtual 225, 3) := by decide +kernel
theorem dX8_see_48 : decode cX8_see 48 = .ok (.aload_n 0, 1) := by decide +kernel
theorem dX8_see_49 : decode cX8_see 49 = .ok (.getfield 47, 3) := by decide +kernel
theorem dX8_see_52 : decode cX8_see 52 = .ok (.getfield 101, 3) := by decide +kernel
theorem dX8_see_55 : decode cX8_see 55 = .ok (.ireturn, 1) := by decide +kernel
theorem dX8_forget_0 : decode cX8_forget 0 = .ok (.aload_n 0, 1) := by decide +kernel
theorem dX8_forget_1 : decode cX8_forget 1 = .ok (.getfield 47, 3) := by decide +kernel
theorem dX8_forget_4 : decode cX8_forget 4 = .ok (.getfield 101, 3) := by decide +kernel
theorem dX8_forget_7 : decode cX8_forget 7 = .ok (.istore_n 1, 1) := by decide +kernel
theorem dX8_forget_8 : decode cX8_forget 8 = .ok (.aload_n 0, 1) := by decide +kernel
theorem dX8_forget_9 : decode cX8_forget 9 = .ok (.getfield 47, 3) := by decide +kernel
theorem dX8_forget_12 : decode cX8_forget 12 = .ok (.iconst 0, 1) := by decide +kernel
theorem dX8_forget_13 : decode cX8_forget 13 = .ok (.putfield 101, 3) := by decide +kernel
theorem dX8_forget_16 : decode cX8_forget 16 = .ok (.iload_n 1, 1) := by decide +kernel
theorem dX8_forget_17 : decode cX8_forget 17 = .ok (.ireturn, 1) := by decide +kernel
theorem dX8_drawn_0 : decode cX8_drawn 0 = .ok (.iload_n 1, 1) := by decide +kernel
theorem dX8_drawn_1 : decode cX8_drawn 1 = .ok (.iconst 1, 1) := by decide +kernel
theorem dX8_drawn_2 : decode cX8_drawn 2 = .ok (.if_icmp .lt 22, 3) := by decide +kernel
theorem dX8_drawn_5 : decode cX8_drawn 5 = .ok (.iload_n 1, 1) := by decide +kernel
theorem dX8_drawn_6 : decode cX8_drawn 6 = .ok (.bipush 8, 2) := by decide +kernel
theorem dX8_drawn_8 : decode cX8_drawn 8 = .ok (.if_icmp .gt 16, 3) := by decide +kernel
theorem dX8_drawn_11 : decode cX8_drawn 11 = .ok (.iload_n 2, 1) := by decide +kernel
theorem dX8_drawn_12 : decode cX8_drawn 12 = .ok (.ifCond .lt 12, 3) := by decide +kernel
theorem dX8_drawn_15 : decode cX8_drawn 15 = .ok (.iload_n 3, 1) := by decide +kernel
theorem dX8_drawn_16 : decode cX8_drawn 16 = .ok (.ifCond .lt 8, 3) := by decide +kernel
theorem dX8_drawn_19 : decode cX8_drawn 19 = .ok (.iload_n 3, 1) := by decide +kernel
theorem dX8_drawn_20 : decode cX8_drawn 20 = .ok (.iconst 2, 1) := by decide +kernel
theorem dX8_drawn_21 : decode cX8_drawn 21 = .ok (.if_icmp .le 6, 3) := by decide +kernel
theorem dX8_drawn_24 : decode cX8_drawn 24 = .ok (.bipush (-102), 2) := by decide +kernel
theorem dX8_drawn_26 : decode cX8_drawn 26 = .ok (.ireturn, 1) := by decide +kernel
theorem dX8_drawn_27 : decode cX8_drawn 27 = .ok (.iconst 0, 1) := by decide +kernel
theorem dX8_drawn_28 : decode cX8_drawn 28 = .ok (.istore 4, 2) := by decide +kernel
theorem dX8_drawn_30 : decode cX8_drawn 30 = .ok (.iconst 0, 1) := by decide +kernel
theorem dX8_drawn_31 : decode cX8_drawn 31 = .ok (.istore 5, 2) := by decide +kernel
theorem dX8_drawn_33 : decode cX8_drawn 33 = .ok (.aload_n 0, 1) := by decide +kernel
theorem dX8_drawn_34 : decode cX8_drawn 34 = .ok (.getfield 60, 3) := by decide +kernel
theorem dX8_drawn_37 : decode cX8_drawn 37 = .ok (.iload_n 2, 1) := by decide +kernel
theorem dX8_drawn_38 : decode cX8_drawn 38 = .ok (.putfield 228, 3) := by decide +kernel
theorem dX8_drawn_41 : decode cX8_drawn 41 = .ok (.iconst 0, 1) := by decide +kernel
theorem dX8_drawn_42 : decode cX8_drawn 42 = .ok (.istore 6, 2) := by decide +kernel
theorem dX8_drawn_44 : decode cX8_drawn 44 = .ok (.iload 6, 2) := by decide +kernel
theorem dX8_drawn_46 : decode cX8_drawn 46 = .ok (.iload_n 1, 1) := by decide +kernel
theorem dX8_drawn_47 : decode cX8_drawn 47 = .ok (.if_icmp .ge 48, 3) := by decide +kernel
theorem dX8_drawn_50 : decode cX8_drawn 50 = .ok (.aload_n 0, 1) := by decide +kernel
theorem dX8_drawn_51 : decode cX8_drawn 51 = .ok (.getfield 60, 3) := by decide +kernel
theorem dX8_drawn_54 : decode cX8_drawn 54 = .ok (.aload_n 0, 1) := by decide +kernel
theorem dX8_drawn_55 : decode cX8_drawn 55 = .ok (.getfield 67, 3) := by decide +kernel
theorem dX8_drawn_58 : decode cX8_drawn 58 = .ok (.invokevirtual 231, 3) := by decide +kernel
theorem dX8_drawn_61 : decode cX8_drawn 61 = .ok (.aload_n 0, 1) := by decide +kernel
theorem dX8_drawn_62 : decode cX8_drawn 62 = .ok (.getfield 67, 3) := by decide +kernel
theorem dX8_drawn_65 : decode cX8_drawn 65 = .ok (.getfield 163, 3) := by decide +kernel
theorem dX8_drawn_68 : decode cX8_drawn 68 = .ok (.ifCond .eq 6, 3) := by decide +kernel
theorem dX8_drawn_71 : decode cX8_drawn 71 = .ok (.goto 18, 3) := by decide +kernel
theorem dX8_drawn_74 : decode cX8_drawn 74 = .ok (.iinc 4 1, 3) := by decide +kernel
theorem dX8_drawn_77 : decode cX8_drawn 77 = .ok (.iload 5, 2) := by decide +kernel
theorem dX8_drawn_79 : decode cX8_drawn 79 = .ok (.aload_n 0, 1) := by decide +kernel
theorem dX8_drawn_80 : decode cX8_drawn 80 = .ok (.getfield 67, 3) := by decide +kernel
theorem dX8_drawn_83 : decode cX8_drawn 83 = .ok (.invokevirtual 234, 3) := by decide +kernel
theorem dX8_drawn_86 : decode cX8_drawn 86 = .ok (.iadd, 1) := by decide +kernel
theorem dX8_drawn_87 : decode cX8_drawn 87 = .ok (.istore 5, 2) := by decide +kernel
theorem dX8_drawn_89 : decode cX8_drawn 89 = .ok (.iinc 6 1, 3) := by decide +kernel
theorem dX8_drawn_92 : decode cX8_drawn 92 = .ok (.goto (-48), 3) := by decide +kernel
theorem dX8_drawn_95 : decode cX8_drawn 95 = .ok (.iload_n 3, 1) := by decide +kernel
theorem dX8_drawn_96 : decode cX8_drawn 96 = .ok (.ifCond .ne 6, 3) := by decide +kernel
theorem dX8_drawn_99 : decode cX8_drawn 99 = .ok (.iload 4, 2) := by decide +kernel
theorem dX8_drawn_101 : decode cX8_drawn 101 = .ok (.ireturn, 1) := by decide +kernel
theorem dX8_drawn_102 : decode cX8_drawn 102 = .ok (.iload_n 3, 1) := by decide +kernel
theorem dX8_drawn_103 : decode cX8_drawn 103 = .ok (.iconst 1, 1) := by decide +kernel
theorem dX8_drawn_104 : decode cX8_drawn 104 = .ok (.if_icmp .ne 8, 3) := by decide +kernel
theorem dX8_drawn_107 : decode cX8_drawn 107 = .ok (.iload 5, 2) := by decide +kernel
theorem dX8_drawn_109 : decode cX8_drawn 109 = .ok (.goto 10, 3) := by decide +kernel
theorem dX8_drawn_112 : decode cX8_drawn 112 = .ok (.aload_n 0, 1) := by decide +kernel
theorem dX8_drawn_113 : decode cX8_drawn 113 = .ok (.getfield 60, 3) := by decide +kernel
theorem dX8_drawn_116 : decode cX8_drawn 116 = .ok (.getfield 228, 3) := by decide +kernel
theorem dX8_drawn_119 : decode cX8_drawn 119 = .ok (.ireturn, 1) := by decide +kernel
theorem dX8_image_0 : decode cX8_image 0 = .ok (.aload_n 0, 1) := by decide +kernel
theorem dX8_image_1 : decode cX8_image 1 = .ok (.getfield 26, 3) := by decide +kernel
theorem dX8_image_4 : decode cX8_image 4 = .ok (.getfield 105, 3) := by decide +kernel
theorem dX8_image_7 : decode cX8_image 7 = .ok (.ifCond .ne 6, 3) := by decide +kernel
theorem dX8_image_10 : decode cX8_image 10 = .ok (.bipush (-103), 2) := by decide +kernel
theorem dX8_image_12 : decode cX8_image 12 = .ok (.ireturn, 1) := by decide +kernel
theorem dX8_image_13 : decode cX8_image 13 = .ok (.aload_n 0, 1) := by decide +kernel
theorem dX8_image_14 : decode cX8_image 14 = .ok (.getfield 51, 3) := by decide +kernel
theorem dX8_image_17 : decode cX8_image 17 = .ok (.aload_n 0, 1) := by decide +kernel
theorem dX8_image_18 : decode cX8_image 18 = .ok (.getfield 26, 3) := by decide +kernel
theorem dX8_image_21 : decode cX8_image 21 = .ok (.invokevirtual 97, 3) := by decide +kernel
theorem dX8_image_24 : decode cX8_image 24 = .ok (.aload_n 0, 1) := by decide +kernel
theorem dX8_image_25 : decode cX8_image 25 = .ok (.getfield 54, 3) := by decide +kernel
theorem dX8_image_28 : decode cX8_image 28 = .ok (.aload_n 0, 1) := by decide +kernel
theorem dX8_image_29 : decode cX8_image 29 = .ok (.getfield 47, 3) := by decide +kernel
theorem dX8_image_32 : decode cX8_image 32 = .ok (.invokevirtual 238, 3) := by decide +kernel
theorem dX8_image_35 : decode cX8_image 35 = .ok (.aload_n 0, 1) := by decide +kernel
theorem dX8_image_36 : decode cX8_image 36 = .ok (.iconst 1, 1) := by decide +kernel
theorem dX8_image_37 : decode cX8_image 37 = .ok (.putfield 71, 3) := by decide +kernel
theorem dX8_image_40 : decode cX8_image 40 = .ok (.aload_n 0, 1) := by decide +kernel
theorem dX8_image_41 : decode cX8_image 41 = .ok (.getfield 26, 3) := by decide +kernel
theorem dX8_image_44 : decode cX8_image 44 = .ok (.getfield 105, 3) := by decide +kernel
theorem dX8_image_47 : decode cX8_image 47 = .ok (.ireturn, 1) := by decide +kernel
theorem dX8_restore_0 : decode cX8_restore 0 = .ok (.aload_n 0, 1) := by decide +kernel
theorem dX8_restore_1 : decode cX8_restore 1 = .ok (.getfield 71, 3) := by decide +kernel
theorem dX8_restore_4 : decode cX8_restore 4 = .ok (.ifCond .ne 6, 3) := by decide +kernel
theorem dX8_restore_7 : decode cX8_restore 7 = .ok (.bipush (-103), 2) := by decide +kernel
theorem dX8_restore_9 : decode cX8_restore 9 = .ok (.ireturn, 1) := by decide +kernel
theorem dX8_restore_10 : decode cX8_restore 10 = .ok (.aload_n 0, 1) := by decide +kernel
theorem dX8_restore_11 : decode cX8_restore 11 = .ok (.getfield 26, 3) := by decide +kernel
theorem dX8_restore_14 : decode cX8_restore 14 = .ok (.aload_n 0, 1) := by decide +kernel
theorem dX8_restore_15 : decode cX8_restore 15 = .ok (.getfield 51, 3) := by decide +kernel
theorem dX8_restore_18 : decode cX8_restore 18 = .ok (.invokevirtual 97, 3) := by decide +kernel
theorem dX8_restore_21 : decode cX8_restore 21 = .ok (.aload_n 0, 1) := by decide +kernel
theorem dX8_restore_22 : decode cX8_restore 22 = .ok (.getfield 47, 3) := by decide +kernel
theorem dX8_restore_25 : decode cX8_restore 25 = .ok (.aload_n 0, 1) := by decide +kernel
theorem dX8_restore_26 : decode cX8_restore 26 = .ok (.getfield 54, 3) := by decide +kernel
theorem dX8_restore_29 : decode cX8_restore 29 = .ok (.invokevirtual 238, 3) := by decide +kernel
theorem dX8_restore_32 : decode cX8_restore 32 = .ok (.aload_n 0, 1) := by decide +kernel
theorem dX8_restore_33 : decode cX8_restore 33 = .ok (.invokevirtual 102, 3) := by decide +kernel
theorem dX8_restore_36 : decode cX8_restore 36 = .ok (.aload_n 0, 1) := by decide +kernel
theorem dX8_restore_37 : decode cX8_restore 37 = .ok (.getfield 26, 3) := by decide +kernel
theorem dX8_restore_40 : decode cX8_restore 40 = .ok (.getfield 105, 3) := by decide +kernel
theorem dX8_restore_43 : decode cX8_restore 43 = .ok (.ireturn, 1) := by decide +kernel
theorem dX8_count_0 : decode cX8_count 0 = .ok (.iload_n 1, 1) := by decide +kernel
theorem dX8_count_1 : decode cX8_count 1 = .ok (.tableswitch 147 0 9 #[55, 63, 71, 79, 84, 89, 118, 126, 134, 142], 55) := by decide +kernel
theorem dX8_count_56 : decode cX8_count 56 = .ok (.aload_n 0, 1) := by decide +kernel
theorem dX8_count_57 : decode cX8_count 57 = .ok (.getfield 26, 3) := by decide +kernel
theorem dX8_count_60 : decode cX8_count 60 = .ok (.getfield 105, 3) := by decide +kernel
theorem dX8_count_63 : decode cX8_count 63 = .ok (.ireturn, 1) := by decide +kernel
theorem dX8_count_64 : decode cX8_count 64 = .ok (.aload_n 0, 1) := by decide +kernel
theorem dX8_count_65 : decode cX8_count 65 = .ok (.getfield 26, 3) := by decide +kernel
theorem dX8_count_68 : decode cX8_count 68 = .ok (.invokevirtual 241, 3) := by decide +kernel
theorem dX8_count_71 : decode cX8_count 71 = .ok (.ireturn, 1) := by decide +kernel
theorem dX8_count_72 : decode cX8_count 72 = .ok (.aload_n 0, 1) := by decide +kernel
theorem dX8_count_73 : decode cX8_count 73 = .ok (.getfield 33, 3) := by decide +kernel
theorem dX8_count_76 : decode cX8_count 76 = .ok (.getfield 244, 3) := by decide +kernel
theorem dX8_count_79 : decode cX8_count 79 = .ok (.ireturn, 1) := by decide +kernel
theorem dX8_count_80 : decode cX8_count 80 = .ok (.aload_n 0, 1) := by decide +kernel
theorem dX8_count_81 : decode cX8_count 81 = .ok (.invokevirtual 247, 3) := by decide +kernel
theorem dX8_count_84 : decode cX8_count 84 = .ok (.ireturn, 1) := by decide +kernel
theorem dX8_count_85 : decode cX8_count 85 = .ok (.aload_n 0, 1) := by decide +kernel
theorem dX8_count_86 : decode cX8_count 86 = .ok (.invokevirtual 250, 3) := by decide +kernel
theorem dX8_count_89 : decode cX8_count 89 = .ok (.ireturn, 1) := by decide +kernel
theorem dX8_count_90 : decode cX8_count 90 = .ok (.aload_n 0, 1) := by decide +kernel
theorem dX8_count_91 : decode cX8_count 91 = .ok (.getfield 26, 3) := by decide +kernel
theorem dX8_count_94 : decode cX8_count 94 = .ok (.getfield 105, 3) := by decide +kernel
theorem dX8_count_97 : decode cX8_count 97 = .ok (.ifCond .ne 7, 3) := by decide +kernel
theorem dX8_count_100 : decode cX8_count 100 = .ok (.iconst 0, 1) := by decide +kernel
theorem dX8_count_101 : decode cX8_count 101 = .ok (.goto 17, 3) := by decide +kernel
theorem dX8_count_104 : decode cX8_count 104 = .ok (.aload_n 0, 1) := by decide +kernel
theorem dX8_count_105 : decode cX8_count 105 = .ok (.getfield 33, 3) := by decide +kernel
theorem dX8_count_108 : decode cX8_count 108 = .ok (.aload_n 0, 1) := by decide +kernel
theorem dX8_count_109 : decode cX8_count 109 = .ok (.getfield 26, 3) := by decide +kernel
theorem dX8_count_112 : decode cX8_count 112 = .ok (.getfield 105, 3) := by decide +kernel
theorem dX8_count_115 : decode cX8_count 115 = .ok (.invokevirtual 170, 3) := by decide +kernel
theorem dX8_count_118 : decode cX8_count 118 = .ok (.ireturn, 1) := by decide +kernel
theorem dX8_count_119 : decode cX8_count 119 = .ok (.aload_n 0, 1) := by decide +kernel
theorem dX8_count_120 : decode cX8_count 120 = .ok (.getfield 40, 3) := by decide +kernel
theorem dX8_count_123 : decode cX8_count 123 = .ok (.invokevirtual 253, 3) := by decide +kernel
theorem dX8_count_126 : decode cX8_count 126 = .ok (.ireturn, 1) := by decide +kernel
theorem dX8_count_127 : decode cX8_count 127 = .ok (.aload_n 0, 1) := by decide +kernel
theorem dX8_count_128 : decode cX8_count 128 = .ok (.getfield 47, 3) := by decide +kernel
theorem dX8_count_131 : decode cX8_count 131 = .ok (.getfield 101, 3) := by decide +kernel
theorem dX8_count_134 : decode cX8_count 134 = .ok (.ireturn, 1) := by decide +kernel
theorem dX8_count_135 : decode cX8_count 135 = .ok (.aload_n 0, 1) := by decide +kernel
theorem dX8_count_136 : decode cX8_count 136 = .ok (.getfield 10, 3) := by decide +kernel
theorem dX8_count_139 : decode cX8_count 139 = .ok (.getfield 79, 3) := by decide +kernel
theorem dX8_count_142 : decode cX8_count 142 = .ok (.ireturn, 1) := by decide +kernel
theorem dX8_count_143 : decode cX8_count 143 = .ok (.aload_n 0, 1) := by decide +kernel
theorem dX8_count_144 : decode cX8_count 144 = .ok (.getfield 75, 3) := by decide +kernel
theorem dX8_count_147 : decode cX8_count 147 = .ok (.ireturn, 1) := by decide +kernel
theorem dX8_count_148 : decode cX8_count 148 = .ok (.bipush (-102), 2) := by decide +kernel
theorem dX8_count_150 : decode cX8_count 150 = .ok (.ireturn, 1) := by decide +kernel
theorem dX8_digest_0 : decode cX8_digest 0 = .ok (.aload_n 0, 1) := by decide +kernel
theorem dX8_digest_1 : decode cX8_digest 1 = .ok (.aload_n 0, 1) := by decide +kernel
theorem dX8_digest_2 : decode cX8_digest 2 = .ok (.ldc2_w 256, 3) := by decide +kernel
theorem dX8_digest_5 : decode cX8_digest 5 = .ok (.invokevirtual 258, 3) := by decide +kernel
theorem dX8_digest_8 : decode cX8_digest 8 = .ok (.invokevirtual 262, 3) := by decide +kernel
theorem dX8_digest_11 : decode cX8_digest 11 = .ok (.lstore_n 1, 1) := by decide +kernel
theorem dX8_digest_12 : decode cX8_digest 12 = .ok (.iconst 0, 1) := by decide +kernel
theorem dX8_digest_13 : decode cX8_digest 13 = .ok (.istore_n 3, 1) := by decide +kernel
theorem dX8_digest_14 : decode cX8_digest 14 = .ok (.iload_n 3, 1) := by decide +kernel
theorem dX8_digest_15 : decode cX8_digest 15 = .ok (.iconst 5, 1) := by decide +kernel
theorem dX8_digest_16 : decode cX8_digest 16 = .ok (.if_icmp .ge 39, 3) := by decide +kernel
theorem dX8_digest_19 : decode cX8_digest 19 = .ok (.iconst 0, 1) := by decide +kernel
theorem dX8_digest_20 : decode cX8_digest 20 = .ok (.istore 4, 2) := by decide +kernel
theorem dX8_digest_22 : decode cX8_digest 22 = .ok (.iload 4, 2) := by decide +kernel
theorem dX8_digest_24 : decode cX8_digest 24 = .ok (.iconst 3, 1) := by decide +kernel
theorem dX8_digest_25 : decode cX8_digest 25 = .ok (.if_icmp .ge 24, 3) := by decide +kernel
theorem dX8_digest_28 : decode cX8_digest 28 = .ok (.ldc2_w 265, 3) := by decide +kernel
theorem dX8_digest_31 : decode cX8_digest 31 = .ok (.lload_n 1, 1) := by decide +kernel
theorem dX8_digest_32 : decode cX8_digest 32 = .ok (.lmul, 1) := by decide +kernel
theorem dX8_digest_33 : decode cX8_digest 33 = .ok (.aload_n 0, 1) := by decide +kernel
theorem dX8_digest_34 : decode cX8_digest 34 = .ok (.iload_n 3, 1) := by decide +kernel
theorem dX8_digest_35 : decode cX8_digest 35 = .ok (.iload 4, 2) := by decide +kernel
theorem dX8_digest_37 : decode cX8_digest 37 = .ok (.invokevirtual 267, 3) := by decide +kernel
theorem dX8_digest_40 : decode cX8_digest 40 = .ok (.i2l, 1) := by decide +kernel
theorem dX8_digest_41 : decode cX8_digest 41 = .ok (.ladd, 1) := by decide +kernel
theorem dX8_digest_42 : decode cX8_digest 42 = .ok (.lstore_n 1, 1) := by decide +kernel
theorem dX8_digest_43 : decode cX8_digest 43 = .ok (.iinc 4 1, 3) := by decide +kernel
theorem dX8_digest_46 : decode cX8_digest 46 = .ok (.goto (-24), 3) := by decide +kernel
theorem dX8_digest_49 : decode cX8_digest 49 = .ok (.iinc 3 1, 3) := by decide +kernel
theorem dX8_digest_52 : decode cX8_digest 52 = .ok (.goto (-38), 3) := by decide +kernel
theorem dX8_digest_55 : decode cX8_digest 55 = .ok (.iconst 0, 1) := by decide +kernel
theorem dX8_digest_56 : decode cX8_digest 56 = .ok (.istore_n 3, 1) := by decide +kernel
theorem dX8_digest_57 : decode cX8_digest 57 = .ok (.iload_n 3, 1) := by decide +kernel
theorem dX8_digest_58 : decode cX8_digest 58 = .ok (.aload_n 0, 1) := by decide +kernel
theorem dX8_digest_59 : decode cX8_digest 59 = .ok (.getfield 10, 3) := by decide +kernel
theorem dX8_digest_62 : decode cX8_digest 62 = .ok (.getfield 79, 3) := by decide +kernel
theorem dX8_digest_65 : decode cX8_digest 65 = .ok (.if_icmp .ge 26, 3) := by decide +kernel
theorem dX8_digest_68 : decode cX8_digest 68 = .ok (.ldc2_w 265, 3) := by decide +kernel
theorem dX8_digest_71 : decode cX8_digest 71 = .ok (.lload_n 1, 1) := by decide +kernel
theorem dX8_digest_72 : decode cX8_digest 72 = .ok (.lmul, 1) := by decide +kernel
theorem dX8_digest_73 : decode cX8_digest 73 = .ok (.aload_n 0, 1) := by decide +kernel
theorem dX8_digest_74 : decode cX8_digest 74 = .ok (.getfield 10, 3) := by decide +kernel
theorem dX8_digest_77 : decode cX8_digest 77 = .ok (.getfield 270, 3) := by decide +kernel
theorem dX8_digest_80 : decode cX8_digest 80 = .ok (.iload_n 3, 1) := by decide +kernel
theorem dX8_digest_81 : decode cX8_digest 81 = .ok (.iaload, 1) := by decide +kernel
theorem dX8_digest_82 : decode cX8_digest 82 = .ok (.i2l, 1) := by decide +kernel
theorem dX8_digest_83 : decode cX8_digest 83 = .ok (.ladd, 1) := by decide +kernel
theorem dX8_digest_84 : decode cX8_digest 84 = .ok (.lstore_n 1, 1) := by decide +kernel
theorem dX8_digest_85 : decode cX8_digest 85 = .ok (.iinc 3 1, 3) := by decide +kernel
theorem dX8_digest_88 : decode cX8_digest 88 = .ok (.goto (-31), 3) := by decide +kernel
theorem dX8_digest_91 : decode cX8_digest 91 = .ok (.iconst 0, 1) := by decide +kernel
theorem dX8_digest_92 : decode cX8_digest 92 = .ok (.istore_n 3, 1) := by decide +kernel
theorem dX8_digest_93 : decode cX8_digest 93 = .ok (.iload_n 3, 1) := by decide +kernel
theorem dX8_digest_94 : decode cX8_digest 94 = .ok (.bipush 10, 2) := by decide +kernel
theorem dX8_digest_96 : decode cX8_digest 96 = .ok (.if_icmp .ge 22, 3) := by decide +kernel
theorem dX8_digest_99 : decode cX8_digest 99 = .ok (.ldc2_w 265, 3) := by decide +kernel
theorem dX8_digest_102 : decode cX8_digest 102 = .ok (.lload_n 1, 1) := by decide +kernel
theorem dX8_digest_103 : decode cX8_digest 103 = .ok (.lmul, 1) := by decide +kernel
theorem dX8_digest_104 : decode cX8_digest 104 = .ok (.aload_n 0, 1) := by decide +kernel
theorem dX8_digest_105 : decode cX8_digest 105 = .ok (.iload_n 3, 1) := by decide +kernel
theorem dX8_digest_106 : decode cX8_digest 106 = .ok (.invokevirtual 273, 3) := by decide +kernel
theorem dX8_digest_109 : decode cX8_digest 109 = .ok (.i2l, 1) := by decide +kernel
theorem dX8_digest_110 : decode cX8_digest 110 = .ok (.ladd, 1) := by decide +kernel
theorem dX8_digest_111 : decode cX8_digest 111 = .ok (.lstore_n 1, 1) := by decide +kernel
theorem dX8_digest_112 : decode cX8_digest 112 = .ok (.iinc 3 1, 3) := by decide +kernel
theorem dX8_digest_115 : decode cX8_digest 115 = .ok (.goto (-22), 3) := by decide +kernel
theorem dX8_digest_118 : decode cX8_digest 118 = .ok (.lload_n 1, 1) := by decide +kernel
theorem dX8_digest_119 : decode cX8_digest 119 = .ok (.lreturn, 1) := by decide +kernel
theorem dX8_digestOfSteps_0 : decode cX8_digestOfSteps 0 = .ok (.lload_n 1, 1) := by decide +kernel
theorem dX8_digestOfSteps_1 : decode cX8_digestOfSteps 1 = .ok (.lstore_n 3, 1) := by decide +kernel
theorem dX8_digestOfSteps_2 : decode cX8_digestOfSteps 2 = .ok (.iconst 0, 1) := by decide +kernel
theorem dX8_digestOfSteps_3 : decode cX8_digestOfSteps 3 = .ok (.istore 5, 2) := by decide +kernel
theorem dX8_digestOfSteps_5 : decode cX8_digestOfSteps 5 = .ok (.iload 5, 2) := by decide +kernel
theorem dX8_digestOfSteps_7 : decode cX8_digestOfSteps 7 = .ok (.aload_n 0, 1) := by decide +kernel
theorem dX8_digestOfSteps_8 : decode cX8_digestOfSteps 8 = .ok (.getfield 26, 3) := by decide +kernel
theorem dX8_digestOfSteps_11 : decode cX8_digestOfSteps 11 = .ok (.getfield 105, 3) := by decide +kernel
theorem dX8_digestOfSteps_14 : decode cX8_digestOfSteps 14 = .ok (.if_icmp .ge 41, 3) := by decide +kernel
theorem dX8_digestOfSteps_17 : decode cX8_digestOfSteps 17 = .ok (.iconst 0, 1) := by decide +kernel
theorem dX8_digestOfSteps_18 : decode cX8_digestOfSteps 18 = .ok (.istore 6, 2) := by decide +kernel
theorem dX8_digestOfSteps_20 : decode cX8_digestOfSteps 20 = .ok (.iload 6, 2) := by decide +kernel
theorem dX8_digestOfSteps_22 : decode cX8_digestOfSteps 22 = .ok (.bipush 9, 2) := by decide +kernel
theorem dX8_digestOfSteps_24 : decode cX8_digestOfSteps 24 = .ok (.if_icmp .ge 25, 3) := by decide +kernel
theorem dX8_digestOfSteps_27 : decode cX8_digestOfSteps 27 = .ok (.ldc2_w 265, 3) := by decide +kernel
theorem dX8_digestOfSteps_30 : decode cX8_digestOfSteps 30 = .ok (.lload_n 3, 1) := by decide +kernel
theorem dX8_digestOfSteps_31 : decode cX8_digestOfSteps 31 = .ok (.lmul, 1) := by decide +kernel
theorem dX8_digestOfSteps_32 : decode cX8_digestOfSteps 32 = .ok (.aload_n 0, 1) := by decide +kernel
theorem dX8_digestOfSteps_33 : decode cX8_digestOfSteps 33 = .ok (.iload 5, 2) := by decide +kernel
theorem dX8_digestOfSteps_35 : decode cX8_digestOfSteps 35 = .ok (.iload 6, 2) := by decide +kernel
theorem dX8_digestOfSteps_37 : decode cX8_digestOfSteps 37 = .ok (.invokevirtual 276, 3) := by decide +kernel
theorem dX8_digestOfSteps_40 : decode cX8_digestOfSteps 40 = .ok (.i2l, 1) := by decide +kernel
theorem dX8_digestOfSteps_41 : decode cX8_digestOfSteps 41 = .ok (.ladd, 1) := by decide +kernel
theorem dX8_digestOfSteps_42 : decode cX8_digestOfSteps 42 = .ok (.lstore_n 3, 1) := by decide +kernel
theorem dX8_digestOfSteps_43 : decode cX8_digestOfSteps 43 = .ok (.iinc 6 1, 3) := by decide +kernel
theorem dX8_digestOfSteps_46 : decode cX8_digestOfSteps 46 = .ok (.goto (-26), 3) := by decide +kernel
theorem dX8_digestOfSteps_49 : decode cX8_digestOfSteps 49 = .ok (.iinc 5 1, 3) := by decide +kernel
theorem dX8_digestOfSteps_52 : decode cX8_digestOfSteps 52 = .ok (.goto (-47), 3) := by decide +kernel
theorem dX8_digestOfSteps_55 : decode cX8_digestOfSteps 55 = .ok (.lload_n 3, 1) := by decide +kernel
theorem dX8_digestOfSteps_56 : decode cX8_digestOfSteps 56 = .ok (.lreturn, 1) := by decide +kernel
theorem dX8_digestOfShapes_0 : decode cX8_digestOfShapes 0 = .ok (.aload_n 0, 1) := by decide +kernel
theorem dX8_digestOfShapes_1 : decode cX8_digestOfShapes 1 = .ok (.getfield 26, 3) := by decide +kernel
theorem dX8_digestOfShapes_4 : decode cX8_digestOfShapes 4 = .ok (.getfield 105, 3) := by decide +kernel
theorem dX8_digestOfShapes_7 : decode cX8_digestOfShapes 7 = .ok (.ifCond .ne 5, 3) := by decide +kernel
theorem dX8_digestOfShapes_10 : decode cX8_digestOfShapes 10 = .ok (.lload_n 1, 1) := by decide +kernel
theorem dX8_digestOfShapes_11 : decode cX8_digestOfShapes 11 = .ok (.lreturn, 1) := by decide +kernel
theorem dX8_digestOfShapes_12 : decode cX8_digestOfShapes 12 = .ok (.lload_n 1, 1) := by decide +kernel
theorem dX8_digestOfShapes_13 : decode cX8_digestOfShapes 13 = .ok (.lstore_n 3, 1) := by decide +kernel
theorem dX8_digestOfShapes_14 : decode cX8_digestOfShapes 14 = .ok (.iconst 0, 1) := by decide +kernel
theorem dX8_digestOfShapes_15 : decode cX8_digestOfShapes 15 = .ok (.istore 5, 2) := by decide +kernel
theorem dX8_digestOfShapes_17 : decode cX8_digestOfShapes 17 = .ok (.iload 5, 2) := by decide +kernel
theorem dX8_digestOfShapes_19 : decode cX8_digestOfShapes 19 = .ok (.aload_n 0, 1) := by decide +kernel
theorem dX8_digestOfShapes_20 : decode cX8_digestOfShapes 20 = .ok (.getfield 26, 3) := by decide +kernel
theorem dX8_digestOfShapes_23 : decode cX8_digestOfShapes 23 = .ok (.getfield 105, 3) := by decide +kernel
theorem dX8_digestOfShapes_26 : decode cX8_digestOfShapes 26 = .ok (.if_icmp .gt 84, 3) := by decide +kernel
theorem dX8_digestOfShapes_29 : decode cX8_digestOfShapes 29 = .ok (.ldc2_w 265, 3) := by decide +kernel
theorem dX8_digestOfShapes_32 : decode cX8_digestOfShapes 32 = .ok (.lload_n 3, 1) := by decide +kernel
theorem dX8_digestOfShapes_33 : decode cX8_digestOfShapes 33 = .ok (.lmul, 1) := by decide +kernel
theorem dX8_digestOfShapes_34 : decode cX8_digestOfShapes 34 = .ok (.aload_n 0, 1) := by decide +kernel
theorem dX8_digestOfShapes_35 : decode cX8_digestOfShapes 35 = .ok (.iload 5, 2) := by decide +kernel
theorem dX8_digestOfShapes_37 : decode cX8_digestOfShapes 37 = .ok (.invokevirtual 279, 3) := by decide +kernel
theorem dX8_digestOfShapes_40 : decode cX8_digestOfShapes 40 = .ok (.i2l, 1) := by decide +kernel
theorem dX8_digestOfShapes_41 : decode cX8_digestOfShapes 41 = .ok (.ladd, 1) := by decide +kernel
theorem dX8_digestOfShapes_42 : decode cX8_digestOfShapes 42 = .ok (.lstore_n 3, 1) := by decide +kernel
theorem dX8_digestOfShapes_43 : decode cX8_digestOfShapes 43 = .ok (.ldc2_w 265, 3) := by decide +kernel
theorem dX8_digestOfShapes_46 : decode cX8_digestOfShapes 46 = .ok (.lload_n 3, 1) := by decide +kernel
theorem dX8_digestOfShapes_47 : decode cX8_digestOfShapes 47 = .ok (.lmul, 1) := by decide +kernel
theorem dX8_digestOfShapes_48 : decode cX8_digestOfShapes 48 = .ok (.aload_n 0, 1) := by decide +kernel
theorem dX8_digestOfShapes_49 : decode cX8_digestOfShapes 49 = .ok (.iload 5, 2) := by decide +kernel
theorem dX8_digestOfShapes_51 : decode cX8_digestOfShapes 51 = .ok (.iconst 0, 1) := by decide +kernel
theorem dX8_digestOfShapes_52 : decode cX8_digestOfShapes 52 = .ok (.iconst 2, 1) := by decide +kernel
theorem dX8_digestOfShapes_53 : decode cX8_digestOfShapes 53 = .ok (.invokevirtual 282, 3) := by decide +kernel
theorem dX8_digestOfShapes_56 : decode cX8_digestOfShapes 56 = .ok (.i2l, 1) := by decide +kernel
theorem dX8_digestOfShapes_57 : decode cX8_digestOfShapes 57 = .ok (.ladd, 1) := by decide +kernel
theorem dX8_digestOfShapes_58 : decode cX8_digestOfShapes 58 = .ok (.lstore_n 3, 1) := by decide +kernel
theorem dX8_digestOfShapes_59 : decode cX8_digestOfShapes 59 = .ok (.ldc2_w 265, 3) := by decide +kernel
theorem dX8_digestOfShapes_62 : decode cX8_digestOfShapes 62 = .ok (.lload_n 3, 1) := by decide +kernel
theorem dX8_digestOfShapes_63 : decode cX8_digestOfShapes 63 = .ok (.lmul, 1) := by decide +kernel
theorem dX8_digestOfShapes_64 : decode cX8_digestOfShapes 64 = .ok (.aload_n 0, 1) := by decide +kernel
theorem dX8_digestOfShapes_65 : decode cX8_digestOfShapes 65 = .ok (.iload 5, 2) := by decide +kernel
theorem dX8_digestOfShapes_67 : decode cX8_digestOfShapes 67 = .ok (.iconst 1, 1) := by decide +kernel
theorem dX8_digestOfShapes_68 : decode cX8_digestOfShapes 68 = .ok (.iconst 4, 1) := by decide +kernel
theorem dX8_digestOfShapes_69 : decode cX8_digestOfShapes 69 = .ok (.invokevirtual 282, 3) := by decide +kernel
theorem dX8_digestOfShapes_72 : decode cX8_digestOfShapes 72 = .ok (.i2l, 1) := by decide +kernel
theorem dX8_digestOfShapes_73 : decode cX8_digestOfShapes 73 = .ok (.ladd, 1) := by decide +kernel
theorem dX8_digestOfShapes_74 : decode cX8_digestOfShapes 74 = .ok (.lstore_n 3, 1) := by decide +kernel
theorem dX8_digestOfShapes_75 : decode cX8_digestOfShapes 75 = .ok (.ldc2_w 265, 3) := by decide +kernel
theorem dX8_digestOfShapes_78 : decode cX8_digestOfShapes 78 = .ok (.lload_n 3, 1) := by decide +kernel
theorem dX8_digestOfShapes_79 : decode cX8_digestOfShapes 79 = .ok (.lmul, 1) := by decide +kernel
theorem dX8_digestOfShapes_80 : decode cX8_digestOfShapes 80 = .ok (.aload_n 0, 1) := by decide +kernel
theorem dX8_digestOfShapes_81 : decode cX8_digestOfShapes 81 = .ok (.iload 5, 2) := by decide +kernel
theorem dX8_digestOfShapes_83 : decode cX8_digestOfShapes 83 = .ok (.iconst 5, 1) := by decide +kernel
theorem dX8_digestOfShapes_84 : decode cX8_digestOfShapes 84 = .ok (.iconst 5, 1) := by decide +kernel
theorem dX8_digestOfShapes_85 : decode cX8_digestOfShapes 85 = .ok (.invokevirtual 282, 3) := by decide +kernel
theorem dX8_digestOfShapes_88 : decode cX8_digestOfShapes 88 = .ok (.i2l, 1) := by decide +kernel
theorem dX8_digestOfShapes_89 : decode cX8_digestOfShapes 89 = .ok (.ladd, 1) := by decide +kernel
theorem dX8_digestOfShapes_90 : decode cX8_digestOfShapes 90 = .ok (.lstore_n 3, 1) := by decide +kernel
theorem dX8_digestOfShapes_91 : decode cX8_digestOfShapes 91 = .ok (.ldc2_w 265, 3) := by decide +kernel
theorem dX8_digestOfShapes_94 : decode cX8_digestOfShapes 94 = .ok (.lload_n 3, 1) := by decide +kernel
theorem dX8_digestOfShapes_95 : decode cX8_digestOfShapes 95 = .ok (.lmul, 1) := by decide +kernel
theorem dX8_digestOfShapes_96 : decode cX8_digestOfShapes 96 = .ok (.aload_n 0, 1) := by decide +kernel
theorem dX8_digestOfShapes_97 : decode cX8_digestOfShapes 97 = .ok (.iload 5, 2) := by decide +kernel
theorem dX8_digestOfShapes_99 : decode cX8_digestOfShapes 99 = .ok (.invokevirtual 286, 3) := by decide +kernel
theorem dX8_digestOfShapes_102 : decode cX8_digestOfShapes 102 = .ok (.ladd, 1) := by decide +kernel
theorem dX8_digestOfShapes_103 : decode cX8_digestOfShapes 103 = .ok (.lstore_n 3, 1) := by decide +kernel
theorem dX8_digestOfShapes_104 : decode cX8_digestOfShapes 104 = .ok (.iinc 5 1, 3) := by decide +kernel
theorem dX8_digestOfShapes_107 : decode cX8_digestOfShapes 107 = .ok (.goto (-90), 3) := by decide +kernel
theorem dX8_digestOfShapes_110 : decode cX8_digestOfShapes 110 = .ok (.lload_n 3, 1) := by decide +kernel
theorem dX8_digestOfShapes_111 : decode cX8_digestOfShapes 111 = .ok (.lreturn, 1) := by decide +kernel
theorem dX8_runAgain_0 : decode cX8_runAgain 0 = .ok (.aload_n 0, 1) := by decide +kernel
theorem dX8_runAgain_1 : decode cX8_runAgain 1 = .ok (.getfield 40, 3) := by decide +kernel
theorem dX8_runAgain_4 : decode cX8_runAgain 4 = .ok (.invokevirtual 289, 3) := by decide +kernel
theorem dX8_runAgain_7 : decode cX8_runAgain 7 = .ok (.aload_n 0, 1) := by decide +kernel
theorem dX8_runAgain_8 : decode cX8_runAgain 8 = .ok (.getfield 33, 3) := by decide +kernel
theorem dX8_runAgain_11 : decode cX8_runAgain 11 = .ok (.invokevirtual 292, 3) := by decide +kernel
theorem dX8_runAgain_14 : decode cX8_runAgain 14 = .ok (.iconst 0, 1) := by decide +kernel
theorem dX8_runAgain_15 : decode cX8_runAgain 15 = .ok (.istore_n 1, 1) := by decide +kernel
theorem dX8_runAgain_16 : decode cX8_runAgain 16 = .ok (.iload_n 1, 1) := by decide +kernel
theorem dX8_runAgain_17 : decode cX8_runAgain 17 = .ok (.aload_n 0, 1) := by decide +kernel
theorem dX8_runAgain_18 : decode cX8_runAgain 18 = .ok (.getfield 26, 3) := by decide +kernel
theorem dX8_runAgain_21 : decode cX8_runAgain 21 = .ok (.getfield 105, 3) := by decide +kernel
theorem dX8_runAgain_24 : decode cX8_runAgain 24 = .ok (.if_icmp .ge 58, 3) := by decide +kernel
theorem dX8_runAgain_27 : decode cX8_runAgain 27 = .ok (.aload_n 0, 1) := by decide +kernel
theorem dX8_runAgain_28 : decode cX8_runAgain 28 = .ok (.getfield 26, 3) := by decide +kernel
theorem dX8_runAgain_31 : decode cX8_runAgain 31 = .ok (.getfield 110, 3) := by decide +kernel
theorem dX8_runAgain_34 : decode cX8_runAgain 34 = .ok (.iload_n 1, 1) := by decide +kernel
theorem dX8_runAgain_35 : decode cX8_runAgain 35 = .ok (.iaload, 1) := by decide +kernel
theorem dX8_runAgain_36 : decode cX8_runAgain 36 = .ok (.iconst 4, 1) := by decide +kernel
theorem dX8_runAgain_37 : decode cX8_runAgain 37 = .ok (.if_icmp .ne 27, 3) := by decide +kernel
theorem dX8_runAgain_40 : decode cX8_runAgain 40 = .ok (.aload_n 0, 1) := by decide +kernel
theorem dX8_runAgain_41 : decode cX8_runAgain 41 = .ok (.getfield 33, 3) := by decide +kernel
theorem dX8_runAgain_44 : decode cX8_runAgain 44 = .ok (.aload_n 0, 1) := by decide +kernel
theorem dX8_runAgain_45 : decode cX8_runAgain 45 = .ok (.getfield 26, 3) := by decide +kernel
theorem dX8_runAgain_48 : decode cX8_runAgain 48 = .ok (.aload_n 0, 1) := by decide +kernel
theorem dX8_runAgain_49 : decode cX8_runAgain 49 = .ok (.getfield 26, 3) := by decide +kernel
theorem dX8_runAgain_52 : decode cX8_runAgain 52 = .ok (.getfield 114, 3) := by decide +kernel
theorem dX8_runAgain_55 : decode cX8_runAgain 55 = .ok (.iload_n 1, 1) := by decide +kernel
theorem dX8_runAgain_56 : decode cX8_runAgain 56 = .ok (.iaload, 1) := by decide +kernel
theorem dX8_runAgain_57 : decode cX8_runAgain 57 = .ok (.iload_n 1, 1) := by decide +kernel
theorem dX8_runAgain_58 : decode cX8_runAgain 58 = .ok (.invokevirtual 295, 3) := by decide +kernel
theorem dX8_runAgain_61 : decode cX8_runAgain 61 = .ok (.goto 15, 3) := by decide +kernel
theorem dX8_runAgain_64 : decode cX8_runAgain 64 = .ok (.aload_n 0, 1) := by decide +kernel
theorem dX8_runAgain_65 : decode cX8_runAgain 65 = .ok (.getfield 33, 3) := by decide +kernel
theorem dX8_runAgain_68 : decode cX8_runAgain 68 = .ok (.aload_n 0, 1) := by decide +kernel
theorem dX8_runAgain_69 : decode cX8_runAgain 69 = .ok (.getfield 26, 3) := by decide +kernel
theorem dX8_runAgain_72 : decode cX8_runAgain 72 = .ok (.iload_n 1, 1) := by decide +kernel
theorem dX8_runAgain_73 : decode cX8_runAgain 73 = .ok (.invokevirtual 299, 3) := by decide +kernel
theorem dX8_runAgain_76 : decode cX8_runAgain 76 = .ok (.iinc 1 1, 3) := by decide +kernel
theorem dX8_runAgain_79 : decode cX8_runAgain 79 = .ok (.goto (-63), 3) := by decide +kernel
theorem dX8_runAgain_82 : decode cX8_runAgain 82 = .ok (.return_, 1) := by decide +kernel
theorem dX8_isStep_0 : decode cX8_isStep 0 = .ok (.iload_n 1, 1) := by decide +kernel
theorem dX8_isStep_1 : decode cX8_isStep 1 = .ok (.ifCond .lt 18, 3) := by decide +kernel
theorem dX8_isStep_4 : decode cX8_isStep 4 = .ok (.iload_n 1, 1) := by decide +kernel
theorem dX8_isStep_5 : decode cX8_isStep 5 = .ok (.aload_n 0, 1) := by decide +kernel
theorem dX8_isStep_6 : decode cX8_isStep 6 = .ok (.getfield 26, 3) := by decide +kernel
theorem dX8_isStep_9 : decode cX8_isStep 9 = .ok (.getfield 105, 3) := by decide +kernel
theorem dX8_isStep_12 : decode cX8_isStep 12 = .ok (.if_icmp .ge 7, 3) := by decide +kernel
theorem dX8_isStep_15 : decode cX8_isStep 15 = .ok (.iconst 1, 1) := by decide +kernel
theorem dX8_isStep_16 : decode cX8_isStep 16 = .ok (.goto 4, 3) := by decide +kernel
theorem dX8_isStep_19 : decode cX8_isStep 19 = .ok (.iconst 0, 1) := by decide +kernel
theorem dX8_isStep_20 : decode cX8_isStep 20 = .ok (.ireturn, 1) := by decide +kernel
theorem dX8_hasShape_0 : decode cX8_hasShape 0 = .ok (.aload_n 0, 1) := by decide +kernel
theorem dX8_hasShape_1 : decode cX8_hasShape 1 = .ok (.getfield 26, 3) := by decide +kernel
theorem dX8_hasShape_4 : decode cX8_hasShape 4 = .ok (.getfield 105, 3) := by decide +kernel
theorem dX8_hasShape_7 : decode cX8_hasShape 7 = .ok (.ifCond .le 22, 3) := by decide +kernel
theorem dX8_hasShape_10 : decode cX8_hasShape 10 = .ok (.iload_n 1, 1) := by decide +kernel
theorem dX8_hasShape_11 : decode cX8_hasShape 11 = .ok (.ifCond .lt 18, 3) := by decide +kernel
theorem dX8_hasShape_14 : decode cX8_hasShape 14 = .ok (.iload_n 1, 1) := by decide +kernel
theorem dX8_hasShape_15 : decode cX8_hasShape 15 = .ok (.aload_n 0, 1) := by decide +kernel
theorem dX8_hasShape_16 : decode cX8_hasShape 16 = .ok (.getfield 26, 3) := by decide +kernel
theorem dX8_hasShape_19 : decode cX8_hasShape 19 = .ok (.getfield 105, 3) := by decide +kernel
theorem dX8_hasShape_22 : decode cX8_hasShape 22 = .ok (.if_icmp .gt 7, 3) := by decide +kernel
theorem dX8_hasShape_25 : decode cX8_hasShape 25 = .ok (.iconst 1, 1) := by decide +kernel
theorem dX8_hasShape_26 : decode cX8_hasShape 26 = .ok (.goto 4, 3) := by decide +kernel
theorem dX8_hasShape_29 : decode cX8_hasShape 29 = .ok (.iconst 0, 1) := by decide +kernel
theorem dX8_hasShape_30 : decode cX8_hasShape 30 = .ok (.ireturn, 1) := by decide +kernel
theorem dX8_isIdle_0 : decode cX8_isIdle 0 = .ok (.aload_n 0, 1) := by decide +kernel
theorem dX8_isIdle_1 : decode cX8_isIdle 1 = .ok (.getfield 26, 3) := by decide +kernel
theorem dX8_isIdle_4 : decode cX8_isIdle 4 = .ok (.getfield 110, 3) := by decide +kernel
theorem dX8_isIdle_7 : decode cX8_isIdle 7 = .ok (.iload_n 1, 1) := by decide +kernel
theorem dX8_isIdle_8 : decode cX8_isIdle 8 = .ok (.iaload, 1) := by decide +kernel
theorem dX8_isIdle_9 : decode cX8_isIdle 9 = .ok (.iconst 4, 1) := by decide +kernel
theorem dX8_isIdle_10 : decode cX8_isIdle 10 = .ok (.if_icmp .eq 18, 3) := by decide +kernel
theorem dX8_isIdle_13 : decode cX8_isIdle 13 = .ok (.aload_n 0, 1) := by decide +kernel
theorem dX8_isIdle_14 : decode cX8_isIdle 14 = .ok (.getfield 33, 3) := by decide +kernel
theorem dX8_isIdle_17 : decode cX8_isIdle 17 = .ok (.iload_n 1, 1) := by decide +kernel
theorem dX8_isIdle_18 : decode cX8_isIdle 18 = .ok (.invokevirtual 303, 3) := by decide +kernel
theorem dX8_isIdle_21 : decode cX8_isIdle 21 = .ok (.ifCond .eq 7, 3) := by decide +kernel
theorem dX8_isIdle_24 : decode cX8_isIdle 24 = .ok (.iconst 1, 1) := by decide +kernel
theorem dX8_isIdle_25 : decode cX8_isIdle 25 = .ok (.goto 4, 3) := by decide +kernel
theorem dX8_isIdle_28 : decode cX8_isIdle 28 = .ok (.iconst 0, 1) := by decide +kernel
theorem dX8_isIdle_29 : decode cX8_isIdle 29 = .ok (.ireturn, 1) := by decide +kernel
theorem dX8_countDead_0 : decode cX8_countDead 0 = .ok (.iconst 0, 1) := by decide +kernel
theorem dX8_countDead_1 : decode cX8_countDead 1 = .ok (.istore_n 1, 1) := by decide +kernel
theorem dX8_countDead_2 : decode cX8_countDead 2 = .ok (.iconst 0, 1) := by decide +kernel
theorem dX8_countDead_3 : decode cX8_countDead 3 = .ok (.istore_n 2, 1) := by decide +kernel
theorem dX8_countDead_4 : decode cX8_countDead 4 = .ok (.iload_n 2, 1) := by decide +kernel
theorem dX8_countDead_5 : decode cX8_countDead 5 = .ok (.aload_n 0, 1) := by decide +kernel
theorem dX8_countDead_6 : decode cX8_countDead 6 = .ok (.getfield 26, 3) := by decide +kernel
theorem dX8_countDead_9 : decode cX8_countDead 9 = .ok (.getfield 105, 3) := by decide +kernel
theorem dX8_countDead_12 : decode cX8_countDead 12 = .ok (.if_icmp .ge 23, 3) := by decide +kernel
theorem dX8_countDead_15 : decode cX8_countDead 15 = .ok (.iload_n 1, 1) := by decide +kernel
theorem dX8_countDead_16 : decode cX8_countDead 16 = .ok (.aload_n 0, 1) := by decide +kernel
theorem dX8_countDead_17 : decode cX8_countDead 17 = .ok (.getfield 33, 3) := by decide +kernel
theorem dX8_countDead_20 : decode cX8_countDead 20 = .ok (.iload_n 2, 1) := by decide +kernel
theorem dX8_countDead_21 : decode cX8_countDead 21 = .ok (.invokevirtual 126, 3) := by decide +kernel
theorem dX8_countDead_24 : decode cX8_countDead 24 = .ok (.invokestatic 129, 3) := by decide +kernel
theorem dX8_countDead_27 : decode cX8_countDead 27 = .ok (.iadd, 1) := by decide +kernel
theorem dX8_countDead_28 : decode cX8_countDead 28 = .ok (.istore_n 1, 1) := by decide +kernel
theorem dX8_countDead_29 : decode cX8_countDead 29 = .ok (.iinc 2 1, 3) := by decide +kernel
theorem dX8_countDead_32 : decode cX8_countDead 32 = .ok (.goto (-28), 3) := by decide +kernel
theorem dX8_countDead_35 : decode cX8_countDead 35 = .ok (.iload_n 1, 1) := by decide +kernel
theorem dX8_countDead_36 : decode cX8_countDead 36 = .ok (.ireturn, 1) := by decide +kernel
theorem dX8_countIdle_0 : decode cX8_countIdle 0 = .ok (.iconst 0, 1) := by decide +kernel
theorem dX8_countIdle_1 : decode cX8_countIdle 1 = .ok (.istore_n 1, 1) := by decide +kernel
theorem dX8_countIdle_2 : decode cX8_countIdle 2 = .ok (.iconst 0, 1) := by decide +kernel
theorem dX8_countIdle_3 : decode cX8_countIdle 3 = .ok (.istore_n 2, 1) := by decide +kernel
theorem dX8_countIdle_4 : decode cX8_countIdle 4 = .ok (.iload_n 2, 1) := by decide +kernel
theorem dX8_countIdle_5 : decode cX8_countIdle 5 = .ok (.aload_n 0, 1) := by decide +kernel
theorem dX8_countIdle_6 : decode cX8_countIdle 6 = .ok (.getfield 26, 3) := by decide +kernel
theorem dX8_countIdle_9 : decode cX8_countIdle 9 = .ok (.getfield 105, 3) := by decide +kernel
theorem dX8_countIdle_12 : decode cX8_countIdle 12 = .ok (.if_icmp .ge 20, 3) := by decide +kernel
theorem dX8_countIdle_15 : decode cX8_countIdle 15 = .ok (.iload_n 1, 1) := by decide +kernel
theorem dX8_countIdle_16 : decode cX8_countIdle 16 = .ok (.aload_n 0, 1) := by decide +kernel
theorem dX8_countIdle_17 : decode cX8_countIdle 17 = .ok (.iload_n 2, 1) := by decide +kernel
theorem dX8_countIdle_18 : decode cX8_countIdle 18 = .ok (.invokevirtual 136, 3) := by decide +kernel
theorem dX8_countIdle_21 : decode cX8_countIdle 21 = .ok (.invokestatic 129, 3) := by decide +kernel
theorem dX8_countIdle_24 : decode cX8_countIdle 24 = .ok (.iadd, 1) := by decide +kernel
theorem dX8_countIdle_25 : decode cX8_countIdle 25 = .ok (.istore_n 1, 1) := by decide +kernel
theorem dX8_countIdle_26 : decode cX8_countIdle 26 = .ok (.iinc 2 1, 3) := by decide +kernel
theorem dX8_countIdle_29 : decode cX8_countIdle 29 = .ok (.goto (-25), 3) := by decide +kernel
theorem dX8_countIdle_32 : decode cX8_countIdle 32 = .ok (.iload_n 1, 1) := by decide +kernel
theorem dX8_countIdle_33 : decode cX8_countIdle 33 = .ok (.ireturn, 1) := by decide +kernel
theorem dX8_canBePut_0 : decode cX8_canBePut 0 = .ok (.iload_n 0, 1) := by decide +kernel
theorem dX8_canBePut_1 : decode cX8_canBePut 1 = .ok (.invokestatic 146, 3) := by decide +kernel
theorem dX8_canBePut_4 : decode cX8_canBePut 4 = .ok (.ifCond .eq 8, 3) := by decide +kernel
theorem dX8_canBePut_7 : decode cX8_canBePut 7 = .ok (.iload_n 0, 1) := by decide +kernel
theorem dX8_canBePut_8 : decode cX8_canBePut 8 = .ok (.iconst 4, 1) := by decide +kernel
theorem dX8_canBePut_9 : decode cX8_canBePut 9 = .ok (.if_icmp .ne 5, 3) := by decide +kernel
theorem dX8_canBePut_12 : decode cX8_canBePut 12 = .ok (.iconst 0, 1) := by decide +kernel
theorem dX8_canBePut_13 : decode cX8_canBePut 13 = .ok (.ireturn, 1) := by decide +kernel
theorem dX8_canBePut_14 : decode cX8_canBePut 14 = .ok (.iload_n 0, 1) := by decide +kernel
theorem dX8_canBePut_15 : decode cX8_canBePut 15 = .ok (.ifCond .ne 8, 3) := by decide +kernel
theorem dX8_canBePut_18 : decode cX8_canBePut 18 = .ok (.bipush 6, 2) := by decide +kernel
theorem dX8_canBePut_20 : decode cX8_canBePut 20 = .ok (.goto 4, 3) := by decide +kernel
theorem dX8_canBePut_23 : decode cX8_canBePut 23 = .ok (.iconst 3, 1) := by decide +kernel
theorem dX8_canBePut_24 : decode cX8_canBePut 24 = .ok (.istore 4, 2) := by decide +kernel
theorem dX8_canBePut_26 : decode cX8_canBePut 26 = .ok (.iload_n 1, 1) := by decide +kernel
theorem dX8_canBePut_27 : decode cX8_canBePut 27 = .ok (.ifCond .lt 9, 3) := by decide +kernel
theorem dX8_canBePut_30 : decode cX8_canBePut 30 = .ok (.iload_n 1, 1) := by decide +kernel
theorem dX8_canBePut_31 : decode cX8_canBePut 31 = .ok (.iload 4, 2) := by decide +kernel
theorem dX8_canBePut_33 : decode cX8_canBePut 33 = .ok (.if_icmp .lt 5, 3) := by decide +kernel
theorem dX8_canBePut_36 : decode cX8_canBePut 36 = .ok (.iconst 0, 1) := by decide +kernel
theorem dX8_canBePut_37 : decode cX8_canBePut 37 = .ok (.ireturn, 1) := by decide +kernel
theorem dX8_canBePut_38 : decode cX8_canBePut 38 = .ok (.iload_n 0, 1) := by decide +kernel
theorem dX8_canBePut_39 : decode cX8_canBePut 39 = .ok (.invokestatic 200, 3) := by decide +kernel
theorem dX8_canBePut_42 : decode cX8_canBePut 42 = .ok (.ifCond .eq 12, 3) := by decide +kernel
theorem dX8_canBePut_45 : decode cX8_canBePut 45 = .ok (.iload_n 2, 1) := by decide +kernel
theorem dX8_canBePut_46 : decode cX8_canBePut 46 = .ok (.invokestatic 156, 3) := by decide +kernel
theorem dX8_canBePut_49 : decode cX8_canBePut 49 = .ok (.ifCond .ne 5, 3) := by decide +kernel
theorem dX8_canBePut_52 : decode cX8_canBePut 52 = .ok (.iconst 0, 1) := by decide +kernel
theorem dX8_canBePut_53 : decode cX8_canBePut 53 = .ok (.ireturn, 1) := by decide +kernel
theorem dX8_canBePut_54 : decode cX8_canBePut 54 = .ok (.iload_n 0, 1) := by decide +kernel
theorem dX8_canBePut_55 : decode cX8_canBePut 55 = .ok (.invokestatic 120, 3) := by decide +kernel
theorem dX8_canBePut_58 : decode cX8_canBePut 58 = .ok (.ifCond .eq 10, 3) := by decide +kernel
theorem dX8_canBePut_61 : decode cX8_canBePut 61 = .ok (.iload_n 3, 1) := by decide +kernel
theorem dX8_canBePut_62 : decode cX8_canBePut 62 = .ok (.invokestatic 213, 3) := by decide +kernel
theorem dX8_canBePut_65 : decode cX8_canBePut 65 = .ok (.ifCond .eq 7, 3) := by decide +kernel
theorem dX8_canBePut_68 : decode cX8_canBePut 68 = .ok (.iconst 1, 1) := by decide +kernel
theorem dX8_canBePut_69 : decode cX8_canBePut 69 = .ok (.goto 4, 3) := by decide +kernel
theorem dX8_canBePut_72 : decode cX8_canBePut 72 = .ok (.iconst 0, 1) := by decide +kernel
theorem dX8_canBePut_73 : decode cX8_canBePut 73 = .ok (.ireturn, 1) := by decide +kernel
theorem dX8_isKind_0 : decode cX8_isKind 0 = .ok (.iload_n 0, 1) := by decide +kernel
theorem dX8_isKind_1 : decode cX8_isKind 1 = .ok (.ifCond .lt 12, 3) := by decide +kernel
theorem dX8_isKind_4 : decode cX8_isKind 4 = .ok (.iload_n 0, 1) := by decide +kernel
theorem dX8_isKind_5 : decode cX8_isKind 5 = .ok (.iconst 5, 1) := by decide +kernel
theorem dX8_isKind_6 : decode cX8_isKind 6 = .ok (.if_icmp .ge 7, 3) := by decide +kernel
theorem dX8_isKind_9 : decode cX8_isKind 9 = .ok (.iconst 1, 1) := by decide +kernel
theorem dX8_isKind_10 : decode cX8_isKind 10 = .ok (.goto 4, 3) := by decide +kernel
theorem dX8_isKind_13 : decode cX8_isKind 13 = .ok (.iconst 0, 1) := by decide +kernel
theorem dX8_isKind_14 : decode cX8_isKind 14 = .ok (.ireturn, 1) := by decide +kernel
end
section
theorem dX8_isSigned_0 : decode cX8_isSigned 0 = .ok (.iload_n 0, 1) := by decide +kernel
theorem dX8_isSigned_1 : decode cX8_isSigned 1 = .ok (.ifCond .lt 13, 3) := by decide +kernel
theorem dX8_isSigned_4 : decode cX8_isSigned 4 = .ok (.iload_n 0, 1) := by decide +kernel
theorem dX8_isSigned_5 : decode cX8_isSigned 5 = .ok (.bipush 6, 2) := by decide +kernel
theorem dX8_isSigned_7 : decode cX8_isSigned 7 = .ok (.if_icmp .ge 7, 3) := by decide +kernel
theorem dX8_isSigned_10 : decode cX8_isSigned 10 = .ok (.iconst 1, 1) := by decide +kernel
theorem dX8_isSigned_11 : decode cX8_isSigned 11 = .ok (.goto 4, 3) := by decide +kernel
theorem dX8_isSigned_14 : decode cX8_isSigned 14 = .ok (.iconst 0, 1) := by decide +kernel
theorem dX8_isSigned_15 : decode cX8_isSigned 15 = .ok (.ireturn, 1) := by decide +kernel
theorem dX8_isNumber_0 : decode cX8_isNumber 0 = .ok (.iload_n 0, 1) := by decide +kernel
theorem dX8_isNumber_1 : decode cX8_isNumber 1 = .ok (.bipush (-8), 2) := by decide +kernel
theorem dX8_isNumber_3 : decode cX8_isNumber 3 = .ok (.if_icmp .lt 13, 3) := by decide +kernel
theorem dX8_isNumber_6 : decode cX8_isNumber 6 = .ok (.iload_n 0, 1) := by decide +kernel
theorem dX8_isNumber_7 : decode cX8_isNumber 7 = .ok (.bipush 8, 2) := by decide +kernel
theorem dX8_isNumber_9 : decode cX8_isNumber 9 = .ok (.if_icmp .gt 7, 3) := by decide +kernel
theorem dX8_isNumber_12 : decode cX8_isNumber 12 = .ok (.iconst 1, 1) := by decide +kernel
theorem dX8_isNumber_13 : decode cX8_isNumber 13 = .ok (.goto 4, 3) := by decide +kernel
theorem dX8_isNumber_16 : decode cX8_isNumber 16 = .ok (.iconst 0, 1) := by decide +kernel
theorem dX8_isNumber_17 : decode cX8_isNumber 17 = .ok (.ireturn, 1) := by decide +kernel
theorem dX8_isBy_0 : decode cX8_isBy 0 = .ok (.iload_n 0, 1) := by decide +kernel
theorem dX8_isBy_1 : decode cX8_isBy 1 = .ok (.bipush (-9), 2) := by decide +kernel
theorem dX8_isBy_3 : decode cX8_isBy 3 = .ok (.if_icmp .lt 13, 3) := by decide +kernel
theorem dX8_isBy_6 : decode cX8_isBy 6 = .ok (.iload_n 0, 1) := by decide +kernel
theorem dX8_isBy_7 : decode cX8_isBy 7 = .ok (.bipush 9, 2) := by decide +kernel
theorem dX8_isBy_9 : decode cX8_isBy 9 = .ok (.if_icmp .gt 7, 3) := by decide +kernel
theorem dX8_isBy_12 : decode cX8_isBy 12 = .ok (.iconst 1, 1) := by decide +kernel
theorem dX8_isBy_13 : decode cX8_isBy 13 = .ok (.goto 4, 3) := by decide +kernel
theorem dX8_isBy_16 : decode cX8_isBy 16 = .ok (.iconst 0, 1) := by decide +kernel
theorem dX8_isBy_17 : decode cX8_isBy 17 = .ok (.ireturn, 1) := by decide +kernel
theorem dX8_hasSecond_0 : decode cX8_hasSecond 0 = .ok (.iload_n 0, 1) := by decide +kernel
theorem dX8_hasSecond_1 : decode cX8_hasSecond 1 = .ok (.ifCond .eq 8, 3) := by decide +kernel
theorem dX8_hasSecond_4 : decode cX8_hasSecond 4 = .ok (.iload_n 0, 1) := by decide +kernel
theorem dX8_hasSecond_5 : decode cX8_hasSecond 5 = .ok (.iconst 1, 1) := by decide +kernel
theorem dX8_hasSecond_6 : decode cX8_hasSecond 6 = .ok (.if_icmp .ne 7, 3) := by decide +kernel
theorem dX8_hasSecond_9 : decode cX8_hasSecond 9 = .ok (.iconst 1, 1) := by decide +kernel
theorem dX8_hasSecond_10 : decode cX8_hasSecond 10 = .ok (.goto 4, 3) := by decide +kernel
theorem dX8_hasSecond_13 : decode cX8_hasSecond 13 = .ok (.iconst 0, 1) := by decide +kernel
theorem dX8_hasSecond_14 : decode cX8_hasSecond 14 = .ok (.ireturn, 1) := by decide +kernel
theorem dX8_hasNumber_0 : decode cX8_hasNumber 0 = .ok (.iload_n 0, 1) := by decide +kernel
theorem dX8_hasNumber_1 : decode cX8_hasNumber 1 = .ok (.ifCond .eq 13, 3) := by decide +kernel
theorem dX8_hasNumber_4 : decode cX8_hasNumber 4 = .ok (.iload_n 0, 1) := by decide +kernel
theorem dX8_hasNumber_5 : decode cX8_hasNumber 5 = .ok (.iconst 1, 1) := by decide +kernel
theorem dX8_hasNumber_6 : decode cX8_hasNumber 6 = .ok (.if_icmp .eq 8, 3) := by decide +kernel
theorem dX8_hasNumber_9 : decode cX8_hasNumber 9 = .ok (.iload_n 0, 1) := by decide +kernel
theorem dX8_hasNumber_10 : decode cX8_hasNumber 10 = .ok (.iconst 3, 1) := by decide +kernel
theorem dX8_hasNumber_11 : decode cX8_hasNumber 11 = .ok (.if_icmp .ne 7, 3) := by decide +kernel
theorem dX8_hasNumber_14 : decode cX8_hasNumber 14 = .ok (.iconst 1, 1) := by decide +kernel
theorem dX8_hasNumber_15 : decode cX8_hasNumber 15 = .ok (.goto 4, 3) := by decide +kernel
theorem dX8_hasNumber_18 : decode cX8_hasNumber 18 = .ok (.iconst 0, 1) := by decide +kernel
theorem dX8_hasNumber_19 : decode cX8_hasNumber 19 = .ok (.ireturn, 1) := by decide +kernel
theorem dX8_isSuch_0 : decode cX8_isSuch 0 = .ok (.iload_n 1, 1) := by decide +kernel
theorem dX8_isSuch_1 : decode cX8_isSuch 1 = .ok (.ifCond .eq 18, 3) := by decide +kernel
theorem dX8_isSuch_4 : decode cX8_isSuch 4 = .ok (.iload_n 0, 1) := by decide +kernel
theorem dX8_isSuch_5 : decode cX8_isSuch 5 = .ok (.iload_n 1, 1) := by decide +kernel
theorem dX8_isSuch_6 : decode cX8_isSuch 6 = .ok (.if_icmp .eq 13, 3) := by decide +kernel
theorem dX8_isSuch_9 : decode cX8_isSuch 9 = .ok (.iload_n 1, 1) := by decide +kernel
theorem dX8_isSuch_10 : decode cX8_isSuch 10 = .ok (.iconst 1, 1) := by decide +kernel
theorem dX8_isSuch_11 : decode cX8_isSuch 11 = .ok (.if_icmp .ne 12, 3) := by decide +kernel
theorem dX8_isSuch_14 : decode cX8_isSuch 14 = .ok (.iload_n 0, 1) := by decide +kernel
theorem dX8_isSuch_15 : decode cX8_isSuch 15 = .ok (.iconst 3, 1) := by decide +kernel
theorem dX8_isSuch_16 : decode cX8_isSuch 16 = .ok (.if_icmp .ne 7, 3) := by decide +kernel
theorem dX8_isSuch_19 : decode cX8_isSuch 19 = .ok (.iconst 1, 1) := by decide +kernel
theorem dX8_isSuch_20 : decode cX8_isSuch 20 = .ok (.goto 4, 3) := by decide +kernel
theorem dX8_isSuch_23 : decode cX8_isSuch 23 = .ok (.iconst 0, 1) := by decide +kernel
theorem dX8_isSuch_24 : decode cX8_isSuch 24 = .ok (.ireturn, 1) := by decide +kernel
theorem dX8_asInt_0 : decode cX8_asInt 0 = .ok (.iload_n 0, 1) := by decide +kernel
theorem dX8_asInt_1 : decode cX8_asInt 1 = .ok (.ifCond .eq 7, 3) := by decide +kernel
theorem dX8_asInt_4 : decode cX8_asInt 4 = .ok (.iconst 1, 1) := by decide +kernel
theorem dX8_asInt_5 : decode cX8_asInt 5 = .ok (.goto 4, 3) := by decide +kernel
theorem dX8_asInt_8 : decode cX8_asInt 8 = .ok (.iconst 0, 1) := by decide +kernel
theorem dX8_asInt_9 : decode cX8_asInt 9 = .ok (.ireturn, 1) := by decide +kernel
theorem dX8_questionFor_0 : decode cX8_questionFor 0 = .ok (.iload_n 0, 1) := by decide +kernel
theorem dX8_questionFor_1 : decode cX8_questionFor 1 = .ok (.ifCond .ne 5, 3) := by decide +kernel
theorem dX8_questionFor_4 : decode cX8_questionFor 4 = .ok (.iconst (-1), 1) := by decide +kernel
theorem dX8_questionFor_5 : decode cX8_questionFor 5 = .ok (.ireturn, 1) := by decide +kernel
theorem dX8_questionFor_6 : decode cX8_questionFor 6 = .ok (.iconst (-1), 1) := by decide +kernel
theorem dX8_questionFor_7 : decode cX8_questionFor 7 = .ok (.istore_n 1, 1) := by decide +kernel
theorem dX8_questionFor_8 : decode cX8_questionFor 8 = .ok (.bipush 6, 2) := by decide +kernel
theorem dX8_questionFor_10 : decode cX8_questionFor 10 = .ok (.istore_n 2, 1) := by decide +kernel
theorem dX8_questionFor_11 : decode cX8_questionFor 11 = .ok (.iconst 0, 1) := by decide +kernel
theorem dX8_questionFor_12 : decode cX8_questionFor 12 = .ok (.istore_n 3, 1) := by decide +kernel
theorem dX8_questionFor_13 : decode cX8_questionFor 13 = .ok (.iload_n 3, 1) := by decide +kernel
theorem dX8_questionFor_14 : decode cX8_questionFor 14 = .ok (.iconst 4, 1) := by decide +kernel
theorem dX8_questionFor_15 : decode cX8_questionFor 15 = .ok (.if_icmp .ge 55, 3) := by decide +kernel
theorem dX8_questionFor_18 : decode cX8_questionFor 18 = .ok (.iload_n 0, 1) := by decide +kernel
theorem dX8_questionFor_19 : decode cX8_questionFor 19 = .ok (.getstatic 306, 3) := by decide +kernel
theorem dX8_questionFor_22 : decode cX8_questionFor 22 = .ok (.iload_n 3, 1) := by decide +kernel
theorem dX8_questionFor_23 : decode cX8_questionFor 23 = .ok (.iaload, 1) := by decide +kernel
theorem dX8_questionFor_24 : decode cX8_questionFor 24 = .ok (.iand, 1) := by decide +kernel
theorem dX8_questionFor_25 : decode cX8_questionFor 25 = .ok (.invokestatic 309, 3) := by decide +kernel
theorem dX8_questionFor_28 : decode cX8_questionFor 28 = .ok (.istore 4, 2) := by decide +kernel
theorem dX8_questionFor_30 : decode cX8_questionFor 30 = .ok (.iload_n 0, 1) := by decide +kernel
theorem dX8_questionFor_31 : decode cX8_questionFor 31 = .ok (.getstatic 306, 3) := by decide +kernel
theorem dX8_questionFor_34 : decode cX8_questionFor 34 = .ok (.iload_n 3, 1) := by decide +kernel
theorem dX8_questionFor_35 : decode cX8_questionFor 35 = .ok (.iaload, 1) := by decide +kernel
theorem dX8_questionFor_36 : decode cX8_questionFor 36 = .ok (.iconst (-1), 1) := by decide +kernel
theorem dX8_questionFor_37 : decode cX8_questionFor 37 = .ok (.ixor, 1) := by decide +kernel
theorem dX8_questionFor_38 : decode cX8_questionFor 38 = .ok (.iand, 1) := by decide +kernel
theorem dX8_questionFor_39 : decode cX8_questionFor 39 = .ok (.invokestatic 309, 3) := by decide +kernel
theorem dX8_questionFor_42 : decode cX8_questionFor 42 = .ok (.istore 5, 2) := by decide +kernel
theorem dX8_questionFor_44 : decode cX8_questionFor 44 = .ok (.iload 4, 2) := by decide +kernel
theorem dX8_questionFor_46 : decode cX8_questionFor 46 = .ok (.iload 5, 2) := by decide +kernel
theorem dX8_questionFor_48 : decode cX8_questionFor 48 = .ok (.invokestatic 314, 3) := by decide +kernel
theorem dX8_questionFor_51 : decode cX8_questionFor 51 = .ok (.istore 6, 2) := by decide +kernel
theorem dX8_questionFor_53 : decode cX8_questionFor 53 = .ok (.iload 6, 2) := by decide +kernel
theorem dX8_questionFor_55 : decode cX8_questionFor 55 = .ok (.iload_n 2, 1) := by decide +kernel
theorem dX8_questionFor_56 : decode cX8_questionFor 56 = .ok (.if_icmp .ge 8, 3) := by decide +kernel
theorem dX8_questionFor_59 : decode cX8_questionFor 59 = .ok (.iload 6, 2) := by decide +kernel
theorem dX8_questionFor_61 : decode cX8_questionFor 61 = .ok (.istore_n 2, 1) := by decide +kernel
theorem dX8_questionFor_62 : decode cX8_questionFor 62 = .ok (.iload_n 3, 1) := by decide +kernel
theorem dX8_questionFor_63 : decode cX8_questionFor 63 = .ok (.istore_n 1, 1) := by decide +kernel
theorem dX8_questionFor_64 : decode cX8_questionFor 64 = .ok (.iinc 3 1, 3) := by decide +kernel
theorem dX8_questionFor_67 : decode cX8_questionFor 67 = .ok (.goto (-54), 3) := by decide +kernel
theorem dX8_questionFor_70 : decode cX8_questionFor 70 = .ok (.iload_n 1, 1) := by decide +kernel
theorem dX8_questionFor_71 : decode cX8_questionFor 71 = .ok (.ireturn, 1) := by decide +kernel
theorem dX8_shareBits_0 : decode cX8_shareBits 0 = .ok (.iload_n 0, 1) := by decide +kernel
theorem dX8_shareBits_1 : decode cX8_shareBits 1 = .ok (.ifCond .gt 5, 3) := by decide +kernel
theorem dX8_shareBits_4 : decode cX8_shareBits 4 = .ok (.lconst 0, 1) := by decide +kernel
theorem dX8_shareBits_5 : decode cX8_shareBits 5 = .ok (.lreturn, 1) := by decide +kernel
theorem dX8_shareBits_6 : decode cX8_shareBits 6 = .ok (.iload_n 0, 1) := by decide +kernel
theorem dX8_shareBits_7 : decode cX8_shareBits 7 = .ok (.istore_n 1, 1) := by decide +kernel
theorem dX8_shareBits_8 : decode cX8_shareBits 8 = .ok (.ldc2_w 319, 3) := by decide +kernel
theorem dX8_shareBits_11 : decode cX8_shareBits 11 = .ok (.lstore_n 2, 1) := by decide +kernel
theorem dX8_shareBits_12 : decode cX8_shareBits 12 = .ok (.iconst 0, 1) := by decide +kernel
theorem dX8_shareBits_13 : decode cX8_shareBits 13 = .ok (.istore 4, 2) := by decide +kernel
theorem dX8_shareBits_15 : decode cX8_shareBits 15 = .ok (.iload 4, 2) := by decide +kernel
theorem dX8_shareBits_17 : decode cX8_shareBits 17 = .ok (.bipush 13, 2) := by decide +kernel
theorem dX8_shareBits_19 : decode cX8_shareBits 19 = .ok (.if_icmp .ge 24, 3) := by decide +kernel
theorem dX8_shareBits_22 : decode cX8_shareBits 22 = .ok (.iload_n 1, 1) := by decide +kernel
theorem dX8_shareBits_23 : decode cX8_shareBits 23 = .ok (.sipush 4913, 3) := by decide +kernel
theorem dX8_shareBits_26 : decode cX8_shareBits 26 = .ok (.if_icmp .ge 17, 3) := by decide +kernel
theorem dX8_shareBits_29 : decode cX8_shareBits 29 = .ok (.iload_n 1, 1) := by decide +kernel
theorem dX8_shareBits_30 : decode cX8_shareBits 30 = .ok (.iconst 2, 1) := by decide +kernel
theorem dX8_shareBits_31 : decode cX8_shareBits 31 = .ok (.imul, 1) := by decide +kernel
theorem dX8_shareBits_32 : decode cX8_shareBits 32 = .ok (.istore_n 1, 1) := by decide +kernel
theorem dX8_shareBits_33 : decode cX8_shareBits 33 = .ok (.lload_n 2, 1) := by decide +kernel
theorem dX8_shareBits_34 : decode cX8_shareBits 34 = .ok (.lconst 1, 1) := by decide +kernel
theorem dX8_shareBits_35 : decode cX8_shareBits 35 = .ok (.lsub, 1) := by decide +kernel
theorem dX8_shareBits_36 : decode cX8_shareBits 36 = .ok (.lstore_n 2, 1) := by decide +kernel
theorem dX8_shareBits_37 : decode cX8_shareBits 37 = .ok (.iinc 4 1, 3) := by decide +kernel
theorem dX8_shareBits_40 : decode cX8_shareBits 40 = .ok (.goto (-25), 3) := by decide +kernel
theorem dX8_shareBits_43 : decode cX8_shareBits 43 = .ok (.iinc 1 (-4913), 6) := by decide +kernel
theorem dX8_shareBits_49 : decode cX8_shareBits 49 = .ok (.lconst 0, 1) := by decide +kernel
theorem dX8_shareBits_50 : decode cX8_shareBits 50 = .ok (.lstore 4, 2) := by decide +kernel
theorem dX8_shareBits_52 : decode cX8_shareBits 52 = .ok (.iconst 0, 1) := by decide +kernel
theorem dX8_shareBits_53 : decode cX8_shareBits 53 = .ok (.istore 6, 2) := by decide +kernel
theorem dX8_shareBits_55 : decode cX8_shareBits 55 = .ok (.iload 6, 2) := by decide +kernel
theorem dX8_shareBits_57 : decode cX8_shareBits 57 = .ok (.bipush 52, 2) := by decide +kernel
theorem dX8_shareBits_59 : decode cX8_shareBits 59 = .ok (.if_icmp .ge 40, 3) := by decide +kernel
theorem dX8_shareBits_62 : decode cX8_shareBits 62 = .ok (.iload_n 1, 1) := by decide +kernel
theorem dX8_shareBits_63 : decode cX8_shareBits 63 = .ok (.iconst 2, 1) := by decide +kernel
theorem dX8_shareBits_64 : decode cX8_shareBits 64 = .ok (.imul, 1) := by decide +kernel
theorem dX8_shareBits_65 : decode cX8_shareBits 65 = .ok (.istore_n 1, 1) := by decide +kernel
theorem dX8_shareBits_66 : decode cX8_shareBits 66 = .ok (.lload 4, 2) := by decide +kernel
theorem dX8_shareBits_68 : decode cX8_shareBits 68 = .ok (.ldc2_w 321, 3) := by decide +kernel
theorem dX8_shareBits_71 : decode cX8_shareBits 71 = .ok (.lmul, 1) := by decide +kernel
theorem dX8_shareBits_72 : decode cX8_shareBits 72 = .ok (.lstore 4, 2) := by decide +kernel
theorem dX8_shareBits_74 : decode cX8_shareBits 74 = .ok (.iload_n 1, 1) := by decide +kernel
theorem dX8_shareBits_75 : decode cX8_shareBits 75 = .ok (.sipush 4913, 3) := by decide +kernel
theorem dX8_shareBits_78 : decode cX8_shareBits 78 = .ok (.if_icmp .lt 15, 3) := by decide +kernel
theorem dX8_shareBits_81 : decode cX8_shareBits 81 = .ok (.iinc 1 (-4913), 6) := by decide +kernel
theorem dX8_shareBits_87 : decode cX8_shareBits 87 = .ok (.lload 4, 2) := by decide +kernel
theorem dX8_shareBits_89 : decode cX8_shareBits 89 = .ok (.lconst 1, 1) := by decide +kernel
theorem dX8_shareBits_90 : decode cX8_shareBits 90 = .ok (.ladd, 1) := by decide +kernel
theorem dX8_shareBits_91 : decode cX8_shareBits 91 = .ok (.lstore 4, 2) := by decide +kernel
theorem dX8_shareBits_93 : decode cX8_shareBits 93 = .ok (.iinc 6 1, 3) := by decide +kernel
theorem dX8_shareBits_96 : decode cX8_shareBits 96 = .ok (.goto (-41), 3) := by decide +kernel
theorem dX8_shareBits_99 : decode cX8_shareBits 99 = .ok (.lload_n 2, 1) := by decide +kernel
theorem dX8_shareBits_100 : decode cX8_shareBits 100 = .ok (.bipush 52, 2) := by decide +kernel
theorem dX8_shareBits_102 : decode cX8_shareBits 102 = .ok (.lshl, 1) := by decide +kernel
theorem dX8_shareBits_103 : decode cX8_shareBits 103 = .ok (.lload 4, 2) := by decide +kernel
theorem dX8_shareBits_105 : decode cX8_shareBits 105 = .ok (.ladd, 1) := by decide +kernel
theorem dX8_shareBits_106 : decode cX8_shareBits 106 = .ok (.lstore 6, 2) := by decide +kernel
theorem dX8_shareBits_108 : decode cX8_shareBits 108 = .ok (.iconst 2, 1) := by decide +kernel
theorem dX8_shareBits_109 : decode cX8_shareBits 109 = .ok (.iload_n 1, 1) := by decide +kernel
theorem dX8_shareBits_110 : decode cX8_shareBits 110 = .ok (.imul, 1) := by decide +kernel
theorem dX8_shareBits_111 : decode cX8_shareBits 111 = .ok (.sipush 4913, 3) := by decide +kernel
theorem dX8_shareBits_114 : decode cX8_shareBits 114 = .ok (.if_icmp .le 10, 3) := by decide +kernel
theorem dX8_shareBits_117 : decode cX8_shareBits 117 = .ok (.lload 6, 2) := by decide +kernel
theorem dX8_shareBits_119 : decode cX8_shareBits 119 = .ok (.lconst 1, 1) := by decide +kernel
theorem dX8_shareBits_120 : decode cX8_shareBits 120 = .ok (.ladd, 1) := by decide +kernel
theorem dX8_shareBits_121 : decode cX8_shareBits 121 = .ok (.goto 5, 3) := by decide +kernel
theorem dX8_shareBits_124 : decode cX8_shareBits 124 = .ok (.lload 6, 2) := by decide +kernel
theorem dX8_shareBits_126 : decode cX8_shareBits 126 = .ok (.lreturn, 1) := by decide +kernel
theorem dX9_init_0 : decode cX9_init 0 = .ok (.aload_n 0, 1) := by decide +kernel
theorem dX9_init_1 : decode cX9_init 1 = .ok (.invokespecial 1, 3) := by decide +kernel
theorem dX9_init_4 : decode cX9_init 4 = .ok (.aload_n 0, 1) := by decide +kernel
theorem dX9_init_5 : decode cX9_init 5 = .ok (.bipush 36, 2) := by decide +kernel
theorem dX9_init_7 : decode cX9_init 7 = .ok (.newarray .int, 2) := by decide +kernel
theorem dX9_init_9 : decode cX9_init 9 = .ok (.putfield 7, 3) := by decide +kernel
theorem dX9_init_12 : decode cX9_init 12 = .ok (.aload_n 0, 1) := by decide +kernel
theorem dX9_init_13 : decode cX9_init 13 = .ok (.bipush 24, 2) := by decide +kernel
theorem dX9_init_15 : decode cX9_init 15 = .ok (.newarray .int, 2) := by decide +kernel
theorem dX9_init_17 : decode cX9_init 17 = .ok (.putfield 13, 3) := by decide +kernel
theorem dX9_init_20 : decode cX9_init 20 = .ok (.aload_n 0, 1) := by decide +kernel
theorem dX9_init_21 : decode cX9_init 21 = .ok (.bipush 24, 2) := by decide +kernel
theorem dX9_init_23 : decode cX9_init 23 = .ok (.newarray .int, 2) := by decide +kernel
theorem dX9_init_25 : decode cX9_init 25 = .ok (.putfield 16, 3) := by decide +kernel
theorem dX9_init_28 : decode cX9_init 28 = .ok (.aload_n 0, 1) := by decide +kernel
theorem dX9_init_29 : decode cX9_init 29 = .ok (.ldc 19, 2) := by decide +kernel
theorem dX9_init_31 : decode cX9_init 31 = .ok (.newarray .int, 2) := by decide +kernel
theorem dX9_init_33 : decode cX9_init 33 = .ok (.putfield 20, 3) := by decide +kernel
theorem dX9_init_36 : decode cX9_init 36 = .ok (.aload_n 0, 1) := by decide +kernel
theorem dX9_init_37 : decode cX9_init 37 = .ok (.sipush 29478, 3) := by decide +kernel
theorem dX9_init_40 : decode cX9_init 40 = .ok (.newarray .int, 2) := by decide +kernel
theorem dX9_init_42 : decode cX9_init 42 = .ok (.putfield 23, 3) := by decide +kernel
theorem dX9_init_45 : decode cX9_init 45 = .ok (.aload_n 0, 1) := by decide +kernel
theorem dX9_init_46 : decode cX9_init 46 = .ok (.bipush 36, 2) := by decide +kernel
theorem dX9_init_48 : decode cX9_init 48 = .ok (.newarray .int, 2) := by decide +kernel
theorem dX9_init_50 : decode cX9_init 50 = .ok (.putfield 26, 3) := by decide +kernel
theorem dX9_init_53 : decode cX9_init 53 = .ok (.aload_n 0, 1) := by decide +kernel
theorem dX9_init_54 : decode cX9_init 54 = .ok (.bipush 36, 2) := by decide +kernel
theorem dX9_init_56 : decode cX9_init 56 = .ok (.newarray .int, 2) := by decide +kernel
theorem dX9_init_58 : decode cX9_init 58 = .ok (.putfield 29, 3) := by decide +kernel
theorem dX9_init_61 : decode cX9_init 61 = .ok (.aload_n 0, 1) := by decide +kernel
theorem dX9_init_62 : decode cX9_init 62 = .ok (.bipush 36, 2) := by decide +kernel
theorem dX9_init_64 : decode cX9_init 64 = .ok (.newarray .int, 2) := by decide +kernel
theorem dX9_init_66 : decode cX9_init 66 = .ok (.putfield 32, 3) := by decide +kernel
theorem dX9_init_69 : decode cX9_init 69 = .ok (.aload_n 0, 1) := by decide +kernel
theorem dX9_init_70 : decode cX9_init 70 = .ok (.bipush 7, 2) := by decide +kernel
theorem dX9_init_72 : decode cX9_init 72 = .ok (.newarray .int, 2) := by decide +kernel
theorem dX9_init_74 : decode cX9_init 74 = .ok (.putfield 35, 3) := by decide +kernel
theorem dX9_init_77 : decode cX9_init 77 = .ok (.aload_n 0, 1) := by decide +kernel
theorem dX9_init_78 : decode cX9_init 78 = .ok (.bipush 15, 2) := by decide +kernel
theorem dX9_init_80 : decode cX9_init 80 = .ok (.newarray .int, 2) := by decide +kernel
theorem dX9_init_82 : decode cX9_init 82 = .ok (.putfield 38, 3) := by decide +kernel
theorem dX9_init_85 : decode cX9_init 85 = .ok (.aload_n 0, 1) := by decide +kernel
theorem dX9_init_86 : decode cX9_init 86 = .ok (.bipush 18, 2) := by decide +kernel
theorem dX9_init_88 : decode cX9_init 88 = .ok (.newarray .int, 2) := by decide +kernel
theorem dX9_init_90 : decode cX9_init 90 = .ok (.putfield 41, 3) := by decide +kernel
theorem dX9_init_93 : decode cX9_init 93 = .ok (.aload_n 0, 1) := by decide +kernel
theorem dX9_init_94 : decode cX9_init 94 = .ok (.bipush 24, 2) := by decide +kernel
theorem dX9_init_96 : decode cX9_init 96 = .ok (.newarray .int, 2) := by decide +kernel
theorem dX9_init_98 : decode cX9_init 98 = .ok (.putfield 44, 3) := by decide +kernel
theorem dX9_init_101 : decode cX9_init 101 = .ok (.aload_n 0, 1) := by decide +kernel
theorem dX9_init_102 : decode cX9_init 102 = .ok (.bipush 18, 2) := by decide +kernel
theorem dX9_init_104 : decode cX9_init 104 = .ok (.newarray .int, 2) := by decide +kernel
theorem dX9_init_106 : decode cX9_init 106 = .ok (.putfield 47, 3) := by decide +kernel
theorem dX9_init_109 : decode cX9_init 109 = .ok (.aload_n 0, 1) := by decide +kernel
theorem dX9_init_110 : decode cX9_init 110 = .ok (.iconst (-1), 1) := by decide +kernel
theorem dX9_init_111 : decode cX9_init 111 = .ok (.putfield 50, 3) := by decide +kernel
theorem dX9_init_114 : decode cX9_init 114 = .ok (.iconst 0, 1) := by decide +kernel
theorem dX9_init_115 : decode cX9_init 115 = .ok (.istore_n 1, 1) := by decide +kernel
theorem dX9_init_116 : decode cX9_init 116 = .ok (.iload_n 1, 1) := by decide +kernel
theorem dX9_init_117 : decode cX9_init 117 = .ok (.bipush 15, 2) := by decide +kernel
theorem dX9_init_119 : decode cX9_init 119 = .ok (.if_icmp .ge 16, 3) := by decide +kernel
theorem dX9_init_122 : decode cX9_init 122 = .ok (.aload_n 0, 1) := by decide +kernel
theorem dX9_init_123 : decode cX9_init 123 = .ok (.getfield 38, 3) := by decide +kernel
theorem dX9_init_126 : decode cX9_init 126 = .ok (.iload_n 1, 1) := by decide +kernel
theorem dX9_init_127 : decode cX9_init 127 = .ok (.iconst (-1), 1) := by decide +kernel
theorem dX9_init_128 : decode cX9_init 128 = .ok (.iastore, 1) := by decide +kernel
theorem dX9_init_129 : decode cX9_init 129 = .ok (.iinc 1 1, 3) := by decide +kernel
theorem dX9_init_132 : decode cX9_init 132 = .ok (.goto (-16), 3) := by decide +kernel
theorem dX9_init_135 : decode cX9_init 135 = .ok (.iconst 0, 1) := by decide +kernel
theorem dX9_init_136 : decode cX9_init 136 = .ok (.istore_n 1, 1) := by decide +kernel
theorem dX9_init_137 : decode cX9_init 137 = .ok (.iload_n 1, 1) := by decide +kernel
theorem dX9_init_138 : decode cX9_init 138 = .ok (.sipush 29478, 3) := by decide +kernel
theorem dX9_init_141 : decode cX9_init 141 = .ok (.if_icmp .ge 42, 3) := by decide +kernel
theorem dX9_init_144 : decode cX9_init 144 = .ok (.iload_n 1, 1) := by decide +kernel
theorem dX9_init_145 : decode cX9_init 145 = .ok (.bipush 6, 2) := by decide +kernel
theorem dX9_init_147 : decode cX9_init 147 = .ok (.idiv, 1) := by decide +kernel
theorem dX9_init_148 : decode cX9_init 148 = .ok (.iload_n 1, 1) := by decide +kernel
theorem dX9_init_149 : decode cX9_init 149 = .ok (.bipush 6, 2) := by decide +kernel
theorem dX9_init_151 : decode cX9_init 151 = .ok (.irem, 1) := by decide +kernel
theorem dX9_init_152 : decode cX9_init 152 = .ok (.iconst 2, 1) := by decide +kernel
theorem dX9_init_153 : decode cX9_init 153 = .ok (.idiv, 1) := by decide +kernel
theorem dX9_init_154 : decode cX9_init 154 = .ok (.invokestatic 54, 3) := by decide +kernel
theorem dX9_init_157 : decode cX9_init 157 = .ok (.istore_n 2, 1) := by decide +kernel
theorem dX9_init_158 : decode cX9_init 158 = .ok (.aload_n 0, 1) := by decide +kernel
theorem dX9_init_159 : decode cX9_init 159 = .ok (.getfield 23, 3) := by decide +kernel
theorem dX9_init_162 : decode cX9_init 162 = .ok (.iload_n 1, 1) := by decide +kernel
theorem dX9_init_163 : decode cX9_init 163 = .ok (.iload_n 1, 1) := by decide +kernel
theorem dX9_init_164 : decode cX9_init 164 = .ok (.iconst 2, 1) := by decide +kernel
theorem dX9_init_165 : decode cX9_init 165 = .ok (.irem, 1) := by decide +kernel
theorem dX9_init_166 : decode cX9_init 166 = .ok (.ifCond .ne 7, 3) := by decide +kernel
theorem dX9_init_169 : decode cX9_init 169 = .ok (.iload_n 2, 1) := by decide +kernel
theorem dX9_init_170 : decode cX9_init 170 = .ok (.goto 6, 3) := by decide +kernel
theorem dX9_init_173 : decode cX9_init 173 = .ok (.iconst 0, 1) := by decide +kernel
theorem dX9_init_174 : decode cX9_init 174 = .ok (.iload_n 2, 1) := by decide +kernel
theorem dX9_init_175 : decode cX9_init 175 = .ok (.isub, 1) := by decide +kernel
theorem dX9_init_176 : decode cX9_init 176 = .ok (.iastore, 1) := by decide +kernel
theorem dX9_init_177 : decode cX9_init 177 = .ok (.iinc 1 1, 3) := by decide +kernel
theorem dX9_init_180 : decode cX9_init 180 = .ok (.goto (-43), 3) := by decide +kernel
theorem dX9_init_183 : decode cX9_init 183 = .ok (.return_, 1) := by decide +kernel
theorem dX9_in_0 : decode cX9_in 0 = .ok (.lload_n 0, 1) := by decide +kernel
theorem dX9_in_1 : decode cX9_in 1 = .ok (.lload_n 2, 1) := by decide +kernel
theorem dX9_in_2 : decode cX9_in 2 = .ok (.lcmp, 1) := by decide +kernel
theorem dX9_in_3 : decode cX9_in 3 = .ok (.ifCond .lt 14, 3) := by decide +kernel
theorem dX9_in_6 : decode cX9_in 6 = .ok (.lload_n 0, 1) := by decide +kernel
theorem dX9_in_7 : decode cX9_in 7 = .ok (.lload 4, 2) := by decide +kernel
theorem dX9_in_9 : decode cX9_in 9 = .ok (.lcmp, 1) := by decide +kernel
theorem dX9_in_10 : decode cX9_in 10 = .ok (.ifCond .gt 7, 3) := by decide +kernel
theorem dX9_in_13 : decode cX9_in 13 = .ok (.iconst 1, 1) := by decide +kernel
theorem dX9_in_14 : decode cX9_in 14 = .ok (.goto 4, 3) := by decide +kernel
theorem dX9_in_17 : decode cX9_in 17 = .ok (.iconst 0, 1) := by decide +kernel
theorem dX9_in_18 : decode cX9_in 18 = .ok (.ireturn, 1) := by decide +kernel
theorem dX9_copy_0 : decode cX9_copy 0 = .ok (.iconst 0, 1) := by decide +kernel
theorem dX9_copy_1 : decode cX9_copy 1 = .ok (.istore_n 2, 1) := by decide +kernel
theorem dX9_copy_2 : decode cX9_copy 2 = .ok (.iload_n 2, 1) := by decide +kernel
theorem dX9_copy_3 : decode cX9_copy 3 = .ok (.aload_n 0, 1) := by decide +kernel
theorem dX9_copy_4 : decode cX9_copy 4 = .ok (.arraylength, 1) := by decide +kernel
theorem dX9_copy_5 : decode cX9_copy 5 = .ok (.if_icmp .ge 15, 3) := by decide +kernel
theorem dX9_copy_8 : decode cX9_copy 8 = .ok (.aload_n 1, 1) := by decide +kernel
theorem dX9_copy_9 : decode cX9_copy 9 = .ok (.iload_n 2, 1) := by decide +kernel
theorem dX9_copy_10 : decode cX9_copy 10 = .ok (.aload_n 0, 1) := by decide +kernel
theorem dX9_copy_11 : decode cX9_copy 11 = .ok (.iload_n 2, 1) := by decide +kernel
theorem dX9_copy_12 : decode cX9_copy 12 = .ok (.iaload, 1) := by decide +kernel
theorem dX9_copy_13 : decode cX9_copy 13 = .ok (.iastore, 1) := by decide +kernel
theorem dX9_copy_14 : decode cX9_copy 14 = .ok (.iinc 2 1, 3) := by decide +kernel
theorem dX9_copy_17 : decode cX9_copy 17 = .ok (.goto (-15), 3) := by decide +kernel
theorem dX9_copy_20 : decode cX9_copy 20 = .ok (.return_, 1) := by decide +kernel
theorem dX9_letter_0 : decode cX9_letter 0 = .ok (.iload_n 1, 1) := by decide +kernel
theorem dX9_letter_1 : decode cX9_letter 1 = .ok (.i2l, 1) := by decide +kernel
theorem dX9_letter_2 : decode cX9_letter 2 = .ok (.lconst 1, 1) := by decide +kernel
theorem dX9_letter_3 : decode cX9_letter 3 = .ok (.ldc2_w 58, 3) := by decide +kernel
theorem dX9_letter_6 : decode cX9_letter 6 = .ok (.invokestatic 60, 3) := by decide +kernel
theorem dX9_letter_9 : decode cX9_letter 9 = .ok (.ifCond .ne 6, 3) := by decide +kernel
theorem dX9_letter_12 : decode cX9_letter 12 = .ok (.bipush (-102), 2) := by decide +kernel
theorem dX9_letter_14 : decode cX9_letter 14 = .ok (.ireturn, 1) := by decide +kernel
theorem dX9_letter_15 : decode cX9_letter 15 = .ok (.aload_n 0, 1) := by decide +kernel
theorem dX9_letter_16 : decode cX9_letter 16 = .ok (.getfield 64, 3) := by decide +kernel
theorem dX9_letter_19 : decode cX9_letter 19 = .ok (.bipush 36, 2) := by decide +kernel
theorem dX9_letter_21 : decode cX9_letter 21 = .ok (.if_icmp .ne 6, 3) := by decide +kernel
theorem dX9_letter_24 : decode cX9_letter 24 = .ok (.bipush (-104), 2) := by decide +kernel
theorem dX9_letter_26 : decode cX9_letter 26 = .ok (.ireturn, 1) := by decide +kernel
theorem dX9_letter_27 : decode cX9_letter 27 = .ok (.aload_n 0, 1) := by decide +kernel
theorem dX9_letter_28 : decode cX9_letter 28 = .ok (.getfield 7, 3) := by decide +kernel
theorem dX9_letter_31 : decode cX9_letter 31 = .ok (.aload_n 0, 1) := by decide +kernel
theorem dX9_letter_32 : decode cX9_letter 32 = .ok (.getfield 64, 3) := by decide +kernel
theorem dX9_letter_35 : decode cX9_letter 35 = .ok (.iload_n 1, 1) := by decide +kernel
theorem dX9_letter_36 : decode cX9_letter 36 = .ok (.iastore, 1) := by decide +kernel
theorem dX9_letter_37 : decode cX9_letter 37 = .ok (.aload_n 0, 1) := by decide +kernel
theorem dX9_letter_38 : decode cX9_letter 38 = .ok (.dup, 1) := by decide +kernel
theorem dX9_letter_39 : decode cX9_letter 39 = .ok (.getfield 64, 3) := by decide +kernel
theorem dX9_letter_42 : decode cX9_letter 42 = .ok (.iconst 1, 1) := by decide +kernel
theorem dX9_letter_43 : decode cX9_letter 43 = .ok (.iadd, 1) := by decide +kernel
theorem dX9_letter_44 : decode cX9_letter 44 = .ok (.putfield 64, 3) := by decide +kernel
theorem dX9_letter_47 : decode cX9_letter 47 = .ok (.aload_n 0, 1) := by decide +kernel
theorem dX9_letter_48 : decode cX9_letter 48 = .ok (.getfield 64, 3) := by decide +kernel
theorem dX9_letter_51 : decode cX9_letter 51 = .ok (.ireturn, 1) := by decide +kernel
theorem dX9_blank_0 : decode cX9_blank 0 = .ok (.aload_n 0, 1) := by decide +kernel
theorem dX9_blank_1 : decode cX9_blank 1 = .ok (.getfield 64, 3) := by decide +kernel
theorem dX9_blank_4 : decode cX9_blank 4 = .ok (.istore_n 1, 1) := by decide +kernel
theorem dX9_blank_5 : decode cX9_blank 5 = .ok (.aload_n 0, 1) := by decide +kernel
theorem dX9_blank_6 : decode cX9_blank 6 = .ok (.iconst 0, 1) := by decide +kernel
theorem dX9_blank_7 : decode cX9_blank 7 = .ok (.putfield 64, 3) := by decide +kernel
theorem dX9_blank_10 : decode cX9_blank 10 = .ok (.iload_n 1, 1) := by decide +kernel
theorem dX9_blank_11 : decode cX9_blank 11 = .ok (.ireturn, 1) := by decide +kernel
theorem dX9_kindBy_0 : decode cX9_kindBy 0 = .ok (.iload_n 0, 1) := by decide +kernel
theorem dX9_kindBy_1 : decode cX9_kindBy 1 = .ok (.lookupswitch 61 #[(97, 57), (102, 55), (115, 53), (116, 51), (119, 59)], 51) := by decide +kernel
theorem dX9_kindBy_52 : decode cX9_kindBy 52 = .ok (.iconst 0, 1) := by decide +kernel
theorem dX9_kindBy_53 : decode cX9_kindBy 53 = .ok (.ireturn, 1) := by decide +kernel
theorem dX9_kindBy_54 : decode cX9_kindBy 54 = .ok (.iconst 1, 1) := by decide +kernel
theorem dX9_kindBy_55 : decode cX9_kindBy 55 = .ok (.ireturn, 1) := by decide +kernel
theorem dX9_kindBy_56 : decode cX9_kindBy 56 = .ok (.iconst 2, 1) := by decide +kernel
theorem dX9_kindBy_57 : decode cX9_kindBy 57 = .ok (.ireturn, 1) := by decide +kernel
theorem dX9_kindBy_58 : decode cX9_kindBy 58 = .ok (.iconst 3, 1) := by decide +kernel
theorem dX9_kindBy_59 : decode cX9_kindBy 59 = .ok (.ireturn, 1) := by decide +kernel
theorem dX9_kindBy_60 : decode cX9_kindBy 60 = .ok (.iconst 4, 1) := by decide +kernel
theorem dX9_kindBy_61 : decode cX9_kindBy 61 = .ok (.ireturn, 1) := by decide +kernel
theorem dX9_kindBy_62 : decode cX9_kindBy 62 = .ok (.iconst (-1), 1) := by decide +kernel
theorem dX9_kindBy_63 : decode cX9_kindBy 63 = .ok (.ireturn, 1) := by decide +kernel
theorem dX9_longOf_0 : decode cX9_longOf 0 = .ok (.iload_n 0, 1) := by decide +kernel
theorem dX9_longOf_1 : decode cX9_longOf 1 = .ok (.ifCond .eq 8, 3) := by decide +kernel
theorem dX9_longOf_4 : decode cX9_longOf 4 = .ok (.iload_n 0, 1) := by decide +kernel
theorem dX9_longOf_5 : decode cX9_longOf 5 = .ok (.iconst 1, 1) := by decide +kernel
theorem dX9_longOf_6 : decode cX9_longOf 6 = .ok (.if_icmp .ne 7, 3) := by decide +kernel
theorem dX9_longOf_9 : decode cX9_longOf 9 = .ok (.iconst 5, 1) := by decide +kernel
theorem dX9_longOf_10 : decode cX9_longOf 10 = .ok (.goto 13, 3) := by decide +kernel
theorem dX9_longOf_13 : decode cX9_longOf 13 = .ok (.iload_n 0, 1) := by decide +kernel
theorem dX9_longOf_14 : decode cX9_longOf 14 = .ok (.iconst 3, 1) := by decide +kernel
theorem dX9_longOf_15 : decode cX9_longOf 15 = .ok (.if_icmp .ne 7, 3) := by decide +kernel
theorem dX9_longOf_18 : decode cX9_longOf 18 = .ok (.iconst 4, 1) := by decide +kernel
theorem dX9_longOf_19 : decode cX9_longOf 19 = .ok (.goto 4, 3) := by decide +kernel
theorem dX9_longOf_22 : decode cX9_longOf 22 = .ok (.iconst 2, 1) := by decide +kernel
theorem dX9_longOf_23 : decode cX9_longOf 23 = .ok (.ireturn, 1) := by decide +kernel
theorem dX9_isBegun_0 : decode cX9_isBegun 0 = .ok (.aload_n 0, 1) := by decide +kernel
theorem dX9_isBegun_1 : decode cX9_isBegun 1 = .ok (.iload_n 1, 1) := by decide +kernel
theorem dX9_isBegun_2 : decode cX9_isBegun 2 = .ok (.invokestatic 67, 3) := by decide +kernel
theorem dX9_isBegun_5 : decode cX9_isBegun 5 = .ok (.putfield 71, 3) := by decide +kernel
theorem dX9_isBegun_8 : decode cX9_isBegun 8 = .ok (.aload_n 0, 1) := by decide +kernel
theorem dX9_isBegun_9 : decode cX9_isBegun 9 = .ok (.iconst 1, 1) := by decide +kernel
theorem dX9_isBegun_10 : decode cX9_isBegun 10 = .ok (.putfield 74, 3) := by decide +kernel
theorem dX9_isBegun_13 : decode cX9_isBegun 13 = .ok (.iconst 4, 1) := by decide +kernel
theorem dX9_isBegun_14 : decode cX9_isBegun 14 = .ok (.aload_n 0, 1) := by decide +kernel
theorem dX9_isBegun_15 : decode cX9_isBegun 15 = .ok (.getfield 77, 3) := by decide +kernel
theorem dX9_isBegun_18 : decode cX9_isBegun 18 = .ok (.imul, 1) := by decide +kernel
theorem dX9_isBegun_19 : decode cX9_isBegun 19 = .ok (.istore_n 2, 1) := by decide +kernel
theorem dX9_isBegun_20 : decode cX9_isBegun 20 = .ok (.aload_n 0, 1) := by decide +kernel
theorem dX9_isBegun_21 : decode cX9_isBegun 21 = .ok (.getfield 13, 3) := by decide +kernel
theorem dX9_isBegun_24 : decode cX9_isBegun 24 = .ok (.iload_n 2, 1) := by decide +kernel
theorem dX9_isBegun_25 : decode cX9_isBegun 25 = .ok (.aload_n 0, 1) := by decide +kernel
theorem dX9_isBegun_26 : decode cX9_isBegun 26 = .ok (.getfield 71, 3) := by decide +kernel
theorem dX9_isBegun_29 : decode cX9_isBegun 29 = .ok (.iastore, 1) := by decide +kernel
theorem dX9_isBegun_30 : decode cX9_isBegun 30 = .ok (.aload_n 0, 1) := by decide +kernel
theorem dX9_isBegun_31 : decode cX9_isBegun 31 = .ok (.getfield 13, 3) := by decide +kernel
theorem dX9_isBegun_34 : decode cX9_isBegun 34 = .ok (.iload_n 2, 1) := by decide +kernel
theorem dX9_isBegun_35 : decode cX9_isBegun 35 = .ok (.iconst 1, 1) := by decide +kernel
theorem dX9_isBegun_36 : decode cX9_isBegun 36 = .ok (.iadd, 1) := by decide +kernel
theorem dX9_isBegun_37 : decode cX9_isBegun 37 = .ok (.iconst (-1), 1) := by decide +kernel
theorem dX9_isBegun_38 : decode cX9_isBegun 38 = .ok (.iastore, 1) := by decide +kernel
theorem dX9_isBegun_39 : decode cX9_isBegun 39 = .ok (.aload_n 0, 1) := by decide +kernel
theorem dX9_isBegun_40 : decode cX9_isBegun 40 = .ok (.getfield 13, 3) := by decide +kernel
theorem dX9_isBegun_43 : decode cX9_isBegun 43 = .ok (.iload_n 2, 1) := by decide +kernel
theorem dX9_isBegun_44 : decode cX9_isBegun 44 = .ok (.iconst 2, 1) := by decide +kernel
theorem dX9_isBegun_45 : decode cX9_isBegun 45 = .ok (.iadd, 1) := by decide +kernel
theorem dX9_isBegun_46 : decode cX9_isBegun 46 = .ok (.iconst (-1), 1) := by decide +kernel
theorem dX9_isBegun_47 : decode cX9_isBegun 47 = .ok (.iastore, 1) := by decide +kernel
theorem dX9_isBegun_48 : decode cX9_isBegun 48 = .ok (.aload_n 0, 1) := by decide +kernel
theorem dX9_isBegun_49 : decode cX9_isBegun 49 = .ok (.getfield 13, 3) := by decide +kernel
theorem dX9_isBegun_52 : decode cX9_isBegun 52 = .ok (.iload_n 2, 1) := by decide +kernel
theorem dX9_isBegun_53 : decode cX9_isBegun 53 = .ok (.iconst 3, 1) := by decide +kernel
theorem dX9_isBegun_54 : decode cX9_isBegun 54 = .ok (.iadd, 1) := by decide +kernel
theorem dX9_isBegun_55 : decode cX9_isBegun 55 = .ok (.iconst (-1), 1) := by decide +kernel
theorem dX9_isBegun_56 : decode cX9_isBegun 56 = .ok (.iastore, 1) := by decide +kernel
theorem dX9_isBegun_57 : decode cX9_isBegun 57 = .ok (.aload_n 0, 1) := by decide +kernel
theorem dX9_isBegun_58 : decode cX9_isBegun 58 = .ok (.getfield 71, 3) := by decide +kernel
theorem dX9_isBegun_61 : decode cX9_isBegun 61 = .ok (.iconst (-1), 1) := by decide +kernel
theorem dX9_isBegun_62 : decode cX9_isBegun 62 = .ok (.if_icmp .eq 26, 3) := by decide +kernel
theorem dX9_isBegun_65 : decode cX9_isBegun 65 = .ok (.aload_n 0, 1) := by decide +kernel
theorem dX9_isBegun_66 : decode cX9_isBegun 66 = .ok (.getfield 71, 3) := by decide +kernel
theorem dX9_isBegun_69 : decode cX9_isBegun 69 = .ok (.iconst 4, 1) := by decide +kernel
theorem dX9_isBegun_70 : decode cX9_isBegun 70 = .ok (.if_icmp .ne 14, 3) := by decide +kernel
theorem dX9_isBegun_73 : decode cX9_isBegun 73 = .ok (.aload_n 0, 1) := by decide +kernel
theorem dX9_isBegun_74 : decode cX9_isBegun 74 = .ok (.getfield 80, 3) := by decide +kernel
theorem dX9_isBegun_77 : decode cX9_isBegun 77 = .ok (.aload_n 0, 1) := by decide +kernel
theorem dX9_isBegun_78 : decode cX9_isBegun 78 = .ok (.getfield 77, 3) := by decide +kernel
theorem dX9_isBegun_81 : decode cX9_isBegun 81 = .ok (.if_icmp .ge 7, 3) := by decide +kernel
theorem dX9_isBegun_84 : decode cX9_isBegun 84 = .ok (.iconst 1, 1) := by decide +kernel
theorem dX9_isBegun_85 : decode cX9_isBegun 85 = .ok (.goto 4, 3) := by decide +kernel
theorem dX9_isBegun_88 : decode cX9_isBegun 88 = .ok (.iconst 0, 1) := by decide +kernel
theorem dX9_isBegun_89 : decode cX9_isBegun 89 = .ok (.ireturn, 1) := by decide +kernel
theorem dX9_endStep_0 : decode cX9_endStep 0 = .ok (.aload_n 0, 1) := by decide +kernel
theorem dX9_endStep_1 : decode cX9_endStep 1 = .ok (.getfield 74, 3) := by decide +kernel
theorem dX9_endStep_4 : decode cX9_endStep 4 = .ok (.aload_n 0, 1) := by decide +kernel
theorem dX9_endStep_5 : decode cX9_endStep 5 = .ok (.getfield 71, 3) := by decide +kernel
theorem dX9_endStep_8 : decode cX9_endStep 8 = .ok (.invokestatic 83, 3) := by decide +kernel
theorem dX9_endStep_11 : decode cX9_endStep 11 = .ok (.if_icmp .ne 38, 3) := by decide +kernel
theorem dX9_endStep_14 : decode cX9_endStep 14 = .ok (.aload_n 0, 1) := by decide +kernel
theorem dX9_endStep_15 : decode cX9_endStep 15 = .ok (.aload_n 0, 1) := by decide +kernel
theorem dX9_endStep_16 : decode cX9_endStep 16 = .ok (.getfield 71, 3) := by decide +kernel
theorem dX9_endStep_19 : decode cX9_endStep 19 = .ok (.iconst 4, 1) := by decide +kernel
theorem dX9_endStep_20 : decode cX9_endStep 20 = .ok (.if_icmp .ne 12, 3) := by decide +kernel
theorem dX9_endStep_23 : decode cX9_endStep 23 = .ok (.aload_n 0, 1) := by decide +kernel
theorem dX9_endStep_24 : decode cX9_endStep 24 = .ok (.getfield 77, 3) := by decide +kernel
theorem dX9_endStep_27 : decode cX9_endStep 27 = .ok (.iconst 1, 1) := by decide +kernel
theorem dX9_endStep_28 : decode cX9_endStep 28 = .ok (.iadd, 1) := by decide +kernel
theorem dX9_endStep_29 : decode cX9_endStep 29 = .ok (.goto 7, 3) := by decide +kernel
theorem dX9_endStep_32 : decode cX9_endStep 32 = .ok (.aload_n 0, 1) := by decide +kernel
theorem dX9_endStep_33 : decode cX9_endStep 33 = .ok (.getfield 80, 3) := by decide +kernel
theorem dX9_endStep_36 : decode cX9_endStep 36 = .ok (.putfield 80, 3) := by decide +kernel
theorem dX9_endStep_39 : decode cX9_endStep 39 = .ok (.aload_n 0, 1) := by decide +kernel
theorem dX9_endStep_40 : decode cX9_endStep 40 = .ok (.dup, 1) := by decide +kernel
theorem dX9_endStep_41 : decode cX9_endStep 41 = .ok (.getfield 77, 3) := by decide +kernel
theorem dX9_endStep_44 : decode cX9_endStep 44 = .ok (.iconst 1, 1) := by decide +kernel
theorem dX9_endStep_45 : decode cX9_endStep 45 = .ok (.iadd, 1) := by decide +kernel
theorem dX9_endStep_46 : decode cX9_endStep 46 = .ok (.putfield 77, 3) := by decide +kernel
theorem dX9_endStep_49 : decode cX9_endStep 49 = .ok (.return_, 1) := by decide +kernel
theorem dX9_isFirstDigit_0 : decode cX9_isFirstDigit 0 = .ok (.aload_n 0, 1) := by decide +kernel
theorem dX9_isFirstDigit_1 : decode cX9_isFirstDigit 1 = .ok (.getfield 13, 3) := by decide +kernel
theorem dX9_isFirstDigit_4 : decode cX9_isFirstDigit 4 = .ok (.iconst 4, 1) := by decide +kernel
theorem dX9_isFirstDigit_5 : decode cX9_isFirstDigit 5 = .ok (.aload_n 0, 1) := by decide +kernel
theorem dX9_isFirstDigit_6 : decode cX9_isFirstDigit 6 = .ok (.getfield 77, 3) := by decide +kernel
theorem dX9_isFirstDigit_9 : decode cX9_isFirstDigit 9 = .ok (.imul, 1) := by decide +kernel
theorem dX9_isFirstDigit_10 : decode cX9_isFirstDigit 10 = .ok (.iconst 1, 1) := by decide +kernel
theorem dX9_isFirstDigit_11 : decode cX9_isFirstDigit 11 = .ok (.iadd, 1) := by decide +kernel
theorem dX9_isFirstDigit_12 : decode cX9_isFirstDigit 12 = .ok (.iload_n 1, 1) := by decide +kernel
theorem dX9_isFirstDigit_13 : decode cX9_isFirstDigit 13 = .ok (.bipush 48, 2) := by decide +kernel
theorem dX9_isFirstDigit_15 : decode cX9_isFirstDigit 15 = .ok (.isub, 1) := by decide +kernel
theorem dX9_isFirstDigit_16 : decode cX9_isFirstDigit 16 = .ok (.iastore, 1) := by decide +kernel
theorem dX9_isFirstDigit_17 : decode cX9_isFirstDigit 17 = .ok (.aload_n 0, 1) := by decide +kernel
theorem dX9_isFirstDigit_18 : decode cX9_isFirstDigit 18 = .ok (.getfield 71, 3) := by decide +kernel
theorem dX9_isFirstDigit_21 : decode cX9_isFirstDigit 21 = .ok (.iconst 4, 1) := by decide +kernel
theorem dX9_isFirstDigit_22 : decode cX9_isFirstDigit 22 = .ok (.if_icmp .ne 29, 3) := by decide +kernel
theorem dX9_isFirstDigit_25 : decode cX9_isFirstDigit 25 = .ok (.iload_n 1, 1) := by decide +kernel
theorem dX9_isFirstDigit_26 : decode cX9_isFirstDigit 26 = .ok (.i2l, 1) := by decide +kernel
theorem dX9_isFirstDigit_27 : decode cX9_isFirstDigit 27 = .ok (.bipush 48, 2) := by decide +kernel
theorem dX9_isFirstDigit_29 : decode cX9_isFirstDigit 29 = .ok (.aload_n 0, 1) := by decide +kernel
theorem dX9_isFirstDigit_30 : decode cX9_isFirstDigit 30 = .ok (.getfield 80, 3) := by decide +kernel
theorem dX9_isFirstDigit_33 : decode cX9_isFirstDigit 33 = .ok (.iadd, 1) := by decide +kernel
theorem dX9_isFirstDigit_34 : decode cX9_isFirstDigit 34 = .ok (.i2l, 1) := by decide +kernel
theorem dX9_isFirstDigit_35 : decode cX9_isFirstDigit 35 = .ok (.bipush 48, 2) := by decide +kernel
theorem dX9_isFirstDigit_37 : decode cX9_isFirstDigit 37 = .ok (.aload_n 0, 1) := by decide +kernel
theorem dX9_isFirstDigit_38 : decode cX9_isFirstDigit 38 = .ok (.getfield 77, 3) := by decide +kernel
theorem dX9_isFirstDigit_41 : decode cX9_isFirstDigit 41 = .ok (.iadd, 1) := by decide +kernel
theorem dX9_isFirstDigit_42 : decode cX9_isFirstDigit 42 = .ok (.iconst 1, 1) := by decide +kernel
theorem dX9_isFirstDigit_43 : decode cX9_isFirstDigit 43 = .ok (.isub, 1) := by decide +kernel
theorem dX9_isFirstDigit_44 : decode cX9_isFirstDigit 44 = .ok (.i2l, 1) := by decide +kernel
theorem dX9_isFirstDigit_45 : decode cX9_isFirstDigit 45 = .ok (.invokestatic 60, 3) := by decide +kernel
theorem dX9_isFirstDigit_48 : decode cX9_isFirstDigit 48 = .ok (.goto 27, 3) := by decide +kernel
theorem dX9_isFirstDigit_51 : decode cX9_isFirstDigit 51 = .ok (.iload_n 1, 1) := by decide +kernel
theorem dX9_isFirstDigit_52 : decode cX9_isFirstDigit 52 = .ok (.i2l, 1) := by decide +kernel
theorem dX9_isFirstDigit_53 : decode cX9_isFirstDigit 53 = .ok (.ldc2_w 86, 3) := by decide +kernel
theorem dX9_isFirstDigit_56 : decode cX9_isFirstDigit 56 = .ok (.aload_n 0, 1) := by decide +kernel
theorem dX9_isFirstDigit_57 : decode cX9_isFirstDigit 57 = .ok (.getfield 71, 3) := by decide +kernel
theorem dX9_isFirstDigit_60 : decode cX9_isFirstDigit 60 = .ok (.ifCond .ne 9, 3) := by decide +kernel
theorem dX9_isFirstDigit_63 : decode cX9_isFirstDigit 63 = .ok (.ldc2_w 88, 3) := by decide +kernel
theorem dX9_isFirstDigit_66 : decode cX9_isFirstDigit 66 = .ok (.goto 6, 3) := by decide +kernel
theorem dX9_isFirstDigit_69 : decode cX9_isFirstDigit 69 = .ok (.ldc2_w 90, 3) := by decide +kernel
theorem dX9_isFirstDigit_72 : decode cX9_isFirstDigit 72 = .ok (.invokestatic 60, 3) := by decide +kernel
theorem dX9_isFirstDigit_75 : decode cX9_isFirstDigit 75 = .ok (.ireturn, 1) := by decide +kernel
theorem dX9_isSecondDigit_0 : decode cX9_isSecondDigit 0 = .ok (.aload_n 0, 1) := by decide +kernel
theorem dX9_isSecondDigit_1 : decode cX9_isSecondDigit 1 = .ok (.getfield 13, 3) := by decide +kernel
theorem dX9_isSecondDigit_4 : decode cX9_isSecondDigit 4 = .ok (.iconst 4, 1) := by decide +kernel
theorem dX9_isSecondDigit_5 : decode cX9_isSecondDigit 5 = .ok (.aload_n 0, 1) := by decide +kernel
theorem dX9_isSecondDigit_6 : decode cX9_isSecondDigit 6 = .ok (.getfield 77, 3) := by decide +kernel
theorem dX9_isSecondDigit_9 : decode cX9_isSecondDigit 9 = .ok (.imul, 1) := by decide +kernel
theorem dX9_isSecondDigit_10 : decode cX9_isSecondDigit 10 = .ok (.iconst 2, 1) := by decide +kernel
theorem dX9_isSecondDigit_11 : decode cX9_isSecondDigit 11 = .ok (.iadd, 1) := by decide +kernel
theorem dX9_isSecondDigit_12 : decode cX9_isSecondDigit 12 = .ok (.iload_n 1, 1) := by decide +kernel
theorem dX9_isSecondDigit_13 : decode cX9_isSecondDigit 13 = .ok (.bipush 48, 2) := by decide +kernel
theorem dX9_isSecondDigit_15 : decode cX9_isSecondDigit 15 = .ok (.isub, 1) := by decide +kernel
theorem dX9_isSecondDigit_16 : decode cX9_isSecondDigit 16 = .ok (.iastore, 1) := by decide +kernel
theorem dX9_isSecondDigit_17 : decode cX9_isSecondDigit 17 = .ok (.iload_n 1, 1) := by decide +kernel
theorem dX9_isSecondDigit_18 : decode cX9_isSecondDigit 18 = .ok (.i2l, 1) := by decide +kernel
theorem dX9_isSecondDigit_19 : decode cX9_isSecondDigit 19 = .ok (.ldc2_w 86, 3) := by decide +kernel
theorem dX9_isSecondDigit_22 : decode cX9_isSecondDigit 22 = .ok (.ldc2_w 88, 3) := by decide +kernel
theorem dX9_isSecondDigit_25 : decode cX9_isSecondDigit 25 = .ok (.invokestatic 60, 3) := by decide +kernel
theorem dX9_isSecondDigit_28 : decode cX9_isSecondDigit 28 = .ok (.ireturn, 1) := by decide +kernel
theorem dX9_isSign_0 : decode cX9_isSign 0 = .ok (.aload_n 0, 1) := by decide +kernel
theorem dX9_isSign_1 : decode cX9_isSign 1 = .ok (.iload_n 1, 1) := by decide +kernel
theorem dX9_isSign_2 : decode cX9_isSign 2 = .ok (.bipush 45, 2) := by decide +kernel
theorem dX9_isSign_4 : decode cX9_isSign 4 = .ok (.if_icmp .ne 7, 3) := by decide +kernel
theorem dX9_isSign_7 : decode cX9_isSign 7 = .ok (.iconst (-1), 1) := by decide +kernel
theorem dX9_isSign_8 : decode cX9_isSign 8 = .ok (.goto 4, 3) := by decide +kernel
theorem dX9_isSign_11 : decode cX9_isSign 11 = .ok (.iconst 1, 1) := by decide +kernel
theorem dX9_isSign_12 : decode cX9_isSign 12 = .ok (.putfield 92, 3) := by decide +kernel
theorem dX9_isSign_15 : decode cX9_isSign 15 = .ok (.iload_n 1, 1) := by decide +kernel
theorem dX9_isSign_16 : decode cX9_isSign 16 = .ok (.bipush 43, 2) := by decide +kernel
theorem dX9_isSign_18 : decode cX9_isSign 18 = .ok (.if_icmp .eq 9, 3) := by decide +kernel
theorem dX9_isSign_21 : decode cX9_isSign 21 = .ok (.iload_n 1, 1) := by decide +kernel
theorem dX9_isSign_22 : decode cX9_isSign 22 = .ok (.bipush 45, 2) := by decide +kernel
theorem dX9_isSign_24 : decode cX9_isSign 24 = .ok (.if_icmp .ne 7, 3) := by decide +kernel
theorem dX9_isSign_27 : decode cX9_isSign 27 = .ok (.iconst 1, 1) := by decide +kernel
theorem dX9_isSign_28 : decode cX9_isSign 28 = .ok (.goto 4, 3) := by decide +kernel
theorem dX9_isSign_31 : decode cX9_isSign 31 = .ok (.iconst 0, 1) := by decide +kernel
theorem dX9_isSign_32 : decode cX9_isSign 32 = .ok (.ireturn, 1) := by decide +kernel
theorem dX9_isLastDigit_0 : decode cX9_isLastDigit 0 = .ok (.aload_n 0, 1) := by decide +kernel
theorem dX9_isLastDigit_1 : decode cX9_isLastDigit 1 = .ok (.getfield 13, 3) := by decide +kernel
theorem dX9_isLastDigit_4 : decode cX9_isLastDigit 4 = .ok (.iconst 4, 1) := by decide +kernel
theorem dX9_isLastDigit_5 : decode cX9_isLastDigit 5 = .ok (.aload_n 0, 1) := by decide +kernel
theorem dX9_isLastDigit_6 : decode cX9_isLastDigit 6 = .ok (.getfield 77, 3) := by decide +kernel
theorem dX9_isLastDigit_9 : decode cX9_isLastDigit 9 = .ok (.imul, 1) := by decide +kernel
theorem dX9_isLastDigit_10 : decode cX9_isLastDigit 10 = .ok (.iconst 3, 1) := by decide +kernel
theorem dX9_isLastDigit_11 : decode cX9_isLastDigit 11 = .ok (.iadd, 1) := by decide +kernel
theorem dX9_isLastDigit_12 : decode cX9_isLastDigit 12 = .ok (.aload_n 0, 1) := by decide +kernel
theorem dX9_isLastDigit_13 : decode cX9_isLastDigit 13 = .ok (.getfield 92, 3) := by decide +kernel
theorem dX9_isLastDigit_16 : decode cX9_isLastDigit 16 = .ok (.iload_n 1, 1) := by decide +kernel
theorem dX9_isLastDigit_17 : decode cX9_isLastDigit 17 = .ok (.bipush 48, 2) := by decide +kernel
theorem dX9_isLastDigit_19 : decode cX9_isLastDigit 19 = .ok (.isub, 1) := by decide +kernel
theorem dX9_isLastDigit_20 : decode cX9_isLastDigit 20 = .ok (.imul, 1) := by decide +kernel
theorem dX9_isLastDigit_21 : decode cX9_isLastDigit 21 = .ok (.bipush 100, 2) := by decide +kernel
theorem dX9_isLastDigit_23 : decode cX9_isLastDigit 23 = .ok (.iadd, 1) := by decide +kernel
theorem dX9_isLastDigit_24 : decode cX9_isLastDigit 24 = .ok (.iastore, 1) := by decide +kernel
theorem dX9_isLastDigit_25 : decode cX9_isLastDigit 25 = .ok (.iload_n 1, 1) := by decide +kernel
theorem dX9_isLastDigit_26 : decode cX9_isLastDigit 26 = .ok (.i2l, 1) := by decide +kernel
theorem dX9_isLastDigit_27 : decode cX9_isLastDigit 27 = .ok (.ldc2_w 86, 3) := by decide +kernel
theorem dX9_isLastDigit_30 : decode cX9_isLastDigit 30 = .ok (.ldc2_w 95, 3) := by decide +kernel
theorem dX9_isLastDigit_33 : decode cX9_isLastDigit 33 = .ok (.invokestatic 60, 3) := by decide +kernel
theorem dX9_isLastDigit_36 : decode cX9_isLastDigit 36 = .ok (.ireturn, 1) := by decide +kernel
theorem dX9_isInside_0 : decode cX9_isInside 0 = .ok (.aload_n 0, 1) := by decide +kernel
theorem dX9_isInside_1 : decode cX9_isInside 1 = .ok (.getfield 74, 3) := by decide +kernel
theorem dX9_isInside_4 : decode cX9_isInside 4 = .ok (.aload_n 0, 1) := by decide +kernel
theorem dX9_isInside_5 : decode cX9_isInside 5 = .ok (.getfield 71, 3) := by decide +kernel
theorem dX9_isInside_8 : decode cX9_isInside 8 = .ok (.iconst 3, 1) := by decide +kernel
theorem dX9_isInside_9 : decode cX9_isInside 9 = .ok (.if_icmp .ne 15, 3) := by decide +kernel
theorem dX9_isInside_12 : decode cX9_isInside 12 = .ok (.aload_n 0, 1) := by decide +kernel
theorem dX9_isInside_13 : decode cX9_isInside 13 = .ok (.getfield 74, 3) := by decide +kernel
theorem dX9_isInside_16 : decode cX9_isInside 16 = .ok (.iconst 1, 1) := by decide +kernel
theorem dX9_isInside_17 : decode cX9_isInside 17 = .ok (.if_icmp .le 7, 3) := by decide +kernel
theorem dX9_isInside_20 : decode cX9_isInside 20 = .ok (.iconst 1, 1) := by decide +kernel
theorem dX9_isInside_21 : decode cX9_isInside 21 = .ok (.goto 4, 3) := by decide +kernel
theorem dX9_isInside_24 : decode cX9_isInside 24 = .ok (.iconst 0, 1) := by decide +kernel
theorem dX9_isInside_25 : decode cX9_isInside 25 = .ok (.iadd, 1) := by decide +kernel
theorem dX9_isInside_26 : decode cX9_isInside 26 = .ok (.istore_n 2, 1) := by decide +kernel
theorem dX9_isInside_27 : decode cX9_isInside 27 = .ok (.iload_n 2, 1) := by decide +kernel
theorem dX9_isInside_28 : decode cX9_isInside 28 = .ok (.iconst 1, 1) := by decide +kernel
theorem dX9_isInside_29 : decode cX9_isInside 29 = .ok (.if_icmp .ne 11, 3) := by decide +kernel
theorem dX9_isInside_32 : decode cX9_isInside 32 = .ok (.aload_n 0, 1) := by decide +kernel
theorem dX9_isInside_33 : decode cX9_isInside 33 = .ok (.iload_n 1, 1) := by decide +kernel
theorem dX9_isInside_34 : decode cX9_isInside 34 = .ok (.invokevirtual 97, 3) := by decide +kernel
theorem dX9_isInside_37 : decode cX9_isInside 37 = .ok (.goto 34, 3) := by decide +kernel
theorem dX9_isInside_40 : decode cX9_isInside 40 = .ok (.iload_n 2, 1) := by decide +kernel
theorem dX9_isInside_41 : decode cX9_isInside 41 = .ok (.iconst 2, 1) := by decide +kernel
theorem dX9_isInside_42 : decode cX9_isInside 42 = .ok (.if_icmp .ne 11, 3) := by decide +kernel
theorem dX9_isInside_45 : decode cX9_isInside 45 = .ok (.aload_n 0, 1) := by decide +kernel
theorem dX9_isInside_46 : decode cX9_isInside 46 = .ok (.iload_n 1, 1) := by decide +kernel
theorem dX9_isInside_47 : decode cX9_isInside 47 = .ok (.invokevirtual 101, 3) := by decide +kernel
theorem dX9_isInside_50 : decode cX9_isInside 50 = .ok (.goto 21, 3) := by decide +kernel
theorem dX9_isInside_53 : decode cX9_isInside 53 = .ok (.iload_n 2, 1) := by decide +kernel
theorem dX9_isInside_54 : decode cX9_isInside 54 = .ok (.iconst 3, 1) := by decide +kernel
theorem dX9_isInside_55 : decode cX9_isInside 55 = .ok (.if_icmp .ne 11, 3) := by decide +kernel
theorem dX9_isInside_58 : decode cX9_isInside 58 = .ok (.aload_n 0, 1) := by decide +kernel
theorem dX9_isInside_59 : decode cX9_isInside 59 = .ok (.iload_n 1, 1) := by decide +kernel
theorem dX9_isInside_60 : decode cX9_isInside 60 = .ok (.invokevirtual 104, 3) := by decide +kernel
theorem dX9_isInside_63 : decode cX9_isInside 63 = .ok (.goto 8, 3) := by decide +kernel
theorem dX9_isInside_66 : decode cX9_isInside 66 = .ok (.aload_n 0, 1) := by decide +kernel
theorem dX9_isInside_67 : decode cX9_isInside 67 = .ok (.iload_n 1, 1) := by decide +kernel
theorem dX9_isInside_68 : decode cX9_isInside 68 = .ok (.invokevirtual 107, 3) := by decide +kernel
theorem dX9_isInside_71 : decode cX9_isInside 71 = .ok (.istore_n 3, 1) := by decide +kernel
theorem dX9_isInside_72 : decode cX9_isInside 72 = .ok (.aload_n 0, 1) := by decide +kernel
theorem dX9_isInside_73 : decode cX9_isInside 73 = .ok (.dup, 1) := by decide +kernel
theorem dX9_isInside_74 : decode cX9_isInside 74 = .ok (.getfield 74, 3) := by decide +kernel
theorem dX9_isInside_77 : decode cX9_isInside 77 = .ok (.iconst 1, 1) := by decide +kernel
theorem dX9_isInside_78 : decode cX9_isInside 78 = .ok (.iadd, 1) := by decide +kernel
theorem dX9_isInside_79 : decode cX9_isInside 79 = .ok (.putfield 74, 3) := by decide +kernel
theorem dX9_isInside_82 : decode cX9_isInside 82 = .ok (.iload_n 3, 1) := by decide +kernel
theorem dX9_isInside_83 : decode cX9_isInside 83 = .ok (.ifCond .eq 7, 3) := by decide +kernel
theorem dX9_isInside_86 : decode cX9_isInside 86 = .ok (.aload_n 0, 1) := by decide +kernel
theorem dX9_isInside_87 : decode cX9_isInside 87 = .ok (.invokevirtual 110, 3) := by decide +kernel
theorem dX9_isInside_90 : decode cX9_isInside 90 = .ok (.iload_n 3, 1) := by decide +kernel
theorem dX9_isInside_91 : decode cX9_isInside 91 = .ok (.ireturn, 1) := by decide +kernel
theorem dX9_isGood_0 : decode cX9_isGood 0 = .ok (.aload_n 0, 1) := by decide +kernel
theorem dX9_isGood_1 : decode cX9_isGood 1 = .ok (.getfield 74, 3) := by decide +kernel
theorem dX9_isGood_4 : decode cX9_isGood 4 = .ok (.ifCond .ne 9, 3) := by decide +kernel
theorem dX9_isGood_7 : decode cX9_isGood 7 = .ok (.aload_n 0, 1) := by decide +kernel
theorem dX9_isGood_8 : decode cX9_isGood 8 = .ok (.iload_n 1, 1) := by decide +kernel
theorem dX9_isGood_9 : decode cX9_isGood 9 = .ok (.invokevirtual 113, 3) := by decide +kernel
theorem dX9_isGood_12 : decode cX9_isGood 12 = .ok (.ireturn, 1) := by decide +kernel
theorem dX9_isGood_13 : decode cX9_isGood 13 = .ok (.aload_n 0, 1) := by decide +kernel
theorem dX9_isGood_14 : decode cX9_isGood 14 = .ok (.getfield 74, 3) := by decide +kernel
theorem dX9_isGood_17 : decode cX9_isGood 17 = .ok (.aload_n 0, 1) := by decide +kernel
theorem dX9_isGood_18 : decode cX9_isGood 18 = .ok (.getfield 71, 3) := by decide +kernel
theorem dX9_isGood_21 : decode cX9_isGood 21 = .ok (.invokestatic 83, 3) := by decide +kernel
theorem dX9_isGood_24 : decode cX9_isGood 24 = .ok (.if_icmp .ge 9, 3) := by decide +kernel
theorem dX9_isGood_27 : decode cX9_isGood 27 = .ok (.aload_n 0, 1) := by decide +kernel
theorem dX9_isGood_28 : decode cX9_isGood 28 = .ok (.iload_n 1, 1) := by decide +kernel
theorem dX9_isGood_29 : decode cX9_isGood 29 = .ok (.invokevirtual 116, 3) := by decide +kernel
theorem dX9_isGood_32 : decode cX9_isGood 32 = .ok (.ireturn, 1) := by decide +kernel
theorem dX9_isGood_33 : decode cX9_isGood 33 = .ok (.aload_n 0, 1) := by decide +kernel
theorem dX9_isGood_34 : decode cX9_isGood 34 = .ok (.iconst 0, 1) := by decide +kernel
theorem dX9_isGood_35 : decode cX9_isGood 35 = .ok (.putfield 74, 3) := by decide +kernel
theorem dX9_isGood_38 : decode cX9_isGood 38 = .ok (.iload_n 1, 1) := by decide +kernel
theorem dX9_isGood_39 : decode cX9_isGood 39 = .ok (.bipush 44, 2) := by decide +kernel
theorem dX9_isGood_41 : decode cX9_isGood 41 = .ok (.if_icmp .ne 16, 3) := by decide +kernel
theorem dX9_isGood_44 : decode cX9_isGood 44 = .ok (.aload_n 0, 1) := by decide +kernel
theorem dX9_isGood_45 : decode cX9_isGood 45 = .ok (.getfield 77, 3) := by decide +kernel
theorem dX9_isGood_48 : decode cX9_isGood 48 = .ok (.bipush 6, 2) := by decide +kernel
theorem dX9_isGood_50 : decode cX9_isGood 50 = .ok (.if_icmp .ge 7, 3) := by decide +kernel
theorem dX9_isGood_53 : decode cX9_isGood 53 = .ok (.iconst 1, 1) := by decide +kernel
theorem dX9_isGood_54 : decode cX9_isGood 54 = .ok (.goto 4, 3) := by decide +kernel
theorem dX9_isGood_57 : decode cX9_isGood 57 = .ok (.iconst 0, 1) := by decide +kernel
theorem dX9_isGood_58 : decode cX9_isGood 58 = .ok (.ireturn, 1) := by decide +kernel
theorem dX9_faultOf_0 : decode cX9_faultOf 0 = .ok (.aload_n 0, 1) := by decide +kernel
theorem dX9_faultOf_1 : decode cX9_faultOf 1 = .ok (.iconst 0, 1) := by decide +kernel
theorem dX9_faultOf_2 : decode cX9_faultOf 2 = .ok (.putfield 77, 3) := by decide +kernel
theorem dX9_faultOf_5 : decode cX9_faultOf 5 = .ok (.aload_n 0, 1) := by decide +kernel
theorem dX9_faultOf_6 : decode cX9_faultOf 6 = .ok (.iconst 0, 1) := by decide +kernel
theorem dX9_faultOf_7 : decode cX9_faultOf 7 = .ok (.putfield 74, 3) := by decide +kernel
theorem dX9_faultOf_10 : decode cX9_faultOf 10 = .ok (.aload_n 0, 1) := by decide +kernel
theorem dX9_faultOf_11 : decode cX9_faultOf 11 = .ok (.iconst (-1), 1) := by decide +kernel
theorem dX9_faultOf_12 : decode cX9_faultOf 12 = .ok (.putfield 71, 3) := by decide +kernel
theorem dX9_faultOf_15 : decode cX9_faultOf 15 = .ok (.aload_n 0, 1) := by decide +kernel
theorem dX9_faultOf_16 : decode cX9_faultOf 16 = .ok (.iconst 0, 1) := by decide +kernel
theorem dX9_faultOf_17 : decode cX9_faultOf 17 = .ok (.putfield 80, 3) := by decide +kernel
theorem dX9_faultOf_20 : decode cX9_faultOf 20 = .ok (.iconst 0, 1) := by decide +kernel
theorem dX9_faultOf_21 : decode cX9_faultOf 21 = .ok (.istore_n 1, 1) := by decide +kernel
theorem dX9_faultOf_22 : decode cX9_faultOf 22 = .ok (.iload_n 1, 1) := by decide +kernel
theorem dX9_faultOf_23 : decode cX9_faultOf 23 = .ok (.aload_n 0, 1) := by decide +kernel
theorem dX9_faultOf_24 : decode cX9_faultOf 24 = .ok (.getfield 64, 3) := by decide +kernel
theorem dX9_faultOf_27 : decode cX9_faultOf 27 = .ok (.if_icmp .ge 22, 3) := by decide +kernel
theorem dX9_faultOf_30 : decode cX9_faultOf 30 = .ok (.aload_n 0, 1) := by decide +kernel
theorem dX9_faultOf_31 : decode cX9_faultOf 31 = .ok (.aload_n 0, 1) := by decide +kernel
theorem dX9_faultOf_32 : decode cX9_faultOf 32 = .ok (.getfield 7, 3) := by decide +kernel
theorem dX9_faultOf_35 : decode cX9_faultOf 35 = .ok (.iload_n 1, 1) := by decide +kernel
theorem dX9_faultOf_36 : decode cX9_faultOf 36 = .ok (.iaload, 1) := by decide +kernel
theorem dX9_faultOf_37 : decode cX9_faultOf 37 = .ok (.invokevirtual 119, 3) := by decide +kernel
theorem dX9_faultOf_40 : decode cX9_faultOf 40 = .ok (.ifCond .eq 9, 3) := by decide +kernel
theorem dX9_faultOf_43 : decode cX9_faultOf 43 = .ok (.iinc 1 1, 3) := by decide +kernel
theorem dX9_faultOf_46 : decode cX9_faultOf 46 = .ok (.goto (-24), 3) := by decide +kernel
theorem dX9_faultOf_49 : decode cX9_faultOf 49 = .ok (.iload_n 1, 1) := by decide +kernel
theorem dX9_faultOf_50 : decode cX9_faultOf 50 = .ok (.ireturn, 1) := by decide +kernel
theorem dX9_fault_0 : decode cX9_fault 0 = .ok (.aload_n 0, 1) := by decide +kernel
theorem dX9_fault_1 : decode cX9_fault 1 = .ok (.invokevirtual 122, 3) := by decide +kernel
theorem dX9_fault_4 : decode cX9_fault 4 = .ok (.ireturn, 1) := by decide +kernel
theorem dX9_program_0 : decode cX9_program 0 = .ok (.aload_n 0, 1) := by decide +kernel
theorem dX9_program_1 : decode cX9_program 1 = .ok (.invokevirtual 122, 3) := by decide +kernel
theorem dX9_program_4 : decode cX9_program 4 = .ok (.aload_n 0, 1) := by decide +kernel
theorem dX9_program_5 : decode cX9_program 5 = .ok (.getfield 64, 3) := by decide +kernel
theorem dX9_program_8 : decode cX9_program 8 = .ok (.if_icmp .lt 24, 3) := by decide +kernel
theorem dX9_program_11 : decode cX9_program 11 = .ok (.aload_n 0, 1) := by decide +kernel
theorem dX9_program_12 : decode cX9_program 12 = .ok (.getfield 74, 3) := by decide +kernel
theorem dX9_program_15 : decode cX9_program 15 = .ok (.ifCond .eq 17, 3) := by decide +kernel
theorem dX9_program_18 : decode cX9_program 18 = .ok (.aload_n 0, 1) := by decide +kernel
theorem dX9_program_19 : decode cX9_program 19 = .ok (.getfield 74, 3) := by decide +kernel
theorem dX9_program_22 : decode cX9_program 22 = .ok (.aload_n 0, 1) := by decide +kernel
theorem dX9_program_23 : decode cX9_program 23 = .ok (.getfield 71, 3) := by decide +kernel
theorem dX9_program_26 : decode cX9_program 26 = .ok (.invokestatic 83, 3) := by decide +kernel
theorem dX9_program_29 : decode cX9_program 29 = .ok (.if_icmp .eq 6, 3) := by decide +kernel
theorem dX9_program_32 : decode cX9_program 32 = .ok (.bipush (-103), 2) := by decide +kernel
theorem dX9_program_34 : decode cX9_program 34 = .ok (.ireturn, 1) := by decide +kernel
theorem dX9_program_35 : decode cX9_program 35 = .ok (.aload_n 0, 1) := by decide +kernel
theorem dX9_program_36 : decode cX9_program 36 = .ok (.aload_n 0, 1) := by decide +kernel
theorem dX9_program_37 : decode cX9_program 37 = .ok (.getfield 77, 3) := by decide +kernel
theorem dX9_program_40 : decode cX9_program 40 = .ok (.putfield 126, 3) := by decide +kernel
theorem dX9_program_43 : decode cX9_program 43 = .ok (.aload_n 0, 1) := by decide +kernel
theorem dX9_program_44 : decode cX9_program 44 = .ok (.getfield 13, 3) := by decide +kernel
theorem dX9_program_47 : decode cX9_program 47 = .ok (.aload_n 0, 1) := by decide +kernel
theorem dX9_program_48 : decode cX9_program 48 = .ok (.getfield 16, 3) := by decide +kernel
theorem dX9_program_51 : decode cX9_program 51 = .ok (.invokestatic 129, 3) := by decide +kernel
theorem dX9_program_54 : decode cX9_program 54 = .ok (.aload_n 0, 1) := by decide +kernel
theorem dX9_program_55 : decode cX9_program 55 = .ok (.iconst 0, 1) := by decide +kernel
theorem dX9_program_56 : decode cX9_program 56 = .ok (.putfield 133, 3) := by decide +kernel
theorem dX9_program_59 : decode cX9_program 59 = .ok (.aload_n 0, 1) := by decide +kernel
theorem dX9_program_60 : decode cX9_program 60 = .ok (.dup, 1) := by decide +kernel
theorem dX9_program_61 : decode cX9_program 61 = .ok (.getfield 136, 3) := by decide +kernel
theorem dX9_program_64 : decode cX9_program 64 = .ok (.iconst 1, 1) := by decide +kernel
theorem dX9_program_65 : decode cX9_program 65 = .ok (.iadd, 1) := by decide +kernel
theorem dX9_program_66 : decode cX9_program 66 = .ok (.putfield 136, 3) := by decide +kernel
theorem dX9_program_69 : decode cX9_program 69 = .ok (.aload_n 0, 1) := by decide +kernel
theorem dX9_program_70 : decode cX9_program 70 = .ok (.iconst 0, 1) := by decide +kernel
theorem dX9_program_71 : decode cX9_program 71 = .ok (.putfield 64, 3) := by decide +kernel
theorem dX9_program_74 : decode cX9_program 74 = .ok (.aload_n 0, 1) := by decide +kernel
theorem dX9_program_75 : decode cX9_program 75 = .ok (.invokevirtual 139, 3) := by decide +kernel
theorem dX9_program_78 : decode cX9_program 78 = .ok (.aload_n 0, 1) := by decide +kernel
theorem dX9_program_79 : decode cX9_program 79 = .ok (.getfield 126, 3) := by decide +kernel
theorem dX9_program_82 : decode cX9_program 82 = .ok (.ireturn, 1) := by decide +kernel
end
section
theorem dX9_changed_0 : decode cX9_changed 0 = .ok (.aload_n 0, 1) := by decide +kernel
theorem dX9_changed_1 : decode cX9_changed 1 = .ok (.iconst 1, 1) := by decide +kernel
theorem dX9_changed_2 : decode cX9_changed 2 = .ok (.putfield 142, 3) := by decide +kernel
theorem dX9_changed_5 : decode cX9_changed 5 = .ok (.iconst 0, 1) := by decide +kernel
theorem dX9_changed_6 : decode cX9_changed 6 = .ok (.istore_n 1, 1) := by decide +kernel
theorem dX9_changed_7 : decode cX9_changed 7 = .ok (.iload_n 1, 1) := by decide +kernel
theorem dX9_changed_8 : decode cX9_changed 8 = .ok (.bipush 15, 2) := by decide +kernel
theorem dX9_changed_10 : decode cX9_changed 10 = .ok (.if_icmp .ge 16, 3) := by decide +kernel
theorem dX9_changed_13 : decode cX9_changed 13 = .ok (.aload_n 0, 1) := by decide +kernel
theorem dX9_changed_14 : decode cX9_changed 14 = .ok (.getfield 38, 3) := by decide +kernel
theorem dX9_changed_17 : decode cX9_changed 17 = .ok (.iload_n 1, 1) := by decide +kernel
theorem dX9_changed_18 : decode cX9_changed 18 = .ok (.iconst (-1), 1) := by decide +kernel
theorem dX9_changed_19 : decode cX9_changed 19 = .ok (.iastore, 1) := by decide +kernel
theorem dX9_changed_20 : decode cX9_changed 20 = .ok (.iinc 1 1, 3) := by decide +kernel
theorem dX9_changed_23 : decode cX9_changed 23 = .ok (.goto (-16), 3) := by decide +kernel
theorem dX9_changed_26 : decode cX9_changed 26 = .ok (.return_, 1) := by decide +kernel
theorem dX9_lacks_0 : decode cX9_lacks 0 = .ok (.aload_n 0, 1) := by decide +kernel
theorem dX9_lacks_1 : decode cX9_lacks 1 = .ok (.getfield 126, 3) := by decide +kernel
theorem dX9_lacks_4 : decode cX9_lacks 4 = .ok (.ifCond .ne 7, 3) := by decide +kernel
theorem dX9_lacks_7 : decode cX9_lacks 7 = .ok (.iconst 1, 1) := by decide +kernel
theorem dX9_lacks_8 : decode cX9_lacks 8 = .ok (.goto 4, 3) := by decide +kernel
theorem dX9_lacks_11 : decode cX9_lacks 11 = .ok (.iconst 0, 1) := by decide +kernel
theorem dX9_lacks_12 : decode cX9_lacks 12 = .ok (.ireturn, 1) := by decide +kernel
theorem dX9_isStep_0 : decode cX9_isStep 0 = .ok (.iload_n 1, 1) := by decide +kernel
theorem dX9_isStep_1 : decode cX9_isStep 1 = .ok (.i2l, 1) := by decide +kernel
theorem dX9_isStep_2 : decode cX9_isStep 2 = .ok (.lconst 0, 1) := by decide +kernel
theorem dX9_isStep_3 : decode cX9_isStep 3 = .ok (.aload_n 0, 1) := by decide +kernel
theorem dX9_isStep_4 : decode cX9_isStep 4 = .ok (.getfield 126, 3) := by decide +kernel
theorem dX9_isStep_7 : decode cX9_isStep 7 = .ok (.iconst 1, 1) := by decide +kernel
theorem dX9_isStep_8 : decode cX9_isStep 8 = .ok (.isub, 1) := by decide +kernel
theorem dX9_isStep_9 : decode cX9_isStep 9 = .ok (.i2l, 1) := by decide +kernel
theorem dX9_isStep_10 : decode cX9_isStep 10 = .ok (.invokestatic 60, 3) := by decide +kernel
theorem dX9_isStep_13 : decode cX9_isStep 13 = .ok (.ireturn, 1) := by decide +kernel
theorem dX9_kind_0 : decode cX9_kind 0 = .ok (.aload_n 0, 1) := by decide +kernel
theorem dX9_kind_1 : decode cX9_kind 1 = .ok (.getfield 16, 3) := by decide +kernel
theorem dX9_kind_4 : decode cX9_kind 4 = .ok (.iconst 4, 1) := by decide +kernel
theorem dX9_kind_5 : decode cX9_kind 5 = .ok (.iload_n 1, 1) := by decide +kernel
theorem dX9_kind_6 : decode cX9_kind 6 = .ok (.imul, 1) := by decide +kernel
theorem dX9_kind_7 : decode cX9_kind 7 = .ok (.iaload, 1) := by decide +kernel
theorem dX9_kind_8 : decode cX9_kind 8 = .ok (.ireturn, 1) := by decide +kernel
theorem dX9_one_0 : decode cX9_one 0 = .ok (.aload_n 0, 1) := by decide +kernel
theorem dX9_one_1 : decode cX9_one 1 = .ok (.getfield 16, 3) := by decide +kernel
theorem dX9_one_4 : decode cX9_one 4 = .ok (.iconst 4, 1) := by decide +kernel
theorem dX9_one_5 : decode cX9_one 5 = .ok (.iload_n 1, 1) := by decide +kernel
theorem dX9_one_6 : decode cX9_one 6 = .ok (.imul, 1) := by decide +kernel
theorem dX9_one_7 : decode cX9_one 7 = .ok (.iconst 1, 1) := by decide +kernel
theorem dX9_one_8 : decode cX9_one 8 = .ok (.iadd, 1) := by decide +kernel
theorem dX9_one_9 : decode cX9_one 9 = .ok (.iaload, 1) := by decide +kernel
theorem dX9_one_10 : decode cX9_one 10 = .ok (.ireturn, 1) := by decide +kernel
theorem dX9_other_0 : decode cX9_other 0 = .ok (.aload_n 0, 1) := by decide +kernel
theorem dX9_other_1 : decode cX9_other 1 = .ok (.getfield 16, 3) := by decide +kernel
theorem dX9_other_4 : decode cX9_other 4 = .ok (.iconst 4, 1) := by decide +kernel
theorem dX9_other_5 : decode cX9_other 5 = .ok (.iload_n 1, 1) := by decide +kernel
theorem dX9_other_6 : decode cX9_other 6 = .ok (.imul, 1) := by decide +kernel
theorem dX9_other_7 : decode cX9_other 7 = .ok (.iconst 2, 1) := by decide +kernel
theorem dX9_other_8 : decode cX9_other 8 = .ok (.iadd, 1) := by decide +kernel
theorem dX9_other_9 : decode cX9_other 9 = .ok (.iaload, 1) := by decide +kernel
theorem dX9_other_10 : decode cX9_other 10 = .ok (.ireturn, 1) := by decide +kernel
theorem dX9_number_0 : decode cX9_number 0 = .ok (.aload_n 0, 1) := by decide +kernel
theorem dX9_number_1 : decode cX9_number 1 = .ok (.getfield 16, 3) := by decide +kernel
theorem dX9_number_4 : decode cX9_number 4 = .ok (.iconst 4, 1) := by decide +kernel
theorem dX9_number_5 : decode cX9_number 5 = .ok (.iload_n 1, 1) := by decide +kernel
theorem dX9_number_6 : decode cX9_number 6 = .ok (.imul, 1) := by decide +kernel
theorem dX9_number_7 : decode cX9_number 7 = .ok (.iconst 3, 1) := by decide +kernel
theorem dX9_number_8 : decode cX9_number 8 = .ok (.iadd, 1) := by decide +kernel
theorem dX9_number_9 : decode cX9_number 9 = .ok (.iaload, 1) := by decide +kernel
theorem dX9_number_10 : decode cX9_number 10 = .ok (.bipush 100, 2) := by decide +kernel
theorem dX9_number_12 : decode cX9_number 12 = .ok (.isub, 1) := by decide +kernel
theorem dX9_number_13 : decode cX9_number 13 = .ok (.ireturn, 1) := by decide +kernel
theorem dX9_value_0 : decode cX9_value 0 = .ok (.iload_n 1, 1) := by decide +kernel
theorem dX9_value_1 : decode cX9_value 1 = .ok (.ifCond .ne 11, 3) := by decide +kernel
theorem dX9_value_4 : decode cX9_value 4 = .ok (.iload_n 0, 1) := by decide +kernel
theorem dX9_value_5 : decode cX9_value 5 = .ok (.sipush 289, 3) := by decide +kernel
theorem dX9_value_8 : decode cX9_value 8 = .ok (.idiv, 1) := by decide +kernel
theorem dX9_value_9 : decode cX9_value 9 = .ok (.goto 22, 3) := by decide +kernel
theorem dX9_value_12 : decode cX9_value 12 = .ok (.iload_n 1, 1) := by decide +kernel
theorem dX9_value_13 : decode cX9_value 13 = .ok (.iconst 1, 1) := by decide +kernel
theorem dX9_value_14 : decode cX9_value 14 = .ok (.if_icmp .ne 13, 3) := by decide +kernel
theorem dX9_value_17 : decode cX9_value 17 = .ok (.iload_n 0, 1) := by decide +kernel
theorem dX9_value_18 : decode cX9_value 18 = .ok (.bipush 17, 2) := by decide +kernel
theorem dX9_value_20 : decode cX9_value 20 = .ok (.idiv, 1) := by decide +kernel
theorem dX9_value_21 : decode cX9_value 21 = .ok (.bipush 17, 2) := by decide +kernel
theorem dX9_value_23 : decode cX9_value 23 = .ok (.irem, 1) := by decide +kernel
theorem dX9_value_24 : decode cX9_value 24 = .ok (.goto 7, 3) := by decide +kernel
theorem dX9_value_27 : decode cX9_value 27 = .ok (.iload_n 0, 1) := by decide +kernel
theorem dX9_value_28 : decode cX9_value 28 = .ok (.bipush 17, 2) := by decide +kernel
theorem dX9_value_30 : decode cX9_value 30 = .ok (.irem, 1) := by decide +kernel
theorem dX9_value_31 : decode cX9_value 31 = .ok (.bipush 8, 2) := by decide +kernel
theorem dX9_value_33 : decode cX9_value 33 = .ok (.isub, 1) := by decide +kernel
theorem dX9_value_34 : decode cX9_value 34 = .ok (.ireturn, 1) := by decide +kernel
theorem dX9_signed_0 : decode cX9_signed 0 = .ok (.aload_n 0, 1) := by decide +kernel
theorem dX9_signed_1 : decode cX9_signed 1 = .ok (.getfield 23, 3) := by decide +kernel
theorem dX9_signed_4 : decode cX9_signed 4 = .ok (.bipush 6, 2) := by decide +kernel
theorem dX9_signed_6 : decode cX9_signed 6 = .ok (.iload_n 1, 1) := by decide +kernel
theorem dX9_signed_7 : decode cX9_signed 7 = .ok (.imul, 1) := by decide +kernel
theorem dX9_signed_8 : decode cX9_signed 8 = .ok (.iload_n 2, 1) := by decide +kernel
theorem dX9_signed_9 : decode cX9_signed 9 = .ok (.iadd, 1) := by decide +kernel
theorem dX9_signed_10 : decode cX9_signed 10 = .ok (.iaload, 1) := by decide +kernel
theorem dX9_signed_11 : decode cX9_signed 11 = .ok (.ireturn, 1) := by decide +kernel
theorem dX9_pointOf_0 : decode cX9_pointOf 0 = .ok (.iload_n 0, 1) := by decide +kernel
theorem dX9_pointOf_1 : decode cX9_pointOf 1 = .ok (.bipush 8, 2) := by decide +kernel
theorem dX9_pointOf_3 : decode cX9_pointOf 3 = .ok (.iadd, 1) := by decide +kernel
theorem dX9_pointOf_4 : decode cX9_pointOf 4 = .ok (.sipush 289, 3) := by decide +kernel
theorem dX9_pointOf_7 : decode cX9_pointOf 7 = .ok (.imul, 1) := by decide +kernel
theorem dX9_pointOf_8 : decode cX9_pointOf 8 = .ok (.iload_n 1, 1) := by decide +kernel
theorem dX9_pointOf_9 : decode cX9_pointOf 9 = .ok (.bipush 8, 2) := by decide +kernel
theorem dX9_pointOf_11 : decode cX9_pointOf 11 = .ok (.iadd, 1) := by decide +kernel
theorem dX9_pointOf_12 : decode cX9_pointOf 12 = .ok (.bipush 17, 2) := by decide +kernel
theorem dX9_pointOf_14 : decode cX9_pointOf 14 = .ok (.imul, 1) := by decide +kernel
theorem dX9_pointOf_15 : decode cX9_pointOf 15 = .ok (.iadd, 1) := by decide +kernel
theorem dX9_pointOf_16 : decode cX9_pointOf 16 = .ok (.iload_n 2, 1) := by decide +kernel
theorem dX9_pointOf_17 : decode cX9_pointOf 17 = .ok (.iadd, 1) := by decide +kernel
theorem dX9_pointOf_18 : decode cX9_pointOf 18 = .ok (.bipush 8, 2) := by decide +kernel
theorem dX9_pointOf_20 : decode cX9_pointOf 20 = .ok (.iadd, 1) := by decide +kernel
theorem dX9_pointOf_21 : decode cX9_pointOf 21 = .ok (.ireturn, 1) := by decide +kernel
theorem dX9_withValue_0 : decode cX9_withValue 0 = .ok (.iload_n 1, 1) := by decide +kernel
theorem dX9_withValue_1 : decode cX9_withValue 1 = .ok (.ifCond .ne 9, 3) := by decide +kernel
theorem dX9_withValue_4 : decode cX9_withValue 4 = .ok (.sipush 289, 3) := by decide +kernel
theorem dX9_withValue_7 : decode cX9_withValue 7 = .ok (.goto 14, 3) := by decide +kernel
theorem dX9_withValue_10 : decode cX9_withValue 10 = .ok (.iload_n 1, 1) := by decide +kernel
theorem dX9_withValue_11 : decode cX9_withValue 11 = .ok (.iconst 1, 1) := by decide +kernel
theorem dX9_withValue_12 : decode cX9_withValue 12 = .ok (.if_icmp .ne 8, 3) := by decide +kernel
theorem dX9_withValue_15 : decode cX9_withValue 15 = .ok (.bipush 17, 2) := by decide +kernel
theorem dX9_withValue_17 : decode cX9_withValue 17 = .ok (.goto 4, 3) := by decide +kernel
theorem dX9_withValue_20 : decode cX9_withValue 20 = .ok (.iconst 1, 1) := by decide +kernel
theorem dX9_withValue_21 : decode cX9_withValue 21 = .ok (.istore_n 3, 1) := by decide +kernel
theorem dX9_withValue_22 : decode cX9_withValue 22 = .ok (.iload_n 0, 1) := by decide +kernel
theorem dX9_withValue_23 : decode cX9_withValue 23 = .ok (.iload_n 2, 1) := by decide +kernel
theorem dX9_withValue_24 : decode cX9_withValue 24 = .ok (.iload_n 0, 1) := by decide +kernel
theorem dX9_withValue_25 : decode cX9_withValue 25 = .ok (.iload_n 1, 1) := by decide +kernel
theorem dX9_withValue_26 : decode cX9_withValue 26 = .ok (.invokestatic 54, 3) := by decide +kernel
theorem dX9_withValue_29 : decode cX9_withValue 29 = .ok (.isub, 1) := by decide +kernel
theorem dX9_withValue_30 : decode cX9_withValue 30 = .ok (.iload_n 3, 1) := by decide +kernel
theorem dX9_withValue_31 : decode cX9_withValue 31 = .ok (.imul, 1) := by decide +kernel
theorem dX9_withValue_32 : decode cX9_withValue 32 = .ok (.iadd, 1) := by decide +kernel
theorem dX9_withValue_33 : decode cX9_withValue 33 = .ok (.ireturn, 1) := by decide +kernel
theorem dX9_pointsIn_0 : decode cX9_pointsIn 0 = .ok (.iconst 0, 1) := by decide +kernel
theorem dX9_pointsIn_1 : decode cX9_pointsIn 1 = .ok (.istore_n 2, 1) := by decide +kernel
theorem dX9_pointsIn_2 : decode cX9_pointsIn 2 = .ok (.iconst 0, 1) := by decide +kernel
theorem dX9_pointsIn_3 : decode cX9_pointsIn 3 = .ok (.istore_n 3, 1) := by decide +kernel
theorem dX9_pointsIn_4 : decode cX9_pointsIn 4 = .ok (.iload_n 3, 1) := by decide +kernel
theorem dX9_pointsIn_5 : decode cX9_pointsIn 5 = .ok (.sipush 4913, 3) := by decide +kernel
theorem dX9_pointsIn_8 : decode cX9_pointsIn 8 = .ok (.if_icmp .ge 24, 3) := by decide +kernel
theorem dX9_pointsIn_11 : decode cX9_pointsIn 11 = .ok (.iload_n 2, 1) := by decide +kernel
theorem dX9_pointsIn_12 : decode cX9_pointsIn 12 = .ok (.aload_n 0, 1) := by decide +kernel
theorem dX9_pointsIn_13 : decode cX9_pointsIn 13 = .ok (.getfield 20, 3) := by decide +kernel
theorem dX9_pointsIn_16 : decode cX9_pointsIn 16 = .ok (.sipush 4913, 3) := by decide +kernel
theorem dX9_pointsIn_19 : decode cX9_pointsIn 19 = .ok (.iload_n 1, 1) := by decide +kernel
theorem dX9_pointsIn_20 : decode cX9_pointsIn 20 = .ok (.imul, 1) := by decide +kernel
theorem dX9_pointsIn_21 : decode cX9_pointsIn 21 = .ok (.iload_n 3, 1) := by decide +kernel
theorem dX9_pointsIn_22 : decode cX9_pointsIn 22 = .ok (.iadd, 1) := by decide +kernel
theorem dX9_pointsIn_23 : decode cX9_pointsIn 23 = .ok (.iaload, 1) := by decide +kernel
theorem dX9_pointsIn_24 : decode cX9_pointsIn 24 = .ok (.iadd, 1) := by decide +kernel
theorem dX9_pointsIn_25 : decode cX9_pointsIn 25 = .ok (.istore_n 2, 1) := by decide +kernel
theorem dX9_pointsIn_26 : decode cX9_pointsIn 26 = .ok (.iinc 3 1, 3) := by decide +kernel
theorem dX9_pointsIn_29 : decode cX9_pointsIn 29 = .ok (.goto (-25), 3) := by decide +kernel
theorem dX9_pointsIn_32 : decode cX9_pointsIn 32 = .ok (.iload_n 2, 1) := by decide +kernel
theorem dX9_pointsIn_33 : decode cX9_pointsIn 33 = .ok (.ireturn, 1) := by decide +kernel
theorem dX9_lay_0 : decode cX9_lay 0 = .ok (.aload_n 0, 1) := by decide +kernel
theorem dX9_lay_1 : decode cX9_lay 1 = .ok (.getfield 20, 3) := by decide +kernel
theorem dX9_lay_4 : decode cX9_lay 4 = .ok (.sipush 4913, 3) := by decide +kernel
theorem dX9_lay_7 : decode cX9_lay 7 = .ok (.iload_n 1, 1) := by decide +kernel
theorem dX9_lay_8 : decode cX9_lay 8 = .ok (.imul, 1) := by decide +kernel
theorem dX9_lay_9 : decode cX9_lay 9 = .ok (.iload_n 2, 1) := by decide +kernel
theorem dX9_lay_10 : decode cX9_lay 10 = .ok (.iadd, 1) := by decide +kernel
theorem dX9_lay_11 : decode cX9_lay 11 = .ok (.iconst 1, 1) := by decide +kernel
theorem dX9_lay_12 : decode cX9_lay 12 = .ok (.iastore, 1) := by decide +kernel
theorem dX9_lay_13 : decode cX9_lay 13 = .ok (.return_, 1) := by decide +kernel
theorem dX9_doPoint_0 : decode cX9_doPoint 0 = .ok (.aload_n 0, 1) := by decide +kernel
theorem dX9_doPoint_1 : decode cX9_doPoint 1 = .ok (.iload_n 1, 1) := by decide +kernel
theorem dX9_doPoint_2 : decode cX9_doPoint 2 = .ok (.invokevirtual 146, 3) := by decide +kernel
theorem dX9_doPoint_5 : decode cX9_doPoint 5 = .ok (.lookupswitch 101 #[(0, 27), (2, 65)], 27) := by decide +kernel
theorem dX9_doPoint_32 : decode cX9_doPoint 32 = .ok (.aload_n 0, 1) := by decide +kernel
theorem dX9_doPoint_33 : decode cX9_doPoint 33 = .ok (.iload_n 2, 1) := by decide +kernel
theorem dX9_doPoint_34 : decode cX9_doPoint 34 = .ok (.aload_n 0, 1) := by decide +kernel
theorem dX9_doPoint_35 : decode cX9_doPoint 35 = .ok (.iload_n 1, 1) := by decide +kernel
theorem dX9_doPoint_36 : decode cX9_doPoint 36 = .ok (.invokevirtual 149, 3) := by decide +kernel
theorem dX9_doPoint_39 : decode cX9_doPoint 39 = .ok (.invokevirtual 152, 3) := by decide +kernel
theorem dX9_doPoint_42 : decode cX9_doPoint 42 = .ok (.aload_n 0, 1) := by decide +kernel
theorem dX9_doPoint_43 : decode cX9_doPoint 43 = .ok (.iload_n 2, 1) := by decide +kernel
theorem dX9_doPoint_44 : decode cX9_doPoint 44 = .ok (.aload_n 0, 1) := by decide +kernel
theorem dX9_doPoint_45 : decode cX9_doPoint 45 = .ok (.iload_n 1, 1) := by decide +kernel
theorem dX9_doPoint_46 : decode cX9_doPoint 46 = .ok (.invokevirtual 155, 3) := by decide +kernel
theorem dX9_doPoint_49 : decode cX9_doPoint 49 = .ok (.invokevirtual 152, 3) := by decide +kernel
theorem dX9_doPoint_52 : decode cX9_doPoint 52 = .ok (.iadd, 1) := by decide +kernel
theorem dX9_doPoint_53 : decode cX9_doPoint 53 = .ok (.aload_n 0, 1) := by decide +kernel
theorem dX9_doPoint_54 : decode cX9_doPoint 54 = .ok (.iload_n 1, 1) := by decide +kernel
theorem dX9_doPoint_55 : decode cX9_doPoint 55 = .ok (.invokevirtual 158, 3) := by decide +kernel
theorem dX9_doPoint_58 : decode cX9_doPoint 58 = .ok (.if_icmp .gt 118, 3) := by decide +kernel
theorem dX9_doPoint_61 : decode cX9_doPoint 61 = .ok (.aload_n 0, 1) := by decide +kernel
theorem dX9_doPoint_62 : decode cX9_doPoint 62 = .ok (.iload_n 3, 1) := by decide +kernel
theorem dX9_doPoint_63 : decode cX9_doPoint 63 = .ok (.iload_n 2, 1) := by decide +kernel
theorem dX9_doPoint_64 : decode cX9_doPoint 64 = .ok (.invokevirtual 161, 3) := by decide +kernel
theorem dX9_doPoint_67 : decode cX9_doPoint 67 = .ok (.goto 109, 3) := by decide +kernel
theorem dX9_doPoint_70 : decode cX9_doPoint 70 = .ok (.bipush (-8), 2) := by decide +kernel
theorem dX9_doPoint_72 : decode cX9_doPoint 72 = .ok (.istore 4, 2) := by decide +kernel
theorem dX9_doPoint_74 : decode cX9_doPoint 74 = .ok (.iload 4, 2) := by decide +kernel
theorem dX9_doPoint_76 : decode cX9_doPoint 76 = .ok (.bipush 9, 2) := by decide +kernel
theorem dX9_doPoint_78 : decode cX9_doPoint 78 = .ok (.if_icmp .ge 25, 3) := by decide +kernel
theorem dX9_doPoint_81 : decode cX9_doPoint 81 = .ok (.aload_n 0, 1) := by decide +kernel
theorem dX9_doPoint_82 : decode cX9_doPoint 82 = .ok (.iload_n 3, 1) := by decide +kernel
theorem dX9_doPoint_83 : decode cX9_doPoint 83 = .ok (.iload_n 2, 1) := by decide +kernel
theorem dX9_doPoint_84 : decode cX9_doPoint 84 = .ok (.aload_n 0, 1) := by decide +kernel
theorem dX9_doPoint_85 : decode cX9_doPoint 85 = .ok (.iload_n 1, 1) := by decide +kernel
theorem dX9_doPoint_86 : decode cX9_doPoint 86 = .ok (.invokevirtual 149, 3) := by decide +kernel
theorem dX9_doPoint_89 : decode cX9_doPoint 89 = .ok (.iload 4, 2) := by decide +kernel
theorem dX9_doPoint_91 : decode cX9_doPoint 91 = .ok (.invokestatic 165, 3) := by decide +kernel
theorem dX9_doPoint_94 : decode cX9_doPoint 94 = .ok (.invokevirtual 161, 3) := by decide +kernel
theorem dX9_doPoint_97 : decode cX9_doPoint 97 = .ok (.iinc 4 1, 3) := by decide +kernel
theorem dX9_doPoint_100 : decode cX9_doPoint 100 = .ok (.goto (-26), 3) := by decide +kernel
theorem dX9_doPoint_103 : decode cX9_doPoint 103 = .ok (.goto 73, 3) := by decide +kernel
theorem dX9_doPoint_106 : decode cX9_doPoint 106 = .ok (.aload_n 0, 1) := by decide +kernel
theorem dX9_doPoint_107 : decode cX9_doPoint 107 = .ok (.iload_n 1, 1) := by decide +kernel
theorem dX9_doPoint_108 : decode cX9_doPoint 108 = .ok (.invokevirtual 146, 3) := by decide +kernel
theorem dX9_doPoint_111 : decode cX9_doPoint 111 = .ok (.iconst 1, 1) := by decide +kernel
theorem dX9_doPoint_112 : decode cX9_doPoint 112 = .ok (.if_icmp .ne 16, 3) := by decide +kernel
theorem dX9_doPoint_115 : decode cX9_doPoint 115 = .ok (.aload_n 0, 1) := by decide +kernel
theorem dX9_doPoint_116 : decode cX9_doPoint 116 = .ok (.iload_n 2, 1) := by decide +kernel
theorem dX9_doPoint_117 : decode cX9_doPoint 117 = .ok (.aload_n 0, 1) := by decide +kernel
theorem dX9_doPoint_118 : decode cX9_doPoint 118 = .ok (.iload_n 1, 1) := by decide +kernel
theorem dX9_doPoint_119 : decode cX9_doPoint 119 = .ok (.invokevirtual 155, 3) := by decide +kernel
theorem dX9_doPoint_122 : decode cX9_doPoint 122 = .ok (.invokevirtual 152, 3) := by decide +kernel
theorem dX9_doPoint_125 : decode cX9_doPoint 125 = .ok (.goto 12, 3) := by decide +kernel
theorem dX9_doPoint_128 : decode cX9_doPoint 128 = .ok (.iload_n 2, 1) := by decide +kernel
theorem dX9_doPoint_129 : decode cX9_doPoint 129 = .ok (.aload_n 0, 1) := by decide +kernel
theorem dX9_doPoint_130 : decode cX9_doPoint 130 = .ok (.iload_n 1, 1) := by decide +kernel
theorem dX9_doPoint_131 : decode cX9_doPoint 131 = .ok (.invokevirtual 149, 3) := by decide +kernel
theorem dX9_doPoint_134 : decode cX9_doPoint 134 = .ok (.invokestatic 54, 3) := by decide +kernel
theorem dX9_doPoint_137 : decode cX9_doPoint 137 = .ok (.aload_n 0, 1) := by decide +kernel
theorem dX9_doPoint_138 : decode cX9_doPoint 138 = .ok (.iload_n 1, 1) := by decide +kernel
theorem dX9_doPoint_139 : decode cX9_doPoint 139 = .ok (.invokevirtual 158, 3) := by decide +kernel
theorem dX9_doPoint_142 : decode cX9_doPoint 142 = .ok (.iadd, 1) := by decide +kernel
theorem dX9_doPoint_143 : decode cX9_doPoint 143 = .ok (.istore 4, 2) := by decide +kernel
theorem dX9_doPoint_145 : decode cX9_doPoint 145 = .ok (.iload 4, 2) := by decide +kernel
theorem dX9_doPoint_147 : decode cX9_doPoint 147 = .ok (.i2l, 1) := by decide +kernel
theorem dX9_doPoint_148 : decode cX9_doPoint 148 = .ok (.ldc2_w 169, 3) := by decide +kernel
theorem dX9_doPoint_151 : decode cX9_doPoint 151 = .ok (.ldc2_w 171, 3) := by decide +kernel
theorem dX9_doPoint_154 : decode cX9_doPoint 154 = .ok (.invokestatic 60, 3) := by decide +kernel
theorem dX9_doPoint_157 : decode cX9_doPoint 157 = .ok (.ifCond .eq 19, 3) := by decide +kernel
theorem dX9_doPoint_160 : decode cX9_doPoint 160 = .ok (.aload_n 0, 1) := by decide +kernel
theorem dX9_doPoint_161 : decode cX9_doPoint 161 = .ok (.iload_n 3, 1) := by decide +kernel
theorem dX9_doPoint_162 : decode cX9_doPoint 162 = .ok (.iload_n 2, 1) := by decide +kernel
theorem dX9_doPoint_163 : decode cX9_doPoint 163 = .ok (.aload_n 0, 1) := by decide +kernel
theorem dX9_doPoint_164 : decode cX9_doPoint 164 = .ok (.iload_n 1, 1) := by decide +kernel
theorem dX9_doPoint_165 : decode cX9_doPoint 165 = .ok (.invokevirtual 149, 3) := by decide +kernel
theorem dX9_doPoint_168 : decode cX9_doPoint 168 = .ok (.iload 4, 2) := by decide +kernel
theorem dX9_doPoint_170 : decode cX9_doPoint 170 = .ok (.invokestatic 165, 3) := by decide +kernel
theorem dX9_doPoint_173 : decode cX9_doPoint 173 = .ok (.invokevirtual 161, 3) := by decide +kernel
theorem dX9_doPoint_176 : decode cX9_doPoint 176 = .ok (.return_, 1) := by decide +kernel
theorem dX9_doStep_0 : decode cX9_doStep 0 = .ok (.iconst 0, 1) := by decide +kernel
theorem dX9_doStep_1 : decode cX9_doStep 1 = .ok (.istore_n 2, 1) := by decide +kernel
theorem dX9_doStep_2 : decode cX9_doStep 2 = .ok (.iload_n 2, 1) := by decide +kernel
theorem dX9_doStep_3 : decode cX9_doStep 3 = .ok (.sipush 4913, 3) := by decide +kernel
theorem dX9_doStep_6 : decode cX9_doStep 6 = .ok (.if_icmp .ge 24, 3) := by decide +kernel
theorem dX9_doStep_9 : decode cX9_doStep 9 = .ok (.aload_n 0, 1) := by decide +kernel
theorem dX9_doStep_10 : decode cX9_doStep 10 = .ok (.getfield 20, 3) := by decide +kernel
theorem dX9_doStep_13 : decode cX9_doStep 13 = .ok (.sipush 4913, 3) := by decide +kernel
theorem dX9_doStep_16 : decode cX9_doStep 16 = .ok (.iload_n 1, 1) := by decide +kernel
theorem dX9_doStep_17 : decode cX9_doStep 17 = .ok (.iconst 1, 1) := by decide +kernel
theorem dX9_doStep_18 : decode cX9_doStep 18 = .ok (.iadd, 1) := by decide +kernel
theorem dX9_doStep_19 : decode cX9_doStep 19 = .ok (.imul, 1) := by decide +kernel
theorem dX9_doStep_20 : decode cX9_doStep 20 = .ok (.iload_n 2, 1) := by decide +kernel
theorem dX9_doStep_21 : decode cX9_doStep 21 = .ok (.iadd, 1) := by decide +kernel
theorem dX9_doStep_22 : decode cX9_doStep 22 = .ok (.iconst 0, 1) := by decide +kernel
theorem dX9_doStep_23 : decode cX9_doStep 23 = .ok (.iastore, 1) := by decide +kernel
theorem dX9_doStep_24 : decode cX9_doStep 24 = .ok (.iinc 2 1, 3) := by decide +kernel
theorem dX9_doStep_27 : decode cX9_doStep 27 = .ok (.goto (-25), 3) := by decide +kernel
theorem dX9_doStep_30 : decode cX9_doStep 30 = .ok (.iconst 0, 1) := by decide +kernel
theorem dX9_doStep_31 : decode cX9_doStep 31 = .ok (.istore_n 2, 1) := by decide +kernel
theorem dX9_doStep_32 : decode cX9_doStep 32 = .ok (.iload_n 2, 1) := by decide +kernel
theorem dX9_doStep_33 : decode cX9_doStep 33 = .ok (.sipush 4913, 3) := by decide +kernel
theorem dX9_doStep_36 : decode cX9_doStep 36 = .ok (.if_icmp .ge 34, 3) := by decide +kernel
theorem dX9_doStep_39 : decode cX9_doStep 39 = .ok (.aload_n 0, 1) := by decide +kernel
theorem dX9_doStep_40 : decode cX9_doStep 40 = .ok (.getfield 20, 3) := by decide +kernel
theorem dX9_doStep_43 : decode cX9_doStep 43 = .ok (.sipush 4913, 3) := by decide +kernel
theorem dX9_doStep_46 : decode cX9_doStep 46 = .ok (.iload_n 1, 1) := by decide +kernel
theorem dX9_doStep_47 : decode cX9_doStep 47 = .ok (.imul, 1) := by decide +kernel
theorem dX9_doStep_48 : decode cX9_doStep 48 = .ok (.iload_n 2, 1) := by decide +kernel
theorem dX9_doStep_49 : decode cX9_doStep 49 = .ok (.iadd, 1) := by decide +kernel
theorem dX9_doStep_50 : decode cX9_doStep 50 = .ok (.iaload, 1) := by decide +kernel
theorem dX9_doStep_51 : decode cX9_doStep 51 = .ok (.iconst 1, 1) := by decide +kernel
theorem dX9_doStep_52 : decode cX9_doStep 52 = .ok (.if_icmp .ne 12, 3) := by decide +kernel
theorem dX9_doStep_55 : decode cX9_doStep 55 = .ok (.aload_n 0, 1) := by decide +kernel
theorem dX9_doStep_56 : decode cX9_doStep 56 = .ok (.iload_n 1, 1) := by decide +kernel
theorem dX9_doStep_57 : decode cX9_doStep 57 = .ok (.iload_n 2, 1) := by decide +kernel
theorem dX9_doStep_58 : decode cX9_doStep 58 = .ok (.iload_n 1, 1) := by decide +kernel
theorem dX9_doStep_59 : decode cX9_doStep 59 = .ok (.iconst 1, 1) := by decide +kernel
theorem dX9_doStep_60 : decode cX9_doStep 60 = .ok (.iadd, 1) := by decide +kernel
theorem dX9_doStep_61 : decode cX9_doStep 61 = .ok (.invokevirtual 173, 3) := by decide +kernel
theorem dX9_doStep_64 : decode cX9_doStep 64 = .ok (.iinc 2 1, 3) := by decide +kernel
theorem dX9_doStep_67 : decode cX9_doStep 67 = .ok (.goto (-35), 3) := by decide +kernel
theorem dX9_doStep_70 : decode cX9_doStep 70 = .ok (.return_, 1) := by decide +kernel
theorem dX9_boundIn_0 : decode cX9_boundIn 0 = .ok (.bipush (-99), 2) := by decide +kernel
theorem dX9_boundIn_2 : decode cX9_boundIn 2 = .ok (.istore 4, 2) := by decide +kernel
theorem dX9_boundIn_4 : decode cX9_boundIn 4 = .ok (.iconst 0, 1) := by decide +kernel
theorem dX9_boundIn_5 : decode cX9_boundIn 5 = .ok (.istore 5, 2) := by decide +kernel
theorem dX9_boundIn_7 : decode cX9_boundIn 7 = .ok (.iload 5, 2) := by decide +kernel
theorem dX9_boundIn_9 : decode cX9_boundIn 9 = .ok (.sipush 4913, 3) := by decide +kernel
theorem dX9_boundIn_12 : decode cX9_boundIn 12 = .ok (.if_icmp .ge 64, 3) := by decide +kernel
theorem dX9_boundIn_15 : decode cX9_boundIn 15 = .ok (.aload_n 0, 1) := by decide +kernel
theorem dX9_boundIn_16 : decode cX9_boundIn 16 = .ok (.getfield 20, 3) := by decide +kernel
theorem dX9_boundIn_19 : decode cX9_boundIn 19 = .ok (.sipush 4913, 3) := by decide +kernel
theorem dX9_boundIn_22 : decode cX9_boundIn 22 = .ok (.iload_n 1, 1) := by decide +kernel
theorem dX9_boundIn_23 : decode cX9_boundIn 23 = .ok (.imul, 1) := by decide +kernel
theorem dX9_boundIn_24 : decode cX9_boundIn 24 = .ok (.iload 5, 2) := by decide +kernel
theorem dX9_boundIn_26 : decode cX9_boundIn 26 = .ok (.iadd, 1) := by decide +kernel
theorem dX9_boundIn_27 : decode cX9_boundIn 27 = .ok (.iaload, 1) := by decide +kernel
theorem dX9_boundIn_28 : decode cX9_boundIn 28 = .ok (.iconst 1, 1) := by decide +kernel
theorem dX9_boundIn_29 : decode cX9_boundIn 29 = .ok (.if_icmp .ne 21, 3) := by decide +kernel
theorem dX9_boundIn_32 : decode cX9_boundIn 32 = .ok (.aload_n 0, 1) := by decide +kernel
theorem dX9_boundIn_33 : decode cX9_boundIn 33 = .ok (.iload 5, 2) := by decide +kernel
theorem dX9_boundIn_35 : decode cX9_boundIn 35 = .ok (.iload_n 2, 1) := by decide +kernel
theorem dX9_boundIn_36 : decode cX9_boundIn 36 = .ok (.invokevirtual 152, 3) := by decide +kernel
theorem dX9_boundIn_39 : decode cX9_boundIn 39 = .ok (.aload_n 0, 1) := by decide +kernel
theorem dX9_boundIn_40 : decode cX9_boundIn 40 = .ok (.iload 5, 2) := by decide +kernel
theorem dX9_boundIn_42 : decode cX9_boundIn 42 = .ok (.iload_n 3, 1) := by decide +kernel
theorem dX9_boundIn_43 : decode cX9_boundIn 43 = .ok (.invokevirtual 152, 3) := by decide +kernel
theorem dX9_boundIn_46 : decode cX9_boundIn 46 = .ok (.iadd, 1) := by decide +kernel
theorem dX9_boundIn_47 : decode cX9_boundIn 47 = .ok (.goto 5, 3) := by decide +kernel
theorem dX9_boundIn_50 : decode cX9_boundIn 50 = .ok (.bipush (-99), 2) := by decide +kernel
theorem dX9_boundIn_52 : decode cX9_boundIn 52 = .ok (.istore 6, 2) := by decide +kernel
theorem dX9_boundIn_54 : decode cX9_boundIn 54 = .ok (.iload 6, 2) := by decide +kernel
theorem dX9_boundIn_56 : decode cX9_boundIn 56 = .ok (.iload 4, 2) := by decide +kernel
theorem dX9_boundIn_58 : decode cX9_boundIn 58 = .ok (.if_icmp .le 8, 3) := by decide +kernel
theorem dX9_boundIn_61 : decode cX9_boundIn 61 = .ok (.iload 6, 2) := by decide +kernel
theorem dX9_boundIn_63 : decode cX9_boundIn 63 = .ok (.goto 5, 3) := by decide +kernel
theorem dX9_boundIn_66 : decode cX9_boundIn 66 = .ok (.iload 4, 2) := by decide +kernel
theorem dX9_boundIn_68 : decode cX9_boundIn 68 = .ok (.istore 4, 2) := by decide +kernel
theorem dX9_boundIn_70 : decode cX9_boundIn 70 = .ok (.iinc 5 1, 3) := by decide +kernel
theorem dX9_boundIn_73 : decode cX9_boundIn 73 = .ok (.goto (-66), 3) := by decide +kernel
theorem dX9_boundIn_76 : decode cX9_boundIn 76 = .ok (.iload 4, 2) := by decide +kernel
theorem dX9_boundIn_78 : decode cX9_boundIn 78 = .ok (.ireturn, 1) := by decide +kernel
theorem dX9_raise_0 : decode cX9_raise 0 = .ok (.iconst 0, 1) := by decide +kernel
theorem dX9_raise_1 : decode cX9_raise 1 = .ok (.istore_n 3, 1) := by decide +kernel
theorem dX9_raise_2 : decode cX9_raise 2 = .ok (.iload_n 3, 1) := by decide +kernel
theorem dX9_raise_3 : decode cX9_raise 3 = .ok (.bipush 6, 2) := by decide +kernel
theorem dX9_raise_5 : decode cX9_raise 5 = .ok (.if_icmp .ge 88, 3) := by decide +kernel
theorem dX9_raise_8 : decode cX9_raise 8 = .ok (.iload_n 3, 1) := by decide +kernel
theorem dX9_raise_9 : decode cX9_raise 9 = .ok (.istore 4, 2) := by decide +kernel
theorem dX9_raise_11 : decode cX9_raise 11 = .ok (.iload 4, 2) := by decide +kernel
theorem dX9_raise_13 : decode cX9_raise 13 = .ok (.bipush 6, 2) := by decide +kernel
theorem dX9_raise_15 : decode cX9_raise 15 = .ok (.if_icmp .ge 72, 3) := by decide +kernel
theorem dX9_raise_18 : decode cX9_raise 18 = .ok (.aload_n 0, 1) := by decide +kernel
theorem dX9_raise_19 : decode cX9_raise 19 = .ok (.getfield 23, 3) := by decide +kernel
theorem dX9_raise_22 : decode cX9_raise 22 = .ok (.bipush 6, 2) := by decide +kernel
theorem dX9_raise_24 : decode cX9_raise 24 = .ok (.iload_n 1, 1) := by decide +kernel
theorem dX9_raise_25 : decode cX9_raise 25 = .ok (.imul, 1) := by decide +kernel
theorem dX9_raise_26 : decode cX9_raise 26 = .ok (.iload_n 3, 1) := by decide +kernel
theorem dX9_raise_27 : decode cX9_raise 27 = .ok (.iadd, 1) := by decide +kernel
theorem dX9_raise_28 : decode cX9_raise 28 = .ok (.iaload, 1) := by decide +kernel
theorem dX9_raise_29 : decode cX9_raise 29 = .ok (.aload_n 0, 1) := by decide +kernel
theorem dX9_raise_30 : decode cX9_raise 30 = .ok (.getfield 23, 3) := by decide +kernel
theorem dX9_raise_33 : decode cX9_raise 33 = .ok (.bipush 6, 2) := by decide +kernel
theorem dX9_raise_35 : decode cX9_raise 35 = .ok (.iload_n 1, 1) := by decide +kernel
theorem dX9_raise_36 : decode cX9_raise 36 = .ok (.imul, 1) := by decide +kernel
theorem dX9_raise_37 : decode cX9_raise 37 = .ok (.iload 4, 2) := by decide +kernel
theorem dX9_raise_39 : decode cX9_raise 39 = .ok (.iadd, 1) := by decide +kernel
theorem dX9_raise_40 : decode cX9_raise 40 = .ok (.iaload, 1) := by decide +kernel
theorem dX9_raise_41 : decode cX9_raise 41 = .ok (.iadd, 1) := by decide +kernel
theorem dX9_raise_42 : decode cX9_raise 42 = .ok (.istore 5, 2) := by decide +kernel
theorem dX9_raise_44 : decode cX9_raise 44 = .ok (.aload_n 2, 1) := by decide +kernel
theorem dX9_raise_45 : decode cX9_raise 45 = .ok (.bipush 6, 2) := by decide +kernel
theorem dX9_raise_47 : decode cX9_raise 47 = .ok (.iload_n 3, 1) := by decide +kernel
theorem dX9_raise_48 : decode cX9_raise 48 = .ok (.imul, 1) := by decide +kernel
theorem dX9_raise_49 : decode cX9_raise 49 = .ok (.iload 4, 2) := by decide +kernel
theorem dX9_raise_51 : decode cX9_raise 51 = .ok (.iadd, 1) := by decide +kernel
theorem dX9_raise_52 : decode cX9_raise 52 = .ok (.iload 5, 2) := by decide +kernel
theorem dX9_raise_54 : decode cX9_raise 54 = .ok (.aload_n 2, 1) := by decide +kernel
theorem dX9_raise_55 : decode cX9_raise 55 = .ok (.bipush 6, 2) := by decide +kernel
theorem dX9_raise_57 : decode cX9_raise 57 = .ok (.iload_n 3, 1) := by decide +kernel
theorem dX9_raise_58 : decode cX9_raise 58 = .ok (.imul, 1) := by decide +kernel
theorem dX9_raise_59 : decode cX9_raise 59 = .ok (.iload 4, 2) := by decide +kernel
theorem dX9_raise_61 : decode cX9_raise 61 = .ok (.iadd, 1) := by decide +kernel
theorem dX9_raise_62 : decode cX9_raise 62 = .ok (.iaload, 1) := by decide +kernel
theorem dX9_raise_63 : decode cX9_raise 63 = .ok (.if_icmp .le 8, 3) := by decide +kernel
theorem dX9_raise_66 : decode cX9_raise 66 = .ok (.iload 5, 2) := by decide +kernel
theorem dX9_raise_68 : decode cX9_raise 68 = .ok (.goto 12, 3) := by decide +kernel
theorem dX9_raise_71 : decode cX9_raise 71 = .ok (.aload_n 2, 1) := by decide +kernel
theorem dX9_raise_72 : decode cX9_raise 72 = .ok (.bipush 6, 2) := by decide +kernel
theorem dX9_raise_74 : decode cX9_raise 74 = .ok (.iload_n 3, 1) := by decide +kernel
theorem dX9_raise_75 : decode cX9_raise 75 = .ok (.imul, 1) := by decide +kernel
theorem dX9_raise_76 : decode cX9_raise 76 = .ok (.iload 4, 2) := by decide +kernel
theorem dX9_raise_78 : decode cX9_raise 78 = .ok (.iadd, 1) := by decide +kernel
theorem dX9_raise_79 : decode cX9_raise 79 = .ok (.iaload, 1) := by decide +kernel
theorem dX9_raise_80 : decode cX9_raise 80 = .ok (.iastore, 1) := by decide +kernel
theorem dX9_raise_81 : decode cX9_raise 81 = .ok (.iinc 4 1, 3) := by decide +kernel
theorem dX9_raise_84 : decode cX9_raise 84 = .ok (.goto (-73), 3) := by decide +kernel
theorem dX9_raise_87 : decode cX9_raise 87 = .ok (.iinc 3 1, 3) := by decide +kernel
theorem dX9_raise_90 : decode cX9_raise 90 = .ok (.goto (-88), 3) := by decide +kernel
theorem dX9_raise_93 : decode cX9_raise 93 = .ok (.return_, 1) := by decide +kernel
theorem dX9_layBounds_0 : decode cX9_layBounds 0 = .ok (.iconst 0, 1) := by decide +kernel
theorem dX9_layBounds_1 : decode cX9_layBounds 1 = .ok (.istore_n 3, 1) := by decide +kernel
theorem dX9_layBounds_2 : decode cX9_layBounds 2 = .ok (.iload_n 3, 1) := by decide +kernel
theorem dX9_layBounds_3 : decode cX9_layBounds 3 = .ok (.bipush 36, 2) := by decide +kernel
theorem dX9_layBounds_5 : decode cX9_layBounds 5 = .ok (.if_icmp .ge 14, 3) := by decide +kernel
theorem dX9_layBounds_8 : decode cX9_layBounds 8 = .ok (.aload_n 2, 1) := by decide +kernel
theorem dX9_layBounds_9 : decode cX9_layBounds 9 = .ok (.iload_n 3, 1) := by decide +kernel
theorem dX9_layBounds_10 : decode cX9_layBounds 10 = .ok (.bipush (-99), 2) := by decide +kernel
theorem dX9_layBounds_12 : decode cX9_layBounds 12 = .ok (.iastore, 1) := by decide +kernel
theorem dX9_layBounds_13 : decode cX9_layBounds 13 = .ok (.iinc 3 1, 3) := by decide +kernel
theorem dX9_layBounds_16 : decode cX9_layBounds 16 = .ok (.goto (-14), 3) := by decide +kernel
theorem dX9_layBounds_19 : decode cX9_layBounds 19 = .ok (.iconst 0, 1) := by decide +kernel
theorem dX9_layBounds_20 : decode cX9_layBounds 20 = .ok (.istore_n 3, 1) := by decide +kernel
theorem dX9_layBounds_21 : decode cX9_layBounds 21 = .ok (.iload_n 3, 1) := by decide +kernel
theorem dX9_layBounds_22 : decode cX9_layBounds 22 = .ok (.sipush 4913, 3) := by decide +kernel
theorem dX9_layBounds_25 : decode cX9_layBounds 25 = .ok (.if_icmp .ge 31, 3) := by decide +kernel
theorem dX9_layBounds_28 : decode cX9_layBounds 28 = .ok (.aload_n 0, 1) := by decide +kernel
theorem dX9_layBounds_29 : decode cX9_layBounds 29 = .ok (.getfield 20, 3) := by decide +kernel
theorem dX9_layBounds_32 : decode cX9_layBounds 32 = .ok (.sipush 4913, 3) := by decide +kernel
theorem dX9_layBounds_35 : decode cX9_layBounds 35 = .ok (.iload_n 1, 1) := by decide +kernel
theorem dX9_layBounds_36 : decode cX9_layBounds 36 = .ok (.imul, 1) := by decide +kernel
theorem dX9_layBounds_37 : decode cX9_layBounds 37 = .ok (.iload_n 3, 1) := by decide +kernel
theorem dX9_layBounds_38 : decode cX9_layBounds 38 = .ok (.iadd, 1) := by decide +kernel
theorem dX9_layBounds_39 : decode cX9_layBounds 39 = .ok (.iaload, 1) := by decide +kernel
theorem dX9_layBounds_40 : decode cX9_layBounds 40 = .ok (.iconst 1, 1) := by decide +kernel
theorem dX9_layBounds_41 : decode cX9_layBounds 41 = .ok (.if_icmp .ne 9, 3) := by decide +kernel
theorem dX9_layBounds_44 : decode cX9_layBounds 44 = .ok (.aload_n 0, 1) := by decide +kernel
theorem dX9_layBounds_45 : decode cX9_layBounds 45 = .ok (.iload_n 3, 1) := by decide +kernel
theorem dX9_layBounds_46 : decode cX9_layBounds 46 = .ok (.aload_n 2, 1) := by decide +kernel
theorem dX9_layBounds_47 : decode cX9_layBounds 47 = .ok (.invokevirtual 177, 3) := by decide +kernel
theorem dX9_layBounds_50 : decode cX9_layBounds 50 = .ok (.iinc 3 1, 3) := by decide +kernel
theorem dX9_layBounds_53 : decode cX9_layBounds 53 = .ok (.goto (-32), 3) := by decide +kernel
theorem dX9_layBounds_56 : decode cX9_layBounds 56 = .ok (.iconst 0, 1) := by decide +kernel
theorem dX9_layBounds_57 : decode cX9_layBounds 57 = .ok (.istore_n 3, 1) := by decide +kernel
theorem dX9_layBounds_58 : decode cX9_layBounds 58 = .ok (.iload_n 3, 1) := by decide +kernel
theorem dX9_layBounds_59 : decode cX9_layBounds 59 = .ok (.bipush 36, 2) := by decide +kernel
theorem dX9_layBounds_61 : decode cX9_layBounds 61 = .ok (.if_icmp .ge 41, 3) := by decide +kernel
theorem dX9_layBounds_64 : decode cX9_layBounds 64 = .ok (.aload_n 2, 1) := by decide +kernel
theorem dX9_layBounds_65 : decode cX9_layBounds 65 = .ok (.iload_n 3, 1) := by decide +kernel
theorem dX9_layBounds_66 : decode cX9_layBounds 66 = .ok (.aload_n 2, 1) := by decide +kernel
theorem dX9_layBounds_67 : decode cX9_layBounds 67 = .ok (.iload_n 3, 1) := by decide +kernel
theorem dX9_layBounds_68 : decode cX9_layBounds 68 = .ok (.bipush 6, 2) := by decide +kernel
theorem dX9_layBounds_70 : decode cX9_layBounds 70 = .ok (.idiv, 1) := by decide +kernel
theorem dX9_layBounds_71 : decode cX9_layBounds 71 = .ok (.iload_n 3, 1) := by decide +kernel
theorem dX9_layBounds_72 : decode cX9_layBounds 72 = .ok (.bipush 6, 2) := by decide +kernel
theorem dX9_layBounds_74 : decode cX9_layBounds 74 = .ok (.irem, 1) := by decide +kernel
theorem dX9_layBounds_75 : decode cX9_layBounds 75 = .ok (.if_icmp .ge 7, 3) := by decide +kernel
theorem dX9_layBounds_78 : decode cX9_layBounds 78 = .ok (.iload_n 3, 1) := by decide +kernel
theorem dX9_layBounds_79 : decode cX9_layBounds 79 = .ok (.goto 15, 3) := by decide +kernel
theorem dX9_layBounds_82 : decode cX9_layBounds 82 = .ok (.iload_n 3, 1) := by decide +kernel
theorem dX9_layBounds_83 : decode cX9_layBounds 83 = .ok (.bipush 6, 2) := by decide +kernel
theorem dX9_layBounds_85 : decode cX9_layBounds 85 = .ok (.irem, 1) := by decide +kernel
theorem dX9_layBounds_86 : decode cX9_layBounds 86 = .ok (.bipush 6, 2) := by decide +kernel
theorem dX9_layBounds_88 : decode cX9_layBounds 88 = .ok (.imul, 1) := by decide +kernel
theorem dX9_layBounds_89 : decode cX9_layBounds 89 = .ok (.iload_n 3, 1) := by decide +kernel
theorem dX9_layBounds_90 : decode cX9_layBounds 90 = .ok (.bipush 6, 2) := by decide +kernel
theorem dX9_layBounds_92 : decode cX9_layBounds 92 = .ok (.idiv, 1) := by decide +kernel
theorem dX9_layBounds_93 : decode cX9_layBounds 93 = .ok (.iadd, 1) := by decide +kernel
theorem dX9_layBounds_94 : decode cX9_layBounds 94 = .ok (.iaload, 1) := by decide +kernel
theorem dX9_layBounds_95 : decode cX9_layBounds 95 = .ok (.iastore, 1) := by decide +kernel
theorem dX9_layBounds_96 : decode cX9_layBounds 96 = .ok (.iinc 3 1, 3) := by decide +kernel
theorem dX9_layBounds_99 : decode cX9_layBounds 99 = .ok (.goto (-41), 3) := by decide +kernel
theorem dX9_layBounds_102 : decode cX9_layBounds 102 = .ok (.return_, 1) := by decide +kernel
theorem dX9_isBy_0 : decode cX9_isBy 0 = .ok (.iconst 0, 1) := by decide +kernel
theorem dX9_isBy_1 : decode cX9_isBy 1 = .ok (.istore_n 3, 1) := by decide +kernel
theorem dX9_isBy_2 : decode cX9_isBy 2 = .ok (.iload_n 3, 1) := by decide +kernel
theorem dX9_isBy_3 : decode cX9_isBy 3 = .ok (.bipush 6, 2) := by decide +kernel
theorem dX9_isBy_5 : decode cX9_isBy 5 = .ok (.if_icmp .ge 63, 3) := by decide +kernel
theorem dX9_isBy_8 : decode cX9_isBy 8 = .ok (.iload_n 3, 1) := by decide +kernel
theorem dX9_isBy_9 : decode cX9_isBy 9 = .ok (.istore 4, 2) := by decide +kernel
theorem dX9_isBy_11 : decode cX9_isBy 11 = .ok (.iload 4, 2) := by decide +kernel
theorem dX9_isBy_13 : decode cX9_isBy 13 = .ok (.bipush 6, 2) := by decide +kernel
theorem dX9_isBy_15 : decode cX9_isBy 15 = .ok (.if_icmp .ge 47, 3) := by decide +kernel
theorem dX9_isBy_18 : decode cX9_isBy 18 = .ok (.aload_n 0, 1) := by decide +kernel
theorem dX9_isBy_19 : decode cX9_isBy 19 = .ok (.getfield 23, 3) := by decide +kernel
theorem dX9_isBy_22 : decode cX9_isBy 22 = .ok (.bipush 6, 2) := by decide +kernel
theorem dX9_isBy_24 : decode cX9_isBy 24 = .ok (.iload_n 2, 1) := by decide +kernel
theorem dX9_isBy_25 : decode cX9_isBy 25 = .ok (.imul, 1) := by decide +kernel
theorem dX9_isBy_26 : decode cX9_isBy 26 = .ok (.iload_n 3, 1) := by decide +kernel
theorem dX9_isBy_27 : decode cX9_isBy 27 = .ok (.iadd, 1) := by decide +kernel
theorem dX9_isBy_28 : decode cX9_isBy 28 = .ok (.iaload, 1) := by decide +kernel
theorem dX9_isBy_29 : decode cX9_isBy 29 = .ok (.aload_n 0, 1) := by decide +kernel
theorem dX9_isBy_30 : decode cX9_isBy 30 = .ok (.getfield 23, 3) := by decide +kernel
theorem dX9_isBy_33 : decode cX9_isBy 33 = .ok (.bipush 6, 2) := by decide +kernel
theorem dX9_isBy_35 : decode cX9_isBy 35 = .ok (.iload_n 2, 1) := by decide +kernel
theorem dX9_isBy_36 : decode cX9_isBy 36 = .ok (.imul, 1) := by decide +kernel
theorem dX9_isBy_37 : decode cX9_isBy 37 = .ok (.iload 4, 2) := by decide +kernel
theorem dX9_isBy_39 : decode cX9_isBy 39 = .ok (.iadd, 1) := by decide +kernel
theorem dX9_isBy_40 : decode cX9_isBy 40 = .ok (.iaload, 1) := by decide +kernel
theorem dX9_isBy_41 : decode cX9_isBy 41 = .ok (.iadd, 1) := by decide +kernel
theorem dX9_isBy_42 : decode cX9_isBy 42 = .ok (.aload_n 1, 1) := by decide +kernel
theorem dX9_isBy_43 : decode cX9_isBy 43 = .ok (.bipush 6, 2) := by decide +kernel
theorem dX9_isBy_45 : decode cX9_isBy 45 = .ok (.iload_n 3, 1) := by decide +kernel
theorem dX9_isBy_46 : decode cX9_isBy 46 = .ok (.imul, 1) := by decide +kernel
theorem dX9_isBy_47 : decode cX9_isBy 47 = .ok (.iload 4, 2) := by decide +kernel
theorem dX9_isBy_49 : decode cX9_isBy 49 = .ok (.iadd, 1) := by decide +kernel
theorem dX9_isBy_50 : decode cX9_isBy 50 = .ok (.iaload, 1) := by decide +kernel
theorem dX9_isBy_51 : decode cX9_isBy 51 = .ok (.if_icmp .le 5, 3) := by decide +kernel
theorem dX9_isBy_54 : decode cX9_isBy 54 = .ok (.iconst 0, 1) := by decide +kernel
theorem dX9_isBy_55 : decode cX9_isBy 55 = .ok (.ireturn, 1) := by decide +kernel
theorem dX9_isBy_56 : decode cX9_isBy 56 = .ok (.iinc 4 1, 3) := by decide +kernel
theorem dX9_isBy_59 : decode cX9_isBy 59 = .ok (.goto (-48), 3) := by decide +kernel
theorem dX9_isBy_62 : decode cX9_isBy 62 = .ok (.iinc 3 1, 3) := by decide +kernel
theorem dX9_isBy_65 : decode cX9_isBy 65 = .ok (.goto (-63), 3) := by decide +kernel
theorem dX9_isBy_68 : decode cX9_isBy 68 = .ok (.iconst 1, 1) := by decide +kernel
theorem dX9_isBy_69 : decode cX9_isBy 69 = .ok (.ireturn, 1) := by decide +kernel
theorem dX9_layBy_0 : decode cX9_layBy 0 = .ok (.iconst 0, 1) := by decide +kernel
theorem dX9_layBy_1 : decode cX9_layBy 1 = .ok (.istore_n 3, 1) := by decide +kernel
theorem dX9_layBy_2 : decode cX9_layBy 2 = .ok (.iload_n 3, 1) := by decide +kernel
theorem dX9_layBy_3 : decode cX9_layBy 3 = .ok (.sipush 4913, 3) := by decide +kernel
theorem dX9_layBy_6 : decode cX9_layBy 6 = .ok (.if_icmp .ge 35, 3) := by decide +kernel
theorem dX9_layBy_9 : decode cX9_layBy 9 = .ok (.aload_n 0, 1) := by decide +kernel
theorem dX9_layBy_10 : decode cX9_layBy 10 = .ok (.getfield 20, 3) := by decide +kernel
theorem dX9_layBy_13 : decode cX9_layBy 13 = .ok (.sipush 4913, 3) := by decide +kernel
theorem dX9_layBy_16 : decode cX9_layBy 16 = .ok (.iload_n 2, 1) := by decide +kernel
theorem dX9_layBy_17 : decode cX9_layBy 17 = .ok (.imul, 1) := by decide +kernel
theorem dX9_layBy_18 : decode cX9_layBy 18 = .ok (.iload_n 3, 1) := by decide +kernel
theorem dX9_layBy_19 : decode cX9_layBy 19 = .ok (.iadd, 1) := by decide +kernel
theorem dX9_layBy_20 : decode cX9_layBy 20 = .ok (.aload_n 0, 1) := by decide +kernel
theorem dX9_layBy_21 : decode cX9_layBy 21 = .ok (.aload_n 1, 1) := by decide +kernel
theorem dX9_layBy_22 : decode cX9_layBy 22 = .ok (.iload_n 3, 1) := by decide +kernel
theorem dX9_layBy_23 : decode cX9_layBy 23 = .ok (.invokevirtual 181, 3) := by decide +kernel
theorem dX9_layBy_26 : decode cX9_layBy 26 = .ok (.ifCond .eq 7, 3) := by decide +kernel
theorem dX9_layBy_29 : decode cX9_layBy 29 = .ok (.iconst 1, 1) := by decide +kernel
theorem dX9_layBy_30 : decode cX9_layBy 30 = .ok (.goto 4, 3) := by decide +kernel
theorem dX9_layBy_33 : decode cX9_layBy 33 = .ok (.iconst 0, 1) := by decide +kernel
theorem dX9_layBy_34 : decode cX9_layBy 34 = .ok (.iastore, 1) := by decide +kernel
theorem dX9_layBy_35 : decode cX9_layBy 35 = .ok (.iinc 3 1, 3) := by decide +kernel
theorem dX9_layBy_38 : decode cX9_layBy 38 = .ok (.goto (-36), 3) := by decide +kernel
theorem dX9_layBy_41 : decode cX9_layBy 41 = .ok (.return_, 1) := by decide +kernel
theorem dX9_copyShape_0 : decode cX9_copyShape 0 = .ok (.iconst 0, 1) := by decide +kernel
theorem dX9_copyShape_1 : decode cX9_copyShape 1 = .ok (.istore_n 3, 1) := by decide +kernel
theorem dX9_copyShape_2 : decode cX9_copyShape 2 = .ok (.iload_n 3, 1) := by decide +kernel
theorem dX9_copyShape_3 : decode cX9_copyShape 3 = .ok (.sipush 4913, 3) := by decide +kernel
theorem dX9_copyShape_6 : decode cX9_copyShape 6 = .ok (.if_icmp .ge 33, 3) := by decide +kernel
theorem dX9_copyShape_9 : decode cX9_copyShape 9 = .ok (.aload_n 0, 1) := by decide +kernel
theorem dX9_copyShape_10 : decode cX9_copyShape 10 = .ok (.getfield 20, 3) := by decide +kernel
theorem dX9_copyShape_13 : decode cX9_copyShape 13 = .ok (.sipush 4913, 3) := by decide +kernel
theorem dX9_copyShape_16 : decode cX9_copyShape 16 = .ok (.iload_n 2, 1) := by decide +kernel
theorem dX9_copyShape_17 : decode cX9_copyShape 17 = .ok (.imul, 1) := by decide +kernel
theorem dX9_copyShape_18 : decode cX9_copyShape 18 = .ok (.iload_n 3, 1) := by decide +kernel
theorem dX9_copyShape_19 : decode cX9_copyShape 19 = .ok (.iadd, 1) := by decide +kernel
theorem dX9_copyShape_20 : decode cX9_copyShape 20 = .ok (.aload_n 0, 1) := by decide +kernel
theorem dX9_copyShape_21 : decode cX9_copyShape 21 = .ok (.getfield 20, 3) := by decide +kernel
theorem dX9_copyShape_24 : decode cX9_copyShape 24 = .ok (.sipush 4913, 3) := by decide +kernel
theorem dX9_copyShape_27 : decode cX9_copyShape 27 = .ok (.iload_n 1, 1) := by decide +kernel
theorem dX9_copyShape_28 : decode cX9_copyShape 28 = .ok (.imul, 1) := by decide +kernel
theorem dX9_copyShape_29 : decode cX9_copyShape 29 = .ok (.iload_n 3, 1) := by decide +kernel
theorem dX9_copyShape_30 : decode cX9_copyShape 30 = .ok (.iadd, 1) := by decide +kernel
theorem dX9_copyShape_31 : decode cX9_copyShape 31 = .ok (.iaload, 1) := by decide +kernel
theorem dX9_copyShape_32 : decode cX9_copyShape 32 = .ok (.iastore, 1) := by decide +kernel
theorem dX9_copyShape_33 : decode cX9_copyShape 33 = .ok (.iinc 3 1, 3) := by decide +kernel
theorem dX9_copyShape_36 : decode cX9_copyShape 36 = .ok (.goto (-34), 3) := by decide +kernel
theorem dX9_copyShape_39 : decode cX9_copyShape 39 = .ok (.return_, 1) := by decide +kernel
theorem dX9_join_0 : decode cX9_join 0 = .ok (.aload_n 0, 1) := by decide +kernel
theorem dX9_join_1 : decode cX9_join 1 = .ok (.iload_n 1, 1) := by decide +kernel
theorem dX9_join_2 : decode cX9_join 2 = .ok (.invokevirtual 185, 3) := by decide +kernel
theorem dX9_join_5 : decode cX9_join 5 = .ok (.ifCond .eq 11, 3) := by decide +kernel
theorem dX9_join_8 : decode cX9_join 8 = .ok (.aload_n 0, 1) := by decide +kernel
theorem dX9_join_9 : decode cX9_join 9 = .ok (.iload_n 2, 1) := by decide +kernel
theorem dX9_join_10 : decode cX9_join 10 = .ok (.invokevirtual 185, 3) := by decide +kernel
theorem dX9_join_13 : decode cX9_join 13 = .ok (.ifCond .ne 22, 3) := by decide +kernel
theorem dX9_join_16 : decode cX9_join 16 = .ok (.aload_n 0, 1) := by decide +kernel
theorem dX9_join_17 : decode cX9_join 17 = .ok (.aload_n 0, 1) := by decide +kernel
theorem dX9_join_18 : decode cX9_join 18 = .ok (.iload_n 1, 1) := by decide +kernel
theorem dX9_join_19 : decode cX9_join 19 = .ok (.invokevirtual 185, 3) := by decide +kernel
theorem dX9_join_22 : decode cX9_join 22 = .ok (.ifCond .ne 7, 3) := by decide +kernel
theorem dX9_join_25 : decode cX9_join 25 = .ok (.iload_n 2, 1) := by decide +kernel
theorem dX9_join_26 : decode cX9_join 26 = .ok (.goto 4, 3) := by decide +kernel
theorem dX9_join_29 : decode cX9_join 29 = .ok (.iload_n 1, 1) := by decide +kernel
theorem dX9_join_30 : decode cX9_join 30 = .ok (.iload_n 3, 1) := by decide +kernel
theorem dX9_join_31 : decode cX9_join 31 = .ok (.invokevirtual 188, 3) := by decide +kernel
theorem dX9_join_34 : decode cX9_join 34 = .ok (.return_, 1) := by decide +kernel
theorem dX9_join_35 : decode cX9_join 35 = .ok (.aload_n 0, 1) := by decide +kernel
theorem dX9_join_36 : decode cX9_join 36 = .ok (.iload_n 1, 1) := by decide +kernel
theorem dX9_join_37 : decode cX9_join 37 = .ok (.aload_n 0, 1) := by decide +kernel
theorem dX9_join_38 : decode cX9_join 38 = .ok (.getfield 26, 3) := by decide +kernel
theorem dX9_join_41 : decode cX9_join 41 = .ok (.invokevirtual 191, 3) := by decide +kernel
theorem dX9_join_44 : decode cX9_join 44 = .ok (.aload_n 0, 1) := by decide +kernel
theorem dX9_join_45 : decode cX9_join 45 = .ok (.iload_n 2, 1) := by decide +kernel
theorem dX9_join_46 : decode cX9_join 46 = .ok (.aload_n 0, 1) := by decide +kernel
theorem dX9_join_47 : decode cX9_join 47 = .ok (.getfield 29, 3) := by decide +kernel
theorem dX9_join_50 : decode cX9_join 50 = .ok (.invokevirtual 191, 3) := by decide +kernel
theorem dX9_join_53 : decode cX9_join 53 = .ok (.iconst 0, 1) := by decide +kernel
theorem dX9_join_54 : decode cX9_join 54 = .ok (.istore 4, 2) := by decide +kernel
theorem dX9_join_56 : decode cX9_join 56 = .ok (.iload 4, 2) := by decide +kernel
theorem dX9_join_58 : decode cX9_join 58 = .ok (.bipush 36, 2) := by decide +kernel
theorem dX9_join_60 : decode cX9_join 60 = .ok (.if_icmp .ge 50, 3) := by decide +kernel
theorem dX9_join_63 : decode cX9_join 63 = .ok (.aload_n 0, 1) := by decide +kernel
theorem dX9_join_64 : decode cX9_join 64 = .ok (.getfield 26, 3) := by decide +kernel
theorem dX9_join_67 : decode cX9_join 67 = .ok (.iload 4, 2) := by decide +kernel
theorem dX9_join_69 : decode cX9_join 69 = .ok (.aload_n 0, 1) := by decide +kernel
theorem dX9_join_70 : decode cX9_join 70 = .ok (.getfield 29, 3) := by decide +kernel
theorem dX9_join_73 : decode cX9_join 73 = .ok (.iload 4, 2) := by decide +kernel
theorem dX9_join_75 : decode cX9_join 75 = .ok (.iaload, 1) := by decide +kernel
theorem dX9_join_76 : decode cX9_join 76 = .ok (.aload_n 0, 1) := by decide +kernel
theorem dX9_join_77 : decode cX9_join 77 = .ok (.getfield 26, 3) := by decide +kernel
theorem dX9_join_80 : decode cX9_join 80 = .ok (.iload 4, 2) := by decide +kernel
theorem dX9_join_82 : decode cX9_join 82 = .ok (.iaload, 1) := by decide +kernel
theorem dX9_join_83 : decode cX9_join 83 = .ok (.if_icmp .le 13, 3) := by decide +kernel
theorem dX9_join_86 : decode cX9_join 86 = .ok (.aload_n 0, 1) := by decide +kernel
theorem dX9_join_87 : decode cX9_join 87 = .ok (.getfield 29, 3) := by decide +kernel
theorem dX9_join_90 : decode cX9_join 90 = .ok (.iload 4, 2) := by decide +kernel
theorem dX9_join_92 : decode cX9_join 92 = .ok (.iaload, 1) := by decide +kernel
theorem dX9_join_93 : decode cX9_join 93 = .ok (.goto 10, 3) := by decide +kernel
theorem dX9_join_96 : decode cX9_join 96 = .ok (.aload_n 0, 1) := by decide +kernel
theorem dX9_join_97 : decode cX9_join 97 = .ok (.getfield 26, 3) := by decide +kernel
theorem dX9_join_100 : decode cX9_join 100 = .ok (.iload 4, 2) := by decide +kernel
theorem dX9_join_102 : decode cX9_join 102 = .ok (.iaload, 1) := by decide +kernel
theorem dX9_join_103 : decode cX9_join 103 = .ok (.iastore, 1) := by decide +kernel
theorem dX9_join_104 : decode cX9_join 104 = .ok (.iinc 4 1, 3) := by decide +kernel
theorem dX9_join_107 : decode cX9_join 107 = .ok (.goto (-51), 3) := by decide +kernel
theorem dX9_join_110 : decode cX9_join 110 = .ok (.aload_n 0, 1) := by decide +kernel
theorem dX9_join_111 : decode cX9_join 111 = .ok (.aload_n 0, 1) := by decide +kernel
theorem dX9_join_112 : decode cX9_join 112 = .ok (.getfield 26, 3) := by decide +kernel
theorem dX9_join_115 : decode cX9_join 115 = .ok (.iload_n 3, 1) := by decide +kernel
theorem dX9_join_116 : decode cX9_join 116 = .ok (.invokevirtual 194, 3) := by decide +kernel
theorem dX9_join_119 : decode cX9_join 119 = .ok (.return_, 1) := by decide +kernel
theorem dX9_isLike_0 : decode cX9_isLike 0 = .ok (.iconst 0, 1) := by decide +kernel
theorem dX9_isLike_1 : decode cX9_isLike 1 = .ok (.istore_n 3, 1) := by decide +kernel
theorem dX9_isLike_2 : decode cX9_isLike 2 = .ok (.iload_n 3, 1) := by decide +kernel
theorem dX9_isLike_3 : decode cX9_isLike 3 = .ok (.sipush 4913, 3) := by decide +kernel
theorem dX9_isLike_6 : decode cX9_isLike 6 = .ok (.if_icmp .ge 38, 3) := by decide +kernel
theorem dX9_isLike_9 : decode cX9_isLike 9 = .ok (.aload_n 0, 1) := by decide +kernel
theorem dX9_isLike_10 : decode cX9_isLike 10 = .ok (.getfield 20, 3) := by decide +kernel
theorem dX9_isLike_13 : decode cX9_isLike 13 = .ok (.sipush 4913, 3) := by decide +kernel
theorem dX9_isLike_16 : decode cX9_isLike 16 = .ok (.iload_n 1, 1) := by decide +kernel
theorem dX9_isLike_17 : decode cX9_isLike 17 = .ok (.imul, 1) := by decide +kernel
theorem dX9_isLike_18 : decode cX9_isLike 18 = .ok (.iload_n 3, 1) := by decide +kernel
theorem dX9_isLike_19 : decode cX9_isLike 19 = .ok (.iadd, 1) := by decide +kernel
theorem dX9_isLike_20 : decode cX9_isLike 20 = .ok (.iaload, 1) := by decide +kernel
theorem dX9_isLike_21 : decode cX9_isLike 21 = .ok (.aload_n 0, 1) := by decide +kernel
theorem dX9_isLike_22 : decode cX9_isLike 22 = .ok (.getfield 20, 3) := by decide +kernel
theorem dX9_isLike_25 : decode cX9_isLike 25 = .ok (.sipush 4913, 3) := by decide +kernel
theorem dX9_isLike_28 : decode cX9_isLike 28 = .ok (.iload_n 2, 1) := by decide +kernel
theorem dX9_isLike_29 : decode cX9_isLike 29 = .ok (.imul, 1) := by decide +kernel
theorem dX9_isLike_30 : decode cX9_isLike 30 = .ok (.iload_n 3, 1) := by decide +kernel
theorem dX9_isLike_31 : decode cX9_isLike 31 = .ok (.iadd, 1) := by decide +kernel
theorem dX9_isLike_32 : decode cX9_isLike 32 = .ok (.iaload, 1) := by decide +kernel
theorem dX9_isLike_33 : decode cX9_isLike 33 = .ok (.if_icmp .eq 5, 3) := by decide +kernel
theorem dX9_isLike_36 : decode cX9_isLike 36 = .ok (.iconst 0, 1) := by decide +kernel
theorem dX9_isLike_37 : decode cX9_isLike 37 = .ok (.ireturn, 1) := by decide +kernel
theorem dX9_isLike_38 : decode cX9_isLike 38 = .ok (.iinc 3 1, 3) := by decide +kernel
theorem dX9_isLike_41 : decode cX9_isLike 41 = .ok (.goto (-39), 3) := by decide +kernel
theorem dX9_isLike_44 : decode cX9_isLike 44 = .ok (.iconst 1, 1) := by decide +kernel
theorem dX9_isLike_45 : decode cX9_isLike 45 = .ok (.ireturn, 1) := by decide +kernel
theorem dX9_doAll_0 : decode cX9_doAll 0 = .ok (.iload_n 1, 1) := by decide +kernel
theorem dX9_doAll_1 : decode cX9_doAll 1 = .ok (.istore_n 3, 1) := by decide +kernel
theorem dX9_doAll_2 : decode cX9_doAll 2 = .ok (.iload_n 3, 1) := by decide +kernel
theorem dX9_doAll_3 : decode cX9_doAll 3 = .ok (.iload_n 2, 1) := by decide +kernel
theorem dX9_doAll_4 : decode cX9_doAll 4 = .ok (.if_icmp .ge 14, 3) := by decide +kernel
theorem dX9_doAll_7 : decode cX9_doAll 7 = .ok (.aload_n 0, 1) := by decide +kernel
theorem dX9_doAll_8 : decode cX9_doAll 8 = .ok (.iload_n 3, 1) := by decide +kernel
theorem dX9_doAll_9 : decode cX9_doAll 9 = .ok (.invokevirtual 198, 3) := by decide +kernel
theorem dX9_doAll_12 : decode cX9_doAll 12 = .ok (.iinc 3 1, 3) := by decide +kernel
theorem dX9_doAll_15 : decode cX9_doAll 15 = .ok (.goto (-13), 3) := by decide +kernel
theorem dX9_doAll_18 : decode cX9_doAll 18 = .ok (.return_, 1) := by decide +kernel
theorem dX9_widen_0 : decode cX9_widen 0 = .ok (.aload_n 0, 1) := by decide +kernel
theorem dX9_widen_1 : decode cX9_widen 1 = .ok (.bipush 8, 2) := by decide +kernel
theorem dX9_widen_3 : decode cX9_widen 3 = .ok (.aload_n 0, 1) := by decide +kernel
theorem dX9_widen_4 : decode cX9_widen 4 = .ok (.getfield 26, 3) := by decide +kernel
theorem dX9_widen_7 : decode cX9_widen 7 = .ok (.invokevirtual 191, 3) := by decide +kernel
theorem dX9_widen_10 : decode cX9_widen 10 = .ok (.iconst 0, 1) := by decide +kernel
theorem dX9_widen_11 : decode cX9_widen 11 = .ok (.istore_n 2, 1) := by decide +kernel
theorem dX9_widen_12 : decode cX9_widen 12 = .ok (.iload_n 2, 1) := by decide +kernel
theorem dX9_widen_13 : decode cX9_widen 13 = .ok (.bipush 36, 2) := by decide +kernel
theorem dX9_widen_15 : decode cX9_widen 15 = .ok (.if_icmp .ge 54, 3) := by decide +kernel
theorem dX9_widen_18 : decode cX9_widen 18 = .ok (.aload_n 0, 1) := by decide +kernel
theorem dX9_widen_19 : decode cX9_widen 19 = .ok (.getfield 32, 3) := by decide +kernel
theorem dX9_widen_22 : decode cX9_widen 22 = .ok (.iload_n 2, 1) := by decide +kernel
theorem dX9_widen_23 : decode cX9_widen 23 = .ok (.iload_n 1, 1) := by decide +kernel
theorem dX9_widen_24 : decode cX9_widen 24 = .ok (.ifCond .eq 12, 3) := by decide +kernel
theorem dX9_widen_27 : decode cX9_widen 27 = .ok (.aload_n 0, 1) := by decide +kernel
theorem dX9_widen_28 : decode cX9_widen 28 = .ok (.getfield 26, 3) := by decide +kernel
theorem dX9_widen_31 : decode cX9_widen 31 = .ok (.iload_n 2, 1) := by decide +kernel
theorem dX9_widen_32 : decode cX9_widen 32 = .ok (.iaload, 1) := by decide +kernel
theorem dX9_widen_33 : decode cX9_widen 33 = .ok (.goto 29, 3) := by decide +kernel
theorem dX9_widen_36 : decode cX9_widen 36 = .ok (.aload_n 0, 1) := by decide +kernel
theorem dX9_widen_37 : decode cX9_widen 37 = .ok (.getfield 32, 3) := by decide +kernel
theorem dX9_widen_40 : decode cX9_widen 40 = .ok (.iload_n 2, 1) := by decide +kernel
theorem dX9_widen_41 : decode cX9_widen 41 = .ok (.iaload, 1) := by decide +kernel
theorem dX9_widen_42 : decode cX9_widen 42 = .ok (.aload_n 0, 1) := by decide +kernel
theorem dX9_widen_43 : decode cX9_widen 43 = .ok (.getfield 26, 3) := by decide +kernel
theorem dX9_widen_46 : decode cX9_widen 46 = .ok (.iload_n 2, 1) := by decide +kernel
theorem dX9_widen_47 : decode cX9_widen 47 = .ok (.iaload, 1) := by decide +kernel
theorem dX9_widen_48 : decode cX9_widen 48 = .ok (.if_icmp .ge 8, 3) := by decide +kernel
theorem dX9_widen_51 : decode cX9_widen 51 = .ok (.bipush 16, 2) := by decide +kernel
theorem dX9_widen_53 : decode cX9_widen 53 = .ok (.goto 9, 3) := by decide +kernel
theorem dX9_widen_56 : decode cX9_widen 56 = .ok (.aload_n 0, 1) := by decide +kernel
theorem dX9_widen_57 : decode cX9_widen 57 = .ok (.getfield 32, 3) := by decide +kernel
theorem dX9_widen_60 : decode cX9_widen 60 = .ok (.iload_n 2, 1) := by decide +kernel
theorem dX9_widen_61 : decode cX9_widen 61 = .ok (.iaload, 1) := by decide +kernel
theorem dX9_widen_62 : decode cX9_widen 62 = .ok (.iastore, 1) := by decide +kernel
theorem dX9_widen_63 : decode cX9_widen 63 = .ok (.iinc 2 1, 3) := by decide +kernel
theorem dX9_widen_66 : decode cX9_widen 66 = .ok (.goto (-54), 3) := by decide +kernel
theorem dX9_widen_69 : decode cX9_widen 69 = .ok (.return_, 1) := by decide +kernel
theorem dX9_doLoop_0 : decode cX9_doLoop 0 = .ok (.aload_n 0, 1) := by decide +kernel
theorem dX9_doLoop_1 : decode cX9_doLoop 1 = .ok (.iload_n 1, 1) := by decide +kernel
theorem dX9_doLoop_2 : decode cX9_doLoop 2 = .ok (.invokevirtual 149, 3) := by decide +kernel
theorem dX9_doLoop_5 : decode cX9_doLoop 5 = .ok (.istore_n 2, 1) := by decide +kernel
theorem dX9_doLoop_6 : decode cX9_doLoop 6 = .ok (.aload_n 0, 1) := by decide +kernel
theorem dX9_doLoop_7 : decode cX9_doLoop 7 = .ok (.iload_n 2, 1) := by decide +kernel
theorem dX9_doLoop_8 : decode cX9_doLoop 8 = .ok (.bipush 7, 2) := by decide +kernel
theorem dX9_doLoop_10 : decode cX9_doLoop 10 = .ok (.invokevirtual 188, 3) := by decide +kernel
theorem dX9_doLoop_13 : decode cX9_doLoop 13 = .ok (.aload_n 0, 1) := by decide +kernel
theorem dX9_doLoop_14 : decode cX9_doLoop 14 = .ok (.bipush 7, 2) := by decide +kernel
theorem dX9_doLoop_16 : decode cX9_doLoop 16 = .ok (.invokevirtual 185, 3) := by decide +kernel
theorem dX9_doLoop_19 : decode cX9_doLoop 19 = .ok (.ifCond .ne 7, 3) := by decide +kernel
theorem dX9_doLoop_22 : decode cX9_doLoop 22 = .ok (.iconst 1, 1) := by decide +kernel
theorem dX9_doLoop_23 : decode cX9_doLoop 23 = .ok (.goto 4, 3) := by decide +kernel
theorem dX9_doLoop_26 : decode cX9_doLoop 26 = .ok (.iconst 0, 1) := by decide +kernel
theorem dX9_doLoop_27 : decode cX9_doLoop 27 = .ok (.istore_n 3, 1) := by decide +kernel
theorem dX9_doLoop_28 : decode cX9_doLoop 28 = .ok (.aload_n 0, 1) := by decide +kernel
theorem dX9_doLoop_29 : decode cX9_doLoop 29 = .ok (.bipush 7, 2) := by decide +kernel
theorem dX9_doLoop_31 : decode cX9_doLoop 31 = .ok (.aload_n 0, 1) := by decide +kernel
theorem dX9_doLoop_32 : decode cX9_doLoop 32 = .ok (.getfield 32, 3) := by decide +kernel
theorem dX9_doLoop_35 : decode cX9_doLoop 35 = .ok (.invokevirtual 191, 3) := by decide +kernel
theorem dX9_doLoop_38 : decode cX9_doLoop 38 = .ok (.aload_n 0, 1) := by decide +kernel
theorem dX9_doLoop_39 : decode cX9_doLoop 39 = .ok (.iload_n 2, 1) := by decide +kernel
theorem dX9_doLoop_40 : decode cX9_doLoop 40 = .ok (.iload_n 1, 1) := by decide +kernel
theorem dX9_doLoop_41 : decode cX9_doLoop 41 = .ok (.invokevirtual 202, 3) := by decide +kernel
theorem dX9_doLoop_44 : decode cX9_doLoop 44 = .ok (.aload_n 0, 1) := by decide +kernel
theorem dX9_doLoop_45 : decode cX9_doLoop 45 = .ok (.iload_n 2, 1) := by decide +kernel
theorem dX9_doLoop_46 : decode cX9_doLoop 46 = .ok (.iload_n 1, 1) := by decide +kernel
theorem dX9_doLoop_47 : decode cX9_doLoop 47 = .ok (.bipush 8, 2) := by decide +kernel
theorem dX9_doLoop_49 : decode cX9_doLoop 49 = .ok (.invokevirtual 205, 3) := by decide +kernel
theorem dX9_doLoop_52 : decode cX9_doLoop 52 = .ok (.aload_n 0, 1) := by decide +kernel
theorem dX9_doLoop_53 : decode cX9_doLoop 53 = .ok (.bipush 8, 2) := by decide +kernel
theorem dX9_doLoop_55 : decode cX9_doLoop 55 = .ok (.iload_n 2, 1) := by decide +kernel
theorem dX9_doLoop_56 : decode cX9_doLoop 56 = .ok (.invokevirtual 208, 3) := by decide +kernel
theorem dX9_doLoop_59 : decode cX9_doLoop 59 = .ok (.ifCond .ne 46, 3) := by decide +kernel
theorem dX9_doLoop_62 : decode cX9_doLoop 62 = .ok (.aload_n 0, 1) := by decide +kernel
theorem dX9_doLoop_63 : decode cX9_doLoop 63 = .ok (.dup, 1) := by decide +kernel
theorem dX9_doLoop_64 : decode cX9_doLoop 64 = .ok (.getfield 212, 3) := by decide +kernel
theorem dX9_doLoop_67 : decode cX9_doLoop 67 = .ok (.iconst 1, 1) := by decide +kernel
theorem dX9_doLoop_68 : decode cX9_doLoop 68 = .ok (.iadd, 1) := by decide +kernel
theorem dX9_doLoop_69 : decode cX9_doLoop 69 = .ok (.putfield 212, 3) := by decide +kernel
theorem dX9_doLoop_72 : decode cX9_doLoop 72 = .ok (.aload_n 0, 1) := by decide +kernel
theorem dX9_doLoop_73 : decode cX9_doLoop 73 = .ok (.iload_n 3, 1) := by decide +kernel
theorem dX9_doLoop_74 : decode cX9_doLoop 74 = .ok (.invokevirtual 215, 3) := by decide +kernel
theorem dX9_doLoop_77 : decode cX9_doLoop 77 = .ok (.iconst 0, 1) := by decide +kernel
theorem dX9_doLoop_78 : decode cX9_doLoop 78 = .ok (.istore_n 3, 1) := by decide +kernel
theorem dX9_doLoop_79 : decode cX9_doLoop 79 = .ok (.aload_n 0, 1) := by decide +kernel
theorem dX9_doLoop_80 : decode cX9_doLoop 80 = .ok (.aload_n 0, 1) := by decide +kernel
theorem dX9_doLoop_81 : decode cX9_doLoop 81 = .ok (.getfield 32, 3) := by decide +kernel
theorem dX9_doLoop_84 : decode cX9_doLoop 84 = .ok (.iload_n 2, 1) := by decide +kernel
theorem dX9_doLoop_85 : decode cX9_doLoop 85 = .ok (.invokevirtual 194, 3) := by decide +kernel
theorem dX9_doLoop_88 : decode cX9_doLoop 88 = .ok (.aload_n 0, 1) := by decide +kernel
theorem dX9_doLoop_89 : decode cX9_doLoop 89 = .ok (.iload_n 2, 1) := by decide +kernel
theorem dX9_doLoop_90 : decode cX9_doLoop 90 = .ok (.iload_n 1, 1) := by decide +kernel
theorem dX9_doLoop_91 : decode cX9_doLoop 91 = .ok (.invokevirtual 202, 3) := by decide +kernel
theorem dX9_doLoop_94 : decode cX9_doLoop 94 = .ok (.aload_n 0, 1) := by decide +kernel
theorem dX9_doLoop_95 : decode cX9_doLoop 95 = .ok (.iload_n 2, 1) := by decide +kernel
theorem dX9_doLoop_96 : decode cX9_doLoop 96 = .ok (.iload_n 1, 1) := by decide +kernel
theorem dX9_doLoop_97 : decode cX9_doLoop 97 = .ok (.bipush 8, 2) := by decide +kernel
theorem dX9_doLoop_99 : decode cX9_doLoop 99 = .ok (.invokevirtual 205, 3) := by decide +kernel
theorem dX9_doLoop_102 : decode cX9_doLoop 102 = .ok (.goto (-50), 3) := by decide +kernel
theorem dX9_doLoop_105 : decode cX9_doLoop 105 = .ok (.aload_n 0, 1) := by decide +kernel
theorem dX9_doLoop_106 : decode cX9_doLoop 106 = .ok (.bipush 7, 2) := by decide +kernel
theorem dX9_doLoop_108 : decode cX9_doLoop 108 = .ok (.iload_n 1, 1) := by decide +kernel
theorem dX9_doLoop_109 : decode cX9_doLoop 109 = .ok (.bipush 8, 2) := by decide +kernel
theorem dX9_doLoop_111 : decode cX9_doLoop 111 = .ok (.invokevirtual 205, 3) := by decide +kernel
theorem dX9_doLoop_114 : decode cX9_doLoop 114 = .ok (.aload_n 0, 1) := by decide +kernel
theorem dX9_doLoop_115 : decode cX9_doLoop 115 = .ok (.bipush 8, 2) := by decide +kernel
theorem dX9_doLoop_117 : decode cX9_doLoop 117 = .ok (.iload_n 2, 1) := by decide +kernel
theorem dX9_doLoop_118 : decode cX9_doLoop 118 = .ok (.invokevirtual 188, 3) := by decide +kernel
theorem dX9_doLoop_121 : decode cX9_doLoop 121 = .ok (.aload_n 0, 1) := by decide +kernel
theorem dX9_doLoop_122 : decode cX9_doLoop 122 = .ok (.iload_n 2, 1) := by decide +kernel
theorem dX9_doLoop_123 : decode cX9_doLoop 123 = .ok (.iload_n 1, 1) := by decide +kernel
theorem dX9_doLoop_124 : decode cX9_doLoop 124 = .ok (.invokevirtual 202, 3) := by decide +kernel
theorem dX9_doLoop_127 : decode cX9_doLoop 127 = .ok (.aload_n 0, 1) := by decide +kernel
theorem dX9_doLoop_128 : decode cX9_doLoop 128 = .ok (.iload_n 2, 1) := by decide +kernel
theorem dX9_doLoop_129 : decode cX9_doLoop 129 = .ok (.iload_n 1, 1) := by decide +kernel
theorem dX9_doLoop_130 : decode cX9_doLoop 130 = .ok (.iconst 1, 1) := by decide +kernel
theorem dX9_doLoop_131 : decode cX9_doLoop 131 = .ok (.iadd, 1) := by decide +kernel
theorem dX9_doLoop_132 : decode cX9_doLoop 132 = .ok (.invokevirtual 188, 3) := by decide +kernel
theorem dX9_doLoop_135 : decode cX9_doLoop 135 = .ok (.return_, 1) := by decide +kernel
end
section
theorem dX9_freshen_0 : decode cX9_freshen 0 = .ok (.aload_n 0, 1) := by decide +kernel
theorem dX9_freshen_1 : decode cX9_freshen 1 = .ok (.getfield 142, 3) := by decide +kernel
theorem dX9_freshen_4 : decode cX9_freshen 4 = .ok (.ifCond .ne 4, 3) := by decide +kernel
theorem dX9_freshen_7 : decode cX9_freshen 7 = .ok (.return_, 1) := by decide +kernel
theorem dX9_freshen_8 : decode cX9_freshen 8 = .ok (.aload_n 0, 1) := by decide +kernel
theorem dX9_freshen_9 : decode cX9_freshen 9 = .ok (.iconst 0, 1) := by decide +kernel
theorem dX9_freshen_10 : decode cX9_freshen 10 = .ok (.putfield 212, 3) := by decide +kernel
theorem dX9_freshen_13 : decode cX9_freshen 13 = .ok (.iconst 0, 1) := by decide +kernel
theorem dX9_freshen_14 : decode cX9_freshen 14 = .ok (.istore_n 1, 1) := by decide +kernel
theorem dX9_freshen_15 : decode cX9_freshen 15 = .ok (.iload_n 1, 1) := by decide +kernel
theorem dX9_freshen_16 : decode cX9_freshen 16 = .ok (.sipush 4913, 3) := by decide +kernel
theorem dX9_freshen_19 : decode cX9_freshen 19 = .ok (.if_icmp .ge 16, 3) := by decide +kernel
theorem dX9_freshen_22 : decode cX9_freshen 22 = .ok (.aload_n 0, 1) := by decide +kernel
theorem dX9_freshen_23 : decode cX9_freshen 23 = .ok (.getfield 20, 3) := by decide +kernel
theorem dX9_freshen_26 : decode cX9_freshen 26 = .ok (.iload_n 1, 1) := by decide +kernel
theorem dX9_freshen_27 : decode cX9_freshen 27 = .ok (.iconst 1, 1) := by decide +kernel
theorem dX9_freshen_28 : decode cX9_freshen 28 = .ok (.iastore, 1) := by decide +kernel
theorem dX9_freshen_29 : decode cX9_freshen 29 = .ok (.iinc 1 1, 3) := by decide +kernel
theorem dX9_freshen_32 : decode cX9_freshen 32 = .ok (.goto (-17), 3) := by decide +kernel
theorem dX9_freshen_35 : decode cX9_freshen 35 = .ok (.iconst 0, 1) := by decide +kernel
theorem dX9_freshen_36 : decode cX9_freshen 36 = .ok (.istore_n 1, 1) := by decide +kernel
theorem dX9_freshen_37 : decode cX9_freshen 37 = .ok (.iload_n 1, 1) := by decide +kernel
theorem dX9_freshen_38 : decode cX9_freshen 38 = .ok (.aload_n 0, 1) := by decide +kernel
theorem dX9_freshen_39 : decode cX9_freshen 39 = .ok (.getfield 126, 3) := by decide +kernel
theorem dX9_freshen_42 : decode cX9_freshen 42 = .ok (.if_icmp .ge 31, 3) := by decide +kernel
theorem dX9_freshen_45 : decode cX9_freshen 45 = .ok (.aload_n 0, 1) := by decide +kernel
theorem dX9_freshen_46 : decode cX9_freshen 46 = .ok (.iload_n 1, 1) := by decide +kernel
theorem dX9_freshen_47 : decode cX9_freshen 47 = .ok (.invokevirtual 146, 3) := by decide +kernel
theorem dX9_freshen_50 : decode cX9_freshen 50 = .ok (.iconst 4, 1) := by decide +kernel
theorem dX9_freshen_51 : decode cX9_freshen 51 = .ok (.if_icmp .ne 11, 3) := by decide +kernel
theorem dX9_freshen_54 : decode cX9_freshen 54 = .ok (.aload_n 0, 1) := by decide +kernel
theorem dX9_freshen_55 : decode cX9_freshen 55 = .ok (.iload_n 1, 1) := by decide +kernel
theorem dX9_freshen_56 : decode cX9_freshen 56 = .ok (.invokevirtual 219, 3) := by decide +kernel
theorem dX9_freshen_59 : decode cX9_freshen 59 = .ok (.goto 8, 3) := by decide +kernel
theorem dX9_freshen_62 : decode cX9_freshen 62 = .ok (.aload_n 0, 1) := by decide +kernel
theorem dX9_freshen_63 : decode cX9_freshen 63 = .ok (.iload_n 1, 1) := by decide +kernel
theorem dX9_freshen_64 : decode cX9_freshen 64 = .ok (.invokevirtual 198, 3) := by decide +kernel
theorem dX9_freshen_67 : decode cX9_freshen 67 = .ok (.iinc 1 1, 3) := by decide +kernel
theorem dX9_freshen_70 : decode cX9_freshen 70 = .ok (.goto (-33), 3) := by decide +kernel
theorem dX9_freshen_73 : decode cX9_freshen 73 = .ok (.iconst 0, 1) := by decide +kernel
theorem dX9_freshen_74 : decode cX9_freshen 74 = .ok (.istore_n 1, 1) := by decide +kernel
theorem dX9_freshen_75 : decode cX9_freshen 75 = .ok (.iload_n 1, 1) := by decide +kernel
theorem dX9_freshen_76 : decode cX9_freshen 76 = .ok (.aload_n 0, 1) := by decide +kernel
theorem dX9_freshen_77 : decode cX9_freshen 77 = .ok (.getfield 126, 3) := by decide +kernel
theorem dX9_freshen_80 : decode cX9_freshen 80 = .ok (.if_icmp .gt 20, 3) := by decide +kernel
theorem dX9_freshen_83 : decode cX9_freshen 83 = .ok (.aload_n 0, 1) := by decide +kernel
theorem dX9_freshen_84 : decode cX9_freshen 84 = .ok (.getfield 35, 3) := by decide +kernel
theorem dX9_freshen_87 : decode cX9_freshen 87 = .ok (.iload_n 1, 1) := by decide +kernel
theorem dX9_freshen_88 : decode cX9_freshen 88 = .ok (.aload_n 0, 1) := by decide +kernel
theorem dX9_freshen_89 : decode cX9_freshen 89 = .ok (.iload_n 1, 1) := by decide +kernel
theorem dX9_freshen_90 : decode cX9_freshen 90 = .ok (.invokevirtual 185, 3) := by decide +kernel
theorem dX9_freshen_93 : decode cX9_freshen 93 = .ok (.iastore, 1) := by decide +kernel
theorem dX9_freshen_94 : decode cX9_freshen 94 = .ok (.iinc 1 1, 3) := by decide +kernel
theorem dX9_freshen_97 : decode cX9_freshen 97 = .ok (.goto (-22), 3) := by decide +kernel
theorem dX9_freshen_100 : decode cX9_freshen 100 = .ok (.aload_n 0, 1) := by decide +kernel
theorem dX9_freshen_101 : decode cX9_freshen 101 = .ok (.iconst 0, 1) := by decide +kernel
theorem dX9_freshen_102 : decode cX9_freshen 102 = .ok (.putfield 142, 3) := by decide +kernel
theorem dX9_freshen_105 : decode cX9_freshen 105 = .ok (.return_, 1) := by decide +kernel
theorem dX9_isPlace_0 : decode cX9_isPlace 0 = .ok (.aload_n 0, 1) := by decide +kernel
theorem dX9_isPlace_1 : decode cX9_isPlace 1 = .ok (.invokevirtual 222, 3) := by decide +kernel
theorem dX9_isPlace_4 : decode cX9_isPlace 4 = .ok (.ifCond .eq 5, 3) := by decide +kernel
theorem dX9_isPlace_7 : decode cX9_isPlace 7 = .ok (.iconst 0, 1) := by decide +kernel
theorem dX9_isPlace_8 : decode cX9_isPlace 8 = .ok (.ireturn, 1) := by decide +kernel
theorem dX9_isPlace_9 : decode cX9_isPlace 9 = .ok (.aload_n 0, 1) := by decide +kernel
theorem dX9_isPlace_10 : decode cX9_isPlace 10 = .ok (.invokevirtual 226, 3) := by decide +kernel
theorem dX9_isPlace_13 : decode cX9_isPlace 13 = .ok (.iload_n 1, 1) := by decide +kernel
theorem dX9_isPlace_14 : decode cX9_isPlace 14 = .ok (.i2l, 1) := by decide +kernel
theorem dX9_isPlace_15 : decode cX9_isPlace 15 = .ok (.lconst 0, 1) := by decide +kernel
theorem dX9_isPlace_16 : decode cX9_isPlace 16 = .ok (.aload_n 0, 1) := by decide +kernel
theorem dX9_isPlace_17 : decode cX9_isPlace 17 = .ok (.getfield 126, 3) := by decide +kernel
theorem dX9_isPlace_20 : decode cX9_isPlace 20 = .ok (.i2l, 1) := by decide +kernel
theorem dX9_isPlace_21 : decode cX9_isPlace 21 = .ok (.invokestatic 60, 3) := by decide +kernel
theorem dX9_isPlace_24 : decode cX9_isPlace 24 = .ok (.ireturn, 1) := by decide +kernel
theorem dX9_boundOf_0 : decode cX9_boundOf 0 = .ok (.aload_n 0, 1) := by decide +kernel
theorem dX9_boundOf_1 : decode cX9_boundOf 1 = .ok (.getfield 35, 3) := by decide +kernel
theorem dX9_boundOf_4 : decode cX9_boundOf 4 = .ok (.iload_n 1, 1) := by decide +kernel
theorem dX9_boundOf_5 : decode cX9_boundOf 5 = .ok (.iaload, 1) := by decide +kernel
theorem dX9_boundOf_6 : decode cX9_boundOf 6 = .ok (.ifCond .ne 7, 3) := by decide +kernel
theorem dX9_boundOf_9 : decode cX9_boundOf 9 = .ok (.iconst (-1), 1) := by decide +kernel
theorem dX9_boundOf_10 : decode cX9_boundOf 10 = .ok (.goto 13, 3) := by decide +kernel
theorem dX9_boundOf_13 : decode cX9_boundOf 13 = .ok (.bipush 100, 2) := by decide +kernel
theorem dX9_boundOf_15 : decode cX9_boundOf 15 = .ok (.aload_n 0, 1) := by decide +kernel
theorem dX9_boundOf_16 : decode cX9_boundOf 16 = .ok (.iload_n 1, 1) := by decide +kernel
theorem dX9_boundOf_17 : decode cX9_boundOf 17 = .ok (.iload_n 2, 1) := by decide +kernel
theorem dX9_boundOf_18 : decode cX9_boundOf 18 = .ok (.iload_n 3, 1) := by decide +kernel
theorem dX9_boundOf_19 : decode cX9_boundOf 19 = .ok (.invokevirtual 229, 3) := by decide +kernel
theorem dX9_boundOf_22 : decode cX9_boundOf 22 = .ok (.iadd, 1) := by decide +kernel
theorem dX9_boundOf_23 : decode cX9_boundOf 23 = .ok (.ireturn, 1) := by decide +kernel
theorem dX9_bound_0 : decode cX9_bound 0 = .ok (.aload_n 0, 1) := by decide +kernel
theorem dX9_bound_1 : decode cX9_bound 1 = .ok (.iload_n 1, 1) := by decide +kernel
theorem dX9_bound_2 : decode cX9_bound 2 = .ok (.invokevirtual 232, 3) := by decide +kernel
theorem dX9_bound_5 : decode cX9_bound 5 = .ok (.ifCond .ne 6, 3) := by decide +kernel
theorem dX9_bound_8 : decode cX9_bound 8 = .ok (.bipush (-101), 2) := by decide +kernel
theorem dX9_bound_10 : decode cX9_bound 10 = .ok (.ireturn, 1) := by decide +kernel
theorem dX9_bound_11 : decode cX9_bound 11 = .ok (.iload_n 2, 1) := by decide +kernel
theorem dX9_bound_12 : decode cX9_bound 12 = .ok (.i2l, 1) := by decide +kernel
theorem dX9_bound_13 : decode cX9_bound 13 = .ok (.lconst 0, 1) := by decide +kernel
theorem dX9_bound_14 : decode cX9_bound 14 = .ok (.ldc2_w 235, 3) := by decide +kernel
theorem dX9_bound_17 : decode cX9_bound 17 = .ok (.invokestatic 60, 3) := by decide +kernel
theorem dX9_bound_20 : decode cX9_bound 20 = .ok (.ifCond .eq 25, 3) := by decide +kernel
theorem dX9_bound_23 : decode cX9_bound 23 = .ok (.iload_n 3, 1) := by decide +kernel
theorem dX9_bound_24 : decode cX9_bound 24 = .ok (.i2l, 1) := by decide +kernel
theorem dX9_bound_25 : decode cX9_bound 25 = .ok (.lconst 0, 1) := by decide +kernel
theorem dX9_bound_26 : decode cX9_bound 26 = .ok (.ldc2_w 235, 3) := by decide +kernel
theorem dX9_bound_29 : decode cX9_bound 29 = .ok (.invokestatic 60, 3) := by decide +kernel
theorem dX9_bound_32 : decode cX9_bound 32 = .ok (.ifCond .eq 13, 3) := by decide +kernel
theorem dX9_bound_35 : decode cX9_bound 35 = .ok (.aload_n 0, 1) := by decide +kernel
theorem dX9_bound_36 : decode cX9_bound 36 = .ok (.iload_n 1, 1) := by decide +kernel
theorem dX9_bound_37 : decode cX9_bound 37 = .ok (.iload_n 2, 1) := by decide +kernel
theorem dX9_bound_38 : decode cX9_bound 38 = .ok (.iload_n 3, 1) := by decide +kernel
theorem dX9_bound_39 : decode cX9_bound 39 = .ok (.invokevirtual 237, 3) := by decide +kernel
theorem dX9_bound_42 : decode cX9_bound 42 = .ok (.goto 5, 3) := by decide +kernel
theorem dX9_bound_45 : decode cX9_bound 45 = .ok (.bipush (-102), 2) := by decide +kernel
theorem dX9_bound_47 : decode cX9_bound 47 = .ok (.ireturn, 1) := by decide +kernel
theorem dX9_points_0 : decode cX9_points 0 = .ok (.aload_n 0, 1) := by decide +kernel
theorem dX9_points_1 : decode cX9_points 1 = .ok (.iload_n 1, 1) := by decide +kernel
theorem dX9_points_2 : decode cX9_points 2 = .ok (.invokevirtual 232, 3) := by decide +kernel
theorem dX9_points_5 : decode cX9_points 5 = .ok (.ifCond .eq 12, 3) := by decide +kernel
theorem dX9_points_8 : decode cX9_points 8 = .ok (.aload_n 0, 1) := by decide +kernel
theorem dX9_points_9 : decode cX9_points 9 = .ok (.getfield 35, 3) := by decide +kernel
theorem dX9_points_12 : decode cX9_points 12 = .ok (.iload_n 1, 1) := by decide +kernel
theorem dX9_points_13 : decode cX9_points 13 = .ok (.iaload, 1) := by decide +kernel
theorem dX9_points_14 : decode cX9_points 14 = .ok (.goto 5, 3) := by decide +kernel
theorem dX9_points_17 : decode cX9_points 17 = .ok (.bipush (-101), 2) := by decide +kernel
theorem dX9_points_19 : decode cX9_points 19 = .ok (.ireturn, 1) := by decide +kernel
theorem dX9_has_0 : decode cX9_has 0 = .ok (.aload_n 0, 1) := by decide +kernel
theorem dX9_has_1 : decode cX9_has 1 = .ok (.iload_n 1, 1) := by decide +kernel
theorem dX9_has_2 : decode cX9_has 2 = .ok (.invokevirtual 232, 3) := by decide +kernel
theorem dX9_has_5 : decode cX9_has 5 = .ok (.ifCond .ne 6, 3) := by decide +kernel
theorem dX9_has_8 : decode cX9_has 8 = .ok (.bipush (-101), 2) := by decide +kernel
theorem dX9_has_10 : decode cX9_has 10 = .ok (.ireturn, 1) := by decide +kernel
theorem dX9_has_11 : decode cX9_has 11 = .ok (.iload_n 2, 1) := by decide +kernel
theorem dX9_has_12 : decode cX9_has 12 = .ok (.i2l, 1) := by decide +kernel
theorem dX9_has_13 : decode cX9_has 13 = .ok (.ldc2_w 169, 3) := by decide +kernel
theorem dX9_has_16 : decode cX9_has 16 = .ok (.ldc2_w 171, 3) := by decide +kernel
theorem dX9_has_19 : decode cX9_has 19 = .ok (.invokestatic 60, 3) := by decide +kernel
theorem dX9_has_22 : decode cX9_has 22 = .ok (.ifCond .eq 32, 3) := by decide +kernel
theorem dX9_has_25 : decode cX9_has 25 = .ok (.iload_n 3, 1) := by decide +kernel
theorem dX9_has_26 : decode cX9_has 26 = .ok (.i2l, 1) := by decide +kernel
theorem dX9_has_27 : decode cX9_has 27 = .ok (.ldc2_w 169, 3) := by decide +kernel
theorem dX9_has_30 : decode cX9_has 30 = .ok (.ldc2_w 171, 3) := by decide +kernel
theorem dX9_has_33 : decode cX9_has 33 = .ok (.invokestatic 60, 3) := by decide +kernel
theorem dX9_has_36 : decode cX9_has 36 = .ok (.ifCond .eq 18, 3) := by decide +kernel
theorem dX9_has_39 : decode cX9_has 39 = .ok (.iload 4, 2) := by decide +kernel
theorem dX9_has_41 : decode cX9_has 41 = .ok (.i2l, 1) := by decide +kernel
theorem dX9_has_42 : decode cX9_has 42 = .ok (.ldc2_w 169, 3) := by decide +kernel
theorem dX9_has_45 : decode cX9_has 45 = .ok (.ldc2_w 171, 3) := by decide +kernel
theorem dX9_has_48 : decode cX9_has 48 = .ok (.invokestatic 60, 3) := by decide +kernel
theorem dX9_has_51 : decode cX9_has 51 = .ok (.ifCond .ne 6, 3) := by decide +kernel
theorem dX9_has_54 : decode cX9_has 54 = .ok (.bipush (-102), 2) := by decide +kernel
theorem dX9_has_56 : decode cX9_has 56 = .ok (.ireturn, 1) := by decide +kernel
theorem dX9_has_57 : decode cX9_has 57 = .ok (.aload_n 0, 1) := by decide +kernel
theorem dX9_has_58 : decode cX9_has 58 = .ok (.getfield 20, 3) := by decide +kernel
theorem dX9_has_61 : decode cX9_has 61 = .ok (.sipush 4913, 3) := by decide +kernel
theorem dX9_has_64 : decode cX9_has 64 = .ok (.iload_n 1, 1) := by decide +kernel
theorem dX9_has_65 : decode cX9_has 65 = .ok (.imul, 1) := by decide +kernel
theorem dX9_has_66 : decode cX9_has 66 = .ok (.iload_n 2, 1) := by decide +kernel
theorem dX9_has_67 : decode cX9_has 67 = .ok (.iload_n 3, 1) := by decide +kernel
theorem dX9_has_68 : decode cX9_has 68 = .ok (.iload 4, 2) := by decide +kernel
theorem dX9_has_70 : decode cX9_has 70 = .ok (.invokestatic 240, 3) := by decide +kernel
theorem dX9_has_73 : decode cX9_has 73 = .ok (.iadd, 1) := by decide +kernel
theorem dX9_has_74 : decode cX9_has 74 = .ok (.iaload, 1) := by decide +kernel
theorem dX9_has_75 : decode cX9_has 75 = .ok (.ireturn, 1) := by decide +kernel
theorem dX9_bitsOf_0 : decode cX9_bitsOf 0 = .ok (.iload_n 0, 1) := by decide +kernel
theorem dX9_bitsOf_1 : decode cX9_bitsOf 1 = .ok (.ifCond .ne 5, 3) := by decide +kernel
theorem dX9_bitsOf_4 : decode cX9_bitsOf 4 = .ok (.lconst 0, 1) := by decide +kernel
theorem dX9_bitsOf_5 : decode cX9_bitsOf 5 = .ok (.lreturn, 1) := by decide +kernel
theorem dX9_bitsOf_6 : decode cX9_bitsOf 6 = .ok (.iload_n 0, 1) := by decide +kernel
theorem dX9_bitsOf_7 : decode cX9_bitsOf 7 = .ok (.i2l, 1) := by decide +kernel
theorem dX9_bitsOf_8 : decode cX9_bitsOf 8 = .ok (.lstore_n 1, 1) := by decide +kernel
theorem dX9_bitsOf_9 : decode cX9_bitsOf 9 = .ok (.ldc2_w 243, 3) := by decide +kernel
theorem dX9_bitsOf_12 : decode cX9_bitsOf 12 = .ok (.lstore_n 3, 1) := by decide +kernel
theorem dX9_bitsOf_13 : decode cX9_bitsOf 13 = .ok (.lload_n 1, 1) := by decide +kernel
theorem dX9_bitsOf_14 : decode cX9_bitsOf 14 = .ok (.ldc2_w 245, 3) := by decide +kernel
theorem dX9_bitsOf_17 : decode cX9_bitsOf 17 = .ok (.lcmp, 1) := by decide +kernel
theorem dX9_bitsOf_18 : decode cX9_bitsOf 18 = .ok (.ifCond .ge 16, 3) := by decide +kernel
theorem dX9_bitsOf_21 : decode cX9_bitsOf 21 = .ok (.lload_n 1, 1) := by decide +kernel
theorem dX9_bitsOf_22 : decode cX9_bitsOf 22 = .ok (.ldc2_w 247, 3) := by decide +kernel
theorem dX9_bitsOf_25 : decode cX9_bitsOf 25 = .ok (.lmul, 1) := by decide +kernel
theorem dX9_bitsOf_26 : decode cX9_bitsOf 26 = .ok (.lstore_n 1, 1) := by decide +kernel
theorem dX9_bitsOf_27 : decode cX9_bitsOf 27 = .ok (.lload_n 3, 1) := by decide +kernel
theorem dX9_bitsOf_28 : decode cX9_bitsOf 28 = .ok (.lconst 1, 1) := by decide +kernel
theorem dX9_bitsOf_29 : decode cX9_bitsOf 29 = .ok (.lsub, 1) := by decide +kernel
theorem dX9_bitsOf_30 : decode cX9_bitsOf 30 = .ok (.lstore_n 3, 1) := by decide +kernel
theorem dX9_bitsOf_31 : decode cX9_bitsOf 31 = .ok (.goto (-18), 3) := by decide +kernel
theorem dX9_bitsOf_34 : decode cX9_bitsOf 34 = .ok (.iconst 0, 1) := by decide +kernel
theorem dX9_bitsOf_35 : decode cX9_bitsOf 35 = .ok (.istore 5, 2) := by decide +kernel
theorem dX9_bitsOf_37 : decode cX9_bitsOf 37 = .ok (.iload 5, 2) := by decide +kernel
theorem dX9_bitsOf_39 : decode cX9_bitsOf 39 = .ok (.bipush 40, 2) := by decide +kernel
theorem dX9_bitsOf_41 : decode cX9_bitsOf 41 = .ok (.if_icmp .ge 15, 3) := by decide +kernel
theorem dX9_bitsOf_44 : decode cX9_bitsOf 44 = .ok (.lload_n 1, 1) := by decide +kernel
theorem dX9_bitsOf_45 : decode cX9_bitsOf 45 = .ok (.ldc2_w 247, 3) := by decide +kernel
theorem dX9_bitsOf_48 : decode cX9_bitsOf 48 = .ok (.lmul, 1) := by decide +kernel
theorem dX9_bitsOf_49 : decode cX9_bitsOf 49 = .ok (.lstore_n 1, 1) := by decide +kernel
theorem dX9_bitsOf_50 : decode cX9_bitsOf 50 = .ok (.iinc 5 1, 3) := by decide +kernel
theorem dX9_bitsOf_53 : decode cX9_bitsOf 53 = .ok (.goto (-16), 3) := by decide +kernel
theorem dX9_bitsOf_56 : decode cX9_bitsOf 56 = .ok (.lload_n 1, 1) := by decide +kernel
theorem dX9_bitsOf_57 : decode cX9_bitsOf 57 = .ok (.ldc2_w 245, 3) := by decide +kernel
theorem dX9_bitsOf_60 : decode cX9_bitsOf 60 = .ok (.ldiv, 1) := by decide +kernel
theorem dX9_bitsOf_61 : decode cX9_bitsOf 61 = .ok (.lstore 5, 2) := by decide +kernel
theorem dX9_bitsOf_63 : decode cX9_bitsOf 63 = .ok (.lload_n 1, 1) := by decide +kernel
theorem dX9_bitsOf_64 : decode cX9_bitsOf 64 = .ok (.ldc2_w 245, 3) := by decide +kernel
theorem dX9_bitsOf_67 : decode cX9_bitsOf 67 = .ok (.lrem, 1) := by decide +kernel
theorem dX9_bitsOf_68 : decode cX9_bitsOf 68 = .ok (.lstore 7, 2) := by decide +kernel
theorem dX9_bitsOf_70 : decode cX9_bitsOf 70 = .ok (.iconst 0, 1) := by decide +kernel
theorem dX9_bitsOf_71 : decode cX9_bitsOf 71 = .ok (.istore 9, 2) := by decide +kernel
theorem dX9_bitsOf_73 : decode cX9_bitsOf 73 = .ok (.iload 9, 2) := by decide +kernel
theorem dX9_bitsOf_75 : decode cX9_bitsOf 75 = .ok (.bipush 12, 2) := by decide +kernel
theorem dX9_bitsOf_77 : decode cX9_bitsOf 77 = .ok (.if_icmp .ge 61, 3) := by decide +kernel
theorem dX9_bitsOf_80 : decode cX9_bitsOf 80 = .ok (.lload 7, 2) := by decide +kernel
theorem dX9_bitsOf_82 : decode cX9_bitsOf 82 = .ok (.ldc2_w 247, 3) := by decide +kernel
theorem dX9_bitsOf_85 : decode cX9_bitsOf 85 = .ok (.lmul, 1) := by decide +kernel
theorem dX9_bitsOf_86 : decode cX9_bitsOf 86 = .ok (.lstore 7, 2) := by decide +kernel
theorem dX9_bitsOf_88 : decode cX9_bitsOf 88 = .ok (.ldc2_w 247, 3) := by decide +kernel
theorem dX9_bitsOf_91 : decode cX9_bitsOf 91 = .ok (.lload 5, 2) := by decide +kernel
theorem dX9_bitsOf_93 : decode cX9_bitsOf 93 = .ok (.lmul, 1) := by decide +kernel
theorem dX9_bitsOf_94 : decode cX9_bitsOf 94 = .ok (.lload 7, 2) := by decide +kernel
theorem dX9_bitsOf_96 : decode cX9_bitsOf 96 = .ok (.ldc2_w 245, 3) := by decide +kernel
theorem dX9_bitsOf_99 : decode cX9_bitsOf 99 = .ok (.lcmp, 1) := by decide +kernel
theorem dX9_bitsOf_100 : decode cX9_bitsOf 100 = .ok (.ifCond .lt 7, 3) := by decide +kernel
theorem dX9_bitsOf_103 : decode cX9_bitsOf 103 = .ok (.lconst 1, 1) := by decide +kernel
theorem dX9_bitsOf_104 : decode cX9_bitsOf 104 = .ok (.goto 4, 3) := by decide +kernel
theorem dX9_bitsOf_107 : decode cX9_bitsOf 107 = .ok (.lconst 0, 1) := by decide +kernel
theorem dX9_bitsOf_108 : decode cX9_bitsOf 108 = .ok (.ladd, 1) := by decide +kernel
theorem dX9_bitsOf_109 : decode cX9_bitsOf 109 = .ok (.lstore 5, 2) := by decide +kernel
theorem dX9_bitsOf_111 : decode cX9_bitsOf 111 = .ok (.lload 7, 2) := by decide +kernel
theorem dX9_bitsOf_113 : decode cX9_bitsOf 113 = .ok (.lload 7, 2) := by decide +kernel
theorem dX9_bitsOf_115 : decode cX9_bitsOf 115 = .ok (.ldc2_w 245, 3) := by decide +kernel
theorem dX9_bitsOf_118 : decode cX9_bitsOf 118 = .ok (.lcmp, 1) := by decide +kernel
theorem dX9_bitsOf_119 : decode cX9_bitsOf 119 = .ok (.ifCond .lt 9, 3) := by decide +kernel
theorem dX9_bitsOf_122 : decode cX9_bitsOf 122 = .ok (.ldc2_w 245, 3) := by decide +kernel
theorem dX9_bitsOf_125 : decode cX9_bitsOf 125 = .ok (.goto 4, 3) := by decide +kernel
theorem dX9_bitsOf_128 : decode cX9_bitsOf 128 = .ok (.lconst 0, 1) := by decide +kernel
theorem dX9_bitsOf_129 : decode cX9_bitsOf 129 = .ok (.lsub, 1) := by decide +kernel
theorem dX9_bitsOf_130 : decode cX9_bitsOf 130 = .ok (.lstore 7, 2) := by decide +kernel
theorem dX9_bitsOf_132 : decode cX9_bitsOf 132 = .ok (.iinc 9 1, 3) := by decide +kernel
theorem dX9_bitsOf_135 : decode cX9_bitsOf 135 = .ok (.goto (-62), 3) := by decide +kernel
theorem dX9_bitsOf_138 : decode cX9_bitsOf 138 = .ok (.lload 5, 2) := by decide +kernel
theorem dX9_bitsOf_140 : decode cX9_bitsOf 140 = .ok (.ldc2_w 247, 3) := by decide +kernel
theorem dX9_bitsOf_143 : decode cX9_bitsOf 143 = .ok (.lload 7, 2) := by decide +kernel
theorem dX9_bitsOf_145 : decode cX9_bitsOf 145 = .ok (.lmul, 1) := by decide +kernel
theorem dX9_bitsOf_146 : decode cX9_bitsOf 146 = .ok (.ldc2_w 245, 3) := by decide +kernel
theorem dX9_bitsOf_149 : decode cX9_bitsOf 149 = .ok (.lcmp, 1) := by decide +kernel
theorem dX9_bitsOf_150 : decode cX9_bitsOf 150 = .ok (.ifCond .gt 27, 3) := by decide +kernel
theorem dX9_bitsOf_153 : decode cX9_bitsOf 153 = .ok (.ldc2_w 247, 3) := by decide +kernel
theorem dX9_bitsOf_156 : decode cX9_bitsOf 156 = .ok (.lload 7, 2) := by decide +kernel
theorem dX9_bitsOf_158 : decode cX9_bitsOf 158 = .ok (.lmul, 1) := by decide +kernel
theorem dX9_bitsOf_159 : decode cX9_bitsOf 159 = .ok (.ldc2_w 245, 3) := by decide +kernel
theorem dX9_bitsOf_162 : decode cX9_bitsOf 162 = .ok (.lcmp, 1) := by decide +kernel
theorem dX9_bitsOf_163 : decode cX9_bitsOf 163 = .ok (.ifCond .ne 18, 3) := by decide +kernel
theorem dX9_bitsOf_166 : decode cX9_bitsOf 166 = .ok (.lload 5, 2) := by decide +kernel
theorem dX9_bitsOf_168 : decode cX9_bitsOf 168 = .ok (.ldc2_w 247, 3) := by decide +kernel
theorem dX9_bitsOf_171 : decode cX9_bitsOf 171 = .ok (.lrem, 1) := by decide +kernel
theorem dX9_bitsOf_172 : decode cX9_bitsOf 172 = .ok (.lconst 1, 1) := by decide +kernel
theorem dX9_bitsOf_173 : decode cX9_bitsOf 173 = .ok (.lcmp, 1) := by decide +kernel
theorem dX9_bitsOf_174 : decode cX9_bitsOf 174 = .ok (.ifCond .ne 7, 3) := by decide +kernel
theorem dX9_bitsOf_177 : decode cX9_bitsOf 177 = .ok (.lconst 1, 1) := by decide +kernel
theorem dX9_bitsOf_178 : decode cX9_bitsOf 178 = .ok (.goto 4, 3) := by decide +kernel
theorem dX9_bitsOf_181 : decode cX9_bitsOf 181 = .ok (.lconst 0, 1) := by decide +kernel
theorem dX9_bitsOf_182 : decode cX9_bitsOf 182 = .ok (.ladd, 1) := by decide +kernel
theorem dX9_bitsOf_183 : decode cX9_bitsOf 183 = .ok (.lstore 5, 2) := by decide +kernel
theorem dX9_bitsOf_185 : decode cX9_bitsOf 185 = .ok (.lload_n 3, 1) := by decide +kernel
theorem dX9_bitsOf_186 : decode cX9_bitsOf 186 = .ok (.bipush 52, 2) := by decide +kernel
theorem dX9_bitsOf_188 : decode cX9_bitsOf 188 = .ok (.lshl, 1) := by decide +kernel
theorem dX9_bitsOf_189 : decode cX9_bitsOf 189 = .ok (.lload 5, 2) := by decide +kernel
theorem dX9_bitsOf_191 : decode cX9_bitsOf 191 = .ok (.ladd, 1) := by decide +kernel
theorem dX9_bitsOf_192 : decode cX9_bitsOf 192 = .ok (.ldc2_w 249, 3) := by decide +kernel
theorem dX9_bitsOf_195 : decode cX9_bitsOf 195 = .ok (.lsub, 1) := by decide +kernel
theorem dX9_bitsOf_196 : decode cX9_bitsOf 196 = .ok (.lreturn, 1) := by decide +kernel
theorem dX9_share_0 : decode cX9_share 0 = .ok (.aload_n 0, 1) := by decide +kernel
theorem dX9_share_1 : decode cX9_share 1 = .ok (.iload_n 1, 1) := by decide +kernel
theorem dX9_share_2 : decode cX9_share 2 = .ok (.invokevirtual 232, 3) := by decide +kernel
theorem dX9_share_5 : decode cX9_share 5 = .ok (.ifCond .eq 15, 3) := by decide +kernel
theorem dX9_share_8 : decode cX9_share 8 = .ok (.aload_n 0, 1) := by decide +kernel
theorem dX9_share_9 : decode cX9_share 9 = .ok (.getfield 35, 3) := by decide +kernel
theorem dX9_share_12 : decode cX9_share 12 = .ok (.iload_n 1, 1) := by decide +kernel
theorem dX9_share_13 : decode cX9_share 13 = .ok (.iaload, 1) := by decide +kernel
theorem dX9_share_14 : decode cX9_share 14 = .ok (.invokestatic 251, 3) := by decide +kernel
theorem dX9_share_17 : decode cX9_share 17 = .ok (.goto 6, 3) := by decide +kernel
theorem dX9_share_20 : decode cX9_share 20 = .ok (.ldc2_w 255, 3) := by decide +kernel
theorem dX9_share_23 : decode cX9_share 23 = .ok (.lreturn, 1) := by decide +kernel
theorem dX9_compareOf_0 : decode cX9_compareOf 0 = .ok (.iconst 1, 1) := by decide +kernel
theorem dX9_compareOf_1 : decode cX9_compareOf 1 = .ok (.istore_n 3, 1) := by decide +kernel
theorem dX9_compareOf_2 : decode cX9_compareOf 2 = .ok (.iconst 1, 1) := by decide +kernel
theorem dX9_compareOf_3 : decode cX9_compareOf 3 = .ok (.istore 4, 2) := by decide +kernel
theorem dX9_compareOf_5 : decode cX9_compareOf 5 = .ok (.iconst 0, 1) := by decide +kernel
theorem dX9_compareOf_6 : decode cX9_compareOf 6 = .ok (.istore 5, 2) := by decide +kernel
theorem dX9_compareOf_8 : decode cX9_compareOf 8 = .ok (.iconst 0, 1) := by decide +kernel
theorem dX9_compareOf_9 : decode cX9_compareOf 9 = .ok (.istore 6, 2) := by decide +kernel
theorem dX9_compareOf_11 : decode cX9_compareOf 11 = .ok (.iload 6, 2) := by decide +kernel
theorem dX9_compareOf_13 : decode cX9_compareOf 13 = .ok (.sipush 4913, 3) := by decide +kernel
theorem dX9_compareOf_16 : decode cX9_compareOf 16 = .ok (.if_icmp .ge 96, 3) := by decide +kernel
theorem dX9_compareOf_19 : decode cX9_compareOf 19 = .ok (.aload_n 0, 1) := by decide +kernel
theorem dX9_compareOf_20 : decode cX9_compareOf 20 = .ok (.getfield 20, 3) := by decide +kernel
theorem dX9_compareOf_23 : decode cX9_compareOf 23 = .ok (.sipush 4913, 3) := by decide +kernel
theorem dX9_compareOf_26 : decode cX9_compareOf 26 = .ok (.iload_n 1, 1) := by decide +kernel
theorem dX9_compareOf_27 : decode cX9_compareOf 27 = .ok (.imul, 1) := by decide +kernel
theorem dX9_compareOf_28 : decode cX9_compareOf 28 = .ok (.iload 6, 2) := by decide +kernel
theorem dX9_compareOf_30 : decode cX9_compareOf 30 = .ok (.iadd, 1) := by decide +kernel
theorem dX9_compareOf_31 : decode cX9_compareOf 31 = .ok (.iaload, 1) := by decide +kernel
theorem dX9_compareOf_32 : decode cX9_compareOf 32 = .ok (.istore 7, 2) := by decide +kernel
theorem dX9_compareOf_34 : decode cX9_compareOf 34 = .ok (.aload_n 0, 1) := by decide +kernel
theorem dX9_compareOf_35 : decode cX9_compareOf 35 = .ok (.getfield 20, 3) := by decide +kernel
theorem dX9_compareOf_38 : decode cX9_compareOf 38 = .ok (.sipush 4913, 3) := by decide +kernel
theorem dX9_compareOf_41 : decode cX9_compareOf 41 = .ok (.iload_n 2, 1) := by decide +kernel
theorem dX9_compareOf_42 : decode cX9_compareOf 42 = .ok (.imul, 1) := by decide +kernel
theorem dX9_compareOf_43 : decode cX9_compareOf 43 = .ok (.iload 6, 2) := by decide +kernel
theorem dX9_compareOf_45 : decode cX9_compareOf 45 = .ok (.iadd, 1) := by decide +kernel
theorem dX9_compareOf_46 : decode cX9_compareOf 46 = .ok (.iaload, 1) := by decide +kernel
theorem dX9_compareOf_47 : decode cX9_compareOf 47 = .ok (.istore 8, 2) := by decide +kernel
theorem dX9_compareOf_49 : decode cX9_compareOf 49 = .ok (.iload_n 3, 1) := by decide +kernel
theorem dX9_compareOf_50 : decode cX9_compareOf 50 = .ok (.ifCond .eq 14, 3) := by decide +kernel
theorem dX9_compareOf_53 : decode cX9_compareOf 53 = .ok (.iload 7, 2) := by decide +kernel
theorem dX9_compareOf_55 : decode cX9_compareOf 55 = .ok (.iload 8, 2) := by decide +kernel
theorem dX9_compareOf_57 : decode cX9_compareOf 57 = .ok (.if_icmp .gt 7, 3) := by decide +kernel
theorem dX9_compareOf_60 : decode cX9_compareOf 60 = .ok (.iconst 1, 1) := by decide +kernel
theorem dX9_compareOf_61 : decode cX9_compareOf 61 = .ok (.goto 4, 3) := by decide +kernel
theorem dX9_compareOf_64 : decode cX9_compareOf 64 = .ok (.iconst 0, 1) := by decide +kernel
theorem dX9_compareOf_65 : decode cX9_compareOf 65 = .ok (.istore_n 3, 1) := by decide +kernel
theorem dX9_compareOf_66 : decode cX9_compareOf 66 = .ok (.iload 4, 2) := by decide +kernel
theorem dX9_compareOf_68 : decode cX9_compareOf 68 = .ok (.ifCond .eq 14, 3) := by decide +kernel
theorem dX9_compareOf_71 : decode cX9_compareOf 71 = .ok (.iload 8, 2) := by decide +kernel
theorem dX9_compareOf_73 : decode cX9_compareOf 73 = .ok (.iload 7, 2) := by decide +kernel
theorem dX9_compareOf_75 : decode cX9_compareOf 75 = .ok (.if_icmp .gt 7, 3) := by decide +kernel
theorem dX9_compareOf_78 : decode cX9_compareOf 78 = .ok (.iconst 1, 1) := by decide +kernel
theorem dX9_compareOf_79 : decode cX9_compareOf 79 = .ok (.goto 4, 3) := by decide +kernel
theorem dX9_compareOf_82 : decode cX9_compareOf 82 = .ok (.iconst 0, 1) := by decide +kernel
theorem dX9_compareOf_83 : decode cX9_compareOf 83 = .ok (.istore 4, 2) := by decide +kernel
theorem dX9_compareOf_85 : decode cX9_compareOf 85 = .ok (.iload 5, 2) := by decide +kernel
theorem dX9_compareOf_87 : decode cX9_compareOf 87 = .ok (.ifCond .ne 12, 3) := by decide +kernel
theorem dX9_compareOf_90 : decode cX9_compareOf 90 = .ok (.iload 7, 2) := by decide +kernel
theorem dX9_compareOf_92 : decode cX9_compareOf 92 = .ok (.iload 8, 2) := by decide +kernel
theorem dX9_compareOf_94 : decode cX9_compareOf 94 = .ok (.iadd, 1) := by decide +kernel
theorem dX9_compareOf_95 : decode cX9_compareOf 95 = .ok (.iconst 2, 1) := by decide +kernel
theorem dX9_compareOf_96 : decode cX9_compareOf 96 = .ok (.if_icmp .ne 7, 3) := by decide +kernel
theorem dX9_compareOf_99 : decode cX9_compareOf 99 = .ok (.iconst 1, 1) := by decide +kernel
theorem dX9_compareOf_100 : decode cX9_compareOf 100 = .ok (.goto 4, 3) := by decide +kernel
theorem dX9_compareOf_103 : decode cX9_compareOf 103 = .ok (.iconst 0, 1) := by decide +kernel
theorem dX9_compareOf_104 : decode cX9_compareOf 104 = .ok (.istore 5, 2) := by decide +kernel
theorem dX9_compareOf_106 : decode cX9_compareOf 106 = .ok (.iinc 6 1, 3) := by decide +kernel
theorem dX9_compareOf_109 : decode cX9_compareOf 109 = .ok (.goto (-98), 3) := by decide +kernel
theorem dX9_compareOf_112 : decode cX9_compareOf 112 = .ok (.iload_n 3, 1) := by decide +kernel
theorem dX9_compareOf_113 : decode cX9_compareOf 113 = .ok (.ifCond .eq 12, 3) := by decide +kernel
theorem dX9_compareOf_116 : decode cX9_compareOf 116 = .ok (.iload 4, 2) := by decide +kernel
theorem dX9_compareOf_118 : decode cX9_compareOf 118 = .ok (.ifCond .eq 7, 3) := by decide +kernel
theorem dX9_compareOf_121 : decode cX9_compareOf 121 = .ok (.iconst 0, 1) := by decide +kernel
theorem dX9_compareOf_122 : decode cX9_compareOf 122 = .ok (.goto 30, 3) := by decide +kernel
theorem dX9_compareOf_125 : decode cX9_compareOf 125 = .ok (.iload_n 3, 1) := by decide +kernel
theorem dX9_compareOf_126 : decode cX9_compareOf 126 = .ok (.ifCond .eq 7, 3) := by decide +kernel
theorem dX9_compareOf_129 : decode cX9_compareOf 129 = .ok (.iconst 1, 1) := by decide +kernel
theorem dX9_compareOf_130 : decode cX9_compareOf 130 = .ok (.goto 22, 3) := by decide +kernel
theorem dX9_compareOf_133 : decode cX9_compareOf 133 = .ok (.iload 4, 2) := by decide +kernel
theorem dX9_compareOf_135 : decode cX9_compareOf 135 = .ok (.ifCond .eq 7, 3) := by decide +kernel
theorem dX9_compareOf_138 : decode cX9_compareOf 138 = .ok (.iconst 2, 1) := by decide +kernel
theorem dX9_compareOf_139 : decode cX9_compareOf 139 = .ok (.goto 13, 3) := by decide +kernel
theorem dX9_compareOf_142 : decode cX9_compareOf 142 = .ok (.iload 5, 2) := by decide +kernel
theorem dX9_compareOf_144 : decode cX9_compareOf 144 = .ok (.ifCond .eq 7, 3) := by decide +kernel
theorem dX9_compareOf_147 : decode cX9_compareOf 147 = .ok (.iconst 3, 1) := by decide +kernel
theorem dX9_compareOf_148 : decode cX9_compareOf 148 = .ok (.goto 4, 3) := by decide +kernel
theorem dX9_compareOf_151 : decode cX9_compareOf 151 = .ok (.iconst 4, 1) := by decide +kernel
theorem dX9_compareOf_152 : decode cX9_compareOf 152 = .ok (.ireturn, 1) := by decide +kernel
theorem dX9_compare_0 : decode cX9_compare 0 = .ok (.aload_n 0, 1) := by decide +kernel
theorem dX9_compare_1 : decode cX9_compare 1 = .ok (.iload_n 1, 1) := by decide +kernel
theorem dX9_compare_2 : decode cX9_compare 2 = .ok (.invokevirtual 232, 3) := by decide +kernel
theorem dX9_compare_5 : decode cX9_compare 5 = .ok (.ifCond .eq 20, 3) := by decide +kernel
theorem dX9_compare_8 : decode cX9_compare 8 = .ok (.aload_n 0, 1) := by decide +kernel
theorem dX9_compare_9 : decode cX9_compare 9 = .ok (.iload_n 2, 1) := by decide +kernel
theorem dX9_compare_10 : decode cX9_compare 10 = .ok (.invokevirtual 232, 3) := by decide +kernel
theorem dX9_compare_13 : decode cX9_compare 13 = .ok (.ifCond .eq 12, 3) := by decide +kernel
theorem dX9_compare_16 : decode cX9_compare 16 = .ok (.aload_n 0, 1) := by decide +kernel
theorem dX9_compare_17 : decode cX9_compare 17 = .ok (.iload_n 1, 1) := by decide +kernel
theorem dX9_compare_18 : decode cX9_compare 18 = .ok (.iload_n 2, 1) := by decide +kernel
theorem dX9_compare_19 : decode cX9_compare 19 = .ok (.invokevirtual 257, 3) := by decide +kernel
theorem dX9_compare_22 : decode cX9_compare 22 = .ok (.goto 5, 3) := by decide +kernel
theorem dX9_compare_25 : decode cX9_compare 25 = .ok (.bipush (-101), 2) := by decide +kernel
theorem dX9_compare_27 : decode cX9_compare 27 = .ok (.ireturn, 1) := by decide +kernel
theorem dX9_dead_0 : decode cX9_dead 0 = .ok (.aload_n 0, 1) := by decide +kernel
theorem dX9_dead_1 : decode cX9_dead 1 = .ok (.getfield 35, 3) := by decide +kernel
theorem dX9_dead_4 : decode cX9_dead 4 = .ok (.iload_n 1, 1) := by decide +kernel
theorem dX9_dead_5 : decode cX9_dead 5 = .ok (.iaload, 1) := by decide +kernel
theorem dX9_dead_6 : decode cX9_dead 6 = .ok (.ifCond .ne 7, 3) := by decide +kernel
theorem dX9_dead_9 : decode cX9_dead 9 = .ok (.iconst 1, 1) := by decide +kernel
theorem dX9_dead_10 : decode cX9_dead 10 = .ok (.goto 4, 3) := by decide +kernel
theorem dX9_dead_13 : decode cX9_dead 13 = .ok (.iconst 0, 1) := by decide +kernel
theorem dX9_dead_14 : decode cX9_dead 14 = .ok (.ireturn, 1) := by decide +kernel
theorem dX9_idle_0 : decode cX9_idle 0 = .ok (.aload_n 0, 1) := by decide +kernel
theorem dX9_idle_1 : decode cX9_idle 1 = .ok (.iload_n 1, 1) := by decide +kernel
theorem dX9_idle_2 : decode cX9_idle 2 = .ok (.invokevirtual 146, 3) := by decide +kernel
theorem dX9_idle_5 : decode cX9_idle 5 = .ok (.iconst 4, 1) := by decide +kernel
theorem dX9_idle_6 : decode cX9_idle 6 = .ok (.if_icmp .eq 44, 3) := by decide +kernel
theorem dX9_idle_9 : decode cX9_idle 9 = .ok (.aload_n 0, 1) := by decide +kernel
theorem dX9_idle_10 : decode cX9_idle 10 = .ok (.getfield 35, 3) := by decide +kernel
theorem dX9_idle_13 : decode cX9_idle 13 = .ok (.iload_n 1, 1) := by decide +kernel
theorem dX9_idle_14 : decode cX9_idle 14 = .ok (.iaload, 1) := by decide +kernel
theorem dX9_idle_15 : decode cX9_idle 15 = .ok (.ifCond .le 35, 3) := by decide +kernel
theorem dX9_idle_18 : decode cX9_idle 18 = .ok (.aload_n 0, 1) := by decide +kernel
theorem dX9_idle_19 : decode cX9_idle 19 = .ok (.getfield 35, 3) := by decide +kernel
theorem dX9_idle_22 : decode cX9_idle 22 = .ok (.iload_n 1, 1) := by decide +kernel
theorem dX9_idle_23 : decode cX9_idle 23 = .ok (.iaload, 1) := by decide +kernel
theorem dX9_idle_24 : decode cX9_idle 24 = .ok (.aload_n 0, 1) := by decide +kernel
theorem dX9_idle_25 : decode cX9_idle 25 = .ok (.getfield 35, 3) := by decide +kernel
theorem dX9_idle_28 : decode cX9_idle 28 = .ok (.iload_n 1, 1) := by decide +kernel
theorem dX9_idle_29 : decode cX9_idle 29 = .ok (.iconst 1, 1) := by decide +kernel
theorem dX9_idle_30 : decode cX9_idle 30 = .ok (.iadd, 1) := by decide +kernel
theorem dX9_idle_31 : decode cX9_idle 31 = .ok (.iaload, 1) := by decide +kernel
theorem dX9_idle_32 : decode cX9_idle 32 = .ok (.if_icmp .ne 18, 3) := by decide +kernel
theorem dX9_idle_35 : decode cX9_idle 35 = .ok (.aload_n 0, 1) := by decide +kernel
theorem dX9_idle_36 : decode cX9_idle 36 = .ok (.iload_n 1, 1) := by decide +kernel
theorem dX9_idle_37 : decode cX9_idle 37 = .ok (.iload_n 1, 1) := by decide +kernel
theorem dX9_idle_38 : decode cX9_idle 38 = .ok (.iconst 1, 1) := by decide +kernel
theorem dX9_idle_39 : decode cX9_idle 39 = .ok (.iadd, 1) := by decide +kernel
theorem dX9_idle_40 : decode cX9_idle 40 = .ok (.invokevirtual 208, 3) := by decide +kernel
theorem dX9_idle_43 : decode cX9_idle 43 = .ok (.ifCond .eq 7, 3) := by decide +kernel
theorem dX9_idle_46 : decode cX9_idle 46 = .ok (.iconst 1, 1) := by decide +kernel
theorem dX9_idle_47 : decode cX9_idle 47 = .ok (.goto 4, 3) := by decide +kernel
theorem dX9_idle_50 : decode cX9_idle 50 = .ok (.iconst 0, 1) := by decide +kernel
theorem dX9_idle_51 : decode cX9_idle 51 = .ok (.ireturn, 1) := by decide +kernel
theorem dX9_tellStep_0 : decode cX9_tellStep 0 = .ok (.aload_n 0, 1) := by decide +kernel
theorem dX9_tellStep_1 : decode cX9_tellStep 1 = .ok (.invokevirtual 226, 3) := by decide +kernel
theorem dX9_tellStep_4 : decode cX9_tellStep 4 = .ok (.iload_n 2, 1) := by decide +kernel
theorem dX9_tellStep_5 : decode cX9_tellStep 5 = .ok (.tableswitch 112 0 8 #[51, 51, 51, 51, 62, 68, 94, 100, 106], 51) := by decide +kernel
theorem dX9_tellStep_56 : decode cX9_tellStep 56 = .ok (.aload_n 0, 1) := by decide +kernel
theorem dX9_tellStep_57 : decode cX9_tellStep 57 = .ok (.getfield 16, 3) := by decide +kernel
theorem dX9_tellStep_60 : decode cX9_tellStep 60 = .ok (.iconst 4, 1) := by decide +kernel
theorem dX9_tellStep_61 : decode cX9_tellStep 61 = .ok (.iload_n 1, 1) := by decide +kernel
theorem dX9_tellStep_62 : decode cX9_tellStep 62 = .ok (.imul, 1) := by decide +kernel
theorem dX9_tellStep_63 : decode cX9_tellStep 63 = .ok (.iload_n 2, 1) := by decide +kernel
theorem dX9_tellStep_64 : decode cX9_tellStep 64 = .ok (.iadd, 1) := by decide +kernel
theorem dX9_tellStep_65 : decode cX9_tellStep 65 = .ok (.iaload, 1) := by decide +kernel
theorem dX9_tellStep_66 : decode cX9_tellStep 66 = .ok (.ireturn, 1) := by decide +kernel
theorem dX9_tellStep_67 : decode cX9_tellStep 67 = .ok (.aload_n 0, 1) := by decide +kernel
theorem dX9_tellStep_68 : decode cX9_tellStep 68 = .ok (.iload_n 1, 1) := by decide +kernel
theorem dX9_tellStep_69 : decode cX9_tellStep 69 = .ok (.invokevirtual 260, 3) := by decide +kernel
theorem dX9_tellStep_72 : decode cX9_tellStep 72 = .ok (.ireturn, 1) := by decide +kernel
theorem dX9_tellStep_73 : decode cX9_tellStep 73 = .ok (.aload_n 0, 1) := by decide +kernel
theorem dX9_tellStep_74 : decode cX9_tellStep 74 = .ok (.getfield 35, 3) := by decide +kernel
theorem dX9_tellStep_77 : decode cX9_tellStep 77 = .ok (.iload_n 1, 1) := by decide +kernel
theorem dX9_tellStep_78 : decode cX9_tellStep 78 = .ok (.iaload, 1) := by decide +kernel
theorem dX9_tellStep_79 : decode cX9_tellStep 79 = .ok (.ifCond .le 18, 3) := by decide +kernel
theorem dX9_tellStep_82 : decode cX9_tellStep 82 = .ok (.aload_n 0, 1) := by decide +kernel
theorem dX9_tellStep_83 : decode cX9_tellStep 83 = .ok (.getfield 35, 3) := by decide +kernel
theorem dX9_tellStep_86 : decode cX9_tellStep 86 = .ok (.iload_n 1, 1) := by decide +kernel
theorem dX9_tellStep_87 : decode cX9_tellStep 87 = .ok (.iconst 1, 1) := by decide +kernel
theorem dX9_tellStep_88 : decode cX9_tellStep 88 = .ok (.iadd, 1) := by decide +kernel
theorem dX9_tellStep_89 : decode cX9_tellStep 89 = .ok (.iaload, 1) := by decide +kernel
theorem dX9_tellStep_90 : decode cX9_tellStep 90 = .ok (.ifCond .ne 7, 3) := by decide +kernel
theorem dX9_tellStep_93 : decode cX9_tellStep 93 = .ok (.iconst 1, 1) := by decide +kernel
theorem dX9_tellStep_94 : decode cX9_tellStep 94 = .ok (.goto 4, 3) := by decide +kernel
theorem dX9_tellStep_97 : decode cX9_tellStep 97 = .ok (.iconst 0, 1) := by decide +kernel
theorem dX9_tellStep_98 : decode cX9_tellStep 98 = .ok (.ireturn, 1) := by decide +kernel
theorem dX9_tellStep_99 : decode cX9_tellStep 99 = .ok (.aload_n 0, 1) := by decide +kernel
theorem dX9_tellStep_100 : decode cX9_tellStep 100 = .ok (.iload_n 1, 1) := by decide +kernel
theorem dX9_tellStep_101 : decode cX9_tellStep 101 = .ok (.invokevirtual 263, 3) := by decide +kernel
theorem dX9_tellStep_104 : decode cX9_tellStep 104 = .ok (.ireturn, 1) := by decide +kernel
theorem dX9_tellStep_105 : decode cX9_tellStep 105 = .ok (.aload_n 0, 1) := by decide +kernel
theorem dX9_tellStep_106 : decode cX9_tellStep 106 = .ok (.iload_n 1, 1) := by decide +kernel
theorem dX9_tellStep_107 : decode cX9_tellStep 107 = .ok (.invokevirtual 266, 3) := by decide +kernel
theorem dX9_tellStep_110 : decode cX9_tellStep 110 = .ok (.ireturn, 1) := by decide +kernel
theorem dX9_tellStep_111 : decode cX9_tellStep 111 = .ok (.aload_n 0, 1) := by decide +kernel
theorem dX9_tellStep_112 : decode cX9_tellStep 112 = .ok (.iload_n 1, 1) := by decide +kernel
theorem dX9_tellStep_113 : decode cX9_tellStep 113 = .ok (.invokevirtual 269, 3) := by decide +kernel
theorem dX9_tellStep_116 : decode cX9_tellStep 116 = .ok (.ireturn, 1) := by decide +kernel
theorem dX9_tellStep_117 : decode cX9_tellStep 117 = .ok (.bipush (-102), 2) := by decide +kernel
theorem dX9_tellStep_119 : decode cX9_tellStep 119 = .ok (.ireturn, 1) := by decide +kernel
theorem dX9_step_0 : decode cX9_step 0 = .ok (.aload_n 0, 1) := by decide +kernel
theorem dX9_step_1 : decode cX9_step 1 = .ok (.iload_n 1, 1) := by decide +kernel
theorem dX9_step_2 : decode cX9_step 2 = .ok (.invokevirtual 272, 3) := by decide +kernel
theorem dX9_step_5 : decode cX9_step 5 = .ok (.ifCond .eq 12, 3) := by decide +kernel
theorem dX9_step_8 : decode cX9_step 8 = .ok (.aload_n 0, 1) := by decide +kernel
theorem dX9_step_9 : decode cX9_step 9 = .ok (.iload_n 1, 1) := by decide +kernel
theorem dX9_step_10 : decode cX9_step 10 = .ok (.iload_n 2, 1) := by decide +kernel
theorem dX9_step_11 : decode cX9_step 11 = .ok (.invokevirtual 275, 3) := by decide +kernel
theorem dX9_step_14 : decode cX9_step 14 = .ok (.goto 5, 3) := by decide +kernel
theorem dX9_step_17 : decode cX9_step 17 = .ok (.bipush (-101), 2) := by decide +kernel
theorem dX9_step_19 : decode cX9_step 19 = .ok (.ireturn, 1) := by decide +kernel
theorem dX9_isOf_0 : decode cX9_isOf 0 = .ok (.iload_n 1, 1) := by decide +kernel
theorem dX9_isOf_1 : decode cX9_isOf 1 = .ok (.ifCond .eq 18, 3) := by decide +kernel
theorem dX9_isOf_4 : decode cX9_isOf 4 = .ok (.iload_n 1, 1) := by decide +kernel
theorem dX9_isOf_5 : decode cX9_isOf 5 = .ok (.iload_n 0, 1) := by decide +kernel
theorem dX9_isOf_6 : decode cX9_isOf 6 = .ok (.if_icmp .eq 13, 3) := by decide +kernel
theorem dX9_isOf_9 : decode cX9_isOf 9 = .ok (.iload_n 1, 1) := by decide +kernel
theorem dX9_isOf_10 : decode cX9_isOf 10 = .ok (.iconst 1, 1) := by decide +kernel
theorem dX9_isOf_11 : decode cX9_isOf 11 = .ok (.if_icmp .ne 12, 3) := by decide +kernel
theorem dX9_isOf_14 : decode cX9_isOf 14 = .ok (.iload_n 0, 1) := by decide +kernel
theorem dX9_isOf_15 : decode cX9_isOf 15 = .ok (.iconst 3, 1) := by decide +kernel
theorem dX9_isOf_16 : decode cX9_isOf 16 = .ok (.if_icmp .ne 7, 3) := by decide +kernel
theorem dX9_isOf_19 : decode cX9_isOf 19 = .ok (.iconst 1, 1) := by decide +kernel
theorem dX9_isOf_20 : decode cX9_isOf 20 = .ok (.goto 4, 3) := by decide +kernel
theorem dX9_isOf_23 : decode cX9_isOf 23 = .ok (.iconst 0, 1) := by decide +kernel
theorem dX9_isOf_24 : decode cX9_isOf 24 = .ok (.ireturn, 1) := by decide +kernel
theorem dX9_as_0 : decode cX9_as 0 = .ok (.aload_n 0, 1) := by decide +kernel
theorem dX9_as_1 : decode cX9_as 1 = .ok (.iload_n 1, 1) := by decide +kernel
theorem dX9_as_2 : decode cX9_as 2 = .ok (.invokevirtual 272, 3) := by decide +kernel
theorem dX9_as_5 : decode cX9_as 5 = .ok (.ifCond .ne 6, 3) := by decide +kernel
theorem dX9_as_8 : decode cX9_as 8 = .ok (.bipush (-101), 2) := by decide +kernel
theorem dX9_as_10 : decode cX9_as 10 = .ok (.ireturn, 1) := by decide +kernel
theorem dX9_as_11 : decode cX9_as 11 = .ok (.iload_n 2, 1) := by decide +kernel
theorem dX9_as_12 : decode cX9_as 12 = .ok (.i2l, 1) := by decide +kernel
theorem dX9_as_13 : decode cX9_as 13 = .ok (.lconst 0, 1) := by decide +kernel
theorem dX9_as_14 : decode cX9_as 14 = .ok (.ldc2_w 278, 3) := by decide +kernel
theorem dX9_as_17 : decode cX9_as 17 = .ok (.invokestatic 60, 3) := by decide +kernel
theorem dX9_as_20 : decode cX9_as 20 = .ok (.ifCond .ne 6, 3) := by decide +kernel
theorem dX9_as_23 : decode cX9_as 23 = .ok (.bipush (-102), 2) := by decide +kernel
theorem dX9_as_25 : decode cX9_as 25 = .ok (.ireturn, 1) := by decide +kernel
theorem dX9_as_26 : decode cX9_as 26 = .ok (.aload_n 0, 1) := by decide +kernel
theorem dX9_as_27 : decode cX9_as 27 = .ok (.iload_n 1, 1) := by decide +kernel
theorem dX9_as_28 : decode cX9_as 28 = .ok (.invokevirtual 146, 3) := by decide +kernel
theorem dX9_as_31 : decode cX9_as 31 = .ok (.iload_n 2, 1) := by decide +kernel
theorem dX9_as_32 : decode cX9_as 32 = .ok (.invokestatic 280, 3) := by decide +kernel
theorem dX9_as_35 : decode cX9_as 35 = .ok (.ifCond .eq 7, 3) := by decide +kernel
theorem dX9_as_38 : decode cX9_as 38 = .ok (.iload_n 1, 1) := by decide +kernel
theorem dX9_as_39 : decode cX9_as 39 = .ok (.goto 4, 3) := by decide +kernel
theorem dX9_as_42 : decode cX9_as 42 = .ok (.iconst (-1), 1) := by decide +kernel
theorem dX9_as_43 : decode cX9_as 43 = .ok (.ireturn, 1) := by decide +kernel
theorem dX9_isAsTold_0 : decode cX9_isAsTold 0 = .ok (.iload_n 0, 1) := by decide +kernel
theorem dX9_isAsTold_1 : decode cX9_isAsTold 1 = .ok (.iconst 1, 1) := by decide +kernel
theorem dX9_isAsTold_2 : decode cX9_isAsTold 2 = .ok (.if_icmp .gt 15, 3) := by decide +kernel
theorem dX9_isAsTold_5 : decode cX9_isAsTold 5 = .ok (.iload_n 2, 1) := by decide +kernel
theorem dX9_isAsTold_6 : decode cX9_isAsTold 6 = .ok (.i2l, 1) := by decide +kernel
theorem dX9_isAsTold_7 : decode cX9_isAsTold 7 = .ok (.lconst 0, 1) := by decide +kernel
theorem dX9_isAsTold_8 : decode cX9_isAsTold 8 = .ok (.ldc2_w 235, 3) := by decide +kernel
theorem dX9_isAsTold_11 : decode cX9_isAsTold 11 = .ok (.invokestatic 60, 3) := by decide +kernel
theorem dX9_isAsTold_14 : decode cX9_isAsTold 14 = .ok (.ifCond .eq 7, 3) := by decide +kernel
theorem dX9_isAsTold_17 : decode cX9_isAsTold 17 = .ok (.iconst 1, 1) := by decide +kernel
theorem dX9_isAsTold_18 : decode cX9_isAsTold 18 = .ok (.goto 4, 3) := by decide +kernel
theorem dX9_isAsTold_21 : decode cX9_isAsTold 21 = .ok (.iconst 0, 1) := by decide +kernel
theorem dX9_isAsTold_22 : decode cX9_isAsTold 22 = .ok (.istore 4, 2) := by decide +kernel
theorem dX9_isAsTold_24 : decode cX9_isAsTold 24 = .ok (.iload_n 0, 1) := by decide +kernel
theorem dX9_isAsTold_25 : decode cX9_isAsTold 25 = .ok (.i2l, 1) := by decide +kernel
theorem dX9_isAsTold_26 : decode cX9_isAsTold 26 = .ok (.lconst 0, 1) := by decide +kernel
theorem dX9_isAsTold_27 : decode cX9_isAsTold 27 = .ok (.ldc2_w 283, 3) := by decide +kernel
theorem dX9_isAsTold_30 : decode cX9_isAsTold 30 = .ok (.invokestatic 60, 3) := by decide +kernel
theorem dX9_isAsTold_33 : decode cX9_isAsTold 33 = .ok (.ifCond .eq 53, 3) := by decide +kernel
theorem dX9_isAsTold_36 : decode cX9_isAsTold 36 = .ok (.iload_n 1, 1) := by decide +kernel
theorem dX9_isAsTold_37 : decode cX9_isAsTold 37 = .ok (.i2l, 1) := by decide +kernel
theorem dX9_isAsTold_38 : decode cX9_isAsTold 38 = .ok (.lconst 0, 1) := by decide +kernel
theorem dX9_isAsTold_39 : decode cX9_isAsTold 39 = .ok (.iload_n 0, 1) := by decide +kernel
theorem dX9_isAsTold_40 : decode cX9_isAsTold 40 = .ok (.ifCond .ne 9, 3) := by decide +kernel
theorem dX9_isAsTold_43 : decode cX9_isAsTold 43 = .ok (.ldc2_w 235, 3) := by decide +kernel
theorem dX9_isAsTold_46 : decode cX9_isAsTold 46 = .ok (.goto 6, 3) := by decide +kernel
theorem dX9_isAsTold_49 : decode cX9_isAsTold 49 = .ok (.ldc2_w 247, 3) := by decide +kernel
theorem dX9_isAsTold_52 : decode cX9_isAsTold 52 = .ok (.invokestatic 60, 3) := by decide +kernel
theorem dX9_isAsTold_55 : decode cX9_isAsTold 55 = .ok (.ifCond .eq 31, 3) := by decide +kernel
theorem dX9_isAsTold_58 : decode cX9_isAsTold 58 = .ok (.iload 4, 2) := by decide +kernel
theorem dX9_isAsTold_60 : decode cX9_isAsTold 60 = .ok (.ifCond .eq 26, 3) := by decide +kernel
theorem dX9_isAsTold_63 : decode cX9_isAsTold 63 = .ok (.iload_n 0, 1) := by decide +kernel
theorem dX9_isAsTold_64 : decode cX9_isAsTold 64 = .ok (.iconst 2, 1) := by decide +kernel
theorem dX9_isAsTold_65 : decode cX9_isAsTold 65 = .ok (.if_icmp .eq 17, 3) := by decide +kernel
theorem dX9_isAsTold_68 : decode cX9_isAsTold 68 = .ok (.iload_n 3, 1) := by decide +kernel
theorem dX9_isAsTold_69 : decode cX9_isAsTold 69 = .ok (.i2l, 1) := by decide +kernel
theorem dX9_isAsTold_70 : decode cX9_isAsTold 70 = .ok (.ldc2_w 285, 3) := by decide +kernel
theorem dX9_isAsTold_73 : decode cX9_isAsTold 73 = .ok (.ldc2_w 287, 3) := by decide +kernel
theorem dX9_isAsTold_76 : decode cX9_isAsTold 76 = .ok (.invokestatic 60, 3) := by decide +kernel
theorem dX9_isAsTold_79 : decode cX9_isAsTold 79 = .ok (.ifCond .eq 7, 3) := by decide +kernel
theorem dX9_isAsTold_82 : decode cX9_isAsTold 82 = .ok (.iconst 1, 1) := by decide +kernel
theorem dX9_isAsTold_83 : decode cX9_isAsTold 83 = .ok (.goto 4, 3) := by decide +kernel
theorem dX9_isAsTold_86 : decode cX9_isAsTold 86 = .ok (.iconst 0, 1) := by decide +kernel
theorem dX9_isAsTold_87 : decode cX9_isAsTold 87 = .ok (.ireturn, 1) := by decide +kernel
theorem dX9_put_0 : decode cX9_put 0 = .ok (.iload_n 1, 1) := by decide +kernel
theorem dX9_put_1 : decode cX9_put 1 = .ok (.i2l, 1) := by decide +kernel
theorem dX9_put_2 : decode cX9_put 2 = .ok (.lconst 0, 1) := by decide +kernel
theorem dX9_put_3 : decode cX9_put 3 = .ok (.aload_n 0, 1) := by decide +kernel
theorem dX9_put_4 : decode cX9_put 4 = .ok (.getfield 126, 3) := by decide +kernel
theorem dX9_put_7 : decode cX9_put 7 = .ok (.i2l, 1) := by decide +kernel
theorem dX9_put_8 : decode cX9_put 8 = .ok (.invokestatic 60, 3) := by decide +kernel
theorem dX9_put_11 : decode cX9_put 11 = .ok (.ifCond .ne 6, 3) := by decide +kernel
theorem dX9_put_14 : decode cX9_put 14 = .ok (.bipush (-101), 2) := by decide +kernel
theorem dX9_put_16 : decode cX9_put 16 = .ok (.ireturn, 1) := by decide +kernel
theorem dX9_put_17 : decode cX9_put 17 = .ok (.iload_n 2, 1) := by decide +kernel
theorem dX9_put_18 : decode cX9_put 18 = .ok (.iload_n 3, 1) := by decide +kernel
theorem dX9_put_19 : decode cX9_put 19 = .ok (.iload 4, 2) := by decide +kernel
theorem dX9_put_21 : decode cX9_put 21 = .ok (.iload 5, 2) := by decide +kernel
theorem dX9_put_23 : decode cX9_put 23 = .ok (.invokestatic 289, 3) := by decide +kernel
theorem dX9_put_26 : decode cX9_put 26 = .ok (.ifCond .ne 6, 3) := by decide +kernel
theorem dX9_put_29 : decode cX9_put 29 = .ok (.bipush (-102), 2) := by decide +kernel
theorem dX9_put_31 : decode cX9_put 31 = .ok (.ireturn, 1) := by decide +kernel
theorem dX9_put_32 : decode cX9_put 32 = .ok (.aload_n 0, 1) := by decide +kernel
theorem dX9_put_33 : decode cX9_put 33 = .ok (.invokevirtual 222, 3) := by decide +kernel
theorem dX9_put_36 : decode cX9_put 36 = .ok (.ifCond .eq 6, 3) := by decide +kernel
theorem dX9_put_39 : decode cX9_put 39 = .ok (.bipush (-103), 2) := by decide +kernel
theorem dX9_put_41 : decode cX9_put 41 = .ok (.ireturn, 1) := by decide +kernel
theorem dX9_put_42 : decode cX9_put 42 = .ok (.aload_n 0, 1) := by decide +kernel
theorem dX9_put_43 : decode cX9_put 43 = .ok (.getfield 126, 3) := by decide +kernel
theorem dX9_put_46 : decode cX9_put 46 = .ok (.bipush 6, 2) := by decide +kernel
theorem dX9_put_48 : decode cX9_put 48 = .ok (.if_icmp .ne 6, 3) := by decide +kernel
theorem dX9_put_51 : decode cX9_put 51 = .ok (.bipush (-104), 2) := by decide +kernel
theorem dX9_put_53 : decode cX9_put 53 = .ok (.ireturn, 1) := by decide +kernel
theorem dX9_put_54 : decode cX9_put 54 = .ok (.aload_n 0, 1) := by decide +kernel
theorem dX9_put_55 : decode cX9_put 55 = .ok (.getfield 126, 3) := by decide +kernel
theorem dX9_put_58 : decode cX9_put 58 = .ok (.istore 6, 2) := by decide +kernel
theorem dX9_put_60 : decode cX9_put 60 = .ok (.iload 6, 2) := by decide +kernel
theorem dX9_put_62 : decode cX9_put 62 = .ok (.iload_n 1, 1) := by decide +kernel
theorem dX9_put_63 : decode cX9_put 63 = .ok (.if_icmp .le 89, 3) := by decide +kernel
theorem dX9_put_66 : decode cX9_put 66 = .ok (.iconst 0, 1) := by decide +kernel
theorem dX9_put_67 : decode cX9_put 67 = .ok (.istore 7, 2) := by decide +kernel
theorem dX9_put_69 : decode cX9_put 69 = .ok (.iload 7, 2) := by decide +kernel
theorem dX9_put_71 : decode cX9_put 71 = .ok (.iconst 4, 1) := by decide +kernel
theorem dX9_put_72 : decode cX9_put 72 = .ok (.if_icmp .ge 35, 3) := by decide +kernel
theorem dX9_put_75 : decode cX9_put 75 = .ok (.aload_n 0, 1) := by decide +kernel
theorem dX9_put_76 : decode cX9_put 76 = .ok (.getfield 16, 3) := by decide +kernel
theorem dX9_put_79 : decode cX9_put 79 = .ok (.iconst 4, 1) := by decide +kernel
theorem dX9_put_80 : decode cX9_put 80 = .ok (.iload 6, 2) := by decide +kernel
theorem dX9_put_82 : decode cX9_put 82 = .ok (.imul, 1) := by decide +kernel
theorem dX9_put_83 : decode cX9_put 83 = .ok (.iload 7, 2) := by decide +kernel
theorem dX9_put_85 : decode cX9_put 85 = .ok (.iadd, 1) := by decide +kernel
theorem dX9_put_86 : decode cX9_put 86 = .ok (.aload_n 0, 1) := by decide +kernel
theorem dX9_put_87 : decode cX9_put 87 = .ok (.getfield 16, 3) := by decide +kernel
theorem dX9_put_90 : decode cX9_put 90 = .ok (.iconst 4, 1) := by decide +kernel
theorem dX9_put_91 : decode cX9_put 91 = .ok (.iload 6, 2) := by decide +kernel
theorem dX9_put_93 : decode cX9_put 93 = .ok (.imul, 1) := by decide +kernel
theorem dX9_put_94 : decode cX9_put 94 = .ok (.iconst 4, 1) := by decide +kernel
theorem dX9_put_95 : decode cX9_put 95 = .ok (.isub, 1) := by decide +kernel
theorem dX9_put_96 : decode cX9_put 96 = .ok (.iload 7, 2) := by decide +kernel
theorem dX9_put_98 : decode cX9_put 98 = .ok (.iadd, 1) := by decide +kernel
theorem dX9_put_99 : decode cX9_put 99 = .ok (.iaload, 1) := by decide +kernel
theorem dX9_put_100 : decode cX9_put 100 = .ok (.iastore, 1) := by decide +kernel
theorem dX9_put_101 : decode cX9_put 101 = .ok (.iinc 7 1, 3) := by decide +kernel
theorem dX9_put_104 : decode cX9_put 104 = .ok (.goto (-35), 3) := by decide +kernel
theorem dX9_put_107 : decode cX9_put 107 = .ok (.aload_n 0, 1) := by decide +kernel
theorem dX9_put_108 : decode cX9_put 108 = .ok (.getfield 16, 3) := by decide +kernel
theorem dX9_put_111 : decode cX9_put 111 = .ok (.iconst 4, 1) := by decide +kernel
theorem dX9_put_112 : decode cX9_put 112 = .ok (.iload 6, 2) := by decide +kernel
theorem dX9_put_114 : decode cX9_put 114 = .ok (.imul, 1) := by decide +kernel
theorem dX9_put_115 : decode cX9_put 115 = .ok (.iconst 1, 1) := by decide +kernel
theorem dX9_put_116 : decode cX9_put 116 = .ok (.iadd, 1) := by decide +kernel
theorem dX9_put_117 : decode cX9_put 117 = .ok (.dup2, 1) := by decide +kernel
theorem dX9_put_118 : decode cX9_put 118 = .ok (.iaload, 1) := by decide +kernel
theorem dX9_put_119 : decode cX9_put 119 = .ok (.aload_n 0, 1) := by decide +kernel
theorem dX9_put_120 : decode cX9_put 120 = .ok (.iload 6, 2) := by decide +kernel
theorem dX9_put_122 : decode cX9_put 122 = .ok (.invokevirtual 146, 3) := by decide +kernel
theorem dX9_put_125 : decode cX9_put 125 = .ok (.iconst 4, 1) := by decide +kernel
theorem dX9_put_126 : decode cX9_put 126 = .ok (.if_icmp .ne 17, 3) := by decide +kernel
theorem dX9_put_129 : decode cX9_put 129 = .ok (.aload_n 0, 1) := by decide +kernel
theorem dX9_put_130 : decode cX9_put 130 = .ok (.iload 6, 2) := by decide +kernel
theorem dX9_put_132 : decode cX9_put 132 = .ok (.invokevirtual 149, 3) := by decide +kernel
theorem dX9_put_135 : decode cX9_put 135 = .ok (.iload_n 1, 1) := by decide +kernel
theorem dX9_put_136 : decode cX9_put 136 = .ok (.if_icmp .le 7, 3) := by decide +kernel
theorem dX9_put_139 : decode cX9_put 139 = .ok (.iconst 1, 1) := by decide +kernel
theorem dX9_put_140 : decode cX9_put 140 = .ok (.goto 4, 3) := by decide +kernel
theorem dX9_put_143 : decode cX9_put 143 = .ok (.iconst 0, 1) := by decide +kernel
theorem dX9_put_144 : decode cX9_put 144 = .ok (.iadd, 1) := by decide +kernel
theorem dX9_put_145 : decode cX9_put 145 = .ok (.iastore, 1) := by decide +kernel
theorem dX9_put_146 : decode cX9_put 146 = .ok (.iinc 6 (-1), 3) := by decide +kernel
theorem dX9_put_149 : decode cX9_put 149 = .ok (.goto (-89), 3) := by decide +kernel
theorem dX9_put_152 : decode cX9_put 152 = .ok (.aload_n 0, 1) := by decide +kernel
theorem dX9_put_153 : decode cX9_put 153 = .ok (.getfield 16, 3) := by decide +kernel
theorem dX9_put_156 : decode cX9_put 156 = .ok (.iconst 4, 1) := by decide +kernel
theorem dX9_put_157 : decode cX9_put 157 = .ok (.iload_n 1, 1) := by decide +kernel
theorem dX9_put_158 : decode cX9_put 158 = .ok (.imul, 1) := by decide +kernel
theorem dX9_put_159 : decode cX9_put 159 = .ok (.iload_n 2, 1) := by decide +kernel
theorem dX9_put_160 : decode cX9_put 160 = .ok (.iastore, 1) := by decide +kernel
theorem dX9_put_161 : decode cX9_put 161 = .ok (.aload_n 0, 1) := by decide +kernel
theorem dX9_put_162 : decode cX9_put 162 = .ok (.getfield 16, 3) := by decide +kernel
theorem dX9_put_165 : decode cX9_put 165 = .ok (.iconst 4, 1) := by decide +kernel
theorem dX9_put_166 : decode cX9_put 166 = .ok (.iload_n 1, 1) := by decide +kernel
theorem dX9_put_167 : decode cX9_put 167 = .ok (.imul, 1) := by decide +kernel
theorem dX9_put_168 : decode cX9_put 168 = .ok (.iconst 1, 1) := by decide +kernel
theorem dX9_put_169 : decode cX9_put 169 = .ok (.iadd, 1) := by decide +kernel
theorem dX9_put_170 : decode cX9_put 170 = .ok (.iload_n 3, 1) := by decide +kernel
theorem dX9_put_171 : decode cX9_put 171 = .ok (.iastore, 1) := by decide +kernel
theorem dX9_put_172 : decode cX9_put 172 = .ok (.aload_n 0, 1) := by decide +kernel
theorem dX9_put_173 : decode cX9_put 173 = .ok (.getfield 16, 3) := by decide +kernel
theorem dX9_put_176 : decode cX9_put 176 = .ok (.iconst 4, 1) := by decide +kernel
theorem dX9_put_177 : decode cX9_put 177 = .ok (.iload_n 1, 1) := by decide +kernel
theorem dX9_put_178 : decode cX9_put 178 = .ok (.imul, 1) := by decide +kernel
theorem dX9_put_179 : decode cX9_put 179 = .ok (.iconst 2, 1) := by decide +kernel
theorem dX9_put_180 : decode cX9_put 180 = .ok (.iadd, 1) := by decide +kernel
theorem dX9_put_181 : decode cX9_put 181 = .ok (.iload_n 2, 1) := by decide +kernel
theorem dX9_put_182 : decode cX9_put 182 = .ok (.iconst 1, 1) := by decide +kernel
theorem dX9_put_183 : decode cX9_put 183 = .ok (.if_icmp .le 7, 3) := by decide +kernel
theorem dX9_put_186 : decode cX9_put 186 = .ok (.iconst (-1), 1) := by decide +kernel
theorem dX9_put_187 : decode cX9_put 187 = .ok (.goto 5, 3) := by decide +kernel
theorem dX9_put_190 : decode cX9_put 190 = .ok (.iload 4, 2) := by decide +kernel
theorem dX9_put_192 : decode cX9_put 192 = .ok (.iastore, 1) := by decide +kernel
theorem dX9_put_193 : decode cX9_put 193 = .ok (.aload_n 0, 1) := by decide +kernel
theorem dX9_put_194 : decode cX9_put 194 = .ok (.getfield 16, 3) := by decide +kernel
theorem dX9_put_197 : decode cX9_put 197 = .ok (.iconst 4, 1) := by decide +kernel
theorem dX9_put_198 : decode cX9_put 198 = .ok (.iload_n 1, 1) := by decide +kernel
theorem dX9_put_199 : decode cX9_put 199 = .ok (.imul, 1) := by decide +kernel
theorem dX9_put_200 : decode cX9_put 200 = .ok (.iconst 3, 1) := by decide +kernel
theorem dX9_put_201 : decode cX9_put 201 = .ok (.iadd, 1) := by decide +kernel
theorem dX9_put_202 : decode cX9_put 202 = .ok (.iload_n 2, 1) := by decide +kernel
theorem dX9_put_203 : decode cX9_put 203 = .ok (.iconst 2, 1) := by decide +kernel
theorem dX9_put_204 : decode cX9_put 204 = .ok (.if_icmp .ne 7, 3) := by decide +kernel
theorem dX9_put_207 : decode cX9_put 207 = .ok (.iconst (-1), 1) := by decide +kernel
theorem dX9_put_208 : decode cX9_put 208 = .ok (.goto 8, 3) := by decide +kernel
theorem dX9_put_211 : decode cX9_put 211 = .ok (.bipush 100, 2) := by decide +kernel
theorem dX9_put_213 : decode cX9_put 213 = .ok (.iload 5, 2) := by decide +kernel
theorem dX9_put_215 : decode cX9_put 215 = .ok (.iadd, 1) := by decide +kernel
theorem dX9_put_216 : decode cX9_put 216 = .ok (.iastore, 1) := by decide +kernel
theorem dX9_put_217 : decode cX9_put 217 = .ok (.aload_n 0, 1) := by decide +kernel
theorem dX9_put_218 : decode cX9_put 218 = .ok (.dup, 1) := by decide +kernel
theorem dX9_put_219 : decode cX9_put 219 = .ok (.getfield 126, 3) := by decide +kernel
theorem dX9_put_222 : decode cX9_put 222 = .ok (.iconst 1, 1) := by decide +kernel
theorem dX9_put_223 : decode cX9_put 223 = .ok (.iadd, 1) := by decide +kernel
theorem dX9_put_224 : decode cX9_put 224 = .ok (.putfield 126, 3) := by decide +kernel
theorem dX9_put_227 : decode cX9_put 227 = .ok (.aload_n 0, 1) := by decide +kernel
theorem dX9_put_228 : decode cX9_put 228 = .ok (.invokevirtual 139, 3) := by decide +kernel
theorem dX9_put_231 : decode cX9_put 231 = .ok (.aload_n 0, 1) := by decide +kernel
theorem dX9_put_232 : decode cX9_put 232 = .ok (.getfield 126, 3) := by decide +kernel
theorem dX9_put_235 : decode cX9_put 235 = .ok (.ireturn, 1) := by decide +kernel
end
section
theorem dX9_take_0 : decode cX9_take 0 = .ok (.aload_n 0, 1) := by decide +kernel
theorem dX9_take_1 : decode cX9_take 1 = .ok (.iload_n 1, 1) := by decide +kernel
theorem dX9_take_2 : decode cX9_take 2 = .ok (.invokevirtual 272, 3) := by decide +kernel
theorem dX9_take_5 : decode cX9_take 5 = .ok (.ifCond .ne 6, 3) := by decide +kernel
theorem dX9_take_8 : decode cX9_take 8 = .ok (.bipush (-101), 2) := by decide +kernel
theorem dX9_take_10 : decode cX9_take 10 = .ok (.ireturn, 1) := by decide +kernel
theorem dX9_take_11 : decode cX9_take 11 = .ok (.iload_n 1, 1) := by decide +kernel
theorem dX9_take_12 : decode cX9_take 12 = .ok (.iconst 1, 1) := by decide +kernel
theorem dX9_take_13 : decode cX9_take 13 = .ok (.iadd, 1) := by decide +kernel
theorem dX9_take_14 : decode cX9_take 14 = .ok (.aload_n 0, 1) := by decide +kernel
theorem dX9_take_15 : decode cX9_take 15 = .ok (.getfield 126, 3) := by decide +kernel
theorem dX9_take_18 : decode cX9_take 18 = .ok (.if_icmp .ge 29, 3) := by decide +kernel
theorem dX9_take_21 : decode cX9_take 21 = .ok (.aload_n 0, 1) := by decide +kernel
theorem dX9_take_22 : decode cX9_take 22 = .ok (.iload_n 1, 1) := by decide +kernel
theorem dX9_take_23 : decode cX9_take 23 = .ok (.iconst 1, 1) := by decide +kernel
theorem dX9_take_24 : decode cX9_take 24 = .ok (.iadd, 1) := by decide +kernel
theorem dX9_take_25 : decode cX9_take 25 = .ok (.invokevirtual 146, 3) := by decide +kernel
theorem dX9_take_28 : decode cX9_take 28 = .ok (.iconst 4, 1) := by decide +kernel
theorem dX9_take_29 : decode cX9_take 29 = .ok (.if_icmp .ne 18, 3) := by decide +kernel
theorem dX9_take_32 : decode cX9_take 32 = .ok (.aload_n 0, 1) := by decide +kernel
theorem dX9_take_33 : decode cX9_take 33 = .ok (.iload_n 1, 1) := by decide +kernel
theorem dX9_take_34 : decode cX9_take 34 = .ok (.iconst 1, 1) := by decide +kernel
theorem dX9_take_35 : decode cX9_take 35 = .ok (.iadd, 1) := by decide +kernel
theorem dX9_take_36 : decode cX9_take 36 = .ok (.invokevirtual 149, 3) := by decide +kernel
theorem dX9_take_39 : decode cX9_take 39 = .ok (.iload_n 1, 1) := by decide +kernel
theorem dX9_take_40 : decode cX9_take 40 = .ok (.if_icmp .ne 7, 3) := by decide +kernel
theorem dX9_take_43 : decode cX9_take 43 = .ok (.iconst 1, 1) := by decide +kernel
theorem dX9_take_44 : decode cX9_take 44 = .ok (.goto 4, 3) := by decide +kernel
theorem dX9_take_47 : decode cX9_take 47 = .ok (.iconst 0, 1) := by decide +kernel
theorem dX9_take_48 : decode cX9_take 48 = .ok (.istore_n 2, 1) := by decide +kernel
theorem dX9_take_49 : decode cX9_take 49 = .ok (.aload_n 0, 1) := by decide +kernel
theorem dX9_take_50 : decode cX9_take 50 = .ok (.getfield 126, 3) := by decide +kernel
theorem dX9_take_53 : decode cX9_take 53 = .ok (.iconst 1, 1) := by decide +kernel
theorem dX9_take_54 : decode cX9_take 54 = .ok (.if_icmp .eq 7, 3) := by decide +kernel
theorem dX9_take_57 : decode cX9_take 57 = .ok (.iload_n 2, 1) := by decide +kernel
theorem dX9_take_58 : decode cX9_take 58 = .ok (.ifCond .eq 6, 3) := by decide +kernel
theorem dX9_take_61 : decode cX9_take 61 = .ok (.bipush (-103), 2) := by decide +kernel
theorem dX9_take_63 : decode cX9_take 63 = .ok (.ireturn, 1) := by decide +kernel
theorem dX9_take_64 : decode cX9_take 64 = .ok (.aload_n 0, 1) := by decide +kernel
theorem dX9_take_65 : decode cX9_take 65 = .ok (.dup, 1) := by decide +kernel
theorem dX9_take_66 : decode cX9_take 66 = .ok (.getfield 126, 3) := by decide +kernel
theorem dX9_take_69 : decode cX9_take 69 = .ok (.iconst 1, 1) := by decide +kernel
theorem dX9_take_70 : decode cX9_take 70 = .ok (.isub, 1) := by decide +kernel
theorem dX9_take_71 : decode cX9_take 71 = .ok (.putfield 126, 3) := by decide +kernel
theorem dX9_take_74 : decode cX9_take 74 = .ok (.iload_n 1, 1) := by decide +kernel
theorem dX9_take_75 : decode cX9_take 75 = .ok (.istore_n 3, 1) := by decide +kernel
theorem dX9_take_76 : decode cX9_take 76 = .ok (.iload_n 3, 1) := by decide +kernel
theorem dX9_take_77 : decode cX9_take 77 = .ok (.aload_n 0, 1) := by decide +kernel
theorem dX9_take_78 : decode cX9_take 78 = .ok (.getfield 126, 3) := by decide +kernel
theorem dX9_take_81 : decode cX9_take 81 = .ok (.if_icmp .ge 84, 3) := by decide +kernel
theorem dX9_take_84 : decode cX9_take 84 = .ok (.iconst 0, 1) := by decide +kernel
theorem dX9_take_85 : decode cX9_take 85 = .ok (.istore 4, 2) := by decide +kernel
theorem dX9_take_87 : decode cX9_take 87 = .ok (.iload 4, 2) := by decide +kernel
theorem dX9_take_89 : decode cX9_take 89 = .ok (.iconst 4, 1) := by decide +kernel
theorem dX9_take_90 : decode cX9_take 90 = .ok (.if_icmp .ge 33, 3) := by decide +kernel
theorem dX9_take_93 : decode cX9_take 93 = .ok (.aload_n 0, 1) := by decide +kernel
theorem dX9_take_94 : decode cX9_take 94 = .ok (.getfield 16, 3) := by decide +kernel
theorem dX9_take_97 : decode cX9_take 97 = .ok (.iconst 4, 1) := by decide +kernel
theorem dX9_take_98 : decode cX9_take 98 = .ok (.iload_n 3, 1) := by decide +kernel
theorem dX9_take_99 : decode cX9_take 99 = .ok (.imul, 1) := by decide +kernel
theorem dX9_take_100 : decode cX9_take 100 = .ok (.iload 4, 2) := by decide +kernel
theorem dX9_take_102 : decode cX9_take 102 = .ok (.iadd, 1) := by decide +kernel
theorem dX9_take_103 : decode cX9_take 103 = .ok (.aload_n 0, 1) := by decide +kernel
theorem dX9_take_104 : decode cX9_take 104 = .ok (.getfield 16, 3) := by decide +kernel
theorem dX9_take_107 : decode cX9_take 107 = .ok (.iconst 4, 1) := by decide +kernel
theorem dX9_take_108 : decode cX9_take 108 = .ok (.iload_n 3, 1) := by decide +kernel
theorem dX9_take_109 : decode cX9_take 109 = .ok (.imul, 1) := by decide +kernel
theorem dX9_take_110 : decode cX9_take 110 = .ok (.iconst 4, 1) := by decide +kernel
theorem dX9_take_111 : decode cX9_take 111 = .ok (.iadd, 1) := by decide +kernel
theorem dX9_take_112 : decode cX9_take 112 = .ok (.iload 4, 2) := by decide +kernel
theorem dX9_take_114 : decode cX9_take 114 = .ok (.iadd, 1) := by decide +kernel
theorem dX9_take_115 : decode cX9_take 115 = .ok (.iaload, 1) := by decide +kernel
theorem dX9_take_116 : decode cX9_take 116 = .ok (.iastore, 1) := by decide +kernel
theorem dX9_take_117 : decode cX9_take 117 = .ok (.iinc 4 1, 3) := by decide +kernel
theorem dX9_take_120 : decode cX9_take 120 = .ok (.goto (-33), 3) := by decide +kernel
theorem dX9_take_123 : decode cX9_take 123 = .ok (.aload_n 0, 1) := by decide +kernel
theorem dX9_take_124 : decode cX9_take 124 = .ok (.getfield 16, 3) := by decide +kernel
theorem dX9_take_127 : decode cX9_take 127 = .ok (.iconst 4, 1) := by decide +kernel
theorem dX9_take_128 : decode cX9_take 128 = .ok (.iload_n 3, 1) := by decide +kernel
theorem dX9_take_129 : decode cX9_take 129 = .ok (.imul, 1) := by decide +kernel
theorem dX9_take_130 : decode cX9_take 130 = .ok (.iconst 1, 1) := by decide +kernel
theorem dX9_take_131 : decode cX9_take 131 = .ok (.iadd, 1) := by decide +kernel
theorem dX9_take_132 : decode cX9_take 132 = .ok (.dup2, 1) := by decide +kernel
theorem dX9_take_133 : decode cX9_take 133 = .ok (.iaload, 1) := by decide +kernel
theorem dX9_take_134 : decode cX9_take 134 = .ok (.aload_n 0, 1) := by decide +kernel
theorem dX9_take_135 : decode cX9_take 135 = .ok (.iload_n 3, 1) := by decide +kernel
theorem dX9_take_136 : decode cX9_take 136 = .ok (.invokevirtual 146, 3) := by decide +kernel
theorem dX9_take_139 : decode cX9_take 139 = .ok (.iconst 4, 1) := by decide +kernel
theorem dX9_take_140 : decode cX9_take 140 = .ok (.if_icmp .ne 16, 3) := by decide +kernel
theorem dX9_take_143 : decode cX9_take 143 = .ok (.aload_n 0, 1) := by decide +kernel
theorem dX9_take_144 : decode cX9_take 144 = .ok (.iload_n 3, 1) := by decide +kernel
theorem dX9_take_145 : decode cX9_take 145 = .ok (.invokevirtual 149, 3) := by decide +kernel
theorem dX9_take_148 : decode cX9_take 148 = .ok (.iload_n 1, 1) := by decide +kernel
theorem dX9_take_149 : decode cX9_take 149 = .ok (.if_icmp .le 7, 3) := by decide +kernel
theorem dX9_take_152 : decode cX9_take 152 = .ok (.iconst 1, 1) := by decide +kernel
theorem dX9_take_153 : decode cX9_take 153 = .ok (.goto 4, 3) := by decide +kernel
theorem dX9_take_156 : decode cX9_take 156 = .ok (.iconst 0, 1) := by decide +kernel
theorem dX9_take_157 : decode cX9_take 157 = .ok (.isub, 1) := by decide +kernel
theorem dX9_take_158 : decode cX9_take 158 = .ok (.iastore, 1) := by decide +kernel
theorem dX9_take_159 : decode cX9_take 159 = .ok (.iinc 3 1, 3) := by decide +kernel
theorem dX9_take_162 : decode cX9_take 162 = .ok (.goto (-86), 3) := by decide +kernel
theorem dX9_take_165 : decode cX9_take 165 = .ok (.aload_n 0, 1) := by decide +kernel
theorem dX9_take_166 : decode cX9_take 166 = .ok (.invokevirtual 139, 3) := by decide +kernel
theorem dX9_take_169 : decode cX9_take 169 = .ok (.aload_n 0, 1) := by decide +kernel
theorem dX9_take_170 : decode cX9_take 170 = .ok (.getfield 126, 3) := by decide +kernel
theorem dX9_take_173 : decode cX9_take 173 = .ok (.ireturn, 1) := by decide +kernel
theorem dX9_by_0 : decode cX9_by 0 = .ok (.aload_n 0, 1) := by decide +kernel
theorem dX9_by_1 : decode cX9_by 1 = .ok (.iload_n 1, 1) := by decide +kernel
theorem dX9_by_2 : decode cX9_by 2 = .ok (.invokevirtual 272, 3) := by decide +kernel
theorem dX9_by_5 : decode cX9_by 5 = .ok (.ifCond .ne 6, 3) := by decide +kernel
theorem dX9_by_8 : decode cX9_by 8 = .ok (.bipush (-101), 2) := by decide +kernel
theorem dX9_by_10 : decode cX9_by 10 = .ok (.ireturn, 1) := by decide +kernel
theorem dX9_by_11 : decode cX9_by 11 = .ok (.iload_n 2, 1) := by decide +kernel
theorem dX9_by_12 : decode cX9_by 12 = .ok (.i2l, 1) := by decide +kernel
theorem dX9_by_13 : decode cX9_by 13 = .ok (.ldc2_w 285, 3) := by decide +kernel
theorem dX9_by_16 : decode cX9_by 16 = .ok (.ldc2_w 287, 3) := by decide +kernel
theorem dX9_by_19 : decode cX9_by 19 = .ok (.invokestatic 60, 3) := by decide +kernel
theorem dX9_by_22 : decode cX9_by 22 = .ok (.ifCond .ne 6, 3) := by decide +kernel
theorem dX9_by_25 : decode cX9_by 25 = .ok (.bipush (-102), 2) := by decide +kernel
theorem dX9_by_27 : decode cX9_by 27 = .ok (.ireturn, 1) := by decide +kernel
theorem dX9_by_28 : decode cX9_by 28 = .ok (.aload_n 0, 1) := by decide +kernel
theorem dX9_by_29 : decode cX9_by 29 = .ok (.iload_n 1, 1) := by decide +kernel
theorem dX9_by_30 : decode cX9_by 30 = .ok (.invokevirtual 146, 3) := by decide +kernel
theorem dX9_by_33 : decode cX9_by 33 = .ok (.iconst 2, 1) := by decide +kernel
theorem dX9_by_34 : decode cX9_by 34 = .ok (.if_icmp .eq 12, 3) := by decide +kernel
theorem dX9_by_37 : decode cX9_by 37 = .ok (.aload_n 0, 1) := by decide +kernel
theorem dX9_by_38 : decode cX9_by 38 = .ok (.iload_n 1, 1) := by decide +kernel
theorem dX9_by_39 : decode cX9_by 39 = .ok (.invokevirtual 146, 3) := by decide +kernel
theorem dX9_by_42 : decode cX9_by 42 = .ok (.iconst 4, 1) := by decide +kernel
theorem dX9_by_43 : decode cX9_by 43 = .ok (.if_icmp .ne 6, 3) := by decide +kernel
theorem dX9_by_46 : decode cX9_by 46 = .ok (.bipush (-103), 2) := by decide +kernel
theorem dX9_by_48 : decode cX9_by 48 = .ok (.ireturn, 1) := by decide +kernel
theorem dX9_by_49 : decode cX9_by 49 = .ok (.aload_n 0, 1) := by decide +kernel
theorem dX9_by_50 : decode cX9_by 50 = .ok (.getfield 16, 3) := by decide +kernel
theorem dX9_by_53 : decode cX9_by 53 = .ok (.iconst 4, 1) := by decide +kernel
theorem dX9_by_54 : decode cX9_by 54 = .ok (.iload_n 1, 1) := by decide +kernel
theorem dX9_by_55 : decode cX9_by 55 = .ok (.imul, 1) := by decide +kernel
theorem dX9_by_56 : decode cX9_by 56 = .ok (.iconst 3, 1) := by decide +kernel
theorem dX9_by_57 : decode cX9_by 57 = .ok (.iadd, 1) := by decide +kernel
theorem dX9_by_58 : decode cX9_by 58 = .ok (.bipush 100, 2) := by decide +kernel
theorem dX9_by_60 : decode cX9_by 60 = .ok (.iload_n 2, 1) := by decide +kernel
theorem dX9_by_61 : decode cX9_by 61 = .ok (.iadd, 1) := by decide +kernel
theorem dX9_by_62 : decode cX9_by 62 = .ok (.iastore, 1) := by decide +kernel
theorem dX9_by_63 : decode cX9_by 63 = .ok (.aload_n 0, 1) := by decide +kernel
theorem dX9_by_64 : decode cX9_by 64 = .ok (.invokevirtual 139, 3) := by decide +kernel
theorem dX9_by_67 : decode cX9_by 67 = .ok (.aload_n 0, 1) := by decide +kernel
theorem dX9_by_68 : decode cX9_by 68 = .ok (.invokevirtual 226, 3) := by decide +kernel
theorem dX9_by_71 : decode cX9_by 71 = .ok (.aload_n 0, 1) := by decide +kernel
theorem dX9_by_72 : decode cX9_by 72 = .ok (.getfield 35, 3) := by decide +kernel
theorem dX9_by_75 : decode cX9_by 75 = .ok (.aload_n 0, 1) := by decide +kernel
theorem dX9_by_76 : decode cX9_by 76 = .ok (.getfield 126, 3) := by decide +kernel
theorem dX9_by_79 : decode cX9_by 79 = .ok (.iaload, 1) := by decide +kernel
theorem dX9_by_80 : decode cX9_by 80 = .ok (.ireturn, 1) := by decide +kernel
theorem dX9_rackedOf_0 : decode cX9_rackedOf 0 = .ok (.iconst 0, 1) := by decide +kernel
theorem dX9_rackedOf_1 : decode cX9_rackedOf 1 = .ok (.istore_n 2, 1) := by decide +kernel
theorem dX9_rackedOf_2 : decode cX9_rackedOf 2 = .ok (.iload_n 2, 1) := by decide +kernel
theorem dX9_rackedOf_3 : decode cX9_rackedOf 3 = .ok (.iconst 3, 1) := by decide +kernel
theorem dX9_rackedOf_4 : decode cX9_rackedOf 4 = .ok (.if_icmp .ge 23, 3) := by decide +kernel
theorem dX9_rackedOf_7 : decode cX9_rackedOf 7 = .ok (.aload_n 0, 1) := by decide +kernel
theorem dX9_rackedOf_8 : decode cX9_rackedOf 8 = .ok (.getfield 38, 3) := by decide +kernel
theorem dX9_rackedOf_11 : decode cX9_rackedOf 11 = .ok (.iconst 3, 1) := by decide +kernel
theorem dX9_rackedOf_12 : decode cX9_rackedOf 12 = .ok (.iload_n 1, 1) := by decide +kernel
theorem dX9_rackedOf_13 : decode cX9_rackedOf 13 = .ok (.imul, 1) := by decide +kernel
theorem dX9_rackedOf_14 : decode cX9_rackedOf 14 = .ok (.iload_n 2, 1) := by decide +kernel
theorem dX9_rackedOf_15 : decode cX9_rackedOf 15 = .ok (.iadd, 1) := by decide +kernel
theorem dX9_rackedOf_16 : decode cX9_rackedOf 16 = .ok (.iaload, 1) := by decide +kernel
theorem dX9_rackedOf_17 : decode cX9_rackedOf 17 = .ok (.iconst (-1), 1) := by decide +kernel
theorem dX9_rackedOf_18 : decode cX9_rackedOf 18 = .ok (.if_icmp .eq 9, 3) := by decide +kernel
theorem dX9_rackedOf_21 : decode cX9_rackedOf 21 = .ok (.iinc 2 1, 3) := by decide +kernel
theorem dX9_rackedOf_24 : decode cX9_rackedOf 24 = .ok (.goto (-22), 3) := by decide +kernel
theorem dX9_rackedOf_27 : decode cX9_rackedOf 27 = .ok (.iload_n 2, 1) := by decide +kernel
theorem dX9_rackedOf_28 : decode cX9_rackedOf 28 = .ok (.ireturn, 1) := by decide +kernel
theorem dX9_rack_0 : decode cX9_rack 0 = .ok (.aload_n 0, 1) := by decide +kernel
theorem dX9_rack_1 : decode cX9_rack 1 = .ok (.iload_n 1, 1) := by decide +kernel
theorem dX9_rack_2 : decode cX9_rack 2 = .ok (.invokevirtual 272, 3) := by decide +kernel
theorem dX9_rack_5 : decode cX9_rack 5 = .ok (.ifCond .ne 6, 3) := by decide +kernel
theorem dX9_rack_8 : decode cX9_rack 8 = .ok (.bipush (-101), 2) := by decide +kernel
theorem dX9_rack_10 : decode cX9_rack 10 = .ok (.ireturn, 1) := by decide +kernel
theorem dX9_rack_11 : decode cX9_rack 11 = .ok (.iload_n 2, 1) := by decide +kernel
theorem dX9_rack_12 : decode cX9_rack 12 = .ok (.i2l, 1) := by decide +kernel
theorem dX9_rack_13 : decode cX9_rack 13 = .ok (.lconst 0, 1) := by decide +kernel
theorem dX9_rack_14 : decode cX9_rack 14 = .ok (.ldc2_w 278, 3) := by decide +kernel
theorem dX9_rack_17 : decode cX9_rack 17 = .ok (.invokestatic 60, 3) := by decide +kernel
theorem dX9_rack_20 : decode cX9_rack 20 = .ok (.ifCond .ne 6, 3) := by decide +kernel
theorem dX9_rack_23 : decode cX9_rack 23 = .ok (.bipush (-102), 2) := by decide +kernel
theorem dX9_rack_25 : decode cX9_rack 25 = .ok (.ireturn, 1) := by decide +kernel
theorem dX9_rack_26 : decode cX9_rack 26 = .ok (.aload_n 0, 1) := by decide +kernel
theorem dX9_rack_27 : decode cX9_rack 27 = .ok (.iload_n 2, 1) := by decide +kernel
theorem dX9_rack_28 : decode cX9_rack 28 = .ok (.invokevirtual 293, 3) := by decide +kernel
theorem dX9_rack_31 : decode cX9_rack 31 = .ok (.istore_n 3, 1) := by decide +kernel
theorem dX9_rack_32 : decode cX9_rack 32 = .ok (.iload_n 3, 1) := by decide +kernel
theorem dX9_rack_33 : decode cX9_rack 33 = .ok (.iconst 3, 1) := by decide +kernel
theorem dX9_rack_34 : decode cX9_rack 34 = .ok (.if_icmp .ne 6, 3) := by decide +kernel
theorem dX9_rack_37 : decode cX9_rack 37 = .ok (.bipush (-104), 2) := by decide +kernel
theorem dX9_rack_39 : decode cX9_rack 39 = .ok (.ireturn, 1) := by decide +kernel
theorem dX9_rack_40 : decode cX9_rack 40 = .ok (.aload_n 0, 1) := by decide +kernel
theorem dX9_rack_41 : decode cX9_rack 41 = .ok (.iload_n 1, 1) := by decide +kernel
theorem dX9_rack_42 : decode cX9_rack 42 = .ok (.invokevirtual 146, 3) := by decide +kernel
theorem dX9_rack_45 : decode cX9_rack 45 = .ok (.iload_n 2, 1) := by decide +kernel
theorem dX9_rack_46 : decode cX9_rack 46 = .ok (.invokestatic 280, 3) := by decide +kernel
theorem dX9_rack_49 : decode cX9_rack 49 = .ok (.ifCond .ne 5, 3) := by decide +kernel
theorem dX9_rack_52 : decode cX9_rack 52 = .ok (.iconst (-1), 1) := by decide +kernel
theorem dX9_rack_53 : decode cX9_rack 53 = .ok (.ireturn, 1) := by decide +kernel
theorem dX9_rack_54 : decode cX9_rack 54 = .ok (.aload_n 0, 1) := by decide +kernel
theorem dX9_rack_55 : decode cX9_rack 55 = .ok (.getfield 38, 3) := by decide +kernel
theorem dX9_rack_58 : decode cX9_rack 58 = .ok (.iconst 3, 1) := by decide +kernel
theorem dX9_rack_59 : decode cX9_rack 59 = .ok (.iload_n 2, 1) := by decide +kernel
theorem dX9_rack_60 : decode cX9_rack 60 = .ok (.imul, 1) := by decide +kernel
theorem dX9_rack_61 : decode cX9_rack 61 = .ok (.iload_n 3, 1) := by decide +kernel
theorem dX9_rack_62 : decode cX9_rack 62 = .ok (.iadd, 1) := by decide +kernel
theorem dX9_rack_63 : decode cX9_rack 63 = .ok (.iload_n 1, 1) := by decide +kernel
theorem dX9_rack_64 : decode cX9_rack 64 = .ok (.iastore, 1) := by decide +kernel
theorem dX9_rack_65 : decode cX9_rack 65 = .ok (.iload_n 3, 1) := by decide +kernel
theorem dX9_rack_66 : decode cX9_rack 66 = .ok (.iconst 1, 1) := by decide +kernel
theorem dX9_rack_67 : decode cX9_rack 67 = .ok (.iadd, 1) := by decide +kernel
theorem dX9_rack_68 : decode cX9_rack 68 = .ok (.ireturn, 1) := by decide +kernel
theorem dX9_racked_0 : decode cX9_racked 0 = .ok (.iload_n 1, 1) := by decide +kernel
theorem dX9_racked_1 : decode cX9_racked 1 = .ok (.i2l, 1) := by decide +kernel
theorem dX9_racked_2 : decode cX9_racked 2 = .ok (.lconst 0, 1) := by decide +kernel
theorem dX9_racked_3 : decode cX9_racked 3 = .ok (.ldc2_w 278, 3) := by decide +kernel
theorem dX9_racked_6 : decode cX9_racked 6 = .ok (.invokestatic 60, 3) := by decide +kernel
theorem dX9_racked_9 : decode cX9_racked 9 = .ok (.ifCond .eq 28, 3) := by decide +kernel
theorem dX9_racked_12 : decode cX9_racked 12 = .ok (.iload_n 2, 1) := by decide +kernel
theorem dX9_racked_13 : decode cX9_racked 13 = .ok (.i2l, 1) := by decide +kernel
theorem dX9_racked_14 : decode cX9_racked 14 = .ok (.lconst 0, 1) := by decide +kernel
theorem dX9_racked_15 : decode cX9_racked 15 = .ok (.ldc2_w 247, 3) := by decide +kernel
theorem dX9_racked_18 : decode cX9_racked 18 = .ok (.invokestatic 60, 3) := by decide +kernel
theorem dX9_racked_21 : decode cX9_racked 21 = .ok (.ifCond .eq 16, 3) := by decide +kernel
theorem dX9_racked_24 : decode cX9_racked 24 = .ok (.aload_n 0, 1) := by decide +kernel
theorem dX9_racked_25 : decode cX9_racked 25 = .ok (.getfield 38, 3) := by decide +kernel
theorem dX9_racked_28 : decode cX9_racked 28 = .ok (.iconst 3, 1) := by decide +kernel
theorem dX9_racked_29 : decode cX9_racked 29 = .ok (.iload_n 1, 1) := by decide +kernel
theorem dX9_racked_30 : decode cX9_racked 30 = .ok (.imul, 1) := by decide +kernel
theorem dX9_racked_31 : decode cX9_racked 31 = .ok (.iload_n 2, 1) := by decide +kernel
theorem dX9_racked_32 : decode cX9_racked 32 = .ok (.iadd, 1) := by decide +kernel
theorem dX9_racked_33 : decode cX9_racked 33 = .ok (.iaload, 1) := by decide +kernel
theorem dX9_racked_34 : decode cX9_racked 34 = .ok (.goto 5, 3) := by decide +kernel
theorem dX9_racked_37 : decode cX9_racked 37 = .ok (.bipush (-102), 2) := by decide +kernel
theorem dX9_racked_39 : decode cX9_racked 39 = .ok (.ireturn, 1) := by decide +kernel
theorem dX9_see_0 : decode cX9_see 0 = .ok (.aload_n 0, 1) := by decide +kernel
theorem dX9_see_1 : decode cX9_see 1 = .ok (.iload_n 1, 1) := by decide +kernel
theorem dX9_see_2 : decode cX9_see 2 = .ok (.invokevirtual 272, 3) := by decide +kernel
theorem dX9_see_5 : decode cX9_see 5 = .ok (.ifCond .ne 6, 3) := by decide +kernel
theorem dX9_see_8 : decode cX9_see 8 = .ok (.bipush (-101), 2) := by decide +kernel
theorem dX9_see_10 : decode cX9_see 10 = .ok (.ireturn, 1) := by decide +kernel
theorem dX9_see_11 : decode cX9_see 11 = .ok (.iload_n 2, 1) := by decide +kernel
theorem dX9_see_12 : decode cX9_see 12 = .ok (.i2l, 1) := by decide +kernel
theorem dX9_see_13 : decode cX9_see 13 = .ok (.lconst 0, 1) := by decide +kernel
theorem dX9_see_14 : decode cX9_see 14 = .ok (.ldc2_w 283, 3) := by decide +kernel
theorem dX9_see_17 : decode cX9_see 17 = .ok (.invokestatic 60, 3) := by decide +kernel
theorem dX9_see_20 : decode cX9_see 20 = .ok (.ifCond .ne 6, 3) := by decide +kernel
theorem dX9_see_23 : decode cX9_see 23 = .ok (.bipush (-102), 2) := by decide +kernel
theorem dX9_see_25 : decode cX9_see 25 = .ok (.ireturn, 1) := by decide +kernel
theorem dX9_see_26 : decode cX9_see 26 = .ok (.aload_n 0, 1) := by decide +kernel
theorem dX9_see_27 : decode cX9_see 27 = .ok (.getfield 133, 3) := by decide +kernel
theorem dX9_see_30 : decode cX9_see 30 = .ok (.bipush 6, 2) := by decide +kernel
theorem dX9_see_32 : decode cX9_see 32 = .ok (.if_icmp .ne 6, 3) := by decide +kernel
theorem dX9_see_35 : decode cX9_see 35 = .ok (.bipush (-104), 2) := by decide +kernel
theorem dX9_see_37 : decode cX9_see 37 = .ok (.ireturn, 1) := by decide +kernel
theorem dX9_see_38 : decode cX9_see 38 = .ok (.aload_n 0, 1) := by decide +kernel
theorem dX9_see_39 : decode cX9_see 39 = .ok (.getfield 41, 3) := by decide +kernel
theorem dX9_see_42 : decode cX9_see 42 = .ok (.iconst 3, 1) := by decide +kernel
theorem dX9_see_43 : decode cX9_see 43 = .ok (.aload_n 0, 1) := by decide +kernel
theorem dX9_see_44 : decode cX9_see 44 = .ok (.getfield 133, 3) := by decide +kernel
theorem dX9_see_47 : decode cX9_see 47 = .ok (.imul, 1) := by decide +kernel
theorem dX9_see_48 : decode cX9_see 48 = .ok (.iload_n 1, 1) := by decide +kernel
theorem dX9_see_49 : decode cX9_see 49 = .ok (.iastore, 1) := by decide +kernel
theorem dX9_see_50 : decode cX9_see 50 = .ok (.aload_n 0, 1) := by decide +kernel
theorem dX9_see_51 : decode cX9_see 51 = .ok (.getfield 41, 3) := by decide +kernel
theorem dX9_see_54 : decode cX9_see 54 = .ok (.iconst 3, 1) := by decide +kernel
theorem dX9_see_55 : decode cX9_see 55 = .ok (.aload_n 0, 1) := by decide +kernel
theorem dX9_see_56 : decode cX9_see 56 = .ok (.getfield 133, 3) := by decide +kernel
theorem dX9_see_59 : decode cX9_see 59 = .ok (.imul, 1) := by decide +kernel
theorem dX9_see_60 : decode cX9_see 60 = .ok (.iconst 1, 1) := by decide +kernel
theorem dX9_see_61 : decode cX9_see 61 = .ok (.iadd, 1) := by decide +kernel
theorem dX9_see_62 : decode cX9_see 62 = .ok (.iload_n 2, 1) := by decide +kernel
theorem dX9_see_63 : decode cX9_see 63 = .ok (.iastore, 1) := by decide +kernel
theorem dX9_see_64 : decode cX9_see 64 = .ok (.aload_n 0, 1) := by decide +kernel
theorem dX9_see_65 : decode cX9_see 65 = .ok (.getfield 41, 3) := by decide +kernel
theorem dX9_see_68 : decode cX9_see 68 = .ok (.iconst 3, 1) := by decide +kernel
theorem dX9_see_69 : decode cX9_see 69 = .ok (.aload_n 0, 1) := by decide +kernel
theorem dX9_see_70 : decode cX9_see 70 = .ok (.getfield 133, 3) := by decide +kernel
theorem dX9_see_73 : decode cX9_see 73 = .ok (.imul, 1) := by decide +kernel
theorem dX9_see_74 : decode cX9_see 74 = .ok (.iconst 2, 1) := by decide +kernel
theorem dX9_see_75 : decode cX9_see 75 = .ok (.iadd, 1) := by decide +kernel
theorem dX9_see_76 : decode cX9_see 76 = .ok (.iload_n 3, 1) := by decide +kernel
theorem dX9_see_77 : decode cX9_see 77 = .ok (.ifCond .eq 7, 3) := by decide +kernel
theorem dX9_see_80 : decode cX9_see 80 = .ok (.iconst 1, 1) := by decide +kernel
theorem dX9_see_81 : decode cX9_see 81 = .ok (.goto 4, 3) := by decide +kernel
theorem dX9_see_84 : decode cX9_see 84 = .ok (.iconst 0, 1) := by decide +kernel
theorem dX9_see_85 : decode cX9_see 85 = .ok (.iastore, 1) := by decide +kernel
theorem dX9_see_86 : decode cX9_see 86 = .ok (.aload_n 0, 1) := by decide +kernel
theorem dX9_see_87 : decode cX9_see 87 = .ok (.dup, 1) := by decide +kernel
theorem dX9_see_88 : decode cX9_see 88 = .ok (.getfield 133, 3) := by decide +kernel
theorem dX9_see_91 : decode cX9_see 91 = .ok (.iconst 1, 1) := by decide +kernel
theorem dX9_see_92 : decode cX9_see 92 = .ok (.iadd, 1) := by decide +kernel
theorem dX9_see_93 : decode cX9_see 93 = .ok (.putfield 133, 3) := by decide +kernel
theorem dX9_see_96 : decode cX9_see 96 = .ok (.aload_n 0, 1) := by decide +kernel
theorem dX9_see_97 : decode cX9_see 97 = .ok (.getfield 133, 3) := by decide +kernel
theorem dX9_see_100 : decode cX9_see 100 = .ok (.ireturn, 1) := by decide +kernel
theorem dX9_forget_0 : decode cX9_forget 0 = .ok (.aload_n 0, 1) := by decide +kernel
theorem dX9_forget_1 : decode cX9_forget 1 = .ok (.getfield 133, 3) := by decide +kernel
theorem dX9_forget_4 : decode cX9_forget 4 = .ok (.istore_n 1, 1) := by decide +kernel
theorem dX9_forget_5 : decode cX9_forget 5 = .ok (.aload_n 0, 1) := by decide +kernel
theorem dX9_forget_6 : decode cX9_forget 6 = .ok (.iconst 0, 1) := by decide +kernel
theorem dX9_forget_7 : decode cX9_forget 7 = .ok (.putfield 133, 3) := by decide +kernel
theorem dX9_forget_10 : decode cX9_forget 10 = .ok (.iload_n 1, 1) := by decide +kernel
theorem dX9_forget_11 : decode cX9_forget 11 = .ok (.ireturn, 1) := by decide +kernel
theorem dX9_sortsBy_0 : decode cX9_sortsBy 0 = .ok (.iload_n 0, 1) := by decide +kernel
theorem dX9_sortsBy_1 : decode cX9_sortsBy 1 = .ok (.tableswitch 36 0 2 #[27, 30, 33], 27) := by decide +kernel
theorem dX9_sortsBy_28 : decode cX9_sortsBy 28 = .ok (.bipush 27, 2) := by decide +kernel
theorem dX9_sortsBy_30 : decode cX9_sortsBy 30 = .ok (.ireturn, 1) := by decide +kernel
theorem dX9_sortsBy_31 : decode cX9_sortsBy 31 = .ok (.bipush 14, 2) := by decide +kernel
theorem dX9_sortsBy_33 : decode cX9_sortsBy 33 = .ok (.ireturn, 1) := by decide +kernel
theorem dX9_sortsBy_34 : decode cX9_sortsBy 34 = .ok (.bipush 20, 2) := by decide +kernel
theorem dX9_sortsBy_36 : decode cX9_sortsBy 36 = .ok (.ireturn, 1) := by decide +kernel
theorem dX9_sortsBy_37 : decode cX9_sortsBy 37 = .ok (.bipush 16, 2) := by decide +kernel
theorem dX9_sortsBy_39 : decode cX9_sortsBy 39 = .ok (.ireturn, 1) := by decide +kernel
theorem dX9_sortsOf_0 : decode cX9_sortsOf 0 = .ok (.bipush 31, 2) := by decide +kernel
theorem dX9_sortsOf_2 : decode cX9_sortsOf 2 = .ok (.istore_n 2, 1) := by decide +kernel
theorem dX9_sortsOf_3 : decode cX9_sortsOf 3 = .ok (.iconst 0, 1) := by decide +kernel
theorem dX9_sortsOf_4 : decode cX9_sortsOf 4 = .ok (.istore_n 3, 1) := by decide +kernel
theorem dX9_sortsOf_5 : decode cX9_sortsOf 5 = .ok (.iload_n 3, 1) := by decide +kernel
theorem dX9_sortsOf_6 : decode cX9_sortsOf 6 = .ok (.iconst 3, 1) := by decide +kernel
theorem dX9_sortsOf_7 : decode cX9_sortsOf 7 = .ok (.aload_n 0, 1) := by decide +kernel
theorem dX9_sortsOf_8 : decode cX9_sortsOf 8 = .ok (.getfield 133, 3) := by decide +kernel
theorem dX9_sortsOf_11 : decode cX9_sortsOf 11 = .ok (.imul, 1) := by decide +kernel
theorem dX9_sortsOf_12 : decode cX9_sortsOf 12 = .ok (.if_icmp .ge 57, 3) := by decide +kernel
theorem dX9_sortsOf_15 : decode cX9_sortsOf 15 = .ok (.aload_n 0, 1) := by decide +kernel
theorem dX9_sortsOf_16 : decode cX9_sortsOf 16 = .ok (.getfield 41, 3) := by decide +kernel
theorem dX9_sortsOf_19 : decode cX9_sortsOf 19 = .ok (.iload_n 3, 1) := by decide +kernel
theorem dX9_sortsOf_20 : decode cX9_sortsOf 20 = .ok (.iaload, 1) := by decide +kernel
theorem dX9_sortsOf_21 : decode cX9_sortsOf 21 = .ok (.iload_n 1, 1) := by decide +kernel
theorem dX9_sortsOf_22 : decode cX9_sortsOf 22 = .ok (.if_icmp .ne 41, 3) := by decide +kernel
theorem dX9_sortsOf_25 : decode cX9_sortsOf 25 = .ok (.aload_n 0, 1) := by decide +kernel
theorem dX9_sortsOf_26 : decode cX9_sortsOf 26 = .ok (.getfield 41, 3) := by decide +kernel
theorem dX9_sortsOf_29 : decode cX9_sortsOf 29 = .ok (.iload_n 3, 1) := by decide +kernel
theorem dX9_sortsOf_30 : decode cX9_sortsOf 30 = .ok (.iconst 1, 1) := by decide +kernel
theorem dX9_sortsOf_31 : decode cX9_sortsOf 31 = .ok (.iadd, 1) := by decide +kernel
theorem dX9_sortsOf_32 : decode cX9_sortsOf 32 = .ok (.iaload, 1) := by decide +kernel
theorem dX9_sortsOf_33 : decode cX9_sortsOf 33 = .ok (.invokestatic 296, 3) := by decide +kernel
theorem dX9_sortsOf_36 : decode cX9_sortsOf 36 = .ok (.istore 4, 2) := by decide +kernel
theorem dX9_sortsOf_38 : decode cX9_sortsOf 38 = .ok (.iload_n 2, 1) := by decide +kernel
theorem dX9_sortsOf_39 : decode cX9_sortsOf 39 = .ok (.aload_n 0, 1) := by decide +kernel
theorem dX9_sortsOf_40 : decode cX9_sortsOf 40 = .ok (.getfield 41, 3) := by decide +kernel
theorem dX9_sortsOf_43 : decode cX9_sortsOf 43 = .ok (.iload_n 3, 1) := by decide +kernel
theorem dX9_sortsOf_44 : decode cX9_sortsOf 44 = .ok (.iconst 2, 1) := by decide +kernel
theorem dX9_sortsOf_45 : decode cX9_sortsOf 45 = .ok (.iadd, 1) := by decide +kernel
theorem dX9_sortsOf_46 : decode cX9_sortsOf 46 = .ok (.iaload, 1) := by decide +kernel
theorem dX9_sortsOf_47 : decode cX9_sortsOf 47 = .ok (.iconst 1, 1) := by decide +kernel
theorem dX9_sortsOf_48 : decode cX9_sortsOf 48 = .ok (.if_icmp .ne 8, 3) := by decide +kernel
theorem dX9_sortsOf_51 : decode cX9_sortsOf 51 = .ok (.iload 4, 2) := by decide +kernel
theorem dX9_sortsOf_53 : decode cX9_sortsOf 53 = .ok (.goto 8, 3) := by decide +kernel
theorem dX9_sortsOf_56 : decode cX9_sortsOf 56 = .ok (.bipush 31, 2) := by decide +kernel
theorem dX9_sortsOf_58 : decode cX9_sortsOf 58 = .ok (.iload 4, 2) := by decide +kernel
theorem dX9_sortsOf_60 : decode cX9_sortsOf 60 = .ok (.isub, 1) := by decide +kernel
theorem dX9_sortsOf_61 : decode cX9_sortsOf 61 = .ok (.iand, 1) := by decide +kernel
theorem dX9_sortsOf_62 : decode cX9_sortsOf 62 = .ok (.istore_n 2, 1) := by decide +kernel
theorem dX9_sortsOf_63 : decode cX9_sortsOf 63 = .ok (.iinc 3 3, 3) := by decide +kernel
theorem dX9_sortsOf_66 : decode cX9_sortsOf 66 = .ok (.goto (-61), 3) := by decide +kernel
theorem dX9_sortsOf_69 : decode cX9_sortsOf 69 = .ok (.iload_n 2, 1) := by decide +kernel
theorem dX9_sortsOf_70 : decode cX9_sortsOf 70 = .ok (.ireturn, 1) := by decide +kernel
theorem dX9_ones_0 : decode cX9_ones 0 = .ok (.iconst 0, 1) := by decide +kernel
theorem dX9_ones_1 : decode cX9_ones 1 = .ok (.istore_n 1, 1) := by decide +kernel
theorem dX9_ones_2 : decode cX9_ones 2 = .ok (.iconst 0, 1) := by decide +kernel
theorem dX9_ones_3 : decode cX9_ones 3 = .ok (.istore_n 2, 1) := by decide +kernel
theorem dX9_ones_4 : decode cX9_ones 4 = .ok (.iload_n 2, 1) := by decide +kernel
theorem dX9_ones_5 : decode cX9_ones 5 = .ok (.iconst 5, 1) := by decide +kernel
theorem dX9_ones_6 : decode cX9_ones 6 = .ok (.if_icmp .ge 17, 3) := by decide +kernel
theorem dX9_ones_9 : decode cX9_ones 9 = .ok (.iload_n 1, 1) := by decide +kernel
theorem dX9_ones_10 : decode cX9_ones 10 = .ok (.iload_n 0, 1) := by decide +kernel
theorem dX9_ones_11 : decode cX9_ones 11 = .ok (.iload_n 2, 1) := by decide +kernel
theorem dX9_ones_12 : decode cX9_ones 12 = .ok (.ishr, 1) := by decide +kernel
theorem dX9_ones_13 : decode cX9_ones 13 = .ok (.iconst 1, 1) := by decide +kernel
theorem dX9_ones_14 : decode cX9_ones 14 = .ok (.iand, 1) := by decide +kernel
theorem dX9_ones_15 : decode cX9_ones 15 = .ok (.iadd, 1) := by decide +kernel
theorem dX9_ones_16 : decode cX9_ones 16 = .ok (.istore_n 1, 1) := by decide +kernel
theorem dX9_ones_17 : decode cX9_ones 17 = .ok (.iinc 2 1, 3) := by decide +kernel
theorem dX9_ones_20 : decode cX9_ones 20 = .ok (.goto (-16), 3) := by decide +kernel
theorem dX9_ones_23 : decode cX9_ones 23 = .ok (.iload_n 1, 1) := by decide +kernel
theorem dX9_ones_24 : decode cX9_ones 24 = .ok (.ireturn, 1) := by decide +kernel
theorem dX9_askOf_0 : decode cX9_askOf 0 = .ok (.aload_n 0, 1) := by decide +kernel
theorem dX9_askOf_1 : decode cX9_askOf 1 = .ok (.iload_n 1, 1) := by decide +kernel
theorem dX9_askOf_2 : decode cX9_askOf 2 = .ok (.invokevirtual 266, 3) := by decide +kernel
theorem dX9_askOf_5 : decode cX9_askOf 5 = .ok (.istore_n 2, 1) := by decide +kernel
theorem dX9_askOf_6 : decode cX9_askOf 6 = .ok (.iconst (-1), 1) := by decide +kernel
theorem dX9_askOf_7 : decode cX9_askOf 7 = .ok (.istore_n 3, 1) := by decide +kernel
theorem dX9_askOf_8 : decode cX9_askOf 8 = .ok (.bipush 6, 2) := by decide +kernel
theorem dX9_askOf_10 : decode cX9_askOf 10 = .ok (.istore 4, 2) := by decide +kernel
theorem dX9_askOf_12 : decode cX9_askOf 12 = .ok (.iconst 0, 1) := by decide +kernel
theorem dX9_askOf_13 : decode cX9_askOf 13 = .ok (.istore 5, 2) := by decide +kernel
theorem dX9_askOf_15 : decode cX9_askOf 15 = .ok (.iload 5, 2) := by decide +kernel
theorem dX9_askOf_17 : decode cX9_askOf 17 = .ok (.iconst 4, 1) := by decide +kernel
theorem dX9_askOf_18 : decode cX9_askOf 18 = .ok (.if_icmp .ge 80, 3) := by decide +kernel
theorem dX9_askOf_21 : decode cX9_askOf 21 = .ok (.iload_n 2, 1) := by decide +kernel
theorem dX9_askOf_22 : decode cX9_askOf 22 = .ok (.ifCond .eq 76, 3) := by decide +kernel
theorem dX9_askOf_25 : decode cX9_askOf 25 = .ok (.iload_n 2, 1) := by decide +kernel
theorem dX9_askOf_26 : decode cX9_askOf 26 = .ok (.iload 5, 2) := by decide +kernel
theorem dX9_askOf_28 : decode cX9_askOf 28 = .ok (.invokestatic 296, 3) := by decide +kernel
theorem dX9_askOf_31 : decode cX9_askOf 31 = .ok (.iand, 1) := by decide +kernel
theorem dX9_askOf_32 : decode cX9_askOf 32 = .ok (.invokestatic 299, 3) := by decide +kernel
theorem dX9_askOf_35 : decode cX9_askOf 35 = .ok (.istore 6, 2) := by decide +kernel
theorem dX9_askOf_37 : decode cX9_askOf 37 = .ok (.iload_n 2, 1) := by decide +kernel
theorem dX9_askOf_38 : decode cX9_askOf 38 = .ok (.invokestatic 299, 3) := by decide +kernel
theorem dX9_askOf_41 : decode cX9_askOf 41 = .ok (.iload 6, 2) := by decide +kernel
theorem dX9_askOf_43 : decode cX9_askOf 43 = .ok (.isub, 1) := by decide +kernel
theorem dX9_askOf_44 : decode cX9_askOf 44 = .ok (.istore 7, 2) := by decide +kernel
theorem dX9_askOf_46 : decode cX9_askOf 46 = .ok (.iload 6, 2) := by decide +kernel
theorem dX9_askOf_48 : decode cX9_askOf 48 = .ok (.iload 7, 2) := by decide +kernel
theorem dX9_askOf_50 : decode cX9_askOf 50 = .ok (.if_icmp .le 8, 3) := by decide +kernel
theorem dX9_askOf_53 : decode cX9_askOf 53 = .ok (.iload 6, 2) := by decide +kernel
theorem dX9_askOf_55 : decode cX9_askOf 55 = .ok (.goto 5, 3) := by decide +kernel
theorem dX9_askOf_58 : decode cX9_askOf 58 = .ok (.iload 7, 2) := by decide +kernel
theorem dX9_askOf_60 : decode cX9_askOf 60 = .ok (.istore 8, 2) := by decide +kernel
theorem dX9_askOf_62 : decode cX9_askOf 62 = .ok (.iload 8, 2) := by decide +kernel
theorem dX9_askOf_64 : decode cX9_askOf 64 = .ok (.iload 4, 2) := by decide +kernel
theorem dX9_askOf_66 : decode cX9_askOf 66 = .ok (.if_icmp .ge 8, 3) := by decide +kernel
theorem dX9_askOf_69 : decode cX9_askOf 69 = .ok (.iload 5, 2) := by decide +kernel
theorem dX9_askOf_71 : decode cX9_askOf 71 = .ok (.goto 4, 3) := by decide +kernel
theorem dX9_askOf_74 : decode cX9_askOf 74 = .ok (.iload_n 3, 1) := by decide +kernel
theorem dX9_askOf_75 : decode cX9_askOf 75 = .ok (.istore_n 3, 1) := by decide +kernel
theorem dX9_askOf_76 : decode cX9_askOf 76 = .ok (.iload 8, 2) := by decide +kernel
theorem dX9_askOf_78 : decode cX9_askOf 78 = .ok (.iload 4, 2) := by decide +kernel
theorem dX9_askOf_80 : decode cX9_askOf 80 = .ok (.if_icmp .ge 8, 3) := by decide +kernel
theorem dX9_askOf_83 : decode cX9_askOf 83 = .ok (.iload 8, 2) := by decide +kernel
theorem dX9_askOf_85 : decode cX9_askOf 85 = .ok (.goto 5, 3) := by decide +kernel
theorem dX9_askOf_88 : decode cX9_askOf 88 = .ok (.iload 4, 2) := by decide +kernel
theorem dX9_askOf_90 : decode cX9_askOf 90 = .ok (.istore 4, 2) := by decide +kernel
theorem dX9_askOf_92 : decode cX9_askOf 92 = .ok (.iinc 5 1, 3) := by decide +kernel
theorem dX9_askOf_95 : decode cX9_askOf 95 = .ok (.goto (-80), 3) := by decide +kernel
theorem dX9_askOf_98 : decode cX9_askOf 98 = .ok (.iload_n 3, 1) := by decide +kernel
theorem dX9_askOf_99 : decode cX9_askOf 99 = .ok (.ireturn, 1) := by decide +kernel
theorem dX9_draw_0 : decode cX9_draw 0 = .ok (.aload_n 0, 1) := by decide +kernel
theorem dX9_draw_1 : decode cX9_draw 1 = .ok (.ldc2_w 302, 3) := by decide +kernel
theorem dX9_draw_4 : decode cX9_draw 4 = .ok (.aload_n 0, 1) := by decide +kernel
theorem dX9_draw_5 : decode cX9_draw 5 = .ok (.getfield 304, 3) := by decide +kernel
theorem dX9_draw_8 : decode cX9_draw 8 = .ok (.i2l, 1) := by decide +kernel
theorem dX9_draw_9 : decode cX9_draw 9 = .ok (.lmul, 1) := by decide +kernel
theorem dX9_draw_10 : decode cX9_draw 10 = .ok (.ldc2_w 307, 3) := by decide +kernel
theorem dX9_draw_13 : decode cX9_draw 13 = .ok (.ladd, 1) := by decide +kernel
theorem dX9_draw_14 : decode cX9_draw 14 = .ok (.ldc2_w 309, 3) := by decide +kernel
theorem dX9_draw_17 : decode cX9_draw 17 = .ok (.land, 1) := by decide +kernel
theorem dX9_draw_18 : decode cX9_draw 18 = .ok (.l2i, 1) := by decide +kernel
theorem dX9_draw_19 : decode cX9_draw 19 = .ok (.putfield 304, 3) := by decide +kernel
theorem dX9_draw_22 : decode cX9_draw 22 = .ok (.aload_n 0, 1) := by decide +kernel
theorem dX9_draw_23 : decode cX9_draw 23 = .ok (.getfield 304, 3) := by decide +kernel
theorem dX9_draw_26 : decode cX9_draw 26 = .ok (.ldc_w 311, 3) := by decide +kernel
theorem dX9_draw_29 : decode cX9_draw 29 = .ok (.idiv, 1) := by decide +kernel
theorem dX9_draw_30 : decode cX9_draw 30 = .ok (.iload_n 1, 1) := by decide +kernel
theorem dX9_draw_31 : decode cX9_draw 31 = .ok (.irem, 1) := by decide +kernel
theorem dX9_draw_32 : decode cX9_draw 32 = .ok (.ireturn, 1) := by decide +kernel
theorem dX9_drawTest_0 : decode cX9_drawTest 0 = .ok (.aload_n 0, 1) := by decide +kernel
theorem dX9_drawTest_1 : decode cX9_drawTest 1 = .ok (.bipush 6, 2) := by decide +kernel
theorem dX9_drawTest_3 : decode cX9_drawTest 3 = .ok (.invokevirtual 312, 3) := by decide +kernel
theorem dX9_drawTest_6 : decode cX9_drawTest 6 = .ok (.istore_n 1, 1) := by decide +kernel
theorem dX9_drawTest_7 : decode cX9_drawTest 7 = .ok (.aload_n 0, 1) := by decide +kernel
theorem dX9_drawTest_8 : decode cX9_drawTest 8 = .ok (.bipush 6, 2) := by decide +kernel
theorem dX9_drawTest_10 : decode cX9_drawTest 10 = .ok (.invokevirtual 312, 3) := by decide +kernel
theorem dX9_drawTest_13 : decode cX9_drawTest 13 = .ok (.istore_n 2, 1) := by decide +kernel
theorem dX9_drawTest_14 : decode cX9_drawTest 14 = .ok (.aload_n 0, 1) := by decide +kernel
theorem dX9_drawTest_15 : decode cX9_drawTest 15 = .ok (.bipush 12, 2) := by decide +kernel
theorem dX9_drawTest_17 : decode cX9_drawTest 17 = .ok (.invokevirtual 312, 3) := by decide +kernel
theorem dX9_drawTest_20 : decode cX9_drawTest 20 = .ok (.iconst 4, 1) := by decide +kernel
theorem dX9_drawTest_21 : decode cX9_drawTest 21 = .ok (.isub, 1) := by decide +kernel
theorem dX9_drawTest_22 : decode cX9_drawTest 22 = .ok (.istore_n 3, 1) := by decide +kernel
theorem dX9_drawTest_23 : decode cX9_drawTest 23 = .ok (.iconst 0, 1) := by decide +kernel
theorem dX9_drawTest_24 : decode cX9_drawTest 24 = .ok (.istore 4, 2) := by decide +kernel
theorem dX9_drawTest_26 : decode cX9_drawTest 26 = .ok (.iload 4, 2) := by decide +kernel
theorem dX9_drawTest_28 : decode cX9_drawTest 28 = .ok (.sipush 4913, 3) := by decide +kernel
theorem dX9_drawTest_31 : decode cX9_drawTest 31 = .ok (.if_icmp .ge 59, 3) := by decide +kernel
theorem dX9_drawTest_34 : decode cX9_drawTest 34 = .ok (.ldc_w 315, 3) := by decide +kernel
theorem dX9_drawTest_37 : decode cX9_drawTest 37 = .ok (.iload 4, 2) := by decide +kernel
theorem dX9_drawTest_39 : decode cX9_drawTest 39 = .ok (.iadd, 1) := by decide +kernel
theorem dX9_drawTest_40 : decode cX9_drawTest 40 = .ok (.istore 5, 2) := by decide +kernel
theorem dX9_drawTest_42 : decode cX9_drawTest 42 = .ok (.aload_n 0, 1) := by decide +kernel
theorem dX9_drawTest_43 : decode cX9_drawTest 43 = .ok (.getfield 20, 3) := by decide +kernel
theorem dX9_drawTest_46 : decode cX9_drawTest 46 = .ok (.iload 5, 2) := by decide +kernel
theorem dX9_drawTest_48 : decode cX9_drawTest 48 = .ok (.aload_n 0, 1) := by decide +kernel
theorem dX9_drawTest_49 : decode cX9_drawTest 49 = .ok (.getfield 20, 3) := by decide +kernel
theorem dX9_drawTest_52 : decode cX9_drawTest 52 = .ok (.iload 5, 2) := by decide +kernel
theorem dX9_drawTest_54 : decode cX9_drawTest 54 = .ok (.iaload, 1) := by decide +kernel
theorem dX9_drawTest_55 : decode cX9_drawTest 55 = .ok (.iconst 1, 1) := by decide +kernel
theorem dX9_drawTest_56 : decode cX9_drawTest 56 = .ok (.if_icmp .ne 26, 3) := by decide +kernel
theorem dX9_drawTest_59 : decode cX9_drawTest 59 = .ok (.aload_n 0, 1) := by decide +kernel
theorem dX9_drawTest_60 : decode cX9_drawTest 60 = .ok (.iload 4, 2) := by decide +kernel
theorem dX9_drawTest_62 : decode cX9_drawTest 62 = .ok (.iload_n 1, 1) := by decide +kernel
theorem dX9_drawTest_63 : decode cX9_drawTest 63 = .ok (.invokevirtual 152, 3) := by decide +kernel
theorem dX9_drawTest_66 : decode cX9_drawTest 66 = .ok (.aload_n 0, 1) := by decide +kernel
theorem dX9_drawTest_67 : decode cX9_drawTest 67 = .ok (.iload 4, 2) := by decide +kernel
theorem dX9_drawTest_69 : decode cX9_drawTest 69 = .ok (.iload_n 2, 1) := by decide +kernel
theorem dX9_drawTest_70 : decode cX9_drawTest 70 = .ok (.invokevirtual 152, 3) := by decide +kernel
theorem dX9_drawTest_73 : decode cX9_drawTest 73 = .ok (.iadd, 1) := by decide +kernel
theorem dX9_drawTest_74 : decode cX9_drawTest 74 = .ok (.iload_n 3, 1) := by decide +kernel
theorem dX9_drawTest_75 : decode cX9_drawTest 75 = .ok (.if_icmp .gt 7, 3) := by decide +kernel
theorem dX9_drawTest_78 : decode cX9_drawTest 78 = .ok (.iconst 1, 1) := by decide +kernel
theorem dX9_drawTest_79 : decode cX9_drawTest 79 = .ok (.goto 4, 3) := by decide +kernel
theorem dX9_drawTest_82 : decode cX9_drawTest 82 = .ok (.iconst 0, 1) := by decide +kernel
theorem dX9_drawTest_83 : decode cX9_drawTest 83 = .ok (.iastore, 1) := by decide +kernel
theorem dX9_drawTest_84 : decode cX9_drawTest 84 = .ok (.iinc 4 1, 3) := by decide +kernel
theorem dX9_drawTest_87 : decode cX9_drawTest 87 = .ok (.goto (-61), 3) := by decide +kernel
theorem dX9_drawTest_90 : decode cX9_drawTest 90 = .ok (.return_, 1) := by decide +kernel
theorem dX9_drawn_0 : decode cX9_drawn 0 = .ok (.iload_n 1, 1) := by decide +kernel
theorem dX9_drawn_1 : decode cX9_drawn 1 = .ok (.i2l, 1) := by decide +kernel
theorem dX9_drawn_2 : decode cX9_drawn 2 = .ok (.lconst 1, 1) := by decide +kernel
theorem dX9_drawn_3 : decode cX9_drawn 3 = .ok (.ldc2_w 171, 3) := by decide +kernel
theorem dX9_drawn_6 : decode cX9_drawn 6 = .ok (.invokestatic 60, 3) := by decide +kernel
theorem dX9_drawn_9 : decode cX9_drawn 9 = .ok (.ifCond .eq 19, 3) := by decide +kernel
theorem dX9_drawn_12 : decode cX9_drawn 12 = .ok (.iload_n 2, 1) := by decide +kernel
theorem dX9_drawn_13 : decode cX9_drawn 13 = .ok (.ifCond .lt 15, 3) := by decide +kernel
theorem dX9_drawn_16 : decode cX9_drawn 16 = .ok (.iload_n 3, 1) := by decide +kernel
theorem dX9_drawn_17 : decode cX9_drawn 17 = .ok (.i2l, 1) := by decide +kernel
theorem dX9_drawn_18 : decode cX9_drawn 18 = .ok (.lconst 0, 1) := by decide +kernel
theorem dX9_drawn_19 : decode cX9_drawn 19 = .ok (.ldc2_w 247, 3) := by decide +kernel
theorem dX9_drawn_22 : decode cX9_drawn 22 = .ok (.invokestatic 60, 3) := by decide +kernel
theorem dX9_drawn_25 : decode cX9_drawn 25 = .ok (.ifCond .ne 6, 3) := by decide +kernel
theorem dX9_drawn_28 : decode cX9_drawn 28 = .ok (.bipush (-102), 2) := by decide +kernel
theorem dX9_drawn_30 : decode cX9_drawn 30 = .ok (.ireturn, 1) := by decide +kernel
theorem dX9_drawn_31 : decode cX9_drawn 31 = .ok (.aload_n 0, 1) := by decide +kernel
theorem dX9_drawn_32 : decode cX9_drawn 32 = .ok (.iload_n 2, 1) := by decide +kernel
theorem dX9_drawn_33 : decode cX9_drawn 33 = .ok (.putfield 304, 3) := by decide +kernel
theorem dX9_drawn_36 : decode cX9_drawn 36 = .ok (.iconst 0, 1) := by decide +kernel
theorem dX9_drawn_37 : decode cX9_drawn 37 = .ok (.istore 4, 2) := by decide +kernel
theorem dX9_drawn_39 : decode cX9_drawn 39 = .ok (.iconst 0, 1) := by decide +kernel
theorem dX9_drawn_40 : decode cX9_drawn 40 = .ok (.istore 5, 2) := by decide +kernel
theorem dX9_drawn_42 : decode cX9_drawn 42 = .ok (.iconst 0, 1) := by decide +kernel
theorem dX9_drawn_43 : decode cX9_drawn 43 = .ok (.istore 6, 2) := by decide +kernel
theorem dX9_drawn_45 : decode cX9_drawn 45 = .ok (.iload 6, 2) := by decide +kernel
theorem dX9_drawn_47 : decode cX9_drawn 47 = .ok (.iload_n 1, 1) := by decide +kernel
theorem dX9_drawn_48 : decode cX9_drawn 48 = .ok (.if_icmp .ge 87, 3) := by decide +kernel
theorem dX9_drawn_51 : decode cX9_drawn 51 = .ok (.iconst 0, 1) := by decide +kernel
theorem dX9_drawn_52 : decode cX9_drawn 52 = .ok (.istore 7, 2) := by decide +kernel
theorem dX9_drawn_54 : decode cX9_drawn 54 = .ok (.iload 7, 2) := by decide +kernel
theorem dX9_drawn_56 : decode cX9_drawn 56 = .ok (.sipush 4913, 3) := by decide +kernel
theorem dX9_drawn_59 : decode cX9_drawn 59 = .ok (.if_icmp .ge 21, 3) := by decide +kernel
theorem dX9_drawn_62 : decode cX9_drawn 62 = .ok (.aload_n 0, 1) := by decide +kernel
theorem dX9_drawn_63 : decode cX9_drawn 63 = .ok (.getfield 20, 3) := by decide +kernel
theorem dX9_drawn_66 : decode cX9_drawn 66 = .ok (.ldc_w 315, 3) := by decide +kernel
theorem dX9_drawn_69 : decode cX9_drawn 69 = .ok (.iload 7, 2) := by decide +kernel
theorem dX9_drawn_71 : decode cX9_drawn 71 = .ok (.iadd, 1) := by decide +kernel
theorem dX9_drawn_72 : decode cX9_drawn 72 = .ok (.iconst 1, 1) := by decide +kernel
theorem dX9_drawn_73 : decode cX9_drawn 73 = .ok (.iastore, 1) := by decide +kernel
theorem dX9_drawn_74 : decode cX9_drawn 74 = .ok (.iinc 7 1, 3) := by decide +kernel
theorem dX9_drawn_77 : decode cX9_drawn 77 = .ok (.goto (-23), 3) := by decide +kernel
theorem dX9_drawn_80 : decode cX9_drawn 80 = .ok (.iconst 0, 1) := by decide +kernel
theorem dX9_drawn_81 : decode cX9_drawn 81 = .ok (.istore 7, 2) := by decide +kernel
theorem dX9_drawn_83 : decode cX9_drawn 83 = .ok (.iload 7, 2) := by decide +kernel
theorem dX9_drawn_85 : decode cX9_drawn 85 = .ok (.iconst 4, 1) := by decide +kernel
theorem dX9_drawn_86 : decode cX9_drawn 86 = .ok (.if_icmp .ge 13, 3) := by decide +kernel
theorem dX9_drawn_89 : decode cX9_drawn 89 = .ok (.aload_n 0, 1) := by decide +kernel
theorem dX9_drawn_90 : decode cX9_drawn 90 = .ok (.invokevirtual 316, 3) := by decide +kernel
theorem dX9_drawn_93 : decode cX9_drawn 93 = .ok (.iinc 7 1, 3) := by decide +kernel
theorem dX9_drawn_96 : decode cX9_drawn 96 = .ok (.goto (-13), 3) := by decide +kernel
theorem dX9_drawn_99 : decode cX9_drawn 99 = .ok (.aload_n 0, 1) := by decide +kernel
theorem dX9_drawn_100 : decode cX9_drawn 100 = .ok (.bipush 7, 2) := by decide +kernel
theorem dX9_drawn_102 : decode cX9_drawn 102 = .ok (.invokevirtual 185, 3) := by decide +kernel
theorem dX9_drawn_105 : decode cX9_drawn 105 = .ok (.istore 7, 2) := by decide +kernel
theorem dX9_drawn_107 : decode cX9_drawn 107 = .ok (.iload 4, 2) := by decide +kernel
theorem dX9_drawn_109 : decode cX9_drawn 109 = .ok (.iload 7, 2) := by decide +kernel
theorem dX9_drawn_111 : decode cX9_drawn 111 = .ok (.ifCond .le 7, 3) := by decide +kernel
theorem dX9_drawn_114 : decode cX9_drawn 114 = .ok (.iconst 1, 1) := by decide +kernel
theorem dX9_drawn_115 : decode cX9_drawn 115 = .ok (.goto 4, 3) := by decide +kernel
theorem dX9_drawn_118 : decode cX9_drawn 118 = .ok (.iconst 0, 1) := by decide +kernel
theorem dX9_drawn_119 : decode cX9_drawn 119 = .ok (.iadd, 1) := by decide +kernel
theorem dX9_drawn_120 : decode cX9_drawn 120 = .ok (.istore 4, 2) := by decide +kernel
theorem dX9_drawn_122 : decode cX9_drawn 122 = .ok (.iload 5, 2) := by decide +kernel
theorem dX9_drawn_124 : decode cX9_drawn 124 = .ok (.iload 7, 2) := by decide +kernel
theorem dX9_drawn_126 : decode cX9_drawn 126 = .ok (.iadd, 1) := by decide +kernel
theorem dX9_drawn_127 : decode cX9_drawn 127 = .ok (.istore 5, 2) := by decide +kernel
theorem dX9_drawn_129 : decode cX9_drawn 129 = .ok (.iinc 6 1, 3) := by decide +kernel
theorem dX9_drawn_132 : decode cX9_drawn 132 = .ok (.goto (-87), 3) := by decide +kernel
theorem dX9_drawn_135 : decode cX9_drawn 135 = .ok (.iload_n 3, 1) := by decide +kernel
theorem dX9_drawn_136 : decode cX9_drawn 136 = .ok (.ifCond .ne 8, 3) := by decide +kernel
theorem dX9_drawn_139 : decode cX9_drawn 139 = .ok (.iload 4, 2) := by decide +kernel
theorem dX9_drawn_141 : decode cX9_drawn 141 = .ok (.goto 17, 3) := by decide +kernel
theorem dX9_drawn_144 : decode cX9_drawn 144 = .ok (.iload_n 3, 1) := by decide +kernel
theorem dX9_drawn_145 : decode cX9_drawn 145 = .ok (.iconst 1, 1) := by decide +kernel
theorem dX9_drawn_146 : decode cX9_drawn 146 = .ok (.if_icmp .ne 8, 3) := by decide +kernel
theorem dX9_drawn_149 : decode cX9_drawn 149 = .ok (.iload 5, 2) := by decide +kernel
theorem dX9_drawn_151 : decode cX9_drawn 151 = .ok (.goto 7, 3) := by decide +kernel
theorem dX9_drawn_154 : decode cX9_drawn 154 = .ok (.aload_n 0, 1) := by decide +kernel
theorem dX9_drawn_155 : decode cX9_drawn 155 = .ok (.getfield 304, 3) := by decide +kernel
theorem dX9_drawn_158 : decode cX9_drawn 158 = .ok (.ireturn, 1) := by decide +kernel
theorem dX9_image_0 : decode cX9_image 0 = .ok (.aload_n 0, 1) := by decide +kernel
theorem dX9_image_1 : decode cX9_image 1 = .ok (.invokevirtual 222, 3) := by decide +kernel
theorem dX9_image_4 : decode cX9_image 4 = .ok (.ifCond .eq 6, 3) := by decide +kernel
theorem dX9_image_7 : decode cX9_image 7 = .ok (.bipush (-103), 2) := by decide +kernel
theorem dX9_image_9 : decode cX9_image 9 = .ok (.ireturn, 1) := by decide +kernel
theorem dX9_image_10 : decode cX9_image 10 = .ok (.aload_n 0, 1) := by decide +kernel
theorem dX9_image_11 : decode cX9_image 11 = .ok (.getfield 16, 3) := by decide +kernel
theorem dX9_image_14 : decode cX9_image 14 = .ok (.aload_n 0, 1) := by decide +kernel
theorem dX9_image_15 : decode cX9_image 15 = .ok (.getfield 44, 3) := by decide +kernel
theorem dX9_image_18 : decode cX9_image 18 = .ok (.invokestatic 129, 3) := by decide +kernel
theorem dX9_image_21 : decode cX9_image 21 = .ok (.aload_n 0, 1) := by decide +kernel
theorem dX9_image_22 : decode cX9_image 22 = .ok (.getfield 41, 3) := by decide +kernel
theorem dX9_image_25 : decode cX9_image 25 = .ok (.aload_n 0, 1) := by decide +kernel
theorem dX9_image_26 : decode cX9_image 26 = .ok (.getfield 47, 3) := by decide +kernel
theorem dX9_image_29 : decode cX9_image 29 = .ok (.invokestatic 129, 3) := by decide +kernel
theorem dX9_image_32 : decode cX9_image 32 = .ok (.aload_n 0, 1) := by decide +kernel
theorem dX9_image_33 : decode cX9_image 33 = .ok (.aload_n 0, 1) := by decide +kernel
theorem dX9_image_34 : decode cX9_image 34 = .ok (.getfield 126, 3) := by decide +kernel
theorem dX9_image_37 : decode cX9_image 37 = .ok (.putfield 319, 3) := by decide +kernel
theorem dX9_image_40 : decode cX9_image 40 = .ok (.aload_n 0, 1) := by decide +kernel
theorem dX9_image_41 : decode cX9_image 41 = .ok (.aload_n 0, 1) := by decide +kernel
theorem dX9_image_42 : decode cX9_image 42 = .ok (.getfield 133, 3) := by decide +kernel
theorem dX9_image_45 : decode cX9_image 45 = .ok (.putfield 322, 3) := by decide +kernel
theorem dX9_image_48 : decode cX9_image 48 = .ok (.aload_n 0, 1) := by decide +kernel
theorem dX9_image_49 : decode cX9_image 49 = .ok (.aload_n 0, 1) := by decide +kernel
theorem dX9_image_50 : decode cX9_image 50 = .ok (.getfield 136, 3) := by decide +kernel
theorem dX9_image_53 : decode cX9_image 53 = .ok (.putfield 50, 3) := by decide +kernel
theorem dX9_image_56 : decode cX9_image 56 = .ok (.aload_n 0, 1) := by decide +kernel
theorem dX9_image_57 : decode cX9_image 57 = .ok (.getfield 126, 3) := by decide +kernel
theorem dX9_image_60 : decode cX9_image 60 = .ok (.ireturn, 1) := by decide +kernel
theorem dX9_restore_0 : decode cX9_restore 0 = .ok (.aload_n 0, 1) := by decide +kernel
theorem dX9_restore_1 : decode cX9_restore 1 = .ok (.getfield 50, 3) := by decide +kernel
theorem dX9_restore_4 : decode cX9_restore 4 = .ok (.aload_n 0, 1) := by decide +kernel
theorem dX9_restore_5 : decode cX9_restore 5 = .ok (.getfield 136, 3) := by decide +kernel
theorem dX9_restore_8 : decode cX9_restore 8 = .ok (.if_icmp .eq 6, 3) := by decide +kernel
theorem dX9_restore_11 : decode cX9_restore 11 = .ok (.bipush (-103), 2) := by decide +kernel
theorem dX9_restore_13 : decode cX9_restore 13 = .ok (.ireturn, 1) := by decide +kernel
theorem dX9_restore_14 : decode cX9_restore 14 = .ok (.aload_n 0, 1) := by decide +kernel
theorem dX9_restore_15 : decode cX9_restore 15 = .ok (.getfield 44, 3) := by decide +kernel
theorem dX9_restore_18 : decode cX9_restore 18 = .ok (.aload_n 0, 1) := by decide +kernel
theorem dX9_restore_19 : decode cX9_restore 19 = .ok (.getfield 16, 3) := by decide +kernel
theorem dX9_restore_22 : decode cX9_restore 22 = .ok (.invokestatic 129, 3) := by decide +kernel
theorem dX9_restore_25 : decode cX9_restore 25 = .ok (.aload_n 0, 1) := by decide +kernel
theorem dX9_restore_26 : decode cX9_restore 26 = .ok (.getfield 47, 3) := by decide +kernel
theorem dX9_restore_29 : decode cX9_restore 29 = .ok (.aload_n 0, 1) := by decide +kernel
theorem dX9_restore_30 : decode cX9_restore 30 = .ok (.getfield 41, 3) := by decide +kernel
theorem dX9_restore_33 : decode cX9_restore 33 = .ok (.invokestatic 129, 3) := by decide +kernel
theorem dX9_restore_36 : decode cX9_restore 36 = .ok (.aload_n 0, 1) := by decide +kernel
theorem dX9_restore_37 : decode cX9_restore 37 = .ok (.aload_n 0, 1) := by decide +kernel
theorem dX9_restore_38 : decode cX9_restore 38 = .ok (.getfield 319, 3) := by decide +kernel
theorem dX9_restore_41 : decode cX9_restore 41 = .ok (.putfield 126, 3) := by decide +kernel
theorem dX9_restore_44 : decode cX9_restore 44 = .ok (.aload_n 0, 1) := by decide +kernel
theorem dX9_restore_45 : decode cX9_restore 45 = .ok (.aload_n 0, 1) := by decide +kernel
theorem dX9_restore_46 : decode cX9_restore 46 = .ok (.getfield 322, 3) := by decide +kernel
theorem dX9_restore_49 : decode cX9_restore 49 = .ok (.putfield 133, 3) := by decide +kernel
theorem dX9_restore_52 : decode cX9_restore 52 = .ok (.aload_n 0, 1) := by decide +kernel
theorem dX9_restore_53 : decode cX9_restore 53 = .ok (.invokevirtual 139, 3) := by decide +kernel
theorem dX9_restore_56 : decode cX9_restore 56 = .ok (.aload_n 0, 1) := by decide +kernel
theorem dX9_restore_57 : decode cX9_restore 57 = .ok (.getfield 126, 3) := by decide +kernel
theorem dX9_restore_60 : decode cX9_restore 60 = .ok (.ireturn, 1) := by decide +kernel
theorem dX9_stepsBy_0 : decode cX9_stepsBy 0 = .ok (.iconst 0, 1) := by decide +kernel
theorem dX9_stepsBy_1 : decode cX9_stepsBy 1 = .ok (.istore_n 2, 1) := by decide +kernel
theorem dX9_stepsBy_2 : decode cX9_stepsBy 2 = .ok (.iconst 0, 1) := by decide +kernel
theorem dX9_stepsBy_3 : decode cX9_stepsBy 3 = .ok (.istore_n 3, 1) := by decide +kernel
theorem dX9_stepsBy_4 : decode cX9_stepsBy 4 = .ok (.iload_n 3, 1) := by decide +kernel
theorem dX9_stepsBy_5 : decode cX9_stepsBy 5 = .ok (.aload_n 0, 1) := by decide +kernel
theorem dX9_stepsBy_6 : decode cX9_stepsBy 6 = .ok (.getfield 126, 3) := by decide +kernel
theorem dX9_stepsBy_9 : decode cX9_stepsBy 9 = .ok (.if_icmp .ge 52, 3) := by decide +kernel
theorem dX9_stepsBy_12 : decode cX9_stepsBy 12 = .ok (.iload_n 2, 1) := by decide +kernel
theorem dX9_stepsBy_13 : decode cX9_stepsBy 13 = .ok (.iload_n 1, 1) := by decide +kernel
theorem dX9_stepsBy_14 : decode cX9_stepsBy 14 = .ok (.iconst 1, 1) := by decide +kernel
theorem dX9_stepsBy_15 : decode cX9_stepsBy 15 = .ok (.if_icmp .ne 20, 3) := by decide +kernel
theorem dX9_stepsBy_18 : decode cX9_stepsBy 18 = .ok (.aload_n 0, 1) := by decide +kernel
theorem dX9_stepsBy_19 : decode cX9_stepsBy 19 = .ok (.iload_n 3, 1) := by decide +kernel
theorem dX9_stepsBy_20 : decode cX9_stepsBy 20 = .ok (.invokevirtual 146, 3) := by decide +kernel
theorem dX9_stepsBy_23 : decode cX9_stepsBy 23 = .ok (.iconst 4, 1) := by decide +kernel
theorem dX9_stepsBy_24 : decode cX9_stepsBy 24 = .ok (.if_icmp .ne 7, 3) := by decide +kernel
theorem dX9_stepsBy_27 : decode cX9_stepsBy 27 = .ok (.iconst 1, 1) := by decide +kernel
theorem dX9_stepsBy_28 : decode cX9_stepsBy 28 = .ok (.goto 25, 3) := by decide +kernel
theorem dX9_stepsBy_31 : decode cX9_stepsBy 31 = .ok (.iconst 0, 1) := by decide +kernel
theorem dX9_stepsBy_32 : decode cX9_stepsBy 32 = .ok (.goto 21, 3) := by decide +kernel
theorem dX9_stepsBy_35 : decode cX9_stepsBy 35 = .ok (.iload_n 1, 1) := by decide +kernel
theorem dX9_stepsBy_36 : decode cX9_stepsBy 36 = .ok (.iconst 3, 1) := by decide +kernel
theorem dX9_stepsBy_37 : decode cX9_stepsBy 37 = .ok (.if_icmp .ne 11, 3) := by decide +kernel
theorem dX9_stepsBy_40 : decode cX9_stepsBy 40 = .ok (.aload_n 0, 1) := by decide +kernel
theorem dX9_stepsBy_41 : decode cX9_stepsBy 41 = .ok (.iload_n 3, 1) := by decide +kernel
theorem dX9_stepsBy_42 : decode cX9_stepsBy 42 = .ok (.invokevirtual 260, 3) := by decide +kernel
theorem dX9_stepsBy_45 : decode cX9_stepsBy 45 = .ok (.goto 8, 3) := by decide +kernel
theorem dX9_stepsBy_48 : decode cX9_stepsBy 48 = .ok (.aload_n 0, 1) := by decide +kernel
theorem dX9_stepsBy_49 : decode cX9_stepsBy 49 = .ok (.iload_n 3, 1) := by decide +kernel
theorem dX9_stepsBy_50 : decode cX9_stepsBy 50 = .ok (.invokevirtual 263, 3) := by decide +kernel
theorem dX9_stepsBy_53 : decode cX9_stepsBy 53 = .ok (.iadd, 1) := by decide +kernel
theorem dX9_stepsBy_54 : decode cX9_stepsBy 54 = .ok (.istore_n 2, 1) := by decide +kernel
theorem dX9_stepsBy_55 : decode cX9_stepsBy 55 = .ok (.iinc 3 1, 3) := by decide +kernel
theorem dX9_stepsBy_58 : decode cX9_stepsBy 58 = .ok (.goto (-54), 3) := by decide +kernel
theorem dX9_stepsBy_61 : decode cX9_stepsBy 61 = .ok (.iload_n 2, 1) := by decide +kernel
theorem dX9_stepsBy_62 : decode cX9_stepsBy 62 = .ok (.ireturn, 1) := by decide +kernel
theorem dX9_countProgram_0 : decode cX9_countProgram 0 = .ok (.aload_n 0, 1) := by decide +kernel
theorem dX9_countProgram_1 : decode cX9_countProgram 1 = .ok (.invokevirtual 222, 3) := by decide +kernel
theorem dX9_countProgram_4 : decode cX9_countProgram 4 = .ok (.ifCond .eq 5, 3) := by decide +kernel
theorem dX9_countProgram_7 : decode cX9_countProgram 7 = .ok (.iconst 0, 1) := by decide +kernel
theorem dX9_countProgram_8 : decode cX9_countProgram 8 = .ok (.ireturn, 1) := by decide +kernel
theorem dX9_countProgram_9 : decode cX9_countProgram 9 = .ok (.aload_n 0, 1) := by decide +kernel
theorem dX9_countProgram_10 : decode cX9_countProgram 10 = .ok (.invokevirtual 226, 3) := by decide +kernel
theorem dX9_countProgram_13 : decode cX9_countProgram 13 = .ok (.iload_n 1, 1) := by decide +kernel
theorem dX9_countProgram_14 : decode cX9_countProgram 14 = .ok (.iconst 2, 1) := by decide +kernel
theorem dX9_countProgram_15 : decode cX9_countProgram 15 = .ok (.if_icmp .ne 10, 3) := by decide +kernel
theorem dX9_countProgram_18 : decode cX9_countProgram 18 = .ok (.aload_n 0, 1) := by decide +kernel
theorem dX9_countProgram_19 : decode cX9_countProgram 19 = .ok (.getfield 212, 3) := by decide +kernel
theorem dX9_countProgram_22 : decode cX9_countProgram 22 = .ok (.goto 25, 3) := by decide +kernel
theorem dX9_countProgram_25 : decode cX9_countProgram 25 = .ok (.iload_n 1, 1) := by decide +kernel
theorem dX9_countProgram_26 : decode cX9_countProgram 26 = .ok (.iconst 5, 1) := by decide +kernel
theorem dX9_countProgram_27 : decode cX9_countProgram 27 = .ok (.if_icmp .ne 15, 3) := by decide +kernel
theorem dX9_countProgram_30 : decode cX9_countProgram 30 = .ok (.aload_n 0, 1) := by decide +kernel
theorem dX9_countProgram_31 : decode cX9_countProgram 31 = .ok (.getfield 35, 3) := by decide +kernel
theorem dX9_countProgram_34 : decode cX9_countProgram 34 = .ok (.aload_n 0, 1) := by decide +kernel
theorem dX9_countProgram_35 : decode cX9_countProgram 35 = .ok (.getfield 126, 3) := by decide +kernel
theorem dX9_countProgram_38 : decode cX9_countProgram 38 = .ok (.iaload, 1) := by decide +kernel
theorem dX9_countProgram_39 : decode cX9_countProgram 39 = .ok (.goto 8, 3) := by decide +kernel
theorem dX9_countProgram_42 : decode cX9_countProgram 42 = .ok (.aload_n 0, 1) := by decide +kernel
theorem dX9_countProgram_43 : decode cX9_countProgram 43 = .ok (.iload_n 1, 1) := by decide +kernel
theorem dX9_countProgram_44 : decode cX9_countProgram 44 = .ok (.invokevirtual 325, 3) := by decide +kernel
theorem dX9_countProgram_47 : decode cX9_countProgram 47 = .ok (.ireturn, 1) := by decide +kernel
end
section
theorem dX9_rackedAll_0 : decode cX9_rackedAll 0 = .ok (.iconst 0, 1) := by decide +kernel
theorem dX9_rackedAll_1 : decode cX9_rackedAll 1 = .ok (.istore_n 1, 1) := by decide +kernel
theorem dX9_rackedAll_2 : decode cX9_rackedAll 2 = .ok (.iconst 0, 1) := by decide +kernel
theorem dX9_rackedAll_3 : decode cX9_rackedAll 3 = .ok (.istore_n 2, 1) := by decide +kernel
theorem dX9_rackedAll_4 : decode cX9_rackedAll 4 = .ok (.iload_n 2, 1) := by decide +kernel
theorem dX9_rackedAll_5 : decode cX9_rackedAll 5 = .ok (.iconst 5, 1) := by decide +kernel
theorem dX9_rackedAll_6 : decode cX9_rackedAll 6 = .ok (.if_icmp .ge 17, 3) := by decide +kernel
theorem dX9_rackedAll_9 : decode cX9_rackedAll 9 = .ok (.iload_n 1, 1) := by decide +kernel
theorem dX9_rackedAll_10 : decode cX9_rackedAll 10 = .ok (.aload_n 0, 1) := by decide +kernel
theorem dX9_rackedAll_11 : decode cX9_rackedAll 11 = .ok (.iload_n 2, 1) := by decide +kernel
theorem dX9_rackedAll_12 : decode cX9_rackedAll 12 = .ok (.invokevirtual 293, 3) := by decide +kernel
theorem dX9_rackedAll_15 : decode cX9_rackedAll 15 = .ok (.iadd, 1) := by decide +kernel
theorem dX9_rackedAll_16 : decode cX9_rackedAll 16 = .ok (.istore_n 1, 1) := by decide +kernel
theorem dX9_rackedAll_17 : decode cX9_rackedAll 17 = .ok (.iinc 2 1, 3) := by decide +kernel
theorem dX9_rackedAll_20 : decode cX9_rackedAll 20 = .ok (.goto (-16), 3) := by decide +kernel
theorem dX9_rackedAll_23 : decode cX9_rackedAll 23 = .ok (.iload_n 1, 1) := by decide +kernel
theorem dX9_rackedAll_24 : decode cX9_rackedAll 24 = .ok (.ireturn, 1) := by decide +kernel
theorem dX9_countOf_0 : decode cX9_countOf 0 = .ok (.iload_n 1, 1) := by decide +kernel
theorem dX9_countOf_1 : decode cX9_countOf 1 = .ok (.tableswitch 86 0 9 #[55, 60, 60, 60, 60, 60, 66, 71, 76, 81], 55) := by decide +kernel
theorem dX9_countOf_56 : decode cX9_countOf 56 = .ok (.aload_n 0, 1) := by decide +kernel
theorem dX9_countOf_57 : decode cX9_countOf 57 = .ok (.getfield 126, 3) := by decide +kernel
theorem dX9_countOf_60 : decode cX9_countOf 60 = .ok (.ireturn, 1) := by decide +kernel
theorem dX9_countOf_61 : decode cX9_countOf 61 = .ok (.aload_n 0, 1) := by decide +kernel
theorem dX9_countOf_62 : decode cX9_countOf 62 = .ok (.iload_n 1, 1) := by decide +kernel
theorem dX9_countOf_63 : decode cX9_countOf 63 = .ok (.invokevirtual 328, 3) := by decide +kernel
theorem dX9_countOf_66 : decode cX9_countOf 66 = .ok (.ireturn, 1) := by decide +kernel
theorem dX9_countOf_67 : decode cX9_countOf 67 = .ok (.aload_n 0, 1) := by decide +kernel
theorem dX9_countOf_68 : decode cX9_countOf 68 = .ok (.invokevirtual 331, 3) := by decide +kernel
theorem dX9_countOf_71 : decode cX9_countOf 71 = .ok (.ireturn, 1) := by decide +kernel
theorem dX9_countOf_72 : decode cX9_countOf 72 = .ok (.aload_n 0, 1) := by decide +kernel
theorem dX9_countOf_73 : decode cX9_countOf 73 = .ok (.getfield 133, 3) := by decide +kernel
theorem dX9_countOf_76 : decode cX9_countOf 76 = .ok (.ireturn, 1) := by decide +kernel
theorem dX9_countOf_77 : decode cX9_countOf 77 = .ok (.aload_n 0, 1) := by decide +kernel
theorem dX9_countOf_78 : decode cX9_countOf 78 = .ok (.getfield 64, 3) := by decide +kernel
theorem dX9_countOf_81 : decode cX9_countOf 81 = .ok (.ireturn, 1) := by decide +kernel
theorem dX9_countOf_82 : decode cX9_countOf 82 = .ok (.aload_n 0, 1) := by decide +kernel
theorem dX9_countOf_83 : decode cX9_countOf 83 = .ok (.getfield 136, 3) := by decide +kernel
theorem dX9_countOf_86 : decode cX9_countOf 86 = .ok (.ireturn, 1) := by decide +kernel
theorem dX9_countOf_87 : decode cX9_countOf 87 = .ok (.bipush (-102), 2) := by decide +kernel
theorem dX9_countOf_89 : decode cX9_countOf 89 = .ok (.ireturn, 1) := by decide +kernel
theorem dX9_count_0 : decode cX9_count 0 = .ok (.aload_n 0, 1) := by decide +kernel
theorem dX9_count_1 : decode cX9_count 1 = .ok (.iload_n 1, 1) := by decide +kernel
theorem dX9_count_2 : decode cX9_count 2 = .ok (.invokevirtual 334, 3) := by decide +kernel
theorem dX9_count_5 : decode cX9_count 5 = .ok (.ireturn, 1) := by decide +kernel
theorem dX9_say_0 : decode cX9_say 0 = .ok (.aload_n 0, 1) := by decide +kernel
theorem dX9_say_1 : decode cX9_say 1 = .ok (.ldc2_w 337, 3) := by decide +kernel
theorem dX9_say_4 : decode cX9_say 4 = .ok (.aload_n 0, 1) := by decide +kernel
theorem dX9_say_5 : decode cX9_say 5 = .ok (.getfield 339, 3) := by decide +kernel
theorem dX9_say_8 : decode cX9_say 8 = .ok (.lmul, 1) := by decide +kernel
theorem dX9_say_9 : decode cX9_say 9 = .ok (.lload_n 1, 1) := by decide +kernel
theorem dX9_say_10 : decode cX9_say 10 = .ok (.ladd, 1) := by decide +kernel
theorem dX9_say_11 : decode cX9_say 11 = .ok (.putfield 339, 3) := by decide +kernel
theorem dX9_say_14 : decode cX9_say 14 = .ok (.return_, 1) := by decide +kernel
theorem dX9_sayPlaces_0 : decode cX9_sayPlaces 0 = .ok (.aload_n 0, 1) := by decide +kernel
theorem dX9_sayPlaces_1 : decode cX9_sayPlaces 1 = .ok (.invokevirtual 226, 3) := by decide +kernel
theorem dX9_sayPlaces_4 : decode cX9_sayPlaces 4 = .ok (.iconst 0, 1) := by decide +kernel
theorem dX9_sayPlaces_5 : decode cX9_sayPlaces 5 = .ok (.istore_n 1, 1) := by decide +kernel
theorem dX9_sayPlaces_6 : decode cX9_sayPlaces 6 = .ok (.iload_n 1, 1) := by decide +kernel
theorem dX9_sayPlaces_7 : decode cX9_sayPlaces 7 = .ok (.aload_n 0, 1) := by decide +kernel
theorem dX9_sayPlaces_8 : decode cX9_sayPlaces 8 = .ok (.getfield 126, 3) := by decide +kernel
theorem dX9_sayPlaces_11 : decode cX9_sayPlaces 11 = .ok (.if_icmp .gt 69, 3) := by decide +kernel
theorem dX9_sayPlaces_14 : decode cX9_sayPlaces 14 = .ok (.aload_n 0, 1) := by decide +kernel
theorem dX9_sayPlaces_15 : decode cX9_sayPlaces 15 = .ok (.aload_n 0, 1) := by decide +kernel
theorem dX9_sayPlaces_16 : decode cX9_sayPlaces 16 = .ok (.getfield 35, 3) := by decide +kernel
theorem dX9_sayPlaces_19 : decode cX9_sayPlaces 19 = .ok (.iload_n 1, 1) := by decide +kernel
theorem dX9_sayPlaces_20 : decode cX9_sayPlaces 20 = .ok (.iaload, 1) := by decide +kernel
theorem dX9_sayPlaces_21 : decode cX9_sayPlaces 21 = .ok (.i2l, 1) := by decide +kernel
theorem dX9_sayPlaces_22 : decode cX9_sayPlaces 22 = .ok (.invokevirtual 343, 3) := by decide +kernel
theorem dX9_sayPlaces_25 : decode cX9_sayPlaces 25 = .ok (.aload_n 0, 1) := by decide +kernel
theorem dX9_sayPlaces_26 : decode cX9_sayPlaces 26 = .ok (.aload_n 0, 1) := by decide +kernel
theorem dX9_sayPlaces_27 : decode cX9_sayPlaces 27 = .ok (.iload_n 1, 1) := by decide +kernel
theorem dX9_sayPlaces_28 : decode cX9_sayPlaces 28 = .ok (.iconst 0, 1) := by decide +kernel
theorem dX9_sayPlaces_29 : decode cX9_sayPlaces 29 = .ok (.iconst 2, 1) := by decide +kernel
theorem dX9_sayPlaces_30 : decode cX9_sayPlaces 30 = .ok (.invokevirtual 237, 3) := by decide +kernel
theorem dX9_sayPlaces_33 : decode cX9_sayPlaces 33 = .ok (.i2l, 1) := by decide +kernel
theorem dX9_sayPlaces_34 : decode cX9_sayPlaces 34 = .ok (.invokevirtual 343, 3) := by decide +kernel
theorem dX9_sayPlaces_37 : decode cX9_sayPlaces 37 = .ok (.aload_n 0, 1) := by decide +kernel
theorem dX9_sayPlaces_38 : decode cX9_sayPlaces 38 = .ok (.aload_n 0, 1) := by decide +kernel
theorem dX9_sayPlaces_39 : decode cX9_sayPlaces 39 = .ok (.iload_n 1, 1) := by decide +kernel
theorem dX9_sayPlaces_40 : decode cX9_sayPlaces 40 = .ok (.iconst 1, 1) := by decide +kernel
theorem dX9_sayPlaces_41 : decode cX9_sayPlaces 41 = .ok (.iconst 4, 1) := by decide +kernel
theorem dX9_sayPlaces_42 : decode cX9_sayPlaces 42 = .ok (.invokevirtual 237, 3) := by decide +kernel
theorem dX9_sayPlaces_45 : decode cX9_sayPlaces 45 = .ok (.i2l, 1) := by decide +kernel
theorem dX9_sayPlaces_46 : decode cX9_sayPlaces 46 = .ok (.invokevirtual 343, 3) := by decide +kernel
theorem dX9_sayPlaces_49 : decode cX9_sayPlaces 49 = .ok (.aload_n 0, 1) := by decide +kernel
theorem dX9_sayPlaces_50 : decode cX9_sayPlaces 50 = .ok (.aload_n 0, 1) := by decide +kernel
theorem dX9_sayPlaces_51 : decode cX9_sayPlaces 51 = .ok (.iload_n 1, 1) := by decide +kernel
theorem dX9_sayPlaces_52 : decode cX9_sayPlaces 52 = .ok (.iconst 5, 1) := by decide +kernel
theorem dX9_sayPlaces_53 : decode cX9_sayPlaces 53 = .ok (.iconst 5, 1) := by decide +kernel
theorem dX9_sayPlaces_54 : decode cX9_sayPlaces 54 = .ok (.invokevirtual 237, 3) := by decide +kernel
theorem dX9_sayPlaces_57 : decode cX9_sayPlaces 57 = .ok (.i2l, 1) := by decide +kernel
theorem dX9_sayPlaces_58 : decode cX9_sayPlaces 58 = .ok (.invokevirtual 343, 3) := by decide +kernel
theorem dX9_sayPlaces_61 : decode cX9_sayPlaces 61 = .ok (.aload_n 0, 1) := by decide +kernel
theorem dX9_sayPlaces_62 : decode cX9_sayPlaces 62 = .ok (.aload_n 0, 1) := by decide +kernel
theorem dX9_sayPlaces_63 : decode cX9_sayPlaces 63 = .ok (.getfield 35, 3) := by decide +kernel
theorem dX9_sayPlaces_66 : decode cX9_sayPlaces 66 = .ok (.iload_n 1, 1) := by decide +kernel
theorem dX9_sayPlaces_67 : decode cX9_sayPlaces 67 = .ok (.iaload, 1) := by decide +kernel
theorem dX9_sayPlaces_68 : decode cX9_sayPlaces 68 = .ok (.invokestatic 251, 3) := by decide +kernel
theorem dX9_sayPlaces_71 : decode cX9_sayPlaces 71 = .ok (.invokevirtual 343, 3) := by decide +kernel
theorem dX9_sayPlaces_74 : decode cX9_sayPlaces 74 = .ok (.iinc 1 1, 3) := by decide +kernel
theorem dX9_sayPlaces_77 : decode cX9_sayPlaces 77 = .ok (.goto (-71), 3) := by decide +kernel
theorem dX9_sayPlaces_80 : decode cX9_sayPlaces 80 = .ok (.return_, 1) := by decide +kernel
theorem dX9_digest_0 : decode cX9_digest 0 = .ok (.aload_n 0, 1) := by decide +kernel
theorem dX9_digest_1 : decode cX9_digest 1 = .ok (.ldc2_w 347, 3) := by decide +kernel
theorem dX9_digest_4 : decode cX9_digest 4 = .ok (.putfield 339, 3) := by decide +kernel
theorem dX9_digest_7 : decode cX9_digest 7 = .ok (.iconst 0, 1) := by decide +kernel
theorem dX9_digest_8 : decode cX9_digest 8 = .ok (.istore_n 1, 1) := by decide +kernel
theorem dX9_digest_9 : decode cX9_digest 9 = .ok (.iload_n 1, 1) := by decide +kernel
theorem dX9_digest_10 : decode cX9_digest 10 = .ok (.aload_n 0, 1) := by decide +kernel
theorem dX9_digest_11 : decode cX9_digest 11 = .ok (.getfield 126, 3) := by decide +kernel
theorem dX9_digest_14 : decode cX9_digest 14 = .ok (.if_icmp .ge 34, 3) := by decide +kernel
theorem dX9_digest_17 : decode cX9_digest 17 = .ok (.iconst 0, 1) := by decide +kernel
theorem dX9_digest_18 : decode cX9_digest 18 = .ok (.istore_n 2, 1) := by decide +kernel
theorem dX9_digest_19 : decode cX9_digest 19 = .ok (.iload_n 2, 1) := by decide +kernel
theorem dX9_digest_20 : decode cX9_digest 20 = .ok (.bipush 9, 2) := by decide +kernel
theorem dX9_digest_22 : decode cX9_digest 22 = .ok (.if_icmp .ge 20, 3) := by decide +kernel
theorem dX9_digest_25 : decode cX9_digest 25 = .ok (.aload_n 0, 1) := by decide +kernel
theorem dX9_digest_26 : decode cX9_digest 26 = .ok (.aload_n 0, 1) := by decide +kernel
theorem dX9_digest_27 : decode cX9_digest 27 = .ok (.iload_n 1, 1) := by decide +kernel
theorem dX9_digest_28 : decode cX9_digest 28 = .ok (.iload_n 2, 1) := by decide +kernel
theorem dX9_digest_29 : decode cX9_digest 29 = .ok (.invokevirtual 275, 3) := by decide +kernel
theorem dX9_digest_32 : decode cX9_digest 32 = .ok (.i2l, 1) := by decide +kernel
theorem dX9_digest_33 : decode cX9_digest 33 = .ok (.invokevirtual 343, 3) := by decide +kernel
theorem dX9_digest_36 : decode cX9_digest 36 = .ok (.iinc 2 1, 3) := by decide +kernel
theorem dX9_digest_39 : decode cX9_digest 39 = .ok (.goto (-20), 3) := by decide +kernel
theorem dX9_digest_42 : decode cX9_digest 42 = .ok (.iinc 1 1, 3) := by decide +kernel
theorem dX9_digest_45 : decode cX9_digest 45 = .ok (.goto (-36), 3) := by decide +kernel
theorem dX9_digest_48 : decode cX9_digest 48 = .ok (.aload_n 0, 1) := by decide +kernel
theorem dX9_digest_49 : decode cX9_digest 49 = .ok (.invokevirtual 222, 3) := by decide +kernel
theorem dX9_digest_52 : decode cX9_digest 52 = .ok (.ifCond .ne 7, 3) := by decide +kernel
theorem dX9_digest_55 : decode cX9_digest 55 = .ok (.aload_n 0, 1) := by decide +kernel
theorem dX9_digest_56 : decode cX9_digest 56 = .ok (.invokevirtual 349, 3) := by decide +kernel
theorem dX9_digest_59 : decode cX9_digest 59 = .ok (.iconst 0, 1) := by decide +kernel
theorem dX9_digest_60 : decode cX9_digest 60 = .ok (.istore_n 1, 1) := by decide +kernel
theorem dX9_digest_61 : decode cX9_digest 61 = .ok (.iload_n 1, 1) := by decide +kernel
theorem dX9_digest_62 : decode cX9_digest 62 = .ok (.bipush 15, 2) := by decide +kernel
theorem dX9_digest_64 : decode cX9_digest 64 = .ok (.if_icmp .ge 20, 3) := by decide +kernel
theorem dX9_digest_67 : decode cX9_digest 67 = .ok (.aload_n 0, 1) := by decide +kernel
theorem dX9_digest_68 : decode cX9_digest 68 = .ok (.aload_n 0, 1) := by decide +kernel
theorem dX9_digest_69 : decode cX9_digest 69 = .ok (.getfield 38, 3) := by decide +kernel
theorem dX9_digest_72 : decode cX9_digest 72 = .ok (.iload_n 1, 1) := by decide +kernel
theorem dX9_digest_73 : decode cX9_digest 73 = .ok (.iaload, 1) := by decide +kernel
theorem dX9_digest_74 : decode cX9_digest 74 = .ok (.i2l, 1) := by decide +kernel
theorem dX9_digest_75 : decode cX9_digest 75 = .ok (.invokevirtual 343, 3) := by decide +kernel
theorem dX9_digest_78 : decode cX9_digest 78 = .ok (.iinc 1 1, 3) := by decide +kernel
theorem dX9_digest_81 : decode cX9_digest 81 = .ok (.goto (-20), 3) := by decide +kernel
theorem dX9_digest_84 : decode cX9_digest 84 = .ok (.iconst 0, 1) := by decide +kernel
theorem dX9_digest_85 : decode cX9_digest 85 = .ok (.istore_n 1, 1) := by decide +kernel
theorem dX9_digest_86 : decode cX9_digest 86 = .ok (.iload_n 1, 1) := by decide +kernel
theorem dX9_digest_87 : decode cX9_digest 87 = .ok (.aload_n 0, 1) := by decide +kernel
theorem dX9_digest_88 : decode cX9_digest 88 = .ok (.getfield 64, 3) := by decide +kernel
theorem dX9_digest_91 : decode cX9_digest 91 = .ok (.if_icmp .ge 20, 3) := by decide +kernel
theorem dX9_digest_94 : decode cX9_digest 94 = .ok (.aload_n 0, 1) := by decide +kernel
theorem dX9_digest_95 : decode cX9_digest 95 = .ok (.aload_n 0, 1) := by decide +kernel
theorem dX9_digest_96 : decode cX9_digest 96 = .ok (.getfield 7, 3) := by decide +kernel
theorem dX9_digest_99 : decode cX9_digest 99 = .ok (.iload_n 1, 1) := by decide +kernel
theorem dX9_digest_100 : decode cX9_digest 100 = .ok (.iaload, 1) := by decide +kernel
theorem dX9_digest_101 : decode cX9_digest 101 = .ok (.i2l, 1) := by decide +kernel
theorem dX9_digest_102 : decode cX9_digest 102 = .ok (.invokevirtual 343, 3) := by decide +kernel
theorem dX9_digest_105 : decode cX9_digest 105 = .ok (.iinc 1 1, 3) := by decide +kernel
theorem dX9_digest_108 : decode cX9_digest 108 = .ok (.goto (-22), 3) := by decide +kernel
theorem dX9_digest_111 : decode cX9_digest 111 = .ok (.iconst 0, 1) := by decide +kernel
theorem dX9_digest_112 : decode cX9_digest 112 = .ok (.istore_n 1, 1) := by decide +kernel
theorem dX9_digest_113 : decode cX9_digest 113 = .ok (.iload_n 1, 1) := by decide +kernel
theorem dX9_digest_114 : decode cX9_digest 114 = .ok (.bipush 10, 2) := by decide +kernel
theorem dX9_digest_116 : decode cX9_digest 116 = .ok (.if_icmp .ge 19, 3) := by decide +kernel
theorem dX9_digest_119 : decode cX9_digest 119 = .ok (.aload_n 0, 1) := by decide +kernel
theorem dX9_digest_120 : decode cX9_digest 120 = .ok (.aload_n 0, 1) := by decide +kernel
theorem dX9_digest_121 : decode cX9_digest 121 = .ok (.iload_n 1, 1) := by decide +kernel
theorem dX9_digest_122 : decode cX9_digest 122 = .ok (.invokevirtual 334, 3) := by decide +kernel
theorem dX9_digest_125 : decode cX9_digest 125 = .ok (.i2l, 1) := by decide +kernel
theorem dX9_digest_126 : decode cX9_digest 126 = .ok (.invokevirtual 343, 3) := by decide +kernel
theorem dX9_digest_129 : decode cX9_digest 129 = .ok (.iinc 1 1, 3) := by decide +kernel
theorem dX9_digest_132 : decode cX9_digest 132 = .ok (.goto (-19), 3) := by decide +kernel
theorem dX9_digest_135 : decode cX9_digest 135 = .ok (.aload_n 0, 1) := by decide +kernel
theorem dX9_digest_136 : decode cX9_digest 136 = .ok (.getfield 339, 3) := by decide +kernel
theorem dX9_digest_139 : decode cX9_digest 139 = .ok (.lreturn, 1) := by decide +kernel
theorem dJ11_isValidCodePoint_9a6ad_0 : decode cJ11_isValidCodePoint_9a6ad 0 = .ok (.iload_n 0, 1) := by decide +kernel
theorem dJ11_isValidCodePoint_9a6ad_1 : decode cJ11_isValidCodePoint_9a6ad 1 = .ok (.bipush 16, 2) := by decide +kernel
theorem dJ11_isValidCodePoint_9a6ad_3 : decode cJ11_isValidCodePoint_9a6ad 3 = .ok (.iushr, 1) := by decide +kernel
theorem dJ11_isValidCodePoint_9a6ad_4 : decode cJ11_isValidCodePoint_9a6ad 4 = .ok (.istore_n 1, 1) := by decide +kernel
theorem dJ11_isValidCodePoint_9a6ad_5 : decode cJ11_isValidCodePoint_9a6ad 5 = .ok (.iload_n 1, 1) := by decide +kernel
theorem dJ11_isValidCodePoint_9a6ad_6 : decode cJ11_isValidCodePoint_9a6ad 6 = .ok (.bipush 17, 2) := by decide +kernel
theorem dJ11_isValidCodePoint_9a6ad_8 : decode cJ11_isValidCodePoint_9a6ad 8 = .ok (.if_icmp .ge 7, 3) := by decide +kernel
theorem dJ11_isValidCodePoint_9a6ad_11 : decode cJ11_isValidCodePoint_9a6ad 11 = .ok (.iconst 1, 1) := by decide +kernel
theorem dJ11_isValidCodePoint_9a6ad_12 : decode cJ11_isValidCodePoint_9a6ad 12 = .ok (.goto 4, 3) := by decide +kernel
theorem dJ11_isValidCodePoint_9a6ad_15 : decode cJ11_isValidCodePoint_9a6ad 15 = .ok (.iconst 0, 1) := by decide +kernel
theorem dJ11_isValidCodePoint_9a6ad_16 : decode cJ11_isValidCodePoint_9a6ad 16 = .ok (.ireturn, 1) := by decide +kernel
theorem dJ11_highSurrogate_5068e_0 : decode cJ11_highSurrogate_5068e 0 = .ok (.iload_n 0, 1) := by decide +kernel
theorem dJ11_highSurrogate_5068e_1 : decode cJ11_highSurrogate_5068e 1 = .ok (.bipush 10, 2) := by decide +kernel
theorem dJ11_highSurrogate_5068e_3 : decode cJ11_highSurrogate_5068e 3 = .ok (.iushr, 1) := by decide +kernel
theorem dJ11_highSurrogate_5068e_4 : decode cJ11_highSurrogate_5068e 4 = .ok (.ldc 110, 2) := by decide +kernel
theorem dJ11_highSurrogate_5068e_6 : decode cJ11_highSurrogate_5068e 6 = .ok (.iadd, 1) := by decide +kernel
theorem dJ11_highSurrogate_5068e_7 : decode cJ11_highSurrogate_5068e 7 = .ok (.i2c, 1) := by decide +kernel
theorem dJ11_highSurrogate_5068e_8 : decode cJ11_highSurrogate_5068e 8 = .ok (.ireturn, 1) := by decide +kernel
theorem dJ11_lowSurrogate_5068e_0 : decode cJ11_lowSurrogate_5068e 0 = .ok (.iload_n 0, 1) := by decide +kernel
theorem dJ11_lowSurrogate_5068e_1 : decode cJ11_lowSurrogate_5068e 1 = .ok (.sipush 1023, 3) := by decide +kernel
theorem dJ11_lowSurrogate_5068e_4 : decode cJ11_lowSurrogate_5068e 4 = .ok (.iand, 1) := by decide +kernel
theorem dJ11_lowSurrogate_5068e_5 : decode cJ11_lowSurrogate_5068e 5 = .ok (.ldc 76, 2) := by decide +kernel
theorem dJ11_lowSurrogate_5068e_7 : decode cJ11_lowSurrogate_5068e 7 = .ok (.iadd, 1) := by decide +kernel
theorem dJ11_lowSurrogate_5068e_8 : decode cJ11_lowSurrogate_5068e 8 = .ok (.i2c, 1) := by decide +kernel
theorem dJ11_lowSurrogate_5068e_9 : decode cJ11_lowSurrogate_5068e 9 = .ok (.ireturn, 1) := by decide +kernel
theorem dJ6_bitCount_0f7a4_0 : decode cJ6_bitCount_0f7a4 0 = .ok (.iload_n 0, 1) := by decide +kernel
theorem dJ6_bitCount_0f7a4_1 : decode cJ6_bitCount_0f7a4 1 = .ok (.iload_n 0, 1) := by decide +kernel
theorem dJ6_bitCount_0f7a4_2 : decode cJ6_bitCount_0f7a4 2 = .ok (.iconst 1, 1) := by decide +kernel
theorem dJ6_bitCount_0f7a4_3 : decode cJ6_bitCount_0f7a4 3 = .ok (.iushr, 1) := by decide +kernel
theorem dJ6_bitCount_0f7a4_4 : decode cJ6_bitCount_0f7a4 4 = .ok (.ldc_w 265, 3) := by decide +kernel
theorem dJ6_bitCount_0f7a4_7 : decode cJ6_bitCount_0f7a4 7 = .ok (.iand, 1) := by decide +kernel
theorem dJ6_bitCount_0f7a4_8 : decode cJ6_bitCount_0f7a4 8 = .ok (.isub, 1) := by decide +kernel
theorem dJ6_bitCount_0f7a4_9 : decode cJ6_bitCount_0f7a4 9 = .ok (.istore_n 0, 1) := by decide +kernel
theorem dJ6_bitCount_0f7a4_10 : decode cJ6_bitCount_0f7a4 10 = .ok (.iload_n 0, 1) := by decide +kernel
theorem dJ6_bitCount_0f7a4_11 : decode cJ6_bitCount_0f7a4 11 = .ok (.ldc_w 266, 3) := by decide +kernel
theorem dJ6_bitCount_0f7a4_14 : decode cJ6_bitCount_0f7a4 14 = .ok (.iand, 1) := by decide +kernel
theorem dJ6_bitCount_0f7a4_15 : decode cJ6_bitCount_0f7a4 15 = .ok (.iload_n 0, 1) := by decide +kernel
theorem dJ6_bitCount_0f7a4_16 : decode cJ6_bitCount_0f7a4 16 = .ok (.iconst 2, 1) := by decide +kernel
theorem dJ6_bitCount_0f7a4_17 : decode cJ6_bitCount_0f7a4 17 = .ok (.iushr, 1) := by decide +kernel
theorem dJ6_bitCount_0f7a4_18 : decode cJ6_bitCount_0f7a4 18 = .ok (.ldc_w 266, 3) := by decide +kernel
theorem dJ6_bitCount_0f7a4_21 : decode cJ6_bitCount_0f7a4 21 = .ok (.iand, 1) := by decide +kernel
theorem dJ6_bitCount_0f7a4_22 : decode cJ6_bitCount_0f7a4 22 = .ok (.iadd, 1) := by decide +kernel
theorem dJ6_bitCount_0f7a4_23 : decode cJ6_bitCount_0f7a4 23 = .ok (.istore_n 0, 1) := by decide +kernel
theorem dJ6_bitCount_0f7a4_24 : decode cJ6_bitCount_0f7a4 24 = .ok (.iload_n 0, 1) := by decide +kernel
theorem dJ6_bitCount_0f7a4_25 : decode cJ6_bitCount_0f7a4 25 = .ok (.iload_n 0, 1) := by decide +kernel
theorem dJ6_bitCount_0f7a4_26 : decode cJ6_bitCount_0f7a4 26 = .ok (.iconst 4, 1) := by decide +kernel
theorem dJ6_bitCount_0f7a4_27 : decode cJ6_bitCount_0f7a4 27 = .ok (.iushr, 1) := by decide +kernel
theorem dJ6_bitCount_0f7a4_28 : decode cJ6_bitCount_0f7a4 28 = .ok (.iadd, 1) := by decide +kernel
theorem dJ6_bitCount_0f7a4_29 : decode cJ6_bitCount_0f7a4 29 = .ok (.ldc_w 267, 3) := by decide +kernel
theorem dJ6_bitCount_0f7a4_32 : decode cJ6_bitCount_0f7a4 32 = .ok (.iand, 1) := by decide +kernel
theorem dJ6_bitCount_0f7a4_33 : decode cJ6_bitCount_0f7a4 33 = .ok (.istore_n 0, 1) := by decide +kernel
theorem dJ6_bitCount_0f7a4_34 : decode cJ6_bitCount_0f7a4 34 = .ok (.iload_n 0, 1) := by decide +kernel
theorem dJ6_bitCount_0f7a4_35 : decode cJ6_bitCount_0f7a4 35 = .ok (.iload_n 0, 1) := by decide +kernel
theorem dJ6_bitCount_0f7a4_36 : decode cJ6_bitCount_0f7a4 36 = .ok (.bipush 8, 2) := by decide +kernel
theorem dJ6_bitCount_0f7a4_38 : decode cJ6_bitCount_0f7a4 38 = .ok (.iushr, 1) := by decide +kernel
theorem dJ6_bitCount_0f7a4_39 : decode cJ6_bitCount_0f7a4 39 = .ok (.iadd, 1) := by decide +kernel
theorem dJ6_bitCount_0f7a4_40 : decode cJ6_bitCount_0f7a4 40 = .ok (.istore_n 0, 1) := by decide +kernel
theorem dJ6_bitCount_0f7a4_41 : decode cJ6_bitCount_0f7a4 41 = .ok (.iload_n 0, 1) := by decide +kernel
theorem dJ6_bitCount_0f7a4_42 : decode cJ6_bitCount_0f7a4 42 = .ok (.iload_n 0, 1) := by decide +kernel
theorem dJ6_bitCount_0f7a4_43 : decode cJ6_bitCount_0f7a4 43 = .ok (.bipush 16, 2) := by decide +kernel
theorem dJ6_bitCount_0f7a4_45 : decode cJ6_bitCount_0f7a4 45 = .ok (.iushr, 1) := by decide +kernel
theorem dJ6_bitCount_0f7a4_46 : decode cJ6_bitCount_0f7a4 46 = .ok (.iadd, 1) := by decide +kernel
theorem dJ6_bitCount_0f7a4_47 : decode cJ6_bitCount_0f7a4 47 = .ok (.istore_n 0, 1) := by decide +kernel
theorem dJ6_bitCount_0f7a4_48 : decode cJ6_bitCount_0f7a4 48 = .ok (.iload_n 0, 1) := by decide +kernel
theorem dJ6_bitCount_0f7a4_49 : decode cJ6_bitCount_0f7a4 49 = .ok (.bipush 63, 2) := by decide +kernel
theorem dJ6_bitCount_0f7a4_51 : decode cJ6_bitCount_0f7a4 51 = .ok (.iand, 1) := by decide +kernel
theorem dJ6_bitCount_0f7a4_52 : decode cJ6_bitCount_0f7a4 52 = .ok (.ireturn, 1) := by decide +kernel
theorem dJ9_floorMod_7cf53_0 : decode cJ9_floorMod_7cf53 0 = .ok (.iload_n 0, 1) := by decide +kernel
theorem dJ9_floorMod_7cf53_1 : decode cJ9_floorMod_7cf53 1 = .ok (.iload_n 1, 1) := by decide +kernel
theorem dJ9_floorMod_7cf53_2 : decode cJ9_floorMod_7cf53 2 = .ok (.irem, 1) := by decide +kernel
theorem dJ9_floorMod_7cf53_3 : decode cJ9_floorMod_7cf53 3 = .ok (.istore_n 2, 1) := by decide +kernel
theorem dJ9_floorMod_7cf53_4 : decode cJ9_floorMod_7cf53 4 = .ok (.iload_n 0, 1) := by decide +kernel
theorem dJ9_floorMod_7cf53_5 : decode cJ9_floorMod_7cf53 5 = .ok (.iload_n 1, 1) := by decide +kernel
theorem dJ9_floorMod_7cf53_6 : decode cJ9_floorMod_7cf53 6 = .ok (.ixor, 1) := by decide +kernel
theorem dJ9_floorMod_7cf53_7 : decode cJ9_floorMod_7cf53 7 = .ok (.ifCond .ge 11, 3) := by decide +kernel
theorem dJ9_floorMod_7cf53_10 : decode cJ9_floorMod_7cf53 10 = .ok (.iload_n 2, 1) := by decide +kernel
theorem dJ9_floorMod_7cf53_11 : decode cJ9_floorMod_7cf53 11 = .ok (.ifCond .eq 7, 3) := by decide +kernel
theorem dJ9_floorMod_7cf53_14 : decode cJ9_floorMod_7cf53 14 = .ok (.iload_n 2, 1) := by decide +kernel
theorem dJ9_floorMod_7cf53_15 : decode cJ9_floorMod_7cf53 15 = .ok (.iload_n 1, 1) := by decide +kernel
theorem dJ9_floorMod_7cf53_16 : decode cJ9_floorMod_7cf53 16 = .ok (.iadd, 1) := by decide +kernel
theorem dJ9_floorMod_7cf53_17 : decode cJ9_floorMod_7cf53 17 = .ok (.ireturn, 1) := by decide +kernel
theorem dJ9_floorMod_7cf53_18 : decode cJ9_floorMod_7cf53 18 = .ok (.iload_n 2, 1) := by decide +kernel
theorem dJ9_floorMod_7cf53_19 : decode cJ9_floorMod_7cf53 19 = .ok (.ireturn, 1) := by decide +kernel
theorem dJ9_max_7cf53_0 : decode cJ9_max_7cf53 0 = .ok (.iload_n 0, 1) := by decide +kernel
theorem dJ9_max_7cf53_1 : decode cJ9_max_7cf53 1 = .ok (.iload_n 1, 1) := by decide +kernel
theorem dJ9_max_7cf53_2 : decode cJ9_max_7cf53 2 = .ok (.if_icmp .lt 7, 3) := by decide +kernel
theorem dJ9_max_7cf53_5 : decode cJ9_max_7cf53 5 = .ok (.iload_n 0, 1) := by decide +kernel
theorem dJ9_max_7cf53_6 : decode cJ9_max_7cf53 6 = .ok (.goto 4, 3) := by decide +kernel
theorem dJ9_max_7cf53_9 : decode cJ9_max_7cf53 9 = .ok (.iload_n 1, 1) := by decide +kernel
theorem dJ9_max_7cf53_10 : decode cJ9_max_7cf53 10 = .ok (.ireturn, 1) := by decide +kernel
theorem dJ9_min_7cf53_0 : decode cJ9_min_7cf53 0 = .ok (.iload_n 0, 1) := by decide +kernel
theorem dJ9_min_7cf53_1 : decode cJ9_min_7cf53 1 = .ok (.iload_n 1, 1) := by decide +kernel
theorem dJ9_min_7cf53_2 : decode cJ9_min_7cf53 2 = .ok (.if_icmp .gt 7, 3) := by decide +kernel
theorem dJ9_min_7cf53_5 : decode cJ9_min_7cf53 5 = .ok (.iload_n 0, 1) := by decide +kernel
theorem dJ9_min_7cf53_6 : decode cJ9_min_7cf53 6 = .ok (.goto 4, 3) := by decide +kernel
theorem dJ9_min_7cf53_9 : decode cJ9_min_7cf53 9 = .ok (.iload_n 1, 1) := by decide +kernel
theorem dJ9_min_7cf53_10 : decode cJ9_min_7cf53 10 = .ok (.ireturn, 1) := by decide +kernel
theorem dJ0_length_8abf5_0 : decode cJ0_length_8abf5 0 = .ok (.aload_n 0, 1) := by decide +kernel
theorem dJ0_length_8abf5_1 : decode cJ0_length_8abf5 1 = .ok (.getfield 9, 3) := by decide +kernel
theorem dJ0_length_8abf5_4 : decode cJ0_length_8abf5 4 = .ok (.arraylength, 1) := by decide +kernel
theorem dJ0_length_8abf5_5 : decode cJ0_length_8abf5 5 = .ok (.aload_n 0, 1) := by decide +kernel
theorem dJ0_length_8abf5_6 : decode cJ0_length_8abf5 6 = .ok (.invokevirtual 335, 3) := by decide +kernel
theorem dJ0_length_8abf5_9 : decode cJ0_length_8abf5 9 = .ok (.ishr, 1) := by decide +kernel
theorem dJ0_length_8abf5_10 : decode cJ0_length_8abf5 10 = .ok (.ireturn, 1) := by decide +kernel
theorem dJ0_charAt_5068e_0 : decode cJ0_charAt_5068e 0 = .ok (.aload_n 0, 1) := by decide +kernel
theorem dJ0_charAt_5068e_1 : decode cJ0_charAt_5068e 1 = .ok (.invokevirtual 492, 3) := by decide +kernel
theorem dJ0_charAt_5068e_4 : decode cJ0_charAt_5068e 4 = .ok (.ifCond .eq 12, 3) := by decide +kernel
theorem dJ0_charAt_5068e_7 : decode cJ0_charAt_5068e 7 = .ok (.aload_n 0, 1) := by decide +kernel
theorem dJ0_charAt_5068e_8 : decode cJ0_charAt_5068e 8 = .ok (.getfield 9, 3) := by decide +kernel
theorem dJ0_charAt_5068e_11 : decode cJ0_charAt_5068e 11 = .ok (.iload_n 1, 1) := by decide +kernel
theorem dJ0_charAt_5068e_12 : decode cJ0_charAt_5068e 12 = .ok (.invokestatic 495, 3) := by decide +kernel
theorem dJ0_charAt_5068e_15 : decode cJ0_charAt_5068e 15 = .ok (.ireturn, 1) := by decide +kernel
theorem dJ0_charAt_5068e_16 : decode cJ0_charAt_5068e 16 = .ok (.aload_n 0, 1) := by decide +kernel
theorem dJ0_charAt_5068e_17 : decode cJ0_charAt_5068e 17 = .ok (.getfield 9, 3) := by decide +kernel
theorem dJ0_charAt_5068e_20 : decode cJ0_charAt_5068e 20 = .ok (.iload_n 1, 1) := by decide +kernel
theorem dJ0_charAt_5068e_21 : decode cJ0_charAt_5068e 21 = .ok (.invokestatic 498, 3) := by decide +kernel
theorem dJ0_charAt_5068e_24 : decode cJ0_charAt_5068e 24 = .ok (.ireturn, 1) := by decide +kernel
theorem dJ0_indexOf_0f7a4_0 : decode cJ0_indexOf_0f7a4 0 = .ok (.aload_n 0, 1) := by decide +kernel
theorem dJ0_indexOf_0f7a4_1 : decode cJ0_indexOf_0f7a4 1 = .ok (.iload_n 1, 1) := by decide +kernel
theorem dJ0_indexOf_0f7a4_2 : decode cJ0_indexOf_0f7a4 2 = .ok (.iconst 0, 1) := by decide +kernel
theorem dJ0_indexOf_0f7a4_3 : decode cJ0_indexOf_0f7a4 3 = .ok (.invokevirtual 633, 3) := by decide +kernel
theorem dJ0_indexOf_0f7a4_6 : decode cJ0_indexOf_0f7a4 6 = .ok (.ireturn, 1) := by decide +kernel
theorem dJ0_indexOf_7cf53_0 : decode cJ0_indexOf_7cf53 0 = .ok (.aload_n 0, 1) := by decide +kernel
theorem dJ0_indexOf_7cf53_1 : decode cJ0_indexOf_7cf53 1 = .ok (.invokevirtual 492, 3) := by decide +kernel
theorem dJ0_indexOf_7cf53_4 : decode cJ0_indexOf_7cf53 4 = .ok (.ifCond .eq 19, 3) := by decide +kernel
theorem dJ0_indexOf_7cf53_7 : decode cJ0_indexOf_7cf53 7 = .ok (.aload_n 0, 1) := by decide +kernel
theorem dJ0_indexOf_7cf53_8 : decode cJ0_indexOf_7cf53 8 = .ok (.getfield 9, 3) := by decide +kernel
theorem dJ0_indexOf_7cf53_11 : decode cJ0_indexOf_7cf53 11 = .ok (.iload_n 1, 1) := by decide +kernel
theorem dJ0_indexOf_7cf53_12 : decode cJ0_indexOf_7cf53 12 = .ok (.iload_n 2, 1) := by decide +kernel
theorem dJ0_indexOf_7cf53_13 : decode cJ0_indexOf_7cf53 13 = .ok (.aload_n 0, 1) := by decide +kernel
theorem dJ0_indexOf_7cf53_14 : decode cJ0_indexOf_7cf53 14 = .ok (.invokevirtual 505, 3) := by decide +kernel
theorem dJ0_indexOf_7cf53_17 : decode cJ0_indexOf_7cf53 17 = .ok (.invokestatic 637, 3) := by decide +kernel
theorem dJ0_indexOf_7cf53_20 : decode cJ0_indexOf_7cf53 20 = .ok (.goto 16, 3) := by decide +kernel
theorem dJ0_indexOf_7cf53_23 : decode cJ0_indexOf_7cf53 23 = .ok (.aload_n 0, 1) := by decide +kernel
theorem dJ0_indexOf_7cf53_24 : decode cJ0_indexOf_7cf53 24 = .ok (.getfield 9, 3) := by decide +kernel
theorem dJ0_indexOf_7cf53_27 : decode cJ0_indexOf_7cf53 27 = .ok (.iload_n 1, 1) := by decide +kernel
theorem dJ0_indexOf_7cf53_28 : decode cJ0_indexOf_7cf53 28 = .ok (.iload_n 2, 1) := by decide +kernel
theorem dJ0_indexOf_7cf53_29 : decode cJ0_indexOf_7cf53 29 = .ok (.aload_n 0, 1) := by decide +kernel
theorem dJ0_indexOf_7cf53_30 : decode cJ0_indexOf_7cf53 30 = .ok (.invokevirtual 505, 3) := by decide +kernel
theorem dJ0_indexOf_7cf53_33 : decode cJ0_indexOf_7cf53 33 = .ok (.invokestatic 640, 3) := by decide +kernel
theorem dJ0_indexOf_7cf53_36 : decode cJ0_indexOf_7cf53 36 = .ok (.ireturn, 1) := by decide +kernel
theorem dJ0_coder_7d493_0 : decode cJ0_coder_7d493 0 = .ok (.getstatic 38, 3) := by decide +kernel
theorem dJ0_coder_7d493_3 : decode cJ0_coder_7d493 3 = .ok (.ifCond .eq 10, 3) := by decide +kernel
theorem dJ0_coder_7d493_6 : decode cJ0_coder_7d493 6 = .ok (.aload_n 0, 1) := by decide +kernel
theorem dJ0_coder_7d493_7 : decode cJ0_coder_7d493 7 = .ok (.getfield 15, 3) := by decide +kernel
theorem dJ0_coder_7d493_10 : decode cJ0_coder_7d493 10 = .ok (.goto 4, 3) := by decide +kernel
theorem dJ0_coder_7d493_13 : decode cJ0_coder_7d493 13 = .ok (.iconst 1, 1) := by decide +kernel
theorem dJ0_coder_7d493_14 : decode cJ0_coder_7d493 14 = .ok (.ireturn, 1) := by decide +kernel
theorem dJ0_isLatin1_aae02_0 : decode cJ0_isLatin1_aae02 0 = .ok (.getstatic 38, 3) := by decide +kernel
theorem dJ0_isLatin1_aae02_3 : decode cJ0_isLatin1_aae02 3 = .ok (.ifCond .eq 14, 3) := by decide +kernel
theorem dJ0_isLatin1_aae02_6 : decode cJ0_isLatin1_aae02 6 = .ok (.aload_n 0, 1) := by decide +kernel
theorem dJ0_isLatin1_aae02_7 : decode cJ0_isLatin1_aae02 7 = .ok (.getfield 15, 3) := by decide +kernel
theorem dJ0_isLatin1_aae02_10 : decode cJ0_isLatin1_aae02 10 = .ok (.ifCond .ne 7, 3) := by decide +kernel
theorem dJ0_isLatin1_aae02_13 : decode cJ0_isLatin1_aae02 13 = .ok (.iconst 1, 1) := by decide +kernel
theorem dJ0_isLatin1_aae02_14 : decode cJ0_isLatin1_aae02 14 = .ok (.goto 4, 3) := by decide +kernel
theorem dJ0_isLatin1_aae02_17 : decode cJ0_isLatin1_aae02 17 = .ok (.iconst 0, 1) := by decide +kernel
theorem dJ0_isLatin1_aae02_18 : decode cJ0_isLatin1_aae02 18 = .ok (.ireturn, 1) := by decide +kernel
theorem dJ0_checkIndex_df160_0 : decode cJ0_checkIndex_df160 0 = .ok (.iload_n 0, 1) := by decide +kernel
theorem dJ0_checkIndex_df160_1 : decode cJ0_checkIndex_df160 1 = .ok (.iload_n 1, 1) := by decide +kernel
theorem dJ0_checkIndex_df160_2 : decode cJ0_checkIndex_df160 2 = .ok (.getstatic 1053, 3) := by decide +kernel
theorem dJ0_checkIndex_df160_5 : decode cJ0_checkIndex_df160 5 = .ok (.invokestatic 1059, 3) := by decide +kernel
theorem dJ0_checkIndex_df160_8 : decode cJ0_checkIndex_df160 8 = .ok (.pop, 1) := by decide +kernel
theorem dJ0_checkIndex_df160_9 : decode cJ0_checkIndex_df160 9 = .ok (.return_, 1) := by decide +kernel
theorem dJ0_checkBoundsBeginEnd_23922_0 : decode cJ0_checkBoundsBeginEnd_23922 0 = .ok (.iload_n 0, 1) := by decide +kernel
theorem dJ0_checkBoundsBeginEnd_23922_1 : decode cJ0_checkBoundsBeginEnd_23922 1 = .ok (.iload_n 1, 1) := by decide +kernel
theorem dJ0_checkBoundsBeginEnd_23922_2 : decode cJ0_checkBoundsBeginEnd_23922 2 = .ok (.iload_n 2, 1) := by decide +kernel
theorem dJ0_checkBoundsBeginEnd_23922_3 : decode cJ0_checkBoundsBeginEnd_23922 3 = .ok (.getstatic 1053, 3) := by decide +kernel
theorem dJ0_checkBoundsBeginEnd_23922_6 : decode cJ0_checkBoundsBeginEnd_23922 6 = .ok (.invokestatic 1062, 3) := by decide +kernel
theorem dJ0_checkBoundsBeginEnd_23922_9 : decode cJ0_checkBoundsBeginEnd_23922 9 = .ok (.pop, 1) := by decide +kernel
theorem dJ0_checkBoundsBeginEnd_23922_10 : decode cJ0_checkBoundsBeginEnd_23922 10 = .ok (.return_, 1) := by decide +kernel
theorem dJ1_charAt_3b067_0 : decode cJ1_charAt_3b067 0 = .ok (.iload_n 1, 1) := by decide +kernel
theorem dJ1_charAt_3b067_1 : decode cJ1_charAt_3b067 1 = .ok (.aload_n 0, 1) := by decide +kernel
theorem dJ1_charAt_3b067_2 : decode cJ1_charAt_3b067 2 = .ok (.arraylength, 1) := by decide +kernel
theorem dJ1_charAt_3b067_3 : decode cJ1_charAt_3b067 3 = .ok (.invokestatic 9, 3) := by decide +kernel
theorem dJ1_charAt_3b067_6 : decode cJ1_charAt_3b067 6 = .ok (.aload_n 0, 1) := by decide +kernel
theorem dJ1_charAt_3b067_7 : decode cJ1_charAt_3b067 7 = .ok (.iload_n 1, 1) := by decide +kernel
theorem dJ1_charAt_3b067_8 : decode cJ1_charAt_3b067 8 = .ok (.baload, 1) := by decide +kernel
theorem dJ1_charAt_3b067_9 : decode cJ1_charAt_3b067 9 = .ok (.sipush 255, 3) := by decide +kernel
theorem dJ1_charAt_3b067_12 : decode cJ1_charAt_3b067 12 = .ok (.iand, 1) := by decide +kernel
theorem dJ1_charAt_3b067_13 : decode cJ1_charAt_3b067 13 = .ok (.i2c, 1) := by decide +kernel
theorem dJ1_charAt_3b067_14 : decode cJ1_charAt_3b067 14 = .ok (.ireturn, 1) := by decide +kernel
theorem dJ1_canEncode_9a6ad_0 : decode cJ1_canEncode_9a6ad 0 = .ok (.iload_n 0, 1) := by decide +kernel
theorem dJ1_canEncode_9a6ad_1 : decode cJ1_canEncode_9a6ad 1 = .ok (.ifCond .lt 14, 3) := by decide +kernel
theorem dJ1_canEncode_9a6ad_4 : decode cJ1_canEncode_9a6ad 4 = .ok (.iload_n 0, 1) := by decide +kernel
theorem dJ1_canEncode_9a6ad_5 : decode cJ1_canEncode_9a6ad 5 = .ok (.sipush 255, 3) := by decide +kernel
theorem dJ1_canEncode_9a6ad_8 : decode cJ1_canEncode_9a6ad 8 = .ok (.if_icmp .gt 7, 3) := by decide +kernel
theorem dJ1_canEncode_9a6ad_11 : decode cJ1_canEncode_9a6ad 11 = .ok (.iconst 1, 1) := by decide +kernel
theorem dJ1_canEncode_9a6ad_12 : decode cJ1_canEncode_9a6ad 12 = .ok (.goto 4, 3) := by decide +kernel
theorem dJ1_canEncode_9a6ad_15 : decode cJ1_canEncode_9a6ad 15 = .ok (.iconst 0, 1) := by decide +kernel
theorem dJ1_canEncode_9a6ad_16 : decode cJ1_canEncode_9a6ad 16 = .ok (.ireturn, 1) := by decide +kernel
theorem dJ1_indexOf_4cfef_0 : decode cJ1_indexOf_4cfef 0 = .ok (.iload_n 1, 1) := by decide +kernel
theorem dJ1_indexOf_4cfef_1 : decode cJ1_indexOf_4cfef 1 = .ok (.invokestatic 88, 3) := by decide +kernel
theorem dJ1_indexOf_4cfef_4 : decode cJ1_indexOf_4cfef 4 = .ok (.ifCond .ne 5, 3) := by decide +kernel
theorem dJ1_indexOf_4cfef_7 : decode cJ1_indexOf_4cfef 7 = .ok (.iconst (-1), 1) := by decide +kernel
theorem dJ1_indexOf_4cfef_8 : decode cJ1_indexOf_4cfef 8 = .ok (.ireturn, 1) := by decide +kernel
theorem dJ1_indexOf_4cfef_9 : decode cJ1_indexOf_4cfef 9 = .ok (.iload_n 2, 1) := by decide +kernel
theorem dJ1_indexOf_4cfef_10 : decode cJ1_indexOf_4cfef 10 = .ok (.iconst 0, 1) := by decide +kernel
theorem dJ1_indexOf_4cfef_11 : decode cJ1_indexOf_4cfef 11 = .ok (.invokestatic 92, 3) := by decide +kernel
theorem dJ1_indexOf_4cfef_14 : decode cJ1_indexOf_4cfef 14 = .ok (.istore_n 2, 1) := by decide +kernel
theorem dJ1_indexOf_4cfef_15 : decode cJ1_indexOf_4cfef 15 = .ok (.iload_n 3, 1) := by decide +kernel
theorem dJ1_indexOf_4cfef_16 : decode cJ1_indexOf_4cfef 16 = .ok (.aload_n 0, 1) := by decide +kernel
theorem dJ1_indexOf_4cfef_17 : decode cJ1_indexOf_4cfef 17 = .ok (.arraylength, 1) := by decide +kernel
theorem dJ1_indexOf_4cfef_18 : decode cJ1_indexOf_4cfef 18 = .ok (.invokestatic 38, 3) := by decide +kernel
theorem dJ1_indexOf_4cfef_21 : decode cJ1_indexOf_4cfef 21 = .ok (.istore_n 3, 1) := by decide +kernel
theorem dJ1_indexOf_4cfef_22 : decode cJ1_indexOf_4cfef 22 = .ok (.iload_n 2, 1) := by decide +kernel
theorem dJ1_indexOf_4cfef_23 : decode cJ1_indexOf_4cfef 23 = .ok (.iload_n 3, 1) := by decide +kernel
theorem dJ1_indexOf_4cfef_24 : decode cJ1_indexOf_4cfef 24 = .ok (.if_icmp .lt 5, 3) := by decide +kernel
theorem dJ1_indexOf_4cfef_27 : decode cJ1_indexOf_4cfef 27 = .ok (.iconst (-1), 1) := by decide +kernel
theorem dJ1_indexOf_4cfef_28 : decode cJ1_indexOf_4cfef 28 = .ok (.ireturn, 1) := by decide +kernel
theorem dJ1_indexOf_4cfef_29 : decode cJ1_indexOf_4cfef 29 = .ok (.aload_n 0, 1) := by decide +kernel
theorem dJ1_indexOf_4cfef_30 : decode cJ1_indexOf_4cfef 30 = .ok (.iload_n 1, 1) := by decide +kernel
theorem dJ1_indexOf_4cfef_31 : decode cJ1_indexOf_4cfef 31 = .ok (.iload_n 2, 1) := by decide +kernel
theorem dJ1_indexOf_4cfef_32 : decode cJ1_indexOf_4cfef 32 = .ok (.iload_n 3, 1) := by decide +kernel
theorem dJ1_indexOf_4cfef_33 : decode cJ1_indexOf_4cfef 33 = .ok (.invokestatic 95, 3) := by decide +kernel
theorem dJ1_indexOf_4cfef_36 : decode cJ1_indexOf_4cfef 36 = .ok (.ireturn, 1) := by decide +kernel
theorem dJ1_indexOfChar_4cfef_0 : decode cJ1_indexOfChar_4cfef 0 = .ok (.iload_n 1, 1) := by decide +kernel
theorem dJ1_indexOfChar_4cfef_1 : decode cJ1_indexOfChar_4cfef 1 = .ok (.i2b, 1) := by decide +kernel
theorem dJ1_indexOfChar_4cfef_2 : decode cJ1_indexOfChar_4cfef 2 = .ok (.istore 4, 2) := by decide +kernel
theorem dJ1_indexOfChar_4cfef_4 : decode cJ1_indexOfChar_4cfef 4 = .ok (.iload_n 2, 1) := by decide +kernel
theorem dJ1_indexOfChar_4cfef_5 : decode cJ1_indexOfChar_4cfef 5 = .ok (.istore 5, 2) := by decide +kernel
theorem dJ1_indexOfChar_4cfef_7 : decode cJ1_indexOfChar_4cfef 7 = .ok (.iload 5, 2) := by decide +kernel
theorem dJ1_indexOfChar_4cfef_9 : decode cJ1_indexOfChar_4cfef 9 = .ok (.iload_n 3, 1) := by decide +kernel
theorem dJ1_indexOfChar_4cfef_10 : decode cJ1_indexOfChar_4cfef 10 = .ok (.if_icmp .ge 21, 3) := by decide +kernel
theorem dJ1_indexOfChar_4cfef_13 : decode cJ1_indexOfChar_4cfef 13 = .ok (.aload_n 0, 1) := by decide +kernel
theorem dJ1_indexOfChar_4cfef_14 : decode cJ1_indexOfChar_4cfef 14 = .ok (.iload 5, 2) := by decide +kernel
theorem dJ1_indexOfChar_4cfef_16 : decode cJ1_indexOfChar_4cfef 16 = .ok (.baload, 1) := by decide +kernel
theorem dJ1_indexOfChar_4cfef_17 : decode cJ1_indexOfChar_4cfef 17 = .ok (.iload 4, 2) := by decide +kernel
theorem dJ1_indexOfChar_4cfef_19 : decode cJ1_indexOfChar_4cfef 19 = .ok (.if_icmp .ne 6, 3) := by decide +kernel
theorem dJ1_indexOfChar_4cfef_22 : decode cJ1_indexOfChar_4cfef 22 = .ok (.iload 5, 2) := by decide +kernel
theorem dJ1_indexOfChar_4cfef_24 : decode cJ1_indexOfChar_4cfef 24 = .ok (.ireturn, 1) := by decide +kernel
theorem dJ1_indexOfChar_4cfef_25 : decode cJ1_indexOfChar_4cfef 25 = .ok (.iinc 5 1, 3) := by decide +kernel
theorem dJ1_indexOfChar_4cfef_28 : decode cJ1_indexOfChar_4cfef 28 = .ok (.goto (-21), 3) := by decide +kernel
theorem dJ1_indexOfChar_4cfef_31 : decode cJ1_indexOfChar_4cfef 31 = .ok (.iconst (-1), 1) := by decide +kernel
theorem dJ1_indexOfChar_4cfef_32 : decode cJ1_indexOfChar_4cfef 32 = .ok (.ireturn, 1) := by decide +kernel
theorem dJ2_getChar_3b067_0 : decode cJ2_getChar_3b067 0 = .ok (.getstatic 44, 3) := by decide +kernel
theorem dJ2_getChar_3b067_3 : decode cJ2_getChar_3b067 3 = .ok (.ifCond .ne 25, 3) := by decide +kernel
theorem dJ2_getChar_3b067_6 : decode cJ2_getChar_3b067 6 = .ok (.iload_n 1, 1) := by decide +kernel
theorem dJ2_getChar_3b067_7 : decode cJ2_getChar_3b067 7 = .ok (.ifCond .lt 11, 3) := by decide +kernel
theorem dJ2_getChar_3b067_10 : decode cJ2_getChar_3b067 10 = .ok (.iload_n 1, 1) := by decide +kernel
theorem dJ2_getChar_3b067_11 : decode cJ2_getChar_3b067 11 = .ok (.aload_n 0, 1) := by decide +kernel
theorem dJ2_getChar_3b067_12 : decode cJ2_getChar_3b067 12 = .ok (.invokestatic 48, 3) := by decide +kernel
theorem dJ2_getChar_3b067_15 : decode cJ2_getChar_3b067 15 = .ok (.if_icmp .lt 13, 3) := by decide +kernel
theorem dJ2_getChar_3b067_18 : decode cJ2_getChar_3b067 18 = .ok (.new 52, 3) := by decide +kernel
theorem dJ2_getChar_3b067_21 : decode cJ2_getChar_3b067 21 = .ok (.dup, 1) := by decide +kernel
theorem dJ2_getChar_3b067_22 : decode cJ2_getChar_3b067 22 = .ok (.ldc 54, 2) := by decide +kernel
theorem dJ2_getChar_3b067_24 : decode cJ2_getChar_3b067 24 = .ok (.invokespecial 56, 3) := by decide +kernel
theorem dJ2_getChar_3b067_27 : decode cJ2_getChar_3b067 27 = .ok (.athrow, 1) := by decide +kernel
theorem dJ2_getChar_3b067_28 : decode cJ2_getChar_3b067 28 = .ok (.iload_n 1, 1) := by decide +kernel
theorem dJ2_getChar_3b067_29 : decode cJ2_getChar_3b067 29 = .ok (.iconst 1, 1) := by decide +kernel
theorem dJ2_getChar_3b067_30 : decode cJ2_getChar_3b067 30 = .ok (.ishl, 1) := by decide +kernel
theorem dJ2_getChar_3b067_31 : decode cJ2_getChar_3b067 31 = .ok (.istore_n 1, 1) := by decide +kernel
theorem dJ2_getChar_3b067_32 : decode cJ2_getChar_3b067 32 = .ok (.aload_n 0, 1) := by decide +kernel
theorem dJ2_getChar_3b067_33 : decode cJ2_getChar_3b067 33 = .ok (.iload_n 1, 1) := by decide +kernel
theorem dJ2_getChar_3b067_34 : decode cJ2_getChar_3b067 34 = .ok (.iinc 1 1, 3) := by decide +kernel
theorem dJ2_getChar_3b067_37 : decode cJ2_getChar_3b067 37 = .ok (.baload, 1) := by decide +kernel
theorem dJ2_getChar_3b067_38 : decode cJ2_getChar_3b067 38 = .ok (.sipush 255, 3) := by decide +kernel
theorem dJ2_getChar_3b067_41 : decode cJ2_getChar_3b067 41 = .ok (.iand, 1) := by decide +kernel
theorem dJ2_getChar_3b067_42 : decode cJ2_getChar_3b067 42 = .ok (.getstatic 59, 3) := by decide +kernel
theorem dJ2_getChar_3b067_45 : decode cJ2_getChar_3b067 45 = .ok (.ishl, 1) := by decide +kernel
theorem dJ2_getChar_3b067_46 : decode cJ2_getChar_3b067 46 = .ok (.aload_n 0, 1) := by decide +kernel
theorem dJ2_getChar_3b067_47 : decode cJ2_getChar_3b067 47 = .ok (.iload_n 1, 1) := by decide +kernel
theorem dJ2_getChar_3b067_48 : decode cJ2_getChar_3b067 48 = .ok (.baload, 1) := by decide +kernel
theorem dJ2_getChar_3b067_49 : decode cJ2_getChar_3b067 49 = .ok (.sipush 255, 3) := by decide +kernel
theorem dJ2_getChar_3b067_52 : decode cJ2_getChar_3b067 52 = .ok (.iand, 1) := by decide +kernel
theorem dJ2_getChar_3b067_53 : decode cJ2_getChar_3b067 53 = .ok (.getstatic 63, 3) := by decide +kernel
theorem dJ2_getChar_3b067_56 : decode cJ2_getChar_3b067 56 = .ok (.ishl, 1) := by decide +kernel
theorem dJ2_getChar_3b067_57 : decode cJ2_getChar_3b067 57 = .ok (.ior, 1) := by decide +kernel
theorem dJ2_getChar_3b067_58 : decode cJ2_getChar_3b067 58 = .ok (.i2c, 1) := by decide +kernel
theorem dJ2_getChar_3b067_59 : decode cJ2_getChar_3b067 59 = .ok (.ireturn, 1) := by decide +kernel
theorem dJ2_length_9d52b_0 : decode cJ2_length_9d52b 0 = .ok (.aload_n 0, 1) := by decide +kernel
theorem dJ2_length_9d52b_1 : decode cJ2_length_9d52b 1 = .ok (.arraylength, 1) := by decide +kernel
theorem dJ2_length_9d52b_2 : decode cJ2_length_9d52b 2 = .ok (.iconst 1, 1) := by decide +kernel
theorem dJ2_length_9d52b_3 : decode cJ2_length_9d52b 3 = .ok (.ishr, 1) := by decide +kernel
theorem dJ2_length_9d52b_4 : decode cJ2_length_9d52b 4 = .ok (.ireturn, 1) := by decide +kernel
theorem dJ2_indexOf_4cfef_0 : decode cJ2_indexOf_4cfef 0 = .ok (.iload_n 2, 1) := by decide +kernel
theorem dJ2_indexOf_4cfef_1 : decode cJ2_indexOf_4cfef 1 = .ok (.iconst 0, 1) := by decide +kernel
theorem dJ2_indexOf_4cfef_2 : decode cJ2_indexOf_4cfef 2 = .ok (.invokestatic 224, 3) := by decide +kernel
theorem dJ2_indexOf_4cfef_5 : decode cJ2_indexOf_4cfef 5 = .ok (.istore_n 2, 1) := by decide +kernel
theorem dJ2_indexOf_4cfef_6 : decode cJ2_indexOf_4cfef 6 = .ok (.iload_n 3, 1) := by decide +kernel
theorem dJ2_indexOf_4cfef_7 : decode cJ2_indexOf_4cfef 7 = .ok (.aload_n 0, 1) := by decide +kernel
theorem dJ2_indexOf_4cfef_8 : decode cJ2_indexOf_4cfef 8 = .ok (.arraylength, 1) := by decide +kernel
theorem dJ2_indexOf_4cfef_9 : decode cJ2_indexOf_4cfef 9 = .ok (.iconst 1, 1) := by decide +kernel
theorem dJ2_indexOf_4cfef_10 : decode cJ2_indexOf_4cfef 10 = .ok (.ishr, 1) := by decide +kernel
theorem dJ2_indexOf_4cfef_11 : decode cJ2_indexOf_4cfef 11 = .ok (.invokestatic 183, 3) := by decide +kernel
theorem dJ2_indexOf_4cfef_14 : decode cJ2_indexOf_4cfef 14 = .ok (.istore_n 3, 1) := by decide +kernel
theorem dJ2_indexOf_4cfef_15 : decode cJ2_indexOf_4cfef 15 = .ok (.iload_n 2, 1) := by decide +kernel
theorem dJ2_indexOf_4cfef_16 : decode cJ2_indexOf_4cfef 16 = .ok (.iload_n 3, 1) := by decide +kernel
theorem dJ2_indexOf_4cfef_17 : decode cJ2_indexOf_4cfef 17 = .ok (.if_icmp .lt 5, 3) := by decide +kernel
theorem dJ2_indexOf_4cfef_20 : decode cJ2_indexOf_4cfef 20 = .ok (.iconst (-1), 1) := by decide +kernel
theorem dJ2_indexOf_4cfef_21 : decode cJ2_indexOf_4cfef 21 = .ok (.ireturn, 1) := by decide +kernel
theorem dJ2_indexOf_4cfef_22 : decode cJ2_indexOf_4cfef 22 = .ok (.iload_n 1, 1) := by decide +kernel
theorem dJ2_indexOf_4cfef_23 : decode cJ2_indexOf_4cfef 23 = .ok (.ldc 227, 2) := by decide +kernel
theorem dJ2_indexOf_4cfef_25 : decode cJ2_indexOf_4cfef 25 = .ok (.if_icmp .ge 11, 3) := by decide +kernel
theorem dJ2_indexOf_4cfef_28 : decode cJ2_indexOf_4cfef 28 = .ok (.aload_n 0, 1) := by decide +kernel
theorem dJ2_indexOf_4cfef_29 : decode cJ2_indexOf_4cfef 29 = .ok (.iload_n 1, 1) := by decide +kernel
theorem dJ2_indexOf_4cfef_30 : decode cJ2_indexOf_4cfef 30 = .ok (.iload_n 2, 1) := by decide +kernel
theorem dJ2_indexOf_4cfef_31 : decode cJ2_indexOf_4cfef 31 = .ok (.iload_n 3, 1) := by decide +kernel
theorem dJ2_indexOf_4cfef_32 : decode cJ2_indexOf_4cfef 32 = .ok (.invokestatic 228, 3) := by decide +kernel
theorem dJ2_indexOf_4cfef_35 : decode cJ2_indexOf_4cfef 35 = .ok (.ireturn, 1) := by decide +kernel
theorem dJ2_indexOf_4cfef_36 : decode cJ2_indexOf_4cfef 36 = .ok (.aload_n 0, 1) := by decide +kernel
theorem dJ2_indexOf_4cfef_37 : decode cJ2_indexOf_4cfef 37 = .ok (.iload_n 1, 1) := by decide +kernel
theorem dJ2_indexOf_4cfef_38 : decode cJ2_indexOf_4cfef 38 = .ok (.iload_n 2, 1) := by decide +kernel
theorem dJ2_indexOf_4cfef_39 : decode cJ2_indexOf_4cfef 39 = .ok (.iload_n 3, 1) := by decide +kernel
theorem dJ2_indexOf_4cfef_40 : decode cJ2_indexOf_4cfef 40 = .ok (.invokestatic 232, 3) := by decide +kernel
theorem dJ2_indexOf_4cfef_43 : decode cJ2_indexOf_4cfef 43 = .ok (.ireturn, 1) := by decide +kernel
theorem dJ2_indexOfChar_4cfef_0 : decode cJ2_indexOfChar_4cfef 0 = .ok (.iload_n 2, 1) := by decide +kernel
theorem dJ2_indexOfChar_4cfef_1 : decode cJ2_indexOfChar_4cfef 1 = .ok (.iload_n 3, 1) := by decide +kernel
theorem dJ2_indexOfChar_4cfef_2 : decode cJ2_indexOfChar_4cfef 2 = .ok (.aload_n 0, 1) := by decide +kernel
theorem dJ2_indexOfChar_4cfef_3 : decode cJ2_indexOfChar_4cfef 3 = .ok (.invokestatic 96, 3) := by decide +kernel
theorem dJ2_indexOfChar_4cfef_6 : decode cJ2_indexOfChar_4cfef 6 = .ok (.aload_n 0, 1) := by decide +kernel
theorem dJ2_indexOfChar_4cfef_7 : decode cJ2_indexOfChar_4cfef 7 = .ok (.iload_n 1, 1) := by decide +kernel
theorem dJ2_indexOfChar_4cfef_8 : decode cJ2_indexOfChar_4cfef 8 = .ok (.iload_n 2, 1) := by decide +kernel
theorem dJ2_indexOfChar_4cfef_9 : decode cJ2_indexOfChar_4cfef 9 = .ok (.iload_n 3, 1) := by decide +kernel
theorem dJ2_indexOfChar_4cfef_10 : decode cJ2_indexOfChar_4cfef 10 = .ok (.invokestatic 244, 3) := by decide +kernel
theorem dJ2_indexOfChar_4cfef_13 : decode cJ2_indexOfChar_4cfef 13 = .ok (.ireturn, 1) := by decide +kernel
theorem dJ2_indexOfCharUnsafe_4cfef_0 : decode cJ2_indexOfCharUnsafe_4cfef 0 = .ok (.iload_n 2, 1) := by decide +kernel
theorem dJ2_indexOfCharUnsafe_4cfef_1 : decode cJ2_indexOfCharUnsafe_4cfef 1 = .ok (.istore 4, 2) := by decide +kernel
theorem dJ2_indexOfCharUnsafe_4cfef_3 : decode cJ2_indexOfCharUnsafe_4cfef 3 = .ok (.iload 4, 2) := by decide +kernel
theorem dJ2_indexOfCharUnsafe_4cfef_5 : decode cJ2_indexOfCharUnsafe_4cfef 5 = .ok (.iload_n 3, 1) := by decide +kernel
theorem dJ2_indexOfCharUnsafe_4cfef_6 : decode cJ2_indexOfCharUnsafe_4cfef 6 = .ok (.if_icmp .ge 22, 3) := by decide +kernel
theorem dJ2_indexOfCharUnsafe_4cfef_9 : decode cJ2_indexOfCharUnsafe_4cfef 9 = .ok (.aload_n 0, 1) := by decide +kernel
theorem dJ2_indexOfCharUnsafe_4cfef_10 : decode cJ2_indexOfCharUnsafe_4cfef 10 = .ok (.iload 4, 2) := by decide +kernel
theorem dJ2_indexOfCharUnsafe_4cfef_12 : decode cJ2_indexOfCharUnsafe_4cfef 12 = .ok (.invokestatic 71, 3) := by decide +kernel
theorem dJ2_indexOfCharUnsafe_4cfef_15 : decode cJ2_indexOfCharUnsafe_4cfef 15 = .ok (.iload_n 1, 1) := by decide +kernel
theorem dJ2_indexOfCharUnsafe_4cfef_16 : decode cJ2_indexOfCharUnsafe_4cfef 16 = .ok (.if_icmp .ne 6, 3) := by decide +kernel
theorem dJ2_indexOfCharUnsafe_4cfef_19 : decode cJ2_indexOfCharUnsafe_4cfef 19 = .ok (.iload 4, 2) := by decide +kernel
theorem dJ2_indexOfCharUnsafe_4cfef_21 : decode cJ2_indexOfCharUnsafe_4cfef 21 = .ok (.ireturn, 1) := by decide +kernel
theorem dJ2_indexOfCharUnsafe_4cfef_22 : decode cJ2_indexOfCharUnsafe_4cfef 22 = .ok (.iinc 4 1, 3) := by decide +kernel
theorem dJ2_indexOfCharUnsafe_4cfef_25 : decode cJ2_indexOfCharUnsafe_4cfef 25 = .ok (.goto (-22), 3) := by decide +kernel
theorem dJ2_indexOfCharUnsafe_4cfef_28 : decode cJ2_indexOfCharUnsafe_4cfef 28 = .ok (.iconst (-1), 1) := by decide +kernel
theorem dJ2_indexOfCharUnsafe_4cfef_29 : decode cJ2_indexOfCharUnsafe_4cfef 29 = .ok (.ireturn, 1) := by decide +kernel
theorem dJ2_indexOfSupplementary_4cfef_0 : decode cJ2_indexOfSupplementary_4cfef 0 = .ok (.iload_n 1, 1) := by decide +kernel
theorem dJ2_indexOfSupplementary_4cfef_1 : decode cJ2_indexOfSupplementary_4cfef 1 = .ok (.invokestatic 164, 3) := by decide +kernel
theorem dJ2_indexOfSupplementary_4cfef_4 : decode cJ2_indexOfSupplementary_4cfef 4 = .ok (.ifCond .eq 65, 3) := by decide +kernel
theorem dJ2_indexOfSupplementary_4cfef_7 : decode cJ2_indexOfSupplementary_4cfef 7 = .ok (.iload_n 1, 1) := by decide +kernel
theorem dJ2_indexOfSupplementary_4cfef_8 : decode cJ2_indexOfSupplementary_4cfef 8 = .ok (.invokestatic 157, 3) := by decide +kernel
theorem dJ2_indexOfSupplementary_4cfef_11 : decode cJ2_indexOfSupplementary_4cfef 11 = .ok (.istore 4, 2) := by decide +kernel
theorem dJ2_indexOfSupplementary_4cfef_13 : decode cJ2_indexOfSupplementary_4cfef 13 = .ok (.iload_n 1, 1) := by decide +kernel
theorem dJ2_indexOfSupplementary_4cfef_14 : decode cJ2_indexOfSupplementary_4cfef 14 = .ok (.invokestatic 161, 3) := by decide +kernel
theorem dJ2_indexOfSupplementary_4cfef_17 : decode cJ2_indexOfSupplementary_4cfef 17 = .ok (.istore 5, 2) := by decide +kernel
theorem dJ2_indexOfSupplementary_4cfef_19 : decode cJ2_indexOfSupplementary_4cfef 19 = .ok (.iload_n 2, 1) := by decide +kernel
theorem dJ2_indexOfSupplementary_4cfef_20 : decode cJ2_indexOfSupplementary_4cfef 20 = .ok (.iload_n 3, 1) := by decide +kernel
theorem dJ2_indexOfSupplementary_4cfef_21 : decode cJ2_indexOfSupplementary_4cfef 21 = .ok (.aload_n 0, 1) := by decide +kernel
theorem dJ2_indexOfSupplementary_4cfef_22 : decode cJ2_indexOfSupplementary_4cfef 22 = .ok (.invokestatic 96, 3) := by decide +kernel
theorem dJ2_indexOfSupplementary_4cfef_25 : decode cJ2_indexOfSupplementary_4cfef 25 = .ok (.iload_n 2, 1) := by decide +kernel
theorem dJ2_indexOfSupplementary_4cfef_26 : decode cJ2_indexOfSupplementary_4cfef 26 = .ok (.istore 6, 2) := by decide +kernel
theorem dJ2_indexOfSupplementary_4cfef_28 : decode cJ2_indexOfSupplementary_4cfef 28 = .ok (.iload 6, 2) := by decide +kernel
theorem dJ2_indexOfSupplementary_4cfef_30 : decode cJ2_indexOfSupplementary_4cfef 30 = .ok (.iload_n 3, 1) := by decide +kernel
theorem dJ2_indexOfSupplementary_4cfef_31 : decode cJ2_indexOfSupplementary_4cfef 31 = .ok (.iconst 1, 1) := by decide +kernel
theorem dJ2_indexOfSupplementary_4cfef_32 : decode cJ2_indexOfSupplementary_4cfef 32 = .ok (.isub, 1) := by decide +kernel
theorem dJ2_indexOfSupplementary_4cfef_33 : decode cJ2_indexOfSupplementary_4cfef 33 = .ok (.if_icmp .ge 36, 3) := by decide +kernel
theorem dJ2_indexOfSupplementary_4cfef_36 : decode cJ2_indexOfSupplementary_4cfef 36 = .ok (.aload_n 0, 1) := by decide +kernel
theorem dJ2_indexOfSupplementary_4cfef_37 : decode cJ2_indexOfSupplementary_4cfef 37 = .ok (.iload 6, 2) := by decide +kernel
theorem dJ2_indexOfSupplementary_4cfef_39 : decode cJ2_indexOfSupplementary_4cfef 39 = .ok (.invokestatic 71, 3) := by decide +kernel
theorem dJ2_indexOfSupplementary_4cfef_42 : decode cJ2_indexOfSupplementary_4cfef 42 = .ok (.iload 4, 2) := by decide +kernel
theorem dJ2_indexOfSupplementary_4cfef_44 : decode cJ2_indexOfSupplementary_4cfef 44 = .ok (.if_icmp .ne 19, 3) := by decide +kernel
theorem dJ2_indexOfSupplementary_4cfef_47 : decode cJ2_indexOfSupplementary_4cfef 47 = .ok (.aload_n 0, 1) := by decide +kernel
theorem dJ2_indexOfSupplementary_4cfef_48 : decode cJ2_indexOfSupplementary_4cfef 48 = .ok (.iload 6, 2) := by decide +kernel
theorem dJ2_indexOfSupplementary_4cfef_50 : decode cJ2_indexOfSupplementary_4cfef 50 = .ok (.iconst 1, 1) := by decide +kernel
theorem dJ2_indexOfSupplementary_4cfef_51 : decode cJ2_indexOfSupplementary_4cfef 51 = .ok (.iadd, 1) := by decide +kernel
theorem dJ2_indexOfSupplementary_4cfef_52 : decode cJ2_indexOfSupplementary_4cfef 52 = .ok (.invokestatic 71, 3) := by decide +kernel
theorem dJ2_indexOfSupplementary_4cfef_55 : decode cJ2_indexOfSupplementary_4cfef 55 = .ok (.iload 5, 2) := by decide +kernel
theorem dJ2_indexOfSupplementary_4cfef_57 : decode cJ2_indexOfSupplementary_4cfef 57 = .ok (.if_icmp .ne 6, 3) := by decide +kernel
theorem dJ2_indexOfSupplementary_4cfef_60 : decode cJ2_indexOfSupplementary_4cfef 60 = .ok (.iload 6, 2) := by decide +kernel
theorem dJ2_indexOfSupplementary_4cfef_62 : decode cJ2_indexOfSupplementary_4cfef 62 = .ok (.ireturn, 1) := by decide +kernel
theorem dJ2_indexOfSupplementary_4cfef_63 : decode cJ2_indexOfSupplementary_4cfef 63 = .ok (.iinc 6 1, 3) := by decide +kernel
theorem dJ2_indexOfSupplementary_4cfef_66 : decode cJ2_indexOfSupplementary_4cfef 66 = .ok (.goto (-38), 3) := by decide +kernel
theorem dJ2_indexOfSupplementary_4cfef_69 : decode cJ2_indexOfSupplementary_4cfef 69 = .ok (.iconst (-1), 1) := by decide +kernel
theorem dJ2_indexOfSupplementary_4cfef_70 : decode cJ2_indexOfSupplementary_4cfef 70 = .ok (.ireturn, 1) := by decide +kernel
theorem dJ2_charAt_3b067_0 : decode cJ2_charAt_3b067 0 = .ok (.iload_n 1, 1) := by decide +kernel
theorem dJ2_charAt_3b067_1 : decode cJ2_charAt_3b067 1 = .ok (.aload_n 0, 1) := by decide +kernel
theorem dJ2_charAt_3b067_2 : decode cJ2_charAt_3b067 2 = .ok (.invokestatic 67, 3) := by decide +kernel
theorem dJ2_charAt_3b067_5 : decode cJ2_charAt_3b067 5 = .ok (.aload_n 0, 1) := by decide +kernel
theorem dJ2_charAt_3b067_6 : decode cJ2_charAt_3b067 6 = .ok (.iload_n 1, 1) := by decide +kernel
theorem dJ2_charAt_3b067_7 : decode cJ2_charAt_3b067 7 = .ok (.invokestatic 71, 3) := by decide +kernel
theorem dJ2_charAt_3b067_10 : decode cJ2_charAt_3b067 10 = .ok (.ireturn, 1) := by decide +kernel
theorem dJ2_checkIndex_2214a_0 : decode cJ2_checkIndex_2214a 0 = .ok (.iload_n 0, 1) := by decide +kernel
theorem dJ2_checkIndex_2214a_1 : decode cJ2_checkIndex_2214a 1 = .ok (.aload_n 1, 1) := by decide +kernel
theorem dJ2_checkIndex_2214a_2 : decode cJ2_checkIndex_2214a 2 = .ok (.invokestatic 48, 3) := by decide +kernel
theorem dJ2_checkIndex_2214a_5 : decode cJ2_checkIndex_2214a 5 = .ok (.invokestatic 414, 3) := by decide +kernel
theorem dJ2_checkIndex_2214a_8 : decode cJ2_checkIndex_2214a 8 = .ok (.return_, 1) := by decide +kernel
theorem dJ2_checkBoundsBeginEnd_d044e_0 : decode cJ2_checkBoundsBeginEnd_d044e 0 = .ok (.iload_n 0, 1) := by decide +kernel
theorem dJ2_checkBoundsBeginEnd_d044e_1 : decode cJ2_checkBoundsBeginEnd_d044e 1 = .ok (.iload_n 1, 1) := by decide +kernel
theorem dJ2_checkBoundsBeginEnd_d044e_2 : decode cJ2_checkBoundsBeginEnd_d044e 2 = .ok (.aload_n 2, 1) := by decide +kernel
theorem dJ2_checkBoundsBeginEnd_d044e_3 : decode cJ2_checkBoundsBeginEnd_d044e 3 = .ok (.invokestatic 48, 3) := by decide +kernel
theorem dJ2_checkBoundsBeginEnd_d044e_6 : decode cJ2_checkBoundsBeginEnd_d044e 6 = .ok (.invokestatic 241, 3) := by decide +kernel
theorem dJ2_checkBoundsBeginEnd_d044e_9 : decode cJ2_checkBoundsBeginEnd_d044e 9 = .ok (.return_, 1) := by decide +kernel
theorem dJ7_fill_53178_0 : decode cJ7_fill_53178 0 = .ok (.iconst 0, 1) := by decide +kernel
theorem dJ7_fill_53178_1 : decode cJ7_fill_53178 1 = .ok (.istore_n 2, 1) := by decide +kernel
theorem dJ7_fill_53178_2 : decode cJ7_fill_53178 2 = .ok (.aload_n 0, 1) := by decide +kernel
theorem dJ7_fill_53178_3 : decode cJ7_fill_53178 3 = .ok (.arraylength, 1) := by decide +kernel
theorem dJ7_fill_53178_4 : decode cJ7_fill_53178 4 = .ok (.istore_n 3, 1) := by decide +kernel
theorem dJ7_fill_53178_5 : decode cJ7_fill_53178 5 = .ok (.iload_n 2, 1) := by decide +kernel
theorem dJ7_fill_53178_6 : decode cJ7_fill_53178 6 = .ok (.iload_n 3, 1) := by decide +kernel
theorem dJ7_fill_53178_7 : decode cJ7_fill_53178 7 = .ok (.if_icmp .ge 13, 3) := by decide +kernel
theorem dJ7_fill_53178_10 : decode cJ7_fill_53178 10 = .ok (.aload_n 0, 1) := by decide +kernel
theorem dJ7_fill_53178_11 : decode cJ7_fill_53178 11 = .ok (.iload_n 2, 1) := by decide +kernel
theorem dJ7_fill_53178_12 : decode cJ7_fill_53178 12 = .ok (.iload_n 1, 1) := by decide +kernel
theorem dJ7_fill_53178_13 : decode cJ7_fill_53178 13 = .ok (.iastore, 1) := by decide +kernel
theorem dJ7_fill_53178_14 : decode cJ7_fill_53178 14 = .ok (.iinc 2 1, 3) := by decide +kernel
theorem dJ7_fill_53178_17 : decode cJ7_fill_53178 17 = .ok (.goto (-12), 3) := by decide +kernel
theorem dJ7_fill_53178_20 : decode cJ7_fill_53178 20 = .ok (.return_, 1) := by decide +kernel
theorem dJ3_checkIndex_8e157_0 : decode cJ3_checkIndex_8e157 0 = .ok (.iload_n 0, 1) := by decide +kernel
theorem dJ3_checkIndex_8e157_1 : decode cJ3_checkIndex_8e157 1 = .ok (.ifCond .lt 8, 3) := by decide +kernel
theorem dJ3_checkIndex_8e157_4 : decode cJ3_checkIndex_8e157 4 = .ok (.iload_n 0, 1) := by decide +kernel
theorem dJ3_checkIndex_8e157_5 : decode cJ3_checkIndex_8e157 5 = .ok (.iload_n 1, 1) := by decide +kernel
theorem dJ3_checkIndex_8e157_6 : decode cJ3_checkIndex_8e157 6 = .ok (.if_icmp .lt 10, 3) := by decide +kernel
theorem dJ3_checkIndex_8e157_9 : decode cJ3_checkIndex_8e157 9 = .ok (.aload_n 2, 1) := by decide +kernel
theorem dJ3_checkIndex_8e157_10 : decode cJ3_checkIndex_8e157 10 = .ok (.iload_n 0, 1) := by decide +kernel
theorem dJ3_checkIndex_8e157_11 : decode cJ3_checkIndex_8e157 11 = .ok (.iload_n 1, 1) := by decide +kernel
theorem dJ3_checkIndex_8e157_12 : decode cJ3_checkIndex_8e157 12 = .ok (.invokestatic 95, 3) := by decide +kernel
theorem dJ3_checkIndex_8e157_15 : decode cJ3_checkIndex_8e157 15 = .ok (.athrow, 1) := by decide +kernel
theorem dJ3_checkIndex_8e157_16 : decode cJ3_checkIndex_8e157 16 = .ok (.iload_n 0, 1) := by decide +kernel
theorem dJ3_checkIndex_8e157_17 : decode cJ3_checkIndex_8e157 17 = .ok (.ireturn, 1) := by decide +kernel
theorem dJ3_checkFromToIndex_8c36e_0 : decode cJ3_checkFromToIndex_8c36e 0 = .ok (.iload_n 0, 1) := by decide +kernel
theorem dJ3_checkFromToIndex_8c36e_1 : decode cJ3_checkFromToIndex_8c36e 1 = .ok (.ifCond .lt 13, 3) := by decide +kernel
theorem dJ3_checkFromToIndex_8c36e_4 : decode cJ3_checkFromToIndex_8c36e 4 = .ok (.iload_n 0, 1) := by decide +kernel
theorem dJ3_checkFromToIndex_8c36e_5 : decode cJ3_checkFromToIndex_8c36e 5 = .ok (.iload_n 1, 1) := by decide +kernel
theorem dJ3_checkFromToIndex_8c36e_6 : decode cJ3_checkFromToIndex_8c36e 6 = .ok (.if_icmp .gt 8, 3) := by decide +kernel
theorem dJ3_checkFromToIndex_8c36e_9 : decode cJ3_checkFromToIndex_8c36e 9 = .ok (.iload_n 1, 1) := by decide +kernel
theorem dJ3_checkFromToIndex_8c36e_10 : decode cJ3_checkFromToIndex_8c36e 10 = .ok (.iload_n 2, 1) := by decide +kernel
theorem dJ3_checkFromToIndex_8c36e_11 : decode cJ3_checkFromToIndex_8c36e 11 = .ok (.if_icmp .le 11, 3) := by decide +kernel
theorem dJ3_checkFromToIndex_8c36e_14 : decode cJ3_checkFromToIndex_8c36e 14 = .ok (.aload_n 3, 1) := by decide +kernel
theorem dJ3_checkFromToIndex_8c36e_15 : decode cJ3_checkFromToIndex_8c36e 15 = .ok (.iload_n 0, 1) := by decide +kernel
theorem dJ3_checkFromToIndex_8c36e_16 : decode cJ3_checkFromToIndex_8c36e 16 = .ok (.iload_n 1, 1) := by decide +kernel
theorem dJ3_checkFromToIndex_8c36e_17 : decode cJ3_checkFromToIndex_8c36e 17 = .ok (.iload_n 2, 1) := by decide +kernel
theorem dJ3_checkFromToIndex_8c36e_18 : decode cJ3_checkFromToIndex_8c36e 18 = .ok (.invokestatic 99, 3) := by decide +kernel
theorem dJ3_checkFromToIndex_8c36e_21 : decode cJ3_checkFromToIndex_8c36e 21 = .ok (.athrow, 1) := by decide +kernel
theorem dJ3_checkFromToIndex_8c36e_22 : decode cJ3_checkFromToIndex_8c36e 22 = .ok (.iload_n 0, 1) := by decide +kernel
theorem dJ3_checkFromToIndex_8c36e_23 : decode cJ3_checkFromToIndex_8c36e 23 = .ok (.ireturn, 1) := by decide +kernel
theorem dL_law_0 : decode cL_law 0 = .ok (.new 7, 3) := by decide +kernel
theorem dL_law_3 : decode cL_law 3 = .ok (.dup, 1) := by decide +kernel
theorem dL_law_4 : decode cL_law 4 = .ok (.invokespecial 9, 3) := by decide +kernel
theorem dL_law_7 : decode cL_law 7 = .ok (.astore_n 1, 1) := by decide +kernel
theorem dL_law_8 : decode cL_law 8 = .ok (.new 10, 3) := by decide +kernel
theorem dL_law_11 : decode cL_law 11 = .ok (.dup, 1) := by decide +kernel
theorem dL_law_12 : decode cL_law 12 = .ok (.invokespecial 12, 3) := by decide +kernel
theorem dL_law_15 : decode cL_law 15 = .ok (.astore_n 2, 1) := by decide +kernel
theorem dL_law_16 : decode cL_law 16 = .ok (.iconst 0, 1) := by decide +kernel
theorem dL_law_17 : decode cL_law 17 = .ok (.istore_n 3, 1) := by decide +kernel
theorem dL_law_18 : decode cL_law 18 = .ok (.iload_n 3, 1) := by decide +kernel
theorem dL_law_19 : decode cL_law 19 = .ok (.aload_n 0, 1) := by decide +kernel
theorem dL_law_20 : decode cL_law 20 = .ok (.arraylength, 1) := by decide +kernel
theorem dL_law_21 : decode cL_law 21 = .ok (.bipush 6, 2) := by decide +kernel
theorem dL_law_23 : decode cL_law 23 = .ok (.isub, 1) := by decide +kernel
theorem dL_law_24 : decode cL_law 24 = .ok (.if_icmp .gt 789, 3) := by decide +kernel
theorem dL_law_27 : decode cL_law 27 = .ok (.aload_n 0, 1) := by decide +kernel
theorem dL_law_28 : decode cL_law 28 = .ok (.iload_n 3, 1) := by decide +kernel
theorem dL_law_29 : decode cL_law 29 = .ok (.iaload, 1) := by decide +kernel
theorem dL_law_30 : decode cL_law 30 = .ok (.bipush 31, 2) := by decide +kernel
theorem dL_law_32 : decode cL_law 32 = .ok (.iand, 1) := by decide +kernel
theorem dL_law_33 : decode cL_law 33 = .ok (.tableswitch 774 0 22 #[107, 130, 143, 156, 169, 202, 235, 278, 301, 354, 378, 411, 474, 497, 530, 563, 596, 655, 668, 711, 724, 737, 760], 107) := by decide +kernel
theorem dL_law_140 : decode cL_law 140 = .ok (.aload_n 1, 1) := by decide +kernel
theorem dL_law_141 : decode cL_law 141 = .ok (.aload_n 0, 1) := by decide +kernel
theorem dL_law_142 : decode cL_law 142 = .ok (.iload_n 3, 1) := by decide +kernel
theorem dL_law_143 : decode cL_law 143 = .ok (.iconst 1, 1) := by decide +kernel
theorem dL_law_144 : decode cL_law 144 = .ok (.iadd, 1) := by decide +kernel
theorem dL_law_145 : decode cL_law 145 = .ok (.iaload, 1) := by decide +kernel
theorem dL_law_146 : decode cL_law 146 = .ok (.invokevirtual 13, 3) := by decide +kernel
theorem dL_law_149 : decode cL_law 149 = .ok (.aload_n 2, 1) := by decide +kernel
theorem dL_law_150 : decode cL_law 150 = .ok (.aload_n 0, 1) := by decide +kernel
theorem dL_law_151 : decode cL_law 151 = .ok (.iload_n 3, 1) := by decide +kernel
theorem dL_law_152 : decode cL_law 152 = .ok (.iconst 1, 1) := by decide +kernel
theorem dL_law_153 : decode cL_law 153 = .ok (.iadd, 1) := by decide +kernel
theorem dL_law_154 : decode cL_law 154 = .ok (.iaload, 1) := by decide +kernel
theorem dL_law_155 : decode cL_law 155 = .ok (.invokevirtual 17, 3) := by decide +kernel
theorem dL_law_158 : decode cL_law 158 = .ok (.if_icmp .eq 649, 3) := by decide +kernel
theorem dL_law_161 : decode cL_law 161 = .ok (.iconst 0, 1) := by decide +kernel
theorem dL_law_162 : decode cL_law 162 = .ok (.ireturn, 1) := by decide +kernel
theorem dL_law_163 : decode cL_law 163 = .ok (.aload_n 1, 1) := by decide +kernel
theorem dL_law_164 : decode cL_law 164 = .ok (.invokevirtual 18, 3) := by decide +kernel
theorem dL_law_167 : decode cL_law 167 = .ok (.aload_n 2, 1) := by decide +kernel
theorem dL_law_168 : decode cL_law 168 = .ok (.invokevirtual 22, 3) := by decide +kernel
theorem dL_law_171 : decode cL_law 171 = .ok (.if_icmp .eq 636, 3) := by decide +kernel
theorem dL_law_174 : decode cL_law 174 = .ok (.iconst 0, 1) := by decide +kernel
theorem dL_law_175 : decode cL_law 175 = .ok (.ireturn, 1) := by decide +kernel
theorem dL_law_176 : decode cL_law 176 = .ok (.aload_n 1, 1) := by decide +kernel
theorem dL_law_177 : decode cL_law 177 = .ok (.invokevirtual 23, 3) := by decide +kernel
theorem dL_law_180 : decode cL_law 180 = .ok (.aload_n 2, 1) := by decide +kernel
theorem dL_law_181 : decode cL_law 181 = .ok (.invokevirtual 26, 3) := by decide +kernel
theorem dL_law_184 : decode cL_law 184 = .ok (.if_icmp .eq 623, 3) := by decide +kernel
theorem dL_law_187 : decode cL_law 187 = .ok (.iconst 0, 1) := by decide +kernel
theorem dL_law_188 : decode cL_law 188 = .ok (.ireturn, 1) := by decide +kernel
theorem dL_law_189 : decode cL_law 189 = .ok (.aload_n 1, 1) := by decide +kernel
theorem dL_law_190 : decode cL_law 190 = .ok (.invokevirtual 27, 3) := by decide +kernel
theorem dL_law_193 : decode cL_law 193 = .ok (.aload_n 2, 1) := by decide +kernel
theorem dL_law_194 : decode cL_law 194 = .ok (.invokevirtual 30, 3) := by decide +kernel
theorem dL_law_197 : decode cL_law 197 = .ok (.if_icmp .eq 610, 3) := by decide +kernel
theorem dL_law_200 : decode cL_law 200 = .ok (.iconst 0, 1) := by decide +kernel
theorem dL_law_201 : decode cL_law 201 = .ok (.ireturn, 1) := by decide +kernel
theorem dL_law_202 : decode cL_law 202 = .ok (.aload_n 1, 1) := by decide +kernel
theorem dL_law_203 : decode cL_law 203 = .ok (.aload_n 0, 1) := by decide +kernel
theorem dL_law_204 : decode cL_law 204 = .ok (.iload_n 3, 1) := by decide +kernel
theorem dL_law_205 : decode cL_law 205 = .ok (.iconst 1, 1) := by decide +kernel
theorem dL_law_206 : decode cL_law 206 = .ok (.iadd, 1) := by decide +kernel
theorem dL_law_207 : decode cL_law 207 = .ok (.iaload, 1) := by decide +kernel
theorem dL_law_208 : decode cL_law 208 = .ok (.aload_n 0, 1) := by decide +kernel
theorem dL_law_209 : decode cL_law 209 = .ok (.iload_n 3, 1) := by decide +kernel
theorem dL_law_210 : decode cL_law 210 = .ok (.iconst 2, 1) := by decide +kernel
theorem dL_law_211 : decode cL_law 211 = .ok (.iadd, 1) := by decide +kernel
theorem dL_law_212 : decode cL_law 212 = .ok (.iaload, 1) := by decide +kernel
theorem dL_law_213 : decode cL_law 213 = .ok (.invokevirtual 31, 3) := by decide +kernel
theorem dL_law_216 : decode cL_law 216 = .ok (.aload_n 2, 1) := by decide +kernel
theorem dL_law_217 : decode cL_law 217 = .ok (.aload_n 0, 1) := by decide +kernel
theorem dL_law_218 : decode cL_law 218 = .ok (.iload_n 3, 1) := by decide +kernel
theorem dL_law_219 : decode cL_law 219 = .ok (.iconst 1, 1) := by decide +kernel
theorem dL_law_220 : decode cL_law 220 = .ok (.iadd, 1) := by decide +kernel
theorem dL_law_221 : decode cL_law 221 = .ok (.iaload, 1) := by decide +kernel
theorem dL_law_222 : decode cL_law 222 = .ok (.aload_n 0, 1) := by decide +kernel
theorem dL_law_223 : decode cL_law 223 = .ok (.iload_n 3, 1) := by decide +kernel
theorem dL_law_224 : decode cL_law 224 = .ok (.iconst 2, 1) := by decide +kernel
theorem dL_law_225 : decode cL_law 225 = .ok (.iadd, 1) := by decide +kernel
theorem dL_law_226 : decode cL_law 226 = .ok (.iaload, 1) := by decide +kernel
theorem dL_law_227 : decode cL_law 227 = .ok (.invokevirtual 35, 3) := by decide +kernel
theorem dL_law_230 : decode cL_law 230 = .ok (.if_icmp .eq 577, 3) := by decide +kernel
theorem dL_law_233 : decode cL_law 233 = .ok (.iconst 0, 1) := by decide +kernel
theorem dL_law_234 : decode cL_law 234 = .ok (.ireturn, 1) := by decide +kernel
theorem dL_law_235 : decode cL_law 235 = .ok (.aload_n 1, 1) := by decide +kernel
theorem dL_law_236 : decode cL_law 236 = .ok (.aload_n 0, 1) := by decide +kernel
theorem dL_law_237 : decode cL_law 237 = .ok (.iload_n 3, 1) := by decide +kernel
theorem dL_law_238 : decode cL_law 238 = .ok (.iconst 1, 1) := by decide +kernel
theorem dL_law_239 : decode cL_law 239 = .ok (.iadd, 1) := by decide +kernel
theorem dL_law_240 : decode cL_law 240 = .ok (.iaload, 1) := by decide +kernel
theorem dL_law_241 : decode cL_law 241 = .ok (.aload_n 0, 1) := by decide +kernel
theorem dL_law_242 : decode cL_law 242 = .ok (.iload_n 3, 1) := by decide +kernel
theorem dL_law_243 : decode cL_law 243 = .ok (.iconst 2, 1) := by decide +kernel
theorem dL_law_244 : decode cL_law 244 = .ok (.iadd, 1) := by decide +kernel
theorem dL_law_245 : decode cL_law 245 = .ok (.iaload, 1) := by decide +kernel
theorem dL_law_246 : decode cL_law 246 = .ok (.invokevirtual 36, 3) := by decide +kernel
theorem dL_law_249 : decode cL_law 249 = .ok (.aload_n 2, 1) := by decide +kernel
theorem dL_law_250 : decode cL_law 250 = .ok (.aload_n 0, 1) := by decide +kernel
theorem dL_law_251 : decode cL_law 251 = .ok (.iload_n 3, 1) := by decide +kernel
theorem dL_law_252 : decode cL_law 252 = .ok (.iconst 1, 1) := by decide +kernel
theorem dL_law_253 : decode cL_law 253 = .ok (.iadd, 1) := by decide +kernel
theorem dL_law_254 : decode cL_law 254 = .ok (.iaload, 1) := by decide +kernel
theorem dL_law_255 : decode cL_law 255 = .ok (.aload_n 0, 1) := by decide +kernel
theorem dL_law_256 : decode cL_law 256 = .ok (.iload_n 3, 1) := by decide +kernel
theorem dL_law_257 : decode cL_law 257 = .ok (.iconst 2, 1) := by decide +kernel
theorem dL_law_258 : decode cL_law 258 = .ok (.iadd, 1) := by decide +kernel
theorem dL_law_259 : decode cL_law 259 = .ok (.iaload, 1) := by decide +kernel
theorem dL_law_260 : decode cL_law 260 = .ok (.invokevirtual 39, 3) := by decide +kernel
theorem dL_law_263 : decode cL_law 263 = .ok (.if_icmp .eq 544, 3) := by decide +kernel
theorem dL_law_266 : decode cL_law 266 = .ok (.iconst 0, 1) := by decide +kernel
theorem dL_law_267 : decode cL_law 267 = .ok (.ireturn, 1) := by decide +kernel
theorem dL_law_268 : decode cL_law 268 = .ok (.aload_n 1, 1) := by decide +kernel
theorem dL_law_269 : decode cL_law 269 = .ok (.aload_n 0, 1) := by decide +kernel
theorem dL_law_270 : decode cL_law 270 = .ok (.iload_n 3, 1) := by decide +kernel
theorem dL_law_271 : decode cL_law 271 = .ok (.iconst 1, 1) := by decide +kernel
theorem dL_law_272 : decode cL_law 272 = .ok (.iadd, 1) := by decide +kernel
theorem dL_law_273 : decode cL_law 273 = .ok (.iaload, 1) := by decide +kernel
theorem dL_law_274 : decode cL_law 274 = .ok (.aload_n 0, 1) := by decide +kernel
theorem dL_law_275 : decode cL_law 275 = .ok (.iload_n 3, 1) := by decide +kernel
theorem dL_law_276 : decode cL_law 276 = .ok (.iconst 2, 1) := by decide +kernel
theorem dL_law_277 : decode cL_law 277 = .ok (.iadd, 1) := by decide +kernel
theorem dL_law_278 : decode cL_law 278 = .ok (.iaload, 1) := by decide +kernel
theorem dL_law_279 : decode cL_law 279 = .ok (.aload_n 0, 1) := by decide +kernel
theorem dL_law_280 : decode cL_law 280 = .ok (.iload_n 3, 1) := by decide +kernel
theorem dL_law_281 : decode cL_law 281 = .ok (.iconst 3, 1) := by decide +kernel
theorem dL_law_282 : decode cL_law 282 = .ok (.iadd, 1) := by decide +kernel
theorem dL_law_283 : decode cL_law 283 = .ok (.iaload, 1) := by decide +kernel
theorem dL_law_284 : decode cL_law 284 = .ok (.invokevirtual 40, 3) := by decide +kernel
theorem dL_law_287 : decode cL_law 287 = .ok (.aload_n 2, 1) := by decide +kernel
theorem dL_law_288 : decode cL_law 288 = .ok (.aload_n 0, 1) := by decide +kernel
theorem dL_law_289 : decode cL_law 289 = .ok (.iload_n 3, 1) := by decide +kernel
theorem dL_law_290 : decode cL_law 290 = .ok (.iconst 1, 1) := by decide +kernel
theorem dL_law_291 : decode cL_law 291 = .ok (.iadd, 1) := by decide +kernel
theorem dL_law_292 : decode cL_law 292 = .ok (.iaload, 1) := by decide +kernel
theorem dL_law_293 : decode cL_law 293 = .ok (.aload_n 0, 1) := by decide +kernel
theorem dL_law_294 : decode cL_law 294 = .ok (.iload_n 3, 1) := by decide +kernel
theorem dL_law_295 : decode cL_law 295 = .ok (.iconst 2, 1) := by decide +kernel
theorem dL_law_296 : decode cL_law 296 = .ok (.iadd, 1) := by decide +kernel
theorem dL_law_297 : decode cL_law 297 = .ok (.iaload, 1) := by decide +kernel
theorem dL_law_298 : decode cL_law 298 = .ok (.aload_n 0, 1) := by decide +kernel
theorem dL_law_299 : decode cL_law 299 = .ok (.iload_n 3, 1) := by decide +kernel
theorem dL_law_300 : decode cL_law 300 = .ok (.iconst 3, 1) := by decide +kernel
theorem dL_law_301 : decode cL_law 301 = .ok (.iadd, 1) := by decide +kernel
theorem dL_law_302 : decode cL_law 302 = .ok (.iaload, 1) := by decide +kernel
theorem dL_law_303 : decode cL_law 303 = .ok (.invokevirtual 44, 3) := by decide +kernel
theorem dL_law_306 : decode cL_law 306 = .ok (.if_icmp .eq 501, 3) := by decide +kernel
theorem dL_law_309 : decode cL_law 309 = .ok (.iconst 0, 1) := by decide +kernel
theorem dL_law_310 : decode cL_law 310 = .ok (.ireturn, 1) := by decide +kernel
theorem dL_law_311 : decode cL_law 311 = .ok (.aload_n 1, 1) := by decide +kernel
theorem dL_law_312 : decode cL_law 312 = .ok (.aload_n 0, 1) := by decide +kernel
theorem dL_law_313 : decode cL_law 313 = .ok (.iload_n 3, 1) := by decide +kernel
theorem dL_law_314 : decode cL_law 314 = .ok (.iconst 1, 1) := by decide +kernel
theorem dL_law_315 : decode cL_law 315 = .ok (.iadd, 1) := by decide +kernel
theorem dL_law_316 : decode cL_law 316 = .ok (.iaload, 1) := by decide +kernel
theorem dL_law_317 : decode cL_law 317 = .ok (.invokevirtual 45, 3) := by decide +kernel
theorem dL_law_320 : decode cL_law 320 = .ok (.aload_n 2, 1) := by decide +kernel
theorem dL_law_321 : decode cL_law 321 = .ok (.aload_n 0, 1) := by decide +kernel
theorem dL_law_322 : decode cL_law 322 = .ok (.iload_n 3, 1) := by decide +kernel
theorem dL_law_323 : decode cL_law 323 = .ok (.iconst 1, 1) := by decide +kernel
theorem dL_law_324 : decode cL_law 324 = .ok (.iadd, 1) := by decide +kernel
theorem dL_law_325 : decode cL_law 325 = .ok (.iaload, 1) := by decide +kernel
theorem dL_law_326 : decode cL_law 326 = .ok (.invokevirtual 48, 3) := by decide +kernel
theorem dL_law_329 : decode cL_law 329 = .ok (.if_icmp .eq 478, 3) := by decide +kernel
theorem dL_law_332 : decode cL_law 332 = .ok (.iconst 0, 1) := by decide +kernel
theorem dL_law_333 : decode cL_law 333 = .ok (.ireturn, 1) := by decide +kernel
theorem dL_law_334 : decode cL_law 334 = .ok (.aload_n 1, 1) := by decide +kernel
theorem dL_law_335 : decode cL_law 335 = .ok (.aload_n 0, 1) := by decide +kernel
theorem dL_law_336 : decode cL_law 336 = .ok (.iload_n 3, 1) := by decide +kernel
theorem dL_law_337 : decode cL_law 337 = .ok (.iconst 1, 1) := by decide +kernel
theorem dL_law_338 : decode cL_law 338 = .ok (.iadd, 1) := by decide +kernel
theorem dL_law_339 : decode cL_law 339 = .ok (.iaload, 1) := by decide +kernel
theorem dL_law_340 : decode cL_law 340 = .ok (.aload_n 0, 1) := by decide +kernel
theorem dL_law_341 : decode cL_law 341 = .ok (.iload_n 3, 1) := by decide +kernel
theorem dL_law_342 : decode cL_law 342 = .ok (.iconst 2, 1) := by decide +kernel
theorem dL_law_343 : decode cL_law 343 = .ok (.iadd, 1) := by decide +kernel
theorem dL_law_344 : decode cL_law 344 = .ok (.iaload, 1) := by decide +kernel
theorem dL_law_345 : decode cL_law 345 = .ok (.aload_n 0, 1) := by decide +kernel
theorem dL_law_346 : decode cL_law 346 = .ok (.iload_n 3, 1) := by decide +kernel
theorem dL_law_347 : decode cL_law 347 = .ok (.iconst 3, 1) := by decide +kernel
theorem dL_law_348 : decode cL_law 348 = .ok (.iadd, 1) := by decide +kernel
theorem dL_law_349 : decode cL_law 349 = .ok (.iaload, 1) := by decide +kernel
theorem dL_law_350 : decode cL_law 350 = .ok (.aload_n 0, 1) := by decide +kernel
theorem dL_law_351 : decode cL_law 351 = .ok (.iload_n 3, 1) := by decide +kernel
theorem dL_law_352 : decode cL_law 352 = .ok (.iconst 4, 1) := by decide +kernel
theorem dL_law_353 : decode cL_law 353 = .ok (.iadd, 1) := by decide +kernel
theorem dL_law_354 : decode cL_law 354 = .ok (.iaload, 1) := by decide +kernel
theorem dL_law_355 : decode cL_law 355 = .ok (.invokevirtual 49, 3) := by decide +kernel
theorem dL_law_358 : decode cL_law 358 = .ok (.aload_n 2, 1) := by decide +kernel
theorem dL_law_359 : decode cL_law 359 = .ok (.aload_n 0, 1) := by decide +kernel
theorem dL_law_360 : decode cL_law 360 = .ok (.iload_n 3, 1) := by decide +kernel
theorem dL_law_361 : decode cL_law 361 = .ok (.iconst 1, 1) := by decide +kernel
theorem dL_law_362 : decode cL_law 362 = .ok (.iadd, 1) := by decide +kernel
theorem dL_law_363 : decode cL_law 363 = .ok (.iaload, 1) := by decide +kernel
theorem dL_law_364 : decode cL_law 364 = .ok (.aload_n 0, 1) := by decide +kernel
theorem dL_law_365 : decode cL_law 365 = .ok (.iload_n 3, 1) := by decide +kernel
theorem dL_law_366 : decode cL_law 366 = .ok (.iconst 2, 1) := by decide +kernel
theorem dL_law_367 : decode cL_law 367 = .ok (.iadd, 1) := by decide +kernel
theorem dL_law_368 : decode cL_law 368 = .ok (.iaload, 1) := by decide +kernel
theorem dL_law_369 : decode cL_law 369 = .ok (.aload_n 0, 1) := by decide +kernel
theorem dL_law_370 : decode cL_law 370 = .ok (.iload_n 3, 1) := by decide +kernel
theorem dL_law_371 : decode cL_law 371 = .ok (.iconst 3, 1) := by decide +kernel
theorem dL_law_372 : decode cL_law 372 = .ok (.iadd, 1) := by decide +kernel
theorem dL_law_373 : decode cL_law 373 = .ok (.iaload, 1) := by decide +kernel
theorem dL_law_374 : decode cL_law 374 = .ok (.aload_n 0, 1) := by decide +kernel
theorem dL_law_375 : decode cL_law 375 = .ok (.iload_n 3, 1) := by decide +kernel
theorem dL_law_376 : decode cL_law 376 = .ok (.iconst 4, 1) := by decide +kernel
theorem dL_law_377 : decode cL_law 377 = .ok (.iadd, 1) := by decide +kernel
theorem dL_law_378 : decode cL_law 378 = .ok (.iaload, 1) := by decide +kernel
theorem dL_law_379 : decode cL_law 379 = .ok (.invokevirtual 53, 3) := by decide +kernel
theorem dL_law_382 : decode cL_law 382 = .ok (.if_icmp .eq 425, 3) := by decide +kernel
theorem dL_law_385 : decode cL_law 385 = .ok (.iconst 0, 1) := by decide +kernel
theorem dL_law_386 : decode cL_law 386 = .ok (.ireturn, 1) := by decide +kernel
theorem dL_law_387 : decode cL_law 387 = .ok (.aload_n 1, 1) := by decide +kernel
theorem dL_law_388 : decode cL_law 388 = .ok (.aload_n 0, 1) := by decide +kernel
theorem dL_law_389 : decode cL_law 389 = .ok (.iload_n 3, 1) := by decide +kernel
theorem dL_law_390 : decode cL_law 390 = .ok (.iconst 1, 1) := by decide +kernel
theorem dL_law_391 : decode cL_law 391 = .ok (.iadd, 1) := by decide +kernel
theorem dL_law_392 : decode cL_law 392 = .ok (.iaload, 1) := by decide +kernel
theorem dL_law_393 : decode cL_law 393 = .ok (.invokevirtual 54, 3) := by decide +kernel
theorem dL_law_396 : decode cL_law 396 = .ok (.aload_n 2, 1) := by decide +kernel
theorem dL_law_397 : decode cL_law 397 = .ok (.aload_n 0, 1) := by decide +kernel
theorem dL_law_398 : decode cL_law 398 = .ok (.iload_n 3, 1) := by decide +kernel
theorem dL_law_399 : decode cL_law 399 = .ok (.iconst 1, 1) := by decide +kernel
theorem dL_law_400 : decode cL_law 400 = .ok (.iadd, 1) := by decide +kernel
theorem dL_law_401 : decode cL_law 401 = .ok (.iaload, 1) := by decide +kernel
theorem dL_law_402 : decode cL_law 402 = .ok (.invokevirtual 58, 3) := by decide +kernel
theorem dL_law_405 : decode cL_law 405 = .ok (.lcmp, 1) := by decide +kernel
theorem dL_law_406 : decode cL_law 406 = .ok (.ifCond .eq 401, 3) := by decide +kernel
theorem dL_law_409 : decode cL_law 409 = .ok (.iconst 0, 1) := by decide +kernel
theorem dL_law_410 : decode cL_law 410 = .ok (.ireturn, 1) := by decide +kernel
theorem dL_law_411 : decode cL_law 411 = .ok (.aload_n 1, 1) := by decide +kernel
theorem dL_law_412 : decode cL_law 412 = .ok (.aload_n 0, 1) := by decide +kernel
theorem dL_law_413 : decode cL_law 413 = .ok (.iload_n 3, 1) := by decide +kernel
theorem dL_law_414 : decode cL_law 414 = .ok (.iconst 1, 1) := by decide +kernel
theorem dL_law_415 : decode cL_law 415 = .ok (.iadd, 1) := by decide +kernel
theorem dL_law_416 : decode cL_law 416 = .ok (.iaload, 1) := by decide +kernel
theorem dL_law_417 : decode cL_law 417 = .ok (.aload_n 0, 1) := by decide +kernel
theorem dL_law_418 : decode cL_law 418 = .ok (.iload_n 3, 1) := by decide +kernel
theorem dL_law_419 : decode cL_law 419 = .ok (.iconst 2, 1) := by decide +kernel
theorem dL_law_420 : decode cL_law 420 = .ok (.iadd, 1) := by decide +kernel
theorem dL_law_421 : decode cL_law 421 = .ok (.iaload, 1) := by decide +kernel
theorem dL_law_422 : decode cL_law 422 = .ok (.invokevirtual 59, 3) := by decide +kernel
theorem dL_law_425 : decode cL_law 425 = .ok (.aload_n 2, 1) := by decide +kernel
theorem dL_law_426 : decode cL_law 426 = .ok (.aload_n 0, 1) := by decide +kernel
theorem dL_law_427 : decode cL_law 427 = .ok (.iload_n 3, 1) := by decide +kernel
theorem dL_law_428 : decode cL_law 428 = .ok (.iconst 1, 1) := by decide +kernel
theorem dL_law_429 : decode cL_law 429 = .ok (.iadd, 1) := by decide +kernel
theorem dL_law_430 : decode cL_law 430 = .ok (.iaload, 1) := by decide +kernel
theorem dL_law_431 : decode cL_law 431 = .ok (.aload_n 0, 1) := by decide +kernel
theorem dL_law_432 : decode cL_law 432 = .ok (.iload_n 3, 1) := by decide +kernel
theorem dL_law_433 : decode cL_law 433 = .ok (.iconst 2, 1) := by decide +kernel
theorem dL_law_434 : decode cL_law 434 = .ok (.iadd, 1) := by decide +kernel
theorem dL_law_435 : decode cL_law 435 = .ok (.iaload, 1) := by decide +kernel
theorem dL_law_436 : decode cL_law 436 = .ok (.invokevirtual 62, 3) := by decide +kernel
theorem dL_law_439 : decode cL_law 439 = .ok (.if_icmp .eq 368, 3) := by decide +kernel
theorem dL_law_442 : decode cL_law 442 = .ok (.iconst 0, 1) := by decide +kernel
theorem dL_law_443 : decode cL_law 443 = .ok (.ireturn, 1) := by decide +kernel
theorem dL_law_444 : decode cL_law 444 = .ok (.aload_n 1, 1) := by decide +kernel
theorem dL_law_445 : decode cL_law 445 = .ok (.aload_n 0, 1) := by decide +kernel
theorem dL_law_446 : decode cL_law 446 = .ok (.iload_n 3, 1) := by decide +kernel
theorem dL_law_447 : decode cL_law 447 = .ok (.iconst 1, 1) := by decide +kernel
theorem dL_law_448 : decode cL_law 448 = .ok (.iadd, 1) := by decide +kernel
theorem dL_law_449 : decode cL_law 449 = .ok (.iaload, 1) := by decide +kernel
theorem dL_law_450 : decode cL_law 450 = .ok (.aload_n 0, 1) := by decide +kernel
theorem dL_law_451 : decode cL_law 451 = .ok (.iload_n 3, 1) := by decide +kernel
theorem dL_law_452 : decode cL_law 452 = .ok (.iconst 2, 1) := by decide +kernel
theorem dL_law_453 : decode cL_law 453 = .ok (.iadd, 1) := by decide +kernel
theorem dL_law_454 : decode cL_law 454 = .ok (.iaload, 1) := by decide +kernel
theorem dL_law_455 : decode cL_law 455 = .ok (.aload_n 0, 1) := by decide +kernel
theorem dL_law_456 : decode cL_law 456 = .ok (.iload_n 3, 1) := by decide +kernel
theorem dL_law_457 : decode cL_law 457 = .ok (.iconst 3, 1) := by decide +kernel
theorem dL_law_458 : decode cL_law 458 = .ok (.iadd, 1) := by decide +kernel
theorem dL_law_459 : decode cL_law 459 = .ok (.iaload, 1) := by decide +kernel
theorem dL_law_460 : decode cL_law 460 = .ok (.aload_n 0, 1) := by decide +kernel
theorem dL_law_461 : decode cL_law 461 = .ok (.iload_n 3, 1) := by decide +kernel
theorem dL_law_462 : decode cL_law 462 = .ok (.iconst 4, 1) := by decide +kernel
theorem dL_law_463 : decode cL_law 463 = .ok (.iadd, 1) := by decide +kernel
theorem dL_law_464 : decode cL_law 464 = .ok (.iaload, 1) := by decide +kernel
theorem dL_law_465 : decode cL_law 465 = .ok (.aload_n 0, 1) := by decide +kernel
theorem dL_law_466 : decode cL_law 466 = .ok (.iload_n 3, 1) := by decide +kernel
theorem dL_law_467 : decode cL_law 467 = .ok (.iconst 5, 1) := by decide +kernel
theorem dL_law_468 : decode cL_law 468 = .ok (.iadd, 1) := by decide +kernel
theorem dL_law_469 : decode cL_law 469 = .ok (.iaload, 1) := by decide +kernel
theorem dL_law_470 : decode cL_law 470 = .ok (.invokevirtual 63, 3) := by decide +kernel
theorem dL_law_473 : decode cL_law 473 = .ok (.aload_n 2, 1) := by decide +kernel
theorem dL_law_474 : decode cL_law 474 = .ok (.aload_n 0, 1) := by decide +kernel
theorem dL_law_475 : decode cL_law 475 = .ok (.iload_n 3, 1) := by decide +kernel
theorem dL_law_476 : decode cL_law 476 = .ok (.iconst 1, 1) := by decide +kernel
theorem dL_law_477 : decode cL_law 477 = .ok (.iadd, 1) := by decide +kernel
theorem dL_law_478 : decode cL_law 478 = .ok (.iaload, 1) := by decide +kernel
theorem dL_law_479 : decode cL_law 479 = .ok (.aload_n 0, 1) := by decide +kernel
theorem dL_law_480 : decode cL_law 480 = .ok (.iload_n 3, 1) := by decide +kernel
theorem dL_law_481 : decode cL_law 481 = .ok (.iconst 2, 1) := by decide +kernel
theorem dL_law_482 : decode cL_law 482 = .ok (.iadd, 1) := by decide +kernel
theorem dL_law_483 : decode cL_law 483 = .ok (.iaload, 1) := by decide +kernel
theorem dL_law_484 : decode cL_law 484 = .ok (.aload_n 0, 1) := by decide +kernel
theorem dL_law_485 : decode cL_law 485 = .ok (.iload_n 3, 1) := by decide +kernel
theorem dL_law_486 : decode cL_law 486 = .ok (.iconst 3, 1) := by decide +kernel
theorem dL_law_487 : decode cL_law 487 = .ok (.iadd, 1) := by decide +kernel
theorem dL_law_488 : decode cL_law 488 = .ok (.iaload, 1) := by decide +kernel
theorem dL_law_489 : decode cL_law 489 = .ok (.aload_n 0, 1) := by decide +kernel
theorem dL_law_490 : decode cL_law 490 = .ok (.iload_n 3, 1) := by decide +kernel
theorem dL_law_491 : decode cL_law 491 = .ok (.iconst 4, 1) := by decide +kernel
theorem dL_law_492 : decode cL_law 492 = .ok (.iadd, 1) := by decide +kernel
theorem dL_law_493 : decode cL_law 493 = .ok (.iaload, 1) := by decide +kernel
theorem dL_law_494 : decode cL_law 494 = .ok (.aload_n 0, 1) := by decide +kernel
theorem dL_law_495 : decode cL_law 495 = .ok (.iload_n 3, 1) := by decide +kernel
theorem dL_law_496 : decode cL_law 496 = .ok (.iconst 5, 1) := by decide +kernel
theorem dL_law_497 : decode cL_law 497 = .ok (.iadd, 1) := by decide +kernel
theorem dL_law_498 : decode cL_law 498 = .ok (.iaload, 1) := by decide +kernel
theorem dL_law_499 : decode cL_law 499 = .ok (.invokevirtual 67, 3) := by decide +kernel
theorem dL_law_502 : decode cL_law 502 = .ok (.if_icmp .eq 305, 3) := by decide +kernel
theorem dL_law_505 : decode cL_law 505 = .ok (.iconst 0, 1) := by decide +kernel
theorem dL_law_506 : decode cL_law 506 = .ok (.ireturn, 1) := by decide +kernel
theorem dL_law_507 : decode cL_law 507 = .ok (.aload_n 1, 1) := by decide +kernel
theorem dL_law_508 : decode cL_law 508 = .ok (.aload_n 0, 1) := by decide +kernel
theorem dL_law_509 : decode cL_law 509 = .ok (.iload_n 3, 1) := by decide +kernel
theorem dL_law_510 : decode cL_law 510 = .ok (.iconst 1, 1) := by decide +kernel
theorem dL_law_511 : decode cL_law 511 = .ok (.iadd, 1) := by decide +kernel
theorem dL_law_512 : decode cL_law 512 = .ok (.iaload, 1) := by decide +kernel
theorem dL_law_513 : decode cL_law 513 = .ok (.invokevirtual 68, 3) := by decide +kernel
theorem dL_law_516 : decode cL_law 516 = .ok (.aload_n 2, 1) := by decide +kernel
theorem dL_law_517 : decode cL_law 517 = .ok (.aload_n 0, 1) := by decide +kernel
theorem dL_law_518 : decode cL_law 518 = .ok (.iload_n 3, 1) := by decide +kernel
theorem dL_law_519 : decode cL_law 519 = .ok (.iconst 1, 1) := by decide +kernel
theorem dL_law_520 : decode cL_law 520 = .ok (.iadd, 1) := by decide +kernel
theorem dL_law_521 : decode cL_law 521 = .ok (.iaload, 1) := by decide +kernel
theorem dL_law_522 : decode cL_law 522 = .ok (.invokevirtual 71, 3) := by decide +kernel
theorem dL_law_525 : decode cL_law 525 = .ok (.if_icmp .eq 282, 3) := by decide +kernel
theorem dL_law_528 : decode cL_law 528 = .ok (.iconst 0, 1) := by decide +kernel
theorem dL_law_529 : decode cL_law 529 = .ok (.ireturn, 1) := by decide +kernel
theorem dL_law_530 : decode cL_law 530 = .ok (.aload_n 1, 1) := by decide +kernel
theorem dL_law_531 : decode cL_law 531 = .ok (.aload_n 0, 1) := by decide +kernel
theorem dL_law_532 : decode cL_law 532 = .ok (.iload_n 3, 1) := by decide +kernel
theorem dL_law_533 : decode cL_law 533 = .ok (.iconst 1, 1) := by decide +kernel
theorem dL_law_534 : decode cL_law 534 = .ok (.iadd, 1) := by decide +kernel
theorem dL_law_535 : decode cL_law 535 = .ok (.iaload, 1) := by decide +kernel
theorem dL_law_536 : decode cL_law 536 = .ok (.aload_n 0, 1) := by decide +kernel
theorem dL_law_537 : decode cL_law 537 = .ok (.iload_n 3, 1) := by decide +kernel
theorem dL_law_538 : decode cL_law 538 = .ok (.iconst 2, 1) := by decide +kernel
theorem dL_law_539 : decode cL_law 539 = .ok (.iadd, 1) := by decide +kernel
theorem dL_law_540 : decode cL_law 540 = .ok (.iaload, 1) := by decide +kernel
theorem dL_law_541 : decode cL_law 541 = .ok (.invokevirtual 72, 3) := by decide +kernel
theorem dL_law_544 : decode cL_law 544 = .ok (.aload_n 2, 1) := by decide +kernel
theorem dL_law_545 : decode cL_law 545 = .ok (.aload_n 0, 1) := by decide +kernel
theorem dL_law_546 : decode cL_law 546 = .ok (.iload_n 3, 1) := by decide +kernel
theorem dL_law_547 : decode cL_law 547 = .ok (.iconst 1, 1) := by decide +kernel
theorem dL_law_548 : decode cL_law 548 = .ok (.iadd, 1) := by decide +kernel
theorem dL_law_549 : decode cL_law 549 = .ok (.iaload, 1) := by decide +kernel
theorem dL_law_550 : decode cL_law 550 = .ok (.aload_n 0, 1) := by decide +kernel
theorem dL_law_551 : decode cL_law 551 = .ok (.iload_n 3, 1) := by decide +kernel
theorem dL_law_552 : decode cL_law 552 = .ok (.iconst 2, 1) := by decide +kernel
theorem dL_law_553 : decode cL_law 553 = .ok (.iadd, 1) := by decide +kernel
theorem dL_law_554 : decode cL_law 554 = .ok (.iaload, 1) := by decide +kernel
theorem dL_law_555 : decode cL_law 555 = .ok (.invokevirtual 75, 3) := by decide +kernel
theorem dL_law_558 : decode cL_law 558 = .ok (.if_icmp .eq 249, 3) := by decide +kernel
theorem dL_law_561 : decode cL_law 561 = .ok (.iconst 0, 1) := by decide +kernel
theorem dL_law_562 : decode cL_law 562 = .ok (.ireturn, 1) := by decide +kernel
theorem dL_law_563 : decode cL_law 563 = .ok (.aload_n 1, 1) := by decide +kernel
theorem dL_law_564 : decode cL_law 564 = .ok (.aload_n 0, 1) := by decide +kernel
theorem dL_law_565 : decode cL_law 565 = .ok (.iload_n 3, 1) := by decide +kernel
theorem dL_law_566 : decode cL_law 566 = .ok (.iconst 1, 1) := by decide +kernel
theorem dL_law_567 : decode cL_law 567 = .ok (.iadd, 1) := by decide +kernel
theorem dL_law_568 : decode cL_law 568 = .ok (.iaload, 1) := by decide +kernel
theorem dL_law_569 : decode cL_law 569 = .ok (.aload_n 0, 1) := by decide +kernel
theorem dL_law_570 : decode cL_law 570 = .ok (.iload_n 3, 1) := by decide +kernel
theorem dL_law_571 : decode cL_law 571 = .ok (.iconst 2, 1) := by decide +kernel
theorem dL_law_572 : decode cL_law 572 = .ok (.iadd, 1) := by decide +kernel
theorem dL_law_573 : decode cL_law 573 = .ok (.iaload, 1) := by decide +kernel
theorem dL_law_574 : decode cL_law 574 = .ok (.invokevirtual 76, 3) := by decide +kernel
theorem dL_law_577 : decode cL_law 577 = .ok (.aload_n 2, 1) := by decide +kernel
theorem dL_law_578 : decode cL_law 578 = .ok (.aload_n 0, 1) := by decide +kernel
theorem dL_law_579 : decode cL_law 579 = .ok (.iload_n 3, 1) := by decide +kernel
theorem dL_law_580 : decode cL_law 580 = .ok (.iconst 1, 1) := by decide +kernel
theorem dL_law_581 : decode cL_law 581 = .ok (.iadd, 1) := by decide +kernel
theorem dL_law_582 : decode cL_law 582 = .ok (.iaload, 1) := by decide +kernel
theorem dL_law_583 : decode cL_law 583 = .ok (.aload_n 0, 1) := by decide +kernel
theorem dL_law_584 : decode cL_law 584 = .ok (.iload_n 3, 1) := by decide +kernel
theorem dL_law_585 : decode cL_law 585 = .ok (.iconst 2, 1) := by decide +kernel
theorem dL_law_586 : decode cL_law 586 = .ok (.iadd, 1) := by decide +kernel
theorem dL_law_587 : decode cL_law 587 = .ok (.iaload, 1) := by decide +kernel
theorem dL_law_588 : decode cL_law 588 = .ok (.invokevirtual 79, 3) := by decide +kernel
theorem dL_law_591 : decode cL_law 591 = .ok (.if_icmp .eq 216, 3) := by decide +kernel
theorem dL_law_594 : decode cL_law 594 = .ok (.iconst 0, 1) := by decide +kernel
theorem dL_law_595 : decode cL_law 595 = .ok (.ireturn, 1) := by decide +kernel
theorem dL_law_596 : decode cL_law 596 = .ok (.aload_n 1, 1) := by decide +kernel
theorem dL_law_597 : decode cL_law 597 = .ok (.aload_n 0, 1) := by decide +kernel
theorem dL_law_598 : decode cL_law 598 = .ok (.iload_n 3, 1) := by decide +kernel
theorem dL_law_599 : decode cL_law 599 = .ok (.iconst 1, 1) := by decide +kernel
theorem dL_law_600 : decode cL_law 600 = .ok (.iadd, 1) := by decide +kernel
theorem dL_law_601 : decode cL_law 601 = .ok (.iaload, 1) := by decide +kernel
theorem dL_law_602 : decode cL_law 602 = .ok (.aload_n 0, 1) := by decide +kernel
theorem dL_law_603 : decode cL_law 603 = .ok (.iload_n 3, 1) := by decide +kernel
theorem dL_law_604 : decode cL_law 604 = .ok (.iconst 2, 1) := by decide +kernel
theorem dL_law_605 : decode cL_law 605 = .ok (.iadd, 1) := by decide +kernel
theorem dL_law_606 : decode cL_law 606 = .ok (.iaload, 1) := by decide +kernel
theorem dL_law_607 : decode cL_law 607 = .ok (.invokevirtual 80, 3) := by decide +kernel
theorem dL_law_610 : decode cL_law 610 = .ok (.aload_n 2, 1) := by decide +kernel
theorem dL_law_611 : decode cL_law 611 = .ok (.aload_n 0, 1) := by decide +kernel
theorem dL_law_612 : decode cL_law 612 = .ok (.iload_n 3, 1) := by decide +kernel
theorem dL_law_613 : decode cL_law 613 = .ok (.iconst 1, 1) := by decide +kernel
theorem dL_law_614 : decode cL_law 614 = .ok (.iadd, 1) := by decide +kernel
theorem dL_law_615 : decode cL_law 615 = .ok (.iaload, 1) := by decide +kernel
theorem dL_law_616 : decode cL_law 616 = .ok (.aload_n 0, 1) := by decide +kernel
theorem dL_law_617 : decode cL_law 617 = .ok (.iload_n 3, 1) := by decide +kernel
theorem dL_law_618 : decode cL_law 618 = .ok (.iconst 2, 1) := by decide +kernel
theorem dL_law_619 : decode cL_law 619 = .ok (.iadd, 1) := by decide +kernel
theorem dL_law_620 : decode cL_law 620 = .ok (.iaload, 1) := by decide +kernel
theorem dL_law_621 : decode cL_law 621 = .ok (.invokevirtual 83, 3) := by decide +kernel
theorem dL_law_624 : decode cL_law 624 = .ok (.if_icmp .eq 183, 3) := by decide +kernel
theorem dL_law_627 : decode cL_law 627 = .ok (.iconst 0, 1) := by decide +kernel
theorem dL_law_628 : decode cL_law 628 = .ok (.ireturn, 1) := by decide +kernel
theorem dL_law_629 : decode cL_law 629 = .ok (.aload_n 1, 1) := by decide +kernel
theorem dL_law_630 : decode cL_law 630 = .ok (.aload_n 0, 1) := by decide +kernel
theorem dL_law_631 : decode cL_law 631 = .ok (.iload_n 3, 1) := by decide +kernel
theorem dL_law_632 : decode cL_law 632 = .ok (.iconst 1, 1) := by decide +kernel
theorem dL_law_633 : decode cL_law 633 = .ok (.iadd, 1) := by decide +kernel
theorem dL_law_634 : decode cL_law 634 = .ok (.iaload, 1) := by decide +kernel
theorem dL_law_635 : decode cL_law 635 = .ok (.aload_n 0, 1) := by decide +kernel
theorem dL_law_636 : decode cL_law 636 = .ok (.iload_n 3, 1) := by decide +kernel
theorem dL_law_637 : decode cL_law 637 = .ok (.iconst 2, 1) := by decide +kernel
theorem dL_law_638 : decode cL_law 638 = .ok (.iadd, 1) := by decide +kernel
theorem dL_law_639 : decode cL_law 639 = .ok (.iaload, 1) := by decide +kernel
theorem dL_law_640 : decode cL_law 640 = .ok (.aload_n 0, 1) := by decide +kernel
theorem dL_law_641 : decode cL_law 641 = .ok (.iload_n 3, 1) := by decide +kernel
theorem dL_law_642 : decode cL_law 642 = .ok (.iconst 3, 1) := by decide +kernel
theorem dL_law_643 : decode cL_law 643 = .ok (.iadd, 1) := by decide +kernel
theorem dL_law_644 : decode cL_law 644 = .ok (.iaload, 1) := by decide +kernel
theorem dL_law_645 : decode cL_law 645 = .ok (.ifCond .eq 7, 3) := by decide +kernel
theorem dL_law_648 : decode cL_law 648 = .ok (.iconst 1, 1) := by decide +kernel
theorem dL_law_649 : decode cL_law 649 = .ok (.goto 4, 3) := by decide +kernel
theorem dL_law_652 : decode cL_law 652 = .ok (.iconst 0, 1) := by decide +kernel
theorem dL_law_653 : decode cL_law 653 = .ok (.invokevirtual 84, 3) := by decide +kernel
theorem dL_law_656 : decode cL_law 656 = .ok (.aload_n 2, 1) := by decide +kernel
theorem dL_law_657 : decode cL_law 657 = .ok (.aload_n 0, 1) := by decide +kernel
theorem dL_law_658 : decode cL_law 658 = .ok (.iload_n 3, 1) := by decide +kernel
theorem dL_law_659 : decode cL_law 659 = .ok (.iconst 1, 1) := by decide +kernel
theorem dL_law_660 : decode cL_law 660 = .ok (.iadd, 1) := by decide +kernel
theorem dL_law_661 : decode cL_law 661 = .ok (.iaload, 1) := by decide +kernel
theorem dL_law_662 : decode cL_law 662 = .ok (.aload_n 0, 1) := by decide +kernel
theorem dL_law_663 : decode cL_law 663 = .ok (.iload_n 3, 1) := by decide +kernel
theorem dL_law_664 : decode cL_law 664 = .ok (.iconst 2, 1) := by decide +kernel
theorem dL_law_665 : decode cL_law 665 = .ok (.iadd, 1) := by decide +kernel
theorem dL_law_666 : decode cL_law 666 = .ok (.iaload, 1) := by decide +kernel
theorem dL_law_667 : decode cL_law 667 = .ok (.aload_n 0, 1) := by decide +kernel
theorem dL_law_668 : decode cL_law 668 = .ok (.iload_n 3, 1) := by decide +kernel
theorem dL_law_669 : decode cL_law 669 = .ok (.iconst 3, 1) := by decide +kernel
theorem dL_law_670 : decode cL_law 670 = .ok (.iadd, 1) := by decide +kernel
theorem dL_law_671 : decode cL_law 671 = .ok (.iaload, 1) := by decide +kernel
theorem dL_law_672 : decode cL_law 672 = .ok (.ifCond .eq 7, 3) := by decide +kernel
theorem dL_law_675 : decode cL_law 675 = .ok (.iconst 1, 1) := by decide +kernel
theorem dL_law_676 : decode cL_law 676 = .ok (.goto 4, 3) := by decide +kernel
theorem dL_law_679 : decode cL_law 679 = .ok (.iconst 0, 1) := by decide +kernel
theorem dL_law_680 : decode cL_law 680 = .ok (.invokevirtual 88, 3) := by decide +kernel
theorem dL_law_683 : decode cL_law 683 = .ok (.if_icmp .eq 124, 3) := by decide +kernel
theorem dL_law_686 : decode cL_law 686 = .ok (.iconst 0, 1) := by decide +kernel
theorem dL_law_687 : decode cL_law 687 = .ok (.ireturn, 1) := by decide +kernel
theorem dL_law_688 : decode cL_law 688 = .ok (.aload_n 1, 1) := by decide +kernel
theorem dL_law_689 : decode cL_law 689 = .ok (.invokevirtual 89, 3) := by decide +kernel
theorem dL_law_692 : decode cL_law 692 = .ok (.aload_n 2, 1) := by decide +kernel
theorem dL_law_693 : decode cL_law 693 = .ok (.invokevirtual 92, 3) := by decide +kernel
theorem dL_law_696 : decode cL_law 696 = .ok (.if_icmp .eq 111, 3) := by decide +kernel
theorem dL_law_699 : decode cL_law 699 = .ok (.iconst 0, 1) := by decide +kernel
theorem dL_law_700 : decode cL_law 700 = .ok (.ireturn, 1) := by decide +kernel
theorem dL_law_701 : decode cL_law 701 = .ok (.aload_n 1, 1) := by decide +kernel
theorem dL_law_702 : decode cL_law 702 = .ok (.aload_n 0, 1) := by decide +kernel
theorem dL_law_703 : decode cL_law 703 = .ok (.iload_n 3, 1) := by decide +kernel
theorem dL_law_704 : decode cL_law 704 = .ok (.iconst 1, 1) := by decide +kernel
theorem dL_law_705 : decode cL_law 705 = .ok (.iadd, 1) := by decide +kernel
theorem dL_law_706 : decode cL_law 706 = .ok (.iaload, 1) := by decide +kernel
theorem dL_law_707 : decode cL_law 707 = .ok (.aload_n 0, 1) := by decide +kernel
theorem dL_law_708 : decode cL_law 708 = .ok (.iload_n 3, 1) := by decide +kernel
theorem dL_law_709 : decode cL_law 709 = .ok (.iconst 2, 1) := by decide +kernel
theorem dL_law_710 : decode cL_law 710 = .ok (.iadd, 1) := by decide +kernel
theorem dL_law_711 : decode cL_law 711 = .ok (.iaload, 1) := by decide +kernel
theorem dL_law_712 : decode cL_law 712 = .ok (.aload_n 0, 1) := by decide +kernel
theorem dL_law_713 : decode cL_law 713 = .ok (.iload_n 3, 1) := by decide +kernel
theorem dL_law_714 : decode cL_law 714 = .ok (.iconst 3, 1) := by decide +kernel
theorem dL_law_715 : decode cL_law 715 = .ok (.iadd, 1) := by decide +kernel
theorem dL_law_716 : decode cL_law 716 = .ok (.iaload, 1) := by decide +kernel
theorem dL_law_717 : decode cL_law 717 = .ok (.invokevirtual 93, 3) := by decide +kernel
theorem dL_law_720 : decode cL_law 720 = .ok (.aload_n 2, 1) := by decide +kernel
theorem dL_law_721 : decode cL_law 721 = .ok (.aload_n 0, 1) := by decide +kernel
theorem dL_law_722 : decode cL_law 722 = .ok (.iload_n 3, 1) := by decide +kernel
theorem dL_law_723 : decode cL_law 723 = .ok (.iconst 1, 1) := by decide +kernel
theorem dL_law_724 : decode cL_law 724 = .ok (.iadd, 1) := by decide +kernel
theorem dL_law_725 : decode cL_law 725 = .ok (.iaload, 1) := by decide +kernel
theorem dL_law_726 : decode cL_law 726 = .ok (.aload_n 0, 1) := by decide +kernel
theorem dL_law_727 : decode cL_law 727 = .ok (.iload_n 3, 1) := by decide +kernel
theorem dL_law_728 : decode cL_law 728 = .ok (.iconst 2, 1) := by decide +kernel
theorem dL_law_729 : decode cL_law 729 = .ok (.iadd, 1) := by decide +kernel
theorem dL_law_730 : decode cL_law 730 = .ok (.iaload, 1) := by decide +kernel
theorem dL_law_731 : decode cL_law 731 = .ok (.aload_n 0, 1) := by decide +kernel
theorem dL_law_732 : decode cL_law 732 = .ok (.iload_n 3, 1) := by decide +kernel
theorem dL_law_733 : decode cL_law 733 = .ok (.iconst 3, 1) := by decide +kernel
theorem dL_law_734 : decode cL_law 734 = .ok (.iadd, 1) := by decide +kernel
theorem dL_law_735 : decode cL_law 735 = .ok (.iaload, 1) := by decide +kernel
theorem dL_law_736 : decode cL_law 736 = .ok (.invokevirtual 96, 3) := by decide +kernel
theorem dL_law_739 : decode cL_law 739 = .ok (.if_icmp .eq 68, 3) := by decide +kernel
theorem dL_law_742 : decode cL_law 742 = .ok (.iconst 0, 1) := by decide +kernel
theorem dL_law_743 : decode cL_law 743 = .ok (.ireturn, 1) := by decide +kernel
theorem dL_law_744 : decode cL_law 744 = .ok (.aload_n 1, 1) := by decide +kernel
theorem dL_law_745 : decode cL_law 745 = .ok (.invokevirtual 97, 3) := by decide +kernel
theorem dL_law_748 : decode cL_law 748 = .ok (.aload_n 2, 1) := by decide +kernel
theorem dL_law_749 : decode cL_law 749 = .ok (.invokevirtual 100, 3) := by decide +kernel
theorem dL_law_752 : decode cL_law 752 = .ok (.if_icmp .eq 55, 3) := by decide +kernel
theorem dL_law_755 : decode cL_law 755 = .ok (.iconst 0, 1) := by decide +kernel
theorem dL_law_756 : decode cL_law 756 = .ok (.ireturn, 1) := by decide +kernel
theorem dL_law_757 : decode cL_law 757 = .ok (.aload_n 1, 1) := by decide +kernel
theorem dL_law_758 : decode cL_law 758 = .ok (.invokevirtual 101, 3) := by decide +kernel
theorem dL_law_761 : decode cL_law 761 = .ok (.aload_n 2, 1) := by decide +kernel
theorem dL_law_762 : decode cL_law 762 = .ok (.invokevirtual 104, 3) := by decide +kernel
theorem dL_law_765 : decode cL_law 765 = .ok (.if_icmp .eq 42, 3) := by decide +kernel
theorem dL_law_768 : decode cL_law 768 = .ok (.iconst 0, 1) := by decide +kernel
theorem dL_law_769 : decode cL_law 769 = .ok (.ireturn, 1) := by decide +kernel
theorem dL_law_770 : decode cL_law 770 = .ok (.aload_n 1, 1) := by decide +kernel
theorem dL_law_771 : decode cL_law 771 = .ok (.aload_n 0, 1) := by decide +kernel
theorem dL_law_772 : decode cL_law 772 = .ok (.iload_n 3, 1) := by decide +kernel
theorem dL_law_773 : decode cL_law 773 = .ok (.iconst 1, 1) := by decide +kernel
theorem dL_law_774 : decode cL_law 774 = .ok (.iadd, 1) := by decide +kernel
theorem dL_law_775 : decode cL_law 775 = .ok (.iaload, 1) := by decide +kernel
theorem dL_law_776 : decode cL_law 776 = .ok (.invokevirtual 105, 3) := by decide +kernel
theorem dL_law_779 : decode cL_law 779 = .ok (.aload_n 2, 1) := by decide +kernel
theorem dL_law_780 : decode cL_law 780 = .ok (.aload_n 0, 1) := by decide +kernel
theorem dL_law_781 : decode cL_law 781 = .ok (.iload_n 3, 1) := by decide +kernel
theorem dL_law_782 : decode cL_law 782 = .ok (.iconst 1, 1) := by decide +kernel
theorem dL_law_783 : decode cL_law 783 = .ok (.iadd, 1) := by decide +kernel
theorem dL_law_784 : decode cL_law 784 = .ok (.iaload, 1) := by decide +kernel
theorem dL_law_785 : decode cL_law 785 = .ok (.invokevirtual 108, 3) := by decide +kernel
theorem dL_law_788 : decode cL_law 788 = .ok (.if_icmp .eq 19, 3) := by decide +kernel
theorem dL_law_791 : decode cL_law 791 = .ok (.iconst 0, 1) := by decide +kernel
theorem dL_law_792 : decode cL_law 792 = .ok (.ireturn, 1) := by decide +kernel
theorem dL_law_793 : decode cL_law 793 = .ok (.aload_n 1, 1) := by decide +kernel
theorem dL_law_794 : decode cL_law 794 = .ok (.invokevirtual 109, 3) := by decide +kernel
theorem dL_law_797 : decode cL_law 797 = .ok (.aload_n 2, 1) := by decide +kernel
theorem dL_law_798 : decode cL_law 798 = .ok (.invokevirtual 113, 3) := by decide +kernel
theorem dL_law_801 : decode cL_law 801 = .ok (.lcmp, 1) := by decide +kernel
theorem dL_law_802 : decode cL_law 802 = .ok (.ifCond .eq 5, 3) := by decide +kernel
theorem dL_law_805 : decode cL_law 805 = .ok (.iconst 0, 1) := by decide +kernel
theorem dL_law_806 : decode cL_law 806 = .ok (.ireturn, 1) := by decide +kernel
theorem dL_law_807 : decode cL_law 807 = .ok (.iinc 3 6, 3) := by decide +kernel
theorem dL_law_810 : decode cL_law 810 = .ok (.goto (-792), 3) := by decide +kernel
theorem dL_law_813 : decode cL_law 813 = .ok (.iconst 1, 1) := by decide +kernel
theorem dL_law_814 : decode cL_law 814 = .ok (.ireturn, 1) := by decide +kernel
end
section
/-! ===== the bridge: abstract values, memory, and the judgement Ev over the kit's W ===== -/
abbrev V : Type := Int ⊕ (Int ⊕ (Nat ⊕ Nat))
abbrev vI (z : Int) : V := .inl z
abbrev vL (z : Int) : V := .inr (.inl z)
abbrev vR (c : Nat) : V := .inr (.inr (.inl c))
abbrev vX (k : Nat) : V := .inr (.inr (.inr k))
/-- cells: an object of class ci; an int array; an array of Shapes -/
abbrev Kd : Type := Nat ⊕ (Nat ⊕ Nat)
abbrev Mm : Type := Nat → Int → Int
abbrev Pm : Type := Nat → Int → Option Nat
/-- the environment: classes and slots, int[] and Shape[], first own address, externals, the script -/
abbrev Gv : Type := va_G × ClassId × ClassId × Nat × (Nat → Option Nat) × Nat × (Nat → Int32)
abbrev gD (g : Gv) : va_G := g.1
abbrev gI (g : Gv) : ClassId := g.2.1
abbrev gS (g : Gv) : ClassId := g.2.2.1
abbrev gb (g : Gv) : Nat := g.2.2.2.1
abbrev gx (g : Gv) : Nat → Option Nat := g.2.2.2.2.1
abbrev gL (g : Gv) : Nat := g.2.2.2.2.2.1
abbrev gs (g : Gv) : Nat → Int32 := g.2.2.2.2.2.2
abbrev inR (z : Int) : Prop := -2147483648 ≤ z ∧ z ≤ 2147483647
def cv (g : Gv) : V → Value
  | .inl z => .int (Int32.ofInt z)
  | .inr (.inl z) => .long (Int64.ofInt z)
  | .inr (.inr (.inl c)) => .ref (gb g + c)
  | .inr (.inr (.inr k)) => va_rf (gx g k)
def ct : V → Nat
  | .inr (.inl _) => 2
  | _ => 1
theorem ct_cv (g : Gv) (v : V) : (cv g v).category = ct v := by
  match v with
  | .inl z => rfl
  | .inr (.inl z) => rfl
  | .inr (.inr (.inl c)) => rfl
  | .inr (.inr (.inr k)) =>
    show (va_rf (gx g k)).category = 1
    cases gx g k <;> rfl
abbrev vwCl : List vw_C := [(RX0, TX0, 1), (RX1, TX1, 2), (RX2, TX2, 2), (RX3, TX3, 7), (RX4, TX4, 6), (RX5, TX5, 3), (RX6, TX6, 2), (RX7, TX7, 5), (RX8, TX8, 12), (RX9, TX9, 29)]
def tyC : Nat → Nat → FieldType
  | 0 => tyX0
  | 1 => tyX1
  | 2 => tyX2
  | 3 => tyX3
  | 4 => tyX4
  | 5 => tyX5
  | 6 => tyX6
  | 7 => tyX7
  | 8 => tyX8
  | _ => tyX9
def nFd : Nat → Nat
  | 0 => 1
  | 1 => 2
  | 2 => 2
  | 3 => 7
  | 4 => 6
  | 5 => 3
  | 6 => 2
  | 7 => 5
  | 8 => 12
  | _ => 29
def fvl (b : Nat) (ty : FieldType) (z : Int) (r : Option Nat) : Value := match ty with
  | .int => .int (Int32.ofInt z)
  | .boolean => .int (Int32.ofInt z)
  | .long => .long (Int64.ofInt z)
  | _ => va_rf (r.map (fun d => b + d))
def kE (g : Gv) (M : Mm) (P : Pm) (c : Nat) : Kd → va_E
  | .inl ci => .inr (ci, (List.range (nFd ci)).map (fun k => fvl (gb g) (tyC ci k) (M c k) (P c k)))
  | .inr (.inl n) => .inl (gI g, n, .inl (fun i => Int32.ofInt (M c i)))
  | .inr (.inr n) => .inl (gS g, n, .inr (.inr (.inr (.inr (fun i => (P c i).map (fun d => gb g + d))))))
def wl (g : Gv) (K : List Kd) (M : Mm) (P : Pm) : va_W := (List.range K.length).map (fun c => (gb g + c, kE g M P c (K.getD c (.inl 0))))
theorem wl_at {g : Gv} {K : List Kd} {M : Mm} {P : Pm} {c : Nat} {kd : Kd} (h : K[c]? = some kd) : (wl g K M P)[c]? = some (gb g + c, kE g M P c kd) := by
  obtain ⟨hl, he⟩ := List.getElem?_eq_some_iff.mp h
  unfold wl
  rw [List.getElem?_map, List.getElem?_range hl]
  show some (gb g + c, kE g M P c (K.getD c (Sum.inl 0))) = _
  rw [List.getD_eq_getElem?_getD, h]
  rfl
theorem wl_len (g : Gv) (K : List Kd) (M : Mm) (P : Pm) : (wl g K M P).length = K.length := by unfold wl; simp
theorem wl_none {g : Gv} {K : List Kd} {M : Mm} {P : Pm} {c : Nat} (h : K[c]? = none) : (wl g K M P)[c]? = none := by
  rw [List.getElem?_eq_none_iff, wl_len]
  exact List.getElem?_eq_none_iff.mp h
theorem kE_cg {g : Gv} {M M' : Mm} {P P' : Pm} {c : Nat} (kd : Kd) (h : ∀ i, M' c i = M c i) (h2 : ∀ i, P' c i = P c i) : kE g M' P' c kd = kE g M P c kd := by
  match kd with
  | .inl ci => simp only [kE, h, h2]
  | .inr (.inl n) => simp only [kE, h]
  | .inr (.inr n) => simp only [kE, h2]
theorem wl_set {g : Gv} {K : List Kd} {M M' : Mm} {P P' : Pm} {c : Nat} {kd : Kd} (h : K[c]? = some kd) (hM : ∀ q i, q ≠ c → M' q i = M q i) (hP : ∀ q i, q ≠ c → P' q i = P q i) : (wl g K M P).set c (gb g + c, kE g M' P' c kd) = wl g K M' P' := by
  refine List.ext_getElem? fun q => ?_
  by_cases hq : c = q
  · subst hq
    obtain ⟨hl, -⟩ := List.getElem?_eq_some_iff.mp h
    rw [List.getElem?_set_self (by rw [wl_len]; exact hl), wl_at h]
  · rw [List.getElem?_set_ne hq]
    cases hk : K[q]? with
    | none => rw [wl_none hk, wl_none hk]
    | some kd' => rw [wl_at hk, wl_at hk, kE_cg kd' (fun i => hM q i (fun z => hq z.symm)) (fun i => hP q i (fun z => hq z.symm))]
theorem wl_push {g : Gv} {K : List Kd} {M M' : Mm} {P P' : Pm} {kd : Kd} (hM : ∀ q i, q ≠ K.length → M' q i = M q i) (hP : ∀ q i, q ≠ K.length → P' q i = P q i) : wl g K M P ++ [(gb g + K.length, kE g M' P' K.length kd)] = wl g (K ++ [kd]) M' P' := by
  refine List.ext_getElem? fun q => ?_
  rcases Nat.lt_trichotomy q K.length with hq | hq | hq
  · rw [List.getElem?_append_left (by rw [wl_len]; exact hq)]
    have h1 : (K ++ [kd])[q]? = K[q]? := List.getElem?_append_left hq
    cases hk : K[q]? with
    | none => exact absurd (List.getElem?_eq_none_iff.mp hk) (by omega)
    | some kd' => rw [wl_at hk, wl_at (h1.trans hk), kE_cg kd' (fun i => hM q i (by omega)) (fun i => hP q i (by omega))]
  · subst hq
    rw [List.getElem?_append_right (by rw [wl_len]; exact Nat.le_refl _), wl_len, Nat.sub_self, wl_at (kd := kd) (by simp)]
    rfl
  · rw [List.getElem?_eq_none_iff.mpr (by simp [wl_len]; omega), wl_none (List.getElem?_eq_none_iff.mpr (by simp; omega))]
def eA (b : Nat) : Nat → Prop := fun q => b ≤ q
theorem wl_D (g : Gv) (K : List Kd) (M : Mm) (P : Pm) : va_D (eA (gb g)) (wl g K M P) := by
  have key : ∀ (i : Nat) (p : Nat × va_E), (wl g K M P)[i]? = some p → p.1 = gb g + i := by
    intro i p hp
    cases hk : K[i]? with
    | none => rw [wl_none hk] at hp; cases hp
    | some kd => rw [wl_at hk] at hp; cases hp; rfl
  refine ⟨fun i j p q hp hq he => ?_, fun k q hq => ?_⟩
  · have h1 := key i p hp
    have h2 := key j q hq
    omega
  · show gb g ≤ q.1
    rw [key k q hq]
    exact Nat.le_add_right _ _
def HR (g : Gv) (K : List Kd) (M : Mm) (P : Pm) (H : Heap) : Prop := H.size = gb g + K.length ∧ va_P (gD g) vwCl (wl g K M P) H
/-- what lies outside: the script, Seen.COULD, statics of the JDK, the six texts of Reader -/
def s_len : List Nat := [5, 4, 4, 1, 3, 1]
def s_byt : List (List Int32) := [[116, 115, 102, 97, 119], [120, 120, 43, 100], [110, 120, 43, 100], [110], [110, 43, 100], [107]]
def s_tx : List String := ["tsfaw", "xx+d", "nx+d", "n", "n+d", "k"]
def s_ix : List Nat := [80, 93, 95, 97, 99, 101]
def XT (g : Gv) (U : State) (H : Heap) : Prop := ∃ (a0 a1 : Nat) (adK adV : Nat → Nat), gx g 0 = some a0 ∧ gx g 1 = some a1 ∧ (∀ i, i < 6 → gx g (2 + i) = some (adK i)) ∧ (∀ i, i < 6 → gx g (8 + i) = some (adV i)) ∧
  va_X a0 (gL g) (gs g) U H ∧ a0 < gb g ∧ va_Z RX5 "COULD" "[I" (.ref a1) (eA (gb g)) U H ∧ va_T .int a1 4 (fun j => .int (([27, 14, 20, 16] : List Int32).getD j 0)) (eA (gb g)) U H ∧
  va_Z "java/lang/String" "COMPACT_STRINGS" "Z" (.int 1) (eA (gb g)) U H ∧ va_Z "jdk/internal/util/Preconditions" "SIOOBE_FORMATTER" "Ljava/util/function/BiFunction;" (va_rf (gx g 14)) (eA (gb g)) U H ∧
  vk_S 6 s_len s_byt adK adV (eA (gb g)) U H ∧ ∀ i, i < 6 → vk_R RX3 (s_ix.getD i 0) (s_tx.getD i "") (adK i) U
theorem XT.to {g : Gv} {s U : State} {H : Heap} (hW : s.WarmedH U.vm) (h : XT g s s.heap) (hb : gb g ≤ s.heap.size) (hq : ∀ q : Nat, q < gb g → H[q]? = s.heap[q]?) (hH : U.heap = H) : XT g U U.heap := by
  subst hH
  obtain ⟨a0, a1, adK, adV, e0, e1, e2, e3, h1, h2, h3, h4, h5, h6, h7, h8⟩ := h
  have hk : ∀ a : Nat, a < s.heap.size → ¬ eA (gb g) a → U.heap[a]? = s.heap[a]? := fun a _ h => hq a (Nat.not_le.mp h)
  refine ⟨a0, a1, adK, adV, e0, e1, e2, e3, (h1.kept (hq a0 h2)).moved hW.alike, h2, (h3.kept hk).moved hW.alike, (h4.kept hk).moved hW.alike, (h5.kept hk).moved hW.alike, (h6.kept hk).moved hW.alike, (h7.kept hk).moved hW.alike, fun i hi => (h8 i hi).warm hW⟩
def isNest : Cond → Bool
  | .fieldLinkNest _ _ _ _ _ _ => true
  | .methodLinkNest _ _ _ _ => true
  | _ => false
def WSn : List Cond := lw_tbl.filter isNest
theorem wsn_in {w : Cond} (i : Nat) (h : lw_tbl[i]? = some w) (hg : isNest w = true) : w ∈ WSn := List.mem_filter.mpr ⟨List.mem_of_getElem? h, hg⟩
theorem wsn_warm {s U : State} (hW : s.WarmedH U.vm) (h : ∀ w ∈ WSn, va_Nw w s) : ∀ w ∈ WSn, va_Nw w U := by
  intro w hw
  have h1 := h w hw
  have h2 := (List.mem_filter.mp hw).2
  cases w <;> first | exact va_Nw.warmF hW h1 | exact va_Nw.warmM hW h1 | (simp [isNest] at h2)
theorem wsn_use {s : State} {args : Array Value} (h : ∀ w ∈ WSn, va_Nw w s) {w : Cond} (hw : w ∈ WSn) : w.before args s = true := by
  have h1 := h w hw
  have h2 := (List.mem_filter.mp hw).2
  cases w <;> first | exact va_Nw.use rfl h1 | (simp [isNest] at h2)
def En (g : Gv) (s : State) : Prop := va_K (gD g) vwCl [(gI g, .int), (gS g, .object RX6)] s ∧ gb g ≤ s.heap.size ∧ XT g s s.heap ∧ va_AO RX6 s ∧ ∀ w ∈ WSn, va_Nw w s
theorem En.to {g : Gv} {s U : State} {H : Heap} {locs : List Loc} (hW : s.WarmedH U.vm) (h : En g s) (hS : va_S (eA (gb g)) s.heap H locs) (hH : U.heap = H) : En g U := by
  obtain ⟨h1, h2, h3, h4, h5⟩ := h
  refine ⟨va_K.moved hW.alike h1, by rw [hH]; exact Nat.le_trans h2 hS.1, XT.to (H := H) hW h3 h2 (fun q hq => hS.2.1 q (Nat.lt_of_lt_of_le hq h2) (Nat.not_le.mpr hq)) hH, h4.moved hW.alike, wsn_warm hW h5⟩
/-- methods: name, code, locals, answer, room -/
abbrev Md : Type := MethodName × ByteArray × Nat × Option FieldType × Room × (Gv → Prop)
abbrev dy (d : Md) : MethodName := d.1
abbrev dc (d : Md) : ByteArray := d.2.1
abbrev dn (d : Md) : Nat := d.2.2.1
abbrev dr (d : Md) : Option FieldType := d.2.2.2.1
abbrev dR (d : Md) : Room := d.2.2.2.2.1
abbrev dX (d : Md) : Gv → Prop := d.2.2.2.2.2
def WSg : List Cond := lw_tbl.filter goodWord
theorem wsg_in {w : Cond} (i : Nat) (h : lw_tbl[i]? = some w) (hg : goodWord w = true) : w ∈ WSg := List.mem_filter.mpr ⟨List.mem_of_getElem? h, hg⟩
theorem wsg_good {w : Cond} (h : w ∈ WSg) : (w.onTables && w.keeps) = true ∨ ∃ ty, w = .arrayClass ty := good_of_word (List.mem_filter.mp h).2
abbrev cdW (d : Md) : Cond := .code (dy d) (dc d) (dn d) (dr d)
abbrev wsM (d : Md) : List Cond := cdW d :: WSg
theorem wsM_good {d : Md} (h : cdW d ∈ WSg) : GoodIn WSg (wsM d) := by
  intro w hw
  rcases List.mem_cons.mp hw with rfl | hw
  · exact ⟨h, wsg_good h⟩
  · exact ⟨hw, wsg_good hw⟩
def Fr (d : Md) (p : Program) (s : State) (m : MethodId) (args : Array Value) (meth : Method) (c : Code) : Prop :=
  p.tables.exec = Jvm.exec ∧ c.code = dc d ∧ meth.sig.returnType = dr d ∧ c.maxLocals = dn d ∧ s.vm.findClass (dy d).cls = some m.cls ∧ (∀ w ∈ WSg, w.before args s = true) ∧ meth.locks = false ∧ meth.name = (dy d).name
/-- locals: a list by places -/
abbrev Lo : Type := List (Option V)
def lvs (g : Gv) : Nat → Lo → List (Nat × Value)
  | _, [] => []
  | i, none :: t => lvs g (i + 1) t
  | i, some v :: t => (i, cv g v) :: lvs g (i + 1) t
theorem lvs_mem {g : Gv} : ∀ (L : Lo) (i : Nat) (q : Nat × Value), q ∈ lvs g i L ↔ ∃ (j : Nat) (v : V), L[j]? = some (some v) ∧ q = (i + j, cv g v) := by
  intro L
  induction L with
  | nil => intro i q; simp [lvs]
  | cons a t ih =>
    intro i q
    cases a with
    | none =>
      simp only [lvs, ih]
      constructor
      · rintro ⟨j, v, h1, h2⟩
        exact ⟨j + 1, v, by simpa using h1, by rw [h2]; congr 1; omega⟩
      · rintro ⟨j, v, h1, h2⟩
        cases j with
        | zero => simp at h1
        | succ j => exact ⟨j, v, by simpa using h1, by rw [h2]; congr 1; omega⟩
    | some w =>
      simp only [lvs, List.mem_cons, ih]
      constructor
      · rintro (h | ⟨j, v, h1, h2⟩)
        · exact ⟨0, w, rfl, by rw [h]; rfl⟩
        · exact ⟨j + 1, v, by simpa using h1, by rw [h2]; congr 1; omega⟩
      · rintro ⟨j, v, h1, h2⟩
        cases j with
        | zero =>
          simp at h1
          subst h1
          exact Or.inl h2
        | succ j => exact Or.inr ⟨j, v, by simpa using h1, by rw [h2]; congr 1; omega⟩
abbrev lh (g : Gv) (n : Nat) (L : Lo) (ls : Array Slot) : Prop := lv_has ls n (lvs g 0 L)
theorem lh_at {g : Gv} {n : Nat} {L : Lo} {ls : Array Slot} (h : lh g n L ls) {i : Nat} {v : V} (hi : L[i]? = some (some v)) : ls[i]? = some (.val (cv g v)) :=
  h.2.2 (i, cv g v) ((lvs_mem L 0 _).mpr ⟨i, v, hi, by rw [Nat.zero_add]⟩)
theorem lh_sub {g : Gv} {n : Nat} {L L' : Lo} {ls : Array Slot} (h : lh g n L ls) (hs : ∀ (i : Nat) (v : V), L'[i]? = some (some v) → L[i]? = some (some v)) : lh g n L' ls := by
  refine ⟨h.1, h.2.1, fun q hq => ?_⟩
  obtain ⟨j, v, h1, h2⟩ := (lvs_mem L' 0 q).mp hq
  refine h.2.2 q ((lvs_mem L 0 q).mpr ⟨j, v, hs j v h1, h2⟩)
def lclr : Nat → Lo → Lo
  | 0, L => L
  | k + 1, L => match L[k]? with
    | some (some (.inr (.inl _))) => L.set k none
    | _ => L
def lset (i : Nat) (v : V) (L : Lo) : Lo := (lclr i L).set i (some v)
def lset2 (i : Nat) (v : V) (L : Lo) : Lo := ((lclr i L).set i (some v)).set (i + 1) none
theorem lclr_get {i j : Nat} {L : Lo} {v : V} (h : (lclr i L)[j]? = some (some v)) : L[j]? = some (some v) ∧ ¬ (j + 1 = i ∧ ct v = 2) := by
  cases i with
  | zero => exact ⟨h, by omega⟩
  | succ k =>
    simp only [lclr] at h
    split at h
    · rename_i z hz
      by_cases hj : k = j
      · subst hj
        have hlt := (List.getElem?_eq_some_iff.mp hz).1
        rw [List.getElem?_set_self hlt] at h
        cases h
      · rw [List.getElem?_set_ne hj] at h
        exact ⟨h, by omega⟩
    · rename_i hn
      refine ⟨h, fun ⟨h1, h2⟩ => ?_⟩
      have hj : j = k := by omega
      subst hj
      match v, h2 with
      | .inr (.inl z), _ => exact hn z h
theorem lset_mem {g : Gv} {i : Nat} {v : V} {L : Lo} {q : Nat × Value} (hq : q ∈ lvs g 0 (lset i v L)) : q ∈ ((i, cv g v) :: (lvs g 0 L).filter (fun q => !(q.1 == i) && !(q.1 + 1 == i && q.2.category == 2)) : List (Nat × Value)) := by
  obtain ⟨j, w, h1, rfl⟩ := (lvs_mem _ 0 q).mp hq
  rw [Nat.zero_add]
  by_cases hj : i = j
  · subst hj
    have hlt : i < (lclr i L).length := by
      have := (List.getElem?_eq_some_iff.mp h1).1
      simpa [lset] using this
    unfold lset at h1
    rw [List.getElem?_set_self hlt] at h1
    cases h1
    exact List.mem_cons_self
  · unfold lset at h1
    rw [List.getElem?_set_ne hj] at h1
    obtain ⟨h2, h3⟩ := lclr_get h1
    refine List.mem_cons_of_mem _ (List.mem_filter.mpr ⟨(lvs_mem L 0 _).mpr ⟨j, w, h2, by rw [Nat.zero_add]⟩, ?_⟩)
    simp only [ct_cv, Bool.and_eq_true, Bool.not_eq_true', beq_eq_false_iff_ne, ne_eq, Bool.and_eq_false_iff]
    refine ⟨fun z => hj z.symm, ?_⟩
    by_cases hz : j + 1 = i
    · exact Or.inr fun z => h3 ⟨hz, z⟩
    · exact Or.inl hz
theorem lset2_mem {g : Gv} {i : Nat} {v : V} {L : Lo} {q : Nat × Value} (hq : q ∈ lvs g 0 (lset2 i v L)) : q ∈ ((i, cv g v) :: (lvs g 0 L).filter (fun q => !(q.1 == i) && (!(q.1 == i + 1) && !(q.1 + 1 == i && q.2.category == 2))) : List (Nat × Value)) := by
  obtain ⟨j, w, h1, rfl⟩ := (lvs_mem _ 0 q).mp hq
  rw [Nat.zero_add]
  unfold lset2 at h1
  by_cases hj2 : i + 1 = j
  · subst hj2
    have hlt := (List.getElem?_eq_some_iff.mp h1).1
    rw [List.getElem?_set_self (by simpa using hlt)] at h1
    cases h1
  · rw [List.getElem?_set_ne hj2] at h1
    by_cases hj : i = j
    · subst hj
      have hlt : i < (lclr i L).length := by
        have := (List.getElem?_eq_some_iff.mp h1).1
        simpa using this
      rw [List.getElem?_set_self hlt] at h1
      cases h1
      exact List.mem_cons_self
    · rw [List.getElem?_set_ne hj] at h1
      obtain ⟨h2, h3⟩ := lclr_get h1
      refine List.mem_cons_of_mem _ (List.mem_filter.mpr ⟨(lvs_mem L 0 _).mpr ⟨j, w, h2, by rw [Nat.zero_add]⟩, ?_⟩)
      simp only [ct_cv, Bool.and_eq_true, Bool.not_eq_true', beq_eq_false_iff_ne, ne_eq, Bool.and_eq_false_iff]
      refine ⟨fun z => hj z.symm, fun z => hj2 z.symm, ?_⟩
      by_cases hz : j + 1 = i
      · exact Or.inr fun z => h3 ⟨hz, z⟩
      · exact Or.inl hz
/-- what a frame's end gives: the answer, memory, cells and slots made -/
abbrev Ps : Type := Option V → List Kd → Mm → Pm → Nat → Nat → Prop
def okR (d : Md) (z : Int) : Prop := ∃ ty, dr d = some ty ∧ narrow ty (.int (Int32.ofInt z)) = .int (Int32.ofInt z)
def ROK (d : Md) (p : Program) (l : Launch) (e : Env) (s : State) (m : MethodId) (args : Array Value) (below : List Frame) (meth : Method) (c : Code) (g : Gv) (Q : State → Prop) (Φ : Ps) : Prop :=
  ∀ (H : Heap) (locs : List Loc) (ls : Array Slot) (pc : Nat) (K : List Kd) (M : Mm) (P : Pm) (k n : Nat), HR g K M P H → va_S (eA (gb g)) s.heap H locs →
    (∀ z : Int, Φ (some (vI z)) K M P k n → okR d z → decode (dc d) pc = .ok (.ireturn, 1) → W p l e (dR d) s m args below meth c H locs k n Q (F0 m pc ls [cv g (vI z)])) ∧
    (∀ z : Int, Φ (some (vL z)) K M P k n → dr d = some .long → decode (dc d) pc = .ok (.lreturn, 1) → W p l e (dR d) s m args below meth c H locs k n Q (F0 m pc ls [cv g (vL z)])) ∧
    (∀ x : Nat, Φ (some (vX x)) K M P k n → dr d = some (.object "java/lang/String") → decode (dc d) pc = .ok (.areturn, 1) → W p l e (dR d) s m args below meth c H locs k n Q (F0 m pc ls [cv g (vX x)])) ∧
    (Φ none K M P k n → dr d = none → decode (dc d) pc = .ok (.return_, 1) → W p l e (dR d) s m args below meth c H locs k n Q (F0 m pc ls []))
def Ev (d : Md) (pc : Nat) (L : Lo) (S : List V) (K : List Kd) (M : Mm) (P : Pm) (k n : Nat) (Φ : Ps) : Prop :=
  ∀ (p : Program) (l : Launch) (e : Env) (s : State) (m : MethodId) (args : Array Value) (below : List Frame) (meth : Method) (c : Code) (g : Gv) (Q : State → Prop), Fr d p s m args meth c → En g s → dX d g → ROK d p l e s m args below meth c g Q Φ →
    ∀ (H : Heap) (locs : List Loc) (ls : Array Slot), HR g K M P H → va_S (eA (gb g)) s.heap H locs → lh g (dn d) L ls → W p l e (dR d) s m args below meth c H locs k n Q (F0 m pc ls (S.map (cv g)))
end
section
/-! ===== numbers: Int32 and Int64 by Int ===== -/
theorem i_to {z : Int} (h : inR z) : (Int32.ofInt z).toInt = z := Int32.toInt_ofInt_of_le (by omega) (by omega)
theorem i_back (x : Int32) : Int32.ofInt x.toInt = x := Int32.ofInt_toInt x
theorem i_rng (x : Int32) : inR x.toInt := by
  have h1 := Int32.le_toInt x
  have h2 := Int32.toInt_lt x
  constructor <;> omega
abbrev inL (z : Int) : Prop := -9223372036854775808 ≤ z ∧ z ≤ 9223372036854775807
theorem l_to {z : Int} (h : inL z) : (Int64.ofInt z).toInt = z := Int64.toInt_ofInt_of_le (by omega) (by omega)
theorem l_back (x : Int64) : Int64.ofInt x.toInt = x := Int64.ofInt_toInt x
theorem l_rng (x : Int64) : inL x.toInt := by
  have h1 := Int64.le_toInt x
  have h2 := Int64.toInt_lt x
  constructor <;> omega
theorem i_lt {x y : Int} (hx : inR x) (hy : inR y) : Int32.ofInt x < Int32.ofInt y ↔ x < y := by rw [Int32.lt_iff_toInt_lt, i_to hx, i_to hy]
theorem i_le {x y : Int} (hx : inR x) (hy : inR y) : Int32.ofInt x ≤ Int32.ofInt y ↔ x ≤ y := by rw [Int32.le_iff_toInt_le, i_to hx, i_to hy]
theorem i_eq {x y : Int} (hx : inR x) (hy : inR y) : Int32.ofInt x = Int32.ofInt y ↔ x = y := by rw [← Int32.toInt_inj, i_to hx, i_to hy]
theorem l_lt {x y : Int} (hx : inL x) (hy : inL y) : Int64.ofInt x < Int64.ofInt y ↔ x < y := by rw [Int64.lt_iff_toInt_lt, l_to hx, l_to hy]
theorem l_eq {x y : Int} (hx : inL x) (hy : inL y) : Int64.ofInt x = Int64.ofInt y ↔ x = y := by rw [← Int64.toInt_inj, l_to hx, l_to hy]
theorem i_add (x y : Int) : Int32.ofInt x + Int32.ofInt y = Int32.ofInt (x + y) := (Int32.ofInt_add x y).symm
theorem i_sub (x y : Int) : Int32.ofInt x - Int32.ofInt y = Int32.ofInt (x - y) := (Int32.ofInt_sub x y).symm
theorem i_mul (x y : Int) : Int32.ofInt x * Int32.ofInt y = Int32.ofInt (x * y) := (Int32.ofInt_mul x y).symm
theorem i_neg (x : Int) : -Int32.ofInt x = Int32.ofInt (-x) := (Int32.ofInt_neg x).symm
theorem l_add (x y : Int) : Int64.ofInt x + Int64.ofInt y = Int64.ofInt (x + y) := (Int64.ofInt_add x y).symm
theorem l_sub (x y : Int) : Int64.ofInt x - Int64.ofInt y = Int64.ofInt (x - y) := (Int64.ofInt_sub x y).symm
theorem l_mul (x y : Int) : Int64.ofInt x * Int64.ofInt y = Int64.ofInt (x * y) := (Int64.ofInt_mul x y).symm
theorem tdiv_rng {x y : Int} (hx : inR x) (hy : y ≠ 0) (hy1 : y ≠ -1) : inR (x.tdiv y) := by
  have h := Int.natAbs_tdiv x y
  have h2 : (x.natAbs / y.natAbs) ≤ x.natAbs := Nat.div_le_self _ _
  have h4 : (x.tdiv y).natAbs ≤ x.natAbs := by rw [h]; exact h2
  by_cases hm : x = -2147483648
  · by_cases h7 : y = 1
    · subst h7
      rw [Int.tdiv_one]
      exact hx
    · have h3 : 2 ≤ y.natAbs := by omega
      have h5 : x.natAbs / y.natAbs ≤ 2147483648 / 2 := by
        subst hm
        exact Nat.div_le_div_left h3 (by omega)
      have h6 : (x.tdiv y).natAbs ≤ 2147483648 / 2 := by rw [h]; exact h5
      omega
  · omega
theorem i_div {x y : Int} (hx : inR x) (hy : inR y) (h0 : y ≠ 0) (h1 : y ≠ -1) : Int32.ofInt x / Int32.ofInt y = Int32.ofInt (x.tdiv y) := by
  rw [← Int32.toInt_inj, Int32.toInt_div, i_to hx, i_to hy, i_to (tdiv_rng hx h0 h1)]
  have h := tdiv_rng hx h0 h1
  exact Int.bmod_eq_of_le (by omega) (by omega)
theorem i_rem {x y : Int} (hx : inR x) (hy : inR y) (h0 : y ≠ 0) (h1 : y ≠ -1) : Int32.ofInt x - Int32.ofInt x / Int32.ofInt y * Int32.ofInt y = Int32.ofInt (x.tmod y) := by
  rw [i_div hx hy h0 h1, i_mul, i_sub]
  congr 1
  have := Int.tmod_add_mul_tdiv x y
  rw [Int.mul_comm] at this
  omega
theorem tdivL_rng {x y : Int} (hx : 0 ≤ x) (hx2 : inL x) (hy : 0 < y) : inL (x.tdiv y) ∧ 0 ≤ x.tdiv y := by
  rw [Int.tdiv_eq_ediv_of_nonneg hx]
  have h1 := Int.ediv_nonneg hx (Int.le_of_lt hy)
  have h2 := Int.ediv_le_self y hx
  omega
theorem l_div {x y : Int} (h0 : 0 ≤ x) (hx : inL x) (hy : inL y) (h1 : 0 < y) : Int64.ofInt x / Int64.ofInt y = Int64.ofInt (x.tdiv y) := by
  have h := (tdivL_rng h0 hx h1).1
  rw [← Int64.toInt_inj, Int64.toInt_div, l_to hx, l_to hy, l_to h]
  exact Int.bmod_eq_of_le (by omega) (by omega)
theorem l_rem {x y : Int} (h0 : 0 ≤ x) (hx : inL x) (hy : inL y) (h1 : 0 < y) : Int64.ofInt x - Int64.ofInt x / Int64.ofInt y * Int64.ofInt y = Int64.ofInt (x.tmod y) := by
  rw [l_div h0 hx hy h1, l_mul, l_sub]
  congr 1
  have := Int.tmod_add_mul_tdiv x y
  rw [Int.mul_comm] at this
  omega
theorem i_l {z : Int} (h : inR z) : (Int32.ofInt z).toInt64 = Int64.ofInt z := by
  rw [← Int64.toInt_inj, Int32.toInt_toInt64, i_to h, l_to (by omega)]
theorem l_i (z : Int) : (Int64.ofInt z).toInt32 = Int32.ofInt z := by
  rw [← Int32.toInt_inj, Int64.toInt_toInt32, Int64.toInt_ofInt, Int32.toInt_ofInt]
  exact Int.bmod_bmod_of_dvd (by decide)
def andI (x y : Int) : Int := (Int32.ofInt x &&& Int32.ofInt y).toInt
def xorI (x y : Int) : Int := (Int32.ofInt x ^^^ Int32.ofInt y).toInt
def shrI (x y : Int) : Int := (Int32.ofInt x >>> (Int32.ofInt y &&& 31)).toInt
def shlI (x y : Int) : Int := (Int32.ofInt x <<< (Int32.ofInt y &&& 31)).toInt
def andL (x y : Int) : Int := (Int64.ofInt x &&& Int64.ofInt y).toInt
def shlL (x y : Int) : Int := (Int64.ofInt x <<< ((Int32.ofInt y).toInt64 &&& 63)).toInt
def cmpL (x y : Int) : Int := if x < y then -1 else if x = y then 0 else 1
/-! ===== one row an instruction ===== -/
section Rules1
variable {d : Md} {pc : Nat} {L : Lo} {S : List V} {K : List Kd} {M : Mm} {P : Pm} {k n : Nat} {Φ : Ps}

theorem ev_iconst {i : Int} (hd : decode (dc d) pc = .ok (.iconst i, 1)) (kk : Ev d (pc + 1) L (vI i :: S) K M P k n Φ) : Ev d pc L S K M P k n Φ := by
  intro p l e s m args below meth c g Q F E X R H locs ls hH hS hl
  exact lv_iconst F.1 F.2.1 hd rfl (kk p l e s m args below meth c g Q F E X R H locs ls hH hS hl)

theorem ev_bipush {i : Int} (hd : decode (dc d) pc = .ok (.bipush i, 2)) (kk : Ev d (pc + 2) L (vI i :: S) K M P k n Φ) (hv : (Int8.ofInt i).toInt32 = Int32.ofInt i := by decide) : Ev d pc L S K M P k n Φ := by
  intro p l e s m args below meth c g Q F E X R H locs ls hH hS hl
  exact lv_bipush F.1 F.2.1 hd hv (kk p l e s m args below meth c g Q F E X R H locs ls hH hS hl)

theorem ev_sipush {i : Int} (hd : decode (dc d) pc = .ok (.sipush i, 3)) (kk : Ev d (pc + 3) L (vI i :: S) K M P k n Φ) (hv : (Int16.ofInt i).toInt32 = Int32.ofInt i := by decide) : Ev d pc L S K M P k n Φ := by
  intro p l e s m args below meth c g Q F E X R H locs ls hH hS hl
  exact lv_sipush F.1 F.2.1 hd hv (kk p l e s m args below meth c g Q F E X R H locs ls hH hS hl)

theorem ev_lconst {i : Fin 2} {z : Int} (hd : decode (dc d) pc = .ok (.lconst i, 1)) (kk : Ev d (pc + 1) L (vL z :: S) K M P k n Φ) (hv : Int64.ofNat (i : Nat) = Int64.ofInt z := by decide) : Ev d pc L S K M P k n Φ := by
  intro p l e s m args below meth c g Q F E X R H locs ls hH hS hl
  exact lv_lconst F.1 F.2.1 hd hv (kk p l e s m args below meth c g Q F E X R H locs ls hH hS hl)

theorem ev_ldc {i : Nat} {v : Int32} {z : Int} (hd : decode (dc d) pc = .ok (.ldc i, 2)) (hw : Cond.constant (dy d).cls i v ∈ WSg) (hv : v = Int32.ofInt z) (kk : Ev d (pc + 2) L (vI z :: S) K M P k n Φ) : Ev d pc L S K M P k n Φ := by
  intro p l e s m args below meth c g Q F E X R H locs ls hH hS hl
  subst hv
  exact lv_ldc F.1 F.2.1 F.2.2.2.2.1 (F.2.2.2.2.2.1 _ hw) hd (kk p l e s m args below meth c g Q F E X R H locs ls hH hS hl)

theorem ev_ldcw {i : Nat} {v : Int32} {z : Int} (hd : decode (dc d) pc = .ok (.ldc_w i, 3)) (hw : Cond.constant (dy d).cls i v ∈ WSg) (hv : v = Int32.ofInt z) (kk : Ev d (pc + 3) L (vI z :: S) K M P k n Φ) : Ev d pc L S K M P k n Φ := by
  intro p l e s m args below meth c g Q F E X R H locs ls hH hS hl
  subst hv
  exact lv_ldcw F.1 F.2.1 F.2.2.2.2.1 (F.2.2.2.2.2.1 _ hw) hd (kk p l e s m args below meth c g Q F E X R H locs ls hH hS hl)

theorem ev_ldc2 {i : Nat} {v : Int64} {z : Int} (hd : decode (dc d) pc = .ok (.ldc2_w i, 3)) (hw : Cond.constantLong (dy d).cls i v ∈ WSg) (hv : v = Int64.ofInt z) (kk : Ev d (pc + 3) L (vL z :: S) K M P k n Φ) : Ev d pc L S K M P k n Φ := by
  intro p l e s m args below meth c g Q F E X R H locs ls hH hS hl
  subst hv
  exact lv_ldc2 F.1 F.2.1 F.2.2.2.2.1 (F.2.2.2.2.2.1 _ hw) hd (kk p l e s m args below meth c g Q F E X R H locs ls hH hS hl)

theorem ev_iload_n {j : Fin 4} {z : Int} (hd : decode (dc d) pc = .ok (.iload_n j, 1)) (hi : L[(j : Nat)]? = some (some (vI z))) (kk : Ev d (pc + 1) L (vI z :: S) K M P k n Φ) : Ev d pc L S K M P k n Φ := by
  intro p l e s m args below meth c g Q F E X R H locs ls hH hS hl
  exact lv_iload_n F.1 F.2.1 hd rfl (lh_at hl hi) (kk p l e s m args below meth c g Q F E X R H locs ls hH hS hl)

theorem ev_iload {j : Nat} {z : Int} (hd : decode (dc d) pc = .ok (.iload j, 2)) (hi : L[j]? = some (some (vI z))) (kk : Ev d (pc + 2) L (vI z :: S) K M P k n Φ) : Ev d pc L S K M P k n Φ := by
  intro p l e s m args below meth c g Q F E X R H locs ls hH hS hl
  exact lv_iload F.1 F.2.1 hd (lh_at hl hi) (kk p l e s m args below meth c g Q F E X R H locs ls hH hS hl)

theorem ev_lload_n {j : Fin 4} {z : Int} (hd : decode (dc d) pc = .ok (.lload_n j, 1)) (hi : L[(j : Nat)]? = some (some (vL z))) (kk : Ev d (pc + 1) L (vL z :: S) K M P k n Φ) : Ev d pc L S K M P k n Φ := by
  intro p l e s m args below meth c g Q F E X R H locs ls hH hS hl
  exact lv_lload_n F.1 F.2.1 hd rfl (lh_at hl hi) (kk p l e s m args below meth c g Q F E X R H locs ls hH hS hl)

theorem ev_lload {j : Nat} {z : Int} (hd : decode (dc d) pc = .ok (.lload j, 2)) (hi : L[j]? = some (some (vL z))) (kk : Ev d (pc + 2) L (vL z :: S) K M P k n Φ) : Ev d pc L S K M P k n Φ := by
  intro p l e s m args below meth c g Q F E X R H locs ls hH hS hl
  exact lv_lload F.1 F.2.1 hd (lh_at hl hi) (kk p l e s m args below meth c g Q F E X R H locs ls hH hS hl)

theorem ev_aload_n {j : Fin 4} {x : Nat} (hd : decode (dc d) pc = .ok (.aload_n j, 1)) (hi : L[(j : Nat)]? = some (some (vR x))) (kk : Ev d (pc + 1) L (vR x :: S) K M P k n Φ) : Ev d pc L S K M P k n Φ := by
  intro p l e s m args below meth c g Q F E X R H locs ls hH hS hl
  exact lv_aload_n F.1 F.2.1 hd rfl (lh_at hl hi) (kk p l e s m args below meth c g Q F E X R H locs ls hH hS hl)

theorem ev_aload {j : Nat} {x : Nat} (hd : decode (dc d) pc = .ok (.aload j, 2)) (hi : L[j]? = some (some (vR x))) (kk : Ev d (pc + 2) L (vR x :: S) K M P k n Φ) : Ev d pc L S K M P k n Φ := by
  intro p l e s m args below meth c g Q F E X R H locs ls hH hS hl
  exact lv_aload F.1 F.2.1 hd (lh_at hl hi) (kk p l e s m args below meth c g Q F E X R H locs ls hH hS hl)

theorem ev_aloadX_n {j : Fin 4} {x : Nat} (hd : decode (dc d) pc = .ok (.aload_n j, 1)) (hi : L[(j : Nat)]? = some (some (vX x))) (kk : Ev d (pc + 1) L (vX x :: S) K M P k n Φ) : Ev d pc L S K M P k n Φ := by
  intro p l e s m args below meth c g Q F E X R H locs ls hH hS hl
  have h1 := lh_at hl hi
  have h2 := kk p l e s m args below meth c g Q F E X R H locs ls hH hS hl
  simp only [List.map_cons, cv] at h1 h2
  cases hg : gx g x with
  | none => rw [hg] at h1 h2; exact lv_aload_nN F.1 F.2.1 hd rfl h1 h2
  | some a => rw [hg] at h1 h2; exact lv_aload_n F.1 F.2.1 hd rfl h1 h2

theorem ev_aloadX {j : Nat} {x : Nat} (hd : decode (dc d) pc = .ok (.aload j, 2)) (hi : L[j]? = some (some (vX x))) (kk : Ev d (pc + 2) L (vX x :: S) K M P k n Φ) : Ev d pc L S K M P k n Φ := by
  intro p l e s m args below meth c g Q F E X R H locs ls hH hS hl
  have h1 := lh_at hl hi
  have h2 := kk p l e s m args below meth c g Q F E X R H locs ls hH hS hl
  simp only [List.map_cons, cv] at h1 h2
  cases hg : gx g x with
  | none => rw [hg] at h1 h2; exact lv_aloadN F.1 F.2.1 hd h1 h2
  | some a => rw [hg] at h1 h2; exact lv_aload F.1 F.2.1 hd h1 h2

theorem ev_istore_n {j : Fin 4} {z : Int} (hd : decode (dc d) pc = .ok (.istore_n j, 1)) (hn : (j : Nat) < dn d) (kk : Ev d (pc + 1) (lset (j : Nat) (vI z) L) S K M P k n Φ) : Ev d pc L (vI z :: S) K M P k n Φ := by
  intro p l e s m args below meth c g Q F E X R H locs ls hH hS hl
  exact lv_istore_n F.1 F.2.1 hd rfl hl hn rfl (fun ls' h' => (kk p l e s m args below meth c g Q F E X R H locs ls' hH hS ⟨h'.1, h'.2.1, fun q hq => h'.2.2 q (lset_mem hq)⟩))

theorem ev_istore {j : Nat} {z : Int} (hd : decode (dc d) pc = .ok (.istore j, 2)) (hn : j < dn d) (kk : Ev d (pc + 2) (lset j (vI z) L) S K M P k n Φ) : Ev d pc L (vI z :: S) K M P k n Φ := by
  intro p l e s m args below meth c g Q F E X R H locs ls hH hS hl
  exact lv_istore F.1 F.2.1 hd hl hn rfl (fun ls' h' => (kk p l e s m args below meth c g Q F E X R H locs ls' hH hS ⟨h'.1, h'.2.1, fun q hq => h'.2.2 q (lset_mem hq)⟩))

theorem ev_astore_n {j : Fin 4} {x : Nat} (hd : decode (dc d) pc = .ok (.astore_n j, 1)) (hn : (j : Nat) < dn d) (kk : Ev d (pc + 1) (lset (j : Nat) (vR x) L) S K M P k n Φ) : Ev d pc L (vR x :: S) K M P k n Φ := by
  intro p l e s m args below meth c g Q F E X R H locs ls hH hS hl
  exact lv_astore_n F.1 F.2.1 hd rfl hl hn rfl (fun ls' h' => (kk p l e s m args below meth c g Q F E X R H locs ls' hH hS ⟨h'.1, h'.2.1, fun q hq => h'.2.2 q (lset_mem hq)⟩))

theorem ev_astore {j : Nat} {x : Nat} (hd : decode (dc d) pc = .ok (.astore j, 2)) (hn : j < dn d) (kk : Ev d (pc + 2) (lset j (vR x) L) S K M P k n Φ) : Ev d pc L (vR x :: S) K M P k n Φ := by
  intro p l e s m args below meth c g Q F E X R H locs ls hH hS hl
  exact lv_astore F.1 F.2.1 hd hl hn rfl (fun ls' h' => (kk p l e s m args below meth c g Q F E X R H locs ls' hH hS ⟨h'.1, h'.2.1, fun q hq => h'.2.2 q (lset_mem hq)⟩))

theorem ev_lstore_n {j : Fin 4} {z : Int} (hd : decode (dc d) pc = .ok (.lstore_n j, 1)) (hn : (j : Nat) + 1 < dn d) (kk : Ev d (pc + 1) (lset2 (j : Nat) (vL z) L) S K M P k n Φ) : Ev d pc L (vL z :: S) K M P k n Φ := by
  intro p l e s m args below meth c g Q F E X R H locs ls hH hS hl
  exact lv_lstore_n F.1 F.2.1 hd rfl hl hn rfl (fun ls' h' => (kk p l e s m args below meth c g Q F E X R H locs ls' hH hS ⟨h'.1, h'.2.1, fun q hq => h'.2.2 q (lset2_mem hq)⟩))

theorem ev_lstore {j : Nat} {z : Int} (hd : decode (dc d) pc = .ok (.lstore j, 2)) (hn : j + 1 < dn d) (kk : Ev d (pc + 2) (lset2 j (vL z) L) S K M P k n Φ) : Ev d pc L (vL z :: S) K M P k n Φ := by
  intro p l e s m args below meth c g Q F E X R H locs ls hH hS hl
  exact lv_lstore F.1 F.2.1 hd hl hn rfl (fun ls' h' => (kk p l e s m args below meth c g Q F E X R H locs ls' hH hS ⟨h'.1, h'.2.1, fun q hq => h'.2.2 q (lset2_mem hq)⟩))

theorem ev_astoreX {j : Nat} {x : Nat} (hd : decode (dc d) pc = .ok (.astore_n ⟨j % 4, by omega⟩, 1)) (hj : j < 4) (hn : j < dn d) (kk : Ev d (pc + 1) (lset j (vX x) L) S K M P k n Φ) : Ev d pc L (vX x :: S) K M P k n Φ := by
  intro p l e s m args below meth c g Q F E X R H locs ls hH hS hl
  have hj' : ((⟨j % 4, by omega⟩ : Fin 4) : Nat) = j := Nat.mod_eq_of_lt hj
  show W p l e (dR d) s m args below meth c H locs k n Q (F0 m pc ls (va_rf (gx g x) :: S.map (cv g)))
  cases hg : gx g x with
  | none => exact lv_astore_nN F.1 F.2.1 hd hj' hl hn rfl (fun ls' h' => (kk p l e s m args below meth c g Q F E X R H locs ls' hH hS ⟨h'.1, h'.2.1, fun q hq => h'.2.2 q (by have := lset_mem hq; simpa only [cv, hg, va_rf] using this)⟩))
  | some a => exact lv_astore_n F.1 F.2.1 hd hj' hl hn rfl (fun ls' h' => (kk p l e s m args below meth c g Q F E X R H locs ls' hH hS ⟨h'.1, h'.2.1, fun q hq => h'.2.2 q (by have := lset_mem hq; simpa only [cv, hg, va_rf] using this)⟩))

theorem lvs_idx {g : Gv} {L : Lo} {i : Nat} {v : V} (h : L[i]? = some (some v)) : ∃ k : Nat, (lvs g 0 L)[k]? = some (i, cv g v) := by
  have := (lvs_mem (g := g) L 0 (i, cv g v)).mpr ⟨i, v, h, by rw [Nat.zero_add]⟩
  exact List.mem_iff_getElem?.mp this

theorem ev_iinc {j : Nat} {i z : Int} (hd : decode (dc d) pc = .ok (.iinc j i, 3)) (hi : L[j]? = some (some (vI z))) (hn : j < dn d) (kk : Ev d (pc + 3) (lset j (vI (z + i)) L) S K M P k n Φ) : Ev d pc L S K M P k n Φ := by
  intro p l e s m args below meth c g Q F E X R H locs ls hH hS hl
  obtain ⟨q, hq⟩ := lvs_idx (g := g) hi
  exact lv_iinc F.1 F.2.1 hd hl hq (i_add z i) hn rfl (fun ls' h' => (kk p l e s m args below meth c g Q F E X R H locs ls' hH hS ⟨h'.1, h'.2.1, fun q hq => h'.2.2 q (lset_mem hq)⟩))

theorem ev_iincW {j : Nat} {i z : Int} (hd : decode (dc d) pc = .ok (.iinc j i, 6)) (hi : L[j]? = some (some (vI z))) (hn : j < dn d) (kk : Ev d (pc + 6) (lset j (vI (z + i)) L) S K M P k n Φ) : Ev d pc L S K M P k n Φ := by
  intro p l e s m args below meth c g Q F E X R H locs ls hH hS hl
  obtain ⟨q, hq⟩ := lvs_idx (g := g) hi
  exact lv_iincW F.1 F.2.1 hd hl hq (i_add z i) hn rfl (fun ls' h' => (kk p l e s m args below meth c g Q F E X R H locs ls' hH hS ⟨h'.1, h'.2.1, fun q hq => h'.2.2 q (lset_mem hq)⟩))

theorem ev_iadd {x y : Int} (hd : decode (dc d) pc = .ok (.iadd, 1)) (kk : Ev d (pc + 1) L (vI (x + y) :: S) K M P k n Φ) : Ev d pc L (vI y :: vI x :: S) K M P k n Φ := by
  intro p l e s m args below meth c g Q F E X R H locs ls hH hS hl
  refine lv_iadd F.1 F.2.1 hd ?_
  rw [i_add]
  exact kk p l e s m args below meth c g Q F E X R H locs ls hH hS hl

theorem ev_isub {x y : Int} (hd : decode (dc d) pc = .ok (.isub, 1)) (kk : Ev d (pc + 1) L (vI (x - y) :: S) K M P k n Φ) : Ev d pc L (vI y :: vI x :: S) K M P k n Φ := by
  intro p l e s m args below meth c g Q F E X R H locs ls hH hS hl
  refine lv_isub F.1 F.2.1 hd ?_
  rw [i_sub]
  exact kk p l e s m args below meth c g Q F E X R H locs ls hH hS hl

theorem ev_imul {x y : Int} (hd : decode (dc d) pc = .ok (.imul, 1)) (kk : Ev d (pc + 1) L (vI (x * y) :: S) K M P k n Φ) : Ev d pc L (vI y :: vI x :: S) K M P k n Φ := by
  intro p l e s m args below meth c g Q F E X R H locs ls hH hS hl
  refine lv_imul F.1 F.2.1 hd ?_
  rw [i_mul]
  exact kk p l e s m args below meth c g Q F E X R H locs ls hH hS hl

theorem ev_ladd {x y : Int} (hd : decode (dc d) pc = .ok (.ladd, 1)) (kk : Ev d (pc + 1) L (vL (x + y) :: S) K M P k n Φ) : Ev d pc L (vL y :: vL x :: S) K M P k n Φ := by
  intro p l e s m args below meth c g Q F E X R H locs ls hH hS hl
  refine lv_ladd F.1 F.2.1 hd ?_
  rw [l_add]
  exact kk p l e s m args below meth c g Q F E X R H locs ls hH hS hl

theorem ev_lsub {x y : Int} (hd : decode (dc d) pc = .ok (.lsub, 1)) (kk : Ev d (pc + 1) L (vL (x - y) :: S) K M P k n Φ) : Ev d pc L (vL y :: vL x :: S) K M P k n Φ := by
  intro p l e s m args below meth c g Q F E X R H locs ls hH hS hl
  refine lv_lsub F.1 F.2.1 hd ?_
  rw [l_sub]
  exact kk p l e s m args below meth c g Q F E X R H locs ls hH hS hl

theorem ev_lmul {x y : Int} (hd : decode (dc d) pc = .ok (.lmul, 1)) (kk : Ev d (pc + 1) L (vL (x * y) :: S) K M P k n Φ) : Ev d pc L (vL y :: vL x :: S) K M P k n Φ := by
  intro p l e s m args below meth c g Q F E X R H locs ls hH hS hl
  refine lv_lmul F.1 F.2.1 hd ?_
  rw [l_mul]
  exact kk p l e s m args below meth c g Q F E X R H locs ls hH hS hl

theorem ev_ineg {x : Int} (hd : decode (dc d) pc = .ok (.ineg, 1)) (kk : Ev d (pc + 1) L (vI (-x) :: S) K M P k n Φ) : Ev d pc L (vI x :: S) K M P k n Φ := by
  intro p l e s m args below meth c g Q F E X R H locs ls hH hS hl
  refine lv_ineg F.1 F.2.1 hd ?_
  rw [i_neg]
  exact kk p l e s m args below meth c g Q F E X R H locs ls hH hS hl

theorem ev_idiv {x y : Int} (hd : decode (dc d) pc = .ok (.idiv, 1)) (hx : inR x) (hy : inR y) (h0 : y ≠ 0) (h1 : y ≠ -1) (kk : Ev d (pc + 1) L (vI (x.tdiv y) :: S) K M P k n Φ) : Ev d pc L (vI y :: vI x :: S) K M P k n Φ := by
  intro p l e s m args below meth c g Q F E X R H locs ls hH hS hl
  refine lv_idiv F.1 F.2.1 hd (fun z => h0 ((i_eq hy (by omega)).mp z)) ?_
  rw [i_div hx hy h0 h1]
  exact kk p l e s m args below meth c g Q F E X R H locs ls hH hS hl

theorem ev_irem {x y : Int} (hd : decode (dc d) pc = .ok (.irem, 1)) (hx : inR x) (hy : inR y) (h0 : y ≠ 0) (h1 : y ≠ -1) (kk : Ev d (pc + 1) L (vI (x.tmod y) :: S) K M P k n Φ) : Ev d pc L (vI y :: vI x :: S) K M P k n Φ := by
  intro p l e s m args below meth c g Q F E X R H locs ls hH hS hl
  refine lv_irem F.1 F.2.1 hd (fun z => h0 ((i_eq hy (by omega)).mp z)) ?_
  rw [i_rem hx hy h0 h1]
  exact kk p l e s m args below meth c g Q F E X R H locs ls hH hS hl

theorem ev_ldiv {x y : Int} (hd : decode (dc d) pc = .ok (.ldiv, 1)) (hx0 : 0 ≤ x) (hx : inL x) (hy : inL y) (h1 : 0 < y) (kk : Ev d (pc + 1) L (vL (x.tdiv y) :: S) K M P k n Φ) : Ev d pc L (vL y :: vL x :: S) K M P k n Φ := by
  intro p l e s m args below meth c g Q F E X R H locs ls hH hS hl
  refine lv_ldiv F.1 F.2.1 hd (fun z => (Int.ne_of_gt h1) ((l_eq hy (by omega)).mp z)) ?_
  rw [l_div hx0 hx hy h1]
  exact kk p l e s m args below meth c g Q F E X R H locs ls hH hS hl

theorem ev_lrem {x y : Int} (hd : decode (dc d) pc = .ok (.lrem, 1)) (hx0 : 0 ≤ x) (hx : inL x) (hy : inL y) (h1 : 0 < y) (kk : Ev d (pc + 1) L (vL (x.tmod y) :: S) K M P k n Φ) : Ev d pc L (vL y :: vL x :: S) K M P k n Φ := by
  intro p l e s m args below meth c g Q F E X R H locs ls hH hS hl
  refine lv_lrem F.1 F.2.1 hd (fun z => (Int.ne_of_gt h1) ((l_eq hy (by omega)).mp z)) ?_
  rw [l_rem hx0 hx hy h1]
  exact kk p l e s m args below meth c g Q F E X R H locs ls hH hS hl

theorem ev_iand {x y : Int} (hd : decode (dc d) pc = .ok (.iand, 1)) (kk : Ev d (pc + 1) L (vI (andI x y) :: S) K M P k n Φ) : Ev d pc L (vI y :: vI x :: S) K M P k n Φ := by
  intro p l e s m args below meth c g Q F E X R H locs ls hH hS hl
  refine lv_iand F.1 F.2.1 hd ?_
  have h := kk p l e s m args below meth c g Q F E X R H locs ls hH hS hl
  simp only [List.map_cons, cv, andI, i_back] at h
  exact h

theorem ev_ixor {x y : Int} (hd : decode (dc d) pc = .ok (.ixor, 1)) (kk : Ev d (pc + 1) L (vI (xorI x y) :: S) K M P k n Φ) : Ev d pc L (vI y :: vI x :: S) K M P k n Φ := by
  intro p l e s m args below meth c g Q F E X R H locs ls hH hS hl
  refine lv_ixor F.1 F.2.1 hd ?_
  have h := kk p l e s m args below meth c g Q F E X R H locs ls hH hS hl
  simp only [List.map_cons, cv, xorI, i_back] at h
  exact h

theorem ev_ishr {x y : Int} (hd : decode (dc d) pc = .ok (.ishr, 1)) (kk : Ev d (pc + 1) L (vI (shrI x y) :: S) K M P k n Φ) : Ev d pc L (vI y :: vI x :: S) K M P k n Φ := by
  intro p l e s m args below meth c g Q F E X R H locs ls hH hS hl
  refine lv_ishr F.1 F.2.1 hd ?_
  have h := kk p l e s m args below meth c g Q F E X R H locs ls hH hS hl
  simp only [List.map_cons, cv, shrI, i_back] at h
  exact h

theorem ev_ishl {x y : Int} (hd : decode (dc d) pc = .ok (.ishl, 1)) (kk : Ev d (pc + 1) L (vI (shlI x y) :: S) K M P k n Φ) : Ev d pc L (vI y :: vI x :: S) K M P k n Φ := by
  intro p l e s m args below meth c g Q F E X R H locs ls hH hS hl
  refine lv_ishl F.1 F.2.1 hd ?_
  have h := kk p l e s m args below meth c g Q F E X R H locs ls hH hS hl
  simp only [List.map_cons, cv, shlI, i_back] at h
  exact h

theorem ev_land {x y : Int} (hd : decode (dc d) pc = .ok (.land, 1)) (kk : Ev d (pc + 1) L (vL (andL x y) :: S) K M P k n Φ) : Ev d pc L (vL y :: vL x :: S) K M P k n Φ := by
  intro p l e s m args below meth c g Q F E X R H locs ls hH hS hl
  refine lv_land F.1 F.2.1 hd ?_
  have h := kk p l e s m args below meth c g Q F E X R H locs ls hH hS hl
  simp only [List.map_cons, cv, andL, l_back] at h
  exact h

theorem ev_lshl {x y : Int} (hd : decode (dc d) pc = .ok (.lshl, 1)) (kk : Ev d (pc + 1) L (vL (shlL x y) :: S) K M P k n Φ) : Ev d pc L (vI y :: vL x :: S) K M P k n Φ := by
  intro p l e s m args below meth c g Q F E X R H locs ls hH hS hl
  refine lv_lshl F.1 F.2.1 hd rfl ?_
  have h := kk p l e s m args below meth c g Q F E X R H locs ls hH hS hl
  simp only [List.map_cons, cv, shlL, l_back] at h
  exact h

theorem ev_i2l {x : Int} (hd : decode (dc d) pc = .ok (.i2l, 1)) (hx : inR x) (kk : Ev d (pc + 1) L (vL x :: S) K M P k n Φ) : Ev d pc L (vI x :: S) K M P k n Φ := by
  intro p l e s m args below meth c g Q F E X R H locs ls hH hS hl
  exact lv_i2l F.1 F.2.1 hd (i_l hx) (kk p l e s m args below meth c g Q F E X R H locs ls hH hS hl)

theorem ev_l2i {x : Int} (hd : decode (dc d) pc = .ok (.l2i, 1)) (kk : Ev d (pc + 1) L (vI x :: S) K M P k n Φ) : Ev d pc L (vL x :: S) K M P k n Φ := by
  intro p l e s m args below meth c g Q F E X R H locs ls hH hS hl
  exact lv_l2i F.1 F.2.1 hd (l_i x) (kk p l e s m args below meth c g Q F E X R H locs ls hH hS hl)

theorem ev_i2c {x : Int} (hd : decode (dc d) pc = .ok (.i2c, 1)) (hx : 0 ≤ x) (hx2 : x < 65536) (kk : Ev d (pc + 1) L (vI x :: S) K M P k n Φ) : Ev d pc L (vI x :: S) K M P k n Φ := by
  intro p l e s m args below meth c g Q F E X R H locs ls hH hS hl
  have hz : ((Int32.ofInt x).toUInt32 % 65536).toInt32 = Int32.ofInt x := by
    have h1 : Int32.ofInt x = nI x.toNat := by
      rw [nI, ← Int32.toInt_inj, i_to (by omega)]
      have := nI_toInt (n := x.toNat) (by omega)
      rw [nI] at this
      rw [this]; omega
    rw [h1, pk_char, pk_tn (by omega), Nat.mod_eq_of_lt (by omega)]
  exact lv_i2c F.1 F.2.1 hd hz (kk p l e s m args below meth c g Q F E X R H locs ls hH hS hl)

theorem ev_lcmp {x y : Int} (hd : decode (dc d) pc = .ok (.lcmp, 1)) (hx : inL x) (hy : inL y) (kk : Ev d (pc + 1) L (vI (cmpL x y) :: S) K M P k n Φ) : Ev d pc L (vL y :: vL x :: S) K M P k n Φ := by
  intro p l e s m args below meth c g Q F E X R H locs ls hH hS hl
  refine W.lcmp F.1 F.2.1 hd ?_
  have h := kk p l e s m args below meth c g Q F E X R H locs ls hH hS hl
  have hz : lg_cmp (Int64.ofInt x) (Int64.ofInt y) = Int32.ofInt (cmpL x y) := by
    simp only [lg_cmp, cmpL, l_lt hx hy, l_lt hy hx, l_eq hx hy, l_eq hy hx]
    split <;> (try split) <;> (try split) <;> first | rfl | omega
  rw [hz]
  exact h

theorem ev_dup {v : V} (hd : decode (dc d) pc = .ok (.dup, 1)) (kk : Ev d (pc + 1) L (v :: v :: S) K M P k n Φ) (hv : ct v = 1 := by rfl) : Ev d pc L (v :: S) K M P k n Φ := by
  intro p l e s m args below meth c g Q F E X R H locs ls hH hS hl
  exact lv_dup F.1 F.2.1 hd (by rw [ct_cv]; exact hv) (kk p l e s m args below meth c g Q F E X R H locs ls hH hS hl)

theorem ev_pop {v : V} (hd : decode (dc d) pc = .ok (.pop, 1)) (kk : Ev d (pc + 1) L S K M P k n Φ) (hv : ct v = 1 := by rfl) : Ev d pc L (v :: S) K M P k n Φ := by
  intro p l e s m args below meth c g Q F E X R H locs ls hH hS hl
  exact lv_pop F.1 F.2.1 hd (by rw [ct_cv]; exact hv) (kk p l e s m args below meth c g Q F E X R H locs ls hH hS hl)

theorem ev_dup2 {v u : V} (hd : decode (dc d) pc = .ok (.dup2, 1)) (kk : Ev d (pc + 1) L (v :: u :: v :: u :: S) K M P k n Φ) (hv : ct v = 1 := by rfl) (hu : ct u = 1 := by rfl) : Ev d pc L (v :: u :: S) K M P k n Φ := by
  intro p l e s m args below meth c g Q F E X R H locs ls hH hS hl
  exact lv_dup2_11 F.1 F.2.1 hd (by rw [ct_cv]; exact hv) (by rw [ct_cv]; exact hu) (kk p l e s m args below meth c g Q F E X R H locs ls hH hS hl)

theorem ev_dup_x1 {v u : V} (hd : decode (dc d) pc = .ok (.dup_x1, 1)) (kk : Ev d (pc + 1) L (v :: u :: v :: S) K M P k n Φ) (hv : ct v = 1 := by rfl) (hu : ct u = 1 := by rfl) : Ev d pc L (v :: u :: S) K M P k n Φ := by
  intro p l e s m args below meth c g Q F E X R H locs ls hH hS hl
  exact lv_dup_x1 F.1 F.2.1 hd (by rw [ct_cv]; exact hv) (by rw [ct_cv]; exact hu) (kk p l e s m args below meth c g Q F E X R H locs ls hH hS hl)

theorem ev_goto {off : Int} {tgt : Nat} (hd : decode (dc d) pc = .ok (.goto off, 3)) (ht : (pc : Int) + off = (tgt : Int)) (kk : Ev d tgt L S K M P k n Φ) : Ev d pc L S K M P k n Φ := by
  intro p l e s m args below meth c g Q F E X R H locs ls hH hS hl
  exact lv_goto F.1 F.2.1 hd ht (kk p l e s m args below meth c g Q F E X R H locs ls hH hS hl)

theorem ev_icmp_eq {x y : Int} {off : Int} {tgt : Nat} (hd : decode (dc d) pc = .ok (.if_icmp .eq off, 3)) (ht : (pc : Int) + off = (tgt : Int)) (hx : inR x) (hy : inR y) (kt : x = y → Ev d tgt L S K M P k n Φ) (kf : x ≠ y → Ev d (pc + 3) L S K M P k n Φ) : Ev d pc L (vI y :: vI x :: S) K M P k n Φ := by
  intro p l e s m args below meth c g Q F E X R H locs ls hH hS hl
  exact lv_icmp_eq F.1 F.2.1 hd ht (fun h => kt ((i_eq hx hy).mp h) p l e s m args below meth c g Q F E X R H locs ls hH hS hl) (fun h => kf (by have h2 : ¬ (x = y) := fun z => h ((i_eq hx hy).mpr z); omega) p l e s m args below meth c g Q F E X R H locs ls hH hS hl)

theorem ev_icmp_lt {x y : Int} {off : Int} {tgt : Nat} (hd : decode (dc d) pc = .ok (.if_icmp .lt off, 3)) (ht : (pc : Int) + off = (tgt : Int)) (hx : inR x) (hy : inR y) (kt : x < y → Ev d tgt L S K M P k n Φ) (kf : y ≤ x → Ev d (pc + 3) L S K M P k n Φ) : Ev d pc L (vI y :: vI x :: S) K M P k n Φ := by
  intro p l e s m args below meth c g Q F E X R H locs ls hH hS hl
  exact lv_icmp_lt F.1 F.2.1 hd ht (fun h => kt ((i_lt hx hy).mp h) p l e s m args below meth c g Q F E X R H locs ls hH hS hl) (fun h => kf (by have h2 : ¬ (x < y) := fun z => h ((i_lt hx hy).mpr z); omega) p l e s m args below meth c g Q F E X R H locs ls hH hS hl)

theorem ev_icmp_ge {x y : Int} {off : Int} {tgt : Nat} (hd : decode (dc d) pc = .ok (.if_icmp .ge off, 3)) (ht : (pc : Int) + off = (tgt : Int)) (hx : inR x) (hy : inR y) (kt : y ≤ x → Ev d tgt L S K M P k n Φ) (kf : x < y → Ev d (pc + 3) L S K M P k n Φ) : Ev d pc L (vI y :: vI x :: S) K M P k n Φ := by
  intro p l e s m args below meth c g Q F E X R H locs ls hH hS hl
  exact lv_icmp_ge F.1 F.2.1 hd ht (fun h => kt ((i_le hy hx).mp h) p l e s m args below meth c g Q F E X R H locs ls hH hS hl) (fun h => kf (by have h2 : ¬ (y ≤ x) := fun z => h ((i_le hy hx).mpr z); omega) p l e s m args below meth c g Q F E X R H locs ls hH hS hl)

theorem ev_icmp_gt {x y : Int} {off : Int} {tgt : Nat} (hd : decode (dc d) pc = .ok (.if_icmp .gt off, 3)) (ht : (pc : Int) + off = (tgt : Int)) (hx : inR x) (hy : inR y) (kt : y < x → Ev d tgt L S K M P k n Φ) (kf : x ≤ y → Ev d (pc + 3) L S K M P k n Φ) : Ev d pc L (vI y :: vI x :: S) K M P k n Φ := by
  intro p l e s m args below meth c g Q F E X R H locs ls hH hS hl
  exact lv_icmp_gt F.1 F.2.1 hd ht (fun h => kt ((i_lt hy hx).mp h) p l e s m args below meth c g Q F E X R H locs ls hH hS hl) (fun h => kf (by have h2 : ¬ (y < x) := fun z => h ((i_lt hy hx).mpr z); omega) p l e s m args below meth c g Q F E X R H locs ls hH hS hl)

theorem ev_icmp_le {x y : Int} {off : Int} {tgt : Nat} (hd : decode (dc d) pc = .ok (.if_icmp .le off, 3)) (ht : (pc : Int) + off = (tgt : Int)) (hx : inR x) (hy : inR y) (kt : x ≤ y → Ev d tgt L S K M P k n Φ) (kf : y < x → Ev d (pc + 3) L S K M P k n Φ) : Ev d pc L (vI y :: vI x :: S) K M P k n Φ := by
  intro p l e s m args below meth c g Q F E X R H locs ls hH hS hl
  exact lv_icmp_le F.1 F.2.1 hd ht (fun h => kt ((i_le hx hy).mp h) p l e s m args below meth c g Q F E X R H locs ls hH hS hl) (fun h => kf (by have h2 : ¬ (x ≤ y) := fun z => h ((i_le hx hy).mpr z); omega) p l e s m args below meth c g Q F E X R H locs ls hH hS hl)

theorem ev_icmp_ne {x y : Int} {off : Int} {tgt : Nat} (hd : decode (dc d) pc = .ok (.if_icmp .ne off, 3)) (ht : (pc : Int) + off = (tgt : Int)) (hx : inR x) (hy : inR y) (kt : x ≠ y → Ev d tgt L S K M P k n Φ) (kf : x = y → Ev d (pc + 3) L S K M P k n Φ) : Ev d pc L (vI y :: vI x :: S) K M P k n Φ := by
  intro p l e s m args below meth c g Q F E X R H locs ls hH hS hl
  exact lv_icmp_ne F.1 F.2.1 hd ht (fun h => kt (fun z => h ((i_eq hx hy).mpr z)) p l e s m args below meth c g Q F E X R H locs ls hH hS hl) (fun h => kf ((i_eq hx hy).mp h) p l e s m args below meth c g Q F E X R H locs ls hH hS hl)

theorem ev_if_eq {x : Int} {off : Int} {tgt : Nat} (hd : decode (dc d) pc = .ok (.ifCond .eq off, 3)) (ht : (pc : Int) + off = (tgt : Int)) (hx : inR x) (kt : x = 0 → Ev d tgt L S K M P k n Φ) (kf : x ≠ 0 → Ev d (pc + 3) L S K M P k n Φ) : Ev d pc L (vI x :: S) K M P k n Φ := by
  intro p l e s m args below meth c g Q F E X R H locs ls hH hS hl
  have hy : inR 0 := by omega
  exact lv_if_eq F.1 F.2.1 hd ht (fun h => kt ((i_eq hx hy).mp h) p l e s m args below meth c g Q F E X R H locs ls hH hS hl) (fun h => kf (by have h2 : ¬ (x = 0) := fun z => h ((i_eq hx hy).mpr z); omega) p l e s m args below meth c g Q F E X R H locs ls hH hS hl)

theorem ev_if_lt {x : Int} {off : Int} {tgt : Nat} (hd : decode (dc d) pc = .ok (.ifCond .lt off, 3)) (ht : (pc : Int) + off = (tgt : Int)) (hx : inR x) (kt : x < 0 → Ev d tgt L S K M P k n Φ) (kf : 0 ≤ x → Ev d (pc + 3) L S K M P k n Φ) : Ev d pc L (vI x :: S) K M P k n Φ := by
  intro p l e s m args below meth c g Q F E X R H locs ls hH hS hl
  have hy : inR 0 := by omega
  exact lv_if_lt F.1 F.2.1 hd ht (fun h => kt ((i_lt hx hy).mp h) p l e s m args below meth c g Q F E X R H locs ls hH hS hl) (fun h => kf (by have h2 : ¬ (x < 0) := fun z => h ((i_lt hx hy).mpr z); omega) p l e s m args below meth c g Q F E X R H locs ls hH hS hl)

theorem ev_if_ge {x : Int} {off : Int} {tgt : Nat} (hd : decode (dc d) pc = .ok (.ifCond .ge off, 3)) (ht : (pc : Int) + off = (tgt : Int)) (hx : inR x) (kt : 0 ≤ x → Ev d tgt L S K M P k n Φ) (kf : x < 0 → Ev d (pc + 3) L S K M P k n Φ) : Ev d pc L (vI x :: S) K M P k n Φ := by
  intro p l e s m args below meth c g Q F E X R H locs ls hH hS hl
  have hy : inR 0 := by omega
  exact lv_if_ge F.1 F.2.1 hd ht (fun h => kt ((i_le hy hx).mp h) p l e s m args below meth c g Q F E X R H locs ls hH hS hl) (fun h => kf (by have h2 : ¬ (0 ≤ x) := fun z => h ((i_le hy hx).mpr z); omega) p l e s m args below meth c g Q F E X R H locs ls hH hS hl)

theorem ev_if_gt {x : Int} {off : Int} {tgt : Nat} (hd : decode (dc d) pc = .ok (.ifCond .gt off, 3)) (ht : (pc : Int) + off = (tgt : Int)) (hx : inR x) (kt : 0 < x → Ev d tgt L S K M P k n Φ) (kf : x ≤ 0 → Ev d (pc + 3) L S K M P k n Φ) : Ev d pc L (vI x :: S) K M P k n Φ := by
  intro p l e s m args below meth c g Q F E X R H locs ls hH hS hl
  have hy : inR 0 := by omega
  exact lv_if_gt F.1 F.2.1 hd ht (fun h => kt ((i_lt hy hx).mp h) p l e s m args below meth c g Q F E X R H locs ls hH hS hl) (fun h => kf (by have h2 : ¬ (0 < x) := fun z => h ((i_lt hy hx).mpr z); omega) p l e s m args below meth c g Q F E X R H locs ls hH hS hl)

theorem ev_if_le {x : Int} {off : Int} {tgt : Nat} (hd : decode (dc d) pc = .ok (.ifCond .le off, 3)) (ht : (pc : Int) + off = (tgt : Int)) (hx : inR x) (kt : x ≤ 0 → Ev d tgt L S K M P k n Φ) (kf : 0 < x → Ev d (pc + 3) L S K M P k n Φ) : Ev d pc L (vI x :: S) K M P k n Φ := by
  intro p l e s m args below meth c g Q F E X R H locs ls hH hS hl
  have hy : inR 0 := by omega
  exact lv_if_le F.1 F.2.1 hd ht (fun h => kt ((i_le hx hy).mp h) p l e s m args below meth c g Q F E X R H locs ls hH hS hl) (fun h => kf (by have h2 : ¬ (x ≤ 0) := fun z => h ((i_le hx hy).mpr z); omega) p l e s m args below meth c g Q F E X R H locs ls hH hS hl)

theorem ev_if_ne {x : Int} {off : Int} {tgt : Nat} (hd : decode (dc d) pc = .ok (.ifCond .ne off, 3)) (ht : (pc : Int) + off = (tgt : Int)) (hx : inR x) (kt : x ≠ 0 → Ev d tgt L S K M P k n Φ) (kf : x = 0 → Ev d (pc + 3) L S K M P k n Φ) : Ev d pc L (vI x :: S) K M P k n Φ := by
  intro p l e s m args below meth c g Q F E X R H locs ls hH hS hl
  have hy : inR 0 := by omega
  exact lv_if_ne F.1 F.2.1 hd ht (fun h => kt (fun z => h ((i_eq hx hy).mpr z)) p l e s m args below meth c g Q F E X R H locs ls hH hS hl) (fun h => kf ((i_eq hx hy).mp h) p l e s m args below meth c g Q F E X R H locs ls hH hS hl)

theorem ev_tableIn {dflt lo hi off x : Int} {offs : Array Int} {len tgt : Nat} (hd : decode (dc d) pc = .ok (.tableswitch dflt lo hi offs, len)) (hx : inR x) (h1 : lo ≤ x) (h2 : x ≤ hi) (ho : offs[(x - lo).toNat]? = some off) (ht : (pc : Int) + off = (tgt : Int)) (kk : Ev d tgt L S K M P k n Φ) : Ev d pc L (vI x :: S) K M P k n Φ := by
  intro p l e s m args below meth c g Q F E X R H locs ls hH hS hl
  exact lv_tableIn F.1 F.2.1 hd (by rw [i_to hx]; omega) (by rw [i_to hx]; omega) (by rw [i_to hx]; exact ho) ht (kk p l e s m args below meth c g Q F E X R H locs ls hH hS hl)

theorem ev_tableOut {dflt lo hi x : Int} {offs : Array Int} {len tgt : Nat} (hd : decode (dc d) pc = .ok (.tableswitch dflt lo hi offs, len)) (hx : inR x) (h1 : x < lo ∨ hi < x) (ht : (pc : Int) + dflt = (tgt : Int)) (kk : Ev d tgt L S K M P k n Φ) : Ev d pc L (vI x :: S) K M P k n Φ := by
  intro p l e s m args below meth c g Q F E X R H locs ls hH hS hl
  exact lv_tableOut F.1 F.2.1 hd (by rw [i_to hx]; exact h1) ht (kk p l e s m args below meth c g Q F E X R H locs ls hH hS hl)

theorem ev_lookup {dflt off x : Int} {ps : Array (Int × Int)} {len tgt : Nat} (hd : decode (dc d) pc = .ok (.lookupswitch dflt ps, len)) (hp : (ps.toList.zip (ps.toList.drop 1)).all (fun (a, next) => a.1 < next.1) = true) (hx : inR x) (ho : Op.lookupswitch.offset ps.toList dflt x = off) (ht : (pc : Int) + off = (tgt : Int)) (kk : Ev d tgt L S K M P k n Φ) : Ev d pc L (vI x :: S) K M P k n Φ := by
  intro p l e s m args below meth c g Q F E X R H locs ls hH hS hl
  exact lv_lookup F.1 F.2.1 hd hp (by rw [i_to hx]; exact ho) ht (kk p l e s m args below meth c g Q F E X R H locs ls hH hS hl)

theorem ev_loc {L' : Lo} (hs : ∀ (i : Nat) (v : V), L'[i]? = some (some v) → L[i]? = some (some v)) (kk : Ev d pc L' S K M P k n Φ) : Ev d pc L S K M P k n Φ := by
  intro p l e s m args below meth c g Q F E X R H locs ls hH hS hl
  exact kk p l e s m args below meth c g Q F E X R H locs ls hH hS (lh_sub hl hs)

theorem ev_ireturn {z : Int} (hd : decode (dc d) pc = .ok (.ireturn, 1)) (hz : okR d z) (hp : Φ (some (vI z)) K M P k n) : Ev d pc L [vI z] K M P k n Φ := by
  intro p l e s m args below meth c g Q F E X R H locs ls hH hS hl
  exact (R H locs ls pc K M P k n hH hS).1 z hp hz hd

theorem ev_lreturn {z : Int} (hd : decode (dc d) pc = .ok (.lreturn, 1)) (hz : dr d = some .long) (hp : Φ (some (vL z)) K M P k n) : Ev d pc L [vL z] K M P k n Φ := by
  intro p l e s m args below meth c g Q F E X R H locs ls hH hS hl
  exact (R H locs ls pc K M P k n hH hS).2.1 z hp hz hd

theorem ev_areturn {x : Nat} (hd : decode (dc d) pc = .ok (.areturn, 1)) (hz : dr d = some (.object "java/lang/String")) (hp : Φ (some (vX x)) K M P k n) : Ev d pc L [vX x] K M P k n Φ := by
  intro p l e s m args below meth c g Q F E X R H locs ls hH hS hl
  exact (R H locs ls pc K M P k n hH hS).2.2.1 x hp hz hd

theorem ev_return (hd : decode (dc d) pc = .ok (.return_, 1)) (hz : dr d = none) (hp : Φ none K M P k n) : Ev d pc L [] K M P k n Φ := by
  intro p l e s m args below meth c g Q F E X R H locs ls hH hS hl
  exact (R H locs ls pc K M P k n hH hS).2.2.2 hp hz hd

end Rules1
end
section
/-! ===== memory: fields, arrays, what lies outside ===== -/
def upM (M : Mm) (c : Nat) (i z : Int) : Mm := fun c' i' => if c' = c ∧ i' = i then z else M c' i'
def upP (P : Pm) (c : Nat) (i : Int) (r : Option Nat) : Pm := fun c' i' => if c' = c ∧ i' = i then r else P c' i'
theorem upM_s (M : Mm) (c : Nat) (i z : Int) : upM M c i z c i = z := by simp [upM]
theorem upM_n {M : Mm} {c c' : Nat} {i i' z : Int} (h : c' ≠ c ∨ i' ≠ i) : upM M c i z c' i' = M c' i' := by
  unfold upM
  rw [if_neg]
  rintro ⟨h1, h2⟩
  rcases h with h | h
  · exact h h1
  · exact h h2
theorem upP_s (P : Pm) (c : Nat) (i : Int) (r : Option Nat) : upP P c i r c i = r := by simp [upP]
theorem upP_n {P : Pm} {c c' : Nat} {i i' : Int} {r : Option Nat} (h : c' ≠ c ∨ i' ≠ i) : upP P c i r c' i' = P c' i' := by
  unfold upP
  rw [if_neg]
  rintro ⟨h1, h2⟩
  rcases h with h | h
  · exact h h1
  · exact h h2
/-- the class ci by its tables -/
def clsOK (ci : Nat) (C : String) (T : u_T) : Prop := vwCl[ci]? = some (C, T, nFd ci) ∧ (∀ w ∈ u_ws C T (nFd ci), w ∈ WSg) ∧ (∀ k, k < nFd ci → parseFieldDescriptor (T k).2.2.1 = some (tyC ci k)) ∧ ∀ a, a < nFd ci → ∀ b, b < nFd ci → a ≠ b → (T a).2.1 ≠ (T b).2.1
def fldOK (own : String) (idx ci k : Nat) : Prop := ∃ (C : String) (T : u_T), clsOK ci C T ∧ k < nFd ci ∧ (Cond.fieldLink own idx (T k).1 (T k).2.1 (T k).2.2.1 ∈ WSg ∨ ∃ host, Cond.fieldLinkNest own idx (T k).1 (T k).2.1 (T k).2.2.1 host ∈ WSn)
/-- the field may be set by any method; or it is final, and its own constructor sets it -/
def fldSet (own : String) (idx ci k : Nat) : Prop := ∃ (C : String) (T : u_T), clsOK ci C T ∧ k < nFd ci ∧ (T k).2.2.2 = false ∧ (Cond.fieldLink own idx (T k).1 (T k).2.1 (T k).2.2.1 ∈ WSg ∨ ∃ host, Cond.fieldLinkNest own idx (T k).1 (T k).2.1 (T k).2.2.1 host ∈ WSn)
def fldFin (own : String) (idx ci k : Nat) : Prop := ∃ (C : String) (T : u_T), clsOK ci C T ∧ k < nFd ci ∧ (T k).2.2.2 = true ∧ (T k).1 = own ∧ Cond.fieldLink own idx (T k).1 (T k).2.1 (T k).2.2.1 ∈ WSg
def fkd : FieldType → Nat
  | .int => 0
  | .boolean => 0
  | .long => 1
  | .array _ => 2
  | .object _ => 2
  | _ => 3
theorem fld_at {n k : Nat} (h : k < n) (f : Nat → Value) : ((List.range n).map f)[k]? = some (f k) := by
  rw [List.getElem?_map, List.getElem?_range h]
  rfl
theorem fld_set {n k : Nat} (h : k < n) (f f' : Nat → Value) (hf : ∀ j, j ≠ k → f' j = f j) : ((List.range n).map f).set k (f' k) = (List.range n).map f' := by
  refine List.ext_getElem? fun q => ?_
  by_cases hq : k = q
  · subst hq
    rw [List.getElem?_set_self (by simpa using h), fld_at h]
  · rw [List.getElem?_set_ne hq]
    by_cases hl : q < n
    · rw [fld_at hl, fld_at hl, hf q (fun z => hq z.symm)]
    · rw [List.getElem?_eq_none_iff.mpr (by simpa using hl), List.getElem?_eq_none_iff.mpr (by simpa using hl)]
theorem i_idx {i : Int} {n : Nat} (h0 : 0 ≤ i) (h1 : i < n) (hn : n ≤ 2147483647) : vp_in (Int32.ofInt i) n ∧ (Int32.ofInt i).toNatClampNeg = i.toNat ∧ ¬ Int32.ofInt i < 0 := by
  have hr : inR i := by omega
  have e : Int32.ofInt i = nI i.toNat := by
    rw [← Int32.toInt_inj, i_to hr, nI_toInt (by omega)]
    omega
  rw [e]
  exact ⟨vp_in_nI (by omega) (by omega), nI_clamp (by omega), nI_pos (by omega)⟩
section Rules2
variable {d : Md} {pc : Nat} {L : Lo} {S : List V} {K : List Kd} {M : Mm} {P : Pm} {k n : Nat} {Φ : Ps}
theorem ev_getAny {idx ci f c : Nat} {v : V} (hd : decode (dc d) pc = .ok (.getfield idx, 3)) (hf : fldOK (dy d).cls idx ci f) (hK : K[c]? = some (.inl ci)) (hv : ∀ g : Gv, fvl (gb g) (tyC ci f) (M c f) (P c f) = cv g v) (kk : Ev d (pc + 3) L (v :: S) K M P k n Φ) : Ev d pc L (vR c :: S) K M P k n Φ := by
  intro p l e s m args below meth cd g Q F E X R H locs ls hH hS hl
  obtain ⟨C, T, ⟨hc, hin, hty, hnm⟩, hk, hlk⟩ := hf
  have he := wl_at (g := g) (M := M) (P := P) hK
  have hv2 : ((List.range (nFd ci)).map (fun j => fvl (gb g) (tyC ci j) (M c j) (P c j)))[f]? = some (cv g v) := by
    rw [fld_at hk, hv]
  rcases hlk with hlk | ⟨host, hlk⟩
  · exact va_get F.1 F.2.1 F.2.2.2.2.2.1 hin F.2.2.2.2.1 E.1 hH.2 c he hc f hk (F.2.2.2.2.2.1 _ hlk) (fun _ h => h) hv2 hd (kk p l e s m args below meth cd g Q F E X R H locs ls hH hS hl)
  · exact va_getN F.1 F.2.1 F.2.2.2.2.2.1 hin F.2.2.2.2.1 E.1 hH.2 c he hc f hk (wsn_use E.2.2.2.2 hlk) (fun _ h => h) hv2 hd (kk p l e s m args below meth cd g Q F E X R H locs ls hH hS hl)
theorem ev_getI {idx ci f c : Nat} (hd : decode (dc d) pc = .ok (.getfield idx, 3)) (hf : fldOK (dy d).cls idx ci f) (ht : fkd (tyC ci f) = 0) (hK : K[c]? = some (.inl ci)) (kk : Ev d (pc + 3) L (vI (M c f) :: S) K M P k n Φ) : Ev d pc L (vR c :: S) K M P k n Φ := by
  refine ev_getAny hd hf hK (fun g => ?_) kk
  generalize tyC ci f = ty at ht
  cases ty <;> first | rfl | cases ht
theorem ev_getJ {idx ci f c : Nat} (hd : decode (dc d) pc = .ok (.getfield idx, 3)) (hf : fldOK (dy d).cls idx ci f) (ht : fkd (tyC ci f) = 1) (hK : K[c]? = some (.inl ci)) (kk : Ev d (pc + 3) L (vL (M c f) :: S) K M P k n Φ) : Ev d pc L (vR c :: S) K M P k n Φ := by
  refine ev_getAny hd hf hK (fun g => ?_) kk
  generalize tyC ci f = ty at ht
  cases ty <;> first | rfl | cases ht
theorem ev_getR {idx ci f c x : Nat} (hd : decode (dc d) pc = .ok (.getfield idx, 3)) (hf : fldOK (dy d).cls idx ci f) (ht : fkd (tyC ci f) = 2) (hK : K[c]? = some (.inl ci)) (hP : P c f = some x) (kk : Ev d (pc + 3) L (vR x :: S) K M P k n Φ) : Ev d pc L (vR c :: S) K M P k n Φ := by
  refine ev_getAny hd hf hK (fun g => ?_) kk
  rw [hP]
  generalize tyC ci f = ty at ht
  cases ty <;> first | rfl | cases ht
theorem fvl_def {b : Nat} {ty : FieldType} (h : fkd ty ≠ 3) : fvl b ty 0 none = defaultValue ty := by
  cases ty <;> first | rfl | exact absurd rfl h
/-- a field is set: the picture behind it -/
theorem put_HR {g : Gv} {ci f c : Nat} {M' : Mm} {P' : Pm} {H H1 : Heap} {v : Value} (hK : K[c]? = some (.inl ci)) (hk : f < nFd ci) (hM : ∀ q i, q ≠ c → M' q i = M q i) (hP : ∀ q i, q ≠ c → P' q i = P q i) (hj : ∀ j : Nat, j ≠ f → M' c j = M c j ∧ P' c j = P c j) (hv : fvl (gb g) (tyC ci f) (M' c f) (P' c f) = v) (z : H1.size = H.size) (hH : HR g K M P H) (h1 : va_P (gD g) vwCl ((wl g K M P).set c (gb g + c, .inr (ci, ((List.range (nFd ci)).map (fun j => fvl (gb g) (tyC ci j) (M c j) (P c j))).set f v))) H1) : HR g K M' P' H1 := by
  refine ⟨by rw [z]; exact hH.1, ?_⟩
  have e : (Sum.inr (ci, ((List.range (nFd ci)).map (fun j => fvl (gb g) (tyC ci j) (M c j) (P c j))).set f v) : va_E) = kE g M' P' c (.inl ci) := by
    show _ = Sum.inr (ci, (List.range (nFd ci)).map (fun j => fvl (gb g) (tyC ci j) (M' c j) (P' c j)))
    rw [← hv, fld_set hk (fun j => fvl (gb g) (tyC ci j) (M c j) (P c j)) (fun j => fvl (gb g) (tyC ci j) (M' c j) (P' c j)) (fun j hj' => by rw [(hj j hj').1, (hj j hj').2])]
  rw [e, wl_set hK hM hP] at h1
  exact h1
theorem ev_putAny {idx ci f c : Nat} {v : V} {M' : Mm} {P' : Pm} (hd : decode (dc d) pc = .ok (.putfield idx, 3)) (hf : fldSet (dy d).cls idx ci f) (hK : K[c]? = some (.inl ci)) (hM : ∀ q i, q ≠ c → M' q i = M q i) (hP : ∀ q i, q ≠ c → P' q i = P q i) (hj : ∀ j : Nat, j ≠ f → M' c j = M c j ∧ P' c j = P c j) (hv : ∀ g : Gv, fvl (gb g) (tyC ci f) (M' c f) (P' c f) = cv g v) (hn : ∀ g : Gv, narrow (tyC ci f) (cv g v) = cv g v) (hfit : ∀ g : Gv, fits (tyC ci f) (cv g v) = true) (kk : Ev d (pc + 3) L S K M' P' k n Φ) : Ev d pc L (v :: vR c :: S) K M P k n Φ := by
  intro p l e s m args below meth cd g Q F E X R H locs ls hH hS hl
  obtain ⟨C, T, ⟨hc, hin, hty, hnm⟩, hk, hfin, hlk⟩ := hf
  have he := wl_at (g := g) (M := M) (P := P) hK
  have hts := F.2.2.2.2.2.1
  have hD := wl_D g K M P
  have hap := va_apart (own := (dy d).cls) hts hin (tyC ci) hty hnm E.1 hc
  obtain ⟨r, h1, cell, q1, q2, q3, q4⟩ := hH.2 c _ he
  have hr : r = (C, T, nFd ci) := Option.some.inj (h1.symm.trans hc)
  subst hr
  obtain ⟨hSl, hfc, kC, hkC, hkind⟩ := E.1.1 ci _ hc
  obtain ⟨cf, kf, fi, fd, hi, hsl⟩ := hSl f hk
  have hlay := hts _ (hin _ (u_in_lay hk))
  unfold u_lay at hlay
  rw [if_neg (by rw [hfin]; decide)] at hlay
  have hst := (u_facts hfc hkC (u_lays hts hin hk) hi).1
  have h6 := u_store hfc hkC hkind hlay hi (hty f hk) (hn g) (hfit g)
  have fin : ∀ H' : Heap, H'[gb g + c]? = some (cell.setSlot fd.slot (cv g v)) → H'.size = H.size → (∀ q, q ≠ gb g + c → H'[q]? = H[q]?) → W p l e (dR d) s m args below meth cd H' (locs ++ [⟨gb g + c, fd.slot⟩]) k n Q (F0 m (pc + 3) ls (S.map (cv g))) := by
    intro H' e1 e2 e3
    refine kk p l e s m args below meth cd g Q F E X R H' _ ls (put_HR hK hk hM hP hj (hv g) e2 hH ?_) (hS.put e2 e3 (hD.2 c _ he)) hl
    rw [hsl] at e1
    refine hH.2.set hD he ⟨_, hc, t_OB.to (V := updV (vp_V ((List.range (nFd ci)).map (fun j => fvl (gb g) (tyC ci j) (M c j) (P c j)))) f (cv g v)) ⟨_, e1, q2, q3, t_set q4 hap hk _⟩ (fun j _ => vp_updV_set (by simpa using hk) _ j)⟩ e3
  rcases hlk with hlk | ⟨host, hlk⟩
  · exact W.putK F.1 F.2.1 (f := fd) ⟨F.2.2.2.2.1, hts _ hlk, ⟨_, _, _, hi⟩, hst⟩ (by rw [q2]; exact h6) q1 q3 (by rw [hsl]; exact k2_hasslot (q4 f hk)) rfl rfl hd fin
  · exact va_WputK F.1 F.2.1 (f := fd) F.2.2.2.2.1 (wsn_use E.2.2.2.2 hlk) hi hst (by rw [q2]; exact h6) q1 q3 (by rw [hsl]; exact k2_hasslot (q4 f hk)) rfl rfl hd fin
theorem ev_putI {idx ci f c : Nat} {z : Int} (hd : decode (dc d) pc = .ok (.putfield idx, 3)) (hf : fldSet (dy d).cls idx ci f) (ht : tyC ci f = .int) (hK : K[c]? = some (.inl ci)) (kk : Ev d (pc + 3) L S K (upM M c f z) P k n Φ) : Ev d pc L (vI z :: vR c :: S) K M P k n Φ := by
  refine ev_putAny hd hf hK (fun q i h => upM_n (Or.inl h)) (fun _ _ _ => rfl) (fun j hj => ⟨upM_n (Or.inr (by omega)), rfl⟩) (fun g => ?_) (fun g => ?_) (fun g => ?_) kk
  · rw [ht, upM_s]; rfl
  · rw [ht]; rfl
  · rw [ht]; rfl
theorem ev_putZ {idx ci f c : Nat} {z : Int} (hd : decode (dc d) pc = .ok (.putfield idx, 3)) (hf : fldSet (dy d).cls idx ci f) (ht : tyC ci f = .boolean) (hz : z = 0 ∨ z = 1) (hK : K[c]? = some (.inl ci)) (kk : Ev d (pc + 3) L S K (upM M c f z) P k n Φ) : Ev d pc L (vI z :: vR c :: S) K M P k n Φ := by
  refine ev_putAny hd hf hK (fun q i h => upM_n (Or.inl h)) (fun _ _ _ => rfl) (fun j hj => ⟨upM_n (Or.inr (by omega)), rfl⟩) (fun g => ?_) (fun g => ?_) (fun g => ?_) kk
  · rw [ht, upM_s]; rfl
  · rw [ht]; rcases hz with rfl | rfl <;> rfl
  · rw [ht]; rcases hz with rfl | rfl <;> rfl
theorem ev_putJ {idx ci f c : Nat} {z : Int} (hd : decode (dc d) pc = .ok (.putfield idx, 3)) (hf : fldSet (dy d).cls idx ci f) (ht : tyC ci f = .long) (hK : K[c]? = some (.inl ci)) (kk : Ev d (pc + 3) L S K (upM M c f z) P k n Φ) : Ev d pc L (vL z :: vR c :: S) K M P k n Φ := by
  refine ev_putAny hd hf hK (fun q i h => upM_n (Or.inl h)) (fun _ _ _ => rfl) (fun j hj => ⟨upM_n (Or.inr (by omega)), rfl⟩) (fun g => ?_) (fun g => ?_) (fun g => ?_) kk
  · rw [ht, upM_s]; rfl
  · rw [ht]; rfl
  · rw [ht]; rfl
theorem ev_putF {idx ci f c x : Nat} (hd : decode (dc d) pc = .ok (.putfield idx, 3)) (hf : fldFin (dy d).cls idx ci f) (hin2 : (dy d).name = "<init>") (ht : fkd (tyC ci f) = 2) (hK : K[c]? = some (.inl ci)) (kk : Ev d (pc + 3) L S K M (upP P c f (some x)) k n Φ) : Ev d pc L (vR x :: vR c :: S) K M P k n Φ := by
  intro p l e s m args below meth cd g Q F E X R H locs ls hH hS hl
  obtain ⟨C, T, ⟨hc, hin, hty, hnm⟩, hk, hfin, hdecl, hlk⟩ := hf
  have he := wl_at (g := g) (M := M) (P := P) hK
  have hts := F.2.2.2.2.2.1
  have hD := wl_D g K M P
  have hap := va_apart (own := (dy d).cls) hts hin (tyC ci) hty hnm E.1 hc
  obtain ⟨r, h1, cell, q1, q2, q3, q4⟩ := hH.2 c _ he
  have hr : r = (C, T, nFd ci) := Option.some.inj (h1.symm.trans hc)
  subst hr
  obtain ⟨hSl, hfc, kC, hkC, hkind⟩ := E.1.1 ci _ hc
  obtain ⟨cf, kf, fi, fd, hi, hsl⟩ := hSl f hk
  have hlay := hts _ (hin _ (u_in_lay hk))
  unfold u_lay at hlay
  rw [if_pos hfin] at hlay
  have hst := (u_facts hfc hkC (u_lays hts hin hk) hi).1
  have hcf : m.cls = cf := by
    obtain ⟨_, _, c', _, _, _, -, -, hf', -, -, -, hown2, -⟩ := Cond.laysFinal_spec hlay
    have e1 : c' = cf := by have := hi.symm.trans hf'; simp at this; exact this.1.symm
    rw [hdecl] at hown2
    rw [← e1]; exact Option.some.inj (F.2.2.2.2.1.symm.trans hown2)
  have hn : narrow (tyC ci f) (.ref (gb g + x)) = .ref (gb g + x) := by
    generalize tyC ci f = ty at ht
    cases ty <;> first | rfl | cases ht
  have hfit : fits (tyC ci f) (.ref (gb g + x)) = true := by
    generalize tyC ci f = ty at ht
    cases ty <;> first | rfl | cases ht
  have h6 := u_fits hfc hkC hkind (Or.inr hlay) hi (hty f hk) hn hfit
  refine W.putFinK F.1 F.2.1 F.2.2.2.2.1 (hts _ hlk) hi hst hcf (F.2.2.2.2.2.2.2.trans hin2) (by rw [q2]; exact h6) q1 q3 (by rw [hsl]; exact k2_hasslot (q4 f hk)) rfl rfl hd fun H' e1 e2 e3 => ?_
  refine kk p l e s m args below meth cd g Q F E X R H' _ ls (put_HR (v := .ref (gb g + x)) hK hk (fun _ _ _ => rfl) (fun q i h => upP_n (Or.inl h)) (fun j hj => ⟨rfl, upP_n (Or.inr (by omega))⟩) ?_ e2 hH ?_) (hS.put e2 e3 (hD.2 c _ he)) hl
  · rw [upP_s]
    generalize tyC ci f = ty at ht
    cases ty <;> first | rfl | cases ht
  rw [hsl] at e1
  refine hH.2.set hD he ⟨_, hc, t_OB.to (V := updV (vp_V ((List.range (nFd ci)).map (fun j => fvl (gb g) (tyC ci j) (M c j) (P c j)))) f (.ref (gb g + x))) ⟨_, e1, q2, q3, t_set q4 hap hk _⟩ (fun j _ => vp_updV_set (by simpa using hk) _ j)⟩ e3
theorem ev_iaload {c N : Nat} {i : Int} (hd : decode (dc d) pc = .ok (.iaload, 1)) (hK : K[c]? = some (.inr (.inl N))) (h0 : 0 ≤ i) (h1 : i < N) (hN : N ≤ 2147483647) (kk : Ev d (pc + 1) L (vI (M c i) :: S) K M P k n Φ) : Ev d pc L (vI i :: vR c :: S) K M P k n Φ := by
  intro p l e s m args below meth cd g Q F E X R H locs ls hH hS hl
  obtain ⟨a1, a2, -⟩ := i_idx h0 h1 hN
  refine va_iald F.1 F.2.1 E.1 hH.2 c 0 (wl_at hK) rfl a1 hd ?_
  rw [a2, Int.toNat_of_nonneg h0]
  exact kk p l e s m args below meth cd g Q F E X R H locs ls hH hS hl
theorem ev_iastore {c N : Nat} {i z : Int} (hd : decode (dc d) pc = .ok (.iastore, 1)) (hK : K[c]? = some (.inr (.inl N))) (h0 : 0 ≤ i) (h1 : i < N) (hN : N ≤ 2147483647) (kk : Ev d (pc + 1) L S K (upM M c i z) P k n Φ) : Ev d pc L (vI z :: vI i :: vR c :: S) K M P k n Φ := by
  intro p l e s m args below meth cd g Q F E X R H locs ls hH hS hl
  obtain ⟨a1, a2, -⟩ := i_idx h0 h1 hN
  have ha := wl_at (g := g) (M := M) (P := P) hK
  have hD := wl_D g K M P
  refine W.iast F.1 F.2.1 (hH.2 c _ ha) ((E.1.2 0 _ rfl).1 N (fun j => .int (Int32.ofInt (M c j)))) (fun q => by cases q) (by show ¬ (_ ∨ (arrV _ _ _).slots.size ≤ _); rw [arrV_size]; exact a1) rfl rfl hd fun H1 e1 z1 oq => ?_
  refine kk p l e s m args below meth cd g Q F E X R H1 _ ls ⟨by rw [z1]; exact hH.1, ?_⟩ (hS.put z1 oq (hD.2 c _ ha)) hl
  have h2 := hH.2.set (e := kE g (upM M c i z) P c (.inr (.inl N))) hD ha (by
    show H1[gb g + c]? = some (vp_cell _ _)
    rw [e1]
    rw [a2]
    show some (Cell.setSlot (vp_cell (gI g) (N, Sum.inl (fun j => Int32.ofInt (M c j)))) _ _) = some (vp_cell (gI g) (N, Sum.inl (fun j => Int32.ofInt (upM M c i z c j))))
    rw [vp_cell_i, vp_cell_i, arrV_store]
    congr 2
    funext j
    by_cases hj : j = i.toNat
    · subst hj
      simp [updV, upM, Int.toNat_of_nonneg h0]
    · have hj2 : (j : Int) ≠ i := by omega
      simp [updV, upM, hj, hj2]) oq
  rw [wl_set hK (fun q i h => upM_n (Or.inl h)) (fun _ _ _ => rfl)] at h2
  exact h2
theorem ev_alen {c N : Nat} (hd : decode (dc d) pc = .ok (.arraylength, 1)) (hK : K[c]? = some (.inr (.inl N))) (kk : Ev d (pc + 1) L (vI N :: S) K M P k n Φ) : Ev d pc L (vR c :: S) K M P k n Φ := by
  intro p l e s m args below meth cd g Q F E X R H locs ls hH hS hl
  exact va_alen F.1 F.2.1 E.1 hH.2 c 0 (wl_at hK) (ty := .int) rfl (v := Int32.ofInt N) (by rw [Int32.ofInt_eq_ofNat]) hd (kk p l e s m args below meth cd g Q F E X R H locs ls hH hS hl)
theorem ev_aaload {c N x : Nat} {i : Int} (hd : decode (dc d) pc = .ok (.aaload, 1)) (hK : K[c]? = some (.inr (.inr N))) (h0 : 0 ≤ i) (h1 : i < N) (hN : N ≤ 2147483647) (hP : P c i = some x) (kk : Ev d (pc + 1) L (vR x :: S) K M P k n Φ) : Ev d pc L (vI i :: vR c :: S) K M P k n Φ := by
  intro p l e s m args below meth cd g Q F E X R H locs ls hH hS hl
  obtain ⟨a1, a2, -⟩ := i_idx h0 h1 hN
  refine va_aldq F.1 F.2.1 E.1 hH.2 c 1 (wl_at hK) rfl a1 hd ?_
  rw [a2, Int.toNat_of_nonneg h0, hP]
  exact kk p l e s m args below meth cd g Q F E X R H locs ls hH hS hl
/-- the script -/
theorem ev_slen {N : Nat} (hN : ∀ g, dX d g → gL g = N) (hd : decode (dc d) pc = .ok (.arraylength, 1)) (kk : Ev d (pc + 1) L (vI N :: S) K M P k n Φ) : Ev d pc L (vX 0 :: S) K M P k n Φ := by
  intro p l e s m args below meth cd g Q F E X R H locs ls hH hS hl
  obtain ⟨a0, a1, adK, adV, e0, e1, e2, e3, h1, h2, -⟩ := E.2.2.1
  show W p l e (dR d) s m args below meth cd H locs k n Q (F0 m pc ls (va_rf (gx g 0) :: S.map (cv g)))
  rw [e0]
  refine va_slen F.1 F.2.1 h1 (Nat.lt_of_lt_of_le h2 E.2.1) (Nat.not_le.mpr h2) hS hd ?_
  have := kk p l e s m args below meth cd g Q F E X R H locs ls hH hS hl
  simp only [List.map_cons, cv] at this
  rw [Int32.ofInt_eq_ofNat, ← hN g X] at this
  exact this
theorem ev_sald {N : Nat} {xs : Nat → Int32} {i : Int} (hN : ∀ g, dX d g → gL g = N ∧ gs g = xs) (hd : decode (dc d) pc = .ok (.iaload, 1)) (h0 : 0 ≤ i) (h1 : i < N) (hN2 : N ≤ 2147483647) (kk : Ev d (pc + 1) L (vI (xs i.toNat).toInt :: S) K M P k n Φ) : Ev d pc L (vI i :: vX 0 :: S) K M P k n Φ := by
  intro p l e s m args below meth cd g Q F E X R H locs ls hH hS hl
  obtain ⟨a0, a1, adK, adV, e0, e1, e2, e3, h3, h2, -⟩ := E.2.2.1
  obtain ⟨b1, b2, -⟩ := i_idx h0 h1 hN2
  show W p l e (dR d) s m args below meth cd H locs k n Q (F0 m pc ls (cv g (vI i) :: va_rf (gx g 0) :: S.map (cv g)))
  rw [e0]
  obtain ⟨x1, x2⟩ := hN g X
  rw [x1] at h3
  refine va_sld F.1 F.2.1 h3 (Nat.lt_of_lt_of_le h2 E.2.1) (Nat.not_le.mpr h2) hS b1 hd ?_
  rw [b2, x2]
  have := kk p l e s m args below meth cd g Q F E X R H locs ls hH hS hl
  simp only [List.map_cons, cv, i_back] at this
  exact this
/-- Seen.COULD -/
def s_could : List Int := [27, 14, 20, 16]
theorem ev_gcould {idx : Nat} (hd : decode (dc d) pc = .ok (.getstatic idx, 3)) (hw : Cond.fieldLink (dy d).cls idx RX5 "COULD" "[I" ∈ WSg ∨ ∃ host, Cond.fieldLinkNest (dy d).cls idx RX5 "COULD" "[I" host ∈ WSn) (kk : Ev d (pc + 3) L (vX 1 :: S) K M P k n Φ) : Ev d pc L S K M P k n Φ := by
  intro p l e s m args below meth cd g Q F E X R H locs ls hH hS hl
  obtain ⟨a0, a1, adK, adV, e0, e1, e2, e3, h1, h2, h3, h4, -⟩ := E.2.2.1
  have := kk p l e s m args below meth cd g Q F E X R H locs ls hH hS hl
  simp only [List.map_cons, cv, e1, va_rf] at this
  rcases hw with hw | ⟨host, hw⟩
  · exact va_gets F.1 F.2.1 h3 hS F.2.2.2.2.1 (F.2.2.2.2.2.1 _ hw) (fun _ h => h) hd this
  · exact va_getsN F.1 F.2.1 h3 hS F.2.2.2.2.1 (wsn_use E.2.2.2.2 hw) (fun _ h => h) hd this
theorem could_at : ∀ j, j < 4 → Value.int (([27, 14, 20, 16] : List Int32).getD j 0) = Value.int (Int32.ofInt (s_could.getD j 0)) := by decide
theorem ev_cald {i : Int} (hd : decode (dc d) pc = .ok (.iaload, 1)) (h0 : 0 ≤ i) (h1 : i < 4) (kk : Ev d (pc + 1) L (vI (s_could.getD i.toNat 0) :: S) K M P k n Φ) : Ev d pc L (vI i :: vX 1 :: S) K M P k n Φ := by
  intro p l e s m args below meth cd g Q F E X R H locs ls hH hS hl
  obtain ⟨a0, a1, adK, adV, e0, e1, e2, e3, h3, h2, h5, h4, -⟩ := E.2.2.1
  obtain ⟨b1, b2, -⟩ := i_idx (n := 4) h0 h1 (by omega)
  show W p l e (dR d) s m args below meth cd H locs k n Q (F0 m pc ls (cv g (vI i) :: va_rf (gx g 1) :: S.map (cv g)))
  rw [e1]
  have := kk p l e s m args below meth cd g Q F E X R H locs ls hH hS hl
  exact va_ti F.1 F.2.1 h4 hS b1 (by rw [b2]; exact could_at _ (by omega)) hd this
end Rules2
end
section
/-! ===== contracts of methods, and calls ===== -/
abbrev Pq : Type := Option V → List Kd → Mm → Pm → Prop
def Qm (g : Gv) (Ψ : Pq) : Array Value → State → Outcome → State → Prop := fun _ st o t => (∃ (r : Option V) (K : List Kd) (M : Mm) (P : Pm), o = .returned (r.map (cv g)) ∧ Ψ r K M P ∧ HR g K M P t.heap) ∧ va_F (eA (gb g)) st t
def Cl (d : Md) (A : List V) (K : List Kd) (M : Mm) (P : Pm) (Ψ : Pq) : Prop := ∀ (l : Launch) (g : Gv), Met l (dy d) (wsM d) (dR d) (va_Pc (A.map (cv g)) (fun U => En g U ∧ HR g K M P U.heap)) (Qm g Ψ) (dR d).cells (dR d).slots (eA (gb g))
def ent : List V → Lo
  | [] => []
  | v :: A => if ct v = 2 then some v :: none :: ent A else some v :: ent A
def pad (n : Nat) (L : Lo) : Lo := L ++ List.replicate (n - L.length) none
theorem lvs_none (g : Gv) (i k : Nat) : lvs g i (List.replicate k none) = [] := by
  induction k generalizing i with
  | zero => rfl
  | succ k ih => rw [List.replicate_succ]; exact ih (i + 1)
theorem lvs_ent (g : Gv) (k : Nat) : ∀ (A : List V) (i : Nat), lvs g i (ent A ++ List.replicate k none) = lv_args i (A.map (cv g)) := by
  intro A
  induction A with
  | nil => intro i; exact lvs_none g i k
  | cons v A ih =>
    intro i
    by_cases h : ct v = 2
    · simp only [ent, h, if_true, List.cons_append, lvs, List.map_cons, lv_args, ct_cv, ih]
    · simp only [ent, h, if_false, List.cons_append, lvs, List.map_cons, lv_args, ct_cv, ih]
theorem ent_len (g : Gv) (A : List V) : (lg_sl (A.map (cv g))).length = (ent A).length := by
  induction A with
  | nil => rfl
  | cons v A ih =>
    by_cases h : ct v = 2
    · simp only [lg_sl, List.map_cons, List.flatMap_cons, ct_cv, h, if_true, ent] at ih ⊢
      simp [ih]
    · simp only [lg_sl, List.map_cons, List.flatMap_cons, ct_cv, h, if_false, ent] at ih ⊢
      simp [ih]
theorem ofWF {l : Launch} {y : MethodName} {ws ws' : List Cond} {rm : Room} {Pc : Array Value → State → Prop} {Qc : Array Value → State → Outcome → State → Prop} {mc ms : Nat} {free : Addr → Prop} {cc : ByteArray} {maxL : Nat} {ret : Option FieldType}
    (hy : plainFor y = true) (hw : ws = Cond.code y cc maxL ret :: ws')
    (body : ∀ p e s m args below meth c s₁, BodyLoose p l y (headSpec ws rm) cc maxL ret e s m args below meth c s₁ → c.maxLocals = maxL → Pc args s →
      W p l e (headSpec ws rm).room s m args below meth c s.heap [] 0 0 (MQ below Qc args s mc ms free) (entryFrame m args maxL)) : Met l y ws rm Pc Qc mc ms free := by
  refine MetFree.of_bodySF (code := cc) (maxLocals := maxL) (ret := ret) hy ?_ ?_
  · intro args s m h hn
    obtain ⟨meth, c, h1, h2, h3, h4, h5, h6, -, -⟩ := Cond.code_spec hn (atoms_spec (ws := ws) h _ (by rw [hw]; exact List.mem_cons_self))
    exact ⟨meth, c, h1, h2, h3, h4, h5, h6⟩
  · intro p e s m args below meth c s₁ B hml hP _
    have hh0 : s₁.heap = s.heap := by rw [B.state]; rfl
    obtain ⟨t, a1, o, b1, b2, b3⟩ := body p e s m args below meth c s₁ B hml hP s₁ hh0 (Stand.of_body B)
    exact ⟨t, o, a1, b1, b2, ⟨b3.1, b3.2⟩⟩
theorem cl_of {d : Md} {A : List V} {K : List Kd} {M : Mm} {P : Pm} {Ψ : Pq} (hy : plainFor (dy d) = true) (hX : ∀ g, dX d g) (hlen : (ent A).length ≤ dn d) (h : Ev d 0 (pad (dn d) (ent A)) [] K M P 0 0 (fun r K' M' P' k n => Ψ r K' M' P' ∧ k ≤ (dR d).cells ∧ n ≤ (dR d).slots)) : Cl d A K M P Ψ := by
  intro l g
  refine ofWF (cc := dc d) (maxL := dn d) (ret := dr d) hy rfl ?_
  intro p e s m args below meth c s₁ B hml hv
  obtain ⟨rfl, hE, hH⟩ := hv
  have hts := atoms_spec (ws := wsM d) B.pre
  have F : Fr d p s m (A.map (cv g)).toArray meth c := ⟨B.exec, B.bytes, B.returns, hml, findClass_of_methodNamed B.named, fun w hw => hts w (List.mem_cons_of_mem _ hw), B.notSynchronized, (name_of_methodNamed B.named B.method).1⟩
  have hl := lv_entry (A.map (cv g)) (n := dn d) (by rw [ent_len]; exact hlen)
  rw [lg_entry_eq]
  generalize (lg_sl (A.map (cv g)) ++ List.replicate (dn d - (lg_sl (A.map (cv g))).length) Slot.unset).toArray = ls at hl ⊢
  refine h p l e s m _ below meth c g _ F hE (hX g) ?_ s.heap [] ls hH va_S.rf (by unfold lh pad; rw [lvs_ent]; exact hl)
  intro H locs ls pc K M P k n hH hS
  have hlk := F.2.2.2.2.2.2.1
  refine ⟨fun z ⟨hΨ, hk, hn⟩ ⟨ty, h1, h2⟩ hd => ?_, fun z ⟨hΨ, hk, hn⟩ h1 hd => ?_, fun x ⟨hΨ, hk, hn⟩ h1 hd => ?_, fun ⟨hΨ, hk, hn⟩ h1 hd => ?_⟩
  · refine W.widen hk hn ?_
    exact W.zret F.1 F.2.1 (F.2.2.1.trans h1) h2 (fun t ht hW => ⟨⟨some (vI z), K, M, P, rfl, hΨ, by rw [ht]; exact hH⟩, hS.F ht⟩) hS.2.2 hd hlk
  · refine W.widen hk hn ?_
    exact W.lret F.1 F.2.1 (F.2.2.1.trans h1) (fun t ht hW => ⟨⟨some (vL z), K, M, P, rfl, hΨ, by rw [ht]; exact hH⟩, hS.F ht⟩) hS.2.2 hd hlk
  · refine W.widen hk hn ?_
    refine W.aret F.1 F.2.1 (F.2.2.1.trans h1) (Or.inl ⟨_, rfl⟩) ?_ (fun t ht hW => ⟨⟨some (vX x), K, M, P, rfl, hΨ, by rw [ht]; exact hH⟩, hS.F ht⟩) hS.2.2 hd hlk
    show va_rf (gx g x) = _ ∨ ∃ a, va_rf (gx g x) = _
    cases gx g x with
    | none => exact Or.inl rfl
    | some a => exact Or.inr ⟨a, rfl⟩
  · refine W.widen hk hn ?_
    exact W.vret F.1 F.2.1 (F.2.2.1.trans h1) (fun t ht hW => ⟨⟨none, K, M, P, rfl, hΨ, by rw [ht]; exact hH⟩, hS.F ht⟩) hS.2.2 hd hlk
theorem En.call {g : Gv} {U : State} {f : JFrame} {mk : MethodId} {a : Array Value} (h : En g U) : En g (U.calling f mk a) := by
  obtain ⟨h1, h2, ⟨a0, a1, adK, adV, e0, e1, e2, e3, g1, g2, g3, g4, g5, g6, g7, g8⟩, h4, h5⟩ := h
  refine ⟨va_K.moved (u := U) (U := U.calling f mk a) (Vm.Alike.refl U.vm) h1, h2, ⟨a0, a1, adK, adV, e0, e1, e2, e3, ?_, g2, ?_, ?_, ?_, ?_, ?_, fun i hi => vk_R.same (u := U) rfl (g8 i hi)⟩, va_AO.moved (u := U) (U := U.calling f mk a) (Vm.Alike.refl U.vm) h4, fun w hw => ?_⟩
  · exact va_X.moved (u := U) (U := U.calling f mk a) (Vm.Alike.refl U.vm) g1
  · exact va_Z.moved (u := U) (U := U.calling f mk a) (Vm.Alike.refl U.vm) g3
  · exact va_T.moved (u := U) (U := U.calling f mk a) (Vm.Alike.refl U.vm) g4
  · exact va_Z.moved (u := U) (U := U.calling f mk a) (Vm.Alike.refl U.vm) g5
  · exact va_Z.moved (u := U) (U := U.calling f mk a) (Vm.Alike.refl U.vm) g6
  · exact vk_S.moved (u := U) (U := U.calling f mk a) (Vm.Alike.refl U.vm) g7
  · have h1 := h5 w hw
    have h2 := (List.mem_filter.mp hw).2
    cases w <;> first | exact va_Nw.same (u := U) rfl rfl h1 | (simp [isNest] at h2)
def mdOK (d : Md) : Prop := cdW d ∈ WSg ∧ Cond.initialized (dy d).cls ∈ WSg ∧ (dy d).cls ≠ "java/lang/invoke/MethodHandle" ∧ (dy d).cls ≠ "java/lang/invoke/VarHandle"
def lkM (own : String) (idx : Nat) (d : Md) : Prop := Cond.methodLink own idx (dy d) ∈ WSg ∨ ∃ host, Cond.methodLinkNest own idx (dy d) host ∈ WSn
/-- room for a call -/
def rmOK (d d' : Md) (k n : Nat) : Prop := ((dR d').frames + 1 ≤ (dR d).frames ∧ 8 + (dn d' + 11) + (dR d').locals ≤ (dR d).locals) ∧ k + (dR d').cells ≤ (dR d).cells ∧ n + (dR d').slots ≤ (dR d).slots
abbrev pcOK (d' : Md) (n : Nat) : Prop := (parseMethodDescriptor (dy d').desc).map (fun q => q.parameters.length) = some n
section Rules3
variable {d d' : Md} {pc : Nat} {L : Lo} {S : List V} {K : List Kd} {M : Mm} {P : Pm} {k n : Nat} {Φ : Ps} {Ψ : Pq} {A rest : List V}
theorem ct_sum (g : Gv) (rest : List V) (h : (rest.map ct).sum ≤ 8) : ((rest.map (cv g)).map fun v => v.category).sum ≤ 8 := by
  rw [List.map_map]
  have : (fun v => v.category) ∘ cv g = ct := funext fun v => ct_cv g v
  rw [this]
  exact h
theorem ev_after {p : Program} {l : Launch} {e : Env} {s : State} {m : MethodId} {args : Array Value} {below : List Frame} {meth : Method} {cd : Code} {g : Gv} {Q : State → Prop} {H : Heap} {locs : List Loc} {ls : Array Slot} {st0 : List Value} {a : Array Value} {mc ms : Nat}
    (F : Fr d p s m args meth cd) (E : En g s) (X : dX d g) (R : ROK d p l e s m args below meth cd g Q Φ) (hS : va_S (eA (gb g)) s.heap H locs) (hl : lh g (dn d) L ls)
    (hr : va_Run p l e (dR d) s m args below meth cd H locs k n mc ms (F0 m pc ls st0) (rest.map (cv g)) (Qm g Ψ a) (eA (gb g)))
    (kk : ∀ r K' M' P', Ψ r K' M' P' → Ev d (pc + 3) L (r.toList ++ rest) K' M' P' (k + mc) (n + ms) Φ) : W p l e (dR d) s m args below meth cd H locs k n Q (F0 m pc ls st0) := by
  intro T hT X0
  obtain ⟨v, st₀, t, T', L', h0, X', hL, e1, e2, ⟨⟨r, K', M', P', hv, hΨ, hH'⟩, hz, hk⟩, st⟩ := hr T hT X0
  cases hv
  rw [h0] at hz hk
  obtain ⟨t2, a1, b1⟩ := kk r K' M' P' hΨ p l e s m args below meth cd g Q F E X R T'.heap (locs ++ L') ls (by rw [e1]; exact hH')
    ⟨Nat.le_trans hS.1 (by rw [e1]; exact hz), fun q h1 h2 => by rw [e1, hk q (Nat.lt_of_lt_of_le h1 hS.1) h2]; exact hS.2.1 q h1 h2, fun q hq => by
      rcases List.mem_append.mp hq with h | h
      · exact hS.2.2 q h
      · exact hL q h⟩ hl T' rfl X'
  refine ⟨t2, st t2 ?_, b1⟩
  have es : (r.map (cv g)).toList ++ rest.map (cv g) = (r.toList ++ rest).map (cv g) := by cases r <;> rfl
  rw [es]
  exact a1
theorem pre_S {s : State} {g : Gv} {H : Heap} {locs : List Loc} (E : En g s) (hS : va_S (eA (gb g)) s.heap H locs) (hH : HR g K M P H) : PreS s H (va_Pc (A.map (cv g)) (fun U => En g U ∧ HR g K M P U.heap)) (A.map (cv g)) :=
  ⟨fun a U f mk q => ⟨q.1, q.2.1.call, q.2.2⟩, fun U hU hW => ⟨rfl, E.to hW hS hU, by rw [hU]; exact hH⟩⟩
theorem ev_calls {idx : Nat} (hcl : Cl d' A K M P Ψ) (hd : decode (dc d) pc = .ok (.invokestatic idx, 3)) (hm : mdOK d') (hlk : lkM (dy d).cls idx d') (hst : Cond.static (dy d') ∈ WSg) (hpc : pcOK d' A.length) (hrm : rmOK d d' k n) (hS0 : S = A.reverse ++ rest) (hc : (rest.map ct).sum ≤ 8)
    (kk : ∀ r K' M' P', Ψ r K' M' P' → Ev d (pc + 3) L (r.toList ++ rest) K' M' P' (k + (dR d').cells) (n + (dR d').slots) Φ) : Ev d pc L S K M P k n Φ := by
  intro p l e s m args below meth cd g Q F E X R H locs ls hH hS hl
  have hts := F.2.2.2.2.2.1
  subst hS0
  refine ev_after (a := (A.map (cv g)).toArray) F E X R hS hl ?_ kk
  have hsz : (F0 m pc ls ((A.reverse ++ rest).map (cv g))).locals.size = dn d := hl.1
  have hs2 : (F0 m pc ls ((A.reverse ++ rest).map (cv g))).stack = (A.map (cv g)).reverse ++ rest.map (cv g) := by simp
  rcases hlk with hlk | ⟨host, hlk⟩
  · exact va_runS (nL := dn d) (n := A.length) (Ts := WSg) ⟨F.1, F.2.1, F.2.2.2.1, F.2.2.2.2.1, hts⟩ (hcl l g) ⟨callB_of A.length hts (wsM_good hm.1) rfl rfl rfl (hts _ hm.2.1) (hts _ hlk) ⟨hm.2.2.1, hm.2.2.2, hpc⟩ hrm.1, hts _ hst⟩ (pre_S E hS hH) rfl (by simp) hsz hs2 (lv_room (ct_sum g rest hc)) hd hrm.2
  · exact va_runSN (nL := dn d) (n := A.length) (Ts := WSg) ⟨F.1, F.2.1, F.2.2.2.1, F.2.2.2.2.1, hts⟩ (hcl l g) ⟨va_cnB A.length hts (wsM_good hm.1) rfl rfl rfl (va_Nw.of rfl (wsn_use (args := args) E.2.2.2.2 hlk)) (hts _ hm.2.1) ⟨hm.2.2.1, hm.2.2.2, hpc⟩ hrm.1, hts _ hst, trivial⟩ (pre_S E hS hH) rfl (by simp) hsz hs2 (lv_room (ct_sum g rest hc)) hd hrm.2
theorem ev_callv {idx c ci : Nat} {C : String} {T : u_T} (hcl : Cl d' (vR c :: A) K M P Ψ) (hd : decode (dc d) pc = .ok (.invokevirtual idx, 3)) (hm : mdOK d') (hlk : lkM (dy d).cls idx d') (hin : Cond.instanceMethod (dy d') ∈ WSg) (hsel : Cond.selects C (dy d') (dy d') ∈ WSg) (hcl2 : vwCl[ci]? = some (C, T, nFd ci)) (hK : K[c]? = some (.inl ci)) (hpc : pcOK d' A.length) (hrm : rmOK d d' k n) (hS0 : S = A.reverse ++ vR c :: rest) (hc : (rest.map ct).sum ≤ 8)
    (kk : ∀ r K' M' P', Ψ r K' M' P' → Ev d (pc + 3) L (r.toList ++ rest) K' M' P' (k + (dR d').cells) (n + (dR d').slots) Φ) : Ev d pc L S K M P k n Φ := by
  intro p l e s m args below meth cd g Q F E X R H locs ls hH hS hl
  have hts := F.2.2.2.2.2.1
  subst hS0
  refine ev_after (a := ((vR c :: A).map (cv g)).toArray) F E X R hS hl ?_ kk
  have hsz : (F0 m pc ls ((A.reverse ++ vR c :: rest).map (cv g))).locals.size = dn d := hl.1
  have hs2 : (F0 m pc ls ((A.reverse ++ vR c :: rest).map (cv g))).stack = (A.map (cv g)).reverse ++ .ref (gb g + c) :: rest.map (cv g) := by simp [cv]
  have hp : PreV s H C (gb g + c) (va_Pc ((vR c :: A).map (cv g)) (fun U => En g U ∧ HR g K M P U.heap)) (A.map (cv g)) := ⟨(pre_S (A := vR c :: A) E hS hH).1, va_recv E.1 hH.2 hcl2 (wl_at hK), (pre_S (A := vR c :: A) E hS hH).2⟩
  rcases hlk with hlk | ⟨host, hlk⟩
  · exact va_runV (nL := dn d) (n := A.length) (Ts := WSg) ⟨F.1, F.2.1, F.2.2.2.1, F.2.2.2.2.1, hts⟩ (hcl l g) ⟨callB_of A.length hts (wsM_good hm.1) rfl rfl rfl (hts _ hm.2.1) (hts _ hlk) ⟨hm.2.2.1, hm.2.2.2, hpc⟩ hrm.1, hts _ hin, hts _ hsel⟩ hp rfl (by simp) hsz hs2 (lv_room (ct_sum g rest hc)) hd hrm.2
  · exact va_runVN (nL := dn d) (n := A.length) (Ts := WSg) ⟨F.1, F.2.1, F.2.2.2.1, F.2.2.2.2.1, hts⟩ (hcl l g) ⟨va_cnB A.length hts (wsM_good hm.1) rfl rfl rfl (va_Nw.of rfl (wsn_use (args := args) E.2.2.2.2 hlk)) (hts _ hm.2.1) ⟨hm.2.2.1, hm.2.2.2, hpc⟩ hrm.1, hts _ hin, hts _ hsel⟩ hp rfl (by simp) hsz hs2 (lv_room (ct_sum g rest hc)) hd hrm.2
/-- a call on one of the six texts -/
theorem ev_callX {idx i : Nat} (hi : i < 6) (hcl : Cl d' (vX (2 + i) :: A) K M P Ψ) (hd : decode (dc d) pc = .ok (.invokevirtual idx, 3)) (hm : mdOK d') (hlk : Cond.methodLink (dy d).cls idx (dy d') ∈ WSg) (hin : Cond.instanceMethod (dy d') ∈ WSg) (hsel : Cond.selects "java/lang/String" (dy d') (dy d') ∈ WSg) (hpc : pcOK d' A.length) (hrm : rmOK d d' k n) (hS0 : S = A.reverse ++ vX (2 + i) :: rest) (hc : (rest.map ct).sum ≤ 8)
    (kk : ∀ r K' M' P', Ψ r K' M' P' → Ev d (pc + 3) L (r.toList ++ rest) K' M' P' (k + (dR d').cells) (n + (dR d').slots) Φ) : Ev d pc L S K M P k n Φ := by
  intro p l e s m args below meth cd g Q F E X R H locs ls hH hS hl
  have hts := F.2.2.2.2.2.1
  subst hS0
  obtain ⟨a0, a1, adK, adV, e0, e1, e2, e3, g1, g2, g3, g4, g5, g6, g7, g8⟩ := E.2.2.1
  refine ev_after (a := (Value.ref (adK i) :: A.map (cv g)).toArray) F E X R hS hl ?_ kk
  have hsz : (F0 m pc ls ((A.reverse ++ vX (2 + i) :: rest).map (cv g))).locals.size = dn d := hl.1
  have hs2 : (F0 m pc ls ((A.reverse ++ vX (2 + i) :: rest).map (cv g))).stack = (A.map (cv g)).reverse ++ .ref (adK i) :: rest.map (cv g) := by simp [cv, e2 i hi, va_rf]
  have h0 : (vX (2 + i) :: A).map (cv g) = .ref (adK i) :: A.map (cv g) := by simp [cv, e2 i hi, va_rf]
  have hp0 := pre_S (A := vX (2 + i) :: A) E hS hH
  have hcl' := hcl l g
  rw [h0] at hp0 hcl'
  have hp : PreV s H "java/lang/String" (adK i) (va_Pc (.ref (adK i) :: A.map (cv g)) (fun U => En g U ∧ HR g K M P U.heap)) (A.map (cv g)) := ⟨hp0.1, vk_recv g7 hi hS, hp0.2⟩
  exact va_runV (nL := dn d) (n := A.length) (Ts := WSg) ⟨F.1, F.2.1, F.2.2.2.1, F.2.2.2.2.1, hts⟩ hcl' ⟨callB_of A.length hts (wsM_good hm.1) rfl rfl rfl (hts _ hm.2.1) (hts _ hlk) ⟨hm.2.2.1, hm.2.2.2, hpc⟩ hrm.1, hts _ hin, hts _ hsel⟩ hp rfl (by simp) hsz hs2 (lv_room (ct_sum g rest hc)) hd hrm.2
theorem ev_calli {idx c : Nat} (hcl : Cl d' (vR c :: A) K M P Ψ) (hd : decode (dc d) pc = .ok (.invokespecial idx, 3)) (hm : mdOK d') (hr0 : dr d' = none) (hnm : (dy d').name = "<init>") (hlk : lkM (dy d).cls idx d') (hin : Cond.instanceMethod (dy d') ∈ WSg) (hpc : pcOK d' A.length) (hrm : rmOK d d' k n) (hS0 : S = A.reverse ++ vR c :: rest) (hc : (rest.map ct).sum ≤ 8)
    (kk : ∀ r K' M' P', Ψ r K' M' P' → Ev d (pc + 3) L (r.toList ++ rest) K' M' P' (k + (dR d').cells) (n + (dR d').slots) Φ) : Ev d pc L S K M P k n Φ := by
  intro p l e s m args below meth cd g Q F E X R H locs ls hH hS hl
  have hts := F.2.2.2.2.2.1
  subst hS0
  refine ev_after (a := ((vR c :: A).map (cv g)).toArray) F E X R hS hl ?_ kk
  have hsz : (F0 m pc ls ((A.reverse ++ vR c :: rest).map (cv g))).locals.size = dn d := hl.1
  have hs2 : (F0 m pc ls ((A.reverse ++ vR c :: rest).map (cv g))).stack = (A.map (cv g)).reverse ++ .ref (gb g + c) :: rest.map (cv g) := by simp [cv]
  have hp := pre_S (A := vR c :: A) E hS hH
  have hw : wsM d' = Cond.code (dy d') (dc d') (dn d') none :: WSg := by rw [← hr0]
  rcases hlk with hlk | ⟨host, hlk⟩
  · exact va_runI (nL := dn d) (n := A.length) (Ts := WSg) ⟨F.1, F.2.1, F.2.2.2.1, F.2.2.2.2.1, hts⟩ (hcl l g) ⟨callB_of A.length hts (wsM_good hm.1) hw rfl rfl (hts _ hm.2.1) (hts _ hlk) ⟨hm.2.2.1, hm.2.2.2, hpc⟩ hrm.1, hnm, hts _ hin⟩ hp rfl (by simp) hsz hs2 (lv_room (ct_sum g rest hc)) hd hrm.2
  · exact va_runIN (nL := dn d) (n := A.length) (Ts := WSg) ⟨F.1, F.2.1, F.2.2.2.1, F.2.2.2.2.1, hts⟩ (hcl l g) ⟨va_cnB A.length hts (wsM_good hm.1) hw rfl rfl (va_Nw.of rfl (wsn_use (args := args) E.2.2.2.2 hlk)) (hts _ hm.2.1) ⟨hm.2.2.1, hm.2.2.2, hpc⟩ hrm.1, hnm, hts _ hin⟩ hp rfl (by simp) hsz hs2 (lv_room (ct_sum g rest hc)) hd hrm.2
end Rules3
end
section
/-! ===== methods, their rooms, and the words that calls need (printed by gen08.py) ===== -/
def ivOK (d : Md) (C : String) (n : Nat) : Prop := mdOK d ∧ Cond.instanceMethod (dy d) ∈ WSg ∧ Cond.selects C (dy d) (dy d) ∈ WSg ∧ pcOK d n
def isOK (d : Md) (n : Nat) : Prop := mdOK d ∧ Cond.static (dy d) ∈ WSg ∧ pcOK d n
def iiOK (d : Md) (n : Nat) : Prop := mdOK d ∧ Cond.instanceMethod (dy d) ∈ WSg ∧ dr d = none ∧ (dy d).name = "<init>" ∧ pcOK d n
abbrev mX0_init : Md := (yX0_init, cX0_init, 1, none, { frames := 1, cells := 0, slots := 0, locals := 20 }, fun _ => True)
theorem tX0_init : iiOK mX0_init 0 := ⟨⟨wsg_in 258 (by decide +kernel) (by decide +kernel), wsg_in 80 (by decide +kernel) (by decide +kernel), by decide +kernel, by decide +kernel⟩, wsg_in 257 (by decide +kernel) (by decide +kernel), rfl, rfl, by decide +kernel⟩
abbrev mX0_draw : Md := (yX0_draw, cX0_draw, 2, some .int, { frames := 1, cells := 0, slots := 0, locals := 22 }, fun _ => True)
theorem tX0_draw : ivOK mX0_draw RX0 1 := ⟨⟨wsg_in 768 (by decide +kernel) (by decide +kernel), wsg_in 80 (by decide +kernel) (by decide +kernel), by decide +kernel, by decide +kernel⟩, wsg_in 767 (by decide +kernel) (by decide +kernel), wsg_in 16 (by decide +kernel) (by decide +kernel), by decide +kernel⟩
abbrev mX0_shapeOfFourTests : Md := (yX0_shapeOfFourTests, cX0_shapeOfFourTests, 6, none, { frames := 3, cells := 0, slots := 0, locals := 69 }, fun _ => True)
theorem tX0_shapeOfFourTests : ivOK mX0_shapeOfFourTests RX0 1 := ⟨⟨wsg_in 763 (by decide +kernel) (by decide +kernel), wsg_in 80 (by decide +kernel) (by decide +kernel), by decide +kernel, by decide +kernel⟩, wsg_in 761 (by decide +kernel) (by decide +kernel), wsg_in 762 (by decide +kernel) (by decide +kernel), by decide +kernel⟩
abbrev mX1_init : Md := (yX1_init, cX1_init, 1, none, { frames := 1, cells := 1, slots := 36, locals := 20 }, fun _ => True)
theorem tX1_init : iiOK mX1_init 0 := ⟨⟨wsg_in 103 (by decide +kernel) (by decide +kernel), wsg_in 73 (by decide +kernel) (by decide +kernel), by decide +kernel, by decide +kernel⟩, wsg_in 102 (by decide +kernel) (by decide +kernel), rfl, rfl, by decide +kernel⟩
abbrev mX1_append : Md := (yX1_append, cX1_append, 2, none, { frames := 0, cells := 0, slots := 0, locals := 0 }, fun _ => True)
theorem tX1_append : ivOK mX1_append RX1 1 := ⟨⟨wsg_in 311 (by decide +kernel) (by decide +kernel), wsg_in 73 (by decide +kernel) (by decide +kernel), by decide +kernel, by decide +kernel⟩, wsg_in 309 (by decide +kernel) (by decide +kernel), wsg_in 310 (by decide +kernel) (by decide +kernel), by decide +kernel⟩
abbrev mX2_init : Md := (yX2_init, cX2_init, 1, none, { frames := 1, cells := 2, slots := 20, locals := 20 }, fun _ => True)
theorem tX2_init : iiOK mX2_init 0 := ⟨⟨wsg_in 227 (by decide +kernel) (by decide +kernel), wsg_in 78 (by decide +kernel) (by decide +kernel), by decide +kernel, by decide +kernel⟩, wsg_in 226 (by decide +kernel) (by decide +kernel), rfl, rfl, by decide +kernel⟩
abbrev mX2_clear : Md := (yX2_clear, cX2_clear, 1, none, { frames := 1, cells := 0, slots := 0, locals := 23 }, fun _ => True)
theorem tX2_clear : ivOK mX2_clear RX2 0 := ⟨⟨wsg_in 498 (by decide +kernel) (by decide +kernel), wsg_in 78 (by decide +kernel) (by decide +kernel), by decide +kernel, by decide +kernel⟩, wsg_in 496 (by decide +kernel) (by decide +kernel), wsg_in 497 (by decide +kernel) (by decide +kernel), by decide +kernel⟩
abbrev mX2_lay : Md := (yX2_lay, cX2_lay, 3, some .int, { frames := 0, cells := 0, slots := 0, locals := 0 }, fun _ => True)
theorem tX2_lay : ivOK mX2_lay RX2 2 := ⟨⟨wsg_in 734 (by decide +kernel) (by decide +kernel), wsg_in 78 (by decide +kernel) (by decide +kernel), by decide +kernel, by decide +kernel⟩, wsg_in 732 (by decide +kernel) (by decide +kernel), wsg_in 733 (by decide +kernel) (by decide +kernel), by decide +kernel⟩
abbrev mX2_stepAt : Md := (yX2_stepAt, cX2_stepAt, 3, some .int, { frames := 0, cells := 0, slots := 0, locals := 0 }, fun _ => True)
theorem tX2_stepAt : ivOK mX2_stepAt RX2 2 := ⟨⟨wsg_in 742 (by decide +kernel) (by decide +kernel), wsg_in 78 (by decide +kernel) (by decide +kernel), by decide +kernel, by decide +kernel⟩, wsg_in 740 (by decide +kernel) (by decide +kernel), wsg_in 741 (by decide +kernel) (by decide +kernel), by decide +kernel⟩
abbrev mX2_countAll : Md := (yX2_countAll, cX2_countAll, 3, some .int, { frames := 0, cells := 0, slots := 0, locals := 0 }, fun _ => True)
theorem tX2_countAll : ivOK mX2_countAll RX2 0 := ⟨⟨wsg_in 811 (by decide +kernel) (by decide +kernel), wsg_in 78 (by decide +kernel) (by decide +kernel), by decide +kernel, by decide +kernel⟩, wsg_in 809 (by decide +kernel) (by decide +kernel), wsg_in 810 (by decide +kernel) (by decide +kernel), by decide +kernel⟩
abbrev mX3_init : Md := (yX3_init, cX3_init, 1, none, { frames := 2, cells := 5, slots := 29, locals := 40 }, fun _ => True)
theorem tX3_init : iiOK mX3_init 0 := ⟨⟨wsg_in 121 (by decide +kernel) (by decide +kernel), wsg_in 74 (by decide +kernel) (by decide +kernel), by decide +kernel, by decide +kernel⟩, wsg_in 120 (by decide +kernel) (by decide +kernel), rfl, rfl, by decide +kernel⟩
abbrev mX3_faultOf : Md := (yX3_faultOf, cX3_faultOf, 3, some .int, { frames := 9, cells := 0, slots := 0, locals := 204 }, fun _ => True)
theorem tX3_faultOf : ivOK mX3_faultOf RX3 1 := ⟨⟨wsg_in 323 (by decide +kernel) (by decide +kernel), wsg_in 74 (by decide +kernel) (by decide +kernel), by decide +kernel, by decide +kernel⟩, wsg_in 321 (by decide +kernel) (by decide +kernel), wsg_in 322 (by decide +kernel) (by decide +kernel), by decide +kernel⟩
abbrev mX3_atAnEnd : Md := (yX3_atAnEnd, cX3_atAnEnd, 1, some .boolean, { frames := 2, cells := 0, slots := 0, locals := 40 }, fun _ => True)
theorem tX3_atAnEnd : ivOK mX3_atAnEnd RX3 0 := ⟨⟨wsg_in 483 (by decide +kernel) (by decide +kernel), wsg_in 74 (by decide +kernel) (by decide +kernel), by decide +kernel, by decide +kernel⟩, wsg_in 481 (by decide +kernel) (by decide +kernel), wsg_in 482 (by decide +kernel) (by decide +kernel), by decide +kernel⟩
abbrev mX3_accepts : Md := (yX3_accepts, cX3_accepts, 4, some .boolean, { frames := 8, cells := 0, slots := 0, locals := 181 }, fun _ => True)
theorem tX3_accepts : ivOK mX3_accepts RX3 1 := ⟨⟨wsg_in 327 (by decide +kernel) (by decide +kernel), wsg_in 74 (by decide +kernel) (by decide +kernel), by decide +kernel, by decide +kernel⟩, wsg_in 326 (by decide +kernel) (by decide +kernel), wsg_in 0 (by decide +kernel) (by decide +kernel), by decide +kernel⟩
abbrev mX3_beginsStep : Md := (yX3_beginsStep, cX3_beginsStep, 3, some .boolean, { frames := 7, cells := 0, slots := 0, locals := 159 }, fun _ => True)
theorem tX3_beginsStep : ivOK mX3_beginsStep RX3 1 := ⟨⟨wsg_in 331 (by decide +kernel) (by decide +kernel), wsg_in 74 (by decide +kernel) (by decide +kernel), by decide +kernel, by decide +kernel⟩, wsg_in 330 (by decide +kernel) (by decide +kernel), wsg_in 1 (by decide +kernel) (by decide +kernel), by decide +kernel⟩
abbrev mX3_goesOn : Md := (yX3_goesOn, cX3_goesOn, 2, some .boolean, { frames := 0, cells := 0, slots := 0, locals := 0 }, fun _ => True)
theorem tX3_goesOn : ivOK mX3_goesOn RX3 1 := ⟨⟨wsg_in 435 (by decide +kernel) (by decide +kernel), wsg_in 74 (by decide +kernel) (by decide +kernel), by decide +kernel, by decide +kernel⟩, wsg_in 434 (by decide +kernel) (by decide +kernel), wsg_in 2 (by decide +kernel) (by decide +kernel), by decide +kernel⟩
abbrev mX3_formOf : Md := (yX3_formOf, cX3_formOf, 1, some (.object "java/lang/String"), { frames := 0, cells := 0, slots := 0, locals := 0 }, fun _ => True)
theorem tX3_formOf : isOK mX3_formOf 1 := ⟨⟨wsg_in 425 (by decide +kernel) (by decide +kernel), wsg_in 74 (by decide +kernel) (by decide +kernel), by decide +kernel, by decide +kernel⟩, wsg_in 424 (by decide +kernel) (by decide +kernel), by decide +kernel⟩
abbrev mX3_fits : Md := (yX3_fits, cX3_fits, 4, some .boolean, { frames := 1, cells := 0, slots := 0, locals := 22 }, fun _ => True)
theorem tX3_fits : ivOK mX3_fits RX3 2 := ⟨⟨wsg_in 459 (by decide +kernel) (by decide +kernel), wsg_in 74 (by decide +kernel) (by decide +kernel), by decide +kernel, by decide +kernel⟩, wsg_in 458 (by decide +kernel) (by decide +kernel), wsg_in 3 (by decide +kernel) (by decide +kernel), by decide +kernel⟩
abbrev mX3_keep : Md := (yX3_keep, cX3_keep, 4, none, { frames := 0, cells := 0, slots := 0, locals := 0 }, fun _ => True)
theorem tX3_keep : ivOK mX3_keep RX3 2 := ⟨⟨wsg_in 466 (by decide +kernel) (by decide +kernel), wsg_in 74 (by decide +kernel) (by decide +kernel), by decide +kernel, by decide +kernel⟩, wsg_in 465 (by decide +kernel) (by decide +kernel), wsg_in 4 (by decide +kernel) (by decide +kernel), by decide +kernel⟩
abbrev mX4_init : Md := (yX4_init, cX4_init, 2, none, { frames := 2, cells := 22, slots := 394, locals := 40 }, fun _ => True)
theorem tX4_init : iiOK mX4_init 0 := ⟨⟨wsg_in 184 (by decide +kernel) (by decide +kernel), wsg_in 76 (by decide +kernel) (by decide +kernel), by decide +kernel, by decide +kernel⟩, wsg_in 183 (by decide +kernel) (by decide +kernel), rfl, rfl, by decide +kernel⟩
abbrev mX4_begin : Md := (yX4_begin, cX4_begin, 1, none, { frames := 2, cells := 0, slots := 0, locals := 44 }, fun _ => True)
theorem tX4_begin : ivOK mX4_begin RX4 0 := ⟨⟨wsg_in 505 (by decide +kernel) (by decide +kernel), wsg_in 76 (by decide +kernel) (by decide +kernel), by decide +kernel, by decide +kernel⟩, wsg_in 503 (by decide +kernel) (by decide +kernel), wsg_in 504 (by decide +kernel) (by decide +kernel), by decide +kernel⟩
abbrev mX4_doStep : Md := (yX4_doStep, cX4_doStep, 5, none, { frames := 3, cells := 0, slots := 0, locals := 81 }, fun _ => True)
theorem tX4_doStep : ivOK mX4_doStep RX4 2 := ⟨⟨wsg_in 524 (by decide +kernel) (by decide +kernel), wsg_in 76 (by decide +kernel) (by decide +kernel), by decide +kernel, by decide +kernel⟩, wsg_in 522 (by decide +kernel) (by decide +kernel), wsg_in 523 (by decide +kernel) (by decide +kernel), by decide +kernel⟩
abbrev mX4_goRound : Md := (yX4_goRound, cX4_goRound, 8, none, { frames := 4, cells := 0, slots := 0, locals := 105 }, fun _ => True)
theorem tX4_goRound : ivOK mX4_goRound RX4 3 := ⟨⟨wsg_in 515 (by decide +kernel) (by decide +kernel), wsg_in 76 (by decide +kernel) (by decide +kernel), by decide +kernel, by decide +kernel⟩, wsg_in 513 (by decide +kernel) (by decide +kernel), wsg_in 514 (by decide +kernel) (by decide +kernel), by decide +kernel⟩
abbrev mX4_pointsAhead : Md := (yX4_pointsAhead, cX4_pointsAhead, 2, some .int, { frames := 3, cells := 0, slots := 0, locals := 70 }, fun _ => True)
theorem tX4_pointsAhead : ivOK mX4_pointsAhead RX4 1 := ⟨⟨wsg_in 652 (by decide +kernel) (by decide +kernel), wsg_in 76 (by decide +kernel) (by decide +kernel), by decide +kernel, by decide +kernel⟩, wsg_in 650 (by decide +kernel) (by decide +kernel), wsg_in 651 (by decide +kernel) (by decide +kernel), by decide +kernel⟩
abbrev mX4_isDead : Md := (yX4_isDead, cX4_isDead, 2, some .boolean, { frames := 0, cells := 0, slots := 0, locals := 0 }, fun _ => True)
theorem tX4_isDead : ivOK mX4_isDead RX4 1 := ⟨⟨wsg_in 593 (by decide +kernel) (by decide +kernel), wsg_in 76 (by decide +kernel) (by decide +kernel), by decide +kernel, by decide +kernel⟩, wsg_in 591 (by decide +kernel) (by decide +kernel), wsg_in 592 (by decide +kernel) (by decide +kernel), by decide +kernel⟩
abbrev mX4_kills : Md := (yX4_kills, cX4_kills, 2, some .boolean, { frames := 0, cells := 0, slots := 0, locals := 0 }, fun _ => True)
theorem tX4_kills : ivOK mX4_kills RX4 1 := ⟨⟨wsg_in 600 (by decide +kernel) (by decide +kernel), wsg_in 76 (by decide +kernel) (by decide +kernel), by decide +kernel, by decide +kernel⟩, wsg_in 598 (by decide +kernel) (by decide +kernel), wsg_in 599 (by decide +kernel) (by decide +kernel), by decide +kernel⟩
abbrev mX4_changesNothing : Md := (yX4_changesNothing, cX4_changesNothing, 4, some .boolean, { frames := 1, cells := 0, slots := 0, locals := 22 }, fun _ => True)
theorem tX4_changesNothing : ivOK mX4_changesNothing RX4 1 := ⟨⟨wsg_in 608 (by decide +kernel) (by decide +kernel), wsg_in 76 (by decide +kernel) (by decide +kernel), by decide +kernel, by decide +kernel⟩, wsg_in 606 (by decide +kernel) (by decide +kernel), wsg_in 607 (by decide +kernel) (by decide +kernel), by decide +kernel⟩
abbrev mX5_init : Md := (yX5_init, cX5_init, 1, none, { frames := 1, cells := 2, slots := 12, locals := 20 }, fun _ => True)
theorem tX5_init : iiOK mX5_init 0 := ⟨⟨wsg_in 241 (by decide +kernel) (by decide +kernel), wsg_in 79 (by decide +kernel) (by decide +kernel), by decide +kernel, by decide +kernel⟩, wsg_in 240 (by decide +kernel) (by decide +kernel), rfl, rfl, by decide +kernel⟩
abbrev mX5_append : Md := (yX5_append, cX5_append, 4, none, { frames := 0, cells := 0, slots := 0, locals := 0 }, fun _ => True)
theorem tX5_append : ivOK mX5_append RX5 3 := ⟨⟨wsg_in 750 (by decide +kernel) (by decide +kernel), wsg_in 79 (by decide +kernel) (by decide +kernel), by decide +kernel, by decide +kernel⟩, wsg_in 748 (by decide +kernel) (by decide +kernel), wsg_in 749 (by decide +kernel) (by decide +kernel), by decide +kernel⟩
abbrev mX5_copy : Md := (yX5_copy, cX5_copy, 2, none, { frames := 1, cells := 0, slots := 0, locals := 60 }, fun _ => True)
theorem tX5_copy : ivOK mX5_copy RX5 1 := ⟨⟨wsg_in 786 (by decide +kernel) (by decide +kernel), wsg_in 79 (by decide +kernel) (by decide +kernel), by decide +kernel, by decide +kernel⟩, wsg_in 784 (by decide +kernel) (by decide +kernel), wsg_in 785 (by decide +kernel) (by decide +kernel), by decide +kernel⟩
abbrev mX5_sortsOf : Md := (yX5_sortsOf, cX5_sortsOf, 4, some .int, { frames := 0, cells := 0, slots := 0, locals := 0 }, fun _ => True)
theorem tX5_sortsOf : ivOK mX5_sortsOf RX5 1 := ⟨⟨wsg_in 612 (by decide +kernel) (by decide +kernel), wsg_in 79 (by decide +kernel) (by decide +kernel), by decide +kernel, by decide +kernel⟩, wsg_in 610 (by decide +kernel) (by decide +kernel), wsg_in 611 (by decide +kernel) (by decide +kernel), by decide +kernel⟩
abbrev mX6_init : Md := (yX6_init, cX6_init, 1, none, { frames := 1, cells := 1, slots := 36, locals := 20 }, fun _ => True)
theorem tX6_init : iiOK mX6_init 0 := ⟨⟨wsg_in 191 (by decide +kernel) (by decide +kernel), wsg_in 77 (by decide +kernel) (by decide +kernel), by decide +kernel, by decide +kernel⟩, wsg_in 190 (by decide +kernel) (by decide +kernel), rfl, rfl, by decide +kernel⟩
abbrev mX6_fill : Md := (yX6_fill, cX6_fill, 2, none, { frames := 1, cells := 0, slots := 0, locals := 23 }, fun _ => True)
theorem tX6_fill : ivOK mX6_fill RX6 0 := ⟨⟨wsg_in 510 (by decide +kernel) (by decide +kernel), wsg_in 77 (by decide +kernel) (by decide +kernel), by decide +kernel, by decide +kernel⟩, wsg_in 508 (by decide +kernel) (by decide +kernel), wsg_in 509 (by decide +kernel) (by decide +kernel), by decide +kernel⟩
abbrev mX6_copy : Md := (yX6_copy, cX6_copy, 2, none, { frames := 1, cells := 0, slots := 0, locals := 60 }, fun _ => True)
theorem tX6_copy : ivOK mX6_copy RX6 1 := ⟨⟨wsg_in 519 (by decide +kernel) (by decide +kernel), wsg_in 77 (by decide +kernel) (by decide +kernel), by decide +kernel, by decide +kernel⟩, wsg_in 517 (by decide +kernel) (by decide +kernel), wsg_in 518 (by decide +kernel) (by decide +kernel), by decide +kernel⟩
abbrev mX6_boundOf : Md := (yX6_boundOf, cX6_boundOf, 3, some .int, { frames := 0, cells := 0, slots := 0, locals := 0 }, fun _ => True)
theorem tX6_boundOf : ivOK mX6_boundOf RX6 2 := ⟨⟨wsg_in 532 (by decide +kernel) (by decide +kernel), wsg_in 77 (by decide +kernel) (by decide +kernel), by decide +kernel, by decide +kernel⟩, wsg_in 530 (by decide +kernel) (by decide +kernel), wsg_in 531 (by decide +kernel) (by decide +kernel), by decide +kernel⟩
abbrev mX6_setBound : Md := (yX6_setBound, cX6_setBound, 4, none, { frames := 0, cells := 0, slots := 0, locals := 0 }, fun _ => True)
theorem tX6_setBound : ivOK mX6_setBound RX6 3 := ⟨⟨wsg_in 536 (by decide +kernel) (by decide +kernel), wsg_in 77 (by decide +kernel) (by decide +kernel), by decide +kernel, by decide +kernel⟩, wsg_in 535 (by decide +kernel) (by decide +kernel), wsg_in 7 (by decide +kernel) (by decide +kernel), by decide +kernel⟩
abbrev mX6_limit : Md := (yX6_limit, cX6_limit, 4, none, { frames := 1, cells := 0, slots := 0, locals := 23 }, fun _ => True)
theorem tX6_limit : ivOK mX6_limit RX6 3 := ⟨⟨wsg_in 528 (by decide +kernel) (by decide +kernel), wsg_in 77 (by decide +kernel) (by decide +kernel), by decide +kernel, by decide +kernel⟩, wsg_in 526 (by decide +kernel) (by decide +kernel), wsg_in 527 (by decide +kernel) (by decide +kernel), by decide +kernel⟩
abbrev mX6_close : Md := (yX6_close, cX6_close, 3, none, { frames := 2, cells := 0, slots := 0, locals := 47 }, fun _ => True)
theorem tX6_close : ivOK mX6_close RX6 0 := ⟨⟨wsg_in 559 (by decide +kernel) (by decide +kernel), wsg_in 77 (by decide +kernel) (by decide +kernel), by decide +kernel, by decide +kernel⟩, wsg_in 557 (by decide +kernel) (by decide +kernel), wsg_in 558 (by decide +kernel) (by decide +kernel), by decide +kernel⟩
abbrev mX6_chainBy : Md := (yX6_chainBy, cX6_chainBy, 6, none, { frames := 1, cells := 0, slots := 0, locals := 22 }, fun _ => True)
theorem tX6_chainBy : ivOK mX6_chainBy RX6 1 := ⟨⟨wsg_in 563 (by decide +kernel) (by decide +kernel), wsg_in 77 (by decide +kernel) (by decide +kernel), by decide +kernel, by decide +kernel⟩, wsg_in 562 (by decide +kernel) (by decide +kernel), wsg_in 10 (by decide +kernel) (by decide +kernel), by decide +kernel⟩
abbrev mX6_lose : Md := (yX6_lose, cX6_lose, 5, none, { frames := 1, cells := 0, slots := 0, locals := 23 }, fun _ => True)
theorem tX6_lose : ivOK mX6_lose RX6 1 := ⟨⟨wsg_in 553 (by decide +kernel) (by decide +kernel), wsg_in 77 (by decide +kernel) (by decide +kernel), by decide +kernel, by decide +kernel⟩, wsg_in 551 (by decide +kernel) (by decide +kernel), wsg_in 552 (by decide +kernel) (by decide +kernel), by decide +kernel⟩
abbrev mX6_assign : Md := (yX6_assign, cX6_assign, 5, none, { frames := 2, cells := 0, slots := 0, locals := 49 }, fun _ => True)
theorem tX6_assign : ivOK mX6_assign RX6 3 := ⟨⟨wsg_in 540 (by decide +kernel) (by decide +kernel), wsg_in 77 (by decide +kernel) (by decide +kernel), by decide +kernel, by decide +kernel⟩, wsg_in 538 (by decide +kernel) (by decide +kernel), wsg_in 539 (by decide +kernel) (by decide +kernel), by decide +kernel⟩
abbrev mX6_turn : Md := (yX6_turn, cX6_turn, 7, none, { frames := 1, cells := 0, slots := 0, locals := 23 }, fun _ => True)
theorem tX6_turn : ivOK mX6_turn RX6 1 := ⟨⟨wsg_in 544 (by decide +kernel) (by decide +kernel), wsg_in 77 (by decide +kernel) (by decide +kernel), by decide +kernel, by decide +kernel⟩, wsg_in 543 (by decide +kernel) (by decide +kernel), wsg_in 8 (by decide +kernel) (by decide +kernel), by decide +kernel⟩
abbrev mX6_shift : Md := (yX6_shift, cX6_shift, 6, none, { frames := 1, cells := 0, slots := 0, locals := 23 }, fun _ => True)
theorem tX6_shift : ivOK mX6_shift RX6 2 := ⟨⟨wsg_in 548 (by decide +kernel) (by decide +kernel), wsg_in 77 (by decide +kernel) (by decide +kernel), by decide +kernel, by decide +kernel⟩, wsg_in 547 (by decide +kernel) (by decide +kernel), wsg_in 9 (by decide +kernel) (by decide +kernel), by decide +kernel⟩
abbrev mX6_join : Md := (yX6_join, cX6_join, 3, none, { frames := 2, cells := 0, slots := 0, locals := 81 }, fun _ => True)
theorem tX6_join : ivOK mX6_join RX6 1 := ⟨⟨wsg_in 567 (by decide +kernel) (by decide +kernel), wsg_in 77 (by decide +kernel) (by decide +kernel), by decide +kernel, by decide +kernel⟩, wsg_in 565 (by decide +kernel) (by decide +kernel), wsg_in 566 (by decide +kernel) (by decide +kernel), by decide +kernel⟩
abbrev mX6_meet : Md := (yX6_meet, cX6_meet, 3, none, { frames := 3, cells := 0, slots := 0, locals := 69 }, fun _ => True)
theorem tX6_meet : ivOK mX6_meet RX6 1 := ⟨⟨wsg_in 695 (by decide +kernel) (by decide +kernel), wsg_in 77 (by decide +kernel) (by decide +kernel), by decide +kernel, by decide +kernel⟩, wsg_in 693 (by decide +kernel) (by decide +kernel), wsg_in 694 (by decide +kernel) (by decide +kernel), by decide +kernel⟩
abbrev mX6_widen : Md := (yX6_widen, cX6_widen, 3, none, { frames := 2, cells := 0, slots := 0, locals := 81 }, fun _ => True)
theorem tX6_widen : ivOK mX6_widen RX6 1 := ⟨⟨wsg_in 577 (by decide +kernel) (by decide +kernel), wsg_in 77 (by decide +kernel) (by decide +kernel), by decide +kernel, by decide +kernel⟩, wsg_in 575 (by decide +kernel) (by decide +kernel), wsg_in 576 (by decide +kernel) (by decide +kernel), by decide +kernel⟩
abbrev mX6_isWithin : Md := (yX6_isWithin, cX6_isWithin, 3, some .boolean, { frames := 0, cells := 0, slots := 0, locals := 0 }, fun _ => True)
theorem tX6_isWithin : ivOK mX6_isWithin RX6 1 := ⟨⟨wsg_in 573 (by decide +kernel) (by decide +kernel), wsg_in 77 (by decide +kernel) (by decide +kernel), by decide +kernel, by decide +kernel⟩, wsg_in 571 (by decide +kernel) (by decide +kernel), wsg_in 572 (by decide +kernel) (by decide +kernel), by decide +kernel⟩
abbrev mX6_contains : Md := (yX6_contains, cX6_contains, 4, some .boolean, { frames := 2, cells := 0, slots := 0, locals := 47 }, fun _ => True)
theorem tX6_contains : ivOK mX6_contains RX6 3 := ⟨⟨wsg_in 675 (by decide +kernel) (by decide +kernel), wsg_in 77 (by decide +kernel) (by decide +kernel), by decide +kernel, by decide +kernel⟩, wsg_in 673 (by decide +kernel) (by decide +kernel), wsg_in 674 (by decide +kernel) (by decide +kernel), by decide +kernel⟩
abbrev mX6_countPoints : Md := (yX6_countPoints, cX6_countPoints, 4, some .int, { frames := 2, cells := 0, slots := 0, locals := 47 }, fun _ => True)
theorem tX6_countPoints : ivOK mX6_countPoints RX6 0 := ⟨⟨wsg_in 656 (by decide +kernel) (by decide +kernel), wsg_in 77 (by decide +kernel) (by decide +kernel), by decide +kernel, by decide +kernel⟩, wsg_in 654 (by decide +kernel) (by decide +kernel), wsg_in 655 (by decide +kernel) (by decide +kernel), by decide +kernel⟩
abbrev mX6_containsPair : Md := (yX6_containsPair, cX6_containsPair, 3, some .boolean, { frames := 1, cells := 0, slots := 0, locals := 22 }, fun _ => True)
theorem tX6_containsPair : ivOK mX6_containsPair RX6 2 := ⟨⟨wsg_in 660 (by decide +kernel) (by decide +kernel), wsg_in 77 (by decide +kernel) (by decide +kernel), by decide +kernel, by decide +kernel⟩, wsg_in 659 (by decide +kernel) (by decide +kernel), wsg_in 14 (by decide +kernel) (by decide +kernel), by decide +kernel⟩
abbrev mX6_roomFor : Md := (yX6_roomFor, cX6_roomFor, 6, some .int, { frames := 1, cells := 0, slots := 0, locals := 22 }, fun _ => True)
theorem tX6_roomFor : ivOK mX6_roomFor RX6 3 := ⟨⟨wsg_in 664 (by decide +kernel) (by decide +kernel), wsg_in 77 (by decide +kernel) (by decide +kernel), by decide +kernel, by decide +kernel⟩, wsg_in 663 (by decide +kernel) (by decide +kernel), wsg_in 15 (by decide +kernel) (by decide +kernel), by decide +kernel⟩
abbrev mX7_init : Md := (yX7_init, cX7_init, 1, none, { frames := 1, cells := 4, slots := 24, locals := 20 }, fun _ => True)
theorem tX7_init : iiOK mX7_init 0 := ⟨⟨wsg_in 127 (by decide +kernel) (by decide +kernel), wsg_in 75 (by decide +kernel) (by decide +kernel), by decide +kernel, by decide +kernel⟩, wsg_in 126 (by decide +kernel) (by decide +kernel), rfl, rfl, by decide +kernel⟩
abbrev mX7_copy : Md := (yX7_copy, cX7_copy, 2, none, { frames := 1, cells := 0, slots := 0, locals := 60 }, fun _ => True)
theorem tX7_copy : ivOK mX7_copy RX7 1 := ⟨⟨wsg_in 487 (by decide +kernel) (by decide +kernel), wsg_in 75 (by decide +kernel) (by decide +kernel), by decide +kernel, by decide +kernel⟩, wsg_in 485 (by decide +kernel) (by decide +kernel), wsg_in 486 (by decide +kernel) (by decide +kernel), by decide +kernel⟩
abbrev mX7_insert : Md := (yX7_insert, cX7_insert, 7, none, { frames := 1, cells := 0, slots := 0, locals := 22 }, fun _ => True)
theorem tX7_insert : ivOK mX7_insert RX7 5 := ⟨⟨wsg_in 470 (by decide +kernel) (by decide +kernel), wsg_in 75 (by decide +kernel) (by decide +kernel), by decide +kernel, by decide +kernel⟩, wsg_in 468 (by decide +kernel) (by decide +kernel), wsg_in 469 (by decide +kernel) (by decide +kernel), by decide +kernel⟩
abbrev mX7_remove : Md := (yX7_remove, cX7_remove, 3, none, { frames := 1, cells := 0, slots := 0, locals := 22 }, fun _ => True)
theorem tX7_remove : ivOK mX7_remove RX7 1 := ⟨⟨wsg_in 722 (by decide +kernel) (by decide +kernel), wsg_in 75 (by decide +kernel) (by decide +kernel), by decide +kernel, by decide +kernel⟩, wsg_in 720 (by decide +kernel) (by decide +kernel), wsg_in 721 (by decide +kernel) (by decide +kernel), by decide +kernel⟩
abbrev mX7_copyStep : Md := (yX7_copyStep, cX7_copyStep, 3, none, { frames := 0, cells := 0, slots := 0, locals := 0 }, fun _ => True)
theorem tX7_copyStep : ivOK mX7_copyStep RX7 2 := ⟨⟨wsg_in 474 (by decide +kernel) (by decide +kernel), wsg_in 75 (by decide +kernel) (by decide +kernel), by decide +kernel, by decide +kernel⟩, wsg_in 473 (by decide +kernel) (by decide +kernel), wsg_in 5 (by decide +kernel) (by decide +kernel), by decide +kernel⟩
abbrev mX7_isAllOfALoop : Md := (yX7_isAllOfALoop, cX7_isAllOfALoop, 3, some .boolean, { frames := 0, cells := 0, slots := 0, locals := 0 }, fun _ => True)
theorem tX7_isAllOfALoop : ivOK mX7_isAllOfALoop RX7 1 := ⟨⟨wsg_in 718 (by decide +kernel) (by decide +kernel), wsg_in 75 (by decide +kernel) (by decide +kernel), by decide +kernel, by decide +kernel⟩, wsg_in 716 (by decide +kernel) (by decide +kernel), wsg_in 717 (by decide +kernel) (by decide +kernel), by decide +kernel⟩
abbrev mX7_behindLastLoop : Md := (yX7_behindLastLoop, cX7_behindLastLoop, 3, some .int, { frames := 0, cells := 0, slots := 0, locals := 0 }, fun _ => True)
theorem tX7_behindLastLoop : ivOK mX7_behindLastLoop RX7 0 := ⟨⟨wsg_in 422 (by decide +kernel) (by decide +kernel), wsg_in 75 (by decide +kernel) (by decide +kernel), by decide +kernel, by decide +kernel⟩, wsg_in 420 (by decide +kernel) (by decide +kernel), wsg_in 421 (by decide +kernel) (by decide +kernel), by decide +kernel⟩
abbrev mX7_countLoops : Md := (yX7_countLoops, cX7_countLoops, 3, some .int, { frames := 0, cells := 0, slots := 0, locals := 0 }, fun _ => True)
theorem tX7_countLoops : ivOK mX7_countLoops RX7 0 := ⟨⟨wsg_in 799 (by decide +kernel) (by decide +kernel), wsg_in 75 (by decide +kernel) (by decide +kernel), by decide +kernel, by decide +kernel⟩, wsg_in 797 (by decide +kernel) (by decide +kernel), wsg_in 798 (by decide +kernel) (by decide +kernel), by decide +kernel⟩
abbrev mX8_init : Md := (yX8_init, cX8_init, 1, none, { frames := 3, cells := 53, slots := 623, locals := 61 }, fun _ => True)
theorem tX8_init : iiOK mX8_init 0 := ⟨⟨wsg_in 95 (by decide +kernel) (by decide +kernel), wsg_in 72 (by decide +kernel) (by decide +kernel), by decide +kernel, by decide +kernel⟩, wsg_in 94 (by decide +kernel) (by decide +kernel), rfl, rfl, by decide +kernel⟩
abbrev mX8_letter : Md := (yX8_letter, cX8_letter, 2, some .int, { frames := 1, cells := 0, slots := 0, locals := 21 }, fun _ => True)
theorem tX8_letter : ivOK mX8_letter RX8 1 := ⟨⟨wsg_in 307 (by decide +kernel) (by decide +kernel), wsg_in 72 (by decide +kernel) (by decide +kernel), by decide +kernel, by decide +kernel⟩, wsg_in 305 (by decide +kernel) (by decide +kernel), wsg_in 306 (by decide +kernel) (by decide +kernel), by decide +kernel⟩
abbrev mX8_blank : Md := (yX8_blank, cX8_blank, 2, some .int, { frames := 0, cells := 0, slots := 0, locals := 0 }, fun _ => True)
theorem tX8_blank : ivOK mX8_blank RX8 0 := ⟨⟨wsg_in 315 (by decide +kernel) (by decide +kernel), wsg_in 72 (by decide +kernel) (by decide +kernel), by decide +kernel, by decide +kernel⟩, wsg_in 313 (by decide +kernel) (by decide +kernel), wsg_in 314 (by decide +kernel) (by decide +kernel), by decide +kernel⟩
abbrev mX8_fault : Md := (yX8_fault, cX8_fault, 1, some .int, { frames := 10, cells := 0, slots := 0, locals := 226 }, fun _ => True)
theorem tX8_fault : ivOK mX8_fault RX8 0 := ⟨⟨wsg_in 319 (by decide +kernel) (by decide +kernel), wsg_in 72 (by decide +kernel) (by decide +kernel), by decide +kernel, by decide +kernel⟩, wsg_in 317 (by decide +kernel) (by decide +kernel), wsg_in 318 (by decide +kernel) (by decide +kernel), by decide +kernel⟩
abbrev mX8_program : Md := (yX8_program, cX8_program, 1, some .int, { frames := 10, cells := 0, slots := 0, locals := 226 }, fun _ => True)
theorem tX8_program : ivOK mX8_program RX8 0 := ⟨⟨wsg_in 479 (by decide +kernel) (by decide +kernel), wsg_in 72 (by decide +kernel) (by decide +kernel), by decide +kernel, by decide +kernel⟩, wsg_in 477 (by decide +kernel) (by decide +kernel), wsg_in 478 (by decide +kernel) (by decide +kernel), by decide +kernel⟩
abbrev mX8_step : Md := (yX8_step, cX8_step, 3, some .int, { frames := 3, cells := 0, slots := 0, locals := 66 }, fun _ => True)
theorem tX8_step : ivOK mX8_step RX8 2 := ⟨⟨wsg_in 582 (by decide +kernel) (by decide +kernel), wsg_in 72 (by decide +kernel) (by decide +kernel), by decide +kernel, by decide +kernel⟩, wsg_in 580 (by decide +kernel) (by decide +kernel), wsg_in 581 (by decide +kernel) (by decide +kernel), by decide +kernel⟩
abbrev mX8_as : Md := (yX8_as, cX8_as, 3, some .int, { frames := 1, cells := 0, slots := 0, locals := 21 }, fun _ => True)
theorem tX8_as : ivOK mX8_as RX8 2 := ⟨⟨wsg_in 628 (by decide +kernel) (by decide +kernel), wsg_in 72 (by decide +kernel) (by decide +kernel), by decide +kernel, by decide +kernel⟩, wsg_in 626 (by decide +kernel) (by decide +kernel), wsg_in 627 (by decide +kernel) (by decide +kernel), by decide +kernel⟩
abbrev mX8_bound : Md := (yX8_bound, cX8_bound, 5, some .int, { frames := 1, cells := 0, slots := 0, locals := 22 }, fun _ => True)
theorem tX8_bound : ivOK mX8_bound RX8 3 := ⟨⟨wsg_in 638 (by decide +kernel) (by decide +kernel), wsg_in 72 (by decide +kernel) (by decide +kernel), by decide +kernel, by decide +kernel⟩, wsg_in 636 (by decide +kernel) (by decide +kernel), wsg_in 637 (by decide +kernel) (by decide +kernel), by decide +kernel⟩
abbrev mX8_points : Md := (yX8_points, cX8_points, 2, some .int, { frames := 4, cells := 0, slots := 0, locals := 91 }, fun _ => True)
theorem tX8_points : ivOK mX8_points RX8 1 := ⟨⟨wsg_in 648 (by decide +kernel) (by decide +kernel), wsg_in 72 (by decide +kernel) (by decide +kernel), by decide +kernel, by decide +kernel⟩, wsg_in 646 (by decide +kernel) (by decide +kernel), wsg_in 647 (by decide +kernel) (by decide +kernel), by decide +kernel⟩
abbrev mX8_has : Md := (yX8_has, cX8_has, 5, some .int, { frames := 3, cells := 0, slots := 0, locals := 70 }, fun _ => True)
theorem tX8_has : ivOK mX8_has RX8 4 := ⟨⟨wsg_in 668 (by decide +kernel) (by decide +kernel), wsg_in 72 (by decide +kernel) (by decide +kernel), by decide +kernel, by decide +kernel⟩, wsg_in 666 (by decide +kernel) (by decide +kernel), wsg_in 667 (by decide +kernel) (by decide +kernel), by decide +kernel⟩
abbrev mX8_share : Md := (yX8_share, cX8_share, 2, some .long, { frames := 4, cells := 0, slots := 0, locals := 91 }, fun _ => True)
theorem tX8_share : ivOK mX8_share RX8 1 := ⟨⟨wsg_in 679 (by decide +kernel) (by decide +kernel), wsg_in 72 (by decide +kernel) (by decide +kernel), by decide +kernel, by decide +kernel⟩, wsg_in 677 (by decide +kernel) (by decide +kernel), wsg_in 678 (by decide +kernel) (by decide +kernel), by decide +kernel⟩
abbrev mX8_compare : Md := (yX8_compare, cX8_compare, 7, some .int, { frames := 4, cells := 0, slots := 0, locals := 91 }, fun _ => True)
theorem tX8_compare : ivOK mX8_compare RX8 2 := ⟨⟨wsg_in 689 (by decide +kernel) (by decide +kernel), wsg_in 72 (by decide +kernel) (by decide +kernel), by decide +kernel, by decide +kernel⟩, wsg_in 687 (by decide +kernel) (by decide +kernel), wsg_in 688 (by decide +kernel) (by decide +kernel), by decide +kernel⟩
abbrev mX8_put : Md := (yX8_put, cX8_put, 8, some .int, { frames := 6, cells := 0, slots := 0, locals := 153 }, fun _ => True)
theorem tX8_put : ivOK mX8_put RX8 5 := ⟨⟨wsg_in 700 (by decide +kernel) (by decide +kernel), wsg_in 72 (by decide +kernel) (by decide +kernel), by decide +kernel, by decide +kernel⟩, wsg_in 698 (by decide +kernel) (by decide +kernel), wsg_in 699 (by decide +kernel) (by decide +kernel), by decide +kernel⟩
abbrev mX8_take : Md := (yX8_take, cX8_take, 2, some .int, { frames := 6, cells := 0, slots := 0, locals := 153 }, fun _ => True)
theorem tX8_take : ivOK mX8_take RX8 1 := ⟨⟨wsg_in 714 (by decide +kernel) (by decide +kernel), wsg_in 72 (by decide +kernel) (by decide +kernel), by decide +kernel, by decide +kernel⟩, wsg_in 712 (by decide +kernel) (by decide +kernel), wsg_in 713 (by decide +kernel) (by decide +kernel), by decide +kernel⟩
abbrev mX8_by : Md := (yX8_by, cX8_by, 3, some .int, { frames := 6, cells := 0, slots := 0, locals := 153 }, fun _ => True)
theorem tX8_by : ivOK mX8_by RX8 2 := ⟨⟨wsg_in 726 (by decide +kernel) (by decide +kernel), wsg_in 72 (by decide +kernel) (by decide +kernel), by decide +kernel, by decide +kernel⟩, wsg_in 724 (by decide +kernel) (by decide +kernel), wsg_in 725 (by decide +kernel) (by decide +kernel), by decide +kernel⟩
abbrev mX8_rack : Md := (yX8_rack, cX8_rack, 3, some .int, { frames := 1, cells := 0, slots := 0, locals := 22 }, fun _ => True)
theorem tX8_rack : ivOK mX8_rack RX8 2 := ⟨⟨wsg_in 730 (by decide +kernel) (by decide +kernel), wsg_in 72 (by decide +kernel) (by decide +kernel), by decide +kernel, by decide +kernel⟩, wsg_in 728 (by decide +kernel) (by decide +kernel), wsg_in 729 (by decide +kernel) (by decide +kernel), by decide +kernel⟩
abbrev mX8_racked : Md := (yX8_racked, cX8_racked, 3, some .int, { frames := 1, cells := 0, slots := 0, locals := 22 }, fun _ => True)
theorem tX8_racked : ivOK mX8_racked RX8 2 := ⟨⟨wsg_in 738 (by decide +kernel) (by decide +kernel), wsg_in 72 (by decide +kernel) (by decide +kernel), by decide +kernel, by decide +kernel⟩, wsg_in 736 (by decide +kernel) (by decide +kernel), wsg_in 737 (by decide +kernel) (by decide +kernel), by decide +kernel⟩
abbrev mX8_see : Md := (yX8_see, cX8_see, 4, some .int, { frames := 1, cells := 0, slots := 0, locals := 23 }, fun _ => True)
theorem tX8_see : ivOK mX8_see RX8 3 := ⟨⟨wsg_in 746 (by decide +kernel) (by decide +kernel), wsg_in 72 (by decide +kernel) (by decide +kernel), by decide +kernel, by decide +kernel⟩, wsg_in 744 (by decide +kernel) (by decide +kernel), wsg_in 745 (by decide +kernel) (by decide +kernel), by decide +kernel⟩
abbrev mX8_forget : Md := (yX8_forget, cX8_forget, 2, some .int, { frames := 0, cells := 0, slots := 0, locals := 0 }, fun _ => True)
theorem tX8_forget : ivOK mX8_forget RX8 0 := ⟨⟨wsg_in 755 (by decide +kernel) (by decide +kernel), wsg_in 72 (by decide +kernel) (by decide +kernel), by decide +kernel, by decide +kernel⟩, wsg_in 753 (by decide +kernel) (by decide +kernel), wsg_in 754 (by decide +kernel) (by decide +kernel), by decide +kernel⟩
abbrev mX8_drawn : Md := (yX8_drawn, cX8_drawn, 7, some .int, { frames := 4, cells := 0, slots := 0, locals := 94 }, fun _ => True)
theorem tX8_drawn : ivOK mX8_drawn RX8 3 := ⟨⟨wsg_in 759 (by decide +kernel) (by decide +kernel), wsg_in 72 (by decide +kernel) (by decide +kernel), by decide +kernel, by decide +kernel⟩, wsg_in 757 (by decide +kernel) (by decide +kernel), wsg_in 758 (by decide +kernel) (by decide +kernel), by decide +kernel⟩
abbrev mX8_image : Md := (yX8_image, cX8_image, 1, some .int, { frames := 2, cells := 0, slots := 0, locals := 81 }, fun _ => True)
theorem tX8_image : ivOK mX8_image RX8 0 := ⟨⟨wsg_in 782 (by decide +kernel) (by decide +kernel), wsg_in 72 (by decide +kernel) (by decide +kernel), by decide +kernel, by decide +kernel⟩, wsg_in 780 (by decide +kernel) (by decide +kernel), wsg_in 781 (by decide +kernel) (by decide +kernel), by decide +kernel⟩
abbrev mX8_restore : Md := (yX8_restore, cX8_restore, 1, some .int, { frames := 6, cells := 0, slots := 0, locals := 153 }, fun _ => True)
theorem tX8_restore : ivOK mX8_restore RX8 0 := ⟨⟨wsg_in 791 (by decide +kernel) (by decide +kernel), wsg_in 72 (by decide +kernel) (by decide +kernel), by decide +kernel, by decide +kernel⟩, wsg_in 789 (by decide +kernel) (by decide +kernel), wsg_in 790 (by decide +kernel) (by decide +kernel), by decide +kernel⟩
abbrev mX8_count : Md := (yX8_count, cX8_count, 2, some .int, { frames := 4, cells := 0, slots := 0, locals := 91 }, fun _ => True)
theorem tX8_count : ivOK mX8_count RX8 1 := ⟨⟨wsg_in 795 (by decide +kernel) (by decide +kernel), wsg_in 72 (by decide +kernel) (by decide +kernel), by decide +kernel, by decide +kernel⟩, wsg_in 793 (by decide +kernel) (by decide +kernel), wsg_in 794 (by decide +kernel) (by decide +kernel), by decide +kernel⟩
abbrev mX8_digest : Md := (yX8_digest, cX8_digest, 5, some .long, { frames := 6, cells := 0, slots := 0, locals := 137 }, fun _ => True)
theorem tX8_digest : ivOK mX8_digest RX8 0 := ⟨⟨wsg_in 815 (by decide +kernel) (by decide +kernel), wsg_in 72 (by decide +kernel) (by decide +kernel), by decide +kernel, by decide +kernel⟩, wsg_in 813 (by decide +kernel) (by decide +kernel), wsg_in 814 (by decide +kernel) (by decide +kernel), by decide +kernel⟩
abbrev mX8_digestOfSteps : Md := (yX8_digestOfSteps, cX8_digestOfSteps, 7, some .long, { frames := 4, cells := 0, slots := 0, locals := 88 }, fun _ => True)
theorem tX8_digestOfSteps : ivOK mX8_digestOfSteps RX8 1 := ⟨⟨wsg_in 820 (by decide +kernel) (by decide +kernel), wsg_in 72 (by decide +kernel) (by decide +kernel), by decide +kernel, by decide +kernel⟩, wsg_in 819 (by decide +kernel) (by decide +kernel), wsg_in 19 (by decide +kernel) (by decide +kernel), by decide +kernel⟩
abbrev mX8_digestOfShapes : Md := (yX8_digestOfShapes, cX8_digestOfShapes, 6, some .long, { frames := 5, cells := 0, slots := 0, locals := 112 }, fun _ => True)
theorem tX8_digestOfShapes : ivOK mX8_digestOfShapes RX8 1 := ⟨⟨wsg_in 826 (by decide +kernel) (by decide +kernel), wsg_in 72 (by decide +kernel) (by decide +kernel), by decide +kernel, by decide +kernel⟩, wsg_in 825 (by decide +kernel) (by decide +kernel), wsg_in 20 (by decide +kernel) (by decide +kernel), by decide +kernel⟩
abbrev mX8_runAgain : Md := (yX8_runAgain, cX8_runAgain, 2, none, { frames := 5, cells := 0, slots := 0, locals := 132 }, fun _ => True)
theorem tX8_runAgain : ivOK mX8_runAgain RX8 0 := ⟨⟨wsg_in 494 (by decide +kernel) (by decide +kernel), wsg_in 72 (by decide +kernel) (by decide +kernel), by decide +kernel, by decide +kernel⟩, wsg_in 493 (by decide +kernel) (by decide +kernel), wsg_in 6 (by decide +kernel) (by decide +kernel), by decide +kernel⟩
end
section
abbrev mX8_isStep : Md := (yX8_isStep, cX8_isStep, 2, some .boolean, { frames := 0, cells := 0, slots := 0, locals := 0 }, fun _ => True)
theorem tX8_isStep : ivOK mX8_isStep RX8 1 := ⟨⟨wsg_in 586 (by decide +kernel) (by decide +kernel), wsg_in 72 (by decide +kernel) (by decide +kernel), by decide +kernel, by decide +kernel⟩, wsg_in 585 (by decide +kernel) (by decide +kernel), wsg_in 11 (by decide +kernel) (by decide +kernel), by decide +kernel⟩
abbrev mX8_hasShape : Md := (yX8_hasShape, cX8_hasShape, 2, some .boolean, { frames := 0, cells := 0, slots := 0, locals := 0 }, fun _ => True)
theorem tX8_hasShape : ivOK mX8_hasShape RX8 1 := ⟨⟨wsg_in 642 (by decide +kernel) (by decide +kernel), wsg_in 72 (by decide +kernel) (by decide +kernel), by decide +kernel, by decide +kernel⟩, wsg_in 641 (by decide +kernel) (by decide +kernel), wsg_in 13 (by decide +kernel) (by decide +kernel), by decide +kernel⟩
abbrev mX8_isIdle : Md := (yX8_isIdle, cX8_isIdle, 2, some .boolean, { frames := 2, cells := 0, slots := 0, locals := 45 }, fun _ => True)
theorem tX8_isIdle : ivOK mX8_isIdle RX8 1 := ⟨⟨wsg_in 604 (by decide +kernel) (by decide +kernel), wsg_in 72 (by decide +kernel) (by decide +kernel), by decide +kernel, by decide +kernel⟩, wsg_in 603 (by decide +kernel) (by decide +kernel), wsg_in 12 (by decide +kernel) (by decide +kernel), by decide +kernel⟩
abbrev mX8_countDead : Md := (yX8_countDead, cX8_countDead, 3, some .int, { frames := 1, cells := 0, slots := 0, locals := 21 }, fun _ => True)
theorem tX8_countDead : ivOK mX8_countDead RX8 0 := ⟨⟨wsg_in 803 (by decide +kernel) (by decide +kernel), wsg_in 72 (by decide +kernel) (by decide +kernel), by decide +kernel, by decide +kernel⟩, wsg_in 802 (by decide +kernel) (by decide +kernel), wsg_in 17 (by decide +kernel) (by decide +kernel), by decide +kernel⟩
abbrev mX8_countIdle : Md := (yX8_countIdle, cX8_countIdle, 3, some .int, { frames := 3, cells := 0, slots := 0, locals := 66 }, fun _ => True)
theorem tX8_countIdle : ivOK mX8_countIdle RX8 0 := ⟨⟨wsg_in 807 (by decide +kernel) (by decide +kernel), wsg_in 72 (by decide +kernel) (by decide +kernel), by decide +kernel, by decide +kernel⟩, wsg_in 806 (by decide +kernel) (by decide +kernel), wsg_in 18 (by decide +kernel) (by decide +kernel), by decide +kernel⟩
abbrev mX8_canBePut : Md := (yX8_canBePut, cX8_canBePut, 5, some .boolean, { frames := 1, cells := 0, slots := 0, locals := 20 }, fun _ => True)
theorem tX8_canBePut : isOK mX8_canBePut 4 := ⟨⟨wsg_in 703 (by decide +kernel) (by decide +kernel), wsg_in 72 (by decide +kernel) (by decide +kernel), by decide +kernel, by decide +kernel⟩, wsg_in 702 (by decide +kernel) (by decide +kernel), by decide +kernel⟩
abbrev mX8_isKind : Md := (yX8_isKind, cX8_isKind, 1, some .boolean, { frames := 0, cells := 0, slots := 0, locals := 0 }, fun _ => True)
theorem tX8_isKind : isOK mX8_isKind 1 := ⟨⟨wsg_in 631 (by decide +kernel) (by decide +kernel), wsg_in 72 (by decide +kernel) (by decide +kernel), by decide +kernel, by decide +kernel⟩, wsg_in 630 (by decide +kernel) (by decide +kernel), by decide +kernel⟩
abbrev mX8_isSigned : Md := (yX8_isSigned, cX8_isSigned, 1, some .boolean, { frames := 0, cells := 0, slots := 0, locals := 0 }, fun _ => True)
theorem tX8_isSigned : isOK mX8_isSigned 1 := ⟨⟨wsg_in 462 (by decide +kernel) (by decide +kernel), wsg_in 72 (by decide +kernel) (by decide +kernel), by decide +kernel, by decide +kernel⟩, wsg_in 461 (by decide +kernel) (by decide +kernel), by decide +kernel⟩
abbrev mX8_isNumber : Md := (yX8_isNumber, cX8_isNumber, 1, some .boolean, { frames := 0, cells := 0, slots := 0, locals := 0 }, fun _ => True)
theorem tX8_isNumber : isOK mX8_isNumber 1 := ⟨⟨wsg_in 671 (by decide +kernel) (by decide +kernel), wsg_in 72 (by decide +kernel) (by decide +kernel), by decide +kernel, by decide +kernel⟩, wsg_in 670 (by decide +kernel) (by decide +kernel), by decide +kernel⟩
abbrev mX8_isBy : Md := (yX8_isBy, cX8_isBy, 1, some .boolean, { frames := 0, cells := 0, slots := 0, locals := 0 }, fun _ => True)
theorem tX8_isBy : isOK mX8_isBy 1 := ⟨⟨wsg_in 709 (by decide +kernel) (by decide +kernel), wsg_in 72 (by decide +kernel) (by decide +kernel), by decide +kernel, by decide +kernel⟩, wsg_in 708 (by decide +kernel) (by decide +kernel), by decide +kernel⟩
abbrev mX8_hasSecond : Md := (yX8_hasSecond, cX8_hasSecond, 1, some .boolean, { frames := 0, cells := 0, slots := 0, locals := 0 }, fun _ => True)
theorem tX8_hasSecond : isOK mX8_hasSecond 1 := ⟨⟨wsg_in 706 (by decide +kernel) (by decide +kernel), wsg_in 72 (by decide +kernel) (by decide +kernel), by decide +kernel, by decide +kernel⟩, wsg_in 705 (by decide +kernel) (by decide +kernel), by decide +kernel⟩
abbrev mX8_hasNumber : Md := (yX8_hasNumber, cX8_hasNumber, 1, some .boolean, { frames := 0, cells := 0, slots := 0, locals := 0 }, fun _ => True)
theorem tX8_hasNumber : isOK mX8_hasNumber 1 := ⟨⟨wsg_in 589 (by decide +kernel) (by decide +kernel), wsg_in 72 (by decide +kernel) (by decide +kernel), by decide +kernel, by decide +kernel⟩, wsg_in 588 (by decide +kernel) (by decide +kernel), by decide +kernel⟩
abbrev mX8_isSuch : Md := (yX8_isSuch, cX8_isSuch, 2, some .boolean, { frames := 0, cells := 0, slots := 0, locals := 0 }, fun _ => True)
theorem tX8_isSuch : isOK mX8_isSuch 2 := ⟨⟨wsg_in 634 (by decide +kernel) (by decide +kernel), wsg_in 72 (by decide +kernel) (by decide +kernel), by decide +kernel, by decide +kernel⟩, wsg_in 633 (by decide +kernel) (by decide +kernel), by decide +kernel⟩
abbrev mX8_asInt : Md := (yX8_asInt, cX8_asInt, 1, some .int, { frames := 0, cells := 0, slots := 0, locals := 0 }, fun _ => True)
theorem tX8_asInt : isOK mX8_asInt 1 := ⟨⟨wsg_in 596 (by decide +kernel) (by decide +kernel), wsg_in 72 (by decide +kernel) (by decide +kernel), by decide +kernel, by decide +kernel⟩, wsg_in 595 (by decide +kernel) (by decide +kernel), by decide +kernel⟩
abbrev mX8_questionFor : Md := (yX8_questionFor, cX8_questionFor, 7, some .int, { frames := 1, cells := 0, slots := 0, locals := 21 }, fun _ => True)
theorem tX8_questionFor : isOK mX8_questionFor 1 := ⟨⟨wsg_in 615 (by decide +kernel) (by decide +kernel), wsg_in 72 (by decide +kernel) (by decide +kernel), by decide +kernel, by decide +kernel⟩, wsg_in 614 (by decide +kernel) (by decide +kernel), by decide +kernel⟩
abbrev mX8_shareBits : Md := (yX8_shareBits, cX8_shareBits, 8, some .long, { frames := 0, cells := 0, slots := 0, locals := 0 }, fun _ => True)
theorem tX8_shareBits : isOK mX8_shareBits 1 := ⟨⟨wsg_in 683 (by decide +kernel) (by decide +kernel), wsg_in 72 (by decide +kernel) (by decide +kernel), by decide +kernel, by decide +kernel⟩, wsg_in 682 (by decide +kernel) (by decide +kernel), by decide +kernel⟩
abbrev mX9_init : Md := (yX9_init, cX9_init, 3, none, { frames := 1, cells := 13, slots := 78882, locals := 21 }, fun _ => True)
theorem tX9_init : iiOK mX9_init 0 := ⟨⟨wsg_in 836 (by decide +kernel) (by decide +kernel), wsg_in 81 (by decide +kernel) (by decide +kernel), by decide +kernel, by decide +kernel⟩, wsg_in 835 (by decide +kernel) (by decide +kernel), rfl, rfl, by decide +kernel⟩
abbrev mX9_in : Md := (yX9_in, cX9_in, 6, some .boolean, { frames := 0, cells := 0, slots := 0, locals := 0 }, fun _ => True)
theorem tX9_in : isOK mX9_in 3 := ⟨⟨wsg_in 937 (by decide +kernel) (by decide +kernel), wsg_in 81 (by decide +kernel) (by decide +kernel), by decide +kernel, by decide +kernel⟩, wsg_in 936 (by decide +kernel) (by decide +kernel), by decide +kernel⟩
abbrev mX9_copy : Md := (yX9_copy, cX9_copy, 3, none, { frames := 0, cells := 0, slots := 0, locals := 0 }, fun _ => True)
theorem tX9_copy : isOK mX9_copy 2 := ⟨⟨wsg_in 998 (by decide +kernel) (by decide +kernel), wsg_in 81 (by decide +kernel) (by decide +kernel), by decide +kernel, by decide +kernel⟩, wsg_in 997 (by decide +kernel) (by decide +kernel), by decide +kernel⟩
abbrev mX9_letter : Md := (yX9_letter, cX9_letter, 2, some .int, { frames := 1, cells := 0, slots := 0, locals := 25 }, fun _ => True)
theorem tX9_letter : ivOK mX9_letter RX9 1 := ⟨⟨wsg_in 933 (by decide +kernel) (by decide +kernel), wsg_in 81 (by decide +kernel) (by decide +kernel), by decide +kernel, by decide +kernel⟩, wsg_in 931 (by decide +kernel) (by decide +kernel), wsg_in 932 (by decide +kernel) (by decide +kernel), by decide +kernel⟩
abbrev mX9_blank : Md := (yX9_blank, cX9_blank, 2, some .int, { frames := 0, cells := 0, slots := 0, locals := 0 }, fun _ => True)
theorem tX9_blank : ivOK mX9_blank RX9 0 := ⟨⟨wsg_in 941 (by decide +kernel) (by decide +kernel), wsg_in 81 (by decide +kernel) (by decide +kernel), by decide +kernel, by decide +kernel⟩, wsg_in 939 (by decide +kernel) (by decide +kernel), wsg_in 940 (by decide +kernel) (by decide +kernel), by decide +kernel⟩
abbrev mX9_kindBy : Md := (yX9_kindBy, cX9_kindBy, 1, some .int, { frames := 0, cells := 0, slots := 0, locals := 0 }, fun _ => True)
theorem tX9_kindBy : isOK mX9_kindBy 1 := ⟨⟨wsg_in 960 (by decide +kernel) (by decide +kernel), wsg_in 81 (by decide +kernel) (by decide +kernel), by decide +kernel, by decide +kernel⟩, wsg_in 959 (by decide +kernel) (by decide +kernel), by decide +kernel⟩
abbrev mX9_longOf : Md := (yX9_longOf, cX9_longOf, 1, some .int, { frames := 0, cells := 0, slots := 0, locals := 0 }, fun _ => True)
theorem tX9_longOf : isOK mX9_longOf 1 := ⟨⟨wsg_in 963 (by decide +kernel) (by decide +kernel), wsg_in 81 (by decide +kernel) (by decide +kernel), by decide +kernel, by decide +kernel⟩, wsg_in 962 (by decide +kernel) (by decide +kernel), by decide +kernel⟩
abbrev mX9_isBegun : Md := (yX9_isBegun, cX9_isBegun, 3, some .boolean, { frames := 1, cells := 0, slots := 0, locals := 20 }, fun _ => True)
theorem tX9_isBegun : ivOK mX9_isBegun RX9 1 := ⟨⟨wsg_in 957 (by decide +kernel) (by decide +kernel), wsg_in 81 (by decide +kernel) (by decide +kernel), by decide +kernel, by decide +kernel⟩, wsg_in 956 (by decide +kernel) (by decide +kernel), wsg_in 23 (by decide +kernel) (by decide +kernel), by decide +kernel⟩
abbrev mX9_endStep : Md := (yX9_endStep, cX9_endStep, 1, none, { frames := 1, cells := 0, slots := 0, locals := 20 }, fun _ => True)
theorem tX9_endStep : ivOK mX9_endStep RX9 0 := ⟨⟨wsg_in 991 (by decide +kernel) (by decide +kernel), wsg_in 81 (by decide +kernel) (by decide +kernel), by decide +kernel, by decide +kernel⟩, wsg_in 990 (by decide +kernel) (by decide +kernel), wsg_in 29 (by decide +kernel) (by decide +kernel), by decide +kernel⟩
abbrev mX9_isFirstDigit : Md := (yX9_isFirstDigit, cX9_isFirstDigit, 2, some .boolean, { frames := 1, cells := 0, slots := 0, locals := 25 }, fun _ => True)
theorem tX9_isFirstDigit : ivOK mX9_isFirstDigit RX9 1 := ⟨⟨wsg_in 971 (by decide +kernel) (by decide +kernel), wsg_in 81 (by decide +kernel) (by decide +kernel), by decide +kernel, by decide +kernel⟩, wsg_in 970 (by decide +kernel) (by decide +kernel), wsg_in 25 (by decide +kernel) (by decide +kernel), by decide +kernel⟩
abbrev mX9_isSecondDigit : Md := (yX9_isSecondDigit, cX9_isSecondDigit, 2, some .boolean, { frames := 1, cells := 0, slots := 0, locals := 25 }, fun _ => True)
theorem tX9_isSecondDigit : ivOK mX9_isSecondDigit RX9 1 := ⟨⟨wsg_in 978 (by decide +kernel) (by decide +kernel), wsg_in 81 (by decide +kernel) (by decide +kernel), by decide +kernel, by decide +kernel⟩, wsg_in 977 (by decide +kernel) (by decide +kernel), wsg_in 26 (by decide +kernel) (by decide +kernel), by decide +kernel⟩
abbrev mX9_isSign : Md := (yX9_isSign, cX9_isSign, 2, some .boolean, { frames := 0, cells := 0, slots := 0, locals := 0 }, fun _ => True)
theorem tX9_isSign : ivOK mX9_isSign RX9 1 := ⟨⟨wsg_in 982 (by decide +kernel) (by decide +kernel), wsg_in 81 (by decide +kernel) (by decide +kernel), by decide +kernel, by decide +kernel⟩, wsg_in 981 (by decide +kernel) (by decide +kernel), wsg_in 27 (by decide +kernel) (by decide +kernel), by decide +kernel⟩
abbrev mX9_isLastDigit : Md := (yX9_isLastDigit, cX9_isLastDigit, 2, some .boolean, { frames := 1, cells := 0, slots := 0, locals := 25 }, fun _ => True)
theorem tX9_isLastDigit : ivOK mX9_isLastDigit RX9 1 := ⟨⟨wsg_in 986 (by decide +kernel) (by decide +kernel), wsg_in 81 (by decide +kernel) (by decide +kernel), by decide +kernel, by decide +kernel⟩, wsg_in 985 (by decide +kernel) (by decide +kernel), wsg_in 28 (by decide +kernel) (by decide +kernel), by decide +kernel⟩
abbrev mX9_isInside : Md := (yX9_isInside, cX9_isInside, 4, some .boolean, { frames := 2, cells := 0, slots := 0, locals := 46 }, fun _ => True)
theorem tX9_isInside : ivOK mX9_isInside RX9 1 := ⟨⟨wsg_in 967 (by decide +kernel) (by decide +kernel), wsg_in 81 (by decide +kernel) (by decide +kernel), by decide +kernel, by decide +kernel⟩, wsg_in 966 (by decide +kernel) (by decide +kernel), wsg_in 24 (by decide +kernel) (by decide +kernel), by decide +kernel⟩
abbrev mX9_isGood : Md := (yX9_isGood, cX9_isGood, 2, some .boolean, { frames := 3, cells := 0, slots := 0, locals := 69 }, fun _ => True)
theorem tX9_isGood : ivOK mX9_isGood RX9 1 := ⟨⟨wsg_in 953 (by decide +kernel) (by decide +kernel), wsg_in 81 (by decide +kernel) (by decide +kernel), by decide +kernel, by decide +kernel⟩, wsg_in 952 (by decide +kernel) (by decide +kernel), wsg_in 22 (by decide +kernel) (by decide +kernel), by decide +kernel⟩
abbrev mX9_faultOf : Md := (yX9_faultOf, cX9_faultOf, 2, some .int, { frames := 4, cells := 0, slots := 0, locals := 90 }, fun _ => True)
theorem tX9_faultOf : ivOK mX9_faultOf RX9 0 := ⟨⟨wsg_in 949 (by decide +kernel) (by decide +kernel), wsg_in 81 (by decide +kernel) (by decide +kernel), by decide +kernel, by decide +kernel⟩, wsg_in 948 (by decide +kernel) (by decide +kernel), wsg_in 21 (by decide +kernel) (by decide +kernel), by decide +kernel⟩
abbrev mX9_fault : Md := (yX9_fault, cX9_fault, 1, some .int, { frames := 5, cells := 0, slots := 0, locals := 111 }, fun _ => True)
theorem tX9_fault : ivOK mX9_fault RX9 0 := ⟨⟨wsg_in 945 (by decide +kernel) (by decide +kernel), wsg_in 81 (by decide +kernel) (by decide +kernel), by decide +kernel, by decide +kernel⟩, wsg_in 943 (by decide +kernel) (by decide +kernel), wsg_in 944 (by decide +kernel) (by decide +kernel), by decide +kernel⟩
abbrev mX9_program : Md := (yX9_program, cX9_program, 1, some .int, { frames := 5, cells := 0, slots := 0, locals := 111 }, fun _ => True)
theorem tX9_program : ivOK mX9_program RX9 0 := ⟨⟨wsg_in 995 (by decide +kernel) (by decide +kernel), wsg_in 81 (by decide +kernel) (by decide +kernel), by decide +kernel, by decide +kernel⟩, wsg_in 993 (by decide +kernel) (by decide +kernel), wsg_in 994 (by decide +kernel) (by decide +kernel), by decide +kernel⟩
abbrev mX9_changed : Md := (yX9_changed, cX9_changed, 2, none, { frames := 0, cells := 0, slots := 0, locals := 0 }, fun _ => True)
theorem tX9_changed : ivOK mX9_changed RX9 0 := ⟨⟨wsg_in 1002 (by decide +kernel) (by decide +kernel), wsg_in 81 (by decide +kernel) (by decide +kernel), by decide +kernel, by decide +kernel⟩, wsg_in 1001 (by decide +kernel) (by decide +kernel), wsg_in 30 (by decide +kernel) (by decide +kernel), by decide +kernel⟩
abbrev mX9_lacks : Md := (yX9_lacks, cX9_lacks, 1, some .boolean, { frames := 0, cells := 0, slots := 0, locals := 0 }, fun _ => True)
theorem tX9_lacks : ivOK mX9_lacks RX9 0 := ⟨⟨wsg_in 1014 (by decide +kernel) (by decide +kernel), wsg_in 81 (by decide +kernel) (by decide +kernel), by decide +kernel, by decide +kernel⟩, wsg_in 1013 (by decide +kernel) (by decide +kernel), wsg_in 32 (by decide +kernel) (by decide +kernel), by decide +kernel⟩
abbrev mX9_isStep : Md := (yX9_isStep, cX9_isStep, 2, some .boolean, { frames := 1, cells := 0, slots := 0, locals := 25 }, fun _ => True)
theorem tX9_isStep : ivOK mX9_isStep RX9 1 := ⟨⟨wsg_in 1147 (by decide +kernel) (by decide +kernel), wsg_in 81 (by decide +kernel) (by decide +kernel), by decide +kernel, by decide +kernel⟩, wsg_in 1146 (by decide +kernel) (by decide +kernel), wsg_in 56 (by decide +kernel) (by decide +kernel), by decide +kernel⟩
abbrev mX9_kind : Md := (yX9_kind, cX9_kind, 2, some .int, { frames := 0, cells := 0, slots := 0, locals := 0 }, fun _ => True)
theorem tX9_kind : ivOK mX9_kind RX9 1 := ⟨⟨wsg_in 1022 (by decide +kernel) (by decide +kernel), wsg_in 81 (by decide +kernel) (by decide +kernel), by decide +kernel, by decide +kernel⟩, wsg_in 1021 (by decide +kernel) (by decide +kernel), wsg_in 34 (by decide +kernel) (by decide +kernel), by decide +kernel⟩
abbrev mX9_one : Md := (yX9_one, cX9_one, 2, some .int, { frames := 0, cells := 0, slots := 0, locals := 0 }, fun _ => True)
theorem tX9_one : ivOK mX9_one RX9 1 := ⟨⟨wsg_in 1030 (by decide +kernel) (by decide +kernel), wsg_in 81 (by decide +kernel) (by decide +kernel), by decide +kernel, by decide +kernel⟩, wsg_in 1029 (by decide +kernel) (by decide +kernel), wsg_in 36 (by decide +kernel) (by decide +kernel), by decide +kernel⟩
abbrev mX9_other : Md := (yX9_other, cX9_other, 2, some .int, { frames := 0, cells := 0, slots := 0, locals := 0 }, fun _ => True)
theorem tX9_other : ivOK mX9_other RX9 1 := ⟨⟨wsg_in 1066 (by decide +kernel) (by decide +kernel), wsg_in 81 (by decide +kernel) (by decide +kernel), by decide +kernel, by decide +kernel⟩, wsg_in 1065 (by decide +kernel) (by decide +kernel), wsg_in 45 (by decide +kernel) (by decide +kernel), by decide +kernel⟩
abbrev mX9_number : Md := (yX9_number, cX9_number, 2, some .int, { frames := 0, cells := 0, slots := 0, locals := 0 }, fun _ => True)
theorem tX9_number : ivOK mX9_number RX9 1 := ⟨⟨wsg_in 1070 (by decide +kernel) (by decide +kernel), wsg_in 81 (by decide +kernel) (by decide +kernel), by decide +kernel, by decide +kernel⟩, wsg_in 1069 (by decide +kernel) (by decide +kernel), wsg_in 46 (by decide +kernel) (by decide +kernel), by decide +kernel⟩
abbrev mX9_value : Md := (yX9_value, cX9_value, 2, some .int, { frames := 0, cells := 0, slots := 0, locals := 0 }, fun _ => True)
theorem tX9_value : isOK mX9_value 2 := ⟨⟨wsg_in 841 (by decide +kernel) (by decide +kernel), wsg_in 81 (by decide +kernel) (by decide +kernel), by decide +kernel, by decide +kernel⟩, wsg_in 840 (by decide +kernel) (by decide +kernel), by decide +kernel⟩
abbrev mX9_signed : Md := (yX9_signed, cX9_signed, 3, some .int, { frames := 0, cells := 0, slots := 0, locals := 0 }, fun _ => True)
theorem tX9_signed : ivOK mX9_signed RX9 2 := ⟨⟨wsg_in 1062 (by decide +kernel) (by decide +kernel), wsg_in 81 (by decide +kernel) (by decide +kernel), by decide +kernel, by decide +kernel⟩, wsg_in 1061 (by decide +kernel) (by decide +kernel), wsg_in 44 (by decide +kernel) (by decide +kernel), by decide +kernel⟩
abbrev mX9_pointOf : Md := (yX9_pointOf, cX9_pointOf, 3, some .int, { frames := 0, cells := 0, slots := 0, locals := 0 }, fun _ => True)
theorem tX9_pointOf : isOK mX9_pointOf 3 := ⟨⟨wsg_in 1119 (by decide +kernel) (by decide +kernel), wsg_in 81 (by decide +kernel) (by decide +kernel), by decide +kernel, by decide +kernel⟩, wsg_in 1118 (by decide +kernel) (by decide +kernel), by decide +kernel⟩
abbrev mX9_withValue : Md := (yX9_withValue, cX9_withValue, 4, some .int, { frames := 1, cells := 0, slots := 0, locals := 21 }, fun _ => True)
theorem tX9_withValue : isOK mX9_withValue 3 := ⟨⟨wsg_in 1077 (by decide +kernel) (by decide +kernel), wsg_in 81 (by decide +kernel) (by decide +kernel), by decide +kernel, by decide +kernel⟩, wsg_in 1076 (by decide +kernel) (by decide +kernel), by decide +kernel⟩
abbrev mX9_pointsIn : Md := (yX9_pointsIn, cX9_pointsIn, 4, some .int, { frames := 0, cells := 0, slots := 0, locals := 0 }, fun _ => True)
theorem tX9_pointsIn : ivOK mX9_pointsIn RX9 1 := ⟨⟨wsg_in 1038 (by decide +kernel) (by decide +kernel), wsg_in 81 (by decide +kernel) (by decide +kernel), by decide +kernel, by decide +kernel⟩, wsg_in 1037 (by decide +kernel) (by decide +kernel), wsg_in 38 (by decide +kernel) (by decide +kernel), by decide +kernel⟩
abbrev mX9_lay : Md := (yX9_lay, cX9_lay, 3, none, { frames := 0, cells := 0, slots := 0, locals := 0 }, fun _ => True)
theorem tX9_lay : ivOK mX9_lay RX9 2 := ⟨⟨wsg_in 1074 (by decide +kernel) (by decide +kernel), wsg_in 81 (by decide +kernel) (by decide +kernel), by decide +kernel, by decide +kernel⟩, wsg_in 1073 (by decide +kernel) (by decide +kernel), wsg_in 47 (by decide +kernel) (by decide +kernel), by decide +kernel⟩
abbrev mX9_doPoint : Md := (yX9_doPoint, cX9_doPoint, 5, none, { frames := 2, cells := 0, slots := 0, locals := 44 }, fun _ => True)
theorem tX9_doPoint : ivOK mX9_doPoint RX9 3 := ⟨⟨wsg_in 1058 (by decide +kernel) (by decide +kernel), wsg_in 81 (by decide +kernel) (by decide +kernel), by decide +kernel, by decide +kernel⟩, wsg_in 1057 (by decide +kernel) (by decide +kernel), wsg_in 43 (by decide +kernel) (by decide +kernel), by decide +kernel⟩
abbrev mX9_doStep : Md := (yX9_doStep, cX9_doStep, 3, none, { frames := 3, cells := 0, slots := 0, locals := 68 }, fun _ => True)
theorem tX9_doStep : ivOK mX9_doStep RX9 1 := ⟨⟨wsg_in 1054 (by decide +kernel) (by decide +kernel), wsg_in 81 (by decide +kernel) (by decide +kernel), by decide +kernel, by decide +kernel⟩, wsg_in 1053 (by decide +kernel) (by decide +kernel), wsg_in 42 (by decide +kernel) (by decide +kernel), by decide +kernel⟩
abbrev mX9_boundIn : Md := (yX9_boundIn, cX9_boundIn, 7, some .int, { frames := 1, cells := 0, slots := 0, locals := 22 }, fun _ => True)
theorem tX9_boundIn : ivOK mX9_boundIn RX9 3 := ⟨⟨wsg_in 1108 (by decide +kernel) (by decide +kernel), wsg_in 81 (by decide +kernel) (by decide +kernel), by decide +kernel, by decide +kernel⟩, wsg_in 1107 (by decide +kernel) (by decide +kernel), wsg_in 54 (by decide +kernel) (by decide +kernel), by decide +kernel⟩
abbrev mX9_raise : Md := (yX9_raise, cX9_raise, 6, none, { frames := 0, cells := 0, slots := 0, locals := 0 }, fun _ => True)
theorem tX9_raise : ivOK mX9_raise RX9 2 := ⟨⟨wsg_in 1046 (by decide +kernel) (by decide +kernel), wsg_in 81 (by decide +kernel) (by decide +kernel), by decide +kernel, by decide +kernel⟩, wsg_in 1045 (by decide +kernel) (by decide +kernel), wsg_in 40 (by decide +kernel) (by decide +kernel), by decide +kernel⟩
abbrev mX9_layBounds : Md := (yX9_layBounds, cX9_layBounds, 4, none, { frames := 1, cells := 0, slots := 0, locals := 25 }, fun _ => True)
theorem tX9_layBounds : ivOK mX9_layBounds RX9 2 := ⟨⟨wsg_in 1042 (by decide +kernel) (by decide +kernel), wsg_in 81 (by decide +kernel) (by decide +kernel), by decide +kernel, by decide +kernel⟩, wsg_in 1041 (by decide +kernel) (by decide +kernel), wsg_in 39 (by decide +kernel) (by decide +kernel), by decide +kernel⟩
abbrev mX9_isBy : Md := (yX9_isBy, cX9_isBy, 5, some .boolean, { frames := 0, cells := 0, slots := 0, locals := 0 }, fun _ => True)
theorem tX9_isBy : ivOK mX9_isBy RX9 2 := ⟨⟨wsg_in 1091 (by decide +kernel) (by decide +kernel), wsg_in 81 (by decide +kernel) (by decide +kernel), by decide +kernel, by decide +kernel⟩, wsg_in 1090 (by decide +kernel) (by decide +kernel), wsg_in 50 (by decide +kernel) (by decide +kernel), by decide +kernel⟩
abbrev mX9_layBy : Md := (yX9_layBy, cX9_layBy, 4, none, { frames := 1, cells := 0, slots := 0, locals := 24 }, fun _ => True)
theorem tX9_layBy : ivOK mX9_layBy RX9 2 := ⟨⟨wsg_in 1087 (by decide +kernel) (by decide +kernel), wsg_in 81 (by decide +kernel) (by decide +kernel), by decide +kernel, by decide +kernel⟩, wsg_in 1086 (by decide +kernel) (by decide +kernel), wsg_in 49 (by decide +kernel) (by decide +kernel), by decide +kernel⟩
abbrev mX9_copyShape : Md := (yX9_copyShape, cX9_copyShape, 4, none, { frames := 0, cells := 0, slots := 0, locals := 0 }, fun _ => True)
theorem tX9_copyShape : ivOK mX9_copyShape RX9 2 := ⟨⟨wsg_in 1034 (by decide +kernel) (by decide +kernel), wsg_in 81 (by decide +kernel) (by decide +kernel), by decide +kernel, by decide +kernel⟩, wsg_in 1033 (by decide +kernel) (by decide +kernel), wsg_in 37 (by decide +kernel) (by decide +kernel), by decide +kernel⟩
abbrev mX9_join : Md := (yX9_join, cX9_join, 5, none, { frames := 2, cells := 0, slots := 0, locals := 48 }, fun _ => True)
theorem tX9_join : ivOK mX9_join RX9 3 := ⟨⟨wsg_in 1083 (by decide +kernel) (by decide +kernel), wsg_in 81 (by decide +kernel) (by decide +kernel), by decide +kernel, by decide +kernel⟩, wsg_in 1082 (by decide +kernel) (by decide +kernel), wsg_in 48 (by decide +kernel) (by decide +kernel), by decide +kernel⟩
abbrev mX9_isLike : Md := (yX9_isLike, cX9_isLike, 4, some .boolean, { frames := 0, cells := 0, slots := 0, locals := 0 }, fun _ => True)
theorem tX9_isLike : ivOK mX9_isLike RX9 2 := ⟨⟨wsg_in 1095 (by decide +kernel) (by decide +kernel), wsg_in 81 (by decide +kernel) (by decide +kernel), by decide +kernel, by decide +kernel⟩, wsg_in 1094 (by decide +kernel) (by decide +kernel), wsg_in 51 (by decide +kernel) (by decide +kernel), by decide +kernel⟩
abbrev mX9_doAll : Md := (yX9_doAll, cX9_doAll, 4, none, { frames := 4, cells := 0, slots := 0, locals := 90 }, fun _ => True)
theorem tX9_doAll : ivOK mX9_doAll RX9 2 := ⟨⟨wsg_in 1050 (by decide +kernel) (by decide +kernel), wsg_in 81 (by decide +kernel) (by decide +kernel), by decide +kernel, by decide +kernel⟩, wsg_in 1049 (by decide +kernel) (by decide +kernel), wsg_in 41 (by decide +kernel) (by decide +kernel), by decide +kernel⟩
abbrev mX9_widen : Md := (yX9_widen, cX9_widen, 3, none, { frames := 2, cells := 0, slots := 0, locals := 48 }, fun _ => True)
theorem tX9_widen : ivOK mX9_widen RX9 1 := ⟨⟨wsg_in 1099 (by decide +kernel) (by decide +kernel), wsg_in 81 (by decide +kernel) (by decide +kernel), by decide +kernel, by decide +kernel⟩, wsg_in 1098 (by decide +kernel) (by decide +kernel), wsg_in 52 (by decide +kernel) (by decide +kernel), by decide +kernel⟩
abbrev mX9_doLoop : Md := (yX9_doLoop, cX9_doLoop, 4, none, { frames := 5, cells := 0, slots := 0, locals := 113 }, fun _ => True)
theorem tX9_doLoop : ivOK mX9_doLoop RX9 1 := ⟨⟨wsg_in 1026 (by decide +kernel) (by decide +kernel), wsg_in 81 (by decide +kernel) (by decide +kernel), by decide +kernel, by decide +kernel⟩, wsg_in 1025 (by decide +kernel) (by decide +kernel), wsg_in 35 (by decide +kernel) (by decide +kernel), by decide +kernel⟩
abbrev mX9_freshen : Md := (yX9_freshen, cX9_freshen, 2, none, { frames := 6, cells := 0, slots := 0, locals := 136 }, fun _ => True)
theorem tX9_freshen : ivOK mX9_freshen RX9 0 := ⟨⟨wsg_in 1018 (by decide +kernel) (by decide +kernel), wsg_in 81 (by decide +kernel) (by decide +kernel), by decide +kernel, by decide +kernel⟩, wsg_in 1017 (by decide +kernel) (by decide +kernel), wsg_in 33 (by decide +kernel) (by decide +kernel), by decide +kernel⟩
abbrev mX9_isPlace : Md := (yX9_isPlace, cX9_isPlace, 2, some .boolean, { frames := 7, cells := 0, slots := 0, locals := 157 }, fun _ => True)
theorem tX9_isPlace : ivOK mX9_isPlace RX9 1 := ⟨⟨wsg_in 1010 (by decide +kernel) (by decide +kernel), wsg_in 81 (by decide +kernel) (by decide +kernel), by decide +kernel, by decide +kernel⟩, wsg_in 1009 (by decide +kernel) (by decide +kernel), wsg_in 31 (by decide +kernel) (by decide +kernel), by decide +kernel⟩
abbrev mX9_boundOf : Md := (yX9_boundOf, cX9_boundOf, 4, some .int, { frames := 2, cells := 0, slots := 0, locals := 48 }, fun _ => True)
theorem tX9_boundOf : ivOK mX9_boundOf RX9 3 := ⟨⟨wsg_in 1104 (by decide +kernel) (by decide +kernel), wsg_in 81 (by decide +kernel) (by decide +kernel), by decide +kernel, by decide +kernel⟩, wsg_in 1103 (by decide +kernel) (by decide +kernel), wsg_in 53 (by decide +kernel) (by decide +kernel), by decide +kernel⟩
abbrev mX9_bound : Md := (yX9_bound, cX9_bound, 4, some .int, { frames := 8, cells := 0, slots := 0, locals := 178 }, fun _ => True)
theorem tX9_bound : ivOK mX9_bound RX9 3 := ⟨⟨wsg_in 1006 (by decide +kernel) (by decide +kernel), wsg_in 81 (by decide +kernel) (by decide +kernel), by decide +kernel, by decide +kernel⟩, wsg_in 1004 (by decide +kernel) (by decide +kernel), wsg_in 1005 (by decide +kernel) (by decide +kernel), by decide +kernel⟩
abbrev mX9_points : Md := (yX9_points, cX9_points, 2, some .int, { frames := 8, cells := 0, slots := 0, locals := 178 }, fun _ => True)
theorem tX9_points : ivOK mX9_points RX9 1 := ⟨⟨wsg_in 1112 (by decide +kernel) (by decide +kernel), wsg_in 81 (by decide +kernel) (by decide +kernel), by decide +kernel, by decide +kernel⟩, wsg_in 1110 (by decide +kernel) (by decide +kernel), wsg_in 1111 (by decide +kernel) (by decide +kernel), by decide +kernel⟩
abbrev mX9_has : Md := (yX9_has, cX9_has, 5, some .int, { frames := 8, cells := 0, slots := 0, locals := 178 }, fun _ => True)
theorem tX9_has : ivOK mX9_has RX9 4 := ⟨⟨wsg_in 1116 (by decide +kernel) (by decide +kernel), wsg_in 81 (by decide +kernel) (by decide +kernel), by decide +kernel, by decide +kernel⟩, wsg_in 1114 (by decide +kernel) (by decide +kernel), wsg_in 1115 (by decide +kernel) (by decide +kernel), by decide +kernel⟩
abbrev mX9_bitsOf : Md := (yX9_bitsOf, cX9_bitsOf, 10, some .long, { frames := 0, cells := 0, slots := 0, locals := 0 }, fun _ => True)
theorem tX9_bitsOf : isOK mX9_bitsOf 1 := ⟨⟨wsg_in 1126 (by decide +kernel) (by decide +kernel), wsg_in 81 (by decide +kernel) (by decide +kernel), by decide +kernel, by decide +kernel⟩, wsg_in 1125 (by decide +kernel) (by decide +kernel), by decide +kernel⟩
abbrev mX9_share : Md := (yX9_share, cX9_share, 2, some .long, { frames := 8, cells := 0, slots := 0, locals := 178 }, fun _ => True)
theorem tX9_share : ivOK mX9_share RX9 1 := ⟨⟨wsg_in 1123 (by decide +kernel) (by decide +kernel), wsg_in 81 (by decide +kernel) (by decide +kernel), by decide +kernel, by decide +kernel⟩, wsg_in 1121 (by decide +kernel) (by decide +kernel), wsg_in 1122 (by decide +kernel) (by decide +kernel), by decide +kernel⟩
abbrev mX9_compareOf : Md := (yX9_compareOf, cX9_compareOf, 9, some .int, { frames := 0, cells := 0, slots := 0, locals := 0 }, fun _ => True)
theorem tX9_compareOf : ivOK mX9_compareOf RX9 2 := ⟨⟨wsg_in 1139 (by decide +kernel) (by decide +kernel), wsg_in 81 (by decide +kernel) (by decide +kernel), by decide +kernel, by decide +kernel⟩, wsg_in 1138 (by decide +kernel) (by decide +kernel), wsg_in 55 (by decide +kernel) (by decide +kernel), by decide +kernel⟩
abbrev mX9_compare : Md := (yX9_compare, cX9_compare, 3, some .int, { frames := 8, cells := 0, slots := 0, locals := 178 }, fun _ => True)
theorem tX9_compare : ivOK mX9_compare RX9 2 := ⟨⟨wsg_in 1135 (by decide +kernel) (by decide +kernel), wsg_in 81 (by decide +kernel) (by decide +kernel), by decide +kernel, by decide +kernel⟩, wsg_in 1133 (by decide +kernel) (by decide +kernel), wsg_in 1134 (by decide +kernel) (by decide +kernel), by decide +kernel⟩
abbrev mX9_dead : Md := (yX9_dead, cX9_dead, 2, some .int, { frames := 0, cells := 0, slots := 0, locals := 0 }, fun _ => True)
theorem tX9_dead : ivOK mX9_dead RX9 1 := ⟨⟨wsg_in 1155 (by decide +kernel) (by decide +kernel), wsg_in 81 (by decide +kernel) (by decide +kernel), by decide +kernel, by decide +kernel⟩, wsg_in 1154 (by decide +kernel) (by decide +kernel), wsg_in 58 (by decide +kernel) (by decide +kernel), by decide +kernel⟩
abbrev mX9_idle : Md := (yX9_idle, cX9_idle, 2, some .int, { frames := 1, cells := 0, slots := 0, locals := 23 }, fun _ => True)
theorem tX9_idle : ivOK mX9_idle RX9 1 := ⟨⟨wsg_in 1159 (by decide +kernel) (by decide +kernel), wsg_in 81 (by decide +kernel) (by decide +kernel), by decide +kernel, by decide +kernel⟩, wsg_in 1158 (by decide +kernel) (by decide +kernel), wsg_in 59 (by decide +kernel) (by decide +kernel), by decide +kernel⟩
abbrev mX9_tellStep : Md := (yX9_tellStep, cX9_tellStep, 3, some .int, { frames := 7, cells := 0, slots := 0, locals := 157 }, fun _ => True)
theorem tX9_tellStep : ivOK mX9_tellStep RX9 2 := ⟨⟨wsg_in 1151 (by decide +kernel) (by decide +kernel), wsg_in 81 (by decide +kernel) (by decide +kernel), by decide +kernel, by decide +kernel⟩, wsg_in 1150 (by decide +kernel) (by decide +kernel), wsg_in 57 (by decide +kernel) (by decide +kernel), by decide +kernel⟩
abbrev mX9_step : Md := (yX9_step, cX9_step, 3, some .int, { frames := 8, cells := 0, slots := 0, locals := 179 }, fun _ => True)
theorem tX9_step : ivOK mX9_step RX9 2 := ⟨⟨wsg_in 1143 (by decide +kernel) (by decide +kernel), wsg_in 81 (by decide +kernel) (by decide +kernel), by decide +kernel, by decide +kernel⟩, wsg_in 1141 (by decide +kernel) (by decide +kernel), wsg_in 1142 (by decide +kernel) (by decide +kernel), by decide +kernel⟩
abbrev mX9_isOf : Md := (yX9_isOf, cX9_isOf, 2, some .boolean, { frames := 0, cells := 0, slots := 0, locals := 0 }, fun _ => True)
theorem tX9_isOf : isOK mX9_isOf 2 := ⟨⟨wsg_in 1181 (by decide +kernel) (by decide +kernel), wsg_in 81 (by decide +kernel) (by decide +kernel), by decide +kernel, by decide +kernel⟩, wsg_in 1180 (by decide +kernel) (by decide +kernel), by decide +kernel⟩
abbrev mX9_as : Md := (yX9_as, cX9_as, 3, some .int, { frames := 2, cells := 0, slots := 0, locals := 46 }, fun _ => True)
theorem tX9_as : ivOK mX9_as RX9 2 := ⟨⟨wsg_in 1177 (by decide +kernel) (by decide +kernel), wsg_in 81 (by decide +kernel) (by decide +kernel), by decide +kernel, by decide +kernel⟩, wsg_in 1175 (by decide +kernel) (by decide +kernel), wsg_in 1176 (by decide +kernel) (by decide +kernel), by decide +kernel⟩
abbrev mX9_isAsTold : Md := (yX9_isAsTold, cX9_isAsTold, 5, some .boolean, { frames := 1, cells := 0, slots := 0, locals := 25 }, fun _ => True)
theorem tX9_isAsTold : isOK mX9_isAsTold 4 := ⟨⟨wsg_in 1188 (by decide +kernel) (by decide +kernel), wsg_in 81 (by decide +kernel) (by decide +kernel), by decide +kernel, by decide +kernel⟩, wsg_in 1187 (by decide +kernel) (by decide +kernel), by decide +kernel⟩
abbrev mX9_put : Md := (yX9_put, cX9_put, 8, some .int, { frames := 2, cells := 0, slots := 0, locals := 49 }, fun _ => True)
theorem tX9_put : ivOK mX9_put RX9 5 := ⟨⟨wsg_in 1185 (by decide +kernel) (by decide +kernel), wsg_in 81 (by decide +kernel) (by decide +kernel), by decide +kernel, by decide +kernel⟩, wsg_in 1183 (by decide +kernel) (by decide +kernel), wsg_in 1184 (by decide +kernel) (by decide +kernel), by decide +kernel⟩
abbrev mX9_take : Md := (yX9_take, cX9_take, 5, some .int, { frames := 2, cells := 0, slots := 0, locals := 46 }, fun _ => True)
theorem tX9_take : ivOK mX9_take RX9 1 := ⟨⟨wsg_in 1195 (by decide +kernel) (by decide +kernel), wsg_in 81 (by decide +kernel) (by decide +kernel), by decide +kernel, by decide +kernel⟩, wsg_in 1193 (by decide +kernel) (by decide +kernel), wsg_in 1194 (by decide +kernel) (by decide +kernel), by decide +kernel⟩
abbrev mX9_by : Md := (yX9_by, cX9_by, 3, some .int, { frames := 7, cells := 0, slots := 0, locals := 157 }, fun _ => True)
theorem tX9_by : ivOK mX9_by RX9 2 := ⟨⟨wsg_in 1199 (by decide +kernel) (by decide +kernel), wsg_in 81 (by decide +kernel) (by decide +kernel), by decide +kernel, by decide +kernel⟩, wsg_in 1197 (by decide +kernel) (by decide +kernel), wsg_in 1198 (by decide +kernel) (by decide +kernel), by decide +kernel⟩
abbrev mX9_rackedOf : Md := (yX9_rackedOf, cX9_rackedOf, 3, some .int, { frames := 0, cells := 0, slots := 0, locals := 0 }, fun _ => True)
theorem tX9_rackedOf : ivOK mX9_rackedOf RX9 1 := ⟨⟨wsg_in 1207 (by decide +kernel) (by decide +kernel), wsg_in 81 (by decide +kernel) (by decide +kernel), by decide +kernel, by decide +kernel⟩, wsg_in 1206 (by decide +kernel) (by decide +kernel), wsg_in 62 (by decide +kernel) (by decide +kernel), by decide +kernel⟩
abbrev mX9_rack : Md := (yX9_rack, cX9_rack, 4, some .int, { frames := 2, cells := 0, slots := 0, locals := 46 }, fun _ => True)
theorem tX9_rack : ivOK mX9_rack RX9 2 := ⟨⟨wsg_in 1203 (by decide +kernel) (by decide +kernel), wsg_in 81 (by decide +kernel) (by decide +kernel), by decide +kernel, by decide +kernel⟩, wsg_in 1201 (by decide +kernel) (by decide +kernel), wsg_in 1202 (by decide +kernel) (by decide +kernel), by decide +kernel⟩
abbrev mX9_racked : Md := (yX9_racked, cX9_racked, 3, some .int, { frames := 1, cells := 0, slots := 0, locals := 25 }, fun _ => True)
theorem tX9_racked : ivOK mX9_racked RX9 2 := ⟨⟨wsg_in 1211 (by decide +kernel) (by decide +kernel), wsg_in 81 (by decide +kernel) (by decide +kernel), by decide +kernel, by decide +kernel⟩, wsg_in 1209 (by decide +kernel) (by decide +kernel), wsg_in 1210 (by decide +kernel) (by decide +kernel), by decide +kernel⟩
abbrev mX9_see : Md := (yX9_see, cX9_see, 4, some .int, { frames := 2, cells := 0, slots := 0, locals := 46 }, fun _ => True)
theorem tX9_see : ivOK mX9_see RX9 3 := ⟨⟨wsg_in 1215 (by decide +kernel) (by decide +kernel), wsg_in 81 (by decide +kernel) (by decide +kernel), by decide +kernel, by decide +kernel⟩, wsg_in 1213 (by decide +kernel) (by decide +kernel), wsg_in 1214 (by decide +kernel) (by decide +kernel), by decide +kernel⟩
abbrev mX9_forget : Md := (yX9_forget, cX9_forget, 2, some .int, { frames := 0, cells := 0, slots := 0, locals := 0 }, fun _ => True)
theorem tX9_forget : ivOK mX9_forget RX9 0 := ⟨⟨wsg_in 1219 (by decide +kernel) (by decide +kernel), wsg_in 81 (by decide +kernel) (by decide +kernel), by decide +kernel, by decide +kernel⟩, wsg_in 1217 (by decide +kernel) (by decide +kernel), wsg_in 1218 (by decide +kernel) (by decide +kernel), by decide +kernel⟩
abbrev mX9_sortsBy : Md := (yX9_sortsBy, cX9_sortsBy, 1, some .int, { frames := 0, cells := 0, slots := 0, locals := 0 }, fun _ => True)
theorem tX9_sortsBy : isOK mX9_sortsBy 1 := ⟨⟨wsg_in 1166 (by decide +kernel) (by decide +kernel), wsg_in 81 (by decide +kernel) (by decide +kernel), by decide +kernel, by decide +kernel⟩, wsg_in 1165 (by decide +kernel) (by decide +kernel), by decide +kernel⟩
end
section
abbrev mX9_sortsOf : Md := (yX9_sortsOf, cX9_sortsOf, 5, some .int, { frames := 1, cells := 0, slots := 0, locals := 20 }, fun _ => True)
theorem tX9_sortsOf : ivOK mX9_sortsOf RX9 1 := ⟨⟨wsg_in 1163 (by decide +kernel) (by decide +kernel), wsg_in 81 (by decide +kernel) (by decide +kernel), by decide +kernel, by decide +kernel⟩, wsg_in 1162 (by decide +kernel) (by decide +kernel), wsg_in 60 (by decide +kernel) (by decide +kernel), by decide +kernel⟩
abbrev mX9_ones : Md := (yX9_ones, cX9_ones, 3, some .int, { frames := 0, cells := 0, slots := 0, locals := 0 }, fun _ => True)
theorem tX9_ones : isOK mX9_ones 1 := ⟨⟨wsg_in 1173 (by decide +kernel) (by decide +kernel), wsg_in 81 (by decide +kernel) (by decide +kernel), by decide +kernel, by decide +kernel⟩, wsg_in 1172 (by decide +kernel) (by decide +kernel), by decide +kernel⟩
abbrev mX9_askOf : Md := (yX9_askOf, cX9_askOf, 9, some .int, { frames := 2, cells := 0, slots := 0, locals := 44 }, fun _ => True)
theorem tX9_askOf : ivOK mX9_askOf RX9 1 := ⟨⟨wsg_in 1170 (by decide +kernel) (by decide +kernel), wsg_in 81 (by decide +kernel) (by decide +kernel), by decide +kernel, by decide +kernel⟩, wsg_in 1169 (by decide +kernel) (by decide +kernel), wsg_in 61 (by decide +kernel) (by decide +kernel), by decide +kernel⟩
abbrev mX9_draw : Md := (yX9_draw, cX9_draw, 2, some .int, { frames := 0, cells := 0, slots := 0, locals := 0 }, fun _ => True)
theorem tX9_draw : ivOK mX9_draw RX9 1 := ⟨⟨wsg_in 1232 (by decide +kernel) (by decide +kernel), wsg_in 81 (by decide +kernel) (by decide +kernel), by decide +kernel, by decide +kernel⟩, wsg_in 1231 (by decide +kernel) (by decide +kernel), wsg_in 64 (by decide +kernel) (by decide +kernel), by decide +kernel⟩
abbrev mX9_drawTest : Md := (yX9_drawTest, cX9_drawTest, 6, none, { frames := 1, cells := 0, slots := 0, locals := 22 }, fun _ => True)
theorem tX9_drawTest : ivOK mX9_drawTest RX9 0 := ⟨⟨wsg_in 1228 (by decide +kernel) (by decide +kernel), wsg_in 81 (by decide +kernel) (by decide +kernel), by decide +kernel, by decide +kernel⟩, wsg_in 1227 (by decide +kernel) (by decide +kernel), wsg_in 63 (by decide +kernel) (by decide +kernel), by decide +kernel⟩
abbrev mX9_drawn : Md := (yX9_drawn, cX9_drawn, 8, some .int, { frames := 2, cells := 0, slots := 0, locals := 47 }, fun _ => True)
theorem tX9_drawn : ivOK mX9_drawn RX9 3 := ⟨⟨wsg_in 1223 (by decide +kernel) (by decide +kernel), wsg_in 81 (by decide +kernel) (by decide +kernel), by decide +kernel, by decide +kernel⟩, wsg_in 1221 (by decide +kernel) (by decide +kernel), wsg_in 1222 (by decide +kernel) (by decide +kernel), by decide +kernel⟩
abbrev mX9_image : Md := (yX9_image, cX9_image, 1, some .int, { frames := 1, cells := 0, slots := 0, locals := 22 }, fun _ => True)
theorem tX9_image : ivOK mX9_image RX9 0 := ⟨⟨wsg_in 1240 (by decide +kernel) (by decide +kernel), wsg_in 81 (by decide +kernel) (by decide +kernel), by decide +kernel, by decide +kernel⟩, wsg_in 1238 (by decide +kernel) (by decide +kernel), wsg_in 1239 (by decide +kernel) (by decide +kernel), by decide +kernel⟩
abbrev mX9_restore : Md := (yX9_restore, cX9_restore, 1, some .int, { frames := 1, cells := 0, slots := 0, locals := 22 }, fun _ => True)
theorem tX9_restore : ivOK mX9_restore RX9 0 := ⟨⟨wsg_in 1244 (by decide +kernel) (by decide +kernel), wsg_in 81 (by decide +kernel) (by decide +kernel), by decide +kernel, by decide +kernel⟩, wsg_in 1242 (by decide +kernel) (by decide +kernel), wsg_in 1243 (by decide +kernel) (by decide +kernel), by decide +kernel⟩
abbrev mX9_stepsBy : Md := (yX9_stepsBy, cX9_stepsBy, 4, some .int, { frames := 2, cells := 0, slots := 0, locals := 44 }, fun _ => True)
theorem tX9_stepsBy : ivOK mX9_stepsBy RX9 1 := ⟨⟨wsg_in 1260 (by decide +kernel) (by decide +kernel), wsg_in 81 (by decide +kernel) (by decide +kernel), by decide +kernel, by decide +kernel⟩, wsg_in 1259 (by decide +kernel) (by decide +kernel), wsg_in 67 (by decide +kernel) (by decide +kernel), by decide +kernel⟩
abbrev mX9_countProgram : Md := (yX9_countProgram, cX9_countProgram, 2, some .int, { frames := 7, cells := 0, slots := 0, locals := 157 }, fun _ => True)
theorem tX9_countProgram : ivOK mX9_countProgram RX9 1 := ⟨⟨wsg_in 1256 (by decide +kernel) (by decide +kernel), wsg_in 81 (by decide +kernel) (by decide +kernel), by decide +kernel, by decide +kernel⟩, wsg_in 1255 (by decide +kernel) (by decide +kernel), wsg_in 66 (by decide +kernel) (by decide +kernel), by decide +kernel⟩
abbrev mX9_rackedAll : Md := (yX9_rackedAll, cX9_rackedAll, 3, some .int, { frames := 1, cells := 0, slots := 0, locals := 22 }, fun _ => True)
theorem tX9_rackedAll : ivOK mX9_rackedAll RX9 0 := ⟨⟨wsg_in 1264 (by decide +kernel) (by decide +kernel), wsg_in 81 (by decide +kernel) (by decide +kernel), by decide +kernel, by decide +kernel⟩, wsg_in 1263 (by decide +kernel) (by decide +kernel), wsg_in 68 (by decide +kernel) (by decide +kernel), by decide +kernel⟩
abbrev mX9_countOf : Md := (yX9_countOf, cX9_countOf, 2, some .int, { frames := 8, cells := 0, slots := 0, locals := 178 }, fun _ => True)
theorem tX9_countOf : ivOK mX9_countOf RX9 1 := ⟨⟨wsg_in 1252 (by decide +kernel) (by decide +kernel), wsg_in 81 (by decide +kernel) (by decide +kernel), by decide +kernel, by decide +kernel⟩, wsg_in 1251 (by decide +kernel) (by decide +kernel), wsg_in 65 (by decide +kernel) (by decide +kernel), by decide +kernel⟩
abbrev mX9_count : Md := (yX9_count, cX9_count, 2, some .int, { frames := 9, cells := 0, slots := 0, locals := 199 }, fun _ => True)
theorem tX9_count : ivOK mX9_count RX9 1 := ⟨⟨wsg_in 1248 (by decide +kernel) (by decide +kernel), wsg_in 81 (by decide +kernel) (by decide +kernel), by decide +kernel, by decide +kernel⟩, wsg_in 1246 (by decide +kernel) (by decide +kernel), wsg_in 1247 (by decide +kernel) (by decide +kernel), by decide +kernel⟩
abbrev mX9_say : Md := (yX9_say, cX9_say, 3, none, { frames := 0, cells := 0, slots := 0, locals := 0 }, fun _ => True)
theorem tX9_say : ivOK mX9_say RX9 1 := ⟨⟨wsg_in 1273 (by decide +kernel) (by decide +kernel), wsg_in 81 (by decide +kernel) (by decide +kernel), by decide +kernel, by decide +kernel⟩, wsg_in 1272 (by decide +kernel) (by decide +kernel), wsg_in 69 (by decide +kernel) (by decide +kernel), by decide +kernel⟩
abbrev mX9_sayPlaces : Md := (yX9_sayPlaces, cX9_sayPlaces, 2, none, { frames := 7, cells := 0, slots := 0, locals := 157 }, fun _ => True)
theorem tX9_sayPlaces : ivOK mX9_sayPlaces RX9 0 := ⟨⟨wsg_in 1278 (by decide +kernel) (by decide +kernel), wsg_in 81 (by decide +kernel) (by decide +kernel), by decide +kernel, by decide +kernel⟩, wsg_in 1277 (by decide +kernel) (by decide +kernel), wsg_in 70 (by decide +kernel) (by decide +kernel), by decide +kernel⟩
abbrev mX9_digest : Md := (yX9_digest, cX9_digest, 3, some .long, { frames := 9, cells := 0, slots := 0, locals := 199 }, fun _ => True)
theorem tX9_digest : ivOK mX9_digest RX9 0 := ⟨⟨wsg_in 1268 (by decide +kernel) (by decide +kernel), wsg_in 81 (by decide +kernel) (by decide +kernel), by decide +kernel, by decide +kernel⟩, wsg_in 1266 (by decide +kernel) (by decide +kernel), wsg_in 1267 (by decide +kernel) (by decide +kernel), by decide +kernel⟩
abbrev mJ11_isValidCodePoint_9a6ad : Md := (yJ11_isValidCodePoint_9a6ad, cJ11_isValidCodePoint_9a6ad, 2, some .boolean, { frames := 0, cells := 0, slots := 0, locals := 0 }, fun _ => True)
theorem tJ11_isValidCodePoint_9a6ad : isOK mJ11_isValidCodePoint_9a6ad 1 := ⟨⟨wsg_in 410 (by decide +kernel) (by decide +kernel), wsg_in 87 (by decide +kernel) (by decide +kernel), by decide +kernel, by decide +kernel⟩, wsg_in 409 (by decide +kernel) (by decide +kernel), by decide +kernel⟩
abbrev mJ11_highSurrogate_5068e : Md := (yJ11_highSurrogate_5068e, cJ11_highSurrogate_5068e, 1, some .char, { frames := 0, cells := 0, slots := 0, locals := 0 }, fun _ => True)
theorem tJ11_highSurrogate_5068e : isOK mJ11_highSurrogate_5068e 1 := ⟨⟨wsg_in 413 (by decide +kernel) (by decide +kernel), wsg_in 87 (by decide +kernel) (by decide +kernel), by decide +kernel, by decide +kernel⟩, wsg_in 412 (by decide +kernel) (by decide +kernel), by decide +kernel⟩
abbrev mJ11_lowSurrogate_5068e : Md := (yJ11_lowSurrogate_5068e, cJ11_lowSurrogate_5068e, 1, some .char, { frames := 0, cells := 0, slots := 0, locals := 0 }, fun _ => True)
theorem tJ11_lowSurrogate_5068e : isOK mJ11_lowSurrogate_5068e 1 := ⟨⟨wsg_in 417 (by decide +kernel) (by decide +kernel), wsg_in 87 (by decide +kernel) (by decide +kernel), by decide +kernel, by decide +kernel⟩, wsg_in 416 (by decide +kernel) (by decide +kernel), by decide +kernel⟩
abbrev mJ6_bitCount_0f7a4 : Md := (yJ6_bitCount_0f7a4, cJ6_bitCount_0f7a4, 1, some .int, { frames := 0, cells := 0, slots := 0, locals := 0 }, fun _ => True)
theorem tJ6_bitCount_0f7a4 : isOK mJ6_bitCount_0f7a4 1 := ⟨⟨wsg_in 620 (by decide +kernel) (by decide +kernel), wsg_in 90 (by decide +kernel) (by decide +kernel), by decide +kernel, by decide +kernel⟩, wsg_in 619 (by decide +kernel) (by decide +kernel), by decide +kernel⟩
abbrev mJ9_floorMod_7cf53 : Md := (yJ9_floorMod_7cf53, cJ9_floorMod_7cf53, 3, some .int, { frames := 0, cells := 0, slots := 0, locals := 0 }, fun _ => True)
theorem tJ9_floorMod_7cf53 : isOK mJ9_floorMod_7cf53 2 := ⟨⟨wsg_in 775 (by decide +kernel) (by decide +kernel), wsg_in 84 (by decide +kernel) (by decide +kernel), by decide +kernel, by decide +kernel⟩, wsg_in 774 (by decide +kernel) (by decide +kernel), by decide +kernel⟩
abbrev mJ9_max_7cf53 : Md := (yJ9_max_7cf53, cJ9_max_7cf53, 2, some .int, { frames := 0, cells := 0, slots := 0, locals := 0 }, fun _ => True)
theorem tJ9_max_7cf53 : isOK mJ9_max_7cf53 2 := ⟨⟨wsg_in 363 (by decide +kernel) (by decide +kernel), wsg_in 84 (by decide +kernel) (by decide +kernel), by decide +kernel, by decide +kernel⟩, wsg_in 362 (by decide +kernel) (by decide +kernel), by decide +kernel⟩
abbrev mJ9_min_7cf53 : Md := (yJ9_min_7cf53, cJ9_min_7cf53, 2, some .int, { frames := 0, cells := 0, slots := 0, locals := 0 }, fun _ => True)
theorem tJ9_min_7cf53 : isOK mJ9_min_7cf53 2 := ⟨⟨wsg_in 366 (by decide +kernel) (by decide +kernel), wsg_in 84 (by decide +kernel) (by decide +kernel), by decide +kernel, by decide +kernel⟩, wsg_in 365 (by decide +kernel) (by decide +kernel), by decide +kernel⟩
abbrev mJ0_length_8abf5 : Md := (yJ0_length_8abf5, cJ0_length_8abf5, 1, some .int, { frames := 1, cells := 0, slots := 0, locals := 20 }, fun _ => True)
theorem tJ0_length_8abf5 : ivOK mJ0_length_8abf5 RJ0 0 := ⟨⟨wsg_in 350 (by decide +kernel) (by decide +kernel), wsg_in 82 (by decide +kernel) (by decide +kernel), by decide +kernel, by decide +kernel⟩, wsg_in 348 (by decide +kernel) (by decide +kernel), wsg_in 349 (by decide +kernel) (by decide +kernel), by decide +kernel⟩
abbrev mJ0_charAt_5068e : Md := (yJ0_charAt_5068e, cJ0_charAt_5068e, 2, some .char, { frames := 4, cells := 0, slots := 0, locals := 85 }, fun _ => True)
theorem tJ0_charAt_5068e : ivOK mJ0_charAt_5068e RJ0 1 := ⟨⟨wsg_in 439 (by decide +kernel) (by decide +kernel), wsg_in 82 (by decide +kernel) (by decide +kernel), by decide +kernel, by decide +kernel⟩, wsg_in 437 (by decide +kernel) (by decide +kernel), wsg_in 438 (by decide +kernel) (by decide +kernel), by decide +kernel⟩
abbrev mJ0_indexOf_0f7a4 : Md := (yJ0_indexOf_0f7a4, cJ0_indexOf_0f7a4, 2, some .int, { frames := 6, cells := 0, slots := 0, locals := 138 }, fun _ => True)
theorem tJ0_indexOf_0f7a4 : ivOK mJ0_indexOf_0f7a4 RJ0 1 := ⟨⟨wsg_in 336 (by decide +kernel) (by decide +kernel), wsg_in 82 (by decide +kernel) (by decide +kernel), by decide +kernel, by decide +kernel⟩, wsg_in 334 (by decide +kernel) (by decide +kernel), wsg_in 335 (by decide +kernel) (by decide +kernel), by decide +kernel⟩
abbrev mJ0_indexOf_7cf53 : Md := (yJ0_indexOf_7cf53, cJ0_indexOf_7cf53, 3, some .int, { frames := 5, cells := 0, slots := 0, locals := 116 }, fun _ => True)
theorem tJ0_indexOf_7cf53 : ivOK mJ0_indexOf_7cf53 RJ0 2 := ⟨⟨wsg_in 340 (by decide +kernel) (by decide +kernel), wsg_in 82 (by decide +kernel) (by decide +kernel), by decide +kernel, by decide +kernel⟩, wsg_in 338 (by decide +kernel) (by decide +kernel), wsg_in 339 (by decide +kernel) (by decide +kernel), by decide +kernel⟩
abbrev mJ0_coder_7d493 : Md := (yJ0_coder_7d493, cJ0_coder_7d493, 1, some .byte, { frames := 0, cells := 0, slots := 0, locals := 0 }, fun _ => True)
theorem tJ0_coder_7d493 : ivOK mJ0_coder_7d493 RJ0 0 := ⟨⟨wsg_in 354 (by decide +kernel) (by decide +kernel), wsg_in 82 (by decide +kernel) (by decide +kernel), by decide +kernel, by decide +kernel⟩, wsg_in 352 (by decide +kernel) (by decide +kernel), wsg_in 353 (by decide +kernel) (by decide +kernel), by decide +kernel⟩
abbrev mJ0_isLatin1_aae02 : Md := (yJ0_isLatin1_aae02, cJ0_isLatin1_aae02, 1, some .boolean, { frames := 0, cells := 0, slots := 0, locals := 0 }, fun _ => True)
theorem tJ0_isLatin1_aae02 : ivOK mJ0_isLatin1_aae02 RJ0 0 := ⟨⟨wsg_in 344 (by decide +kernel) (by decide +kernel), wsg_in 82 (by decide +kernel) (by decide +kernel), by decide +kernel, by decide +kernel⟩, wsg_in 342 (by decide +kernel) (by decide +kernel), wsg_in 343 (by decide +kernel) (by decide +kernel), by decide +kernel⟩
abbrev mJ0_checkIndex_df160 : Md := (yJ0_checkIndex_df160, cJ0_checkIndex_df160, 2, none, { frames := 1, cells := 0, slots := 0, locals := 22 }, fun _ => True)
theorem tJ0_checkIndex_df160 : isOK mJ0_checkIndex_df160 2 := ⟨⟨wsg_in 445 (by decide +kernel) (by decide +kernel), wsg_in 82 (by decide +kernel) (by decide +kernel), by decide +kernel, by decide +kernel⟩, wsg_in 444 (by decide +kernel) (by decide +kernel), by decide +kernel⟩
abbrev mJ0_checkBoundsBeginEnd_23922 : Md := (yJ0_checkBoundsBeginEnd_23922, cJ0_checkBoundsBeginEnd_23922, 3, none, { frames := 1, cells := 0, slots := 0, locals := 23 }, fun _ => True)
theorem tJ0_checkBoundsBeginEnd_23922 : isOK mJ0_checkBoundsBeginEnd_23922 3 := ⟨⟨wsg_in 387 (by decide +kernel) (by decide +kernel), wsg_in 82 (by decide +kernel) (by decide +kernel), by decide +kernel, by decide +kernel⟩, wsg_in 386 (by decide +kernel) (by decide +kernel), by decide +kernel⟩
abbrev mJ1_charAt_3b067 : Md := (yJ1_charAt_3b067, cJ1_charAt_3b067, 2, some .char, { frames := 2, cells := 0, slots := 0, locals := 43 }, fun _ => True)
theorem tJ1_charAt_3b067 : isOK mJ1_charAt_3b067 2 := ⟨⟨wsg_in 442 (by decide +kernel) (by decide +kernel), wsg_in 83 (by decide +kernel) (by decide +kernel), by decide +kernel, by decide +kernel⟩, wsg_in 441 (by decide +kernel) (by decide +kernel), by decide +kernel⟩
abbrev mJ1_canEncode_9a6ad : Md := (yJ1_canEncode_9a6ad, cJ1_canEncode_9a6ad, 1, some .boolean, { frames := 0, cells := 0, slots := 0, locals := 0 }, fun _ => True)
theorem tJ1_canEncode_9a6ad : isOK mJ1_canEncode_9a6ad 1 := ⟨⟨wsg_in 360 (by decide +kernel) (by decide +kernel), wsg_in 83 (by decide +kernel) (by decide +kernel), by decide +kernel, by decide +kernel⟩, wsg_in 359 (by decide +kernel) (by decide +kernel), by decide +kernel⟩
abbrev mJ1_indexOf_4cfef : Md := (yJ1_indexOf_4cfef, cJ1_indexOf_4cfef, 4, some .int, { frames := 1, cells := 0, slots := 0, locals := 25 }, fun _ => True)
theorem tJ1_indexOf_4cfef : isOK mJ1_indexOf_4cfef 4 := ⟨⟨wsg_in 357 (by decide +kernel) (by decide +kernel), wsg_in 83 (by decide +kernel) (by decide +kernel), by decide +kernel, by decide +kernel⟩, wsg_in 356 (by decide +kernel) (by decide +kernel), by decide +kernel⟩
abbrev mJ1_indexOfChar_4cfef : Md := (yJ1_indexOfChar_4cfef, cJ1_indexOfChar_4cfef, 6, some .int, { frames := 0, cells := 0, slots := 0, locals := 0 }, fun _ => True)
theorem tJ1_indexOfChar_4cfef : isOK mJ1_indexOfChar_4cfef 4 := ⟨⟨wsg_in 369 (by decide +kernel) (by decide +kernel), wsg_in 83 (by decide +kernel) (by decide +kernel), by decide +kernel, by decide +kernel⟩, wsg_in 368 (by decide +kernel) (by decide +kernel), by decide +kernel⟩
abbrev mJ2_getChar_3b067 : Md := (yJ2_getChar_3b067, cJ2_getChar_3b067, 2, some .char, { frames := 1, cells := 0, slots := 0, locals := 20 }, fun _ => True)
theorem tJ2_getChar_3b067 : isOK mJ2_getChar_3b067 2 := ⟨⟨wsg_in 398 (by decide +kernel) (by decide +kernel), wsg_in 85 (by decide +kernel) (by decide +kernel), by decide +kernel, by decide +kernel⟩, wsg_in 397 (by decide +kernel) (by decide +kernel), by decide +kernel⟩
abbrev mJ2_length_9d52b : Md := (yJ2_length_9d52b, cJ2_length_9d52b, 1, some .int, { frames := 0, cells := 0, slots := 0, locals := 0 }, fun _ => True)
theorem tJ2_length_9d52b : isOK mJ2_length_9d52b 1 := ⟨⟨wsg_in 384 (by decide +kernel) (by decide +kernel), wsg_in 85 (by decide +kernel) (by decide +kernel), by decide +kernel, by decide +kernel⟩, wsg_in 383 (by decide +kernel) (by decide +kernel), by decide +kernel⟩
abbrev mJ2_indexOf_4cfef : Md := (yJ2_indexOf_4cfef, cJ2_indexOf_4cfef, 4, some .int, { frames := 4, cells := 0, slots := 0, locals := 93 }, fun _ => True)
theorem tJ2_indexOf_4cfef : isOK mJ2_indexOf_4cfef 4 := ⟨⟨wsg_in 372 (by decide +kernel) (by decide +kernel), wsg_in 85 (by decide +kernel) (by decide +kernel), by decide +kernel, by decide +kernel⟩, wsg_in 371 (by decide +kernel) (by decide +kernel), by decide +kernel⟩
abbrev mJ2_indexOfChar_4cfef : Md := (yJ2_indexOfChar_4cfef, cJ2_indexOfChar_4cfef, 4, some .int, { frames := 3, cells := 0, slots := 0, locals := 67 }, fun _ => True)
theorem tJ2_indexOfChar_4cfef : isOK mJ2_indexOfChar_4cfef 4 := ⟨⟨wsg_in 378 (by decide +kernel) (by decide +kernel), wsg_in 85 (by decide +kernel) (by decide +kernel), by decide +kernel, by decide +kernel⟩, wsg_in 377 (by decide +kernel) (by decide +kernel), by decide +kernel⟩
abbrev mJ2_indexOfCharUnsafe_4cfef : Md := (yJ2_indexOfCharUnsafe_4cfef, cJ2_indexOfCharUnsafe_4cfef, 5, some .int, { frames := 2, cells := 0, slots := 0, locals := 41 }, fun _ => True)
theorem tJ2_indexOfCharUnsafe_4cfef : isOK mJ2_indexOfCharUnsafe_4cfef 4 := ⟨⟨wsg_in 395 (by decide +kernel) (by decide +kernel), wsg_in 85 (by decide +kernel) (by decide +kernel), by decide +kernel, by decide +kernel⟩, wsg_in 394 (by decide +kernel) (by decide +kernel), by decide +kernel⟩
abbrev mJ2_indexOfSupplementary_4cfef : Md := (yJ2_indexOfSupplementary_4cfef, cJ2_indexOfSupplementary_4cfef, 7, some .int, { frames := 3, cells := 0, slots := 0, locals := 67 }, fun _ => True)
theorem tJ2_indexOfSupplementary_4cfef : isOK mJ2_indexOfSupplementary_4cfef 4 := ⟨⟨wsg_in 407 (by decide +kernel) (by decide +kernel), wsg_in 85 (by decide +kernel) (by decide +kernel), by decide +kernel, by decide +kernel⟩, wsg_in 406 (by decide +kernel) (by decide +kernel), by decide +kernel⟩
abbrev mJ2_charAt_3b067 : Md := (yJ2_charAt_3b067, cJ2_charAt_3b067, 2, some .char, { frames := 3, cells := 0, slots := 0, locals := 64 }, fun _ => True)
theorem tJ2_charAt_3b067 : isOK mJ2_charAt_3b067 2 := ⟨⟨wsg_in 451 (by decide +kernel) (by decide +kernel), wsg_in 85 (by decide +kernel) (by decide +kernel), by decide +kernel, by decide +kernel⟩, wsg_in 450 (by decide +kernel) (by decide +kernel), by decide +kernel⟩
abbrev mJ2_checkIndex_2214a : Md := (yJ2_checkIndex_2214a, cJ2_checkIndex_2214a, 2, none, { frames := 2, cells := 0, slots := 0, locals := 43 }, fun _ => True)
theorem tJ2_checkIndex_2214a : isOK mJ2_checkIndex_2214a 2 := ⟨⟨wsg_in 454 (by decide +kernel) (by decide +kernel), wsg_in 85 (by decide +kernel) (by decide +kernel), by decide +kernel, by decide +kernel⟩, wsg_in 453 (by decide +kernel) (by decide +kernel), by decide +kernel⟩
abbrev mJ2_checkBoundsBeginEnd_d044e : Md := (yJ2_checkBoundsBeginEnd_d044e, cJ2_checkBoundsBeginEnd_d044e, 3, none, { frames := 2, cells := 0, slots := 0, locals := 45 }, fun _ => True)
theorem tJ2_checkBoundsBeginEnd_d044e : isOK mJ2_checkBoundsBeginEnd_d044e 3 := ⟨⟨wsg_in 381 (by decide +kernel) (by decide +kernel), wsg_in 85 (by decide +kernel) (by decide +kernel), by decide +kernel, by decide +kernel⟩, wsg_in 380 (by decide +kernel) (by decide +kernel), by decide +kernel⟩
abbrev mJ7_fill_53178 : Md := (yJ7_fill_53178, cJ7_fill_53178, 4, none, { frames := 0, cells := 0, slots := 0, locals := 0 }, fun _ => True)
theorem tJ7_fill_53178 : isOK mJ7_fill_53178 2 := ⟨⟨wsg_in 501 (by decide +kernel) (by decide +kernel), wsg_in 89 (by decide +kernel) (by decide +kernel), by decide +kernel, by decide +kernel⟩, wsg_in 500 (by decide +kernel) (by decide +kernel), by decide +kernel⟩
abbrev mJ3_checkIndex_8e157 : Md := (yJ3_checkIndex_8e157, cJ3_checkIndex_8e157, 3, some .int, { frames := 0, cells := 0, slots := 0, locals := 0 }, fun _ => True)
theorem tJ3_checkIndex_8e157 : isOK mJ3_checkIndex_8e157 3 := ⟨⟨wsg_in 448 (by decide +kernel) (by decide +kernel), wsg_in 86 (by decide +kernel) (by decide +kernel), by decide +kernel, by decide +kernel⟩, wsg_in 447 (by decide +kernel) (by decide +kernel), by decide +kernel⟩
abbrev mJ3_checkFromToIndex_8c36e : Md := (yJ3_checkFromToIndex_8c36e, cJ3_checkFromToIndex_8c36e, 4, some .int, { frames := 0, cells := 0, slots := 0, locals := 0 }, fun _ => True)
theorem tJ3_checkFromToIndex_8c36e : isOK mJ3_checkFromToIndex_8c36e 4 := ⟨⟨wsg_in 392 (by decide +kernel) (by decide +kernel), wsg_in 86 (by decide +kernel) (by decide +kernel), by decide +kernel, by decide +kernel⟩, wsg_in 391 (by decide +kernel) (by decide +kernel), by decide +kernel⟩
theorem kL_9 : lkM RL 9 mX8_init := Or.inl (wsg_in 93 (by decide +kernel) (by decide +kernel))
theorem kX8_32 : lkM RX8 32 mX4_init := Or.inl (wsg_in 182 (by decide +kernel) (by decide +kernel))
theorem kL_13 : lkM RL 13 mX8_letter := Or.inl (wsg_in 304 (by decide +kernel) (by decide +kernel))
theorem kX8_82 : lkM RX8 82 mX1_append := Or.inl (wsg_in 308 (by decide +kernel) (by decide +kernel))
theorem kL_18 : lkM RL 18 mX8_blank := Or.inl (wsg_in 312 (by decide +kernel) (by decide +kernel))
theorem kL_23 : lkM RL 23 mX8_fault := Or.inl (wsg_in 316 (by decide +kernel) (by decide +kernel))
theorem kX8_86 : lkM RX8 86 mX3_faultOf := Or.inl (wsg_in 320 (by decide +kernel) (by decide +kernel))
theorem kX3_32 : lkM RX3 32 mX3_accepts := Or.inl (wsg_in 324 (by decide +kernel) (by decide +kernel))
theorem kX3_49 : lkM RX3 49 mX3_beginsStep := Or.inl (wsg_in 328 (by decide +kernel) (by decide +kernel))
theorem kX3_82 : lkM RX3 82 mJ0_indexOf_0f7a4 := Or.inl (wsg_in 333 (by decide +kernel) (by decide +kernel))
theorem kJ0_633 : lkM RJ0 633 mJ0_indexOf_7cf53 := Or.inl (wsg_in 337 (by decide +kernel) (by decide +kernel))
theorem kJ0_492 : lkM RJ0 492 mJ0_isLatin1_aae02 := Or.inl (wsg_in 341 (by decide +kernel) (by decide +kernel))
theorem kJ0_505 : lkM RJ0 505 mJ0_length_8abf5 := Or.inl (wsg_in 347 (by decide +kernel) (by decide +kernel))
theorem kJ0_335 : lkM RJ0 335 mJ0_coder_7d493 := Or.inl (wsg_in 351 (by decide +kernel) (by decide +kernel))
theorem kJ0_637 : lkM RJ0 637 mJ1_indexOf_4cfef := Or.inl (wsg_in 355 (by decide +kernel) (by decide +kernel))
theorem kJ1_88 : lkM RJ1 88 mJ1_canEncode_9a6ad := Or.inl (wsg_in 358 (by decide +kernel) (by decide +kernel))
theorem kJ1_92 : lkM RJ1 92 mJ9_max_7cf53 := Or.inl (wsg_in 361 (by decide +kernel) (by decide +kernel))
theorem kJ1_38 : lkM RJ1 38 mJ9_min_7cf53 := Or.inl (wsg_in 364 (by decide +kernel) (by decide +kernel))
theorem kJ1_95 : lkM RJ1 95 mJ1_indexOfChar_4cfef := Or.inl (wsg_in 367 (by decide +kernel) (by decide +kernel))
theorem kJ0_640 : lkM RJ0 640 mJ2_indexOf_4cfef := Or.inl (wsg_in 370 (by decide +kernel) (by decide +kernel))
theorem kJ2_224 : lkM RJ2 224 mJ9_max_7cf53 := Or.inl (wsg_in 373 (by decide +kernel) (by decide +kernel))
theorem kJ2_183 : lkM RJ2 183 mJ9_min_7cf53 := Or.inl (wsg_in 374 (by decide +kernel) (by decide +kernel))
theorem kJ2_228 : lkM RJ2 228 mJ2_indexOfChar_4cfef := Or.inl (wsg_in 376 (by decide +kernel) (by decide +kernel))
theorem kJ2_96 : lkM RJ2 96 mJ2_checkBoundsBeginEnd_d044e := Or.inl (wsg_in 379 (by decide +kernel) (by decide +kernel))
theorem kJ2_48 : lkM RJ2 48 mJ2_length_9d52b := Or.inl (wsg_in 382 (by decide +kernel) (by decide +kernel))
theorem kJ2_241 : lkM RJ2 241 mJ0_checkBoundsBeginEnd_23922 := Or.inl (wsg_in 385 (by decide +kernel) (by decide +kernel))
theorem kJ0_1062 : lkM RJ0 1062 mJ3_checkFromToIndex_8c36e := Or.inl (wsg_in 390 (by decide +kernel) (by decide +kernel))
theorem kJ2_244 : lkM RJ2 244 mJ2_indexOfCharUnsafe_4cfef := Or.inl (wsg_in 393 (by decide +kernel) (by decide +kernel))
theorem kJ2_71 : lkM RJ2 71 mJ2_getChar_3b067 := Or.inl (wsg_in 396 (by decide +kernel) (by decide +kernel))
theorem kJ2_232 : lkM RJ2 232 mJ2_indexOfSupplementary_4cfef := Or.inl (wsg_in 405 (by decide +kernel) (by decide +kernel))
theorem kJ2_164 : lkM RJ2 164 mJ11_isValidCodePoint_9a6ad := Or.inl (wsg_in 408 (by decide +kernel) (by decide +kernel))
theorem kJ2_157 : lkM RJ2 157 mJ11_highSurrogate_5068e := Or.inl (wsg_in 411 (by decide +kernel) (by decide +kernel))
theorem kJ2_161 : lkM RJ2 161 mJ11_lowSurrogate_5068e := Or.inl (wsg_in 415 (by decide +kernel) (by decide +kernel))
theorem kX3_86 : lkM RX3 86 mX7_behindLastLoop := Or.inl (wsg_in 419 (by decide +kernel) (by decide +kernel))
theorem kX3_39 : lkM RX3 39 mX3_formOf := Or.inl (wsg_in 423 (by decide +kernel) (by decide +kernel))
theorem kX3_43 : lkM RX3 43 mJ0_length_8abf5 := Or.inl (wsg_in 431 (by decide +kernel) (by decide +kernel))
theorem kX3_52 : lkM RX3 52 mX3_goesOn := Or.inl (wsg_in 432 (by decide +kernel) (by decide +kernel))
theorem kX3_55 : lkM RX3 55 mJ0_charAt_5068e := Or.inl (wsg_in 436 (by decide +kernel) (by decide +kernel))
theorem kJ0_495 : lkM RJ0 495 mJ1_charAt_3b067 := Or.inl (wsg_in 440 (by decide +kernel) (by decide +kernel))
theorem kJ1_9 : lkM RJ1 9 mJ0_checkIndex_df160 := Or.inl (wsg_in 443 (by decide +kernel) (by decide +kernel))
theorem kJ0_1059 : lkM RJ0 1059 mJ3_checkIndex_8e157 := Or.inl (wsg_in 446 (by decide +kernel) (by decide +kernel))
theorem kJ0_498 : lkM RJ0 498 mJ2_charAt_3b067 := Or.inl (wsg_in 449 (by decide +kernel) (by decide +kernel))
theorem kJ2_67 : lkM RJ2 67 mJ2_checkIndex_2214a := Or.inl (wsg_in 452 (by decide +kernel) (by decide +kernel))
theorem kJ2_414 : lkM RJ2 414 mJ0_checkIndex_df160 := Or.inl (wsg_in 455 (by decide +kernel) (by decide +kernel))
theorem kX3_59 : lkM RX3 59 mX3_fits := Or.inl (wsg_in 456 (by decide +kernel) (by decide +kernel))
theorem kX3_63 : lkM RX3 63 mX3_keep := Or.inl (wsg_in 463 (by decide +kernel) (by decide +kernel))
theorem kX3_76 : lkM RX3 76 mX7_insert := Or.inl (wsg_in 467 (by decide +kernel) (by decide +kernel))
theorem kX7_34 : lkM RX7 34 mX7_copyStep := Or.inl (wsg_in 471 (by decide +kernel) (by decide +kernel))
theorem kL_27 : lkM RL 27 mX8_program := Or.inl (wsg_in 476 (by decide +kernel) (by decide +kernel))
theorem kX8_90 : lkM RX8 90 mX3_atAnEnd := Or.inl (wsg_in 480 (by decide +kernel) (by decide +kernel))
theorem kX8_97 : lkM RX8 97 mX7_copy := Or.inl (wsg_in 484 (by decide +kernel) (by decide +kernel))
theorem kX8_102 : lkM RX8 102 mX8_runAgain := Or.inl (wsg_in 491 (by decide +kernel) (by decide +kernel))
theorem kX8_289 : lkM RX8 289 mX2_clear := Or.inl (wsg_in 495 (by decide +kernel) (by decide +kernel))
theorem kX2_18 : lkM RX2 18 mJ7_fill_53178 := Or.inl (wsg_in 499 (by decide +kernel) (by decide +kernel))
theorem kX8_292 : lkM RX8 292 mX4_begin := Or.inl (wsg_in 502 (by decide +kernel) (by decide +kernel))
theorem kX4_36 : lkM RX4 36 mJ7_fill_53178 := Or.inl (wsg_in 506 (by decide +kernel) (by decide +kernel))
theorem kX4_42 : lkM RX4 42 mX6_fill := Or.inl (wsg_in 507 (by decide +kernel) (by decide +kernel))
theorem kX6_19 : lkM RX6 19 mJ7_fill_53178 := Or.inl (wsg_in 511 (by decide +kernel) (by decide +kernel))
theorem kX8_295 : lkM RX8 295 mX4_goRound := Or.inl (wsg_in 512 (by decide +kernel) (by decide +kernel))
theorem kX4_44 : lkM RX4 44 mX6_copy := Or.inl (wsg_in 516 (by decide +kernel) (by decide +kernel))
theorem kX4_80 : lkM RX4 80 mX4_doStep := Or.inl (wsg_in 521 (by decide +kernel) (by decide +kernel))
theorem kX4_66 : lkM RX4 66 mX6_limit := Or.inl (wsg_in 525 (by decide +kernel) (by decide +kernel))
theorem kX6_31 : lkM RX6 31 mX6_boundOf := Or.inl (wsg_in 529 (by decide +kernel) (by decide +kernel))
theorem kX6_35 : lkM RX6 35 mX6_setBound := Or.inl (wsg_in 533 (by decide +kernel) (by decide +kernel))
theorem kX4_70 : lkM RX4 70 mX6_assign := Or.inl (wsg_in 537 (by decide +kernel) (by decide +kernel))
theorem kX6_46 : lkM RX6 46 mX6_turn := Or.inl (wsg_in 541 (by decide +kernel) (by decide +kernel))
theorem kX6_49 : lkM RX6 49 mX6_shift := Or.inl (wsg_in 545 (by decide +kernel) (by decide +kernel))
theorem kX6_56 : lkM RX6 56 mJ9_min_7cf53 := Or.inl (wsg_in 549 (by decide +kernel) (by decide +kernel))
theorem kX6_53 : lkM RX6 53 mX6_lose := Or.inl (wsg_in 550 (by decide +kernel) (by decide +kernel))
theorem kX6_43 : lkM RX6 43 mX6_limit := Or.inl (wsg_in 554 (by decide +kernel) (by decide +kernel))
theorem kX4_73 : lkM RX4 73 mX6_lose := Or.inl (wsg_in 555 (by decide +kernel) (by decide +kernel))
theorem kX4_77 : lkM RX4 77 mX6_close := Or.inl (wsg_in 556 (by decide +kernel) (by decide +kernel))
theorem kX6_39 : lkM RX6 39 mX6_chainBy := Or.inl (wsg_in 560 (by decide +kernel) (by decide +kernel))
theorem kX4_84 : lkM RX4 84 mX6_join := Or.inl (wsg_in 564 (by decide +kernel) (by decide +kernel))
theorem kX6_61 : lkM RX6 61 mX6_copy := Or.inl (wsg_in 568 (by decide +kernel) (by decide +kernel))
theorem kX6_65 : lkM RX6 65 mJ9_max_7cf53 := Or.inl (wsg_in 569 (by decide +kernel) (by decide +kernel))
theorem kX4_87 : lkM RX4 87 mX6_isWithin := Or.inl (wsg_in 570 (by decide +kernel) (by decide +kernel))
theorem kX4_91 : lkM RX4 91 mX6_widen := Or.inl (wsg_in 574 (by decide +kernel) (by decide +kernel))
end
section
theorem kX8_299 : lkM RX8 299 mX4_doStep := Or.inl (wsg_in 578 (by decide +kernel) (by decide +kernel))
theorem kL_31 : lkM RL 31 mX8_step := Or.inl (wsg_in 579 (by decide +kernel) (by decide +kernel))
theorem kX8_106 : lkM RX8 106 mX8_isStep := Or.inl (wsg_in 583 (by decide +kernel) (by decide +kernel))
theorem kX8_120 : lkM RX8 120 mX8_hasNumber := Or.inl (wsg_in 587 (by decide +kernel) (by decide +kernel))
theorem kX8_126 : lkM RX8 126 mX4_isDead := Or.inl (wsg_in 590 (by decide +kernel) (by decide +kernel))
theorem kX8_129 : lkM RX8 129 mX8_asInt := Or.inl (wsg_in 594 (by decide +kernel) (by decide +kernel))
theorem kX8_133 : lkM RX8 133 mX4_kills := Or.inl (wsg_in 597 (by decide +kernel) (by decide +kernel))
theorem kX8_136 : lkM RX8 136 mX8_isIdle := Or.inl (wsg_in 601 (by decide +kernel) (by decide +kernel))
theorem kX8_303 : lkM RX8 303 mX4_changesNothing := Or.inl (wsg_in 605 (by decide +kernel) (by decide +kernel))
theorem kX8_139 : lkM RX8 139 mX5_sortsOf := Or.inl (wsg_in 609 (by decide +kernel) (by decide +kernel))
theorem kX8_143 : lkM RX8 143 mX8_questionFor := Or.inl (wsg_in 613 (by decide +kernel) (by decide +kernel))
theorem kX8_309 : lkM RX8 309 mJ6_bitCount_0f7a4 := Or.inl (wsg_in 618 (by decide +kernel) (by decide +kernel))
theorem kX8_314 : lkM RX8 314 mJ9_max_7cf53 := Or.inl (wsg_in 624 (by decide +kernel) (by decide +kernel))
theorem kL_36 : lkM RL 36 mX8_as := Or.inl (wsg_in 625 (by decide +kernel) (by decide +kernel))
theorem kX8_146 : lkM RX8 146 mX8_isKind := Or.inl (wsg_in 629 (by decide +kernel) (by decide +kernel))
theorem kX8_149 : lkM RX8 149 mX8_isSuch := Or.inl (wsg_in 632 (by decide +kernel) (by decide +kernel))
theorem kL_40 : lkM RL 40 mX8_bound := Or.inl (wsg_in 635 (by decide +kernel) (by decide +kernel))
theorem kX8_153 : lkM RX8 153 mX8_hasShape := Or.inl (wsg_in 639 (by decide +kernel) (by decide +kernel))
theorem kX8_156 : lkM RX8 156 mX8_isSigned := Or.inl (wsg_in 643 (by decide +kernel) (by decide +kernel))
theorem kX8_166 : lkM RX8 166 mX6_boundOf := Or.inl (wsg_in 644 (by decide +kernel) (by decide +kernel))
theorem kL_45 : lkM RL 45 mX8_points := Or.inl (wsg_in 645 (by decide +kernel) (by decide +kernel))
theorem kX8_170 : lkM RX8 170 mX4_pointsAhead := Or.inl (wsg_in 649 (by decide +kernel) (by decide +kernel))
theorem kX4_94 : lkM RX4 94 mX6_countPoints := Or.inl (wsg_in 653 (by decide +kernel) (by decide +kernel))
theorem kX6_71 : lkM RX6 71 mX6_containsPair := Or.inl (wsg_in 657 (by decide +kernel) (by decide +kernel))
theorem kX6_75 : lkM RX6 75 mX6_roomFor := Or.inl (wsg_in 661 (by decide +kernel) (by decide +kernel))
theorem kL_49 : lkM RL 49 mX8_has := Or.inl (wsg_in 665 (by decide +kernel) (by decide +kernel))
theorem kX8_173 : lkM RX8 173 mX8_isNumber := Or.inl (wsg_in 669 (by decide +kernel) (by decide +kernel))
theorem kX8_176 : lkM RX8 176 mX6_contains := Or.inl (wsg_in 672 (by decide +kernel) (by decide +kernel))
theorem kL_54 : lkM RL 54 mX8_share := Or.inl (wsg_in 676 (by decide +kernel) (by decide +kernel))
theorem kX8_182 : lkM RX8 182 mX8_shareBits := Or.inl (wsg_in 681 (by decide +kernel) (by decide +kernel))
theorem kL_59 : lkM RL 59 mX8_compare := Or.inl (wsg_in 686 (by decide +kernel) (by decide +kernel))
theorem kX8_186 : lkM RX8 186 mX6_isWithin := Or.inl (wsg_in 690 (by decide +kernel) (by decide +kernel))
theorem kX8_190 : lkM RX8 190 mX6_copy := Or.inl (wsg_in 691 (by decide +kernel) (by decide +kernel))
theorem kX8_193 : lkM RX8 193 mX6_meet := Or.inl (wsg_in 692 (by decide +kernel) (by decide +kernel))
theorem kX6_68 : lkM RX6 68 mX6_close := Or.inl (wsg_in 696 (by decide +kernel) (by decide +kernel))
theorem kL_63 : lkM RL 63 mX8_put := Or.inl (wsg_in 697 (by decide +kernel) (by decide +kernel))
theorem kX8_196 : lkM RX8 196 mX8_canBePut := Or.inl (wsg_in 701 (by decide +kernel) (by decide +kernel))
theorem kX8_200 : lkM RX8 200 mX8_hasSecond := Or.inl (wsg_in 704 (by decide +kernel) (by decide +kernel))
theorem kX8_213 : lkM RX8 213 mX8_isBy := Or.inl (wsg_in 707 (by decide +kernel) (by decide +kernel))
theorem kX8_203 : lkM RX8 203 mX7_insert := Or.inl (wsg_in 710 (by decide +kernel) (by decide +kernel))
theorem kL_68 : lkM RL 68 mX8_take := Or.inl (wsg_in 711 (by decide +kernel) (by decide +kernel))
theorem kX8_207 : lkM RX8 207 mX7_isAllOfALoop := Or.inl (wsg_in 715 (by decide +kernel) (by decide +kernel))
theorem kX8_210 : lkM RX8 210 mX7_remove := Or.inl (wsg_in 719 (by decide +kernel) (by decide +kernel))
theorem kL_72 : lkM RL 72 mX8_by := Or.inl (wsg_in 723 (by decide +kernel) (by decide +kernel))
theorem kL_76 : lkM RL 76 mX8_rack := Or.inl (wsg_in 727 (by decide +kernel) (by decide +kernel))
theorem kX8_219 : lkM RX8 219 mX2_lay := Or.inl (wsg_in 731 (by decide +kernel) (by decide +kernel))
theorem kL_80 : lkM RL 80 mX8_racked := Or.inl (wsg_in 735 (by decide +kernel) (by decide +kernel))
theorem kX8_222 : lkM RX8 222 mX2_stepAt := Or.inl (wsg_in 739 (by decide +kernel) (by decide +kernel))
theorem kL_84 : lkM RL 84 mX8_see := Or.inl (wsg_in 743 (by decide +kernel) (by decide +kernel))
theorem kX8_225 : lkM RX8 225 mX5_append := Or.inl (wsg_in 747 (by decide +kernel) (by decide +kernel))
theorem kL_89 : lkM RL 89 mX8_forget := Or.inl (wsg_in 752 (by decide +kernel) (by decide +kernel))
theorem kL_93 : lkM RL 93 mX8_drawn := Or.inl (wsg_in 756 (by decide +kernel) (by decide +kernel))
theorem kX8_231 : lkM RX8 231 mX0_shapeOfFourTests := Or.inl (wsg_in 760 (by decide +kernel) (by decide +kernel))
theorem kX0_28 : lkM RX0 28 mX6_fill := Or.inl (wsg_in 764 (by decide +kernel) (by decide +kernel))
theorem kX0_33 : lkM RX0 33 mX0_draw := Or.inl (wsg_in 765 (by decide +kernel) (by decide +kernel))
theorem kX0_22 : lkM RX0 22 mJ9_floorMod_7cf53 := Or.inl (wsg_in 773 (by decide +kernel) (by decide +kernel))
theorem kX0_37 : lkM RX0 37 mX6_limit := Or.inl (wsg_in 776 (by decide +kernel) (by decide +kernel))
theorem kX0_41 : lkM RX0 41 mX6_close := Or.inl (wsg_in 777 (by decide +kernel) (by decide +kernel))
theorem kX8_234 : lkM RX8 234 mX6_countPoints := Or.inl (wsg_in 778 (by decide +kernel) (by decide +kernel))
theorem kL_97 : lkM RL 97 mX8_image := Or.inl (wsg_in 779 (by decide +kernel) (by decide +kernel))
theorem kX8_238 : lkM RX8 238 mX5_copy := Or.inl (wsg_in 783 (by decide +kernel) (by decide +kernel))
theorem kL_101 : lkM RL 101 mX8_restore := Or.inl (wsg_in 788 (by decide +kernel) (by decide +kernel))
theorem kL_105 : lkM RL 105 mX8_count := Or.inl (wsg_in 792 (by decide +kernel) (by decide +kernel))
theorem kX8_241 : lkM RX8 241 mX7_countLoops := Or.inl (wsg_in 796 (by decide +kernel) (by decide +kernel))
theorem kX8_247 : lkM RX8 247 mX8_countDead := Or.inl (wsg_in 800 (by decide +kernel) (by decide +kernel))
theorem kX8_250 : lkM RX8 250 mX8_countIdle := Or.inl (wsg_in 804 (by decide +kernel) (by decide +kernel))
theorem kX8_253 : lkM RX8 253 mX2_countAll := Or.inl (wsg_in 808 (by decide +kernel) (by decide +kernel))
theorem kL_109 : lkM RL 109 mX8_digest := Or.inl (wsg_in 812 (by decide +kernel) (by decide +kernel))
theorem kX8_258 : lkM RX8 258 mX8_digestOfSteps := Or.inl (wsg_in 817 (by decide +kernel) (by decide +kernel))
theorem kX8_276 : lkM RX8 276 mX8_step := Or.inl (wsg_in 822 (by decide +kernel) (by decide +kernel))
theorem kX8_262 : lkM RX8 262 mX8_digestOfShapes := Or.inl (wsg_in 823 (by decide +kernel) (by decide +kernel))
theorem kX8_279 : lkM RX8 279 mX8_points := Or.inl (wsg_in 827 (by decide +kernel) (by decide +kernel))
theorem kX8_282 : lkM RX8 282 mX8_bound := Or.inl (wsg_in 828 (by decide +kernel) (by decide +kernel))
theorem kX8_286 : lkM RX8 286 mX8_share := Or.inl (wsg_in 829 (by decide +kernel) (by decide +kernel))
theorem kX8_267 : lkM RX8 267 mX8_racked := Or.inl (wsg_in 830 (by decide +kernel) (by decide +kernel))
theorem kX8_273 : lkM RX8 273 mX8_count := Or.inl (wsg_in 831 (by decide +kernel) (by decide +kernel))
theorem kL_12 : lkM RL 12 mX9_init := Or.inl (wsg_in 834 (by decide +kernel) (by decide +kernel))
theorem kX9_54 : lkM RX9 54 mX9_value := Or.inl (wsg_in 839 (by decide +kernel) (by decide +kernel))
theorem kL_17 : lkM RL 17 mX9_letter := Or.inl (wsg_in 930 (by decide +kernel) (by decide +kernel))
theorem kX9_60 : lkM RX9 60 mX9_in := Or.inl (wsg_in 935 (by decide +kernel) (by decide +kernel))
theorem kL_22 : lkM RL 22 mX9_blank := Or.inl (wsg_in 938 (by decide +kernel) (by decide +kernel))
theorem kL_26 : lkM RL 26 mX9_fault := Or.inl (wsg_in 942 (by decide +kernel) (by decide +kernel))
theorem kX9_122 : lkM RX9 122 mX9_faultOf := Or.inl (wsg_in 946 (by decide +kernel) (by decide +kernel))
theorem kX9_119 : lkM RX9 119 mX9_isGood := Or.inl (wsg_in 950 (by decide +kernel) (by decide +kernel))
theorem kX9_113 : lkM RX9 113 mX9_isBegun := Or.inl (wsg_in 954 (by decide +kernel) (by decide +kernel))
theorem kX9_67 : lkM RX9 67 mX9_kindBy := Or.inl (wsg_in 958 (by decide +kernel) (by decide +kernel))
theorem kX9_83 : lkM RX9 83 mX9_longOf := Or.inl (wsg_in 961 (by decide +kernel) (by decide +kernel))
theorem kX9_116 : lkM RX9 116 mX9_isInside := Or.inl (wsg_in 964 (by decide +kernel) (by decide +kernel))
theorem kX9_97 : lkM RX9 97 mX9_isFirstDigit := Or.inl (wsg_in 968 (by decide +kernel) (by decide +kernel))
theorem kX9_101 : lkM RX9 101 mX9_isSecondDigit := Or.inl (wsg_in 975 (by decide +kernel) (by decide +kernel))
theorem kX9_104 : lkM RX9 104 mX9_isSign := Or.inl (wsg_in 979 (by decide +kernel) (by decide +kernel))
theorem kX9_107 : lkM RX9 107 mX9_isLastDigit := Or.inl (wsg_in 983 (by decide +kernel) (by decide +kernel))
theorem kX9_110 : lkM RX9 110 mX9_endStep := Or.inl (wsg_in 988 (by decide +kernel) (by decide +kernel))
theorem kL_30 : lkM RL 30 mX9_program := Or.inl (wsg_in 992 (by decide +kernel) (by decide +kernel))
theorem kX9_129 : lkM RX9 129 mX9_copy := Or.inl (wsg_in 996 (by decide +kernel) (by decide +kernel))
theorem kX9_139 : lkM RX9 139 mX9_changed := Or.inl (wsg_in 999 (by decide +kernel) (by decide +kernel))
theorem kL_44 : lkM RL 44 mX9_bound := Or.inl (wsg_in 1003 (by decide +kernel) (by decide +kernel))
theorem kX9_232 : lkM RX9 232 mX9_isPlace := Or.inl (wsg_in 1007 (by decide +kernel) (by decide +kernel))
theorem kX9_222 : lkM RX9 222 mX9_lacks := Or.inl (wsg_in 1011 (by decide +kernel) (by decide +kernel))
theorem kX9_226 : lkM RX9 226 mX9_freshen := Or.inl (wsg_in 1015 (by decide +kernel) (by decide +kernel))
theorem kX9_146 : lkM RX9 146 mX9_kind := Or.inl (wsg_in 1019 (by decide +kernel) (by decide +kernel))
theorem kX9_219 : lkM RX9 219 mX9_doLoop := Or.inl (wsg_in 1023 (by decide +kernel) (by decide +kernel))
theorem kX9_149 : lkM RX9 149 mX9_one := Or.inl (wsg_in 1027 (by decide +kernel) (by decide +kernel))
theorem kX9_188 : lkM RX9 188 mX9_copyShape := Or.inl (wsg_in 1031 (by decide +kernel) (by decide +kernel))
theorem kX9_185 : lkM RX9 185 mX9_pointsIn := Or.inl (wsg_in 1035 (by decide +kernel) (by decide +kernel))
theorem kX9_191 : lkM RX9 191 mX9_layBounds := Or.inl (wsg_in 1039 (by decide +kernel) (by decide +kernel))
theorem kX9_177 : lkM RX9 177 mX9_raise := Or.inl (wsg_in 1043 (by decide +kernel) (by decide +kernel))
theorem kX9_202 : lkM RX9 202 mX9_doAll := Or.inl (wsg_in 1047 (by decide +kernel) (by decide +kernel))
theorem kX9_198 : lkM RX9 198 mX9_doStep := Or.inl (wsg_in 1051 (by decide +kernel) (by decide +kernel))
theorem kX9_173 : lkM RX9 173 mX9_doPoint := Or.inl (wsg_in 1055 (by decide +kernel) (by decide +kernel))
theorem kX9_152 : lkM RX9 152 mX9_signed := Or.inl (wsg_in 1059 (by decide +kernel) (by decide +kernel))
theorem kX9_155 : lkM RX9 155 mX9_other := Or.inl (wsg_in 1063 (by decide +kernel) (by decide +kernel))
theorem kX9_158 : lkM RX9 158 mX9_number := Or.inl (wsg_in 1067 (by decide +kernel) (by decide +kernel))
theorem kX9_161 : lkM RX9 161 mX9_lay := Or.inl (wsg_in 1071 (by decide +kernel) (by decide +kernel))
theorem kX9_165 : lkM RX9 165 mX9_withValue := Or.inl (wsg_in 1075 (by decide +kernel) (by decide +kernel))
theorem kX9_205 : lkM RX9 205 mX9_join := Or.inl (wsg_in 1080 (by decide +kernel) (by decide +kernel))
theorem kX9_194 : lkM RX9 194 mX9_layBy := Or.inl (wsg_in 1084 (by decide +kernel) (by decide +kernel))
theorem kX9_181 : lkM RX9 181 mX9_isBy := Or.inl (wsg_in 1088 (by decide +kernel) (by decide +kernel))
theorem kX9_208 : lkM RX9 208 mX9_isLike := Or.inl (wsg_in 1092 (by decide +kernel) (by decide +kernel))
theorem kX9_215 : lkM RX9 215 mX9_widen := Or.inl (wsg_in 1096 (by decide +kernel) (by decide +kernel))
theorem kX9_237 : lkM RX9 237 mX9_boundOf := Or.inl (wsg_in 1101 (by decide +kernel) (by decide +kernel))
theorem kX9_229 : lkM RX9 229 mX9_boundIn := Or.inl (wsg_in 1105 (by decide +kernel) (by decide +kernel))
theorem kL_48 : lkM RL 48 mX9_points := Or.inl (wsg_in 1109 (by decide +kernel) (by decide +kernel))
theorem kL_53 : lkM RL 53 mX9_has := Or.inl (wsg_in 1113 (by decide +kernel) (by decide +kernel))
theorem kX9_240 : lkM RX9 240 mX9_pointOf := Or.inl (wsg_in 1117 (by decide +kernel) (by decide +kernel))
theorem kL_58 : lkM RL 58 mX9_share := Or.inl (wsg_in 1120 (by decide +kernel) (by decide +kernel))
theorem kX9_251 : lkM RX9 251 mX9_bitsOf := Or.inl (wsg_in 1124 (by decide +kernel) (by decide +kernel))
theorem kL_62 : lkM RL 62 mX9_compare := Or.inl (wsg_in 1132 (by decide +kernel) (by decide +kernel))
theorem kX9_257 : lkM RX9 257 mX9_compareOf := Or.inl (wsg_in 1136 (by decide +kernel) (by decide +kernel))
theorem kL_35 : lkM RL 35 mX9_step := Or.inl (wsg_in 1140 (by decide +kernel) (by decide +kernel))
theorem kX9_272 : lkM RX9 272 mX9_isStep := Or.inl (wsg_in 1144 (by decide +kernel) (by decide +kernel))
theorem kX9_275 : lkM RX9 275 mX9_tellStep := Or.inl (wsg_in 1148 (by decide +kernel) (by decide +kernel))
theorem kX9_260 : lkM RX9 260 mX9_dead := Or.inl (wsg_in 1152 (by decide +kernel) (by decide +kernel))
theorem kX9_263 : lkM RX9 263 mX9_idle := Or.inl (wsg_in 1156 (by decide +kernel) (by decide +kernel))
theorem kX9_266 : lkM RX9 266 mX9_sortsOf := Or.inl (wsg_in 1160 (by decide +kernel) (by decide +kernel))
theorem kX9_296 : lkM RX9 296 mX9_sortsBy := Or.inl (wsg_in 1164 (by decide +kernel) (by decide +kernel))
theorem kX9_269 : lkM RX9 269 mX9_askOf := Or.inl (wsg_in 1167 (by decide +kernel) (by decide +kernel))
theorem kX9_299 : lkM RX9 299 mX9_ones := Or.inl (wsg_in 1171 (by decide +kernel) (by decide +kernel))
theorem kL_39 : lkM RL 39 mX9_as := Or.inl (wsg_in 1174 (by decide +kernel) (by decide +kernel))
theorem kX9_280 : lkM RX9 280 mX9_isOf := Or.inl (wsg_in 1179 (by decide +kernel) (by decide +kernel))
theorem kL_67 : lkM RL 67 mX9_put := Or.inl (wsg_in 1182 (by decide +kernel) (by decide +kernel))
theorem kX9_289 : lkM RX9 289 mX9_isAsTold := Or.inl (wsg_in 1186 (by decide +kernel) (by decide +kernel))
theorem kL_71 : lkM RL 71 mX9_take := Or.inl (wsg_in 1192 (by decide +kernel) (by decide +kernel))
theorem kL_75 : lkM RL 75 mX9_by := Or.inl (wsg_in 1196 (by decide +kernel) (by decide +kernel))
theorem kL_79 : lkM RL 79 mX9_rack := Or.inl (wsg_in 1200 (by decide +kernel) (by decide +kernel))
theorem kX9_293 : lkM RX9 293 mX9_rackedOf := Or.inl (wsg_in 1204 (by decide +kernel) (by decide +kernel))
theorem kL_83 : lkM RL 83 mX9_racked := Or.inl (wsg_in 1208 (by decide +kernel) (by decide +kernel))
theorem kL_88 : lkM RL 88 mX9_see := Or.inl (wsg_in 1212 (by decide +kernel) (by decide +kernel))
theorem kL_92 : lkM RL 92 mX9_forget := Or.inl (wsg_in 1216 (by decide +kernel) (by decide +kernel))
theorem kL_96 : lkM RL 96 mX9_drawn := Or.inl (wsg_in 1220 (by decide +kernel) (by decide +kernel))
theorem kX9_316 : lkM RX9 316 mX9_drawTest := Or.inl (wsg_in 1225 (by decide +kernel) (by decide +kernel))
theorem kX9_312 : lkM RX9 312 mX9_draw := Or.inl (wsg_in 1229 (by decide +kernel) (by decide +kernel))
theorem kL_100 : lkM RL 100 mX9_image := Or.inl (wsg_in 1237 (by decide +kernel) (by decide +kernel))
theorem kL_104 : lkM RL 104 mX9_restore := Or.inl (wsg_in 1241 (by decide +kernel) (by decide +kernel))
theorem kL_108 : lkM RL 108 mX9_count := Or.inl (wsg_in 1245 (by decide +kernel) (by decide +kernel))
theorem kX9_334 : lkM RX9 334 mX9_countOf := Or.inl (wsg_in 1249 (by decide +kernel) (by decide +kernel))
theorem kX9_328 : lkM RX9 328 mX9_countProgram := Or.inl (wsg_in 1253 (by decide +kernel) (by decide +kernel))
theorem kX9_325 : lkM RX9 325 mX9_stepsBy := Or.inl (wsg_in 1257 (by decide +kernel) (by decide +kernel))
theorem kX9_331 : lkM RX9 331 mX9_rackedAll := Or.inl (wsg_in 1261 (by decide +kernel) (by decide +kernel))
theorem kL_113 : lkM RL 113 mX9_digest := Or.inl (wsg_in 1265 (by decide +kernel) (by decide +kernel))
theorem kX9_343 : lkM RX9 343 mX9_say := Or.inl (wsg_in 1270 (by decide +kernel) (by decide +kernel))
theorem kX9_349 : lkM RX9 349 mX9_sayPlaces := Or.inl (wsg_in 1275 (by decide +kernel) (by decide +kernel))
theorem kX8_9 : lkM RX8 9 mX1_init := Or.inr ⟨"SumBounds", wsn_in 101 (by decide +kernel) (by decide +kernel)⟩
theorem kX8_18 : lkM RX8 18 mX3_init := Or.inr ⟨"SumBounds", wsn_in 119 (by decide +kernel) (by decide +kernel)⟩
theorem kX3_11 : lkM RX3 11 mX7_init := Or.inr ⟨"SumBounds", wsn_in 125 (by decide +kernel) (by decide +kernel)⟩
theorem kX8_25 : lkM RX8 25 mX7_init := Or.inr ⟨"SumBounds", wsn_in 179 (by decide +kernel) (by decide +kernel)⟩
theorem kX4_21 : lkM RX4 21 mX6_init := Or.inr ⟨"SumBounds", wsn_in 189 (by decide +kernel) (by decide +kernel)⟩
theorem kX8_39 : lkM RX8 39 mX2_init := Or.inr ⟨"SumBounds", wsn_in 225 (by decide +kernel) (by decide +kernel)⟩
theorem kX8_46 : lkM RX8 46 mX5_init := Or.inr ⟨"SumBounds", wsn_in 239 (by decide +kernel) (by decide +kernel)⟩
theorem kX8_59 : lkM RX8 59 mX0_init := Or.inr ⟨"SumBounds", wsn_in 256 (by decide +kernel) (by decide +kernel)⟩
theorem kX8_66 : lkM RX8 66 mX6_init := Or.inr ⟨"SumBounds", wsn_in 266 (by decide +kernel) (by decide +kernel)⟩
theorem kX3_103 : lkM RX3 103 mX8_isSigned := Or.inr ⟨"SumBounds", wsn_in 460 (by decide +kernel) (by decide +kernel)⟩
end
section
/-! ===== classes, fields, constants (printed by gen08.py) ===== -/
theorem cls0 : clsOK 0 RX0 TX0 := ⟨rfl, by decide +kernel, tyX0_ok, nmX0⟩
theorem cls1 : clsOK 1 RX1 TX1 := ⟨rfl, by decide +kernel, tyX1_ok, nmX1⟩
theorem cls2 : clsOK 2 RX2 TX2 := ⟨rfl, by decide +kernel, tyX2_ok, nmX2⟩
theorem cls3 : clsOK 3 RX3 TX3 := ⟨rfl, by decide +kernel, tyX3_ok, nmX3⟩
theorem cls4 : clsOK 4 RX4 TX4 := ⟨rfl, by decide +kernel, tyX4_ok, nmX4⟩
theorem cls5 : clsOK 5 RX5 TX5 := ⟨rfl, by decide +kernel, tyX5_ok, nmX5⟩
theorem cls6 : clsOK 6 RX6 TX6 := ⟨rfl, by decide +kernel, tyX6_ok, nmX6⟩
theorem cls7 : clsOK 7 RX7 TX7 := ⟨rfl, by decide +kernel, tyX7_ok, nmX7⟩
theorem cls8 : clsOK 8 RX8 TX8 := ⟨rfl, by decide +kernel, tyX8_ok, nmX8⟩
theorem cls9 : clsOK 9 RX9 TX9 := ⟨rfl, by decide +kernel, tyX9_ok, nmX9⟩
theorem fX1_9 : fldOK RX1 9 1 0 := ⟨_, _, cls1, by decide, Or.inl (wsg_in 105 (by decide +kernel) (by decide +kernel))⟩
theorem sX1_9 : fldFin RX1 9 1 0 := ⟨_, _, cls1, by decide, rfl, rfl, wsg_in 105 (by decide +kernel) (by decide +kernel)⟩
theorem fX1_15 : fldOK RX1 15 1 1 := ⟨_, _, cls1, by decide, Or.inl (wsg_in 108 (by decide +kernel) (by decide +kernel))⟩
theorem sX1_15 : fldSet RX1 15 1 1 := ⟨_, _, cls1, by decide, rfl, Or.inl (wsg_in 108 (by decide +kernel) (by decide +kernel))⟩
theorem fX7_9 : fldOK RX7 9 7 0 := ⟨_, _, cls7, by decide, Or.inl (wsg_in 129 (by decide +kernel) (by decide +kernel))⟩
theorem sX7_9 : fldFin RX7 9 7 0 := ⟨_, _, cls7, by decide, rfl, rfl, wsg_in 129 (by decide +kernel) (by decide +kernel)⟩
theorem fX7_15 : fldOK RX7 15 7 1 := ⟨_, _, cls7, by decide, Or.inl (wsg_in 132 (by decide +kernel) (by decide +kernel))⟩
theorem sX7_15 : fldFin RX7 15 7 1 := ⟨_, _, cls7, by decide, rfl, rfl, wsg_in 132 (by decide +kernel) (by decide +kernel)⟩
theorem fX7_18 : fldOK RX7 18 7 2 := ⟨_, _, cls7, by decide, Or.inl (wsg_in 135 (by decide +kernel) (by decide +kernel))⟩
theorem sX7_18 : fldFin RX7 18 7 2 := ⟨_, _, cls7, by decide, rfl, rfl, wsg_in 135 (by decide +kernel) (by decide +kernel)⟩
theorem fX7_21 : fldOK RX7 21 7 3 := ⟨_, _, cls7, by decide, Or.inl (wsg_in 138 (by decide +kernel) (by decide +kernel))⟩
theorem sX7_21 : fldFin RX7 21 7 3 := ⟨_, _, cls7, by decide, rfl, rfl, wsg_in 138 (by decide +kernel) (by decide +kernel)⟩
theorem fX7_24 : fldOK RX7 24 7 4 := ⟨_, _, cls7, by decide, Or.inl (wsg_in 141 (by decide +kernel) (by decide +kernel))⟩
theorem sX7_24 : fldSet RX7 24 7 4 := ⟨_, _, cls7, by decide, rfl, Or.inl (wsg_in 141 (by decide +kernel) (by decide +kernel))⟩
theorem fX3_12 : fldOK RX3 12 3 0 := ⟨_, _, cls3, by decide, Or.inl (wsg_in 155 (by decide +kernel) (by decide +kernel))⟩
theorem sX3_12 : fldFin RX3 12 3 0 := ⟨_, _, cls3, by decide, rfl, rfl, wsg_in 155 (by decide +kernel) (by decide +kernel)⟩
theorem fX3_22 : fldOK RX3 22 3 1 := ⟨_, _, cls3, by decide, Or.inl (wsg_in 157 (by decide +kernel) (by decide +kernel))⟩
theorem sX3_22 : fldSet RX3 22 3 1 := ⟨_, _, cls3, by decide, rfl, Or.inl (wsg_in 157 (by decide +kernel) (by decide +kernel))⟩
theorem fX3_36 : fldOK RX3 36 3 2 := ⟨_, _, cls3, by decide, Or.inl (wsg_in 158 (by decide +kernel) (by decide +kernel))⟩
theorem sX3_36 : fldSet RX3 36 3 2 := ⟨_, _, cls3, by decide, rfl, Or.inl (wsg_in 158 (by decide +kernel) (by decide +kernel))⟩
theorem fX3_67 : fldOK RX3 67 3 3 := ⟨_, _, cls3, by decide, Or.inl (wsg_in 159 (by decide +kernel) (by decide +kernel))⟩
theorem sX3_67 : fldSet RX3 67 3 3 := ⟨_, _, cls3, by decide, rfl, Or.inl (wsg_in 159 (by decide +kernel) (by decide +kernel))⟩
theorem fX3_70 : fldOK RX3 70 3 4 := ⟨_, _, cls3, by decide, Or.inl (wsg_in 160 (by decide +kernel) (by decide +kernel))⟩
theorem sX3_70 : fldSet RX3 70 3 4 := ⟨_, _, cls3, by decide, rfl, Or.inl (wsg_in 160 (by decide +kernel) (by decide +kernel))⟩
theorem fX3_73 : fldOK RX3 73 3 5 := ⟨_, _, cls3, by decide, Or.inl (wsg_in 161 (by decide +kernel) (by decide +kernel))⟩
theorem sX3_73 : fldSet RX3 73 3 5 := ⟨_, _, cls3, by decide, rfl, Or.inl (wsg_in 161 (by decide +kernel) (by decide +kernel))⟩
theorem fX3_89 : fldOK RX3 89 3 6 := ⟨_, _, cls3, by decide, Or.inl (wsg_in 162 (by decide +kernel) (by decide +kernel))⟩
theorem sX3_89 : fldSet RX3 89 3 6 := ⟨_, _, cls3, by decide, rfl, Or.inl (wsg_in 162 (by decide +kernel) (by decide +kernel))⟩
theorem fX6_9 : fldOK RX6 9 6 0 := ⟨_, _, cls6, by decide, Or.inl (wsg_in 193 (by decide +kernel) (by decide +kernel))⟩
theorem sX6_9 : fldFin RX6 9 6 0 := ⟨_, _, cls6, by decide, rfl, rfl, wsg_in 193 (by decide +kernel) (by decide +kernel)⟩
theorem fX6_15 : fldOK RX6 15 6 1 := ⟨_, _, cls6, by decide, Or.inl (wsg_in 194 (by decide +kernel) (by decide +kernel))⟩
theorem sX6_15 : fldSet RX6 15 6 1 := ⟨_, _, cls6, by decide, rfl, Or.inl (wsg_in 194 (by decide +kernel) (by decide +kernel))⟩
theorem fX4_11 : fldOK RX4 11 4 0 := ⟨_, _, cls4, by decide, Or.inl (wsg_in 202 (by decide +kernel) (by decide +kernel))⟩
theorem sX4_11 : fldFin RX4 11 4 0 := ⟨_, _, cls4, by decide, rfl, rfl, wsg_in 202 (by decide +kernel) (by decide +kernel)⟩
theorem fX4_17 : fldOK RX4 17 4 1 := ⟨_, _, cls4, by decide, Or.inl (wsg_in 204 (by decide +kernel) (by decide +kernel))⟩
theorem sX4_17 : fldFin RX4 17 4 1 := ⟨_, _, cls4, by decide, rfl, rfl, wsg_in 204 (by decide +kernel) (by decide +kernel)⟩
theorem fX4_22 : fldOK RX4 22 4 2 := ⟨_, _, cls4, by decide, Or.inl (wsg_in 205 (by decide +kernel) (by decide +kernel))⟩
theorem sX4_22 : fldFin RX4 22 4 2 := ⟨_, _, cls4, by decide, rfl, rfl, wsg_in 205 (by decide +kernel) (by decide +kernel)⟩
theorem fX4_26 : fldOK RX4 26 4 3 := ⟨_, _, cls4, by decide, Or.inl (wsg_in 206 (by decide +kernel) (by decide +kernel))⟩
theorem sX4_26 : fldFin RX4 26 4 3 := ⟨_, _, cls4, by decide, rfl, rfl, wsg_in 206 (by decide +kernel) (by decide +kernel)⟩
theorem fX4_29 : fldOK RX4 29 4 4 := ⟨_, _, cls4, by decide, Or.inl (wsg_in 207 (by decide +kernel) (by decide +kernel))⟩
theorem sX4_29 : fldFin RX4 29 4 4 := ⟨_, _, cls4, by decide, rfl, rfl, wsg_in 207 (by decide +kernel) (by decide +kernel)⟩
theorem fX4_32 : fldOK RX4 32 4 5 := ⟨_, _, cls4, by decide, Or.inl (wsg_in 208 (by decide +kernel) (by decide +kernel))⟩
theorem sX4_32 : fldSet RX4 32 4 5 := ⟨_, _, cls4, by decide, rfl, Or.inl (wsg_in 208 (by decide +kernel) (by decide +kernel))⟩
theorem fX2_9 : fldOK RX2 9 2 0 := ⟨_, _, cls2, by decide, Or.inl (wsg_in 229 (by decide +kernel) (by decide +kernel))⟩
theorem sX2_9 : fldFin RX2 9 2 0 := ⟨_, _, cls2, by decide, rfl, rfl, wsg_in 229 (by decide +kernel) (by decide +kernel)⟩
theorem fX2_15 : fldOK RX2 15 2 1 := ⟨_, _, cls2, by decide, Or.inl (wsg_in 230 (by decide +kernel) (by decide +kernel))⟩
theorem sX2_15 : fldFin RX2 15 2 1 := ⟨_, _, cls2, by decide, rfl, rfl, wsg_in 230 (by decide +kernel) (by decide +kernel)⟩
theorem fX5_9 : fldOK RX5 9 5 0 := ⟨_, _, cls5, by decide, Or.inl (wsg_in 243 (by decide +kernel) (by decide +kernel))⟩
theorem sX5_9 : fldFin RX5 9 5 0 := ⟨_, _, cls5, by decide, rfl, rfl, wsg_in 243 (by decide +kernel) (by decide +kernel)⟩
theorem fX5_15 : fldOK RX5 15 5 1 := ⟨_, _, cls5, by decide, Or.inl (wsg_in 244 (by decide +kernel) (by decide +kernel))⟩
theorem sX5_15 : fldFin RX5 15 5 1 := ⟨_, _, cls5, by decide, rfl, rfl, wsg_in 244 (by decide +kernel) (by decide +kernel)⟩
theorem fX5_18 : fldOK RX5 18 5 2 := ⟨_, _, cls5, by decide, Or.inl (wsg_in 245 (by decide +kernel) (by decide +kernel))⟩
theorem sX5_18 : fldSet RX5 18 5 2 := ⟨_, _, cls5, by decide, rfl, Or.inl (wsg_in 245 (by decide +kernel) (by decide +kernel))⟩
theorem fX0_11 : fldOK RX0 11 0 0 := ⟨_, _, cls0, by decide, Or.inl (wsg_in 260 (by decide +kernel) (by decide +kernel))⟩
theorem sX0_11 : fldSet RX0 11 0 0 := ⟨_, _, cls0, by decide, rfl, Or.inl (wsg_in 260 (by decide +kernel) (by decide +kernel))⟩
theorem fX8_10 : fldOK RX8 10 8 0 := ⟨_, _, cls8, by decide, Or.inl (wsg_in 267 (by decide +kernel) (by decide +kernel))⟩
theorem sX8_10 : fldFin RX8 10 8 0 := ⟨_, _, cls8, by decide, rfl, rfl, wsg_in 267 (by decide +kernel) (by decide +kernel)⟩
theorem fX8_19 : fldOK RX8 19 8 1 := ⟨_, _, cls8, by decide, Or.inl (wsg_in 268 (by decide +kernel) (by decide +kernel))⟩
theorem sX8_19 : fldFin RX8 19 8 1 := ⟨_, _, cls8, by decide, rfl, rfl, wsg_in 268 (by decide +kernel) (by decide +kernel)⟩
theorem fX8_26 : fldOK RX8 26 8 2 := ⟨_, _, cls8, by decide, Or.inl (wsg_in 269 (by decide +kernel) (by decide +kernel))⟩
theorem sX8_26 : fldFin RX8 26 8 2 := ⟨_, _, cls8, by decide, rfl, rfl, wsg_in 269 (by decide +kernel) (by decide +kernel)⟩
theorem fX8_33 : fldOK RX8 33 8 3 := ⟨_, _, cls8, by decide, Or.inl (wsg_in 270 (by decide +kernel) (by decide +kernel))⟩
theorem sX8_33 : fldFin RX8 33 8 3 := ⟨_, _, cls8, by decide, rfl, rfl, wsg_in 270 (by decide +kernel) (by decide +kernel)⟩
theorem fX8_40 : fldOK RX8 40 8 4 := ⟨_, _, cls8, by decide, Or.inl (wsg_in 271 (by decide +kernel) (by decide +kernel))⟩
theorem sX8_40 : fldFin RX8 40 8 4 := ⟨_, _, cls8, by decide, rfl, rfl, wsg_in 271 (by decide +kernel) (by decide +kernel)⟩
theorem fX8_47 : fldOK RX8 47 8 5 := ⟨_, _, cls8, by decide, Or.inl (wsg_in 272 (by decide +kernel) (by decide +kernel))⟩
theorem sX8_47 : fldFin RX8 47 8 5 := ⟨_, _, cls8, by decide, rfl, rfl, wsg_in 272 (by decide +kernel) (by decide +kernel)⟩
theorem fX8_51 : fldOK RX8 51 8 6 := ⟨_, _, cls8, by decide, Or.inl (wsg_in 273 (by decide +kernel) (by decide +kernel))⟩
theorem sX8_51 : fldFin RX8 51 8 6 := ⟨_, _, cls8, by decide, rfl, rfl, wsg_in 273 (by decide +kernel) (by decide +kernel)⟩
theorem fX8_54 : fldOK RX8 54 8 7 := ⟨_, _, cls8, by decide, Or.inl (wsg_in 274 (by decide +kernel) (by decide +kernel))⟩
theorem sX8_54 : fldFin RX8 54 8 7 := ⟨_, _, cls8, by decide, rfl, rfl, wsg_in 274 (by decide +kernel) (by decide +kernel)⟩
theorem fX8_60 : fldOK RX8 60 8 8 := ⟨_, _, cls8, by decide, Or.inl (wsg_in 275 (by decide +kernel) (by decide +kernel))⟩
theorem sX8_60 : fldFin RX8 60 8 8 := ⟨_, _, cls8, by decide, rfl, rfl, wsg_in 275 (by decide +kernel) (by decide +kernel)⟩
theorem fX8_67 : fldOK RX8 67 8 9 := ⟨_, _, cls8, by decide, Or.inl (wsg_in 276 (by decide +kernel) (by decide +kernel))⟩
theorem sX8_67 : fldFin RX8 67 8 9 := ⟨_, _, cls8, by decide, rfl, rfl, wsg_in 276 (by decide +kernel) (by decide +kernel)⟩
theorem fX8_71 : fldOK RX8 71 8 10 := ⟨_, _, cls8, by decide, Or.inl (wsg_in 277 (by decide +kernel) (by decide +kernel))⟩
theorem sX8_71 : fldSet RX8 71 8 10 := ⟨_, _, cls8, by decide, rfl, Or.inl (wsg_in 277 (by decide +kernel) (by decide +kernel))⟩
theorem fX8_75 : fldOK RX8 75 8 11 := ⟨_, _, cls8, by decide, Or.inl (wsg_in 278 (by decide +kernel) (by decide +kernel))⟩
theorem sX8_75 : fldSet RX8 75 8 11 := ⟨_, _, cls8, by decide, rfl, Or.inl (wsg_in 278 (by decide +kernel) (by decide +kernel))⟩
theorem fX9_7 : fldOK RX9 7 9 0 := ⟨_, _, cls9, by decide, Or.inl (wsg_in 842 (by decide +kernel) (by decide +kernel))⟩
theorem sX9_7 : fldFin RX9 7 9 0 := ⟨_, _, cls9, by decide, rfl, rfl, wsg_in 842 (by decide +kernel) (by decide +kernel)⟩
theorem fX9_64 : fldOK RX9 64 9 1 := ⟨_, _, cls9, by decide, Or.inl (wsg_in 843 (by decide +kernel) (by decide +kernel))⟩
theorem sX9_64 : fldSet RX9 64 9 1 := ⟨_, _, cls9, by decide, rfl, Or.inl (wsg_in 843 (by decide +kernel) (by decide +kernel))⟩
theorem fX9_77 : fldOK RX9 77 9 2 := ⟨_, _, cls9, by decide, Or.inl (wsg_in 844 (by decide +kernel) (by decide +kernel))⟩
theorem sX9_77 : fldSet RX9 77 9 2 := ⟨_, _, cls9, by decide, rfl, Or.inl (wsg_in 844 (by decide +kernel) (by decide +kernel))⟩
theorem fX9_74 : fldOK RX9 74 9 3 := ⟨_, _, cls9, by decide, Or.inl (wsg_in 845 (by decide +kernel) (by decide +kernel))⟩
theorem sX9_74 : fldSet RX9 74 9 3 := ⟨_, _, cls9, by decide, rfl, Or.inl (wsg_in 845 (by decide +kernel) (by decide +kernel))⟩
theorem fX9_71 : fldOK RX9 71 9 4 := ⟨_, _, cls9, by decide, Or.inl (wsg_in 846 (by decide +kernel) (by decide +kernel))⟩
theorem sX9_71 : fldSet RX9 71 9 4 := ⟨_, _, cls9, by decide, rfl, Or.inl (wsg_in 846 (by decide +kernel) (by decide +kernel))⟩
theorem fX9_80 : fldOK RX9 80 9 5 := ⟨_, _, cls9, by decide, Or.inl (wsg_in 847 (by decide +kernel) (by decide +kernel))⟩
theorem sX9_80 : fldSet RX9 80 9 5 := ⟨_, _, cls9, by decide, rfl, Or.inl (wsg_in 847 (by decide +kernel) (by decide +kernel))⟩
theorem fX9_92 : fldOK RX9 92 9 6 := ⟨_, _, cls9, by decide, Or.inl (wsg_in 848 (by decide +kernel) (by decide +kernel))⟩
theorem sX9_92 : fldSet RX9 92 9 6 := ⟨_, _, cls9, by decide, rfl, Or.inl (wsg_in 848 (by decide +kernel) (by decide +kernel))⟩
theorem fX9_13 : fldOK RX9 13 9 7 := ⟨_, _, cls9, by decide, Or.inl (wsg_in 849 (by decide +kernel) (by decide +kernel))⟩
theorem sX9_13 : fldFin RX9 13 9 7 := ⟨_, _, cls9, by decide, rfl, rfl, wsg_in 849 (by decide +kernel) (by decide +kernel)⟩
theorem fX9_126 : fldOK RX9 126 9 8 := ⟨_, _, cls9, by decide, Or.inl (wsg_in 850 (by decide +kernel) (by decide +kernel))⟩
theorem sX9_126 : fldSet RX9 126 9 8 := ⟨_, _, cls9, by decide, rfl, Or.inl (wsg_in 850 (by decide +kernel) (by decide +kernel))⟩
theorem fX9_136 : fldOK RX9 136 9 9 := ⟨_, _, cls9, by decide, Or.inl (wsg_in 851 (by decide +kernel) (by decide +kernel))⟩
theorem sX9_136 : fldSet RX9 136 9 9 := ⟨_, _, cls9, by decide, rfl, Or.inl (wsg_in 851 (by decide +kernel) (by decide +kernel))⟩
theorem fX9_16 : fldOK RX9 16 9 10 := ⟨_, _, cls9, by decide, Or.inl (wsg_in 852 (by decide +kernel) (by decide +kernel))⟩
theorem sX9_16 : fldFin RX9 16 9 10 := ⟨_, _, cls9, by decide, rfl, rfl, wsg_in 852 (by decide +kernel) (by decide +kernel)⟩
theorem fX9_142 : fldOK RX9 142 9 11 := ⟨_, _, cls9, by decide, Or.inl (wsg_in 853 (by decide +kernel) (by decide +kernel))⟩
theorem sX9_142 : fldSet RX9 142 9 11 := ⟨_, _, cls9, by decide, rfl, Or.inl (wsg_in 853 (by decide +kernel) (by decide +kernel))⟩
theorem fX9_20 : fldOK RX9 20 9 12 := ⟨_, _, cls9, by decide, Or.inl (wsg_in 854 (by decide +kernel) (by decide +kernel))⟩
theorem sX9_20 : fldFin RX9 20 9 12 := ⟨_, _, cls9, by decide, rfl, rfl, wsg_in 854 (by decide +kernel) (by decide +kernel)⟩
theorem fX9_23 : fldOK RX9 23 9 13 := ⟨_, _, cls9, by decide, Or.inl (wsg_in 855 (by decide +kernel) (by decide +kernel))⟩
theorem sX9_23 : fldFin RX9 23 9 13 := ⟨_, _, cls9, by decide, rfl, rfl, wsg_in 855 (by decide +kernel) (by decide +kernel)⟩
theorem fX9_26 : fldOK RX9 26 9 14 := ⟨_, _, cls9, by decide, Or.inl (wsg_in 856 (by decide +kernel) (by decide +kernel))⟩
theorem sX9_26 : fldFin RX9 26 9 14 := ⟨_, _, cls9, by decide, rfl, rfl, wsg_in 856 (by decide +kernel) (by decide +kernel)⟩
theorem fX9_29 : fldOK RX9 29 9 15 := ⟨_, _, cls9, by decide, Or.inl (wsg_in 857 (by decide +kernel) (by decide +kernel))⟩
theorem sX9_29 : fldFin RX9 29 9 15 := ⟨_, _, cls9, by decide, rfl, rfl, wsg_in 857 (by decide +kernel) (by decide +kernel)⟩
theorem fX9_32 : fldOK RX9 32 9 16 := ⟨_, _, cls9, by decide, Or.inl (wsg_in 858 (by decide +kernel) (by decide +kernel))⟩
theorem sX9_32 : fldFin RX9 32 9 16 := ⟨_, _, cls9, by decide, rfl, rfl, wsg_in 858 (by decide +kernel) (by decide +kernel)⟩
theorem fX9_212 : fldOK RX9 212 9 17 := ⟨_, _, cls9, by decide, Or.inl (wsg_in 859 (by decide +kernel) (by decide +kernel))⟩
theorem sX9_212 : fldSet RX9 212 9 17 := ⟨_, _, cls9, by decide, rfl, Or.inl (wsg_in 859 (by decide +kernel) (by decide +kernel))⟩
theorem fX9_35 : fldOK RX9 35 9 18 := ⟨_, _, cls9, by decide, Or.inl (wsg_in 860 (by decide +kernel) (by decide +kernel))⟩
theorem sX9_35 : fldFin RX9 35 9 18 := ⟨_, _, cls9, by decide, rfl, rfl, wsg_in 860 (by decide +kernel) (by decide +kernel)⟩
theorem fX9_38 : fldOK RX9 38 9 19 := ⟨_, _, cls9, by decide, Or.inl (wsg_in 861 (by decide +kernel) (by decide +kernel))⟩
theorem sX9_38 : fldFin RX9 38 9 19 := ⟨_, _, cls9, by decide, rfl, rfl, wsg_in 861 (by decide +kernel) (by decide +kernel)⟩
theorem fX9_133 : fldOK RX9 133 9 20 := ⟨_, _, cls9, by decide, Or.inl (wsg_in 862 (by decide +kernel) (by decide +kernel))⟩
theorem sX9_133 : fldSet RX9 133 9 20 := ⟨_, _, cls9, by decide, rfl, Or.inl (wsg_in 862 (by decide +kernel) (by decide +kernel))⟩
theorem fX9_41 : fldOK RX9 41 9 21 := ⟨_, _, cls9, by decide, Or.inl (wsg_in 863 (by decide +kernel) (by decide +kernel))⟩
theorem sX9_41 : fldFin RX9 41 9 21 := ⟨_, _, cls9, by decide, rfl, rfl, wsg_in 863 (by decide +kernel) (by decide +kernel)⟩
theorem fX9_304 : fldOK RX9 304 9 22 := ⟨_, _, cls9, by decide, Or.inl (wsg_in 864 (by decide +kernel) (by decide +kernel))⟩
theorem sX9_304 : fldSet RX9 304 9 22 := ⟨_, _, cls9, by decide, rfl, Or.inl (wsg_in 864 (by decide +kernel) (by decide +kernel))⟩
theorem fX9_50 : fldOK RX9 50 9 23 := ⟨_, _, cls9, by decide, Or.inl (wsg_in 865 (by decide +kernel) (by decide +kernel))⟩
theorem sX9_50 : fldSet RX9 50 9 23 := ⟨_, _, cls9, by decide, rfl, Or.inl (wsg_in 865 (by decide +kernel) (by decide +kernel))⟩
theorem fX9_319 : fldOK RX9 319 9 24 := ⟨_, _, cls9, by decide, Or.inl (wsg_in 866 (by decide +kernel) (by decide +kernel))⟩
theorem sX9_319 : fldSet RX9 319 9 24 := ⟨_, _, cls9, by decide, rfl, Or.inl (wsg_in 866 (by decide +kernel) (by decide +kernel))⟩
theorem fX9_322 : fldOK RX9 322 9 25 := ⟨_, _, cls9, by decide, Or.inl (wsg_in 867 (by decide +kernel) (by decide +kernel))⟩
theorem sX9_322 : fldSet RX9 322 9 25 := ⟨_, _, cls9, by decide, rfl, Or.inl (wsg_in 867 (by decide +kernel) (by decide +kernel))⟩
theorem fX9_44 : fldOK RX9 44 9 26 := ⟨_, _, cls9, by decide, Or.inl (wsg_in 868 (by decide +kernel) (by decide +kernel))⟩
theorem sX9_44 : fldFin RX9 44 9 26 := ⟨_, _, cls9, by decide, rfl, rfl, wsg_in 868 (by decide +kernel) (by decide +kernel)⟩
theorem fX9_47 : fldOK RX9 47 9 27 := ⟨_, _, cls9, by decide, Or.inl (wsg_in 869 (by decide +kernel) (by decide +kernel))⟩
theorem sX9_47 : fldFin RX9 47 9 27 := ⟨_, _, cls9, by decide, rfl, rfl, wsg_in 869 (by decide +kernel) (by decide +kernel)⟩
theorem fX9_339 : fldOK RX9 339 9 28 := ⟨_, _, cls9, by decide, Or.inl (wsg_in 870 (by decide +kernel) (by decide +kernel))⟩
theorem sX9_339 : fldSet RX9 339 9 28 := ⟨_, _, cls9, by decide, rfl, Or.inl (wsg_in 870 (by decide +kernel) (by decide +kernel))⟩
theorem fX3_28 : fldOK RX3 28 1 0 := ⟨_, _, cls1, by decide, Or.inr ⟨"SumBounds", wsn_in 106 (by decide +kernel) (by decide +kernel)⟩⟩
theorem fX8_270 : fldOK RX8 270 1 0 := ⟨_, _, cls1, by decide, Or.inr ⟨"SumBounds", wsn_in 107 (by decide +kernel) (by decide +kernel)⟩⟩
theorem fX3_25 : fldOK RX3 25 1 1 := ⟨_, _, cls1, by decide, Or.inr ⟨"SumBounds", wsn_in 109 (by decide +kernel) (by decide +kernel)⟩⟩
theorem fX8_79 : fldOK RX8 79 1 1 := ⟨_, _, cls1, by decide, Or.inr ⟨"SumBounds", wsn_in 110 (by decide +kernel) (by decide +kernel)⟩⟩
theorem sX8_79 : fldSet RX8 79 1 1 := ⟨_, _, cls1, by decide, rfl, Or.inr ⟨"SumBounds", wsn_in 110 (by decide +kernel) (by decide +kernel)⟩⟩
theorem fX4_57 : fldOK RX4 57 7 0 := ⟨_, _, cls7, by decide, Or.inr ⟨"SumBounds", wsn_in 130 (by decide +kernel) (by decide +kernel)⟩⟩
theorem fX8_110 : fldOK RX8 110 7 0 := ⟨_, _, cls7, by decide, Or.inr ⟨"SumBounds", wsn_in 131 (by decide +kernel) (by decide +kernel)⟩⟩
theorem fX4_52 : fldOK RX4 52 7 1 := ⟨_, _, cls7, by decide, Or.inr ⟨"SumBounds", wsn_in 133 (by decide +kernel) (by decide +kernel)⟩⟩
theorem fX8_114 : fldOK RX8 114 7 1 := ⟨_, _, cls7, by decide, Or.inr ⟨"SumBounds", wsn_in 134 (by decide +kernel) (by decide +kernel)⟩⟩
theorem fX4_60 : fldOK RX4 60 7 2 := ⟨_, _, cls7, by decide, Or.inr ⟨"SumBounds", wsn_in 136 (by decide +kernel) (by decide +kernel)⟩⟩
theorem fX8_117 : fldOK RX8 117 7 2 := ⟨_, _, cls7, by decide, Or.inr ⟨"SumBounds", wsn_in 137 (by decide +kernel) (by decide +kernel)⟩⟩
theorem fX4_63 : fldOK RX4 63 7 3 := ⟨_, _, cls7, by decide, Or.inr ⟨"SumBounds", wsn_in 139 (by decide +kernel) (by decide +kernel)⟩⟩
theorem fX8_123 : fldOK RX8 123 7 3 := ⟨_, _, cls7, by decide, Or.inr ⟨"SumBounds", wsn_in 140 (by decide +kernel) (by decide +kernel)⟩⟩
theorem fX3_18 : fldOK RX3 18 7 4 := ⟨_, _, cls7, by decide, Or.inr ⟨"SumBounds", wsn_in 142 (by decide +kernel) (by decide +kernel)⟩⟩
theorem sX3_18 : fldSet RX3 18 7 4 := ⟨_, _, cls7, by decide, rfl, Or.inr ⟨"SumBounds", wsn_in 142 (by decide +kernel) (by decide +kernel)⟩⟩
theorem fX8_105 : fldOK RX8 105 7 4 := ⟨_, _, cls7, by decide, Or.inr ⟨"SumBounds", wsn_in 143 (by decide +kernel) (by decide +kernel)⟩⟩
theorem fX8_94 : fldOK RX8 94 3 0 := ⟨_, _, cls3, by decide, Or.inr ⟨"SumBounds", wsn_in 156 (by decide +kernel) (by decide +kernel)⟩⟩
theorem fX4_48 : fldOK RX4 48 6 1 := ⟨_, _, cls6, by decide, Or.inr ⟨"SumBounds", wsn_in 195 (by decide +kernel) (by decide +kernel)⟩⟩
theorem fX8_163 : fldOK RX8 163 6 1 := ⟨_, _, cls6, by decide, Or.inr ⟨"SumBounds", wsn_in 196 (by decide +kernel) (by decide +kernel)⟩⟩
theorem fX8_159 : fldOK RX8 159 4 0 := ⟨_, _, cls4, by decide, Or.inr ⟨"SumBounds", wsn_in 203 (by decide +kernel) (by decide +kernel)⟩⟩
theorem fX8_244 : fldOK RX8 244 4 5 := ⟨_, _, cls4, by decide, Or.inr ⟨"SumBounds", wsn_in 209 (by decide +kernel) (by decide +kernel)⟩⟩
theorem fX8_216 : fldOK RX8 216 2 1 := ⟨_, _, cls2, by decide, Or.inr ⟨"SumBounds", wsn_in 231 (by decide +kernel) (by decide +kernel)⟩⟩
theorem fX8_101 : fldOK RX8 101 5 2 := ⟨_, _, cls5, by decide, Or.inr ⟨"SumBounds", wsn_in 246 (by decide +kernel) (by decide +kernel)⟩⟩
theorem sX8_101 : fldSet RX8 101 5 2 := ⟨_, _, cls5, by decide, rfl, Or.inr ⟨"SumBounds", wsn_in 246 (by decide +kernel) (by decide +kernel)⟩⟩
theorem fX8_228 : fldOK RX8 228 0 0 := ⟨_, _, cls0, by decide, Or.inr ⟨"SumBounds", wsn_in 261 (by decide +kernel) (by decide +kernel)⟩⟩
theorem sX8_228 : fldSet RX8 228 0 0 := ⟨_, _, cls0, by decide, rfl, Or.inr ⟨"SumBounds", wsn_in 261 (by decide +kernel) (by decide +kernel)⟩⟩
theorem iJ2_227 : Cond.constant RJ2 227 (65536) ∈ WSg := wsg_in 375 (by decide +kernel) (by decide +kernel)
theorem iJ11_110 : Cond.constant RJ11 110 (55232) ∈ WSg := wsg_in 414 (by decide +kernel) (by decide +kernel)
theorem iJ11_76 : Cond.constant RJ11 76 (56320) ∈ WSg := wsg_in 418 (by decide +kernel) (by decide +kernel)
theorem iJ6_265 : Cond.constant RJ6 265 (1431655765) ∈ WSg := wsg_in 621 (by decide +kernel) (by decide +kernel)
theorem iJ6_266 : Cond.constant RJ6 266 (858993459) ∈ WSg := wsg_in 622 (by decide +kernel) (by decide +kernel)
theorem iJ6_267 : Cond.constant RJ6 267 (252645135) ∈ WSg := wsg_in 623 (by decide +kernel) (by decide +kernel)
theorem iX0_21 : Cond.constant RX0 21 (65536) ∈ WSg := wsg_in 772 (by decide +kernel) (by decide +kernel)
theorem iX9_19 : Cond.constant RX9 19 (49130) ∈ WSg := wsg_in 838 (by decide +kernel) (by decide +kernel)
theorem iX9_315 : Cond.constant RX9 315 (34391) ∈ WSg := wsg_in 1224 (by decide +kernel) (by decide +kernel)
theorem iX9_311 : Cond.constant RX9 311 (65536) ∈ WSg := wsg_in 1236 (by decide +kernel) (by decide +kernel)
theorem jX8_180 : Cond.constantLong RX8 180 (-101) ∈ WSg := wsg_in 680 (by decide +kernel) (by decide +kernel)
theorem jX8_319 : Cond.constantLong RX8 319 (1023) ∈ WSg := wsg_in 684 (by decide +kernel) (by decide +kernel)
theorem jX8_321 : Cond.constantLong RX8 321 (2) ∈ WSg := wsg_in 685 (by decide +kernel) (by decide +kernel)
theorem jX0_9 : Cond.constantLong RX0 9 (1103515245) ∈ WSg := wsg_in 769 (by decide +kernel) (by decide +kernel)
theorem jX0_17 : Cond.constantLong RX0 17 (12345) ∈ WSg := wsg_in 770 (by decide +kernel) (by decide +kernel)
theorem jX0_19 : Cond.constantLong RX0 19 (2147483647) ∈ WSg := wsg_in 771 (by decide +kernel) (by decide +kernel)
theorem jX8_256 : Cond.constantLong RX8 256 (1447) ∈ WSg := wsg_in 816 (by decide +kernel) (by decide +kernel)
theorem jX8_265 : Cond.constantLong RX8 265 (31) ∈ WSg := wsg_in 821 (by decide +kernel) (by decide +kernel)
theorem jX9_58 : Cond.constantLong RX9 58 (126) ∈ WSg := wsg_in 934 (by decide +kernel) (by decide +kernel)
theorem jX9_86 : Cond.constantLong RX9 86 (48) ∈ WSg := wsg_in 972 (by decide +kernel) (by decide +kernel)
theorem jX9_88 : Cond.constantLong RX9 88 (53) ∈ WSg := wsg_in 973 (by decide +kernel) (by decide +kernel)
theorem jX9_90 : Cond.constantLong RX9 90 (50) ∈ WSg := wsg_in 974 (by decide +kernel) (by decide +kernel)
theorem jX9_95 : Cond.constantLong RX9 95 (57) ∈ WSg := wsg_in 987 (by decide +kernel) (by decide +kernel)
theorem jX9_169 : Cond.constantLong RX9 169 (-8) ∈ WSg := wsg_in 1078 (by decide +kernel) (by decide +kernel)
theorem jX9_171 : Cond.constantLong RX9 171 (8) ∈ WSg := wsg_in 1079 (by decide +kernel) (by decide +kernel)
theorem jX9_235 : Cond.constantLong RX9 235 (5) ∈ WSg := wsg_in 1100 (by decide +kernel) (by decide +kernel)
theorem jX9_243 : Cond.constantLong RX9 243 (1023) ∈ WSg := wsg_in 1127 (by decide +kernel) (by decide +kernel)
theorem jX9_245 : Cond.constantLong RX9 245 (4913) ∈ WSg := wsg_in 1128 (by decide +kernel) (by decide +kernel)
theorem jX9_247 : Cond.constantLong RX9 247 (2) ∈ WSg := wsg_in 1129 (by decide +kernel) (by decide +kernel)
theorem jX9_249 : Cond.constantLong RX9 249 (4503599627370496) ∈ WSg := wsg_in 1130 (by decide +kernel) (by decide +kernel)
theorem jX9_255 : Cond.constantLong RX9 255 (-101) ∈ WSg := wsg_in 1131 (by decide +kernel) (by decide +kernel)
theorem jX9_278 : Cond.constantLong RX9 278 (4) ∈ WSg := wsg_in 1178 (by decide +kernel) (by decide +kernel)
theorem jX9_283 : Cond.constantLong RX9 283 (3) ∈ WSg := wsg_in 1189 (by decide +kernel) (by decide +kernel)
theorem jX9_285 : Cond.constantLong RX9 285 (-9) ∈ WSg := wsg_in 1190 (by decide +kernel) (by decide +kernel)
theorem jX9_287 : Cond.constantLong RX9 287 (9) ∈ WSg := wsg_in 1191 (by decide +kernel) (by decide +kernel)
theorem jX9_302 : Cond.constantLong RX9 302 (1103515245) ∈ WSg := wsg_in 1233 (by decide +kernel) (by decide +kernel)
theorem jX9_307 : Cond.constantLong RX9 307 (12345) ∈ WSg := wsg_in 1234 (by decide +kernel) (by decide +kernel)
theorem jX9_309 : Cond.constantLong RX9 309 (2147483647) ∈ WSg := wsg_in 1235 (by decide +kernel) (by decide +kernel)
theorem jX9_347 : Cond.constantLong RX9 347 (1447) ∈ WSg := wsg_in 1269 (by decide +kernel) (by decide +kernel)
theorem jX9_337 : Cond.constantLong RX9 337 (31) ∈ WSg := wsg_in 1274 (by decide +kernel) (by decide +kernel)
end
section
/-! ===== the cells, once all is made (printed by gen10.py) ===== -/
def KK : List Kd := [.inl 8, .inl 1, .inr (.inl 36), .inl 3, .inl 7, .inr (.inl 6), .inr (.inl 6), .inr (.inl 6), .inr (.inl 6), .inl 7, .inr (.inl 6), .inr (.inl 6), .inr (.inl 6), .inr (.inl 6), .inl 4, .inr (.inr 7), .inr (.inl 7), .inl 6, .inr (.inl 36), .inl 6, .inr (.inl 36), .inl 6, .inr (.inl 36), .inl 6, .inr (.inl 36), .inl 6, .inr (.inl 36), .inl 6, .inr (.inl 36), .inl 6, .inr (.inl 36), .inl 6, .inr (.inl 36), .inl 6, .inr (.inl 36), .inl 6, .inr (.inl 36), .inl 2, .inr (.inl 15), .inr (.inl 5), .inl 5, .inr (.inl 6), .inr (.inl 6), .inl 7, .inr (.inl 6), .inr (.inl 6), .inr (.inl 6), .inr (.inl 6), .inl 5, .inr (.inl 6), .inr (.inl 6), .inl 0, .inl 6, .inr (.inl 36), .inl 9, .inr (.inl 36), .inr (.inl 24), .inr (.inl 24), .inr (.inl 49130), .inr (.inl 29478), .inr (.inl 36), .inr (.inl 36), .inr (.inl 36), .inr (.inl 7), .inr (.inl 15), .inr (.inl 18), .inr (.inl 24), .inr (.inl 18)]
def PPt : List (List (Option Nat)) := [[some 1, some 3, some 9, some 14, some 37, some 40, some 43, some 48, some 51, some 52], [some 2], [], [some 4], [some 5, some 6, some 7, some 8], [], [], [], [], [some 10, some 11, some 12, some 13], [], [], [], [], [some 15, some 16, some 17, some 19, some 21], [some 23, some 25, some 27, some 29, some 31, some 33, some 35], [], [some 18], [], [some 20], [], [some 22], [], [some 24], [], [some 26], [], [some 28], [], [some 30], [], [some 32], [], [some 34], [], [some 36], [], [some 38, some 39], [], [], [some 41, some 42], [], [], [some 44, some 45, some 46, some 47], [], [], [], [], [some 49, some 50], [], [], [], [some 53], [], [some 55, none, none, none, none, none, none, some 56, none, none, some 57, none, some 58, some 59, some 60, some 61, some 62, none, some 63, some 64, none, some 65, none, none, none, none, some 66, some 67], [], [], [], [], [], [], [], [], [], [], [], [], []]
def PP : Pm := fun c i => (PPt.getD c []).getD i.toNat none
/-- a Shape at c: its bounds at c + 1 -/
def isSh (c : Nat) : Prop := KK[c]? = some (.inl 6) ∧ KK[c + 1]? = some (.inr (.inl 36)) ∧ PP c 0 = some (c + 1)
abbrev Pz : Type := Option V → Mm → Prop
def Cm (d : Md) (A : List V) (M : Mm) (Φ : Pz) : Prop := Cl d A KK M PP (fun r K M' P => K = KK ∧ P = PP ∧ Φ r M')
/-- the end of a frame in the main phase -/
def Rz (d : Md) (Φ : Pz) : Ps := fun r K M P k n => (K = KK ∧ P = PP ∧ Φ r M) ∧ k ≤ (dR d).cells ∧ n ≤ (dR d).slots
theorem cm_of {d : Md} {A : List V} {M : Mm} {Φ : Pz} (hy : plainFor (dy d) = true) (hX : ∀ g, dX d g) (hlen : (ent A).length ≤ dn d) (h : Ev d 0 (pad (dn d) (ent A)) [] KK M PP 0 0 (Rz d Φ)) : Cm d A M Φ := cl_of hy hX hlen h
theorem rz {d : Md} {Φ : Pz} {r : Option V} {M : Mm} {k n : Nat} (h : Φ r M) (hk : k ≤ (dR d).cells := by decide) (hn : n ≤ (dR d).slots := by decide) : Rz d Φ r KK M PP k n := ⟨⟨rfl, rfl, h⟩, hk, hn⟩
theorem cm_mono {d : Md} {A : List V} {M : Mm} {Φ Φ' : Pz} (h : Cm d A M Φ) (hi : ∀ r M', Φ r M' → Φ' r M') : Cm d A M Φ' := by
  intro l g
  have h1 := h l g
  intro p e ha hc hk s m args below hf hfit hP hK
  obtain ⟨t, o, a1, a2, a3, ⟨⟨r, K, M', P, q1, ⟨q2, q3, q4⟩, q5⟩, qF⟩, a5⟩ := h1 p e ha hc hk s m args below hf hfit hP hK
  exact ⟨t, o, a1, a2, a3, ⟨⟨r, K, M', P, q1, ⟨q2, q3, hi r M' q4⟩, q5⟩, qF⟩, a5⟩
theorem okR_z {d : Md} {z : Int} (h : dr d = some .boolean) (hz : z = 0 ∨ z = 1) : okR d z := ⟨.boolean, h, by rcases hz with rfl | rfl <;> rfl⟩
end
section
/-! ===== tools for walks: rows of memory, loops, turning a goal ===== -/
def rwc (M : Mm) (c : Nat) (f : Int → Int) : Mm := fun c' i => if c' = c then f i else M c' i
def up1 (f : Int → Int) (i z : Int) : Int → Int := fun j => if j = i then z else f j
theorem rwc_at (M : Mm) (c : Nat) (f : Int → Int) : rwc M c f c = f := by funext i; simp [rwc]
theorem rwc_ne {M : Mm} {c c' : Nat} {f : Int → Int} (h : c' ≠ c) : rwc M c f c' = M c' := by funext i; simp [rwc, h]
theorem rwc_self (M : Mm) (c : Nat) : rwc M c (M c) = M := by
  funext c' i
  by_cases h : c' = c
  · subst h; simp [rwc]
  · simp [rwc, h]
theorem rwc_rwc (M : Mm) (c : Nat) (f h : Int → Int) : rwc (rwc M c f) c h = rwc M c h := by
  funext c' i
  by_cases hc : c' = c <;> simp [rwc, hc]
theorem rwc_comm {M : Mm} {c c' : Nat} {f h : Int → Int} (hc : c ≠ c') : rwc (rwc M c f) c' h = rwc (rwc M c' h) c f := by
  funext q i
  by_cases h1 : q = c
  · subst h1; simp [rwc, hc]
  · by_cases h2 : q = c'
    · subst h2
      simp [rwc, h1]
    · simp [rwc, h1, h2]
theorem upM_rw (M : Mm) (c : Nat) (i z : Int) : upM M c i z = rwc M c (up1 (M c) i z) := by
  funext c' j
  by_cases h : c' = c
  · subst h; simp [rwc, upM, up1]
  · simp [rwc, upM, h]
theorem up1_s (f : Int → Int) (i z : Int) : up1 f i z i = z := by simp [up1]
theorem up1_n {f : Int → Int} {i j z : Int} (h : j ≠ i) : up1 f i z j = f j := by simp [up1, h]
theorem up1_id (f : Int → Int) (i : Int) : up1 f i (f i) = f := by
  funext j
  by_cases h : j = i
  · subst h; simp [up1]
  · simp [up1, h]
def lle : Lo → Lo → Prop
  | [], _ => True
  | none :: t, L => lle t L.tail
  | some v :: t, L => L.head? = some (some v) ∧ lle t L.tail
theorem lle_get : ∀ (L' L : Lo), lle L' L → ∀ (i : Nat) (v : V), L'[i]? = some (some v) → L[i]? = some (some v) := by
  intro L'
  induction L' with
  | nil => intro L _ i v h; simp at h
  | cons a t ih =>
    intro L h i v hi
    cases a with
    | none =>
      cases i with
      | zero => simp at hi
      | succ i =>
        have := ih L.tail h i v (by simpa using hi)
        cases L with
        | nil => simp at this
        | cons b L => simpa using this
    | some w =>
      cases L with
      | nil => simp [lle] at h
      | cons b L =>
        cases i with
        | zero =>
          simp at hi
          subst hi
          simpa using h.1
        | succ i => simpa using ih L h.2 i v (by simpa using hi)
theorem ev_to {d : Md} {pc : Nat} {L L' : Lo} {S S' : List V} {K : List Kd} {M M' : Mm} {P : Pm} {k n k' n' : Nat} {Φ : Ps} (h : Ev d pc L' S' K M' P k' n' Φ) (hL : lle L' L) (hM : M = M') (hS : S = S') (hk : k = k') (hn : n = n') : Ev d pc L S K M P k n Φ := by
  subst hM; subst hS; subst hk; subst hn
  exact ev_loc (lle_get L' L hL) h
/-- a loop that goes up: what stands at its head after i rounds -/
theorem up_loop {P : Nat → Prop} (N : Nat) (hN : P N) (hs : ∀ i, i < N → P (i + 1) → P i) : P 0 := by
  have key : ∀ j, j ≤ N → P (N - j) := by
    intro j
    induction j with
    | zero => intro _; exact hN
    | succ j ih =>
      intro hj
      refine hs (N - (j + 1)) (by omega) ?_
      have e : N - (j + 1) + 1 = N - j := by omega
      rw [e]
      exact ih (by omega)
  have := key N (Nat.le_refl N)
  rwa [Nat.sub_self] at this
theorem up_from {P : Nat → Prop} (a N : Nat) (ha : a ≤ N) (hN : P N) (hs : ∀ i, a ≤ i → i < N → P (i + 1) → P i) : P a := by
  have h := up_loop (P := fun j => P (a + j)) (N - a) (by show P (a + (N - a)); rw [Nat.add_sub_of_le ha]; exact hN) (fun i hi h => hs (a + i) (Nat.le_add_right _ _) (by omega) h)
  exact h
theorem isSh_ne {c c' : Nat} (h : isSh c) (h' : isSh c') : c ≠ c' + 1 := by
  intro e
  subst e
  have := h.1.symm.trans h'.2.1
  simp at this
def nx (a : Int) : Int := if a % 2 = 0 then a + 1 else a - 1
theorem xor1 {a : Int} (h : 0 ≤ a) (h2 : a < 6) : xorI a 1 = nx a := by
  have : a = 0 ∨ a = 1 ∨ a = 2 ∨ a = 3 ∨ a = 4 ∨ a = 5 := by omega
  rcases this with rfl | rfl | rfl | rfl | rfl | rfl <;> decide
theorem nx_rng {a : Int} (h : 0 ≤ a) (h2 : a < 6) : 0 ≤ nx a ∧ nx a < 6 := by
  unfold nx; split <;> omega
end
section
/-! ===== Math, Arrays.fill, and Shape: single bounds, chains ===== -/
theorem c_min {x y : Int} (hx : inR x) (hy : inR y) (M : Mm) : Cm mJ9_min_7cf53 [vI x, vI y] M (fun r M' => r = some (vI (min x y)) ∧ M' = M) := by
  refine cm_of (by decide +kernel) (fun _ => trivial) (Nat.le_of_ble_eq_true rfl) ?_
  refine ev_iload_n dJ9_min_7cf53_0 rfl ?_
  refine ev_iload_n dJ9_min_7cf53_1 rfl ?_
  refine ev_icmp_gt (tgt := 9) dJ9_min_7cf53_2 (by decide) (by omega) (by omega) (fun h => ?_) (fun h => ?_)
  · refine ev_iload_n dJ9_min_7cf53_9 rfl ?_
    exact ev_ireturn dJ9_min_7cf53_10 ⟨_, rfl, rfl⟩ (rz ⟨by rw [Int.min_def, if_neg (by omega)], rfl⟩)
  · refine ev_iload_n dJ9_min_7cf53_5 rfl ?_
    refine ev_goto (tgt := 10) dJ9_min_7cf53_6 (by decide) ?_
    exact ev_ireturn dJ9_min_7cf53_10 ⟨_, rfl, rfl⟩ (rz ⟨by rw [Int.min_def, if_pos (by omega)], rfl⟩)
theorem c_max {x y : Int} (hx : inR x) (hy : inR y) (M : Mm) : Cm mJ9_max_7cf53 [vI x, vI y] M (fun r M' => r = some (vI (max x y)) ∧ M' = M) := by
  refine cm_of (by decide +kernel) (fun _ => trivial) (Nat.le_of_ble_eq_true rfl) ?_
  refine ev_iload_n dJ9_max_7cf53_0 rfl ?_
  refine ev_iload_n dJ9_max_7cf53_1 rfl ?_
  refine ev_icmp_lt (tgt := 9) dJ9_max_7cf53_2 (by decide) (by omega) (by omega) (fun h => ?_) (fun h => ?_)
  · refine ev_iload_n dJ9_max_7cf53_9 rfl ?_
    exact ev_ireturn dJ9_max_7cf53_10 ⟨_, rfl, rfl⟩ (rz ⟨by congr 2; omega, rfl⟩)
  · refine ev_iload_n dJ9_max_7cf53_5 rfl ?_
    refine ev_goto (tgt := 10) dJ9_max_7cf53_6 (by decide) ?_
    exact ev_ireturn dJ9_max_7cf53_10 ⟨_, rfl, rfl⟩ (rz ⟨by congr 2; omega, rfl⟩)
/-- the first i places hold z -/
def fillS (z : Int) (f : Int → Int) (i : Nat) : Int → Int := fun j => if 0 ≤ j ∧ j < i then z else f j
theorem c_afill {c N : Nat} {z : Int} (hK : KK[c]? = some (.inr (.inl N))) (hN : N ≤ 2147483647) (M : Mm) : Cm mJ7_fill_53178 [vR c, vI z] M (fun r M' => r = none ∧ M' = rwc M c (fillS z (M c) N)) := by
  refine cm_of (by decide +kernel) (fun _ => trivial) (Nat.le_of_ble_eq_true rfl) ?_
  refine ev_iconst dJ7_fill_53178_0 ?_
  refine ev_istore_n dJ7_fill_53178_1 (by decide) ?_
  first | refine ev_aload_n dJ7_fill_53178_2 rfl ?_ | refine ev_aloadX_n dJ7_fill_53178_2 rfl ?_
  refine ev_alen dJ7_fill_53178_3 (by first | rfl | assumption) ?_
  refine ev_istore_n dJ7_fill_53178_4 (by decide) ?_
  refine ev_to (L' := [some (vR c), some (vI z), some (vI ((0 : Nat) : Int)), some (vI N)]) (S' := []) (M' := rwc M c (fillS z (M c) 0)) (k' := 0) (n' := 0) ?_ ⟨rfl, rfl, rfl, rfl, trivial⟩ ?_ rfl rfl rfl
  · refine up_loop (P := fun i => Ev mJ7_fill_53178 5 [some (vR c), some (vI z), some (vI (i : Int)), some (vI N)] [] KK (rwc M c (fillS z (M c) i)) PP 0 0 _) N ?_ ?_
    · refine ev_iload_n dJ7_fill_53178_5 rfl ?_
      refine ev_iload_n dJ7_fill_53178_6 rfl ?_
      refine ev_icmp_ge (tgt := 20) dJ7_fill_53178_7 (by decide) (by omega) (by omega) (fun h => ?_) (fun h => ?_)
      · exact ev_return dJ7_fill_53178_20 rfl (rz ⟨rfl, rfl⟩)
      · omega
    · intro i hi hP
      refine ev_iload_n dJ7_fill_53178_5 rfl ?_
      refine ev_iload_n dJ7_fill_53178_6 rfl ?_
      refine ev_icmp_ge (tgt := 20) dJ7_fill_53178_7 (by decide) (by omega) (by omega) (fun h => ?_) (fun h => ?_)
      · omega
      · first | refine ev_aload_n dJ7_fill_53178_10 rfl ?_ | refine ev_aloadX_n dJ7_fill_53178_10 rfl ?_
        refine ev_iload_n dJ7_fill_53178_11 rfl ?_
        refine ev_iload_n dJ7_fill_53178_12 rfl ?_
        refine ev_iastore dJ7_fill_53178_13 hK (by omega) (by omega) hN ?_
        refine ev_iinc dJ7_fill_53178_14 rfl (by decide) ?_
        refine ev_goto (tgt := 5) dJ7_fill_53178_17 (by decide) ?_
        refine ev_to hP ⟨rfl, rfl, rfl, rfl, trivial⟩ ?_ rfl rfl rfl
        rw [upM_rw, rwc_rwc, rwc_at]
        congr 1
        funext j
        simp only [fillS, up1]
        split <;> split <;> (try split) <;> first | rfl | omega
  · have : fillS z (M c) 0 = M c := by
      funext j
      simp only [fillS]
      rw [if_neg (by omega)]
    rw [this, rwc_self]
theorem c_boundOf {c : Nat} (hs : isSh c) {a b : Int} (h1 : 0 ≤ a) (h2 : a < 6) (h3 : 0 ≤ b) (h4 : b < 6) (M : Mm) : Cm mX6_boundOf [vR c, vI a, vI b] M (fun r M' => r = some (vI (M (c + 1) (a * 6 + b))) ∧ M' = M) := by
  obtain ⟨hs1, hs2, hs3⟩ := hs
  refine cm_of (by decide +kernel) (fun _ => trivial) (Nat.le_of_ble_eq_true rfl) ?_
  first | refine ev_aload_n dX6_boundOf_0 rfl ?_ | refine ev_aloadX_n dX6_boundOf_0 rfl ?_
  refine ev_getR dX6_boundOf_1 fX6_9 rfl (by first | rfl | assumption) (by first | rfl | assumption) ?_
  refine ev_iload_n dX6_boundOf_4 rfl ?_
  refine ev_bipush dX6_boundOf_5 ?_
  refine ev_imul dX6_boundOf_7 ?_
  refine ev_iload_n dX6_boundOf_8 rfl ?_
  refine ev_iadd dX6_boundOf_9 ?_
  refine ev_iaload dX6_boundOf_10 (by first | rfl | assumption) (by omega) (by omega) (by decide) ?_
  exact ev_ireturn dX6_boundOf_11 ⟨_, rfl, rfl⟩ (rz ⟨rfl, rfl⟩)
/-- both places of a pair -/
def st2 (f : Int → Int) (a b z : Int) : Int → Int := up1 (up1 f (a * 6 + b) z) (b * 6 + a) z
theorem c_setBound {c : Nat} (hs : isSh c) {a b z : Int} (h1 : 0 ≤ a) (h2 : a < 6) (h3 : 0 ≤ b) (h4 : b < 6) (M : Mm) : Cm mX6_setBound [vR c, vI a, vI b, vI z] M (fun r M' => r = none ∧ M' = rwc M (c + 1) (st2 (M (c + 1)) a b z)) := by
  obtain ⟨hs1, hs2, hs3⟩ := hs
  refine cm_of (by decide +kernel) (fun _ => trivial) (Nat.le_of_ble_eq_true rfl) ?_
  first | refine ev_aload_n dX6_setBound_0 rfl ?_ | refine ev_aloadX_n dX6_setBound_0 rfl ?_
  refine ev_getR dX6_setBound_1 fX6_9 rfl (by first | rfl | assumption) (by first | rfl | assumption) ?_
  refine ev_iload_n dX6_setBound_4 rfl ?_
  refine ev_bipush dX6_setBound_5 ?_
  refine ev_imul dX6_setBound_7 ?_
  refine ev_iload_n dX6_setBound_8 rfl ?_
  refine ev_iadd dX6_setBound_9 ?_
  refine ev_iload_n dX6_setBound_10 rfl ?_
  refine ev_iastore dX6_setBound_11 (by first | rfl | assumption) (by omega) (by omega) (by decide) ?_
  first | refine ev_aload_n dX6_setBound_12 rfl ?_ | refine ev_aloadX_n dX6_setBound_12 rfl ?_
  refine ev_getR dX6_setBound_13 fX6_9 rfl (by first | rfl | assumption) (by first | rfl | assumption) ?_
  refine ev_iload_n dX6_setBound_16 rfl ?_
  refine ev_bipush dX6_setBound_17 ?_
  refine ev_imul dX6_setBound_19 ?_
  refine ev_iload_n dX6_setBound_20 rfl ?_
  refine ev_iadd dX6_setBound_21 ?_
  refine ev_iload_n dX6_setBound_22 rfl ?_
  refine ev_iastore dX6_setBound_23 (by first | rfl | assumption) (by omega) (by omega) (by decide) ?_
  exact ev_return dX6_setBound_24 rfl (rz ⟨rfl, by rw [upM_rw, upM_rw, rwc_rwc, rwc_at]; rfl⟩)
def limF (f : Int → Int) (a b z : Int) : Int → Int := if z < f (a * 6 + b) then st2 f a b z else f
theorem c_limit {c : Nat} (hs : isSh c) {a b z : Int} (h1 : 0 ≤ a) (h2 : a < 6) (h3 : 0 ≤ b) (h4 : b < 6) (hz : inR z) (M : Mm) (hm : inR (M (c + 1) (a * 6 + b))) : Cm mX6_limit [vR c, vI a, vI b, vI z] M (fun r M' => r = none ∧ M' = rwc M (c + 1) (limF (M (c + 1)) a b z)) := by
  obtain ⟨hs1, hs2, hs3⟩ := id hs
  refine cm_of (by decide +kernel) (fun _ => trivial) (Nat.le_of_ble_eq_true rfl) ?_
  refine ev_iload_n dX6_limit_0 rfl ?_
  first | refine ev_aload_n dX6_limit_1 rfl ?_ | refine ev_aloadX_n dX6_limit_1 rfl ?_
  refine ev_iload_n dX6_limit_2 rfl ?_
  refine ev_iload_n dX6_limit_3 rfl ?_
  refine ev_callv (ci := 6) (c_boundOf hs h1 h2 h3 h4 _) dX6_limit_4 tX6_boundOf.1 kX6_31 tX6_boundOf.2.1 tX6_boundOf.2.2.1 rfl (by first | rfl | assumption) tX6_boundOf.2.2.2 ⟨⟨Nat.le_of_ble_eq_true rfl, Nat.le_of_ble_eq_true rfl⟩, Nat.le_of_ble_eq_true rfl, Nat.le_of_ble_eq_true rfl⟩ rfl (Nat.le_of_ble_eq_true rfl) ?_
  rintro r K' M' P' ⟨rfl, rfl, rfl, rfl⟩
  refine ev_icmp_ge (tgt := 17) dX6_limit_7 (by decide) (by omega) (by omega) (fun h => ?_) (fun h => ?_)
  · exact ev_return dX6_limit_17 rfl (rz ⟨rfl, by rw [limF, if_neg (by omega), rwc_self]⟩)
  · first | refine ev_aload_n dX6_limit_10 rfl ?_ | refine ev_aloadX_n dX6_limit_10 rfl ?_
    refine ev_iload_n dX6_limit_11 rfl ?_
    refine ev_iload_n dX6_limit_12 rfl ?_
    refine ev_iload_n dX6_limit_13 rfl ?_
    refine ev_callv (ci := 6) (c_setBound hs h1 h2 h3 h4 _) dX6_limit_14 tX6_setBound.1 kX6_35 tX6_setBound.2.1 tX6_setBound.2.2.1 rfl (by first | rfl | assumption) tX6_setBound.2.2.2 ⟨⟨Nat.le_of_ble_eq_true rfl, Nat.le_of_ble_eq_true rfl⟩, Nat.le_of_ble_eq_true rfl, Nat.le_of_ble_eq_true rfl⟩ rfl (Nat.le_of_ble_eq_true rfl) ?_
    rintro r K' M' P' ⟨rfl, rfl, rfl, rfl⟩
    exact ev_return dX6_limit_17 rfl (rz ⟨rfl, by rw [limF, if_pos h]⟩)
/-- row a of the chain by b, its first k places -/
def rwS (b a : Int) (k : Nat) (f : Int → Int) : Int → Int := fun j => if a * 6 ≤ j ∧ j < a * 6 + k then min (f j) (f (a * 6 + b) + f (nx b * 6 + (j - a * 6))) else f j
def chS (b : Int) : Nat → (Int → Int) → (Int → Int)
  | 0, f => f
  | i + 1, f => rwS b i 6 (chS b i f)
/-- bounds of a row of bounds -/
def bdd (B : Int) (f : Int → Int) : Prop := ∀ j, 0 ≤ j → j < 36 → -B ≤ f j ∧ f j ≤ B
theorem chS_bd {b B : Int} {f : Int → Int} (hb : 0 ≤ b) (hb2 : b < 6) (hB : bdd B f) (hB0 : 0 ≤ B) : ∀ i : Nat, i ≤ 6 → (∀ j, 0 ≤ j → j < 36 → -(3 * B) ≤ chS b i f j ∧ chS b i f j ≤ B) ∧ (∀ j, (i : Int) * 6 ≤ j → chS b i f j = f j) ∧ (∀ o, 0 ≤ o → o < 6 → -(2 * B) ≤ chS b i f (nx b * 6 + o)) := by
  intro i
  obtain ⟨n1, n2⟩ := nx_rng hb hb2
  induction i with
  | zero =>
    intro _
    refine ⟨fun j h1 h2 => ?_, fun j _ => rfl, fun o h1 h2 => ?_⟩
    · have := hB j h1 h2
      show -(3 * B) ≤ f j ∧ f j ≤ B
      omega
    · have := hB (nx b * 6 + o) (by omega) (by omega)
      show -(2 * B) ≤ f _
      omega
  | succ i ih =>
    intro hi
    obtain ⟨h1, h2, h3⟩ := ih (by omega)
    refine ⟨fun j q1 q2 => ?_, fun j q => ?_, fun o q1 q2 => ?_⟩
    · show -(3 * B) ≤ rwS b i 6 (chS b i f) j ∧ rwS b i 6 (chS b i f) j ≤ B
      unfold rwS
      split
      · rename_i hj
        have e1 := h1 j q1 q2
        have e2 := h2 ((i : Int) * 6 + b) (by omega)
        have e3 := hB ((i : Int) * 6 + b) (by omega) (by omega)
        have e4 := h3 (j - (i : Int) * 6) (by omega) (by omega)
        omega
      · exact h1 j q1 q2
    · show rwS b i 6 (chS b i f) j = f j
      unfold rwS
      rw [if_neg (by omega)]
      exact h2 j (by omega)
    · show -(2 * B) ≤ rwS b i 6 (chS b i f) (nx b * 6 + o)
      unfold rwS
      split
      · rename_i hj
        have hni : nx b = i := by omega
        have e1 := h2 (nx b * 6 + o) (by omega)
        have e2 := h2 ((i : Int) * 6 + b) (by omega)
        have e3 := hB (nx b * 6 + o) (by omega) (by omega)
        have e4 := hB ((i : Int) * 6 + b) (by omega) (by omega)
        have e5 := h2 (nx b * 6 + (nx b * 6 + o - (i : Int) * 6)) (by omega)
        have e6 : nx b * 6 + (nx b * 6 + o - (i : Int) * 6) = nx b * 6 + o := by omega
        rw [e6] at e5 ⊢
        omega
      · exact h3 o q1 q2
theorem rwS_0 (b a : Int) (f : Int → Int) : rwS b a 0 f = f := by
  funext j
  unfold rwS
  rw [if_neg (by omega)]
theorem c_chainBy {c : Nat} (hs : isSh c) {b B : Int} (h1 : 0 ≤ b) (h2 : b < 6) (M : Mm) (hB : bdd B (M (c + 1))) (hB0 : 0 ≤ B) (hB1 : B ≤ 100000000) : Cm mX6_chainBy [vR c, vI b] M (fun r M' => r = none ∧ M' = rwc M (c + 1) (chS b 6 (M (c + 1)))) := by
  obtain ⟨hs1, hs2, hs3⟩ := id hs
  obtain ⟨n1, n2⟩ := nx_rng h1 h2
  refine cm_of (by decide +kernel) (fun _ => trivial) (Nat.le_of_ble_eq_true rfl) ?_
  refine ev_iconst dX6_chainBy_0 ?_
  refine ev_istore_n dX6_chainBy_1 (by decide) ?_
  refine ev_to (L' := [some (vR c), some (vI b), some (vI ((0 : Nat) : Int)), none, none, none]) (S' := []) (M' := rwc M (c + 1) (chS b 0 (M (c + 1)))) (k' := 0) (n' := 0) ?_ ⟨rfl, rfl, rfl, trivial⟩ (by show M = rwc M (c + 1) (M (c + 1)); rw [rwc_self]) rfl rfl rfl
  refine up_loop (P := fun i => Ev mX6_chainBy 2 [some (vR c), some (vI b), some (vI (i : Int)), none, none, none] [] KK (rwc M (c + 1) (chS b i (M (c + 1)))) PP 0 0 _) 6 ?_ ?_
  · refine ev_iload_n dX6_chainBy_2 rfl ?_
    refine ev_bipush dX6_chainBy_3 ?_
    refine ev_icmp_ge (tgt := 76) dX6_chainBy_5 (by decide) (by omega) (by omega) (fun h => ?_) (fun h => ?_)
    · exact ev_return dX6_chainBy_76 rfl (rz ⟨rfl, rfl⟩)
    · omega
  intro i hi hP
  obtain ⟨g1, g2, g3⟩ := chS_bd h1 h2 hB hB0 i (by omega)
  generalize hg : chS b i (M (c + 1)) = g at g1 g2 g3 ⊢
  refine ev_iload_n dX6_chainBy_2 rfl ?_
  refine ev_bipush dX6_chainBy_3 ?_
  refine ev_icmp_ge (tgt := 76) dX6_chainBy_5 (by decide) (by omega) (by omega) (fun h => ?_) (fun h => ?_)
  · omega
  first | refine ev_aload_n dX6_chainBy_8 rfl ?_ | refine ev_aloadX_n dX6_chainBy_8 rfl ?_
  refine ev_iload_n dX6_chainBy_9 rfl ?_
  refine ev_iload_n dX6_chainBy_10 rfl ?_
  refine ev_callv (ci := 6) (c_boundOf hs (by omega) (by omega) h1 h2 _) dX6_chainBy_11 tX6_boundOf.1 kX6_31 tX6_boundOf.2.1 tX6_boundOf.2.2.1 rfl (by first | rfl | assumption) tX6_boundOf.2.2.2 ⟨⟨Nat.le_of_ble_eq_true rfl, Nat.le_of_ble_eq_true rfl⟩, Nat.le_of_ble_eq_true rfl, Nat.le_of_ble_eq_true rfl⟩ rfl (Nat.le_of_ble_eq_true rfl) ?_
  rintro r K' M' P' ⟨rfl, rfl, rfl, rfl⟩
  rw [rwc_at]
  refine ev_istore_n dX6_chainBy_14 (by decide) ?_
  refine ev_iconst dX6_chainBy_15 ?_
  refine ev_istore dX6_chainBy_16 (by decide) ?_
  refine ev_to (L' := [some (vR c), some (vI b), some (vI (i : Int)), some (vI (g ((i : Int) * 6 + b))), some (vI ((0 : Nat) : Int)), none]) (S' := []) (M' := rwc M (c + 1) (rwS b i 0 g)) (k' := 0) (n' := 0) ?_ ⟨rfl, rfl, rfl, rfl, rfl, trivial⟩ (by rw [rwS_0]) rfl rfl rfl
  refine up_loop (P := fun o => Ev mX6_chainBy 18 [some (vR c), some (vI b), some (vI (i : Int)), some (vI (g ((i : Int) * 6 + b))), some (vI (o : Int)), none] [] KK (rwc M (c + 1) (rwS b i o g)) PP 0 0 _) 6 ?_ ?_
  · refine ev_iload dX6_chainBy_18 rfl ?_
    refine ev_bipush dX6_chainBy_20 ?_
    refine ev_icmp_ge (tgt := 70) dX6_chainBy_22 (by decide) (by omega) (by omega) (fun h => ?_) (fun h => ?_)
    · refine ev_iinc dX6_chainBy_70 rfl (by decide) ?_
      refine ev_goto (tgt := 2) dX6_chainBy_73 (by decide) ?_
      refine ev_to hP ⟨rfl, rfl, rfl, trivial⟩ ?_ rfl rfl rfl
      show _ = rwc M (c + 1) (rwS b i 6 (chS b i (M (c + 1))))
      rw [hg]
    · omega
  intro o ho hQ
  refine ev_iload dX6_chainBy_18 rfl ?_
  refine ev_bipush dX6_chainBy_20 ?_
  refine ev_icmp_ge (tgt := 70) dX6_chainBy_22 (by decide) (by omega) (by omega) (fun h => ?_) (fun h => ?_)
  · omega
  refine ev_iload_n dX6_chainBy_25 rfl ?_
  first | refine ev_aload_n dX6_chainBy_26 rfl ?_ | refine ev_aloadX_n dX6_chainBy_26 rfl ?_
  refine ev_iload_n dX6_chainBy_27 rfl ?_
  refine ev_iconst dX6_chainBy_28 ?_
  refine ev_ixor dX6_chainBy_29 ?_
  refine ev_iload dX6_chainBy_30 rfl ?_
  rw [xor1 h1 h2]
  refine ev_callv (ci := 6) (c_boundOf hs n1 n2 (by omega) (by omega) _) dX6_chainBy_32 tX6_boundOf.1 kX6_31 tX6_boundOf.2.1 tX6_boundOf.2.2.1 rfl (by first | rfl | assumption) tX6_boundOf.2.2.2 ⟨⟨Nat.le_of_ble_eq_true rfl, Nat.le_of_ble_eq_true rfl⟩, Nat.le_of_ble_eq_true rfl, Nat.le_of_ble_eq_true rfl⟩ rfl (Nat.le_of_ble_eq_true rfl) ?_
  rintro r K' M' P' ⟨rfl, rfl, rfl, rfl⟩
  rw [rwc_at]
  have ek : rwS b i o g (nx b * 6 + (o : Int)) = g (nx b * 6 + (o : Int)) := by
    unfold rwS
    rw [if_neg (by omega)]
  have ek2 : rwS b i o g ((i : Int) * 6 + (o : Int)) = g ((i : Int) * 6 + (o : Int)) := by
    unfold rwS
    rw [if_neg (by omega)]
  have b1 := g1 ((i : Int) * 6 + b) (by omega) (by omega)
  have b2 := g1 (nx b * 6 + (o : Int)) (by omega) (by omega)
  have b3 := g1 ((i : Int) * 6 + (o : Int)) (by omega) (by omega)
  rw [ek]
  refine ev_iadd dX6_chainBy_35 ?_
  refine ev_istore dX6_chainBy_36 (by decide) ?_
  refine ev_iload dX6_chainBy_38 rfl ?_
  first | refine ev_aload_n dX6_chainBy_40 rfl ?_ | refine ev_aloadX_n dX6_chainBy_40 rfl ?_
  refine ev_iload_n dX6_chainBy_41 rfl ?_
  refine ev_iload dX6_chainBy_42 rfl ?_
  refine ev_callv (ci := 6) (c_boundOf hs (by omega) (by omega) (by omega) (by omega) _) dX6_chainBy_44 tX6_boundOf.1 kX6_31 tX6_boundOf.2.1 tX6_boundOf.2.2.1 rfl (by first | rfl | assumption) tX6_boundOf.2.2.2 ⟨⟨Nat.le_of_ble_eq_true rfl, Nat.le_of_ble_eq_true rfl⟩, Nat.le_of_ble_eq_true rfl, Nat.le_of_ble_eq_true rfl⟩ rfl (Nat.le_of_ble_eq_true rfl) ?_
  rintro r K' M' P' ⟨rfl, rfl, rfl, rfl⟩
  rw [rwc_at, ek2]
  refine ev_icmp_ge (tgt := 64) dX6_chainBy_47 (by decide) (by omega) (by omega) (fun hc => ?_) (fun hc => ?_)
  · refine ev_iinc dX6_chainBy_64 rfl (by decide) ?_
    refine ev_goto (tgt := 18) dX6_chainBy_67 (by decide) ?_
    refine ev_to hQ ⟨rfl, rfl, rfl, rfl, rfl, trivial⟩ ?_ rfl rfl rfl
    congr 1
    funext j
    unfold rwS
    by_cases hj : j = (i : Int) * 6 + (o : Int)
    · subst hj
      rw [if_neg (by omega), if_pos (by omega)]
      have e : (i : Int) * 6 + (o : Int) - (i : Int) * 6 = o := by omega
      rw [e]
      omega
    · split <;> split <;> first | rfl | omega
  · first | refine ev_aload_n dX6_chainBy_50 rfl ?_ | refine ev_aloadX_n dX6_chainBy_50 rfl ?_
    refine ev_getR dX6_chainBy_51 fX6_9 rfl (by first | rfl | assumption) (by first | rfl | assumption) ?_
    refine ev_iload_n dX6_chainBy_54 rfl ?_
    refine ev_bipush dX6_chainBy_55 ?_
    refine ev_imul dX6_chainBy_57 ?_
    refine ev_iload dX6_chainBy_58 rfl ?_
    refine ev_iadd dX6_chainBy_60 ?_
    refine ev_iload dX6_chainBy_61 rfl ?_
    refine ev_iastore dX6_chainBy_63 (by first | rfl | assumption) (by omega) (by omega) (by decide) ?_
    refine ev_iinc dX6_chainBy_64 rfl (by decide) ?_
    refine ev_goto (tgt := 18) dX6_chainBy_67 (by decide) ?_
    refine ev_to hQ ⟨rfl, rfl, rfl, rfl, rfl, trivial⟩ ?_ rfl rfl rfl
    rw [upM_rw, rwc_rwc, rwc_at]
    congr 1
    funext j
    unfold rwS up1
    by_cases hj : j = (i : Int) * 6 + (o : Int)
    · subst hj
      rw [if_pos rfl, if_pos (by omega)]
      have e : (i : Int) * 6 + (o : Int) - (i : Int) * 6 = o := by omega
      rw [e]
      omega
    · rw [if_neg hj]
      dsimp only
      split <;> split <;> first | rfl | omega
end
section
/-! ===== octagons of whole numbers: closed bounds are reached ===== -/
abbrev lit (a : Int) : Prop := 0 ≤ a ∧ a < 6
theorem nx_lit {a : Int} (h : lit a) : lit (nx a) := nx_rng h.1 h.2
theorem nx_nx {a : Int} (h : lit a) : nx (nx a) = a := by
  unfold nx; split <;> split <;> omega
theorem nx_ne (a : Int) : nx a ≠ a := by
  unfold nx; split <;> omega
theorem nx_inj {a b : Int} (ha : lit a) (hb : lit b) (h : nx a = nx b) : a = b := by
  rw [← nx_nx ha, ← nx_nx hb, h]
/-- the entry of a pair -/
abbrev mt (f : Int → Int) (a b : Int) : Int := f (a * 6 + b)
def Sym (f : Int → Int) : Prop := ∀ a b, lit a → lit b → mt f a b = mt f b a
def TR (f : Int → Int) : Prop := ∀ a b c, lit a → lit b → lit c → mt f a b ≤ mt f a c + mt f (nx c) b
/-- closed bounds of whole numbers -/
def TC (f : Int → Int) : Prop := Sym f ∧ TR f ∧ (∀ a, lit a → mt f a (nx a) = 0) ∧ (∀ a, lit a → mt f a a % 2 = 0) ∧ ∀ a b, lit a → lit b → 2 * mt f a b ≤ mt f a a + mt f b b
/-- signed values: of a and of its other sign -/
def sgn (s : Int → Int) : Prop := ∀ a, lit a → s (nx a) = - s a
def Sat (f : Int → Int) (s : Int → Int) : Prop := ∀ a b, lit a → lit b → s a + s b ≤ mt f a b
def GoodO (f : Int → Int) (O : List Int) (s : Int → Int) : Prop := (∀ a, a ∈ O → lit a ∧ nx a ∈ O ∧ s (nx a) = - s a) ∧ ∀ a b, a ∈ O → b ∈ O → s a + s b ≤ mt f a b
theorem ex_below (hi : List Int) : ∃ v : Int, ∀ u ∈ hi, v ≤ u := by
  induction hi with
  | nil => exact ⟨0, by simp⟩
  | cons a t ih =>
    obtain ⟨v, h⟩ := ih
    refine ⟨min a v, fun u hu => ?_⟩
    rcases List.mem_cons.mp hu with hu | hu
    · omega
    · have := h u hu; omega
theorem ex_between : ∀ (lo hi : List Int), (∀ l ∈ lo, ∀ u ∈ hi, l ≤ u) → ∃ v, (∀ l ∈ lo, l ≤ v) ∧ ∀ u ∈ hi, v ≤ u := by
  intro lo hi
  induction lo with
  | nil =>
    intro _
    obtain ⟨v, h⟩ := ex_below hi
    exact ⟨v, by simp, h⟩
  | cons a t ih =>
    intro h
    obtain ⟨v, h1, h2⟩ := ih (fun l hl u hu => h l (List.mem_cons_of_mem _ hl) u hu)
    refine ⟨max a v, fun l hl => ?_, fun u hu => ?_⟩
    · rcases List.mem_cons.mp hl with rfl | hl
      · omega
      · have := h1 l hl; omega
    · have := h a List.mem_cons_self u hu
      have := h2 u hu
      omega
/-- one number more: c -/
theorem oct_ext {f : Int → Int} (hf : TC f) {O : List Int} {s : Int → Int} (hO : GoodO f O s) {c : Int} (hc : lit c) (h1 : c ∉ O) (h2 : nx c ∉ O) : ∃ v : Int, GoodO f (c :: nx c :: O) (fun p => if p = c then v else if p = nx c then -v else s p) := by
  obtain ⟨fS, fT, fZ, fE, fH⟩ := hf
  obtain ⟨o1, o2⟩ := hO
  have hn := nx_lit hc
  have hnn := nx_nx hc
  obtain ⟨v, hlo, hhi⟩ := ex_between ((-(mt f (nx c) (nx c) / 2)) :: O.map (fun p => s p - mt f (nx c) p)) ((mt f c c / 2) :: O.map (fun p => mt f c p - s p)) (by
    intro l hl u hu
    have e1 := fE c hc
    have e2 := fE (nx c) hn
    rcases List.mem_cons.mp hl with rfl | hl
    · rcases List.mem_cons.mp hu with rfl | hu
      · have t := fT c (nx c) c hc hn hc
        have z := fZ c hc
        omega
      · obtain ⟨q, hq, rfl⟩ := List.mem_map.mp hu
        have lq := (o1 q hq).1
        have t1 := fT q q c lq lq hc
        have t2 := fT (nx c) q (nx c) hn lq hn
        rw [hnn] at t2
        have t3 := fS q c lq hc
        have g := o2 q q hq hq
        omega
    · obtain ⟨q, hq, rfl⟩ := List.mem_map.mp hl
      have lq := (o1 q hq).1
      rcases List.mem_cons.mp hu with rfl | hu
      · have t1 := fT q q (nx c) lq lq hn
        rw [hnn] at t1
        have t2 := fT c q c hc lq hc
        have t3 := fS q (nx c) lq hn
        have g := o2 q q hq hq
        omega
      · obtain ⟨r, hr, rfl⟩ := List.mem_map.mp hu
        have lr := (o1 r hr).1
        have t1 := fT q r (nx c) lq lr hn
        rw [hnn] at t1
        have t3 := fS q (nx c) lq hn
        have g := o2 q r hq hr
        omega)
  have b1 := hlo _ List.mem_cons_self
  have b2 := hhi _ List.mem_cons_self
  have b3 : ∀ q ∈ O, s q - mt f (nx c) q ≤ v := fun q hq => hlo _ (List.mem_cons_of_mem _ (List.mem_map.mpr ⟨q, hq, rfl⟩))
  have b4 : ∀ q ∈ O, v ≤ mt f c q - s q := fun q hq => hhi _ (List.mem_cons_of_mem _ (List.mem_map.mpr ⟨q, hq, rfl⟩))
  have e1 := fE c hc
  have e2 := fE (nx c) hn
  have hne := nx_ne c
  have sO : ∀ q ∈ O, (fun p => if p = c then v else if p = nx c then -v else s p) q = s q := by
    intro q hq
    have q1 : q ≠ c := fun z => h1 (z ▸ hq)
    have q2 : q ≠ nx c := fun z => h2 (z ▸ hq)
    simp [q1, q2]
  have sc : (fun p => if p = c then v else if p = nx c then -v else s p) c = v := by simp
  have sn : (fun p => if p = c then v else if p = nx c then -v else s p) (nx c) = -v := by simp [hne]
  refine ⟨v, fun a ha => ?_, fun a b ha hb => ?_⟩
  · rcases List.mem_cons.mp ha with ha | ha
    · rw [ha]
      exact ⟨hc, by simp, by rw [sc, sn]⟩
    · rcases List.mem_cons.mp ha with ha | ha
      · rw [ha]
        exact ⟨hn, by rw [hnn]; simp, by rw [hnn, sc, sn]; omega⟩
      · obtain ⟨k1, k2, k3⟩ := o1 a ha
        refine ⟨k1, by simp [k2], ?_⟩
        rw [sO a ha, sO _ k2, k3]
  · have z := fZ c hc
    have zs := fS c (nx c) hc hn
    rcases List.mem_cons.mp ha with ha | ha
    · rw [ha, sc]
      rcases List.mem_cons.mp hb with hb | hb
      · rw [hb, sc]; omega
      · rcases List.mem_cons.mp hb with hb | hb
        · rw [hb, sn]; omega
        · rw [sO b hb]
          have := b4 b hb
          omega
    · rcases List.mem_cons.mp ha with ha | ha
      · rw [ha, sn]
        rcases List.mem_cons.mp hb with hb | hb
        · rw [hb, sc]; omega
        · rcases List.mem_cons.mp hb with hb | hb
          · rw [hb, sn]; omega
          · rw [sO b hb]
            have := b3 b hb
            omega
      · have la := (o1 a ha).1
        rw [sO a ha]
        rcases List.mem_cons.mp hb with hb | hb
        · rw [hb, sc]
          have := b4 a ha
          have := fS a c la hc
          omega
        · rcases List.mem_cons.mp hb with hb | hb
          · rw [hb, sn]
            have := b3 a ha
            have := fS a (nx c) la hn
            omega
          · rw [sO b hb]
            exact o2 a b ha hb
/-- all numbers: from any that are good -/
theorem oct_all {f : Int → Int} (hf : TC f) {O : List Int} {s : Int → Int} (hO : GoodO f O s) : ∃ s' : Int → Int, sgn s' ∧ Sat f s' ∧ ∀ a, a ∈ O → s' a = s a := by
  have key : ∀ (cs : List Int) (O : List Int) (s : Int → Int), (∀ c ∈ cs, lit c) → GoodO f O s → ∃ (O' : List Int) (s' : Int → Int), GoodO f O' s' ∧ (∀ c ∈ cs, c ∈ O') ∧ (∀ a ∈ O, a ∈ O') ∧ ∀ a ∈ O, s' a = s a := by
    intro cs
    induction cs with
    | nil => intro O s _ h; exact ⟨O, s, h, by simp, fun a h => h, fun a _ => rfl⟩
    | cons c cs ih =>
      intro O s hl h
      have hc := hl c List.mem_cons_self
      by_cases hm : c ∈ O
      · obtain ⟨O', s', g1, g2, g3, g4⟩ := ih O s (fun c hc => hl c (List.mem_cons_of_mem _ hc)) h
        refine ⟨O', s', g1, fun q hq => ?_, g3, g4⟩
        rcases List.mem_cons.mp hq with rfl | hq
        · exact g3 _ hm
        · exact g2 q hq
      · have hm2 : nx c ∉ O := fun z => hm (by have := (h.1 _ z).2.1; rwa [nx_nx hc] at this)
        obtain ⟨v, hv⟩ := oct_ext hf h hc hm hm2
        obtain ⟨O', s', g1, g2, g3, g4⟩ := ih _ _ (fun c hc => hl c (List.mem_cons_of_mem _ hc)) hv
        refine ⟨O', s', g1, fun q hq => ?_, fun a ha => g3 a (by simp [ha]), fun a ha => ?_⟩
        · rcases List.mem_cons.mp hq with rfl | hq
          · exact g3 _ List.mem_cons_self
          · exact g2 q hq
        · rw [g4 a (by simp [ha])]
          have q1 : a ≠ c := fun z => hm (z ▸ ha)
          have q2 : a ≠ nx c := fun z => hm2 (z ▸ ha)
          simp [q1, q2]
  obtain ⟨O', s', g1, g2, g3, g4⟩ := key [0, 1, 2, 3, 4, 5] O s (by intro c hc; simp at hc; omega) hO
  have all : ∀ a, lit a → a ∈ O' := by
    intro a ha
    refine g2 a ?_
    have : a = 0 ∨ a = 1 ∨ a = 2 ∨ a = 3 ∨ a = 4 ∨ a = 5 := by omega
    simp; exact this
  exact ⟨s', fun a ha => (g1.1 a (all a ha)).2.2, fun a b ha hb => g1.2 a b (all a ha) (all b hb), g4⟩
/-- each closed bound is reached by whole numbers -/
theorem oct_att {f : Int → Int} (hf : TC f) {a b : Int} (ha : lit a) (hb : lit b) : ∃ s : Int → Int, sgn s ∧ Sat f s ∧ s a + s b = mt f a b := by
  obtain ⟨fS, fT, fZ, fE, fH⟩ := id hf
  have na := nx_lit ha
  have nb := nx_lit hb
  have naa := nx_nx ha
  have nbb := nx_nx hb
  by_cases hab : a = b
  · subst hab
    have hg : GoodO f [a, nx a] (fun p => if p = a then mt f a a / 2 else -(mt f a a / 2)) := by
      have e1 := fE a ha
      have e2 := fE (nx a) na
      have z := fZ a ha
      have z2 := fS a (nx a) ha na
      have t := fT a (nx a) a ha na ha
      have hne := nx_ne a
      refine ⟨fun p hp => ?_, fun p q hp hq => ?_⟩
      · simp only [List.mem_cons, List.not_mem_nil, or_false] at hp
        rcases hp with rfl | rfl
        · exact ⟨ha, by simp, by simp [hne]⟩
        · exact ⟨na, by simp [naa], by simp [naa, hne]⟩
      · simp only [List.mem_cons, List.not_mem_nil, or_false] at hp hq
        rcases hp with rfl | rfl <;> rcases hq with rfl | rfl <;> simp [hne] <;> omega
    obtain ⟨s, h1, h2, h3⟩ := oct_all hf hg
    refine ⟨s, h1, h2, ?_⟩
    rw [h3 a (by simp)]
    have e1 := fE a ha
    simp
    omega
  · by_cases hab2 : b = nx a
    · subst hab2
      obtain ⟨s, h1, h2, -⟩ := oct_all hf (O := []) (s := fun _ => 0) ⟨by simp, by simp⟩
      refine ⟨s, h1, h2, ?_⟩
      rw [h1 a ha, fZ a ha]
      omega
    · have hba2 : a ≠ nx b := fun z => hab2 (by rw [z, nbb])
      have hn2 : nx a ≠ nx b := fun z => hab (nx_inj ha hb z)
      have e1 := fE a ha
      have e2 := fE (nx a) na
      have e3 := fE b hb
      have e4 := fE (nx b) nb
      have h1 := fH a b ha hb
      have h2 := fH (nx a) (nx b) na nb
      have s1 := fS a b ha hb
      have s2 := fS (nx a) (nx b) na nb
      have s3 := fS a (nx b) ha nb
      have s4 := fS (nx a) b na hb
      have za := fZ a ha
      have zb := fZ b hb
      have sza := fS a (nx a) ha na
      have szb := fS b (nx b) hb nb
      have t1 := fT a (nx a) b ha na hb
      have t2 := fT a (nx a) (nx b) ha na nb
      rw [nbb] at t2
      have t3 := fT a a b ha ha hb
      have t4 := fT b b a hb hb ha
      have t5 := fT (nx a) (nx a) (nx b) na na nb
      rw [nbb] at t5
      have t6 := fT (nx b) (nx b) (nx a) nb nb na
      rw [naa] at t6
      obtain ⟨v, hlo, hhi⟩ := ex_between [-(mt f (nx a) (nx a) / 2), mt f a b - mt f b b / 2, (mt f a b - mt f (nx a) b + 1) / 2] [mt f a a / 2, mt f a b + mt f (nx b) (nx b) / 2, (mt f a b + mt f a (nx b)) / 2] (by
        have t7 := fT a a a ha ha ha
        have u1 := fT a b a ha hb ha
        have u2 := fT a b b ha hb hb
        have u3 := fT (nx a) b (nx a) na hb na
        rw [naa] at u3
        have u4 := fT a (nx b) (nx b) ha nb nb
        rw [nbb] at u4
        have u5 := fH a (nx b) ha nb
        have u6 := fH (nx a) b na hb
        intro l hl u hu
        simp only [List.mem_cons, List.not_mem_nil, or_false] at hl hu
        rcases hl with rfl | rfl | rfl <;> rcases hu with rfl | rfl | rfl <;> omega)
      have l1 := hlo _ List.mem_cons_self
      have l2 := hlo (mt f a b - mt f b b / 2) (by simp)
      have l3 := hlo ((mt f a b - mt f (nx a) b + 1) / 2) (by simp)
      have k1 := hhi _ List.mem_cons_self
      have k2 := hhi (mt f a b + mt f (nx b) (nx b) / 2) (by simp)
      have k3 := hhi ((mt f a b + mt f a (nx b)) / 2) (by simp)
      have hna := nx_ne a
      have hnb := nx_ne b
      have x1 : nx b ≠ nx a := fun z => hn2 z.symm
      have x2 : b ≠ a := fun z => hab z.symm
      have x3 : nx b ≠ a := fun z => hba2 z.symm
      obtain ⟨F, va, vna, vb, vnb⟩ : ∃ F : Int → Int, F a = v ∧ F (nx a) = -v ∧ F b = mt f a b - v ∧ F (nx b) = v - mt f a b :=
        ⟨fun p => if p = a then v else if p = nx a then -v else if p = b then mt f a b - v else v - mt f a b, by simp, by simp [hna], by simp [x2, hab2], by simp [x1, x3, hnb]⟩
      have hg : GoodO f [a, nx a, b, nx b] F := by
        refine ⟨fun p hp => ?_, fun p q hp hq => ?_⟩
        · simp only [List.mem_cons, List.not_mem_nil, or_false] at hp
          rcases hp with hp | hp | hp | hp <;> rw [hp]
          · exact ⟨ha, by simp, by rw [va, vna]⟩
          · exact ⟨na, by simp [naa], by rw [naa, va, vna]; omega⟩
          · exact ⟨hb, by simp, by rw [vb, vnb]; omega⟩
          · exact ⟨nb, by simp [nbb], by rw [nbb, vb, vnb]; omega⟩
        · simp only [List.mem_cons, List.not_mem_nil, or_false] at hp hq
          rcases hp with hp | hp | hp | hp <;> rcases hq with hq | hq | hq | hq <;> rw [hp, hq] <;> simp only [va, vna, vb, vnb] <;> omega
      obtain ⟨s, q1, q2, q3⟩ := oct_all hf hg
      refine ⟨s, q1, q2, ?_⟩
      rw [q3 a (by simp), q3 b (by simp), va, vb]
      omega
end
section
/-! ===== closing: what the six chains, the evening and the halves make ===== -/
def cl1 : Nat → (Int → Int) → (Int → Int)
  | 0, f => f
  | i + 1, f => chS i 6 (cl1 i f)
def evS : Nat → (Int → Int) → (Int → Int)
  | 0, g => g
  | i + 1, g => up1 (evS i g) ((i : Int) * 6 + i) (2 * (evS i g ((i : Int) * 6 + i) / 2))
def em1 : Nat → (Int → Int) → Int
  | 0, _ => 0
  | i + 1, g => if evS i g ((i : Int) * 6 + nx i) < 0 then 1 else em1 i g
def em2 : Nat → (Int → Int) → Int → Int
  | 0, _, e => e
  | i + 1, h, e => if h ((2 * i : Int) * 6 + 2 * i) + h ((2 * i + 1 : Int) * 6 + (2 * i + 1)) < 0 then 1 else em2 i h e
def hvR (i : Int) : Nat → (Int → Int) → (Int → Int)
  | 0, f => f
  | k + 1, f => limF (hvR i k f) i k ((hvR i k f (i * 6 + i) + hvR i k f ((k : Int) * 6 + k)).tdiv 2)
def hvS : Nat → (Int → Int) → (Int → Int)
  | 0, f => f
  | i + 1, f => hvR i i (hvS i f)
def closeF (f : Int → Int) : Int → Int := hvS 6 (evS 6 (cl1 6 f))
def emF (f : Int → Int) : Int := em2 3 (evS 6 (cl1 6 f)) (em1 6 (cl1 6 f))
theorem rwS_mt {b i : Int} {f : Int → Int} (hi : lit i) {a o : Int} (ha : lit a) (ho : lit o) : mt (rwS b i 6 f) a o = if a = i then min (mt f i o) (mt f i b + mt f (nx b) o) else mt f a o := by
  unfold mt rwS
  by_cases h : a = i
  · rw [h, if_pos (by omega), if_pos rfl]
    have e : i * 6 + o - i * 6 = o := by omega
    rw [e]
  · rw [if_neg (by omega), if_neg h]
theorem ch_sat {b : Int} (hb : lit b) {f s : Int → Int} (hs : sgn s) (h : Sat f s) : ∀ i : Nat, i ≤ 6 → Sat (chS b i f) s := by
  intro i
  induction i with
  | zero => intro _; exact h
  | succ i ih =>
    intro hi a o ha ho
    have h1 := ih (by omega)
    show s a + s o ≤ mt (rwS b i 6 (chS b i f)) a o
    rw [rwS_mt (by omega) ha ho]
    split
    · rename_i he
      have q1 := h1 a o ha ho
      have q2 := h1 a b ha hb
      have q3 := h1 (nx b) o (nx_lit hb) ho
      have q4 := hs b hb
      rw [← he]
      omega
    · exact h1 a o ha ho
theorem ch_le {b : Int} (f : Int → Int) : ∀ (i : Nat) (j : Int), chS b i f j ≤ f j := by
  intro i
  induction i with
  | zero => intro j; exact Int.le_refl _
  | succ i ih =>
    intro j
    show rwS b i 6 (chS b i f) j ≤ f j
    have := ih j
    unfold rwS
    split <;> omega
theorem ch_ex0 {b : Int} (hb : lit b) {f : Int → Int} (h0 : 0 ≤ mt f (nx b) b) : ∀ i : Nat, i ≤ 6 → ∀ a o, lit a → lit o → mt (chS b i f) a o = if a < i then min (mt f a o) (mt f a b + mt f (nx b) o) else mt f a o := by
  intro i
  induction i with
  | zero => intro _ a o ha ho; rw [if_neg (by omega)]; rfl
  | succ i ih =>
    intro hi a o ha ho
    have h1 := ih (by omega)
    show mt (rwS b i 6 (chS b i f)) a o = _
    rw [rwS_mt (by omega) ha ho]
    by_cases he : a = i
    · rw [if_pos he, if_pos (by omega), ← he, h1 a o ha ho, if_neg (by omega), h1 a b ha hb, if_neg (by omega), h1 (nx b) o (nx_lit hb) ho]
      split <;> omega
    · rw [if_neg he, h1 a o ha ho]
      by_cases hl : a < i
      · rw [if_pos hl, if_pos (by omega)]
      · rw [if_neg hl, if_neg (by omega)]
theorem ch_ex {b : Int} (hb : lit b) {f : Int → Int} (h0 : 0 ≤ mt f (nx b) b) {a o : Int} (ha : lit a) (ho : lit o) : mt (chS b 6 f) a o = min (mt f a o) (mt f a b + mt f (nx b) o) := by
  rw [ch_ex0 hb h0 6 (by omega) a o ha ho, if_pos (by omega)]
def TRk (f : Int → Int) (k : Int) : Prop := ∀ c, lit c → c < k → ∀ a b, lit a → lit b → mt f a b ≤ mt f a c + mt f (nx c) b
theorem fw_step {f : Int → Int} {k : Int} (hk : lit k) (h0 : 0 ≤ mt f (nx k) k) (h : TRk f k) : TRk (chS k 6 f) (k + 1) := by
  intro c hc hck a b ha hb
  rw [ch_ex hk h0 ha hb, ch_ex hk h0 ha hc, ch_ex hk h0 (nx_lit hc) hb]
  by_cases he : c = k
  · subst he
    omega
  · have hlt : c < k := by omega
    have t1 := h c hc hlt a b ha hb
    have t2 := h c hc hlt a k ha hk
    have t3 := h c hc hlt (nx k) b (nx_lit hk) hb
    have t4 := h c hc hlt (nx k) k (nx_lit hk) hk
    omega
theorem cl1_le (f : Int → Int) (j : Int) : ∀ (n i : Nat), cl1 (i + n) f j ≤ cl1 i f j := by
  intro n
  induction n with
  | zero => intro i; exact Int.le_refl _
  | succ n ih =>
    intro i
    have h1 := ih i
    have h2 := ch_le (b := ((i + n : Nat) : Int)) (cl1 (i + n) f) 6 j
    exact Int.le_trans h2 h1
theorem cl1_sat {f s : Int → Int} (hs : sgn s) (h : Sat f s) : ∀ i : Nat, i ≤ 6 → Sat (cl1 i f) s := by
  intro i
  induction i with
  | zero => intro _; exact h
  | succ i ih => intro hi; exact ch_sat (by omega) hs (ih (by omega)) 6 (by omega)
theorem cl1_nn {f : Int → Int} (hn : ∀ a, lit a → 0 ≤ mt (cl1 6 f) a (nx a)) {i : Nat} (hi : i ≤ 6) {k : Int} (hk : lit k) : 0 ≤ mt (cl1 i f) (nx k) k := by
  have h1 := hn (nx k) (nx_lit hk)
  rw [nx_nx hk] at h1
  have h2 := cl1_le f (nx k * 6 + k) (6 - i) i
  rw [show i + (6 - i) = 6 by omega] at h2
  exact Int.le_trans h1 h2
theorem cl1_TR {f : Int → Int} (hn : ∀ a, lit a → 0 ≤ mt (cl1 6 f) a (nx a)) : TR (cl1 6 f) := by
  have key : ∀ i : Nat, i ≤ 6 → TRk (cl1 i f) i := by
    intro i
    induction i with
    | zero => intro _ c hc hck; omega
    | succ i ih =>
      intro hi
      have h := fw_step (k := (i : Int)) (by omega) (cl1_nn hn (i := i) (by omega) (by omega)) (ih (by omega))
      exact h
  intro a b c ha hb hc
  exact key 6 (by omega) c hc (by omega) a b ha hb
theorem cl1_ge {f h : Int → Int} (hn : ∀ a, lit a → 0 ≤ mt (cl1 6 f) a (nx a)) (hT : TR h) (hle : ∀ a b, lit a → lit b → mt h a b ≤ mt f a b) : ∀ i : Nat, i ≤ 6 → ∀ a b, lit a → lit b → mt h a b ≤ mt (cl1 i f) a b := by
  intro i
  induction i with
  | zero => intro _; exact hle
  | succ i ih =>
    intro hi a b ha hb
    have h1 := ih (by omega)
    have hl : lit (i : Int) := by omega
    show mt h a b ≤ mt (chS i 6 (cl1 i f)) a b
    rw [ch_ex hl (cl1_nn hn (by omega) hl) ha hb]
    have q1 := h1 a b ha hb
    have q2 := h1 a i ha hl
    have q3 := h1 (nx i) b (nx_lit hl) hb
    have q4 := hT a b i ha hb hl
    omega
theorem cl1_sym {f : Int → Int} (hS : Sym f) (hn : ∀ a, lit a → 0 ≤ mt (cl1 6 f) a (nx a)) : Sym (cl1 6 f) := by
  have hT := cl1_TR hn
  have hle := fun j => cl1_le f j 6 0
  obtain ⟨h, hh⟩ : ∃ h : Int → Int, ∀ a b, lit a → lit b → mt h a b = mt (cl1 6 f) b a := by
    refine ⟨fun j => cl1 6 f ((j % 6) * 6 + j / 6), fun a b ha hb => ?_⟩
    show cl1 6 f (((a * 6 + b) % 6) * 6 + (a * 6 + b) / 6) = cl1 6 f (b * 6 + a)
    congr 1
    omega
  have hTh : TR h := by
    intro a b c ha hb hc
    rw [hh a b ha hb, hh a c ha hc, hh (nx c) b (nx_lit hc) hb]
    have := hT b a (nx c) hb ha (nx_lit hc)
    rw [nx_nx hc] at this
    omega
  have hge := cl1_ge hn hTh (fun a b ha hb => by
    rw [hh a b ha hb, hS a b ha hb]
    exact hle _) 6 (by omega)
  intro a b ha hb
  have q1 := hge a b ha hb
  have q2 := hge b a hb ha
  rw [hh a b ha hb] at q1
  rw [hh b a hb ha] at q2
  omega
theorem ev_mt {g : Int → Int} : ∀ i : Nat, i ≤ 6 → ∀ a b, lit a → lit b → mt (evS i g) a b = if a = b ∧ a < i then 2 * (mt g a a / 2) else mt g a b := by
  intro i
  induction i with
  | zero => intro _ a b ha hb; rw [if_neg (by omega)]; rfl
  | succ i ih =>
    intro hi a b ha hb
    have h1 := ih (by omega)
    have hl : lit (i : Int) := by omega
    show up1 (evS i g) ((i : Int) * 6 + i) (2 * (mt (evS i g) i i / 2)) (a * 6 + b) = _
    rw [h1 i i hl hl, if_neg (by omega)]
    unfold up1
    by_cases he : a = i ∧ b = i
    · rw [if_pos (by omega), if_pos (by omega), he.1]
    · rw [if_neg (by omega)]
      show mt (evS i g) a b = _
      rw [h1 a b ha hb]
      by_cases hx : a = b ∧ a < i
      · rw [if_pos hx, if_pos (by omega)]
      · rw [if_neg hx, if_neg (by omega)]
theorem em1_iff {g : Int → Int} : ∀ i : Nat, i ≤ 6 → (em1 i g = 0 ∨ em1 i g = 1) ∧ (em1 i g = 0 ↔ ∀ a, lit a → a < i → 0 ≤ mt g a (nx a)) := by
  intro i
  induction i with
  | zero => intro _; exact ⟨Or.inl rfl, fun _ a h1 h2 => by omega, fun _ => rfl⟩
  | succ i ih =>
    intro hi
    obtain ⟨h1, h2⟩ := ih (by omega)
    have hl : lit (i : Int) := by omega
    have e : evS i g ((i : Int) * 6 + nx i) = mt g i (nx i) := by
      have := ev_mt (g := g) i (by omega) i (nx i) hl (nx_lit hl)
      rw [if_neg (by omega)] at this
      exact this
    simp only [em1, e]
    by_cases hn : mt g i (nx i) < 0
    · rw [if_pos hn]
      refine ⟨Or.inr rfl, fun h => by omega, fun h => ?_⟩
      have := h i hl (by omega)
      omega
    · rw [if_neg hn]
      refine ⟨h1, fun h a ha hai => ?_, fun h => h2.mpr (fun a ha hai => h a ha (by omega))⟩
      by_cases hx : a = i
      · subst hx; omega
      · exact h2.mp h a ha (by omega)
theorem em2_iff {h : Int → Int} {e : Int} (he : e = 0 ∨ e = 1) : ∀ i : Nat, i ≤ 3 → (em2 i h e = 0 ∨ em2 i h e = 1) ∧ (em2 i h e = 0 ↔ e = 0 ∧ ∀ a : Int, 0 ≤ a → a < i → 0 ≤ mt h (2 * a) (2 * a) + mt h (2 * a + 1) (2 * a + 1)) := by
  intro i
  induction i with
  | zero => intro _; exact ⟨he, fun q => ⟨q, fun a h1 h2 => by omega⟩, fun q => q.1⟩
  | succ i ih =>
    intro hi
    obtain ⟨h1, h2⟩ := ih (by omega)
    simp only [em2]
    by_cases hn : h ((2 * i : Int) * 6 + 2 * i) + h ((2 * i + 1 : Int) * 6 + (2 * i + 1)) < 0
    · rw [if_pos hn]
      refine ⟨Or.inr rfl, fun q => by omega, fun q => ?_⟩
      have := q.2 i (by omega) (by omega)
      unfold mt at this
      omega
    · rw [if_neg hn]
      refine ⟨h1, fun q => ⟨(h2.mp q).1, fun a ha hai => ?_⟩, fun q => h2.mpr ⟨q.1, fun a ha hai => q.2 a ha (by omega)⟩⟩
      by_cases hx : a = i
      · subst hx; unfold mt; omega
      · exact (h2.mp q).2 a ha (by omega)
theorem tdiv2 {n : Int} (h : n % 2 = 0) : n.tdiv 2 = n / 2 := by
  obtain ⟨q, rfl⟩ : ∃ q, n = 2 * q := ⟨n / 2, by omega⟩
  rw [Int.mul_tdiv_cancel_left _ (by decide)]
  omega
theorem lim_mt {f : Int → Int} (hS : Sym f) {i k z : Int} (hi : lit i) (hk : lit k) {a b : Int} (ha : lit a) (hb : lit b) : mt (limF f i k z) a b = if (a = i ∧ b = k) ∨ (a = k ∧ b = i) then min (mt f a b) z else mt f a b := by
  have hs := hS i k hi hk
  unfold mt at hs
  unfold limF mt
  by_cases hz : z < f (i * 6 + k)
  · rw [if_pos hz]
    unfold st2 up1
    by_cases h1 : a = k ∧ b = i
    · rw [if_pos (by omega), if_pos (Or.inr h1), h1.1, h1.2]
      omega
    · rw [if_neg (by omega)]
      by_cases h2 : a = i ∧ b = k
      · rw [if_pos (by omega), if_pos (Or.inl h2), h2.1, h2.2]
        omega
      · rw [if_neg (by omega), if_neg (by omega)]
  · rw [if_neg hz]
    by_cases h1 : (a = i ∧ b = k) ∨ (a = k ∧ b = i)
    · rw [if_pos h1]
      rcases h1 with h1 | h1 <;> rw [h1.1, h1.2] <;> omega
    · rw [if_neg h1]
theorem lim_sym {f : Int → Int} (hS : Sym f) {i k z : Int} (hi : lit i) (hk : lit k) : Sym (limF f i k z) := by
  intro a b ha hb
  have := hS a b ha hb
  rw [lim_mt hS hi hk ha hb, lim_mt hS hi hk hb ha]
  by_cases h1 : (a = i ∧ b = k) ∨ (a = k ∧ b = i)
  · rw [if_pos h1, if_pos (by omega)]; omega
  · rw [if_neg h1, if_neg (by omega)]; omega
/-- what the halves make, entry by entry, as far as rows i and k -/
def hvI (g : Int → Int) (i k a b : Int) : Int := if a ≠ b ∧ (max a b < i ∨ (max a b = i ∧ min a b < k)) then min (mt g a b) ((mt g a a + mt g b b) / 2) else mt g a b
theorem hvR_mt {g f : Int → Int} (hE : ∀ a, lit a → mt g a a % 2 = 0) {i : Int} (hi : lit i) (hS : Sym f) (hf : ∀ a b, lit a → lit b → mt f a b = hvI g i 0 a b) : ∀ k : Nat, (k : Int) ≤ i → Sym (hvR i k f) ∧ ∀ a b, lit a → lit b → mt (hvR i k f) a b = hvI g i k a b := by
  intro k
  induction k with
  | zero => intro _; exact ⟨hS, hf⟩
  | succ k ih =>
    intro hk
    obtain ⟨h1, h2⟩ := ih (by omega)
    have hl : lit (k : Int) := by omega
    refine ⟨lim_sym h1 hi hl, fun a b ha hb => ?_⟩
    show mt (limF (hvR i k f) i k ((mt (hvR i k f) i i + mt (hvR i k f) k k).tdiv 2)) a b = _
    have e1 := hE i hi
    have e2 := hE k hl
    rw [lim_mt h1 hi hl ha hb, h2 a b ha hb, h2 i i hi hi, h2 k k hl hl]
    unfold hvI
    rw [if_neg (show ¬ (i ≠ i ∧ _) from fun q => q.1 rfl), if_neg (show ¬ ((k : Int) ≠ k ∧ _) from fun q => q.1 rfl), tdiv2 (by omega)]
    by_cases hx : (a = i ∧ b = k) ∨ (a = k ∧ b = i)
    · rw [if_pos hx]
      rcases hx with ⟨hx1, hx2⟩ | ⟨hx1, hx2⟩
      · subst hx1; subst hx2
        rw [if_neg (by omega), if_pos (by omega)]
      · subst hx1; subst hx2
        rw [if_neg (by omega), if_pos (by omega), Int.add_comm (mt g b b)]
    · rw [if_neg hx]
      by_cases hy : a ≠ b ∧ (max a b < i ∨ (max a b = i ∧ min a b < k))
      · rw [if_pos hy, if_pos (by omega)]
      · rw [if_neg hy, if_neg (by omega)]
theorem hvS_mt {g : Int → Int} (hE : ∀ a, lit a → mt g a a % 2 = 0) (hS : Sym g) : ∀ i : Nat, i ≤ 6 → Sym (hvS i g) ∧ ∀ a b, lit a → lit b → mt (hvS i g) a b = hvI g i 0 a b := by
  intro i
  induction i with
  | zero =>
    intro _
    refine ⟨hS, fun a b ha hb => ?_⟩
    unfold hvI
    rw [if_neg (by omega)]
    rfl
  | succ i ih =>
    intro hi
    obtain ⟨h1, h2⟩ := ih (by omega)
    obtain ⟨q1, q2⟩ := hvR_mt hE (i := (i : Int)) (by omega) h1 h2 i (by omega)
    refine ⟨q1, fun a b ha hb => ?_⟩
    show mt (hvR i i (hvS i g)) a b = _
    rw [q2 a b ha hb]
    unfold hvI
    by_cases hy : a ≠ b ∧ (max a b < (i : Int) ∨ (max a b = (i : Int) ∧ min a b < (i : Int)))
    · rw [if_pos hy, if_pos (by omega)]
    · rw [if_neg hy, if_neg (by omega)]
/-- evened bounds with halves are closed -/
theorem tight {g G F : Int → Int} (hS : Sym g) (hT : TR g) (hZ : ∀ a, lit a → mt g a (nx a) = 0) (hG : ∀ a b, lit a → lit b → mt G a b = if a = b then 2 * (mt g a a / 2) else mt g a b) (hnn : ∀ a, lit a → 0 ≤ mt G a a + mt G (nx a) (nx a)) (hF : ∀ a b, lit a → lit b → mt F a b = if a = b then mt G a a else min (mt G a b) ((mt G a a + mt G b b) / 2)) : TC F := by
  have gd : ∀ a, lit a → mt G a a = 2 * (mt g a a / 2) := fun a ha => by rw [hG a a ha ha, if_pos rfl]
  have go : ∀ a b, lit a → lit b → a ≠ b → mt G a b = mt g a b := fun a b ha hb h => by rw [hG a b ha hb, if_neg h]
  have fd : ∀ a, lit a → mt F a a = mt G a a := fun a ha => by rw [hF a a ha ha, if_pos rfl]
  have fle : ∀ a b, lit a → lit b → mt F a b ≤ mt g a b := by
    intro a b ha hb
    rw [hF a b ha hb]
    by_cases h : a = b
    · subst h; rw [if_pos rfl, gd a ha]; omega
    · rw [if_neg h, go a b ha hb h]; omega
  have fh : ∀ a b, lit a → lit b → 2 * mt F a b ≤ mt G a a + mt G b b := by
    intro a b ha hb
    rw [hF a b ha hb]
    by_cases h : a = b
    · subst h; rw [if_pos rfl]; omega
    · rw [if_neg h]; omega
  refine ⟨fun a b ha hb => ?_, fun a b c ha hb hc => ?_, fun a ha => ?_, fun a ha => ?_, fun a b ha hb => ?_⟩
  · rw [hF a b ha hb, hF b a hb ha]
    by_cases h : a = b
    · subst h; rfl
    · rw [if_neg h, if_neg (fun z => h z.symm), go a b ha hb h, go b a hb ha (fun z => h z.symm), hS a b ha hb, Int.add_comm]
  · have nc := nx_lit hc
    have f1 := fle a b ha hb
    have f2 := fh a b ha hb
    have t0 := hT a b c ha hb hc
    have d1 := gd a ha
    have d2 := gd b hb
    have d3 := gd c hc
    have d4 := gd (nx c) nc
    have nn := hnn c hc
    -- twice a bound by way of c
    have k1 : mt G a a ≤ 2 * mt g a c + mt G (nx c) (nx c) := by
      have q1 := hT a a c ha ha hc
      have q2 := hT (nx c) a (nx c) nc ha nc
      rw [nx_nx hc] at q2
      have q3 := hS c a hc ha
      have q4 := hS (nx c) a nc ha
      omega
    have k2 : mt G b b ≤ 2 * mt g (nx c) b + mt G c c := by
      have q1 := hT b b (nx c) hb hb nc
      rw [nx_nx hc] at q1
      have q2 := hT c b c hc hb hc
      have q3 := hS b (nx c) hb nc
      omega
    rw [hF a c ha hc, hF (nx c) b nc hb]
    by_cases h1 : a = c
    · subst h1
      rw [if_pos rfl]
      by_cases h2 : nx a = b
      · subst h2; rw [if_pos rfl]; have := hZ a ha; omega
      · rw [if_neg h2, go (nx a) b nc hb h2]; omega
    · rw [if_neg h1, go a c ha hc h1]
      by_cases h2 : nx c = b
      · subst h2; rw [if_pos rfl]; omega
      · rw [if_neg h2, go (nx c) b nc hb h2]; omega
  · have na := nx_lit ha
    have hne : a ≠ nx a := fun z => nx_ne a z.symm
    rw [hF a (nx a) ha na, if_neg hne, go a (nx a) ha na hne, hZ a ha]
    have := hnn a ha
    omega
  · rw [fd a ha, gd a ha]; omega
  · rw [fd a ha, fd b hb]; exact fh a b ha hb
theorem close_ok {f : Int → Int} (hS : Sym f) (hz : ∀ a, lit a → mt f a (nx a) ≤ 0) : (emF f = 0 ∨ emF f = 1) ∧ (emF f = 0 → TC (closeF f) ∧ ∀ s, sgn s → (Sat f s ↔ Sat (closeF f) s)) ∧ (emF f = 1 → ∀ s, sgn s → ¬ Sat f s) := by
  obtain ⟨a1, a2⟩ := em1_iff (g := cl1 6 f) 6 (by omega)
  obtain ⟨b1, b2⟩ := em2_iff (h := evS 6 (cl1 6 f)) a1 3 (by omega)
  have hev := ev_mt (g := cl1 6 f) 6 (by omega)
  have hG : ∀ a b, lit a → lit b → mt (evS 6 (cl1 6 f)) a b = if a = b then 2 * (mt (cl1 6 f) a a / 2) else mt (cl1 6 f) a b := by
    intro a b ha hb
    rw [hev a b ha hb]
    by_cases h : a = b
    · rw [if_pos (by omega), if_pos h]
    · rw [if_neg (by omega), if_neg h]
  have evSat : ∀ s, sgn s → Sat f s → Sat (evS 6 (cl1 6 f)) s := by
    intro s hs h a b ha hb
    have h6 := cl1_sat hs h 6 (by omega)
    rw [hG a b ha hb]
    by_cases he : a = b
    · subst he
      rw [if_pos rfl]
      have := h6 a a ha ha
      omega
    · rw [if_neg he]; exact h6 a b ha hb
  refine ⟨b1, fun h0 => ?_, fun h1 s hs hsat => ?_⟩
  · obtain ⟨c1, c2⟩ := b2.mp h0
    have nn := fun a (ha : lit a) => a2.mp c1 a ha (by omega)
    have hSy := cl1_sym hS nn
    have hT := cl1_TR nn
    have hZ : ∀ a, lit a → mt (cl1 6 f) a (nx a) = 0 := by
      intro a ha
      have q1 := nn a ha
      have q2 := hz a ha
      have q3 := cl1_le f (a * 6 + nx a) 6 0
      have q4 : cl1 6 f (a * 6 + nx a) ≤ f (a * 6 + nx a) := q3
      unfold mt at q1 q2 ⊢
      omega
    have hE : ∀ a, lit a → mt (evS 6 (cl1 6 f)) a a % 2 = 0 := fun a ha => by rw [hG a a ha ha, if_pos rfl]; omega
    have hGS : Sym (evS 6 (cl1 6 f)) := by
      intro a b ha hb
      rw [hG a b ha hb, hG b a hb ha]
      by_cases he : a = b
      · subst he; rfl
      · rw [if_neg he, if_neg (fun z => he z.symm)]; exact hSy a b ha hb
    obtain ⟨v1, v2⟩ := hvS_mt hE hGS 6 (by omega)
    have hF : ∀ a b, lit a → lit b → mt (closeF f) a b = if a = b then mt (evS 6 (cl1 6 f)) a a else min (mt (evS 6 (cl1 6 f)) a b) ((mt (evS 6 (cl1 6 f)) a a + mt (evS 6 (cl1 6 f)) b b) / 2) := by
      intro a b ha hb
      show mt (hvS 6 (evS 6 (cl1 6 f))) a b = _
      rw [v2 a b ha hb]
      unfold hvI
      by_cases he : a = b
      · subst he; rw [if_neg (by omega), if_pos rfl]
      · rw [if_pos (by omega), if_neg he]
    have hnn : ∀ a, lit a → 0 ≤ mt (evS 6 (cl1 6 f)) a a + mt (evS 6 (cl1 6 f)) (nx a) (nx a) := by
      intro a ha
      have q := c2 (a / 2) (by omega) (by omega)
      by_cases hp : a % 2 = 0
      · have e1 : 2 * (a / 2) = a := by omega
        have e2 : nx a = a + 1 := by unfold nx; rw [if_pos hp]
        rw [e1] at q
        rw [e2]
        exact q
      · have e1 : 2 * (a / 2) = nx a := by unfold nx; rw [if_neg hp]; omega
        have e2 : nx a + 1 = a := by unfold nx; rw [if_neg hp]; omega
        rw [e1, e2] at q
        omega
    refine ⟨tight hSy hT hZ hG hnn hF, fun s hs => ⟨fun h => ?_, fun h => ?_⟩⟩
    · have hg := evSat s hs h
      intro a b ha hb
      rw [hF a b ha hb]
      by_cases he : a = b
      · subst he; rw [if_pos rfl]; exact hg a a ha ha
      · rw [if_neg he]
        have q1 := hg a b ha hb
        have q2 := hg a a ha ha
        have q3 := hg b b hb hb
        omega
    · intro a b ha hb
      have q1 := h a b ha hb
      have q2 : mt (closeF f) a b ≤ mt (cl1 6 f) a b := by
        rw [hF a b ha hb, hG a b ha hb, hG a a ha ha, if_pos rfl]
        by_cases he : a = b
        · subst he; rw [if_pos rfl]; omega
        · rw [if_neg he, if_neg he]; omega
      have q3 : mt (cl1 6 f) a b ≤ mt f a b := cl1_le f (a * 6 + b) 6 0
      omega
  · have h6 := cl1_sat hs hsat 6 (by omega)
    have hg := evSat s hs hsat
    have : emF f = 0 := by
      refine b2.mpr ⟨a2.mpr fun a ha _ => ?_, fun a q1 q2 => ?_⟩
      · have q := h6 a (nx a) ha (nx_lit ha)
        rw [hs a ha] at q
        omega
      · have l1 : lit (2 * a) := by omega
        have l2 : lit (2 * a + 1) := by omega
        have g1 := hg (2 * a) (2 * a) l1 l1
        have g2 := hg (2 * a + 1) (2 * a + 1) l2 l2
        have g3 := hs (2 * a) l1
        have e : nx (2 * a) = 2 * a + 1 := by unfold nx; rw [if_pos (by omega)]
        rw [e] at g3
        omega
    omega
end
