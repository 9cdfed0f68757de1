section
-- begun from the task's own starting texts (SKELETON part A; NAMES), cut to what is used
-- ===== PART A: goes FIRST, ahead of the names: the tables' words, and 'selects' of the private methods out of them =====
/-- a private method of a class that the tables say can be made, by its rows of tables_1 -/
def lw_okq (q : MethodName × Nat) : Prop := (q.1.cls ≠ "java/lang/invoke/MethodHandle" ∧ q.1.cls ≠ "java/lang/invoke/VarHandle") ∧ Cond.instantiable q.1.cls q.2 ∈ tables_1 ∧ Cond.privateMethod q.1 ∈ tables_1 ∧ Cond.instanceMethod q.1 ∈ tables_1
theorem lw_p0 : lw_okq (⟨"OrbitDesigns$Way", "targetByKind", "(II)I"⟩, 3) := ⟨⟨by decide +kernel, by decide +kernel⟩, List.mem_of_getElem? (i := 52) (by decide +kernel), List.mem_of_getElem? (i := 309) (by decide +kernel), List.mem_of_getElem? (i := 310) (by decide +kernel)⟩
theorem lw_p1 : lw_okq (⟨"OrbitDesigns$Way", "isDoneAfter", "(I)Z"⟩, 3) := ⟨⟨by decide +kernel, by decide +kernel⟩, List.mem_of_getElem? (i := 52) (by decide +kernel), List.mem_of_getElem? (i := 376) (by decide +kernel), List.mem_of_getElem? (i := 377) (by decide +kernel)⟩
theorem lw_p2 : lw_okq (⟨"OrbitDesigns$Group", "enter", "(I)V"⟩, 3) := ⟨⟨by decide +kernel, by decide +kernel⟩, List.mem_of_getElem? (i := 147) (by decide +kernel), List.mem_of_getElem? (i := 420) (by decide +kernel), List.mem_of_getElem? (i := 421) (by decide +kernel)⟩
theorem lw_p3 : lw_okq (⟨"OrbitDesigns$Group", "append", "(II)V"⟩, 3) := ⟨⟨by decide +kernel, by decide +kernel⟩, List.mem_of_getElem? (i := 147) (by decide +kernel), List.mem_of_getElem? (i := 425) (by decide +kernel), List.mem_of_getElem? (i := 426) (by decide +kernel)⟩
theorem lw_p4 : lw_okq (⟨"OrbitDesigns$Orbits", "spread", "(LOrbitDesigns$Setup;II)V"⟩, 3) := ⟨⟨by decide +kernel, by decide +kernel⟩, List.mem_of_getElem? (i := 131) (by decide +kernel), List.mem_of_getElem? (i := 449) (by decide +kernel), List.mem_of_getElem? (i := 450) (by decide +kernel)⟩
theorem lw_p5 : lw_okq (⟨"OrbitDesigns$Orbits", "enter", "(III)I"⟩, 3) := ⟨⟨by decide +kernel, by decide +kernel⟩, List.mem_of_getElem? (i := 131) (by decide +kernel), List.mem_of_getElem? (i := 453) (by decide +kernel), List.mem_of_getElem? (i := 454) (by decide +kernel)⟩
theorem lw_p6 : lw_okq (⟨"OrbitDesigns$Orbits", "holds", "(III)Z"⟩, 3) := ⟨⟨by decide +kernel, by decide +kernel⟩, List.mem_of_getElem? (i := 131) (by decide +kernel), List.mem_of_getElem? (i := 476) (by decide +kernel), List.mem_of_getElem? (i := 477) (by decide +kernel)⟩
theorem lw_p7 : lw_okq (⟨"OrbitDesigns", "areSizes", "(II)Z"⟩, 12) := ⟨⟨by decide +kernel, by decide +kernel⟩, List.mem_of_getElem? (i := 18) (by decide +kernel), List.mem_of_getElem? (i := 509) (by decide +kernel), List.mem_of_getElem? (i := 510) (by decide +kernel)⟩
theorem lw_p8 : lw_okq (⟨"OrbitDesigns", "loadChoices", "(II)Z"⟩, 12) := ⟨⟨by decide +kernel, by decide +kernel⟩, List.mem_of_getElem? (i := 18) (by decide +kernel), List.mem_of_getElem? (i := 521) (by decide +kernel), List.mem_of_getElem? (i := 522) (by decide +kernel)⟩
theorem lw_p9 : lw_okq (⟨"OrbitDesigns$Choices", "loadRow", "(LOrbitDesigns$Orbits;III)V"⟩, 12) := ⟨⟨by decide +kernel, by decide +kernel⟩, List.mem_of_getElem? (i := 163) (by decide +kernel), List.mem_of_getElem? (i := 536) (by decide +kernel), List.mem_of_getElem? (i := 537) (by decide +kernel)⟩
theorem lw_p10 : lw_okq (⟨"OrbitDesigns$Choices", "countSet", "(II)V"⟩, 12) := ⟨⟨by decide +kernel, by decide +kernel⟩, List.mem_of_getElem? (i := 163) (by decide +kernel), List.mem_of_getElem? (i := 542) (by decide +kernel), List.mem_of_getElem? (i := 543) (by decide +kernel)⟩
theorem lw_p11 : lw_okq (⟨"OrbitDesigns$Choices", "numberAt", "(II)I"⟩, 12) := ⟨⟨by decide +kernel, by decide +kernel⟩, List.mem_of_getElem? (i := 163) (by decide +kernel), List.mem_of_getElem? (i := 550) (by decide +kernel), List.mem_of_getElem? (i := 551) (by decide +kernel)⟩
theorem lw_p12 : lw_okq (⟨"OrbitDesigns$Choices", "searchSolutions", "(II)V"⟩, 12) := ⟨⟨by decide +kernel, by decide +kernel⟩, List.mem_of_getElem? (i := 163) (by decide +kernel), List.mem_of_getElem? (i := 554) (by decide +kernel), List.mem_of_getElem? (i := 555) (by decide +kernel)⟩
theorem lw_p13 : lw_okq (⟨"OrbitDesigns$Choices", "noteSolution", "(I)V"⟩, 12) := ⟨⟨by decide +kernel, by decide +kernel⟩, List.mem_of_getElem? (i := 163) (by decide +kernel), List.mem_of_getElem? (i := 558) (by decide +kernel), List.mem_of_getElem? (i := 559) (by decide +kernel)⟩
theorem lw_p14 : lw_okq (⟨"OrbitDesigns$Choices", "change", "(III)V"⟩, 12) := ⟨⟨by decide +kernel, by decide +kernel⟩, List.mem_of_getElem? (i := 163) (by decide +kernel), List.mem_of_getElem? (i := 562) (by decide +kernel), List.mem_of_getElem? (i := 563) (by decide +kernel)⟩
theorem lw_p15 : lw_okq (⟨"OrbitDesigns$Choices", "canSolve", "()Z"⟩, 12) := ⟨⟨by decide +kernel, by decide +kernel⟩, List.mem_of_getElem? (i := 163) (by decide +kernel), List.mem_of_getElem? (i := 566) (by decide +kernel), List.mem_of_getElem? (i := 567) (by decide +kernel)⟩
def lw_privs_1 : List (MethodName × Nat) := [(⟨"OrbitDesigns$Way", "targetByKind", "(II)I"⟩, 3), (⟨"OrbitDesigns$Way", "isDoneAfter", "(I)Z"⟩, 3), (⟨"OrbitDesigns$Group", "enter", "(I)V"⟩, 3), (⟨"OrbitDesigns$Group", "append", "(II)V"⟩, 3), (⟨"OrbitDesigns$Orbits", "spread", "(LOrbitDesigns$Setup;II)V"⟩, 3), (⟨"OrbitDesigns$Orbits", "enter", "(III)I"⟩, 3), (⟨"OrbitDesigns$Orbits", "holds", "(III)Z"⟩, 3), (⟨"OrbitDesigns", "areSizes", "(II)Z"⟩, 12), (⟨"OrbitDesigns", "loadChoices", "(II)Z"⟩, 12), (⟨"OrbitDesigns$Choices", "loadRow", "(LOrbitDesigns$Orbits;III)V"⟩, 12), (⟨"OrbitDesigns$Choices", "countSet", "(II)V"⟩, 12), (⟨"OrbitDesigns$Choices", "numberAt", "(II)I"⟩, 12), (⟨"OrbitDesigns$Choices", "searchSolutions", "(II)V"⟩, 12), (⟨"OrbitDesigns$Choices", "noteSolution", "(I)V"⟩, 12), (⟨"OrbitDesigns$Choices", "change", "(III)V"⟩, 12), (⟨"OrbitDesigns$Choices", "canSolve", "()Z"⟩, 12)]
theorem lw_r1 : ∀ q ∈ lw_privs_1, lw_okq q := List.forall_mem_cons.mpr ⟨lw_p0, List.forall_mem_cons.mpr ⟨lw_p1, List.forall_mem_cons.mpr ⟨lw_p2, List.forall_mem_cons.mpr ⟨lw_p3, List.forall_mem_cons.mpr ⟨lw_p4, List.forall_mem_cons.mpr ⟨lw_p5, List.forall_mem_cons.mpr ⟨lw_p6, List.forall_mem_cons.mpr ⟨lw_p7, List.forall_mem_cons.mpr ⟨lw_p8, List.forall_mem_cons.mpr ⟨lw_p9, List.forall_mem_cons.mpr ⟨lw_p10, List.forall_mem_cons.mpr ⟨lw_p11, List.forall_mem_cons.mpr ⟨lw_p12, List.forall_mem_cons.mpr ⟨lw_p13, List.forall_mem_cons.mpr ⟨lw_p14, List.forall_mem_cons.mpr ⟨lw_p15, fun _ h => absurd h List.not_mem_nil⟩⟩⟩⟩⟩⟩⟩⟩⟩⟩⟩⟩⟩⟩⟩⟩
theorem lw_p16 : lw_okq (⟨"OrbitDesigns$Choices", "searchCovers", "(III)V"⟩, 12) := ⟨⟨by decide +kernel, by decide +kernel⟩, List.mem_of_getElem? (i := 163) (by decide +kernel), List.mem_of_getElem? (i := 583) (by decide +kernel), List.mem_of_getElem? (i := 584) (by decide +kernel)⟩
theorem lw_p17 : lw_okq (⟨"OrbitDesigns$Choices", "covers", "(I)Z"⟩, 12) := ⟨⟨by decide +kernel, by decide +kernel⟩, List.mem_of_getElem? (i := 163) (by decide +kernel), List.mem_of_getElem? (i := 587) (by decide +kernel), List.mem_of_getElem? (i := 588) (by decide +kernel)⟩
theorem lw_p18 : lw_okq (⟨"OrbitDesigns$Blocks", "around", "(I)I"⟩, 3) := ⟨⟨by decide +kernel, by decide +kernel⟩, List.mem_of_getElem? (i := 32) (by decide +kernel), List.mem_of_getElem? (i := 636) (by decide +kernel), List.mem_of_getElem? (i := 637) (by decide +kernel)⟩
theorem lw_p19 : lw_okq (⟨"OrbitDesigns$Matcher", "canPlace", "(LOrbitDesigns$Blocks;LOrbitDesigns$Blocks;III)Z"⟩, 1) := ⟨⟨by decide +kernel, by decide +kernel⟩, List.mem_of_getElem? (i := 209) (by decide +kernel), List.mem_of_getElem? (i := 701) (by decide +kernel), List.mem_of_getElem? (i := 702) (by decide +kernel)⟩
theorem lw_p20 : lw_okq (⟨"OrbitDesigns$Matcher", "fits", "(LOrbitDesigns$Blocks;LOrbitDesigns$Blocks;II)Z"⟩, 1) := ⟨⟨by decide +kernel, by decide +kernel⟩, List.mem_of_getElem? (i := 209) (by decide +kernel), List.mem_of_getElem? (i := 705) (by decide +kernel), List.mem_of_getElem? (i := 706) (by decide +kernel)⟩
theorem lw_p21 : lw_okq (⟨"OrbitDesigns", "isLikeAnEarlierSolution", "(II)Z"⟩, 12) := ⟨⟨by decide +kernel, by decide +kernel⟩, List.mem_of_getElem? (i := 18) (by decide +kernel), List.mem_of_getElem? (i := 722) (by decide +kernel), List.mem_of_getElem? (i := 723) (by decide +kernel)⟩
theorem lw_p22 : lw_okq (⟨"OrbitDesigns$Lottery", "drawOrbits", "(I)V"⟩, 5) := ⟨⟨by decide +kernel, by decide +kernel⟩, List.mem_of_getElem? (i := 219) (by decide +kernel), List.mem_of_getElem? (i := 739) (by decide +kernel), List.mem_of_getElem? (i := 740) (by decide +kernel)⟩
theorem lw_p23 : lw_okq (⟨"OrbitDesigns$Lottery", "drawBelowTwo", "()I"⟩, 5) := ⟨⟨by decide +kernel, by decide +kernel⟩, List.mem_of_getElem? (i := 219) (by decide +kernel), List.mem_of_getElem? (i := 743) (by decide +kernel), List.mem_of_getElem? (i := 744) (by decide +kernel)⟩
theorem lw_p24 : lw_okq (⟨"OrbitDesigns$Lottery", "countSets", "(LOrbitDesigns$Orbits;I)V"⟩, 5) := ⟨⟨by decide +kernel, by decide +kernel⟩, List.mem_of_getElem? (i := 219) (by decide +kernel), List.mem_of_getElem? (i := 750) (by decide +kernel), List.mem_of_getElem? (i := 751) (by decide +kernel)⟩
theorem lw_p25 : lw_okq (⟨"OrbitDesigns$Lottery", "countSet", "(I)V"⟩, 5) := ⟨⟨by decide +kernel, by decide +kernel⟩, List.mem_of_getElem? (i := 219) (by decide +kernel), List.mem_of_getElem? (i := 757) (by decide +kernel), List.mem_of_getElem? (i := 758) (by decide +kernel)⟩
theorem lw_p26 : lw_okq (⟨"OrbitDesigns$Lottery", "isEven", "(I)Z"⟩, 5) := ⟨⟨by decide +kernel, by decide +kernel⟩, List.mem_of_getElem? (i := 219) (by decide +kernel), List.mem_of_getElem? (i := 761) (by decide +kernel), List.mem_of_getElem? (i := 762) (by decide +kernel)⟩
theorem lw_p27 : lw_okq (⟨"OrbitDesigns", "doClauses", "()I"⟩, 12) := ⟨⟨by decide +kernel, by decide +kernel⟩, List.mem_of_getElem? (i := 18) (by decide +kernel), List.mem_of_getElem? (i := 799) (by decide +kernel), List.mem_of_getElem? (i := 800) (by decide +kernel)⟩
theorem lw_p28 : lw_okq (⟨"OrbitDesigns", "doClause", "(II)Z"⟩, 12) := ⟨⟨by decide +kernel, by decide +kernel⟩, List.mem_of_getElem? (i := 18) (by decide +kernel), List.mem_of_getElem? (i := 804) (by decide +kernel), List.mem_of_getElem? (i := 805) (by decide +kernel)⟩
theorem lw_p29 : lw_okq (⟨"OrbitDesigns", "doBlockClause", "(II)Z"⟩, 12) := ⟨⟨by decide +kernel, by decide +kernel⟩, List.mem_of_getElem? (i := 18) (by decide +kernel), List.mem_of_getElem? (i := 817) (by decide +kernel), List.mem_of_getElem? (i := 818) (by decide +kernel)⟩
theorem lw_p30 : lw_okq (⟨"OrbitDesigns", "tapeAt", "(I)LOrbitDesigns$Tape;"⟩, 12) := ⟨⟨by decide +kernel, by decide +kernel⟩, List.mem_of_getElem? (i := 18) (by decide +kernel), List.mem_of_getElem? (i := 827) (by decide +kernel), List.mem_of_getElem? (i := 828) (by decide +kernel)⟩
theorem lw_p31 : lw_okq (⟨"OrbitDesigns$Tape", "isPlace", "(I)Z"⟩, 3) := ⟨⟨by decide +kernel, by decide +kernel⟩, List.mem_of_getElem? (i := 112) (by decide +kernel), List.mem_of_getElem? (i := 835) (by decide +kernel), List.mem_of_getElem? (i := 836) (by decide +kernel)⟩
def lw_privs_2 : List (MethodName × Nat) := [(⟨"OrbitDesigns$Choices", "searchCovers", "(III)V"⟩, 12), (⟨"OrbitDesigns$Choices", "covers", "(I)Z"⟩, 12), (⟨"OrbitDesigns$Blocks", "around", "(I)I"⟩, 3), (⟨"OrbitDesigns$Matcher", "canPlace", "(LOrbitDesigns$Blocks;LOrbitDesigns$Blocks;III)Z"⟩, 1), (⟨"OrbitDesigns$Matcher", "fits", "(LOrbitDesigns$Blocks;LOrbitDesigns$Blocks;II)Z"⟩, 1), (⟨"OrbitDesigns", "isLikeAnEarlierSolution", "(II)Z"⟩, 12), (⟨"OrbitDesigns$Lottery", "drawOrbits", "(I)V"⟩, 5), (⟨"OrbitDesigns$Lottery", "drawBelowTwo", "()I"⟩, 5), (⟨"OrbitDesigns$Lottery", "countSets", "(LOrbitDesigns$Orbits;I)V"⟩, 5), (⟨"OrbitDesigns$Lottery", "countSet", "(I)V"⟩, 5), (⟨"OrbitDesigns$Lottery", "isEven", "(I)Z"⟩, 5), (⟨"OrbitDesigns", "doClauses", "()I"⟩, 12), (⟨"OrbitDesigns", "doClause", "(II)Z"⟩, 12), (⟨"OrbitDesigns", "doBlockClause", "(II)Z"⟩, 12), (⟨"OrbitDesigns", "tapeAt", "(I)LOrbitDesigns$Tape;"⟩, 12), (⟨"OrbitDesigns$Tape", "isPlace", "(I)Z"⟩, 3)]
theorem lw_r2 : ∀ q ∈ lw_privs_2, lw_okq q := List.forall_mem_cons.mpr ⟨lw_p16, List.forall_mem_cons.mpr ⟨lw_p17, List.forall_mem_cons.mpr ⟨lw_p18, List.forall_mem_cons.mpr ⟨lw_p19, List.forall_mem_cons.mpr ⟨lw_p20, List.forall_mem_cons.mpr ⟨lw_p21, List.forall_mem_cons.mpr ⟨lw_p22, List.forall_mem_cons.mpr ⟨lw_p23, List.forall_mem_cons.mpr ⟨lw_p24, List.forall_mem_cons.mpr ⟨lw_p25, List.forall_mem_cons.mpr ⟨lw_p26, List.forall_mem_cons.mpr ⟨lw_p27, List.forall_mem_cons.mpr ⟨lw_p28, List.forall_mem_cons.mpr ⟨lw_p29, List.forall_mem_cons.mpr ⟨lw_p30, List.forall_mem_cons.mpr ⟨lw_p31, fun _ h => absurd h List.not_mem_nil⟩⟩⟩⟩⟩⟩⟩⟩⟩⟩⟩⟩⟩⟩⟩⟩
theorem lw_p32 : lw_okq (⟨"OrbitDesigns$Tape", "cut", "(J)J"⟩, 3) := ⟨⟨by decide +kernel, by decide +kernel⟩, List.mem_of_getElem? (i := 112) (by decide +kernel), List.mem_of_getElem? (i := 881) (by decide +kernel), List.mem_of_getElem? (i := 882) (by decide +kernel)⟩
theorem lw_p33 : lw_okq (⟨"OrbitDesignsModel", "starts", "(I)V"⟩, 25) := ⟨⟨by decide +kernel, by decide +kernel⟩, List.mem_of_getElem? (i := 904) (by decide +kernel), List.mem_of_getElem? (i := 916) (by decide +kernel), List.mem_of_getElem? (i := 917) (by decide +kernel)⟩
theorem lw_p34 : lw_okq (⟨"OrbitDesignsModel", "goes", "(III)I"⟩, 25) := ⟨⟨by decide +kernel, by decide +kernel⟩, List.mem_of_getElem? (i := 904) (by decide +kernel), List.mem_of_getElem? (i := 1014) (by decide +kernel), List.mem_of_getElem? (i := 1015) (by decide +kernel)⟩
theorem lw_p35 : lw_okq (⟨"OrbitDesignsModel", "isPoint", "(I)Z"⟩, 25) := ⟨⟨by decide +kernel, by decide +kernel⟩, List.mem_of_getElem? (i := 904) (by decide +kernel), List.mem_of_getElem? (i := 1022) (by decide +kernel), List.mem_of_getElem? (i := 1023) (by decide +kernel)⟩
theorem lw_p36 : lw_okq (⟨"OrbitDesignsModel", "isWay", "(I)Z"⟩, 25) := ⟨⟨by decide +kernel, by decide +kernel⟩, List.mem_of_getElem? (i := 904) (by decide +kernel), List.mem_of_getElem? (i := 1030) (by decide +kernel), List.mem_of_getElem? (i := 1031) (by decide +kernel)⟩
theorem lw_p37 : lw_okq (⟨"OrbitDesignsModel", "holds", "(I)Z"⟩, 25) := ⟨⟨by decide +kernel, by decide +kernel⟩, List.mem_of_getElem? (i := 904) (by decide +kernel), List.mem_of_getElem? (i := 1038) (by decide +kernel), List.mem_of_getElem? (i := 1039) (by decide +kernel)⟩
theorem lw_p38 : lw_okq (⟨"OrbitDesignsModel", "whole", "()I"⟩, 25) := ⟨⟨by decide +kernel, by decide +kernel⟩, List.mem_of_getElem? (i := 904) (by decide +kernel), List.mem_of_getElem? (i := 1042) (by decide +kernel), List.mem_of_getElem? (i := 1043) (by decide +kernel)⟩
theorem lw_p39 : lw_okq (⟨"OrbitDesignsModel", "moved", "(II)I"⟩, 25) := ⟨⟨by decide +kernel, by decide +kernel⟩, List.mem_of_getElem? (i := 904) (by decide +kernel), List.mem_of_getElem? (i := 1046) (by decide +kernel), List.mem_of_getElem? (i := 1047) (by decide +kernel)⟩
theorem lw_p40 : lw_okq (⟨"OrbitDesignsModel", "to", "(II)I"⟩, 25) := ⟨⟨by decide +kernel, by decide +kernel⟩, List.mem_of_getElem? (i := 904) (by decide +kernel), List.mem_of_getElem? (i := 1050) (by decide +kernel), List.mem_of_getElem? (i := 1051) (by decide +kernel)⟩
theorem lw_p41 : lw_okq (⟨"OrbitDesignsModel", "timesOf", "(I)I"⟩, 25) := ⟨⟨by decide +kernel, by decide +kernel⟩, List.mem_of_getElem? (i := 904) (by decide +kernel), List.mem_of_getElem? (i := 1054) (by decide +kernel), List.mem_of_getElem? (i := 1055) (by decide +kernel)⟩
theorem lw_p42 : lw_okq (⟨"OrbitDesignsModel", "isSet", "(I)Z"⟩, 25) := ⟨⟨by decide +kernel, by decide +kernel⟩, List.mem_of_getElem? (i := 904) (by decide +kernel), List.mem_of_getElem? (i := 1066) (by decide +kernel), List.mem_of_getElem? (i := 1067) (by decide +kernel)⟩
theorem lw_p43 : lw_okq (⟨"OrbitDesignsModel", "isSize", "(I)Z"⟩, 25) := ⟨⟨by decide +kernel, by decide +kernel⟩, List.mem_of_getElem? (i := 904) (by decide +kernel), List.mem_of_getElem? (i := 1078) (by decide +kernel), List.mem_of_getElem? (i := 1079) (by decide +kernel)⟩
theorem lw_p44 : lw_okq (⟨"OrbitDesignsModel", "finds", "()V"⟩, 25) := ⟨⟨by decide +kernel, by decide +kernel⟩, List.mem_of_getElem? (i := 904) (by decide +kernel), List.mem_of_getElem? (i := 1082) (by decide +kernel), List.mem_of_getElem? (i := 1083) (by decide +kernel)⟩
theorem lw_p45 : lw_okq (⟨"OrbitDesignsModel", "isIn", "(III)Z"⟩, 25) := ⟨⟨by decide +kernel, by decide +kernel⟩, List.mem_of_getElem? (i := 904) (by decide +kernel), List.mem_of_getElem? (i := 1094) (by decide +kernel), List.mem_of_getElem? (i := 1095) (by decide +kernel)⟩
theorem lw_p46 : lw_okq (⟨"OrbitDesignsModel", "least", "(II)I"⟩, 25) := ⟨⟨by decide +kernel, by decide +kernel⟩, List.mem_of_getElem? (i := 904) (by decide +kernel), List.mem_of_getElem? (i := 1098) (by decide +kernel), List.mem_of_getElem? (i := 1099) (by decide +kernel)⟩
theorem lw_p47 : lw_okq (⟨"OrbitDesignsModel", "areSizes", "(II)Z"⟩, 25) := ⟨⟨by decide +kernel, by decide +kernel⟩, List.mem_of_getElem? (i := 904) (by decide +kernel), List.mem_of_getElem? (i := 1114) (by decide +kernel), List.mem_of_getElem? (i := 1115) (by decide +kernel)⟩
def lw_privs_3 : List (MethodName × Nat) := [(⟨"OrbitDesigns$Tape", "cut", "(J)J"⟩, 3), (⟨"OrbitDesignsModel", "starts", "(I)V"⟩, 25), (⟨"OrbitDesignsModel", "goes", "(III)I"⟩, 25), (⟨"OrbitDesignsModel", "isPoint", "(I)Z"⟩, 25), (⟨"OrbitDesignsModel", "isWay", "(I)Z"⟩, 25), (⟨"OrbitDesignsModel", "holds", "(I)Z"⟩, 25), (⟨"OrbitDesignsModel", "whole", "()I"⟩, 25), (⟨"OrbitDesignsModel", "moved", "(II)I"⟩, 25), (⟨"OrbitDesignsModel", "to", "(II)I"⟩, 25), (⟨"OrbitDesignsModel", "timesOf", "(I)I"⟩, 25), (⟨"OrbitDesignsModel", "isSet", "(I)Z"⟩, 25), (⟨"OrbitDesignsModel", "isSize", "(I)Z"⟩, 25), (⟨"OrbitDesignsModel", "finds", "()V"⟩, 25), (⟨"OrbitDesignsModel", "isIn", "(III)Z"⟩, 25), (⟨"OrbitDesignsModel", "least", "(II)I"⟩, 25), (⟨"OrbitDesignsModel", "areSizes", "(II)Z"⟩, 25)]
theorem lw_r3 : ∀ q ∈ lw_privs_3, lw_okq q := List.forall_mem_cons.mpr ⟨lw_p32, List.forall_mem_cons.mpr ⟨lw_p33, List.forall_mem_cons.mpr ⟨lw_p34, List.forall_mem_cons.mpr ⟨lw_p35, List.forall_mem_cons.mpr ⟨lw_p36, List.forall_mem_cons.mpr ⟨lw_p37, List.forall_mem_cons.mpr ⟨lw_p38, List.forall_mem_cons.mpr ⟨lw_p39, List.forall_mem_cons.mpr ⟨lw_p40, List.forall_mem_cons.mpr ⟨lw_p41, List.forall_mem_cons.mpr ⟨lw_p42, List.forall_mem_cons.mpr ⟨lw_p43, List.forall_mem_cons.mpr ⟨lw_p44, List.forall_mem_cons.mpr ⟨lw_p45, List.forall_mem_cons.mpr ⟨lw_p46, List.forall_mem_cons.mpr ⟨lw_p47, fun _ h => absurd h List.not_mem_nil⟩⟩⟩⟩⟩⟩⟩⟩⟩⟩⟩⟩⟩⟩⟩⟩
theorem lw_p48 : lw_okq (⟨"OrbitDesignsModel", "tables", "(II)V"⟩, 25) := ⟨⟨by decide +kernel, by decide +kernel⟩, List.mem_of_getElem? (i := 904) (by decide +kernel), List.mem_of_getElem? (i := 1118) (by decide +kernel), List.mem_of_getElem? (i := 1119) (by decide +kernel)⟩
theorem lw_p49 : lw_okq (⟨"OrbitDesignsModel", "nth", "(IIII)I"⟩, 25) := ⟨⟨by decide +kernel, by decide +kernel⟩, List.mem_of_getElem? (i := 904) (by decide +kernel), List.mem_of_getElem? (i := 1127) (by decide +kernel), List.mem_of_getElem? (i := 1128) (by decide +kernel)⟩
theorem lw_p50 : lw_okq (⟨"OrbitDesignsModel", "solves", "(IIII)Z"⟩, 25) := ⟨⟨by decide +kernel, by decide +kernel⟩, List.mem_of_getElem? (i := 904) (by decide +kernel), List.mem_of_getElem? (i := 1131) (by decide +kernel), List.mem_of_getElem? (i := 1132) (by decide +kernel)⟩
theorem lw_p51 : lw_okq (⟨"OrbitDesignsModel", "sum", "(III)I"⟩, 25) := ⟨⟨by decide +kernel, by decide +kernel⟩, List.mem_of_getElem? (i := 904) (by decide +kernel), List.mem_of_getElem? (i := 1135) (by decide +kernel), List.mem_of_getElem? (i := 1136) (by decide +kernel)⟩
theorem lw_p52 : lw_okq (⟨"OrbitDesignsModel", "covers", "(III)Z"⟩, 25) := ⟨⟨by decide +kernel, by decide +kernel⟩, List.mem_of_getElem? (i := 904) (by decide +kernel), List.mem_of_getElem? (i := 1147) (by decide +kernel), List.mem_of_getElem? (i := 1148) (by decide +kernel)⟩
theorem lw_p53 : lw_okq (⟨"OrbitDesignsModel", "isDesign", "(I)Z"⟩, 25) := ⟨⟨by decide +kernel, by decide +kernel⟩, List.mem_of_getElem? (i := 904) (by decide +kernel), List.mem_of_getElem? (i := 1200) (by decide +kernel), List.mem_of_getElem? (i := 1201) (by decide +kernel)⟩
theorem lw_p54 : lw_okq (⟨"OrbitDesignsModel", "areAlike", "([Z[Z)Z"⟩, 25) := ⟨⟨by decide +kernel, by decide +kernel⟩, List.mem_of_getElem? (i := 904) (by decide +kernel), List.mem_of_getElem? (i := 1208) (by decide +kernel), List.mem_of_getElem? (i := 1209) (by decide +kernel)⟩
theorem lw_p55 : lw_okq (⟨"OrbitDesignsModel", "waysFrom", "([Z[ZIIZ)I"⟩, 25) := ⟨⟨by decide +kernel, by decide +kernel⟩, List.mem_of_getElem? (i := 904) (by decide +kernel), List.mem_of_getElem? (i := 1212) (by decide +kernel), List.mem_of_getElem? (i := 1213) (by decide +kernel)⟩
theorem lw_p56 : lw_okq (⟨"OrbitDesignsModel", "lined", "(I)I"⟩, 25) := ⟨⟨by decide +kernel, by decide +kernel⟩, List.mem_of_getElem? (i := 904) (by decide +kernel), List.mem_of_getElem? (i := 1216) (by decide +kernel), List.mem_of_getElem? (i := 1217) (by decide +kernel)⟩
theorem lw_p57 : lw_okq (⟨"OrbitDesignsModel", "here", "()I"⟩, 25) := ⟨⟨by decide +kernel, by decide +kernel⟩, List.mem_of_getElem? (i := 904) (by decide +kernel), List.mem_of_getElem? (i := 1245) (by decide +kernel), List.mem_of_getElem? (i := 1246) (by decide +kernel)⟩
theorem lw_p58 : lw_okq (⟨"OrbitDesignsModel", "hasClause", "()Z"⟩, 25) := ⟨⟨by decide +kernel, by decide +kernel⟩, List.mem_of_getElem? (i := 904) (by decide +kernel), List.mem_of_getElem? (i := 1249) (by decide +kernel), List.mem_of_getElem? (i := 1250) (by decide +kernel)⟩
theorem lw_p59 : lw_okq (⟨"OrbitDesignsModel", "isDone", "(I)Z"⟩, 25) := ⟨⟨by decide +kernel, by decide +kernel⟩, List.mem_of_getElem? (i := 904) (by decide +kernel), List.mem_of_getElem? (i := 1255) (by decide +kernel), List.mem_of_getElem? (i := 1256) (by decide +kernel)⟩
def lw_privs_4 : List (MethodName × Nat) := [(⟨"OrbitDesignsModel", "tables", "(II)V"⟩, 25), (⟨"OrbitDesignsModel", "nth", "(IIII)I"⟩, 25), (⟨"OrbitDesignsModel", "solves", "(IIII)Z"⟩, 25), (⟨"OrbitDesignsModel", "sum", "(III)I"⟩, 25), (⟨"OrbitDesignsModel", "covers", "(III)Z"⟩, 25), (⟨"OrbitDesignsModel", "isDesign", "(I)Z"⟩, 25), (⟨"OrbitDesignsModel", "areAlike", "([Z[Z)Z"⟩, 25), (⟨"OrbitDesignsModel", "waysFrom", "([Z[ZIIZ)I"⟩, 25), (⟨"OrbitDesignsModel", "lined", "(I)I"⟩, 25), (⟨"OrbitDesignsModel", "here", "()I"⟩, 25), (⟨"OrbitDesignsModel", "hasClause", "()Z"⟩, 25), (⟨"OrbitDesignsModel", "isDone", "(I)Z"⟩, 25)]
theorem lw_r4 : ∀ q ∈ lw_privs_4, lw_okq q := List.forall_mem_cons.mpr ⟨lw_p48, List.forall_mem_cons.mpr ⟨lw_p49, List.forall_mem_cons.mpr ⟨lw_p50, List.forall_mem_cons.mpr ⟨lw_p51, List.forall_mem_cons.mpr ⟨lw_p52, List.forall_mem_cons.mpr ⟨lw_p53, List.forall_mem_cons.mpr ⟨lw_p54, List.forall_mem_cons.mpr ⟨lw_p55, List.forall_mem_cons.mpr ⟨lw_p56, List.forall_mem_cons.mpr ⟨lw_p57, List.forall_mem_cons.mpr ⟨lw_p58, List.forall_mem_cons.mpr ⟨lw_p59, fun _ h => absurd h List.not_mem_nil⟩⟩⟩⟩⟩⟩⟩⟩⟩⟩⟩⟩
def lw_privs : List (MethodName × Nat) := lw_privs_1 ++ (lw_privs_2 ++ (lw_privs_3 ++ (lw_privs_4)))
def lw_tbl : List Cond := k2_sels lw_privs ++ tables_1
theorem lw_privs_ok : ∀ q ∈ lw_privs, lw_okq q := by
  show ∀ q ∈ lw_privs_1 ++ (lw_privs_2 ++ (lw_privs_3 ++ (lw_privs_4))), lw_okq q
  exact List.forall_mem_append.mpr ⟨lw_r1, List.forall_mem_append.mpr ⟨lw_r2, List.forall_mem_append.mpr ⟨lw_r3, lw_r4⟩⟩⟩
-- names
def RX0 : String := "OrbitDesigns$Blocks"
def TX0 : u_T := fun k => match k with
  | 0 => ("OrbitDesigns$Blocks", "size", "I", false)
  | 1 => ("OrbitDesigns$Blocks", "amount", "I", false)
  | _ => ("OrbitDesigns$Blocks", "isBlock", "[Z", true)
def tyX0 : Nat → FieldType := fun k => match k with
  | 0 => .int
  | 1 => .int
  | _ => .array .boolean
abbrev wsX00 : List Cond := u_ws RX0 TX0 3
theorem nmX0 : ∀ a, a < 3 → ∀ b, b < 3 → a ≠ b → (TX0 a).2.1 ≠ (TX0 b).2.1 := by decide +kernel
theorem tyX0_ok : ∀ k, k < 3 → parseFieldDescriptor (TX0 k).2.2.1 = some (tyX0 k) := by decide +kernel
abbrev cX0_init : ByteArray := prog_2_method_1_code
def yX0_init : MethodName := ⟨RX0, "<init>", "()V"⟩
abbrev cX0_becomeEmpty : ByteArray := prog_2_method_2_code
def yX0_becomeEmpty : MethodName := ⟨RX0, "becomeEmpty", "(I)V"⟩
abbrev cX0_copyFrom : ByteArray := prog_2_method_3_code
def yX0_copyFrom : MethodName := ⟨RX0, "copyFrom", "(LOrbitDesigns$Blocks;)V"⟩
abbrev cX0_becomeChoice : ByteArray := prog_2_method_4_code
def yX0_becomeChoice : MethodName := ⟨RX0, "becomeChoice", "(LOrbitDesigns$Orbits;II)V"⟩
abbrev cX0_becomePart : ByteArray := prog_2_method_5_code
def yX0_becomePart : MethodName := ⟨RX0, "becomePart", "(LOrbitDesigns$Blocks;IZ)V"⟩
abbrev cX0_has : ByteArray := prog_2_method_6_code
def yX0_has : MethodName := ⟨RX0, "has", "(I)Z"⟩
abbrev cX0_put : ByteArray := prog_2_method_7_code
def yX0_put : MethodName := ⟨RX0, "put", "(IZ)V"⟩
abbrev cX0_setAt : ByteArray := prog_2_method_8_code
def yX0_setAt : MethodName := ⟨RX0, "setAt", "(I)I"⟩
abbrev cX0_union : ByteArray := prog_2_method_9_code
def yX0_union : MethodName := ⟨RX0, "union", "()I"⟩
abbrev cX0_areKeptBy : ByteArray := prog_2_method_10_code
def yX0_areKeptBy : MethodName := ⟨RX0, "areKeptBy", "(LOrbitDesigns$Way;)Z"⟩
abbrev cX0_meeting : ByteArray := prog_2_method_11_code
def yX0_meeting : MethodName := ⟨RX0, "meeting", "(II)I"⟩
abbrev cX0_around : ByteArray := prog_2_method_12_code
def yX0_around : MethodName := ⟨RX0, "around", "(I)I"⟩
abbrev cX0_shareOn : ByteArray := prog_2_method_13_code
def yX0_shareOn : MethodName := ⟨RX0, "shareOn", "(II)I"⟩
abbrev cX0_strengthOn : ByteArray := prog_2_method_14_code
def yX0_strengthOn : MethodName := ⟨RX0, "strengthOn", "(I)I"⟩
abbrev cX0_turn : ByteArray := prog_2_method_15_code
def yX0_turn : MethodName := ⟨RX0, "turn", "(I)V"⟩
def RX1 : String := "OrbitDesigns$Choices"
def TX1 : u_T := fun k => match k with
  | 0 => ("OrbitDesigns$Choices", "numbers", "[I", true)
  | 1 => ("OrbitDesigns$Choices", "coverers", "[I", true)
  | 2 => ("OrbitDesigns$Choices", "need", "[I", true)
  | 3 => ("OrbitDesigns$Choices", "free", "[I", true)
  | 4 => ("OrbitDesigns$Choices", "sets", "[I", true)
  | 5 => ("OrbitDesigns$Choices", "early", "[I", true)
  | 6 => ("OrbitDesigns$Choices", "rows", "I", false)
  | 7 => ("OrbitDesigns$Choices", "columns", "I", false)
  | 8 => ("OrbitDesigns$Choices", "wanted", "I", false)
  | 9 => ("OrbitDesigns$Choices", "solutions", "I", false)
  | 10 => ("OrbitDesigns$Choices", "fewest", "I", false)
  | _ => ("OrbitDesigns$Choices", "answer", "I", false)
def tyX1 : Nat → FieldType := fun k => match k with
  | 0 => .array .int
  | 1 => .array .int
  | 2 => .array .int
  | 3 => .array .int
  | 4 => .array .int
  | 5 => .array .int
  | 6 => .int
  | 7 => .int
  | 8 => .int
  | 9 => .int
  | 10 => .int
  | _ => .int
abbrev wsX10 : List Cond := u_ws RX1 TX1 12
theorem nmX1 : ∀ a, a < 12 → ∀ b, b < 12 → a ≠ b → (TX1 a).2.1 ≠ (TX1 b).2.1 := by decide +kernel
theorem tyX1_ok : ∀ k, k < 12 → parseFieldDescriptor (TX1 k).2.2.1 = some (tyX1 k) := by decide +kernel
abbrev cX1_init : ByteArray := prog_3_method_1_code
def yX1_init : MethodName := ⟨RX1, "<init>", "()V"⟩
abbrev cX1_load : ByteArray := prog_3_method_2_code
def yX1_load : MethodName := ⟨RX1, "load", "(LOrbitDesigns$Orbits;II)V"⟩
abbrev cX1_loadRow : ByteArray := prog_3_method_3_code
def yX1_loadRow : MethodName := ⟨RX1, "loadRow", "(LOrbitDesigns$Orbits;III)V"⟩
abbrev cX1_countSet : ByteArray := prog_3_method_4_code
def yX1_countSet : MethodName := ⟨RX1, "countSet", "(II)V"⟩
abbrev cX1_numberAt : ByteArray := prog_3_method_5_code
def yX1_numberAt : MethodName := ⟨RX1, "numberAt", "(II)I"⟩
abbrev cX1_solve : ByteArray := prog_3_method_6_code
def yX1_solve : MethodName := ⟨RX1, "solve", "(II)V"⟩
abbrev cX1_searchSolutions : ByteArray := prog_3_method_7_code
def yX1_searchSolutions : MethodName := ⟨RX1, "searchSolutions", "(II)V"⟩
abbrev cX1_change : ByteArray := prog_3_method_8_code
def yX1_change : MethodName := ⟨RX1, "change", "(III)V"⟩
abbrev cX1_canSolve : ByteArray := prog_3_method_9_code
def yX1_canSolve : MethodName := ⟨RX1, "canSolve", "()Z"⟩
abbrev cX1_noteSolution : ByteArray := prog_3_method_10_code
def yX1_noteSolution : MethodName := ⟨RX1, "noteSolution", "(I)V"⟩
abbrev cX1_earlySolution : ByteArray := prog_3_method_11_code
def yX1_earlySolution : MethodName := ⟨RX1, "earlySolution", "(I)I"⟩
abbrev cX1_findFewest : ByteArray := prog_3_method_12_code
def yX1_findFewest : MethodName := ⟨RX1, "findFewest", "()V"⟩
abbrev cX1_searchCovers : ByteArray := prog_3_method_13_code
def yX1_searchCovers : MethodName := ⟨RX1, "searchCovers", "(III)V"⟩
abbrev cX1_covers : ByteArray := prog_3_method_14_code
def yX1_covers : MethodName := ⟨RX1, "covers", "(I)Z"⟩
def RX2 : String := "OrbitDesigns$Group"
def TX2 : u_T := fun k => match k with
  | 0 => ("OrbitDesigns$Group", "elements", "[I", true)
  | 1 => ("OrbitDesigns$Group", "slots", "[I", true)
  | _ => ("OrbitDesigns$Group", "filled", "I", false)
def tyX2 : Nat → FieldType := fun k => match k with
  | 0 => .array .int
  | 1 => .array .int
  | _ => .int
abbrev wsX20 : List Cond := u_ws RX2 TX2 3
theorem nmX2 : ∀ a, a < 3 → ∀ b, b < 3 → a ≠ b → (TX2 a).2.1 ≠ (TX2 b).2.1 := by decide +kernel
theorem tyX2_ok : ∀ k, k < 3 → parseFieldDescriptor (TX2 k).2.2.1 = some (tyX2 k) := by decide +kernel
abbrev cX2_init : ByteArray := prog_4_method_1_code
def yX2_init : MethodName := ⟨RX2, "<init>", "()V"⟩
abbrev cX2_orderOf : ByteArray := prog_4_method_2_code
def yX2_orderOf : MethodName := ⟨RX2, "orderOf", "(LOrbitDesigns$Setup;)I"⟩
abbrev cX2_stillness : ByteArray := prog_4_method_3_code
def yX2_stillness : MethodName := ⟨RX2, "stillness", "()I"⟩
abbrev cX2_followedBy : ByteArray := prog_4_method_4_code
def yX2_followedBy : MethodName := ⟨RX2, "followedBy", "(ILOrbitDesigns$Way;)I"⟩
abbrev cX2_enter : ByteArray := prog_4_method_5_code
def yX2_enter : MethodName := ⟨RX2, "enter", "(I)V"⟩
abbrev cX2_append : ByteArray := prog_4_method_6_code
def yX2_append : MethodName := ⟨RX2, "append", "(II)V"⟩
def RX3 : String := "OrbitDesigns$Lottery"
def TX3 : u_T := fun k => match k with
  | 0 => ("OrbitDesigns$Lottery", "chosen", "[Z", true)
  | 1 => ("OrbitDesigns$Lottery", "setsWith", "[I", true)
  | 2 => ("OrbitDesigns$Lottery", "seed", "I", false)
  | 3 => ("OrbitDesigns$Lottery", "evenOnes", "I", false)
  | _ => ("OrbitDesigns$Lottery", "setsTogether", "I", false)
def tyX3 : Nat → FieldType := fun k => match k with
  | 0 => .array .boolean
  | 1 => .array .int
  | 2 => .int
  | 3 => .int
  | _ => .int
abbrev wsX30 : List Cond := u_ws RX3 TX3 5
theorem nmX3 : ∀ a, a < 5 → ∀ b, b < 5 → a ≠ b → (TX3 a).2.1 ≠ (TX3 b).2.1 := by decide +kernel
theorem tyX3_ok : ∀ k, k < 5 → parseFieldDescriptor (TX3 k).2.2.1 = some (tyX3 k) := by decide +kernel
abbrev cX3_init : ByteArray := prog_5_method_1_code
def yX3_init : MethodName := ⟨RX3, "<init>", "()V"⟩
abbrev cX3_play : ByteArray := prog_5_method_2_code
def yX3_play : MethodName := ⟨RX3, "play", "(LOrbitDesigns$Orbits;IIII)V"⟩
abbrev cX3_drawOrbits : ByteArray := prog_5_method_3_code
def yX3_drawOrbits : MethodName := ⟨RX3, "drawOrbits", "(I)V"⟩
abbrev cX3_drawBelowTwo : ByteArray := prog_5_method_4_code
def yX3_drawBelowTwo : MethodName := ⟨RX3, "drawBelowTwo", "()I"⟩
abbrev cX3_countSets : ByteArray := prog_5_method_5_code
def yX3_countSets : MethodName := ⟨RX3, "countSets", "(LOrbitDesigns$Orbits;I)V"⟩
abbrev cX3_countSet : ByteArray := prog_5_method_6_code
def yX3_countSet : MethodName := ⟨RX3, "countSet", "(I)V"⟩
abbrev cX3_isEven : ByteArray := prog_5_method_7_code
def yX3_isEven : MethodName := ⟨RX3, "isEven", "(I)Z"⟩
def RX4 : String := "OrbitDesigns$Matcher"
def TX4 : u_T := fun k => match k with
  | _ => ("OrbitDesigns$Matcher", "placed", "[I", true)
def tyX4 : Nat → FieldType := fun k => match k with
  | _ => .array .int
abbrev wsX40 : List Cond := u_ws RX4 TX4 1
theorem nmX4 : ∀ a, a < 1 → ∀ b, b < 1 → a ≠ b → (TX4 a).2.1 ≠ (TX4 b).2.1 := by decide +kernel
theorem tyX4_ok : ∀ k, k < 1 → parseFieldDescriptor (TX4 k).2.2.1 = some (tyX4 k) := by decide +kernel
abbrev cX4_init : ByteArray := prog_6_method_1_code
def yX4_init : MethodName := ⟨RX4, "<init>", "()V"⟩
abbrev cX4_areAlike : ByteArray := prog_6_method_2_code
def yX4_areAlike : MethodName := ⟨RX4, "areAlike", "(LOrbitDesigns$Blocks;LOrbitDesigns$Blocks;I)Z"⟩
abbrev cX4_selvesOf : ByteArray := prog_6_method_3_code
def yX4_selvesOf : MethodName := ⟨RX4, "selvesOf", "(LOrbitDesigns$Blocks;I)I"⟩
abbrev cX4_canPlace : ByteArray := prog_6_method_4_code
def yX4_canPlace : MethodName := ⟨RX4, "canPlace", "(LOrbitDesigns$Blocks;LOrbitDesigns$Blocks;III)Z"⟩
abbrev cX4_fits : ByteArray := prog_6_method_5_code
def yX4_fits : MethodName := ⟨RX4, "fits", "(LOrbitDesigns$Blocks;LOrbitDesigns$Blocks;II)Z"⟩
def RX5 : String := "OrbitDesigns$Orbits"
def TX5 : u_T := fun k => match k with
  | 0 => ("OrbitDesigns$Orbits", "number", "[I", true)
  | 1 => ("OrbitDesigns$Orbits", "amount", "[I", true)
  | _ => ("OrbitDesigns$Orbits", "queue", "[I", true)
def tyX5 : Nat → FieldType := fun k => match k with
  | 0 => .array .int
  | 1 => .array .int
  | _ => .array .int
abbrev wsX50 : List Cond := u_ws RX5 TX5 3
theorem nmX5 : ∀ a, a < 3 → ∀ b, b < 3 → a ≠ b → (TX5 a).2.1 ≠ (TX5 b).2.1 := by decide +kernel
theorem tyX5_ok : ∀ k, k < 3 → parseFieldDescriptor (TX5 k).2.2.1 = some (tyX5 k) := by decide +kernel
abbrev cX5_init : ByteArray := prog_7_method_1_code
def yX5_init : MethodName := ⟨RX5, "<init>", "()V"⟩
abbrev cX5_find : ByteArray := prog_7_method_2_code
def yX5_find : MethodName := ⟨RX5, "find", "(LOrbitDesigns$Setup;)V"⟩
abbrev cX5_spread : ByteArray := prog_7_method_3_code
def yX5_spread : MethodName := ⟨RX5, "spread", "(LOrbitDesigns$Setup;II)V"⟩
abbrev cX5_enter : ByteArray := prog_7_method_4_code
def yX5_enter : MethodName := ⟨RX5, "enter", "(III)I"⟩
abbrev cX5_amountOf : ByteArray := prog_7_method_5_code
def yX5_amountOf : MethodName := ⟨RX5, "amountOf", "(I)I"⟩
abbrev cX5_isOrbit : ByteArray := prog_7_method_6_code
def yX5_isOrbit : MethodName := ⟨RX5, "isOrbit", "(II)Z"⟩
abbrev cX5_numberOf : ByteArray := prog_7_method_7_code
def yX5_numberOf : MethodName := ⟨RX5, "numberOf", "(I)I"⟩
abbrev cX5_holds : ByteArray := prog_7_method_8_code
def yX5_holds : MethodName := ⟨RX5, "holds", "(III)Z"⟩
abbrev cX5_setAt : ByteArray := prog_7_method_9_code
def yX5_setAt : MethodName := ⟨RX5, "setAt", "(III)I"⟩
abbrev cX5_greatestOf : ByteArray := prog_7_method_10_code
def yX5_greatestOf : MethodName := ⟨RX5, "greatestOf", "(II)I"⟩
abbrev cX5_setsIn : ByteArray := prog_7_method_11_code
def yX5_setsIn : MethodName := ⟨RX5, "setsIn", "(II)I"⟩
abbrev cX5_setsAround : ByteArray := prog_7_method_12_code
def yX5_setsAround : MethodName := ⟨RX5, "setsAround", "(III)I"⟩
def RX6 : String := "OrbitDesigns$Setup"
def TX6 : u_T := fun k => match k with
  | 0 => ("OrbitDesigns$Setup", "n", "I", false)
  | 1 => ("OrbitDesigns$Setup", "wayCount", "I", false)
  | 2 => ("OrbitDesigns$Setup", "designCount", "I", false)
  | 3 => ("OrbitDesigns$Setup", "blocks", "LOrbitDesigns$Blocks;", true)
  | 4 => ("OrbitDesigns$Setup", "ways", "[LOrbitDesigns$Way;", true)
  | _ => ("OrbitDesigns$Setup", "designs", "[LOrbitDesigns$Blocks;", true)
def tyX6 : Nat → FieldType := fun k => match k with
  | 0 => .int
  | 1 => .int
  | 2 => .int
  | 3 => .object "OrbitDesigns$Blocks"
  | 4 => .array (.object "OrbitDesigns$Way")
  | _ => .array (.object "OrbitDesigns$Blocks")
abbrev wsX60 : List Cond := u_ws RX6 TX6 6
theorem nmX6 : ∀ a, a < 6 → ∀ b, b < 6 → a ≠ b → (TX6 a).2.1 ≠ (TX6 b).2.1 := by decide +kernel
theorem tyX6_ok : ∀ k, k < 6 → parseFieldDescriptor (TX6 k).2.2.1 = some (tyX6 k) := by decide +kernel
abbrev cX6_init : ByteArray := prog_8_method_1_code
def yX6_init : MethodName := ⟨RX6, "<init>", "()V"⟩
abbrev cX6_restart : ByteArray := prog_8_method_2_code
def yX6_restart : MethodName := ⟨RX6, "restart", "(I)V"⟩
abbrev cX6_copyFrom : ByteArray := prog_8_method_3_code
def yX6_copyFrom : MethodName := ⟨RX6, "copyFrom", "(LOrbitDesigns$Setup;)V"⟩
abbrev cX6_isPoint : ByteArray := prog_8_method_4_code
def yX6_isPoint : MethodName := ⟨RX6, "isPoint", "(I)Z"⟩
abbrev cX6_isSize : ByteArray := prog_8_method_5_code
def yX6_isSize : MethodName := ⟨RX6, "isSize", "(I)Z"⟩
abbrev cX6_isSet : ByteArray := prog_8_method_6_code
def yX6_isSet : MethodName := ⟨RX6, "isSet", "(I)Z"⟩
abbrev cX6_whole : ByteArray := prog_8_method_7_code
def yX6_whole : MethodName := ⟨RX6, "whole", "()I"⟩
abbrev cX6_wayAt : ByteArray := prog_8_method_8_code
def yX6_wayAt : MethodName := ⟨RX6, "wayAt", "(I)LOrbitDesigns$Way;"⟩
abbrev cX6_spareWay : ByteArray := prog_8_method_9_code
def yX6_spareWay : MethodName := ⟨RX6, "spareWay", "()LOrbitDesigns$Way;"⟩
abbrev cX6_removeWay : ByteArray := prog_8_method_10_code
def yX6_removeWay : MethodName := ⟨RX6, "removeWay", "(I)V"⟩
abbrev cX6_designAt : ByteArray := prog_8_method_11_code
def yX6_designAt : MethodName := ⟨RX6, "designAt", "(I)LOrbitDesigns$Blocks;"⟩
abbrev cX6_spareDesign : ByteArray := prog_8_method_12_code
def yX6_spareDesign : MethodName := ⟨RX6, "spareDesign", "()LOrbitDesigns$Blocks;"⟩
def RX7 : String := "OrbitDesigns$Tape"
def TX7 : u_T := fun k => match k with
  | 0 => ("OrbitDesigns$Tape", "sort", "I", false)
  | 1 => ("OrbitDesigns$Tape", "length", "I", false)
  | _ => ("OrbitDesigns$Tape", "items", "[J", true)
def tyX7 : Nat → FieldType := fun k => match k with
  | 0 => .int
  | 1 => .int
  | _ => .array .long
abbrev wsX70 : List Cond := u_ws RX7 TX7 3
theorem nmX7 : ∀ a, a < 3 → ∀ b, b < 3 → a ≠ b → (TX7 a).2.1 ≠ (TX7 b).2.1 := by decide +kernel
theorem tyX7_ok : ∀ k, k < 3 → parseFieldDescriptor (TX7 k).2.2.1 = some (tyX7 k) := by decide +kernel
abbrev cX7_init : ByteArray := prog_9_method_1_code
def yX7_init : MethodName := ⟨RX7, "<init>", "()V"⟩
abbrev cX7_become : ByteArray := prog_9_method_2_code
def yX7_become : MethodName := ⟨RX7, "become", "(II)V"⟩
abbrev cX7_isPlace : ByteArray := prog_9_method_3_code
def yX7_isPlace : MethodName := ⟨RX7, "isPlace", "(I)Z"⟩
abbrev cX7_itemAt : ByteArray := prog_9_method_4_code
def yX7_itemAt : MethodName := ⟨RX7, "itemAt", "(I)J"⟩
abbrev cX7_put : ByteArray := prog_9_method_5_code
def yX7_put : MethodName := ⟨RX7, "put", "(IJ)V"⟩
abbrev cX7_cut : ByteArray := prog_9_method_6_code
def yX7_cut : MethodName := ⟨RX7, "cut", "(J)J"⟩
abbrev cX7_hasPlaces : ByteArray := prog_9_method_7_code
def yX7_hasPlaces : MethodName := ⟨RX7, "hasPlaces", "(II)Z"⟩
abbrev cX7_copyItems : ByteArray := prog_9_method_8_code
def yX7_copyItems : MethodName := ⟨RX7, "copyItems", "(ILOrbitDesigns$Tape;II)V"⟩
def RX8 : String := "OrbitDesigns$Text"
def TX8 : u_T := fun k => match k with
  | 0 => ("OrbitDesigns$Text", "length", "I", false)
  | _ => ("OrbitDesigns$Text", "signs", "[I", true)
def tyX8 : Nat → FieldType := fun k => match k with
  | 0 => .int
  | _ => .array .int
abbrev wsX80 : List Cond := u_ws RX8 TX8 2
theorem nmX8 : ∀ a, a < 2 → ∀ b, b < 2 → a ≠ b → (TX8 a).2.1 ≠ (TX8 b).2.1 := by decide +kernel
theorem tyX8_ok : ∀ k, k < 2 → parseFieldDescriptor (TX8 k).2.2.1 = some (tyX8 k) := by decide +kernel
abbrev cX8_init : ByteArray := prog_10_method_1_code
def yX8_init : MethodName := ⟨RX8, "<init>", "()V"⟩
abbrev cX8_append : ByteArray := prog_10_method_2_code
def yX8_append : MethodName := ⟨RX8, "append", "(I)Z"⟩
abbrev cX8_signAt : ByteArray := prog_10_method_3_code
def yX8_signAt : MethodName := ⟨RX8, "signAt", "(I)I"⟩
abbrev cX8_digitAt : ByteArray := prog_10_method_4_code
def yX8_digitAt : MethodName := ⟨RX8, "digitAt", "(I)I"⟩
abbrev cX8_digitsFrom : ByteArray := prog_10_method_5_code
def yX8_digitsFrom : MethodName := ⟨RX8, "digitsFrom", "(II)I"⟩
abbrev cX8_numberIn : ByteArray := prog_10_method_6_code
def yX8_numberIn : MethodName := ⟨RX8, "numberIn", "(II)I"⟩
abbrev cX8_fault : ByteArray := prog_10_method_7_code
def yX8_fault : MethodName := ⟨RX8, "fault", "()I"⟩
abbrev cX8_leastDigits : ByteArray := prog_10_method_8_code
def yX8_leastDigits : MethodName := ⟨RX8, "leastDigits", "(I)I"⟩
abbrev cX8_mostDigits : ByteArray := prog_10_method_9_code
def yX8_mostDigits : MethodName := ⟨RX8, "mostDigits", "(I)I"⟩
def RX9 : String := "OrbitDesigns$Way"
def TX9 : u_T := fun k => match k with
  | 0 => ("OrbitDesigns$Way", "kind", "I", false)
  | 1 => ("OrbitDesigns$Way", "figure", "I", false)
  | _ => ("OrbitDesigns$Way", "target", "[I", true)
def tyX9 : Nat → FieldType := fun k => match k with
  | 0 => .int
  | 1 => .int
  | _ => .array .int
abbrev wsX90 : List Cond := u_ws RX9 TX9 3
theorem nmX9 : ∀ a, a < 3 → ∀ b, b < 3 → a ≠ b → (TX9 a).2.1 ≠ (TX9 b).2.1 := by decide +kernel
theorem tyX9_ok : ∀ k, k < 3 → parseFieldDescriptor (TX9 k).2.2.1 = some (tyX9 k) := by decide +kernel
abbrev cX9_init : ByteArray := prog_11_method_1_code
def yX9_init : MethodName := ⟨RX9, "<init>", "()V"⟩
abbrev cX9_copyFrom : ByteArray := prog_11_method_2_code
def yX9_copyFrom : MethodName := ⟨RX9, "copyFrom", "(LOrbitDesigns$Way;)V"⟩
abbrev cX9_becomeKind : ByteArray := prog_11_method_3_code
def yX9_becomeKind : MethodName := ⟨RX9, "becomeKind", "(III)V"⟩
abbrev cX9_targetByKind : ByteArray := prog_11_method_4_code
def yX9_targetByKind : MethodName := ⟨RX9, "targetByKind", "(II)I"⟩
abbrev cX9_swapped : ByteArray := prog_11_method_5_code
def yX9_swapped : MethodName := ⟨RX9, "swapped", "(III)I"⟩
abbrev cX9_becomeByHand : ByteArray := prog_11_method_6_code
def yX9_becomeByHand : MethodName := ⟨RX9, "becomeByHand", "(II)V"⟩
abbrev cX9_pointFor : ByteArray := prog_11_method_7_code
def yX9_pointFor : MethodName := ⟨RX9, "pointFor", "(I)I"⟩
abbrev cX9_setFor : ByteArray := prog_11_method_8_code
def yX9_setFor : MethodName := ⟨RX9, "setFor", "(I)I"⟩
abbrev cX9_period : ByteArray := prog_11_method_9_code
def yX9_period : MethodName := ⟨RX9, "period", "()I"⟩
abbrev cX9_isDoneAfter : ByteArray := prog_11_method_10_code
def yX9_isDoneAfter : MethodName := ⟨RX9, "isDoneAfter", "(I)Z"⟩
def RX10 : String := "OrbitDesigns"
def TX10 : u_T := fun k => match k with
  | 0 => ("OrbitDesigns", "now", "LOrbitDesigns$Setup;", true)
  | 1 => ("OrbitDesigns", "picture", "LOrbitDesigns$Setup;", true)
  | 2 => ("OrbitDesigns", "pictured", "Z", false)
  | 3 => ("OrbitDesigns", "text", "LOrbitDesigns$Text;", true)
  | 4 => ("OrbitDesigns", "tapeRow", "[LOrbitDesigns$Tape;", true)
  | 5 => ("OrbitDesigns", "found", "LOrbitDesigns$Orbits;", true)
  | 6 => ("OrbitDesigns", "group", "LOrbitDesigns$Group;", true)
  | 7 => ("OrbitDesigns", "choices", "LOrbitDesigns$Choices;", true)
  | 8 => ("OrbitDesigns", "matcher", "LOrbitDesigns$Matcher;", true)
  | 9 => ("OrbitDesigns", "lottery", "LOrbitDesigns$Lottery;", true)
  | 10 => ("OrbitDesigns", "oneScratch", "LOrbitDesigns$Blocks;", true)
  | _ => ("OrbitDesigns", "otherScratch", "LOrbitDesigns$Blocks;", true)
def tyX10 : Nat → FieldType := fun k => match k with
  | 0 => .object "OrbitDesigns$Setup"
  | 1 => .object "OrbitDesigns$Setup"
  | 2 => .boolean
  | 3 => .object "OrbitDesigns$Text"
  | 4 => .array (.object "OrbitDesigns$Tape")
  | 5 => .object "OrbitDesigns$Orbits"
  | 6 => .object "OrbitDesigns$Group"
  | 7 => .object "OrbitDesigns$Choices"
  | 8 => .object "OrbitDesigns$Matcher"
  | 9 => .object "OrbitDesigns$Lottery"
  | 10 => .object "OrbitDesigns$Blocks"
  | _ => .object "OrbitDesigns$Blocks"
abbrev wsX100 : List Cond := u_ws RX10 TX10 12
theorem nmX10 : ∀ a, a < 12 → ∀ b, b < 12 → a ≠ b → (TX10 a).2.1 ≠ (TX10 b).2.1 := by decide +kernel
theorem tyX10_ok : ∀ k, k < 12 → parseFieldDescriptor (TX10 k).2.2.1 = some (tyX10 k) := by decide +kernel
abbrev cX10_init : ByteArray := prog_1_method_1_code
def yX10_init : MethodName := ⟨RX10, "<init>", "()V"⟩
abbrev cX10_points : ByteArray := prog_1_method_2_code
def yX10_points : MethodName := ⟨RX10, "points", "(I)I"⟩
abbrev cX10_way : ByteArray := prog_1_method_3_code
def yX10_way : MethodName := ⟨RX10, "way", "(II)I"⟩
abbrev cX10_hand : ByteArray := prog_1_method_4_code
def yX10_hand : MethodName := ⟨RX10, "hand", "(I)I"⟩
abbrev cX10_drop : ByteArray := prog_1_method_5_code
def yX10_drop : MethodName := ⟨RX10, "drop", "(I)I"⟩
abbrev cX10_wayOf : ByteArray := prog_1_method_6_code
def yX10_wayOf : MethodName := ⟨RX10, "wayOf", "(II)I"⟩
abbrev cX10_takes : ByteArray := prog_1_method_7_code
def yX10_takes : MethodName := ⟨RX10, "takes", "(II)I"⟩
abbrev cX10_moves : ByteArray := prog_1_method_8_code
def yX10_moves : MethodName := ⟨RX10, "moves", "(II)I"⟩
abbrev cX10_order : ByteArray := prog_1_method_9_code
def yX10_order : MethodName := ⟨RX10, "order", "()I"⟩
abbrev cX10_orbits : ByteArray := prog_1_method_10_code
def yX10_orbits : MethodName := ⟨RX10, "orbits", "(I)I"⟩
abbrev cX10_orbit : ByteArray := prog_1_method_11_code
def yX10_orbit : MethodName := ⟨RX10, "orbit", "(III)I"⟩
abbrev cX10_member : ByteArray := prog_1_method_12_code
def yX10_member : MethodName := ⟨RX10, "member", "(III)I"⟩
abbrev cX10_orbitOf : ByteArray := prog_1_method_13_code
def yX10_orbitOf : MethodName := ⟨RX10, "orbitOf", "(I)I"⟩
abbrev cX10_table : ByteArray := prog_1_method_14_code
def yX10_table : MethodName := ⟨RX10, "table", "(IIII)I"⟩
abbrev cX10_solved : ByteArray := prog_1_method_15_code
def yX10_solved : MethodName := ⟨RX10, "solved", "(IIII)I"⟩
abbrev cX10_solution : ByteArray := prog_1_method_16_code
def yX10_solution : MethodName := ⟨RX10, "solution", "(IIII)I"⟩
abbrev cX10_cover : ByteArray := prog_1_method_17_code
def yX10_cover : MethodName := ⟨RX10, "cover", "(III)I"⟩
abbrev cX10_choose : ByteArray := prog_1_method_18_code
def yX10_choose : MethodName := ⟨RX10, "choose", "(II)I"⟩
abbrev cX10_block : ByteArray := prog_1_method_19_code
def yX10_block : MethodName := ⟨RX10, "block", "(I)I"⟩
abbrev cX10_blockOf : ByteArray := prog_1_method_20_code
def yX10_blockOf : MethodName := ⟨RX10, "blockOf", "(I)I"⟩
abbrev cX10_blocks : ByteArray := prog_1_method_21_code
def yX10_blocks : MethodName := ⟨RX10, "blocks", "(I)I"⟩
abbrev cX10_share : ByteArray := prog_1_method_22_code
def yX10_share : MethodName := ⟨RX10, "share", "(I)I"⟩
abbrev cX10_meets : ByteArray := prog_1_method_23_code
def yX10_meets : MethodName := ⟨RX10, "meets", "(II)I"⟩
abbrev cX10_turned : ByteArray := prog_1_method_24_code
def yX10_turned : MethodName := ⟨RX10, "turned", "()I"⟩
abbrev cX10_parted : ByteArray := prog_1_method_25_code
def yX10_parted : MethodName := ⟨RX10, "parted", "(II)I"⟩
abbrev cX10_keep : ByteArray := prog_1_method_26_code
def yX10_keep : MethodName := ⟨RX10, "keep", "()I"⟩
abbrev cX10_design : ByteArray := prog_1_method_27_code
def yX10_design : MethodName := ⟨RX10, "design", "(II)I"⟩
abbrev cX10_alike : ByteArray := prog_1_method_28_code
def yX10_alike : MethodName := ⟨RX10, "alike", "(II)I"⟩
abbrev cX10_selves : ByteArray := prog_1_method_29_code
def yX10_selves : MethodName := ⟨RX10, "selves", "(I)I"⟩
abbrev cX10_unlike : ByteArray := prog_1_method_30_code
def yX10_unlike : MethodName := ⟨RX10, "unlike", "(III)I"⟩
abbrev cX10_lots : ByteArray := prog_1_method_31_code
def yX10_lots : MethodName := ⟨RX10, "lots", "(IIII)I"⟩
abbrev cX10_feed : ByteArray := prog_1_method_32_code
def yX10_feed : MethodName := ⟨RX10, "feed", "(I)I"⟩
abbrev cX10_read : ByteArray := prog_1_method_33_code
def yX10_read : MethodName := ⟨RX10, "read", "()I"⟩
abbrev cX10_judge : ByteArray := prog_1_method_34_code
def yX10_judge : MethodName := ⟨RX10, "judge", "(II)I"⟩
abbrev cX10_image : ByteArray := prog_1_method_35_code
def yX10_image : MethodName := ⟨RX10, "image", "()I"⟩
abbrev cX10_undo : ByteArray := prog_1_method_36_code
def yX10_undo : MethodName := ⟨RX10, "undo", "()I"⟩
abbrev cX10_count : ByteArray := prog_1_method_37_code
def yX10_count : MethodName := ⟨RX10, "count", "(I)I"⟩
abbrev cX10_tape : ByteArray := prog_1_method_38_code
def yX10_tape : MethodName := ⟨RX10, "tape", "(III)I"⟩
abbrev cX10_item : ByteArray := prog_1_method_39_code
def yX10_item : MethodName := ⟨RX10, "item", "(IIJ)I"⟩
abbrev cX10_peek : ByteArray := prog_1_method_40_code
def yX10_peek : MethodName := ⟨RX10, "peek", "(II)J"⟩
abbrev cX10_shift : ByteArray := prog_1_method_41_code
def yX10_shift : MethodName := ⟨RX10, "shift", "(IIIII)I"⟩
abbrev cX10_areSizes : ByteArray := prog_1_method_42_code
def yX10_areSizes : MethodName := ⟨RX10, "areSizes", "(II)Z"⟩
abbrev cX10_isAim : ByteArray := prog_1_method_43_code
def yX10_isAim : MethodName := ⟨RX10, "isAim", "(I)Z"⟩
abbrev cX10_hasBitsFrom : ByteArray := prog_1_method_44_code
def yX10_hasBitsFrom : MethodName := ⟨RX10, "hasBitsFrom", "(II)Z"⟩
abbrev cX10_haveDivisorInCommon : ByteArray := prog_1_method_45_code
def yX10_haveDivisorInCommon : MethodName := ⟨RX10, "haveDivisorInCommon", "(II)Z"⟩
abbrev cX10_isArrangement : ByteArray := prog_1_method_46_code
def yX10_isArrangement : MethodName := ⟨RX10, "isArrangement", "(II)Z"⟩
abbrev cX10_loadChoices : ByteArray := prog_1_method_47_code
def yX10_loadChoices : MethodName := ⟨RX10, "loadChoices", "(II)Z"⟩
abbrev cX10_isLikeAnEarlierSolution : ByteArray := prog_1_method_48_code
def yX10_isLikeAnEarlierSolution : MethodName := ⟨RX10, "isLikeAnEarlierSolution", "(II)Z"⟩
abbrev cX10_doClauses : ByteArray := prog_1_method_49_code
def yX10_doClauses : MethodName := ⟨RX10, "doClauses", "()I"⟩
abbrev cX10_doClause : ByteArray := prog_1_method_50_code
def yX10_doClause : MethodName := ⟨RX10, "doClause", "(II)Z"⟩
abbrev cX10_doBlockClause : ByteArray := prog_1_method_51_code
def yX10_doBlockClause : MethodName := ⟨RX10, "doBlockClause", "(II)Z"⟩
abbrev cX10_tapeAt : ByteArray := prog_1_method_52_code
def yX10_tapeAt : MethodName := ⟨RX10, "tapeAt", "(I)LOrbitDesigns$Tape;"⟩
abbrev cX10_modulo : ByteArray := prog_1_method_53_code
def yX10_modulo : MethodName := ⟨RX10, "modulo", "(II)I"⟩
def RX11 : String := "OrbitDesignsModel"
def TX11 : u_T := fun k => match k with
  | 0 => ("OrbitDesignsModel", "g", "[I", true)
  | 1 => ("OrbitDesignsModel", "image", "[I", true)
  | 2 => ("OrbitDesignsModel", "is", "[[Z", true)
  | 3 => ("OrbitDesignsModel", "was", "[[Z", true)
  | 4 => ("OrbitDesignsModel", "hasImage", "Z", false)
  | 5 => ("OrbitDesignsModel", "told", "[I", true)
  | 6 => ("OrbitDesignsModel", "group", "[I", true)
  | 7 => ("OrbitDesignsModel", "number", "[I", true)
  | 8 => ("OrbitDesignsModel", "orbits", "[I", true)
  | 9 => ("OrbitDesignsModel", "waiting", "[I", true)
  | 10 => ("OrbitDesignsModel", "meet", "[[I", true)
  | 11 => ("OrbitDesignsModel", "sizes", "[I", true)
  | 12 => ("OrbitDesignsModel", "some", "[Z", true)
  | 13 => ("OrbitDesignsModel", "line", "[I", true)
  | 14 => ("OrbitDesignsModel", "solutions", "[[Z", true)
  | 15 => ("OrbitDesignsModel", "text", "[I", true)
  | 16 => ("OrbitDesignsModel", "signs", "I", false)
  | 17 => ("OrbitDesignsModel", "at", "I", false)
  | 18 => ("OrbitDesignsModel", "digits", "I", false)
  | 19 => ("OrbitDesignsModel", "value", "I", false)
  | 20 => ("OrbitDesignsModel", "told8", "I", false)
  | 21 => ("OrbitDesignsModel", "sorts", "[I", true)
  | 22 => ("OrbitDesignsModel", "lengths", "[I", true)
  | 23 => ("OrbitDesignsModel", "items", "[[J", true)
  | _ => ("OrbitDesignsModel", "between", "[J", true)
def tyX11 : Nat → FieldType := fun k => match k with
  | 0 => .array .int
  | 1 => .array .int
  | 2 => .array (.array .boolean)
  | 3 => .array (.array .boolean)
  | 4 => .boolean
  | 5 => .array .int
  | 6 => .array .int
  | 7 => .array .int
  | 8 => .array .int
  | 9 => .array .int
  | 10 => .array (.array .int)
  | 11 => .array .int
  | 12 => .array .boolean
  | 13 => .array .int
  | 14 => .array (.array .boolean)
  | 15 => .array .int
  | 16 => .int
  | 17 => .int
  | 18 => .int
  | 19 => .int
  | 20 => .int
  | 21 => .array .int
  | 22 => .array .int
  | 23 => .array (.array .long)
  | _ => .array .long
abbrev wsX110 : List Cond := u_ws RX11 TX11 25
theorem nmX11 : ∀ a, a < 25 → ∀ b, b < 25 → a ≠ b → (TX11 a).2.1 ≠ (TX11 b).2.1 := by decide +kernel
theorem tyX11_ok : ∀ k, k < 25 → parseFieldDescriptor (TX11 k).2.2.1 = some (tyX11 k) := by decide +kernel
abbrev cX11_init : ByteArray := prog_13_method_1_code
def yX11_init : MethodName := ⟨RX11, "<init>", "()V"⟩
abbrev cX11_in : ByteArray := prog_13_method_2_code
def yX11_in : MethodName := ⟨RX11, "in", "(JJJ)Z"⟩
abbrev cX11_starts : ByteArray := prog_13_method_3_code
def yX11_starts : MethodName := ⟨RX11, "starts", "(I)V"⟩
abbrev cX11_size : ByteArray := prog_13_method_4_code
def yX11_size : MethodName := ⟨RX11, "size", "(I)I"⟩
abbrev cX11_whole : ByteArray := prog_13_method_5_code
def yX11_whole : MethodName := ⟨RX11, "whole", "()I"⟩
abbrev cX11_isSet : ByteArray := prog_13_method_6_code
def yX11_isSet : MethodName := ⟨RX11, "isSet", "(I)Z"⟩
abbrev cX11_isPoint : ByteArray := prog_13_method_7_code
def yX11_isPoint : MethodName := ⟨RX11, "isPoint", "(I)Z"⟩
abbrev cX11_isWay : ByteArray := prog_13_method_8_code
def yX11_isWay : MethodName := ⟨RX11, "isWay", "(I)Z"⟩
abbrev cX11_points : ByteArray := prog_13_method_9_code
def yX11_points : MethodName := ⟨RX11, "points", "(I)I"⟩
abbrev cX11_common : ByteArray := prog_13_method_10_code
def yX11_common : MethodName := ⟨RX11, "common", "(II)I"⟩
abbrev cX11_goes : ByteArray := prog_13_method_11_code
def yX11_goes : MethodName := ⟨RX11, "goes", "(III)I"⟩
abbrev cX11_way : ByteArray := prog_13_method_12_code
def yX11_way : MethodName := ⟨RX11, "way", "(II)I"⟩
abbrev cX11_hand : ByteArray := prog_13_method_13_code
def yX11_hand : MethodName := ⟨RX11, "hand", "(I)I"⟩
abbrev cX11_drop : ByteArray := prog_13_method_14_code
def yX11_drop : MethodName := ⟨RX11, "drop", "(I)I"⟩
abbrev cX11_to : ByteArray := prog_13_method_15_code
def yX11_to : MethodName := ⟨RX11, "to", "(II)I"⟩
abbrev cX11_moved : ByteArray := prog_13_method_16_code
def yX11_moved : MethodName := ⟨RX11, "moved", "(II)I"⟩
abbrev cX11_timesOf : ByteArray := prog_13_method_17_code
def yX11_timesOf : MethodName := ⟨RX11, "timesOf", "(I)I"⟩
abbrev cX11_holds : ByteArray := prog_13_method_18_code
def yX11_holds : MethodName := ⟨RX11, "holds", "(I)Z"⟩
abbrev cX11_wayOf : ByteArray := prog_13_method_19_code
def yX11_wayOf : MethodName := ⟨RX11, "wayOf", "(II)I"⟩
abbrev cX11_takes : ByteArray := prog_13_method_20_code
def yX11_takes : MethodName := ⟨RX11, "takes", "(II)I"⟩
abbrev cX11_moves : ByteArray := prog_13_method_21_code
def yX11_moves : MethodName := ⟨RX11, "moves", "(II)I"⟩
abbrev cX11_order : ByteArray := prog_13_method_22_code
def yX11_order : MethodName := ⟨RX11, "order", "()I"⟩
abbrev cX11_finds : ByteArray := prog_13_method_23_code
def yX11_finds : MethodName := ⟨RX11, "finds", "()V"⟩
abbrev cX11_isSize : ByteArray := prog_13_method_24_code
def yX11_isSize : MethodName := ⟨RX11, "isSize", "(I)Z"⟩
abbrev cX11_orbits : ByteArray := prog_13_method_25_code
def yX11_orbits : MethodName := ⟨RX11, "orbits", "(I)I"⟩
abbrev cX11_isIn : ByteArray := prog_13_method_26_code
def yX11_isIn : MethodName := ⟨RX11, "isIn", "(III)Z"⟩
abbrev cX11_least : ByteArray := prog_13_method_27_code
def yX11_least : MethodName := ⟨RX11, "least", "(II)I"⟩
abbrev cX11_orbit : ByteArray := prog_13_method_28_code
def yX11_orbit : MethodName := ⟨RX11, "orbit", "(III)I"⟩
abbrev cX11_member : ByteArray := prog_13_method_29_code
def yX11_member : MethodName := ⟨RX11, "member", "(III)I"⟩
abbrev cX11_orbitOf : ByteArray := prog_13_method_30_code
def yX11_orbitOf : MethodName := ⟨RX11, "orbitOf", "(I)I"⟩
abbrev cX11_areSizes : ByteArray := prog_13_method_31_code
def yX11_areSizes : MethodName := ⟨RX11, "areSizes", "(II)Z"⟩
abbrev cX11_tables : ByteArray := prog_13_method_32_code
def yX11_tables : MethodName := ⟨RX11, "tables", "(II)V"⟩
abbrev cX11_table : ByteArray := prog_13_method_33_code
def yX11_table : MethodName := ⟨RX11, "table", "(IIII)I"⟩
abbrev cX11_sum : ByteArray := prog_13_method_34_code
def yX11_sum : MethodName := ⟨RX11, "sum", "(III)I"⟩
abbrev cX11_solves : ByteArray := prog_13_method_35_code
def yX11_solves : MethodName := ⟨RX11, "solves", "(IIII)Z"⟩
abbrev cX11_nth : ByteArray := prog_13_method_36_code
def yX11_nth : MethodName := ⟨RX11, "nth", "(IIII)I"⟩
abbrev cX11_solved : ByteArray := prog_13_method_37_code
def yX11_solved : MethodName := ⟨RX11, "solved", "(IIII)I"⟩
abbrev cX11_solution : ByteArray := prog_13_method_38_code
def yX11_solution : MethodName := ⟨RX11, "solution", "(IIII)I"⟩
abbrev cX11_covers : ByteArray := prog_13_method_39_code
def yX11_covers : MethodName := ⟨RX11, "covers", "(III)Z"⟩
abbrev cX11_cover : ByteArray := prog_13_method_40_code
def yX11_cover : MethodName := ⟨RX11, "cover", "(III)I"⟩
abbrev cX11_many : ByteArray := prog_13_method_41_code
def yX11_many : MethodName := ⟨RX11, "many", "([Z)I"⟩
abbrev cX11_choose : ByteArray := prog_13_method_42_code
def yX11_choose : MethodName := ⟨RX11, "choose", "(II)I"⟩
abbrev cX11_block : ByteArray := prog_13_method_43_code
def yX11_block : MethodName := ⟨RX11, "block", "(I)I"⟩
abbrev cX11_blockOf : ByteArray := prog_13_method_44_code
def yX11_blockOf : MethodName := ⟨RX11, "blockOf", "(I)I"⟩
abbrev cX11_shareOf : ByteArray := prog_13_method_45_code
def yX11_shareOf : MethodName := ⟨RX11, "shareOf", "([ZII)I"⟩
abbrev cX11_strengthOf : ByteArray := prog_13_method_46_code
def yX11_strengthOf : MethodName := ⟨RX11, "strengthOf", "([ZII)I"⟩
abbrev cX11_blocks : ByteArray := prog_13_method_47_code
def yX11_blocks : MethodName := ⟨RX11, "blocks", "(I)I"⟩
abbrev cX11_share : ByteArray := prog_13_method_48_code
def yX11_share : MethodName := ⟨RX11, "share", "(I)I"⟩
abbrev cX11_meets : ByteArray := prog_13_method_49_code
def yX11_meets : MethodName := ⟨RX11, "meets", "(II)I"⟩
abbrev cX11_turned : ByteArray := prog_13_method_50_code
def yX11_turned : MethodName := ⟨RX11, "turned", "()I"⟩
abbrev cX11_parted : ByteArray := prog_13_method_51_code
def yX11_parted : MethodName := ⟨RX11, "parted", "(II)I"⟩
abbrev cX11_keep : ByteArray := prog_13_method_52_code
def yX11_keep : MethodName := ⟨RX11, "keep", "()I"⟩
abbrev cX11_isDesign : ByteArray := prog_13_method_53_code
def yX11_isDesign : MethodName := ⟨RX11, "isDesign", "(I)Z"⟩
abbrev cX11_design : ByteArray := prog_13_method_54_code
def yX11_design : MethodName := ⟨RX11, "design", "(II)I"⟩
abbrev cX11_lined : ByteArray := prog_13_method_55_code
def yX11_lined : MethodName := ⟨RX11, "lined", "(I)I"⟩
abbrev cX11_waysFrom : ByteArray := prog_13_method_56_code
def yX11_waysFrom : MethodName := ⟨RX11, "waysFrom", "([Z[ZIIZ)I"⟩
abbrev cX11_areAlike : ByteArray := prog_13_method_57_code
def yX11_areAlike : MethodName := ⟨RX11, "areAlike", "([Z[Z)Z"⟩
abbrev cX11_alike : ByteArray := prog_13_method_58_code
def yX11_alike : MethodName := ⟨RX11, "alike", "(II)I"⟩
abbrev cX11_selves : ByteArray := prog_13_method_59_code
def yX11_selves : MethodName := ⟨RX11, "selves", "(I)I"⟩
abbrev cX11_unlike : ByteArray := prog_13_method_60_code
def yX11_unlike : MethodName := ⟨RX11, "unlike", "(III)I"⟩
abbrev cX11_lots : ByteArray := prog_13_method_61_code
def yX11_lots : MethodName := ⟨RX11, "lots", "(IIII)I"⟩
abbrev cX11_feed : ByteArray := prog_13_method_62_code
def yX11_feed : MethodName := ⟨RX11, "feed", "(I)I"⟩
abbrev cX11_here : ByteArray := prog_13_method_63_code
def yX11_here : MethodName := ⟨RX11, "here", "()I"⟩
abbrev cX11_hasClause : ByteArray := prog_13_method_64_code
def yX11_hasClause : MethodName := ⟨RX11, "hasClause", "()Z"⟩
abbrev cX11_isDone : ByteArray := prog_13_method_65_code
def yX11_isDone : MethodName := ⟨RX11, "isDone", "(I)Z"⟩
abbrev cX11_read : ByteArray := prog_13_method_66_code
def yX11_read : MethodName := ⟨RX11, "read", "()I"⟩
abbrev cX11_isTape : ByteArray := prog_13_method_67_code
def yX11_isTape : MethodName := ⟨RX11, "isTape", "(I)Z"⟩
abbrev cX11_judge : ByteArray := prog_13_method_68_code
def yX11_judge : MethodName := ⟨RX11, "judge", "(II)I"⟩
abbrev cX11_tape : ByteArray := prog_13_method_69_code
def yX11_tape : MethodName := ⟨RX11, "tape", "(III)I"⟩
abbrev cX11_item : ByteArray := prog_13_method_70_code
def yX11_item : MethodName := ⟨RX11, "item", "(IIJ)I"⟩
abbrev cX11_peek : ByteArray := prog_13_method_71_code
def yX11_peek : MethodName := ⟨RX11, "peek", "(II)J"⟩
abbrev cX11_shift : ByteArray := prog_13_method_72_code
def yX11_shift : MethodName := ⟨RX11, "shift", "(IIIII)I"⟩
abbrev cX11_copies : ByteArray := prog_13_method_73_code
def yX11_copies : MethodName := ⟨RX11, "copies", "([I[I[[Z[[Z)V"⟩
abbrev cX11_image : ByteArray := prog_13_method_74_code
def yX11_image : MethodName := ⟨RX11, "image", "()I"⟩
abbrev cX11_undo : ByteArray := prog_13_method_75_code
def yX11_undo : MethodName := ⟨RX11, "undo", "()I"⟩
abbrev cX11_count : ByteArray := prog_13_method_76_code
def yX11_count : MethodName := ⟨RX11, "count", "(I)I"⟩
def RJ6 : String := "java/lang/Integer"
abbrev cJ6_bitCount_0f7a4 : ByteArray := prog_14_method_49_code
def yJ6_bitCount_0f7a4 : MethodName := ⟨RJ6, "bitCount", "(I)I"⟩
def RJ9 : String := "java/lang/Math"
abbrev cJ9_max_7cf53 : ByteArray := prog_15_method_65_code
def yJ9_max_7cf53 : MethodName := ⟨RJ9, "max", "(II)I"⟩
abbrev cJ9_min_7cf53 : ByteArray := prog_15_method_69_code
def yJ9_min_7cf53 : MethodName := ⟨RJ9, "min", "(II)I"⟩
def RJ10 : String := "java/lang/System"
def RJ7 : String := "java/util/Arrays"
abbrev cJ7_fill_d0a16 : ByteArray := prog_17_method_101_code
def yJ7_fill_d0a16 : MethodName := ⟨RJ7, "fill", "([JJ)V"⟩
abbrev cJ7_fill_53178 : ByteArray := prog_17_method_103_code
def yJ7_fill_53178 : MethodName := ⟨RJ7, "fill", "([II)V"⟩
def RL : String := "OrbitDesignsLaw"
abbrev cL_law : ByteArray := code
def yL_law : MethodName := ⟨RL, "law", "([I)Z"⟩
abbrev vwCl : List vw_C := [(RX0, TX0, 3), (RX1, TX1, 12), (RX2, TX2, 3), (RX3, TX3, 5), (RX4, TX4, 1), (RX5, TX5, 3), (RX6, TX6, 6), (RX7, TX7, 3), (RX8, TX8, 2), (RX9, TX9, 3), (RX10, TX10, 12), (RX11, TX11, 25)]
end
section
theorem dX0_init_0 : decode cX0_init 0 = .ok (.aload_n 0, 1) := by decide +kernel
theorem dX0_init_1 : decode cX0_init 1 = .ok (.invokespecial 3, 3) := by decide +kernel
theorem dX0_init_4 : decode cX0_init 4 = .ok (.aload_n 0, 1) := by decide +kernel
theorem dX0_init_5 : decode cX0_init 5 = .ok (.iconst 2, 1) := by decide +kernel
theorem dX0_init_6 : decode cX0_init 6 = .ok (.putfield 9, 3) := by decide +kernel
theorem dX0_init_9 : decode cX0_init 9 = .ok (.aload_n 0, 1) := by decide +kernel
theorem dX0_init_10 : decode cX0_init 10 = .ok (.iconst 0, 1) := by decide +kernel
theorem dX0_init_11 : decode cX0_init 11 = .ok (.putfield 15, 3) := by decide +kernel
theorem dX0_init_14 : decode cX0_init 14 = .ok (.aload_n 0, 1) := by decide +kernel
theorem dX0_init_15 : decode cX0_init 15 = .ok (.sipush 256, 3) := by decide +kernel
theorem dX0_init_18 : decode cX0_init 18 = .ok (.newarray .boolean, 2) := by decide +kernel
theorem dX0_init_20 : decode cX0_init 20 = .ok (.putfield 18, 3) := by decide +kernel
theorem dX0_init_23 : decode cX0_init 23 = .ok (.return_, 1) := by decide +kernel
theorem dX0_becomeEmpty_0 : decode cX0_becomeEmpty 0 = .ok (.aload_n 0, 1) := by decide +kernel
theorem dX0_becomeEmpty_1 : decode cX0_becomeEmpty 1 = .ok (.iload_n 1, 1) := by decide +kernel
theorem dX0_becomeEmpty_2 : decode cX0_becomeEmpty 2 = .ok (.putfield 9, 3) := by decide +kernel
theorem dX0_becomeEmpty_5 : decode cX0_becomeEmpty 5 = .ok (.aload_n 0, 1) := by decide +kernel
theorem dX0_becomeEmpty_6 : decode cX0_becomeEmpty 6 = .ok (.iconst 0, 1) := by decide +kernel
theorem dX0_becomeEmpty_7 : decode cX0_becomeEmpty 7 = .ok (.putfield 15, 3) := by decide +kernel
theorem dX0_becomeEmpty_10 : decode cX0_becomeEmpty 10 = .ok (.iconst 0, 1) := by decide +kernel
theorem dX0_becomeEmpty_11 : decode cX0_becomeEmpty 11 = .ok (.istore_n 2, 1) := by decide +kernel
theorem dX0_becomeEmpty_12 : decode cX0_becomeEmpty 12 = .ok (.iload_n 2, 1) := by decide +kernel
theorem dX0_becomeEmpty_13 : decode cX0_becomeEmpty 13 = .ok (.aload_n 0, 1) := by decide +kernel
theorem dX0_becomeEmpty_14 : decode cX0_becomeEmpty 14 = .ok (.getfield 18, 3) := by decide +kernel
theorem dX0_becomeEmpty_17 : decode cX0_becomeEmpty 17 = .ok (.arraylength, 1) := by decide +kernel
theorem dX0_becomeEmpty_18 : decode cX0_becomeEmpty 18 = .ok (.if_icmp .ge 16, 3) := by decide +kernel
theorem dX0_becomeEmpty_21 : decode cX0_becomeEmpty 21 = .ok (.aload_n 0, 1) := by decide +kernel
theorem dX0_becomeEmpty_22 : decode cX0_becomeEmpty 22 = .ok (.getfield 18, 3) := by decide +kernel
theorem dX0_becomeEmpty_25 : decode cX0_becomeEmpty 25 = .ok (.iload_n 2, 1) := by decide +kernel
theorem dX0_becomeEmpty_26 : decode cX0_becomeEmpty 26 = .ok (.iconst 0, 1) := by decide +kernel
theorem dX0_becomeEmpty_27 : decode cX0_becomeEmpty 27 = .ok (.bastore, 1) := by decide +kernel
theorem dX0_becomeEmpty_28 : decode cX0_becomeEmpty 28 = .ok (.iinc 2 1, 3) := by decide +kernel
theorem dX0_becomeEmpty_31 : decode cX0_becomeEmpty 31 = .ok (.goto (-19), 3) := by decide +kernel
theorem dX0_becomeEmpty_34 : decode cX0_becomeEmpty 34 = .ok (.return_, 1) := by decide +kernel
theorem dX0_copyFrom_0 : decode cX0_copyFrom 0 = .ok (.aload_n 0, 1) := by decide +kernel
theorem dX0_copyFrom_1 : decode cX0_copyFrom 1 = .ok (.aload_n 1, 1) := by decide +kernel
theorem dX0_copyFrom_2 : decode cX0_copyFrom 2 = .ok (.getfield 9, 3) := by decide +kernel
theorem dX0_copyFrom_5 : decode cX0_copyFrom 5 = .ok (.putfield 9, 3) := by decide +kernel
theorem dX0_copyFrom_8 : decode cX0_copyFrom 8 = .ok (.aload_n 0, 1) := by decide +kernel
theorem dX0_copyFrom_9 : decode cX0_copyFrom 9 = .ok (.aload_n 1, 1) := by decide +kernel
theorem dX0_copyFrom_10 : decode cX0_copyFrom 10 = .ok (.getfield 15, 3) := by decide +kernel
theorem dX0_copyFrom_13 : decode cX0_copyFrom 13 = .ok (.putfield 15, 3) := by decide +kernel
theorem dX0_copyFrom_16 : decode cX0_copyFrom 16 = .ok (.iconst 0, 1) := by decide +kernel
theorem dX0_copyFrom_17 : decode cX0_copyFrom 17 = .ok (.istore_n 2, 1) := by decide +kernel
theorem dX0_copyFrom_18 : decode cX0_copyFrom 18 = .ok (.iload_n 2, 1) := by decide +kernel
theorem dX0_copyFrom_19 : decode cX0_copyFrom 19 = .ok (.aload_n 0, 1) := by decide +kernel
theorem dX0_copyFrom_20 : decode cX0_copyFrom 20 = .ok (.getfield 18, 3) := by decide +kernel
theorem dX0_copyFrom_23 : decode cX0_copyFrom 23 = .ok (.arraylength, 1) := by decide +kernel
theorem dX0_copyFrom_24 : decode cX0_copyFrom 24 = .ok (.if_icmp .ge 20, 3) := by decide +kernel
theorem dX0_copyFrom_27 : decode cX0_copyFrom 27 = .ok (.aload_n 0, 1) := by decide +kernel
theorem dX0_copyFrom_28 : decode cX0_copyFrom 28 = .ok (.getfield 18, 3) := by decide +kernel
theorem dX0_copyFrom_31 : decode cX0_copyFrom 31 = .ok (.iload_n 2, 1) := by decide +kernel
theorem dX0_copyFrom_32 : decode cX0_copyFrom 32 = .ok (.aload_n 1, 1) := by decide +kernel
theorem dX0_copyFrom_33 : decode cX0_copyFrom 33 = .ok (.iload_n 2, 1) := by decide +kernel
theorem dX0_copyFrom_34 : decode cX0_copyFrom 34 = .ok (.invokevirtual 22, 3) := by decide +kernel
theorem dX0_copyFrom_37 : decode cX0_copyFrom 37 = .ok (.bastore, 1) := by decide +kernel
theorem dX0_copyFrom_38 : decode cX0_copyFrom 38 = .ok (.iinc 2 1, 3) := by decide +kernel
theorem dX0_copyFrom_41 : decode cX0_copyFrom 41 = .ok (.goto (-23), 3) := by decide +kernel
theorem dX0_copyFrom_44 : decode cX0_copyFrom 44 = .ok (.return_, 1) := by decide +kernel
theorem dX0_becomeChoice_0 : decode cX0_becomeChoice 0 = .ok (.aload_n 0, 1) := by decide +kernel
theorem dX0_becomeChoice_1 : decode cX0_becomeChoice 1 = .ok (.iload_n 2, 1) := by decide +kernel
theorem dX0_becomeChoice_2 : decode cX0_becomeChoice 2 = .ok (.invokevirtual 26, 3) := by decide +kernel
theorem dX0_becomeChoice_5 : decode cX0_becomeChoice 5 = .ok (.iconst 0, 1) := by decide +kernel
theorem dX0_becomeChoice_6 : decode cX0_becomeChoice 6 = .ok (.istore 4, 2) := by decide +kernel
theorem dX0_becomeChoice_8 : decode cX0_becomeChoice 8 = .ok (.iload 4, 2) := by decide +kernel
theorem dX0_becomeChoice_10 : decode cX0_becomeChoice 10 = .ok (.aload_n 0, 1) := by decide +kernel
theorem dX0_becomeChoice_11 : decode cX0_becomeChoice 11 = .ok (.getfield 18, 3) := by decide +kernel
theorem dX0_becomeChoice_14 : decode cX0_becomeChoice 14 = .ok (.arraylength, 1) := by decide +kernel
theorem dX0_becomeChoice_15 : decode cX0_becomeChoice 15 = .ok (.if_icmp .ge 67, 3) := by decide +kernel
theorem dX0_becomeChoice_18 : decode cX0_becomeChoice 18 = .ok (.aload_n 1, 1) := by decide +kernel
theorem dX0_becomeChoice_19 : decode cX0_becomeChoice 19 = .ok (.iload 4, 2) := by decide +kernel
theorem dX0_becomeChoice_21 : decode cX0_becomeChoice 21 = .ok (.invokevirtual 30, 3) := by decide +kernel
theorem dX0_becomeChoice_24 : decode cX0_becomeChoice 24 = .ok (.istore 5, 2) := by decide +kernel
theorem dX0_becomeChoice_26 : decode cX0_becomeChoice 26 = .ok (.iload 5, 2) := by decide +kernel
theorem dX0_becomeChoice_28 : decode cX0_becomeChoice 28 = .ok (.ifCond .lt 24, 3) := by decide +kernel
theorem dX0_becomeChoice_31 : decode cX0_becomeChoice 31 = .ok (.iload 5, 2) := by decide +kernel
theorem dX0_becomeChoice_33 : decode cX0_becomeChoice 33 = .ok (.bipush 31, 2) := by decide +kernel
theorem dX0_becomeChoice_35 : decode cX0_becomeChoice 35 = .ok (.if_icmp .ge 17, 3) := by decide +kernel
theorem dX0_becomeChoice_38 : decode cX0_becomeChoice 38 = .ok (.iload_n 3, 1) := by decide +kernel
theorem dX0_becomeChoice_39 : decode cX0_becomeChoice 39 = .ok (.iload 5, 2) := by decide +kernel
theorem dX0_becomeChoice_41 : decode cX0_becomeChoice 41 = .ok (.ishr, 1) := by decide +kernel
theorem dX0_becomeChoice_42 : decode cX0_becomeChoice 42 = .ok (.iconst 1, 1) := by decide +kernel
theorem dX0_becomeChoice_43 : decode cX0_becomeChoice 43 = .ok (.iand, 1) := by decide +kernel
theorem dX0_becomeChoice_44 : decode cX0_becomeChoice 44 = .ok (.iconst 1, 1) := by decide +kernel
theorem dX0_becomeChoice_45 : decode cX0_becomeChoice 45 = .ok (.if_icmp .ne 7, 3) := by decide +kernel
theorem dX0_becomeChoice_48 : decode cX0_becomeChoice 48 = .ok (.iconst 1, 1) := by decide +kernel
theorem dX0_becomeChoice_49 : decode cX0_becomeChoice 49 = .ok (.goto 4, 3) := by decide +kernel
theorem dX0_becomeChoice_52 : decode cX0_becomeChoice 52 = .ok (.iconst 0, 1) := by decide +kernel
theorem dX0_becomeChoice_53 : decode cX0_becomeChoice 53 = .ok (.istore 6, 2) := by decide +kernel
theorem dX0_becomeChoice_55 : decode cX0_becomeChoice 55 = .ok (.iload 6, 2) := by decide +kernel
theorem dX0_becomeChoice_57 : decode cX0_becomeChoice 57 = .ok (.ifCond .eq 19, 3) := by decide +kernel
theorem dX0_becomeChoice_60 : decode cX0_becomeChoice 60 = .ok (.iload 4, 2) := by decide +kernel
theorem dX0_becomeChoice_62 : decode cX0_becomeChoice 62 = .ok (.invokestatic 36, 3) := by decide +kernel
theorem dX0_becomeChoice_65 : decode cX0_becomeChoice 65 = .ok (.iload_n 2, 1) := by decide +kernel
theorem dX0_becomeChoice_66 : decode cX0_becomeChoice 66 = .ok (.if_icmp .ne 10, 3) := by decide +kernel
theorem dX0_becomeChoice_69 : decode cX0_becomeChoice 69 = .ok (.aload_n 0, 1) := by decide +kernel
theorem dX0_becomeChoice_70 : decode cX0_becomeChoice 70 = .ok (.iload 4, 2) := by decide +kernel
theorem dX0_becomeChoice_72 : decode cX0_becomeChoice 72 = .ok (.iconst 1, 1) := by decide +kernel
theorem dX0_becomeChoice_73 : decode cX0_becomeChoice 73 = .ok (.invokevirtual 41, 3) := by decide +kernel
theorem dX0_becomeChoice_76 : decode cX0_becomeChoice 76 = .ok (.iinc 4 1, 3) := by decide +kernel
theorem dX0_becomeChoice_79 : decode cX0_becomeChoice 79 = .ok (.goto (-71), 3) := by decide +kernel
theorem dX0_becomeChoice_82 : decode cX0_becomeChoice 82 = .ok (.return_, 1) := by decide +kernel
theorem dX0_becomePart_0 : decode cX0_becomePart 0 = .ok (.aload_n 0, 1) := by decide +kernel
theorem dX0_becomePart_1 : decode cX0_becomePart 1 = .ok (.iload_n 3, 1) := by decide +kernel
theorem dX0_becomePart_2 : decode cX0_becomePart 2 = .ok (.ifCond .eq 12, 3) := by decide +kernel
theorem dX0_becomePart_5 : decode cX0_becomePart 5 = .ok (.aload_n 1, 1) := by decide +kernel
theorem dX0_becomePart_6 : decode cX0_becomePart 6 = .ok (.getfield 9, 3) := by decide +kernel
theorem dX0_becomePart_9 : decode cX0_becomePart 9 = .ok (.iconst 1, 1) := by decide +kernel
theorem dX0_becomePart_10 : decode cX0_becomePart 10 = .ok (.isub, 1) := by decide +kernel
theorem dX0_becomePart_11 : decode cX0_becomePart 11 = .ok (.goto 7, 3) := by decide +kernel
theorem dX0_becomePart_14 : decode cX0_becomePart 14 = .ok (.aload_n 1, 1) := by decide +kernel
theorem dX0_becomePart_15 : decode cX0_becomePart 15 = .ok (.getfield 9, 3) := by decide +kernel
theorem dX0_becomePart_18 : decode cX0_becomePart 18 = .ok (.invokevirtual 26, 3) := by decide +kernel
theorem dX0_becomePart_21 : decode cX0_becomePart 21 = .ok (.iconst 0, 1) := by decide +kernel
theorem dX0_becomePart_22 : decode cX0_becomePart 22 = .ok (.istore 4, 2) := by decide +kernel
theorem dX0_becomePart_24 : decode cX0_becomePart 24 = .ok (.iload 4, 2) := by decide +kernel
theorem dX0_becomePart_26 : decode cX0_becomePart 26 = .ok (.aload_n 0, 1) := by decide +kernel
theorem dX0_becomePart_27 : decode cX0_becomePart 27 = .ok (.getfield 18, 3) := by decide +kernel
theorem dX0_becomePart_30 : decode cX0_becomePart 30 = .ok (.arraylength, 1) := by decide +kernel
theorem dX0_becomePart_31 : decode cX0_becomePart 31 = .ok (.if_icmp .ge 49, 3) := by decide +kernel
theorem dX0_becomePart_34 : decode cX0_becomePart 34 = .ok (.iload 4, 2) := by decide +kernel
theorem dX0_becomePart_36 : decode cX0_becomePart 36 = .ok (.iload_n 2, 1) := by decide +kernel
theorem dX0_becomePart_37 : decode cX0_becomePart 37 = .ok (.iand, 1) := by decide +kernel
theorem dX0_becomePart_38 : decode cX0_becomePart 38 = .ok (.ifCond .eq 7, 3) := by decide +kernel
theorem dX0_becomePart_41 : decode cX0_becomePart 41 = .ok (.iconst 1, 1) := by decide +kernel
theorem dX0_becomePart_42 : decode cX0_becomePart 42 = .ok (.goto 4, 3) := by decide +kernel
theorem dX0_becomePart_45 : decode cX0_becomePart 45 = .ok (.iconst 0, 1) := by decide +kernel
theorem dX0_becomePart_46 : decode cX0_becomePart 46 = .ok (.istore 5, 2) := by decide +kernel
theorem dX0_becomePart_48 : decode cX0_becomePart 48 = .ok (.aload_n 1, 1) := by decide +kernel
theorem dX0_becomePart_49 : decode cX0_becomePart 49 = .ok (.iload 4, 2) := by decide +kernel
theorem dX0_becomePart_51 : decode cX0_becomePart 51 = .ok (.invokevirtual 22, 3) := by decide +kernel
theorem dX0_becomePart_54 : decode cX0_becomePart 54 = .ok (.ifCond .eq 20, 3) := by decide +kernel
theorem dX0_becomePart_57 : decode cX0_becomePart 57 = .ok (.iload 5, 2) := by decide +kernel
theorem dX0_becomePart_59 : decode cX0_becomePart 59 = .ok (.iload_n 3, 1) := by decide +kernel
theorem dX0_becomePart_60 : decode cX0_becomePart 60 = .ok (.if_icmp .ne 14, 3) := by decide +kernel
theorem dX0_becomePart_63 : decode cX0_becomePart 63 = .ok (.aload_n 0, 1) := by decide +kernel
theorem dX0_becomePart_64 : decode cX0_becomePart 64 = .ok (.iload 4, 2) := by decide +kernel
theorem dX0_becomePart_66 : decode cX0_becomePart 66 = .ok (.iload_n 2, 1) := by decide +kernel
theorem dX0_becomePart_67 : decode cX0_becomePart 67 = .ok (.iconst (-1), 1) := by decide +kernel
theorem dX0_becomePart_68 : decode cX0_becomePart 68 = .ok (.ixor, 1) := by decide +kernel
theorem dX0_becomePart_69 : decode cX0_becomePart 69 = .ok (.iand, 1) := by decide +kernel
theorem dX0_becomePart_70 : decode cX0_becomePart 70 = .ok (.iconst 1, 1) := by decide +kernel
theorem dX0_becomePart_71 : decode cX0_becomePart 71 = .ok (.invokevirtual 41, 3) := by decide +kernel
theorem dX0_becomePart_74 : decode cX0_becomePart 74 = .ok (.iinc 4 1, 3) := by decide +kernel
theorem dX0_becomePart_77 : decode cX0_becomePart 77 = .ok (.goto (-53), 3) := by decide +kernel
theorem dX0_becomePart_80 : decode cX0_becomePart 80 = .ok (.return_, 1) := by decide +kernel
theorem dX0_has_0 : decode cX0_has 0 = .ok (.iload_n 1, 1) := by decide +kernel
theorem dX0_has_1 : decode cX0_has 1 = .ok (.ifCond .lt 25, 3) := by decide +kernel
theorem dX0_has_4 : decode cX0_has 4 = .ok (.iload_n 1, 1) := by decide +kernel
theorem dX0_has_5 : decode cX0_has 5 = .ok (.aload_n 0, 1) := by decide +kernel
theorem dX0_has_6 : decode cX0_has 6 = .ok (.getfield 18, 3) := by decide +kernel
theorem dX0_has_9 : decode cX0_has 9 = .ok (.arraylength, 1) := by decide +kernel
theorem dX0_has_10 : decode cX0_has 10 = .ok (.if_icmp .ge 16, 3) := by decide +kernel
theorem dX0_has_13 : decode cX0_has 13 = .ok (.aload_n 0, 1) := by decide +kernel
theorem dX0_has_14 : decode cX0_has 14 = .ok (.getfield 18, 3) := by decide +kernel
theorem dX0_has_17 : decode cX0_has 17 = .ok (.iload_n 1, 1) := by decide +kernel
theorem dX0_has_18 : decode cX0_has 18 = .ok (.baload, 1) := by decide +kernel
theorem dX0_has_19 : decode cX0_has 19 = .ok (.ifCond .eq 7, 3) := by decide +kernel
theorem dX0_has_22 : decode cX0_has 22 = .ok (.iconst 1, 1) := by decide +kernel
theorem dX0_has_23 : decode cX0_has 23 = .ok (.goto 4, 3) := by decide +kernel
theorem dX0_has_26 : decode cX0_has 26 = .ok (.iconst 0, 1) := by decide +kernel
theorem dX0_has_27 : decode cX0_has 27 = .ok (.ireturn, 1) := by decide +kernel
theorem dX0_put_0 : decode cX0_put 0 = .ok (.iload_n 1, 1) := by decide +kernel
theorem dX0_put_1 : decode cX0_put 1 = .ok (.ifCond .lt 22, 3) := by decide +kernel
theorem dX0_put_4 : decode cX0_put 4 = .ok (.iload_n 1, 1) := by decide +kernel
theorem dX0_put_5 : decode cX0_put 5 = .ok (.aload_n 0, 1) := by decide +kernel
theorem dX0_put_6 : decode cX0_put 6 = .ok (.getfield 18, 3) := by decide +kernel
theorem dX0_put_9 : decode cX0_put 9 = .ok (.arraylength, 1) := by decide +kernel
theorem dX0_put_10 : decode cX0_put 10 = .ok (.if_icmp .ge 13, 3) := by decide +kernel
theorem dX0_put_13 : decode cX0_put 13 = .ok (.aload_n 0, 1) := by decide +kernel
theorem dX0_put_14 : decode cX0_put 14 = .ok (.getfield 18, 3) := by decide +kernel
theorem dX0_put_17 : decode cX0_put 17 = .ok (.iload_n 1, 1) := by decide +kernel
theorem dX0_put_18 : decode cX0_put 18 = .ok (.baload, 1) := by decide +kernel
theorem dX0_put_19 : decode cX0_put 19 = .ok (.iload_n 2, 1) := by decide +kernel
theorem dX0_put_20 : decode cX0_put 20 = .ok (.if_icmp .ne 4, 3) := by decide +kernel
theorem dX0_put_23 : decode cX0_put 23 = .ok (.return_, 1) := by decide +kernel
theorem dX0_put_24 : decode cX0_put 24 = .ok (.aload_n 0, 1) := by decide +kernel
theorem dX0_put_25 : decode cX0_put 25 = .ok (.getfield 18, 3) := by decide +kernel
theorem dX0_put_28 : decode cX0_put 28 = .ok (.iload_n 1, 1) := by decide +kernel
theorem dX0_put_29 : decode cX0_put 29 = .ok (.iload_n 2, 1) := by decide +kernel
theorem dX0_put_30 : decode cX0_put 30 = .ok (.bastore, 1) := by decide +kernel
theorem dX0_put_31 : decode cX0_put 31 = .ok (.aload_n 0, 1) := by decide +kernel
theorem dX0_put_32 : decode cX0_put 32 = .ok (.dup, 1) := by decide +kernel
theorem dX0_put_33 : decode cX0_put 33 = .ok (.getfield 15, 3) := by decide +kernel
theorem dX0_put_36 : decode cX0_put 36 = .ok (.iload_n 2, 1) := by decide +kernel
theorem dX0_put_37 : decode cX0_put 37 = .ok (.ifCond .eq 7, 3) := by decide +kernel
theorem dX0_put_40 : decode cX0_put 40 = .ok (.iconst 1, 1) := by decide +kernel
theorem dX0_put_41 : decode cX0_put 41 = .ok (.goto 4, 3) := by decide +kernel
theorem dX0_put_44 : decode cX0_put 44 = .ok (.iconst (-1), 1) := by decide +kernel
theorem dX0_put_45 : decode cX0_put 45 = .ok (.iadd, 1) := by decide +kernel
theorem dX0_put_46 : decode cX0_put 46 = .ok (.putfield 15, 3) := by decide +kernel
theorem dX0_put_49 : decode cX0_put 49 = .ok (.return_, 1) := by decide +kernel
theorem dX0_setAt_0 : decode cX0_setAt 0 = .ok (.iconst 0, 1) := by decide +kernel
theorem dX0_setAt_1 : decode cX0_setAt 1 = .ok (.istore_n 2, 1) := by decide +kernel
theorem dX0_setAt_2 : decode cX0_setAt 2 = .ok (.iconst 0, 1) := by decide +kernel
theorem dX0_setAt_3 : decode cX0_setAt 3 = .ok (.istore_n 3, 1) := by decide +kernel
theorem dX0_setAt_4 : decode cX0_setAt 4 = .ok (.iload_n 3, 1) := by decide +kernel
theorem dX0_setAt_5 : decode cX0_setAt 5 = .ok (.aload_n 0, 1) := by decide +kernel
theorem dX0_setAt_6 : decode cX0_setAt 6 = .ok (.getfield 18, 3) := by decide +kernel
theorem dX0_setAt_9 : decode cX0_setAt 9 = .ok (.arraylength, 1) := by decide +kernel
theorem dX0_setAt_10 : decode cX0_setAt 10 = .ok (.if_icmp .ge 28, 3) := by decide +kernel
theorem dX0_setAt_13 : decode cX0_setAt 13 = .ok (.aload_n 0, 1) := by decide +kernel
theorem dX0_setAt_14 : decode cX0_setAt 14 = .ok (.getfield 18, 3) := by decide +kernel
theorem dX0_setAt_17 : decode cX0_setAt 17 = .ok (.iload_n 3, 1) := by decide +kernel
theorem dX0_setAt_18 : decode cX0_setAt 18 = .ok (.baload, 1) := by decide +kernel
theorem dX0_setAt_19 : decode cX0_setAt 19 = .ok (.ifCond .eq 13, 3) := by decide +kernel
theorem dX0_setAt_22 : decode cX0_setAt 22 = .ok (.iload_n 2, 1) := by decide +kernel
theorem dX0_setAt_23 : decode cX0_setAt 23 = .ok (.iinc 2 1, 3) := by decide +kernel
theorem dX0_setAt_26 : decode cX0_setAt 26 = .ok (.iload_n 1, 1) := by decide +kernel
theorem dX0_setAt_27 : decode cX0_setAt 27 = .ok (.if_icmp .ne 5, 3) := by decide +kernel
theorem dX0_setAt_30 : decode cX0_setAt 30 = .ok (.iload_n 3, 1) := by decide +kernel
theorem dX0_setAt_31 : decode cX0_setAt 31 = .ok (.ireturn, 1) := by decide +kernel
theorem dX0_setAt_32 : decode cX0_setAt 32 = .ok (.iinc 3 1, 3) := by decide +kernel
theorem dX0_setAt_35 : decode cX0_setAt 35 = .ok (.goto (-31), 3) := by decide +kernel
theorem dX0_setAt_38 : decode cX0_setAt 38 = .ok (.bipush (-5), 2) := by decide +kernel
theorem dX0_setAt_40 : decode cX0_setAt 40 = .ok (.ireturn, 1) := by decide +kernel
theorem dX0_union_0 : decode cX0_union 0 = .ok (.iconst 0, 1) := by decide +kernel
theorem dX0_union_1 : decode cX0_union 1 = .ok (.istore_n 1, 1) := by decide +kernel
theorem dX0_union_2 : decode cX0_union 2 = .ok (.iconst 0, 1) := by decide +kernel
theorem dX0_union_3 : decode cX0_union 3 = .ok (.istore_n 2, 1) := by decide +kernel
theorem dX0_union_4 : decode cX0_union 4 = .ok (.iload_n 2, 1) := by decide +kernel
theorem dX0_union_5 : decode cX0_union 5 = .ok (.aload_n 0, 1) := by decide +kernel
theorem dX0_union_6 : decode cX0_union 6 = .ok (.getfield 18, 3) := by decide +kernel
theorem dX0_union_9 : decode cX0_union 9 = .ok (.arraylength, 1) := by decide +kernel
theorem dX0_union_10 : decode cX0_union 10 = .ok (.if_icmp .ge 22, 3) := by decide +kernel
theorem dX0_union_13 : decode cX0_union 13 = .ok (.aload_n 0, 1) := by decide +kernel
theorem dX0_union_14 : decode cX0_union 14 = .ok (.getfield 18, 3) := by decide +kernel
theorem dX0_union_17 : decode cX0_union 17 = .ok (.iload_n 2, 1) := by decide +kernel
theorem dX0_union_18 : decode cX0_union 18 = .ok (.baload, 1) := by decide +kernel
theorem dX0_union_19 : decode cX0_union 19 = .ok (.ifCond .eq 7, 3) := by decide +kernel
theorem dX0_union_22 : decode cX0_union 22 = .ok (.iload_n 1, 1) := by decide +kernel
theorem dX0_union_23 : decode cX0_union 23 = .ok (.iload_n 2, 1) := by decide +kernel
theorem dX0_union_24 : decode cX0_union 24 = .ok (.ior, 1) := by decide +kernel
theorem dX0_union_25 : decode cX0_union 25 = .ok (.istore_n 1, 1) := by decide +kernel
theorem dX0_union_26 : decode cX0_union 26 = .ok (.iinc 2 1, 3) := by decide +kernel
theorem dX0_union_29 : decode cX0_union 29 = .ok (.goto (-25), 3) := by decide +kernel
theorem dX0_union_32 : decode cX0_union 32 = .ok (.iload_n 1, 1) := by decide +kernel
theorem dX0_union_33 : decode cX0_union 33 = .ok (.ireturn, 1) := by decide +kernel
theorem dX0_areKeptBy_0 : decode cX0_areKeptBy 0 = .ok (.iconst 0, 1) := by decide +kernel
theorem dX0_areKeptBy_1 : decode cX0_areKeptBy 1 = .ok (.istore_n 2, 1) := by decide +kernel
theorem dX0_areKeptBy_2 : decode cX0_areKeptBy 2 = .ok (.iload_n 2, 1) := by decide +kernel
theorem dX0_areKeptBy_3 : decode cX0_areKeptBy 3 = .ok (.aload_n 0, 1) := by decide +kernel
theorem dX0_areKeptBy_4 : decode cX0_areKeptBy 4 = .ok (.getfield 18, 3) := by decide +kernel
theorem dX0_areKeptBy_7 : decode cX0_areKeptBy 7 = .ok (.arraylength, 1) := by decide +kernel
theorem dX0_areKeptBy_8 : decode cX0_areKeptBy 8 = .ok (.if_icmp .ge 32, 3) := by decide +kernel
theorem dX0_areKeptBy_11 : decode cX0_areKeptBy 11 = .ok (.aload_n 0, 1) := by decide +kernel
theorem dX0_areKeptBy_12 : decode cX0_areKeptBy 12 = .ok (.getfield 18, 3) := by decide +kernel
theorem dX0_areKeptBy_15 : decode cX0_areKeptBy 15 = .ok (.iload_n 2, 1) := by decide +kernel
theorem dX0_areKeptBy_16 : decode cX0_areKeptBy 16 = .ok (.baload, 1) := by decide +kernel
theorem dX0_areKeptBy_17 : decode cX0_areKeptBy 17 = .ok (.ifCond .eq 17, 3) := by decide +kernel
theorem dX0_areKeptBy_20 : decode cX0_areKeptBy 20 = .ok (.aload_n 0, 1) := by decide +kernel
theorem dX0_areKeptBy_21 : decode cX0_areKeptBy 21 = .ok (.aload_n 1, 1) := by decide +kernel
theorem dX0_areKeptBy_22 : decode cX0_areKeptBy 22 = .ok (.iload_n 2, 1) := by decide +kernel
theorem dX0_areKeptBy_23 : decode cX0_areKeptBy 23 = .ok (.invokevirtual 45, 3) := by decide +kernel
theorem dX0_areKeptBy_26 : decode cX0_areKeptBy 26 = .ok (.invokevirtual 22, 3) := by decide +kernel
theorem dX0_areKeptBy_29 : decode cX0_areKeptBy 29 = .ok (.ifCond .ne 5, 3) := by decide +kernel
theorem dX0_areKeptBy_32 : decode cX0_areKeptBy 32 = .ok (.iconst 0, 1) := by decide +kernel
theorem dX0_areKeptBy_33 : decode cX0_areKeptBy 33 = .ok (.ireturn, 1) := by decide +kernel
theorem dX0_areKeptBy_34 : decode cX0_areKeptBy 34 = .ok (.iinc 2 1, 3) := by decide +kernel
theorem dX0_areKeptBy_37 : decode cX0_areKeptBy 37 = .ok (.goto (-35), 3) := by decide +kernel
theorem dX0_areKeptBy_40 : decode cX0_areKeptBy 40 = .ok (.iconst 1, 1) := by decide +kernel
theorem dX0_areKeptBy_41 : decode cX0_areKeptBy 41 = .ok (.ireturn, 1) := by decide +kernel
theorem dX0_meeting_0 : decode cX0_meeting 0 = .ok (.iconst 0, 1) := by decide +kernel
theorem dX0_meeting_1 : decode cX0_meeting 1 = .ok (.istore_n 3, 1) := by decide +kernel
theorem dX0_meeting_2 : decode cX0_meeting 2 = .ok (.iconst 0, 1) := by decide +kernel
theorem dX0_meeting_3 : decode cX0_meeting 3 = .ok (.istore 4, 2) := by decide +kernel
theorem dX0_meeting_5 : decode cX0_meeting 5 = .ok (.iload 4, 2) := by decide +kernel
theorem dX0_meeting_7 : decode cX0_meeting 7 = .ok (.aload_n 0, 1) := by decide +kernel
theorem dX0_meeting_8 : decode cX0_meeting 8 = .ok (.getfield 18, 3) := by decide +kernel
theorem dX0_meeting_11 : decode cX0_meeting 11 = .ok (.arraylength, 1) := by decide +kernel
theorem dX0_meeting_12 : decode cX0_meeting 12 = .ok (.if_icmp .ge 33, 3) := by decide +kernel
theorem dX0_meeting_15 : decode cX0_meeting 15 = .ok (.aload_n 0, 1) := by decide +kernel
theorem dX0_meeting_16 : decode cX0_meeting 16 = .ok (.getfield 18, 3) := by decide +kernel
theorem dX0_meeting_19 : decode cX0_meeting 19 = .ok (.iload 4, 2) := by decide +kernel
theorem dX0_meeting_21 : decode cX0_meeting 21 = .ok (.baload, 1) := by decide +kernel
theorem dX0_meeting_22 : decode cX0_meeting 22 = .ok (.ifCond .eq 17, 3) := by decide +kernel
theorem dX0_meeting_25 : decode cX0_meeting 25 = .ok (.iload 4, 2) := by decide +kernel
theorem dX0_meeting_27 : decode cX0_meeting 27 = .ok (.iload_n 1, 1) := by decide +kernel
theorem dX0_meeting_28 : decode cX0_meeting 28 = .ok (.iand, 1) := by decide +kernel
theorem dX0_meeting_29 : decode cX0_meeting 29 = .ok (.invokestatic 36, 3) := by decide +kernel
theorem dX0_meeting_32 : decode cX0_meeting 32 = .ok (.iload_n 2, 1) := by decide +kernel
theorem dX0_meeting_33 : decode cX0_meeting 33 = .ok (.if_icmp .ne 6, 3) := by decide +kernel
theorem dX0_meeting_36 : decode cX0_meeting 36 = .ok (.iinc 3 1, 3) := by decide +kernel
theorem dX0_meeting_39 : decode cX0_meeting 39 = .ok (.iinc 4 1, 3) := by decide +kernel
theorem dX0_meeting_42 : decode cX0_meeting 42 = .ok (.goto (-37), 3) := by decide +kernel
theorem dX0_meeting_45 : decode cX0_meeting 45 = .ok (.iload_n 3, 1) := by decide +kernel
theorem dX0_meeting_46 : decode cX0_meeting 46 = .ok (.ireturn, 1) := by decide +kernel
theorem dX0_around_0 : decode cX0_around 0 = .ok (.iconst 0, 1) := by decide +kernel
theorem dX0_around_1 : decode cX0_around 1 = .ok (.istore_n 2, 1) := by decide +kernel
theorem dX0_around_2 : decode cX0_around 2 = .ok (.iload_n 1, 1) := by decide +kernel
theorem dX0_around_3 : decode cX0_around 3 = .ok (.istore_n 3, 1) := by decide +kernel
theorem dX0_around_4 : decode cX0_around 4 = .ok (.iload_n 3, 1) := by decide +kernel
theorem dX0_around_5 : decode cX0_around 5 = .ok (.ifCond .lt 37, 3) := by decide +kernel
theorem dX0_around_8 : decode cX0_around 8 = .ok (.iload_n 3, 1) := by decide +kernel
theorem dX0_around_9 : decode cX0_around 9 = .ok (.aload_n 0, 1) := by decide +kernel
theorem dX0_around_10 : decode cX0_around 10 = .ok (.getfield 18, 3) := by decide +kernel
theorem dX0_around_13 : decode cX0_around 13 = .ok (.arraylength, 1) := by decide +kernel
theorem dX0_around_14 : decode cX0_around 14 = .ok (.if_icmp .ge 28, 3) := by decide +kernel
theorem dX0_around_17 : decode cX0_around 17 = .ok (.aload_n 0, 1) := by decide +kernel
theorem dX0_around_18 : decode cX0_around 18 = .ok (.getfield 18, 3) := by decide +kernel
theorem dX0_around_21 : decode cX0_around 21 = .ok (.iload_n 3, 1) := by decide +kernel
theorem dX0_around_22 : decode cX0_around 22 = .ok (.baload, 1) := by decide +kernel
theorem dX0_around_23 : decode cX0_around 23 = .ok (.ifCond .eq 13, 3) := by decide +kernel
theorem dX0_around_26 : decode cX0_around 26 = .ok (.iload_n 3, 1) := by decide +kernel
theorem dX0_around_27 : decode cX0_around 27 = .ok (.iload_n 1, 1) := by decide +kernel
theorem dX0_around_28 : decode cX0_around 28 = .ok (.iand, 1) := by decide +kernel
theorem dX0_around_29 : decode cX0_around 29 = .ok (.iload_n 1, 1) := by decide +kernel
theorem dX0_around_30 : decode cX0_around 30 = .ok (.if_icmp .ne 6, 3) := by decide +kernel
theorem dX0_around_33 : decode cX0_around 33 = .ok (.iinc 2 1, 3) := by decide +kernel
theorem dX0_around_36 : decode cX0_around 36 = .ok (.iinc 3 1, 3) := by decide +kernel
theorem dX0_around_39 : decode cX0_around 39 = .ok (.goto (-35), 3) := by decide +kernel
theorem dX0_around_42 : decode cX0_around 42 = .ok (.iload_n 2, 1) := by decide +kernel
theorem dX0_around_43 : decode cX0_around 43 = .ok (.ireturn, 1) := by decide +kernel
theorem dX0_shareOn_0 : decode cX0_shareOn 0 = .ok (.bipush (-5), 2) := by decide +kernel
theorem dX0_shareOn_2 : decode cX0_shareOn 2 = .ok (.istore_n 3, 1) := by decide +kernel
theorem dX0_shareOn_3 : decode cX0_shareOn 3 = .ok (.iconst 0, 1) := by decide +kernel
theorem dX0_shareOn_4 : decode cX0_shareOn 4 = .ok (.istore 4, 2) := by decide +kernel
theorem dX0_shareOn_6 : decode cX0_shareOn 6 = .ok (.iload 4, 2) := by decide +kernel
theorem dX0_shareOn_8 : decode cX0_shareOn 8 = .ok (.sipush 256, 3) := by decide +kernel
theorem dX0_shareOn_11 : decode cX0_shareOn 11 = .ok (.if_icmp .ge 53, 3) := by decide +kernel
theorem dX0_shareOn_14 : decode cX0_shareOn 14 = .ok (.iload 4, 2) := by decide +kernel
theorem dX0_shareOn_16 : decode cX0_shareOn 16 = .ok (.iload_n 1, 1) := by decide +kernel
theorem dX0_shareOn_17 : decode cX0_shareOn 17 = .ok (.iconst (-1), 1) := by decide +kernel
theorem dX0_shareOn_18 : decode cX0_shareOn 18 = .ok (.ixor, 1) := by decide +kernel
theorem dX0_shareOn_19 : decode cX0_shareOn 19 = .ok (.iand, 1) := by decide +kernel
theorem dX0_shareOn_20 : decode cX0_shareOn 20 = .ok (.ifCond .ne 38, 3) := by decide +kernel
theorem dX0_shareOn_23 : decode cX0_shareOn 23 = .ok (.iload 4, 2) := by decide +kernel
theorem dX0_shareOn_25 : decode cX0_shareOn 25 = .ok (.invokestatic 36, 3) := by decide +kernel
theorem dX0_shareOn_28 : decode cX0_shareOn 28 = .ok (.iload_n 2, 1) := by decide +kernel
theorem dX0_shareOn_29 : decode cX0_shareOn 29 = .ok (.if_icmp .ne 29, 3) := by decide +kernel
theorem dX0_shareOn_32 : decode cX0_shareOn 32 = .ok (.aload_n 0, 1) := by decide +kernel
theorem dX0_shareOn_33 : decode cX0_shareOn 33 = .ok (.iload 4, 2) := by decide +kernel
theorem dX0_shareOn_35 : decode cX0_shareOn 35 = .ok (.invokevirtual 50, 3) := by decide +kernel
theorem dX0_shareOn_38 : decode cX0_shareOn 38 = .ok (.istore 5, 2) := by decide +kernel
theorem dX0_shareOn_40 : decode cX0_shareOn 40 = .ok (.iload_n 3, 1) := by decide +kernel
theorem dX0_shareOn_41 : decode cX0_shareOn 41 = .ok (.bipush (-5), 2) := by decide +kernel
theorem dX0_shareOn_43 : decode cX0_shareOn 43 = .ok (.if_icmp .eq 12, 3) := by decide +kernel
theorem dX0_shareOn_46 : decode cX0_shareOn 46 = .ok (.iload_n 3, 1) := by decide +kernel
theorem dX0_shareOn_47 : decode cX0_shareOn 47 = .ok (.iload 5, 2) := by decide +kernel
theorem dX0_shareOn_49 : decode cX0_shareOn 49 = .ok (.if_icmp .eq 6, 3) := by decide +kernel
theorem dX0_shareOn_52 : decode cX0_shareOn 52 = .ok (.bipush (-5), 2) := by decide +kernel
theorem dX0_shareOn_54 : decode cX0_shareOn 54 = .ok (.ireturn, 1) := by decide +kernel
theorem dX0_shareOn_55 : decode cX0_shareOn 55 = .ok (.iload 5, 2) := by decide +kernel
theorem dX0_shareOn_57 : decode cX0_shareOn 57 = .ok (.istore_n 3, 1) := by decide +kernel
theorem dX0_shareOn_58 : decode cX0_shareOn 58 = .ok (.iinc 4 1, 3) := by decide +kernel
theorem dX0_shareOn_61 : decode cX0_shareOn 61 = .ok (.goto (-55), 3) := by decide +kernel
theorem dX0_shareOn_64 : decode cX0_shareOn 64 = .ok (.iload_n 3, 1) := by decide +kernel
theorem dX0_shareOn_65 : decode cX0_shareOn 65 = .ok (.ireturn, 1) := by decide +kernel
theorem dX0_strengthOn_0 : decode cX0_strengthOn 0 = .ok (.iconst 1, 1) := by decide +kernel
theorem dX0_strengthOn_1 : decode cX0_strengthOn 1 = .ok (.istore_n 2, 1) := by decide +kernel
theorem dX0_strengthOn_2 : decode cX0_strengthOn 2 = .ok (.iload_n 2, 1) := by decide +kernel
theorem dX0_strengthOn_3 : decode cX0_strengthOn 3 = .ok (.aload_n 0, 1) := by decide +kernel
theorem dX0_strengthOn_4 : decode cX0_strengthOn 4 = .ok (.getfield 9, 3) := by decide +kernel
theorem dX0_strengthOn_7 : decode cX0_strengthOn 7 = .ok (.if_icmp .gt 24, 3) := by decide +kernel
theorem dX0_strengthOn_10 : decode cX0_strengthOn 10 = .ok (.aload_n 0, 1) := by decide +kernel
theorem dX0_strengthOn_11 : decode cX0_strengthOn 11 = .ok (.iload_n 1, 1) := by decide +kernel
theorem dX0_strengthOn_12 : decode cX0_strengthOn 12 = .ok (.iload_n 2, 1) := by decide +kernel
theorem dX0_strengthOn_13 : decode cX0_strengthOn 13 = .ok (.invokevirtual 53, 3) := by decide +kernel
theorem dX0_strengthOn_16 : decode cX0_strengthOn 16 = .ok (.bipush (-5), 2) := by decide +kernel
theorem dX0_strengthOn_18 : decode cX0_strengthOn 18 = .ok (.if_icmp .ne 7, 3) := by decide +kernel
theorem dX0_strengthOn_21 : decode cX0_strengthOn 21 = .ok (.iload_n 2, 1) := by decide +kernel
theorem dX0_strengthOn_22 : decode cX0_strengthOn 22 = .ok (.iconst 1, 1) := by decide +kernel
theorem dX0_strengthOn_23 : decode cX0_strengthOn 23 = .ok (.isub, 1) := by decide +kernel
theorem dX0_strengthOn_24 : decode cX0_strengthOn 24 = .ok (.ireturn, 1) := by decide +kernel
theorem dX0_strengthOn_25 : decode cX0_strengthOn 25 = .ok (.iinc 2 1, 3) := by decide +kernel
theorem dX0_strengthOn_28 : decode cX0_strengthOn 28 = .ok (.goto (-26), 3) := by decide +kernel
theorem dX0_strengthOn_31 : decode cX0_strengthOn 31 = .ok (.aload_n 0, 1) := by decide +kernel
theorem dX0_strengthOn_32 : decode cX0_strengthOn 32 = .ok (.getfield 9, 3) := by decide +kernel
theorem dX0_strengthOn_35 : decode cX0_strengthOn 35 = .ok (.ireturn, 1) := by decide +kernel
theorem dX0_turn_0 : decode cX0_turn 0 = .ok (.iconst 1, 1) := by decide +kernel
theorem dX0_turn_1 : decode cX0_turn 1 = .ok (.iload_n 1, 1) := by decide +kernel
theorem dX0_turn_2 : decode cX0_turn 2 = .ok (.ishl, 1) := by decide +kernel
theorem dX0_turn_3 : decode cX0_turn 3 = .ok (.iconst 1, 1) := by decide +kernel
theorem dX0_turn_4 : decode cX0_turn 4 = .ok (.isub, 1) := by decide +kernel
theorem dX0_turn_5 : decode cX0_turn 5 = .ok (.istore_n 2, 1) := by decide +kernel
theorem dX0_turn_6 : decode cX0_turn 6 = .ok (.aload_n 0, 1) := by decide +kernel
theorem dX0_turn_7 : decode cX0_turn 7 = .ok (.iload_n 1, 1) := by decide +kernel
theorem dX0_turn_8 : decode cX0_turn 8 = .ok (.aload_n 0, 1) := by decide +kernel
theorem dX0_turn_9 : decode cX0_turn 9 = .ok (.getfield 9, 3) := by decide +kernel
theorem dX0_turn_12 : decode cX0_turn 12 = .ok (.isub, 1) := by decide +kernel
theorem dX0_turn_13 : decode cX0_turn 13 = .ok (.putfield 9, 3) := by decide +kernel
theorem dX0_turn_16 : decode cX0_turn 16 = .ok (.iconst 0, 1) := by decide +kernel
theorem dX0_turn_17 : decode cX0_turn 17 = .ok (.istore_n 3, 1) := by decide +kernel
theorem dX0_turn_18 : decode cX0_turn 18 = .ok (.iload_n 3, 1) := by decide +kernel
theorem dX0_turn_19 : decode cX0_turn 19 = .ok (.aload_n 0, 1) := by decide +kernel
theorem dX0_turn_20 : decode cX0_turn 20 = .ok (.getfield 18, 3) := by decide +kernel
theorem dX0_turn_23 : decode cX0_turn 23 = .ok (.arraylength, 1) := by decide +kernel
theorem dX0_turn_24 : decode cX0_turn 24 = .ok (.if_icmp .ge 60, 3) := by decide +kernel
theorem dX0_turn_27 : decode cX0_turn 27 = .ok (.iload_n 2, 1) := by decide +kernel
theorem dX0_turn_28 : decode cX0_turn 28 = .ok (.iload_n 3, 1) := by decide +kernel
theorem dX0_turn_29 : decode cX0_turn 29 = .ok (.isub, 1) := by decide +kernel
theorem dX0_turn_30 : decode cX0_turn 30 = .ok (.istore 4, 2) := by decide +kernel
theorem dX0_turn_32 : decode cX0_turn 32 = .ok (.iload 4, 2) := by decide +kernel
theorem dX0_turn_34 : decode cX0_turn 34 = .ok (.iload_n 3, 1) := by decide +kernel
theorem dX0_turn_35 : decode cX0_turn 35 = .ok (.if_icmp .le 43, 3) := by decide +kernel
theorem dX0_turn_38 : decode cX0_turn 38 = .ok (.iload 4, 2) := by decide +kernel
theorem dX0_turn_40 : decode cX0_turn 40 = .ok (.aload_n 0, 1) := by decide +kernel
theorem dX0_turn_41 : decode cX0_turn 41 = .ok (.getfield 18, 3) := by decide +kernel
theorem dX0_turn_44 : decode cX0_turn 44 = .ok (.arraylength, 1) := by decide +kernel
theorem dX0_turn_45 : decode cX0_turn 45 = .ok (.if_icmp .ge 33, 3) := by decide +kernel
theorem dX0_turn_48 : decode cX0_turn 48 = .ok (.aload_n 0, 1) := by decide +kernel
theorem dX0_turn_49 : decode cX0_turn 49 = .ok (.getfield 18, 3) := by decide +kernel
theorem dX0_turn_52 : decode cX0_turn 52 = .ok (.iload_n 3, 1) := by decide +kernel
theorem dX0_turn_53 : decode cX0_turn 53 = .ok (.baload, 1) := by decide +kernel
theorem dX0_turn_54 : decode cX0_turn 54 = .ok (.istore 5, 2) := by decide +kernel
theorem dX0_turn_56 : decode cX0_turn 56 = .ok (.aload_n 0, 1) := by decide +kernel
theorem dX0_turn_57 : decode cX0_turn 57 = .ok (.getfield 18, 3) := by decide +kernel
theorem dX0_turn_60 : decode cX0_turn 60 = .ok (.iload_n 3, 1) := by decide +kernel
theorem dX0_turn_61 : decode cX0_turn 61 = .ok (.aload_n 0, 1) := by decide +kernel
theorem dX0_turn_62 : decode cX0_turn 62 = .ok (.getfield 18, 3) := by decide +kernel
theorem dX0_turn_65 : decode cX0_turn 65 = .ok (.iload 4, 2) := by decide +kernel
theorem dX0_turn_67 : decode cX0_turn 67 = .ok (.baload, 1) := by decide +kernel
theorem dX0_turn_68 : decode cX0_turn 68 = .ok (.bastore, 1) := by decide +kernel
theorem dX0_turn_69 : decode cX0_turn 69 = .ok (.aload_n 0, 1) := by decide +kernel
theorem dX0_turn_70 : decode cX0_turn 70 = .ok (.getfield 18, 3) := by decide +kernel
theorem dX0_turn_73 : decode cX0_turn 73 = .ok (.iload 4, 2) := by decide +kernel
theorem dX0_turn_75 : decode cX0_turn 75 = .ok (.iload 5, 2) := by decide +kernel
theorem dX0_turn_77 : decode cX0_turn 77 = .ok (.bastore, 1) := by decide +kernel
theorem dX0_turn_78 : decode cX0_turn 78 = .ok (.iinc 3 1, 3) := by decide +kernel
theorem dX0_turn_81 : decode cX0_turn 81 = .ok (.goto (-63), 3) := by decide +kernel
theorem dX0_turn_84 : decode cX0_turn 84 = .ok (.return_, 1) := by decide +kernel
theorem dX1_init_0 : decode cX1_init 0 = .ok (.aload_n 0, 1) := by decide +kernel
theorem dX1_init_1 : decode cX1_init 1 = .ok (.invokespecial 3, 3) := by decide +kernel
theorem dX1_init_4 : decode cX1_init 4 = .ok (.aload_n 0, 1) := by decide +kernel
theorem dX1_init_5 : decode cX1_init 5 = .ok (.sipush 980, 3) := by decide +kernel
theorem dX1_init_8 : decode cX1_init 8 = .ok (.newarray .int, 2) := by decide +kernel
theorem dX1_init_10 : decode cX1_init 10 = .ok (.putfield 9, 3) := by decide +kernel
theorem dX1_init_13 : decode cX1_init 13 = .ok (.aload_n 0, 1) := by decide +kernel
theorem dX1_init_14 : decode cX1_init 14 = .ok (.bipush 70, 2) := by decide +kernel
theorem dX1_init_16 : decode cX1_init 16 = .ok (.newarray .int, 2) := by decide +kernel
theorem dX1_init_18 : decode cX1_init 18 = .ok (.putfield 15, 3) := by decide +kernel
theorem dX1_init_21 : decode cX1_init 21 = .ok (.aload_n 0, 1) := by decide +kernel
theorem dX1_init_22 : decode cX1_init 22 = .ok (.bipush 70, 2) := by decide +kernel
theorem dX1_init_24 : decode cX1_init 24 = .ok (.newarray .int, 2) := by decide +kernel
theorem dX1_init_26 : decode cX1_init 26 = .ok (.putfield 18, 3) := by decide +kernel
theorem dX1_init_29 : decode cX1_init 29 = .ok (.aload_n 0, 1) := by decide +kernel
theorem dX1_init_30 : decode cX1_init 30 = .ok (.bipush 70, 2) := by decide +kernel
theorem dX1_init_32 : decode cX1_init 32 = .ok (.newarray .int, 2) := by decide +kernel
theorem dX1_init_34 : decode cX1_init 34 = .ok (.putfield 21, 3) := by decide +kernel
theorem dX1_init_37 : decode cX1_init 37 = .ok (.aload_n 0, 1) := by decide +kernel
theorem dX1_init_38 : decode cX1_init 38 = .ok (.bipush 14, 2) := by decide +kernel
theorem dX1_init_40 : decode cX1_init 40 = .ok (.newarray .int, 2) := by decide +kernel
theorem dX1_init_42 : decode cX1_init 42 = .ok (.putfield 24, 3) := by decide +kernel
theorem dX1_init_45 : decode cX1_init 45 = .ok (.aload_n 0, 1) := by decide +kernel
theorem dX1_init_46 : decode cX1_init 46 = .ok (.bipush 24, 2) := by decide +kernel
theorem dX1_init_48 : decode cX1_init 48 = .ok (.newarray .int, 2) := by decide +kernel
theorem dX1_init_50 : decode cX1_init 50 = .ok (.putfield 27, 3) := by decide +kernel
theorem dX1_init_53 : decode cX1_init 53 = .ok (.return_, 1) := by decide +kernel
theorem dX1_load_0 : decode cX1_load 0 = .ok (.aload_n 0, 1) := by decide +kernel
theorem dX1_load_1 : decode cX1_load 1 = .ok (.aload_n 1, 1) := by decide +kernel
theorem dX1_load_2 : decode cX1_load 2 = .ok (.iload_n 2, 1) := by decide +kernel
theorem dX1_load_3 : decode cX1_load 3 = .ok (.invokevirtual 30, 3) := by decide +kernel
theorem dX1_load_6 : decode cX1_load 6 = .ok (.bipush 70, 2) := by decide +kernel
theorem dX1_load_8 : decode cX1_load 8 = .ok (.invokestatic 36, 3) := by decide +kernel
theorem dX1_load_11 : decode cX1_load 11 = .ok (.putfield 42, 3) := by decide +kernel
theorem dX1_load_14 : decode cX1_load 14 = .ok (.aload_n 0, 1) := by decide +kernel
theorem dX1_load_15 : decode cX1_load 15 = .ok (.aload_n 1, 1) := by decide +kernel
theorem dX1_load_16 : decode cX1_load 16 = .ok (.iload_n 3, 1) := by decide +kernel
theorem dX1_load_17 : decode cX1_load 17 = .ok (.invokevirtual 30, 3) := by decide +kernel
theorem dX1_load_20 : decode cX1_load 20 = .ok (.bipush 14, 2) := by decide +kernel
theorem dX1_load_22 : decode cX1_load 22 = .ok (.invokestatic 36, 3) := by decide +kernel
theorem dX1_load_25 : decode cX1_load 25 = .ok (.putfield 46, 3) := by decide +kernel
theorem dX1_load_28 : decode cX1_load 28 = .ok (.aload_n 0, 1) := by decide +kernel
theorem dX1_load_29 : decode cX1_load 29 = .ok (.getfield 9, 3) := by decide +kernel
theorem dX1_load_32 : decode cX1_load 32 = .ok (.iconst 0, 1) := by decide +kernel
theorem dX1_load_33 : decode cX1_load 33 = .ok (.invokestatic 49, 3) := by decide +kernel
theorem dX1_load_36 : decode cX1_load 36 = .ok (.aload_n 0, 1) := by decide +kernel
theorem dX1_load_37 : decode cX1_load 37 = .ok (.getfield 15, 3) := by decide +kernel
theorem dX1_load_40 : decode cX1_load 40 = .ok (.iconst 0, 1) := by decide +kernel
theorem dX1_load_41 : decode cX1_load 41 = .ok (.invokestatic 49, 3) := by decide +kernel
theorem dX1_load_44 : decode cX1_load 44 = .ok (.iconst 0, 1) := by decide +kernel
theorem dX1_load_45 : decode cX1_load 45 = .ok (.istore 4, 2) := by decide +kernel
theorem dX1_load_47 : decode cX1_load 47 = .ok (.iload 4, 2) := by decide +kernel
theorem dX1_load_49 : decode cX1_load 49 = .ok (.aload_n 0, 1) := by decide +kernel
theorem dX1_load_50 : decode cX1_load 50 = .ok (.getfield 46, 3) := by decide +kernel
theorem dX1_load_53 : decode cX1_load 53 = .ok (.if_icmp .ge 33, 3) := by decide +kernel
theorem dX1_load_56 : decode cX1_load 56 = .ok (.iload 4, 2) := by decide +kernel
theorem dX1_load_58 : decode cX1_load 58 = .ok (.aload_n 0, 1) := by decide +kernel
theorem dX1_load_59 : decode cX1_load 59 = .ok (.getfield 24, 3) := by decide +kernel
theorem dX1_load_62 : decode cX1_load 62 = .ok (.arraylength, 1) := by decide +kernel
theorem dX1_load_63 : decode cX1_load 63 = .ok (.if_icmp .ge 23, 3) := by decide +kernel
theorem dX1_load_66 : decode cX1_load 66 = .ok (.aload_n 0, 1) := by decide +kernel
theorem dX1_load_67 : decode cX1_load 67 = .ok (.getfield 24, 3) := by decide +kernel
theorem dX1_load_70 : decode cX1_load 70 = .ok (.iload 4, 2) := by decide +kernel
theorem dX1_load_72 : decode cX1_load 72 = .ok (.aload_n 1, 1) := by decide +kernel
theorem dX1_load_73 : decode cX1_load 73 = .ok (.iload_n 3, 1) := by decide +kernel
theorem dX1_load_74 : decode cX1_load 74 = .ok (.iload 4, 2) := by decide +kernel
theorem dX1_load_76 : decode cX1_load 76 = .ok (.invokevirtual 55, 3) := by decide +kernel
theorem dX1_load_79 : decode cX1_load 79 = .ok (.iastore, 1) := by decide +kernel
theorem dX1_load_80 : decode cX1_load 80 = .ok (.iinc 4 1, 3) := by decide +kernel
theorem dX1_load_83 : decode cX1_load 83 = .ok (.goto (-36), 3) := by decide +kernel
theorem dX1_load_86 : decode cX1_load 86 = .ok (.iconst 0, 1) := by decide +kernel
theorem dX1_load_87 : decode cX1_load 87 = .ok (.istore 4, 2) := by decide +kernel
theorem dX1_load_89 : decode cX1_load 89 = .ok (.iload 4, 2) := by decide +kernel
theorem dX1_load_91 : decode cX1_load 91 = .ok (.aload_n 0, 1) := by decide +kernel
theorem dX1_load_92 : decode cX1_load 92 = .ok (.getfield 42, 3) := by decide +kernel
theorem dX1_load_95 : decode cX1_load 95 = .ok (.if_icmp .ge 25, 3) := by decide +kernel
theorem dX1_load_98 : decode cX1_load 98 = .ok (.aload_n 0, 1) := by decide +kernel
theorem dX1_load_99 : decode cX1_load 99 = .ok (.aload_n 1, 1) := by decide +kernel
theorem dX1_load_100 : decode cX1_load 100 = .ok (.iload_n 3, 1) := by decide +kernel
theorem dX1_load_101 : decode cX1_load 101 = .ok (.iload 4, 2) := by decide +kernel
theorem dX1_load_103 : decode cX1_load 103 = .ok (.aload_n 1, 1) := by decide +kernel
theorem dX1_load_104 : decode cX1_load 104 = .ok (.iload_n 2, 1) := by decide +kernel
theorem dX1_load_105 : decode cX1_load 105 = .ok (.iload 4, 2) := by decide +kernel
theorem dX1_load_107 : decode cX1_load 107 = .ok (.iconst 0, 1) := by decide +kernel
theorem dX1_load_108 : decode cX1_load 108 = .ok (.invokevirtual 58, 3) := by decide +kernel
theorem dX1_load_111 : decode cX1_load 111 = .ok (.invokevirtual 62, 3) := by decide +kernel
theorem dX1_load_114 : decode cX1_load 114 = .ok (.iinc 4 1, 3) := by decide +kernel
theorem dX1_load_117 : decode cX1_load 117 = .ok (.goto (-28), 3) := by decide +kernel
theorem dX1_load_120 : decode cX1_load 120 = .ok (.return_, 1) := by decide +kernel
theorem dX1_loadRow_0 : decode cX1_loadRow 0 = .ok (.iconst 0, 1) := by decide +kernel
theorem dX1_loadRow_1 : decode cX1_loadRow 1 = .ok (.istore 5, 2) := by decide +kernel
theorem dX1_loadRow_3 : decode cX1_loadRow 3 = .ok (.iload 5, 2) := by decide +kernel
theorem dX1_loadRow_5 : decode cX1_loadRow 5 = .ok (.sipush 256, 3) := by decide +kernel
theorem dX1_loadRow_8 : decode cX1_loadRow 8 = .ok (.if_icmp .ge 39, 3) := by decide +kernel
theorem dX1_loadRow_11 : decode cX1_loadRow 11 = .ok (.iload 5, 2) := by decide +kernel
theorem dX1_loadRow_13 : decode cX1_loadRow 13 = .ok (.iload 4, 2) := by decide +kernel
theorem dX1_loadRow_15 : decode cX1_loadRow 15 = .ok (.iand, 1) := by decide +kernel
theorem dX1_loadRow_16 : decode cX1_loadRow 16 = .ok (.iload 4, 2) := by decide +kernel
theorem dX1_loadRow_18 : decode cX1_loadRow 18 = .ok (.if_icmp .ne 23, 3) := by decide +kernel
theorem dX1_loadRow_21 : decode cX1_loadRow 21 = .ok (.iload 5, 2) := by decide +kernel
theorem dX1_loadRow_23 : decode cX1_loadRow 23 = .ok (.invokestatic 66, 3) := by decide +kernel
theorem dX1_loadRow_26 : decode cX1_loadRow 26 = .ok (.iload_n 2, 1) := by decide +kernel
theorem dX1_loadRow_27 : decode cX1_loadRow 27 = .ok (.if_icmp .ne 14, 3) := by decide +kernel
theorem dX1_loadRow_30 : decode cX1_loadRow 30 = .ok (.aload_n 0, 1) := by decide +kernel
theorem dX1_loadRow_31 : decode cX1_loadRow 31 = .ok (.iload_n 3, 1) := by decide +kernel
theorem dX1_loadRow_32 : decode cX1_loadRow 32 = .ok (.aload_n 1, 1) := by decide +kernel
theorem dX1_loadRow_33 : decode cX1_loadRow 33 = .ok (.iload 5, 2) := by decide +kernel
theorem dX1_loadRow_35 : decode cX1_loadRow 35 = .ok (.invokevirtual 71, 3) := by decide +kernel
theorem dX1_loadRow_38 : decode cX1_loadRow 38 = .ok (.invokevirtual 74, 3) := by decide +kernel
theorem dX1_loadRow_41 : decode cX1_loadRow 41 = .ok (.iinc 5 1, 3) := by decide +kernel
theorem dX1_loadRow_44 : decode cX1_loadRow 44 = .ok (.goto (-41), 3) := by decide +kernel
theorem dX1_loadRow_47 : decode cX1_loadRow 47 = .ok (.return_, 1) := by decide +kernel
theorem dX1_countSet_0 : decode cX1_countSet 0 = .ok (.iload_n 1, 1) := by decide +kernel
theorem dX1_countSet_1 : decode cX1_countSet 1 = .ok (.ifCond .lt 24, 3) := by decide +kernel
theorem dX1_countSet_4 : decode cX1_countSet 4 = .ok (.iload_n 1, 1) := by decide +kernel
theorem dX1_countSet_5 : decode cX1_countSet 5 = .ok (.aload_n 0, 1) := by decide +kernel
theorem dX1_countSet_6 : decode cX1_countSet 6 = .ok (.getfield 15, 3) := by decide +kernel
theorem dX1_countSet_9 : decode cX1_countSet 9 = .ok (.arraylength, 1) := by decide +kernel
theorem dX1_countSet_10 : decode cX1_countSet 10 = .ok (.if_icmp .ge 15, 3) := by decide +kernel
theorem dX1_countSet_13 : decode cX1_countSet 13 = .ok (.iload_n 2, 1) := by decide +kernel
theorem dX1_countSet_14 : decode cX1_countSet 14 = .ok (.ifCond .lt 11, 3) := by decide +kernel
theorem dX1_countSet_17 : decode cX1_countSet 17 = .ok (.iload_n 2, 1) := by decide +kernel
theorem dX1_countSet_18 : decode cX1_countSet 18 = .ok (.aload_n 0, 1) := by decide +kernel
theorem dX1_countSet_19 : decode cX1_countSet 19 = .ok (.getfield 46, 3) := by decide +kernel
theorem dX1_countSet_22 : decode cX1_countSet 22 = .ok (.if_icmp .lt 4, 3) := by decide +kernel
theorem dX1_countSet_25 : decode cX1_countSet 25 = .ok (.return_, 1) := by decide +kernel
theorem dX1_countSet_26 : decode cX1_countSet 26 = .ok (.iload_n 1, 1) := by decide +kernel
theorem dX1_countSet_27 : decode cX1_countSet 27 = .ok (.bipush 14, 2) := by decide +kernel
theorem dX1_countSet_29 : decode cX1_countSet 29 = .ok (.imul, 1) := by decide +kernel
theorem dX1_countSet_30 : decode cX1_countSet 30 = .ok (.iload_n 2, 1) := by decide +kernel
theorem dX1_countSet_31 : decode cX1_countSet 31 = .ok (.iadd, 1) := by decide +kernel
theorem dX1_countSet_32 : decode cX1_countSet 32 = .ok (.istore_n 3, 1) := by decide +kernel
theorem dX1_countSet_33 : decode cX1_countSet 33 = .ok (.iload_n 3, 1) := by decide +kernel
theorem dX1_countSet_34 : decode cX1_countSet 34 = .ok (.aload_n 0, 1) := by decide +kernel
theorem dX1_countSet_35 : decode cX1_countSet 35 = .ok (.getfield 9, 3) := by decide +kernel
theorem dX1_countSet_38 : decode cX1_countSet 38 = .ok (.arraylength, 1) := by decide +kernel
theorem dX1_countSet_39 : decode cX1_countSet 39 = .ok (.if_icmp .ge 13, 3) := by decide +kernel
theorem dX1_countSet_42 : decode cX1_countSet 42 = .ok (.aload_n 0, 1) := by decide +kernel
theorem dX1_countSet_43 : decode cX1_countSet 43 = .ok (.getfield 9, 3) := by decide +kernel
theorem dX1_countSet_46 : decode cX1_countSet 46 = .ok (.iload_n 3, 1) := by decide +kernel
theorem dX1_countSet_47 : decode cX1_countSet 47 = .ok (.dup2, 1) := by decide +kernel
theorem dX1_countSet_48 : decode cX1_countSet 48 = .ok (.iaload, 1) := by decide +kernel
theorem dX1_countSet_49 : decode cX1_countSet 49 = .ok (.iconst 1, 1) := by decide +kernel
theorem dX1_countSet_50 : decode cX1_countSet 50 = .ok (.iadd, 1) := by decide +kernel
theorem dX1_countSet_51 : decode cX1_countSet 51 = .ok (.iastore, 1) := by decide +kernel
theorem dX1_countSet_52 : decode cX1_countSet 52 = .ok (.aload_n 0, 1) := by decide +kernel
theorem dX1_countSet_53 : decode cX1_countSet 53 = .ok (.getfield 15, 3) := by decide +kernel
theorem dX1_countSet_56 : decode cX1_countSet 56 = .ok (.iload_n 1, 1) := by decide +kernel
theorem dX1_countSet_57 : decode cX1_countSet 57 = .ok (.dup2, 1) := by decide +kernel
theorem dX1_countSet_58 : decode cX1_countSet 58 = .ok (.iaload, 1) := by decide +kernel
theorem dX1_countSet_59 : decode cX1_countSet 59 = .ok (.iconst 1, 1) := by decide +kernel
theorem dX1_countSet_60 : decode cX1_countSet 60 = .ok (.iload_n 2, 1) := by decide +kernel
theorem dX1_countSet_61 : decode cX1_countSet 61 = .ok (.ishl, 1) := by decide +kernel
theorem dX1_countSet_62 : decode cX1_countSet 62 = .ok (.ior, 1) := by decide +kernel
theorem dX1_countSet_63 : decode cX1_countSet 63 = .ok (.iastore, 1) := by decide +kernel
theorem dX1_countSet_64 : decode cX1_countSet 64 = .ok (.return_, 1) := by decide +kernel
theorem dX1_numberAt_0 : decode cX1_numberAt 0 = .ok (.iload_n 1, 1) := by decide +kernel
theorem dX1_numberAt_1 : decode cX1_numberAt 1 = .ok (.bipush 14, 2) := by decide +kernel
theorem dX1_numberAt_3 : decode cX1_numberAt 3 = .ok (.imul, 1) := by decide +kernel
theorem dX1_numberAt_4 : decode cX1_numberAt 4 = .ok (.iload_n 2, 1) := by decide +kernel
theorem dX1_numberAt_5 : decode cX1_numberAt 5 = .ok (.iadd, 1) := by decide +kernel
theorem dX1_numberAt_6 : decode cX1_numberAt 6 = .ok (.istore_n 3, 1) := by decide +kernel
theorem dX1_numberAt_7 : decode cX1_numberAt 7 = .ok (.iload_n 3, 1) := by decide +kernel
theorem dX1_numberAt_8 : decode cX1_numberAt 8 = .ok (.ifCond .lt 21, 3) := by decide +kernel
theorem dX1_numberAt_11 : decode cX1_numberAt 11 = .ok (.iload_n 3, 1) := by decide +kernel
theorem dX1_numberAt_12 : decode cX1_numberAt 12 = .ok (.aload_n 0, 1) := by decide +kernel
theorem dX1_numberAt_13 : decode cX1_numberAt 13 = .ok (.getfield 9, 3) := by decide +kernel
theorem dX1_numberAt_16 : decode cX1_numberAt 16 = .ok (.arraylength, 1) := by decide +kernel
theorem dX1_numberAt_17 : decode cX1_numberAt 17 = .ok (.if_icmp .ge 12, 3) := by decide +kernel
theorem dX1_numberAt_20 : decode cX1_numberAt 20 = .ok (.aload_n 0, 1) := by decide +kernel
theorem dX1_numberAt_21 : decode cX1_numberAt 21 = .ok (.getfield 9, 3) := by decide +kernel
theorem dX1_numberAt_24 : decode cX1_numberAt 24 = .ok (.iload_n 3, 1) := by decide +kernel
theorem dX1_numberAt_25 : decode cX1_numberAt 25 = .ok (.iaload, 1) := by decide +kernel
theorem dX1_numberAt_26 : decode cX1_numberAt 26 = .ok (.goto 4, 3) := by decide +kernel
theorem dX1_numberAt_29 : decode cX1_numberAt 29 = .ok (.iconst 0, 1) := by decide +kernel
theorem dX1_numberAt_30 : decode cX1_numberAt 30 = .ok (.ireturn, 1) := by decide +kernel
theorem dX1_solve_0 : decode cX1_solve 0 = .ok (.aload_n 0, 1) := by decide +kernel
theorem dX1_solve_1 : decode cX1_solve 1 = .ok (.iload_n 2, 1) := by decide +kernel
theorem dX1_solve_2 : decode cX1_solve 2 = .ok (.putfield 78, 3) := by decide +kernel
theorem dX1_solve_5 : decode cX1_solve 5 = .ok (.aload_n 0, 1) := by decide +kernel
theorem dX1_solve_6 : decode cX1_solve 6 = .ok (.iconst 0, 1) := by decide +kernel
theorem dX1_solve_7 : decode cX1_solve 7 = .ok (.putfield 81, 3) := by decide +kernel
theorem dX1_solve_10 : decode cX1_solve 10 = .ok (.aload_n 0, 1) := by decide +kernel
theorem dX1_solve_11 : decode cX1_solve 11 = .ok (.bipush (-5), 2) := by decide +kernel
theorem dX1_solve_13 : decode cX1_solve 13 = .ok (.putfield 84, 3) := by decide +kernel
theorem dX1_solve_16 : decode cX1_solve 16 = .ok (.iconst 0, 1) := by decide +kernel
theorem dX1_solve_17 : decode cX1_solve 17 = .ok (.istore_n 3, 1) := by decide +kernel
theorem dX1_solve_18 : decode cX1_solve 18 = .ok (.iload_n 3, 1) := by decide +kernel
theorem dX1_solve_19 : decode cX1_solve 19 = .ok (.aload_n 0, 1) := by decide +kernel
theorem dX1_solve_20 : decode cX1_solve 20 = .ok (.getfield 42, 3) := by decide +kernel
theorem dX1_solve_23 : decode cX1_solve 23 = .ok (.if_icmp .ge 75, 3) := by decide +kernel
theorem dX1_solve_26 : decode cX1_solve 26 = .ok (.iload_n 3, 1) := by decide +kernel
theorem dX1_solve_27 : decode cX1_solve 27 = .ok (.aload_n 0, 1) := by decide +kernel
theorem dX1_solve_28 : decode cX1_solve 28 = .ok (.getfield 18, 3) := by decide +kernel
theorem dX1_solve_31 : decode cX1_solve 31 = .ok (.arraylength, 1) := by decide +kernel
theorem dX1_solve_32 : decode cX1_solve 32 = .ok (.if_icmp .ge 66, 3) := by decide +kernel
theorem dX1_solve_35 : decode cX1_solve 35 = .ok (.iload_n 3, 1) := by decide +kernel
theorem dX1_solve_36 : decode cX1_solve 36 = .ok (.aload_n 0, 1) := by decide +kernel
theorem dX1_solve_37 : decode cX1_solve 37 = .ok (.getfield 21, 3) := by decide +kernel
theorem dX1_solve_40 : decode cX1_solve 40 = .ok (.arraylength, 1) := by decide +kernel
theorem dX1_solve_41 : decode cX1_solve 41 = .ok (.if_icmp .ge 57, 3) := by decide +kernel
theorem dX1_solve_44 : decode cX1_solve 44 = .ok (.aload_n 0, 1) := by decide +kernel
theorem dX1_solve_45 : decode cX1_solve 45 = .ok (.getfield 18, 3) := by decide +kernel
theorem dX1_solve_48 : decode cX1_solve 48 = .ok (.iload_n 3, 1) := by decide +kernel
theorem dX1_solve_49 : decode cX1_solve 49 = .ok (.iload_n 1, 1) := by decide +kernel
theorem dX1_solve_50 : decode cX1_solve 50 = .ok (.iastore, 1) := by decide +kernel
theorem dX1_solve_51 : decode cX1_solve 51 = .ok (.aload_n 0, 1) := by decide +kernel
theorem dX1_solve_52 : decode cX1_solve 52 = .ok (.getfield 21, 3) := by decide +kernel
theorem dX1_solve_55 : decode cX1_solve 55 = .ok (.iload_n 3, 1) := by decide +kernel
theorem dX1_solve_56 : decode cX1_solve 56 = .ok (.iconst 0, 1) := by decide +kernel
theorem dX1_solve_57 : decode cX1_solve 57 = .ok (.iastore, 1) := by decide +kernel
theorem dX1_solve_58 : decode cX1_solve 58 = .ok (.iconst 0, 1) := by decide +kernel
theorem dX1_solve_59 : decode cX1_solve 59 = .ok (.istore 4, 2) := by decide +kernel
theorem dX1_solve_61 : decode cX1_solve 61 = .ok (.iload 4, 2) := by decide +kernel
theorem dX1_solve_63 : decode cX1_solve 63 = .ok (.aload_n 0, 1) := by decide +kernel
theorem dX1_solve_64 : decode cX1_solve 64 = .ok (.getfield 46, 3) := by decide +kernel
theorem dX1_solve_67 : decode cX1_solve 67 = .ok (.if_icmp .ge 25, 3) := by decide +kernel
theorem dX1_solve_70 : decode cX1_solve 70 = .ok (.aload_n 0, 1) := by decide +kernel
theorem dX1_solve_71 : decode cX1_solve 71 = .ok (.getfield 21, 3) := by decide +kernel
theorem dX1_solve_74 : decode cX1_solve 74 = .ok (.iload_n 3, 1) := by decide +kernel
theorem dX1_solve_75 : decode cX1_solve 75 = .ok (.dup2, 1) := by decide +kernel
theorem dX1_solve_76 : decode cX1_solve 76 = .ok (.iaload, 1) := by decide +kernel
theorem dX1_solve_77 : decode cX1_solve 77 = .ok (.aload_n 0, 1) := by decide +kernel
theorem dX1_solve_78 : decode cX1_solve 78 = .ok (.iload_n 3, 1) := by decide +kernel
theorem dX1_solve_79 : decode cX1_solve 79 = .ok (.iload 4, 2) := by decide +kernel
theorem dX1_solve_81 : decode cX1_solve 81 = .ok (.invokevirtual 87, 3) := by decide +kernel
theorem dX1_solve_84 : decode cX1_solve 84 = .ok (.iadd, 1) := by decide +kernel
theorem dX1_solve_85 : decode cX1_solve 85 = .ok (.iastore, 1) := by decide +kernel
theorem dX1_solve_86 : decode cX1_solve 86 = .ok (.iinc 4 1, 3) := by decide +kernel
theorem dX1_solve_89 : decode cX1_solve 89 = .ok (.goto (-28), 3) := by decide +kernel
theorem dX1_solve_92 : decode cX1_solve 92 = .ok (.iinc 3 1, 3) := by decide +kernel
theorem dX1_solve_95 : decode cX1_solve 95 = .ok (.goto (-77), 3) := by decide +kernel
theorem dX1_solve_98 : decode cX1_solve 98 = .ok (.aload_n 0, 1) := by decide +kernel
theorem dX1_solve_99 : decode cX1_solve 99 = .ok (.aload_n 0, 1) := by decide +kernel
theorem dX1_solve_100 : decode cX1_solve 100 = .ok (.getfield 46, 3) := by decide +kernel
theorem dX1_solve_103 : decode cX1_solve 103 = .ok (.iconst 1, 1) := by decide +kernel
theorem dX1_solve_104 : decode cX1_solve 104 = .ok (.isub, 1) := by decide +kernel
theorem dX1_solve_105 : decode cX1_solve 105 = .ok (.iconst 0, 1) := by decide +kernel
theorem dX1_solve_106 : decode cX1_solve 106 = .ok (.invokevirtual 90, 3) := by decide +kernel
theorem dX1_solve_109 : decode cX1_solve 109 = .ok (.return_, 1) := by decide +kernel
theorem dX1_searchSolutions_0 : decode cX1_searchSolutions 0 = .ok (.iload_n 1, 1) := by decide +kernel
theorem dX1_searchSolutions_1 : decode cX1_searchSolutions 1 = .ok (.bipush 14, 2) := by decide +kernel
theorem dX1_searchSolutions_3 : decode cX1_searchSolutions 3 = .ok (.if_icmp .lt 4, 3) := by decide +kernel
theorem dX1_searchSolutions_6 : decode cX1_searchSolutions 6 = .ok (.return_, 1) := by decide +kernel
theorem dX1_searchSolutions_7 : decode cX1_searchSolutions 7 = .ok (.iload_n 1, 1) := by decide +kernel
theorem dX1_searchSolutions_8 : decode cX1_searchSolutions 8 = .ok (.ifCond .ge 9, 3) := by decide +kernel
theorem dX1_searchSolutions_11 : decode cX1_searchSolutions 11 = .ok (.aload_n 0, 1) := by decide +kernel
theorem dX1_searchSolutions_12 : decode cX1_searchSolutions 12 = .ok (.iload_n 2, 1) := by decide +kernel
theorem dX1_searchSolutions_13 : decode cX1_searchSolutions 13 = .ok (.invokevirtual 93, 3) := by decide +kernel
theorem dX1_searchSolutions_16 : decode cX1_searchSolutions 16 = .ok (.return_, 1) := by decide +kernel
theorem dX1_searchSolutions_17 : decode cX1_searchSolutions 17 = .ok (.aload_n 0, 1) := by decide +kernel
theorem dX1_searchSolutions_18 : decode cX1_searchSolutions 18 = .ok (.iload_n 1, 1) := by decide +kernel
theorem dX1_searchSolutions_19 : decode cX1_searchSolutions 19 = .ok (.iconst 0, 1) := by decide +kernel
theorem dX1_searchSolutions_20 : decode cX1_searchSolutions 20 = .ok (.iconst (-1), 1) := by decide +kernel
theorem dX1_searchSolutions_21 : decode cX1_searchSolutions 21 = .ok (.invokevirtual 97, 3) := by decide +kernel
theorem dX1_searchSolutions_24 : decode cX1_searchSolutions 24 = .ok (.aload_n 0, 1) := by decide +kernel
theorem dX1_searchSolutions_25 : decode cX1_searchSolutions 25 = .ok (.invokevirtual 101, 3) := by decide +kernel
theorem dX1_searchSolutions_28 : decode cX1_searchSolutions 28 = .ok (.ifCond .eq 11, 3) := by decide +kernel
theorem dX1_searchSolutions_31 : decode cX1_searchSolutions 31 = .ok (.aload_n 0, 1) := by decide +kernel
theorem dX1_searchSolutions_32 : decode cX1_searchSolutions 32 = .ok (.iload_n 1, 1) := by decide +kernel
theorem dX1_searchSolutions_33 : decode cX1_searchSolutions 33 = .ok (.iconst 1, 1) := by decide +kernel
theorem dX1_searchSolutions_34 : decode cX1_searchSolutions 34 = .ok (.isub, 1) := by decide +kernel
theorem dX1_searchSolutions_35 : decode cX1_searchSolutions 35 = .ok (.iload_n 2, 1) := by decide +kernel
theorem dX1_searchSolutions_36 : decode cX1_searchSolutions 36 = .ok (.invokevirtual 90, 3) := by decide +kernel
theorem dX1_searchSolutions_39 : decode cX1_searchSolutions 39 = .ok (.aload_n 0, 1) := by decide +kernel
theorem dX1_searchSolutions_40 : decode cX1_searchSolutions 40 = .ok (.iload_n 1, 1) := by decide +kernel
theorem dX1_searchSolutions_41 : decode cX1_searchSolutions 41 = .ok (.iconst (-1), 1) := by decide +kernel
theorem dX1_searchSolutions_42 : decode cX1_searchSolutions 42 = .ok (.iconst 0, 1) := by decide +kernel
theorem dX1_searchSolutions_43 : decode cX1_searchSolutions 43 = .ok (.invokevirtual 97, 3) := by decide +kernel
theorem dX1_searchSolutions_46 : decode cX1_searchSolutions 46 = .ok (.aload_n 0, 1) := by decide +kernel
theorem dX1_searchSolutions_47 : decode cX1_searchSolutions 47 = .ok (.invokevirtual 101, 3) := by decide +kernel
theorem dX1_searchSolutions_50 : decode cX1_searchSolutions 50 = .ok (.ifCond .eq 15, 3) := by decide +kernel
theorem dX1_searchSolutions_53 : decode cX1_searchSolutions 53 = .ok (.aload_n 0, 1) := by decide +kernel
theorem dX1_searchSolutions_54 : decode cX1_searchSolutions 54 = .ok (.iload_n 1, 1) := by decide +kernel
theorem dX1_searchSolutions_55 : decode cX1_searchSolutions 55 = .ok (.iconst 1, 1) := by decide +kernel
theorem dX1_searchSolutions_56 : decode cX1_searchSolutions 56 = .ok (.isub, 1) := by decide +kernel
theorem dX1_searchSolutions_57 : decode cX1_searchSolutions 57 = .ok (.iload_n 2, 1) := by decide +kernel
theorem dX1_searchSolutions_58 : decode cX1_searchSolutions 58 = .ok (.iconst 1, 1) := by decide +kernel
theorem dX1_searchSolutions_59 : decode cX1_searchSolutions 59 = .ok (.iload_n 1, 1) := by decide +kernel
theorem dX1_searchSolutions_60 : decode cX1_searchSolutions 60 = .ok (.ishl, 1) := by decide +kernel
theorem dX1_searchSolutions_61 : decode cX1_searchSolutions 61 = .ok (.ior, 1) := by decide +kernel
theorem dX1_searchSolutions_62 : decode cX1_searchSolutions 62 = .ok (.invokevirtual 90, 3) := by decide +kernel
theorem dX1_searchSolutions_65 : decode cX1_searchSolutions 65 = .ok (.aload_n 0, 1) := by decide +kernel
theorem dX1_searchSolutions_66 : decode cX1_searchSolutions 66 = .ok (.iload_n 1, 1) := by decide +kernel
theorem dX1_searchSolutions_67 : decode cX1_searchSolutions 67 = .ok (.iconst 1, 1) := by decide +kernel
theorem dX1_searchSolutions_68 : decode cX1_searchSolutions 68 = .ok (.iconst 1, 1) := by decide +kernel
theorem dX1_searchSolutions_69 : decode cX1_searchSolutions 69 = .ok (.invokevirtual 97, 3) := by decide +kernel
theorem dX1_searchSolutions_72 : decode cX1_searchSolutions 72 = .ok (.return_, 1) := by decide +kernel
theorem dX1_change_0 : decode cX1_change 0 = .ok (.iconst 0, 1) := by decide +kernel
theorem dX1_change_1 : decode cX1_change 1 = .ok (.istore 4, 2) := by decide +kernel
theorem dX1_change_3 : decode cX1_change 3 = .ok (.iload 4, 2) := by decide +kernel
theorem dX1_change_5 : decode cX1_change 5 = .ok (.aload_n 0, 1) := by decide +kernel
theorem dX1_change_6 : decode cX1_change 6 = .ok (.getfield 42, 3) := by decide +kernel
theorem dX1_change_9 : decode cX1_change 9 = .ok (.if_icmp .ge 66, 3) := by decide +kernel
theorem dX1_change_12 : decode cX1_change 12 = .ok (.iload 4, 2) := by decide +kernel
theorem dX1_change_14 : decode cX1_change 14 = .ok (.aload_n 0, 1) := by decide +kernel
theorem dX1_change_15 : decode cX1_change 15 = .ok (.getfield 18, 3) := by decide +kernel
theorem dX1_change_18 : decode cX1_change 18 = .ok (.arraylength, 1) := by decide +kernel
theorem dX1_change_19 : decode cX1_change 19 = .ok (.if_icmp .ge 56, 3) := by decide +kernel
theorem dX1_change_22 : decode cX1_change 22 = .ok (.iload 4, 2) := by decide +kernel
theorem dX1_change_24 : decode cX1_change 24 = .ok (.aload_n 0, 1) := by decide +kernel
theorem dX1_change_25 : decode cX1_change 25 = .ok (.getfield 21, 3) := by decide +kernel
theorem dX1_change_28 : decode cX1_change 28 = .ok (.arraylength, 1) := by decide +kernel
theorem dX1_change_29 : decode cX1_change 29 = .ok (.if_icmp .ge 46, 3) := by decide +kernel
theorem dX1_change_32 : decode cX1_change 32 = .ok (.aload_n 0, 1) := by decide +kernel
theorem dX1_change_33 : decode cX1_change 33 = .ok (.iload 4, 2) := by decide +kernel
theorem dX1_change_35 : decode cX1_change 35 = .ok (.iload_n 1, 1) := by decide +kernel
theorem dX1_change_36 : decode cX1_change 36 = .ok (.invokevirtual 87, 3) := by decide +kernel
theorem dX1_change_39 : decode cX1_change 39 = .ok (.istore 5, 2) := by decide +kernel
theorem dX1_change_41 : decode cX1_change 41 = .ok (.aload_n 0, 1) := by decide +kernel
theorem dX1_change_42 : decode cX1_change 42 = .ok (.getfield 18, 3) := by decide +kernel
theorem dX1_change_45 : decode cX1_change 45 = .ok (.iload 4, 2) := by decide +kernel
theorem dX1_change_47 : decode cX1_change 47 = .ok (.dup2, 1) := by decide +kernel
theorem dX1_change_48 : decode cX1_change 48 = .ok (.iaload, 1) := by decide +kernel
theorem dX1_change_49 : decode cX1_change 49 = .ok (.iload_n 2, 1) := by decide +kernel
theorem dX1_change_50 : decode cX1_change 50 = .ok (.iload 5, 2) := by decide +kernel
theorem dX1_change_52 : decode cX1_change 52 = .ok (.imul, 1) := by decide +kernel
theorem dX1_change_53 : decode cX1_change 53 = .ok (.iadd, 1) := by decide +kernel
theorem dX1_change_54 : decode cX1_change 54 = .ok (.iastore, 1) := by decide +kernel
theorem dX1_change_55 : decode cX1_change 55 = .ok (.aload_n 0, 1) := by decide +kernel
theorem dX1_change_56 : decode cX1_change 56 = .ok (.getfield 21, 3) := by decide +kernel
theorem dX1_change_59 : decode cX1_change 59 = .ok (.iload 4, 2) := by decide +kernel
theorem dX1_change_61 : decode cX1_change 61 = .ok (.dup2, 1) := by decide +kernel
theorem dX1_change_62 : decode cX1_change 62 = .ok (.iaload, 1) := by decide +kernel
theorem dX1_change_63 : decode cX1_change 63 = .ok (.iload_n 3, 1) := by decide +kernel
theorem dX1_change_64 : decode cX1_change 64 = .ok (.iload 5, 2) := by decide +kernel
theorem dX1_change_66 : decode cX1_change 66 = .ok (.imul, 1) := by decide +kernel
theorem dX1_change_67 : decode cX1_change 67 = .ok (.iadd, 1) := by decide +kernel
theorem dX1_change_68 : decode cX1_change 68 = .ok (.iastore, 1) := by decide +kernel
theorem dX1_change_69 : decode cX1_change 69 = .ok (.iinc 4 1, 3) := by decide +kernel
theorem dX1_change_72 : decode cX1_change 72 = .ok (.goto (-69), 3) := by decide +kernel
theorem dX1_change_75 : decode cX1_change 75 = .ok (.return_, 1) := by decide +kernel
theorem dX1_canSolve_0 : decode cX1_canSolve 0 = .ok (.iconst 0, 1) := by decide +kernel
theorem dX1_canSolve_1 : decode cX1_canSolve 1 = .ok (.istore_n 1, 1) := by decide +kernel
theorem dX1_canSolve_2 : decode cX1_canSolve 2 = .ok (.iload_n 1, 1) := by decide +kernel
theorem dX1_canSolve_3 : decode cX1_canSolve 3 = .ok (.aload_n 0, 1) := by decide +kernel
theorem dX1_canSolve_4 : decode cX1_canSolve 4 = .ok (.getfield 42, 3) := by decide +kernel
theorem dX1_canSolve_7 : decode cX1_canSolve 7 = .ok (.if_icmp .ge 53, 3) := by decide +kernel
theorem dX1_canSolve_10 : decode cX1_canSolve 10 = .ok (.iload_n 1, 1) := by decide +kernel
theorem dX1_canSolve_11 : decode cX1_canSolve 11 = .ok (.aload_n 0, 1) := by decide +kernel
theorem dX1_canSolve_12 : decode cX1_canSolve 12 = .ok (.getfield 18, 3) := by decide +kernel
theorem dX1_canSolve_15 : decode cX1_canSolve 15 = .ok (.arraylength, 1) := by decide +kernel
theorem dX1_canSolve_16 : decode cX1_canSolve 16 = .ok (.if_icmp .ge 44, 3) := by decide +kernel
theorem dX1_canSolve_19 : decode cX1_canSolve 19 = .ok (.iload_n 1, 1) := by decide +kernel
theorem dX1_canSolve_20 : decode cX1_canSolve 20 = .ok (.aload_n 0, 1) := by decide +kernel
theorem dX1_canSolve_21 : decode cX1_canSolve 21 = .ok (.getfield 21, 3) := by decide +kernel
theorem dX1_canSolve_24 : decode cX1_canSolve 24 = .ok (.arraylength, 1) := by decide +kernel
theorem dX1_canSolve_25 : decode cX1_canSolve 25 = .ok (.if_icmp .ge 35, 3) := by decide +kernel
theorem dX1_canSolve_28 : decode cX1_canSolve 28 = .ok (.aload_n 0, 1) := by decide +kernel
theorem dX1_canSolve_29 : decode cX1_canSolve 29 = .ok (.getfield 18, 3) := by decide +kernel
theorem dX1_canSolve_32 : decode cX1_canSolve 32 = .ok (.iload_n 1, 1) := by decide +kernel
theorem dX1_canSolve_33 : decode cX1_canSolve 33 = .ok (.iaload, 1) := by decide +kernel
theorem dX1_canSolve_34 : decode cX1_canSolve 34 = .ok (.ifCond .lt 18, 3) := by decide +kernel
theorem dX1_canSolve_37 : decode cX1_canSolve 37 = .ok (.aload_n 0, 1) := by decide +kernel
theorem dX1_canSolve_38 : decode cX1_canSolve 38 = .ok (.getfield 18, 3) := by decide +kernel
theorem dX1_canSolve_41 : decode cX1_canSolve 41 = .ok (.iload_n 1, 1) := by decide +kernel
theorem dX1_canSolve_42 : decode cX1_canSolve 42 = .ok (.iaload, 1) := by decide +kernel
theorem dX1_canSolve_43 : decode cX1_canSolve 43 = .ok (.aload_n 0, 1) := by decide +kernel
theorem dX1_canSolve_44 : decode cX1_canSolve 44 = .ok (.getfield 21, 3) := by decide +kernel
theorem dX1_canSolve_47 : decode cX1_canSolve 47 = .ok (.iload_n 1, 1) := by decide +kernel
theorem dX1_canSolve_48 : decode cX1_canSolve 48 = .ok (.iaload, 1) := by decide +kernel
theorem dX1_canSolve_49 : decode cX1_canSolve 49 = .ok (.if_icmp .le 5, 3) := by decide +kernel
theorem dX1_canSolve_52 : decode cX1_canSolve 52 = .ok (.iconst 0, 1) := by decide +kernel
theorem dX1_canSolve_53 : decode cX1_canSolve 53 = .ok (.ireturn, 1) := by decide +kernel
theorem dX1_canSolve_54 : decode cX1_canSolve 54 = .ok (.iinc 1 1, 3) := by decide +kernel
theorem dX1_canSolve_57 : decode cX1_canSolve 57 = .ok (.goto (-55), 3) := by decide +kernel
theorem dX1_canSolve_60 : decode cX1_canSolve 60 = .ok (.iconst 1, 1) := by decide +kernel
theorem dX1_canSolve_61 : decode cX1_canSolve 61 = .ok (.ireturn, 1) := by decide +kernel
theorem dX1_noteSolution_0 : decode cX1_noteSolution 0 = .ok (.aload_n 0, 1) := by decide +kernel
theorem dX1_noteSolution_1 : decode cX1_noteSolution 1 = .ok (.getfield 81, 3) := by decide +kernel
theorem dX1_noteSolution_4 : decode cX1_noteSolution 4 = .ok (.aload_n 0, 1) := by decide +kernel
theorem dX1_noteSolution_5 : decode cX1_noteSolution 5 = .ok (.getfield 78, 3) := by decide +kernel
theorem dX1_noteSolution_8 : decode cX1_noteSolution 8 = .ok (.if_icmp .ne 8, 3) := by decide +kernel
theorem dX1_noteSolution_11 : decode cX1_noteSolution 11 = .ok (.aload_n 0, 1) := by decide +kernel
theorem dX1_noteSolution_12 : decode cX1_noteSolution 12 = .ok (.iload_n 1, 1) := by decide +kernel
theorem dX1_noteSolution_13 : decode cX1_noteSolution 13 = .ok (.putfield 84, 3) := by decide +kernel
theorem dX1_noteSolution_16 : decode cX1_noteSolution 16 = .ok (.aload_n 0, 1) := by decide +kernel
theorem dX1_noteSolution_17 : decode cX1_noteSolution 17 = .ok (.getfield 81, 3) := by decide +kernel
theorem dX1_noteSolution_20 : decode cX1_noteSolution 20 = .ok (.ifCond .lt 25, 3) := by decide +kernel
theorem dX1_noteSolution_23 : decode cX1_noteSolution 23 = .ok (.aload_n 0, 1) := by decide +kernel
theorem dX1_noteSolution_24 : decode cX1_noteSolution 24 = .ok (.getfield 81, 3) := by decide +kernel
theorem dX1_noteSolution_27 : decode cX1_noteSolution 27 = .ok (.aload_n 0, 1) := by decide +kernel
theorem dX1_noteSolution_28 : decode cX1_noteSolution 28 = .ok (.getfield 27, 3) := by decide +kernel
theorem dX1_noteSolution_31 : decode cX1_noteSolution 31 = .ok (.arraylength, 1) := by decide +kernel
theorem dX1_noteSolution_32 : decode cX1_noteSolution 32 = .ok (.if_icmp .ge 13, 3) := by decide +kernel
theorem dX1_noteSolution_35 : decode cX1_noteSolution 35 = .ok (.aload_n 0, 1) := by decide +kernel
theorem dX1_noteSolution_36 : decode cX1_noteSolution 36 = .ok (.getfield 27, 3) := by decide +kernel
theorem dX1_noteSolution_39 : decode cX1_noteSolution 39 = .ok (.aload_n 0, 1) := by decide +kernel
theorem dX1_noteSolution_40 : decode cX1_noteSolution 40 = .ok (.getfield 81, 3) := by decide +kernel
theorem dX1_noteSolution_43 : decode cX1_noteSolution 43 = .ok (.iload_n 1, 1) := by decide +kernel
theorem dX1_noteSolution_44 : decode cX1_noteSolution 44 = .ok (.iastore, 1) := by decide +kernel
theorem dX1_noteSolution_45 : decode cX1_noteSolution 45 = .ok (.aload_n 0, 1) := by decide +kernel
theorem dX1_noteSolution_46 : decode cX1_noteSolution 46 = .ok (.dup, 1) := by decide +kernel
theorem dX1_noteSolution_47 : decode cX1_noteSolution 47 = .ok (.getfield 81, 3) := by decide +kernel
theorem dX1_noteSolution_50 : decode cX1_noteSolution 50 = .ok (.iconst 1, 1) := by decide +kernel
theorem dX1_noteSolution_51 : decode cX1_noteSolution 51 = .ok (.iadd, 1) := by decide +kernel
theorem dX1_noteSolution_52 : decode cX1_noteSolution 52 = .ok (.putfield 81, 3) := by decide +kernel
theorem dX1_noteSolution_55 : decode cX1_noteSolution 55 = .ok (.return_, 1) := by decide +kernel
theorem dX1_earlySolution_0 : decode cX1_earlySolution 0 = .ok (.iload_n 1, 1) := by decide +kernel
theorem dX1_earlySolution_1 : decode cX1_earlySolution 1 = .ok (.ifCond .lt 21, 3) := by decide +kernel
theorem dX1_earlySolution_4 : decode cX1_earlySolution 4 = .ok (.iload_n 1, 1) := by decide +kernel
theorem dX1_earlySolution_5 : decode cX1_earlySolution 5 = .ok (.aload_n 0, 1) := by decide +kernel
theorem dX1_earlySolution_6 : decode cX1_earlySolution 6 = .ok (.getfield 27, 3) := by decide +kernel
theorem dX1_earlySolution_9 : decode cX1_earlySolution 9 = .ok (.arraylength, 1) := by decide +kernel
theorem dX1_earlySolution_10 : decode cX1_earlySolution 10 = .ok (.if_icmp .ge 12, 3) := by decide +kernel
theorem dX1_earlySolution_13 : decode cX1_earlySolution 13 = .ok (.aload_n 0, 1) := by decide +kernel
theorem dX1_earlySolution_14 : decode cX1_earlySolution 14 = .ok (.getfield 27, 3) := by decide +kernel
theorem dX1_earlySolution_17 : decode cX1_earlySolution 17 = .ok (.iload_n 1, 1) := by decide +kernel
theorem dX1_earlySolution_18 : decode cX1_earlySolution 18 = .ok (.iaload, 1) := by decide +kernel
theorem dX1_earlySolution_19 : decode cX1_earlySolution 19 = .ok (.goto 4, 3) := by decide +kernel
theorem dX1_earlySolution_22 : decode cX1_earlySolution 22 = .ok (.iconst 0, 1) := by decide +kernel
theorem dX1_earlySolution_23 : decode cX1_earlySolution 23 = .ok (.ireturn, 1) := by decide +kernel
theorem dX1_findFewest_0 : decode cX1_findFewest 0 = .ok (.aload_n 0, 1) := by decide +kernel
theorem dX1_findFewest_1 : decode cX1_findFewest 1 = .ok (.ldc 105, 2) := by decide +kernel
theorem dX1_findFewest_3 : decode cX1_findFewest 3 = .ok (.putfield 106, 3) := by decide +kernel
theorem dX1_findFewest_6 : decode cX1_findFewest 6 = .ok (.aload_n 0, 1) := by decide +kernel
theorem dX1_findFewest_7 : decode cX1_findFewest 7 = .ok (.bipush (-5), 2) := by decide +kernel
theorem dX1_findFewest_9 : decode cX1_findFewest 9 = .ok (.putfield 84, 3) := by decide +kernel
theorem dX1_findFewest_12 : decode cX1_findFewest 12 = .ok (.aload_n 0, 1) := by decide +kernel
theorem dX1_findFewest_13 : decode cX1_findFewest 13 = .ok (.aload_n 0, 1) := by decide +kernel
theorem dX1_findFewest_14 : decode cX1_findFewest 14 = .ok (.getfield 46, 3) := by decide +kernel
theorem dX1_findFewest_17 : decode cX1_findFewest 17 = .ok (.iconst 1, 1) := by decide +kernel
theorem dX1_findFewest_18 : decode cX1_findFewest 18 = .ok (.isub, 1) := by decide +kernel
theorem dX1_findFewest_19 : decode cX1_findFewest 19 = .ok (.iconst 0, 1) := by decide +kernel
theorem dX1_findFewest_20 : decode cX1_findFewest 20 = .ok (.iconst 0, 1) := by decide +kernel
theorem dX1_findFewest_21 : decode cX1_findFewest 21 = .ok (.invokevirtual 109, 3) := by decide +kernel
theorem dX1_findFewest_24 : decode cX1_findFewest 24 = .ok (.return_, 1) := by decide +kernel
theorem dX1_searchCovers_0 : decode cX1_searchCovers 0 = .ok (.iload_n 1, 1) := by decide +kernel
theorem dX1_searchCovers_1 : decode cX1_searchCovers 1 = .ok (.bipush 14, 2) := by decide +kernel
theorem dX1_searchCovers_3 : decode cX1_searchCovers 3 = .ok (.if_icmp .ge 11, 3) := by decide +kernel
theorem dX1_searchCovers_6 : decode cX1_searchCovers 6 = .ok (.iload_n 3, 1) := by decide +kernel
theorem dX1_searchCovers_7 : decode cX1_searchCovers 7 = .ok (.aload_n 0, 1) := by decide +kernel
theorem dX1_searchCovers_8 : decode cX1_searchCovers 8 = .ok (.getfield 106, 3) := by decide +kernel
theorem dX1_searchCovers_11 : decode cX1_searchCovers 11 = .ok (.if_icmp .lt 4, 3) := by decide +kernel
theorem dX1_searchCovers_14 : decode cX1_searchCovers 14 = .ok (.return_, 1) := by decide +kernel
theorem dX1_searchCovers_15 : decode cX1_searchCovers 15 = .ok (.aload_n 0, 1) := by decide +kernel
theorem dX1_searchCovers_16 : decode cX1_searchCovers 16 = .ok (.iload_n 2, 1) := by decide +kernel
theorem dX1_searchCovers_17 : decode cX1_searchCovers 17 = .ok (.iconst 1, 1) := by decide +kernel
theorem dX1_searchCovers_18 : decode cX1_searchCovers 18 = .ok (.iload_n 1, 1) := by decide +kernel
theorem dX1_searchCovers_19 : decode cX1_searchCovers 19 = .ok (.iconst 1, 1) := by decide +kernel
theorem dX1_searchCovers_20 : decode cX1_searchCovers 20 = .ok (.iadd, 1) := by decide +kernel
theorem dX1_searchCovers_21 : decode cX1_searchCovers 21 = .ok (.ishl, 1) := by decide +kernel
theorem dX1_searchCovers_22 : decode cX1_searchCovers 22 = .ok (.iconst 1, 1) := by decide +kernel
theorem dX1_searchCovers_23 : decode cX1_searchCovers 23 = .ok (.isub, 1) := by decide +kernel
theorem dX1_searchCovers_24 : decode cX1_searchCovers 24 = .ok (.ior, 1) := by decide +kernel
theorem dX1_searchCovers_25 : decode cX1_searchCovers 25 = .ok (.invokevirtual 112, 3) := by decide +kernel
theorem dX1_searchCovers_28 : decode cX1_searchCovers 28 = .ok (.ifCond .ne 4, 3) := by decide +kernel
theorem dX1_searchCovers_31 : decode cX1_searchCovers 31 = .ok (.return_, 1) := by decide +kernel
theorem dX1_searchCovers_32 : decode cX1_searchCovers 32 = .ok (.iload_n 1, 1) := by decide +kernel
theorem dX1_searchCovers_33 : decode cX1_searchCovers 33 = .ok (.ifCond .lt 12, 3) := by decide +kernel
theorem dX1_searchCovers_36 : decode cX1_searchCovers 36 = .ok (.iload_n 1, 1) := by decide +kernel
theorem dX1_searchCovers_37 : decode cX1_searchCovers 37 = .ok (.aload_n 0, 1) := by decide +kernel
theorem dX1_searchCovers_38 : decode cX1_searchCovers 38 = .ok (.getfield 24, 3) := by decide +kernel
theorem dX1_searchCovers_41 : decode cX1_searchCovers 41 = .ok (.arraylength, 1) := by decide +kernel
theorem dX1_searchCovers_42 : decode cX1_searchCovers 42 = .ok (.if_icmp .lt 14, 3) := by decide +kernel
theorem dX1_searchCovers_45 : decode cX1_searchCovers 45 = .ok (.aload_n 0, 1) := by decide +kernel
theorem dX1_searchCovers_46 : decode cX1_searchCovers 46 = .ok (.iload_n 3, 1) := by decide +kernel
theorem dX1_searchCovers_47 : decode cX1_searchCovers 47 = .ok (.putfield 106, 3) := by decide +kernel
theorem dX1_searchCovers_50 : decode cX1_searchCovers 50 = .ok (.aload_n 0, 1) := by decide +kernel
theorem dX1_searchCovers_51 : decode cX1_searchCovers 51 = .ok (.iload_n 2, 1) := by decide +kernel
theorem dX1_searchCovers_52 : decode cX1_searchCovers 52 = .ok (.putfield 84, 3) := by decide +kernel
theorem dX1_searchCovers_55 : decode cX1_searchCovers 55 = .ok (.return_, 1) := by decide +kernel
theorem dX1_searchCovers_56 : decode cX1_searchCovers 56 = .ok (.aload_n 0, 1) := by decide +kernel
theorem dX1_searchCovers_57 : decode cX1_searchCovers 57 = .ok (.iload_n 1, 1) := by decide +kernel
theorem dX1_searchCovers_58 : decode cX1_searchCovers 58 = .ok (.iconst 1, 1) := by decide +kernel
theorem dX1_searchCovers_59 : decode cX1_searchCovers 59 = .ok (.isub, 1) := by decide +kernel
theorem dX1_searchCovers_60 : decode cX1_searchCovers 60 = .ok (.iload_n 2, 1) := by decide +kernel
theorem dX1_searchCovers_61 : decode cX1_searchCovers 61 = .ok (.iload_n 3, 1) := by decide +kernel
theorem dX1_searchCovers_62 : decode cX1_searchCovers 62 = .ok (.invokevirtual 109, 3) := by decide +kernel
theorem dX1_searchCovers_65 : decode cX1_searchCovers 65 = .ok (.aload_n 0, 1) := by decide +kernel
theorem dX1_searchCovers_66 : decode cX1_searchCovers 66 = .ok (.iload_n 1, 1) := by decide +kernel
theorem dX1_searchCovers_67 : decode cX1_searchCovers 67 = .ok (.iconst 1, 1) := by decide +kernel
theorem dX1_searchCovers_68 : decode cX1_searchCovers 68 = .ok (.isub, 1) := by decide +kernel
theorem dX1_searchCovers_69 : decode cX1_searchCovers 69 = .ok (.iload_n 2, 1) := by decide +kernel
theorem dX1_searchCovers_70 : decode cX1_searchCovers 70 = .ok (.iconst 1, 1) := by decide +kernel
theorem dX1_searchCovers_71 : decode cX1_searchCovers 71 = .ok (.iload_n 1, 1) := by decide +kernel
theorem dX1_searchCovers_72 : decode cX1_searchCovers 72 = .ok (.ishl, 1) := by decide +kernel
theorem dX1_searchCovers_73 : decode cX1_searchCovers 73 = .ok (.ior, 1) := by decide +kernel
theorem dX1_searchCovers_74 : decode cX1_searchCovers 74 = .ok (.iload_n 3, 1) := by decide +kernel
theorem dX1_searchCovers_75 : decode cX1_searchCovers 75 = .ok (.aload_n 0, 1) := by decide +kernel
theorem dX1_searchCovers_76 : decode cX1_searchCovers 76 = .ok (.getfield 24, 3) := by decide +kernel
theorem dX1_searchCovers_79 : decode cX1_searchCovers 79 = .ok (.iload_n 1, 1) := by decide +kernel
theorem dX1_searchCovers_80 : decode cX1_searchCovers 80 = .ok (.iaload, 1) := by decide +kernel
theorem dX1_searchCovers_81 : decode cX1_searchCovers 81 = .ok (.iadd, 1) := by decide +kernel
theorem dX1_searchCovers_82 : decode cX1_searchCovers 82 = .ok (.invokevirtual 109, 3) := by decide +kernel
theorem dX1_searchCovers_85 : decode cX1_searchCovers 85 = .ok (.return_, 1) := by decide +kernel
theorem dX1_covers_0 : decode cX1_covers 0 = .ok (.iconst 0, 1) := by decide +kernel
theorem dX1_covers_1 : decode cX1_covers 1 = .ok (.istore_n 2, 1) := by decide +kernel
theorem dX1_covers_2 : decode cX1_covers 2 = .ok (.iload_n 2, 1) := by decide +kernel
theorem dX1_covers_3 : decode cX1_covers 3 = .ok (.aload_n 0, 1) := by decide +kernel
theorem dX1_covers_4 : decode cX1_covers 4 = .ok (.getfield 42, 3) := by decide +kernel
theorem dX1_covers_7 : decode cX1_covers 7 = .ok (.if_icmp .ge 31, 3) := by decide +kernel
theorem dX1_covers_10 : decode cX1_covers 10 = .ok (.iload_n 2, 1) := by decide +kernel
theorem dX1_covers_11 : decode cX1_covers 11 = .ok (.aload_n 0, 1) := by decide +kernel
theorem dX1_covers_12 : decode cX1_covers 12 = .ok (.getfield 15, 3) := by decide +kernel
theorem dX1_covers_15 : decode cX1_covers 15 = .ok (.arraylength, 1) := by decide +kernel
theorem dX1_covers_16 : decode cX1_covers 16 = .ok (.if_icmp .ge 22, 3) := by decide +kernel
theorem dX1_covers_19 : decode cX1_covers 19 = .ok (.iload_n 1, 1) := by decide +kernel
theorem dX1_covers_20 : decode cX1_covers 20 = .ok (.aload_n 0, 1) := by decide +kernel
theorem dX1_covers_21 : decode cX1_covers 21 = .ok (.getfield 15, 3) := by decide +kernel
theorem dX1_covers_24 : decode cX1_covers 24 = .ok (.iload_n 2, 1) := by decide +kernel
theorem dX1_covers_25 : decode cX1_covers 25 = .ok (.iaload, 1) := by decide +kernel
theorem dX1_covers_26 : decode cX1_covers 26 = .ok (.iand, 1) := by decide +kernel
theorem dX1_covers_27 : decode cX1_covers 27 = .ok (.ifCond .ne 5, 3) := by decide +kernel
theorem dX1_covers_30 : decode cX1_covers 30 = .ok (.iconst 0, 1) := by decide +kernel
theorem dX1_covers_31 : decode cX1_covers 31 = .ok (.ireturn, 1) := by decide +kernel
theorem dX1_covers_32 : decode cX1_covers 32 = .ok (.iinc 2 1, 3) := by decide +kernel
theorem dX1_covers_35 : decode cX1_covers 35 = .ok (.goto (-33), 3) := by decide +kernel
theorem dX1_covers_38 : decode cX1_covers 38 = .ok (.iconst 1, 1) := by decide +kernel
theorem dX1_covers_39 : decode cX1_covers 39 = .ok (.ireturn, 1) := by decide +kernel
theorem dX2_init_0 : decode cX2_init 0 = .ok (.aload_n 0, 1) := by decide +kernel
theorem dX2_init_1 : decode cX2_init 1 = .ok (.invokespecial 3, 3) := by decide +kernel
theorem dX2_init_4 : decode cX2_init 4 = .ok (.aload_n 0, 1) := by decide +kernel
theorem dX2_init_5 : decode cX2_init 5 = .ok (.sipush 500, 3) := by decide +kernel
theorem dX2_init_8 : decode cX2_init 8 = .ok (.newarray .int, 2) := by decide +kernel
theorem dX2_init_10 : decode cX2_init 10 = .ok (.putfield 9, 3) := by decide +kernel
theorem dX2_init_13 : decode cX2_init 13 = .ok (.aload_n 0, 1) := by decide +kernel
theorem dX2_init_14 : decode cX2_init 14 = .ok (.sipush 1024, 3) := by decide +kernel
theorem dX2_init_17 : decode cX2_init 17 = .ok (.newarray .int, 2) := by decide +kernel
theorem dX2_init_19 : decode cX2_init 19 = .ok (.putfield 15, 3) := by decide +kernel
theorem dX2_init_22 : decode cX2_init 22 = .ok (.return_, 1) := by decide +kernel
theorem dX2_orderOf_0 : decode cX2_orderOf 0 = .ok (.aload_n 0, 1) := by decide +kernel
theorem dX2_orderOf_1 : decode cX2_orderOf 1 = .ok (.getfield 15, 3) := by decide +kernel
theorem dX2_orderOf_4 : decode cX2_orderOf 4 = .ok (.iconst (-1), 1) := by decide +kernel
theorem dX2_orderOf_5 : decode cX2_orderOf 5 = .ok (.invokestatic 18, 3) := by decide +kernel
theorem dX2_orderOf_8 : decode cX2_orderOf 8 = .ok (.aload_n 0, 1) := by decide +kernel
theorem dX2_orderOf_9 : decode cX2_orderOf 9 = .ok (.iconst 0, 1) := by decide +kernel
theorem dX2_orderOf_10 : decode cX2_orderOf 10 = .ok (.putfield 24, 3) := by decide +kernel
theorem dX2_orderOf_13 : decode cX2_orderOf 13 = .ok (.aload_n 0, 1) := by decide +kernel
theorem dX2_orderOf_14 : decode cX2_orderOf 14 = .ok (.invokestatic 28, 3) := by decide +kernel
theorem dX2_orderOf_17 : decode cX2_orderOf 17 = .ok (.invokevirtual 32, 3) := by decide +kernel
theorem dX2_orderOf_20 : decode cX2_orderOf 20 = .ok (.iconst 0, 1) := by decide +kernel
theorem dX2_orderOf_21 : decode cX2_orderOf 21 = .ok (.istore_n 2, 1) := by decide +kernel
theorem dX2_orderOf_22 : decode cX2_orderOf 22 = .ok (.iload_n 2, 1) := by decide +kernel
theorem dX2_orderOf_23 : decode cX2_orderOf 23 = .ok (.aload_n 0, 1) := by decide +kernel
theorem dX2_orderOf_24 : decode cX2_orderOf 24 = .ok (.getfield 24, 3) := by decide +kernel
theorem dX2_orderOf_27 : decode cX2_orderOf 27 = .ok (.if_icmp .ge 61, 3) := by decide +kernel
theorem dX2_orderOf_30 : decode cX2_orderOf 30 = .ok (.iload_n 2, 1) := by decide +kernel
theorem dX2_orderOf_31 : decode cX2_orderOf 31 = .ok (.aload_n 0, 1) := by decide +kernel
theorem dX2_orderOf_32 : decode cX2_orderOf 32 = .ok (.getfield 9, 3) := by decide +kernel
theorem dX2_orderOf_35 : decode cX2_orderOf 35 = .ok (.arraylength, 1) := by decide +kernel
theorem dX2_orderOf_36 : decode cX2_orderOf 36 = .ok (.if_icmp .ge 52, 3) := by decide +kernel
theorem dX2_orderOf_39 : decode cX2_orderOf 39 = .ok (.iconst 0, 1) := by decide +kernel
theorem dX2_orderOf_40 : decode cX2_orderOf 40 = .ok (.istore_n 3, 1) := by decide +kernel
theorem dX2_orderOf_41 : decode cX2_orderOf 41 = .ok (.iload_n 3, 1) := by decide +kernel
theorem dX2_orderOf_42 : decode cX2_orderOf 42 = .ok (.aload_n 1, 1) := by decide +kernel
theorem dX2_orderOf_43 : decode cX2_orderOf 43 = .ok (.getfield 36, 3) := by decide +kernel
theorem dX2_orderOf_46 : decode cX2_orderOf 46 = .ok (.if_icmp .ge 36, 3) := by decide +kernel
theorem dX2_orderOf_49 : decode cX2_orderOf 49 = .ok (.aload_n 1, 1) := by decide +kernel
theorem dX2_orderOf_50 : decode cX2_orderOf 50 = .ok (.iload_n 3, 1) := by decide +kernel
theorem dX2_orderOf_51 : decode cX2_orderOf 51 = .ok (.invokevirtual 41, 3) := by decide +kernel
theorem dX2_orderOf_54 : decode cX2_orderOf 54 = .ok (.astore 4, 2) := by decide +kernel
theorem dX2_orderOf_56 : decode cX2_orderOf 56 = .ok (.aload 4, 2) := by decide +kernel
theorem dX2_orderOf_58 : decode cX2_orderOf 58 = .ok (.ifnull 18, 3) := by decide +kernel
theorem dX2_orderOf_61 : decode cX2_orderOf 61 = .ok (.aload_n 0, 1) := by decide +kernel
theorem dX2_orderOf_62 : decode cX2_orderOf 62 = .ok (.aload_n 0, 1) := by decide +kernel
theorem dX2_orderOf_63 : decode cX2_orderOf 63 = .ok (.getfield 9, 3) := by decide +kernel
theorem dX2_orderOf_66 : decode cX2_orderOf 66 = .ok (.iload_n 2, 1) := by decide +kernel
theorem dX2_orderOf_67 : decode cX2_orderOf 67 = .ok (.iaload, 1) := by decide +kernel
theorem dX2_orderOf_68 : decode cX2_orderOf 68 = .ok (.aload 4, 2) := by decide +kernel
theorem dX2_orderOf_70 : decode cX2_orderOf 70 = .ok (.invokestatic 45, 3) := by decide +kernel
theorem dX2_orderOf_73 : decode cX2_orderOf 73 = .ok (.invokevirtual 32, 3) := by decide +kernel
theorem dX2_orderOf_76 : decode cX2_orderOf 76 = .ok (.iinc 3 1, 3) := by decide +kernel
theorem dX2_orderOf_79 : decode cX2_orderOf 79 = .ok (.goto (-38), 3) := by decide +kernel
theorem dX2_orderOf_82 : decode cX2_orderOf 82 = .ok (.iinc 2 1, 3) := by decide +kernel
theorem dX2_orderOf_85 : decode cX2_orderOf 85 = .ok (.goto (-63), 3) := by decide +kernel
theorem dX2_orderOf_88 : decode cX2_orderOf 88 = .ok (.aload_n 0, 1) := by decide +kernel
theorem dX2_orderOf_89 : decode cX2_orderOf 89 = .ok (.getfield 24, 3) := by decide +kernel
theorem dX2_orderOf_92 : decode cX2_orderOf 92 = .ok (.ireturn, 1) := by decide +kernel
theorem dX2_stillness_0 : decode cX2_stillness 0 = .ok (.iconst 0, 1) := by decide +kernel
theorem dX2_stillness_1 : decode cX2_stillness 1 = .ok (.istore_n 0, 1) := by decide +kernel
theorem dX2_stillness_2 : decode cX2_stillness 2 = .ok (.iconst 0, 1) := by decide +kernel
theorem dX2_stillness_3 : decode cX2_stillness 3 = .ok (.istore_n 1, 1) := by decide +kernel
theorem dX2_stillness_4 : decode cX2_stillness 4 = .ok (.iload_n 1, 1) := by decide +kernel
theorem dX2_stillness_5 : decode cX2_stillness 5 = .ok (.bipush 8, 2) := by decide +kernel
theorem dX2_stillness_7 : decode cX2_stillness 7 = .ok (.if_icmp .ge 17, 3) := by decide +kernel
theorem dX2_stillness_10 : decode cX2_stillness 10 = .ok (.iload_n 0, 1) := by decide +kernel
theorem dX2_stillness_11 : decode cX2_stillness 11 = .ok (.iload_n 1, 1) := by decide +kernel
theorem dX2_stillness_12 : decode cX2_stillness 12 = .ok (.iconst 3, 1) := by decide +kernel
theorem dX2_stillness_13 : decode cX2_stillness 13 = .ok (.iload_n 1, 1) := by decide +kernel
theorem dX2_stillness_14 : decode cX2_stillness 14 = .ok (.imul, 1) := by decide +kernel
theorem dX2_stillness_15 : decode cX2_stillness 15 = .ok (.ishl, 1) := by decide +kernel
theorem dX2_stillness_16 : decode cX2_stillness 16 = .ok (.ior, 1) := by decide +kernel
theorem dX2_stillness_17 : decode cX2_stillness 17 = .ok (.istore_n 0, 1) := by decide +kernel
theorem dX2_stillness_18 : decode cX2_stillness 18 = .ok (.iinc 1 1, 3) := by decide +kernel
theorem dX2_stillness_21 : decode cX2_stillness 21 = .ok (.goto (-17), 3) := by decide +kernel
theorem dX2_stillness_24 : decode cX2_stillness 24 = .ok (.iload_n 0, 1) := by decide +kernel
theorem dX2_stillness_25 : decode cX2_stillness 25 = .ok (.ireturn, 1) := by decide +kernel
theorem dX2_followedBy_0 : decode cX2_followedBy 0 = .ok (.iconst 0, 1) := by decide +kernel
theorem dX2_followedBy_1 : decode cX2_followedBy 1 = .ok (.istore_n 2, 1) := by decide +kernel
theorem dX2_followedBy_2 : decode cX2_followedBy 2 = .ok (.iconst 0, 1) := by decide +kernel
theorem dX2_followedBy_3 : decode cX2_followedBy 3 = .ok (.istore_n 3, 1) := by decide +kernel
theorem dX2_followedBy_4 : decode cX2_followedBy 4 = .ok (.iload_n 3, 1) := by decide +kernel
theorem dX2_followedBy_5 : decode cX2_followedBy 5 = .ok (.bipush 8, 2) := by decide +kernel
theorem dX2_followedBy_7 : decode cX2_followedBy 7 = .ok (.if_icmp .ge 28, 3) := by decide +kernel
theorem dX2_followedBy_10 : decode cX2_followedBy 10 = .ok (.iload_n 2, 1) := by decide +kernel
theorem dX2_followedBy_11 : decode cX2_followedBy 11 = .ok (.aload_n 1, 1) := by decide +kernel
theorem dX2_followedBy_12 : decode cX2_followedBy 12 = .ok (.iload_n 0, 1) := by decide +kernel
theorem dX2_followedBy_13 : decode cX2_followedBy 13 = .ok (.iconst 3, 1) := by decide +kernel
theorem dX2_followedBy_14 : decode cX2_followedBy 14 = .ok (.iload_n 3, 1) := by decide +kernel
theorem dX2_followedBy_15 : decode cX2_followedBy 15 = .ok (.imul, 1) := by decide +kernel
theorem dX2_followedBy_16 : decode cX2_followedBy 16 = .ok (.ishr, 1) := by decide +kernel
theorem dX2_followedBy_17 : decode cX2_followedBy 17 = .ok (.bipush 7, 2) := by decide +kernel
theorem dX2_followedBy_19 : decode cX2_followedBy 19 = .ok (.iand, 1) := by decide +kernel
theorem dX2_followedBy_20 : decode cX2_followedBy 20 = .ok (.invokevirtual 49, 3) := by decide +kernel
theorem dX2_followedBy_23 : decode cX2_followedBy 23 = .ok (.iconst 3, 1) := by decide +kernel
theorem dX2_followedBy_24 : decode cX2_followedBy 24 = .ok (.iload_n 3, 1) := by decide +kernel
theorem dX2_followedBy_25 : decode cX2_followedBy 25 = .ok (.imul, 1) := by decide +kernel
theorem dX2_followedBy_26 : decode cX2_followedBy 26 = .ok (.ishl, 1) := by decide +kernel
theorem dX2_followedBy_27 : decode cX2_followedBy 27 = .ok (.ior, 1) := by decide +kernel
theorem dX2_followedBy_28 : decode cX2_followedBy 28 = .ok (.istore_n 2, 1) := by decide +kernel
theorem dX2_followedBy_29 : decode cX2_followedBy 29 = .ok (.iinc 3 1, 3) := by decide +kernel
theorem dX2_followedBy_32 : decode cX2_followedBy 32 = .ok (.goto (-28), 3) := by decide +kernel
theorem dX2_followedBy_35 : decode cX2_followedBy 35 = .ok (.iload_n 2, 1) := by decide +kernel
theorem dX2_followedBy_36 : decode cX2_followedBy 36 = .ok (.ireturn, 1) := by decide +kernel
theorem dX2_enter_0 : decode cX2_enter 0 = .ok (.iload_n 1, 1) := by decide +kernel
theorem dX2_enter_1 : decode cX2_enter 1 = .ok (.ldc 55, 2) := by decide +kernel
theorem dX2_enter_3 : decode cX2_enter 3 = .ok (.imul, 1) := by decide +kernel
theorem dX2_enter_4 : decode cX2_enter 4 = .ok (.bipush 22, 2) := by decide +kernel
theorem dX2_enter_6 : decode cX2_enter 6 = .ok (.iushr, 1) := by decide +kernel
theorem dX2_enter_7 : decode cX2_enter 7 = .ok (.istore_n 2, 1) := by decide +kernel
theorem dX2_enter_8 : decode cX2_enter 8 = .ok (.iconst 0, 1) := by decide +kernel
theorem dX2_enter_9 : decode cX2_enter 9 = .ok (.istore_n 3, 1) := by decide +kernel
theorem dX2_enter_10 : decode cX2_enter 10 = .ok (.iload_n 3, 1) := by decide +kernel
theorem dX2_enter_11 : decode cX2_enter 11 = .ok (.aload_n 0, 1) := by decide +kernel
theorem dX2_enter_12 : decode cX2_enter 12 = .ok (.getfield 15, 3) := by decide +kernel
theorem dX2_enter_15 : decode cX2_enter 15 = .ok (.arraylength, 1) := by decide +kernel
theorem dX2_enter_16 : decode cX2_enter 16 = .ok (.if_icmp .ge 55, 3) := by decide +kernel
theorem dX2_enter_19 : decode cX2_enter 19 = .ok (.iload_n 2, 1) := by decide +kernel
theorem dX2_enter_20 : decode cX2_enter 20 = .ok (.ifCond .lt 12, 3) := by decide +kernel
theorem dX2_enter_23 : decode cX2_enter 23 = .ok (.iload_n 2, 1) := by decide +kernel
theorem dX2_enter_24 : decode cX2_enter 24 = .ok (.aload_n 0, 1) := by decide +kernel
theorem dX2_enter_25 : decode cX2_enter 25 = .ok (.getfield 15, 3) := by decide +kernel
theorem dX2_enter_28 : decode cX2_enter 28 = .ok (.arraylength, 1) := by decide +kernel
theorem dX2_enter_29 : decode cX2_enter 29 = .ok (.if_icmp .lt 5, 3) := by decide +kernel
theorem dX2_enter_32 : decode cX2_enter 32 = .ok (.iconst 0, 1) := by decide +kernel
theorem dX2_enter_33 : decode cX2_enter 33 = .ok (.istore_n 2, 1) := by decide +kernel
theorem dX2_enter_34 : decode cX2_enter 34 = .ok (.aload_n 0, 1) := by decide +kernel
theorem dX2_enter_35 : decode cX2_enter 35 = .ok (.getfield 15, 3) := by decide +kernel
theorem dX2_enter_38 : decode cX2_enter 38 = .ok (.iload_n 2, 1) := by decide +kernel
theorem dX2_enter_39 : decode cX2_enter 39 = .ok (.iaload, 1) := by decide +kernel
theorem dX2_enter_40 : decode cX2_enter 40 = .ok (.iload_n 1, 1) := by decide +kernel
theorem dX2_enter_41 : decode cX2_enter 41 = .ok (.if_icmp .ne 4, 3) := by decide +kernel
theorem dX2_enter_44 : decode cX2_enter 44 = .ok (.return_, 1) := by decide +kernel
theorem dX2_enter_45 : decode cX2_enter 45 = .ok (.aload_n 0, 1) := by decide +kernel
theorem dX2_enter_46 : decode cX2_enter 46 = .ok (.getfield 15, 3) := by decide +kernel
theorem dX2_enter_49 : decode cX2_enter 49 = .ok (.iload_n 2, 1) := by decide +kernel
theorem dX2_enter_50 : decode cX2_enter 50 = .ok (.iaload, 1) := by decide +kernel
theorem dX2_enter_51 : decode cX2_enter 51 = .ok (.iconst (-1), 1) := by decide +kernel
theorem dX2_enter_52 : decode cX2_enter 52 = .ok (.if_icmp .ne 10, 3) := by decide +kernel
theorem dX2_enter_55 : decode cX2_enter 55 = .ok (.aload_n 0, 1) := by decide +kernel
theorem dX2_enter_56 : decode cX2_enter 56 = .ok (.iload_n 2, 1) := by decide +kernel
theorem dX2_enter_57 : decode cX2_enter 57 = .ok (.iload_n 1, 1) := by decide +kernel
theorem dX2_enter_58 : decode cX2_enter 58 = .ok (.invokevirtual 56, 3) := by decide +kernel
theorem dX2_enter_61 : decode cX2_enter 61 = .ok (.return_, 1) := by decide +kernel
theorem dX2_enter_62 : decode cX2_enter 62 = .ok (.iinc 2 1, 3) := by decide +kernel
theorem dX2_enter_65 : decode cX2_enter 65 = .ok (.iinc 3 1, 3) := by decide +kernel
theorem dX2_enter_68 : decode cX2_enter 68 = .ok (.goto (-58), 3) := by decide +kernel
theorem dX2_enter_71 : decode cX2_enter 71 = .ok (.return_, 1) := by decide +kernel
theorem dX2_append_0 : decode cX2_append 0 = .ok (.aload_n 0, 1) := by decide +kernel
theorem dX2_append_1 : decode cX2_append 1 = .ok (.getfield 24, 3) := by decide +kernel
theorem dX2_append_4 : decode cX2_append 4 = .ok (.aload_n 0, 1) := by decide +kernel
theorem dX2_append_5 : decode cX2_append 5 = .ok (.getfield 9, 3) := by decide +kernel
theorem dX2_append_8 : decode cX2_append 8 = .ok (.arraylength, 1) := by decide +kernel
theorem dX2_append_9 : decode cX2_append 9 = .ok (.if_icmp .ge 10, 3) := by decide +kernel
theorem dX2_append_12 : decode cX2_append 12 = .ok (.aload_n 0, 1) := by decide +kernel
theorem dX2_append_13 : decode cX2_append 13 = .ok (.getfield 24, 3) := by decide +kernel
theorem dX2_append_16 : decode cX2_append 16 = .ok (.ifCond .ge 4, 3) := by decide +kernel
theorem dX2_append_19 : decode cX2_append 19 = .ok (.return_, 1) := by decide +kernel
theorem dX2_append_20 : decode cX2_append 20 = .ok (.iload_n 1, 1) := by decide +kernel
theorem dX2_append_21 : decode cX2_append 21 = .ok (.ifCond .lt 12, 3) := by decide +kernel
theorem dX2_append_24 : decode cX2_append 24 = .ok (.iload_n 1, 1) := by decide +kernel
theorem dX2_append_25 : decode cX2_append 25 = .ok (.aload_n 0, 1) := by decide +kernel
theorem dX2_append_26 : decode cX2_append 26 = .ok (.getfield 15, 3) := by decide +kernel
theorem dX2_append_29 : decode cX2_append 29 = .ok (.arraylength, 1) := by decide +kernel
theorem dX2_append_30 : decode cX2_append 30 = .ok (.if_icmp .lt 4, 3) := by decide +kernel
theorem dX2_append_33 : decode cX2_append 33 = .ok (.return_, 1) := by decide +kernel
theorem dX2_append_34 : decode cX2_append 34 = .ok (.aload_n 0, 1) := by decide +kernel
theorem dX2_append_35 : decode cX2_append 35 = .ok (.getfield 15, 3) := by decide +kernel
theorem dX2_append_38 : decode cX2_append 38 = .ok (.iload_n 1, 1) := by decide +kernel
theorem dX2_append_39 : decode cX2_append 39 = .ok (.iload_n 2, 1) := by decide +kernel
theorem dX2_append_40 : decode cX2_append 40 = .ok (.iastore, 1) := by decide +kernel
theorem dX2_append_41 : decode cX2_append 41 = .ok (.aload_n 0, 1) := by decide +kernel
theorem dX2_append_42 : decode cX2_append 42 = .ok (.getfield 9, 3) := by decide +kernel
theorem dX2_append_45 : decode cX2_append 45 = .ok (.aload_n 0, 1) := by decide +kernel
theorem dX2_append_46 : decode cX2_append 46 = .ok (.getfield 24, 3) := by decide +kernel
theorem dX2_append_49 : decode cX2_append 49 = .ok (.iload_n 2, 1) := by decide +kernel
theorem dX2_append_50 : decode cX2_append 50 = .ok (.iastore, 1) := by decide +kernel
theorem dX2_append_51 : decode cX2_append 51 = .ok (.aload_n 0, 1) := by decide +kernel
theorem dX2_append_52 : decode cX2_append 52 = .ok (.dup, 1) := by decide +kernel
theorem dX2_append_53 : decode cX2_append 53 = .ok (.getfield 24, 3) := by decide +kernel
theorem dX2_append_56 : decode cX2_append 56 = .ok (.iconst 1, 1) := by decide +kernel
theorem dX2_append_57 : decode cX2_append 57 = .ok (.iadd, 1) := by decide +kernel
theorem dX2_append_58 : decode cX2_append 58 = .ok (.putfield 24, 3) := by decide +kernel
theorem dX2_append_61 : decode cX2_append 61 = .ok (.return_, 1) := by decide +kernel
theorem dX3_init_0 : decode cX3_init 0 = .ok (.aload_n 0, 1) := by decide +kernel
theorem dX3_init_1 : decode cX3_init 1 = .ok (.invokespecial 3, 3) := by decide +kernel
theorem dX3_init_4 : decode cX3_init 4 = .ok (.aload_n 0, 1) := by decide +kernel
theorem dX3_init_5 : decode cX3_init 5 = .ok (.bipush 70, 2) := by decide +kernel
theorem dX3_init_7 : decode cX3_init 7 = .ok (.newarray .boolean, 2) := by decide +kernel
theorem dX3_init_9 : decode cX3_init 9 = .ok (.putfield 9, 3) := by decide +kernel
theorem dX3_init_12 : decode cX3_init 12 = .ok (.aload_n 0, 1) := by decide +kernel
theorem dX3_init_13 : decode cX3_init 13 = .ok (.bipush 8, 2) := by decide +kernel
theorem dX3_init_15 : decode cX3_init 15 = .ok (.newarray .int, 2) := by decide +kernel
theorem dX3_init_17 : decode cX3_init 17 = .ok (.putfield 15, 3) := by decide +kernel
theorem dX3_init_20 : decode cX3_init 20 = .ok (.return_, 1) := by decide +kernel
theorem dX3_play_0 : decode cX3_play 0 = .ok (.aload_n 0, 1) := by decide +kernel
theorem dX3_play_1 : decode cX3_play 1 = .ok (.iload 5, 2) := by decide +kernel
theorem dX3_play_3 : decode cX3_play 3 = .ok (.putfield 19, 3) := by decide +kernel
theorem dX3_play_6 : decode cX3_play 6 = .ok (.aload_n 0, 1) := by decide +kernel
theorem dX3_play_7 : decode cX3_play 7 = .ok (.iconst 0, 1) := by decide +kernel
theorem dX3_play_8 : decode cX3_play 8 = .ok (.putfield 23, 3) := by decide +kernel
theorem dX3_play_11 : decode cX3_play 11 = .ok (.aload_n 0, 1) := by decide +kernel
theorem dX3_play_12 : decode cX3_play 12 = .ok (.iconst 0, 1) := by decide +kernel
theorem dX3_play_13 : decode cX3_play 13 = .ok (.putfield 26, 3) := by decide +kernel
theorem dX3_play_16 : decode cX3_play 16 = .ok (.iconst 0, 1) := by decide +kernel
theorem dX3_play_17 : decode cX3_play 17 = .ok (.istore 6, 2) := by decide +kernel
theorem dX3_play_19 : decode cX3_play 19 = .ok (.iload 6, 2) := by decide +kernel
theorem dX3_play_21 : decode cX3_play 21 = .ok (.iload 4, 2) := by decide +kernel
theorem dX3_play_23 : decode cX3_play 23 = .ok (.if_icmp .ge 42, 3) := by decide +kernel
theorem dX3_play_26 : decode cX3_play 26 = .ok (.aload_n 0, 1) := by decide +kernel
theorem dX3_play_27 : decode cX3_play 27 = .ok (.aload_n 1, 1) := by decide +kernel
theorem dX3_play_28 : decode cX3_play 28 = .ok (.iload_n 3, 1) := by decide +kernel
theorem dX3_play_29 : decode cX3_play 29 = .ok (.invokevirtual 29, 3) := by decide +kernel
theorem dX3_play_32 : decode cX3_play 32 = .ok (.invokevirtual 35, 3) := by decide +kernel
theorem dX3_play_35 : decode cX3_play 35 = .ok (.aload_n 0, 1) := by decide +kernel
theorem dX3_play_36 : decode cX3_play 36 = .ok (.aload_n 1, 1) := by decide +kernel
theorem dX3_play_37 : decode cX3_play 37 = .ok (.iload_n 3, 1) := by decide +kernel
theorem dX3_play_38 : decode cX3_play 38 = .ok (.invokevirtual 39, 3) := by decide +kernel
theorem dX3_play_41 : decode cX3_play 41 = .ok (.aload_n 0, 1) := by decide +kernel
theorem dX3_play_42 : decode cX3_play 42 = .ok (.iload_n 2, 1) := by decide +kernel
theorem dX3_play_43 : decode cX3_play 43 = .ok (.invokevirtual 43, 3) := by decide +kernel
theorem dX3_play_46 : decode cX3_play 46 = .ok (.ifCond .eq 13, 3) := by decide +kernel
theorem dX3_play_49 : decode cX3_play 49 = .ok (.aload_n 0, 1) := by decide +kernel
theorem dX3_play_50 : decode cX3_play 50 = .ok (.dup, 1) := by decide +kernel
theorem dX3_play_51 : decode cX3_play 51 = .ok (.getfield 23, 3) := by decide +kernel
theorem dX3_play_54 : decode cX3_play 54 = .ok (.iconst 1, 1) := by decide +kernel
theorem dX3_play_55 : decode cX3_play 55 = .ok (.iadd, 1) := by decide +kernel
theorem dX3_play_56 : decode cX3_play 56 = .ok (.putfield 23, 3) := by decide +kernel
theorem dX3_play_59 : decode cX3_play 59 = .ok (.iinc 6 1, 3) := by decide +kernel
theorem dX3_play_62 : decode cX3_play 62 = .ok (.goto (-43), 3) := by decide +kernel
theorem dX3_play_65 : decode cX3_play 65 = .ok (.return_, 1) := by decide +kernel
theorem dX3_drawOrbits_0 : decode cX3_drawOrbits 0 = .ok (.iconst 0, 1) := by decide +kernel
theorem dX3_drawOrbits_1 : decode cX3_drawOrbits 1 = .ok (.istore_n 2, 1) := by decide +kernel
theorem dX3_drawOrbits_2 : decode cX3_drawOrbits 2 = .ok (.iload_n 2, 1) := by decide +kernel
theorem dX3_drawOrbits_3 : decode cX3_drawOrbits 3 = .ok (.iload_n 1, 1) := by decide +kernel
theorem dX3_drawOrbits_4 : decode cX3_drawOrbits 4 = .ok (.if_icmp .ge 37, 3) := by decide +kernel
theorem dX3_drawOrbits_7 : decode cX3_drawOrbits 7 = .ok (.iload_n 2, 1) := by decide +kernel
theorem dX3_drawOrbits_8 : decode cX3_drawOrbits 8 = .ok (.aload_n 0, 1) := by decide +kernel
theorem dX3_drawOrbits_9 : decode cX3_drawOrbits 9 = .ok (.getfield 9, 3) := by decide +kernel
theorem dX3_drawOrbits_12 : decode cX3_drawOrbits 12 = .ok (.arraylength, 1) := by decide +kernel
theorem dX3_drawOrbits_13 : decode cX3_drawOrbits 13 = .ok (.if_icmp .ge 28, 3) := by decide +kernel
theorem dX3_drawOrbits_16 : decode cX3_drawOrbits 16 = .ok (.aload_n 0, 1) := by decide +kernel
theorem dX3_drawOrbits_17 : decode cX3_drawOrbits 17 = .ok (.getfield 9, 3) := by decide +kernel
theorem dX3_drawOrbits_20 : decode cX3_drawOrbits 20 = .ok (.iload_n 2, 1) := by decide +kernel
theorem dX3_drawOrbits_21 : decode cX3_drawOrbits 21 = .ok (.aload_n 0, 1) := by decide +kernel
theorem dX3_drawOrbits_22 : decode cX3_drawOrbits 22 = .ok (.invokevirtual 47, 3) := by decide +kernel
theorem dX3_drawOrbits_25 : decode cX3_drawOrbits 25 = .ok (.iconst 1, 1) := by decide +kernel
theorem dX3_drawOrbits_26 : decode cX3_drawOrbits 26 = .ok (.if_icmp .ne 7, 3) := by decide +kernel
theorem dX3_drawOrbits_29 : decode cX3_drawOrbits 29 = .ok (.iconst 1, 1) := by decide +kernel
theorem dX3_drawOrbits_30 : decode cX3_drawOrbits 30 = .ok (.goto 4, 3) := by decide +kernel
theorem dX3_drawOrbits_33 : decode cX3_drawOrbits 33 = .ok (.iconst 0, 1) := by decide +kernel
theorem dX3_drawOrbits_34 : decode cX3_drawOrbits 34 = .ok (.bastore, 1) := by decide +kernel
theorem dX3_drawOrbits_35 : decode cX3_drawOrbits 35 = .ok (.iinc 2 1, 3) := by decide +kernel
theorem dX3_drawOrbits_38 : decode cX3_drawOrbits 38 = .ok (.goto (-36), 3) := by decide +kernel
theorem dX3_drawOrbits_41 : decode cX3_drawOrbits 41 = .ok (.return_, 1) := by decide +kernel
theorem dX3_drawBelowTwo_0 : decode cX3_drawBelowTwo 0 = .ok (.aload_n 0, 1) := by decide +kernel
theorem dX3_drawBelowTwo_1 : decode cX3_drawBelowTwo 1 = .ok (.aload_n 0, 1) := by decide +kernel
theorem dX3_drawBelowTwo_2 : decode cX3_drawBelowTwo 2 = .ok (.getfield 19, 3) := by decide +kernel
theorem dX3_drawBelowTwo_5 : decode cX3_drawBelowTwo 5 = .ok (.ldc 51, 2) := by decide +kernel
theorem dX3_drawBelowTwo_7 : decode cX3_drawBelowTwo 7 = .ok (.imul, 1) := by decide +kernel
theorem dX3_drawBelowTwo_8 : decode cX3_drawBelowTwo 8 = .ok (.sipush 12345, 3) := by decide +kernel
theorem dX3_drawBelowTwo_11 : decode cX3_drawBelowTwo 11 = .ok (.iadd, 1) := by decide +kernel
theorem dX3_drawBelowTwo_12 : decode cX3_drawBelowTwo 12 = .ok (.putfield 19, 3) := by decide +kernel
theorem dX3_drawBelowTwo_15 : decode cX3_drawBelowTwo 15 = .ok (.aload_n 0, 1) := by decide +kernel
theorem dX3_drawBelowTwo_16 : decode cX3_drawBelowTwo 16 = .ok (.getfield 19, 3) := by decide +kernel
theorem dX3_drawBelowTwo_19 : decode cX3_drawBelowTwo 19 = .ok (.ldc 54, 2) := by decide +kernel
theorem dX3_drawBelowTwo_21 : decode cX3_drawBelowTwo 21 = .ok (.iand, 1) := by decide +kernel
theorem dX3_drawBelowTwo_22 : decode cX3_drawBelowTwo 22 = .ok (.ldc 55, 2) := by decide +kernel
theorem dX3_drawBelowTwo_24 : decode cX3_drawBelowTwo 24 = .ok (.idiv, 1) := by decide +kernel
theorem dX3_drawBelowTwo_25 : decode cX3_drawBelowTwo 25 = .ok (.iconst 2, 1) := by decide +kernel
theorem dX3_drawBelowTwo_26 : decode cX3_drawBelowTwo 26 = .ok (.irem, 1) := by decide +kernel
theorem dX3_drawBelowTwo_27 : decode cX3_drawBelowTwo 27 = .ok (.ireturn, 1) := by decide +kernel
theorem dX3_countSets_0 : decode cX3_countSets 0 = .ok (.aload_n 0, 1) := by decide +kernel
theorem dX3_countSets_1 : decode cX3_countSets 1 = .ok (.getfield 15, 3) := by decide +kernel
theorem dX3_countSets_4 : decode cX3_countSets 4 = .ok (.iconst 0, 1) := by decide +kernel
theorem dX3_countSets_5 : decode cX3_countSets 5 = .ok (.invokestatic 56, 3) := by decide +kernel
theorem dX3_countSets_8 : decode cX3_countSets 8 = .ok (.iconst 0, 1) := by decide +kernel
theorem dX3_countSets_9 : decode cX3_countSets 9 = .ok (.istore_n 3, 1) := by decide +kernel
theorem dX3_countSets_10 : decode cX3_countSets 10 = .ok (.iload_n 3, 1) := by decide +kernel
theorem dX3_countSets_11 : decode cX3_countSets 11 = .ok (.sipush 256, 3) := by decide +kernel
theorem dX3_countSets_14 : decode cX3_countSets 14 = .ok (.if_icmp .ge 54, 3) := by decide +kernel
theorem dX3_countSets_17 : decode cX3_countSets 17 = .ok (.aload_n 1, 1) := by decide +kernel
theorem dX3_countSets_18 : decode cX3_countSets 18 = .ok (.iload_n 3, 1) := by decide +kernel
theorem dX3_countSets_19 : decode cX3_countSets 19 = .ok (.invokevirtual 62, 3) := by decide +kernel
theorem dX3_countSets_22 : decode cX3_countSets 22 = .ok (.istore 4, 2) := by decide +kernel
theorem dX3_countSets_24 : decode cX3_countSets 24 = .ok (.iload 4, 2) := by decide +kernel
theorem dX3_countSets_26 : decode cX3_countSets 26 = .ok (.ifCond .lt 36, 3) := by decide +kernel
theorem dX3_countSets_29 : decode cX3_countSets 29 = .ok (.iload 4, 2) := by decide +kernel
theorem dX3_countSets_31 : decode cX3_countSets 31 = .ok (.aload_n 0, 1) := by decide +kernel
theorem dX3_countSets_32 : decode cX3_countSets 32 = .ok (.getfield 9, 3) := by decide +kernel
theorem dX3_countSets_35 : decode cX3_countSets 35 = .ok (.arraylength, 1) := by decide +kernel
theorem dX3_countSets_36 : decode cX3_countSets 36 = .ok (.if_icmp .ge 26, 3) := by decide +kernel
theorem dX3_countSets_39 : decode cX3_countSets 39 = .ok (.aload_n 0, 1) := by decide +kernel
theorem dX3_countSets_40 : decode cX3_countSets 40 = .ok (.getfield 9, 3) := by decide +kernel
theorem dX3_countSets_43 : decode cX3_countSets 43 = .ok (.iload 4, 2) := by decide +kernel
theorem dX3_countSets_45 : decode cX3_countSets 45 = .ok (.baload, 1) := by decide +kernel
theorem dX3_countSets_46 : decode cX3_countSets 46 = .ok (.ifCond .eq 16, 3) := by decide +kernel
theorem dX3_countSets_49 : decode cX3_countSets 49 = .ok (.iload_n 3, 1) := by decide +kernel
theorem dX3_countSets_50 : decode cX3_countSets 50 = .ok (.invokestatic 65, 3) := by decide +kernel
theorem dX3_countSets_53 : decode cX3_countSets 53 = .ok (.iload_n 2, 1) := by decide +kernel
theorem dX3_countSets_54 : decode cX3_countSets 54 = .ok (.if_icmp .ne 8, 3) := by decide +kernel
theorem dX3_countSets_57 : decode cX3_countSets 57 = .ok (.aload_n 0, 1) := by decide +kernel
theorem dX3_countSets_58 : decode cX3_countSets 58 = .ok (.iload_n 3, 1) := by decide +kernel
theorem dX3_countSets_59 : decode cX3_countSets 59 = .ok (.invokevirtual 68, 3) := by decide +kernel
theorem dX3_countSets_62 : decode cX3_countSets 62 = .ok (.iinc 3 1, 3) := by decide +kernel
theorem dX3_countSets_65 : decode cX3_countSets 65 = .ok (.goto (-55), 3) := by decide +kernel
theorem dX3_countSets_68 : decode cX3_countSets 68 = .ok (.return_, 1) := by decide +kernel
theorem dX3_countSet_0 : decode cX3_countSet 0 = .ok (.aload_n 0, 1) := by decide +kernel
theorem dX3_countSet_1 : decode cX3_countSet 1 = .ok (.dup, 1) := by decide +kernel
theorem dX3_countSet_2 : decode cX3_countSet 2 = .ok (.getfield 26, 3) := by decide +kernel
theorem dX3_countSet_5 : decode cX3_countSet 5 = .ok (.iconst 1, 1) := by decide +kernel
theorem dX3_countSet_6 : decode cX3_countSet 6 = .ok (.iadd, 1) := by decide +kernel
theorem dX3_countSet_7 : decode cX3_countSet 7 = .ok (.putfield 26, 3) := by decide +kernel
theorem dX3_countSet_10 : decode cX3_countSet 10 = .ok (.iconst 0, 1) := by decide +kernel
theorem dX3_countSet_11 : decode cX3_countSet 11 = .ok (.istore_n 2, 1) := by decide +kernel
theorem dX3_countSet_12 : decode cX3_countSet 12 = .ok (.iload_n 2, 1) := by decide +kernel
theorem dX3_countSet_13 : decode cX3_countSet 13 = .ok (.aload_n 0, 1) := by decide +kernel
theorem dX3_countSet_14 : decode cX3_countSet 14 = .ok (.getfield 15, 3) := by decide +kernel
theorem dX3_countSet_17 : decode cX3_countSet 17 = .ok (.arraylength, 1) := by decide +kernel
theorem dX3_countSet_18 : decode cX3_countSet 18 = .ok (.if_icmp .ge 23, 3) := by decide +kernel
theorem dX3_countSet_21 : decode cX3_countSet 21 = .ok (.aload_n 0, 1) := by decide +kernel
theorem dX3_countSet_22 : decode cX3_countSet 22 = .ok (.getfield 15, 3) := by decide +kernel
theorem dX3_countSet_25 : decode cX3_countSet 25 = .ok (.iload_n 2, 1) := by decide +kernel
theorem dX3_countSet_26 : decode cX3_countSet 26 = .ok (.dup2, 1) := by decide +kernel
theorem dX3_countSet_27 : decode cX3_countSet 27 = .ok (.iaload, 1) := by decide +kernel
theorem dX3_countSet_28 : decode cX3_countSet 28 = .ok (.iload_n 1, 1) := by decide +kernel
theorem dX3_countSet_29 : decode cX3_countSet 29 = .ok (.iload_n 2, 1) := by decide +kernel
theorem dX3_countSet_30 : decode cX3_countSet 30 = .ok (.ishr, 1) := by decide +kernel
theorem dX3_countSet_31 : decode cX3_countSet 31 = .ok (.iconst 1, 1) := by decide +kernel
theorem dX3_countSet_32 : decode cX3_countSet 32 = .ok (.iand, 1) := by decide +kernel
theorem dX3_countSet_33 : decode cX3_countSet 33 = .ok (.iadd, 1) := by decide +kernel
theorem dX3_countSet_34 : decode cX3_countSet 34 = .ok (.iastore, 1) := by decide +kernel
theorem dX3_countSet_35 : decode cX3_countSet 35 = .ok (.iinc 2 1, 3) := by decide +kernel
theorem dX3_countSet_38 : decode cX3_countSet 38 = .ok (.goto (-26), 3) := by decide +kernel
theorem dX3_countSet_41 : decode cX3_countSet 41 = .ok (.return_, 1) := by decide +kernel
theorem dX3_isEven_0 : decode cX3_isEven 0 = .ok (.iconst 1, 1) := by decide +kernel
theorem dX3_isEven_1 : decode cX3_isEven 1 = .ok (.istore_n 2, 1) := by decide +kernel
theorem dX3_isEven_2 : decode cX3_isEven 2 = .ok (.iload_n 2, 1) := by decide +kernel
theorem dX3_isEven_3 : decode cX3_isEven 3 = .ok (.iload_n 1, 1) := by decide +kernel
theorem dX3_isEven_4 : decode cX3_isEven 4 = .ok (.if_icmp .ge 37, 3) := by decide +kernel
theorem dX3_isEven_7 : decode cX3_isEven 7 = .ok (.iload_n 2, 1) := by decide +kernel
theorem dX3_isEven_8 : decode cX3_isEven 8 = .ok (.aload_n 0, 1) := by decide +kernel
theorem dX3_isEven_9 : decode cX3_isEven 9 = .ok (.getfield 15, 3) := by decide +kernel
theorem dX3_isEven_12 : decode cX3_isEven 12 = .ok (.arraylength, 1) := by decide +kernel
theorem dX3_isEven_13 : decode cX3_isEven 13 = .ok (.if_icmp .ge 28, 3) := by decide +kernel
theorem dX3_isEven_16 : decode cX3_isEven 16 = .ok (.aload_n 0, 1) := by decide +kernel
theorem dX3_isEven_17 : decode cX3_isEven 17 = .ok (.getfield 15, 3) := by decide +kernel
theorem dX3_isEven_20 : decode cX3_isEven 20 = .ok (.iload_n 2, 1) := by decide +kernel
theorem dX3_isEven_21 : decode cX3_isEven 21 = .ok (.iaload, 1) := by decide +kernel
theorem dX3_isEven_22 : decode cX3_isEven 22 = .ok (.aload_n 0, 1) := by decide +kernel
theorem dX3_isEven_23 : decode cX3_isEven 23 = .ok (.getfield 15, 3) := by decide +kernel
theorem dX3_isEven_26 : decode cX3_isEven 26 = .ok (.iload_n 2, 1) := by decide +kernel
theorem dX3_isEven_27 : decode cX3_isEven 27 = .ok (.iconst 1, 1) := by decide +kernel
theorem dX3_isEven_28 : decode cX3_isEven 28 = .ok (.isub, 1) := by decide +kernel
theorem dX3_isEven_29 : decode cX3_isEven 29 = .ok (.iaload, 1) := by decide +kernel
theorem dX3_isEven_30 : decode cX3_isEven 30 = .ok (.if_icmp .eq 5, 3) := by decide +kernel
theorem dX3_isEven_33 : decode cX3_isEven 33 = .ok (.iconst 0, 1) := by decide +kernel
theorem dX3_isEven_34 : decode cX3_isEven 34 = .ok (.ireturn, 1) := by decide +kernel
theorem dX3_isEven_35 : decode cX3_isEven 35 = .ok (.iinc 2 1, 3) := by decide +kernel
theorem dX3_isEven_38 : decode cX3_isEven 38 = .ok (.goto (-36), 3) := by decide +kernel
theorem dX3_isEven_41 : decode cX3_isEven 41 = .ok (.iconst 1, 1) := by decide +kernel
theorem dX3_isEven_42 : decode cX3_isEven 42 = .ok (.ireturn, 1) := by decide +kernel
theorem dX4_init_0 : decode cX4_init 0 = .ok (.aload_n 0, 1) := by decide +kernel
theorem dX4_init_1 : decode cX4_init 1 = .ok (.invokespecial 3, 3) := by decide +kernel
theorem dX4_init_4 : decode cX4_init 4 = .ok (.aload_n 0, 1) := by decide +kernel
theorem dX4_init_5 : decode cX4_init 5 = .ok (.sipush 256, 3) := by decide +kernel
theorem dX4_init_8 : decode cX4_init 8 = .ok (.newarray .int, 2) := by decide +kernel
theorem dX4_init_10 : decode cX4_init 10 = .ok (.putfield 9, 3) := by decide +kernel
theorem dX4_init_13 : decode cX4_init 13 = .ok (.return_, 1) := by decide +kernel
theorem dX4_areAlike_0 : decode cX4_areAlike 0 = .ok (.aload_n 0, 1) := by decide +kernel
theorem dX4_areAlike_1 : decode cX4_areAlike 1 = .ok (.aload_n 1, 1) := by decide +kernel
theorem dX4_areAlike_2 : decode cX4_areAlike 2 = .ok (.aload_n 2, 1) := by decide +kernel
theorem dX4_areAlike_3 : decode cX4_areAlike 3 = .ok (.iload_n 3, 1) := by decide +kernel
theorem dX4_areAlike_4 : decode cX4_areAlike 4 = .ok (.iconst 0, 1) := by decide +kernel
theorem dX4_areAlike_5 : decode cX4_areAlike 5 = .ok (.iconst 0, 1) := by decide +kernel
theorem dX4_areAlike_6 : decode cX4_areAlike 6 = .ok (.invokevirtual 15, 3) := by decide +kernel
theorem dX4_areAlike_9 : decode cX4_areAlike 9 = .ok (.ireturn, 1) := by decide +kernel
theorem dX4_selvesOf_0 : decode cX4_selvesOf 0 = .ok (.iconst 1, 1) := by decide +kernel
theorem dX4_selvesOf_1 : decode cX4_selvesOf 1 = .ok (.istore_n 3, 1) := by decide +kernel
theorem dX4_selvesOf_2 : decode cX4_selvesOf 2 = .ok (.iconst 0, 1) := by decide +kernel
theorem dX4_selvesOf_3 : decode cX4_selvesOf 3 = .ok (.istore 4, 2) := by decide +kernel
theorem dX4_selvesOf_5 : decode cX4_selvesOf 5 = .ok (.iconst 0, 1) := by decide +kernel
theorem dX4_selvesOf_6 : decode cX4_selvesOf 6 = .ok (.istore 5, 2) := by decide +kernel
theorem dX4_selvesOf_8 : decode cX4_selvesOf 8 = .ok (.iload 5, 2) := by decide +kernel
theorem dX4_selvesOf_10 : decode cX4_selvesOf 10 = .ok (.iload_n 2, 1) := by decide +kernel
theorem dX4_selvesOf_11 : decode cX4_selvesOf 11 = .ok (.if_icmp .ge 109, 3) := by decide +kernel
theorem dX4_selvesOf_14 : decode cX4_selvesOf 14 = .ok (.iload 5, 2) := by decide +kernel
theorem dX4_selvesOf_16 : decode cX4_selvesOf 16 = .ok (.bipush 8, 2) := by decide +kernel
theorem dX4_selvesOf_18 : decode cX4_selvesOf 18 = .ok (.if_icmp .ge 102, 3) := by decide +kernel
theorem dX4_selvesOf_21 : decode cX4_selvesOf 21 = .ok (.iconst 0, 1) := by decide +kernel
theorem dX4_selvesOf_22 : decode cX4_selvesOf 22 = .ok (.istore 6, 2) := by decide +kernel
theorem dX4_selvesOf_24 : decode cX4_selvesOf 24 = .ok (.iload 5, 2) := by decide +kernel
theorem dX4_selvesOf_26 : decode cX4_selvesOf 26 = .ok (.istore 7, 2) := by decide +kernel
theorem dX4_selvesOf_28 : decode cX4_selvesOf 28 = .ok (.iload 7, 2) := by decide +kernel
theorem dX4_selvesOf_30 : decode cX4_selvesOf 30 = .ok (.iload_n 2, 1) := by decide +kernel
theorem dX4_selvesOf_31 : decode cX4_selvesOf 31 = .ok (.if_icmp .ge 58, 3) := by decide +kernel
theorem dX4_selvesOf_34 : decode cX4_selvesOf 34 = .ok (.aload_n 0, 1) := by decide +kernel
theorem dX4_selvesOf_35 : decode cX4_selvesOf 35 = .ok (.aload_n 1, 1) := by decide +kernel
theorem dX4_selvesOf_36 : decode cX4_selvesOf 36 = .ok (.aload_n 1, 1) := by decide +kernel
theorem dX4_selvesOf_37 : decode cX4_selvesOf 37 = .ok (.iload 5, 2) := by decide +kernel
theorem dX4_selvesOf_39 : decode cX4_selvesOf 39 = .ok (.iload 7, 2) := by decide +kernel
theorem dX4_selvesOf_41 : decode cX4_selvesOf 41 = .ok (.invokevirtual 19, 3) := by decide +kernel
theorem dX4_selvesOf_44 : decode cX4_selvesOf 44 = .ok (.ifCond .eq 28, 3) := by decide +kernel
theorem dX4_selvesOf_47 : decode cX4_selvesOf 47 = .ok (.aload_n 0, 1) := by decide +kernel
theorem dX4_selvesOf_48 : decode cX4_selvesOf 48 = .ok (.aload_n 1, 1) := by decide +kernel
theorem dX4_selvesOf_49 : decode cX4_selvesOf 49 = .ok (.aload_n 1, 1) := by decide +kernel
theorem dX4_selvesOf_50 : decode cX4_selvesOf 50 = .ok (.iload_n 2, 1) := by decide +kernel
theorem dX4_selvesOf_51 : decode cX4_selvesOf 51 = .ok (.iload 5, 2) := by decide +kernel
theorem dX4_selvesOf_53 : decode cX4_selvesOf 53 = .ok (.iconst 1, 1) := by decide +kernel
theorem dX4_selvesOf_54 : decode cX4_selvesOf 54 = .ok (.iadd, 1) := by decide +kernel
theorem dX4_selvesOf_55 : decode cX4_selvesOf 55 = .ok (.iload 4, 2) := by decide +kernel
theorem dX4_selvesOf_57 : decode cX4_selvesOf 57 = .ok (.iconst 1, 1) := by decide +kernel
theorem dX4_selvesOf_58 : decode cX4_selvesOf 58 = .ok (.iload 7, 2) := by decide +kernel
theorem dX4_selvesOf_60 : decode cX4_selvesOf 60 = .ok (.ishl, 1) := by decide +kernel
theorem dX4_selvesOf_61 : decode cX4_selvesOf 61 = .ok (.ior, 1) := by decide +kernel
theorem dX4_selvesOf_62 : decode cX4_selvesOf 62 = .ok (.invokevirtual 15, 3) := by decide +kernel
theorem dX4_selvesOf_65 : decode cX4_selvesOf 65 = .ok (.ifCond .eq 7, 3) := by decide +kernel
theorem dX4_selvesOf_68 : decode cX4_selvesOf 68 = .ok (.iconst 1, 1) := by decide +kernel
theorem dX4_selvesOf_69 : decode cX4_selvesOf 69 = .ok (.goto 4, 3) := by decide +kernel
theorem dX4_selvesOf_72 : decode cX4_selvesOf 72 = .ok (.iconst 0, 1) := by decide +kernel
theorem dX4_selvesOf_73 : decode cX4_selvesOf 73 = .ok (.istore 8, 2) := by decide +kernel
theorem dX4_selvesOf_75 : decode cX4_selvesOf 75 = .ok (.iload 8, 2) := by decide +kernel
theorem dX4_selvesOf_77 : decode cX4_selvesOf 77 = .ok (.ifCond .eq 6, 3) := by decide +kernel
theorem dX4_selvesOf_80 : decode cX4_selvesOf 80 = .ok (.iinc 6 1, 3) := by decide +kernel
theorem dX4_selvesOf_83 : decode cX4_selvesOf 83 = .ok (.iinc 7 1, 3) := by decide +kernel
theorem dX4_selvesOf_86 : decode cX4_selvesOf 86 = .ok (.goto (-58), 3) := by decide +kernel
theorem dX4_selvesOf_89 : decode cX4_selvesOf 89 = .ok (.iload_n 3, 1) := by decide +kernel
theorem dX4_selvesOf_90 : decode cX4_selvesOf 90 = .ok (.iload 6, 2) := by decide +kernel
theorem dX4_selvesOf_92 : decode cX4_selvesOf 92 = .ok (.imul, 1) := by decide +kernel
theorem dX4_selvesOf_93 : decode cX4_selvesOf 93 = .ok (.istore_n 3, 1) := by decide +kernel
theorem dX4_selvesOf_94 : decode cX4_selvesOf 94 = .ok (.aload_n 0, 1) := by decide +kernel
theorem dX4_selvesOf_95 : decode cX4_selvesOf 95 = .ok (.aload_n 1, 1) := by decide +kernel
theorem dX4_selvesOf_96 : decode cX4_selvesOf 96 = .ok (.aload_n 1, 1) := by decide +kernel
theorem dX4_selvesOf_97 : decode cX4_selvesOf 97 = .ok (.iload 5, 2) := by decide +kernel
theorem dX4_selvesOf_99 : decode cX4_selvesOf 99 = .ok (.iload 5, 2) := by decide +kernel
theorem dX4_selvesOf_101 : decode cX4_selvesOf 101 = .ok (.invokevirtual 19, 3) := by decide +kernel
theorem dX4_selvesOf_104 : decode cX4_selvesOf 104 = .ok (.pop, 1) := by decide +kernel
theorem dX4_selvesOf_105 : decode cX4_selvesOf 105 = .ok (.iload 4, 2) := by decide +kernel
theorem dX4_selvesOf_107 : decode cX4_selvesOf 107 = .ok (.iconst 1, 1) := by decide +kernel
theorem dX4_selvesOf_108 : decode cX4_selvesOf 108 = .ok (.iload 5, 2) := by decide +kernel
theorem dX4_selvesOf_110 : decode cX4_selvesOf 110 = .ok (.ishl, 1) := by decide +kernel
theorem dX4_selvesOf_111 : decode cX4_selvesOf 111 = .ok (.ior, 1) := by decide +kernel
theorem dX4_selvesOf_112 : decode cX4_selvesOf 112 = .ok (.istore 4, 2) := by decide +kernel
theorem dX4_selvesOf_114 : decode cX4_selvesOf 114 = .ok (.iinc 5 1, 3) := by decide +kernel
theorem dX4_selvesOf_117 : decode cX4_selvesOf 117 = .ok (.goto (-109), 3) := by decide +kernel
theorem dX4_selvesOf_120 : decode cX4_selvesOf 120 = .ok (.iload_n 3, 1) := by decide +kernel
theorem dX4_selvesOf_121 : decode cX4_selvesOf 121 = .ok (.ireturn, 1) := by decide +kernel
theorem dX4_canPlace_0 : decode cX4_canPlace 0 = .ok (.iload 4, 2) := by decide +kernel
theorem dX4_canPlace_2 : decode cX4_canPlace 2 = .ok (.iload_n 3, 1) := by decide +kernel
theorem dX4_canPlace_3 : decode cX4_canPlace 3 = .ok (.if_icmp .ge 10, 3) := by decide +kernel
theorem dX4_canPlace_6 : decode cX4_canPlace 6 = .ok (.iload 4, 2) := by decide +kernel
theorem dX4_canPlace_8 : decode cX4_canPlace 8 = .ok (.bipush 8, 2) := by decide +kernel
theorem dX4_canPlace_10 : decode cX4_canPlace 10 = .ok (.if_icmp .lt 5, 3) := by decide +kernel
theorem dX4_canPlace_13 : decode cX4_canPlace 13 = .ok (.iconst 1, 1) := by decide +kernel
theorem dX4_canPlace_14 : decode cX4_canPlace 14 = .ok (.ireturn, 1) := by decide +kernel
theorem dX4_canPlace_15 : decode cX4_canPlace 15 = .ok (.iconst 0, 1) := by decide +kernel
theorem dX4_canPlace_16 : decode cX4_canPlace 16 = .ok (.istore 6, 2) := by decide +kernel
theorem dX4_canPlace_18 : decode cX4_canPlace 18 = .ok (.iload 6, 2) := by decide +kernel
theorem dX4_canPlace_20 : decode cX4_canPlace 20 = .ok (.iload_n 3, 1) := by decide +kernel
theorem dX4_canPlace_21 : decode cX4_canPlace 21 = .ok (.if_icmp .ge 67, 3) := by decide +kernel
theorem dX4_canPlace_24 : decode cX4_canPlace 24 = .ok (.iload 5, 2) := by decide +kernel
theorem dX4_canPlace_26 : decode cX4_canPlace 26 = .ok (.iload 6, 2) := by decide +kernel
theorem dX4_canPlace_28 : decode cX4_canPlace 28 = .ok (.ishr, 1) := by decide +kernel
theorem dX4_canPlace_29 : decode cX4_canPlace 29 = .ok (.iconst 1, 1) := by decide +kernel
theorem dX4_canPlace_30 : decode cX4_canPlace 30 = .ok (.iand, 1) := by decide +kernel
theorem dX4_canPlace_31 : decode cX4_canPlace 31 = .ok (.ifCond .ne 7, 3) := by decide +kernel
theorem dX4_canPlace_34 : decode cX4_canPlace 34 = .ok (.iconst 1, 1) := by decide +kernel
theorem dX4_canPlace_35 : decode cX4_canPlace 35 = .ok (.goto 4, 3) := by decide +kernel
theorem dX4_canPlace_38 : decode cX4_canPlace 38 = .ok (.iconst 0, 1) := by decide +kernel
theorem dX4_canPlace_39 : decode cX4_canPlace 39 = .ok (.istore 7, 2) := by decide +kernel
theorem dX4_canPlace_41 : decode cX4_canPlace 41 = .ok (.iload 7, 2) := by decide +kernel
theorem dX4_canPlace_43 : decode cX4_canPlace 43 = .ok (.ifCond .eq 39, 3) := by decide +kernel
theorem dX4_canPlace_46 : decode cX4_canPlace 46 = .ok (.aload_n 0, 1) := by decide +kernel
theorem dX4_canPlace_47 : decode cX4_canPlace 47 = .ok (.aload_n 1, 1) := by decide +kernel
theorem dX4_canPlace_48 : decode cX4_canPlace 48 = .ok (.aload_n 2, 1) := by decide +kernel
theorem dX4_canPlace_49 : decode cX4_canPlace 49 = .ok (.iload 4, 2) := by decide +kernel
theorem dX4_canPlace_51 : decode cX4_canPlace 51 = .ok (.iload 6, 2) := by decide +kernel
theorem dX4_canPlace_53 : decode cX4_canPlace 53 = .ok (.invokevirtual 19, 3) := by decide +kernel
theorem dX4_canPlace_56 : decode cX4_canPlace 56 = .ok (.ifCond .eq 26, 3) := by decide +kernel
theorem dX4_canPlace_59 : decode cX4_canPlace 59 = .ok (.aload_n 0, 1) := by decide +kernel
theorem dX4_canPlace_60 : decode cX4_canPlace 60 = .ok (.aload_n 1, 1) := by decide +kernel
theorem dX4_canPlace_61 : decode cX4_canPlace 61 = .ok (.aload_n 2, 1) := by decide +kernel
theorem dX4_canPlace_62 : decode cX4_canPlace 62 = .ok (.iload_n 3, 1) := by decide +kernel
theorem dX4_canPlace_63 : decode cX4_canPlace 63 = .ok (.iload 4, 2) := by decide +kernel
theorem dX4_canPlace_65 : decode cX4_canPlace 65 = .ok (.iconst 1, 1) := by decide +kernel
theorem dX4_canPlace_66 : decode cX4_canPlace 66 = .ok (.iadd, 1) := by decide +kernel
theorem dX4_canPlace_67 : decode cX4_canPlace 67 = .ok (.iload 5, 2) := by decide +kernel
theorem dX4_canPlace_69 : decode cX4_canPlace 69 = .ok (.iconst 1, 1) := by decide +kernel
theorem dX4_canPlace_70 : decode cX4_canPlace 70 = .ok (.iload 6, 2) := by decide +kernel
theorem dX4_canPlace_72 : decode cX4_canPlace 72 = .ok (.ishl, 1) := by decide +kernel
theorem dX4_canPlace_73 : decode cX4_canPlace 73 = .ok (.ior, 1) := by decide +kernel
theorem dX4_canPlace_74 : decode cX4_canPlace 74 = .ok (.invokevirtual 15, 3) := by decide +kernel
theorem dX4_canPlace_77 : decode cX4_canPlace 77 = .ok (.ifCond .eq 5, 3) := by decide +kernel
theorem dX4_canPlace_80 : decode cX4_canPlace 80 = .ok (.iconst 1, 1) := by decide +kernel
theorem dX4_canPlace_81 : decode cX4_canPlace 81 = .ok (.ireturn, 1) := by decide +kernel
theorem dX4_canPlace_82 : decode cX4_canPlace 82 = .ok (.iinc 6 1, 3) := by decide +kernel
theorem dX4_canPlace_85 : decode cX4_canPlace 85 = .ok (.goto (-67), 3) := by decide +kernel
theorem dX4_canPlace_88 : decode cX4_canPlace 88 = .ok (.iconst 0, 1) := by decide +kernel
theorem dX4_canPlace_89 : decode cX4_canPlace 89 = .ok (.ireturn, 1) := by decide +kernel
theorem dX4_fits_0 : decode cX4_fits 0 = .ok (.iconst 1, 1) := by decide +kernel
theorem dX4_fits_1 : decode cX4_fits 1 = .ok (.iload_n 3, 1) := by decide +kernel
theorem dX4_fits_2 : decode cX4_fits 2 = .ok (.ishl, 1) := by decide +kernel
theorem dX4_fits_3 : decode cX4_fits 3 = .ok (.istore 5, 2) := by decide +kernel
theorem dX4_fits_5 : decode cX4_fits 5 = .ok (.iconst 0, 1) := by decide +kernel
theorem dX4_fits_6 : decode cX4_fits 6 = .ok (.istore 6, 2) := by decide +kernel
theorem dX4_fits_8 : decode cX4_fits 8 = .ok (.iload 6, 2) := by decide +kernel
theorem dX4_fits_10 : decode cX4_fits 10 = .ok (.iload 5, 2) := by decide +kernel
theorem dX4_fits_12 : decode cX4_fits 12 = .ok (.if_icmp .ge 77, 3) := by decide +kernel
theorem dX4_fits_15 : decode cX4_fits 15 = .ok (.iload 5, 2) := by decide +kernel
theorem dX4_fits_17 : decode cX4_fits 17 = .ok (.iload 6, 2) := by decide +kernel
theorem dX4_fits_19 : decode cX4_fits 19 = .ok (.iadd, 1) := by decide +kernel
theorem dX4_fits_20 : decode cX4_fits 20 = .ok (.aload_n 0, 1) := by decide +kernel
theorem dX4_fits_21 : decode cX4_fits 21 = .ok (.getfield 9, 3) := by decide +kernel
theorem dX4_fits_24 : decode cX4_fits 24 = .ok (.arraylength, 1) := by decide +kernel
theorem dX4_fits_25 : decode cX4_fits 25 = .ok (.if_icmp .ge 64, 3) := by decide +kernel
theorem dX4_fits_28 : decode cX4_fits 28 = .ok (.iload 6, 2) := by decide +kernel
theorem dX4_fits_30 : decode cX4_fits 30 = .ok (.ifCond .ne 7, 3) := by decide +kernel
theorem dX4_fits_33 : decode cX4_fits 33 = .ok (.iconst 0, 1) := by decide +kernel
theorem dX4_fits_34 : decode cX4_fits 34 = .ok (.goto 10, 3) := by decide +kernel
theorem dX4_fits_37 : decode cX4_fits 37 = .ok (.aload_n 0, 1) := by decide +kernel
theorem dX4_fits_38 : decode cX4_fits 38 = .ok (.getfield 9, 3) := by decide +kernel
theorem dX4_fits_41 : decode cX4_fits 41 = .ok (.iload 6, 2) := by decide +kernel
theorem dX4_fits_43 : decode cX4_fits 43 = .ok (.iaload, 1) := by decide +kernel
theorem dX4_fits_44 : decode cX4_fits 44 = .ok (.iconst 1, 1) := by decide +kernel
theorem dX4_fits_45 : decode cX4_fits 45 = .ok (.iload 4, 2) := by decide +kernel
theorem dX4_fits_47 : decode cX4_fits 47 = .ok (.ishl, 1) := by decide +kernel
theorem dX4_fits_48 : decode cX4_fits 48 = .ok (.ior, 1) := by decide +kernel
theorem dX4_fits_49 : decode cX4_fits 49 = .ok (.istore 7, 2) := by decide +kernel
theorem dX4_fits_51 : decode cX4_fits 51 = .ok (.aload_n 0, 1) := by decide +kernel
theorem dX4_fits_52 : decode cX4_fits 52 = .ok (.getfield 9, 3) := by decide +kernel
theorem dX4_fits_55 : decode cX4_fits 55 = .ok (.iload 5, 2) := by decide +kernel
theorem dX4_fits_57 : decode cX4_fits 57 = .ok (.iload 6, 2) := by decide +kernel
theorem dX4_fits_59 : decode cX4_fits 59 = .ok (.iadd, 1) := by decide +kernel
theorem dX4_fits_60 : decode cX4_fits 60 = .ok (.iload 7, 2) := by decide +kernel
theorem dX4_fits_62 : decode cX4_fits 62 = .ok (.iastore, 1) := by decide +kernel
theorem dX4_fits_63 : decode cX4_fits 63 = .ok (.aload_n 1, 1) := by decide +kernel
theorem dX4_fits_64 : decode cX4_fits 64 = .ok (.iload 5, 2) := by decide +kernel
theorem dX4_fits_66 : decode cX4_fits 66 = .ok (.iload 6, 2) := by decide +kernel
theorem dX4_fits_68 : decode cX4_fits 68 = .ok (.iadd, 1) := by decide +kernel
theorem dX4_fits_69 : decode cX4_fits 69 = .ok (.invokevirtual 23, 3) := by decide +kernel
theorem dX4_fits_72 : decode cX4_fits 72 = .ok (.aload_n 2, 1) := by decide +kernel
theorem dX4_fits_73 : decode cX4_fits 73 = .ok (.iload 7, 2) := by decide +kernel
theorem dX4_fits_75 : decode cX4_fits 75 = .ok (.invokevirtual 23, 3) := by decide +kernel
theorem dX4_fits_78 : decode cX4_fits 78 = .ok (.if_icmp .eq 5, 3) := by decide +kernel
theorem dX4_fits_81 : decode cX4_fits 81 = .ok (.iconst 0, 1) := by decide +kernel
theorem dX4_fits_82 : decode cX4_fits 82 = .ok (.ireturn, 1) := by decide +kernel
theorem dX4_fits_83 : decode cX4_fits 83 = .ok (.iinc 6 1, 3) := by decide +kernel
theorem dX4_fits_86 : decode cX4_fits 86 = .ok (.goto (-78), 3) := by decide +kernel
theorem dX4_fits_89 : decode cX4_fits 89 = .ok (.iconst 1, 1) := by decide +kernel
theorem dX4_fits_90 : decode cX4_fits 90 = .ok (.ireturn, 1) := by decide +kernel
theorem dX5_init_0 : decode cX5_init 0 = .ok (.aload_n 0, 1) := by decide +kernel
theorem dX5_init_1 : decode cX5_init 1 = .ok (.invokespecial 3, 3) := by decide +kernel
theorem dX5_init_4 : decode cX5_init 4 = .ok (.aload_n 0, 1) := by decide +kernel
theorem dX5_init_5 : decode cX5_init 5 = .ok (.sipush 256, 3) := by decide +kernel
theorem dX5_init_8 : decode cX5_init 8 = .ok (.newarray .int, 2) := by decide +kernel
theorem dX5_init_10 : decode cX5_init 10 = .ok (.putfield 9, 3) := by decide +kernel
theorem dX5_init_13 : decode cX5_init 13 = .ok (.aload_n 0, 1) := by decide +kernel
theorem dX5_init_14 : decode cX5_init 14 = .ok (.bipush 9, 2) := by decide +kernel
theorem dX5_init_16 : decode cX5_init 16 = .ok (.newarray .int, 2) := by decide +kernel
theorem dX5_init_18 : decode cX5_init 18 = .ok (.putfield 15, 3) := by decide +kernel
theorem dX5_init_21 : decode cX5_init 21 = .ok (.aload_n 0, 1) := by decide +kernel
theorem dX5_init_22 : decode cX5_init 22 = .ok (.sipush 256, 3) := by decide +kernel
theorem dX5_init_25 : decode cX5_init 25 = .ok (.newarray .int, 2) := by decide +kernel
theorem dX5_init_27 : decode cX5_init 27 = .ok (.putfield 18, 3) := by decide +kernel
theorem dX5_init_30 : decode cX5_init 30 = .ok (.return_, 1) := by decide +kernel
theorem dX5_find_0 : decode cX5_find 0 = .ok (.aload_n 0, 1) := by decide +kernel
theorem dX5_find_1 : decode cX5_find 1 = .ok (.getfield 9, 3) := by decide +kernel
theorem dX5_find_4 : decode cX5_find 4 = .ok (.iconst (-1), 1) := by decide +kernel
theorem dX5_find_5 : decode cX5_find 5 = .ok (.invokestatic 21, 3) := by decide +kernel
theorem dX5_find_8 : decode cX5_find 8 = .ok (.aload_n 0, 1) := by decide +kernel
theorem dX5_find_9 : decode cX5_find 9 = .ok (.getfield 15, 3) := by decide +kernel
theorem dX5_find_12 : decode cX5_find 12 = .ok (.iconst 0, 1) := by decide +kernel
theorem dX5_find_13 : decode cX5_find 13 = .ok (.invokestatic 21, 3) := by decide +kernel
theorem dX5_find_16 : decode cX5_find 16 = .ok (.iconst 0, 1) := by decide +kernel
theorem dX5_find_17 : decode cX5_find 17 = .ok (.istore_n 2, 1) := by decide +kernel
theorem dX5_find_18 : decode cX5_find 18 = .ok (.iload_n 2, 1) := by decide +kernel
theorem dX5_find_19 : decode cX5_find 19 = .ok (.aload_n 0, 1) := by decide +kernel
theorem dX5_find_20 : decode cX5_find 20 = .ok (.getfield 9, 3) := by decide +kernel
theorem dX5_find_23 : decode cX5_find 23 = .ok (.arraylength, 1) := by decide +kernel
theorem dX5_find_24 : decode cX5_find 24 = .ok (.if_icmp .ge 63, 3) := by decide +kernel
theorem dX5_find_27 : decode cX5_find 27 = .ok (.iload_n 2, 1) := by decide +kernel
theorem dX5_find_28 : decode cX5_find 28 = .ok (.aload_n 1, 1) := by decide +kernel
theorem dX5_find_29 : decode cX5_find 29 = .ok (.invokevirtual 27, 3) := by decide +kernel
theorem dX5_find_32 : decode cX5_find 32 = .ok (.if_icmp .gt 55, 3) := by decide +kernel
theorem dX5_find_35 : decode cX5_find 35 = .ok (.iload_n 2, 1) := by decide +kernel
theorem dX5_find_36 : decode cX5_find 36 = .ok (.invokestatic 33, 3) := by decide +kernel
theorem dX5_find_39 : decode cX5_find 39 = .ok (.istore_n 3, 1) := by decide +kernel
theorem dX5_find_40 : decode cX5_find 40 = .ok (.aload_n 0, 1) := by decide +kernel
theorem dX5_find_41 : decode cX5_find 41 = .ok (.getfield 9, 3) := by decide +kernel
theorem dX5_find_44 : decode cX5_find 44 = .ok (.iload_n 2, 1) := by decide +kernel
theorem dX5_find_45 : decode cX5_find 45 = .ok (.iaload, 1) := by decide +kernel
theorem dX5_find_46 : decode cX5_find 46 = .ok (.iconst (-1), 1) := by decide +kernel
theorem dX5_find_47 : decode cX5_find 47 = .ok (.if_icmp .ne 34, 3) := by decide +kernel
theorem dX5_find_50 : decode cX5_find 50 = .ok (.iload_n 3, 1) := by decide +kernel
theorem dX5_find_51 : decode cX5_find 51 = .ok (.aload_n 0, 1) := by decide +kernel
theorem dX5_find_52 : decode cX5_find 52 = .ok (.getfield 15, 3) := by decide +kernel
theorem dX5_find_55 : decode cX5_find 55 = .ok (.arraylength, 1) := by decide +kernel
theorem dX5_find_56 : decode cX5_find 56 = .ok (.if_icmp .ge 25, 3) := by decide +kernel
theorem dX5_find_59 : decode cX5_find 59 = .ok (.aload_n 0, 1) := by decide +kernel
theorem dX5_find_60 : decode cX5_find 60 = .ok (.aload_n 1, 1) := by decide +kernel
theorem dX5_find_61 : decode cX5_find 61 = .ok (.iload_n 2, 1) := by decide +kernel
theorem dX5_find_62 : decode cX5_find 62 = .ok (.aload_n 0, 1) := by decide +kernel
theorem dX5_find_63 : decode cX5_find 63 = .ok (.getfield 15, 3) := by decide +kernel
theorem dX5_find_66 : decode cX5_find 66 = .ok (.iload_n 3, 1) := by decide +kernel
theorem dX5_find_67 : decode cX5_find 67 = .ok (.iaload, 1) := by decide +kernel
theorem dX5_find_68 : decode cX5_find 68 = .ok (.invokevirtual 39, 3) := by decide +kernel
theorem dX5_find_71 : decode cX5_find 71 = .ok (.aload_n 0, 1) := by decide +kernel
theorem dX5_find_72 : decode cX5_find 72 = .ok (.getfield 15, 3) := by decide +kernel
theorem dX5_find_75 : decode cX5_find 75 = .ok (.iload_n 3, 1) := by decide +kernel
theorem dX5_find_76 : decode cX5_find 76 = .ok (.dup2, 1) := by decide +kernel
theorem dX5_find_77 : decode cX5_find 77 = .ok (.iaload, 1) := by decide +kernel
theorem dX5_find_78 : decode cX5_find 78 = .ok (.iconst 1, 1) := by decide +kernel
theorem dX5_find_79 : decode cX5_find 79 = .ok (.iadd, 1) := by decide +kernel
theorem dX5_find_80 : decode cX5_find 80 = .ok (.iastore, 1) := by decide +kernel
theorem dX5_find_81 : decode cX5_find 81 = .ok (.iinc 2 1, 3) := by decide +kernel
theorem dX5_find_84 : decode cX5_find 84 = .ok (.goto (-66), 3) := by decide +kernel
theorem dX5_find_87 : decode cX5_find 87 = .ok (.return_, 1) := by decide +kernel
theorem dX5_spread_0 : decode cX5_spread 0 = .ok (.aload_n 0, 1) := by decide +kernel
theorem dX5_spread_1 : decode cX5_spread 1 = .ok (.iload_n 2, 1) := by decide +kernel
theorem dX5_spread_2 : decode cX5_spread 2 = .ok (.iload_n 3, 1) := by decide +kernel
theorem dX5_spread_3 : decode cX5_spread 3 = .ok (.iconst 0, 1) := by decide +kernel
theorem dX5_spread_4 : decode cX5_spread 4 = .ok (.invokevirtual 43, 3) := by decide +kernel
theorem dX5_spread_7 : decode cX5_spread 7 = .ok (.istore 4, 2) := by decide +kernel
theorem dX5_spread_9 : decode cX5_spread 9 = .ok (.iconst 0, 1) := by decide +kernel
theorem dX5_spread_10 : decode cX5_spread 10 = .ok (.istore 5, 2) := by decide +kernel
theorem dX5_spread_12 : decode cX5_spread 12 = .ok (.iload 5, 2) := by decide +kernel
theorem dX5_spread_14 : decode cX5_spread 14 = .ok (.iload 4, 2) := by decide +kernel
theorem dX5_spread_16 : decode cX5_spread 16 = .ok (.if_icmp .ge 71, 3) := by decide +kernel
theorem dX5_spread_19 : decode cX5_spread 19 = .ok (.iload 5, 2) := by decide +kernel
theorem dX5_spread_21 : decode cX5_spread 21 = .ok (.aload_n 0, 1) := by decide +kernel
theorem dX5_spread_22 : decode cX5_spread 22 = .ok (.getfield 18, 3) := by decide +kernel
theorem dX5_spread_25 : decode cX5_spread 25 = .ok (.arraylength, 1) := by decide +kernel
theorem dX5_spread_26 : decode cX5_spread 26 = .ok (.if_icmp .ge 61, 3) := by decide +kernel
theorem dX5_spread_29 : decode cX5_spread 29 = .ok (.iconst 0, 1) := by decide +kernel
theorem dX5_spread_30 : decode cX5_spread 30 = .ok (.istore 6, 2) := by decide +kernel
theorem dX5_spread_32 : decode cX5_spread 32 = .ok (.iload 6, 2) := by decide +kernel
theorem dX5_spread_34 : decode cX5_spread 34 = .ok (.aload_n 1, 1) := by decide +kernel
theorem dX5_spread_35 : decode cX5_spread 35 = .ok (.getfield 47, 3) := by decide +kernel
theorem dX5_spread_38 : decode cX5_spread 38 = .ok (.if_icmp .ge 43, 3) := by decide +kernel
theorem dX5_spread_41 : decode cX5_spread 41 = .ok (.aload_n 1, 1) := by decide +kernel
theorem dX5_spread_42 : decode cX5_spread 42 = .ok (.iload 6, 2) := by decide +kernel
theorem dX5_spread_44 : decode cX5_spread 44 = .ok (.invokevirtual 51, 3) := by decide +kernel
theorem dX5_spread_47 : decode cX5_spread 47 = .ok (.astore 7, 2) := by decide +kernel
theorem dX5_spread_49 : decode cX5_spread 49 = .ok (.aload 7, 2) := by decide +kernel
theorem dX5_spread_51 : decode cX5_spread 51 = .ok (.ifnull 24, 3) := by decide +kernel
theorem dX5_spread_54 : decode cX5_spread 54 = .ok (.aload_n 0, 1) := by decide +kernel
theorem dX5_spread_55 : decode cX5_spread 55 = .ok (.aload 7, 2) := by decide +kernel
theorem dX5_spread_57 : decode cX5_spread 57 = .ok (.aload_n 0, 1) := by decide +kernel
theorem dX5_spread_58 : decode cX5_spread 58 = .ok (.getfield 18, 3) := by decide +kernel
theorem dX5_spread_61 : decode cX5_spread 61 = .ok (.iload 5, 2) := by decide +kernel
theorem dX5_spread_63 : decode cX5_spread 63 = .ok (.iaload, 1) := by decide +kernel
theorem dX5_spread_64 : decode cX5_spread 64 = .ok (.invokevirtual 55, 3) := by decide +kernel
theorem dX5_spread_67 : decode cX5_spread 67 = .ok (.iload_n 3, 1) := by decide +kernel
theorem dX5_spread_68 : decode cX5_spread 68 = .ok (.iload 4, 2) := by decide +kernel
theorem dX5_spread_70 : decode cX5_spread 70 = .ok (.invokevirtual 43, 3) := by decide +kernel
theorem dX5_spread_73 : decode cX5_spread 73 = .ok (.istore 4, 2) := by decide +kernel
theorem dX5_spread_75 : decode cX5_spread 75 = .ok (.iinc 6 1, 3) := by decide +kernel
theorem dX5_spread_78 : decode cX5_spread 78 = .ok (.goto (-46), 3) := by decide +kernel
theorem dX5_spread_81 : decode cX5_spread 81 = .ok (.iinc 5 1, 3) := by decide +kernel
theorem dX5_spread_84 : decode cX5_spread 84 = .ok (.goto (-72), 3) := by decide +kernel
theorem dX5_spread_87 : decode cX5_spread 87 = .ok (.return_, 1) := by decide +kernel
theorem dX5_enter_0 : decode cX5_enter 0 = .ok (.iload_n 1, 1) := by decide +kernel
theorem dX5_enter_1 : decode cX5_enter 1 = .ok (.ifCond .lt 22, 3) := by decide +kernel
theorem dX5_enter_4 : decode cX5_enter 4 = .ok (.iload_n 1, 1) := by decide +kernel
theorem dX5_enter_5 : decode cX5_enter 5 = .ok (.aload_n 0, 1) := by decide +kernel
theorem dX5_enter_6 : decode cX5_enter 6 = .ok (.getfield 9, 3) := by decide +kernel
theorem dX5_enter_9 : decode cX5_enter 9 = .ok (.arraylength, 1) := by decide +kernel
theorem dX5_enter_10 : decode cX5_enter 10 = .ok (.if_icmp .ge 13, 3) := by decide +kernel
theorem dX5_enter_13 : decode cX5_enter 13 = .ok (.aload_n 0, 1) := by decide +kernel
theorem dX5_enter_14 : decode cX5_enter 14 = .ok (.getfield 9, 3) := by decide +kernel
theorem dX5_enter_17 : decode cX5_enter 17 = .ok (.iload_n 1, 1) := by decide +kernel
theorem dX5_enter_18 : decode cX5_enter 18 = .ok (.iaload, 1) := by decide +kernel
theorem dX5_enter_19 : decode cX5_enter 19 = .ok (.iconst (-1), 1) := by decide +kernel
theorem dX5_enter_20 : decode cX5_enter 20 = .ok (.if_icmp .eq 5, 3) := by decide +kernel
theorem dX5_enter_23 : decode cX5_enter 23 = .ok (.iload_n 3, 1) := by decide +kernel
theorem dX5_enter_24 : decode cX5_enter 24 = .ok (.ireturn, 1) := by decide +kernel
theorem dX5_enter_25 : decode cX5_enter 25 = .ok (.iload_n 3, 1) := by decide +kernel
theorem dX5_enter_26 : decode cX5_enter 26 = .ok (.ifCond .lt 12, 3) := by decide +kernel
theorem dX5_enter_29 : decode cX5_enter 29 = .ok (.iload_n 3, 1) := by decide +kernel
theorem dX5_enter_30 : decode cX5_enter 30 = .ok (.aload_n 0, 1) := by decide +kernel
theorem dX5_enter_31 : decode cX5_enter 31 = .ok (.getfield 18, 3) := by decide +kernel
theorem dX5_enter_34 : decode cX5_enter 34 = .ok (.arraylength, 1) := by decide +kernel
theorem dX5_enter_35 : decode cX5_enter 35 = .ok (.if_icmp .lt 5, 3) := by decide +kernel
theorem dX5_enter_38 : decode cX5_enter 38 = .ok (.iload_n 3, 1) := by decide +kernel
theorem dX5_enter_39 : decode cX5_enter 39 = .ok (.ireturn, 1) := by decide +kernel
theorem dX5_enter_40 : decode cX5_enter 40 = .ok (.aload_n 0, 1) := by decide +kernel
theorem dX5_enter_41 : decode cX5_enter 41 = .ok (.getfield 9, 3) := by decide +kernel
theorem dX5_enter_44 : decode cX5_enter 44 = .ok (.iload_n 1, 1) := by decide +kernel
theorem dX5_enter_45 : decode cX5_enter 45 = .ok (.iload_n 2, 1) := by decide +kernel
theorem dX5_enter_46 : decode cX5_enter 46 = .ok (.iastore, 1) := by decide +kernel
theorem dX5_enter_47 : decode cX5_enter 47 = .ok (.aload_n 0, 1) := by decide +kernel
theorem dX5_enter_48 : decode cX5_enter 48 = .ok (.getfield 18, 3) := by decide +kernel
theorem dX5_enter_51 : decode cX5_enter 51 = .ok (.iload_n 3, 1) := by decide +kernel
theorem dX5_enter_52 : decode cX5_enter 52 = .ok (.iload_n 1, 1) := by decide +kernel
theorem dX5_enter_53 : decode cX5_enter 53 = .ok (.iastore, 1) := by decide +kernel
theorem dX5_enter_54 : decode cX5_enter 54 = .ok (.iload_n 3, 1) := by decide +kernel
theorem dX5_enter_55 : decode cX5_enter 55 = .ok (.iconst 1, 1) := by decide +kernel
theorem dX5_enter_56 : decode cX5_enter 56 = .ok (.iadd, 1) := by decide +kernel
theorem dX5_enter_57 : decode cX5_enter 57 = .ok (.ireturn, 1) := by decide +kernel
theorem dX5_amountOf_0 : decode cX5_amountOf 0 = .ok (.iload_n 1, 1) := by decide +kernel
theorem dX5_amountOf_1 : decode cX5_amountOf 1 = .ok (.ifCond .lt 21, 3) := by decide +kernel
theorem dX5_amountOf_4 : decode cX5_amountOf 4 = .ok (.iload_n 1, 1) := by decide +kernel
theorem dX5_amountOf_5 : decode cX5_amountOf 5 = .ok (.aload_n 0, 1) := by decide +kernel
theorem dX5_amountOf_6 : decode cX5_amountOf 6 = .ok (.getfield 15, 3) := by decide +kernel
theorem dX5_amountOf_9 : decode cX5_amountOf 9 = .ok (.arraylength, 1) := by decide +kernel
theorem dX5_amountOf_10 : decode cX5_amountOf 10 = .ok (.if_icmp .ge 12, 3) := by decide +kernel
theorem dX5_amountOf_13 : decode cX5_amountOf 13 = .ok (.aload_n 0, 1) := by decide +kernel
theorem dX5_amountOf_14 : decode cX5_amountOf 14 = .ok (.getfield 15, 3) := by decide +kernel
theorem dX5_amountOf_17 : decode cX5_amountOf 17 = .ok (.iload_n 1, 1) := by decide +kernel
theorem dX5_amountOf_18 : decode cX5_amountOf 18 = .ok (.iaload, 1) := by decide +kernel
theorem dX5_amountOf_19 : decode cX5_amountOf 19 = .ok (.goto 4, 3) := by decide +kernel
theorem dX5_amountOf_22 : decode cX5_amountOf 22 = .ok (.iconst 0, 1) := by decide +kernel
theorem dX5_amountOf_23 : decode cX5_amountOf 23 = .ok (.ireturn, 1) := by decide +kernel
theorem dX5_isOrbit_0 : decode cX5_isOrbit 0 = .ok (.iload_n 2, 1) := by decide +kernel
theorem dX5_isOrbit_1 : decode cX5_isOrbit 1 = .ok (.ifCond .lt 16, 3) := by decide +kernel
theorem dX5_isOrbit_4 : decode cX5_isOrbit 4 = .ok (.iload_n 2, 1) := by decide +kernel
theorem dX5_isOrbit_5 : decode cX5_isOrbit 5 = .ok (.aload_n 0, 1) := by decide +kernel
theorem dX5_isOrbit_6 : decode cX5_isOrbit 6 = .ok (.iload_n 1, 1) := by decide +kernel
theorem dX5_isOrbit_7 : decode cX5_isOrbit 7 = .ok (.invokevirtual 60, 3) := by decide +kernel
theorem dX5_isOrbit_10 : decode cX5_isOrbit 10 = .ok (.if_icmp .ge 7, 3) := by decide +kernel
theorem dX5_isOrbit_13 : decode cX5_isOrbit 13 = .ok (.iconst 1, 1) := by decide +kernel
theorem dX5_isOrbit_14 : decode cX5_isOrbit 14 = .ok (.goto 4, 3) := by decide +kernel
theorem dX5_isOrbit_17 : decode cX5_isOrbit 17 = .ok (.iconst 0, 1) := by decide +kernel
theorem dX5_isOrbit_18 : decode cX5_isOrbit 18 = .ok (.ireturn, 1) := by decide +kernel
theorem dX5_numberOf_0 : decode cX5_numberOf 0 = .ok (.iload_n 1, 1) := by decide +kernel
theorem dX5_numberOf_1 : decode cX5_numberOf 1 = .ok (.ifCond .lt 21, 3) := by decide +kernel
theorem dX5_numberOf_4 : decode cX5_numberOf 4 = .ok (.iload_n 1, 1) := by decide +kernel
theorem dX5_numberOf_5 : decode cX5_numberOf 5 = .ok (.aload_n 0, 1) := by decide +kernel
theorem dX5_numberOf_6 : decode cX5_numberOf 6 = .ok (.getfield 9, 3) := by decide +kernel
theorem dX5_numberOf_9 : decode cX5_numberOf 9 = .ok (.arraylength, 1) := by decide +kernel
theorem dX5_numberOf_10 : decode cX5_numberOf 10 = .ok (.if_icmp .ge 12, 3) := by decide +kernel
theorem dX5_numberOf_13 : decode cX5_numberOf 13 = .ok (.aload_n 0, 1) := by decide +kernel
theorem dX5_numberOf_14 : decode cX5_numberOf 14 = .ok (.getfield 9, 3) := by decide +kernel
theorem dX5_numberOf_17 : decode cX5_numberOf 17 = .ok (.iload_n 1, 1) := by decide +kernel
theorem dX5_numberOf_18 : decode cX5_numberOf 18 = .ok (.iaload, 1) := by decide +kernel
theorem dX5_numberOf_19 : decode cX5_numberOf 19 = .ok (.goto 4, 3) := by decide +kernel
theorem dX5_numberOf_22 : decode cX5_numberOf 22 = .ok (.iconst (-1), 1) := by decide +kernel
theorem dX5_numberOf_23 : decode cX5_numberOf 23 = .ok (.ireturn, 1) := by decide +kernel
theorem dX5_holds_0 : decode cX5_holds 0 = .ok (.aload_n 0, 1) := by decide +kernel
theorem dX5_holds_1 : decode cX5_holds 1 = .ok (.iload_n 3, 1) := by decide +kernel
theorem dX5_holds_2 : decode cX5_holds 2 = .ok (.invokevirtual 63, 3) := by decide +kernel
theorem dX5_holds_5 : decode cX5_holds 5 = .ok (.iload_n 2, 1) := by decide +kernel
theorem dX5_holds_6 : decode cX5_holds 6 = .ok (.if_icmp .ne 15, 3) := by decide +kernel
theorem dX5_holds_9 : decode cX5_holds 9 = .ok (.iload_n 3, 1) := by decide +kernel
theorem dX5_holds_10 : decode cX5_holds 10 = .ok (.invokestatic 33, 3) := by decide +kernel
theorem dX5_holds_13 : decode cX5_holds 13 = .ok (.iload_n 1, 1) := by decide +kernel
theorem dX5_holds_14 : decode cX5_holds 14 = .ok (.if_icmp .ne 7, 3) := by decide +kernel
theorem dX5_holds_17 : decode cX5_holds 17 = .ok (.iconst 1, 1) := by decide +kernel
theorem dX5_holds_18 : decode cX5_holds 18 = .ok (.goto 4, 3) := by decide +kernel
theorem dX5_holds_21 : decode cX5_holds 21 = .ok (.iconst 0, 1) := by decide +kernel
theorem dX5_holds_22 : decode cX5_holds 22 = .ok (.ireturn, 1) := by decide +kernel
theorem dX5_setAt_0 : decode cX5_setAt 0 = .ok (.iconst 0, 1) := by decide +kernel
theorem dX5_setAt_1 : decode cX5_setAt 1 = .ok (.istore 4, 2) := by decide +kernel
theorem dX5_setAt_3 : decode cX5_setAt 3 = .ok (.iconst 0, 1) := by decide +kernel
theorem dX5_setAt_4 : decode cX5_setAt 4 = .ok (.istore 5, 2) := by decide +kernel
theorem dX5_setAt_6 : decode cX5_setAt 6 = .ok (.iload 5, 2) := by decide +kernel
theorem dX5_setAt_8 : decode cX5_setAt 8 = .ok (.aload_n 0, 1) := by decide +kernel
theorem dX5_setAt_9 : decode cX5_setAt 9 = .ok (.getfield 9, 3) := by decide +kernel
theorem dX5_setAt_12 : decode cX5_setAt 12 = .ok (.arraylength, 1) := by decide +kernel
theorem dX5_setAt_13 : decode cX5_setAt 13 = .ok (.if_icmp .ge 32, 3) := by decide +kernel
theorem dX5_setAt_16 : decode cX5_setAt 16 = .ok (.aload_n 0, 1) := by decide +kernel
theorem dX5_setAt_17 : decode cX5_setAt 17 = .ok (.iload_n 1, 1) := by decide +kernel
theorem dX5_setAt_18 : decode cX5_setAt 18 = .ok (.iload_n 2, 1) := by decide +kernel
theorem dX5_setAt_19 : decode cX5_setAt 19 = .ok (.iload 5, 2) := by decide +kernel
theorem dX5_setAt_21 : decode cX5_setAt 21 = .ok (.invokevirtual 66, 3) := by decide +kernel
theorem dX5_setAt_24 : decode cX5_setAt 24 = .ok (.ifCond .eq 15, 3) := by decide +kernel
theorem dX5_setAt_27 : decode cX5_setAt 27 = .ok (.iload 4, 2) := by decide +kernel
theorem dX5_setAt_29 : decode cX5_setAt 29 = .ok (.iinc 4 1, 3) := by decide +kernel
theorem dX5_setAt_32 : decode cX5_setAt 32 = .ok (.iload_n 3, 1) := by decide +kernel
theorem dX5_setAt_33 : decode cX5_setAt 33 = .ok (.if_icmp .ne 6, 3) := by decide +kernel
theorem dX5_setAt_36 : decode cX5_setAt 36 = .ok (.iload 5, 2) := by decide +kernel
theorem dX5_setAt_38 : decode cX5_setAt 38 = .ok (.ireturn, 1) := by decide +kernel
theorem dX5_setAt_39 : decode cX5_setAt 39 = .ok (.iinc 5 1, 3) := by decide +kernel
theorem dX5_setAt_42 : decode cX5_setAt 42 = .ok (.goto (-36), 3) := by decide +kernel
theorem dX5_setAt_45 : decode cX5_setAt 45 = .ok (.bipush (-5), 2) := by decide +kernel
theorem dX5_setAt_47 : decode cX5_setAt 47 = .ok (.ireturn, 1) := by decide +kernel
theorem dX5_greatestOf_0 : decode cX5_greatestOf 0 = .ok (.aload_n 0, 1) := by decide +kernel
theorem dX5_greatestOf_1 : decode cX5_greatestOf 1 = .ok (.getfield 9, 3) := by decide +kernel
theorem dX5_greatestOf_4 : decode cX5_greatestOf 4 = .ok (.arraylength, 1) := by decide +kernel
theorem dX5_greatestOf_5 : decode cX5_greatestOf 5 = .ok (.iconst 1, 1) := by decide +kernel
theorem dX5_greatestOf_6 : decode cX5_greatestOf 6 = .ok (.isub, 1) := by decide +kernel
theorem dX5_greatestOf_7 : decode cX5_greatestOf 7 = .ok (.istore_n 3, 1) := by decide +kernel
theorem dX5_greatestOf_8 : decode cX5_greatestOf 8 = .ok (.iload_n 3, 1) := by decide +kernel
theorem dX5_greatestOf_9 : decode cX5_greatestOf 9 = .ok (.ifCond .lt 21, 3) := by decide +kernel
theorem dX5_greatestOf_12 : decode cX5_greatestOf 12 = .ok (.aload_n 0, 1) := by decide +kernel
theorem dX5_greatestOf_13 : decode cX5_greatestOf 13 = .ok (.iload_n 1, 1) := by decide +kernel
theorem dX5_greatestOf_14 : decode cX5_greatestOf 14 = .ok (.iload_n 2, 1) := by decide +kernel
theorem dX5_greatestOf_15 : decode cX5_greatestOf 15 = .ok (.iload_n 3, 1) := by decide +kernel
theorem dX5_greatestOf_16 : decode cX5_greatestOf 16 = .ok (.invokevirtual 66, 3) := by decide +kernel
theorem dX5_greatestOf_19 : decode cX5_greatestOf 19 = .ok (.ifCond .eq 5, 3) := by decide +kernel
theorem dX5_greatestOf_22 : decode cX5_greatestOf 22 = .ok (.iload_n 3, 1) := by decide +kernel
theorem dX5_greatestOf_23 : decode cX5_greatestOf 23 = .ok (.ireturn, 1) := by decide +kernel
theorem dX5_greatestOf_24 : decode cX5_greatestOf 24 = .ok (.iinc 3 (-1), 3) := by decide +kernel
theorem dX5_greatestOf_27 : decode cX5_greatestOf 27 = .ok (.goto (-19), 3) := by decide +kernel
theorem dX5_greatestOf_30 : decode cX5_greatestOf 30 = .ok (.bipush (-5), 2) := by decide +kernel
theorem dX5_greatestOf_32 : decode cX5_greatestOf 32 = .ok (.ireturn, 1) := by decide +kernel
theorem dX5_setsIn_0 : decode cX5_setsIn 0 = .ok (.aload_n 0, 1) := by decide +kernel
theorem dX5_setsIn_1 : decode cX5_setsIn 1 = .ok (.iload_n 1, 1) := by decide +kernel
theorem dX5_setsIn_2 : decode cX5_setsIn 2 = .ok (.iload_n 2, 1) := by decide +kernel
theorem dX5_setsIn_3 : decode cX5_setsIn 3 = .ok (.iconst 0, 1) := by decide +kernel
theorem dX5_setsIn_4 : decode cX5_setsIn 4 = .ok (.invokevirtual 70, 3) := by decide +kernel
theorem dX5_setsIn_7 : decode cX5_setsIn 7 = .ok (.ireturn, 1) := by decide +kernel
theorem dX5_setsAround_0 : decode cX5_setsAround 0 = .ok (.iconst 0, 1) := by decide +kernel
theorem dX5_setsAround_1 : decode cX5_setsAround 1 = .ok (.istore 4, 2) := by decide +kernel
theorem dX5_setsAround_3 : decode cX5_setsAround 3 = .ok (.iconst 0, 1) := by decide +kernel
theorem dX5_setsAround_4 : decode cX5_setsAround 4 = .ok (.istore 5, 2) := by decide +kernel
theorem dX5_setsAround_6 : decode cX5_setsAround 6 = .ok (.iload 5, 2) := by decide +kernel
theorem dX5_setsAround_8 : decode cX5_setsAround 8 = .ok (.aload_n 0, 1) := by decide +kernel
theorem dX5_setsAround_9 : decode cX5_setsAround 9 = .ok (.getfield 9, 3) := by decide +kernel
theorem dX5_setsAround_12 : decode cX5_setsAround 12 = .ok (.arraylength, 1) := by decide +kernel
theorem dX5_setsAround_13 : decode cX5_setsAround 13 = .ok (.if_icmp .ge 31, 3) := by decide +kernel
theorem dX5_setsAround_16 : decode cX5_setsAround 16 = .ok (.aload_n 0, 1) := by decide +kernel
theorem dX5_setsAround_17 : decode cX5_setsAround 17 = .ok (.iload_n 1, 1) := by decide +kernel
theorem dX5_setsAround_18 : decode cX5_setsAround 18 = .ok (.iload_n 2, 1) := by decide +kernel
theorem dX5_setsAround_19 : decode cX5_setsAround 19 = .ok (.iload 5, 2) := by decide +kernel
theorem dX5_setsAround_21 : decode cX5_setsAround 21 = .ok (.invokevirtual 66, 3) := by decide +kernel
theorem dX5_setsAround_24 : decode cX5_setsAround 24 = .ok (.ifCond .eq 14, 3) := by decide +kernel
theorem dX5_setsAround_27 : decode cX5_setsAround 27 = .ok (.iload 5, 2) := by decide +kernel
theorem dX5_setsAround_29 : decode cX5_setsAround 29 = .ok (.iload_n 3, 1) := by decide +kernel
theorem dX5_setsAround_30 : decode cX5_setsAround 30 = .ok (.iand, 1) := by decide +kernel
theorem dX5_setsAround_31 : decode cX5_setsAround 31 = .ok (.iload_n 3, 1) := by decide +kernel
theorem dX5_setsAround_32 : decode cX5_setsAround 32 = .ok (.if_icmp .ne 6, 3) := by decide +kernel
theorem dX5_setsAround_35 : decode cX5_setsAround 35 = .ok (.iinc 4 1, 3) := by decide +kernel
theorem dX5_setsAround_38 : decode cX5_setsAround 38 = .ok (.iinc 5 1, 3) := by decide +kernel
theorem dX5_setsAround_41 : decode cX5_setsAround 41 = .ok (.goto (-35), 3) := by decide +kernel
theorem dX5_setsAround_44 : decode cX5_setsAround 44 = .ok (.iload 4, 2) := by decide +kernel
theorem dX5_setsAround_46 : decode cX5_setsAround 46 = .ok (.ireturn, 1) := by decide +kernel
theorem dX6_init_0 : decode cX6_init 0 = .ok (.aload_n 0, 1) := by decide +kernel
theorem dX6_init_1 : decode cX6_init 1 = .ok (.invokespecial 3, 3) := by decide +kernel
theorem dX6_init_4 : decode cX6_init 4 = .ok (.aload_n 0, 1) := by decide +kernel
theorem dX6_init_5 : decode cX6_init 5 = .ok (.iconst 5, 1) := by decide +kernel
theorem dX6_init_6 : decode cX6_init 6 = .ok (.putfield 9, 3) := by decide +kernel
theorem dX6_init_9 : decode cX6_init 9 = .ok (.aload_n 0, 1) := by decide +kernel
theorem dX6_init_10 : decode cX6_init 10 = .ok (.iconst 0, 1) := by decide +kernel
theorem dX6_init_11 : decode cX6_init 11 = .ok (.putfield 15, 3) := by decide +kernel
theorem dX6_init_14 : decode cX6_init 14 = .ok (.aload_n 0, 1) := by decide +kernel
theorem dX6_init_15 : decode cX6_init 15 = .ok (.iconst 0, 1) := by decide +kernel
theorem dX6_init_16 : decode cX6_init 16 = .ok (.putfield 18, 3) := by decide +kernel
theorem dX6_init_19 : decode cX6_init 19 = .ok (.aload_n 0, 1) := by decide +kernel
theorem dX6_init_20 : decode cX6_init 20 = .ok (.new 21, 3) := by decide +kernel
theorem dX6_init_23 : decode cX6_init 23 = .ok (.dup, 1) := by decide +kernel
theorem dX6_init_24 : decode cX6_init 24 = .ok (.invokespecial 23, 3) := by decide +kernel
theorem dX6_init_27 : decode cX6_init 27 = .ok (.putfield 24, 3) := by decide +kernel
theorem dX6_init_30 : decode cX6_init 30 = .ok (.aload_n 0, 1) := by decide +kernel
theorem dX6_init_31 : decode cX6_init 31 = .ok (.iconst 4, 1) := by decide +kernel
theorem dX6_init_32 : decode cX6_init 32 = .ok (.anewarray 28, 3) := by decide +kernel
theorem dX6_init_35 : decode cX6_init 35 = .ok (.putfield 30, 3) := by decide +kernel
theorem dX6_init_38 : decode cX6_init 38 = .ok (.iconst 0, 1) := by decide +kernel
theorem dX6_init_39 : decode cX6_init 39 = .ok (.istore_n 1, 1) := by decide +kernel
theorem dX6_init_40 : decode cX6_init 40 = .ok (.iload_n 1, 1) := by decide +kernel
theorem dX6_init_41 : decode cX6_init 41 = .ok (.aload_n 0, 1) := by decide +kernel
theorem dX6_init_42 : decode cX6_init 42 = .ok (.getfield 30, 3) := by decide +kernel
theorem dX6_init_45 : decode cX6_init 45 = .ok (.arraylength, 1) := by decide +kernel
theorem dX6_init_46 : decode cX6_init 46 = .ok (.if_icmp .ge 22, 3) := by decide +kernel
theorem dX6_init_49 : decode cX6_init 49 = .ok (.aload_n 0, 1) := by decide +kernel
theorem dX6_init_50 : decode cX6_init 50 = .ok (.getfield 30, 3) := by decide +kernel
theorem dX6_init_53 : decode cX6_init 53 = .ok (.iload_n 1, 1) := by decide +kernel
theorem dX6_init_54 : decode cX6_init 54 = .ok (.new 28, 3) := by decide +kernel
theorem dX6_init_57 : decode cX6_init 57 = .ok (.dup, 1) := by decide +kernel
theorem dX6_init_58 : decode cX6_init 58 = .ok (.invokespecial 34, 3) := by decide +kernel
theorem dX6_init_61 : decode cX6_init 61 = .ok (.aastore, 1) := by decide +kernel
theorem dX6_init_62 : decode cX6_init 62 = .ok (.iinc 1 1, 3) := by decide +kernel
theorem dX6_init_65 : decode cX6_init 65 = .ok (.goto (-25), 3) := by decide +kernel
theorem dX6_init_68 : decode cX6_init 68 = .ok (.aload_n 0, 1) := by decide +kernel
theorem dX6_init_69 : decode cX6_init 69 = .ok (.iconst 4, 1) := by decide +kernel
theorem dX6_init_70 : decode cX6_init 70 = .ok (.anewarray 21, 3) := by decide +kernel
theorem dX6_init_73 : decode cX6_init 73 = .ok (.putfield 35, 3) := by decide +kernel
theorem dX6_init_76 : decode cX6_init 76 = .ok (.iconst 0, 1) := by decide +kernel
theorem dX6_init_77 : decode cX6_init 77 = .ok (.istore_n 1, 1) := by decide +kernel
theorem dX6_init_78 : decode cX6_init 78 = .ok (.iload_n 1, 1) := by decide +kernel
theorem dX6_init_79 : decode cX6_init 79 = .ok (.aload_n 0, 1) := by decide +kernel
theorem dX6_init_80 : decode cX6_init 80 = .ok (.getfield 35, 3) := by decide +kernel
theorem dX6_init_83 : decode cX6_init 83 = .ok (.arraylength, 1) := by decide +kernel
theorem dX6_init_84 : decode cX6_init 84 = .ok (.if_icmp .ge 22, 3) := by decide +kernel
theorem dX6_init_87 : decode cX6_init 87 = .ok (.aload_n 0, 1) := by decide +kernel
theorem dX6_init_88 : decode cX6_init 88 = .ok (.getfield 35, 3) := by decide +kernel
theorem dX6_init_91 : decode cX6_init 91 = .ok (.iload_n 1, 1) := by decide +kernel
theorem dX6_init_92 : decode cX6_init 92 = .ok (.new 21, 3) := by decide +kernel
theorem dX6_init_95 : decode cX6_init 95 = .ok (.dup, 1) := by decide +kernel
theorem dX6_init_96 : decode cX6_init 96 = .ok (.invokespecial 23, 3) := by decide +kernel
theorem dX6_init_99 : decode cX6_init 99 = .ok (.aastore, 1) := by decide +kernel
theorem dX6_init_100 : decode cX6_init 100 = .ok (.iinc 1 1, 3) := by decide +kernel
theorem dX6_init_103 : decode cX6_init 103 = .ok (.goto (-25), 3) := by decide +kernel
theorem dX6_init_106 : decode cX6_init 106 = .ok (.return_, 1) := by decide +kernel
theorem dX6_restart_0 : decode cX6_restart 0 = .ok (.aload_n 0, 1) := by decide +kernel
theorem dX6_restart_1 : decode cX6_restart 1 = .ok (.iload_n 1, 1) := by decide +kernel
theorem dX6_restart_2 : decode cX6_restart 2 = .ok (.putfield 9, 3) := by decide +kernel
theorem dX6_restart_5 : decode cX6_restart 5 = .ok (.aload_n 0, 1) := by decide +kernel
theorem dX6_restart_6 : decode cX6_restart 6 = .ok (.iconst 0, 1) := by decide +kernel
theorem dX6_restart_7 : decode cX6_restart 7 = .ok (.putfield 15, 3) := by decide +kernel
theorem dX6_restart_10 : decode cX6_restart 10 = .ok (.aload_n 0, 1) := by decide +kernel
theorem dX6_restart_11 : decode cX6_restart 11 = .ok (.iconst 0, 1) := by decide +kernel
theorem dX6_restart_12 : decode cX6_restart 12 = .ok (.putfield 18, 3) := by decide +kernel
theorem dX6_restart_15 : decode cX6_restart 15 = .ok (.aload_n 0, 1) := by decide +kernel
theorem dX6_restart_16 : decode cX6_restart 16 = .ok (.getfield 24, 3) := by decide +kernel
theorem dX6_restart_19 : decode cX6_restart 19 = .ok (.iconst 2, 1) := by decide +kernel
theorem dX6_restart_20 : decode cX6_restart 20 = .ok (.invokevirtual 39, 3) := by decide +kernel
theorem dX6_restart_23 : decode cX6_restart 23 = .ok (.return_, 1) := by decide +kernel
theorem dX6_copyFrom_0 : decode cX6_copyFrom 0 = .ok (.aload_n 0, 1) := by decide +kernel
theorem dX6_copyFrom_1 : decode cX6_copyFrom 1 = .ok (.aload_n 1, 1) := by decide +kernel
theorem dX6_copyFrom_2 : decode cX6_copyFrom 2 = .ok (.getfield 9, 3) := by decide +kernel
theorem dX6_copyFrom_5 : decode cX6_copyFrom 5 = .ok (.putfield 9, 3) := by decide +kernel
theorem dX6_copyFrom_8 : decode cX6_copyFrom 8 = .ok (.aload_n 0, 1) := by decide +kernel
theorem dX6_copyFrom_9 : decode cX6_copyFrom 9 = .ok (.getfield 24, 3) := by decide +kernel
theorem dX6_copyFrom_12 : decode cX6_copyFrom 12 = .ok (.aload_n 1, 1) := by decide +kernel
theorem dX6_copyFrom_13 : decode cX6_copyFrom 13 = .ok (.getfield 24, 3) := by decide +kernel
theorem dX6_copyFrom_16 : decode cX6_copyFrom 16 = .ok (.invokevirtual 43, 3) := by decide +kernel
theorem dX6_copyFrom_19 : decode cX6_copyFrom 19 = .ok (.aload_n 0, 1) := by decide +kernel
theorem dX6_copyFrom_20 : decode cX6_copyFrom 20 = .ok (.aload_n 1, 1) := by decide +kernel
theorem dX6_copyFrom_21 : decode cX6_copyFrom 21 = .ok (.getfield 15, 3) := by decide +kernel
theorem dX6_copyFrom_24 : decode cX6_copyFrom 24 = .ok (.putfield 15, 3) := by decide +kernel
theorem dX6_copyFrom_27 : decode cX6_copyFrom 27 = .ok (.iconst 0, 1) := by decide +kernel
theorem dX6_copyFrom_28 : decode cX6_copyFrom 28 = .ok (.istore_n 2, 1) := by decide +kernel
theorem dX6_copyFrom_29 : decode cX6_copyFrom 29 = .ok (.iload_n 2, 1) := by decide +kernel
theorem dX6_copyFrom_30 : decode cX6_copyFrom 30 = .ok (.aload_n 0, 1) := by decide +kernel
theorem dX6_copyFrom_31 : decode cX6_copyFrom 31 = .ok (.getfield 15, 3) := by decide +kernel
theorem dX6_copyFrom_34 : decode cX6_copyFrom 34 = .ok (.if_icmp .ge 37, 3) := by decide +kernel
theorem dX6_copyFrom_37 : decode cX6_copyFrom 37 = .ok (.aload_n 0, 1) := by decide +kernel
theorem dX6_copyFrom_38 : decode cX6_copyFrom 38 = .ok (.iload_n 2, 1) := by decide +kernel
theorem dX6_copyFrom_39 : decode cX6_copyFrom 39 = .ok (.invokevirtual 47, 3) := by decide +kernel
theorem dX6_copyFrom_42 : decode cX6_copyFrom 42 = .ok (.astore_n 3, 1) := by decide +kernel
theorem dX6_copyFrom_43 : decode cX6_copyFrom 43 = .ok (.aload_n 1, 1) := by decide +kernel
theorem dX6_copyFrom_44 : decode cX6_copyFrom 44 = .ok (.iload_n 2, 1) := by decide +kernel
theorem dX6_copyFrom_45 : decode cX6_copyFrom 45 = .ok (.invokevirtual 47, 3) := by decide +kernel
theorem dX6_copyFrom_48 : decode cX6_copyFrom 48 = .ok (.astore 4, 2) := by decide +kernel
theorem dX6_copyFrom_50 : decode cX6_copyFrom 50 = .ok (.aload_n 3, 1) := by decide +kernel
theorem dX6_copyFrom_51 : decode cX6_copyFrom 51 = .ok (.ifnull 14, 3) := by decide +kernel
theorem dX6_copyFrom_54 : decode cX6_copyFrom 54 = .ok (.aload 4, 2) := by decide +kernel
theorem dX6_copyFrom_56 : decode cX6_copyFrom 56 = .ok (.ifnull 9, 3) := by decide +kernel
theorem dX6_copyFrom_59 : decode cX6_copyFrom 59 = .ok (.aload_n 3, 1) := by decide +kernel
theorem dX6_copyFrom_60 : decode cX6_copyFrom 60 = .ok (.aload 4, 2) := by decide +kernel
theorem dX6_copyFrom_62 : decode cX6_copyFrom 62 = .ok (.invokevirtual 51, 3) := by decide +kernel
theorem dX6_copyFrom_65 : decode cX6_copyFrom 65 = .ok (.iinc 2 1, 3) := by decide +kernel
theorem dX6_copyFrom_68 : decode cX6_copyFrom 68 = .ok (.goto (-39), 3) := by decide +kernel
theorem dX6_copyFrom_71 : decode cX6_copyFrom 71 = .ok (.aload_n 0, 1) := by decide +kernel
theorem dX6_copyFrom_72 : decode cX6_copyFrom 72 = .ok (.aload_n 1, 1) := by decide +kernel
theorem dX6_copyFrom_73 : decode cX6_copyFrom 73 = .ok (.getfield 18, 3) := by decide +kernel
theorem dX6_copyFrom_76 : decode cX6_copyFrom 76 = .ok (.putfield 18, 3) := by decide +kernel
theorem dX6_copyFrom_79 : decode cX6_copyFrom 79 = .ok (.iconst 0, 1) := by decide +kernel
theorem dX6_copyFrom_80 : decode cX6_copyFrom 80 = .ok (.istore_n 2, 1) := by decide +kernel
theorem dX6_copyFrom_81 : decode cX6_copyFrom 81 = .ok (.iload_n 2, 1) := by decide +kernel
theorem dX6_copyFrom_82 : decode cX6_copyFrom 82 = .ok (.aload_n 0, 1) := by decide +kernel
theorem dX6_copyFrom_83 : decode cX6_copyFrom 83 = .ok (.getfield 18, 3) := by decide +kernel
theorem dX6_copyFrom_86 : decode cX6_copyFrom 86 = .ok (.if_icmp .ge 37, 3) := by decide +kernel
theorem dX6_copyFrom_89 : decode cX6_copyFrom 89 = .ok (.aload_n 0, 1) := by decide +kernel
theorem dX6_copyFrom_90 : decode cX6_copyFrom 90 = .ok (.iload_n 2, 1) := by decide +kernel
theorem dX6_copyFrom_91 : decode cX6_copyFrom 91 = .ok (.invokevirtual 54, 3) := by decide +kernel
theorem dX6_copyFrom_94 : decode cX6_copyFrom 94 = .ok (.astore_n 3, 1) := by decide +kernel
theorem dX6_copyFrom_95 : decode cX6_copyFrom 95 = .ok (.aload_n 1, 1) := by decide +kernel
theorem dX6_copyFrom_96 : decode cX6_copyFrom 96 = .ok (.iload_n 2, 1) := by decide +kernel
theorem dX6_copyFrom_97 : decode cX6_copyFrom 97 = .ok (.invokevirtual 54, 3) := by decide +kernel
theorem dX6_copyFrom_100 : decode cX6_copyFrom 100 = .ok (.astore 4, 2) := by decide +kernel
theorem dX6_copyFrom_102 : decode cX6_copyFrom 102 = .ok (.aload_n 3, 1) := by decide +kernel
theorem dX6_copyFrom_103 : decode cX6_copyFrom 103 = .ok (.ifnull 14, 3) := by decide +kernel
theorem dX6_copyFrom_106 : decode cX6_copyFrom 106 = .ok (.aload 4, 2) := by decide +kernel
theorem dX6_copyFrom_108 : decode cX6_copyFrom 108 = .ok (.ifnull 9, 3) := by decide +kernel
theorem dX6_copyFrom_111 : decode cX6_copyFrom 111 = .ok (.aload_n 3, 1) := by decide +kernel
theorem dX6_copyFrom_112 : decode cX6_copyFrom 112 = .ok (.aload 4, 2) := by decide +kernel
theorem dX6_copyFrom_114 : decode cX6_copyFrom 114 = .ok (.invokevirtual 43, 3) := by decide +kernel
theorem dX6_copyFrom_117 : decode cX6_copyFrom 117 = .ok (.iinc 2 1, 3) := by decide +kernel
theorem dX6_copyFrom_120 : decode cX6_copyFrom 120 = .ok (.goto (-39), 3) := by decide +kernel
theorem dX6_copyFrom_123 : decode cX6_copyFrom 123 = .ok (.return_, 1) := by decide +kernel
theorem dX6_isPoint_0 : decode cX6_isPoint 0 = .ok (.iload_n 1, 1) := by decide +kernel
theorem dX6_isPoint_1 : decode cX6_isPoint 1 = .ok (.ifCond .lt 15, 3) := by decide +kernel
theorem dX6_isPoint_4 : decode cX6_isPoint 4 = .ok (.iload_n 1, 1) := by decide +kernel
theorem dX6_isPoint_5 : decode cX6_isPoint 5 = .ok (.aload_n 0, 1) := by decide +kernel
theorem dX6_isPoint_6 : decode cX6_isPoint 6 = .ok (.getfield 9, 3) := by decide +kernel
theorem dX6_isPoint_9 : decode cX6_isPoint 9 = .ok (.if_icmp .ge 7, 3) := by decide +kernel
theorem dX6_isPoint_12 : decode cX6_isPoint 12 = .ok (.iconst 1, 1) := by decide +kernel
theorem dX6_isPoint_13 : decode cX6_isPoint 13 = .ok (.goto 4, 3) := by decide +kernel
theorem dX6_isPoint_16 : decode cX6_isPoint 16 = .ok (.iconst 0, 1) := by decide +kernel
theorem dX6_isPoint_17 : decode cX6_isPoint 17 = .ok (.ireturn, 1) := by decide +kernel
theorem dX6_isSize_0 : decode cX6_isSize 0 = .ok (.iload_n 1, 1) := by decide +kernel
theorem dX6_isSize_1 : decode cX6_isSize 1 = .ok (.ifCond .lt 15, 3) := by decide +kernel
theorem dX6_isSize_4 : decode cX6_isSize 4 = .ok (.iload_n 1, 1) := by decide +kernel
theorem dX6_isSize_5 : decode cX6_isSize 5 = .ok (.aload_n 0, 1) := by decide +kernel
theorem dX6_isSize_6 : decode cX6_isSize 6 = .ok (.getfield 9, 3) := by decide +kernel
theorem dX6_isSize_9 : decode cX6_isSize 9 = .ok (.if_icmp .gt 7, 3) := by decide +kernel
theorem dX6_isSize_12 : decode cX6_isSize 12 = .ok (.iconst 1, 1) := by decide +kernel
theorem dX6_isSize_13 : decode cX6_isSize 13 = .ok (.goto 4, 3) := by decide +kernel
theorem dX6_isSize_16 : decode cX6_isSize 16 = .ok (.iconst 0, 1) := by decide +kernel
theorem dX6_isSize_17 : decode cX6_isSize 17 = .ok (.ireturn, 1) := by decide +kernel
theorem dX6_isSet_0 : decode cX6_isSet 0 = .ok (.iload_n 1, 1) := by decide +kernel
theorem dX6_isSet_1 : decode cX6_isSet 1 = .ok (.ifCond .lt 15, 3) := by decide +kernel
theorem dX6_isSet_4 : decode cX6_isSet 4 = .ok (.iload_n 1, 1) := by decide +kernel
theorem dX6_isSet_5 : decode cX6_isSet 5 = .ok (.aload_n 0, 1) := by decide +kernel
theorem dX6_isSet_6 : decode cX6_isSet 6 = .ok (.invokevirtual 58, 3) := by decide +kernel
theorem dX6_isSet_9 : decode cX6_isSet 9 = .ok (.if_icmp .gt 7, 3) := by decide +kernel
theorem dX6_isSet_12 : decode cX6_isSet 12 = .ok (.iconst 1, 1) := by decide +kernel
theorem dX6_isSet_13 : decode cX6_isSet 13 = .ok (.goto 4, 3) := by decide +kernel
theorem dX6_isSet_16 : decode cX6_isSet 16 = .ok (.iconst 0, 1) := by decide +kernel
theorem dX6_isSet_17 : decode cX6_isSet 17 = .ok (.ireturn, 1) := by decide +kernel
theorem dX6_whole_0 : decode cX6_whole 0 = .ok (.iconst 1, 1) := by decide +kernel
theorem dX6_whole_1 : decode cX6_whole 1 = .ok (.aload_n 0, 1) := by decide +kernel
theorem dX6_whole_2 : decode cX6_whole 2 = .ok (.getfield 9, 3) := by decide +kernel
theorem dX6_whole_5 : decode cX6_whole 5 = .ok (.ishl, 1) := by decide +kernel
theorem dX6_whole_6 : decode cX6_whole 6 = .ok (.iconst 1, 1) := by decide +kernel
theorem dX6_whole_7 : decode cX6_whole 7 = .ok (.isub, 1) := by decide +kernel
theorem dX6_whole_8 : decode cX6_whole 8 = .ok (.ireturn, 1) := by decide +kernel
theorem dX6_wayAt_0 : decode cX6_wayAt 0 = .ok (.iload_n 1, 1) := by decide +kernel
theorem dX6_wayAt_1 : decode cX6_wayAt 1 = .ok (.ifCond .lt 20, 3) := by decide +kernel
theorem dX6_wayAt_4 : decode cX6_wayAt 4 = .ok (.iload_n 1, 1) := by decide +kernel
theorem dX6_wayAt_5 : decode cX6_wayAt 5 = .ok (.aload_n 0, 1) := by decide +kernel
theorem dX6_wayAt_6 : decode cX6_wayAt 6 = .ok (.getfield 15, 3) := by decide +kernel
theorem dX6_wayAt_9 : decode cX6_wayAt 9 = .ok (.if_icmp .ge 12, 3) := by decide +kernel
theorem dX6_wayAt_12 : decode cX6_wayAt 12 = .ok (.iload_n 1, 1) := by decide +kernel
theorem dX6_wayAt_13 : decode cX6_wayAt 13 = .ok (.aload_n 0, 1) := by decide +kernel
theorem dX6_wayAt_14 : decode cX6_wayAt 14 = .ok (.getfield 30, 3) := by decide +kernel
theorem dX6_wayAt_17 : decode cX6_wayAt 17 = .ok (.arraylength, 1) := by decide +kernel
theorem dX6_wayAt_18 : decode cX6_wayAt 18 = .ok (.if_icmp .lt 5, 3) := by decide +kernel
theorem dX6_wayAt_21 : decode cX6_wayAt 21 = .ok (.aconst_null, 1) := by decide +kernel
theorem dX6_wayAt_22 : decode cX6_wayAt 22 = .ok (.areturn, 1) := by decide +kernel
theorem dX6_wayAt_23 : decode cX6_wayAt 23 = .ok (.aload_n 0, 1) := by decide +kernel
theorem dX6_wayAt_24 : decode cX6_wayAt 24 = .ok (.getfield 30, 3) := by decide +kernel
theorem dX6_wayAt_27 : decode cX6_wayAt 27 = .ok (.iload_n 1, 1) := by decide +kernel
theorem dX6_wayAt_28 : decode cX6_wayAt 28 = .ok (.aaload, 1) := by decide +kernel
theorem dX6_wayAt_29 : decode cX6_wayAt 29 = .ok (.areturn, 1) := by decide +kernel
theorem dX6_spareWay_0 : decode cX6_spareWay 0 = .ok (.aload_n 0, 1) := by decide +kernel
theorem dX6_spareWay_1 : decode cX6_spareWay 1 = .ok (.getfield 15, 3) := by decide +kernel
theorem dX6_spareWay_4 : decode cX6_spareWay 4 = .ok (.ifCond .lt 15, 3) := by decide +kernel
theorem dX6_spareWay_7 : decode cX6_spareWay 7 = .ok (.aload_n 0, 1) := by decide +kernel
theorem dX6_spareWay_8 : decode cX6_spareWay 8 = .ok (.getfield 15, 3) := by decide +kernel
theorem dX6_spareWay_11 : decode cX6_spareWay 11 = .ok (.aload_n 0, 1) := by decide +kernel
theorem dX6_spareWay_12 : decode cX6_spareWay 12 = .ok (.getfield 30, 3) := by decide +kernel
theorem dX6_spareWay_15 : decode cX6_spareWay 15 = .ok (.arraylength, 1) := by decide +kernel
theorem dX6_spareWay_16 : decode cX6_spareWay 16 = .ok (.if_icmp .lt 5, 3) := by decide +kernel
theorem dX6_spareWay_19 : decode cX6_spareWay 19 = .ok (.aconst_null, 1) := by decide +kernel
theorem dX6_spareWay_20 : decode cX6_spareWay 20 = .ok (.areturn, 1) := by decide +kernel
theorem dX6_spareWay_21 : decode cX6_spareWay 21 = .ok (.aload_n 0, 1) := by decide +kernel
theorem dX6_spareWay_22 : decode cX6_spareWay 22 = .ok (.getfield 30, 3) := by decide +kernel
theorem dX6_spareWay_25 : decode cX6_spareWay 25 = .ok (.aload_n 0, 1) := by decide +kernel
theorem dX6_spareWay_26 : decode cX6_spareWay 26 = .ok (.getfield 15, 3) := by decide +kernel
theorem dX6_spareWay_29 : decode cX6_spareWay 29 = .ok (.aaload, 1) := by decide +kernel
theorem dX6_spareWay_30 : decode cX6_spareWay 30 = .ok (.areturn, 1) := by decide +kernel
theorem dX6_removeWay_0 : decode cX6_removeWay 0 = .ok (.iload_n 1, 1) := by decide +kernel
theorem dX6_removeWay_1 : decode cX6_removeWay 1 = .ok (.istore_n 2, 1) := by decide +kernel
theorem dX6_removeWay_2 : decode cX6_removeWay 2 = .ok (.iload_n 2, 1) := by decide +kernel
theorem dX6_removeWay_3 : decode cX6_removeWay 3 = .ok (.aload_n 0, 1) := by decide +kernel
theorem dX6_removeWay_4 : decode cX6_removeWay 4 = .ok (.getfield 15, 3) := by decide +kernel
theorem dX6_removeWay_7 : decode cX6_removeWay 7 = .ok (.iconst 1, 1) := by decide +kernel
theorem dX6_removeWay_8 : decode cX6_removeWay 8 = .ok (.isub, 1) := by decide +kernel
theorem dX6_removeWay_9 : decode cX6_removeWay 9 = .ok (.if_icmp .ge 39, 3) := by decide +kernel
theorem dX6_removeWay_12 : decode cX6_removeWay 12 = .ok (.aload_n 0, 1) := by decide +kernel
theorem dX6_removeWay_13 : decode cX6_removeWay 13 = .ok (.iload_n 2, 1) := by decide +kernel
theorem dX6_removeWay_14 : decode cX6_removeWay 14 = .ok (.invokevirtual 47, 3) := by decide +kernel
theorem dX6_removeWay_17 : decode cX6_removeWay 17 = .ok (.astore_n 3, 1) := by decide +kernel
theorem dX6_removeWay_18 : decode cX6_removeWay 18 = .ok (.aload_n 0, 1) := by decide +kernel
theorem dX6_removeWay_19 : decode cX6_removeWay 19 = .ok (.iload_n 2, 1) := by decide +kernel
theorem dX6_removeWay_20 : decode cX6_removeWay 20 = .ok (.iconst 1, 1) := by decide +kernel
theorem dX6_removeWay_21 : decode cX6_removeWay 21 = .ok (.iadd, 1) := by decide +kernel
theorem dX6_removeWay_22 : decode cX6_removeWay 22 = .ok (.invokevirtual 47, 3) := by decide +kernel
theorem dX6_removeWay_25 : decode cX6_removeWay 25 = .ok (.astore 4, 2) := by decide +kernel
theorem dX6_removeWay_27 : decode cX6_removeWay 27 = .ok (.aload_n 3, 1) := by decide +kernel
theorem dX6_removeWay_28 : decode cX6_removeWay 28 = .ok (.ifnull 14, 3) := by decide +kernel
theorem dX6_removeWay_31 : decode cX6_removeWay 31 = .ok (.aload 4, 2) := by decide +kernel
theorem dX6_removeWay_33 : decode cX6_removeWay 33 = .ok (.ifnull 9, 3) := by decide +kernel
theorem dX6_removeWay_36 : decode cX6_removeWay 36 = .ok (.aload_n 3, 1) := by decide +kernel
theorem dX6_removeWay_37 : decode cX6_removeWay 37 = .ok (.aload 4, 2) := by decide +kernel
theorem dX6_removeWay_39 : decode cX6_removeWay 39 = .ok (.invokevirtual 51, 3) := by decide +kernel
theorem dX6_removeWay_42 : decode cX6_removeWay 42 = .ok (.iinc 2 1, 3) := by decide +kernel
theorem dX6_removeWay_45 : decode cX6_removeWay 45 = .ok (.goto (-43), 3) := by decide +kernel
theorem dX6_removeWay_48 : decode cX6_removeWay 48 = .ok (.aload_n 0, 1) := by decide +kernel
theorem dX6_removeWay_49 : decode cX6_removeWay 49 = .ok (.dup, 1) := by decide +kernel
theorem dX6_removeWay_50 : decode cX6_removeWay 50 = .ok (.getfield 15, 3) := by decide +kernel
theorem dX6_removeWay_53 : decode cX6_removeWay 53 = .ok (.iconst 1, 1) := by decide +kernel
theorem dX6_removeWay_54 : decode cX6_removeWay 54 = .ok (.isub, 1) := by decide +kernel
theorem dX6_removeWay_55 : decode cX6_removeWay 55 = .ok (.putfield 15, 3) := by decide +kernel
theorem dX6_removeWay_58 : decode cX6_removeWay 58 = .ok (.return_, 1) := by decide +kernel
theorem dX6_designAt_0 : decode cX6_designAt 0 = .ok (.iload_n 1, 1) := by decide +kernel
theorem dX6_designAt_1 : decode cX6_designAt 1 = .ok (.ifCond .lt 20, 3) := by decide +kernel
theorem dX6_designAt_4 : decode cX6_designAt 4 = .ok (.iload_n 1, 1) := by decide +kernel
theorem dX6_designAt_5 : decode cX6_designAt 5 = .ok (.aload_n 0, 1) := by decide +kernel
theorem dX6_designAt_6 : decode cX6_designAt 6 = .ok (.getfield 18, 3) := by decide +kernel
theorem dX6_designAt_9 : decode cX6_designAt 9 = .ok (.if_icmp .ge 12, 3) := by decide +kernel
theorem dX6_designAt_12 : decode cX6_designAt 12 = .ok (.iload_n 1, 1) := by decide +kernel
theorem dX6_designAt_13 : decode cX6_designAt 13 = .ok (.aload_n 0, 1) := by decide +kernel
theorem dX6_designAt_14 : decode cX6_designAt 14 = .ok (.getfield 35, 3) := by decide +kernel
theorem dX6_designAt_17 : decode cX6_designAt 17 = .ok (.arraylength, 1) := by decide +kernel
theorem dX6_designAt_18 : decode cX6_designAt 18 = .ok (.if_icmp .lt 5, 3) := by decide +kernel
theorem dX6_designAt_21 : decode cX6_designAt 21 = .ok (.aconst_null, 1) := by decide +kernel
theorem dX6_designAt_22 : decode cX6_designAt 22 = .ok (.areturn, 1) := by decide +kernel
theorem dX6_designAt_23 : decode cX6_designAt 23 = .ok (.aload_n 0, 1) := by decide +kernel
theorem dX6_designAt_24 : decode cX6_designAt 24 = .ok (.getfield 35, 3) := by decide +kernel
theorem dX6_designAt_27 : decode cX6_designAt 27 = .ok (.iload_n 1, 1) := by decide +kernel
theorem dX6_designAt_28 : decode cX6_designAt 28 = .ok (.aaload, 1) := by decide +kernel
theorem dX6_designAt_29 : decode cX6_designAt 29 = .ok (.areturn, 1) := by decide +kernel
theorem dX6_spareDesign_0 : decode cX6_spareDesign 0 = .ok (.aload_n 0, 1) := by decide +kernel
theorem dX6_spareDesign_1 : decode cX6_spareDesign 1 = .ok (.getfield 18, 3) := by decide +kernel
theorem dX6_spareDesign_4 : decode cX6_spareDesign 4 = .ok (.ifCond .lt 15, 3) := by decide +kernel
theorem dX6_spareDesign_7 : decode cX6_spareDesign 7 = .ok (.aload_n 0, 1) := by decide +kernel
theorem dX6_spareDesign_8 : decode cX6_spareDesign 8 = .ok (.getfield 18, 3) := by decide +kernel
theorem dX6_spareDesign_11 : decode cX6_spareDesign 11 = .ok (.aload_n 0, 1) := by decide +kernel
theorem dX6_spareDesign_12 : decode cX6_spareDesign 12 = .ok (.getfield 35, 3) := by decide +kernel
theorem dX6_spareDesign_15 : decode cX6_spareDesign 15 = .ok (.arraylength, 1) := by decide +kernel
theorem dX6_spareDesign_16 : decode cX6_spareDesign 16 = .ok (.if_icmp .lt 5, 3) := by decide +kernel
theorem dX6_spareDesign_19 : decode cX6_spareDesign 19 = .ok (.aconst_null, 1) := by decide +kernel
theorem dX6_spareDesign_20 : decode cX6_spareDesign 20 = .ok (.areturn, 1) := by decide +kernel
theorem dX6_spareDesign_21 : decode cX6_spareDesign 21 = .ok (.aload_n 0, 1) := by decide +kernel
theorem dX6_spareDesign_22 : decode cX6_spareDesign 22 = .ok (.getfield 35, 3) := by decide +kernel
theorem dX6_spareDesign_25 : decode cX6_spareDesign 25 = .ok (.aload_n 0, 1) := by decide +kernel
theorem dX6_spareDesign_26 : decode cX6_spareDesign 26 = .ok (.getfield 18, 3) := by decide +kernel
theorem dX6_spareDesign_29 : decode cX6_spareDesign 29 = .ok (.aaload, 1) := by decide +kernel
theorem dX6_spareDesign_30 : decode cX6_spareDesign 30 = .ok (.areturn, 1) := by decide +kernel
theorem dX7_init_0 : decode cX7_init 0 = .ok (.aload_n 0, 1) := by decide +kernel
theorem dX7_init_1 : decode cX7_init 1 = .ok (.invokespecial 3, 3) := by decide +kernel
theorem dX7_init_4 : decode cX7_init 4 = .ok (.aload_n 0, 1) := by decide +kernel
theorem dX7_init_5 : decode cX7_init 5 = .ok (.iconst (-1), 1) := by decide +kernel
theorem dX7_init_6 : decode cX7_init 6 = .ok (.putfield 9, 3) := by decide +kernel
theorem dX7_init_9 : decode cX7_init 9 = .ok (.aload_n 0, 1) := by decide +kernel
theorem dX7_init_10 : decode cX7_init 10 = .ok (.iconst 0, 1) := by decide +kernel
theorem dX7_init_11 : decode cX7_init 11 = .ok (.putfield 15, 3) := by decide +kernel
theorem dX7_init_14 : decode cX7_init 14 = .ok (.aload_n 0, 1) := by decide +kernel
theorem dX7_init_15 : decode cX7_init 15 = .ok (.bipush 60, 2) := by decide +kernel
theorem dX7_init_17 : decode cX7_init 17 = .ok (.newarray .long, 2) := by decide +kernel
theorem dX7_init_19 : decode cX7_init 19 = .ok (.putfield 18, 3) := by decide +kernel
theorem dX7_init_22 : decode cX7_init 22 = .ok (.return_, 1) := by decide +kernel
theorem dX7_become_0 : decode cX7_become 0 = .ok (.aload_n 0, 1) := by decide +kernel
theorem dX7_become_1 : decode cX7_become 1 = .ok (.iload_n 1, 1) := by decide +kernel
theorem dX7_become_2 : decode cX7_become 2 = .ok (.putfield 9, 3) := by decide +kernel
theorem dX7_become_5 : decode cX7_become 5 = .ok (.aload_n 0, 1) := by decide +kernel
theorem dX7_become_6 : decode cX7_become 6 = .ok (.iconst 0, 1) := by decide +kernel
theorem dX7_become_7 : decode cX7_become 7 = .ok (.iload_n 2, 1) := by decide +kernel
theorem dX7_become_8 : decode cX7_become 8 = .ok (.aload_n 0, 1) := by decide +kernel
theorem dX7_become_9 : decode cX7_become 9 = .ok (.getfield 18, 3) := by decide +kernel
theorem dX7_become_12 : decode cX7_become 12 = .ok (.arraylength, 1) := by decide +kernel
theorem dX7_become_13 : decode cX7_become 13 = .ok (.invokestatic 22, 3) := by decide +kernel
theorem dX7_become_16 : decode cX7_become 16 = .ok (.invokestatic 28, 3) := by decide +kernel
theorem dX7_become_19 : decode cX7_become 19 = .ok (.putfield 15, 3) := by decide +kernel
theorem dX7_become_22 : decode cX7_become 22 = .ok (.aload_n 0, 1) := by decide +kernel
theorem dX7_become_23 : decode cX7_become 23 = .ok (.getfield 18, 3) := by decide +kernel
theorem dX7_become_26 : decode cX7_become 26 = .ok (.lconst 0, 1) := by decide +kernel
theorem dX7_become_27 : decode cX7_become 27 = .ok (.invokestatic 31, 3) := by decide +kernel
theorem dX7_become_30 : decode cX7_become 30 = .ok (.return_, 1) := by decide +kernel
theorem dX7_isPlace_0 : decode cX7_isPlace 0 = .ok (.iload_n 1, 1) := by decide +kernel
theorem dX7_isPlace_1 : decode cX7_isPlace 1 = .ok (.ifCond .lt 24, 3) := by decide +kernel
theorem dX7_isPlace_4 : decode cX7_isPlace 4 = .ok (.iload_n 1, 1) := by decide +kernel
theorem dX7_isPlace_5 : decode cX7_isPlace 5 = .ok (.aload_n 0, 1) := by decide +kernel
theorem dX7_isPlace_6 : decode cX7_isPlace 6 = .ok (.getfield 15, 3) := by decide +kernel
theorem dX7_isPlace_9 : decode cX7_isPlace 9 = .ok (.if_icmp .ge 16, 3) := by decide +kernel
theorem dX7_isPlace_12 : decode cX7_isPlace 12 = .ok (.iload_n 1, 1) := by decide +kernel
theorem dX7_isPlace_13 : decode cX7_isPlace 13 = .ok (.aload_n 0, 1) := by decide +kernel
theorem dX7_isPlace_14 : decode cX7_isPlace 14 = .ok (.getfield 18, 3) := by decide +kernel
theorem dX7_isPlace_17 : decode cX7_isPlace 17 = .ok (.arraylength, 1) := by decide +kernel
theorem dX7_isPlace_18 : decode cX7_isPlace 18 = .ok (.if_icmp .ge 7, 3) := by decide +kernel
theorem dX7_isPlace_21 : decode cX7_isPlace 21 = .ok (.iconst 1, 1) := by decide +kernel
theorem dX7_isPlace_22 : decode cX7_isPlace 22 = .ok (.goto 4, 3) := by decide +kernel
theorem dX7_isPlace_25 : decode cX7_isPlace 25 = .ok (.iconst 0, 1) := by decide +kernel
theorem dX7_isPlace_26 : decode cX7_isPlace 26 = .ok (.ireturn, 1) := by decide +kernel
theorem dX7_itemAt_0 : decode cX7_itemAt 0 = .ok (.aload_n 0, 1) := by decide +kernel
theorem dX7_itemAt_1 : decode cX7_itemAt 1 = .ok (.iload_n 1, 1) := by decide +kernel
theorem dX7_itemAt_2 : decode cX7_itemAt 2 = .ok (.invokevirtual 37, 3) := by decide +kernel
theorem dX7_itemAt_5 : decode cX7_itemAt 5 = .ok (.ifCond .eq 12, 3) := by decide +kernel
theorem dX7_itemAt_8 : decode cX7_itemAt 8 = .ok (.aload_n 0, 1) := by decide +kernel
theorem dX7_itemAt_9 : decode cX7_itemAt 9 = .ok (.getfield 18, 3) := by decide +kernel
theorem dX7_itemAt_12 : decode cX7_itemAt 12 = .ok (.iload_n 1, 1) := by decide +kernel
theorem dX7_itemAt_13 : decode cX7_itemAt 13 = .ok (.laload, 1) := by decide +kernel
theorem dX7_itemAt_14 : decode cX7_itemAt 14 = .ok (.goto 6, 3) := by decide +kernel
theorem dX7_itemAt_17 : decode cX7_itemAt 17 = .ok (.ldc2_w 41, 3) := by decide +kernel
theorem dX7_itemAt_20 : decode cX7_itemAt 20 = .ok (.lreturn, 1) := by decide +kernel
theorem dX7_put_0 : decode cX7_put 0 = .ok (.aload_n 0, 1) := by decide +kernel
theorem dX7_put_1 : decode cX7_put 1 = .ok (.iload_n 1, 1) := by decide +kernel
theorem dX7_put_2 : decode cX7_put 2 = .ok (.invokevirtual 37, 3) := by decide +kernel
theorem dX7_put_5 : decode cX7_put 5 = .ok (.ifCond .eq 14, 3) := by decide +kernel
theorem dX7_put_8 : decode cX7_put 8 = .ok (.aload_n 0, 1) := by decide +kernel
theorem dX7_put_9 : decode cX7_put 9 = .ok (.getfield 18, 3) := by decide +kernel
theorem dX7_put_12 : decode cX7_put 12 = .ok (.iload_n 1, 1) := by decide +kernel
theorem dX7_put_13 : decode cX7_put 13 = .ok (.aload_n 0, 1) := by decide +kernel
theorem dX7_put_14 : decode cX7_put 14 = .ok (.lload_n 2, 1) := by decide +kernel
theorem dX7_put_15 : decode cX7_put 15 = .ok (.invokevirtual 43, 3) := by decide +kernel
theorem dX7_put_18 : decode cX7_put 18 = .ok (.lastore, 1) := by decide +kernel
theorem dX7_put_19 : decode cX7_put 19 = .ok (.return_, 1) := by decide +kernel
theorem dX7_cut_0 : decode cX7_cut 0 = .ok (.aload_n 0, 1) := by decide +kernel
theorem dX7_cut_1 : decode cX7_cut 1 = .ok (.getfield 9, 3) := by decide +kernel
theorem dX7_cut_4 : decode cX7_cut 4 = .ok (.tableswitch 62 0 4 #[36, 41, 46, 62, 50], 36) := by decide +kernel
theorem dX7_cut_40 : decode cX7_cut 40 = .ok (.lload_n 1, 1) := by decide +kernel
theorem dX7_cut_41 : decode cX7_cut 41 = .ok (.l2i, 1) := by decide +kernel
theorem dX7_cut_42 : decode cX7_cut 42 = .ok (.i2b, 1) := by decide +kernel
theorem dX7_cut_43 : decode cX7_cut 43 = .ok (.i2l, 1) := by decide +kernel
theorem dX7_cut_44 : decode cX7_cut 44 = .ok (.lreturn, 1) := by decide +kernel
theorem dX7_cut_45 : decode cX7_cut 45 = .ok (.lload_n 1, 1) := by decide +kernel
theorem dX7_cut_46 : decode cX7_cut 46 = .ok (.l2i, 1) := by decide +kernel
theorem dX7_cut_47 : decode cX7_cut 47 = .ok (.i2s, 1) := by decide +kernel
theorem dX7_cut_48 : decode cX7_cut 48 = .ok (.i2l, 1) := by decide +kernel
theorem dX7_cut_49 : decode cX7_cut 49 = .ok (.lreturn, 1) := by decide +kernel
theorem dX7_cut_50 : decode cX7_cut 50 = .ok (.lload_n 1, 1) := by decide +kernel
theorem dX7_cut_51 : decode cX7_cut 51 = .ok (.l2i, 1) := by decide +kernel
theorem dX7_cut_52 : decode cX7_cut 52 = .ok (.i2l, 1) := by decide +kernel
theorem dX7_cut_53 : decode cX7_cut 53 = .ok (.lreturn, 1) := by decide +kernel
theorem dX7_cut_54 : decode cX7_cut 54 = .ok (.lload_n 1, 1) := by decide +kernel
theorem dX7_cut_55 : decode cX7_cut 55 = .ok (.lconst 0, 1) := by decide +kernel
theorem dX7_cut_56 : decode cX7_cut 56 = .ok (.lcmp, 1) := by decide +kernel
theorem dX7_cut_57 : decode cX7_cut 57 = .ok (.ifCond .eq 7, 3) := by decide +kernel
theorem dX7_cut_60 : decode cX7_cut 60 = .ok (.lconst 1, 1) := by decide +kernel
theorem dX7_cut_61 : decode cX7_cut 61 = .ok (.goto 4, 3) := by decide +kernel
theorem dX7_cut_64 : decode cX7_cut 64 = .ok (.lconst 0, 1) := by decide +kernel
theorem dX7_cut_65 : decode cX7_cut 65 = .ok (.lreturn, 1) := by decide +kernel
theorem dX7_cut_66 : decode cX7_cut 66 = .ok (.lload_n 1, 1) := by decide +kernel
theorem dX7_cut_67 : decode cX7_cut 67 = .ok (.lreturn, 1) := by decide +kernel
theorem dX7_hasPlaces_0 : decode cX7_hasPlaces 0 = .ok (.iload_n 2, 1) := by decide +kernel
theorem dX7_hasPlaces_1 : decode cX7_hasPlaces 1 = .ok (.ifCond .lt 29, 3) := by decide +kernel
theorem dX7_hasPlaces_4 : decode cX7_hasPlaces 4 = .ok (.iload_n 1, 1) := by decide +kernel
theorem dX7_hasPlaces_5 : decode cX7_hasPlaces 5 = .ok (.ifCond .lt 25, 3) := by decide +kernel
theorem dX7_hasPlaces_8 : decode cX7_hasPlaces 8 = .ok (.iload_n 1, 1) := by decide +kernel
theorem dX7_hasPlaces_9 : decode cX7_hasPlaces 9 = .ok (.aload_n 0, 1) := by decide +kernel
theorem dX7_hasPlaces_10 : decode cX7_hasPlaces 10 = .ok (.getfield 15, 3) := by decide +kernel
theorem dX7_hasPlaces_13 : decode cX7_hasPlaces 13 = .ok (.if_icmp .gt 17, 3) := by decide +kernel
theorem dX7_hasPlaces_16 : decode cX7_hasPlaces 16 = .ok (.iload_n 2, 1) := by decide +kernel
theorem dX7_hasPlaces_17 : decode cX7_hasPlaces 17 = .ok (.aload_n 0, 1) := by decide +kernel
theorem dX7_hasPlaces_18 : decode cX7_hasPlaces 18 = .ok (.getfield 15, 3) := by decide +kernel
theorem dX7_hasPlaces_21 : decode cX7_hasPlaces 21 = .ok (.iload_n 1, 1) := by decide +kernel
theorem dX7_hasPlaces_22 : decode cX7_hasPlaces 22 = .ok (.isub, 1) := by decide +kernel
theorem dX7_hasPlaces_23 : decode cX7_hasPlaces 23 = .ok (.if_icmp .gt 7, 3) := by decide +kernel
theorem dX7_hasPlaces_26 : decode cX7_hasPlaces 26 = .ok (.iconst 1, 1) := by decide +kernel
theorem dX7_hasPlaces_27 : decode cX7_hasPlaces 27 = .ok (.goto 4, 3) := by decide +kernel
theorem dX7_hasPlaces_30 : decode cX7_hasPlaces 30 = .ok (.iconst 0, 1) := by decide +kernel
theorem dX7_hasPlaces_31 : decode cX7_hasPlaces 31 = .ok (.ireturn, 1) := by decide +kernel
theorem dX7_copyItems_0 : decode cX7_copyItems 0 = .ok (.aload_n 0, 1) := by decide +kernel
theorem dX7_copyItems_1 : decode cX7_copyItems 1 = .ok (.iload_n 1, 1) := by decide +kernel
theorem dX7_copyItems_2 : decode cX7_copyItems 2 = .ok (.iload 4, 2) := by decide +kernel
theorem dX7_copyItems_4 : decode cX7_copyItems 4 = .ok (.invokevirtual 47, 3) := by decide +kernel
theorem dX7_copyItems_7 : decode cX7_copyItems 7 = .ok (.ifCond .eq 13, 3) := by decide +kernel
theorem dX7_copyItems_10 : decode cX7_copyItems 10 = .ok (.aload_n 2, 1) := by decide +kernel
theorem dX7_copyItems_11 : decode cX7_copyItems 11 = .ok (.iload_n 3, 1) := by decide +kernel
theorem dX7_copyItems_12 : decode cX7_copyItems 12 = .ok (.iload 4, 2) := by decide +kernel
theorem dX7_copyItems_14 : decode cX7_copyItems 14 = .ok (.invokevirtual 47, 3) := by decide +kernel
theorem dX7_copyItems_17 : decode cX7_copyItems 17 = .ok (.ifCond .ne 4, 3) := by decide +kernel
theorem dX7_copyItems_20 : decode cX7_copyItems 20 = .ok (.return_, 1) := by decide +kernel
theorem dX7_copyItems_21 : decode cX7_copyItems 21 = .ok (.aload_n 2, 1) := by decide +kernel
theorem dX7_copyItems_22 : decode cX7_copyItems 22 = .ok (.getfield 18, 3) := by decide +kernel
theorem dX7_copyItems_25 : decode cX7_copyItems 25 = .ok (.iload_n 3, 1) := by decide +kernel
theorem dX7_copyItems_26 : decode cX7_copyItems 26 = .ok (.aload_n 0, 1) := by decide +kernel
theorem dX7_copyItems_27 : decode cX7_copyItems 27 = .ok (.getfield 18, 3) := by decide +kernel
theorem dX7_copyItems_30 : decode cX7_copyItems 30 = .ok (.iload_n 1, 1) := by decide +kernel
theorem dX7_copyItems_31 : decode cX7_copyItems 31 = .ok (.iload 4, 2) := by decide +kernel
theorem dX7_copyItems_33 : decode cX7_copyItems 33 = .ok (.invokestatic 51, 3) := by decide +kernel
theorem dX7_copyItems_36 : decode cX7_copyItems 36 = .ok (.return_, 1) := by decide +kernel
theorem dX8_init_0 : decode cX8_init 0 = .ok (.aload_n 0, 1) := by decide +kernel
theorem dX8_init_1 : decode cX8_init 1 = .ok (.invokespecial 3, 3) := by decide +kernel
theorem dX8_init_4 : decode cX8_init 4 = .ok (.aload_n 0, 1) := by decide +kernel
theorem dX8_init_5 : decode cX8_init 5 = .ok (.iconst 0, 1) := by decide +kernel
theorem dX8_init_6 : decode cX8_init 6 = .ok (.putfield 9, 3) := by decide +kernel
theorem dX8_init_9 : decode cX8_init 9 = .ok (.aload_n 0, 1) := by decide +kernel
theorem dX8_init_10 : decode cX8_init 10 = .ok (.bipush 100, 2) := by decide +kernel
theorem dX8_init_12 : decode cX8_init 12 = .ok (.newarray .int, 2) := by decide +kernel
theorem dX8_init_14 : decode cX8_init 14 = .ok (.putfield 15, 3) := by decide +kernel
theorem dX8_init_17 : decode cX8_init 17 = .ok (.return_, 1) := by decide +kernel
theorem dX8_append_0 : decode cX8_append 0 = .ok (.aload_n 0, 1) := by decide +kernel
theorem dX8_append_1 : decode cX8_append 1 = .ok (.getfield 9, 3) := by decide +kernel
theorem dX8_append_4 : decode cX8_append 4 = .ok (.ifCond .lt 15, 3) := by decide +kernel
theorem dX8_append_7 : decode cX8_append 7 = .ok (.aload_n 0, 1) := by decide +kernel
theorem dX8_append_8 : decode cX8_append 8 = .ok (.getfield 9, 3) := by decide +kernel
theorem dX8_append_11 : decode cX8_append 11 = .ok (.aload_n 0, 1) := by decide +kernel
theorem dX8_append_12 : decode cX8_append 12 = .ok (.getfield 15, 3) := by decide +kernel
theorem dX8_append_15 : decode cX8_append 15 = .ok (.arraylength, 1) := by decide +kernel
theorem dX8_append_16 : decode cX8_append 16 = .ok (.if_icmp .lt 5, 3) := by decide +kernel
theorem dX8_append_19 : decode cX8_append 19 = .ok (.iconst 0, 1) := by decide +kernel
theorem dX8_append_20 : decode cX8_append 20 = .ok (.ireturn, 1) := by decide +kernel
theorem dX8_append_21 : decode cX8_append 21 = .ok (.aload_n 0, 1) := by decide +kernel
theorem dX8_append_22 : decode cX8_append 22 = .ok (.getfield 15, 3) := by decide +kernel
theorem dX8_append_25 : decode cX8_append 25 = .ok (.aload_n 0, 1) := by decide +kernel
theorem dX8_append_26 : decode cX8_append 26 = .ok (.getfield 9, 3) := by decide +kernel
theorem dX8_append_29 : decode cX8_append 29 = .ok (.iload_n 1, 1) := by decide +kernel
theorem dX8_append_30 : decode cX8_append 30 = .ok (.iastore, 1) := by decide +kernel
theorem dX8_append_31 : decode cX8_append 31 = .ok (.aload_n 0, 1) := by decide +kernel
theorem dX8_append_32 : decode cX8_append 32 = .ok (.dup, 1) := by decide +kernel
theorem dX8_append_33 : decode cX8_append 33 = .ok (.getfield 9, 3) := by decide +kernel
theorem dX8_append_36 : decode cX8_append 36 = .ok (.iconst 1, 1) := by decide +kernel
theorem dX8_append_37 : decode cX8_append 37 = .ok (.iadd, 1) := by decide +kernel
theorem dX8_append_38 : decode cX8_append 38 = .ok (.putfield 9, 3) := by decide +kernel
theorem dX8_append_41 : decode cX8_append 41 = .ok (.iconst 1, 1) := by decide +kernel
theorem dX8_append_42 : decode cX8_append 42 = .ok (.ireturn, 1) := by decide +kernel
theorem dX8_signAt_0 : decode cX8_signAt 0 = .ok (.iload_n 1, 1) := by decide +kernel
theorem dX8_signAt_1 : decode cX8_signAt 1 = .ok (.ifCond .lt 29, 3) := by decide +kernel
theorem dX8_signAt_4 : decode cX8_signAt 4 = .ok (.iload_n 1, 1) := by decide +kernel
theorem dX8_signAt_5 : decode cX8_signAt 5 = .ok (.aload_n 0, 1) := by decide +kernel
theorem dX8_signAt_6 : decode cX8_signAt 6 = .ok (.getfield 9, 3) := by decide +kernel
theorem dX8_signAt_9 : decode cX8_signAt 9 = .ok (.if_icmp .ge 21, 3) := by decide +kernel
theorem dX8_signAt_12 : decode cX8_signAt 12 = .ok (.iload_n 1, 1) := by decide +kernel
theorem dX8_signAt_13 : decode cX8_signAt 13 = .ok (.aload_n 0, 1) := by decide +kernel
theorem dX8_signAt_14 : decode cX8_signAt 14 = .ok (.getfield 15, 3) := by decide +kernel
theorem dX8_signAt_17 : decode cX8_signAt 17 = .ok (.arraylength, 1) := by decide +kernel
theorem dX8_signAt_18 : decode cX8_signAt 18 = .ok (.if_icmp .ge 12, 3) := by decide +kernel
theorem dX8_signAt_21 : decode cX8_signAt 21 = .ok (.aload_n 0, 1) := by decide +kernel
theorem dX8_signAt_22 : decode cX8_signAt 22 = .ok (.getfield 15, 3) := by decide +kernel
theorem dX8_signAt_25 : decode cX8_signAt 25 = .ok (.iload_n 1, 1) := by decide +kernel
theorem dX8_signAt_26 : decode cX8_signAt 26 = .ok (.iaload, 1) := by decide +kernel
theorem dX8_signAt_27 : decode cX8_signAt 27 = .ok (.goto 4, 3) := by decide +kernel
theorem dX8_signAt_30 : decode cX8_signAt 30 = .ok (.iconst (-1), 1) := by decide +kernel
theorem dX8_signAt_31 : decode cX8_signAt 31 = .ok (.ireturn, 1) := by decide +kernel
theorem dX8_digitAt_0 : decode cX8_digitAt 0 = .ok (.aload_n 0, 1) := by decide +kernel
theorem dX8_digitAt_1 : decode cX8_digitAt 1 = .ok (.iload_n 1, 1) := by decide +kernel
theorem dX8_digitAt_2 : decode cX8_digitAt 2 = .ok (.invokevirtual 19, 3) := by decide +kernel
theorem dX8_digitAt_5 : decode cX8_digitAt 5 = .ok (.istore_n 2, 1) := by decide +kernel
theorem dX8_digitAt_6 : decode cX8_digitAt 6 = .ok (.iload_n 2, 1) := by decide +kernel
theorem dX8_digitAt_7 : decode cX8_digitAt 7 = .ok (.bipush 48, 2) := by decide +kernel
theorem dX8_digitAt_9 : decode cX8_digitAt 9 = .ok (.if_icmp .lt 16, 3) := by decide +kernel
theorem dX8_digitAt_12 : decode cX8_digitAt 12 = .ok (.iload_n 2, 1) := by decide +kernel
theorem dX8_digitAt_13 : decode cX8_digitAt 13 = .ok (.bipush 57, 2) := by decide +kernel
theorem dX8_digitAt_15 : decode cX8_digitAt 15 = .ok (.if_icmp .gt 10, 3) := by decide +kernel
theorem dX8_digitAt_18 : decode cX8_digitAt 18 = .ok (.iload_n 2, 1) := by decide +kernel
theorem dX8_digitAt_19 : decode cX8_digitAt 19 = .ok (.bipush 48, 2) := by decide +kernel
theorem dX8_digitAt_21 : decode cX8_digitAt 21 = .ok (.isub, 1) := by decide +kernel
theorem dX8_digitAt_22 : decode cX8_digitAt 22 = .ok (.goto 4, 3) := by decide +kernel
theorem dX8_digitAt_25 : decode cX8_digitAt 25 = .ok (.iconst (-1), 1) := by decide +kernel
theorem dX8_digitAt_26 : decode cX8_digitAt 26 = .ok (.ireturn, 1) := by decide +kernel
theorem dX8_digitsFrom_0 : decode cX8_digitsFrom 0 = .ok (.iconst 0, 1) := by decide +kernel
theorem dX8_digitsFrom_1 : decode cX8_digitsFrom 1 = .ok (.istore_n 3, 1) := by decide +kernel
theorem dX8_digitsFrom_2 : decode cX8_digitsFrom 2 = .ok (.iload_n 3, 1) := by decide +kernel
theorem dX8_digitsFrom_3 : decode cX8_digitsFrom 3 = .ok (.iload_n 2, 1) := by decide +kernel
theorem dX8_digitsFrom_4 : decode cX8_digitsFrom 4 = .ok (.if_icmp .ge 22, 3) := by decide +kernel
theorem dX8_digitsFrom_7 : decode cX8_digitsFrom 7 = .ok (.aload_n 0, 1) := by decide +kernel
theorem dX8_digitsFrom_8 : decode cX8_digitsFrom 8 = .ok (.iload_n 1, 1) := by decide +kernel
theorem dX8_digitsFrom_9 : decode cX8_digitsFrom 9 = .ok (.iload_n 3, 1) := by decide +kernel
theorem dX8_digitsFrom_10 : decode cX8_digitsFrom 10 = .ok (.iadd, 1) := by decide +kernel
theorem dX8_digitsFrom_11 : decode cX8_digitsFrom 11 = .ok (.invokevirtual 23, 3) := by decide +kernel
theorem dX8_digitsFrom_14 : decode cX8_digitsFrom 14 = .ok (.iconst (-1), 1) := by decide +kernel
theorem dX8_digitsFrom_15 : decode cX8_digitsFrom 15 = .ok (.if_icmp .ne 5, 3) := by decide +kernel
theorem dX8_digitsFrom_18 : decode cX8_digitsFrom 18 = .ok (.iload_n 3, 1) := by decide +kernel
theorem dX8_digitsFrom_19 : decode cX8_digitsFrom 19 = .ok (.ireturn, 1) := by decide +kernel
theorem dX8_digitsFrom_20 : decode cX8_digitsFrom 20 = .ok (.iinc 3 1, 3) := by decide +kernel
theorem dX8_digitsFrom_23 : decode cX8_digitsFrom 23 = .ok (.goto (-21), 3) := by decide +kernel
theorem dX8_digitsFrom_26 : decode cX8_digitsFrom 26 = .ok (.iload_n 2, 1) := by decide +kernel
theorem dX8_digitsFrom_27 : decode cX8_digitsFrom 27 = .ok (.ireturn, 1) := by decide +kernel
theorem dX8_numberIn_0 : decode cX8_numberIn 0 = .ok (.iconst 0, 1) := by decide +kernel
theorem dX8_numberIn_1 : decode cX8_numberIn 1 = .ok (.istore_n 3, 1) := by decide +kernel
theorem dX8_numberIn_2 : decode cX8_numberIn 2 = .ok (.iload_n 1, 1) := by decide +kernel
theorem dX8_numberIn_3 : decode cX8_numberIn 3 = .ok (.istore 4, 2) := by decide +kernel
theorem dX8_numberIn_5 : decode cX8_numberIn 5 = .ok (.iload 4, 2) := by decide +kernel
theorem dX8_numberIn_7 : decode cX8_numberIn 7 = .ok (.iload_n 2, 1) := by decide +kernel
theorem dX8_numberIn_8 : decode cX8_numberIn 8 = .ok (.if_icmp .ge 21, 3) := by decide +kernel
theorem dX8_numberIn_11 : decode cX8_numberIn 11 = .ok (.iload_n 3, 1) := by decide +kernel
theorem dX8_numberIn_12 : decode cX8_numberIn 12 = .ok (.bipush 10, 2) := by decide +kernel
theorem dX8_numberIn_14 : decode cX8_numberIn 14 = .ok (.imul, 1) := by decide +kernel
theorem dX8_numberIn_15 : decode cX8_numberIn 15 = .ok (.aload_n 0, 1) := by decide +kernel
theorem dX8_numberIn_16 : decode cX8_numberIn 16 = .ok (.iload 4, 2) := by decide +kernel
theorem dX8_numberIn_18 : decode cX8_numberIn 18 = .ok (.invokevirtual 23, 3) := by decide +kernel
theorem dX8_numberIn_21 : decode cX8_numberIn 21 = .ok (.iadd, 1) := by decide +kernel
theorem dX8_numberIn_22 : decode cX8_numberIn 22 = .ok (.istore_n 3, 1) := by decide +kernel
theorem dX8_numberIn_23 : decode cX8_numberIn 23 = .ok (.iinc 4 1, 3) := by decide +kernel
theorem dX8_numberIn_26 : decode cX8_numberIn 26 = .ok (.goto (-21), 3) := by decide +kernel
theorem dX8_numberIn_29 : decode cX8_numberIn 29 = .ok (.iload_n 3, 1) := by decide +kernel
theorem dX8_numberIn_30 : decode cX8_numberIn 30 = .ok (.ireturn, 1) := by decide +kernel
theorem dX8_fault_0 : decode cX8_fault 0 = .ok (.iconst 0, 1) := by decide +kernel
theorem dX8_fault_1 : decode cX8_fault 1 = .ok (.istore_n 1, 1) := by decide +kernel
theorem dX8_fault_2 : decode cX8_fault 2 = .ok (.iconst 1, 1) := by decide +kernel
theorem dX8_fault_3 : decode cX8_fault 3 = .ok (.istore_n 2, 1) := by decide +kernel
theorem dX8_fault_4 : decode cX8_fault 4 = .ok (.iload_n 2, 1) := by decide +kernel
theorem dX8_fault_5 : decode cX8_fault 5 = .ok (.bipush 12, 2) := by decide +kernel
theorem dX8_fault_7 : decode cX8_fault 7 = .ok (.if_icmp .gt 95, 3) := by decide +kernel
theorem dX8_fault_10 : decode cX8_fault 10 = .ok (.aload_n 0, 1) := by decide +kernel
theorem dX8_fault_11 : decode cX8_fault 11 = .ok (.iload_n 1, 1) := by decide +kernel
theorem dX8_fault_12 : decode cX8_fault 12 = .ok (.invokevirtual 19, 3) := by decide +kernel
theorem dX8_fault_15 : decode cX8_fault 15 = .ok (.istore_n 3, 1) := by decide +kernel
theorem dX8_fault_16 : decode cX8_fault 16 = .ok (.iload_n 3, 1) := by decide +kernel
theorem dX8_fault_17 : decode cX8_fault 17 = .ok (.invokestatic 26, 3) := by decide +kernel
theorem dX8_fault_20 : decode cX8_fault 20 = .ok (.istore 4, 2) := by decide +kernel
theorem dX8_fault_22 : decode cX8_fault 22 = .ok (.iload 4, 2) := by decide +kernel
theorem dX8_fault_24 : decode cX8_fault 24 = .ok (.ifCond .ne 5, 3) := by decide +kernel
theorem dX8_fault_27 : decode cX8_fault 27 = .ok (.iload_n 1, 1) := by decide +kernel
theorem dX8_fault_28 : decode cX8_fault 28 = .ok (.ireturn, 1) := by decide +kernel
theorem dX8_fault_29 : decode cX8_fault 29 = .ok (.aload_n 0, 1) := by decide +kernel
theorem dX8_fault_30 : decode cX8_fault 30 = .ok (.iload_n 1, 1) := by decide +kernel
theorem dX8_fault_31 : decode cX8_fault 31 = .ok (.iconst 1, 1) := by decide +kernel
theorem dX8_fault_32 : decode cX8_fault 32 = .ok (.iadd, 1) := by decide +kernel
theorem dX8_fault_33 : decode cX8_fault 33 = .ok (.iload 4, 2) := by decide +kernel
theorem dX8_fault_35 : decode cX8_fault 35 = .ok (.invokevirtual 29, 3) := by decide +kernel
theorem dX8_fault_38 : decode cX8_fault 38 = .ok (.istore 5, 2) := by decide +kernel
theorem dX8_fault_40 : decode cX8_fault 40 = .ok (.iload_n 1, 1) := by decide +kernel
theorem dX8_fault_41 : decode cX8_fault 41 = .ok (.iconst 1, 1) := by decide +kernel
theorem dX8_fault_42 : decode cX8_fault 42 = .ok (.iadd, 1) := by decide +kernel
theorem dX8_fault_43 : decode cX8_fault 43 = .ok (.iload 5, 2) := by decide +kernel
theorem dX8_fault_45 : decode cX8_fault 45 = .ok (.iadd, 1) := by decide +kernel
theorem dX8_fault_46 : decode cX8_fault 46 = .ok (.istore 6, 2) := by decide +kernel
theorem dX8_fault_48 : decode cX8_fault 48 = .ok (.iload 5, 2) := by decide +kernel
theorem dX8_fault_50 : decode cX8_fault 50 = .ok (.iload_n 3, 1) := by decide +kernel
theorem dX8_fault_51 : decode cX8_fault 51 = .ok (.invokestatic 33, 3) := by decide +kernel
theorem dX8_fault_54 : decode cX8_fault 54 = .ok (.if_icmp .ge 6, 3) := by decide +kernel
theorem dX8_fault_57 : decode cX8_fault 57 = .ok (.iload 6, 2) := by decide +kernel
theorem dX8_fault_59 : decode cX8_fault 59 = .ok (.ireturn, 1) := by decide +kernel
theorem dX8_fault_60 : decode cX8_fault 60 = .ok (.iload 6, 2) := by decide +kernel
theorem dX8_fault_62 : decode cX8_fault 62 = .ok (.aload_n 0, 1) := by decide +kernel
theorem dX8_fault_63 : decode cX8_fault 63 = .ok (.getfield 9, 3) := by decide +kernel
theorem dX8_fault_66 : decode cX8_fault 66 = .ok (.if_icmp .lt 5, 3) := by decide +kernel
theorem dX8_fault_69 : decode cX8_fault 69 = .ok (.iconst (-1), 1) := by decide +kernel
theorem dX8_fault_70 : decode cX8_fault 70 = .ok (.ireturn, 1) := by decide +kernel
theorem dX8_fault_71 : decode cX8_fault 71 = .ok (.aload_n 0, 1) := by decide +kernel
theorem dX8_fault_72 : decode cX8_fault 72 = .ok (.iload 6, 2) := by decide +kernel
theorem dX8_fault_74 : decode cX8_fault 74 = .ok (.invokevirtual 19, 3) := by decide +kernel
theorem dX8_fault_77 : decode cX8_fault 77 = .ok (.bipush 59, 2) := by decide +kernel
theorem dX8_fault_79 : decode cX8_fault 79 = .ok (.if_icmp .ne 9, 3) := by decide +kernel
theorem dX8_fault_82 : decode cX8_fault 82 = .ok (.iload_n 2, 1) := by decide +kernel
theorem dX8_fault_83 : decode cX8_fault 83 = .ok (.bipush 12, 2) := by decide +kernel
theorem dX8_fault_85 : decode cX8_fault 85 = .ok (.if_icmp .ne 6, 3) := by decide +kernel
theorem dX8_fault_88 : decode cX8_fault 88 = .ok (.iload 6, 2) := by decide +kernel
theorem dX8_fault_90 : decode cX8_fault 90 = .ok (.ireturn, 1) := by decide +kernel
theorem dX8_fault_91 : decode cX8_fault 91 = .ok (.iload 6, 2) := by decide +kernel
theorem dX8_fault_93 : decode cX8_fault 93 = .ok (.iconst 1, 1) := by decide +kernel
theorem dX8_fault_94 : decode cX8_fault 94 = .ok (.iadd, 1) := by decide +kernel
theorem dX8_fault_95 : decode cX8_fault 95 = .ok (.istore_n 1, 1) := by decide +kernel
theorem dX8_fault_96 : decode cX8_fault 96 = .ok (.iinc 2 1, 3) := by decide +kernel
theorem dX8_fault_99 : decode cX8_fault 99 = .ok (.goto (-95), 3) := by decide +kernel
theorem dX8_fault_102 : decode cX8_fault 102 = .ok (.iload_n 1, 1) := by decide +kernel
theorem dX8_fault_103 : decode cX8_fault 103 = .ok (.ireturn, 1) := by decide +kernel
theorem dX8_leastDigits_0 : decode cX8_leastDigits 0 = .ok (.iload_n 0, 1) := by decide +kernel
theorem dX8_leastDigits_1 : decode cX8_leastDigits 1 = .ok (.bipush 104, 2) := by decide +kernel
theorem dX8_leastDigits_3 : decode cX8_leastDigits 3 = .ok (.if_icmp .ne 7, 3) := by decide +kernel
theorem dX8_leastDigits_6 : decode cX8_leastDigits 6 = .ok (.iconst 3, 1) := by decide +kernel
theorem dX8_leastDigits_7 : decode cX8_leastDigits 7 = .ok (.goto 17, 3) := by decide +kernel
theorem dX8_leastDigits_10 : decode cX8_leastDigits 10 = .ok (.iload_n 0, 1) := by decide +kernel
theorem dX8_leastDigits_11 : decode cX8_leastDigits 11 = .ok (.bipush 98, 2) := by decide +kernel
theorem dX8_leastDigits_13 : decode cX8_leastDigits 13 = .ok (.if_icmp .ne 7, 3) := by decide +kernel
theorem dX8_leastDigits_16 : decode cX8_leastDigits 16 = .ok (.iconst 1, 1) := by decide +kernel
theorem dX8_leastDigits_17 : decode cX8_leastDigits 17 = .ok (.goto 7, 3) := by decide +kernel
theorem dX8_leastDigits_20 : decode cX8_leastDigits 20 = .ok (.iload_n 0, 1) := by decide +kernel
theorem dX8_leastDigits_21 : decode cX8_leastDigits 21 = .ok (.invokestatic 26, 3) := by decide +kernel
theorem dX8_leastDigits_24 : decode cX8_leastDigits 24 = .ok (.ireturn, 1) := by decide +kernel
theorem dX8_mostDigits_0 : decode cX8_mostDigits 0 = .ok (.iload_n 0, 1) := by decide +kernel
theorem dX8_mostDigits_1 : decode cX8_mostDigits 1 = .ok (.tableswitch 74 98 110 #[71, 74, 74, 74, 74, 69, 71, 74, 74, 69, 74, 74, 67], 67) := by decide +kernel
theorem dX8_mostDigits_68 : decode cX8_mostDigits 68 = .ok (.iconst 1, 1) := by decide +kernel
theorem dX8_mostDigits_69 : decode cX8_mostDigits 69 = .ok (.ireturn, 1) := by decide +kernel
theorem dX8_mostDigits_70 : decode cX8_mostDigits 70 = .ok (.iconst 2, 1) := by decide +kernel
theorem dX8_mostDigits_71 : decode cX8_mostDigits 71 = .ok (.ireturn, 1) := by decide +kernel
theorem dX8_mostDigits_72 : decode cX8_mostDigits 72 = .ok (.bipush 8, 2) := by decide +kernel
theorem dX8_mostDigits_74 : decode cX8_mostDigits 74 = .ok (.ireturn, 1) := by decide +kernel
theorem dX8_mostDigits_75 : decode cX8_mostDigits 75 = .ok (.iconst 0, 1) := by decide +kernel
theorem dX8_mostDigits_76 : decode cX8_mostDigits 76 = .ok (.ireturn, 1) := by decide +kernel
theorem dX9_init_0 : decode cX9_init 0 = .ok (.aload_n 0, 1) := by decide +kernel
theorem dX9_init_1 : decode cX9_init 1 = .ok (.invokespecial 3, 3) := by decide +kernel
theorem dX9_init_4 : decode cX9_init 4 = .ok (.aload_n 0, 1) := by decide +kernel
theorem dX9_init_5 : decode cX9_init 5 = .ok (.bipush 8, 2) := by decide +kernel
theorem dX9_init_7 : decode cX9_init 7 = .ok (.newarray .int, 2) := by decide +kernel
theorem dX9_init_9 : decode cX9_init 9 = .ok (.putfield 9, 3) := by decide +kernel
theorem dX9_init_12 : decode cX9_init 12 = .ok (.return_, 1) := by decide +kernel
theorem dX9_copyFrom_0 : decode cX9_copyFrom 0 = .ok (.aload_n 0, 1) := by decide +kernel
theorem dX9_copyFrom_1 : decode cX9_copyFrom 1 = .ok (.aload_n 1, 1) := by decide +kernel
theorem dX9_copyFrom_2 : decode cX9_copyFrom 2 = .ok (.getfield 15, 3) := by decide +kernel
theorem dX9_copyFrom_5 : decode cX9_copyFrom 5 = .ok (.putfield 15, 3) := by decide +kernel
theorem dX9_copyFrom_8 : decode cX9_copyFrom 8 = .ok (.aload_n 0, 1) := by decide +kernel
theorem dX9_copyFrom_9 : decode cX9_copyFrom 9 = .ok (.aload_n 1, 1) := by decide +kernel
theorem dX9_copyFrom_10 : decode cX9_copyFrom 10 = .ok (.getfield 19, 3) := by decide +kernel
theorem dX9_copyFrom_13 : decode cX9_copyFrom 13 = .ok (.putfield 19, 3) := by decide +kernel
theorem dX9_copyFrom_16 : decode cX9_copyFrom 16 = .ok (.aload_n 1, 1) := by decide +kernel
theorem dX9_copyFrom_17 : decode cX9_copyFrom 17 = .ok (.getfield 9, 3) := by decide +kernel
theorem dX9_copyFrom_20 : decode cX9_copyFrom 20 = .ok (.iconst 0, 1) := by decide +kernel
theorem dX9_copyFrom_21 : decode cX9_copyFrom 21 = .ok (.aload_n 0, 1) := by decide +kernel
theorem dX9_copyFrom_22 : decode cX9_copyFrom 22 = .ok (.getfield 9, 3) := by decide +kernel
theorem dX9_copyFrom_25 : decode cX9_copyFrom 25 = .ok (.iconst 0, 1) := by decide +kernel
theorem dX9_copyFrom_26 : decode cX9_copyFrom 26 = .ok (.bipush 8, 2) := by decide +kernel
theorem dX9_copyFrom_28 : decode cX9_copyFrom 28 = .ok (.invokestatic 22, 3) := by decide +kernel
theorem dX9_copyFrom_31 : decode cX9_copyFrom 31 = .ok (.return_, 1) := by decide +kernel
theorem dX9_becomeKind_0 : decode cX9_becomeKind 0 = .ok (.aload_n 0, 1) := by decide +kernel
theorem dX9_becomeKind_1 : decode cX9_becomeKind 1 = .ok (.iload_n 1, 1) := by decide +kernel
theorem dX9_becomeKind_2 : decode cX9_becomeKind 2 = .ok (.putfield 15, 3) := by decide +kernel
theorem dX9_becomeKind_5 : decode cX9_becomeKind 5 = .ok (.aload_n 0, 1) := by decide +kernel
theorem dX9_becomeKind_6 : decode cX9_becomeKind 6 = .ok (.iload_n 2, 1) := by decide +kernel
theorem dX9_becomeKind_7 : decode cX9_becomeKind 7 = .ok (.putfield 19, 3) := by decide +kernel
theorem dX9_becomeKind_10 : decode cX9_becomeKind 10 = .ok (.iconst 0, 1) := by decide +kernel
theorem dX9_becomeKind_11 : decode cX9_becomeKind 11 = .ok (.istore 4, 2) := by decide +kernel
theorem dX9_becomeKind_13 : decode cX9_becomeKind 13 = .ok (.iload 4, 2) := by decide +kernel
theorem dX9_becomeKind_15 : decode cX9_becomeKind 15 = .ok (.aload_n 0, 1) := by decide +kernel
theorem dX9_becomeKind_16 : decode cX9_becomeKind 16 = .ok (.getfield 9, 3) := by decide +kernel
theorem dX9_becomeKind_19 : decode cX9_becomeKind 19 = .ok (.arraylength, 1) := by decide +kernel
theorem dX9_becomeKind_20 : decode cX9_becomeKind 20 = .ok (.if_icmp .ge 34, 3) := by decide +kernel
theorem dX9_becomeKind_23 : decode cX9_becomeKind 23 = .ok (.aload_n 0, 1) := by decide +kernel
theorem dX9_becomeKind_24 : decode cX9_becomeKind 24 = .ok (.getfield 9, 3) := by decide +kernel
theorem dX9_becomeKind_27 : decode cX9_becomeKind 27 = .ok (.iload 4, 2) := by decide +kernel
theorem dX9_becomeKind_29 : decode cX9_becomeKind 29 = .ok (.iload 4, 2) := by decide +kernel
theorem dX9_becomeKind_31 : decode cX9_becomeKind 31 = .ok (.iload_n 3, 1) := by decide +kernel
theorem dX9_becomeKind_32 : decode cX9_becomeKind 32 = .ok (.if_icmp .ge 13, 3) := by decide +kernel
theorem dX9_becomeKind_35 : decode cX9_becomeKind 35 = .ok (.aload_n 0, 1) := by decide +kernel
theorem dX9_becomeKind_36 : decode cX9_becomeKind 36 = .ok (.iload 4, 2) := by decide +kernel
theorem dX9_becomeKind_38 : decode cX9_becomeKind 38 = .ok (.iload_n 3, 1) := by decide +kernel
theorem dX9_becomeKind_39 : decode cX9_becomeKind 39 = .ok (.invokevirtual 28, 3) := by decide +kernel
theorem dX9_becomeKind_42 : decode cX9_becomeKind 42 = .ok (.goto 5, 3) := by decide +kernel
theorem dX9_becomeKind_45 : decode cX9_becomeKind 45 = .ok (.iload 4, 2) := by decide +kernel
theorem dX9_becomeKind_47 : decode cX9_becomeKind 47 = .ok (.iastore, 1) := by decide +kernel
theorem dX9_becomeKind_48 : decode cX9_becomeKind 48 = .ok (.iinc 4 1, 3) := by decide +kernel
theorem dX9_becomeKind_51 : decode cX9_becomeKind 51 = .ok (.goto (-38), 3) := by decide +kernel
theorem dX9_becomeKind_54 : decode cX9_becomeKind 54 = .ok (.return_, 1) := by decide +kernel
theorem dX9_targetByKind_0 : decode cX9_targetByKind 0 = .ok (.aload_n 0, 1) := by decide +kernel
theorem dX9_targetByKind_1 : decode cX9_targetByKind 1 = .ok (.getfield 15, 3) := by decide +kernel
theorem dX9_targetByKind_4 : decode cX9_targetByKind 4 = .ok (.tableswitch 118 0 4 #[36, 47, 60, 71, 94], 36) := by decide +kernel
theorem dX9_targetByKind_40 : decode cX9_targetByKind 40 = .ok (.iload_n 1, 1) := by decide +kernel
theorem dX9_targetByKind_41 : decode cX9_targetByKind 41 = .ok (.aload_n 0, 1) := by decide +kernel
theorem dX9_targetByKind_42 : decode cX9_targetByKind 42 = .ok (.getfield 19, 3) := by decide +kernel
theorem dX9_targetByKind_45 : decode cX9_targetByKind 45 = .ok (.iadd, 1) := by decide +kernel
theorem dX9_targetByKind_46 : decode cX9_targetByKind 46 = .ok (.iload_n 2, 1) := by decide +kernel
theorem dX9_targetByKind_47 : decode cX9_targetByKind 47 = .ok (.invokestatic 32, 3) := by decide +kernel
theorem dX9_targetByKind_50 : decode cX9_targetByKind 50 = .ok (.ireturn, 1) := by decide +kernel
theorem dX9_targetByKind_51 : decode cX9_targetByKind 51 = .ok (.aload_n 0, 1) := by decide +kernel
theorem dX9_targetByKind_52 : decode cX9_targetByKind 52 = .ok (.getfield 19, 3) := by decide +kernel
theorem dX9_targetByKind_55 : decode cX9_targetByKind 55 = .ok (.iload_n 2, 1) := by decide +kernel
theorem dX9_targetByKind_56 : decode cX9_targetByKind 56 = .ok (.iadd, 1) := by decide +kernel
theorem dX9_targetByKind_57 : decode cX9_targetByKind 57 = .ok (.iload_n 1, 1) := by decide +kernel
theorem dX9_targetByKind_58 : decode cX9_targetByKind 58 = .ok (.isub, 1) := by decide +kernel
theorem dX9_targetByKind_59 : decode cX9_targetByKind 59 = .ok (.iload_n 2, 1) := by decide +kernel
theorem dX9_targetByKind_60 : decode cX9_targetByKind 60 = .ok (.invokestatic 32, 3) := by decide +kernel
theorem dX9_targetByKind_63 : decode cX9_targetByKind 63 = .ok (.ireturn, 1) := by decide +kernel
theorem dX9_targetByKind_64 : decode cX9_targetByKind 64 = .ok (.iload_n 1, 1) := by decide +kernel
theorem dX9_targetByKind_65 : decode cX9_targetByKind 65 = .ok (.aload_n 0, 1) := by decide +kernel
theorem dX9_targetByKind_66 : decode cX9_targetByKind 66 = .ok (.getfield 19, 3) := by decide +kernel
theorem dX9_targetByKind_69 : decode cX9_targetByKind 69 = .ok (.imul, 1) := by decide +kernel
theorem dX9_targetByKind_70 : decode cX9_targetByKind 70 = .ok (.iload_n 2, 1) := by decide +kernel
theorem dX9_targetByKind_71 : decode cX9_targetByKind 71 = .ok (.invokestatic 32, 3) := by decide +kernel
theorem dX9_targetByKind_74 : decode cX9_targetByKind 74 = .ok (.ireturn, 1) := by decide +kernel
theorem dX9_targetByKind_75 : decode cX9_targetByKind 75 = .ok (.iload_n 1, 1) := by decide +kernel
theorem dX9_targetByKind_76 : decode cX9_targetByKind 76 = .ok (.aload_n 0, 1) := by decide +kernel
theorem dX9_targetByKind_77 : decode cX9_targetByKind 77 = .ok (.getfield 19, 3) := by decide +kernel
theorem dX9_targetByKind_80 : decode cX9_targetByKind 80 = .ok (.iload_n 2, 1) := by decide +kernel
theorem dX9_targetByKind_81 : decode cX9_targetByKind 81 = .ok (.invokestatic 32, 3) := by decide +kernel
theorem dX9_targetByKind_84 : decode cX9_targetByKind 84 = .ok (.aload_n 0, 1) := by decide +kernel
theorem dX9_targetByKind_85 : decode cX9_targetByKind 85 = .ok (.getfield 19, 3) := by decide +kernel
theorem dX9_targetByKind_88 : decode cX9_targetByKind 88 = .ok (.iconst 1, 1) := by decide +kernel
theorem dX9_targetByKind_89 : decode cX9_targetByKind 89 = .ok (.iadd, 1) := by decide +kernel
theorem dX9_targetByKind_90 : decode cX9_targetByKind 90 = .ok (.iload_n 2, 1) := by decide +kernel
theorem dX9_targetByKind_91 : decode cX9_targetByKind 91 = .ok (.invokestatic 32, 3) := by decide +kernel
theorem dX9_targetByKind_94 : decode cX9_targetByKind 94 = .ok (.invokestatic 35, 3) := by decide +kernel
theorem dX9_targetByKind_97 : decode cX9_targetByKind 97 = .ok (.ireturn, 1) := by decide +kernel
theorem dX9_targetByKind_98 : decode cX9_targetByKind 98 = .ok (.iload_n 1, 1) := by decide +kernel
theorem dX9_targetByKind_99 : decode cX9_targetByKind 99 = .ok (.iload_n 2, 1) := by decide +kernel
theorem dX9_targetByKind_100 : decode cX9_targetByKind 100 = .ok (.iconst 1, 1) := by decide +kernel
theorem dX9_targetByKind_101 : decode cX9_targetByKind 101 = .ok (.isub, 1) := by decide +kernel
theorem dX9_targetByKind_102 : decode cX9_targetByKind 102 = .ok (.if_icmp .ne 7, 3) := by decide +kernel
theorem dX9_targetByKind_105 : decode cX9_targetByKind 105 = .ok (.iload_n 1, 1) := by decide +kernel
theorem dX9_targetByKind_106 : decode cX9_targetByKind 106 = .ok (.goto 15, 3) := by decide +kernel
theorem dX9_targetByKind_109 : decode cX9_targetByKind 109 = .ok (.iload_n 1, 1) := by decide +kernel
theorem dX9_targetByKind_110 : decode cX9_targetByKind 110 = .ok (.aload_n 0, 1) := by decide +kernel
theorem dX9_targetByKind_111 : decode cX9_targetByKind 111 = .ok (.getfield 19, 3) := by decide +kernel
theorem dX9_targetByKind_114 : decode cX9_targetByKind 114 = .ok (.iadd, 1) := by decide +kernel
theorem dX9_targetByKind_115 : decode cX9_targetByKind 115 = .ok (.iload_n 2, 1) := by decide +kernel
theorem dX9_targetByKind_116 : decode cX9_targetByKind 116 = .ok (.iconst 1, 1) := by decide +kernel
theorem dX9_targetByKind_117 : decode cX9_targetByKind 117 = .ok (.isub, 1) := by decide +kernel
theorem dX9_targetByKind_118 : decode cX9_targetByKind 118 = .ok (.invokestatic 32, 3) := by decide +kernel
theorem dX9_targetByKind_121 : decode cX9_targetByKind 121 = .ok (.ireturn, 1) := by decide +kernel
theorem dX9_targetByKind_122 : decode cX9_targetByKind 122 = .ok (.iload_n 1, 1) := by decide +kernel
theorem dX9_targetByKind_123 : decode cX9_targetByKind 123 = .ok (.ireturn, 1) := by decide +kernel
theorem dX9_swapped_0 : decode cX9_swapped 0 = .ok (.iload_n 0, 1) := by decide +kernel
theorem dX9_swapped_1 : decode cX9_swapped 1 = .ok (.iload_n 1, 1) := by decide +kernel
theorem dX9_swapped_2 : decode cX9_swapped 2 = .ok (.if_icmp .ne 5, 3) := by decide +kernel
theorem dX9_swapped_5 : decode cX9_swapped 5 = .ok (.iload_n 2, 1) := by decide +kernel
theorem dX9_swapped_6 : decode cX9_swapped 6 = .ok (.ireturn, 1) := by decide +kernel
theorem dX9_swapped_7 : decode cX9_swapped 7 = .ok (.iload_n 0, 1) := by decide +kernel
theorem dX9_swapped_8 : decode cX9_swapped 8 = .ok (.iload_n 2, 1) := by decide +kernel
theorem dX9_swapped_9 : decode cX9_swapped 9 = .ok (.if_icmp .ne 7, 3) := by decide +kernel
theorem dX9_swapped_12 : decode cX9_swapped 12 = .ok (.iload_n 1, 1) := by decide +kernel
theorem dX9_swapped_13 : decode cX9_swapped 13 = .ok (.goto 4, 3) := by decide +kernel
theorem dX9_swapped_16 : decode cX9_swapped 16 = .ok (.iload_n 0, 1) := by decide +kernel
theorem dX9_swapped_17 : decode cX9_swapped 17 = .ok (.ireturn, 1) := by decide +kernel
theorem dX9_becomeByHand_0 : decode cX9_becomeByHand 0 = .ok (.aload_n 0, 1) := by decide +kernel
theorem dX9_becomeByHand_1 : decode cX9_becomeByHand 1 = .ok (.iconst 5, 1) := by decide +kernel
theorem dX9_becomeByHand_2 : decode cX9_becomeByHand 2 = .ok (.putfield 15, 3) := by decide +kernel
theorem dX9_becomeByHand_5 : decode cX9_becomeByHand 5 = .ok (.aload_n 0, 1) := by decide +kernel
theorem dX9_becomeByHand_6 : decode cX9_becomeByHand 6 = .ok (.iconst 0, 1) := by decide +kernel
theorem dX9_becomeByHand_7 : decode cX9_becomeByHand 7 = .ok (.putfield 19, 3) := by decide +kernel
theorem dX9_becomeByHand_10 : decode cX9_becomeByHand 10 = .ok (.iload_n 1, 1) := by decide +kernel
theorem dX9_becomeByHand_11 : decode cX9_becomeByHand 11 = .ok (.istore_n 3, 1) := by decide +kernel
theorem dX9_becomeByHand_12 : decode cX9_becomeByHand 12 = .ok (.aload_n 0, 1) := by decide +kernel
theorem dX9_becomeByHand_13 : decode cX9_becomeByHand 13 = .ok (.getfield 9, 3) := by decide +kernel
theorem dX9_becomeByHand_16 : decode cX9_becomeByHand 16 = .ok (.arraylength, 1) := by decide +kernel
theorem dX9_becomeByHand_17 : decode cX9_becomeByHand 17 = .ok (.iconst 1, 1) := by decide +kernel
theorem dX9_becomeByHand_18 : decode cX9_becomeByHand 18 = .ok (.isub, 1) := by decide +kernel
theorem dX9_becomeByHand_19 : decode cX9_becomeByHand 19 = .ok (.istore 4, 2) := by decide +kernel
theorem dX9_becomeByHand_21 : decode cX9_becomeByHand 21 = .ok (.iload 4, 2) := by decide +kernel
theorem dX9_becomeByHand_23 : decode cX9_becomeByHand 23 = .ok (.ifCond .lt 44, 3) := by decide +kernel
theorem dX9_becomeByHand_26 : decode cX9_becomeByHand 26 = .ok (.aload_n 0, 1) := by decide +kernel
theorem dX9_becomeByHand_27 : decode cX9_becomeByHand 27 = .ok (.getfield 9, 3) := by decide +kernel
theorem dX9_becomeByHand_30 : decode cX9_becomeByHand 30 = .ok (.iload 4, 2) := by decide +kernel
theorem dX9_becomeByHand_32 : decode cX9_becomeByHand 32 = .ok (.iload 4, 2) := by decide +kernel
theorem dX9_becomeByHand_34 : decode cX9_becomeByHand 34 = .ok (.iload_n 2, 1) := by decide +kernel
theorem dX9_becomeByHand_35 : decode cX9_becomeByHand 35 = .ok (.if_icmp .ge 12, 3) := by decide +kernel
theorem dX9_becomeByHand_38 : decode cX9_becomeByHand 38 = .ok (.iload_n 3, 1) := by decide +kernel
theorem dX9_becomeByHand_39 : decode cX9_becomeByHand 39 = .ok (.bipush 10, 2) := by decide +kernel
theorem dX9_becomeByHand_41 : decode cX9_becomeByHand 41 = .ok (.irem, 1) := by decide +kernel
theorem dX9_becomeByHand_42 : decode cX9_becomeByHand 42 = .ok (.iconst 1, 1) := by decide +kernel
theorem dX9_becomeByHand_43 : decode cX9_becomeByHand 43 = .ok (.isub, 1) := by decide +kernel
theorem dX9_becomeByHand_44 : decode cX9_becomeByHand 44 = .ok (.goto 5, 3) := by decide +kernel
theorem dX9_becomeByHand_47 : decode cX9_becomeByHand 47 = .ok (.iload 4, 2) := by decide +kernel
theorem dX9_becomeByHand_49 : decode cX9_becomeByHand 49 = .ok (.iastore, 1) := by decide +kernel
theorem dX9_becomeByHand_50 : decode cX9_becomeByHand 50 = .ok (.iload 4, 2) := by decide +kernel
theorem dX9_becomeByHand_52 : decode cX9_becomeByHand 52 = .ok (.iload_n 2, 1) := by decide +kernel
theorem dX9_becomeByHand_53 : decode cX9_becomeByHand 53 = .ok (.if_icmp .ge 8, 3) := by decide +kernel
theorem dX9_becomeByHand_56 : decode cX9_becomeByHand 56 = .ok (.iload_n 3, 1) := by decide +kernel
theorem dX9_becomeByHand_57 : decode cX9_becomeByHand 57 = .ok (.bipush 10, 2) := by decide +kernel
theorem dX9_becomeByHand_59 : decode cX9_becomeByHand 59 = .ok (.idiv, 1) := by decide +kernel
theorem dX9_becomeByHand_60 : decode cX9_becomeByHand 60 = .ok (.istore_n 3, 1) := by decide +kernel
theorem dX9_becomeByHand_61 : decode cX9_becomeByHand 61 = .ok (.iinc 4 (-1), 3) := by decide +kernel
theorem dX9_becomeByHand_64 : decode cX9_becomeByHand 64 = .ok (.goto (-43), 3) := by decide +kernel
theorem dX9_becomeByHand_67 : decode cX9_becomeByHand 67 = .ok (.return_, 1) := by decide +kernel
theorem dX9_pointFor_0 : decode cX9_pointFor 0 = .ok (.iload_n 1, 1) := by decide +kernel
theorem dX9_pointFor_1 : decode cX9_pointFor 1 = .ok (.ifCond .lt 12, 3) := by decide +kernel
theorem dX9_pointFor_4 : decode cX9_pointFor 4 = .ok (.iload_n 1, 1) := by decide +kernel
theorem dX9_pointFor_5 : decode cX9_pointFor 5 = .ok (.aload_n 0, 1) := by decide +kernel
theorem dX9_pointFor_6 : decode cX9_pointFor 6 = .ok (.getfield 9, 3) := by decide +kernel
theorem dX9_pointFor_9 : decode cX9_pointFor 9 = .ok (.arraylength, 1) := by decide +kernel
theorem dX9_pointFor_10 : decode cX9_pointFor 10 = .ok (.if_icmp .lt 5, 3) := by decide +kernel
theorem dX9_pointFor_13 : decode cX9_pointFor 13 = .ok (.iconst (-1), 1) := by decide +kernel
theorem dX9_pointFor_14 : decode cX9_pointFor 14 = .ok (.ireturn, 1) := by decide +kernel
theorem dX9_pointFor_15 : decode cX9_pointFor 15 = .ok (.aload_n 0, 1) := by decide +kernel
theorem dX9_pointFor_16 : decode cX9_pointFor 16 = .ok (.getfield 9, 3) := by decide +kernel
theorem dX9_pointFor_19 : decode cX9_pointFor 19 = .ok (.iload_n 1, 1) := by decide +kernel
theorem dX9_pointFor_20 : decode cX9_pointFor 20 = .ok (.iaload, 1) := by decide +kernel
theorem dX9_pointFor_21 : decode cX9_pointFor 21 = .ok (.ireturn, 1) := by decide +kernel
theorem dX9_setFor_0 : decode cX9_setFor 0 = .ok (.iconst 0, 1) := by decide +kernel
theorem dX9_setFor_1 : decode cX9_setFor 1 = .ok (.istore_n 2, 1) := by decide +kernel
theorem dX9_setFor_2 : decode cX9_setFor 2 = .ok (.iconst 0, 1) := by decide +kernel
theorem dX9_setFor_3 : decode cX9_setFor 3 = .ok (.istore_n 3, 1) := by decide +kernel
theorem dX9_setFor_4 : decode cX9_setFor 4 = .ok (.iload_n 3, 1) := by decide +kernel
theorem dX9_setFor_5 : decode cX9_setFor 5 = .ok (.aload_n 0, 1) := by decide +kernel
theorem dX9_setFor_6 : decode cX9_setFor 6 = .ok (.getfield 9, 3) := by decide +kernel
theorem dX9_setFor_9 : decode cX9_setFor 9 = .ok (.arraylength, 1) := by decide +kernel
theorem dX9_setFor_10 : decode cX9_setFor 10 = .ok (.if_icmp .ge 29, 3) := by decide +kernel
theorem dX9_setFor_13 : decode cX9_setFor 13 = .ok (.iload_n 1, 1) := by decide +kernel
theorem dX9_setFor_14 : decode cX9_setFor 14 = .ok (.iload_n 3, 1) := by decide +kernel
theorem dX9_setFor_15 : decode cX9_setFor 15 = .ok (.ishr, 1) := by decide +kernel
theorem dX9_setFor_16 : decode cX9_setFor 16 = .ok (.iconst 1, 1) := by decide +kernel
theorem dX9_setFor_17 : decode cX9_setFor 17 = .ok (.iand, 1) := by decide +kernel
theorem dX9_setFor_18 : decode cX9_setFor 18 = .ok (.iconst 1, 1) := by decide +kernel
theorem dX9_setFor_19 : decode cX9_setFor 19 = .ok (.if_icmp .ne 14, 3) := by decide +kernel
theorem dX9_setFor_22 : decode cX9_setFor 22 = .ok (.iload_n 2, 1) := by decide +kernel
theorem dX9_setFor_23 : decode cX9_setFor 23 = .ok (.iconst 1, 1) := by decide +kernel
theorem dX9_setFor_24 : decode cX9_setFor 24 = .ok (.aload_n 0, 1) := by decide +kernel
theorem dX9_setFor_25 : decode cX9_setFor 25 = .ok (.getfield 9, 3) := by decide +kernel
theorem dX9_setFor_28 : decode cX9_setFor 28 = .ok (.iload_n 3, 1) := by decide +kernel
theorem dX9_setFor_29 : decode cX9_setFor 29 = .ok (.iaload, 1) := by decide +kernel
theorem dX9_setFor_30 : decode cX9_setFor 30 = .ok (.ishl, 1) := by decide +kernel
theorem dX9_setFor_31 : decode cX9_setFor 31 = .ok (.ior, 1) := by decide +kernel
theorem dX9_setFor_32 : decode cX9_setFor 32 = .ok (.istore_n 2, 1) := by decide +kernel
theorem dX9_setFor_33 : decode cX9_setFor 33 = .ok (.iinc 3 1, 3) := by decide +kernel
theorem dX9_setFor_36 : decode cX9_setFor 36 = .ok (.goto (-32), 3) := by decide +kernel
theorem dX9_setFor_39 : decode cX9_setFor 39 = .ok (.iload_n 2, 1) := by decide +kernel
theorem dX9_setFor_40 : decode cX9_setFor 40 = .ok (.ireturn, 1) := by decide +kernel
theorem dX9_period_0 : decode cX9_period 0 = .ok (.iconst 1, 1) := by decide +kernel
theorem dX9_period_1 : decode cX9_period 1 = .ok (.istore_n 1, 1) := by decide +kernel
theorem dX9_period_2 : decode cX9_period 2 = .ok (.iload_n 1, 1) := by decide +kernel
theorem dX9_period_3 : decode cX9_period 3 = .ok (.bipush 15, 2) := by decide +kernel
theorem dX9_period_5 : decode cX9_period 5 = .ok (.if_icmp .ge 19, 3) := by decide +kernel
theorem dX9_period_8 : decode cX9_period 8 = .ok (.aload_n 0, 1) := by decide +kernel
theorem dX9_period_9 : decode cX9_period 9 = .ok (.iload_n 1, 1) := by decide +kernel
theorem dX9_period_10 : decode cX9_period 10 = .ok (.invokevirtual 39, 3) := by decide +kernel
theorem dX9_period_13 : decode cX9_period 13 = .ok (.ifCond .eq 5, 3) := by decide +kernel
theorem dX9_period_16 : decode cX9_period 16 = .ok (.iload_n 1, 1) := by decide +kernel
theorem dX9_period_17 : decode cX9_period 17 = .ok (.ireturn, 1) := by decide +kernel
theorem dX9_period_18 : decode cX9_period 18 = .ok (.iinc 1 1, 3) := by decide +kernel
theorem dX9_period_21 : decode cX9_period 21 = .ok (.goto (-19), 3) := by decide +kernel
theorem dX9_period_24 : decode cX9_period 24 = .ok (.bipush 15, 2) := by decide +kernel
theorem dX9_period_26 : decode cX9_period 26 = .ok (.ireturn, 1) := by decide +kernel
theorem dX9_isDoneAfter_0 : decode cX9_isDoneAfter 0 = .ok (.iconst 0, 1) := by decide +kernel
theorem dX9_isDoneAfter_1 : decode cX9_isDoneAfter 1 = .ok (.istore_n 2, 1) := by decide +kernel
theorem dX9_isDoneAfter_2 : decode cX9_isDoneAfter 2 = .ok (.iload_n 2, 1) := by decide +kernel
theorem dX9_isDoneAfter_3 : decode cX9_isDoneAfter 3 = .ok (.aload_n 0, 1) := by decide +kernel
theorem dX9_isDoneAfter_4 : decode cX9_isDoneAfter 4 = .ok (.getfield 9, 3) := by decide +kernel
theorem dX9_isDoneAfter_7 : decode cX9_isDoneAfter 7 = .ok (.arraylength, 1) := by decide +kernel
theorem dX9_isDoneAfter_8 : decode cX9_isDoneAfter 8 = .ok (.if_icmp .ge 39, 3) := by decide +kernel
theorem dX9_isDoneAfter_11 : decode cX9_isDoneAfter 11 = .ok (.iload_n 2, 1) := by decide +kernel
theorem dX9_isDoneAfter_12 : decode cX9_isDoneAfter 12 = .ok (.istore_n 3, 1) := by decide +kernel
theorem dX9_isDoneAfter_13 : decode cX9_isDoneAfter 13 = .ok (.iconst 0, 1) := by decide +kernel
theorem dX9_isDoneAfter_14 : decode cX9_isDoneAfter 14 = .ok (.istore 4, 2) := by decide +kernel
theorem dX9_isDoneAfter_16 : decode cX9_isDoneAfter 16 = .ok (.iload 4, 2) := by decide +kernel
theorem dX9_isDoneAfter_18 : decode cX9_isDoneAfter 18 = .ok (.iload_n 1, 1) := by decide +kernel
theorem dX9_isDoneAfter_19 : decode cX9_isDoneAfter 19 = .ok (.if_icmp .ge 15, 3) := by decide +kernel
theorem dX9_isDoneAfter_22 : decode cX9_isDoneAfter 22 = .ok (.aload_n 0, 1) := by decide +kernel
theorem dX9_isDoneAfter_23 : decode cX9_isDoneAfter 23 = .ok (.iload_n 3, 1) := by decide +kernel
theorem dX9_isDoneAfter_24 : decode cX9_isDoneAfter 24 = .ok (.invokevirtual 43, 3) := by decide +kernel
theorem dX9_isDoneAfter_27 : decode cX9_isDoneAfter 27 = .ok (.istore_n 3, 1) := by decide +kernel
theorem dX9_isDoneAfter_28 : decode cX9_isDoneAfter 28 = .ok (.iinc 4 1, 3) := by decide +kernel
theorem dX9_isDoneAfter_31 : decode cX9_isDoneAfter 31 = .ok (.goto (-15), 3) := by decide +kernel
theorem dX9_isDoneAfter_34 : decode cX9_isDoneAfter 34 = .ok (.iload_n 3, 1) := by decide +kernel
theorem dX9_isDoneAfter_35 : decode cX9_isDoneAfter 35 = .ok (.iload_n 2, 1) := by decide +kernel
end
section
theorem dX9_isDoneAfter_36 : decode cX9_isDoneAfter 36 = .ok (.if_icmp .eq 5, 3) := by decide +kernel
theorem dX9_isDoneAfter_39 : decode cX9_isDoneAfter 39 = .ok (.iconst 0, 1) := by decide +kernel
theorem dX9_isDoneAfter_40 : decode cX9_isDoneAfter 40 = .ok (.ireturn, 1) := by decide +kernel
theorem dX9_isDoneAfter_41 : decode cX9_isDoneAfter 41 = .ok (.iinc 2 1, 3) := by decide +kernel
theorem dX9_isDoneAfter_44 : decode cX9_isDoneAfter 44 = .ok (.goto (-42), 3) := by decide +kernel
theorem dX9_isDoneAfter_47 : decode cX9_isDoneAfter 47 = .ok (.iconst 1, 1) := by decide +kernel
theorem dX9_isDoneAfter_48 : decode cX9_isDoneAfter 48 = .ok (.ireturn, 1) := by decide +kernel
theorem dX10_init_0 : decode cX10_init 0 = .ok (.aload_n 0, 1) := by decide +kernel
theorem dX10_init_1 : decode cX10_init 1 = .ok (.invokespecial 3, 3) := by decide +kernel
theorem dX10_init_4 : decode cX10_init 4 = .ok (.aload_n 0, 1) := by decide +kernel
theorem dX10_init_5 : decode cX10_init 5 = .ok (.new 9, 3) := by decide +kernel
theorem dX10_init_8 : decode cX10_init 8 = .ok (.dup, 1) := by decide +kernel
theorem dX10_init_9 : decode cX10_init 9 = .ok (.invokespecial 11, 3) := by decide +kernel
theorem dX10_init_12 : decode cX10_init 12 = .ok (.putfield 12, 3) := by decide +kernel
theorem dX10_init_15 : decode cX10_init 15 = .ok (.aload_n 0, 1) := by decide +kernel
theorem dX10_init_16 : decode cX10_init 16 = .ok (.new 9, 3) := by decide +kernel
theorem dX10_init_19 : decode cX10_init 19 = .ok (.dup, 1) := by decide +kernel
theorem dX10_init_20 : decode cX10_init 20 = .ok (.invokespecial 11, 3) := by decide +kernel
theorem dX10_init_23 : decode cX10_init 23 = .ok (.putfield 18, 3) := by decide +kernel
theorem dX10_init_26 : decode cX10_init 26 = .ok (.aload_n 0, 1) := by decide +kernel
theorem dX10_init_27 : decode cX10_init 27 = .ok (.iconst 0, 1) := by decide +kernel
theorem dX10_init_28 : decode cX10_init 28 = .ok (.putfield 21, 3) := by decide +kernel
theorem dX10_init_31 : decode cX10_init 31 = .ok (.aload_n 0, 1) := by decide +kernel
theorem dX10_init_32 : decode cX10_init 32 = .ok (.new 25, 3) := by decide +kernel
theorem dX10_init_35 : decode cX10_init 35 = .ok (.dup, 1) := by decide +kernel
theorem dX10_init_36 : decode cX10_init 36 = .ok (.invokespecial 27, 3) := by decide +kernel
theorem dX10_init_39 : decode cX10_init 39 = .ok (.putfield 28, 3) := by decide +kernel
theorem dX10_init_42 : decode cX10_init 42 = .ok (.aload_n 0, 1) := by decide +kernel
theorem dX10_init_43 : decode cX10_init 43 = .ok (.bipush 6, 2) := by decide +kernel
theorem dX10_init_45 : decode cX10_init 45 = .ok (.anewarray 32, 3) := by decide +kernel
theorem dX10_init_48 : decode cX10_init 48 = .ok (.putfield 34, 3) := by decide +kernel
theorem dX10_init_51 : decode cX10_init 51 = .ok (.iconst 0, 1) := by decide +kernel
theorem dX10_init_52 : decode cX10_init 52 = .ok (.istore_n 1, 1) := by decide +kernel
theorem dX10_init_53 : decode cX10_init 53 = .ok (.iload_n 1, 1) := by decide +kernel
theorem dX10_init_54 : decode cX10_init 54 = .ok (.aload_n 0, 1) := by decide +kernel
theorem dX10_init_55 : decode cX10_init 55 = .ok (.getfield 34, 3) := by decide +kernel
theorem dX10_init_58 : decode cX10_init 58 = .ok (.arraylength, 1) := by decide +kernel
theorem dX10_init_59 : decode cX10_init 59 = .ok (.if_icmp .ge 22, 3) := by decide +kernel
theorem dX10_init_62 : decode cX10_init 62 = .ok (.aload_n 0, 1) := by decide +kernel
theorem dX10_init_63 : decode cX10_init 63 = .ok (.getfield 34, 3) := by decide +kernel
theorem dX10_init_66 : decode cX10_init 66 = .ok (.iload_n 1, 1) := by decide +kernel
theorem dX10_init_67 : decode cX10_init 67 = .ok (.new 32, 3) := by decide +kernel
theorem dX10_init_70 : decode cX10_init 70 = .ok (.dup, 1) := by decide +kernel
theorem dX10_init_71 : decode cX10_init 71 = .ok (.invokespecial 38, 3) := by decide +kernel
theorem dX10_init_74 : decode cX10_init 74 = .ok (.aastore, 1) := by decide +kernel
theorem dX10_init_75 : decode cX10_init 75 = .ok (.iinc 1 1, 3) := by decide +kernel
theorem dX10_init_78 : decode cX10_init 78 = .ok (.goto (-25), 3) := by decide +kernel
theorem dX10_init_81 : decode cX10_init 81 = .ok (.aload_n 0, 1) := by decide +kernel
theorem dX10_init_82 : decode cX10_init 82 = .ok (.new 39, 3) := by decide +kernel
theorem dX10_init_85 : decode cX10_init 85 = .ok (.dup, 1) := by decide +kernel
theorem dX10_init_86 : decode cX10_init 86 = .ok (.invokespecial 41, 3) := by decide +kernel
theorem dX10_init_89 : decode cX10_init 89 = .ok (.putfield 42, 3) := by decide +kernel
theorem dX10_init_92 : decode cX10_init 92 = .ok (.aload_n 0, 1) := by decide +kernel
theorem dX10_init_93 : decode cX10_init 93 = .ok (.new 46, 3) := by decide +kernel
theorem dX10_init_96 : decode cX10_init 96 = .ok (.dup, 1) := by decide +kernel
theorem dX10_init_97 : decode cX10_init 97 = .ok (.invokespecial 48, 3) := by decide +kernel
theorem dX10_init_100 : decode cX10_init 100 = .ok (.putfield 49, 3) := by decide +kernel
theorem dX10_init_103 : decode cX10_init 103 = .ok (.aload_n 0, 1) := by decide +kernel
theorem dX10_init_104 : decode cX10_init 104 = .ok (.new 53, 3) := by decide +kernel
theorem dX10_init_107 : decode cX10_init 107 = .ok (.dup, 1) := by decide +kernel
theorem dX10_init_108 : decode cX10_init 108 = .ok (.invokespecial 55, 3) := by decide +kernel
theorem dX10_init_111 : decode cX10_init 111 = .ok (.putfield 56, 3) := by decide +kernel
theorem dX10_init_114 : decode cX10_init 114 = .ok (.aload_n 0, 1) := by decide +kernel
theorem dX10_init_115 : decode cX10_init 115 = .ok (.new 60, 3) := by decide +kernel
theorem dX10_init_118 : decode cX10_init 118 = .ok (.dup, 1) := by decide +kernel
theorem dX10_init_119 : decode cX10_init 119 = .ok (.invokespecial 62, 3) := by decide +kernel
theorem dX10_init_122 : decode cX10_init 122 = .ok (.putfield 63, 3) := by decide +kernel
theorem dX10_init_125 : decode cX10_init 125 = .ok (.aload_n 0, 1) := by decide +kernel
theorem dX10_init_126 : decode cX10_init 126 = .ok (.new 67, 3) := by decide +kernel
theorem dX10_init_129 : decode cX10_init 129 = .ok (.dup, 1) := by decide +kernel
theorem dX10_init_130 : decode cX10_init 130 = .ok (.invokespecial 69, 3) := by decide +kernel
theorem dX10_init_133 : decode cX10_init 133 = .ok (.putfield 70, 3) := by decide +kernel
theorem dX10_init_136 : decode cX10_init 136 = .ok (.aload_n 0, 1) := by decide +kernel
theorem dX10_init_137 : decode cX10_init 137 = .ok (.new 74, 3) := by decide +kernel
theorem dX10_init_140 : decode cX10_init 140 = .ok (.dup, 1) := by decide +kernel
theorem dX10_init_141 : decode cX10_init 141 = .ok (.invokespecial 76, 3) := by decide +kernel
theorem dX10_init_144 : decode cX10_init 144 = .ok (.putfield 77, 3) := by decide +kernel
theorem dX10_init_147 : decode cX10_init 147 = .ok (.aload_n 0, 1) := by decide +kernel
theorem dX10_init_148 : decode cX10_init 148 = .ok (.new 74, 3) := by decide +kernel
theorem dX10_init_151 : decode cX10_init 151 = .ok (.dup, 1) := by decide +kernel
theorem dX10_init_152 : decode cX10_init 152 = .ok (.invokespecial 76, 3) := by decide +kernel
theorem dX10_init_155 : decode cX10_init 155 = .ok (.putfield 81, 3) := by decide +kernel
theorem dX10_init_158 : decode cX10_init 158 = .ok (.return_, 1) := by decide +kernel
theorem dX10_points_0 : decode cX10_points 0 = .ok (.iload_n 1, 1) := by decide +kernel
theorem dX10_points_1 : decode cX10_points 1 = .ok (.iconst 3, 1) := by decide +kernel
theorem dX10_points_2 : decode cX10_points 2 = .ok (.if_icmp .lt 9, 3) := by decide +kernel
theorem dX10_points_5 : decode cX10_points 5 = .ok (.iload_n 1, 1) := by decide +kernel
theorem dX10_points_6 : decode cX10_points 6 = .ok (.bipush 8, 2) := by decide +kernel
theorem dX10_points_8 : decode cX10_points 8 = .ok (.if_icmp .le 6, 3) := by decide +kernel
theorem dX10_points_11 : decode cX10_points 11 = .ok (.bipush (-2), 2) := by decide +kernel
theorem dX10_points_13 : decode cX10_points 13 = .ok (.ireturn, 1) := by decide +kernel
theorem dX10_points_14 : decode cX10_points 14 = .ok (.aload_n 0, 1) := by decide +kernel
theorem dX10_points_15 : decode cX10_points 15 = .ok (.getfield 12, 3) := by decide +kernel
theorem dX10_points_18 : decode cX10_points 18 = .ok (.getfield 84, 3) := by decide +kernel
theorem dX10_points_21 : decode cX10_points 21 = .ok (.istore_n 2, 1) := by decide +kernel
theorem dX10_points_22 : decode cX10_points 22 = .ok (.aload_n 0, 1) := by decide +kernel
theorem dX10_points_23 : decode cX10_points 23 = .ok (.getfield 12, 3) := by decide +kernel
theorem dX10_points_26 : decode cX10_points 26 = .ok (.iload_n 1, 1) := by decide +kernel
theorem dX10_points_27 : decode cX10_points 27 = .ok (.invokevirtual 88, 3) := by decide +kernel
theorem dX10_points_30 : decode cX10_points 30 = .ok (.iload_n 2, 1) := by decide +kernel
theorem dX10_points_31 : decode cX10_points 31 = .ok (.ireturn, 1) := by decide +kernel
theorem dX10_way_0 : decode cX10_way 0 = .ok (.iload_n 1, 1) := by decide +kernel
theorem dX10_way_1 : decode cX10_way 1 = .ok (.ifCond .lt 8, 3) := by decide +kernel
theorem dX10_way_4 : decode cX10_way 4 = .ok (.iload_n 1, 1) := by decide +kernel
theorem dX10_way_5 : decode cX10_way 5 = .ok (.iconst 5, 1) := by decide +kernel
theorem dX10_way_6 : decode cX10_way 6 = .ok (.if_icmp .lt 5, 3) := by decide +kernel
theorem dX10_way_9 : decode cX10_way 9 = .ok (.iconst (-1), 1) := by decide +kernel
theorem dX10_way_10 : decode cX10_way 10 = .ok (.ireturn, 1) := by decide +kernel
theorem dX10_way_11 : decode cX10_way 11 = .ok (.iload_n 2, 1) := by decide +kernel
theorem dX10_way_12 : decode cX10_way 12 = .ok (.ifCond .lt 9, 3) := by decide +kernel
theorem dX10_way_15 : decode cX10_way 15 = .ok (.iload_n 2, 1) := by decide +kernel
theorem dX10_way_16 : decode cX10_way 16 = .ok (.bipush 9, 2) := by decide +kernel
theorem dX10_way_18 : decode cX10_way 18 = .ok (.if_icmp .le 6, 3) := by decide +kernel
theorem dX10_way_21 : decode cX10_way 21 = .ok (.bipush (-2), 2) := by decide +kernel
theorem dX10_way_23 : decode cX10_way 23 = .ok (.ireturn, 1) := by decide +kernel
theorem dX10_way_24 : decode cX10_way 24 = .ok (.iload_n 1, 1) := by decide +kernel
theorem dX10_way_25 : decode cX10_way 25 = .ok (.iconst 2, 1) := by decide +kernel
theorem dX10_way_26 : decode cX10_way 26 = .ok (.if_icmp .ne 20, 3) := by decide +kernel
theorem dX10_way_29 : decode cX10_way 29 = .ok (.iload_n 2, 1) := by decide +kernel
theorem dX10_way_30 : decode cX10_way 30 = .ok (.aload_n 0, 1) := by decide +kernel
theorem dX10_way_31 : decode cX10_way 31 = .ok (.getfield 12, 3) := by decide +kernel
theorem dX10_way_34 : decode cX10_way 34 = .ok (.getfield 84, 3) := by decide +kernel
theorem dX10_way_37 : decode cX10_way 37 = .ok (.invokestatic 92, 3) := by decide +kernel
theorem dX10_way_40 : decode cX10_way 40 = .ok (.ifCond .eq 6, 3) := by decide +kernel
theorem dX10_way_43 : decode cX10_way 43 = .ok (.bipush (-2), 2) := by decide +kernel
theorem dX10_way_45 : decode cX10_way 45 = .ok (.ireturn, 1) := by decide +kernel
theorem dX10_way_46 : decode cX10_way 46 = .ok (.aload_n 0, 1) := by decide +kernel
theorem dX10_way_47 : decode cX10_way 47 = .ok (.getfield 12, 3) := by decide +kernel
theorem dX10_way_50 : decode cX10_way 50 = .ok (.invokevirtual 96, 3) := by decide +kernel
theorem dX10_way_53 : decode cX10_way 53 = .ok (.astore_n 3, 1) := by decide +kernel
theorem dX10_way_54 : decode cX10_way 54 = .ok (.aload_n 3, 1) := by decide +kernel
theorem dX10_way_55 : decode cX10_way 55 = .ok (.ifnonnull 6, 3) := by decide +kernel
theorem dX10_way_58 : decode cX10_way 58 = .ok (.bipush (-4), 2) := by decide +kernel
theorem dX10_way_60 : decode cX10_way 60 = .ok (.ireturn, 1) := by decide +kernel
theorem dX10_way_61 : decode cX10_way 61 = .ok (.aload_n 3, 1) := by decide +kernel
theorem dX10_way_62 : decode cX10_way 62 = .ok (.iload_n 1, 1) := by decide +kernel
theorem dX10_way_63 : decode cX10_way 63 = .ok (.iload_n 2, 1) := by decide +kernel
theorem dX10_way_64 : decode cX10_way 64 = .ok (.aload_n 0, 1) := by decide +kernel
theorem dX10_way_65 : decode cX10_way 65 = .ok (.getfield 12, 3) := by decide +kernel
theorem dX10_way_68 : decode cX10_way 68 = .ok (.getfield 84, 3) := by decide +kernel
theorem dX10_way_71 : decode cX10_way 71 = .ok (.invokevirtual 100, 3) := by decide +kernel
theorem dX10_way_74 : decode cX10_way 74 = .ok (.aload_n 0, 1) := by decide +kernel
theorem dX10_way_75 : decode cX10_way 75 = .ok (.getfield 12, 3) := by decide +kernel
theorem dX10_way_78 : decode cX10_way 78 = .ok (.dup, 1) := by decide +kernel
theorem dX10_way_79 : decode cX10_way 79 = .ok (.getfield 106, 3) := by decide +kernel
theorem dX10_way_82 : decode cX10_way 82 = .ok (.dup_x1, 1) := by decide +kernel
theorem dX10_way_83 : decode cX10_way 83 = .ok (.iconst 1, 1) := by decide +kernel
theorem dX10_way_84 : decode cX10_way 84 = .ok (.iadd, 1) := by decide +kernel
theorem dX10_way_85 : decode cX10_way 85 = .ok (.putfield 106, 3) := by decide +kernel
theorem dX10_way_88 : decode cX10_way 88 = .ok (.ireturn, 1) := by decide +kernel
theorem dX10_hand_0 : decode cX10_hand 0 = .ok (.iload_n 1, 1) := by decide +kernel
theorem dX10_hand_1 : decode cX10_hand 1 = .ok (.aload_n 0, 1) := by decide +kernel
theorem dX10_hand_2 : decode cX10_hand 2 = .ok (.getfield 12, 3) := by decide +kernel
theorem dX10_hand_5 : decode cX10_hand 5 = .ok (.getfield 84, 3) := by decide +kernel
theorem dX10_hand_8 : decode cX10_hand 8 = .ok (.invokestatic 109, 3) := by decide +kernel
theorem dX10_hand_11 : decode cX10_hand 11 = .ok (.ifCond .ne 6, 3) := by decide +kernel
theorem dX10_hand_14 : decode cX10_hand 14 = .ok (.bipush (-2), 2) := by decide +kernel
theorem dX10_hand_16 : decode cX10_hand 16 = .ok (.ireturn, 1) := by decide +kernel
theorem dX10_hand_17 : decode cX10_hand 17 = .ok (.aload_n 0, 1) := by decide +kernel
theorem dX10_hand_18 : decode cX10_hand 18 = .ok (.getfield 12, 3) := by decide +kernel
theorem dX10_hand_21 : decode cX10_hand 21 = .ok (.invokevirtual 96, 3) := by decide +kernel
theorem dX10_hand_24 : decode cX10_hand 24 = .ok (.astore_n 2, 1) := by decide +kernel
theorem dX10_hand_25 : decode cX10_hand 25 = .ok (.aload_n 2, 1) := by decide +kernel
theorem dX10_hand_26 : decode cX10_hand 26 = .ok (.ifnonnull 6, 3) := by decide +kernel
theorem dX10_hand_29 : decode cX10_hand 29 = .ok (.bipush (-4), 2) := by decide +kernel
theorem dX10_hand_31 : decode cX10_hand 31 = .ok (.ireturn, 1) := by decide +kernel
theorem dX10_hand_32 : decode cX10_hand 32 = .ok (.aload_n 2, 1) := by decide +kernel
theorem dX10_hand_33 : decode cX10_hand 33 = .ok (.iload_n 1, 1) := by decide +kernel
theorem dX10_hand_34 : decode cX10_hand 34 = .ok (.aload_n 0, 1) := by decide +kernel
theorem dX10_hand_35 : decode cX10_hand 35 = .ok (.getfield 12, 3) := by decide +kernel
theorem dX10_hand_38 : decode cX10_hand 38 = .ok (.getfield 84, 3) := by decide +kernel
theorem dX10_hand_41 : decode cX10_hand 41 = .ok (.invokevirtual 112, 3) := by decide +kernel
theorem dX10_hand_44 : decode cX10_hand 44 = .ok (.aload_n 0, 1) := by decide +kernel
theorem dX10_hand_45 : decode cX10_hand 45 = .ok (.getfield 12, 3) := by decide +kernel
theorem dX10_hand_48 : decode cX10_hand 48 = .ok (.dup, 1) := by decide +kernel
theorem dX10_hand_49 : decode cX10_hand 49 = .ok (.getfield 106, 3) := by decide +kernel
theorem dX10_hand_52 : decode cX10_hand 52 = .ok (.dup_x1, 1) := by decide +kernel
theorem dX10_hand_53 : decode cX10_hand 53 = .ok (.iconst 1, 1) := by decide +kernel
theorem dX10_hand_54 : decode cX10_hand 54 = .ok (.iadd, 1) := by decide +kernel
theorem dX10_hand_55 : decode cX10_hand 55 = .ok (.putfield 106, 3) := by decide +kernel
theorem dX10_hand_58 : decode cX10_hand 58 = .ok (.ireturn, 1) := by decide +kernel
theorem dX10_drop_0 : decode cX10_drop 0 = .ok (.aload_n 0, 1) := by decide +kernel
theorem dX10_drop_1 : decode cX10_drop 1 = .ok (.getfield 12, 3) := by decide +kernel
theorem dX10_drop_4 : decode cX10_drop 4 = .ok (.iload_n 1, 1) := by decide +kernel
theorem dX10_drop_5 : decode cX10_drop 5 = .ok (.invokevirtual 116, 3) := by decide +kernel
theorem dX10_drop_8 : decode cX10_drop 8 = .ok (.ifnonnull 5, 3) := by decide +kernel
theorem dX10_drop_11 : decode cX10_drop 11 = .ok (.iconst (-1), 1) := by decide +kernel
theorem dX10_drop_12 : decode cX10_drop 12 = .ok (.ireturn, 1) := by decide +kernel
theorem dX10_drop_13 : decode cX10_drop 13 = .ok (.aload_n 0, 1) := by decide +kernel
theorem dX10_drop_14 : decode cX10_drop 14 = .ok (.getfield 12, 3) := by decide +kernel
theorem dX10_drop_17 : decode cX10_drop 17 = .ok (.iload_n 1, 1) := by decide +kernel
theorem dX10_drop_18 : decode cX10_drop 18 = .ok (.invokevirtual 120, 3) := by decide +kernel
theorem dX10_drop_21 : decode cX10_drop 21 = .ok (.aload_n 0, 1) := by decide +kernel
theorem dX10_drop_22 : decode cX10_drop 22 = .ok (.getfield 12, 3) := by decide +kernel
theorem dX10_drop_25 : decode cX10_drop 25 = .ok (.getfield 106, 3) := by decide +kernel
theorem dX10_drop_28 : decode cX10_drop 28 = .ok (.ireturn, 1) := by decide +kernel
theorem dX10_wayOf_0 : decode cX10_wayOf 0 = .ok (.aload_n 0, 1) := by decide +kernel
theorem dX10_wayOf_1 : decode cX10_wayOf 1 = .ok (.getfield 12, 3) := by decide +kernel
theorem dX10_wayOf_4 : decode cX10_wayOf 4 = .ok (.iload_n 1, 1) := by decide +kernel
theorem dX10_wayOf_5 : decode cX10_wayOf 5 = .ok (.invokevirtual 116, 3) := by decide +kernel
theorem dX10_wayOf_8 : decode cX10_wayOf 8 = .ok (.astore_n 3, 1) := by decide +kernel
theorem dX10_wayOf_9 : decode cX10_wayOf 9 = .ok (.aload_n 3, 1) := by decide +kernel
theorem dX10_wayOf_10 : decode cX10_wayOf 10 = .ok (.ifnonnull 5, 3) := by decide +kernel
theorem dX10_wayOf_13 : decode cX10_wayOf 13 = .ok (.iconst (-1), 1) := by decide +kernel
theorem dX10_wayOf_14 : decode cX10_wayOf 14 = .ok (.ireturn, 1) := by decide +kernel
theorem dX10_wayOf_15 : decode cX10_wayOf 15 = .ok (.iload_n 2, 1) := by decide +kernel
theorem dX10_wayOf_16 : decode cX10_wayOf 16 = .ok (.tableswitch 67 0 3 #[32, 37, 42, 62], 32) := by decide +kernel
theorem dX10_wayOf_48 : decode cX10_wayOf 48 = .ok (.aload_n 3, 1) := by decide +kernel
theorem dX10_wayOf_49 : decode cX10_wayOf 49 = .ok (.getfield 123, 3) := by decide +kernel
theorem dX10_wayOf_52 : decode cX10_wayOf 52 = .ok (.ireturn, 1) := by decide +kernel
theorem dX10_wayOf_53 : decode cX10_wayOf 53 = .ok (.aload_n 3, 1) := by decide +kernel
theorem dX10_wayOf_54 : decode cX10_wayOf 54 = .ok (.getfield 126, 3) := by decide +kernel
theorem dX10_wayOf_57 : decode cX10_wayOf 57 = .ok (.ireturn, 1) := by decide +kernel
theorem dX10_wayOf_58 : decode cX10_wayOf 58 = .ok (.aload_n 0, 1) := by decide +kernel
theorem dX10_wayOf_59 : decode cX10_wayOf 59 = .ok (.getfield 12, 3) := by decide +kernel
theorem dX10_wayOf_62 : decode cX10_wayOf 62 = .ok (.getfield 129, 3) := by decide +kernel
theorem dX10_wayOf_65 : decode cX10_wayOf 65 = .ok (.aload_n 3, 1) := by decide +kernel
theorem dX10_wayOf_66 : decode cX10_wayOf 66 = .ok (.invokevirtual 132, 3) := by decide +kernel
theorem dX10_wayOf_69 : decode cX10_wayOf 69 = .ok (.ifCond .eq 7, 3) := by decide +kernel
theorem dX10_wayOf_72 : decode cX10_wayOf 72 = .ok (.iconst 1, 1) := by decide +kernel
theorem dX10_wayOf_73 : decode cX10_wayOf 73 = .ok (.goto 4, 3) := by decide +kernel
theorem dX10_wayOf_76 : decode cX10_wayOf 76 = .ok (.iconst 0, 1) := by decide +kernel
theorem dX10_wayOf_77 : decode cX10_wayOf 77 = .ok (.ireturn, 1) := by decide +kernel
theorem dX10_wayOf_78 : decode cX10_wayOf 78 = .ok (.aload_n 3, 1) := by decide +kernel
theorem dX10_wayOf_79 : decode cX10_wayOf 79 = .ok (.invokevirtual 136, 3) := by decide +kernel
theorem dX10_wayOf_82 : decode cX10_wayOf 82 = .ok (.ireturn, 1) := by decide +kernel
theorem dX10_wayOf_83 : decode cX10_wayOf 83 = .ok (.iconst (-1), 1) := by decide +kernel
theorem dX10_wayOf_84 : decode cX10_wayOf 84 = .ok (.ireturn, 1) := by decide +kernel
theorem dX10_takes_0 : decode cX10_takes 0 = .ok (.aload_n 0, 1) := by decide +kernel
theorem dX10_takes_1 : decode cX10_takes 1 = .ok (.getfield 12, 3) := by decide +kernel
theorem dX10_takes_4 : decode cX10_takes 4 = .ok (.iload_n 1, 1) := by decide +kernel
theorem dX10_takes_5 : decode cX10_takes 5 = .ok (.invokevirtual 116, 3) := by decide +kernel
theorem dX10_takes_8 : decode cX10_takes 8 = .ok (.astore_n 3, 1) := by decide +kernel
theorem dX10_takes_9 : decode cX10_takes 9 = .ok (.aload_n 3, 1) := by decide +kernel
theorem dX10_takes_10 : decode cX10_takes 10 = .ok (.ifnull 14, 3) := by decide +kernel
theorem dX10_takes_13 : decode cX10_takes 13 = .ok (.aload_n 0, 1) := by decide +kernel
theorem dX10_takes_14 : decode cX10_takes 14 = .ok (.getfield 12, 3) := by decide +kernel
theorem dX10_takes_17 : decode cX10_takes 17 = .ok (.iload_n 2, 1) := by decide +kernel
theorem dX10_takes_18 : decode cX10_takes 18 = .ok (.invokevirtual 140, 3) := by decide +kernel
theorem dX10_takes_21 : decode cX10_takes 21 = .ok (.ifCond .ne 5, 3) := by decide +kernel
theorem dX10_takes_24 : decode cX10_takes 24 = .ok (.iconst (-1), 1) := by decide +kernel
theorem dX10_takes_25 : decode cX10_takes 25 = .ok (.ireturn, 1) := by decide +kernel
theorem dX10_takes_26 : decode cX10_takes 26 = .ok (.aload_n 3, 1) := by decide +kernel
theorem dX10_takes_27 : decode cX10_takes 27 = .ok (.iload_n 2, 1) := by decide +kernel
theorem dX10_takes_28 : decode cX10_takes 28 = .ok (.invokevirtual 144, 3) := by decide +kernel
theorem dX10_takes_31 : decode cX10_takes 31 = .ok (.ireturn, 1) := by decide +kernel
theorem dX10_moves_0 : decode cX10_moves 0 = .ok (.aload_n 0, 1) := by decide +kernel
theorem dX10_moves_1 : decode cX10_moves 1 = .ok (.getfield 12, 3) := by decide +kernel
theorem dX10_moves_4 : decode cX10_moves 4 = .ok (.iload_n 1, 1) := by decide +kernel
theorem dX10_moves_5 : decode cX10_moves 5 = .ok (.invokevirtual 116, 3) := by decide +kernel
theorem dX10_moves_8 : decode cX10_moves 8 = .ok (.astore_n 3, 1) := by decide +kernel
theorem dX10_moves_9 : decode cX10_moves 9 = .ok (.aload_n 3, 1) := by decide +kernel
theorem dX10_moves_10 : decode cX10_moves 10 = .ok (.ifnull 14, 3) := by decide +kernel
theorem dX10_moves_13 : decode cX10_moves 13 = .ok (.aload_n 0, 1) := by decide +kernel
theorem dX10_moves_14 : decode cX10_moves 14 = .ok (.getfield 12, 3) := by decide +kernel
theorem dX10_moves_17 : decode cX10_moves 17 = .ok (.iload_n 2, 1) := by decide +kernel
theorem dX10_moves_18 : decode cX10_moves 18 = .ok (.invokevirtual 148, 3) := by decide +kernel
theorem dX10_moves_21 : decode cX10_moves 21 = .ok (.ifCond .ne 5, 3) := by decide +kernel
theorem dX10_moves_24 : decode cX10_moves 24 = .ok (.iconst (-1), 1) := by decide +kernel
theorem dX10_moves_25 : decode cX10_moves 25 = .ok (.ireturn, 1) := by decide +kernel
theorem dX10_moves_26 : decode cX10_moves 26 = .ok (.aload_n 3, 1) := by decide +kernel
theorem dX10_moves_27 : decode cX10_moves 27 = .ok (.iload_n 2, 1) := by decide +kernel
theorem dX10_moves_28 : decode cX10_moves 28 = .ok (.invokevirtual 151, 3) := by decide +kernel
theorem dX10_moves_31 : decode cX10_moves 31 = .ok (.ireturn, 1) := by decide +kernel
theorem dX10_order_0 : decode cX10_order 0 = .ok (.aload_n 0, 1) := by decide +kernel
theorem dX10_order_1 : decode cX10_order 1 = .ok (.getfield 49, 3) := by decide +kernel
theorem dX10_order_4 : decode cX10_order 4 = .ok (.aload_n 0, 1) := by decide +kernel
theorem dX10_order_5 : decode cX10_order 5 = .ok (.getfield 12, 3) := by decide +kernel
theorem dX10_order_8 : decode cX10_order 8 = .ok (.invokevirtual 154, 3) := by decide +kernel
theorem dX10_order_11 : decode cX10_order 11 = .ok (.ireturn, 1) := by decide +kernel
theorem dX10_orbits_0 : decode cX10_orbits 0 = .ok (.aload_n 0, 1) := by decide +kernel
theorem dX10_orbits_1 : decode cX10_orbits 1 = .ok (.getfield 12, 3) := by decide +kernel
theorem dX10_orbits_4 : decode cX10_orbits 4 = .ok (.iload_n 1, 1) := by decide +kernel
theorem dX10_orbits_5 : decode cX10_orbits 5 = .ok (.invokevirtual 158, 3) := by decide +kernel
theorem dX10_orbits_8 : decode cX10_orbits 8 = .ok (.ifCond .ne 6, 3) := by decide +kernel
theorem dX10_orbits_11 : decode cX10_orbits 11 = .ok (.bipush (-2), 2) := by decide +kernel
theorem dX10_orbits_13 : decode cX10_orbits 13 = .ok (.ireturn, 1) := by decide +kernel
theorem dX10_orbits_14 : decode cX10_orbits 14 = .ok (.aload_n 0, 1) := by decide +kernel
theorem dX10_orbits_15 : decode cX10_orbits 15 = .ok (.getfield 42, 3) := by decide +kernel
theorem dX10_orbits_18 : decode cX10_orbits 18 = .ok (.aload_n 0, 1) := by decide +kernel
theorem dX10_orbits_19 : decode cX10_orbits 19 = .ok (.getfield 12, 3) := by decide +kernel
theorem dX10_orbits_22 : decode cX10_orbits 22 = .ok (.invokevirtual 161, 3) := by decide +kernel
theorem dX10_orbits_25 : decode cX10_orbits 25 = .ok (.aload_n 0, 1) := by decide +kernel
theorem dX10_orbits_26 : decode cX10_orbits 26 = .ok (.getfield 42, 3) := by decide +kernel
theorem dX10_orbits_29 : decode cX10_orbits 29 = .ok (.iload_n 1, 1) := by decide +kernel
theorem dX10_orbits_30 : decode cX10_orbits 30 = .ok (.invokevirtual 165, 3) := by decide +kernel
theorem dX10_orbits_33 : decode cX10_orbits 33 = .ok (.ireturn, 1) := by decide +kernel
theorem dX10_orbit_0 : decode cX10_orbit 0 = .ok (.aload_n 0, 1) := by decide +kernel
theorem dX10_orbit_1 : decode cX10_orbit 1 = .ok (.getfield 12, 3) := by decide +kernel
theorem dX10_orbit_4 : decode cX10_orbit 4 = .ok (.iload_n 1, 1) := by decide +kernel
theorem dX10_orbit_5 : decode cX10_orbit 5 = .ok (.invokevirtual 158, 3) := by decide +kernel
theorem dX10_orbit_8 : decode cX10_orbit 8 = .ok (.ifCond .ne 6, 3) := by decide +kernel
theorem dX10_orbit_11 : decode cX10_orbit 11 = .ok (.bipush (-2), 2) := by decide +kernel
theorem dX10_orbit_13 : decode cX10_orbit 13 = .ok (.ireturn, 1) := by decide +kernel
theorem dX10_orbit_14 : decode cX10_orbit 14 = .ok (.aload_n 0, 1) := by decide +kernel
theorem dX10_orbit_15 : decode cX10_orbit 15 = .ok (.getfield 42, 3) := by decide +kernel
theorem dX10_orbit_18 : decode cX10_orbit 18 = .ok (.aload_n 0, 1) := by decide +kernel
theorem dX10_orbit_19 : decode cX10_orbit 19 = .ok (.getfield 12, 3) := by decide +kernel
theorem dX10_orbit_22 : decode cX10_orbit 22 = .ok (.invokevirtual 161, 3) := by decide +kernel
theorem dX10_orbit_25 : decode cX10_orbit 25 = .ok (.aload_n 0, 1) := by decide +kernel
theorem dX10_orbit_26 : decode cX10_orbit 26 = .ok (.getfield 42, 3) := by decide +kernel
theorem dX10_orbit_29 : decode cX10_orbit 29 = .ok (.iload_n 1, 1) := by decide +kernel
theorem dX10_orbit_30 : decode cX10_orbit 30 = .ok (.iload_n 2, 1) := by decide +kernel
theorem dX10_orbit_31 : decode cX10_orbit 31 = .ok (.invokevirtual 168, 3) := by decide +kernel
theorem dX10_orbit_34 : decode cX10_orbit 34 = .ok (.ifCond .ne 5, 3) := by decide +kernel
theorem dX10_orbit_37 : decode cX10_orbit 37 = .ok (.iconst (-1), 1) := by decide +kernel
theorem dX10_orbit_38 : decode cX10_orbit 38 = .ok (.ireturn, 1) := by decide +kernel
theorem dX10_orbit_39 : decode cX10_orbit 39 = .ok (.iload_n 3, 1) := by decide +kernel
theorem dX10_orbit_40 : decode cX10_orbit 40 = .ok (.tableswitch 59 0 2 #[28, 39, 49], 28) := by decide +kernel
theorem dX10_orbit_68 : decode cX10_orbit 68 = .ok (.aload_n 0, 1) := by decide +kernel
theorem dX10_orbit_69 : decode cX10_orbit 69 = .ok (.getfield 42, 3) := by decide +kernel
theorem dX10_orbit_72 : decode cX10_orbit 72 = .ok (.iload_n 1, 1) := by decide +kernel
theorem dX10_orbit_73 : decode cX10_orbit 73 = .ok (.iload_n 2, 1) := by decide +kernel
theorem dX10_orbit_74 : decode cX10_orbit 74 = .ok (.iconst 0, 1) := by decide +kernel
theorem dX10_orbit_75 : decode cX10_orbit 75 = .ok (.invokevirtual 171, 3) := by decide +kernel
theorem dX10_orbit_78 : decode cX10_orbit 78 = .ok (.ireturn, 1) := by decide +kernel
theorem dX10_orbit_79 : decode cX10_orbit 79 = .ok (.aload_n 0, 1) := by decide +kernel
theorem dX10_orbit_80 : decode cX10_orbit 80 = .ok (.getfield 42, 3) := by decide +kernel
theorem dX10_orbit_83 : decode cX10_orbit 83 = .ok (.iload_n 1, 1) := by decide +kernel
theorem dX10_orbit_84 : decode cX10_orbit 84 = .ok (.iload_n 2, 1) := by decide +kernel
theorem dX10_orbit_85 : decode cX10_orbit 85 = .ok (.invokevirtual 175, 3) := by decide +kernel
theorem dX10_orbit_88 : decode cX10_orbit 88 = .ok (.ireturn, 1) := by decide +kernel
theorem dX10_orbit_89 : decode cX10_orbit 89 = .ok (.aload_n 0, 1) := by decide +kernel
theorem dX10_orbit_90 : decode cX10_orbit 90 = .ok (.getfield 42, 3) := by decide +kernel
theorem dX10_orbit_93 : decode cX10_orbit 93 = .ok (.iload_n 1, 1) := by decide +kernel
theorem dX10_orbit_94 : decode cX10_orbit 94 = .ok (.iload_n 2, 1) := by decide +kernel
theorem dX10_orbit_95 : decode cX10_orbit 95 = .ok (.invokevirtual 179, 3) := by decide +kernel
theorem dX10_orbit_98 : decode cX10_orbit 98 = .ok (.ireturn, 1) := by decide +kernel
theorem dX10_orbit_99 : decode cX10_orbit 99 = .ok (.iconst (-1), 1) := by decide +kernel
theorem dX10_orbit_100 : decode cX10_orbit 100 = .ok (.ireturn, 1) := by decide +kernel
theorem dX10_member_0 : decode cX10_member 0 = .ok (.aload_n 0, 1) := by decide +kernel
theorem dX10_member_1 : decode cX10_member 1 = .ok (.getfield 12, 3) := by decide +kernel
theorem dX10_member_4 : decode cX10_member 4 = .ok (.iload_n 1, 1) := by decide +kernel
theorem dX10_member_5 : decode cX10_member 5 = .ok (.invokevirtual 158, 3) := by decide +kernel
theorem dX10_member_8 : decode cX10_member 8 = .ok (.ifCond .ne 6, 3) := by decide +kernel
theorem dX10_member_11 : decode cX10_member 11 = .ok (.bipush (-2), 2) := by decide +kernel
theorem dX10_member_13 : decode cX10_member 13 = .ok (.ireturn, 1) := by decide +kernel
theorem dX10_member_14 : decode cX10_member 14 = .ok (.aload_n 0, 1) := by decide +kernel
theorem dX10_member_15 : decode cX10_member 15 = .ok (.getfield 42, 3) := by decide +kernel
theorem dX10_member_18 : decode cX10_member 18 = .ok (.aload_n 0, 1) := by decide +kernel
theorem dX10_member_19 : decode cX10_member 19 = .ok (.getfield 12, 3) := by decide +kernel
theorem dX10_member_22 : decode cX10_member 22 = .ok (.invokevirtual 161, 3) := by decide +kernel
theorem dX10_member_25 : decode cX10_member 25 = .ok (.aload_n 0, 1) := by decide +kernel
theorem dX10_member_26 : decode cX10_member 26 = .ok (.getfield 42, 3) := by decide +kernel
theorem dX10_member_29 : decode cX10_member 29 = .ok (.iload_n 1, 1) := by decide +kernel
theorem dX10_member_30 : decode cX10_member 30 = .ok (.iload_n 2, 1) := by decide +kernel
theorem dX10_member_31 : decode cX10_member 31 = .ok (.invokevirtual 168, 3) := by decide +kernel
theorem dX10_member_34 : decode cX10_member 34 = .ok (.ifCond .eq 7, 3) := by decide +kernel
theorem dX10_member_37 : decode cX10_member 37 = .ok (.iload_n 3, 1) := by decide +kernel
theorem dX10_member_38 : decode cX10_member 38 = .ok (.ifCond .ge 5, 3) := by decide +kernel
theorem dX10_member_41 : decode cX10_member 41 = .ok (.iconst (-1), 1) := by decide +kernel
theorem dX10_member_42 : decode cX10_member 42 = .ok (.ireturn, 1) := by decide +kernel
theorem dX10_member_43 : decode cX10_member 43 = .ok (.aload_n 0, 1) := by decide +kernel
theorem dX10_member_44 : decode cX10_member 44 = .ok (.getfield 42, 3) := by decide +kernel
theorem dX10_member_47 : decode cX10_member 47 = .ok (.iload_n 1, 1) := by decide +kernel
theorem dX10_member_48 : decode cX10_member 48 = .ok (.iload_n 2, 1) := by decide +kernel
theorem dX10_member_49 : decode cX10_member 49 = .ok (.iload_n 3, 1) := by decide +kernel
theorem dX10_member_50 : decode cX10_member 50 = .ok (.invokevirtual 171, 3) := by decide +kernel
theorem dX10_member_53 : decode cX10_member 53 = .ok (.ireturn, 1) := by decide +kernel
theorem dX10_orbitOf_0 : decode cX10_orbitOf 0 = .ok (.aload_n 0, 1) := by decide +kernel
theorem dX10_orbitOf_1 : decode cX10_orbitOf 1 = .ok (.getfield 12, 3) := by decide +kernel
theorem dX10_orbitOf_4 : decode cX10_orbitOf 4 = .ok (.iload_n 1, 1) := by decide +kernel
theorem dX10_orbitOf_5 : decode cX10_orbitOf 5 = .ok (.invokevirtual 148, 3) := by decide +kernel
theorem dX10_orbitOf_8 : decode cX10_orbitOf 8 = .ok (.ifCond .ne 5, 3) := by decide +kernel
theorem dX10_orbitOf_11 : decode cX10_orbitOf 11 = .ok (.iconst (-1), 1) := by decide +kernel
theorem dX10_orbitOf_12 : decode cX10_orbitOf 12 = .ok (.ireturn, 1) := by decide +kernel
theorem dX10_orbitOf_13 : decode cX10_orbitOf 13 = .ok (.aload_n 0, 1) := by decide +kernel
theorem dX10_orbitOf_14 : decode cX10_orbitOf 14 = .ok (.getfield 42, 3) := by decide +kernel
theorem dX10_orbitOf_17 : decode cX10_orbitOf 17 = .ok (.aload_n 0, 1) := by decide +kernel
theorem dX10_orbitOf_18 : decode cX10_orbitOf 18 = .ok (.getfield 12, 3) := by decide +kernel
theorem dX10_orbitOf_21 : decode cX10_orbitOf 21 = .ok (.invokevirtual 161, 3) := by decide +kernel
theorem dX10_orbitOf_24 : decode cX10_orbitOf 24 = .ok (.aload_n 0, 1) := by decide +kernel
theorem dX10_orbitOf_25 : decode cX10_orbitOf 25 = .ok (.getfield 42, 3) := by decide +kernel
theorem dX10_orbitOf_28 : decode cX10_orbitOf 28 = .ok (.iload_n 1, 1) := by decide +kernel
theorem dX10_orbitOf_29 : decode cX10_orbitOf 29 = .ok (.invokevirtual 182, 3) := by decide +kernel
theorem dX10_orbitOf_32 : decode cX10_orbitOf 32 = .ok (.ireturn, 1) := by decide +kernel
theorem dX10_table_0 : decode cX10_table 0 = .ok (.aload_n 0, 1) := by decide +kernel
theorem dX10_table_1 : decode cX10_table 1 = .ok (.iload_n 1, 1) := by decide +kernel
theorem dX10_table_2 : decode cX10_table 2 = .ok (.iload_n 2, 1) := by decide +kernel
theorem dX10_table_3 : decode cX10_table 3 = .ok (.invokevirtual 185, 3) := by decide +kernel
theorem dX10_table_6 : decode cX10_table 6 = .ok (.ifCond .ne 6, 3) := by decide +kernel
theorem dX10_table_9 : decode cX10_table 9 = .ok (.bipush (-2), 2) := by decide +kernel
theorem dX10_table_11 : decode cX10_table 11 = .ok (.ireturn, 1) := by decide +kernel
theorem dX10_table_12 : decode cX10_table 12 = .ok (.aload_n 0, 1) := by decide +kernel
theorem dX10_table_13 : decode cX10_table 13 = .ok (.getfield 42, 3) := by decide +kernel
theorem dX10_table_16 : decode cX10_table 16 = .ok (.aload_n 0, 1) := by decide +kernel
theorem dX10_table_17 : decode cX10_table 17 = .ok (.getfield 12, 3) := by decide +kernel
theorem dX10_table_20 : decode cX10_table 20 = .ok (.invokevirtual 161, 3) := by decide +kernel
theorem dX10_table_23 : decode cX10_table 23 = .ok (.aload_n 0, 1) := by decide +kernel
theorem dX10_table_24 : decode cX10_table 24 = .ok (.getfield 42, 3) := by decide +kernel
theorem dX10_table_27 : decode cX10_table 27 = .ok (.iload_n 1, 1) := by decide +kernel
theorem dX10_table_28 : decode cX10_table 28 = .ok (.iload_n 3, 1) := by decide +kernel
theorem dX10_table_29 : decode cX10_table 29 = .ok (.invokevirtual 168, 3) := by decide +kernel
theorem dX10_table_32 : decode cX10_table 32 = .ok (.ifCond .eq 16, 3) := by decide +kernel
theorem dX10_table_35 : decode cX10_table 35 = .ok (.aload_n 0, 1) := by decide +kernel
theorem dX10_table_36 : decode cX10_table 36 = .ok (.getfield 42, 3) := by decide +kernel
theorem dX10_table_39 : decode cX10_table 39 = .ok (.iload_n 2, 1) := by decide +kernel
theorem dX10_table_40 : decode cX10_table 40 = .ok (.iload 4, 2) := by decide +kernel
theorem dX10_table_42 : decode cX10_table 42 = .ok (.invokevirtual 168, 3) := by decide +kernel
theorem dX10_table_45 : decode cX10_table 45 = .ok (.ifCond .ne 5, 3) := by decide +kernel
theorem dX10_table_48 : decode cX10_table 48 = .ok (.iconst (-1), 1) := by decide +kernel
theorem dX10_table_49 : decode cX10_table 49 = .ok (.ireturn, 1) := by decide +kernel
theorem dX10_table_50 : decode cX10_table 50 = .ok (.aload_n 0, 1) := by decide +kernel
theorem dX10_table_51 : decode cX10_table 51 = .ok (.getfield 42, 3) := by decide +kernel
theorem dX10_table_54 : decode cX10_table 54 = .ok (.iload_n 2, 1) := by decide +kernel
theorem dX10_table_55 : decode cX10_table 55 = .ok (.iload 4, 2) := by decide +kernel
theorem dX10_table_57 : decode cX10_table 57 = .ok (.aload_n 0, 1) := by decide +kernel
theorem dX10_table_58 : decode cX10_table 58 = .ok (.getfield 42, 3) := by decide +kernel
theorem dX10_table_61 : decode cX10_table 61 = .ok (.iload_n 1, 1) := by decide +kernel
theorem dX10_table_62 : decode cX10_table 62 = .ok (.iload_n 3, 1) := by decide +kernel
theorem dX10_table_63 : decode cX10_table 63 = .ok (.iconst 0, 1) := by decide +kernel
theorem dX10_table_64 : decode cX10_table 64 = .ok (.invokevirtual 171, 3) := by decide +kernel
theorem dX10_table_67 : decode cX10_table 67 = .ok (.invokevirtual 188, 3) := by decide +kernel
theorem dX10_table_70 : decode cX10_table 70 = .ok (.ireturn, 1) := by decide +kernel
theorem dX10_solved_0 : decode cX10_solved 0 = .ok (.aload_n 0, 1) := by decide +kernel
theorem dX10_solved_1 : decode cX10_solved 1 = .ok (.iload_n 1, 1) := by decide +kernel
theorem dX10_solved_2 : decode cX10_solved 2 = .ok (.iload_n 2, 1) := by decide +kernel
theorem dX10_solved_3 : decode cX10_solved 3 = .ok (.invokevirtual 185, 3) := by decide +kernel
theorem dX10_solved_6 : decode cX10_solved 6 = .ok (.ifCond .eq 10, 3) := by decide +kernel
theorem dX10_solved_9 : decode cX10_solved 9 = .ok (.iload_n 3, 1) := by decide +kernel
theorem dX10_solved_10 : decode cX10_solved 10 = .ok (.invokestatic 191, 3) := by decide +kernel
theorem dX10_solved_13 : decode cX10_solved 13 = .ok (.ifCond .ne 6, 3) := by decide +kernel
theorem dX10_solved_16 : decode cX10_solved 16 = .ok (.bipush (-2), 2) := by decide +kernel
theorem dX10_solved_18 : decode cX10_solved 18 = .ok (.ireturn, 1) := by decide +kernel
theorem dX10_solved_19 : decode cX10_solved 19 = .ok (.iload 4, 2) := by decide +kernel
theorem dX10_solved_21 : decode cX10_solved 21 = .ok (.ifCond .lt 9, 3) := by decide +kernel
theorem dX10_solved_24 : decode cX10_solved 24 = .ok (.iload 4, 2) := by decide +kernel
theorem dX10_solved_26 : decode cX10_solved 26 = .ok (.iconst 1, 1) := by decide +kernel
theorem dX10_solved_27 : decode cX10_solved 27 = .ok (.if_icmp .le 5, 3) := by decide +kernel
theorem dX10_solved_30 : decode cX10_solved 30 = .ok (.iconst (-1), 1) := by decide +kernel
theorem dX10_solved_31 : decode cX10_solved 31 = .ok (.ireturn, 1) := by decide +kernel
theorem dX10_solved_32 : decode cX10_solved 32 = .ok (.aload_n 0, 1) := by decide +kernel
theorem dX10_solved_33 : decode cX10_solved 33 = .ok (.iload_n 1, 1) := by decide +kernel
theorem dX10_solved_34 : decode cX10_solved 34 = .ok (.iload_n 2, 1) := by decide +kernel
theorem dX10_solved_35 : decode cX10_solved 35 = .ok (.invokevirtual 194, 3) := by decide +kernel
theorem dX10_solved_38 : decode cX10_solved 38 = .ok (.ifCond .ne 6, 3) := by decide +kernel
theorem dX10_solved_41 : decode cX10_solved 41 = .ok (.bipush (-3), 2) := by decide +kernel
theorem dX10_solved_43 : decode cX10_solved 43 = .ok (.ireturn, 1) := by decide +kernel
theorem dX10_solved_44 : decode cX10_solved 44 = .ok (.aload_n 0, 1) := by decide +kernel
theorem dX10_solved_45 : decode cX10_solved 45 = .ok (.getfield 56, 3) := by decide +kernel
theorem dX10_solved_48 : decode cX10_solved 48 = .ok (.iload_n 3, 1) := by decide +kernel
theorem dX10_solved_49 : decode cX10_solved 49 = .ok (.iconst 0, 1) := by decide +kernel
theorem dX10_solved_50 : decode cX10_solved 50 = .ok (.invokevirtual 197, 3) := by decide +kernel
theorem dX10_solved_53 : decode cX10_solved 53 = .ok (.iload 4, 2) := by decide +kernel
theorem dX10_solved_55 : decode cX10_solved 55 = .ok (.ifCond .ne 13, 3) := by decide +kernel
theorem dX10_solved_58 : decode cX10_solved 58 = .ok (.aload_n 0, 1) := by decide +kernel
theorem dX10_solved_59 : decode cX10_solved 59 = .ok (.getfield 56, 3) := by decide +kernel
theorem dX10_solved_62 : decode cX10_solved 62 = .ok (.getfield 200, 3) := by decide +kernel
theorem dX10_solved_65 : decode cX10_solved 65 = .ok (.goto 10, 3) := by decide +kernel
theorem dX10_solved_68 : decode cX10_solved 68 = .ok (.aload_n 0, 1) := by decide +kernel
theorem dX10_solved_69 : decode cX10_solved 69 = .ok (.getfield 56, 3) := by decide +kernel
theorem dX10_solved_72 : decode cX10_solved 72 = .ok (.getfield 203, 3) := by decide +kernel
theorem dX10_solved_75 : decode cX10_solved 75 = .ok (.ireturn, 1) := by decide +kernel
theorem dX10_solution_0 : decode cX10_solution 0 = .ok (.aload_n 0, 1) := by decide +kernel
theorem dX10_solution_1 : decode cX10_solution 1 = .ok (.iload_n 1, 1) := by decide +kernel
theorem dX10_solution_2 : decode cX10_solution 2 = .ok (.iload_n 2, 1) := by decide +kernel
theorem dX10_solution_3 : decode cX10_solution 3 = .ok (.invokevirtual 185, 3) := by decide +kernel
theorem dX10_solution_6 : decode cX10_solution 6 = .ok (.ifCond .eq 10, 3) := by decide +kernel
theorem dX10_solution_9 : decode cX10_solution 9 = .ok (.iload_n 3, 1) := by decide +kernel
theorem dX10_solution_10 : decode cX10_solution 10 = .ok (.invokestatic 191, 3) := by decide +kernel
theorem dX10_solution_13 : decode cX10_solution 13 = .ok (.ifCond .ne 6, 3) := by decide +kernel
theorem dX10_solution_16 : decode cX10_solution 16 = .ok (.bipush (-2), 2) := by decide +kernel
theorem dX10_solution_18 : decode cX10_solution 18 = .ok (.ireturn, 1) := by decide +kernel
theorem dX10_solution_19 : decode cX10_solution 19 = .ok (.iload 4, 2) := by decide +kernel
theorem dX10_solution_21 : decode cX10_solution 21 = .ok (.ifCond .ge 5, 3) := by decide +kernel
theorem dX10_solution_24 : decode cX10_solution 24 = .ok (.iconst (-1), 1) := by decide +kernel
theorem dX10_solution_25 : decode cX10_solution 25 = .ok (.ireturn, 1) := by decide +kernel
theorem dX10_solution_26 : decode cX10_solution 26 = .ok (.aload_n 0, 1) := by decide +kernel
theorem dX10_solution_27 : decode cX10_solution 27 = .ok (.iload_n 1, 1) := by decide +kernel
theorem dX10_solution_28 : decode cX10_solution 28 = .ok (.iload_n 2, 1) := by decide +kernel
theorem dX10_solution_29 : decode cX10_solution 29 = .ok (.invokevirtual 194, 3) := by decide +kernel
theorem dX10_solution_32 : decode cX10_solution 32 = .ok (.ifCond .ne 6, 3) := by decide +kernel
theorem dX10_solution_35 : decode cX10_solution 35 = .ok (.bipush (-3), 2) := by decide +kernel
theorem dX10_solution_37 : decode cX10_solution 37 = .ok (.ireturn, 1) := by decide +kernel
theorem dX10_solution_38 : decode cX10_solution 38 = .ok (.aload_n 0, 1) := by decide +kernel
theorem dX10_solution_39 : decode cX10_solution 39 = .ok (.getfield 56, 3) := by decide +kernel
theorem dX10_solution_42 : decode cX10_solution 42 = .ok (.iload_n 3, 1) := by decide +kernel
theorem dX10_solution_43 : decode cX10_solution 43 = .ok (.iload 4, 2) := by decide +kernel
theorem dX10_solution_45 : decode cX10_solution 45 = .ok (.invokevirtual 197, 3) := by decide +kernel
theorem dX10_solution_48 : decode cX10_solution 48 = .ok (.aload_n 0, 1) := by decide +kernel
theorem dX10_solution_49 : decode cX10_solution 49 = .ok (.getfield 56, 3) := by decide +kernel
theorem dX10_solution_52 : decode cX10_solution 52 = .ok (.getfield 203, 3) := by decide +kernel
theorem dX10_solution_55 : decode cX10_solution 55 = .ok (.ireturn, 1) := by decide +kernel
theorem dX10_cover_0 : decode cX10_cover 0 = .ok (.aload_n 0, 1) := by decide +kernel
theorem dX10_cover_1 : decode cX10_cover 1 = .ok (.iload_n 1, 1) := by decide +kernel
theorem dX10_cover_2 : decode cX10_cover 2 = .ok (.iload_n 2, 1) := by decide +kernel
theorem dX10_cover_3 : decode cX10_cover 3 = .ok (.invokevirtual 185, 3) := by decide +kernel
theorem dX10_cover_6 : decode cX10_cover 6 = .ok (.ifCond .ne 6, 3) := by decide +kernel
theorem dX10_cover_9 : decode cX10_cover 9 = .ok (.bipush (-2), 2) := by decide +kernel
theorem dX10_cover_11 : decode cX10_cover 11 = .ok (.ireturn, 1) := by decide +kernel
theorem dX10_cover_12 : decode cX10_cover 12 = .ok (.iload_n 3, 1) := by decide +kernel
theorem dX10_cover_13 : decode cX10_cover 13 = .ok (.ifCond .lt 8, 3) := by decide +kernel
theorem dX10_cover_16 : decode cX10_cover 16 = .ok (.iload_n 3, 1) := by decide +kernel
theorem dX10_cover_17 : decode cX10_cover 17 = .ok (.iconst 1, 1) := by decide +kernel
theorem dX10_cover_18 : decode cX10_cover 18 = .ok (.if_icmp .le 5, 3) := by decide +kernel
theorem dX10_cover_21 : decode cX10_cover 21 = .ok (.iconst (-1), 1) := by decide +kernel
theorem dX10_cover_22 : decode cX10_cover 22 = .ok (.ireturn, 1) := by decide +kernel
theorem dX10_cover_23 : decode cX10_cover 23 = .ok (.aload_n 0, 1) := by decide +kernel
theorem dX10_cover_24 : decode cX10_cover 24 = .ok (.iload_n 1, 1) := by decide +kernel
theorem dX10_cover_25 : decode cX10_cover 25 = .ok (.iload_n 2, 1) := by decide +kernel
theorem dX10_cover_26 : decode cX10_cover 26 = .ok (.invokevirtual 194, 3) := by decide +kernel
theorem dX10_cover_29 : decode cX10_cover 29 = .ok (.ifCond .ne 6, 3) := by decide +kernel
theorem dX10_cover_32 : decode cX10_cover 32 = .ok (.bipush (-3), 2) := by decide +kernel
theorem dX10_cover_34 : decode cX10_cover 34 = .ok (.ireturn, 1) := by decide +kernel
theorem dX10_cover_35 : decode cX10_cover 35 = .ok (.aload_n 0, 1) := by decide +kernel
theorem dX10_cover_36 : decode cX10_cover 36 = .ok (.getfield 56, 3) := by decide +kernel
theorem dX10_cover_39 : decode cX10_cover 39 = .ok (.invokevirtual 206, 3) := by decide +kernel
theorem dX10_cover_42 : decode cX10_cover 42 = .ok (.aload_n 0, 1) := by decide +kernel
theorem dX10_cover_43 : decode cX10_cover 43 = .ok (.getfield 56, 3) := by decide +kernel
theorem dX10_cover_46 : decode cX10_cover 46 = .ok (.getfield 203, 3) := by decide +kernel
theorem dX10_cover_49 : decode cX10_cover 49 = .ok (.bipush (-5), 2) := by decide +kernel
theorem dX10_cover_51 : decode cX10_cover 51 = .ok (.if_icmp .ne 6, 3) := by decide +kernel
theorem dX10_cover_54 : decode cX10_cover 54 = .ok (.bipush (-5), 2) := by decide +kernel
theorem dX10_cover_56 : decode cX10_cover 56 = .ok (.ireturn, 1) := by decide +kernel
theorem dX10_cover_57 : decode cX10_cover 57 = .ok (.iload_n 3, 1) := by decide +kernel
theorem dX10_cover_58 : decode cX10_cover 58 = .ok (.ifCond .ne 13, 3) := by decide +kernel
theorem dX10_cover_61 : decode cX10_cover 61 = .ok (.aload_n 0, 1) := by decide +kernel
theorem dX10_cover_62 : decode cX10_cover 62 = .ok (.getfield 56, 3) := by decide +kernel
theorem dX10_cover_65 : decode cX10_cover 65 = .ok (.getfield 209, 3) := by decide +kernel
theorem dX10_cover_68 : decode cX10_cover 68 = .ok (.goto 10, 3) := by decide +kernel
theorem dX10_cover_71 : decode cX10_cover 71 = .ok (.aload_n 0, 1) := by decide +kernel
theorem dX10_cover_72 : decode cX10_cover 72 = .ok (.getfield 56, 3) := by decide +kernel
theorem dX10_cover_75 : decode cX10_cover 75 = .ok (.getfield 203, 3) := by decide +kernel
theorem dX10_cover_78 : decode cX10_cover 78 = .ok (.ireturn, 1) := by decide +kernel
theorem dX10_choose_0 : decode cX10_choose 0 = .ok (.iload_n 1, 1) := by decide +kernel
theorem dX10_choose_1 : decode cX10_choose 1 = .ok (.iconst 1, 1) := by decide +kernel
theorem dX10_choose_2 : decode cX10_choose 2 = .ok (.if_icmp .lt 14, 3) := by decide +kernel
theorem dX10_choose_5 : decode cX10_choose 5 = .ok (.aload_n 0, 1) := by decide +kernel
theorem dX10_choose_6 : decode cX10_choose 6 = .ok (.getfield 12, 3) := by decide +kernel
theorem dX10_choose_9 : decode cX10_choose 9 = .ok (.iload_n 1, 1) := by decide +kernel
theorem dX10_choose_10 : decode cX10_choose 10 = .ok (.invokevirtual 158, 3) := by decide +kernel
theorem dX10_choose_13 : decode cX10_choose 13 = .ok (.ifCond .ne 6, 3) := by decide +kernel
theorem dX10_choose_16 : decode cX10_choose 16 = .ok (.bipush (-2), 2) := by decide +kernel
theorem dX10_choose_18 : decode cX10_choose 18 = .ok (.ireturn, 1) := by decide +kernel
theorem dX10_choose_19 : decode cX10_choose 19 = .ok (.aload_n 0, 1) := by decide +kernel
theorem dX10_choose_20 : decode cX10_choose 20 = .ok (.getfield 42, 3) := by decide +kernel
theorem dX10_choose_23 : decode cX10_choose 23 = .ok (.aload_n 0, 1) := by decide +kernel
theorem dX10_choose_24 : decode cX10_choose 24 = .ok (.getfield 12, 3) := by decide +kernel
theorem dX10_choose_27 : decode cX10_choose 27 = .ok (.invokevirtual 161, 3) := by decide +kernel
theorem dX10_choose_30 : decode cX10_choose 30 = .ok (.iload_n 2, 1) := by decide +kernel
theorem dX10_choose_31 : decode cX10_choose 31 = .ok (.ifCond .lt 18, 3) := by decide +kernel
theorem dX10_choose_34 : decode cX10_choose 34 = .ok (.iload_n 2, 1) := by decide +kernel
theorem dX10_choose_35 : decode cX10_choose 35 = .ok (.aload_n 0, 1) := by decide +kernel
theorem dX10_choose_36 : decode cX10_choose 36 = .ok (.getfield 42, 3) := by decide +kernel
theorem dX10_choose_39 : decode cX10_choose 39 = .ok (.iload_n 1, 1) := by decide +kernel
theorem dX10_choose_40 : decode cX10_choose 40 = .ok (.invokevirtual 165, 3) := by decide +kernel
theorem dX10_choose_43 : decode cX10_choose 43 = .ok (.invokestatic 212, 3) := by decide +kernel
theorem dX10_choose_46 : decode cX10_choose 46 = .ok (.ifCond .eq 5, 3) := by decide +kernel
theorem dX10_choose_49 : decode cX10_choose 49 = .ok (.iconst (-1), 1) := by decide +kernel
theorem dX10_choose_50 : decode cX10_choose 50 = .ok (.ireturn, 1) := by decide +kernel
theorem dX10_choose_51 : decode cX10_choose 51 = .ok (.aload_n 0, 1) := by decide +kernel
theorem dX10_choose_52 : decode cX10_choose 52 = .ok (.getfield 12, 3) := by decide +kernel
theorem dX10_choose_55 : decode cX10_choose 55 = .ok (.getfield 129, 3) := by decide +kernel
theorem dX10_choose_58 : decode cX10_choose 58 = .ok (.aload_n 0, 1) := by decide +kernel
theorem dX10_choose_59 : decode cX10_choose 59 = .ok (.getfield 42, 3) := by decide +kernel
theorem dX10_choose_62 : decode cX10_choose 62 = .ok (.iload_n 1, 1) := by decide +kernel
theorem dX10_choose_63 : decode cX10_choose 63 = .ok (.iload_n 2, 1) := by decide +kernel
theorem dX10_choose_64 : decode cX10_choose 64 = .ok (.invokevirtual 215, 3) := by decide +kernel
theorem dX10_choose_67 : decode cX10_choose 67 = .ok (.aload_n 0, 1) := by decide +kernel
theorem dX10_choose_68 : decode cX10_choose 68 = .ok (.getfield 12, 3) := by decide +kernel
theorem dX10_choose_71 : decode cX10_choose 71 = .ok (.getfield 129, 3) := by decide +kernel
theorem dX10_choose_74 : decode cX10_choose 74 = .ok (.getfield 219, 3) := by decide +kernel
theorem dX10_choose_77 : decode cX10_choose 77 = .ok (.ireturn, 1) := by decide +kernel
theorem dX10_block_0 : decode cX10_block 0 = .ok (.aload_n 0, 1) := by decide +kernel
theorem dX10_block_1 : decode cX10_block 1 = .ok (.getfield 12, 3) := by decide +kernel
theorem dX10_block_4 : decode cX10_block 4 = .ok (.iload_n 1, 1) := by decide +kernel
theorem dX10_block_5 : decode cX10_block 5 = .ok (.invokevirtual 148, 3) := by decide +kernel
theorem dX10_block_8 : decode cX10_block 8 = .ok (.ifCond .eq 20, 3) := by decide +kernel
theorem dX10_block_11 : decode cX10_block 11 = .ok (.iload_n 1, 1) := by decide +kernel
theorem dX10_block_12 : decode cX10_block 12 = .ok (.invokestatic 222, 3) := by decide +kernel
theorem dX10_block_15 : decode cX10_block 15 = .ok (.aload_n 0, 1) := by decide +kernel
theorem dX10_block_16 : decode cX10_block 16 = .ok (.getfield 12, 3) := by decide +kernel
theorem dX10_block_19 : decode cX10_block 19 = .ok (.getfield 129, 3) := by decide +kernel
theorem dX10_block_22 : decode cX10_block 22 = .ok (.getfield 227, 3) := by decide +kernel
theorem dX10_block_25 : decode cX10_block 25 = .ok (.if_icmp .eq 5, 3) := by decide +kernel
theorem dX10_block_28 : decode cX10_block 28 = .ok (.iconst (-1), 1) := by decide +kernel
theorem dX10_block_29 : decode cX10_block 29 = .ok (.ireturn, 1) := by decide +kernel
theorem dX10_block_30 : decode cX10_block 30 = .ok (.aload_n 0, 1) := by decide +kernel
theorem dX10_block_31 : decode cX10_block 31 = .ok (.getfield 12, 3) := by decide +kernel
theorem dX10_block_34 : decode cX10_block 34 = .ok (.getfield 129, 3) := by decide +kernel
theorem dX10_block_37 : decode cX10_block 37 = .ok (.iload_n 1, 1) := by decide +kernel
theorem dX10_block_38 : decode cX10_block 38 = .ok (.aload_n 0, 1) := by decide +kernel
theorem dX10_block_39 : decode cX10_block 39 = .ok (.getfield 12, 3) := by decide +kernel
theorem dX10_block_42 : decode cX10_block 42 = .ok (.getfield 129, 3) := by decide +kernel
theorem dX10_block_45 : decode cX10_block 45 = .ok (.iload_n 1, 1) := by decide +kernel
theorem dX10_block_46 : decode cX10_block 46 = .ok (.invokevirtual 230, 3) := by decide +kernel
theorem dX10_block_49 : decode cX10_block 49 = .ok (.ifCond .ne 7, 3) := by decide +kernel
theorem dX10_block_52 : decode cX10_block 52 = .ok (.iconst 1, 1) := by decide +kernel
theorem dX10_block_53 : decode cX10_block 53 = .ok (.goto 4, 3) := by decide +kernel
theorem dX10_block_56 : decode cX10_block 56 = .ok (.iconst 0, 1) := by decide +kernel
theorem dX10_block_57 : decode cX10_block 57 = .ok (.invokevirtual 233, 3) := by decide +kernel
theorem dX10_block_60 : decode cX10_block 60 = .ok (.aload_n 0, 1) := by decide +kernel
theorem dX10_block_61 : decode cX10_block 61 = .ok (.getfield 12, 3) := by decide +kernel
theorem dX10_block_64 : decode cX10_block 64 = .ok (.getfield 129, 3) := by decide +kernel
theorem dX10_block_67 : decode cX10_block 67 = .ok (.getfield 219, 3) := by decide +kernel
theorem dX10_block_70 : decode cX10_block 70 = .ok (.ireturn, 1) := by decide +kernel
theorem dX10_blockOf_0 : decode cX10_blockOf 0 = .ok (.iload_n 1, 1) := by decide +kernel
theorem dX10_blockOf_1 : decode cX10_blockOf 1 = .ok (.ifCond .ge 5, 3) := by decide +kernel
theorem dX10_blockOf_4 : decode cX10_blockOf 4 = .ok (.iconst (-1), 1) := by decide +kernel
theorem dX10_blockOf_5 : decode cX10_blockOf 5 = .ok (.ireturn, 1) := by decide +kernel
theorem dX10_blockOf_6 : decode cX10_blockOf 6 = .ok (.aload_n 0, 1) := by decide +kernel
theorem dX10_blockOf_7 : decode cX10_blockOf 7 = .ok (.getfield 12, 3) := by decide +kernel
theorem dX10_blockOf_10 : decode cX10_blockOf 10 = .ok (.getfield 129, 3) := by decide +kernel
theorem dX10_blockOf_13 : decode cX10_blockOf 13 = .ok (.iload_n 1, 1) := by decide +kernel
theorem dX10_blockOf_14 : decode cX10_blockOf 14 = .ok (.invokevirtual 237, 3) := by decide +kernel
theorem dX10_blockOf_17 : decode cX10_blockOf 17 = .ok (.ireturn, 1) := by decide +kernel
theorem dX10_blocks_0 : decode cX10_blocks 0 = .ok (.iload_n 1, 1) := by decide +kernel
theorem dX10_blocks_1 : decode cX10_blocks 1 = .ok (.tableswitch 85 0 3 #[31, 42, 53, 71], 31) := by decide +kernel
theorem dX10_blocks_32 : decode cX10_blocks 32 = .ok (.aload_n 0, 1) := by decide +kernel
theorem dX10_blocks_33 : decode cX10_blocks 33 = .ok (.getfield 12, 3) := by decide +kernel
theorem dX10_blocks_36 : decode cX10_blocks 36 = .ok (.getfield 129, 3) := by decide +kernel
theorem dX10_blocks_39 : decode cX10_blocks 39 = .ok (.getfield 227, 3) := by decide +kernel
theorem dX10_blocks_42 : decode cX10_blocks 42 = .ok (.ireturn, 1) := by decide +kernel
theorem dX10_blocks_43 : decode cX10_blocks 43 = .ok (.aload_n 0, 1) := by decide +kernel
theorem dX10_blocks_44 : decode cX10_blocks 44 = .ok (.getfield 12, 3) := by decide +kernel
theorem dX10_blocks_47 : decode cX10_blocks 47 = .ok (.getfield 129, 3) := by decide +kernel
theorem dX10_blocks_50 : decode cX10_blocks 50 = .ok (.getfield 219, 3) := by decide +kernel
theorem dX10_blocks_53 : decode cX10_blocks 53 = .ok (.ireturn, 1) := by decide +kernel
theorem dX10_blocks_54 : decode cX10_blocks 54 = .ok (.aload_n 0, 1) := by decide +kernel
theorem dX10_blocks_55 : decode cX10_blocks 55 = .ok (.getfield 12, 3) := by decide +kernel
theorem dX10_blocks_58 : decode cX10_blocks 58 = .ok (.getfield 129, 3) := by decide +kernel
theorem dX10_blocks_61 : decode cX10_blocks 61 = .ok (.aload_n 0, 1) := by decide +kernel
theorem dX10_blocks_62 : decode cX10_blocks 62 = .ok (.getfield 12, 3) := by decide +kernel
theorem dX10_blocks_65 : decode cX10_blocks 65 = .ok (.invokevirtual 239, 3) := by decide +kernel
theorem dX10_blocks_68 : decode cX10_blocks 68 = .ok (.invokevirtual 242, 3) := by decide +kernel
theorem dX10_blocks_71 : decode cX10_blocks 71 = .ok (.ireturn, 1) := by decide +kernel
theorem dX10_blocks_72 : decode cX10_blocks 72 = .ok (.aload_n 0, 1) := by decide +kernel
theorem dX10_blocks_73 : decode cX10_blocks 73 = .ok (.getfield 12, 3) := by decide +kernel
theorem dX10_blocks_76 : decode cX10_blocks 76 = .ok (.getfield 129, 3) := by decide +kernel
theorem dX10_blocks_79 : decode cX10_blocks 79 = .ok (.invokevirtual 245, 3) := by decide +kernel
theorem dX10_blocks_82 : decode cX10_blocks 82 = .ok (.invokestatic 222, 3) := by decide +kernel
theorem dX10_blocks_85 : decode cX10_blocks 85 = .ok (.ireturn, 1) := by decide +kernel
theorem dX10_blocks_86 : decode cX10_blocks 86 = .ok (.iconst (-1), 1) := by decide +kernel
theorem dX10_blocks_87 : decode cX10_blocks 87 = .ok (.ireturn, 1) := by decide +kernel
theorem dX10_share_0 : decode cX10_share 0 = .ok (.iload_n 1, 1) := by decide +kernel
theorem dX10_share_1 : decode cX10_share 1 = .ok (.ifCond .lt 17, 3) := by decide +kernel
theorem dX10_share_4 : decode cX10_share 4 = .ok (.iload_n 1, 1) := by decide +kernel
theorem dX10_share_5 : decode cX10_share 5 = .ok (.aload_n 0, 1) := by decide +kernel
theorem dX10_share_6 : decode cX10_share 6 = .ok (.getfield 12, 3) := by decide +kernel
theorem dX10_share_9 : decode cX10_share 9 = .ok (.getfield 129, 3) := by decide +kernel
theorem dX10_share_12 : decode cX10_share 12 = .ok (.getfield 227, 3) := by decide +kernel
theorem dX10_share_15 : decode cX10_share 15 = .ok (.if_icmp .le 6, 3) := by decide +kernel
theorem dX10_share_18 : decode cX10_share 18 = .ok (.bipush (-2), 2) := by decide +kernel
theorem dX10_share_20 : decode cX10_share 20 = .ok (.ireturn, 1) := by decide +kernel
theorem dX10_share_21 : decode cX10_share 21 = .ok (.aload_n 0, 1) := by decide +kernel
theorem dX10_share_22 : decode cX10_share 22 = .ok (.getfield 12, 3) := by decide +kernel
theorem dX10_share_25 : decode cX10_share 25 = .ok (.getfield 129, 3) := by decide +kernel
theorem dX10_share_28 : decode cX10_share 28 = .ok (.aload_n 0, 1) := by decide +kernel
theorem dX10_share_29 : decode cX10_share 29 = .ok (.getfield 12, 3) := by decide +kernel
theorem dX10_share_32 : decode cX10_share 32 = .ok (.invokevirtual 239, 3) := by decide +kernel
theorem dX10_share_35 : decode cX10_share 35 = .ok (.iload_n 1, 1) := by decide +kernel
theorem dX10_share_36 : decode cX10_share 36 = .ok (.invokevirtual 248, 3) := by decide +kernel
theorem dX10_share_39 : decode cX10_share 39 = .ok (.ireturn, 1) := by decide +kernel
theorem dX10_meets_0 : decode cX10_meets 0 = .ok (.aload_n 0, 1) := by decide +kernel
theorem dX10_meets_1 : decode cX10_meets 1 = .ok (.getfield 12, 3) := by decide +kernel
theorem dX10_meets_4 : decode cX10_meets 4 = .ok (.iload_n 1, 1) := by decide +kernel
theorem dX10_meets_5 : decode cX10_meets 5 = .ok (.invokevirtual 148, 3) := by decide +kernel
theorem dX10_meets_8 : decode cX10_meets 8 = .ok (.ifCond .ne 5, 3) := by decide +kernel
theorem dX10_meets_11 : decode cX10_meets 11 = .ok (.iconst (-1), 1) := by decide +kernel
theorem dX10_meets_12 : decode cX10_meets 12 = .ok (.ireturn, 1) := by decide +kernel
theorem dX10_meets_13 : decode cX10_meets 13 = .ok (.iload_n 2, 1) := by decide +kernel
theorem dX10_meets_14 : decode cX10_meets 14 = .ok (.ifCond .lt 9, 3) := by decide +kernel
theorem dX10_meets_17 : decode cX10_meets 17 = .ok (.iload_n 2, 1) := by decide +kernel
theorem dX10_meets_18 : decode cX10_meets 18 = .ok (.bipush 8, 2) := by decide +kernel
theorem dX10_meets_20 : decode cX10_meets 20 = .ok (.if_icmp .le 6, 3) := by decide +kernel
theorem dX10_meets_23 : decode cX10_meets 23 = .ok (.bipush (-2), 2) := by decide +kernel
theorem dX10_meets_25 : decode cX10_meets 25 = .ok (.ireturn, 1) := by decide +kernel
theorem dX10_meets_26 : decode cX10_meets 26 = .ok (.aload_n 0, 1) := by decide +kernel
theorem dX10_meets_27 : decode cX10_meets 27 = .ok (.getfield 12, 3) := by decide +kernel
theorem dX10_meets_30 : decode cX10_meets 30 = .ok (.getfield 129, 3) := by decide +kernel
theorem dX10_meets_33 : decode cX10_meets 33 = .ok (.iload_n 1, 1) := by decide +kernel
theorem dX10_meets_34 : decode cX10_meets 34 = .ok (.iload_n 2, 1) := by decide +kernel
theorem dX10_meets_35 : decode cX10_meets 35 = .ok (.invokevirtual 251, 3) := by decide +kernel
theorem dX10_meets_38 : decode cX10_meets 38 = .ok (.ireturn, 1) := by decide +kernel
theorem dX10_turned_0 : decode cX10_turned 0 = .ok (.aload_n 0, 1) := by decide +kernel
theorem dX10_turned_1 : decode cX10_turned 1 = .ok (.getfield 12, 3) := by decide +kernel
theorem dX10_turned_4 : decode cX10_turned 4 = .ok (.getfield 129, 3) := by decide +kernel
theorem dX10_turned_7 : decode cX10_turned 7 = .ok (.getfield 227, 3) := by decide +kernel
theorem dX10_turned_10 : decode cX10_turned 10 = .ok (.aload_n 0, 1) := by decide +kernel
theorem dX10_turned_11 : decode cX10_turned 11 = .ok (.getfield 12, 3) := by decide +kernel
theorem dX10_turned_14 : decode cX10_turned 14 = .ok (.getfield 84, 3) := by decide +kernel
theorem dX10_turned_17 : decode cX10_turned 17 = .ok (.if_icmp .ne 6, 3) := by decide +kernel
theorem dX10_turned_20 : decode cX10_turned 20 = .ok (.bipush (-3), 2) := by decide +kernel
theorem dX10_turned_22 : decode cX10_turned 22 = .ok (.ireturn, 1) := by decide +kernel
theorem dX10_turned_23 : decode cX10_turned 23 = .ok (.aload_n 0, 1) := by decide +kernel
theorem dX10_turned_24 : decode cX10_turned 24 = .ok (.getfield 12, 3) := by decide +kernel
theorem dX10_turned_27 : decode cX10_turned 27 = .ok (.getfield 129, 3) := by decide +kernel
theorem dX10_turned_30 : decode cX10_turned 30 = .ok (.aload_n 0, 1) := by decide +kernel
theorem dX10_turned_31 : decode cX10_turned 31 = .ok (.getfield 12, 3) := by decide +kernel
theorem dX10_turned_34 : decode cX10_turned 34 = .ok (.getfield 84, 3) := by decide +kernel
theorem dX10_turned_37 : decode cX10_turned 37 = .ok (.invokevirtual 254, 3) := by decide +kernel
theorem dX10_turned_40 : decode cX10_turned 40 = .ok (.aload_n 0, 1) := by decide +kernel
theorem dX10_turned_41 : decode cX10_turned 41 = .ok (.getfield 12, 3) := by decide +kernel
theorem dX10_turned_44 : decode cX10_turned 44 = .ok (.getfield 129, 3) := by decide +kernel
theorem dX10_turned_47 : decode cX10_turned 47 = .ok (.getfield 219, 3) := by decide +kernel
theorem dX10_turned_50 : decode cX10_turned 50 = .ok (.ireturn, 1) := by decide +kernel
theorem dX10_parted_0 : decode cX10_parted 0 = .ok (.aload_n 0, 1) := by decide +kernel
theorem dX10_parted_1 : decode cX10_parted 1 = .ok (.getfield 12, 3) := by decide +kernel
theorem dX10_parted_4 : decode cX10_parted 4 = .ok (.iload_n 1, 1) := by decide +kernel
theorem dX10_parted_5 : decode cX10_parted 5 = .ok (.invokevirtual 140, 3) := by decide +kernel
theorem dX10_parted_8 : decode cX10_parted 8 = .ok (.ifCond .eq 12, 3) := by decide +kernel
theorem dX10_parted_11 : decode cX10_parted 11 = .ok (.iload_n 2, 1) := by decide +kernel
theorem dX10_parted_12 : decode cX10_parted 12 = .ok (.ifCond .lt 8, 3) := by decide +kernel
theorem dX10_parted_15 : decode cX10_parted 15 = .ok (.iload_n 2, 1) := by decide +kernel
theorem dX10_parted_16 : decode cX10_parted 16 = .ok (.iconst 2, 1) := by decide +kernel
theorem dX10_parted_17 : decode cX10_parted 17 = .ok (.if_icmp .le 5, 3) := by decide +kernel
theorem dX10_parted_20 : decode cX10_parted 20 = .ok (.iconst (-1), 1) := by decide +kernel
theorem dX10_parted_21 : decode cX10_parted 21 = .ok (.ireturn, 1) := by decide +kernel
theorem dX10_parted_22 : decode cX10_parted 22 = .ok (.aload_n 0, 1) := by decide +kernel
theorem dX10_parted_23 : decode cX10_parted 23 = .ok (.getfield 77, 3) := by decide +kernel
theorem dX10_parted_26 : decode cX10_parted 26 = .ok (.aload_n 0, 1) := by decide +kernel
theorem dX10_parted_27 : decode cX10_parted 27 = .ok (.getfield 12, 3) := by decide +kernel
theorem dX10_parted_30 : decode cX10_parted 30 = .ok (.getfield 129, 3) := by decide +kernel
theorem dX10_parted_33 : decode cX10_parted 33 = .ok (.iconst 1, 1) := by decide +kernel
theorem dX10_parted_34 : decode cX10_parted 34 = .ok (.iload_n 1, 1) := by decide +kernel
theorem dX10_parted_35 : decode cX10_parted 35 = .ok (.ishl, 1) := by decide +kernel
theorem dX10_parted_36 : decode cX10_parted 36 = .ok (.iload_n 2, 1) := by decide +kernel
theorem dX10_parted_37 : decode cX10_parted 37 = .ok (.iconst 2, 1) := by decide +kernel
theorem dX10_parted_38 : decode cX10_parted 38 = .ok (.if_icmp .ge 7, 3) := by decide +kernel
theorem dX10_parted_41 : decode cX10_parted 41 = .ok (.iconst 1, 1) := by decide +kernel
theorem dX10_parted_42 : decode cX10_parted 42 = .ok (.goto 4, 3) := by decide +kernel
theorem dX10_parted_45 : decode cX10_parted 45 = .ok (.iconst 0, 1) := by decide +kernel
theorem dX10_parted_46 : decode cX10_parted 46 = .ok (.invokevirtual 257, 3) := by decide +kernel
theorem dX10_parted_49 : decode cX10_parted 49 = .ok (.iload_n 2, 1) := by decide +kernel
theorem dX10_parted_50 : decode cX10_parted 50 = .ok (.ifCond .ne 11, 3) := by decide +kernel
theorem dX10_parted_53 : decode cX10_parted 53 = .ok (.aload_n 0, 1) := by decide +kernel
theorem dX10_parted_54 : decode cX10_parted 54 = .ok (.getfield 77, 3) := by decide +kernel
theorem dX10_parted_57 : decode cX10_parted 57 = .ok (.getfield 219, 3) := by decide +kernel
theorem dX10_parted_60 : decode cX10_parted 60 = .ok (.ireturn, 1) := by decide +kernel
theorem dX10_parted_61 : decode cX10_parted 61 = .ok (.aload_n 0, 1) := by decide +kernel
theorem dX10_parted_62 : decode cX10_parted 62 = .ok (.getfield 77, 3) := by decide +kernel
theorem dX10_parted_65 : decode cX10_parted 65 = .ok (.getfield 219, 3) := by decide +kernel
theorem dX10_parted_68 : decode cX10_parted 68 = .ok (.ifCond .ne 6, 3) := by decide +kernel
theorem dX10_parted_71 : decode cX10_parted 71 = .ok (.bipush (-5), 2) := by decide +kernel
theorem dX10_parted_73 : decode cX10_parted 73 = .ok (.ireturn, 1) := by decide +kernel
theorem dX10_parted_74 : decode cX10_parted 74 = .ok (.aload_n 0, 1) := by decide +kernel
theorem dX10_parted_75 : decode cX10_parted 75 = .ok (.getfield 77, 3) := by decide +kernel
theorem dX10_parted_78 : decode cX10_parted 78 = .ok (.aload_n 0, 1) := by decide +kernel
theorem dX10_parted_79 : decode cX10_parted 79 = .ok (.getfield 12, 3) := by decide +kernel
theorem dX10_parted_82 : decode cX10_parted 82 = .ok (.invokevirtual 239, 3) := by decide +kernel
theorem dX10_parted_85 : decode cX10_parted 85 = .ok (.iconst 1, 1) := by decide +kernel
theorem dX10_parted_86 : decode cX10_parted 86 = .ok (.iload_n 1, 1) := by decide +kernel
theorem dX10_parted_87 : decode cX10_parted 87 = .ok (.ishl, 1) := by decide +kernel
theorem dX10_parted_88 : decode cX10_parted 88 = .ok (.iconst (-1), 1) := by decide +kernel
theorem dX10_parted_89 : decode cX10_parted 89 = .ok (.ixor, 1) := by decide +kernel
theorem dX10_parted_90 : decode cX10_parted 90 = .ok (.iand, 1) := by decide +kernel
theorem dX10_parted_91 : decode cX10_parted 91 = .ok (.invokevirtual 242, 3) := by decide +kernel
theorem dX10_parted_94 : decode cX10_parted 94 = .ok (.ireturn, 1) := by decide +kernel
theorem dX10_keep_0 : decode cX10_keep 0 = .ok (.aload_n 0, 1) := by decide +kernel
theorem dX10_keep_1 : decode cX10_keep 1 = .ok (.getfield 12, 3) := by decide +kernel
theorem dX10_keep_4 : decode cX10_keep 4 = .ok (.invokevirtual 261, 3) := by decide +kernel
theorem dX10_keep_7 : decode cX10_keep 7 = .ok (.astore_n 1, 1) := by decide +kernel
theorem dX10_keep_8 : decode cX10_keep 8 = .ok (.aload_n 1, 1) := by decide +kernel
theorem dX10_keep_9 : decode cX10_keep 9 = .ok (.ifnonnull 6, 3) := by decide +kernel
theorem dX10_keep_12 : decode cX10_keep 12 = .ok (.bipush (-4), 2) := by decide +kernel
theorem dX10_keep_14 : decode cX10_keep 14 = .ok (.ireturn, 1) := by decide +kernel
theorem dX10_keep_15 : decode cX10_keep 15 = .ok (.aload_n 1, 1) := by decide +kernel
theorem dX10_keep_16 : decode cX10_keep 16 = .ok (.aload_n 0, 1) := by decide +kernel
theorem dX10_keep_17 : decode cX10_keep 17 = .ok (.getfield 12, 3) := by decide +kernel
theorem dX10_keep_20 : decode cX10_keep 20 = .ok (.getfield 129, 3) := by decide +kernel
theorem dX10_keep_23 : decode cX10_keep 23 = .ok (.invokevirtual 265, 3) := by decide +kernel
theorem dX10_keep_26 : decode cX10_keep 26 = .ok (.aload_n 0, 1) := by decide +kernel
theorem dX10_keep_27 : decode cX10_keep 27 = .ok (.getfield 12, 3) := by decide +kernel
theorem dX10_keep_30 : decode cX10_keep 30 = .ok (.dup, 1) := by decide +kernel
theorem dX10_keep_31 : decode cX10_keep 31 = .ok (.getfield 269, 3) := by decide +kernel
theorem dX10_keep_34 : decode cX10_keep 34 = .ok (.dup_x1, 1) := by decide +kernel
theorem dX10_keep_35 : decode cX10_keep 35 = .ok (.iconst 1, 1) := by decide +kernel
theorem dX10_keep_36 : decode cX10_keep 36 = .ok (.iadd, 1) := by decide +kernel
theorem dX10_keep_37 : decode cX10_keep 37 = .ok (.putfield 269, 3) := by decide +kernel
theorem dX10_keep_40 : decode cX10_keep 40 = .ok (.ireturn, 1) := by decide +kernel
theorem dX10_design_0 : decode cX10_design 0 = .ok (.aload_n 0, 1) := by decide +kernel
theorem dX10_design_1 : decode cX10_design 1 = .ok (.getfield 12, 3) := by decide +kernel
theorem dX10_design_4 : decode cX10_design 4 = .ok (.iload_n 1, 1) := by decide +kernel
theorem dX10_design_5 : decode cX10_design 5 = .ok (.invokevirtual 272, 3) := by decide +kernel
theorem dX10_design_8 : decode cX10_design 8 = .ok (.astore_n 3, 1) := by decide +kernel
theorem dX10_design_9 : decode cX10_design 9 = .ok (.aload_n 3, 1) := by decide +kernel
theorem dX10_design_10 : decode cX10_design 10 = .ok (.ifnonnull 5, 3) := by decide +kernel
theorem dX10_design_13 : decode cX10_design 13 = .ok (.iconst (-1), 1) := by decide +kernel
theorem dX10_design_14 : decode cX10_design 14 = .ok (.ireturn, 1) := by decide +kernel
theorem dX10_design_15 : decode cX10_design 15 = .ok (.iload_n 2, 1) := by decide +kernel
theorem dX10_design_16 : decode cX10_design 16 = .ok (.lookupswitch 38 #[(0, 28), (1, 33)], 28) := by decide +kernel
theorem dX10_design_44 : decode cX10_design 44 = .ok (.aload_n 3, 1) := by decide +kernel
theorem dX10_design_45 : decode cX10_design 45 = .ok (.getfield 227, 3) := by decide +kernel
theorem dX10_design_48 : decode cX10_design 48 = .ok (.ireturn, 1) := by decide +kernel
theorem dX10_design_49 : decode cX10_design 49 = .ok (.aload_n 3, 1) := by decide +kernel
theorem dX10_design_50 : decode cX10_design 50 = .ok (.getfield 219, 3) := by decide +kernel
theorem dX10_design_53 : decode cX10_design 53 = .ok (.ireturn, 1) := by decide +kernel
theorem dX10_design_54 : decode cX10_design 54 = .ok (.iconst (-1), 1) := by decide +kernel
theorem dX10_design_55 : decode cX10_design 55 = .ok (.ireturn, 1) := by decide +kernel
theorem dX10_alike_0 : decode cX10_alike 0 = .ok (.aload_n 0, 1) := by decide +kernel
theorem dX10_alike_1 : decode cX10_alike 1 = .ok (.getfield 12, 3) := by decide +kernel
theorem dX10_alike_4 : decode cX10_alike 4 = .ok (.iload_n 1, 1) := by decide +kernel
theorem dX10_alike_5 : decode cX10_alike 5 = .ok (.invokevirtual 272, 3) := by decide +kernel
theorem dX10_alike_8 : decode cX10_alike 8 = .ok (.astore_n 3, 1) := by decide +kernel
theorem dX10_alike_9 : decode cX10_alike 9 = .ok (.aload_n 0, 1) := by decide +kernel
theorem dX10_alike_10 : decode cX10_alike 10 = .ok (.getfield 12, 3) := by decide +kernel
theorem dX10_alike_13 : decode cX10_alike 13 = .ok (.iload_n 2, 1) := by decide +kernel
theorem dX10_alike_14 : decode cX10_alike 14 = .ok (.invokevirtual 272, 3) := by decide +kernel
theorem dX10_alike_17 : decode cX10_alike 17 = .ok (.astore 4, 2) := by decide +kernel
theorem dX10_alike_19 : decode cX10_alike 19 = .ok (.aload_n 3, 1) := by decide +kernel
theorem dX10_alike_20 : decode cX10_alike 20 = .ok (.ifnull 8, 3) := by decide +kernel
theorem dX10_alike_23 : decode cX10_alike 23 = .ok (.aload 4, 2) := by decide +kernel
theorem dX10_alike_25 : decode cX10_alike 25 = .ok (.ifnonnull 5, 3) := by decide +kernel
theorem dX10_alike_28 : decode cX10_alike 28 = .ok (.iconst (-1), 1) := by decide +kernel
theorem dX10_alike_29 : decode cX10_alike 29 = .ok (.ireturn, 1) := by decide +kernel
theorem dX10_alike_30 : decode cX10_alike 30 = .ok (.aload_n 0, 1) := by decide +kernel
theorem dX10_alike_31 : decode cX10_alike 31 = .ok (.getfield 12, 3) := by decide +kernel
theorem dX10_alike_34 : decode cX10_alike 34 = .ok (.getfield 84, 3) := by decide +kernel
theorem dX10_alike_37 : decode cX10_alike 37 = .ok (.bipush 7, 2) := by decide +kernel
theorem dX10_alike_39 : decode cX10_alike 39 = .ok (.if_icmp .le 6, 3) := by decide +kernel
theorem dX10_alike_42 : decode cX10_alike 42 = .ok (.bipush (-3), 2) := by decide +kernel
theorem dX10_alike_44 : decode cX10_alike 44 = .ok (.ireturn, 1) := by decide +kernel
theorem dX10_alike_45 : decode cX10_alike 45 = .ok (.aload_n 0, 1) := by decide +kernel
theorem dX10_alike_46 : decode cX10_alike 46 = .ok (.getfield 63, 3) := by decide +kernel
theorem dX10_alike_49 : decode cX10_alike 49 = .ok (.aload_n 3, 1) := by decide +kernel
theorem dX10_alike_50 : decode cX10_alike 50 = .ok (.aload 4, 2) := by decide +kernel
theorem dX10_alike_52 : decode cX10_alike 52 = .ok (.aload_n 0, 1) := by decide +kernel
theorem dX10_alike_53 : decode cX10_alike 53 = .ok (.getfield 12, 3) := by decide +kernel
theorem dX10_alike_56 : decode cX10_alike 56 = .ok (.getfield 84, 3) := by decide +kernel
theorem dX10_alike_59 : decode cX10_alike 59 = .ok (.invokevirtual 276, 3) := by decide +kernel
theorem dX10_alike_62 : decode cX10_alike 62 = .ok (.ifCond .eq 7, 3) := by decide +kernel
theorem dX10_alike_65 : decode cX10_alike 65 = .ok (.iconst 1, 1) := by decide +kernel
theorem dX10_alike_66 : decode cX10_alike 66 = .ok (.goto 4, 3) := by decide +kernel
theorem dX10_alike_69 : decode cX10_alike 69 = .ok (.iconst 0, 1) := by decide +kernel
theorem dX10_alike_70 : decode cX10_alike 70 = .ok (.ireturn, 1) := by decide +kernel
theorem dX10_selves_0 : decode cX10_selves 0 = .ok (.aload_n 0, 1) := by decide +kernel
theorem dX10_selves_1 : decode cX10_selves 1 = .ok (.getfield 12, 3) := by decide +kernel
theorem dX10_selves_4 : decode cX10_selves 4 = .ok (.iload_n 1, 1) := by decide +kernel
theorem dX10_selves_5 : decode cX10_selves 5 = .ok (.invokevirtual 272, 3) := by decide +kernel
theorem dX10_selves_8 : decode cX10_selves 8 = .ok (.astore_n 2, 1) := by decide +kernel
theorem dX10_selves_9 : decode cX10_selves 9 = .ok (.aload_n 2, 1) := by decide +kernel
theorem dX10_selves_10 : decode cX10_selves 10 = .ok (.ifnonnull 5, 3) := by decide +kernel
theorem dX10_selves_13 : decode cX10_selves 13 = .ok (.iconst (-1), 1) := by decide +kernel
theorem dX10_selves_14 : decode cX10_selves 14 = .ok (.ireturn, 1) := by decide +kernel
theorem dX10_selves_15 : decode cX10_selves 15 = .ok (.aload_n 0, 1) := by decide +kernel
theorem dX10_selves_16 : decode cX10_selves 16 = .ok (.getfield 12, 3) := by decide +kernel
theorem dX10_selves_19 : decode cX10_selves 19 = .ok (.getfield 84, 3) := by decide +kernel
theorem dX10_selves_22 : decode cX10_selves 22 = .ok (.bipush 7, 2) := by decide +kernel
theorem dX10_selves_24 : decode cX10_selves 24 = .ok (.if_icmp .le 6, 3) := by decide +kernel
theorem dX10_selves_27 : decode cX10_selves 27 = .ok (.bipush (-3), 2) := by decide +kernel
theorem dX10_selves_29 : decode cX10_selves 29 = .ok (.ireturn, 1) := by decide +kernel
theorem dX10_selves_30 : decode cX10_selves 30 = .ok (.aload_n 0, 1) := by decide +kernel
theorem dX10_selves_31 : decode cX10_selves 31 = .ok (.getfield 63, 3) := by decide +kernel
theorem dX10_selves_34 : decode cX10_selves 34 = .ok (.aload_n 2, 1) := by decide +kernel
theorem dX10_selves_35 : decode cX10_selves 35 = .ok (.aload_n 0, 1) := by decide +kernel
theorem dX10_selves_36 : decode cX10_selves 36 = .ok (.getfield 12, 3) := by decide +kernel
theorem dX10_selves_39 : decode cX10_selves 39 = .ok (.getfield 84, 3) := by decide +kernel
theorem dX10_selves_42 : decode cX10_selves 42 = .ok (.invokevirtual 280, 3) := by decide +kernel
theorem dX10_selves_45 : decode cX10_selves 45 = .ok (.ireturn, 1) := by decide +kernel
theorem dX10_unlike_0 : decode cX10_unlike 0 = .ok (.aload_n 0, 1) := by decide +kernel
theorem dX10_unlike_1 : decode cX10_unlike 1 = .ok (.iload_n 1, 1) := by decide +kernel
theorem dX10_unlike_2 : decode cX10_unlike 2 = .ok (.iload_n 2, 1) := by decide +kernel
theorem dX10_unlike_3 : decode cX10_unlike 3 = .ok (.invokevirtual 185, 3) := by decide +kernel
theorem dX10_unlike_6 : decode cX10_unlike 6 = .ok (.ifCond .eq 10, 3) := by decide +kernel
theorem dX10_unlike_9 : decode cX10_unlike 9 = .ok (.iload_n 3, 1) := by decide +kernel
theorem dX10_unlike_10 : decode cX10_unlike 10 = .ok (.invokestatic 191, 3) := by decide +kernel
theorem dX10_unlike_13 : decode cX10_unlike 13 = .ok (.ifCond .ne 6, 3) := by decide +kernel
theorem dX10_unlike_16 : decode cX10_unlike 16 = .ok (.bipush (-2), 2) := by decide +kernel
theorem dX10_unlike_18 : decode cX10_unlike 18 = .ok (.ireturn, 1) := by decide +kernel
theorem dX10_unlike_19 : decode cX10_unlike 19 = .ok (.aload_n 0, 1) := by decide +kernel
theorem dX10_unlike_20 : decode cX10_unlike 20 = .ok (.getfield 12, 3) := by decide +kernel
theorem dX10_unlike_23 : decode cX10_unlike 23 = .ok (.getfield 84, 3) := by decide +kernel
theorem dX10_unlike_26 : decode cX10_unlike 26 = .ok (.bipush 6, 2) := by decide +kernel
theorem dX10_unlike_28 : decode cX10_unlike 28 = .ok (.if_icmp .gt 12, 3) := by decide +kernel
theorem dX10_unlike_31 : decode cX10_unlike 31 = .ok (.aload_n 0, 1) := by decide +kernel
theorem dX10_unlike_32 : decode cX10_unlike 32 = .ok (.iload_n 1, 1) := by decide +kernel
theorem dX10_unlike_33 : decode cX10_unlike 33 = .ok (.iload_n 2, 1) := by decide +kernel
theorem dX10_unlike_34 : decode cX10_unlike 34 = .ok (.invokevirtual 194, 3) := by decide +kernel
theorem dX10_unlike_37 : decode cX10_unlike 37 = .ok (.ifCond .ne 6, 3) := by decide +kernel
theorem dX10_unlike_40 : decode cX10_unlike 40 = .ok (.bipush (-3), 2) := by decide +kernel
theorem dX10_unlike_42 : decode cX10_unlike 42 = .ok (.ireturn, 1) := by decide +kernel
theorem dX10_unlike_43 : decode cX10_unlike 43 = .ok (.aload_n 0, 1) := by decide +kernel
theorem dX10_unlike_44 : decode cX10_unlike 44 = .ok (.getfield 56, 3) := by decide +kernel
theorem dX10_unlike_47 : decode cX10_unlike 47 = .ok (.iload_n 3, 1) := by decide +kernel
theorem dX10_unlike_48 : decode cX10_unlike 48 = .ok (.iconst 0, 1) := by decide +kernel
theorem dX10_unlike_49 : decode cX10_unlike 49 = .ok (.invokevirtual 197, 3) := by decide +kernel
theorem dX10_unlike_52 : decode cX10_unlike 52 = .ok (.aload_n 0, 1) := by decide +kernel
theorem dX10_unlike_53 : decode cX10_unlike 53 = .ok (.getfield 56, 3) := by decide +kernel
theorem dX10_unlike_56 : decode cX10_unlike 56 = .ok (.getfield 200, 3) := by decide +kernel
theorem dX10_unlike_59 : decode cX10_unlike 59 = .ok (.bipush 24, 2) := by decide +kernel
theorem dX10_unlike_61 : decode cX10_unlike 61 = .ok (.if_icmp .le 6, 3) := by decide +kernel
theorem dX10_unlike_64 : decode cX10_unlike 64 = .ok (.bipush (-3), 2) := by decide +kernel
theorem dX10_unlike_66 : decode cX10_unlike 66 = .ok (.ireturn, 1) := by decide +kernel
theorem dX10_unlike_67 : decode cX10_unlike 67 = .ok (.iconst 0, 1) := by decide +kernel
theorem dX10_unlike_68 : decode cX10_unlike 68 = .ok (.istore 4, 2) := by decide +kernel
theorem dX10_unlike_70 : decode cX10_unlike 70 = .ok (.iconst 0, 1) := by decide +kernel
theorem dX10_unlike_71 : decode cX10_unlike 71 = .ok (.istore 5, 2) := by decide +kernel
theorem dX10_unlike_73 : decode cX10_unlike 73 = .ok (.iload 5, 2) := by decide +kernel
theorem dX10_unlike_75 : decode cX10_unlike 75 = .ok (.aload_n 0, 1) := by decide +kernel
theorem dX10_unlike_76 : decode cX10_unlike 76 = .ok (.getfield 56, 3) := by decide +kernel
theorem dX10_unlike_79 : decode cX10_unlike 79 = .ok (.getfield 200, 3) := by decide +kernel
theorem dX10_unlike_82 : decode cX10_unlike 82 = .ok (.if_icmp .ge 22, 3) := by decide +kernel
theorem dX10_unlike_85 : decode cX10_unlike 85 = .ok (.aload_n 0, 1) := by decide +kernel
theorem dX10_unlike_86 : decode cX10_unlike 86 = .ok (.iload_n 2, 1) := by decide +kernel
theorem dX10_unlike_87 : decode cX10_unlike 87 = .ok (.iload 5, 2) := by decide +kernel
theorem dX10_unlike_89 : decode cX10_unlike 89 = .ok (.invokevirtual 284, 3) := by decide +kernel
theorem dX10_unlike_92 : decode cX10_unlike 92 = .ok (.ifCond .ne 6, 3) := by decide +kernel
theorem dX10_unlike_95 : decode cX10_unlike 95 = .ok (.iinc 4 1, 3) := by decide +kernel
theorem dX10_unlike_98 : decode cX10_unlike 98 = .ok (.iinc 5 1, 3) := by decide +kernel
theorem dX10_unlike_101 : decode cX10_unlike 101 = .ok (.goto (-28), 3) := by decide +kernel
theorem dX10_unlike_104 : decode cX10_unlike 104 = .ok (.iload 4, 2) := by decide +kernel
theorem dX10_unlike_106 : decode cX10_unlike 106 = .ok (.ireturn, 1) := by decide +kernel
theorem dX10_lots_0 : decode cX10_lots 0 = .ok (.aload_n 0, 1) := by decide +kernel
theorem dX10_lots_1 : decode cX10_lots 1 = .ok (.getfield 12, 3) := by decide +kernel
theorem dX10_lots_4 : decode cX10_lots 4 = .ok (.iload_n 1, 1) := by decide +kernel
theorem dX10_lots_5 : decode cX10_lots 5 = .ok (.invokevirtual 158, 3) := by decide +kernel
theorem dX10_lots_8 : decode cX10_lots 8 = .ok (.ifCond .eq 14, 3) := by decide +kernel
theorem dX10_lots_11 : decode cX10_lots 11 = .ok (.iload_n 2, 1) := by decide +kernel
theorem dX10_lots_12 : decode cX10_lots 12 = .ok (.iconst 1, 1) := by decide +kernel
theorem dX10_lots_13 : decode cX10_lots 13 = .ok (.if_icmp .lt 9, 3) := by decide +kernel
theorem dX10_lots_16 : decode cX10_lots 16 = .ok (.iload_n 2, 1) := by decide +kernel
theorem dX10_lots_17 : decode cX10_lots 17 = .ok (.bipush 20, 2) := by decide +kernel
theorem dX10_lots_19 : decode cX10_lots 19 = .ok (.if_icmp .le 6, 3) := by decide +kernel
theorem dX10_lots_22 : decode cX10_lots 22 = .ok (.bipush (-2), 2) := by decide +kernel
theorem dX10_lots_24 : decode cX10_lots 24 = .ok (.ireturn, 1) := by decide +kernel
theorem dX10_lots_25 : decode cX10_lots 25 = .ok (.iload 4, 2) := by decide +kernel
theorem dX10_lots_27 : decode cX10_lots 27 = .ok (.ifCond .lt 9, 3) := by decide +kernel
theorem dX10_lots_30 : decode cX10_lots 30 = .ok (.iload 4, 2) := by decide +kernel
theorem dX10_lots_32 : decode cX10_lots 32 = .ok (.iconst 1, 1) := by decide +kernel
theorem dX10_lots_33 : decode cX10_lots 33 = .ok (.if_icmp .le 5, 3) := by decide +kernel
theorem dX10_lots_36 : decode cX10_lots 36 = .ok (.iconst (-1), 1) := by decide +kernel
theorem dX10_lots_37 : decode cX10_lots 37 = .ok (.ireturn, 1) := by decide +kernel
theorem dX10_lots_38 : decode cX10_lots 38 = .ok (.aload_n 0, 1) := by decide +kernel
theorem dX10_lots_39 : decode cX10_lots 39 = .ok (.getfield 42, 3) := by decide +kernel
theorem dX10_lots_42 : decode cX10_lots 42 = .ok (.aload_n 0, 1) := by decide +kernel
theorem dX10_lots_43 : decode cX10_lots 43 = .ok (.getfield 12, 3) := by decide +kernel
theorem dX10_lots_46 : decode cX10_lots 46 = .ok (.invokevirtual 161, 3) := by decide +kernel
theorem dX10_lots_49 : decode cX10_lots 49 = .ok (.aload_n 0, 1) := by decide +kernel
theorem dX10_lots_50 : decode cX10_lots 50 = .ok (.getfield 70, 3) := by decide +kernel
theorem dX10_lots_53 : decode cX10_lots 53 = .ok (.aload_n 0, 1) := by decide +kernel
theorem dX10_lots_54 : decode cX10_lots 54 = .ok (.getfield 42, 3) := by decide +kernel
theorem dX10_lots_57 : decode cX10_lots 57 = .ok (.aload_n 0, 1) := by decide +kernel
theorem dX10_lots_58 : decode cX10_lots 58 = .ok (.getfield 12, 3) := by decide +kernel
theorem dX10_lots_61 : decode cX10_lots 61 = .ok (.getfield 84, 3) := by decide +kernel
theorem dX10_lots_64 : decode cX10_lots 64 = .ok (.iload_n 1, 1) := by decide +kernel
theorem dX10_lots_65 : decode cX10_lots 65 = .ok (.iload_n 2, 1) := by decide +kernel
theorem dX10_lots_66 : decode cX10_lots 66 = .ok (.iload_n 3, 1) := by decide +kernel
theorem dX10_lots_67 : decode cX10_lots 67 = .ok (.invokevirtual 287, 3) := by decide +kernel
theorem dX10_lots_70 : decode cX10_lots 70 = .ok (.iload 4, 2) := by decide +kernel
theorem dX10_lots_72 : decode cX10_lots 72 = .ok (.ifCond .ne 13, 3) := by decide +kernel
theorem dX10_lots_75 : decode cX10_lots 75 = .ok (.aload_n 0, 1) := by decide +kernel
theorem dX10_lots_76 : decode cX10_lots 76 = .ok (.getfield 70, 3) := by decide +kernel
theorem dX10_lots_79 : decode cX10_lots 79 = .ok (.getfield 291, 3) := by decide +kernel
theorem dX10_lots_82 : decode cX10_lots 82 = .ok (.goto 10, 3) := by decide +kernel
theorem dX10_lots_85 : decode cX10_lots 85 = .ok (.aload_n 0, 1) := by decide +kernel
theorem dX10_lots_86 : decode cX10_lots 86 = .ok (.getfield 70, 3) := by decide +kernel
theorem dX10_lots_89 : decode cX10_lots 89 = .ok (.getfield 294, 3) := by decide +kernel
theorem dX10_lots_92 : decode cX10_lots 92 = .ok (.ireturn, 1) := by decide +kernel
theorem dX10_feed_0 : decode cX10_feed 0 = .ok (.iload_n 1, 1) := by decide +kernel
theorem dX10_feed_1 : decode cX10_feed 1 = .ok (.ifCond .lt 9, 3) := by decide +kernel
theorem dX10_feed_4 : decode cX10_feed 4 = .ok (.iload_n 1, 1) := by decide +kernel
theorem dX10_feed_5 : decode cX10_feed 5 = .ok (.bipush 127, 2) := by decide +kernel
theorem dX10_feed_7 : decode cX10_feed 7 = .ok (.if_icmp .le 6, 3) := by decide +kernel
theorem dX10_feed_10 : decode cX10_feed 10 = .ok (.bipush (-2), 2) := by decide +kernel
theorem dX10_feed_12 : decode cX10_feed 12 = .ok (.ireturn, 1) := by decide +kernel
theorem dX10_feed_13 : decode cX10_feed 13 = .ok (.aload_n 0, 1) := by decide +kernel
theorem dX10_feed_14 : decode cX10_feed 14 = .ok (.getfield 28, 3) := by decide +kernel
theorem dX10_feed_17 : decode cX10_feed 17 = .ok (.iload_n 1, 1) := by decide +kernel
theorem dX10_feed_18 : decode cX10_feed 18 = .ok (.invokevirtual 297, 3) := by decide +kernel
theorem dX10_feed_21 : decode cX10_feed 21 = .ok (.ifCond .ne 6, 3) := by decide +kernel
theorem dX10_feed_24 : decode cX10_feed 24 = .ok (.bipush (-4), 2) := by decide +kernel
theorem dX10_feed_26 : decode cX10_feed 26 = .ok (.ireturn, 1) := by decide +kernel
theorem dX10_feed_27 : decode cX10_feed 27 = .ok (.aload_n 0, 1) := by decide +kernel
theorem dX10_feed_28 : decode cX10_feed 28 = .ok (.getfield 28, 3) := by decide +kernel
theorem dX10_feed_31 : decode cX10_feed 31 = .ok (.getfield 300, 3) := by decide +kernel
theorem dX10_feed_34 : decode cX10_feed 34 = .ok (.ireturn, 1) := by decide +kernel
theorem dX10_read_0 : decode cX10_read 0 = .ok (.aload_n 0, 1) := by decide +kernel
theorem dX10_read_1 : decode cX10_read 1 = .ok (.getfield 28, 3) := by decide +kernel
theorem dX10_read_4 : decode cX10_read 4 = .ok (.invokevirtual 303, 3) := by decide +kernel
theorem dX10_read_7 : decode cX10_read 7 = .ok (.istore_n 1, 1) := by decide +kernel
theorem dX10_read_8 : decode cX10_read 8 = .ok (.iload_n 1, 1) := by decide +kernel
theorem dX10_read_9 : decode cX10_read 9 = .ok (.iconst (-1), 1) := by decide +kernel
theorem dX10_read_10 : decode cX10_read 10 = .ok (.if_icmp .ne 10, 3) := by decide +kernel
theorem dX10_read_13 : decode cX10_read 13 = .ok (.aload_n 0, 1) := by decide +kernel
theorem dX10_read_14 : decode cX10_read 14 = .ok (.invokevirtual 306, 3) := by decide +kernel
theorem dX10_read_17 : decode cX10_read 17 = .ok (.goto 7, 3) := by decide +kernel
theorem dX10_read_20 : decode cX10_read 20 = .ok (.bipush (-10), 2) := by decide +kernel
theorem dX10_read_22 : decode cX10_read 22 = .ok (.iload_n 1, 1) := by decide +kernel
theorem dX10_read_23 : decode cX10_read 23 = .ok (.isub, 1) := by decide +kernel
theorem dX10_read_24 : decode cX10_read 24 = .ok (.istore_n 2, 1) := by decide +kernel
theorem dX10_read_25 : decode cX10_read 25 = .ok (.aload_n 0, 1) := by decide +kernel
theorem dX10_read_26 : decode cX10_read 26 = .ok (.getfield 28, 3) := by decide +kernel
theorem dX10_read_29 : decode cX10_read 29 = .ok (.iconst 0, 1) := by decide +kernel
theorem dX10_read_30 : decode cX10_read 30 = .ok (.putfield 300, 3) := by decide +kernel
theorem dX10_read_33 : decode cX10_read 33 = .ok (.iload_n 2, 1) := by decide +kernel
theorem dX10_read_34 : decode cX10_read 34 = .ok (.ireturn, 1) := by decide +kernel
theorem dX10_judge_0 : decode cX10_judge 0 = .ok (.aload_n 0, 1) := by decide +kernel
theorem dX10_judge_1 : decode cX10_judge 1 = .ok (.iload_n 1, 1) := by decide +kernel
theorem dX10_judge_2 : decode cX10_judge 2 = .ok (.invokevirtual 309, 3) := by decide +kernel
theorem dX10_judge_5 : decode cX10_judge 5 = .ok (.astore_n 3, 1) := by decide +kernel
theorem dX10_judge_6 : decode cX10_judge 6 = .ok (.aload_n 3, 1) := by decide +kernel
theorem dX10_judge_7 : decode cX10_judge 7 = .ok (.ifnonnull 5, 3) := by decide +kernel
theorem dX10_judge_10 : decode cX10_judge 10 = .ok (.iconst (-1), 1) := by decide +kernel
theorem dX10_judge_11 : decode cX10_judge 11 = .ok (.ireturn, 1) := by decide +kernel
theorem dX10_judge_12 : decode cX10_judge 12 = .ok (.aload_n 3, 1) := by decide +kernel
theorem dX10_judge_13 : decode cX10_judge 13 = .ok (.getfield 313, 3) := by decide +kernel
theorem dX10_judge_16 : decode cX10_judge 16 = .ok (.iconst (-1), 1) := by decide +kernel
theorem dX10_judge_17 : decode cX10_judge 17 = .ok (.if_icmp .eq 14, 3) := by decide +kernel
theorem dX10_judge_20 : decode cX10_judge 20 = .ok (.aload_n 3, 1) := by decide +kernel
theorem dX10_judge_21 : decode cX10_judge 21 = .ok (.getfield 313, 3) := by decide +kernel
theorem dX10_judge_24 : decode cX10_judge 24 = .ok (.iconst 1, 1) := by decide +kernel
theorem dX10_judge_25 : decode cX10_judge 25 = .ok (.if_icmp .eq 6, 3) := by decide +kernel
theorem dX10_judge_28 : decode cX10_judge 28 = .ok (.bipush (-12), 2) := by decide +kernel
theorem dX10_judge_30 : decode cX10_judge 30 = .ok (.ireturn, 1) := by decide +kernel
theorem dX10_judge_31 : decode cX10_judge 31 = .ok (.iconst 0, 1) := by decide +kernel
theorem dX10_judge_32 : decode cX10_judge 32 = .ok (.istore 4, 2) := by decide +kernel
theorem dX10_judge_34 : decode cX10_judge 34 = .ok (.iload 4, 2) := by decide +kernel
theorem dX10_judge_36 : decode cX10_judge 36 = .ok (.aload_n 0, 1) := by decide +kernel
theorem dX10_judge_37 : decode cX10_judge 37 = .ok (.getfield 12, 3) := by decide +kernel
theorem dX10_judge_40 : decode cX10_judge 40 = .ok (.getfield 129, 3) := by decide +kernel
theorem dX10_judge_43 : decode cX10_judge 43 = .ok (.getfield 219, 3) := by decide +kernel
theorem dX10_judge_46 : decode cX10_judge 46 = .ok (.if_icmp .ge 58, 3) := by decide +kernel
theorem dX10_judge_49 : decode cX10_judge 49 = .ok (.iload_n 2, 1) := by decide +kernel
theorem dX10_judge_50 : decode cX10_judge 50 = .ok (.ifCond .lt 14, 3) := by decide +kernel
theorem dX10_judge_53 : decode cX10_judge 53 = .ok (.iload 4, 2) := by decide +kernel
theorem dX10_judge_55 : decode cX10_judge 55 = .ok (.aload_n 3, 1) := by decide +kernel
theorem dX10_judge_56 : decode cX10_judge 56 = .ok (.getfield 316, 3) := by decide +kernel
theorem dX10_judge_59 : decode cX10_judge 59 = .ok (.iload_n 2, 1) := by decide +kernel
theorem dX10_judge_60 : decode cX10_judge 60 = .ok (.isub, 1) := by decide +kernel
theorem dX10_judge_61 : decode cX10_judge 61 = .ok (.if_icmp .lt 9, 3) := by decide +kernel
theorem dX10_judge_64 : decode cX10_judge 64 = .ok (.bipush 100, 2) := by decide +kernel
theorem dX10_judge_66 : decode cX10_judge 66 = .ok (.iload 4, 2) := by decide +kernel
theorem dX10_judge_68 : decode cX10_judge 68 = .ok (.iadd, 1) := by decide +kernel
theorem dX10_judge_69 : decode cX10_judge 69 = .ok (.ireturn, 1) := by decide +kernel
theorem dX10_judge_70 : decode cX10_judge 70 = .ok (.aload_n 3, 1) := by decide +kernel
theorem dX10_judge_71 : decode cX10_judge 71 = .ok (.iload_n 2, 1) := by decide +kernel
theorem dX10_judge_72 : decode cX10_judge 72 = .ok (.iload 4, 2) := by decide +kernel
theorem dX10_judge_74 : decode cX10_judge 74 = .ok (.iadd, 1) := by decide +kernel
theorem dX10_judge_75 : decode cX10_judge 75 = .ok (.invokevirtual 317, 3) := by decide +kernel
theorem dX10_judge_78 : decode cX10_judge 78 = .ok (.aload_n 0, 1) := by decide +kernel
theorem dX10_judge_79 : decode cX10_judge 79 = .ok (.getfield 12, 3) := by decide +kernel
theorem dX10_judge_82 : decode cX10_judge 82 = .ok (.getfield 129, 3) := by decide +kernel
theorem dX10_judge_85 : decode cX10_judge 85 = .ok (.iload 4, 2) := by decide +kernel
theorem dX10_judge_87 : decode cX10_judge 87 = .ok (.invokevirtual 237, 3) := by decide +kernel
theorem dX10_judge_90 : decode cX10_judge 90 = .ok (.i2l, 1) := by decide +kernel
theorem dX10_judge_91 : decode cX10_judge 91 = .ok (.lcmp, 1) := by decide +kernel
theorem dX10_judge_92 : decode cX10_judge 92 = .ok (.ifCond .eq 6, 3) := by decide +kernel
theorem dX10_judge_95 : decode cX10_judge 95 = .ok (.iload 4, 2) := by decide +kernel
theorem dX10_judge_97 : decode cX10_judge 97 = .ok (.ireturn, 1) := by decide +kernel
theorem dX10_judge_98 : decode cX10_judge 98 = .ok (.iinc 4 1, 3) := by decide +kernel
theorem dX10_judge_101 : decode cX10_judge 101 = .ok (.goto (-67), 3) := by decide +kernel
theorem dX10_judge_104 : decode cX10_judge 104 = .ok (.bipush (-5), 2) := by decide +kernel
theorem dX10_judge_106 : decode cX10_judge 106 = .ok (.ireturn, 1) := by decide +kernel
theorem dX10_image_0 : decode cX10_image 0 = .ok (.aload_n 0, 1) := by decide +kernel
theorem dX10_image_1 : decode cX10_image 1 = .ok (.getfield 18, 3) := by decide +kernel
theorem dX10_image_4 : decode cX10_image 4 = .ok (.aload_n 0, 1) := by decide +kernel
theorem dX10_image_5 : decode cX10_image 5 = .ok (.getfield 12, 3) := by decide +kernel
theorem dX10_image_8 : decode cX10_image 8 = .ok (.invokevirtual 321, 3) := by decide +kernel
theorem dX10_image_11 : decode cX10_image 11 = .ok (.aload_n 0, 1) := by decide +kernel
theorem dX10_image_12 : decode cX10_image 12 = .ok (.iconst 1, 1) := by decide +kernel
theorem dX10_image_13 : decode cX10_image 13 = .ok (.putfield 21, 3) := by decide +kernel
theorem dX10_image_16 : decode cX10_image 16 = .ok (.aload_n 0, 1) := by decide +kernel
theorem dX10_image_17 : decode cX10_image 17 = .ok (.getfield 12, 3) := by decide +kernel
theorem dX10_image_20 : decode cX10_image 20 = .ok (.getfield 129, 3) := by decide +kernel
theorem dX10_image_23 : decode cX10_image 23 = .ok (.getfield 219, 3) := by decide +kernel
theorem dX10_image_26 : decode cX10_image 26 = .ok (.ireturn, 1) := by decide +kernel
theorem dX10_undo_0 : decode cX10_undo 0 = .ok (.aload_n 0, 1) := by decide +kernel
theorem dX10_undo_1 : decode cX10_undo 1 = .ok (.getfield 21, 3) := by decide +kernel
theorem dX10_undo_4 : decode cX10_undo 4 = .ok (.ifCond .ne 6, 3) := by decide +kernel
theorem dX10_undo_7 : decode cX10_undo 7 = .ok (.bipush (-3), 2) := by decide +kernel
theorem dX10_undo_9 : decode cX10_undo 9 = .ok (.ireturn, 1) := by decide +kernel
theorem dX10_undo_10 : decode cX10_undo 10 = .ok (.aload_n 0, 1) := by decide +kernel
theorem dX10_undo_11 : decode cX10_undo 11 = .ok (.getfield 12, 3) := by decide +kernel
theorem dX10_undo_14 : decode cX10_undo 14 = .ok (.aload_n 0, 1) := by decide +kernel
theorem dX10_undo_15 : decode cX10_undo 15 = .ok (.getfield 18, 3) := by decide +kernel
theorem dX10_undo_18 : decode cX10_undo 18 = .ok (.invokevirtual 321, 3) := by decide +kernel
theorem dX10_undo_21 : decode cX10_undo 21 = .ok (.aload_n 0, 1) := by decide +kernel
theorem dX10_undo_22 : decode cX10_undo 22 = .ok (.getfield 12, 3) := by decide +kernel
theorem dX10_undo_25 : decode cX10_undo 25 = .ok (.getfield 129, 3) := by decide +kernel
theorem dX10_undo_28 : decode cX10_undo 28 = .ok (.getfield 219, 3) := by decide +kernel
theorem dX10_undo_31 : decode cX10_undo 31 = .ok (.ireturn, 1) := by decide +kernel
theorem dX10_count_0 : decode cX10_count 0 = .ok (.iload_n 1, 1) := by decide +kernel
theorem dX10_count_1 : decode cX10_count 1 = .ok (.tableswitch 78 0 4 #[35, 43, 51, 62, 70], 35) := by decide +kernel
theorem dX10_count_36 : decode cX10_count 36 = .ok (.aload_n 0, 1) := by decide +kernel
theorem dX10_count_37 : decode cX10_count 37 = .ok (.getfield 12, 3) := by decide +kernel
theorem dX10_count_40 : decode cX10_count 40 = .ok (.getfield 84, 3) := by decide +kernel
theorem dX10_count_43 : decode cX10_count 43 = .ok (.ireturn, 1) := by decide +kernel
theorem dX10_count_44 : decode cX10_count 44 = .ok (.aload_n 0, 1) := by decide +kernel
theorem dX10_count_45 : decode cX10_count 45 = .ok (.getfield 12, 3) := by decide +kernel
theorem dX10_count_48 : decode cX10_count 48 = .ok (.getfield 106, 3) := by decide +kernel
theorem dX10_count_51 : decode cX10_count 51 = .ok (.ireturn, 1) := by decide +kernel
theorem dX10_count_52 : decode cX10_count 52 = .ok (.aload_n 0, 1) := by decide +kernel
theorem dX10_count_53 : decode cX10_count 53 = .ok (.getfield 12, 3) := by decide +kernel
theorem dX10_count_56 : decode cX10_count 56 = .ok (.getfield 129, 3) := by decide +kernel
theorem dX10_count_59 : decode cX10_count 59 = .ok (.getfield 219, 3) := by decide +kernel
theorem dX10_count_62 : decode cX10_count 62 = .ok (.ireturn, 1) := by decide +kernel
theorem dX10_count_63 : decode cX10_count 63 = .ok (.aload_n 0, 1) := by decide +kernel
theorem dX10_count_64 : decode cX10_count 64 = .ok (.getfield 12, 3) := by decide +kernel
theorem dX10_count_67 : decode cX10_count 67 = .ok (.getfield 269, 3) := by decide +kernel
theorem dX10_count_70 : decode cX10_count 70 = .ok (.ireturn, 1) := by decide +kernel
theorem dX10_count_71 : decode cX10_count 71 = .ok (.aload_n 0, 1) := by decide +kernel
theorem dX10_count_72 : decode cX10_count 72 = .ok (.getfield 28, 3) := by decide +kernel
theorem dX10_count_75 : decode cX10_count 75 = .ok (.getfield 300, 3) := by decide +kernel
theorem dX10_count_78 : decode cX10_count 78 = .ok (.ireturn, 1) := by decide +kernel
theorem dX10_count_79 : decode cX10_count 79 = .ok (.bipush (-2), 2) := by decide +kernel
theorem dX10_count_81 : decode cX10_count 81 = .ok (.ireturn, 1) := by decide +kernel
theorem dX10_tape_0 : decode cX10_tape 0 = .ok (.aload_n 0, 1) := by decide +kernel
theorem dX10_tape_1 : decode cX10_tape 1 = .ok (.iload_n 1, 1) := by decide +kernel
theorem dX10_tape_2 : decode cX10_tape 2 = .ok (.invokevirtual 309, 3) := by decide +kernel
theorem dX10_tape_5 : decode cX10_tape 5 = .ok (.astore 4, 2) := by decide +kernel
theorem dX10_tape_7 : decode cX10_tape 7 = .ok (.aload 4, 2) := by decide +kernel
theorem dX10_tape_9 : decode cX10_tape 9 = .ok (.ifnonnull 5, 3) := by decide +kernel
theorem dX10_tape_12 : decode cX10_tape 12 = .ok (.iconst (-1), 1) := by decide +kernel
theorem dX10_tape_13 : decode cX10_tape 13 = .ok (.ireturn, 1) := by decide +kernel
theorem dX10_tape_14 : decode cX10_tape 14 = .ok (.iload_n 2, 1) := by decide +kernel
theorem dX10_tape_15 : decode cX10_tape 15 = .ok (.iconst (-1), 1) := by decide +kernel
theorem dX10_tape_16 : decode cX10_tape 16 = .ok (.if_icmp .lt 8, 3) := by decide +kernel
theorem dX10_tape_19 : decode cX10_tape 19 = .ok (.iload_n 2, 1) := by decide +kernel
theorem dX10_tape_20 : decode cX10_tape 20 = .ok (.iconst 5, 1) := by decide +kernel
theorem dX10_tape_21 : decode cX10_tape 21 = .ok (.if_icmp .lt 6, 3) := by decide +kernel
theorem dX10_tape_24 : decode cX10_tape 24 = .ok (.bipush (-2), 2) := by decide +kernel
theorem dX10_tape_26 : decode cX10_tape 26 = .ok (.ireturn, 1) := by decide +kernel
theorem dX10_tape_27 : decode cX10_tape 27 = .ok (.iload_n 2, 1) := by decide +kernel
theorem dX10_tape_28 : decode cX10_tape 28 = .ok (.iconst (-1), 1) := by decide +kernel
theorem dX10_tape_29 : decode cX10_tape 29 = .ok (.if_icmp .eq 12, 3) := by decide +kernel
theorem dX10_tape_32 : decode cX10_tape 32 = .ok (.iload_n 3, 1) := by decide +kernel
theorem dX10_tape_33 : decode cX10_tape 33 = .ok (.bipush 60, 2) := by decide +kernel
theorem dX10_tape_35 : decode cX10_tape 35 = .ok (.if_icmp .le 6, 3) := by decide +kernel
theorem dX10_tape_38 : decode cX10_tape 38 = .ok (.bipush (-2), 2) := by decide +kernel
theorem dX10_tape_40 : decode cX10_tape 40 = .ok (.ireturn, 1) := by decide +kernel
theorem dX10_tape_41 : decode cX10_tape 41 = .ok (.iload_n 2, 1) := by decide +kernel
theorem dX10_tape_42 : decode cX10_tape 42 = .ok (.iconst (-1), 1) := by decide +kernel
theorem dX10_tape_43 : decode cX10_tape 43 = .ok (.if_icmp .eq 10, 3) := by decide +kernel
theorem dX10_tape_46 : decode cX10_tape 46 = .ok (.iload_n 3, 1) := by decide +kernel
theorem dX10_tape_47 : decode cX10_tape 47 = .ok (.ifCond .ge 6, 3) := by decide +kernel
theorem dX10_tape_50 : decode cX10_tape 50 = .ok (.bipush (-14), 2) := by decide +kernel
theorem dX10_tape_52 : decode cX10_tape 52 = .ok (.ireturn, 1) := by decide +kernel
theorem dX10_tape_53 : decode cX10_tape 53 = .ok (.aload 4, 2) := by decide +kernel
theorem dX10_tape_55 : decode cX10_tape 55 = .ok (.iload_n 2, 1) := by decide +kernel
theorem dX10_tape_56 : decode cX10_tape 56 = .ok (.iload_n 2, 1) := by decide +kernel
theorem dX10_tape_57 : decode cX10_tape 57 = .ok (.iconst (-1), 1) := by decide +kernel
theorem dX10_tape_58 : decode cX10_tape 58 = .ok (.if_icmp .ne 7, 3) := by decide +kernel
theorem dX10_tape_61 : decode cX10_tape 61 = .ok (.iconst 0, 1) := by decide +kernel
theorem dX10_tape_62 : decode cX10_tape 62 = .ok (.goto 4, 3) := by decide +kernel
theorem dX10_tape_65 : decode cX10_tape 65 = .ok (.iload_n 3, 1) := by decide +kernel
theorem dX10_tape_66 : decode cX10_tape 66 = .ok (.invokevirtual 323, 3) := by decide +kernel
theorem dX10_tape_69 : decode cX10_tape 69 = .ok (.iconst 1, 1) := by decide +kernel
theorem dX10_tape_70 : decode cX10_tape 70 = .ok (.ireturn, 1) := by decide +kernel
theorem dX10_item_0 : decode cX10_item 0 = .ok (.aload_n 0, 1) := by decide +kernel
theorem dX10_item_1 : decode cX10_item 1 = .ok (.iload_n 1, 1) := by decide +kernel
theorem dX10_item_2 : decode cX10_item 2 = .ok (.invokevirtual 309, 3) := by decide +kernel
theorem dX10_item_5 : decode cX10_item 5 = .ok (.astore 5, 2) := by decide +kernel
theorem dX10_item_7 : decode cX10_item 7 = .ok (.aload 5, 2) := by decide +kernel
theorem dX10_item_9 : decode cX10_item 9 = .ok (.ifnonnull 5, 3) := by decide +kernel
theorem dX10_item_12 : decode cX10_item 12 = .ok (.iconst (-1), 1) := by decide +kernel
theorem dX10_item_13 : decode cX10_item 13 = .ok (.ireturn, 1) := by decide +kernel
theorem dX10_item_14 : decode cX10_item 14 = .ok (.aload 5, 2) := by decide +kernel
theorem dX10_item_16 : decode cX10_item 16 = .ok (.getfield 313, 3) := by decide +kernel
theorem dX10_item_19 : decode cX10_item 19 = .ok (.iconst (-1), 1) := by decide +kernel
theorem dX10_item_20 : decode cX10_item 20 = .ok (.if_icmp .ne 6, 3) := by decide +kernel
theorem dX10_item_23 : decode cX10_item 23 = .ok (.bipush (-11), 2) := by decide +kernel
theorem dX10_item_25 : decode cX10_item 25 = .ok (.ireturn, 1) := by decide +kernel
theorem dX10_item_26 : decode cX10_item 26 = .ok (.iload_n 2, 1) := by decide +kernel
theorem dX10_item_27 : decode cX10_item 27 = .ok (.ifCond .lt 12, 3) := by decide +kernel
theorem dX10_item_30 : decode cX10_item 30 = .ok (.iload_n 2, 1) := by decide +kernel
theorem dX10_item_31 : decode cX10_item 31 = .ok (.aload 5, 2) := by decide +kernel
theorem dX10_item_33 : decode cX10_item 33 = .ok (.getfield 316, 3) := by decide +kernel
theorem dX10_item_36 : decode cX10_item 36 = .ok (.if_icmp .lt 6, 3) := by decide +kernel
theorem dX10_item_39 : decode cX10_item 39 = .ok (.bipush (-13), 2) := by decide +kernel
theorem dX10_item_41 : decode cX10_item 41 = .ok (.ireturn, 1) := by decide +kernel
theorem dX10_item_42 : decode cX10_item 42 = .ok (.aload 5, 2) := by decide +kernel
theorem dX10_item_44 : decode cX10_item 44 = .ok (.iload_n 2, 1) := by decide +kernel
theorem dX10_item_45 : decode cX10_item 45 = .ok (.lload_n 3, 1) := by decide +kernel
theorem dX10_item_46 : decode cX10_item 46 = .ok (.invokevirtual 326, 3) := by decide +kernel
theorem dX10_item_49 : decode cX10_item 49 = .ok (.iconst 1, 1) := by decide +kernel
theorem dX10_item_50 : decode cX10_item 50 = .ok (.ireturn, 1) := by decide +kernel
theorem dX10_peek_0 : decode cX10_peek 0 = .ok (.aload_n 0, 1) := by decide +kernel
theorem dX10_peek_1 : decode cX10_peek 1 = .ok (.iload_n 1, 1) := by decide +kernel
theorem dX10_peek_2 : decode cX10_peek 2 = .ok (.invokevirtual 309, 3) := by decide +kernel
theorem dX10_peek_5 : decode cX10_peek 5 = .ok (.astore_n 3, 1) := by decide +kernel
theorem dX10_peek_6 : decode cX10_peek 6 = .ok (.aload_n 3, 1) := by decide +kernel
theorem dX10_peek_7 : decode cX10_peek 7 = .ok (.ifnonnull 7, 3) := by decide +kernel
theorem dX10_peek_10 : decode cX10_peek 10 = .ok (.ldc2_w 329, 3) := by decide +kernel
theorem dX10_peek_13 : decode cX10_peek 13 = .ok (.lreturn, 1) := by decide +kernel
theorem dX10_peek_14 : decode cX10_peek 14 = .ok (.aload_n 3, 1) := by decide +kernel
theorem dX10_peek_15 : decode cX10_peek 15 = .ok (.iload_n 2, 1) := by decide +kernel
theorem dX10_peek_16 : decode cX10_peek 16 = .ok (.invokevirtual 317, 3) := by decide +kernel
theorem dX10_peek_19 : decode cX10_peek 19 = .ok (.lreturn, 1) := by decide +kernel
theorem dX10_shift_0 : decode cX10_shift 0 = .ok (.aload_n 0, 1) := by decide +kernel
theorem dX10_shift_1 : decode cX10_shift 1 = .ok (.iload_n 1, 1) := by decide +kernel
theorem dX10_shift_2 : decode cX10_shift 2 = .ok (.invokevirtual 309, 3) := by decide +kernel
theorem dX10_shift_5 : decode cX10_shift 5 = .ok (.astore 6, 2) := by decide +kernel
theorem dX10_shift_7 : decode cX10_shift 7 = .ok (.aload_n 0, 1) := by decide +kernel
theorem dX10_shift_8 : decode cX10_shift 8 = .ok (.iload_n 3, 1) := by decide +kernel
theorem dX10_shift_9 : decode cX10_shift 9 = .ok (.invokevirtual 309, 3) := by decide +kernel
theorem dX10_shift_12 : decode cX10_shift 12 = .ok (.astore 7, 2) := by decide +kernel
theorem dX10_shift_14 : decode cX10_shift 14 = .ok (.aload 6, 2) := by decide +kernel
theorem dX10_shift_16 : decode cX10_shift 16 = .ok (.ifnull 8, 3) := by decide +kernel
theorem dX10_shift_19 : decode cX10_shift 19 = .ok (.aload 7, 2) := by decide +kernel
theorem dX10_shift_21 : decode cX10_shift 21 = .ok (.ifnonnull 5, 3) := by decide +kernel
theorem dX10_shift_24 : decode cX10_shift 24 = .ok (.iconst (-1), 1) := by decide +kernel
theorem dX10_shift_25 : decode cX10_shift 25 = .ok (.ireturn, 1) := by decide +kernel
theorem dX10_shift_26 : decode cX10_shift 26 = .ok (.aload 6, 2) := by decide +kernel
theorem dX10_shift_28 : decode cX10_shift 28 = .ok (.getfield 313, 3) := by decide +kernel
theorem dX10_shift_31 : decode cX10_shift 31 = .ok (.iconst (-1), 1) := by decide +kernel
theorem dX10_shift_32 : decode cX10_shift 32 = .ok (.if_icmp .eq 12, 3) := by decide +kernel
theorem dX10_shift_35 : decode cX10_shift 35 = .ok (.aload 7, 2) := by decide +kernel
theorem dX10_shift_37 : decode cX10_shift 37 = .ok (.getfield 313, 3) := by decide +kernel
theorem dX10_shift_40 : decode cX10_shift 40 = .ok (.iconst (-1), 1) := by decide +kernel
theorem dX10_shift_41 : decode cX10_shift 41 = .ok (.if_icmp .ne 6, 3) := by decide +kernel
theorem dX10_shift_44 : decode cX10_shift 44 = .ok (.bipush (-11), 2) := by decide +kernel
theorem dX10_shift_46 : decode cX10_shift 46 = .ok (.ireturn, 1) := by decide +kernel
theorem dX10_shift_47 : decode cX10_shift 47 = .ok (.aload 6, 2) := by decide +kernel
theorem dX10_shift_49 : decode cX10_shift 49 = .ok (.getfield 313, 3) := by decide +kernel
theorem dX10_shift_52 : decode cX10_shift 52 = .ok (.aload 7, 2) := by decide +kernel
theorem dX10_shift_54 : decode cX10_shift 54 = .ok (.getfield 313, 3) := by decide +kernel
theorem dX10_shift_57 : decode cX10_shift 57 = .ok (.if_icmp .eq 6, 3) := by decide +kernel
theorem dX10_shift_60 : decode cX10_shift 60 = .ok (.bipush (-12), 2) := by decide +kernel
theorem dX10_shift_62 : decode cX10_shift 62 = .ok (.ireturn, 1) := by decide +kernel
theorem dX10_shift_63 : decode cX10_shift 63 = .ok (.aload 6, 2) := by decide +kernel
theorem dX10_shift_65 : decode cX10_shift 65 = .ok (.iload_n 2, 1) := by decide +kernel
theorem dX10_shift_66 : decode cX10_shift 66 = .ok (.iload 5, 2) := by decide +kernel
theorem dX10_shift_68 : decode cX10_shift 68 = .ok (.invokevirtual 331, 3) := by decide +kernel
theorem dX10_shift_71 : decode cX10_shift 71 = .ok (.ifCond .eq 15, 3) := by decide +kernel
theorem dX10_shift_74 : decode cX10_shift 74 = .ok (.aload 7, 2) := by decide +kernel
theorem dX10_shift_76 : decode cX10_shift 76 = .ok (.iload 4, 2) := by decide +kernel
theorem dX10_shift_78 : decode cX10_shift 78 = .ok (.iload 5, 2) := by decide +kernel
theorem dX10_shift_80 : decode cX10_shift 80 = .ok (.invokevirtual 331, 3) := by decide +kernel
theorem dX10_shift_83 : decode cX10_shift 83 = .ok (.ifCond .ne 6, 3) := by decide +kernel
theorem dX10_shift_86 : decode cX10_shift 86 = .ok (.bipush (-13), 2) := by decide +kernel
theorem dX10_shift_88 : decode cX10_shift 88 = .ok (.ireturn, 1) := by decide +kernel
theorem dX10_shift_89 : decode cX10_shift 89 = .ok (.aload 7, 2) := by decide +kernel
theorem dX10_shift_91 : decode cX10_shift 91 = .ok (.iload 4, 2) := by decide +kernel
theorem dX10_shift_93 : decode cX10_shift 93 = .ok (.aload 6, 2) := by decide +kernel
theorem dX10_shift_95 : decode cX10_shift 95 = .ok (.iload_n 2, 1) := by decide +kernel
theorem dX10_shift_96 : decode cX10_shift 96 = .ok (.iload 5, 2) := by decide +kernel
theorem dX10_shift_98 : decode cX10_shift 98 = .ok (.invokevirtual 334, 3) := by decide +kernel
theorem dX10_shift_101 : decode cX10_shift 101 = .ok (.iload 5, 2) := by decide +kernel
theorem dX10_shift_103 : decode cX10_shift 103 = .ok (.ireturn, 1) := by decide +kernel
theorem dX10_areSizes_0 : decode cX10_areSizes 0 = .ok (.aload_n 0, 1) := by decide +kernel
theorem dX10_areSizes_1 : decode cX10_areSizes 1 = .ok (.getfield 12, 3) := by decide +kernel
theorem dX10_areSizes_4 : decode cX10_areSizes 4 = .ok (.iload_n 1, 1) := by decide +kernel
theorem dX10_areSizes_5 : decode cX10_areSizes 5 = .ok (.invokevirtual 158, 3) := by decide +kernel
theorem dX10_areSizes_8 : decode cX10_areSizes 8 = .ok (.ifCond .eq 23, 3) := by decide +kernel
theorem dX10_areSizes_11 : decode cX10_areSizes 11 = .ok (.aload_n 0, 1) := by decide +kernel
theorem dX10_areSizes_12 : decode cX10_areSizes 12 = .ok (.getfield 12, 3) := by decide +kernel
theorem dX10_areSizes_15 : decode cX10_areSizes 15 = .ok (.iload_n 2, 1) := by decide +kernel
theorem dX10_areSizes_16 : decode cX10_areSizes 16 = .ok (.invokevirtual 158, 3) := by decide +kernel
theorem dX10_areSizes_19 : decode cX10_areSizes 19 = .ok (.ifCond .eq 12, 3) := by decide +kernel
theorem dX10_areSizes_22 : decode cX10_areSizes 22 = .ok (.iload_n 1, 1) := by decide +kernel
theorem dX10_areSizes_23 : decode cX10_areSizes 23 = .ok (.iload_n 2, 1) := by decide +kernel
theorem dX10_areSizes_24 : decode cX10_areSizes 24 = .ok (.if_icmp .gt 7, 3) := by decide +kernel
theorem dX10_areSizes_27 : decode cX10_areSizes 27 = .ok (.iconst 1, 1) := by decide +kernel
theorem dX10_areSizes_28 : decode cX10_areSizes 28 = .ok (.goto 4, 3) := by decide +kernel
theorem dX10_areSizes_31 : decode cX10_areSizes 31 = .ok (.iconst 0, 1) := by decide +kernel
theorem dX10_areSizes_32 : decode cX10_areSizes 32 = .ok (.ireturn, 1) := by decide +kernel
theorem dX10_isAim_0 : decode cX10_isAim 0 = .ok (.iload_n 0, 1) := by decide +kernel
theorem dX10_isAim_1 : decode cX10_isAim 1 = .ok (.iconst 1, 1) := by decide +kernel
theorem dX10_isAim_2 : decode cX10_isAim 2 = .ok (.if_icmp .lt 13, 3) := by decide +kernel
theorem dX10_isAim_5 : decode cX10_isAim 5 = .ok (.iload_n 0, 1) := by decide +kernel
theorem dX10_isAim_6 : decode cX10_isAim 6 = .ok (.bipush 70, 2) := by decide +kernel
theorem dX10_isAim_8 : decode cX10_isAim 8 = .ok (.if_icmp .gt 7, 3) := by decide +kernel
theorem dX10_isAim_11 : decode cX10_isAim 11 = .ok (.iconst 1, 1) := by decide +kernel
theorem dX10_isAim_12 : decode cX10_isAim 12 = .ok (.goto 4, 3) := by decide +kernel
theorem dX10_isAim_15 : decode cX10_isAim 15 = .ok (.iconst 0, 1) := by decide +kernel
theorem dX10_isAim_16 : decode cX10_isAim 16 = .ok (.ireturn, 1) := by decide +kernel
theorem dX10_hasBitsFrom_0 : decode cX10_hasBitsFrom 0 = .ok (.iload_n 1, 1) := by decide +kernel
theorem dX10_hasBitsFrom_1 : decode cX10_hasBitsFrom 1 = .ok (.bipush 31, 2) := by decide +kernel
theorem dX10_hasBitsFrom_3 : decode cX10_hasBitsFrom 3 = .ok (.if_icmp .ge 13, 3) := by decide +kernel
theorem dX10_hasBitsFrom_6 : decode cX10_hasBitsFrom 6 = .ok (.iload_n 0, 1) := by decide +kernel
theorem dX10_hasBitsFrom_7 : decode cX10_hasBitsFrom 7 = .ok (.iload_n 1, 1) := by decide +kernel
theorem dX10_hasBitsFrom_8 : decode cX10_hasBitsFrom 8 = .ok (.ishr, 1) := by decide +kernel
theorem dX10_hasBitsFrom_9 : decode cX10_hasBitsFrom 9 = .ok (.ifCond .eq 7, 3) := by decide +kernel
theorem dX10_hasBitsFrom_12 : decode cX10_hasBitsFrom 12 = .ok (.iconst 1, 1) := by decide +kernel
theorem dX10_hasBitsFrom_13 : decode cX10_hasBitsFrom 13 = .ok (.goto 4, 3) := by decide +kernel
theorem dX10_hasBitsFrom_16 : decode cX10_hasBitsFrom 16 = .ok (.iconst 0, 1) := by decide +kernel
theorem dX10_hasBitsFrom_17 : decode cX10_hasBitsFrom 17 = .ok (.ireturn, 1) := by decide +kernel
theorem dX10_haveDivisorInCommon_0 : decode cX10_haveDivisorInCommon 0 = .ok (.iconst 2, 1) := by decide +kernel
theorem dX10_haveDivisorInCommon_1 : decode cX10_haveDivisorInCommon 1 = .ok (.istore_n 2, 1) := by decide +kernel
theorem dX10_haveDivisorInCommon_2 : decode cX10_haveDivisorInCommon 2 = .ok (.iload_n 2, 1) := by decide +kernel
theorem dX10_haveDivisorInCommon_3 : decode cX10_haveDivisorInCommon 3 = .ok (.iload_n 1, 1) := by decide +kernel
theorem dX10_haveDivisorInCommon_4 : decode cX10_haveDivisorInCommon 4 = .ok (.if_icmp .gt 23, 3) := by decide +kernel
theorem dX10_haveDivisorInCommon_7 : decode cX10_haveDivisorInCommon 7 = .ok (.iload_n 0, 1) := by decide +kernel
theorem dX10_haveDivisorInCommon_8 : decode cX10_haveDivisorInCommon 8 = .ok (.iload_n 2, 1) := by decide +kernel
theorem dX10_haveDivisorInCommon_9 : decode cX10_haveDivisorInCommon 9 = .ok (.irem, 1) := by decide +kernel
theorem dX10_haveDivisorInCommon_10 : decode cX10_haveDivisorInCommon 10 = .ok (.ifCond .ne 11, 3) := by decide +kernel
theorem dX10_haveDivisorInCommon_13 : decode cX10_haveDivisorInCommon 13 = .ok (.iload_n 1, 1) := by decide +kernel
theorem dX10_haveDivisorInCommon_14 : decode cX10_haveDivisorInCommon 14 = .ok (.iload_n 2, 1) := by decide +kernel
theorem dX10_haveDivisorInCommon_15 : decode cX10_haveDivisorInCommon 15 = .ok (.irem, 1) := by decide +kernel
theorem dX10_haveDivisorInCommon_16 : decode cX10_haveDivisorInCommon 16 = .ok (.ifCond .ne 5, 3) := by decide +kernel
theorem dX10_haveDivisorInCommon_19 : decode cX10_haveDivisorInCommon 19 = .ok (.iconst 1, 1) := by decide +kernel
theorem dX10_haveDivisorInCommon_20 : decode cX10_haveDivisorInCommon 20 = .ok (.ireturn, 1) := by decide +kernel
theorem dX10_haveDivisorInCommon_21 : decode cX10_haveDivisorInCommon 21 = .ok (.iinc 2 1, 3) := by decide +kernel
theorem dX10_haveDivisorInCommon_24 : decode cX10_haveDivisorInCommon 24 = .ok (.goto (-22), 3) := by decide +kernel
theorem dX10_haveDivisorInCommon_27 : decode cX10_haveDivisorInCommon 27 = .ok (.iconst 0, 1) := by decide +kernel
theorem dX10_haveDivisorInCommon_28 : decode cX10_haveDivisorInCommon 28 = .ok (.ireturn, 1) := by decide +kernel
theorem dX10_isArrangement_0 : decode cX10_isArrangement 0 = .ok (.iload_n 0, 1) := by decide +kernel
theorem dX10_isArrangement_1 : decode cX10_isArrangement 1 = .ok (.istore_n 2, 1) := by decide +kernel
theorem dX10_isArrangement_2 : decode cX10_isArrangement 2 = .ok (.iconst 0, 1) := by decide +kernel
theorem dX10_isArrangement_3 : decode cX10_isArrangement 3 = .ok (.istore_n 3, 1) := by decide +kernel
theorem dX10_isArrangement_4 : decode cX10_isArrangement 4 = .ok (.iconst 0, 1) := by decide +kernel
theorem dX10_isArrangement_5 : decode cX10_isArrangement 5 = .ok (.istore 4, 2) := by decide +kernel
theorem dX10_isArrangement_7 : decode cX10_isArrangement 7 = .ok (.iload 4, 2) := by decide +kernel
theorem dX10_isArrangement_9 : decode cX10_isArrangement 9 = .ok (.iload_n 1, 1) := by decide +kernel
theorem dX10_isArrangement_10 : decode cX10_isArrangement 10 = .ok (.if_icmp .ge 41, 3) := by decide +kernel
theorem dX10_isArrangement_13 : decode cX10_isArrangement 13 = .ok (.iload_n 2, 1) := by decide +kernel
theorem dX10_isArrangement_14 : decode cX10_isArrangement 14 = .ok (.bipush 10, 2) := by decide +kernel
theorem dX10_isArrangement_16 : decode cX10_isArrangement 16 = .ok (.irem, 1) := by decide +kernel
theorem dX10_isArrangement_17 : decode cX10_isArrangement 17 = .ok (.istore 5, 2) := by decide +kernel
theorem dX10_isArrangement_19 : decode cX10_isArrangement 19 = .ok (.iload 5, 2) := by decide +kernel
theorem dX10_isArrangement_21 : decode cX10_isArrangement 21 = .ok (.iconst 1, 1) := by decide +kernel
theorem dX10_isArrangement_22 : decode cX10_isArrangement 22 = .ok (.if_icmp .lt 9, 3) := by decide +kernel
theorem dX10_isArrangement_25 : decode cX10_isArrangement 25 = .ok (.iload 5, 2) := by decide +kernel
theorem dX10_isArrangement_27 : decode cX10_isArrangement 27 = .ok (.iload_n 1, 1) := by decide +kernel
theorem dX10_isArrangement_28 : decode cX10_isArrangement 28 = .ok (.if_icmp .le 5, 3) := by decide +kernel
theorem dX10_isArrangement_31 : decode cX10_isArrangement 31 = .ok (.iconst 0, 1) := by decide +kernel
theorem dX10_isArrangement_32 : decode cX10_isArrangement 32 = .ok (.ireturn, 1) := by decide +kernel
theorem dX10_isArrangement_33 : decode cX10_isArrangement 33 = .ok (.iload_n 3, 1) := by decide +kernel
theorem dX10_isArrangement_34 : decode cX10_isArrangement 34 = .ok (.iconst 1, 1) := by decide +kernel
theorem dX10_isArrangement_35 : decode cX10_isArrangement 35 = .ok (.iload 5, 2) := by decide +kernel
theorem dX10_isArrangement_37 : decode cX10_isArrangement 37 = .ok (.ishl, 1) := by decide +kernel
theorem dX10_isArrangement_38 : decode cX10_isArrangement 38 = .ok (.ior, 1) := by decide +kernel
theorem dX10_isArrangement_39 : decode cX10_isArrangement 39 = .ok (.istore_n 3, 1) := by decide +kernel
theorem dX10_isArrangement_40 : decode cX10_isArrangement 40 = .ok (.iload_n 2, 1) := by decide +kernel
theorem dX10_isArrangement_41 : decode cX10_isArrangement 41 = .ok (.bipush 10, 2) := by decide +kernel
theorem dX10_isArrangement_43 : decode cX10_isArrangement 43 = .ok (.idiv, 1) := by decide +kernel
theorem dX10_isArrangement_44 : decode cX10_isArrangement 44 = .ok (.istore_n 2, 1) := by decide +kernel
theorem dX10_isArrangement_45 : decode cX10_isArrangement 45 = .ok (.iinc 4 1, 3) := by decide +kernel
theorem dX10_isArrangement_48 : decode cX10_isArrangement 48 = .ok (.goto (-41), 3) := by decide +kernel
theorem dX10_isArrangement_51 : decode cX10_isArrangement 51 = .ok (.iload_n 2, 1) := by decide +kernel
theorem dX10_isArrangement_52 : decode cX10_isArrangement 52 = .ok (.ifCond .ne 15, 3) := by decide +kernel
theorem dX10_isArrangement_55 : decode cX10_isArrangement 55 = .ok (.iload_n 3, 1) := by decide +kernel
theorem dX10_isArrangement_56 : decode cX10_isArrangement 56 = .ok (.invokestatic 222, 3) := by decide +kernel
theorem dX10_isArrangement_59 : decode cX10_isArrangement 59 = .ok (.iload_n 1, 1) := by decide +kernel
theorem dX10_isArrangement_60 : decode cX10_isArrangement 60 = .ok (.if_icmp .ne 7, 3) := by decide +kernel
theorem dX10_isArrangement_63 : decode cX10_isArrangement 63 = .ok (.iconst 1, 1) := by decide +kernel
theorem dX10_isArrangement_64 : decode cX10_isArrangement 64 = .ok (.goto 4, 3) := by decide +kernel
theorem dX10_isArrangement_67 : decode cX10_isArrangement 67 = .ok (.iconst 0, 1) := by decide +kernel
theorem dX10_isArrangement_68 : decode cX10_isArrangement 68 = .ok (.ireturn, 1) := by decide +kernel
theorem dX10_loadChoices_0 : decode cX10_loadChoices 0 = .ok (.aload_n 0, 1) := by decide +kernel
theorem dX10_loadChoices_1 : decode cX10_loadChoices 1 = .ok (.getfield 42, 3) := by decide +kernel
theorem dX10_loadChoices_4 : decode cX10_loadChoices 4 = .ok (.aload_n 0, 1) := by decide +kernel
theorem dX10_loadChoices_5 : decode cX10_loadChoices 5 = .ok (.getfield 12, 3) := by decide +kernel
theorem dX10_loadChoices_8 : decode cX10_loadChoices 8 = .ok (.invokevirtual 161, 3) := by decide +kernel
theorem dX10_loadChoices_11 : decode cX10_loadChoices 11 = .ok (.aload_n 0, 1) := by decide +kernel
theorem dX10_loadChoices_12 : decode cX10_loadChoices 12 = .ok (.getfield 42, 3) := by decide +kernel
theorem dX10_loadChoices_15 : decode cX10_loadChoices 15 = .ok (.iload_n 2, 1) := by decide +kernel
theorem dX10_loadChoices_16 : decode cX10_loadChoices 16 = .ok (.invokevirtual 165, 3) := by decide +kernel
theorem dX10_loadChoices_19 : decode cX10_loadChoices 19 = .ok (.bipush 14, 2) := by decide +kernel
theorem dX10_loadChoices_21 : decode cX10_loadChoices 21 = .ok (.if_icmp .le 5, 3) := by decide +kernel
theorem dX10_loadChoices_24 : decode cX10_loadChoices 24 = .ok (.iconst 0, 1) := by decide +kernel
theorem dX10_loadChoices_25 : decode cX10_loadChoices 25 = .ok (.ireturn, 1) := by decide +kernel
theorem dX10_loadChoices_26 : decode cX10_loadChoices 26 = .ok (.aload_n 0, 1) := by decide +kernel
theorem dX10_loadChoices_27 : decode cX10_loadChoices 27 = .ok (.getfield 56, 3) := by decide +kernel
theorem dX10_loadChoices_30 : decode cX10_loadChoices 30 = .ok (.aload_n 0, 1) := by decide +kernel
theorem dX10_loadChoices_31 : decode cX10_loadChoices 31 = .ok (.getfield 42, 3) := by decide +kernel
theorem dX10_loadChoices_34 : decode cX10_loadChoices 34 = .ok (.iload_n 1, 1) := by decide +kernel
theorem dX10_loadChoices_35 : decode cX10_loadChoices 35 = .ok (.iload_n 2, 1) := by decide +kernel
theorem dX10_loadChoices_36 : decode cX10_loadChoices 36 = .ok (.invokevirtual 338, 3) := by decide +kernel
theorem dX10_loadChoices_39 : decode cX10_loadChoices 39 = .ok (.iconst 1, 1) := by decide +kernel
theorem dX10_loadChoices_40 : decode cX10_loadChoices 40 = .ok (.ireturn, 1) := by decide +kernel
theorem dX10_isLikeAnEarlierSolution_0 : decode cX10_isLikeAnEarlierSolution 0 = .ok (.aload_n 0, 1) := by decide +kernel
theorem dX10_isLikeAnEarlierSolution_1 : decode cX10_isLikeAnEarlierSolution 1 = .ok (.getfield 77, 3) := by decide +kernel
theorem dX10_isLikeAnEarlierSolution_4 : decode cX10_isLikeAnEarlierSolution 4 = .ok (.aload_n 0, 1) := by decide +kernel
theorem dX10_isLikeAnEarlierSolution_5 : decode cX10_isLikeAnEarlierSolution 5 = .ok (.getfield 42, 3) := by decide +kernel
theorem dX10_isLikeAnEarlierSolution_8 : decode cX10_isLikeAnEarlierSolution 8 = .ok (.iload_n 1, 1) := by decide +kernel
theorem dX10_isLikeAnEarlierSolution_9 : decode cX10_isLikeAnEarlierSolution 9 = .ok (.aload_n 0, 1) := by decide +kernel
theorem dX10_isLikeAnEarlierSolution_10 : decode cX10_isLikeAnEarlierSolution 10 = .ok (.getfield 56, 3) := by decide +kernel
theorem dX10_isLikeAnEarlierSolution_13 : decode cX10_isLikeAnEarlierSolution 13 = .ok (.iload_n 2, 1) := by decide +kernel
theorem dX10_isLikeAnEarlierSolution_14 : decode cX10_isLikeAnEarlierSolution 14 = .ok (.invokevirtual 341, 3) := by decide +kernel
theorem dX10_isLikeAnEarlierSolution_17 : decode cX10_isLikeAnEarlierSolution 17 = .ok (.invokevirtual 215, 3) := by decide +kernel
theorem dX10_isLikeAnEarlierSolution_20 : decode cX10_isLikeAnEarlierSolution 20 = .ok (.iconst 0, 1) := by decide +kernel
theorem dX10_isLikeAnEarlierSolution_21 : decode cX10_isLikeAnEarlierSolution 21 = .ok (.istore_n 3, 1) := by decide +kernel
theorem dX10_isLikeAnEarlierSolution_22 : decode cX10_isLikeAnEarlierSolution 22 = .ok (.iload_n 3, 1) := by decide +kernel
theorem dX10_isLikeAnEarlierSolution_23 : decode cX10_isLikeAnEarlierSolution 23 = .ok (.iload_n 2, 1) := by decide +kernel
theorem dX10_isLikeAnEarlierSolution_24 : decode cX10_isLikeAnEarlierSolution 24 = .ok (.if_icmp .ge 56, 3) := by decide +kernel
theorem dX10_isLikeAnEarlierSolution_27 : decode cX10_isLikeAnEarlierSolution 27 = .ok (.aload_n 0, 1) := by decide +kernel
theorem dX10_isLikeAnEarlierSolution_28 : decode cX10_isLikeAnEarlierSolution 28 = .ok (.getfield 81, 3) := by decide +kernel
theorem dX10_isLikeAnEarlierSolution_31 : decode cX10_isLikeAnEarlierSolution 31 = .ok (.aload_n 0, 1) := by decide +kernel
theorem dX10_isLikeAnEarlierSolution_32 : decode cX10_isLikeAnEarlierSolution 32 = .ok (.getfield 42, 3) := by decide +kernel
theorem dX10_isLikeAnEarlierSolution_35 : decode cX10_isLikeAnEarlierSolution 35 = .ok (.iload_n 1, 1) := by decide +kernel
theorem dX10_isLikeAnEarlierSolution_36 : decode cX10_isLikeAnEarlierSolution 36 = .ok (.aload_n 0, 1) := by decide +kernel
theorem dX10_isLikeAnEarlierSolution_37 : decode cX10_isLikeAnEarlierSolution 37 = .ok (.getfield 56, 3) := by decide +kernel
theorem dX10_isLikeAnEarlierSolution_40 : decode cX10_isLikeAnEarlierSolution 40 = .ok (.iload_n 3, 1) := by decide +kernel
theorem dX10_isLikeAnEarlierSolution_41 : decode cX10_isLikeAnEarlierSolution 41 = .ok (.invokevirtual 341, 3) := by decide +kernel
theorem dX10_isLikeAnEarlierSolution_44 : decode cX10_isLikeAnEarlierSolution 44 = .ok (.invokevirtual 215, 3) := by decide +kernel
theorem dX10_isLikeAnEarlierSolution_47 : decode cX10_isLikeAnEarlierSolution 47 = .ok (.aload_n 0, 1) := by decide +kernel
theorem dX10_isLikeAnEarlierSolution_48 : decode cX10_isLikeAnEarlierSolution 48 = .ok (.getfield 63, 3) := by decide +kernel
theorem dX10_isLikeAnEarlierSolution_51 : decode cX10_isLikeAnEarlierSolution 51 = .ok (.aload_n 0, 1) := by decide +kernel
theorem dX10_isLikeAnEarlierSolution_52 : decode cX10_isLikeAnEarlierSolution 52 = .ok (.getfield 77, 3) := by decide +kernel
theorem dX10_isLikeAnEarlierSolution_55 : decode cX10_isLikeAnEarlierSolution 55 = .ok (.aload_n 0, 1) := by decide +kernel
theorem dX10_isLikeAnEarlierSolution_56 : decode cX10_isLikeAnEarlierSolution 56 = .ok (.getfield 81, 3) := by decide +kernel
theorem dX10_isLikeAnEarlierSolution_59 : decode cX10_isLikeAnEarlierSolution 59 = .ok (.aload_n 0, 1) := by decide +kernel
theorem dX10_isLikeAnEarlierSolution_60 : decode cX10_isLikeAnEarlierSolution 60 = .ok (.getfield 12, 3) := by decide +kernel
theorem dX10_isLikeAnEarlierSolution_63 : decode cX10_isLikeAnEarlierSolution 63 = .ok (.getfield 84, 3) := by decide +kernel
theorem dX10_isLikeAnEarlierSolution_66 : decode cX10_isLikeAnEarlierSolution 66 = .ok (.invokevirtual 276, 3) := by decide +kernel
theorem dX10_isLikeAnEarlierSolution_69 : decode cX10_isLikeAnEarlierSolution 69 = .ok (.ifCond .eq 5, 3) := by decide +kernel
theorem dX10_isLikeAnEarlierSolution_72 : decode cX10_isLikeAnEarlierSolution 72 = .ok (.iconst 1, 1) := by decide +kernel
theorem dX10_isLikeAnEarlierSolution_73 : decode cX10_isLikeAnEarlierSolution 73 = .ok (.ireturn, 1) := by decide +kernel
theorem dX10_isLikeAnEarlierSolution_74 : decode cX10_isLikeAnEarlierSolution 74 = .ok (.iinc 3 1, 3) := by decide +kernel
theorem dX10_isLikeAnEarlierSolution_77 : decode cX10_isLikeAnEarlierSolution 77 = .ok (.goto (-55), 3) := by decide +kernel
theorem dX10_isLikeAnEarlierSolution_80 : decode cX10_isLikeAnEarlierSolution 80 = .ok (.iconst 0, 1) := by decide +kernel
theorem dX10_isLikeAnEarlierSolution_81 : decode cX10_isLikeAnEarlierSolution 81 = .ok (.ireturn, 1) := by decide +kernel
theorem dX10_doClauses_0 : decode cX10_doClauses 0 = .ok (.iconst 0, 1) := by decide +kernel
theorem dX10_doClauses_1 : decode cX10_doClauses 1 = .ok (.istore_n 1, 1) := by decide +kernel
theorem dX10_doClauses_2 : decode cX10_doClauses 2 = .ok (.iconst 0, 1) := by decide +kernel
theorem dX10_doClauses_3 : decode cX10_doClauses 3 = .ok (.istore_n 2, 1) := by decide +kernel
theorem dX10_doClauses_4 : decode cX10_doClauses 4 = .ok (.iconst 0, 1) := by decide +kernel
theorem dX10_doClauses_5 : decode cX10_doClauses 5 = .ok (.istore_n 3, 1) := by decide +kernel
theorem dX10_doClauses_6 : decode cX10_doClauses 6 = .ok (.iload_n 3, 1) := by decide +kernel
theorem dX10_doClauses_7 : decode cX10_doClauses 7 = .ok (.bipush 12, 2) := by decide +kernel
theorem dX10_doClauses_9 : decode cX10_doClauses 9 = .ok (.if_icmp .ge 56, 3) := by decide +kernel
theorem dX10_doClauses_12 : decode cX10_doClauses 12 = .ok (.iload_n 2, 1) := by decide +kernel
theorem dX10_doClauses_13 : decode cX10_doClauses 13 = .ok (.aload_n 0, 1) := by decide +kernel
theorem dX10_doClauses_14 : decode cX10_doClauses 14 = .ok (.getfield 28, 3) := by decide +kernel
theorem dX10_doClauses_17 : decode cX10_doClauses 17 = .ok (.getfield 300, 3) := by decide +kernel
theorem dX10_doClauses_20 : decode cX10_doClauses 20 = .ok (.if_icmp .ge 45, 3) := by decide +kernel
theorem dX10_doClauses_23 : decode cX10_doClauses 23 = .ok (.iload_n 2, 1) := by decide +kernel
theorem dX10_doClauses_24 : decode cX10_doClauses 24 = .ok (.iconst 1, 1) := by decide +kernel
theorem dX10_doClauses_25 : decode cX10_doClauses 25 = .ok (.iadd, 1) := by decide +kernel
theorem dX10_doClauses_26 : decode cX10_doClauses 26 = .ok (.aload_n 0, 1) := by decide +kernel
theorem dX10_doClauses_27 : decode cX10_doClauses 27 = .ok (.getfield 28, 3) := by decide +kernel
theorem dX10_doClauses_30 : decode cX10_doClauses 30 = .ok (.iload_n 2, 1) := by decide +kernel
theorem dX10_doClauses_31 : decode cX10_doClauses 31 = .ok (.iconst 1, 1) := by decide +kernel
theorem dX10_doClauses_32 : decode cX10_doClauses 32 = .ok (.iadd, 1) := by decide +kernel
theorem dX10_doClauses_33 : decode cX10_doClauses 33 = .ok (.bipush 8, 2) := by decide +kernel
theorem dX10_doClauses_35 : decode cX10_doClauses 35 = .ok (.invokevirtual 344, 3) := by decide +kernel
theorem dX10_doClauses_38 : decode cX10_doClauses 38 = .ok (.iadd, 1) := by decide +kernel
theorem dX10_doClauses_39 : decode cX10_doClauses 39 = .ok (.istore 4, 2) := by decide +kernel
theorem dX10_doClauses_41 : decode cX10_doClauses 41 = .ok (.aload_n 0, 1) := by decide +kernel
theorem dX10_doClauses_42 : decode cX10_doClauses 42 = .ok (.iload_n 2, 1) := by decide +kernel
theorem dX10_doClauses_43 : decode cX10_doClauses 43 = .ok (.iload 4, 2) := by decide +kernel
theorem dX10_doClauses_45 : decode cX10_doClauses 45 = .ok (.invokevirtual 347, 3) := by decide +kernel
theorem dX10_doClauses_48 : decode cX10_doClauses 48 = .ok (.ifCond .eq 6, 3) := by decide +kernel
theorem dX10_doClauses_51 : decode cX10_doClauses 51 = .ok (.iinc 1 1, 3) := by decide +kernel
theorem dX10_doClauses_54 : decode cX10_doClauses 54 = .ok (.iload 4, 2) := by decide +kernel
theorem dX10_doClauses_56 : decode cX10_doClauses 56 = .ok (.iconst 1, 1) := by decide +kernel
theorem dX10_doClauses_57 : decode cX10_doClauses 57 = .ok (.iadd, 1) := by decide +kernel
theorem dX10_doClauses_58 : decode cX10_doClauses 58 = .ok (.istore_n 2, 1) := by decide +kernel
theorem dX10_doClauses_59 : decode cX10_doClauses 59 = .ok (.iinc 3 1, 3) := by decide +kernel
theorem dX10_doClauses_62 : decode cX10_doClauses 62 = .ok (.goto (-56), 3) := by decide +kernel
theorem dX10_doClauses_65 : decode cX10_doClauses 65 = .ok (.iload_n 1, 1) := by decide +kernel
theorem dX10_doClauses_66 : decode cX10_doClauses 66 = .ok (.ireturn, 1) := by decide +kernel
theorem dX10_doClause_0 : decode cX10_doClause 0 = .ok (.aload_n 0, 1) := by decide +kernel
theorem dX10_doClause_1 : decode cX10_doClause 1 = .ok (.getfield 28, 3) := by decide +kernel
theorem dX10_doClause_4 : decode cX10_doClause 4 = .ok (.iload_n 1, 1) := by decide +kernel
theorem dX10_doClause_5 : decode cX10_doClause 5 = .ok (.iconst 1, 1) := by decide +kernel
theorem dX10_doClause_6 : decode cX10_doClause 6 = .ok (.iadd, 1) := by decide +kernel
theorem dX10_doClause_7 : decode cX10_doClause 7 = .ok (.iload_n 2, 1) := by decide +kernel
theorem dX10_doClause_8 : decode cX10_doClause 8 = .ok (.invokevirtual 350, 3) := by decide +kernel
theorem dX10_doClause_11 : decode cX10_doClause 11 = .ok (.istore_n 3, 1) := by decide +kernel
theorem dX10_doClause_12 : decode cX10_doClause 12 = .ok (.aload_n 0, 1) := by decide +kernel
theorem dX10_doClause_13 : decode cX10_doClause 13 = .ok (.getfield 28, 3) := by decide +kernel
theorem dX10_doClause_16 : decode cX10_doClause 16 = .ok (.iload_n 1, 1) := by decide +kernel
theorem dX10_doClause_17 : decode cX10_doClause 17 = .ok (.invokevirtual 353, 3) := by decide +kernel
theorem dX10_doClause_20 : decode cX10_doClause 20 = .ok (.tableswitch 149 98 110 #[140, 149, 149, 149, 149, 82, 103, 149, 149, 117, 149, 149, 68], 68) := by decide +kernel
theorem dX10_doClause_88 : decode cX10_doClause 88 = .ok (.aload_n 0, 1) := by decide +kernel
theorem dX10_doClause_89 : decode cX10_doClause 89 = .ok (.iload_n 3, 1) := by decide +kernel
theorem dX10_doClause_90 : decode cX10_doClause 90 = .ok (.invokevirtual 356, 3) := by decide +kernel
theorem dX10_doClause_93 : decode cX10_doClause 93 = .ok (.ifCond .lt 7, 3) := by decide +kernel
theorem dX10_doClause_96 : decode cX10_doClause 96 = .ok (.iconst 1, 1) := by decide +kernel
theorem dX10_doClause_97 : decode cX10_doClause 97 = .ok (.goto 4, 3) := by decide +kernel
theorem dX10_doClause_100 : decode cX10_doClause 100 = .ok (.iconst 0, 1) := by decide +kernel
theorem dX10_doClause_101 : decode cX10_doClause 101 = .ok (.ireturn, 1) := by decide +kernel
theorem dX10_doClause_102 : decode cX10_doClause 102 = .ok (.aload_n 0, 1) := by decide +kernel
theorem dX10_doClause_103 : decode cX10_doClause 103 = .ok (.iload_n 3, 1) := by decide +kernel
theorem dX10_doClause_104 : decode cX10_doClause 104 = .ok (.bipush 10, 2) := by decide +kernel
theorem dX10_doClause_106 : decode cX10_doClause 106 = .ok (.idiv, 1) := by decide +kernel
theorem dX10_doClause_107 : decode cX10_doClause 107 = .ok (.iload_n 3, 1) := by decide +kernel
theorem dX10_doClause_108 : decode cX10_doClause 108 = .ok (.bipush 10, 2) := by decide +kernel
theorem dX10_doClause_110 : decode cX10_doClause 110 = .ok (.irem, 1) := by decide +kernel
theorem dX10_doClause_111 : decode cX10_doClause 111 = .ok (.invokevirtual 359, 3) := by decide +kernel
theorem dX10_doClause_114 : decode cX10_doClause 114 = .ok (.ifCond .lt 7, 3) := by decide +kernel
theorem dX10_doClause_117 : decode cX10_doClause 117 = .ok (.iconst 1, 1) := by decide +kernel
theorem dX10_doClause_118 : decode cX10_doClause 118 = .ok (.goto 4, 3) := by decide +kernel
theorem dX10_doClause_121 : decode cX10_doClause 121 = .ok (.iconst 0, 1) := by decide +kernel
theorem dX10_doClause_122 : decode cX10_doClause 122 = .ok (.ireturn, 1) := by decide +kernel
theorem dX10_doClause_123 : decode cX10_doClause 123 = .ok (.aload_n 0, 1) := by decide +kernel
theorem dX10_doClause_124 : decode cX10_doClause 124 = .ok (.iload_n 3, 1) := by decide +kernel
theorem dX10_doClause_125 : decode cX10_doClause 125 = .ok (.invokevirtual 362, 3) := by decide +kernel
theorem dX10_doClause_128 : decode cX10_doClause 128 = .ok (.ifCond .lt 7, 3) := by decide +kernel
theorem dX10_doClause_131 : decode cX10_doClause 131 = .ok (.iconst 1, 1) := by decide +kernel
theorem dX10_doClause_132 : decode cX10_doClause 132 = .ok (.goto 4, 3) := by decide +kernel
theorem dX10_doClause_135 : decode cX10_doClause 135 = .ok (.iconst 0, 1) := by decide +kernel
theorem dX10_doClause_136 : decode cX10_doClause 136 = .ok (.ireturn, 1) := by decide +kernel
theorem dX10_doClause_137 : decode cX10_doClause 137 = .ok (.aload_n 0, 1) := by decide +kernel
theorem dX10_doClause_138 : decode cX10_doClause 138 = .ok (.iload_n 3, 1) := by decide +kernel
theorem dX10_doClause_139 : decode cX10_doClause 139 = .ok (.bipush 10, 2) := by decide +kernel
theorem dX10_doClause_141 : decode cX10_doClause 141 = .ok (.idiv, 1) := by decide +kernel
theorem dX10_doClause_142 : decode cX10_doClause 142 = .ok (.iconst 1, 1) := by decide +kernel
theorem dX10_doClause_143 : decode cX10_doClause 143 = .ok (.iload_n 3, 1) := by decide +kernel
theorem dX10_doClause_144 : decode cX10_doClause 144 = .ok (.bipush 10, 2) := by decide +kernel
theorem dX10_doClause_146 : decode cX10_doClause 146 = .ok (.irem, 1) := by decide +kernel
theorem dX10_doClause_147 : decode cX10_doClause 147 = .ok (.ishl, 1) := by decide +kernel
theorem dX10_doClause_148 : decode cX10_doClause 148 = .ok (.invokevirtual 365, 3) := by decide +kernel
theorem dX10_doClause_151 : decode cX10_doClause 151 = .ok (.ifCond .lt 7, 3) := by decide +kernel
theorem dX10_doClause_154 : decode cX10_doClause 154 = .ok (.iconst 1, 1) := by decide +kernel
theorem dX10_doClause_155 : decode cX10_doClause 155 = .ok (.goto 4, 3) := by decide +kernel
theorem dX10_doClause_158 : decode cX10_doClause 158 = .ok (.iconst 0, 1) := by decide +kernel
theorem dX10_doClause_159 : decode cX10_doClause 159 = .ok (.ireturn, 1) := by decide +kernel
theorem dX10_doClause_160 : decode cX10_doClause 160 = .ok (.aload_n 0, 1) := by decide +kernel
theorem dX10_doClause_161 : decode cX10_doClause 161 = .ok (.iload_n 1, 1) := by decide +kernel
theorem dX10_doClause_162 : decode cX10_doClause 162 = .ok (.iconst 1, 1) := by decide +kernel
theorem dX10_doClause_163 : decode cX10_doClause 163 = .ok (.iadd, 1) := by decide +kernel
theorem dX10_doClause_164 : decode cX10_doClause 164 = .ok (.iload_n 2, 1) := by decide +kernel
theorem dX10_doClause_165 : decode cX10_doClause 165 = .ok (.invokevirtual 368, 3) := by decide +kernel
theorem dX10_doClause_168 : decode cX10_doClause 168 = .ok (.ireturn, 1) := by decide +kernel
theorem dX10_doClause_169 : decode cX10_doClause 169 = .ok (.iconst 0, 1) := by decide +kernel
theorem dX10_doClause_170 : decode cX10_doClause 170 = .ok (.ireturn, 1) := by decide +kernel
theorem dX10_doBlockClause_0 : decode cX10_doBlockClause 0 = .ok (.iconst 0, 1) := by decide +kernel
theorem dX10_doBlockClause_1 : decode cX10_doBlockClause 1 = .ok (.istore_n 3, 1) := by decide +kernel
theorem dX10_doBlockClause_2 : decode cX10_doBlockClause 2 = .ok (.iload_n 1, 1) := by decide +kernel
theorem dX10_doBlockClause_3 : decode cX10_doBlockClause 3 = .ok (.istore 4, 2) := by decide +kernel
theorem dX10_doBlockClause_5 : decode cX10_doBlockClause 5 = .ok (.iload 4, 2) := by decide +kernel
theorem dX10_doBlockClause_7 : decode cX10_doBlockClause 7 = .ok (.iload_n 2, 1) := by decide +kernel
theorem dX10_doBlockClause_8 : decode cX10_doBlockClause 8 = .ok (.if_icmp .ge 41, 3) := by decide +kernel
theorem dX10_doBlockClause_11 : decode cX10_doBlockClause 11 = .ok (.aload_n 0, 1) := by decide +kernel
theorem dX10_doBlockClause_12 : decode cX10_doBlockClause 12 = .ok (.getfield 28, 3) := by decide +kernel
theorem dX10_doBlockClause_15 : decode cX10_doBlockClause 15 = .ok (.iload 4, 2) := by decide +kernel
theorem dX10_doBlockClause_17 : decode cX10_doBlockClause 17 = .ok (.invokevirtual 371, 3) := by decide +kernel
theorem dX10_doBlockClause_20 : decode cX10_doBlockClause 20 = .ok (.istore 5, 2) := by decide +kernel
theorem dX10_doBlockClause_22 : decode cX10_doBlockClause 22 = .ok (.aload_n 0, 1) := by decide +kernel
theorem dX10_doBlockClause_23 : decode cX10_doBlockClause 23 = .ok (.getfield 12, 3) := by decide +kernel
theorem dX10_doBlockClause_26 : decode cX10_doBlockClause 26 = .ok (.iload 5, 2) := by decide +kernel
theorem dX10_doBlockClause_28 : decode cX10_doBlockClause 28 = .ok (.invokevirtual 140, 3) := by decide +kernel
theorem dX10_doBlockClause_31 : decode cX10_doBlockClause 31 = .ok (.ifCond .ne 5, 3) := by decide +kernel
theorem dX10_doBlockClause_34 : decode cX10_doBlockClause 34 = .ok (.iconst 0, 1) := by decide +kernel
theorem dX10_doBlockClause_35 : decode cX10_doBlockClause 35 = .ok (.ireturn, 1) := by decide +kernel
theorem dX10_doBlockClause_36 : decode cX10_doBlockClause 36 = .ok (.iload_n 3, 1) := by decide +kernel
theorem dX10_doBlockClause_37 : decode cX10_doBlockClause 37 = .ok (.iconst 1, 1) := by decide +kernel
theorem dX10_doBlockClause_38 : decode cX10_doBlockClause 38 = .ok (.iload 5, 2) := by decide +kernel
theorem dX10_doBlockClause_40 : decode cX10_doBlockClause 40 = .ok (.ishl, 1) := by decide +kernel
theorem dX10_doBlockClause_41 : decode cX10_doBlockClause 41 = .ok (.ior, 1) := by decide +kernel
theorem dX10_doBlockClause_42 : decode cX10_doBlockClause 42 = .ok (.istore_n 3, 1) := by decide +kernel
theorem dX10_doBlockClause_43 : decode cX10_doBlockClause 43 = .ok (.iinc 4 1, 3) := by decide +kernel
theorem dX10_doBlockClause_46 : decode cX10_doBlockClause 46 = .ok (.goto (-41), 3) := by decide +kernel
theorem dX10_doBlockClause_49 : decode cX10_doBlockClause 49 = .ok (.aload_n 0, 1) := by decide +kernel
theorem dX10_doBlockClause_50 : decode cX10_doBlockClause 50 = .ok (.iload_n 3, 1) := by decide +kernel
theorem dX10_doBlockClause_51 : decode cX10_doBlockClause 51 = .ok (.invokevirtual 374, 3) := by decide +kernel
theorem dX10_doBlockClause_54 : decode cX10_doBlockClause 54 = .ok (.ifCond .lt 7, 3) := by decide +kernel
theorem dX10_doBlockClause_57 : decode cX10_doBlockClause 57 = .ok (.iconst 1, 1) := by decide +kernel
theorem dX10_doBlockClause_58 : decode cX10_doBlockClause 58 = .ok (.goto 4, 3) := by decide +kernel
theorem dX10_doBlockClause_61 : decode cX10_doBlockClause 61 = .ok (.iconst 0, 1) := by decide +kernel
theorem dX10_doBlockClause_62 : decode cX10_doBlockClause 62 = .ok (.ireturn, 1) := by decide +kernel
theorem dX10_tapeAt_0 : decode cX10_tapeAt 0 = .ok (.iload_n 1, 1) := by decide +kernel
theorem dX10_tapeAt_1 : decode cX10_tapeAt 1 = .ok (.ifCond .lt 12, 3) := by decide +kernel
theorem dX10_tapeAt_4 : decode cX10_tapeAt 4 = .ok (.iload_n 1, 1) := by decide +kernel
theorem dX10_tapeAt_5 : decode cX10_tapeAt 5 = .ok (.aload_n 0, 1) := by decide +kernel
theorem dX10_tapeAt_6 : decode cX10_tapeAt 6 = .ok (.getfield 34, 3) := by decide +kernel
theorem dX10_tapeAt_9 : decode cX10_tapeAt 9 = .ok (.arraylength, 1) := by decide +kernel
theorem dX10_tapeAt_10 : decode cX10_tapeAt 10 = .ok (.if_icmp .lt 5, 3) := by decide +kernel
theorem dX10_tapeAt_13 : decode cX10_tapeAt 13 = .ok (.aconst_null, 1) := by decide +kernel
theorem dX10_tapeAt_14 : decode cX10_tapeAt 14 = .ok (.areturn, 1) := by decide +kernel
theorem dX10_tapeAt_15 : decode cX10_tapeAt 15 = .ok (.aload_n 0, 1) := by decide +kernel
theorem dX10_tapeAt_16 : decode cX10_tapeAt 16 = .ok (.getfield 34, 3) := by decide +kernel
theorem dX10_tapeAt_19 : decode cX10_tapeAt 19 = .ok (.iload_n 1, 1) := by decide +kernel
theorem dX10_tapeAt_20 : decode cX10_tapeAt 20 = .ok (.aaload, 1) := by decide +kernel
theorem dX10_tapeAt_21 : decode cX10_tapeAt 21 = .ok (.areturn, 1) := by decide +kernel
theorem dX10_modulo_0 : decode cX10_modulo 0 = .ok (.iload_n 1, 1) := by decide +kernel
theorem dX10_modulo_1 : decode cX10_modulo 1 = .ok (.iconst 1, 1) := by decide +kernel
theorem dX10_modulo_2 : decode cX10_modulo 2 = .ok (.if_icmp .ge 7, 3) := by decide +kernel
theorem dX10_modulo_5 : decode cX10_modulo 5 = .ok (.iconst 0, 1) := by decide +kernel
theorem dX10_modulo_6 : decode cX10_modulo 6 = .ok (.goto 6, 3) := by decide +kernel
theorem dX10_modulo_9 : decode cX10_modulo 9 = .ok (.iload_n 0, 1) := by decide +kernel
theorem dX10_modulo_10 : decode cX10_modulo 10 = .ok (.iload_n 1, 1) := by decide +kernel
theorem dX10_modulo_11 : decode cX10_modulo 11 = .ok (.irem, 1) := by decide +kernel
theorem dX10_modulo_12 : decode cX10_modulo 12 = .ok (.ireturn, 1) := by decide +kernel
theorem dX11_init_0 : decode cX11_init 0 = .ok (.aload_n 0, 1) := by decide +kernel
theorem dX11_init_1 : decode cX11_init 1 = .ok (.invokespecial 3, 3) := by decide +kernel
theorem dX11_init_4 : decode cX11_init 4 = .ok (.aload_n 0, 1) := by decide +kernel
theorem dX11_init_5 : decode cX11_init 5 = .ok (.bipush 48, 2) := by decide +kernel
theorem dX11_init_7 : decode cX11_init 7 = .ok (.newarray .int, 2) := by decide +kernel
theorem dX11_init_9 : decode cX11_init 9 = .ok (.putfield 11, 3) := by decide +kernel
theorem dX11_init_12 : decode cX11_init 12 = .ok (.aload_n 0, 1) := by decide +kernel
theorem dX11_init_13 : decode cX11_init 13 = .ok (.bipush 48, 2) := by decide +kernel
theorem dX11_init_15 : decode cX11_init 15 = .ok (.newarray .int, 2) := by decide +kernel
theorem dX11_init_17 : decode cX11_init 17 = .ok (.putfield 15, 3) := by decide +kernel
theorem dX11_init_20 : decode cX11_init 20 = .ok (.aload_n 0, 1) := by decide +kernel
theorem dX11_init_21 : decode cX11_init 21 = .ok (.iconst 5, 1) := by decide +kernel
theorem dX11_init_22 : decode cX11_init 22 = .ok (.sipush 256, 3) := by decide +kernel
theorem dX11_init_25 : decode cX11_init 25 = .ok (.multianewarray 18 2, 4) := by decide +kernel
theorem dX11_init_29 : decode cX11_init 29 = .ok (.putfield 20, 3) := by decide +kernel
theorem dX11_init_32 : decode cX11_init 32 = .ok (.aload_n 0, 1) := by decide +kernel
theorem dX11_init_33 : decode cX11_init 33 = .ok (.iconst 5, 1) := by decide +kernel
theorem dX11_init_34 : decode cX11_init 34 = .ok (.sipush 256, 3) := by decide +kernel
theorem dX11_init_37 : decode cX11_init 37 = .ok (.multianewarray 18 2, 4) := by decide +kernel
theorem dX11_init_41 : decode cX11_init 41 = .ok (.putfield 23, 3) := by decide +kernel
theorem dX11_init_44 : decode cX11_init 44 = .ok (.aload_n 0, 1) := by decide +kernel
theorem dX11_init_45 : decode cX11_init 45 = .ok (.bipush 8, 2) := by decide +kernel
theorem dX11_init_47 : decode cX11_init 47 = .ok (.newarray .int, 2) := by decide +kernel
theorem dX11_init_49 : decode cX11_init 49 = .ok (.putfield 26, 3) := by decide +kernel
theorem dX11_init_52 : decode cX11_init 52 = .ok (.aload_n 0, 1) := by decide +kernel
theorem dX11_init_53 : decode cX11_init 53 = .ok (.sipush 500, 3) := by decide +kernel
theorem dX11_init_56 : decode cX11_init 56 = .ok (.newarray .int, 2) := by decide +kernel
theorem dX11_init_58 : decode cX11_init 58 = .ok (.putfield 29, 3) := by decide +kernel
theorem dX11_init_61 : decode cX11_init 61 = .ok (.aload_n 0, 1) := by decide +kernel
theorem dX11_init_62 : decode cX11_init 62 = .ok (.sipush 256, 3) := by decide +kernel
theorem dX11_init_65 : decode cX11_init 65 = .ok (.newarray .int, 2) := by decide +kernel
theorem dX11_init_67 : decode cX11_init 67 = .ok (.putfield 32, 3) := by decide +kernel
theorem dX11_init_70 : decode cX11_init 70 = .ok (.aload_n 0, 1) := by decide +kernel
theorem dX11_init_71 : decode cX11_init 71 = .ok (.bipush 9, 2) := by decide +kernel
theorem dX11_init_73 : decode cX11_init 73 = .ok (.newarray .int, 2) := by decide +kernel
theorem dX11_init_75 : decode cX11_init 75 = .ok (.putfield 35, 3) := by decide +kernel
theorem dX11_init_78 : decode cX11_init 78 = .ok (.aload_n 0, 1) := by decide +kernel
theorem dX11_init_79 : decode cX11_init 79 = .ok (.sipush 256, 3) := by decide +kernel
theorem dX11_init_82 : decode cX11_init 82 = .ok (.newarray .int, 2) := by decide +kernel
theorem dX11_init_84 : decode cX11_init 84 = .ok (.putfield 38, 3) := by decide +kernel
theorem dX11_init_87 : decode cX11_init 87 = .ok (.aload_n 0, 1) := by decide +kernel
theorem dX11_init_88 : decode cX11_init 88 = .ok (.bipush 70, 2) := by decide +kernel
theorem dX11_init_90 : decode cX11_init 90 = .ok (.bipush 70, 2) := by decide +kernel
theorem dX11_init_92 : decode cX11_init 92 = .ok (.multianewarray 41 2, 4) := by decide +kernel
theorem dX11_init_96 : decode cX11_init 96 = .ok (.putfield 43, 3) := by decide +kernel
theorem dX11_init_99 : decode cX11_init 99 = .ok (.aload_n 0, 1) := by decide +kernel
theorem dX11_init_100 : decode cX11_init 100 = .ok (.bipush 70, 2) := by decide +kernel
theorem dX11_init_102 : decode cX11_init 102 = .ok (.newarray .int, 2) := by decide +kernel
theorem dX11_init_104 : decode cX11_init 104 = .ok (.putfield 46, 3) := by decide +kernel
theorem dX11_init_107 : decode cX11_init 107 = .ok (.aload_n 0, 1) := by decide +kernel
theorem dX11_init_108 : decode cX11_init 108 = .ok (.sipush 256, 3) := by decide +kernel
theorem dX11_init_111 : decode cX11_init 111 = .ok (.newarray .boolean, 2) := by decide +kernel
theorem dX11_init_113 : decode cX11_init 113 = .ok (.putfield 49, 3) := by decide +kernel
theorem dX11_init_116 : decode cX11_init 116 = .ok (.aload_n 0, 1) := by decide +kernel
theorem dX11_init_117 : decode cX11_init 117 = .ok (.bipush 8, 2) := by decide +kernel
theorem dX11_init_119 : decode cX11_init 119 = .ok (.newarray .int, 2) := by decide +kernel
theorem dX11_init_121 : decode cX11_init 121 = .ok (.putfield 53, 3) := by decide +kernel
theorem dX11_init_124 : decode cX11_init 124 = .ok (.aload_n 0, 1) := by decide +kernel
theorem dX11_init_125 : decode cX11_init 125 = .ok (.bipush 24, 2) := by decide +kernel
theorem dX11_init_127 : decode cX11_init 127 = .ok (.sipush 256, 3) := by decide +kernel
theorem dX11_init_130 : decode cX11_init 130 = .ok (.multianewarray 18 2, 4) := by decide +kernel
theorem dX11_init_134 : decode cX11_init 134 = .ok (.putfield 56, 3) := by decide +kernel
theorem dX11_init_137 : decode cX11_init 137 = .ok (.aload_n 0, 1) := by decide +kernel
theorem dX11_init_138 : decode cX11_init 138 = .ok (.bipush 100, 2) := by decide +kernel
theorem dX11_init_140 : decode cX11_init 140 = .ok (.newarray .int, 2) := by decide +kernel
theorem dX11_init_142 : decode cX11_init 142 = .ok (.putfield 59, 3) := by decide +kernel
theorem dX11_init_145 : decode cX11_init 145 = .ok (.aload_n 0, 1) := by decide +kernel
theorem dX11_init_146 : decode cX11_init 146 = .ok (.bipush 6, 2) := by decide +kernel
theorem dX11_init_148 : decode cX11_init 148 = .ok (.newarray .int, 2) := by decide +kernel
theorem dX11_init_150 : decode cX11_init 150 = .ok (.dup, 1) := by decide +kernel
theorem dX11_init_151 : decode cX11_init 151 = .ok (.iconst 0, 1) := by decide +kernel
theorem dX11_init_152 : decode cX11_init 152 = .ok (.iconst (-1), 1) := by decide +kernel
theorem dX11_init_153 : decode cX11_init 153 = .ok (.iastore, 1) := by decide +kernel
theorem dX11_init_154 : decode cX11_init 154 = .ok (.dup, 1) := by decide +kernel
theorem dX11_init_155 : decode cX11_init 155 = .ok (.iconst 1, 1) := by decide +kernel
theorem dX11_init_156 : decode cX11_init 156 = .ok (.iconst (-1), 1) := by decide +kernel
theorem dX11_init_157 : decode cX11_init 157 = .ok (.iastore, 1) := by decide +kernel
theorem dX11_init_158 : decode cX11_init 158 = .ok (.dup, 1) := by decide +kernel
theorem dX11_init_159 : decode cX11_init 159 = .ok (.iconst 2, 1) := by decide +kernel
theorem dX11_init_160 : decode cX11_init 160 = .ok (.iconst (-1), 1) := by decide +kernel
theorem dX11_init_161 : decode cX11_init 161 = .ok (.iastore, 1) := by decide +kernel
theorem dX11_init_162 : decode cX11_init 162 = .ok (.dup, 1) := by decide +kernel
theorem dX11_init_163 : decode cX11_init 163 = .ok (.iconst 3, 1) := by decide +kernel
theorem dX11_init_164 : decode cX11_init 164 = .ok (.iconst (-1), 1) := by decide +kernel
theorem dX11_init_165 : decode cX11_init 165 = .ok (.iastore, 1) := by decide +kernel
theorem dX11_init_166 : decode cX11_init 166 = .ok (.dup, 1) := by decide +kernel
theorem dX11_init_167 : decode cX11_init 167 = .ok (.iconst 4, 1) := by decide +kernel
theorem dX11_init_168 : decode cX11_init 168 = .ok (.iconst (-1), 1) := by decide +kernel
theorem dX11_init_169 : decode cX11_init 169 = .ok (.iastore, 1) := by decide +kernel
theorem dX11_init_170 : decode cX11_init 170 = .ok (.dup, 1) := by decide +kernel
theorem dX11_init_171 : decode cX11_init 171 = .ok (.iconst 5, 1) := by decide +kernel
theorem dX11_init_172 : decode cX11_init 172 = .ok (.iconst (-1), 1) := by decide +kernel
theorem dX11_init_173 : decode cX11_init 173 = .ok (.iastore, 1) := by decide +kernel
theorem dX11_init_174 : decode cX11_init 174 = .ok (.putfield 62, 3) := by decide +kernel
theorem dX11_init_177 : decode cX11_init 177 = .ok (.aload_n 0, 1) := by decide +kernel
theorem dX11_init_178 : decode cX11_init 178 = .ok (.bipush 6, 2) := by decide +kernel
theorem dX11_init_180 : decode cX11_init 180 = .ok (.newarray .int, 2) := by decide +kernel
theorem dX11_init_182 : decode cX11_init 182 = .ok (.putfield 65, 3) := by decide +kernel
theorem dX11_init_185 : decode cX11_init 185 = .ok (.aload_n 0, 1) := by decide +kernel
theorem dX11_init_186 : decode cX11_init 186 = .ok (.bipush 6, 2) := by decide +kernel
theorem dX11_init_188 : decode cX11_init 188 = .ok (.bipush 60, 2) := by decide +kernel
theorem dX11_init_190 : decode cX11_init 190 = .ok (.multianewarray 68 2, 4) := by decide +kernel
theorem dX11_init_194 : decode cX11_init 194 = .ok (.putfield 70, 3) := by decide +kernel
theorem dX11_init_197 : decode cX11_init 197 = .ok (.aload_n 0, 1) := by decide +kernel
theorem dX11_init_198 : decode cX11_init 198 = .ok (.bipush 60, 2) := by decide +kernel
theorem dX11_init_200 : decode cX11_init 200 = .ok (.newarray .long, 2) := by decide +kernel
theorem dX11_init_202 : decode cX11_init 202 = .ok (.putfield 73, 3) := by decide +kernel
theorem dX11_init_205 : decode cX11_init 205 = .ok (.aload_n 0, 1) := by decide +kernel
theorem dX11_init_206 : decode cX11_init 206 = .ok (.iconst 5, 1) := by decide +kernel
theorem dX11_init_207 : decode cX11_init 207 = .ok (.invokevirtual 77, 3) := by decide +kernel
theorem dX11_init_210 : decode cX11_init 210 = .ok (.return_, 1) := by decide +kernel
theorem dX11_in_0 : decode cX11_in 0 = .ok (.lload_n 0, 1) := by decide +kernel
theorem dX11_in_1 : decode cX11_in 1 = .ok (.lload_n 2, 1) := by decide +kernel
theorem dX11_in_2 : decode cX11_in 2 = .ok (.lcmp, 1) := by decide +kernel
theorem dX11_in_3 : decode cX11_in 3 = .ok (.ifCond .lt 14, 3) := by decide +kernel
theorem dX11_in_6 : decode cX11_in 6 = .ok (.lload_n 0, 1) := by decide +kernel
theorem dX11_in_7 : decode cX11_in 7 = .ok (.lload 4, 2) := by decide +kernel
theorem dX11_in_9 : decode cX11_in 9 = .ok (.lcmp, 1) := by decide +kernel
theorem dX11_in_10 : decode cX11_in 10 = .ok (.ifCond .gt 7, 3) := by decide +kernel
theorem dX11_in_13 : decode cX11_in 13 = .ok (.iconst 1, 1) := by decide +kernel
theorem dX11_in_14 : decode cX11_in 14 = .ok (.goto 4, 3) := by decide +kernel
theorem dX11_in_17 : decode cX11_in 17 = .ok (.iconst 0, 1) := by decide +kernel
theorem dX11_in_18 : decode cX11_in 18 = .ok (.ireturn, 1) := by decide +kernel
theorem dX11_starts_0 : decode cX11_starts 0 = .ok (.iconst 0, 1) := by decide +kernel
theorem dX11_starts_1 : decode cX11_starts 1 = .ok (.istore_n 2, 1) := by decide +kernel
theorem dX11_starts_2 : decode cX11_starts 2 = .ok (.iload_n 2, 1) := by decide +kernel
theorem dX11_starts_3 : decode cX11_starts 3 = .ok (.bipush 48, 2) := by decide +kernel
theorem dX11_starts_5 : decode cX11_starts 5 = .ok (.if_icmp .ge 16, 3) := by decide +kernel
theorem dX11_starts_8 : decode cX11_starts 8 = .ok (.aload_n 0, 1) := by decide +kernel
theorem dX11_starts_9 : decode cX11_starts 9 = .ok (.getfield 11, 3) := by decide +kernel
theorem dX11_starts_12 : decode cX11_starts 12 = .ok (.iload_n 2, 1) := by decide +kernel
theorem dX11_starts_13 : decode cX11_starts 13 = .ok (.iconst 0, 1) := by decide +kernel
theorem dX11_starts_14 : decode cX11_starts 14 = .ok (.iastore, 1) := by decide +kernel
theorem dX11_starts_15 : decode cX11_starts 15 = .ok (.iinc 2 1, 3) := by decide +kernel
theorem dX11_starts_18 : decode cX11_starts 18 = .ok (.goto (-16), 3) := by decide +kernel
theorem dX11_starts_21 : decode cX11_starts 21 = .ok (.aload_n 0, 1) := by decide +kernel
theorem dX11_starts_22 : decode cX11_starts 22 = .ok (.getfield 11, 3) := by decide +kernel
theorem dX11_starts_25 : decode cX11_starts 25 = .ok (.iconst 0, 1) := by decide +kernel
theorem dX11_starts_26 : decode cX11_starts 26 = .ok (.iload_n 1, 1) := by decide +kernel
theorem dX11_starts_27 : decode cX11_starts 27 = .ok (.iastore, 1) := by decide +kernel
theorem dX11_starts_28 : decode cX11_starts 28 = .ok (.aload_n 0, 1) := by decide +kernel
theorem dX11_starts_29 : decode cX11_starts 29 = .ok (.getfield 11, 3) := by decide +kernel
theorem dX11_starts_32 : decode cX11_starts 32 = .ok (.bipush 42, 2) := by decide +kernel
theorem dX11_starts_34 : decode cX11_starts 34 = .ok (.iconst 2, 1) := by decide +kernel
theorem dX11_starts_35 : decode cX11_starts 35 = .ok (.iastore, 1) := by decide +kernel
theorem dX11_starts_36 : decode cX11_starts 36 = .ok (.iconst 0, 1) := by decide +kernel
theorem dX11_starts_37 : decode cX11_starts 37 = .ok (.istore_n 2, 1) := by decide +kernel
theorem dX11_starts_38 : decode cX11_starts 38 = .ok (.iload_n 2, 1) := by decide +kernel
theorem dX11_starts_39 : decode cX11_starts 39 = .ok (.sipush 256, 3) := by decide +kernel
theorem dX11_starts_42 : decode cX11_starts 42 = .ok (.if_icmp .ge 18, 3) := by decide +kernel
theorem dX11_starts_45 : decode cX11_starts 45 = .ok (.aload_n 0, 1) := by decide +kernel
theorem dX11_starts_46 : decode cX11_starts 46 = .ok (.getfield 20, 3) := by decide +kernel
theorem dX11_starts_49 : decode cX11_starts 49 = .ok (.iconst 0, 1) := by decide +kernel
theorem dX11_starts_50 : decode cX11_starts 50 = .ok (.aaload, 1) := by decide +kernel
theorem dX11_starts_51 : decode cX11_starts 51 = .ok (.iload_n 2, 1) := by decide +kernel
theorem dX11_starts_52 : decode cX11_starts 52 = .ok (.iconst 0, 1) := by decide +kernel
theorem dX11_starts_53 : decode cX11_starts 53 = .ok (.bastore, 1) := by decide +kernel
theorem dX11_starts_54 : decode cX11_starts 54 = .ok (.iinc 2 1, 3) := by decide +kernel
theorem dX11_starts_57 : decode cX11_starts 57 = .ok (.goto (-19), 3) := by decide +kernel
theorem dX11_starts_60 : decode cX11_starts 60 = .ok (.return_, 1) := by decide +kernel
theorem dX11_size_0 : decode cX11_size 0 = .ok (.iconst 0, 1) := by decide +kernel
theorem dX11_size_1 : decode cX11_size 1 = .ok (.istore_n 1, 1) := by decide +kernel
theorem dX11_size_2 : decode cX11_size 2 = .ok (.iconst 0, 1) := by decide +kernel
theorem dX11_size_3 : decode cX11_size 3 = .ok (.istore_n 2, 1) := by decide +kernel
theorem dX11_size_4 : decode cX11_size 4 = .ok (.iload_n 2, 1) := by decide +kernel
theorem dX11_size_5 : decode cX11_size 5 = .ok (.bipush 8, 2) := by decide +kernel
theorem dX11_size_7 : decode cX11_size 7 = .ok (.if_icmp .ge 17, 3) := by decide +kernel
theorem dX11_size_10 : decode cX11_size 10 = .ok (.iload_n 1, 1) := by decide +kernel
theorem dX11_size_11 : decode cX11_size 11 = .ok (.iload_n 0, 1) := by decide +kernel
theorem dX11_size_12 : decode cX11_size 12 = .ok (.iload_n 2, 1) := by decide +kernel
theorem dX11_size_13 : decode cX11_size 13 = .ok (.ishr, 1) := by decide +kernel
theorem dX11_size_14 : decode cX11_size 14 = .ok (.iconst 1, 1) := by decide +kernel
theorem dX11_size_15 : decode cX11_size 15 = .ok (.iand, 1) := by decide +kernel
theorem dX11_size_16 : decode cX11_size 16 = .ok (.iadd, 1) := by decide +kernel
theorem dX11_size_17 : decode cX11_size 17 = .ok (.istore_n 1, 1) := by decide +kernel
theorem dX11_size_18 : decode cX11_size 18 = .ok (.iinc 2 1, 3) := by decide +kernel
theorem dX11_size_21 : decode cX11_size 21 = .ok (.goto (-17), 3) := by decide +kernel
theorem dX11_size_24 : decode cX11_size 24 = .ok (.iload_n 1, 1) := by decide +kernel
theorem dX11_size_25 : decode cX11_size 25 = .ok (.ireturn, 1) := by decide +kernel
theorem dX11_whole_0 : decode cX11_whole 0 = .ok (.iconst 1, 1) := by decide +kernel
theorem dX11_whole_1 : decode cX11_whole 1 = .ok (.aload_n 0, 1) := by decide +kernel
theorem dX11_whole_2 : decode cX11_whole 2 = .ok (.getfield 11, 3) := by decide +kernel
theorem dX11_whole_5 : decode cX11_whole 5 = .ok (.iconst 0, 1) := by decide +kernel
theorem dX11_whole_6 : decode cX11_whole 6 = .ok (.iaload, 1) := by decide +kernel
theorem dX11_whole_7 : decode cX11_whole 7 = .ok (.ishl, 1) := by decide +kernel
theorem dX11_whole_8 : decode cX11_whole 8 = .ok (.iconst 1, 1) := by decide +kernel
theorem dX11_whole_9 : decode cX11_whole 9 = .ok (.isub, 1) := by decide +kernel
theorem dX11_whole_10 : decode cX11_whole 10 = .ok (.ireturn, 1) := by decide +kernel
theorem dX11_isSet_0 : decode cX11_isSet 0 = .ok (.iload_n 1, 1) := by decide +kernel
theorem dX11_isSet_1 : decode cX11_isSet 1 = .ok (.i2l, 1) := by decide +kernel
theorem dX11_isSet_2 : decode cX11_isSet 2 = .ok (.lconst 0, 1) := by decide +kernel
theorem dX11_isSet_3 : decode cX11_isSet 3 = .ok (.aload_n 0, 1) := by decide +kernel
theorem dX11_isSet_4 : decode cX11_isSet 4 = .ok (.invokevirtual 81, 3) := by decide +kernel
theorem dX11_isSet_7 : decode cX11_isSet 7 = .ok (.i2l, 1) := by decide +kernel
theorem dX11_isSet_8 : decode cX11_isSet 8 = .ok (.invokestatic 85, 3) := by decide +kernel
theorem dX11_isSet_11 : decode cX11_isSet 11 = .ok (.ireturn, 1) := by decide +kernel
theorem dX11_isPoint_0 : decode cX11_isPoint 0 = .ok (.iload_n 1, 1) := by decide +kernel
theorem dX11_isPoint_1 : decode cX11_isPoint 1 = .ok (.i2l, 1) := by decide +kernel
theorem dX11_isPoint_2 : decode cX11_isPoint 2 = .ok (.lconst 0, 1) := by decide +kernel
theorem dX11_isPoint_3 : decode cX11_isPoint 3 = .ok (.aload_n 0, 1) := by decide +kernel
theorem dX11_isPoint_4 : decode cX11_isPoint 4 = .ok (.getfield 11, 3) := by decide +kernel
theorem dX11_isPoint_7 : decode cX11_isPoint 7 = .ok (.iconst 0, 1) := by decide +kernel
theorem dX11_isPoint_8 : decode cX11_isPoint 8 = .ok (.iaload, 1) := by decide +kernel
theorem dX11_isPoint_9 : decode cX11_isPoint 9 = .ok (.iconst 1, 1) := by decide +kernel
theorem dX11_isPoint_10 : decode cX11_isPoint 10 = .ok (.isub, 1) := by decide +kernel
theorem dX11_isPoint_11 : decode cX11_isPoint 11 = .ok (.i2l, 1) := by decide +kernel
theorem dX11_isPoint_12 : decode cX11_isPoint 12 = .ok (.invokestatic 85, 3) := by decide +kernel
theorem dX11_isPoint_15 : decode cX11_isPoint 15 = .ok (.ireturn, 1) := by decide +kernel
theorem dX11_isWay_0 : decode cX11_isWay 0 = .ok (.iload_n 1, 1) := by decide +kernel
theorem dX11_isWay_1 : decode cX11_isWay 1 = .ok (.i2l, 1) := by decide +kernel
theorem dX11_isWay_2 : decode cX11_isWay 2 = .ok (.lconst 0, 1) := by decide +kernel
theorem dX11_isWay_3 : decode cX11_isWay 3 = .ok (.aload_n 0, 1) := by decide +kernel
theorem dX11_isWay_4 : decode cX11_isWay 4 = .ok (.getfield 11, 3) := by decide +kernel
theorem dX11_isWay_7 : decode cX11_isWay 7 = .ok (.iconst 1, 1) := by decide +kernel
theorem dX11_isWay_8 : decode cX11_isWay 8 = .ok (.iaload, 1) := by decide +kernel
theorem dX11_isWay_9 : decode cX11_isWay 9 = .ok (.iconst 1, 1) := by decide +kernel
theorem dX11_isWay_10 : decode cX11_isWay 10 = .ok (.isub, 1) := by decide +kernel
theorem dX11_isWay_11 : decode cX11_isWay 11 = .ok (.i2l, 1) := by decide +kernel
theorem dX11_isWay_12 : decode cX11_isWay 12 = .ok (.invokestatic 85, 3) := by decide +kernel
theorem dX11_isWay_15 : decode cX11_isWay 15 = .ok (.ireturn, 1) := by decide +kernel
theorem dX11_points_0 : decode cX11_points 0 = .ok (.iload_n 1, 1) := by decide +kernel
theorem dX11_points_1 : decode cX11_points 1 = .ok (.i2l, 1) := by decide +kernel
theorem dX11_points_2 : decode cX11_points 2 = .ok (.ldc2_w 89, 3) := by decide +kernel
theorem dX11_points_5 : decode cX11_points 5 = .ok (.ldc2_w 91, 3) := by decide +kernel
theorem dX11_points_8 : decode cX11_points 8 = .ok (.invokestatic 85, 3) := by decide +kernel
theorem dX11_points_11 : decode cX11_points 11 = .ok (.ifCond .ne 6, 3) := by decide +kernel
theorem dX11_points_14 : decode cX11_points 14 = .ok (.bipush (-2), 2) := by decide +kernel
theorem dX11_points_16 : decode cX11_points 16 = .ok (.ireturn, 1) := by decide +kernel
theorem dX11_points_17 : decode cX11_points 17 = .ok (.aload_n 0, 1) := by decide +kernel
theorem dX11_points_18 : decode cX11_points 18 = .ok (.getfield 11, 3) := by decide +kernel
theorem dX11_points_21 : decode cX11_points 21 = .ok (.iconst 0, 1) := by decide +kernel
theorem dX11_points_22 : decode cX11_points 22 = .ok (.iaload, 1) := by decide +kernel
theorem dX11_points_23 : decode cX11_points 23 = .ok (.istore_n 2, 1) := by decide +kernel
theorem dX11_points_24 : decode cX11_points 24 = .ok (.aload_n 0, 1) := by decide +kernel
theorem dX11_points_25 : decode cX11_points 25 = .ok (.iload_n 1, 1) := by decide +kernel
theorem dX11_points_26 : decode cX11_points 26 = .ok (.invokevirtual 77, 3) := by decide +kernel
theorem dX11_points_29 : decode cX11_points 29 = .ok (.iload_n 2, 1) := by decide +kernel
theorem dX11_points_30 : decode cX11_points 30 = .ok (.ireturn, 1) := by decide +kernel
theorem dX11_common_0 : decode cX11_common 0 = .ok (.iload_n 1, 1) := by decide +kernel
theorem dX11_common_1 : decode cX11_common 1 = .ok (.ifCond .ne 7, 3) := by decide +kernel
theorem dX11_common_4 : decode cX11_common 4 = .ok (.iload_n 0, 1) := by decide +kernel
theorem dX11_common_5 : decode cX11_common 5 = .ok (.goto 10, 3) := by decide +kernel
theorem dX11_common_8 : decode cX11_common 8 = .ok (.iload_n 1, 1) := by decide +kernel
theorem dX11_common_9 : decode cX11_common 9 = .ok (.iload_n 0, 1) := by decide +kernel
theorem dX11_common_10 : decode cX11_common 10 = .ok (.iload_n 1, 1) := by decide +kernel
theorem dX11_common_11 : decode cX11_common 11 = .ok (.irem, 1) := by decide +kernel
theorem dX11_common_12 : decode cX11_common 12 = .ok (.invokestatic 93, 3) := by decide +kernel
theorem dX11_common_15 : decode cX11_common 15 = .ok (.ireturn, 1) := by decide +kernel
theorem dX11_goes_0 : decode cX11_goes 0 = .ok (.aload_n 0, 1) := by decide +kernel
theorem dX11_goes_1 : decode cX11_goes 1 = .ok (.getfield 11, 3) := by decide +kernel
theorem dX11_goes_4 : decode cX11_goes 4 = .ok (.iconst 0, 1) := by decide +kernel
theorem dX11_goes_5 : decode cX11_goes 5 = .ok (.iaload, 1) := by decide +kernel
theorem dX11_goes_6 : decode cX11_goes 6 = .ok (.istore 4, 2) := by decide +kernel
theorem dX11_goes_8 : decode cX11_goes 8 = .ok (.iload_n 1, 1) := by decide +kernel
theorem dX11_goes_9 : decode cX11_goes 9 = .ok (.tableswitch 96 0 3 #[31, 38, 50, 57], 31) := by decide +kernel
theorem dX11_goes_40 : decode cX11_goes 40 = .ok (.iload_n 3, 1) := by decide +kernel
theorem dX11_goes_41 : decode cX11_goes 41 = .ok (.iload_n 2, 1) := by decide +kernel
theorem dX11_goes_42 : decode cX11_goes 42 = .ok (.iadd, 1) := by decide +kernel
theorem dX11_goes_43 : decode cX11_goes 43 = .ok (.iload 4, 2) := by decide +kernel
theorem dX11_goes_45 : decode cX11_goes 45 = .ok (.irem, 1) := by decide +kernel
theorem dX11_goes_46 : decode cX11_goes 46 = .ok (.ireturn, 1) := by decide +kernel
theorem dX11_goes_47 : decode cX11_goes 47 = .ok (.iload_n 2, 1) := by decide +kernel
theorem dX11_goes_48 : decode cX11_goes 48 = .ok (.iload_n 3, 1) := by decide +kernel
theorem dX11_goes_49 : decode cX11_goes 49 = .ok (.isub, 1) := by decide +kernel
theorem dX11_goes_50 : decode cX11_goes 50 = .ok (.iconst 2, 1) := by decide +kernel
theorem dX11_goes_51 : decode cX11_goes 51 = .ok (.iload 4, 2) := by decide +kernel
theorem dX11_goes_53 : decode cX11_goes 53 = .ok (.imul, 1) := by decide +kernel
theorem dX11_goes_54 : decode cX11_goes 54 = .ok (.iadd, 1) := by decide +kernel
theorem dX11_goes_55 : decode cX11_goes 55 = .ok (.iload 4, 2) := by decide +kernel
theorem dX11_goes_57 : decode cX11_goes 57 = .ok (.irem, 1) := by decide +kernel
theorem dX11_goes_58 : decode cX11_goes 58 = .ok (.ireturn, 1) := by decide +kernel
theorem dX11_goes_59 : decode cX11_goes 59 = .ok (.iload_n 3, 1) := by decide +kernel
theorem dX11_goes_60 : decode cX11_goes 60 = .ok (.iload_n 2, 1) := by decide +kernel
theorem dX11_goes_61 : decode cX11_goes 61 = .ok (.imul, 1) := by decide +kernel
theorem dX11_goes_62 : decode cX11_goes 62 = .ok (.iload 4, 2) := by decide +kernel
theorem dX11_goes_64 : decode cX11_goes 64 = .ok (.irem, 1) := by decide +kernel
theorem dX11_goes_65 : decode cX11_goes 65 = .ok (.ireturn, 1) := by decide +kernel
theorem dX11_goes_66 : decode cX11_goes 66 = .ok (.iload_n 2, 1) := by decide +kernel
theorem dX11_goes_67 : decode cX11_goes 67 = .ok (.iload 4, 2) := by decide +kernel
theorem dX11_goes_69 : decode cX11_goes 69 = .ok (.irem, 1) := by decide +kernel
theorem dX11_goes_70 : decode cX11_goes 70 = .ok (.istore 5, 2) := by decide +kernel
theorem dX11_goes_72 : decode cX11_goes 72 = .ok (.iload 5, 2) := by decide +kernel
theorem dX11_goes_74 : decode cX11_goes 74 = .ok (.iconst 1, 1) := by decide +kernel
theorem dX11_goes_75 : decode cX11_goes 75 = .ok (.iadd, 1) := by decide +kernel
theorem dX11_goes_76 : decode cX11_goes 76 = .ok (.iload 4, 2) := by decide +kernel
theorem dX11_goes_78 : decode cX11_goes 78 = .ok (.irem, 1) := by decide +kernel
theorem dX11_goes_79 : decode cX11_goes 79 = .ok (.istore 6, 2) := by decide +kernel
theorem dX11_goes_81 : decode cX11_goes 81 = .ok (.iload_n 3, 1) := by decide +kernel
theorem dX11_goes_82 : decode cX11_goes 82 = .ok (.iload 5, 2) := by decide +kernel
theorem dX11_goes_84 : decode cX11_goes 84 = .ok (.if_icmp .ne 8, 3) := by decide +kernel
theorem dX11_goes_87 : decode cX11_goes 87 = .ok (.iload 6, 2) := by decide +kernel
theorem dX11_goes_89 : decode cX11_goes 89 = .ok (.goto 15, 3) := by decide +kernel
theorem dX11_goes_92 : decode cX11_goes 92 = .ok (.iload_n 3, 1) := by decide +kernel
theorem dX11_goes_93 : decode cX11_goes 93 = .ok (.iload 6, 2) := by decide +kernel
theorem dX11_goes_95 : decode cX11_goes 95 = .ok (.if_icmp .ne 8, 3) := by decide +kernel
theorem dX11_goes_98 : decode cX11_goes 98 = .ok (.iload 5, 2) := by decide +kernel
theorem dX11_goes_100 : decode cX11_goes 100 = .ok (.goto 4, 3) := by decide +kernel
theorem dX11_goes_103 : decode cX11_goes 103 = .ok (.iload_n 3, 1) := by decide +kernel
theorem dX11_goes_104 : decode cX11_goes 104 = .ok (.ireturn, 1) := by decide +kernel
theorem dX11_goes_105 : decode cX11_goes 105 = .ok (.iload_n 3, 1) := by decide +kernel
theorem dX11_goes_106 : decode cX11_goes 106 = .ok (.iload 4, 2) := by decide +kernel
theorem dX11_goes_108 : decode cX11_goes 108 = .ok (.iconst 1, 1) := by decide +kernel
theorem dX11_goes_109 : decode cX11_goes 109 = .ok (.isub, 1) := by decide +kernel
theorem dX11_goes_110 : decode cX11_goes 110 = .ok (.if_icmp .ne 7, 3) := by decide +kernel
theorem dX11_goes_113 : decode cX11_goes 113 = .ok (.iload_n 3, 1) := by decide +kernel
theorem dX11_goes_114 : decode cX11_goes 114 = .ok (.goto 11, 3) := by decide +kernel
theorem dX11_goes_117 : decode cX11_goes 117 = .ok (.iload_n 3, 1) := by decide +kernel
theorem dX11_goes_118 : decode cX11_goes 118 = .ok (.iload_n 2, 1) := by decide +kernel
theorem dX11_goes_119 : decode cX11_goes 119 = .ok (.iadd, 1) := by decide +kernel
theorem dX11_goes_120 : decode cX11_goes 120 = .ok (.iload 4, 2) := by decide +kernel
theorem dX11_goes_122 : decode cX11_goes 122 = .ok (.iconst 1, 1) := by decide +kernel
theorem dX11_goes_123 : decode cX11_goes 123 = .ok (.isub, 1) := by decide +kernel
theorem dX11_goes_124 : decode cX11_goes 124 = .ok (.irem, 1) := by decide +kernel
theorem dX11_goes_125 : decode cX11_goes 125 = .ok (.ireturn, 1) := by decide +kernel
theorem dX11_way_0 : decode cX11_way 0 = .ok (.iload_n 1, 1) := by decide +kernel
theorem dX11_way_1 : decode cX11_way 1 = .ok (.i2l, 1) := by decide +kernel
theorem dX11_way_2 : decode cX11_way 2 = .ok (.lconst 0, 1) := by decide +kernel
theorem dX11_way_3 : decode cX11_way 3 = .ok (.ldc2_w 97, 3) := by decide +kernel
theorem dX11_way_6 : decode cX11_way 6 = .ok (.invokestatic 85, 3) := by decide +kernel
theorem dX11_way_9 : decode cX11_way 9 = .ok (.ifCond .ne 5, 3) := by decide +kernel
theorem dX11_way_12 : decode cX11_way 12 = .ok (.iconst (-1), 1) := by decide +kernel
theorem dX11_way_13 : decode cX11_way 13 = .ok (.ireturn, 1) := by decide +kernel
theorem dX11_way_14 : decode cX11_way 14 = .ok (.iload_n 2, 1) := by decide +kernel
theorem dX11_way_15 : decode cX11_way 15 = .ok (.i2l, 1) := by decide +kernel
theorem dX11_way_16 : decode cX11_way 16 = .ok (.lconst 0, 1) := by decide +kernel
theorem dX11_way_17 : decode cX11_way 17 = .ok (.ldc2_w 99, 3) := by decide +kernel
theorem dX11_way_20 : decode cX11_way 20 = .ok (.invokestatic 85, 3) := by decide +kernel
theorem dX11_way_23 : decode cX11_way 23 = .ok (.ifCond .eq 22, 3) := by decide +kernel
theorem dX11_way_26 : decode cX11_way 26 = .ok (.iload_n 1, 1) := by decide +kernel
theorem dX11_way_27 : decode cX11_way 27 = .ok (.iconst 2, 1) := by decide +kernel
theorem dX11_way_28 : decode cX11_way 28 = .ok (.if_icmp .ne 20, 3) := by decide +kernel
theorem dX11_way_31 : decode cX11_way 31 = .ok (.aload_n 0, 1) := by decide +kernel
theorem dX11_way_32 : decode cX11_way 32 = .ok (.getfield 11, 3) := by decide +kernel
theorem dX11_way_35 : decode cX11_way 35 = .ok (.iconst 0, 1) := by decide +kernel
theorem dX11_way_36 : decode cX11_way 36 = .ok (.iaload, 1) := by decide +kernel
theorem dX11_way_37 : decode cX11_way 37 = .ok (.iload_n 2, 1) := by decide +kernel
theorem dX11_way_38 : decode cX11_way 38 = .ok (.invokestatic 93, 3) := by decide +kernel
theorem dX11_way_41 : decode cX11_way 41 = .ok (.iconst 1, 1) := by decide +kernel
theorem dX11_way_42 : decode cX11_way 42 = .ok (.if_icmp .eq 6, 3) := by decide +kernel
theorem dX11_way_45 : decode cX11_way 45 = .ok (.bipush (-2), 2) := by decide +kernel
theorem dX11_way_47 : decode cX11_way 47 = .ok (.ireturn, 1) := by decide +kernel
theorem dX11_way_48 : decode cX11_way 48 = .ok (.aload_n 0, 1) := by decide +kernel
theorem dX11_way_49 : decode cX11_way 49 = .ok (.getfield 11, 3) := by decide +kernel
theorem dX11_way_52 : decode cX11_way 52 = .ok (.iconst 1, 1) := by decide +kernel
theorem dX11_way_53 : decode cX11_way 53 = .ok (.iaload, 1) := by decide +kernel
theorem dX11_way_54 : decode cX11_way 54 = .ok (.iconst 4, 1) := by decide +kernel
theorem dX11_way_55 : decode cX11_way 55 = .ok (.if_icmp .ne 6, 3) := by decide +kernel
theorem dX11_way_58 : decode cX11_way 58 = .ok (.bipush (-4), 2) := by decide +kernel
theorem dX11_way_60 : decode cX11_way 60 = .ok (.ireturn, 1) := by decide +kernel
theorem dX11_way_61 : decode cX11_way 61 = .ok (.aload_n 0, 1) := by decide +kernel
theorem dX11_way_62 : decode cX11_way 62 = .ok (.getfield 11, 3) := by decide +kernel
theorem dX11_way_65 : decode cX11_way 65 = .ok (.iconst 1, 1) := by decide +kernel
theorem dX11_way_66 : decode cX11_way 66 = .ok (.iaload, 1) := by decide +kernel
theorem dX11_way_67 : decode cX11_way 67 = .ok (.istore_n 3, 1) := by decide +kernel
theorem dX11_way_68 : decode cX11_way 68 = .ok (.aload_n 0, 1) := by decide +kernel
theorem dX11_way_69 : decode cX11_way 69 = .ok (.getfield 11, 3) := by decide +kernel
theorem dX11_way_72 : decode cX11_way 72 = .ok (.iconst 2, 1) := by decide +kernel
theorem dX11_way_73 : decode cX11_way 73 = .ok (.iload_n 3, 1) := by decide +kernel
theorem dX11_way_74 : decode cX11_way 74 = .ok (.iadd, 1) := by decide +kernel
theorem dX11_way_75 : decode cX11_way 75 = .ok (.iload_n 1, 1) := by decide +kernel
theorem dX11_way_76 : decode cX11_way 76 = .ok (.iastore, 1) := by decide +kernel
theorem dX11_way_77 : decode cX11_way 77 = .ok (.aload_n 0, 1) := by decide +kernel
theorem dX11_way_78 : decode cX11_way 78 = .ok (.getfield 11, 3) := by decide +kernel
theorem dX11_way_81 : decode cX11_way 81 = .ok (.bipush 6, 2) := by decide +kernel
theorem dX11_way_83 : decode cX11_way 83 = .ok (.iload_n 3, 1) := by decide +kernel
theorem dX11_way_84 : decode cX11_way 84 = .ok (.iadd, 1) := by decide +kernel
theorem dX11_way_85 : decode cX11_way 85 = .ok (.iload_n 2, 1) := by decide +kernel
theorem dX11_way_86 : decode cX11_way 86 = .ok (.iastore, 1) := by decide +kernel
theorem dX11_way_87 : decode cX11_way 87 = .ok (.iconst 0, 1) := by decide +kernel
theorem dX11_way_88 : decode cX11_way 88 = .ok (.istore 4, 2) := by decide +kernel
theorem dX11_way_90 : decode cX11_way 90 = .ok (.iload 4, 2) := by decide +kernel
theorem dX11_way_92 : decode cX11_way 92 = .ok (.aload_n 0, 1) := by decide +kernel
theorem dX11_way_93 : decode cX11_way 93 = .ok (.getfield 11, 3) := by decide +kernel
theorem dX11_way_96 : decode cX11_way 96 = .ok (.iconst 0, 1) := by decide +kernel
theorem dX11_way_97 : decode cX11_way 97 = .ok (.iaload, 1) := by decide +kernel
theorem dX11_way_98 : decode cX11_way 98 = .ok (.if_icmp .ge 32, 3) := by decide +kernel
theorem dX11_way_101 : decode cX11_way 101 = .ok (.aload_n 0, 1) := by decide +kernel
theorem dX11_way_102 : decode cX11_way 102 = .ok (.getfield 11, 3) := by decide +kernel
theorem dX11_way_105 : decode cX11_way 105 = .ok (.bipush 10, 2) := by decide +kernel
theorem dX11_way_107 : decode cX11_way 107 = .ok (.bipush 8, 2) := by decide +kernel
theorem dX11_way_109 : decode cX11_way 109 = .ok (.iload_n 3, 1) := by decide +kernel
theorem dX11_way_110 : decode cX11_way 110 = .ok (.imul, 1) := by decide +kernel
theorem dX11_way_111 : decode cX11_way 111 = .ok (.iadd, 1) := by decide +kernel
theorem dX11_way_112 : decode cX11_way 112 = .ok (.iload 4, 2) := by decide +kernel
theorem dX11_way_114 : decode cX11_way 114 = .ok (.iadd, 1) := by decide +kernel
theorem dX11_way_115 : decode cX11_way 115 = .ok (.aload_n 0, 1) := by decide +kernel
theorem dX11_way_116 : decode cX11_way 116 = .ok (.iload_n 1, 1) := by decide +kernel
theorem dX11_way_117 : decode cX11_way 117 = .ok (.iload_n 2, 1) := by decide +kernel
theorem dX11_way_118 : decode cX11_way 118 = .ok (.iload 4, 2) := by decide +kernel
theorem dX11_way_120 : decode cX11_way 120 = .ok (.invokevirtual 101, 3) := by decide +kernel
theorem dX11_way_123 : decode cX11_way 123 = .ok (.iastore, 1) := by decide +kernel
theorem dX11_way_124 : decode cX11_way 124 = .ok (.iinc 4 1, 3) := by decide +kernel
theorem dX11_way_127 : decode cX11_way 127 = .ok (.goto (-37), 3) := by decide +kernel
theorem dX11_way_130 : decode cX11_way 130 = .ok (.aload_n 0, 1) := by decide +kernel
theorem dX11_way_131 : decode cX11_way 131 = .ok (.getfield 11, 3) := by decide +kernel
theorem dX11_way_134 : decode cX11_way 134 = .ok (.iconst 1, 1) := by decide +kernel
theorem dX11_way_135 : decode cX11_way 135 = .ok (.dup2, 1) := by decide +kernel
theorem dX11_way_136 : decode cX11_way 136 = .ok (.iaload, 1) := by decide +kernel
theorem dX11_way_137 : decode cX11_way 137 = .ok (.iconst 1, 1) := by decide +kernel
theorem dX11_way_138 : decode cX11_way 138 = .ok (.iadd, 1) := by decide +kernel
theorem dX11_way_139 : decode cX11_way 139 = .ok (.iastore, 1) := by decide +kernel
theorem dX11_way_140 : decode cX11_way 140 = .ok (.iload_n 3, 1) := by decide +kernel
theorem dX11_way_141 : decode cX11_way 141 = .ok (.ireturn, 1) := by decide +kernel
theorem dX11_hand_0 : decode cX11_hand 0 = .ok (.iload_n 1, 1) := by decide +kernel
theorem dX11_hand_1 : decode cX11_hand 1 = .ok (.istore_n 2, 1) := by decide +kernel
theorem dX11_hand_2 : decode cX11_hand 2 = .ok (.iconst 0, 1) := by decide +kernel
theorem dX11_hand_3 : decode cX11_hand 3 = .ok (.istore_n 3, 1) := by decide +kernel
theorem dX11_hand_4 : decode cX11_hand 4 = .ok (.aload_n 0, 1) := by decide +kernel
theorem dX11_hand_5 : decode cX11_hand 5 = .ok (.getfield 11, 3) := by decide +kernel
theorem dX11_hand_8 : decode cX11_hand 8 = .ok (.iconst 0, 1) := by decide +kernel
theorem dX11_hand_9 : decode cX11_hand 9 = .ok (.iaload, 1) := by decide +kernel
theorem dX11_hand_10 : decode cX11_hand 10 = .ok (.iconst 1, 1) := by decide +kernel
theorem dX11_hand_11 : decode cX11_hand 11 = .ok (.isub, 1) := by decide +kernel
theorem dX11_hand_12 : decode cX11_hand 12 = .ok (.istore 4, 2) := by decide +kernel
theorem dX11_hand_14 : decode cX11_hand 14 = .ok (.iload 4, 2) := by decide +kernel
theorem dX11_hand_16 : decode cX11_hand 16 = .ok (.ifCond .lt 64, 3) := by decide +kernel
theorem dX11_hand_19 : decode cX11_hand 19 = .ok (.iload_n 2, 1) := by decide +kernel
theorem dX11_hand_20 : decode cX11_hand 20 = .ok (.bipush 10, 2) := by decide +kernel
theorem dX11_hand_22 : decode cX11_hand 22 = .ok (.irem, 1) := by decide +kernel
theorem dX11_hand_23 : decode cX11_hand 23 = .ok (.iconst 1, 1) := by decide +kernel
theorem dX11_hand_24 : decode cX11_hand 24 = .ok (.isub, 1) := by decide +kernel
theorem dX11_hand_25 : decode cX11_hand 25 = .ok (.istore 5, 2) := by decide +kernel
theorem dX11_hand_27 : decode cX11_hand 27 = .ok (.iload_n 2, 1) := by decide +kernel
theorem dX11_hand_28 : decode cX11_hand 28 = .ok (.ifCond .lt 22, 3) := by decide +kernel
theorem dX11_hand_31 : decode cX11_hand 31 = .ok (.aload_n 0, 1) := by decide +kernel
theorem dX11_hand_32 : decode cX11_hand 32 = .ok (.iload 5, 2) := by decide +kernel
theorem dX11_hand_34 : decode cX11_hand 34 = .ok (.invokevirtual 105, 3) := by decide +kernel
theorem dX11_hand_37 : decode cX11_hand 37 = .ok (.ifCond .eq 13, 3) := by decide +kernel
theorem dX11_hand_40 : decode cX11_hand 40 = .ok (.iload_n 3, 1) := by decide +kernel
theorem dX11_hand_41 : decode cX11_hand 41 = .ok (.iload 5, 2) := by decide +kernel
theorem dX11_hand_43 : decode cX11_hand 43 = .ok (.ishr, 1) := by decide +kernel
theorem dX11_hand_44 : decode cX11_hand 44 = .ok (.iconst 1, 1) := by decide +kernel
theorem dX11_hand_45 : decode cX11_hand 45 = .ok (.iand, 1) := by decide +kernel
theorem dX11_hand_46 : decode cX11_hand 46 = .ok (.iconst 1, 1) := by decide +kernel
theorem dX11_hand_47 : decode cX11_hand 47 = .ok (.if_icmp .ne 6, 3) := by decide +kernel
theorem dX11_hand_50 : decode cX11_hand 50 = .ok (.bipush (-2), 2) := by decide +kernel
theorem dX11_hand_52 : decode cX11_hand 52 = .ok (.ireturn, 1) := by decide +kernel
theorem dX11_hand_53 : decode cX11_hand 53 = .ok (.iload_n 3, 1) := by decide +kernel
theorem dX11_hand_54 : decode cX11_hand 54 = .ok (.iconst 1, 1) := by decide +kernel
theorem dX11_hand_55 : decode cX11_hand 55 = .ok (.iload 5, 2) := by decide +kernel
theorem dX11_hand_57 : decode cX11_hand 57 = .ok (.ishl, 1) := by decide +kernel
theorem dX11_hand_58 : decode cX11_hand 58 = .ok (.ior, 1) := by decide +kernel
theorem dX11_hand_59 : decode cX11_hand 59 = .ok (.istore_n 3, 1) := by decide +kernel
theorem dX11_hand_60 : decode cX11_hand 60 = .ok (.aload_n 0, 1) := by decide +kernel
theorem dX11_hand_61 : decode cX11_hand 61 = .ok (.getfield 26, 3) := by decide +kernel
theorem dX11_hand_64 : decode cX11_hand 64 = .ok (.iload 4, 2) := by decide +kernel
theorem dX11_hand_66 : decode cX11_hand 66 = .ok (.iload 5, 2) := by decide +kernel
theorem dX11_hand_68 : decode cX11_hand 68 = .ok (.iastore, 1) := by decide +kernel
theorem dX11_hand_69 : decode cX11_hand 69 = .ok (.iload_n 2, 1) := by decide +kernel
theorem dX11_hand_70 : decode cX11_hand 70 = .ok (.bipush 10, 2) := by decide +kernel
theorem dX11_hand_72 : decode cX11_hand 72 = .ok (.idiv, 1) := by decide +kernel
theorem dX11_hand_73 : decode cX11_hand 73 = .ok (.istore_n 2, 1) := by decide +kernel
theorem dX11_hand_74 : decode cX11_hand 74 = .ok (.iinc 4 (-1), 3) := by decide +kernel
theorem dX11_hand_77 : decode cX11_hand 77 = .ok (.goto (-63), 3) := by decide +kernel
theorem dX11_hand_80 : decode cX11_hand 80 = .ok (.iload_n 2, 1) := by decide +kernel
theorem dX11_hand_81 : decode cX11_hand 81 = .ok (.ifCond .eq 6, 3) := by decide +kernel
theorem dX11_hand_84 : decode cX11_hand 84 = .ok (.bipush (-2), 2) := by decide +kernel
theorem dX11_hand_86 : decode cX11_hand 86 = .ok (.ireturn, 1) := by decide +kernel
theorem dX11_hand_87 : decode cX11_hand 87 = .ok (.aload_n 0, 1) := by decide +kernel
theorem dX11_hand_88 : decode cX11_hand 88 = .ok (.getfield 11, 3) := by decide +kernel
theorem dX11_hand_91 : decode cX11_hand 91 = .ok (.iconst 1, 1) := by decide +kernel
theorem dX11_hand_92 : decode cX11_hand 92 = .ok (.iaload, 1) := by decide +kernel
theorem dX11_hand_93 : decode cX11_hand 93 = .ok (.iconst 4, 1) := by decide +kernel
theorem dX11_hand_94 : decode cX11_hand 94 = .ok (.if_icmp .ne 6, 3) := by decide +kernel
theorem dX11_hand_97 : decode cX11_hand 97 = .ok (.bipush (-4), 2) := by decide +kernel
theorem dX11_hand_99 : decode cX11_hand 99 = .ok (.ireturn, 1) := by decide +kernel
theorem dX11_hand_100 : decode cX11_hand 100 = .ok (.aload_n 0, 1) := by decide +kernel
theorem dX11_hand_101 : decode cX11_hand 101 = .ok (.getfield 11, 3) := by decide +kernel
theorem dX11_hand_104 : decode cX11_hand 104 = .ok (.iconst 1, 1) := by decide +kernel
theorem dX11_hand_105 : decode cX11_hand 105 = .ok (.iaload, 1) := by decide +kernel
theorem dX11_hand_106 : decode cX11_hand 106 = .ok (.istore 4, 2) := by decide +kernel
theorem dX11_hand_108 : decode cX11_hand 108 = .ok (.aload_n 0, 1) := by decide +kernel
theorem dX11_hand_109 : decode cX11_hand 109 = .ok (.getfield 11, 3) := by decide +kernel
theorem dX11_hand_112 : decode cX11_hand 112 = .ok (.iconst 2, 1) := by decide +kernel
theorem dX11_hand_113 : decode cX11_hand 113 = .ok (.iload 4, 2) := by decide +kernel
theorem dX11_hand_115 : decode cX11_hand 115 = .ok (.iadd, 1) := by decide +kernel
theorem dX11_hand_116 : decode cX11_hand 116 = .ok (.iconst 5, 1) := by decide +kernel
theorem dX11_hand_117 : decode cX11_hand 117 = .ok (.iastore, 1) := by decide +kernel
theorem dX11_hand_118 : decode cX11_hand 118 = .ok (.aload_n 0, 1) := by decide +kernel
theorem dX11_hand_119 : decode cX11_hand 119 = .ok (.getfield 11, 3) := by decide +kernel
theorem dX11_hand_122 : decode cX11_hand 122 = .ok (.bipush 6, 2) := by decide +kernel
theorem dX11_hand_124 : decode cX11_hand 124 = .ok (.iload 4, 2) := by decide +kernel
theorem dX11_hand_126 : decode cX11_hand 126 = .ok (.iadd, 1) := by decide +kernel
theorem dX11_hand_127 : decode cX11_hand 127 = .ok (.iconst 0, 1) := by decide +kernel
theorem dX11_hand_128 : decode cX11_hand 128 = .ok (.iastore, 1) := by decide +kernel
theorem dX11_hand_129 : decode cX11_hand 129 = .ok (.iconst 0, 1) := by decide +kernel
theorem dX11_hand_130 : decode cX11_hand 130 = .ok (.istore 5, 2) := by decide +kernel
theorem dX11_hand_132 : decode cX11_hand 132 = .ok (.iload 5, 2) := by decide +kernel
theorem dX11_hand_134 : decode cX11_hand 134 = .ok (.aload_n 0, 1) := by decide +kernel
theorem dX11_hand_135 : decode cX11_hand 135 = .ok (.getfield 11, 3) := by decide +kernel
theorem dX11_hand_138 : decode cX11_hand 138 = .ok (.iconst 0, 1) := by decide +kernel
theorem dX11_hand_139 : decode cX11_hand 139 = .ok (.iaload, 1) := by decide +kernel
theorem dX11_hand_140 : decode cX11_hand 140 = .ok (.if_icmp .ge 32, 3) := by decide +kernel
theorem dX11_hand_143 : decode cX11_hand 143 = .ok (.aload_n 0, 1) := by decide +kernel
theorem dX11_hand_144 : decode cX11_hand 144 = .ok (.getfield 11, 3) := by decide +kernel
theorem dX11_hand_147 : decode cX11_hand 147 = .ok (.bipush 10, 2) := by decide +kernel
theorem dX11_hand_149 : decode cX11_hand 149 = .ok (.bipush 8, 2) := by decide +kernel
theorem dX11_hand_151 : decode cX11_hand 151 = .ok (.iload 4, 2) := by decide +kernel
theorem dX11_hand_153 : decode cX11_hand 153 = .ok (.imul, 1) := by decide +kernel
theorem dX11_hand_154 : decode cX11_hand 154 = .ok (.iadd, 1) := by decide +kernel
theorem dX11_hand_155 : decode cX11_hand 155 = .ok (.iload 5, 2) := by decide +kernel
theorem dX11_hand_157 : decode cX11_hand 157 = .ok (.iadd, 1) := by decide +kernel
theorem dX11_hand_158 : decode cX11_hand 158 = .ok (.aload_n 0, 1) := by decide +kernel
theorem dX11_hand_159 : decode cX11_hand 159 = .ok (.getfield 26, 3) := by decide +kernel
theorem dX11_hand_162 : decode cX11_hand 162 = .ok (.iload 5, 2) := by decide +kernel
theorem dX11_hand_164 : decode cX11_hand 164 = .ok (.iaload, 1) := by decide +kernel
theorem dX11_hand_165 : decode cX11_hand 165 = .ok (.iastore, 1) := by decide +kernel
theorem dX11_hand_166 : decode cX11_hand 166 = .ok (.iinc 5 1, 3) := by decide +kernel
theorem dX11_hand_169 : decode cX11_hand 169 = .ok (.goto (-37), 3) := by decide +kernel
theorem dX11_hand_172 : decode cX11_hand 172 = .ok (.aload_n 0, 1) := by decide +kernel
theorem dX11_hand_173 : decode cX11_hand 173 = .ok (.getfield 11, 3) := by decide +kernel
theorem dX11_hand_176 : decode cX11_hand 176 = .ok (.iconst 1, 1) := by decide +kernel
theorem dX11_hand_177 : decode cX11_hand 177 = .ok (.dup2, 1) := by decide +kernel
theorem dX11_hand_178 : decode cX11_hand 178 = .ok (.iaload, 1) := by decide +kernel
theorem dX11_hand_179 : decode cX11_hand 179 = .ok (.iconst 1, 1) := by decide +kernel
theorem dX11_hand_180 : decode cX11_hand 180 = .ok (.iadd, 1) := by decide +kernel
theorem dX11_hand_181 : decode cX11_hand 181 = .ok (.iastore, 1) := by decide +kernel
theorem dX11_hand_182 : decode cX11_hand 182 = .ok (.iload 4, 2) := by decide +kernel
theorem dX11_hand_184 : decode cX11_hand 184 = .ok (.ireturn, 1) := by decide +kernel
theorem dX11_drop_0 : decode cX11_drop 0 = .ok (.aload_n 0, 1) := by decide +kernel
theorem dX11_drop_1 : decode cX11_drop 1 = .ok (.iload_n 1, 1) := by decide +kernel
theorem dX11_drop_2 : decode cX11_drop 2 = .ok (.invokevirtual 109, 3) := by decide +kernel
theorem dX11_drop_5 : decode cX11_drop 5 = .ok (.ifCond .ne 5, 3) := by decide +kernel
theorem dX11_drop_8 : decode cX11_drop 8 = .ok (.iconst (-1), 1) := by decide +kernel
theorem dX11_drop_9 : decode cX11_drop 9 = .ok (.ireturn, 1) := by decide +kernel
theorem dX11_drop_10 : decode cX11_drop 10 = .ok (.aload_n 0, 1) := by decide +kernel
theorem dX11_drop_11 : decode cX11_drop 11 = .ok (.getfield 11, 3) := by decide +kernel
theorem dX11_drop_14 : decode cX11_drop 14 = .ok (.iconst 1, 1) := by decide +kernel
theorem dX11_drop_15 : decode cX11_drop 15 = .ok (.dup2, 1) := by decide +kernel
theorem dX11_drop_16 : decode cX11_drop 16 = .ok (.iaload, 1) := by decide +kernel
theorem dX11_drop_17 : decode cX11_drop 17 = .ok (.iconst 1, 1) := by decide +kernel
theorem dX11_drop_18 : decode cX11_drop 18 = .ok (.isub, 1) := by decide +kernel
theorem dX11_drop_19 : decode cX11_drop 19 = .ok (.iastore, 1) := by decide +kernel
theorem dX11_drop_20 : decode cX11_drop 20 = .ok (.iload_n 1, 1) := by decide +kernel
theorem dX11_drop_21 : decode cX11_drop 21 = .ok (.istore_n 2, 1) := by decide +kernel
theorem dX11_drop_22 : decode cX11_drop 22 = .ok (.iload_n 2, 1) := by decide +kernel
theorem dX11_drop_23 : decode cX11_drop 23 = .ok (.aload_n 0, 1) := by decide +kernel
theorem dX11_drop_24 : decode cX11_drop 24 = .ok (.getfield 11, 3) := by decide +kernel
theorem dX11_drop_27 : decode cX11_drop 27 = .ok (.iconst 1, 1) := by decide +kernel
theorem dX11_drop_28 : decode cX11_drop 28 = .ok (.iaload, 1) := by decide +kernel
theorem dX11_drop_29 : decode cX11_drop 29 = .ok (.if_icmp .ge 91, 3) := by decide +kernel
theorem dX11_drop_32 : decode cX11_drop 32 = .ok (.aload_n 0, 1) := by decide +kernel
theorem dX11_drop_33 : decode cX11_drop 33 = .ok (.getfield 11, 3) := by decide +kernel
theorem dX11_drop_36 : decode cX11_drop 36 = .ok (.iconst 2, 1) := by decide +kernel
theorem dX11_drop_37 : decode cX11_drop 37 = .ok (.iload_n 2, 1) := by decide +kernel
theorem dX11_drop_38 : decode cX11_drop 38 = .ok (.iadd, 1) := by decide +kernel
theorem dX11_drop_39 : decode cX11_drop 39 = .ok (.aload_n 0, 1) := by decide +kernel
theorem dX11_drop_40 : decode cX11_drop 40 = .ok (.getfield 11, 3) := by decide +kernel
theorem dX11_drop_43 : decode cX11_drop 43 = .ok (.iconst 2, 1) := by decide +kernel
theorem dX11_drop_44 : decode cX11_drop 44 = .ok (.iload_n 2, 1) := by decide +kernel
theorem dX11_drop_45 : decode cX11_drop 45 = .ok (.iadd, 1) := by decide +kernel
theorem dX11_drop_46 : decode cX11_drop 46 = .ok (.iconst 1, 1) := by decide +kernel
theorem dX11_drop_47 : decode cX11_drop 47 = .ok (.iadd, 1) := by decide +kernel
theorem dX11_drop_48 : decode cX11_drop 48 = .ok (.iaload, 1) := by decide +kernel
theorem dX11_drop_49 : decode cX11_drop 49 = .ok (.iastore, 1) := by decide +kernel
theorem dX11_drop_50 : decode cX11_drop 50 = .ok (.aload_n 0, 1) := by decide +kernel
theorem dX11_drop_51 : decode cX11_drop 51 = .ok (.getfield 11, 3) := by decide +kernel
theorem dX11_drop_54 : decode cX11_drop 54 = .ok (.bipush 6, 2) := by decide +kernel
theorem dX11_drop_56 : decode cX11_drop 56 = .ok (.iload_n 2, 1) := by decide +kernel
theorem dX11_drop_57 : decode cX11_drop 57 = .ok (.iadd, 1) := by decide +kernel
theorem dX11_drop_58 : decode cX11_drop 58 = .ok (.aload_n 0, 1) := by decide +kernel
theorem dX11_drop_59 : decode cX11_drop 59 = .ok (.getfield 11, 3) := by decide +kernel
theorem dX11_drop_62 : decode cX11_drop 62 = .ok (.bipush 6, 2) := by decide +kernel
theorem dX11_drop_64 : decode cX11_drop 64 = .ok (.iload_n 2, 1) := by decide +kernel
theorem dX11_drop_65 : decode cX11_drop 65 = .ok (.iadd, 1) := by decide +kernel
theorem dX11_drop_66 : decode cX11_drop 66 = .ok (.iconst 1, 1) := by decide +kernel
theorem dX11_drop_67 : decode cX11_drop 67 = .ok (.iadd, 1) := by decide +kernel
theorem dX11_drop_68 : decode cX11_drop 68 = .ok (.iaload, 1) := by decide +kernel
theorem dX11_drop_69 : decode cX11_drop 69 = .ok (.iastore, 1) := by decide +kernel
theorem dX11_drop_70 : decode cX11_drop 70 = .ok (.iconst 0, 1) := by decide +kernel
theorem dX11_drop_71 : decode cX11_drop 71 = .ok (.istore_n 3, 1) := by decide +kernel
theorem dX11_drop_72 : decode cX11_drop 72 = .ok (.iload_n 3, 1) := by decide +kernel
theorem dX11_drop_73 : decode cX11_drop 73 = .ok (.bipush 8, 2) := by decide +kernel
theorem dX11_drop_75 : decode cX11_drop 75 = .ok (.if_icmp .ge 39, 3) := by decide +kernel
theorem dX11_drop_78 : decode cX11_drop 78 = .ok (.aload_n 0, 1) := by decide +kernel
theorem dX11_drop_79 : decode cX11_drop 79 = .ok (.getfield 11, 3) := by decide +kernel
theorem dX11_drop_82 : decode cX11_drop 82 = .ok (.bipush 10, 2) := by decide +kernel
theorem dX11_drop_84 : decode cX11_drop 84 = .ok (.bipush 8, 2) := by decide +kernel
theorem dX11_drop_86 : decode cX11_drop 86 = .ok (.iload_n 2, 1) := by decide +kernel
theorem dX11_drop_87 : decode cX11_drop 87 = .ok (.imul, 1) := by decide +kernel
theorem dX11_drop_88 : decode cX11_drop 88 = .ok (.iadd, 1) := by decide +kernel
theorem dX11_drop_89 : decode cX11_drop 89 = .ok (.iload_n 3, 1) := by decide +kernel
theorem dX11_drop_90 : decode cX11_drop 90 = .ok (.iadd, 1) := by decide +kernel
theorem dX11_drop_91 : decode cX11_drop 91 = .ok (.aload_n 0, 1) := by decide +kernel
theorem dX11_drop_92 : decode cX11_drop 92 = .ok (.getfield 11, 3) := by decide +kernel
theorem dX11_drop_95 : decode cX11_drop 95 = .ok (.bipush 10, 2) := by decide +kernel
theorem dX11_drop_97 : decode cX11_drop 97 = .ok (.bipush 8, 2) := by decide +kernel
theorem dX11_drop_99 : decode cX11_drop 99 = .ok (.iload_n 2, 1) := by decide +kernel
theorem dX11_drop_100 : decode cX11_drop 100 = .ok (.iconst 1, 1) := by decide +kernel
theorem dX11_drop_101 : decode cX11_drop 101 = .ok (.iadd, 1) := by decide +kernel
theorem dX11_drop_102 : decode cX11_drop 102 = .ok (.imul, 1) := by decide +kernel
theorem dX11_drop_103 : decode cX11_drop 103 = .ok (.iadd, 1) := by decide +kernel
theorem dX11_drop_104 : decode cX11_drop 104 = .ok (.iload_n 3, 1) := by decide +kernel
theorem dX11_drop_105 : decode cX11_drop 105 = .ok (.iadd, 1) := by decide +kernel
theorem dX11_drop_106 : decode cX11_drop 106 = .ok (.iaload, 1) := by decide +kernel
theorem dX11_drop_107 : decode cX11_drop 107 = .ok (.iastore, 1) := by decide +kernel
theorem dX11_drop_108 : decode cX11_drop 108 = .ok (.iinc 3 1, 3) := by decide +kernel
theorem dX11_drop_111 : decode cX11_drop 111 = .ok (.goto (-39), 3) := by decide +kernel
theorem dX11_drop_114 : decode cX11_drop 114 = .ok (.iinc 2 1, 3) := by decide +kernel
theorem dX11_drop_117 : decode cX11_drop 117 = .ok (.goto (-95), 3) := by decide +kernel
theorem dX11_drop_120 : decode cX11_drop 120 = .ok (.aload_n 0, 1) := by decide +kernel
theorem dX11_drop_121 : decode cX11_drop 121 = .ok (.getfield 11, 3) := by decide +kernel
theorem dX11_drop_124 : decode cX11_drop 124 = .ok (.iconst 1, 1) := by decide +kernel
theorem dX11_drop_125 : decode cX11_drop 125 = .ok (.iaload, 1) := by decide +kernel
theorem dX11_drop_126 : decode cX11_drop 126 = .ok (.ireturn, 1) := by decide +kernel
theorem dX11_to_0 : decode cX11_to 0 = .ok (.aload_n 0, 1) := by decide +kernel
theorem dX11_to_1 : decode cX11_to 1 = .ok (.getfield 11, 3) := by decide +kernel
theorem dX11_to_4 : decode cX11_to 4 = .ok (.bipush 10, 2) := by decide +kernel
theorem dX11_to_6 : decode cX11_to 6 = .ok (.bipush 8, 2) := by decide +kernel
theorem dX11_to_8 : decode cX11_to 8 = .ok (.iload_n 1, 1) := by decide +kernel
theorem dX11_to_9 : decode cX11_to 9 = .ok (.imul, 1) := by decide +kernel
theorem dX11_to_10 : decode cX11_to 10 = .ok (.iadd, 1) := by decide +kernel
theorem dX11_to_11 : decode cX11_to 11 = .ok (.iload_n 2, 1) := by decide +kernel
theorem dX11_to_12 : decode cX11_to 12 = .ok (.iadd, 1) := by decide +kernel
theorem dX11_to_13 : decode cX11_to 13 = .ok (.iaload, 1) := by decide +kernel
theorem dX11_to_14 : decode cX11_to 14 = .ok (.ireturn, 1) := by decide +kernel
theorem dX11_moved_0 : decode cX11_moved 0 = .ok (.iconst 0, 1) := by decide +kernel
theorem dX11_moved_1 : decode cX11_moved 1 = .ok (.istore_n 3, 1) := by decide +kernel
theorem dX11_moved_2 : decode cX11_moved 2 = .ok (.iconst 0, 1) := by decide +kernel
theorem dX11_moved_3 : decode cX11_moved 3 = .ok (.istore 4, 2) := by decide +kernel
theorem dX11_moved_5 : decode cX11_moved 5 = .ok (.iload 4, 2) := by decide +kernel
theorem dX11_moved_7 : decode cX11_moved 7 = .ok (.aload_n 0, 1) := by decide +kernel
theorem dX11_moved_8 : decode cX11_moved 8 = .ok (.getfield 11, 3) := by decide +kernel
theorem dX11_moved_11 : decode cX11_moved 11 = .ok (.iconst 0, 1) := by decide +kernel
theorem dX11_moved_12 : decode cX11_moved 12 = .ok (.iaload, 1) := by decide +kernel
theorem dX11_moved_13 : decode cX11_moved 13 = .ok (.if_icmp .ge 35, 3) := by decide +kernel
theorem dX11_moved_16 : decode cX11_moved 16 = .ok (.iload_n 3, 1) := by decide +kernel
theorem dX11_moved_17 : decode cX11_moved 17 = .ok (.iload_n 2, 1) := by decide +kernel
theorem dX11_moved_18 : decode cX11_moved 18 = .ok (.iload 4, 2) := by decide +kernel
theorem dX11_moved_20 : decode cX11_moved 20 = .ok (.ishr, 1) := by decide +kernel
theorem dX11_moved_21 : decode cX11_moved 21 = .ok (.iconst 1, 1) := by decide +kernel
theorem dX11_moved_22 : decode cX11_moved 22 = .ok (.iand, 1) := by decide +kernel
theorem dX11_moved_23 : decode cX11_moved 23 = .ok (.iconst 1, 1) := by decide +kernel
theorem dX11_moved_24 : decode cX11_moved 24 = .ok (.if_icmp .ne 15, 3) := by decide +kernel
theorem dX11_moved_27 : decode cX11_moved 27 = .ok (.iconst 1, 1) := by decide +kernel
theorem dX11_moved_28 : decode cX11_moved 28 = .ok (.aload_n 0, 1) := by decide +kernel
theorem dX11_moved_29 : decode cX11_moved 29 = .ok (.iload_n 1, 1) := by decide +kernel
theorem dX11_moved_30 : decode cX11_moved 30 = .ok (.iload 4, 2) := by decide +kernel
theorem dX11_moved_32 : decode cX11_moved 32 = .ok (.invokevirtual 112, 3) := by decide +kernel
theorem dX11_moved_35 : decode cX11_moved 35 = .ok (.ishl, 1) := by decide +kernel
theorem dX11_moved_36 : decode cX11_moved 36 = .ok (.goto 4, 3) := by decide +kernel
theorem dX11_moved_39 : decode cX11_moved 39 = .ok (.iconst 0, 1) := by decide +kernel
theorem dX11_moved_40 : decode cX11_moved 40 = .ok (.ior, 1) := by decide +kernel
theorem dX11_moved_41 : decode cX11_moved 41 = .ok (.istore_n 3, 1) := by decide +kernel
theorem dX11_moved_42 : decode cX11_moved 42 = .ok (.iinc 4 1, 3) := by decide +kernel
theorem dX11_moved_45 : decode cX11_moved 45 = .ok (.goto (-40), 3) := by decide +kernel
theorem dX11_moved_48 : decode cX11_moved 48 = .ok (.iload_n 3, 1) := by decide +kernel
theorem dX11_moved_49 : decode cX11_moved 49 = .ok (.ireturn, 1) := by decide +kernel
theorem dX11_timesOf_0 : decode cX11_timesOf 0 = .ok (.iconst 1, 1) := by decide +kernel
theorem dX11_timesOf_1 : decode cX11_timesOf 1 = .ok (.istore_n 2, 1) := by decide +kernel
theorem dX11_timesOf_2 : decode cX11_timesOf 2 = .ok (.iconst 0, 1) := by decide +kernel
theorem dX11_timesOf_3 : decode cX11_timesOf 3 = .ok (.istore_n 3, 1) := by decide +kernel
theorem dX11_timesOf_4 : decode cX11_timesOf 4 = .ok (.iload_n 3, 1) := by decide +kernel
theorem dX11_timesOf_5 : decode cX11_timesOf 5 = .ok (.aload_n 0, 1) := by decide +kernel
theorem dX11_timesOf_6 : decode cX11_timesOf 6 = .ok (.getfield 11, 3) := by decide +kernel
theorem dX11_timesOf_9 : decode cX11_timesOf 9 = .ok (.iconst 0, 1) := by decide +kernel
theorem dX11_timesOf_10 : decode cX11_timesOf 10 = .ok (.iaload, 1) := by decide +kernel
theorem dX11_timesOf_11 : decode cX11_timesOf 11 = .ok (.if_icmp .ge 53, 3) := by decide +kernel
theorem dX11_timesOf_14 : decode cX11_timesOf 14 = .ok (.iconst 1, 1) := by decide +kernel
theorem dX11_timesOf_15 : decode cX11_timesOf 15 = .ok (.istore 4, 2) := by decide +kernel
theorem dX11_timesOf_17 : decode cX11_timesOf 17 = .ok (.aload_n 0, 1) := by decide +kernel
theorem dX11_timesOf_18 : decode cX11_timesOf 18 = .ok (.iload_n 1, 1) := by decide +kernel
theorem dX11_timesOf_19 : decode cX11_timesOf 19 = .ok (.iload_n 3, 1) := by decide +kernel
theorem dX11_timesOf_20 : decode cX11_timesOf 20 = .ok (.invokevirtual 112, 3) := by decide +kernel
theorem dX11_timesOf_23 : decode cX11_timesOf 23 = .ok (.istore 5, 2) := by decide +kernel
theorem dX11_timesOf_25 : decode cX11_timesOf 25 = .ok (.iload 5, 2) := by decide +kernel
theorem dX11_timesOf_27 : decode cX11_timesOf 27 = .ok (.iload_n 3, 1) := by decide +kernel
theorem dX11_timesOf_28 : decode cX11_timesOf 28 = .ok (.if_icmp .eq 18, 3) := by decide +kernel
theorem dX11_timesOf_31 : decode cX11_timesOf 31 = .ok (.iinc 4 1, 3) := by decide +kernel
theorem dX11_timesOf_34 : decode cX11_timesOf 34 = .ok (.aload_n 0, 1) := by decide +kernel
theorem dX11_timesOf_35 : decode cX11_timesOf 35 = .ok (.iload_n 1, 1) := by decide +kernel
theorem dX11_timesOf_36 : decode cX11_timesOf 36 = .ok (.iload 5, 2) := by decide +kernel
theorem dX11_timesOf_38 : decode cX11_timesOf 38 = .ok (.invokevirtual 112, 3) := by decide +kernel
theorem dX11_timesOf_41 : decode cX11_timesOf 41 = .ok (.istore 5, 2) := by decide +kernel
theorem dX11_timesOf_43 : decode cX11_timesOf 43 = .ok (.goto (-18), 3) := by decide +kernel
theorem dX11_timesOf_46 : decode cX11_timesOf 46 = .ok (.iload_n 2, 1) := by decide +kernel
theorem dX11_timesOf_47 : decode cX11_timesOf 47 = .ok (.iload_n 2, 1) := by decide +kernel
theorem dX11_timesOf_48 : decode cX11_timesOf 48 = .ok (.iload 4, 2) := by decide +kernel
theorem dX11_timesOf_50 : decode cX11_timesOf 50 = .ok (.invokestatic 93, 3) := by decide +kernel
theorem dX11_timesOf_53 : decode cX11_timesOf 53 = .ok (.idiv, 1) := by decide +kernel
theorem dX11_timesOf_54 : decode cX11_timesOf 54 = .ok (.iload 4, 2) := by decide +kernel
theorem dX11_timesOf_56 : decode cX11_timesOf 56 = .ok (.imul, 1) := by decide +kernel
theorem dX11_timesOf_57 : decode cX11_timesOf 57 = .ok (.istore_n 2, 1) := by decide +kernel
theorem dX11_timesOf_58 : decode cX11_timesOf 58 = .ok (.iinc 3 1, 3) := by decide +kernel
theorem dX11_timesOf_61 : decode cX11_timesOf 61 = .ok (.goto (-57), 3) := by decide +kernel
theorem dX11_timesOf_64 : decode cX11_timesOf 64 = .ok (.iload_n 2, 1) := by decide +kernel
theorem dX11_timesOf_65 : decode cX11_timesOf 65 = .ok (.ireturn, 1) := by decide +kernel
theorem dX11_holds_0 : decode cX11_holds 0 = .ok (.iconst 0, 1) := by decide +kernel
theorem dX11_holds_1 : decode cX11_holds 1 = .ok (.istore_n 2, 1) := by decide +kernel
theorem dX11_holds_2 : decode cX11_holds 2 = .ok (.iload_n 2, 1) := by decide +kernel
theorem dX11_holds_3 : decode cX11_holds 3 = .ok (.aload_n 0, 1) := by decide +kernel
theorem dX11_holds_4 : decode cX11_holds 4 = .ok (.invokevirtual 81, 3) := by decide +kernel
theorem dX11_holds_7 : decode cX11_holds 7 = .ok (.if_icmp .gt 38, 3) := by decide +kernel
theorem dX11_holds_10 : decode cX11_holds 10 = .ok (.aload_n 0, 1) := by decide +kernel
theorem dX11_holds_11 : decode cX11_holds 11 = .ok (.getfield 20, 3) := by decide +kernel
theorem dX11_holds_14 : decode cX11_holds 14 = .ok (.iconst 0, 1) := by decide +kernel
theorem dX11_holds_15 : decode cX11_holds 15 = .ok (.aaload, 1) := by decide +kernel
theorem dX11_holds_16 : decode cX11_holds 16 = .ok (.iload_n 2, 1) := by decide +kernel
theorem dX11_holds_17 : decode cX11_holds 17 = .ok (.baload, 1) := by decide +kernel
theorem dX11_holds_18 : decode cX11_holds 18 = .ok (.ifCond .eq 21, 3) := by decide +kernel
theorem dX11_holds_21 : decode cX11_holds 21 = .ok (.aload_n 0, 1) := by decide +kernel
theorem dX11_holds_22 : decode cX11_holds 22 = .ok (.getfield 20, 3) := by decide +kernel
theorem dX11_holds_25 : decode cX11_holds 25 = .ok (.iconst 0, 1) := by decide +kernel
theorem dX11_holds_26 : decode cX11_holds 26 = .ok (.aaload, 1) := by decide +kernel
theorem dX11_holds_27 : decode cX11_holds 27 = .ok (.aload_n 0, 1) := by decide +kernel
theorem dX11_holds_28 : decode cX11_holds 28 = .ok (.iload_n 1, 1) := by decide +kernel
theorem dX11_holds_29 : decode cX11_holds 29 = .ok (.iload_n 2, 1) := by decide +kernel
theorem dX11_holds_30 : decode cX11_holds 30 = .ok (.invokevirtual 115, 3) := by decide +kernel
theorem dX11_holds_33 : decode cX11_holds 33 = .ok (.baload, 1) := by decide +kernel
theorem dX11_holds_34 : decode cX11_holds 34 = .ok (.ifCond .ne 5, 3) := by decide +kernel
theorem dX11_holds_37 : decode cX11_holds 37 = .ok (.iconst 0, 1) := by decide +kernel
theorem dX11_holds_38 : decode cX11_holds 38 = .ok (.ireturn, 1) := by decide +kernel
theorem dX11_holds_39 : decode cX11_holds 39 = .ok (.iinc 2 1, 3) := by decide +kernel
theorem dX11_holds_42 : decode cX11_holds 42 = .ok (.goto (-40), 3) := by decide +kernel
theorem dX11_holds_45 : decode cX11_holds 45 = .ok (.iconst 1, 1) := by decide +kernel
theorem dX11_holds_46 : decode cX11_holds 46 = .ok (.ireturn, 1) := by decide +kernel
theorem dX11_wayOf_0 : decode cX11_wayOf 0 = .ok (.aload_n 0, 1) := by decide +kernel
theorem dX11_wayOf_1 : decode cX11_wayOf 1 = .ok (.iload_n 1, 1) := by decide +kernel
theorem dX11_wayOf_2 : decode cX11_wayOf 2 = .ok (.invokevirtual 109, 3) := by decide +kernel
theorem dX11_wayOf_5 : decode cX11_wayOf 5 = .ok (.ifCond .eq 15, 3) := by decide +kernel
theorem dX11_wayOf_8 : decode cX11_wayOf 8 = .ok (.iload_n 2, 1) := by decide +kernel
theorem dX11_wayOf_9 : decode cX11_wayOf 9 = .ok (.i2l, 1) := by decide +kernel
theorem dX11_wayOf_10 : decode cX11_wayOf 10 = .ok (.lconst 0, 1) := by decide +kernel
theorem dX11_wayOf_11 : decode cX11_wayOf 11 = .ok (.ldc2_w 89, 3) := by decide +kernel
theorem dX11_wayOf_14 : decode cX11_wayOf 14 = .ok (.invokestatic 85, 3) := by decide +kernel
theorem dX11_wayOf_17 : decode cX11_wayOf 17 = .ok (.ifCond .ne 5, 3) := by decide +kernel
theorem dX11_wayOf_20 : decode cX11_wayOf 20 = .ok (.iconst (-1), 1) := by decide +kernel
theorem dX11_wayOf_21 : decode cX11_wayOf 21 = .ok (.ireturn, 1) := by decide +kernel
theorem dX11_wayOf_22 : decode cX11_wayOf 22 = .ok (.iload_n 2, 1) := by decide +kernel
theorem dX11_wayOf_23 : decode cX11_wayOf 23 = .ok (.ifCond .ne 14, 3) := by decide +kernel
theorem dX11_wayOf_26 : decode cX11_wayOf 26 = .ok (.aload_n 0, 1) := by decide +kernel
theorem dX11_wayOf_27 : decode cX11_wayOf 27 = .ok (.getfield 11, 3) := by decide +kernel
theorem dX11_wayOf_30 : decode cX11_wayOf 30 = .ok (.iconst 2, 1) := by decide +kernel
theorem dX11_wayOf_31 : decode cX11_wayOf 31 = .ok (.iload_n 1, 1) := by decide +kernel
theorem dX11_wayOf_32 : decode cX11_wayOf 32 = .ok (.iadd, 1) := by decide +kernel
theorem dX11_wayOf_33 : decode cX11_wayOf 33 = .ok (.iaload, 1) := by decide +kernel
theorem dX11_wayOf_34 : decode cX11_wayOf 34 = .ok (.goto 46, 3) := by decide +kernel
theorem dX11_wayOf_37 : decode cX11_wayOf 37 = .ok (.iload_n 2, 1) := by decide +kernel
theorem dX11_wayOf_38 : decode cX11_wayOf 38 = .ok (.iconst 1, 1) := by decide +kernel
theorem dX11_wayOf_39 : decode cX11_wayOf 39 = .ok (.if_icmp .ne 15, 3) := by decide +kernel
theorem dX11_wayOf_42 : decode cX11_wayOf 42 = .ok (.aload_n 0, 1) := by decide +kernel
theorem dX11_wayOf_43 : decode cX11_wayOf 43 = .ok (.getfield 11, 3) := by decide +kernel
theorem dX11_wayOf_46 : decode cX11_wayOf 46 = .ok (.bipush 6, 2) := by decide +kernel
theorem dX11_wayOf_48 : decode cX11_wayOf 48 = .ok (.iload_n 1, 1) := by decide +kernel
theorem dX11_wayOf_49 : decode cX11_wayOf 49 = .ok (.iadd, 1) := by decide +kernel
theorem dX11_wayOf_50 : decode cX11_wayOf 50 = .ok (.iaload, 1) := by decide +kernel
theorem dX11_wayOf_51 : decode cX11_wayOf 51 = .ok (.goto 29, 3) := by decide +kernel
theorem dX11_wayOf_54 : decode cX11_wayOf 54 = .ok (.iload_n 2, 1) := by decide +kernel
theorem dX11_wayOf_55 : decode cX11_wayOf 55 = .ok (.iconst 2, 1) := by decide +kernel
theorem dX11_wayOf_56 : decode cX11_wayOf 56 = .ok (.if_icmp .ne 19, 3) := by decide +kernel
theorem dX11_wayOf_59 : decode cX11_wayOf 59 = .ok (.aload_n 0, 1) := by decide +kernel
theorem dX11_wayOf_60 : decode cX11_wayOf 60 = .ok (.iload_n 1, 1) := by decide +kernel
theorem dX11_wayOf_61 : decode cX11_wayOf 61 = .ok (.invokevirtual 118, 3) := by decide +kernel
theorem dX11_wayOf_64 : decode cX11_wayOf 64 = .ok (.ifCond .eq 7, 3) := by decide +kernel
theorem dX11_wayOf_67 : decode cX11_wayOf 67 = .ok (.iconst 1, 1) := by decide +kernel
theorem dX11_wayOf_68 : decode cX11_wayOf 68 = .ok (.goto 12, 3) := by decide +kernel
theorem dX11_wayOf_71 : decode cX11_wayOf 71 = .ok (.iconst 0, 1) := by decide +kernel
theorem dX11_wayOf_72 : decode cX11_wayOf 72 = .ok (.goto 8, 3) := by decide +kernel
theorem dX11_wayOf_75 : decode cX11_wayOf 75 = .ok (.aload_n 0, 1) := by decide +kernel
theorem dX11_wayOf_76 : decode cX11_wayOf 76 = .ok (.iload_n 1, 1) := by decide +kernel
theorem dX11_wayOf_77 : decode cX11_wayOf 77 = .ok (.invokevirtual 121, 3) := by decide +kernel
theorem dX11_wayOf_80 : decode cX11_wayOf 80 = .ok (.ireturn, 1) := by decide +kernel
theorem dX11_takes_0 : decode cX11_takes 0 = .ok (.aload_n 0, 1) := by decide +kernel
theorem dX11_takes_1 : decode cX11_takes 1 = .ok (.iload_n 1, 1) := by decide +kernel
theorem dX11_takes_2 : decode cX11_takes 2 = .ok (.invokevirtual 109, 3) := by decide +kernel
theorem dX11_takes_5 : decode cX11_takes 5 = .ok (.ifCond .eq 20, 3) := by decide +kernel
theorem dX11_takes_8 : decode cX11_takes 8 = .ok (.aload_n 0, 1) := by decide +kernel
theorem dX11_takes_9 : decode cX11_takes 9 = .ok (.iload_n 2, 1) := by decide +kernel
theorem dX11_takes_10 : decode cX11_takes 10 = .ok (.invokevirtual 105, 3) := by decide +kernel
theorem dX11_takes_13 : decode cX11_takes 13 = .ok (.ifCond .eq 12, 3) := by decide +kernel
theorem dX11_takes_16 : decode cX11_takes 16 = .ok (.aload_n 0, 1) := by decide +kernel
theorem dX11_takes_17 : decode cX11_takes 17 = .ok (.iload_n 1, 1) := by decide +kernel
theorem dX11_takes_18 : decode cX11_takes 18 = .ok (.iload_n 2, 1) := by decide +kernel
theorem dX11_takes_19 : decode cX11_takes 19 = .ok (.invokevirtual 112, 3) := by decide +kernel
theorem dX11_takes_22 : decode cX11_takes 22 = .ok (.goto 4, 3) := by decide +kernel
theorem dX11_takes_25 : decode cX11_takes 25 = .ok (.iconst (-1), 1) := by decide +kernel
theorem dX11_takes_26 : decode cX11_takes 26 = .ok (.ireturn, 1) := by decide +kernel
theorem dX11_moves_0 : decode cX11_moves 0 = .ok (.aload_n 0, 1) := by decide +kernel
theorem dX11_moves_1 : decode cX11_moves 1 = .ok (.iload_n 1, 1) := by decide +kernel
theorem dX11_moves_2 : decode cX11_moves 2 = .ok (.invokevirtual 109, 3) := by decide +kernel
theorem dX11_moves_5 : decode cX11_moves 5 = .ok (.ifCond .eq 20, 3) := by decide +kernel
theorem dX11_moves_8 : decode cX11_moves 8 = .ok (.aload_n 0, 1) := by decide +kernel
theorem dX11_moves_9 : decode cX11_moves 9 = .ok (.iload_n 2, 1) := by decide +kernel
theorem dX11_moves_10 : decode cX11_moves 10 = .ok (.invokevirtual 125, 3) := by decide +kernel
theorem dX11_moves_13 : decode cX11_moves 13 = .ok (.ifCond .eq 12, 3) := by decide +kernel
theorem dX11_moves_16 : decode cX11_moves 16 = .ok (.aload_n 0, 1) := by decide +kernel
theorem dX11_moves_17 : decode cX11_moves 17 = .ok (.iload_n 1, 1) := by decide +kernel
theorem dX11_moves_18 : decode cX11_moves 18 = .ok (.iload_n 2, 1) := by decide +kernel
theorem dX11_moves_19 : decode cX11_moves 19 = .ok (.invokevirtual 115, 3) := by decide +kernel
theorem dX11_moves_22 : decode cX11_moves 22 = .ok (.goto 4, 3) := by decide +kernel
theorem dX11_moves_25 : decode cX11_moves 25 = .ok (.iconst (-1), 1) := by decide +kernel
theorem dX11_moves_26 : decode cX11_moves 26 = .ok (.ireturn, 1) := by decide +kernel
theorem dX11_order_0 : decode cX11_order 0 = .ok (.iconst 1, 1) := by decide +kernel
theorem dX11_order_1 : decode cX11_order 1 = .ok (.istore_n 1, 1) := by decide +kernel
theorem dX11_order_2 : decode cX11_order 2 = .ok (.aload_n 0, 1) := by decide +kernel
theorem dX11_order_3 : decode cX11_order 3 = .ok (.getfield 29, 3) := by decide +kernel
theorem dX11_order_6 : decode cX11_order 6 = .ok (.iconst 0, 1) := by decide +kernel
theorem dX11_order_7 : decode cX11_order 7 = .ok (.iconst 0, 1) := by decide +kernel
theorem dX11_order_8 : decode cX11_order 8 = .ok (.iastore, 1) := by decide +kernel
theorem dX11_order_9 : decode cX11_order 9 = .ok (.iconst 0, 1) := by decide +kernel
theorem dX11_order_10 : decode cX11_order 10 = .ok (.istore_n 2, 1) := by decide +kernel
theorem dX11_order_11 : decode cX11_order 11 = .ok (.iload_n 2, 1) := by decide +kernel
theorem dX11_order_12 : decode cX11_order 12 = .ok (.aload_n 0, 1) := by decide +kernel
theorem dX11_order_13 : decode cX11_order 13 = .ok (.getfield 11, 3) := by decide +kernel
theorem dX11_order_16 : decode cX11_order 16 = .ok (.iconst 0, 1) := by decide +kernel
theorem dX11_order_17 : decode cX11_order 17 = .ok (.iaload, 1) := by decide +kernel
theorem dX11_order_18 : decode cX11_order 18 = .ok (.if_icmp .ge 23, 3) := by decide +kernel
theorem dX11_order_21 : decode cX11_order 21 = .ok (.aload_n 0, 1) := by decide +kernel
theorem dX11_order_22 : decode cX11_order 22 = .ok (.getfield 29, 3) := by decide +kernel
theorem dX11_order_25 : decode cX11_order 25 = .ok (.iconst 0, 1) := by decide +kernel
theorem dX11_order_26 : decode cX11_order 26 = .ok (.dup2, 1) := by decide +kernel
theorem dX11_order_27 : decode cX11_order 27 = .ok (.iaload, 1) := by decide +kernel
theorem dX11_order_28 : decode cX11_order 28 = .ok (.iload_n 2, 1) := by decide +kernel
theorem dX11_order_29 : decode cX11_order 29 = .ok (.iconst 3, 1) := by decide +kernel
theorem dX11_order_30 : decode cX11_order 30 = .ok (.iload_n 2, 1) := by decide +kernel
theorem dX11_order_31 : decode cX11_order 31 = .ok (.imul, 1) := by decide +kernel
theorem dX11_order_32 : decode cX11_order 32 = .ok (.ishl, 1) := by decide +kernel
theorem dX11_order_33 : decode cX11_order 33 = .ok (.ior, 1) := by decide +kernel
theorem dX11_order_34 : decode cX11_order 34 = .ok (.iastore, 1) := by decide +kernel
theorem dX11_order_35 : decode cX11_order 35 = .ok (.iinc 2 1, 3) := by decide +kernel
theorem dX11_order_38 : decode cX11_order 38 = .ok (.goto (-27), 3) := by decide +kernel
theorem dX11_order_41 : decode cX11_order 41 = .ok (.iconst 0, 1) := by decide +kernel
theorem dX11_order_42 : decode cX11_order 42 = .ok (.istore_n 2, 1) := by decide +kernel
theorem dX11_order_43 : decode cX11_order 43 = .ok (.iload_n 2, 1) := by decide +kernel
theorem dX11_order_44 : decode cX11_order 44 = .ok (.iload_n 1, 1) := by decide +kernel
theorem dX11_order_45 : decode cX11_order 45 = .ok (.if_icmp .ge 134, 3) := by decide +kernel
theorem dX11_order_48 : decode cX11_order 48 = .ok (.iconst 0, 1) := by decide +kernel
theorem dX11_order_49 : decode cX11_order 49 = .ok (.istore_n 3, 1) := by decide +kernel
theorem dX11_order_50 : decode cX11_order 50 = .ok (.iload_n 3, 1) := by decide +kernel
theorem dX11_order_51 : decode cX11_order 51 = .ok (.aload_n 0, 1) := by decide +kernel
theorem dX11_order_52 : decode cX11_order 52 = .ok (.getfield 11, 3) := by decide +kernel
theorem dX11_order_55 : decode cX11_order 55 = .ok (.iconst 1, 1) := by decide +kernel
theorem dX11_order_56 : decode cX11_order 56 = .ok (.iaload, 1) := by decide +kernel
theorem dX11_order_57 : decode cX11_order 57 = .ok (.if_icmp .ge 116, 3) := by decide +kernel
theorem dX11_order_60 : decode cX11_order 60 = .ok (.iconst 0, 1) := by decide +kernel
theorem dX11_order_61 : decode cX11_order 61 = .ok (.istore 4, 2) := by decide +kernel
theorem dX11_order_63 : decode cX11_order 63 = .ok (.iconst 0, 1) := by decide +kernel
theorem dX11_order_64 : decode cX11_order 64 = .ok (.istore 5, 2) := by decide +kernel
theorem dX11_order_66 : decode cX11_order 66 = .ok (.iload 5, 2) := by decide +kernel
theorem dX11_order_68 : decode cX11_order 68 = .ok (.aload_n 0, 1) := by decide +kernel
theorem dX11_order_69 : decode cX11_order 69 = .ok (.getfield 11, 3) := by decide +kernel
theorem dX11_order_72 : decode cX11_order 72 = .ok (.iconst 0, 1) := by decide +kernel
theorem dX11_order_73 : decode cX11_order 73 = .ok (.iaload, 1) := by decide +kernel
theorem dX11_order_74 : decode cX11_order 74 = .ok (.if_icmp .ge 38, 3) := by decide +kernel
theorem dX11_order_77 : decode cX11_order 77 = .ok (.iload 4, 2) := by decide +kernel
theorem dX11_order_79 : decode cX11_order 79 = .ok (.aload_n 0, 1) := by decide +kernel
theorem dX11_order_80 : decode cX11_order 80 = .ok (.iload_n 3, 1) := by decide +kernel
theorem dX11_order_81 : decode cX11_order 81 = .ok (.aload_n 0, 1) := by decide +kernel
theorem dX11_order_82 : decode cX11_order 82 = .ok (.getfield 29, 3) := by decide +kernel
theorem dX11_order_85 : decode cX11_order 85 = .ok (.iload_n 2, 1) := by decide +kernel
theorem dX11_order_86 : decode cX11_order 86 = .ok (.iaload, 1) := by decide +kernel
theorem dX11_order_87 : decode cX11_order 87 = .ok (.iconst 3, 1) := by decide +kernel
theorem dX11_order_88 : decode cX11_order 88 = .ok (.iload 5, 2) := by decide +kernel
theorem dX11_order_90 : decode cX11_order 90 = .ok (.imul, 1) := by decide +kernel
theorem dX11_order_91 : decode cX11_order 91 = .ok (.ishr, 1) := by decide +kernel
theorem dX11_order_92 : decode cX11_order 92 = .ok (.bipush 7, 2) := by decide +kernel
theorem dX11_order_94 : decode cX11_order 94 = .ok (.iand, 1) := by decide +kernel
theorem dX11_order_95 : decode cX11_order 95 = .ok (.invokevirtual 112, 3) := by decide +kernel
theorem dX11_order_98 : decode cX11_order 98 = .ok (.iconst 3, 1) := by decide +kernel
theorem dX11_order_99 : decode cX11_order 99 = .ok (.iload 5, 2) := by decide +kernel
theorem dX11_order_101 : decode cX11_order 101 = .ok (.imul, 1) := by decide +kernel
theorem dX11_order_102 : decode cX11_order 102 = .ok (.ishl, 1) := by decide +kernel
theorem dX11_order_103 : decode cX11_order 103 = .ok (.ior, 1) := by decide +kernel
theorem dX11_order_104 : decode cX11_order 104 = .ok (.istore 4, 2) := by decide +kernel
theorem dX11_order_106 : decode cX11_order 106 = .ok (.iinc 5 1, 3) := by decide +kernel
theorem dX11_order_109 : decode cX11_order 109 = .ok (.goto (-43), 3) := by decide +kernel
theorem dX11_order_112 : decode cX11_order 112 = .ok (.iconst 0, 1) := by decide +kernel
theorem dX11_order_113 : decode cX11_order 113 = .ok (.istore 5, 2) := by decide +kernel
theorem dX11_order_115 : decode cX11_order 115 = .ok (.iload 5, 2) := by decide +kernel
theorem dX11_order_117 : decode cX11_order 117 = .ok (.iload_n 1, 1) := by decide +kernel
theorem dX11_order_118 : decode cX11_order 118 = .ok (.if_icmp .ge 21, 3) := by decide +kernel
theorem dX11_order_121 : decode cX11_order 121 = .ok (.aload_n 0, 1) := by decide +kernel
theorem dX11_order_122 : decode cX11_order 122 = .ok (.getfield 29, 3) := by decide +kernel
theorem dX11_order_125 : decode cX11_order 125 = .ok (.iload 5, 2) := by decide +kernel
theorem dX11_order_127 : decode cX11_order 127 = .ok (.iaload, 1) := by decide +kernel
theorem dX11_order_128 : decode cX11_order 128 = .ok (.iload 4, 2) := by decide +kernel
theorem dX11_order_130 : decode cX11_order 130 = .ok (.if_icmp .eq 9, 3) := by decide +kernel
theorem dX11_order_133 : decode cX11_order 133 = .ok (.iinc 5 1, 3) := by decide +kernel
theorem dX11_order_136 : decode cX11_order 136 = .ok (.goto (-21), 3) := by decide +kernel
theorem dX11_order_139 : decode cX11_order 139 = .ok (.iload 5, 2) := by decide +kernel
theorem dX11_order_141 : decode cX11_order 141 = .ok (.iload_n 1, 1) := by decide +kernel
theorem dX11_order_142 : decode cX11_order 142 = .ok (.if_icmp .ne 25, 3) := by decide +kernel
theorem dX11_order_145 : decode cX11_order 145 = .ok (.iload_n 1, 1) := by decide +kernel
theorem dX11_order_146 : decode cX11_order 146 = .ok (.sipush 500, 3) := by decide +kernel
theorem dX11_order_149 : decode cX11_order 149 = .ok (.if_icmp .ne 7, 3) := by decide +kernel
theorem dX11_order_152 : decode cX11_order 152 = .ok (.sipush 500, 3) := by decide +kernel
theorem dX11_order_155 : decode cX11_order 155 = .ok (.ireturn, 1) := by decide +kernel
theorem dX11_order_156 : decode cX11_order 156 = .ok (.aload_n 0, 1) := by decide +kernel
theorem dX11_order_157 : decode cX11_order 157 = .ok (.getfield 29, 3) := by decide +kernel
theorem dX11_order_160 : decode cX11_order 160 = .ok (.iload_n 1, 1) := by decide +kernel
theorem dX11_order_161 : decode cX11_order 161 = .ok (.iload 4, 2) := by decide +kernel
theorem dX11_order_163 : decode cX11_order 163 = .ok (.iastore, 1) := by decide +kernel
theorem dX11_order_164 : decode cX11_order 164 = .ok (.iinc 1 1, 3) := by decide +kernel
theorem dX11_order_167 : decode cX11_order 167 = .ok (.iinc 3 1, 3) := by decide +kernel
theorem dX11_order_170 : decode cX11_order 170 = .ok (.goto (-120), 3) := by decide +kernel
theorem dX11_order_173 : decode cX11_order 173 = .ok (.iinc 2 1, 3) := by decide +kernel
theorem dX11_order_176 : decode cX11_order 176 = .ok (.goto (-133), 3) := by decide +kernel
theorem dX11_order_179 : decode cX11_order 179 = .ok (.iload_n 1, 1) := by decide +kernel
theorem dX11_order_180 : decode cX11_order 180 = .ok (.ireturn, 1) := by decide +kernel
theorem dX11_finds_0 : decode cX11_finds 0 = .ok (.iconst 0, 1) := by decide +kernel
theorem dX11_finds_1 : decode cX11_finds 1 = .ok (.istore_n 1, 1) := by decide +kernel
theorem dX11_finds_2 : decode cX11_finds 2 = .ok (.iload_n 1, 1) := by decide +kernel
theorem dX11_finds_3 : decode cX11_finds 3 = .ok (.aload_n 0, 1) := by decide +kernel
theorem dX11_finds_4 : decode cX11_finds 4 = .ok (.invokevirtual 81, 3) := by decide +kernel
theorem dX11_finds_7 : decode cX11_finds 7 = .ok (.if_icmp .gt 16, 3) := by decide +kernel
theorem dX11_finds_10 : decode cX11_finds 10 = .ok (.aload_n 0, 1) := by decide +kernel
theorem dX11_finds_11 : decode cX11_finds 11 = .ok (.getfield 32, 3) := by decide +kernel
theorem dX11_finds_14 : decode cX11_finds 14 = .ok (.iload_n 1, 1) := by decide +kernel
theorem dX11_finds_15 : decode cX11_finds 15 = .ok (.iconst (-1), 1) := by decide +kernel
theorem dX11_finds_16 : decode cX11_finds 16 = .ok (.iastore, 1) := by decide +kernel
theorem dX11_finds_17 : decode cX11_finds 17 = .ok (.iinc 1 1, 3) := by decide +kernel
theorem dX11_finds_20 : decode cX11_finds 20 = .ok (.goto (-18), 3) := by decide +kernel
theorem dX11_finds_23 : decode cX11_finds 23 = .ok (.iconst 0, 1) := by decide +kernel
theorem dX11_finds_24 : decode cX11_finds 24 = .ok (.istore_n 1, 1) := by decide +kernel
theorem dX11_finds_25 : decode cX11_finds 25 = .ok (.iload_n 1, 1) := by decide +kernel
theorem dX11_finds_26 : decode cX11_finds 26 = .ok (.aload_n 0, 1) := by decide +kernel
theorem dX11_finds_27 : decode cX11_finds 27 = .ok (.getfield 11, 3) := by decide +kernel
theorem dX11_finds_30 : decode cX11_finds 30 = .ok (.iconst 0, 1) := by decide +kernel
theorem dX11_finds_31 : decode cX11_finds 31 = .ok (.iaload, 1) := by decide +kernel
theorem dX11_finds_32 : decode cX11_finds 32 = .ok (.if_icmp .gt 16, 3) := by decide +kernel
theorem dX11_finds_35 : decode cX11_finds 35 = .ok (.aload_n 0, 1) := by decide +kernel
theorem dX11_finds_36 : decode cX11_finds 36 = .ok (.getfield 35, 3) := by decide +kernel
theorem dX11_finds_39 : decode cX11_finds 39 = .ok (.iload_n 1, 1) := by decide +kernel
theorem dX11_finds_40 : decode cX11_finds 40 = .ok (.iconst 0, 1) := by decide +kernel
theorem dX11_finds_41 : decode cX11_finds 41 = .ok (.iastore, 1) := by decide +kernel
theorem dX11_finds_42 : decode cX11_finds 42 = .ok (.iinc 1 1, 3) := by decide +kernel
theorem dX11_finds_45 : decode cX11_finds 45 = .ok (.goto (-20), 3) := by decide +kernel
theorem dX11_finds_48 : decode cX11_finds 48 = .ok (.iconst 0, 1) := by decide +kernel
theorem dX11_finds_49 : decode cX11_finds 49 = .ok (.istore_n 1, 1) := by decide +kernel
theorem dX11_finds_50 : decode cX11_finds 50 = .ok (.iload_n 1, 1) := by decide +kernel
theorem dX11_finds_51 : decode cX11_finds 51 = .ok (.aload_n 0, 1) := by decide +kernel
theorem dX11_finds_52 : decode cX11_finds 52 = .ok (.invokevirtual 81, 3) := by decide +kernel
theorem dX11_finds_55 : decode cX11_finds 55 = .ok (.if_icmp .gt 136, 3) := by decide +kernel
theorem dX11_finds_58 : decode cX11_finds 58 = .ok (.aload_n 0, 1) := by decide +kernel
theorem dX11_finds_59 : decode cX11_finds 59 = .ok (.getfield 32, 3) := by decide +kernel
theorem dX11_finds_62 : decode cX11_finds 62 = .ok (.iload_n 1, 1) := by decide +kernel
theorem dX11_finds_63 : decode cX11_finds 63 = .ok (.iaload, 1) := by decide +kernel
theorem dX11_finds_64 : decode cX11_finds 64 = .ok (.ifCond .ge 121, 3) := by decide +kernel
theorem dX11_finds_67 : decode cX11_finds 67 = .ok (.aload_n 0, 1) := by decide +kernel
theorem dX11_finds_68 : decode cX11_finds 68 = .ok (.getfield 35, 3) := by decide +kernel
theorem dX11_finds_71 : decode cX11_finds 71 = .ok (.iload_n 1, 1) := by decide +kernel
theorem dX11_finds_72 : decode cX11_finds 72 = .ok (.invokestatic 128, 3) := by decide +kernel
theorem dX11_finds_75 : decode cX11_finds 75 = .ok (.iaload, 1) := by decide +kernel
theorem dX11_finds_76 : decode cX11_finds 76 = .ok (.istore_n 2, 1) := by decide +kernel
theorem dX11_finds_77 : decode cX11_finds 77 = .ok (.aload_n 0, 1) := by decide +kernel
theorem dX11_finds_78 : decode cX11_finds 78 = .ok (.getfield 35, 3) := by decide +kernel
theorem dX11_finds_81 : decode cX11_finds 81 = .ok (.iload_n 1, 1) := by decide +kernel
theorem dX11_finds_82 : decode cX11_finds 82 = .ok (.invokestatic 128, 3) := by decide +kernel
theorem dX11_finds_85 : decode cX11_finds 85 = .ok (.dup2, 1) := by decide +kernel
theorem dX11_finds_86 : decode cX11_finds 86 = .ok (.iaload, 1) := by decide +kernel
theorem dX11_finds_87 : decode cX11_finds 87 = .ok (.iconst 1, 1) := by decide +kernel
theorem dX11_finds_88 : decode cX11_finds 88 = .ok (.iadd, 1) := by decide +kernel
theorem dX11_finds_89 : decode cX11_finds 89 = .ok (.iastore, 1) := by decide +kernel
theorem dX11_finds_90 : decode cX11_finds 90 = .ok (.aload_n 0, 1) := by decide +kernel
theorem dX11_finds_91 : decode cX11_finds 91 = .ok (.getfield 32, 3) := by decide +kernel
theorem dX11_finds_94 : decode cX11_finds 94 = .ok (.iload_n 1, 1) := by decide +kernel
theorem dX11_finds_95 : decode cX11_finds 95 = .ok (.iload_n 2, 1) := by decide +kernel
theorem dX11_finds_96 : decode cX11_finds 96 = .ok (.iastore, 1) := by decide +kernel
theorem dX11_finds_97 : decode cX11_finds 97 = .ok (.aload_n 0, 1) := by decide +kernel
theorem dX11_finds_98 : decode cX11_finds 98 = .ok (.getfield 38, 3) := by decide +kernel
theorem dX11_finds_101 : decode cX11_finds 101 = .ok (.iconst 0, 1) := by decide +kernel
theorem dX11_finds_102 : decode cX11_finds 102 = .ok (.iload_n 1, 1) := by decide +kernel
theorem dX11_finds_103 : decode cX11_finds 103 = .ok (.iastore, 1) := by decide +kernel
theorem dX11_finds_104 : decode cX11_finds 104 = .ok (.iconst 1, 1) := by decide +kernel
theorem dX11_finds_105 : decode cX11_finds 105 = .ok (.istore_n 3, 1) := by decide +kernel
theorem dX11_finds_106 : decode cX11_finds 106 = .ok (.iconst 0, 1) := by decide +kernel
theorem dX11_finds_107 : decode cX11_finds 107 = .ok (.istore 4, 2) := by decide +kernel
theorem dX11_finds_109 : decode cX11_finds 109 = .ok (.iload 4, 2) := by decide +kernel
theorem dX11_finds_111 : decode cX11_finds 111 = .ok (.iload_n 3, 1) := by decide +kernel
theorem dX11_finds_112 : decode cX11_finds 112 = .ok (.if_icmp .ge 73, 3) := by decide +kernel
theorem dX11_finds_115 : decode cX11_finds 115 = .ok (.iconst 0, 1) := by decide +kernel
theorem dX11_finds_116 : decode cX11_finds 116 = .ok (.istore 5, 2) := by decide +kernel
theorem dX11_finds_118 : decode cX11_finds 118 = .ok (.iload 5, 2) := by decide +kernel
theorem dX11_finds_120 : decode cX11_finds 120 = .ok (.aload_n 0, 1) := by decide +kernel
theorem dX11_finds_121 : decode cX11_finds 121 = .ok (.getfield 11, 3) := by decide +kernel
theorem dX11_finds_124 : decode cX11_finds 124 = .ok (.iconst 1, 1) := by decide +kernel
theorem dX11_finds_125 : decode cX11_finds 125 = .ok (.iaload, 1) := by decide +kernel
theorem dX11_finds_126 : decode cX11_finds 126 = .ok (.if_icmp .ge 53, 3) := by decide +kernel
theorem dX11_finds_129 : decode cX11_finds 129 = .ok (.aload_n 0, 1) := by decide +kernel
theorem dX11_finds_130 : decode cX11_finds 130 = .ok (.iload 5, 2) := by decide +kernel
theorem dX11_finds_132 : decode cX11_finds 132 = .ok (.aload_n 0, 1) := by decide +kernel
theorem dX11_finds_133 : decode cX11_finds 133 = .ok (.getfield 38, 3) := by decide +kernel
theorem dX11_finds_136 : decode cX11_finds 136 = .ok (.iload 4, 2) := by decide +kernel
theorem dX11_finds_138 : decode cX11_finds 138 = .ok (.iaload, 1) := by decide +kernel
theorem dX11_finds_139 : decode cX11_finds 139 = .ok (.invokevirtual 115, 3) := by decide +kernel
theorem dX11_finds_142 : decode cX11_finds 142 = .ok (.istore 6, 2) := by decide +kernel
theorem dX11_finds_144 : decode cX11_finds 144 = .ok (.aload_n 0, 1) := by decide +kernel
theorem dX11_finds_145 : decode cX11_finds 145 = .ok (.getfield 32, 3) := by decide +kernel
theorem dX11_finds_148 : decode cX11_finds 148 = .ok (.iload 6, 2) := by decide +kernel
theorem dX11_finds_150 : decode cX11_finds 150 = .ok (.iaload, 1) := by decide +kernel
theorem dX11_finds_151 : decode cX11_finds 151 = .ok (.ifCond .ge 22, 3) := by decide +kernel
theorem dX11_finds_154 : decode cX11_finds 154 = .ok (.aload_n 0, 1) := by decide +kernel
theorem dX11_finds_155 : decode cX11_finds 155 = .ok (.getfield 32, 3) := by decide +kernel
theorem dX11_finds_158 : decode cX11_finds 158 = .ok (.iload 6, 2) := by decide +kernel
theorem dX11_finds_160 : decode cX11_finds 160 = .ok (.iload_n 2, 1) := by decide +kernel
theorem dX11_finds_161 : decode cX11_finds 161 = .ok (.iastore, 1) := by decide +kernel
theorem dX11_finds_162 : decode cX11_finds 162 = .ok (.aload_n 0, 1) := by decide +kernel
theorem dX11_finds_163 : decode cX11_finds 163 = .ok (.getfield 38, 3) := by decide +kernel
theorem dX11_finds_166 : decode cX11_finds 166 = .ok (.iload_n 3, 1) := by decide +kernel
theorem dX11_finds_167 : decode cX11_finds 167 = .ok (.iload 6, 2) := by decide +kernel
theorem dX11_finds_169 : decode cX11_finds 169 = .ok (.iastore, 1) := by decide +kernel
theorem dX11_finds_170 : decode cX11_finds 170 = .ok (.iinc 3 1, 3) := by decide +kernel
theorem dX11_finds_173 : decode cX11_finds 173 = .ok (.iinc 5 1, 3) := by decide +kernel
theorem dX11_finds_176 : decode cX11_finds 176 = .ok (.goto (-58), 3) := by decide +kernel
theorem dX11_finds_179 : decode cX11_finds 179 = .ok (.iinc 4 1, 3) := by decide +kernel
theorem dX11_finds_182 : decode cX11_finds 182 = .ok (.goto (-73), 3) := by decide +kernel
theorem dX11_finds_185 : decode cX11_finds 185 = .ok (.iinc 1 1, 3) := by decide +kernel
theorem dX11_finds_188 : decode cX11_finds 188 = .ok (.goto (-138), 3) := by decide +kernel
theorem dX11_finds_191 : decode cX11_finds 191 = .ok (.return_, 1) := by decide +kernel
theorem dX11_isSize_0 : decode cX11_isSize 0 = .ok (.iload_n 1, 1) := by decide +kernel
theorem dX11_isSize_1 : decode cX11_isSize 1 = .ok (.i2l, 1) := by decide +kernel
theorem dX11_isSize_2 : decode cX11_isSize 2 = .ok (.lconst 0, 1) := by decide +kernel
theorem dX11_isSize_3 : decode cX11_isSize 3 = .ok (.aload_n 0, 1) := by decide +kernel
theorem dX11_isSize_4 : decode cX11_isSize 4 = .ok (.getfield 11, 3) := by decide +kernel
theorem dX11_isSize_7 : decode cX11_isSize 7 = .ok (.iconst 0, 1) := by decide +kernel
theorem dX11_isSize_8 : decode cX11_isSize 8 = .ok (.iaload, 1) := by decide +kernel
theorem dX11_isSize_9 : decode cX11_isSize 9 = .ok (.i2l, 1) := by decide +kernel
theorem dX11_isSize_10 : decode cX11_isSize 10 = .ok (.invokestatic 85, 3) := by decide +kernel
theorem dX11_isSize_13 : decode cX11_isSize 13 = .ok (.ireturn, 1) := by decide +kernel
theorem dX11_orbits_0 : decode cX11_orbits 0 = .ok (.aload_n 0, 1) := by decide +kernel
theorem dX11_orbits_1 : decode cX11_orbits 1 = .ok (.iload_n 1, 1) := by decide +kernel
theorem dX11_orbits_2 : decode cX11_orbits 2 = .ok (.invokevirtual 131, 3) := by decide +kernel
theorem dX11_orbits_5 : decode cX11_orbits 5 = .ok (.ifCond .ne 6, 3) := by decide +kernel
theorem dX11_orbits_8 : decode cX11_orbits 8 = .ok (.bipush (-2), 2) := by decide +kernel
theorem dX11_orbits_10 : decode cX11_orbits 10 = .ok (.ireturn, 1) := by decide +kernel
theorem dX11_orbits_11 : decode cX11_orbits 11 = .ok (.aload_n 0, 1) := by decide +kernel
theorem dX11_orbits_12 : decode cX11_orbits 12 = .ok (.invokevirtual 134, 3) := by decide +kernel
theorem dX11_orbits_15 : decode cX11_orbits 15 = .ok (.aload_n 0, 1) := by decide +kernel
theorem dX11_orbits_16 : decode cX11_orbits 16 = .ok (.getfield 35, 3) := by decide +kernel
theorem dX11_orbits_19 : decode cX11_orbits 19 = .ok (.iload_n 1, 1) := by decide +kernel
theorem dX11_orbits_20 : decode cX11_orbits 20 = .ok (.iaload, 1) := by decide +kernel
theorem dX11_orbits_21 : decode cX11_orbits 21 = .ok (.ireturn, 1) := by decide +kernel
theorem dX11_isIn_0 : decode cX11_isIn 0 = .ok (.iload_n 1, 1) := by decide +kernel
theorem dX11_isIn_1 : decode cX11_isIn 1 = .ok (.invokestatic 128, 3) := by decide +kernel
theorem dX11_isIn_4 : decode cX11_isIn 4 = .ok (.iload_n 2, 1) := by decide +kernel
theorem dX11_isIn_5 : decode cX11_isIn 5 = .ok (.if_icmp .ne 17, 3) := by decide +kernel
theorem dX11_isIn_8 : decode cX11_isIn 8 = .ok (.aload_n 0, 1) := by decide +kernel
theorem dX11_isIn_9 : decode cX11_isIn 9 = .ok (.getfield 32, 3) := by decide +kernel
theorem dX11_isIn_12 : decode cX11_isIn 12 = .ok (.iload_n 1, 1) := by decide +kernel
theorem dX11_isIn_13 : decode cX11_isIn 13 = .ok (.iaload, 1) := by decide +kernel
theorem dX11_isIn_14 : decode cX11_isIn 14 = .ok (.iload_n 3, 1) := by decide +kernel
theorem dX11_isIn_15 : decode cX11_isIn 15 = .ok (.if_icmp .ne 7, 3) := by decide +kernel
theorem dX11_isIn_18 : decode cX11_isIn 18 = .ok (.iconst 1, 1) := by decide +kernel
end
section
theorem dX11_isIn_19 : decode cX11_isIn 19 = .ok (.goto 4, 3) := by decide +kernel
theorem dX11_isIn_22 : decode cX11_isIn 22 = .ok (.iconst 0, 1) := by decide +kernel
theorem dX11_isIn_23 : decode cX11_isIn 23 = .ok (.ireturn, 1) := by decide +kernel
theorem dX11_least_0 : decode cX11_least 0 = .ok (.iconst 0, 1) := by decide +kernel
theorem dX11_least_1 : decode cX11_least 1 = .ok (.istore_n 3, 1) := by decide +kernel
theorem dX11_least_2 : decode cX11_least 2 = .ok (.aload_n 0, 1) := by decide +kernel
theorem dX11_least_3 : decode cX11_least 3 = .ok (.iload_n 3, 1) := by decide +kernel
theorem dX11_least_4 : decode cX11_least 4 = .ok (.iload_n 1, 1) := by decide +kernel
theorem dX11_least_5 : decode cX11_least 5 = .ok (.iload_n 2, 1) := by decide +kernel
theorem dX11_least_6 : decode cX11_least 6 = .ok (.invokevirtual 137, 3) := by decide +kernel
theorem dX11_least_9 : decode cX11_least 9 = .ok (.ifCond .ne 9, 3) := by decide +kernel
theorem dX11_least_12 : decode cX11_least 12 = .ok (.iinc 3 1, 3) := by decide +kernel
theorem dX11_least_15 : decode cX11_least 15 = .ok (.goto (-13), 3) := by decide +kernel
theorem dX11_least_18 : decode cX11_least 18 = .ok (.iload_n 3, 1) := by decide +kernel
theorem dX11_least_19 : decode cX11_least 19 = .ok (.ireturn, 1) := by decide +kernel
theorem dX11_orbit_0 : decode cX11_orbit 0 = .ok (.aload_n 0, 1) := by decide +kernel
theorem dX11_orbit_1 : decode cX11_orbit 1 = .ok (.iload_n 1, 1) := by decide +kernel
theorem dX11_orbit_2 : decode cX11_orbit 2 = .ok (.invokevirtual 131, 3) := by decide +kernel
theorem dX11_orbit_5 : decode cX11_orbit 5 = .ok (.ifCond .ne 6, 3) := by decide +kernel
theorem dX11_orbit_8 : decode cX11_orbit 8 = .ok (.bipush (-2), 2) := by decide +kernel
theorem dX11_orbit_10 : decode cX11_orbit 10 = .ok (.ireturn, 1) := by decide +kernel
theorem dX11_orbit_11 : decode cX11_orbit 11 = .ok (.aload_n 0, 1) := by decide +kernel
theorem dX11_orbit_12 : decode cX11_orbit 12 = .ok (.invokevirtual 134, 3) := by decide +kernel
theorem dX11_orbit_15 : decode cX11_orbit 15 = .ok (.iload_n 2, 1) := by decide +kernel
theorem dX11_orbit_16 : decode cX11_orbit 16 = .ok (.i2l, 1) := by decide +kernel
theorem dX11_orbit_17 : decode cX11_orbit 17 = .ok (.lconst 0, 1) := by decide +kernel
theorem dX11_orbit_18 : decode cX11_orbit 18 = .ok (.aload_n 0, 1) := by decide +kernel
theorem dX11_orbit_19 : decode cX11_orbit 19 = .ok (.getfield 35, 3) := by decide +kernel
theorem dX11_orbit_22 : decode cX11_orbit 22 = .ok (.iload_n 1, 1) := by decide +kernel
theorem dX11_orbit_23 : decode cX11_orbit 23 = .ok (.iaload, 1) := by decide +kernel
theorem dX11_orbit_24 : decode cX11_orbit 24 = .ok (.iconst 1, 1) := by decide +kernel
theorem dX11_orbit_25 : decode cX11_orbit 25 = .ok (.isub, 1) := by decide +kernel
theorem dX11_orbit_26 : decode cX11_orbit 26 = .ok (.i2l, 1) := by decide +kernel
theorem dX11_orbit_27 : decode cX11_orbit 27 = .ok (.invokestatic 85, 3) := by decide +kernel
theorem dX11_orbit_30 : decode cX11_orbit 30 = .ok (.ifCond .eq 15, 3) := by decide +kernel
theorem dX11_orbit_33 : decode cX11_orbit 33 = .ok (.iload_n 3, 1) := by decide +kernel
theorem dX11_orbit_34 : decode cX11_orbit 34 = .ok (.i2l, 1) := by decide +kernel
theorem dX11_orbit_35 : decode cX11_orbit 35 = .ok (.lconst 0, 1) := by decide +kernel
theorem dX11_orbit_36 : decode cX11_orbit 36 = .ok (.ldc2_w 141, 3) := by decide +kernel
theorem dX11_orbit_39 : decode cX11_orbit 39 = .ok (.invokestatic 85, 3) := by decide +kernel
theorem dX11_orbit_42 : decode cX11_orbit 42 = .ok (.ifCond .ne 5, 3) := by decide +kernel
theorem dX11_orbit_45 : decode cX11_orbit 45 = .ok (.iconst (-1), 1) := by decide +kernel
theorem dX11_orbit_46 : decode cX11_orbit 46 = .ok (.ireturn, 1) := by decide +kernel
theorem dX11_orbit_47 : decode cX11_orbit 47 = .ok (.iconst 0, 1) := by decide +kernel
theorem dX11_orbit_48 : decode cX11_orbit 48 = .ok (.istore 4, 2) := by decide +kernel
theorem dX11_orbit_50 : decode cX11_orbit 50 = .ok (.iconst 0, 1) := by decide +kernel
theorem dX11_orbit_51 : decode cX11_orbit 51 = .ok (.istore 5, 2) := by decide +kernel
theorem dX11_orbit_53 : decode cX11_orbit 53 = .ok (.iconst 0, 1) := by decide +kernel
theorem dX11_orbit_54 : decode cX11_orbit 54 = .ok (.istore 6, 2) := by decide +kernel
theorem dX11_orbit_56 : decode cX11_orbit 56 = .ok (.iload 6, 2) := by decide +kernel
theorem dX11_orbit_58 : decode cX11_orbit 58 = .ok (.aload_n 0, 1) := by decide +kernel
theorem dX11_orbit_59 : decode cX11_orbit 59 = .ok (.invokevirtual 81, 3) := by decide +kernel
theorem dX11_orbit_62 : decode cX11_orbit 62 = .ok (.if_icmp .gt 27, 3) := by decide +kernel
theorem dX11_orbit_65 : decode cX11_orbit 65 = .ok (.aload_n 0, 1) := by decide +kernel
theorem dX11_orbit_66 : decode cX11_orbit 66 = .ok (.iload 6, 2) := by decide +kernel
theorem dX11_orbit_68 : decode cX11_orbit 68 = .ok (.iload_n 1, 1) := by decide +kernel
theorem dX11_orbit_69 : decode cX11_orbit 69 = .ok (.iload_n 2, 1) := by decide +kernel
theorem dX11_orbit_70 : decode cX11_orbit 70 = .ok (.invokevirtual 137, 3) := by decide +kernel
theorem dX11_orbit_73 : decode cX11_orbit 73 = .ok (.ifCond .eq 10, 3) := by decide +kernel
theorem dX11_orbit_76 : decode cX11_orbit 76 = .ok (.iinc 4 1, 3) := by decide +kernel
theorem dX11_orbit_79 : decode cX11_orbit 79 = .ok (.iload 6, 2) := by decide +kernel
theorem dX11_orbit_81 : decode cX11_orbit 81 = .ok (.istore 5, 2) := by decide +kernel
theorem dX11_orbit_83 : decode cX11_orbit 83 = .ok (.iinc 6 1, 3) := by decide +kernel
theorem dX11_orbit_86 : decode cX11_orbit 86 = .ok (.goto (-30), 3) := by decide +kernel
theorem dX11_orbit_89 : decode cX11_orbit 89 = .ok (.iload_n 3, 1) := by decide +kernel
theorem dX11_orbit_90 : decode cX11_orbit 90 = .ok (.ifCond .ne 12, 3) := by decide +kernel
theorem dX11_orbit_93 : decode cX11_orbit 93 = .ok (.aload_n 0, 1) := by decide +kernel
theorem dX11_orbit_94 : decode cX11_orbit 94 = .ok (.iload_n 1, 1) := by decide +kernel
theorem dX11_orbit_95 : decode cX11_orbit 95 = .ok (.iload_n 2, 1) := by decide +kernel
theorem dX11_orbit_96 : decode cX11_orbit 96 = .ok (.invokevirtual 143, 3) := by decide +kernel
theorem dX11_orbit_99 : decode cX11_orbit 99 = .ok (.goto 15, 3) := by decide +kernel
theorem dX11_orbit_102 : decode cX11_orbit 102 = .ok (.iload_n 3, 1) := by decide +kernel
theorem dX11_orbit_103 : decode cX11_orbit 103 = .ok (.iconst 1, 1) := by decide +kernel
theorem dX11_orbit_104 : decode cX11_orbit 104 = .ok (.if_icmp .ne 8, 3) := by decide +kernel
theorem dX11_orbit_107 : decode cX11_orbit 107 = .ok (.iload 4, 2) := by decide +kernel
theorem dX11_orbit_109 : decode cX11_orbit 109 = .ok (.goto 5, 3) := by decide +kernel
theorem dX11_orbit_112 : decode cX11_orbit 112 = .ok (.iload 5, 2) := by decide +kernel
theorem dX11_orbit_114 : decode cX11_orbit 114 = .ok (.ireturn, 1) := by decide +kernel
theorem dX11_member_0 : decode cX11_member 0 = .ok (.aload_n 0, 1) := by decide +kernel
theorem dX11_member_1 : decode cX11_member 1 = .ok (.iload_n 1, 1) := by decide +kernel
theorem dX11_member_2 : decode cX11_member 2 = .ok (.invokevirtual 131, 3) := by decide +kernel
theorem dX11_member_5 : decode cX11_member 5 = .ok (.ifCond .ne 6, 3) := by decide +kernel
theorem dX11_member_8 : decode cX11_member 8 = .ok (.bipush (-2), 2) := by decide +kernel
theorem dX11_member_10 : decode cX11_member 10 = .ok (.ireturn, 1) := by decide +kernel
theorem dX11_member_11 : decode cX11_member 11 = .ok (.aload_n 0, 1) := by decide +kernel
theorem dX11_member_12 : decode cX11_member 12 = .ok (.invokevirtual 134, 3) := by decide +kernel
theorem dX11_member_15 : decode cX11_member 15 = .ok (.iload_n 2, 1) := by decide +kernel
theorem dX11_member_16 : decode cX11_member 16 = .ok (.i2l, 1) := by decide +kernel
theorem dX11_member_17 : decode cX11_member 17 = .ok (.lconst 0, 1) := by decide +kernel
theorem dX11_member_18 : decode cX11_member 18 = .ok (.aload_n 0, 1) := by decide +kernel
theorem dX11_member_19 : decode cX11_member 19 = .ok (.getfield 35, 3) := by decide +kernel
theorem dX11_member_22 : decode cX11_member 22 = .ok (.iload_n 1, 1) := by decide +kernel
theorem dX11_member_23 : decode cX11_member 23 = .ok (.iaload, 1) := by decide +kernel
theorem dX11_member_24 : decode cX11_member 24 = .ok (.iconst 1, 1) := by decide +kernel
theorem dX11_member_25 : decode cX11_member 25 = .ok (.isub, 1) := by decide +kernel
theorem dX11_member_26 : decode cX11_member 26 = .ok (.i2l, 1) := by decide +kernel
theorem dX11_member_27 : decode cX11_member 27 = .ok (.invokestatic 85, 3) := by decide +kernel
theorem dX11_member_30 : decode cX11_member 30 = .ok (.ifCond .eq 7, 3) := by decide +kernel
theorem dX11_member_33 : decode cX11_member 33 = .ok (.iload_n 3, 1) := by decide +kernel
theorem dX11_member_34 : decode cX11_member 34 = .ok (.ifCond .ge 5, 3) := by decide +kernel
theorem dX11_member_37 : decode cX11_member 37 = .ok (.iconst (-1), 1) := by decide +kernel
theorem dX11_member_38 : decode cX11_member 38 = .ok (.ireturn, 1) := by decide +kernel
theorem dX11_member_39 : decode cX11_member 39 = .ok (.iload_n 3, 1) := by decide +kernel
theorem dX11_member_40 : decode cX11_member 40 = .ok (.istore 4, 2) := by decide +kernel
theorem dX11_member_42 : decode cX11_member 42 = .ok (.iconst 0, 1) := by decide +kernel
theorem dX11_member_43 : decode cX11_member 43 = .ok (.istore 5, 2) := by decide +kernel
theorem dX11_member_45 : decode cX11_member 45 = .ok (.iload 5, 2) := by decide +kernel
theorem dX11_member_47 : decode cX11_member 47 = .ok (.aload_n 0, 1) := by decide +kernel
theorem dX11_member_48 : decode cX11_member 48 = .ok (.invokevirtual 81, 3) := by decide +kernel
theorem dX11_member_51 : decode cX11_member 51 = .ok (.if_icmp .gt 31, 3) := by decide +kernel
theorem dX11_member_54 : decode cX11_member 54 = .ok (.aload_n 0, 1) := by decide +kernel
theorem dX11_member_55 : decode cX11_member 55 = .ok (.iload 5, 2) := by decide +kernel
theorem dX11_member_57 : decode cX11_member 57 = .ok (.iload_n 1, 1) := by decide +kernel
theorem dX11_member_58 : decode cX11_member 58 = .ok (.iload_n 2, 1) := by decide +kernel
theorem dX11_member_59 : decode cX11_member 59 = .ok (.invokevirtual 137, 3) := by decide +kernel
theorem dX11_member_62 : decode cX11_member 62 = .ok (.ifCond .eq 14, 3) := by decide +kernel
theorem dX11_member_65 : decode cX11_member 65 = .ok (.iload 4, 2) := by decide +kernel
theorem dX11_member_67 : decode cX11_member 67 = .ok (.ifCond .ne 6, 3) := by decide +kernel
theorem dX11_member_70 : decode cX11_member 70 = .ok (.iload 5, 2) := by decide +kernel
theorem dX11_member_72 : decode cX11_member 72 = .ok (.ireturn, 1) := by decide +kernel
theorem dX11_member_73 : decode cX11_member 73 = .ok (.iinc 4 (-1), 3) := by decide +kernel
theorem dX11_member_76 : decode cX11_member 76 = .ok (.iinc 5 1, 3) := by decide +kernel
theorem dX11_member_79 : decode cX11_member 79 = .ok (.goto (-34), 3) := by decide +kernel
theorem dX11_member_82 : decode cX11_member 82 = .ok (.bipush (-5), 2) := by decide +kernel
theorem dX11_member_84 : decode cX11_member 84 = .ok (.ireturn, 1) := by decide +kernel
theorem dX11_orbitOf_0 : decode cX11_orbitOf 0 = .ok (.aload_n 0, 1) := by decide +kernel
theorem dX11_orbitOf_1 : decode cX11_orbitOf 1 = .ok (.iload_n 1, 1) := by decide +kernel
theorem dX11_orbitOf_2 : decode cX11_orbitOf 2 = .ok (.invokevirtual 125, 3) := by decide +kernel
theorem dX11_orbitOf_5 : decode cX11_orbitOf 5 = .ok (.ifCond .ne 5, 3) := by decide +kernel
theorem dX11_orbitOf_8 : decode cX11_orbitOf 8 = .ok (.iconst (-1), 1) := by decide +kernel
theorem dX11_orbitOf_9 : decode cX11_orbitOf 9 = .ok (.ireturn, 1) := by decide +kernel
theorem dX11_orbitOf_10 : decode cX11_orbitOf 10 = .ok (.aload_n 0, 1) := by decide +kernel
theorem dX11_orbitOf_11 : decode cX11_orbitOf 11 = .ok (.invokevirtual 134, 3) := by decide +kernel
theorem dX11_orbitOf_14 : decode cX11_orbitOf 14 = .ok (.aload_n 0, 1) := by decide +kernel
theorem dX11_orbitOf_15 : decode cX11_orbitOf 15 = .ok (.getfield 32, 3) := by decide +kernel
theorem dX11_orbitOf_18 : decode cX11_orbitOf 18 = .ok (.iload_n 1, 1) := by decide +kernel
theorem dX11_orbitOf_19 : decode cX11_orbitOf 19 = .ok (.iaload, 1) := by decide +kernel
theorem dX11_orbitOf_20 : decode cX11_orbitOf 20 = .ok (.ireturn, 1) := by decide +kernel
theorem dX11_areSizes_0 : decode cX11_areSizes 0 = .ok (.aload_n 0, 1) := by decide +kernel
theorem dX11_areSizes_1 : decode cX11_areSizes 1 = .ok (.iload_n 1, 1) := by decide +kernel
theorem dX11_areSizes_2 : decode cX11_areSizes 2 = .ok (.invokevirtual 131, 3) := by decide +kernel
theorem dX11_areSizes_5 : decode cX11_areSizes 5 = .ok (.ifCond .eq 20, 3) := by decide +kernel
theorem dX11_areSizes_8 : decode cX11_areSizes 8 = .ok (.aload_n 0, 1) := by decide +kernel
theorem dX11_areSizes_9 : decode cX11_areSizes 9 = .ok (.iload_n 2, 1) := by decide +kernel
theorem dX11_areSizes_10 : decode cX11_areSizes 10 = .ok (.invokevirtual 131, 3) := by decide +kernel
theorem dX11_areSizes_13 : decode cX11_areSizes 13 = .ok (.ifCond .eq 12, 3) := by decide +kernel
theorem dX11_areSizes_16 : decode cX11_areSizes 16 = .ok (.iload_n 1, 1) := by decide +kernel
theorem dX11_areSizes_17 : decode cX11_areSizes 17 = .ok (.iload_n 2, 1) := by decide +kernel
theorem dX11_areSizes_18 : decode cX11_areSizes 18 = .ok (.if_icmp .gt 7, 3) := by decide +kernel
theorem dX11_areSizes_21 : decode cX11_areSizes 21 = .ok (.iconst 1, 1) := by decide +kernel
theorem dX11_areSizes_22 : decode cX11_areSizes 22 = .ok (.goto 4, 3) := by decide +kernel
theorem dX11_areSizes_25 : decode cX11_areSizes 25 = .ok (.iconst 0, 1) := by decide +kernel
theorem dX11_areSizes_26 : decode cX11_areSizes 26 = .ok (.ireturn, 1) := by decide +kernel
theorem dX11_tables_0 : decode cX11_tables 0 = .ok (.aload_n 0, 1) := by decide +kernel
theorem dX11_tables_1 : decode cX11_tables 1 = .ok (.invokevirtual 134, 3) := by decide +kernel
theorem dX11_tables_4 : decode cX11_tables 4 = .ok (.iconst 0, 1) := by decide +kernel
theorem dX11_tables_5 : decode cX11_tables 5 = .ok (.istore_n 3, 1) := by decide +kernel
theorem dX11_tables_6 : decode cX11_tables 6 = .ok (.iload_n 3, 1) := by decide +kernel
theorem dX11_tables_7 : decode cX11_tables 7 = .ok (.aload_n 0, 1) := by decide +kernel
theorem dX11_tables_8 : decode cX11_tables 8 = .ok (.getfield 35, 3) := by decide +kernel
theorem dX11_tables_11 : decode cX11_tables 11 = .ok (.iload_n 1, 1) := by decide +kernel
theorem dX11_tables_12 : decode cX11_tables 12 = .ok (.iaload, 1) := by decide +kernel
theorem dX11_tables_13 : decode cX11_tables 13 = .ok (.if_icmp .ge 130, 3) := by decide +kernel
theorem dX11_tables_16 : decode cX11_tables 16 = .ok (.aload_n 0, 1) := by decide +kernel
theorem dX11_tables_17 : decode cX11_tables 17 = .ok (.iload_n 1, 1) := by decide +kernel
theorem dX11_tables_18 : decode cX11_tables 18 = .ok (.iload_n 3, 1) := by decide +kernel
theorem dX11_tables_19 : decode cX11_tables 19 = .ok (.invokevirtual 143, 3) := by decide +kernel
theorem dX11_tables_22 : decode cX11_tables 22 = .ok (.istore 4, 2) := by decide +kernel
theorem dX11_tables_24 : decode cX11_tables 24 = .ok (.iconst 0, 1) := by decide +kernel
theorem dX11_tables_25 : decode cX11_tables 25 = .ok (.istore 5, 2) := by decide +kernel
theorem dX11_tables_27 : decode cX11_tables 27 = .ok (.iload 5, 2) := by decide +kernel
theorem dX11_tables_29 : decode cX11_tables 29 = .ok (.aload_n 0, 1) := by decide +kernel
theorem dX11_tables_30 : decode cX11_tables 30 = .ok (.getfield 35, 3) := by decide +kernel
theorem dX11_tables_33 : decode cX11_tables 33 = .ok (.iload_n 2, 1) := by decide +kernel
theorem dX11_tables_34 : decode cX11_tables 34 = .ok (.iaload, 1) := by decide +kernel
theorem dX11_tables_35 : decode cX11_tables 35 = .ok (.if_icmp .ge 27, 3) := by decide +kernel
theorem dX11_tables_38 : decode cX11_tables 38 = .ok (.aload_n 0, 1) := by decide +kernel
theorem dX11_tables_39 : decode cX11_tables 39 = .ok (.getfield 43, 3) := by decide +kernel
theorem dX11_tables_42 : decode cX11_tables 42 = .ok (.iload_n 3, 1) := by decide +kernel
theorem dX11_tables_43 : decode cX11_tables 43 = .ok (.aaload, 1) := by decide +kernel
theorem dX11_tables_44 : decode cX11_tables 44 = .ok (.iload 5, 2) := by decide +kernel
theorem dX11_tables_46 : decode cX11_tables 46 = .ok (.iconst 0, 1) := by decide +kernel
theorem dX11_tables_47 : decode cX11_tables 47 = .ok (.iastore, 1) := by decide +kernel
theorem dX11_tables_48 : decode cX11_tables 48 = .ok (.aload_n 0, 1) := by decide +kernel
theorem dX11_tables_49 : decode cX11_tables 49 = .ok (.getfield 46, 3) := by decide +kernel
theorem dX11_tables_52 : decode cX11_tables 52 = .ok (.iload 5, 2) := by decide +kernel
theorem dX11_tables_54 : decode cX11_tables 54 = .ok (.iconst 0, 1) := by decide +kernel
theorem dX11_tables_55 : decode cX11_tables 55 = .ok (.iastore, 1) := by decide +kernel
theorem dX11_tables_56 : decode cX11_tables 56 = .ok (.iinc 5 1, 3) := by decide +kernel
theorem dX11_tables_59 : decode cX11_tables 59 = .ok (.goto (-32), 3) := by decide +kernel
theorem dX11_tables_62 : decode cX11_tables 62 = .ok (.iconst 0, 1) := by decide +kernel
theorem dX11_tables_63 : decode cX11_tables 63 = .ok (.istore 5, 2) := by decide +kernel
theorem dX11_tables_65 : decode cX11_tables 65 = .ok (.iload 5, 2) := by decide +kernel
theorem dX11_tables_67 : decode cX11_tables 67 = .ok (.aload_n 0, 1) := by decide +kernel
theorem dX11_tables_68 : decode cX11_tables 68 = .ok (.invokevirtual 81, 3) := by decide +kernel
theorem dX11_tables_71 : decode cX11_tables 71 = .ok (.if_icmp .gt 66, 3) := by decide +kernel
theorem dX11_tables_74 : decode cX11_tables 74 = .ok (.iload 5, 2) := by decide +kernel
theorem dX11_tables_76 : decode cX11_tables 76 = .ok (.invokestatic 128, 3) := by decide +kernel
theorem dX11_tables_79 : decode cX11_tables 79 = .ok (.iload_n 2, 1) := by decide +kernel
theorem dX11_tables_80 : decode cX11_tables 80 = .ok (.if_icmp .ne 51, 3) := by decide +kernel
theorem dX11_tables_83 : decode cX11_tables 83 = .ok (.aload_n 0, 1) := by decide +kernel
theorem dX11_tables_84 : decode cX11_tables 84 = .ok (.getfield 46, 3) := by decide +kernel
theorem dX11_tables_87 : decode cX11_tables 87 = .ok (.aload_n 0, 1) := by decide +kernel
theorem dX11_tables_88 : decode cX11_tables 88 = .ok (.getfield 32, 3) := by decide +kernel
theorem dX11_tables_91 : decode cX11_tables 91 = .ok (.iload 5, 2) := by decide +kernel
theorem dX11_tables_93 : decode cX11_tables 93 = .ok (.iaload, 1) := by decide +kernel
theorem dX11_tables_94 : decode cX11_tables 94 = .ok (.dup2, 1) := by decide +kernel
theorem dX11_tables_95 : decode cX11_tables 95 = .ok (.iaload, 1) := by decide +kernel
theorem dX11_tables_96 : decode cX11_tables 96 = .ok (.iconst 1, 1) := by decide +kernel
theorem dX11_tables_97 : decode cX11_tables 97 = .ok (.iadd, 1) := by decide +kernel
theorem dX11_tables_98 : decode cX11_tables 98 = .ok (.iastore, 1) := by decide +kernel
theorem dX11_tables_99 : decode cX11_tables 99 = .ok (.aload_n 0, 1) := by decide +kernel
theorem dX11_tables_100 : decode cX11_tables 100 = .ok (.getfield 43, 3) := by decide +kernel
theorem dX11_tables_103 : decode cX11_tables 103 = .ok (.iload_n 3, 1) := by decide +kernel
theorem dX11_tables_104 : decode cX11_tables 104 = .ok (.aaload, 1) := by decide +kernel
theorem dX11_tables_105 : decode cX11_tables 105 = .ok (.aload_n 0, 1) := by decide +kernel
theorem dX11_tables_106 : decode cX11_tables 106 = .ok (.getfield 32, 3) := by decide +kernel
theorem dX11_tables_109 : decode cX11_tables 109 = .ok (.iload 5, 2) := by decide +kernel
theorem dX11_tables_111 : decode cX11_tables 111 = .ok (.iaload, 1) := by decide +kernel
theorem dX11_tables_112 : decode cX11_tables 112 = .ok (.dup2, 1) := by decide +kernel
theorem dX11_tables_113 : decode cX11_tables 113 = .ok (.iaload, 1) := by decide +kernel
theorem dX11_tables_114 : decode cX11_tables 114 = .ok (.iload 4, 2) := by decide +kernel
theorem dX11_tables_116 : decode cX11_tables 116 = .ok (.iload 5, 2) := by decide +kernel
theorem dX11_tables_118 : decode cX11_tables 118 = .ok (.iconst (-1), 1) := by decide +kernel
theorem dX11_tables_119 : decode cX11_tables 119 = .ok (.ixor, 1) := by decide +kernel
theorem dX11_tables_120 : decode cX11_tables 120 = .ok (.iand, 1) := by decide +kernel
theorem dX11_tables_121 : decode cX11_tables 121 = .ok (.ifCond .ne 7, 3) := by decide +kernel
theorem dX11_tables_124 : decode cX11_tables 124 = .ok (.iconst 1, 1) := by decide +kernel
theorem dX11_tables_125 : decode cX11_tables 125 = .ok (.goto 4, 3) := by decide +kernel
theorem dX11_tables_128 : decode cX11_tables 128 = .ok (.iconst 0, 1) := by decide +kernel
theorem dX11_tables_129 : decode cX11_tables 129 = .ok (.iadd, 1) := by decide +kernel
theorem dX11_tables_130 : decode cX11_tables 130 = .ok (.iastore, 1) := by decide +kernel
theorem dX11_tables_131 : decode cX11_tables 131 = .ok (.iinc 5 1, 3) := by decide +kernel
theorem dX11_tables_134 : decode cX11_tables 134 = .ok (.goto (-69), 3) := by decide +kernel
theorem dX11_tables_137 : decode cX11_tables 137 = .ok (.iinc 3 1, 3) := by decide +kernel
theorem dX11_tables_140 : decode cX11_tables 140 = .ok (.goto (-134), 3) := by decide +kernel
theorem dX11_tables_143 : decode cX11_tables 143 = .ok (.return_, 1) := by decide +kernel
theorem dX11_table_0 : decode cX11_table 0 = .ok (.aload_n 0, 1) := by decide +kernel
theorem dX11_table_1 : decode cX11_table 1 = .ok (.iload_n 1, 1) := by decide +kernel
theorem dX11_table_2 : decode cX11_table 2 = .ok (.iload_n 2, 1) := by decide +kernel
theorem dX11_table_3 : decode cX11_table 3 = .ok (.invokevirtual 146, 3) := by decide +kernel
theorem dX11_table_6 : decode cX11_table 6 = .ok (.ifCond .ne 6, 3) := by decide +kernel
theorem dX11_table_9 : decode cX11_table 9 = .ok (.bipush (-2), 2) := by decide +kernel
theorem dX11_table_11 : decode cX11_table 11 = .ok (.ireturn, 1) := by decide +kernel
theorem dX11_table_12 : decode cX11_table 12 = .ok (.aload_n 0, 1) := by decide +kernel
theorem dX11_table_13 : decode cX11_table 13 = .ok (.iload_n 1, 1) := by decide +kernel
theorem dX11_table_14 : decode cX11_table 14 = .ok (.iload_n 2, 1) := by decide +kernel
theorem dX11_table_15 : decode cX11_table 15 = .ok (.invokevirtual 150, 3) := by decide +kernel
theorem dX11_table_18 : decode cX11_table 18 = .ok (.iload_n 3, 1) := by decide +kernel
theorem dX11_table_19 : decode cX11_table 19 = .ok (.i2l, 1) := by decide +kernel
theorem dX11_table_20 : decode cX11_table 20 = .ok (.lconst 0, 1) := by decide +kernel
theorem dX11_table_21 : decode cX11_table 21 = .ok (.aload_n 0, 1) := by decide +kernel
theorem dX11_table_22 : decode cX11_table 22 = .ok (.getfield 35, 3) := by decide +kernel
theorem dX11_table_25 : decode cX11_table 25 = .ok (.iload_n 1, 1) := by decide +kernel
theorem dX11_table_26 : decode cX11_table 26 = .ok (.iaload, 1) := by decide +kernel
theorem dX11_table_27 : decode cX11_table 27 = .ok (.iconst 1, 1) := by decide +kernel
theorem dX11_table_28 : decode cX11_table 28 = .ok (.isub, 1) := by decide +kernel
theorem dX11_table_29 : decode cX11_table 29 = .ok (.i2l, 1) := by decide +kernel
theorem dX11_table_30 : decode cX11_table 30 = .ok (.invokestatic 85, 3) := by decide +kernel
theorem dX11_table_33 : decode cX11_table 33 = .ok (.ifCond .eq 34, 3) := by decide +kernel
theorem dX11_table_36 : decode cX11_table 36 = .ok (.iload 4, 2) := by decide +kernel
theorem dX11_table_38 : decode cX11_table 38 = .ok (.i2l, 1) := by decide +kernel
theorem dX11_table_39 : decode cX11_table 39 = .ok (.lconst 0, 1) := by decide +kernel
theorem dX11_table_40 : decode cX11_table 40 = .ok (.aload_n 0, 1) := by decide +kernel
theorem dX11_table_41 : decode cX11_table 41 = .ok (.getfield 35, 3) := by decide +kernel
theorem dX11_table_44 : decode cX11_table 44 = .ok (.iload_n 2, 1) := by decide +kernel
theorem dX11_table_45 : decode cX11_table 45 = .ok (.iaload, 1) := by decide +kernel
theorem dX11_table_46 : decode cX11_table 46 = .ok (.iconst 1, 1) := by decide +kernel
theorem dX11_table_47 : decode cX11_table 47 = .ok (.isub, 1) := by decide +kernel
theorem dX11_table_48 : decode cX11_table 48 = .ok (.i2l, 1) := by decide +kernel
theorem dX11_table_49 : decode cX11_table 49 = .ok (.invokestatic 85, 3) := by decide +kernel
theorem dX11_table_52 : decode cX11_table 52 = .ok (.ifCond .eq 15, 3) := by decide +kernel
theorem dX11_table_55 : decode cX11_table 55 = .ok (.aload_n 0, 1) := by decide +kernel
theorem dX11_table_56 : decode cX11_table 56 = .ok (.getfield 43, 3) := by decide +kernel
theorem dX11_table_59 : decode cX11_table 59 = .ok (.iload_n 3, 1) := by decide +kernel
theorem dX11_table_60 : decode cX11_table 60 = .ok (.aaload, 1) := by decide +kernel
theorem dX11_table_61 : decode cX11_table 61 = .ok (.iload 4, 2) := by decide +kernel
theorem dX11_table_63 : decode cX11_table 63 = .ok (.iaload, 1) := by decide +kernel
theorem dX11_table_64 : decode cX11_table 64 = .ok (.goto 4, 3) := by decide +kernel
theorem dX11_table_67 : decode cX11_table 67 = .ok (.iconst (-1), 1) := by decide +kernel
theorem dX11_table_68 : decode cX11_table 68 = .ok (.ireturn, 1) := by decide +kernel
theorem dX11_sum_0 : decode cX11_sum 0 = .ok (.iconst 0, 1) := by decide +kernel
theorem dX11_sum_1 : decode cX11_sum 1 = .ok (.istore 4, 2) := by decide +kernel
theorem dX11_sum_3 : decode cX11_sum 3 = .ok (.iconst 0, 1) := by decide +kernel
theorem dX11_sum_4 : decode cX11_sum 4 = .ok (.istore 5, 2) := by decide +kernel
theorem dX11_sum_6 : decode cX11_sum 6 = .ok (.iload 5, 2) := by decide +kernel
theorem dX11_sum_8 : decode cX11_sum 8 = .ok (.aload_n 0, 1) := by decide +kernel
theorem dX11_sum_9 : decode cX11_sum 9 = .ok (.getfield 35, 3) := by decide +kernel
theorem dX11_sum_12 : decode cX11_sum 12 = .ok (.iload_n 2, 1) := by decide +kernel
theorem dX11_sum_13 : decode cX11_sum 13 = .ok (.iaload, 1) := by decide +kernel
theorem dX11_sum_14 : decode cX11_sum 14 = .ok (.if_icmp .ge 37, 3) := by decide +kernel
theorem dX11_sum_17 : decode cX11_sum 17 = .ok (.iload 4, 2) := by decide +kernel
theorem dX11_sum_19 : decode cX11_sum 19 = .ok (.iload_n 3, 1) := by decide +kernel
theorem dX11_sum_20 : decode cX11_sum 20 = .ok (.iload 5, 2) := by decide +kernel
theorem dX11_sum_22 : decode cX11_sum 22 = .ok (.ishr, 1) := by decide +kernel
theorem dX11_sum_23 : decode cX11_sum 23 = .ok (.iconst 1, 1) := by decide +kernel
theorem dX11_sum_24 : decode cX11_sum 24 = .ok (.iand, 1) := by decide +kernel
theorem dX11_sum_25 : decode cX11_sum 25 = .ok (.iconst 1, 1) := by decide +kernel
theorem dX11_sum_26 : decode cX11_sum 26 = .ok (.if_icmp .ne 15, 3) := by decide +kernel
theorem dX11_sum_29 : decode cX11_sum 29 = .ok (.aload_n 0, 1) := by decide +kernel
theorem dX11_sum_30 : decode cX11_sum 30 = .ok (.getfield 43, 3) := by decide +kernel
theorem dX11_sum_33 : decode cX11_sum 33 = .ok (.iload_n 1, 1) := by decide +kernel
theorem dX11_sum_34 : decode cX11_sum 34 = .ok (.aaload, 1) := by decide +kernel
theorem dX11_sum_35 : decode cX11_sum 35 = .ok (.iload 5, 2) := by decide +kernel
theorem dX11_sum_37 : decode cX11_sum 37 = .ok (.iaload, 1) := by decide +kernel
theorem dX11_sum_38 : decode cX11_sum 38 = .ok (.goto 4, 3) := by decide +kernel
theorem dX11_sum_41 : decode cX11_sum 41 = .ok (.iconst 0, 1) := by decide +kernel
theorem dX11_sum_42 : decode cX11_sum 42 = .ok (.iadd, 1) := by decide +kernel
theorem dX11_sum_43 : decode cX11_sum 43 = .ok (.istore 4, 2) := by decide +kernel
theorem dX11_sum_45 : decode cX11_sum 45 = .ok (.iinc 5 1, 3) := by decide +kernel
theorem dX11_sum_48 : decode cX11_sum 48 = .ok (.goto (-42), 3) := by decide +kernel
theorem dX11_sum_51 : decode cX11_sum 51 = .ok (.iload 4, 2) := by decide +kernel
theorem dX11_sum_53 : decode cX11_sum 53 = .ok (.ireturn, 1) := by decide +kernel
theorem dX11_solves_0 : decode cX11_solves 0 = .ok (.iconst 0, 1) := by decide +kernel
theorem dX11_solves_1 : decode cX11_solves 1 = .ok (.istore 5, 2) := by decide +kernel
theorem dX11_solves_3 : decode cX11_solves 3 = .ok (.iload 5, 2) := by decide +kernel
theorem dX11_solves_5 : decode cX11_solves 5 = .ok (.aload_n 0, 1) := by decide +kernel
theorem dX11_solves_6 : decode cX11_solves 6 = .ok (.getfield 35, 3) := by decide +kernel
theorem dX11_solves_9 : decode cX11_solves 9 = .ok (.iload_n 1, 1) := by decide +kernel
theorem dX11_solves_10 : decode cX11_solves 10 = .ok (.iaload, 1) := by decide +kernel
theorem dX11_solves_11 : decode cX11_solves 11 = .ok (.if_icmp .ge 24, 3) := by decide +kernel
theorem dX11_solves_14 : decode cX11_solves 14 = .ok (.aload_n 0, 1) := by decide +kernel
theorem dX11_solves_15 : decode cX11_solves 15 = .ok (.iload 5, 2) := by decide +kernel
theorem dX11_solves_17 : decode cX11_solves 17 = .ok (.iload_n 2, 1) := by decide +kernel
theorem dX11_solves_18 : decode cX11_solves 18 = .ok (.iload 4, 2) := by decide +kernel
theorem dX11_solves_20 : decode cX11_solves 20 = .ok (.invokevirtual 154, 3) := by decide +kernel
theorem dX11_solves_23 : decode cX11_solves 23 = .ok (.iload_n 3, 1) := by decide +kernel
theorem dX11_solves_24 : decode cX11_solves 24 = .ok (.if_icmp .eq 5, 3) := by decide +kernel
theorem dX11_solves_27 : decode cX11_solves 27 = .ok (.iconst 0, 1) := by decide +kernel
theorem dX11_solves_28 : decode cX11_solves 28 = .ok (.ireturn, 1) := by decide +kernel
theorem dX11_solves_29 : decode cX11_solves 29 = .ok (.iinc 5 1, 3) := by decide +kernel
theorem dX11_solves_32 : decode cX11_solves 32 = .ok (.goto (-29), 3) := by decide +kernel
theorem dX11_solves_35 : decode cX11_solves 35 = .ok (.iconst 1, 1) := by decide +kernel
theorem dX11_solves_36 : decode cX11_solves 36 = .ok (.ireturn, 1) := by decide +kernel
theorem dX11_nth_0 : decode cX11_nth 0 = .ok (.iconst 0, 1) := by decide +kernel
theorem dX11_nth_1 : decode cX11_nth 1 = .ok (.istore 5, 2) := by decide +kernel
theorem dX11_nth_3 : decode cX11_nth 3 = .ok (.iconst 0, 1) := by decide +kernel
theorem dX11_nth_4 : decode cX11_nth 4 = .ok (.istore 6, 2) := by decide +kernel
theorem dX11_nth_6 : decode cX11_nth 6 = .ok (.iload 6, 2) := by decide +kernel
theorem dX11_nth_8 : decode cX11_nth 8 = .ok (.iconst 1, 1) := by decide +kernel
theorem dX11_nth_9 : decode cX11_nth 9 = .ok (.aload_n 0, 1) := by decide +kernel
theorem dX11_nth_10 : decode cX11_nth 10 = .ok (.getfield 35, 3) := by decide +kernel
theorem dX11_nth_13 : decode cX11_nth 13 = .ok (.iload_n 2, 1) := by decide +kernel
theorem dX11_nth_14 : decode cX11_nth 14 = .ok (.iaload, 1) := by decide +kernel
theorem dX11_nth_15 : decode cX11_nth 15 = .ok (.ishl, 1) := by decide +kernel
theorem dX11_nth_16 : decode cX11_nth 16 = .ok (.if_icmp .ge 34, 3) := by decide +kernel
theorem dX11_nth_19 : decode cX11_nth 19 = .ok (.aload_n 0, 1) := by decide +kernel
theorem dX11_nth_20 : decode cX11_nth 20 = .ok (.iload_n 1, 1) := by decide +kernel
theorem dX11_nth_21 : decode cX11_nth 21 = .ok (.iload_n 2, 1) := by decide +kernel
theorem dX11_nth_22 : decode cX11_nth 22 = .ok (.iload_n 3, 1) := by decide +kernel
theorem dX11_nth_23 : decode cX11_nth 23 = .ok (.iload 6, 2) := by decide +kernel
theorem dX11_nth_25 : decode cX11_nth 25 = .ok (.invokevirtual 157, 3) := by decide +kernel
theorem dX11_nth_28 : decode cX11_nth 28 = .ok (.ifCond .eq 16, 3) := by decide +kernel
theorem dX11_nth_31 : decode cX11_nth 31 = .ok (.iload 5, 2) := by decide +kernel
theorem dX11_nth_33 : decode cX11_nth 33 = .ok (.iload 4, 2) := by decide +kernel
theorem dX11_nth_35 : decode cX11_nth 35 = .ok (.if_icmp .ne 6, 3) := by decide +kernel
theorem dX11_nth_38 : decode cX11_nth 38 = .ok (.iload 6, 2) := by decide +kernel
theorem dX11_nth_40 : decode cX11_nth 40 = .ok (.ireturn, 1) := by decide +kernel
theorem dX11_nth_41 : decode cX11_nth 41 = .ok (.iinc 5 1, 3) := by decide +kernel
theorem dX11_nth_44 : decode cX11_nth 44 = .ok (.iinc 6 1, 3) := by decide +kernel
theorem dX11_nth_47 : decode cX11_nth 47 = .ok (.goto (-41), 3) := by decide +kernel
theorem dX11_nth_50 : decode cX11_nth 50 = .ok (.iload 4, 2) := by decide +kernel
theorem dX11_nth_52 : decode cX11_nth 52 = .ok (.ifCond .ge 8, 3) := by decide +kernel
theorem dX11_nth_55 : decode cX11_nth 55 = .ok (.iload 5, 2) := by decide +kernel
theorem dX11_nth_57 : decode cX11_nth 57 = .ok (.goto 5, 3) := by decide +kernel
theorem dX11_nth_60 : decode cX11_nth 60 = .ok (.bipush (-5), 2) := by decide +kernel
theorem dX11_nth_62 : decode cX11_nth 62 = .ok (.ireturn, 1) := by decide +kernel
theorem dX11_solved_0 : decode cX11_solved 0 = .ok (.aload_n 0, 1) := by decide +kernel
theorem dX11_solved_1 : decode cX11_solved 1 = .ok (.iload_n 1, 1) := by decide +kernel
theorem dX11_solved_2 : decode cX11_solved 2 = .ok (.iload_n 2, 1) := by decide +kernel
theorem dX11_solved_3 : decode cX11_solved 3 = .ok (.invokevirtual 146, 3) := by decide +kernel
theorem dX11_solved_6 : decode cX11_solved 6 = .ok (.ifCond .eq 15, 3) := by decide +kernel
theorem dX11_solved_9 : decode cX11_solved 9 = .ok (.iload_n 3, 1) := by decide +kernel
theorem dX11_solved_10 : decode cX11_solved 10 = .ok (.i2l, 1) := by decide +kernel
theorem dX11_solved_11 : decode cX11_solved 11 = .ok (.lconst 1, 1) := by decide +kernel
theorem dX11_solved_12 : decode cX11_solved 12 = .ok (.ldc2_w 161, 3) := by decide +kernel
theorem dX11_solved_15 : decode cX11_solved 15 = .ok (.invokestatic 85, 3) := by decide +kernel
theorem dX11_solved_18 : decode cX11_solved 18 = .ok (.ifCond .ne 6, 3) := by decide +kernel
theorem dX11_solved_21 : decode cX11_solved 21 = .ok (.bipush (-2), 2) := by decide +kernel
theorem dX11_solved_23 : decode cX11_solved 23 = .ok (.ireturn, 1) := by decide +kernel
theorem dX11_solved_24 : decode cX11_solved 24 = .ok (.iload 4, 2) := by decide +kernel
theorem dX11_solved_26 : decode cX11_solved 26 = .ok (.i2l, 1) := by decide +kernel
theorem dX11_solved_27 : decode cX11_solved 27 = .ok (.lconst 0, 1) := by decide +kernel
theorem dX11_solved_28 : decode cX11_solved 28 = .ok (.lconst 1, 1) := by decide +kernel
theorem dX11_solved_29 : decode cX11_solved 29 = .ok (.invokestatic 85, 3) := by decide +kernel
theorem dX11_solved_32 : decode cX11_solved 32 = .ok (.ifCond .ne 5, 3) := by decide +kernel
theorem dX11_solved_35 : decode cX11_solved 35 = .ok (.iconst (-1), 1) := by decide +kernel
theorem dX11_solved_36 : decode cX11_solved 36 = .ok (.ireturn, 1) := by decide +kernel
theorem dX11_solved_37 : decode cX11_solved 37 = .ok (.aload_n 0, 1) := by decide +kernel
theorem dX11_solved_38 : decode cX11_solved 38 = .ok (.iload_n 1, 1) := by decide +kernel
theorem dX11_solved_39 : decode cX11_solved 39 = .ok (.iload_n 2, 1) := by decide +kernel
theorem dX11_solved_40 : decode cX11_solved 40 = .ok (.invokevirtual 150, 3) := by decide +kernel
theorem dX11_solved_43 : decode cX11_solved 43 = .ok (.aload_n 0, 1) := by decide +kernel
theorem dX11_solved_44 : decode cX11_solved 44 = .ok (.getfield 35, 3) := by decide +kernel
theorem dX11_solved_47 : decode cX11_solved 47 = .ok (.iload_n 2, 1) := by decide +kernel
theorem dX11_solved_48 : decode cX11_solved 48 = .ok (.iaload, 1) := by decide +kernel
theorem dX11_solved_49 : decode cX11_solved 49 = .ok (.bipush 14, 2) := by decide +kernel
theorem dX11_solved_51 : decode cX11_solved 51 = .ok (.if_icmp .le 8, 3) := by decide +kernel
theorem dX11_solved_54 : decode cX11_solved 54 = .ok (.bipush (-3), 2) := by decide +kernel
theorem dX11_solved_56 : decode cX11_solved 56 = .ok (.goto 20, 3) := by decide +kernel
theorem dX11_solved_59 : decode cX11_solved 59 = .ok (.aload_n 0, 1) := by decide +kernel
theorem dX11_solved_60 : decode cX11_solved 60 = .ok (.iload_n 1, 1) := by decide +kernel
theorem dX11_solved_61 : decode cX11_solved 61 = .ok (.iload_n 2, 1) := by decide +kernel
theorem dX11_solved_62 : decode cX11_solved 62 = .ok (.iload_n 3, 1) := by decide +kernel
theorem dX11_solved_63 : decode cX11_solved 63 = .ok (.iload 4, 2) := by decide +kernel
theorem dX11_solved_65 : decode cX11_solved 65 = .ok (.ifCond .ne 7, 3) := by decide +kernel
theorem dX11_solved_68 : decode cX11_solved 68 = .ok (.iconst (-1), 1) := by decide +kernel
theorem dX11_solved_69 : decode cX11_solved 69 = .ok (.goto 4, 3) := by decide +kernel
theorem dX11_solved_72 : decode cX11_solved 72 = .ok (.iconst 0, 1) := by decide +kernel
theorem dX11_solved_73 : decode cX11_solved 73 = .ok (.invokevirtual 163, 3) := by decide +kernel
theorem dX11_solved_76 : decode cX11_solved 76 = .ok (.ireturn, 1) := by decide +kernel
theorem dX11_solution_0 : decode cX11_solution 0 = .ok (.aload_n 0, 1) := by decide +kernel
theorem dX11_solution_1 : decode cX11_solution 1 = .ok (.iload_n 1, 1) := by decide +kernel
theorem dX11_solution_2 : decode cX11_solution 2 = .ok (.iload_n 2, 1) := by decide +kernel
theorem dX11_solution_3 : decode cX11_solution 3 = .ok (.invokevirtual 146, 3) := by decide +kernel
theorem dX11_solution_6 : decode cX11_solution 6 = .ok (.ifCond .eq 15, 3) := by decide +kernel
theorem dX11_solution_9 : decode cX11_solution 9 = .ok (.iload_n 3, 1) := by decide +kernel
theorem dX11_solution_10 : decode cX11_solution 10 = .ok (.i2l, 1) := by decide +kernel
theorem dX11_solution_11 : decode cX11_solution 11 = .ok (.lconst 1, 1) := by decide +kernel
theorem dX11_solution_12 : decode cX11_solution 12 = .ok (.ldc2_w 161, 3) := by decide +kernel
theorem dX11_solution_15 : decode cX11_solution 15 = .ok (.invokestatic 85, 3) := by decide +kernel
theorem dX11_solution_18 : decode cX11_solution 18 = .ok (.ifCond .ne 6, 3) := by decide +kernel
theorem dX11_solution_21 : decode cX11_solution 21 = .ok (.bipush (-2), 2) := by decide +kernel
theorem dX11_solution_23 : decode cX11_solution 23 = .ok (.ireturn, 1) := by decide +kernel
theorem dX11_solution_24 : decode cX11_solution 24 = .ok (.iload 4, 2) := by decide +kernel
theorem dX11_solution_26 : decode cX11_solution 26 = .ok (.ifCond .ge 5, 3) := by decide +kernel
theorem dX11_solution_29 : decode cX11_solution 29 = .ok (.iconst (-1), 1) := by decide +kernel
theorem dX11_solution_30 : decode cX11_solution 30 = .ok (.ireturn, 1) := by decide +kernel
theorem dX11_solution_31 : decode cX11_solution 31 = .ok (.aload_n 0, 1) := by decide +kernel
theorem dX11_solution_32 : decode cX11_solution 32 = .ok (.iload_n 1, 1) := by decide +kernel
theorem dX11_solution_33 : decode cX11_solution 33 = .ok (.iload_n 2, 1) := by decide +kernel
theorem dX11_solution_34 : decode cX11_solution 34 = .ok (.invokevirtual 150, 3) := by decide +kernel
theorem dX11_solution_37 : decode cX11_solution 37 = .ok (.aload_n 0, 1) := by decide +kernel
theorem dX11_solution_38 : decode cX11_solution 38 = .ok (.getfield 35, 3) := by decide +kernel
theorem dX11_solution_41 : decode cX11_solution 41 = .ok (.iload_n 2, 1) := by decide +kernel
theorem dX11_solution_42 : decode cX11_solution 42 = .ok (.iaload, 1) := by decide +kernel
theorem dX11_solution_43 : decode cX11_solution 43 = .ok (.bipush 14, 2) := by decide +kernel
theorem dX11_solution_45 : decode cX11_solution 45 = .ok (.if_icmp .le 8, 3) := by decide +kernel
theorem dX11_solution_48 : decode cX11_solution 48 = .ok (.bipush (-3), 2) := by decide +kernel
theorem dX11_solution_50 : decode cX11_solution 50 = .ok (.goto 12, 3) := by decide +kernel
theorem dX11_solution_53 : decode cX11_solution 53 = .ok (.aload_n 0, 1) := by decide +kernel
theorem dX11_solution_54 : decode cX11_solution 54 = .ok (.iload_n 1, 1) := by decide +kernel
theorem dX11_solution_55 : decode cX11_solution 55 = .ok (.iload_n 2, 1) := by decide +kernel
theorem dX11_solution_56 : decode cX11_solution 56 = .ok (.iload_n 3, 1) := by decide +kernel
theorem dX11_solution_57 : decode cX11_solution 57 = .ok (.iload 4, 2) := by decide +kernel
theorem dX11_solution_59 : decode cX11_solution 59 = .ok (.invokevirtual 163, 3) := by decide +kernel
theorem dX11_solution_62 : decode cX11_solution 62 = .ok (.ireturn, 1) := by decide +kernel
theorem dX11_covers_0 : decode cX11_covers 0 = .ok (.iconst 0, 1) := by decide +kernel
theorem dX11_covers_1 : decode cX11_covers 1 = .ok (.istore 4, 2) := by decide +kernel
theorem dX11_covers_3 : decode cX11_covers 3 = .ok (.iload 4, 2) := by decide +kernel
theorem dX11_covers_5 : decode cX11_covers 5 = .ok (.aload_n 0, 1) := by decide +kernel
theorem dX11_covers_6 : decode cX11_covers 6 = .ok (.getfield 35, 3) := by decide +kernel
theorem dX11_covers_9 : decode cX11_covers 9 = .ok (.iload_n 1, 1) := by decide +kernel
theorem dX11_covers_10 : decode cX11_covers 10 = .ok (.iaload, 1) := by decide +kernel
theorem dX11_covers_11 : decode cX11_covers 11 = .ok (.if_icmp .ge 22, 3) := by decide +kernel
theorem dX11_covers_14 : decode cX11_covers 14 = .ok (.aload_n 0, 1) := by decide +kernel
theorem dX11_covers_15 : decode cX11_covers 15 = .ok (.iload 4, 2) := by decide +kernel
theorem dX11_covers_17 : decode cX11_covers 17 = .ok (.iload_n 2, 1) := by decide +kernel
theorem dX11_covers_18 : decode cX11_covers 18 = .ok (.iload_n 3, 1) := by decide +kernel
theorem dX11_covers_19 : decode cX11_covers 19 = .ok (.invokevirtual 154, 3) := by decide +kernel
theorem dX11_covers_22 : decode cX11_covers 22 = .ok (.ifCond .ne 5, 3) := by decide +kernel
theorem dX11_covers_25 : decode cX11_covers 25 = .ok (.iconst 0, 1) := by decide +kernel
theorem dX11_covers_26 : decode cX11_covers 26 = .ok (.ireturn, 1) := by decide +kernel
theorem dX11_covers_27 : decode cX11_covers 27 = .ok (.iinc 4 1, 3) := by decide +kernel
theorem dX11_covers_30 : decode cX11_covers 30 = .ok (.goto (-27), 3) := by decide +kernel
theorem dX11_covers_33 : decode cX11_covers 33 = .ok (.iconst 1, 1) := by decide +kernel
theorem dX11_covers_34 : decode cX11_covers 34 = .ok (.ireturn, 1) := by decide +kernel
theorem dX11_cover_0 : decode cX11_cover 0 = .ok (.aload_n 0, 1) := by decide +kernel
theorem dX11_cover_1 : decode cX11_cover 1 = .ok (.iload_n 1, 1) := by decide +kernel
theorem dX11_cover_2 : decode cX11_cover 2 = .ok (.iload_n 2, 1) := by decide +kernel
theorem dX11_cover_3 : decode cX11_cover 3 = .ok (.invokevirtual 146, 3) := by decide +kernel
theorem dX11_cover_6 : decode cX11_cover 6 = .ok (.ifCond .ne 6, 3) := by decide +kernel
theorem dX11_cover_9 : decode cX11_cover 9 = .ok (.bipush (-2), 2) := by decide +kernel
theorem dX11_cover_11 : decode cX11_cover 11 = .ok (.ireturn, 1) := by decide +kernel
theorem dX11_cover_12 : decode cX11_cover 12 = .ok (.iload_n 3, 1) := by decide +kernel
theorem dX11_cover_13 : decode cX11_cover 13 = .ok (.i2l, 1) := by decide +kernel
theorem dX11_cover_14 : decode cX11_cover 14 = .ok (.lconst 0, 1) := by decide +kernel
theorem dX11_cover_15 : decode cX11_cover 15 = .ok (.lconst 1, 1) := by decide +kernel
theorem dX11_cover_16 : decode cX11_cover 16 = .ok (.invokestatic 85, 3) := by decide +kernel
theorem dX11_cover_19 : decode cX11_cover 19 = .ok (.ifCond .ne 5, 3) := by decide +kernel
theorem dX11_cover_22 : decode cX11_cover 22 = .ok (.iconst (-1), 1) := by decide +kernel
theorem dX11_cover_23 : decode cX11_cover 23 = .ok (.ireturn, 1) := by decide +kernel
theorem dX11_cover_24 : decode cX11_cover 24 = .ok (.aload_n 0, 1) := by decide +kernel
theorem dX11_cover_25 : decode cX11_cover 25 = .ok (.iload_n 1, 1) := by decide +kernel
theorem dX11_cover_26 : decode cX11_cover 26 = .ok (.iload_n 2, 1) := by decide +kernel
theorem dX11_cover_27 : decode cX11_cover 27 = .ok (.invokevirtual 150, 3) := by decide +kernel
theorem dX11_cover_30 : decode cX11_cover 30 = .ok (.aload_n 0, 1) := by decide +kernel
theorem dX11_cover_31 : decode cX11_cover 31 = .ok (.getfield 35, 3) := by decide +kernel
theorem dX11_cover_34 : decode cX11_cover 34 = .ok (.iload_n 2, 1) := by decide +kernel
theorem dX11_cover_35 : decode cX11_cover 35 = .ok (.iaload, 1) := by decide +kernel
theorem dX11_cover_36 : decode cX11_cover 36 = .ok (.bipush 14, 2) := by decide +kernel
theorem dX11_cover_38 : decode cX11_cover 38 = .ok (.if_icmp .le 6, 3) := by decide +kernel
theorem dX11_cover_41 : decode cX11_cover 41 = .ok (.bipush (-3), 2) := by decide +kernel
theorem dX11_cover_43 : decode cX11_cover 43 = .ok (.ireturn, 1) := by decide +kernel
theorem dX11_cover_44 : decode cX11_cover 44 = .ok (.bipush (-5), 2) := by decide +kernel
theorem dX11_cover_46 : decode cX11_cover 46 = .ok (.istore 4, 2) := by decide +kernel
theorem dX11_cover_48 : decode cX11_cover 48 = .ok (.bipush (-5), 2) := by decide +kernel
theorem dX11_cover_50 : decode cX11_cover 50 = .ok (.istore 5, 2) := by decide +kernel
theorem dX11_cover_52 : decode cX11_cover 52 = .ok (.iconst 0, 1) := by decide +kernel
theorem dX11_cover_53 : decode cX11_cover 53 = .ok (.istore 6, 2) := by decide +kernel
theorem dX11_cover_55 : decode cX11_cover 55 = .ok (.iload 6, 2) := by decide +kernel
theorem dX11_cover_57 : decode cX11_cover 57 = .ok (.iconst 1, 1) := by decide +kernel
theorem dX11_cover_58 : decode cX11_cover 58 = .ok (.aload_n 0, 1) := by decide +kernel
theorem dX11_cover_59 : decode cX11_cover 59 = .ok (.getfield 35, 3) := by decide +kernel
theorem dX11_cover_62 : decode cX11_cover 62 = .ok (.iload_n 2, 1) := by decide +kernel
theorem dX11_cover_63 : decode cX11_cover 63 = .ok (.iaload, 1) := by decide +kernel
theorem dX11_cover_64 : decode cX11_cover 64 = .ok (.ishl, 1) := by decide +kernel
theorem dX11_cover_65 : decode cX11_cover 65 = .ok (.if_icmp .ge 92, 3) := by decide +kernel
theorem dX11_cover_68 : decode cX11_cover 68 = .ok (.iconst 0, 1) := by decide +kernel
theorem dX11_cover_69 : decode cX11_cover 69 = .ok (.istore 7, 2) := by decide +kernel
theorem dX11_cover_71 : decode cX11_cover 71 = .ok (.iconst 0, 1) := by decide +kernel
theorem dX11_cover_72 : decode cX11_cover 72 = .ok (.istore 8, 2) := by decide +kernel
theorem dX11_cover_74 : decode cX11_cover 74 = .ok (.iload 8, 2) := by decide +kernel
theorem dX11_cover_76 : decode cX11_cover 76 = .ok (.aload_n 0, 1) := by decide +kernel
theorem dX11_cover_77 : decode cX11_cover 77 = .ok (.getfield 35, 3) := by decide +kernel
theorem dX11_cover_80 : decode cX11_cover 80 = .ok (.iload_n 2, 1) := by decide +kernel
theorem dX11_cover_81 : decode cX11_cover 81 = .ok (.iaload, 1) := by decide +kernel
theorem dX11_cover_82 : decode cX11_cover 82 = .ok (.if_icmp .ge 36, 3) := by decide +kernel
theorem dX11_cover_85 : decode cX11_cover 85 = .ok (.iload 7, 2) := by decide +kernel
theorem dX11_cover_87 : decode cX11_cover 87 = .ok (.iload 6, 2) := by decide +kernel
theorem dX11_cover_89 : decode cX11_cover 89 = .ok (.iload 8, 2) := by decide +kernel
theorem dX11_cover_91 : decode cX11_cover 91 = .ok (.ishr, 1) := by decide +kernel
theorem dX11_cover_92 : decode cX11_cover 92 = .ok (.iconst 1, 1) := by decide +kernel
theorem dX11_cover_93 : decode cX11_cover 93 = .ok (.iand, 1) := by decide +kernel
theorem dX11_cover_94 : decode cX11_cover 94 = .ok (.iconst 1, 1) := by decide +kernel
theorem dX11_cover_95 : decode cX11_cover 95 = .ok (.if_icmp .ne 13, 3) := by decide +kernel
theorem dX11_cover_98 : decode cX11_cover 98 = .ok (.aload_n 0, 1) := by decide +kernel
theorem dX11_cover_99 : decode cX11_cover 99 = .ok (.getfield 46, 3) := by decide +kernel
theorem dX11_cover_102 : decode cX11_cover 102 = .ok (.iload 8, 2) := by decide +kernel
theorem dX11_cover_104 : decode cX11_cover 104 = .ok (.iaload, 1) := by decide +kernel
theorem dX11_cover_105 : decode cX11_cover 105 = .ok (.goto 4, 3) := by decide +kernel
theorem dX11_cover_108 : decode cX11_cover 108 = .ok (.iconst 0, 1) := by decide +kernel
theorem dX11_cover_109 : decode cX11_cover 109 = .ok (.iadd, 1) := by decide +kernel
theorem dX11_cover_110 : decode cX11_cover 110 = .ok (.istore 7, 2) := by decide +kernel
theorem dX11_cover_112 : decode cX11_cover 112 = .ok (.iinc 8 1, 3) := by decide +kernel
theorem dX11_cover_115 : decode cX11_cover 115 = .ok (.goto (-41), 3) := by decide +kernel
theorem dX11_cover_118 : decode cX11_cover 118 = .ok (.iload 4, 2) := by decide +kernel
theorem dX11_cover_120 : decode cX11_cover 120 = .ok (.bipush (-5), 2) := by decide +kernel
theorem dX11_cover_122 : decode cX11_cover 122 = .ok (.if_icmp .eq 10, 3) := by decide +kernel
theorem dX11_cover_125 : decode cX11_cover 125 = .ok (.iload 7, 2) := by decide +kernel
theorem dX11_cover_127 : decode cX11_cover 127 = .ok (.iload 5, 2) := by decide +kernel
theorem dX11_cover_129 : decode cX11_cover 129 = .ok (.if_icmp .ge 22, 3) := by decide +kernel
theorem dX11_cover_132 : decode cX11_cover 132 = .ok (.aload_n 0, 1) := by decide +kernel
theorem dX11_cover_133 : decode cX11_cover 133 = .ok (.iload_n 1, 1) := by decide +kernel
theorem dX11_cover_134 : decode cX11_cover 134 = .ok (.iload_n 2, 1) := by decide +kernel
theorem dX11_cover_135 : decode cX11_cover 135 = .ok (.iload 6, 2) := by decide +kernel
theorem dX11_cover_137 : decode cX11_cover 137 = .ok (.invokevirtual 167, 3) := by decide +kernel
theorem dX11_cover_140 : decode cX11_cover 140 = .ok (.ifCond .eq 11, 3) := by decide +kernel
theorem dX11_cover_143 : decode cX11_cover 143 = .ok (.iload 6, 2) := by decide +kernel
theorem dX11_cover_145 : decode cX11_cover 145 = .ok (.istore 4, 2) := by decide +kernel
theorem dX11_cover_147 : decode cX11_cover 147 = .ok (.iload 7, 2) := by decide +kernel
theorem dX11_cover_149 : decode cX11_cover 149 = .ok (.istore 5, 2) := by decide +kernel
theorem dX11_cover_151 : decode cX11_cover 151 = .ok (.iinc 6 1, 3) := by decide +kernel
theorem dX11_cover_154 : decode cX11_cover 154 = .ok (.goto (-99), 3) := by decide +kernel
theorem dX11_cover_157 : decode cX11_cover 157 = .ok (.iload_n 3, 1) := by decide +kernel
theorem dX11_cover_158 : decode cX11_cover 158 = .ok (.ifCond .ne 8, 3) := by decide +kernel
theorem dX11_cover_161 : decode cX11_cover 161 = .ok (.iload 5, 2) := by decide +kernel
theorem dX11_cover_163 : decode cX11_cover 163 = .ok (.goto 5, 3) := by decide +kernel
theorem dX11_cover_166 : decode cX11_cover 166 = .ok (.iload 4, 2) := by decide +kernel
theorem dX11_cover_168 : decode cX11_cover 168 = .ok (.ireturn, 1) := by decide +kernel
theorem dX11_many_0 : decode cX11_many 0 = .ok (.iconst 0, 1) := by decide +kernel
theorem dX11_many_1 : decode cX11_many 1 = .ok (.istore_n 1, 1) := by decide +kernel
theorem dX11_many_2 : decode cX11_many 2 = .ok (.iconst 0, 1) := by decide +kernel
theorem dX11_many_3 : decode cX11_many 3 = .ok (.istore_n 2, 1) := by decide +kernel
theorem dX11_many_4 : decode cX11_many 4 = .ok (.iload_n 2, 1) := by decide +kernel
theorem dX11_many_5 : decode cX11_many 5 = .ok (.sipush 256, 3) := by decide +kernel
theorem dX11_many_8 : decode cX11_many 8 = .ok (.if_icmp .ge 23, 3) := by decide +kernel
theorem dX11_many_11 : decode cX11_many 11 = .ok (.iload_n 1, 1) := by decide +kernel
theorem dX11_many_12 : decode cX11_many 12 = .ok (.aload_n 0, 1) := by decide +kernel
theorem dX11_many_13 : decode cX11_many 13 = .ok (.iload_n 2, 1) := by decide +kernel
theorem dX11_many_14 : decode cX11_many 14 = .ok (.baload, 1) := by decide +kernel
theorem dX11_many_15 : decode cX11_many 15 = .ok (.ifCond .eq 7, 3) := by decide +kernel
theorem dX11_many_18 : decode cX11_many 18 = .ok (.iconst 1, 1) := by decide +kernel
theorem dX11_many_19 : decode cX11_many 19 = .ok (.goto 4, 3) := by decide +kernel
theorem dX11_many_22 : decode cX11_many 22 = .ok (.iconst 0, 1) := by decide +kernel
theorem dX11_many_23 : decode cX11_many 23 = .ok (.iadd, 1) := by decide +kernel
theorem dX11_many_24 : decode cX11_many 24 = .ok (.istore_n 1, 1) := by decide +kernel
theorem dX11_many_25 : decode cX11_many 25 = .ok (.iinc 2 1, 3) := by decide +kernel
theorem dX11_many_28 : decode cX11_many 28 = .ok (.goto (-24), 3) := by decide +kernel
theorem dX11_many_31 : decode cX11_many 31 = .ok (.iload_n 1, 1) := by decide +kernel
theorem dX11_many_32 : decode cX11_many 32 = .ok (.ireturn, 1) := by decide +kernel
theorem dX11_choose_0 : decode cX11_choose 0 = .ok (.iload_n 1, 1) := by decide +kernel
theorem dX11_choose_1 : decode cX11_choose 1 = .ok (.i2l, 1) := by decide +kernel
theorem dX11_choose_2 : decode cX11_choose 2 = .ok (.lconst 1, 1) := by decide +kernel
theorem dX11_choose_3 : decode cX11_choose 3 = .ok (.aload_n 0, 1) := by decide +kernel
theorem dX11_choose_4 : decode cX11_choose 4 = .ok (.getfield 11, 3) := by decide +kernel
theorem dX11_choose_7 : decode cX11_choose 7 = .ok (.iconst 0, 1) := by decide +kernel
theorem dX11_choose_8 : decode cX11_choose 8 = .ok (.iaload, 1) := by decide +kernel
theorem dX11_choose_9 : decode cX11_choose 9 = .ok (.i2l, 1) := by decide +kernel
theorem dX11_choose_10 : decode cX11_choose 10 = .ok (.invokestatic 85, 3) := by decide +kernel
theorem dX11_choose_13 : decode cX11_choose 13 = .ok (.ifCond .ne 6, 3) := by decide +kernel
theorem dX11_choose_16 : decode cX11_choose 16 = .ok (.bipush (-2), 2) := by decide +kernel
theorem dX11_choose_18 : decode cX11_choose 18 = .ok (.ireturn, 1) := by decide +kernel
theorem dX11_choose_19 : decode cX11_choose 19 = .ok (.aload_n 0, 1) := by decide +kernel
theorem dX11_choose_20 : decode cX11_choose 20 = .ok (.invokevirtual 134, 3) := by decide +kernel
theorem dX11_choose_23 : decode cX11_choose 23 = .ok (.iload_n 2, 1) := by decide +kernel
theorem dX11_choose_24 : decode cX11_choose 24 = .ok (.ifCond .lt 25, 3) := by decide +kernel
theorem dX11_choose_27 : decode cX11_choose 27 = .ok (.aload_n 0, 1) := by decide +kernel
theorem dX11_choose_28 : decode cX11_choose 28 = .ok (.getfield 35, 3) := by decide +kernel
theorem dX11_choose_31 : decode cX11_choose 31 = .ok (.iload_n 1, 1) := by decide +kernel
theorem dX11_choose_32 : decode cX11_choose 32 = .ok (.iaload, 1) := by decide +kernel
theorem dX11_choose_33 : decode cX11_choose 33 = .ok (.bipush 31, 2) := by decide +kernel
theorem dX11_choose_35 : decode cX11_choose 35 = .ok (.if_icmp .ge 16, 3) := by decide +kernel
theorem dX11_choose_38 : decode cX11_choose 38 = .ok (.iload_n 2, 1) := by decide +kernel
theorem dX11_choose_39 : decode cX11_choose 39 = .ok (.aload_n 0, 1) := by decide +kernel
theorem dX11_choose_40 : decode cX11_choose 40 = .ok (.getfield 35, 3) := by decide +kernel
theorem dX11_choose_43 : decode cX11_choose 43 = .ok (.iload_n 1, 1) := by decide +kernel
theorem dX11_choose_44 : decode cX11_choose 44 = .ok (.iaload, 1) := by decide +kernel
theorem dX11_choose_45 : decode cX11_choose 45 = .ok (.ishr, 1) := by decide +kernel
theorem dX11_choose_46 : decode cX11_choose 46 = .ok (.ifCond .eq 5, 3) := by decide +kernel
theorem dX11_choose_49 : decode cX11_choose 49 = .ok (.iconst (-1), 1) := by decide +kernel
theorem dX11_choose_50 : decode cX11_choose 50 = .ok (.ireturn, 1) := by decide +kernel
theorem dX11_choose_51 : decode cX11_choose 51 = .ok (.aload_n 0, 1) := by decide +kernel
theorem dX11_choose_52 : decode cX11_choose 52 = .ok (.getfield 11, 3) := by decide +kernel
theorem dX11_choose_55 : decode cX11_choose 55 = .ok (.bipush 42, 2) := by decide +kernel
theorem dX11_choose_57 : decode cX11_choose 57 = .ok (.iload_n 1, 1) := by decide +kernel
theorem dX11_choose_58 : decode cX11_choose 58 = .ok (.iastore, 1) := by decide +kernel
theorem dX11_choose_59 : decode cX11_choose 59 = .ok (.iconst 0, 1) := by decide +kernel
theorem dX11_choose_60 : decode cX11_choose 60 = .ok (.istore_n 3, 1) := by decide +kernel
theorem dX11_choose_61 : decode cX11_choose 61 = .ok (.iload_n 3, 1) := by decide +kernel
theorem dX11_choose_62 : decode cX11_choose 62 = .ok (.sipush 256, 3) := by decide +kernel
theorem dX11_choose_65 : decode cX11_choose 65 = .ok (.if_icmp .ge 63, 3) := by decide +kernel
theorem dX11_choose_68 : decode cX11_choose 68 = .ok (.aload_n 0, 1) := by decide +kernel
theorem dX11_choose_69 : decode cX11_choose 69 = .ok (.getfield 20, 3) := by decide +kernel
theorem dX11_choose_72 : decode cX11_choose 72 = .ok (.iconst 0, 1) := by decide +kernel
theorem dX11_choose_73 : decode cX11_choose 73 = .ok (.aaload, 1) := by decide +kernel
theorem dX11_choose_74 : decode cX11_choose 74 = .ok (.iload_n 3, 1) := by decide +kernel
theorem dX11_choose_75 : decode cX11_choose 75 = .ok (.iload_n 3, 1) := by decide +kernel
theorem dX11_choose_76 : decode cX11_choose 76 = .ok (.aload_n 0, 1) := by decide +kernel
theorem dX11_choose_77 : decode cX11_choose 77 = .ok (.invokevirtual 81, 3) := by decide +kernel
theorem dX11_choose_80 : decode cX11_choose 80 = .ok (.if_icmp .gt 40, 3) := by decide +kernel
theorem dX11_choose_83 : decode cX11_choose 83 = .ok (.iload_n 3, 1) := by decide +kernel
theorem dX11_choose_84 : decode cX11_choose 84 = .ok (.invokestatic 128, 3) := by decide +kernel
theorem dX11_choose_87 : decode cX11_choose 87 = .ok (.iload_n 1, 1) := by decide +kernel
theorem dX11_choose_88 : decode cX11_choose 88 = .ok (.if_icmp .ne 32, 3) := by decide +kernel
theorem dX11_choose_91 : decode cX11_choose 91 = .ok (.aload_n 0, 1) := by decide +kernel
theorem dX11_choose_92 : decode cX11_choose 92 = .ok (.getfield 32, 3) := by decide +kernel
theorem dX11_choose_95 : decode cX11_choose 95 = .ok (.iload_n 3, 1) := by decide +kernel
theorem dX11_choose_96 : decode cX11_choose 96 = .ok (.iaload, 1) := by decide +kernel
theorem dX11_choose_97 : decode cX11_choose 97 = .ok (.bipush 31, 2) := by decide +kernel
theorem dX11_choose_99 : decode cX11_choose 99 = .ok (.if_icmp .ge 21, 3) := by decide +kernel
theorem dX11_choose_102 : decode cX11_choose 102 = .ok (.iload_n 2, 1) := by decide +kernel
theorem dX11_choose_103 : decode cX11_choose 103 = .ok (.aload_n 0, 1) := by decide +kernel
theorem dX11_choose_104 : decode cX11_choose 104 = .ok (.getfield 32, 3) := by decide +kernel
theorem dX11_choose_107 : decode cX11_choose 107 = .ok (.iload_n 3, 1) := by decide +kernel
theorem dX11_choose_108 : decode cX11_choose 108 = .ok (.iaload, 1) := by decide +kernel
theorem dX11_choose_109 : decode cX11_choose 109 = .ok (.ishr, 1) := by decide +kernel
theorem dX11_choose_110 : decode cX11_choose 110 = .ok (.iconst 1, 1) := by decide +kernel
theorem dX11_choose_111 : decode cX11_choose 111 = .ok (.iand, 1) := by decide +kernel
theorem dX11_choose_112 : decode cX11_choose 112 = .ok (.iconst 1, 1) := by decide +kernel
theorem dX11_choose_113 : decode cX11_choose 113 = .ok (.if_icmp .ne 7, 3) := by decide +kernel
theorem dX11_choose_116 : decode cX11_choose 116 = .ok (.iconst 1, 1) := by decide +kernel
theorem dX11_choose_117 : decode cX11_choose 117 = .ok (.goto 4, 3) := by decide +kernel
theorem dX11_choose_120 : decode cX11_choose 120 = .ok (.iconst 0, 1) := by decide +kernel
theorem dX11_choose_121 : decode cX11_choose 121 = .ok (.bastore, 1) := by decide +kernel
theorem dX11_choose_122 : decode cX11_choose 122 = .ok (.iinc 3 1, 3) := by decide +kernel
theorem dX11_choose_125 : decode cX11_choose 125 = .ok (.goto (-64), 3) := by decide +kernel
theorem dX11_choose_128 : decode cX11_choose 128 = .ok (.aload_n 0, 1) := by decide +kernel
theorem dX11_choose_129 : decode cX11_choose 129 = .ok (.getfield 20, 3) := by decide +kernel
theorem dX11_choose_132 : decode cX11_choose 132 = .ok (.iconst 0, 1) := by decide +kernel
theorem dX11_choose_133 : decode cX11_choose 133 = .ok (.aaload, 1) := by decide +kernel
theorem dX11_choose_134 : decode cX11_choose 134 = .ok (.invokestatic 170, 3) := by decide +kernel
theorem dX11_choose_137 : decode cX11_choose 137 = .ok (.ireturn, 1) := by decide +kernel
theorem dX11_block_0 : decode cX11_block 0 = .ok (.aload_n 0, 1) := by decide +kernel
theorem dX11_block_1 : decode cX11_block 1 = .ok (.iload_n 1, 1) := by decide +kernel
theorem dX11_block_2 : decode cX11_block 2 = .ok (.invokevirtual 125, 3) := by decide +kernel
theorem dX11_block_5 : decode cX11_block 5 = .ok (.ifCond .eq 17, 3) := by decide +kernel
theorem dX11_block_8 : decode cX11_block 8 = .ok (.iload_n 1, 1) := by decide +kernel
theorem dX11_block_9 : decode cX11_block 9 = .ok (.invokestatic 128, 3) := by decide +kernel
theorem dX11_block_12 : decode cX11_block 12 = .ok (.aload_n 0, 1) := by decide +kernel
theorem dX11_block_13 : decode cX11_block 13 = .ok (.getfield 11, 3) := by decide +kernel
theorem dX11_block_16 : decode cX11_block 16 = .ok (.bipush 42, 2) := by decide +kernel
theorem dX11_block_18 : decode cX11_block 18 = .ok (.iaload, 1) := by decide +kernel
theorem dX11_block_19 : decode cX11_block 19 = .ok (.if_icmp .eq 5, 3) := by decide +kernel
theorem dX11_block_22 : decode cX11_block 22 = .ok (.iconst (-1), 1) := by decide +kernel
theorem dX11_block_23 : decode cX11_block 23 = .ok (.ireturn, 1) := by decide +kernel
theorem dX11_block_24 : decode cX11_block 24 = .ok (.aload_n 0, 1) := by decide +kernel
theorem dX11_block_25 : decode cX11_block 25 = .ok (.getfield 20, 3) := by decide +kernel
theorem dX11_block_28 : decode cX11_block 28 = .ok (.iconst 0, 1) := by decide +kernel
theorem dX11_block_29 : decode cX11_block 29 = .ok (.aaload, 1) := by decide +kernel
theorem dX11_block_30 : decode cX11_block 30 = .ok (.iload_n 1, 1) := by decide +kernel
theorem dX11_block_31 : decode cX11_block 31 = .ok (.aload_n 0, 1) := by decide +kernel
theorem dX11_block_32 : decode cX11_block 32 = .ok (.getfield 20, 3) := by decide +kernel
theorem dX11_block_35 : decode cX11_block 35 = .ok (.iconst 0, 1) := by decide +kernel
theorem dX11_block_36 : decode cX11_block 36 = .ok (.aaload, 1) := by decide +kernel
theorem dX11_block_37 : decode cX11_block 37 = .ok (.iload_n 1, 1) := by decide +kernel
theorem dX11_block_38 : decode cX11_block 38 = .ok (.baload, 1) := by decide +kernel
theorem dX11_block_39 : decode cX11_block 39 = .ok (.ifCond .ne 7, 3) := by decide +kernel
theorem dX11_block_42 : decode cX11_block 42 = .ok (.iconst 1, 1) := by decide +kernel
theorem dX11_block_43 : decode cX11_block 43 = .ok (.goto 4, 3) := by decide +kernel
theorem dX11_block_46 : decode cX11_block 46 = .ok (.iconst 0, 1) := by decide +kernel
theorem dX11_block_47 : decode cX11_block 47 = .ok (.bastore, 1) := by decide +kernel
theorem dX11_block_48 : decode cX11_block 48 = .ok (.aload_n 0, 1) := by decide +kernel
theorem dX11_block_49 : decode cX11_block 49 = .ok (.getfield 20, 3) := by decide +kernel
theorem dX11_block_52 : decode cX11_block 52 = .ok (.iconst 0, 1) := by decide +kernel
theorem dX11_block_53 : decode cX11_block 53 = .ok (.aaload, 1) := by decide +kernel
theorem dX11_block_54 : decode cX11_block 54 = .ok (.invokestatic 170, 3) := by decide +kernel
theorem dX11_block_57 : decode cX11_block 57 = .ok (.ireturn, 1) := by decide +kernel
theorem dX11_blockOf_0 : decode cX11_blockOf 0 = .ok (.iload_n 1, 1) := by decide +kernel
theorem dX11_blockOf_1 : decode cX11_blockOf 1 = .ok (.ifCond .ge 5, 3) := by decide +kernel
theorem dX11_blockOf_4 : decode cX11_blockOf 4 = .ok (.iconst (-1), 1) := by decide +kernel
theorem dX11_blockOf_5 : decode cX11_blockOf 5 = .ok (.ireturn, 1) := by decide +kernel
theorem dX11_blockOf_6 : decode cX11_blockOf 6 = .ok (.iload_n 1, 1) := by decide +kernel
theorem dX11_blockOf_7 : decode cX11_blockOf 7 = .ok (.istore_n 2, 1) := by decide +kernel
theorem dX11_blockOf_8 : decode cX11_blockOf 8 = .ok (.iconst 0, 1) := by decide +kernel
theorem dX11_blockOf_9 : decode cX11_blockOf 9 = .ok (.istore_n 3, 1) := by decide +kernel
theorem dX11_blockOf_10 : decode cX11_blockOf 10 = .ok (.iload_n 3, 1) := by decide +kernel
theorem dX11_blockOf_11 : decode cX11_blockOf 11 = .ok (.sipush 256, 3) := by decide +kernel
theorem dX11_blockOf_14 : decode cX11_blockOf 14 = .ok (.if_icmp .ge 29, 3) := by decide +kernel
theorem dX11_blockOf_17 : decode cX11_blockOf 17 = .ok (.aload_n 0, 1) := by decide +kernel
theorem dX11_blockOf_18 : decode cX11_blockOf 18 = .ok (.getfield 20, 3) := by decide +kernel
theorem dX11_blockOf_21 : decode cX11_blockOf 21 = .ok (.iconst 0, 1) := by decide +kernel
theorem dX11_blockOf_22 : decode cX11_blockOf 22 = .ok (.aaload, 1) := by decide +kernel
theorem dX11_blockOf_23 : decode cX11_blockOf 23 = .ok (.iload_n 3, 1) := by decide +kernel
theorem dX11_blockOf_24 : decode cX11_blockOf 24 = .ok (.baload, 1) := by decide +kernel
theorem dX11_blockOf_25 : decode cX11_blockOf 25 = .ok (.ifCond .eq 12, 3) := by decide +kernel
theorem dX11_blockOf_28 : decode cX11_blockOf 28 = .ok (.iload_n 2, 1) := by decide +kernel
theorem dX11_blockOf_29 : decode cX11_blockOf 29 = .ok (.ifCond .ne 5, 3) := by decide +kernel
theorem dX11_blockOf_32 : decode cX11_blockOf 32 = .ok (.iload_n 3, 1) := by decide +kernel
theorem dX11_blockOf_33 : decode cX11_blockOf 33 = .ok (.ireturn, 1) := by decide +kernel
theorem dX11_blockOf_34 : decode cX11_blockOf 34 = .ok (.iinc 2 (-1), 3) := by decide +kernel
theorem dX11_blockOf_37 : decode cX11_blockOf 37 = .ok (.iinc 3 1, 3) := by decide +kernel
theorem dX11_blockOf_40 : decode cX11_blockOf 40 = .ok (.goto (-30), 3) := by decide +kernel
theorem dX11_blockOf_43 : decode cX11_blockOf 43 = .ok (.bipush (-5), 2) := by decide +kernel
theorem dX11_blockOf_45 : decode cX11_blockOf 45 = .ok (.ireturn, 1) := by decide +kernel
theorem dX11_shareOf_0 : decode cX11_shareOf 0 = .ok (.iconst (-1), 1) := by decide +kernel
theorem dX11_shareOf_1 : decode cX11_shareOf 1 = .ok (.istore_n 3, 1) := by decide +kernel
theorem dX11_shareOf_2 : decode cX11_shareOf 2 = .ok (.iconst 0, 1) := by decide +kernel
theorem dX11_shareOf_3 : decode cX11_shareOf 3 = .ok (.istore 4, 2) := by decide +kernel
theorem dX11_shareOf_5 : decode cX11_shareOf 5 = .ok (.iload 4, 2) := by decide +kernel
theorem dX11_shareOf_7 : decode cX11_shareOf 7 = .ok (.sipush 256, 3) := by decide +kernel
theorem dX11_shareOf_10 : decode cX11_shareOf 10 = .ok (.if_icmp .ge 90, 3) := by decide +kernel
theorem dX11_shareOf_13 : decode cX11_shareOf 13 = .ok (.iload 4, 2) := by decide +kernel
theorem dX11_shareOf_15 : decode cX11_shareOf 15 = .ok (.iload_n 1, 1) := by decide +kernel
theorem dX11_shareOf_16 : decode cX11_shareOf 16 = .ok (.iconst (-1), 1) := by decide +kernel
theorem dX11_shareOf_17 : decode cX11_shareOf 17 = .ok (.ixor, 1) := by decide +kernel
theorem dX11_shareOf_18 : decode cX11_shareOf 18 = .ok (.iand, 1) := by decide +kernel
theorem dX11_shareOf_19 : decode cX11_shareOf 19 = .ok (.ifCond .ne 75, 3) := by decide +kernel
theorem dX11_shareOf_22 : decode cX11_shareOf 22 = .ok (.iload 4, 2) := by decide +kernel
theorem dX11_shareOf_24 : decode cX11_shareOf 24 = .ok (.invokestatic 128, 3) := by decide +kernel
theorem dX11_shareOf_27 : decode cX11_shareOf 27 = .ok (.iload_n 2, 1) := by decide +kernel
theorem dX11_shareOf_28 : decode cX11_shareOf 28 = .ok (.if_icmp .ne 66, 3) := by decide +kernel
theorem dX11_shareOf_31 : decode cX11_shareOf 31 = .ok (.iconst 0, 1) := by decide +kernel
theorem dX11_shareOf_32 : decode cX11_shareOf 32 = .ok (.istore 5, 2) := by decide +kernel
theorem dX11_shareOf_34 : decode cX11_shareOf 34 = .ok (.iconst 0, 1) := by decide +kernel
theorem dX11_shareOf_35 : decode cX11_shareOf 35 = .ok (.istore 6, 2) := by decide +kernel
theorem dX11_shareOf_37 : decode cX11_shareOf 37 = .ok (.iload 6, 2) := by decide +kernel
theorem dX11_shareOf_39 : decode cX11_shareOf 39 = .ok (.sipush 256, 3) := by decide +kernel
theorem dX11_shareOf_42 : decode cX11_shareOf 42 = .ok (.if_icmp .ge 36, 3) := by decide +kernel
theorem dX11_shareOf_45 : decode cX11_shareOf 45 = .ok (.iload 5, 2) := by decide +kernel
theorem dX11_shareOf_47 : decode cX11_shareOf 47 = .ok (.aload_n 0, 1) := by decide +kernel
theorem dX11_shareOf_48 : decode cX11_shareOf 48 = .ok (.iload 6, 2) := by decide +kernel
theorem dX11_shareOf_50 : decode cX11_shareOf 50 = .ok (.baload, 1) := by decide +kernel
theorem dX11_shareOf_51 : decode cX11_shareOf 51 = .ok (.ifCond .eq 17, 3) := by decide +kernel
theorem dX11_shareOf_54 : decode cX11_shareOf 54 = .ok (.iload 4, 2) := by decide +kernel
theorem dX11_shareOf_56 : decode cX11_shareOf 56 = .ok (.iload 6, 2) := by decide +kernel
theorem dX11_shareOf_58 : decode cX11_shareOf 58 = .ok (.iconst (-1), 1) := by decide +kernel
theorem dX11_shareOf_59 : decode cX11_shareOf 59 = .ok (.ixor, 1) := by decide +kernel
theorem dX11_shareOf_60 : decode cX11_shareOf 60 = .ok (.iand, 1) := by decide +kernel
theorem dX11_shareOf_61 : decode cX11_shareOf 61 = .ok (.ifCond .ne 7, 3) := by decide +kernel
theorem dX11_shareOf_64 : decode cX11_shareOf 64 = .ok (.iconst 1, 1) := by decide +kernel
theorem dX11_shareOf_65 : decode cX11_shareOf 65 = .ok (.goto 4, 3) := by decide +kernel
theorem dX11_shareOf_68 : decode cX11_shareOf 68 = .ok (.iconst 0, 1) := by decide +kernel
theorem dX11_shareOf_69 : decode cX11_shareOf 69 = .ok (.iadd, 1) := by decide +kernel
theorem dX11_shareOf_70 : decode cX11_shareOf 70 = .ok (.istore 5, 2) := by decide +kernel
theorem dX11_shareOf_72 : decode cX11_shareOf 72 = .ok (.iinc 6 1, 3) := by decide +kernel
theorem dX11_shareOf_75 : decode cX11_shareOf 75 = .ok (.goto (-38), 3) := by decide +kernel
theorem dX11_shareOf_78 : decode cX11_shareOf 78 = .ok (.iload_n 3, 1) := by decide +kernel
theorem dX11_shareOf_79 : decode cX11_shareOf 79 = .ok (.ifCond .lt 12, 3) := by decide +kernel
theorem dX11_shareOf_82 : decode cX11_shareOf 82 = .ok (.iload 5, 2) := by decide +kernel
theorem dX11_shareOf_84 : decode cX11_shareOf 84 = .ok (.iload_n 3, 1) := by decide +kernel
theorem dX11_shareOf_85 : decode cX11_shareOf 85 = .ok (.if_icmp .eq 6, 3) := by decide +kernel
theorem dX11_shareOf_88 : decode cX11_shareOf 88 = .ok (.bipush (-5), 2) := by decide +kernel
theorem dX11_shareOf_90 : decode cX11_shareOf 90 = .ok (.ireturn, 1) := by decide +kernel
theorem dX11_shareOf_91 : decode cX11_shareOf 91 = .ok (.iload 5, 2) := by decide +kernel
theorem dX11_shareOf_93 : decode cX11_shareOf 93 = .ok (.istore_n 3, 1) := by decide +kernel
theorem dX11_shareOf_94 : decode cX11_shareOf 94 = .ok (.iinc 4 1, 3) := by decide +kernel
theorem dX11_shareOf_97 : decode cX11_shareOf 97 = .ok (.goto (-92), 3) := by decide +kernel
theorem dX11_shareOf_100 : decode cX11_shareOf 100 = .ok (.iload_n 3, 1) := by decide +kernel
theorem dX11_shareOf_101 : decode cX11_shareOf 101 = .ok (.ireturn, 1) := by decide +kernel
theorem dX11_strengthOf_0 : decode cX11_strengthOf 0 = .ok (.iconst 0, 1) := by decide +kernel
theorem dX11_strengthOf_1 : decode cX11_strengthOf 1 = .ok (.istore_n 3, 1) := by decide +kernel
theorem dX11_strengthOf_2 : decode cX11_strengthOf 2 = .ok (.iload_n 3, 1) := by decide +kernel
theorem dX11_strengthOf_3 : decode cX11_strengthOf 3 = .ok (.iload_n 2, 1) := by decide +kernel
theorem dX11_strengthOf_4 : decode cX11_strengthOf 4 = .ok (.if_icmp .ge 20, 3) := by decide +kernel
theorem dX11_strengthOf_7 : decode cX11_strengthOf 7 = .ok (.aload_n 0, 1) := by decide +kernel
theorem dX11_strengthOf_8 : decode cX11_strengthOf 8 = .ok (.iload_n 1, 1) := by decide +kernel
theorem dX11_strengthOf_9 : decode cX11_strengthOf 9 = .ok (.iload_n 3, 1) := by decide +kernel
theorem dX11_strengthOf_10 : decode cX11_strengthOf 10 = .ok (.iconst 1, 1) := by decide +kernel
theorem dX11_strengthOf_11 : decode cX11_strengthOf 11 = .ok (.iadd, 1) := by decide +kernel
theorem dX11_strengthOf_12 : decode cX11_strengthOf 12 = .ok (.invokestatic 174, 3) := by decide +kernel
theorem dX11_strengthOf_15 : decode cX11_strengthOf 15 = .ok (.ifCond .lt 9, 3) := by decide +kernel
theorem dX11_strengthOf_18 : decode cX11_strengthOf 18 = .ok (.iinc 3 1, 3) := by decide +kernel
theorem dX11_strengthOf_21 : decode cX11_strengthOf 21 = .ok (.goto (-19), 3) := by decide +kernel
theorem dX11_strengthOf_24 : decode cX11_strengthOf 24 = .ok (.iload_n 3, 1) := by decide +kernel
theorem dX11_strengthOf_25 : decode cX11_strengthOf 25 = .ok (.ireturn, 1) := by decide +kernel
theorem dX11_blocks_0 : decode cX11_blocks 0 = .ok (.iconst 0, 1) := by decide +kernel
theorem dX11_blocks_1 : decode cX11_blocks 1 = .ok (.istore_n 2, 1) := by decide +kernel
theorem dX11_blocks_2 : decode cX11_blocks 2 = .ok (.iconst 0, 1) := by decide +kernel
theorem dX11_blocks_3 : decode cX11_blocks 3 = .ok (.istore_n 3, 1) := by decide +kernel
theorem dX11_blocks_4 : decode cX11_blocks 4 = .ok (.iload_n 3, 1) := by decide +kernel
theorem dX11_blocks_5 : decode cX11_blocks 5 = .ok (.sipush 256, 3) := by decide +kernel
theorem dX11_blocks_8 : decode cX11_blocks 8 = .ok (.if_icmp .ge 28, 3) := by decide +kernel
theorem dX11_blocks_11 : decode cX11_blocks 11 = .ok (.iload_n 2, 1) := by decide +kernel
theorem dX11_blocks_12 : decode cX11_blocks 12 = .ok (.aload_n 0, 1) := by decide +kernel
theorem dX11_blocks_13 : decode cX11_blocks 13 = .ok (.getfield 20, 3) := by decide +kernel
theorem dX11_blocks_16 : decode cX11_blocks 16 = .ok (.iconst 0, 1) := by decide +kernel
theorem dX11_blocks_17 : decode cX11_blocks 17 = .ok (.aaload, 1) := by decide +kernel
theorem dX11_blocks_18 : decode cX11_blocks 18 = .ok (.iload_n 3, 1) := by decide +kernel
theorem dX11_blocks_19 : decode cX11_blocks 19 = .ok (.baload, 1) := by decide +kernel
theorem dX11_blocks_20 : decode cX11_blocks 20 = .ok (.ifCond .eq 7, 3) := by decide +kernel
theorem dX11_blocks_23 : decode cX11_blocks 23 = .ok (.iload_n 3, 1) := by decide +kernel
theorem dX11_blocks_24 : decode cX11_blocks 24 = .ok (.goto 4, 3) := by decide +kernel
theorem dX11_blocks_27 : decode cX11_blocks 27 = .ok (.iconst 0, 1) := by decide +kernel
theorem dX11_blocks_28 : decode cX11_blocks 28 = .ok (.ior, 1) := by decide +kernel
theorem dX11_blocks_29 : decode cX11_blocks 29 = .ok (.istore_n 2, 1) := by decide +kernel
theorem dX11_blocks_30 : decode cX11_blocks 30 = .ok (.iinc 3 1, 3) := by decide +kernel
theorem dX11_blocks_33 : decode cX11_blocks 33 = .ok (.goto (-29), 3) := by decide +kernel
theorem dX11_blocks_36 : decode cX11_blocks 36 = .ok (.iload_n 1, 1) := by decide +kernel
theorem dX11_blocks_37 : decode cX11_blocks 37 = .ok (.tableswitch 75 0 3 #[31, 39, 49, 70], 31) := by decide +kernel
theorem dX11_blocks_68 : decode cX11_blocks 68 = .ok (.aload_n 0, 1) := by decide +kernel
theorem dX11_blocks_69 : decode cX11_blocks 69 = .ok (.getfield 11, 3) := by decide +kernel
theorem dX11_blocks_72 : decode cX11_blocks 72 = .ok (.bipush 42, 2) := by decide +kernel
theorem dX11_blocks_74 : decode cX11_blocks 74 = .ok (.iaload, 1) := by decide +kernel
theorem dX11_blocks_75 : decode cX11_blocks 75 = .ok (.ireturn, 1) := by decide +kernel
theorem dX11_blocks_76 : decode cX11_blocks 76 = .ok (.aload_n 0, 1) := by decide +kernel
theorem dX11_blocks_77 : decode cX11_blocks 77 = .ok (.getfield 20, 3) := by decide +kernel
theorem dX11_blocks_80 : decode cX11_blocks 80 = .ok (.iconst 0, 1) := by decide +kernel
theorem dX11_blocks_81 : decode cX11_blocks 81 = .ok (.aaload, 1) := by decide +kernel
theorem dX11_blocks_82 : decode cX11_blocks 82 = .ok (.invokestatic 170, 3) := by decide +kernel
theorem dX11_blocks_85 : decode cX11_blocks 85 = .ok (.ireturn, 1) := by decide +kernel
theorem dX11_blocks_86 : decode cX11_blocks 86 = .ok (.aload_n 0, 1) := by decide +kernel
theorem dX11_blocks_87 : decode cX11_blocks 87 = .ok (.getfield 20, 3) := by decide +kernel
theorem dX11_blocks_90 : decode cX11_blocks 90 = .ok (.iconst 0, 1) := by decide +kernel
theorem dX11_blocks_91 : decode cX11_blocks 91 = .ok (.aaload, 1) := by decide +kernel
theorem dX11_blocks_92 : decode cX11_blocks 92 = .ok (.aload_n 0, 1) := by decide +kernel
theorem dX11_blocks_93 : decode cX11_blocks 93 = .ok (.invokevirtual 81, 3) := by decide +kernel
theorem dX11_blocks_96 : decode cX11_blocks 96 = .ok (.aload_n 0, 1) := by decide +kernel
theorem dX11_blocks_97 : decode cX11_blocks 97 = .ok (.getfield 11, 3) := by decide +kernel
theorem dX11_blocks_100 : decode cX11_blocks 100 = .ok (.bipush 42, 2) := by decide +kernel
theorem dX11_blocks_102 : decode cX11_blocks 102 = .ok (.iaload, 1) := by decide +kernel
theorem dX11_blocks_103 : decode cX11_blocks 103 = .ok (.invokestatic 178, 3) := by decide +kernel
theorem dX11_blocks_106 : decode cX11_blocks 106 = .ok (.ireturn, 1) := by decide +kernel
theorem dX11_blocks_107 : decode cX11_blocks 107 = .ok (.iload_n 2, 1) := by decide +kernel
theorem dX11_blocks_108 : decode cX11_blocks 108 = .ok (.invokestatic 128, 3) := by decide +kernel
theorem dX11_blocks_111 : decode cX11_blocks 111 = .ok (.ireturn, 1) := by decide +kernel
theorem dX11_blocks_112 : decode cX11_blocks 112 = .ok (.iconst (-1), 1) := by decide +kernel
theorem dX11_blocks_113 : decode cX11_blocks 113 = .ok (.ireturn, 1) := by decide +kernel
theorem dX11_share_0 : decode cX11_share 0 = .ok (.iload_n 1, 1) := by decide +kernel
theorem dX11_share_1 : decode cX11_share 1 = .ok (.i2l, 1) := by decide +kernel
theorem dX11_share_2 : decode cX11_share 2 = .ok (.lconst 0, 1) := by decide +kernel
theorem dX11_share_3 : decode cX11_share 3 = .ok (.aload_n 0, 1) := by decide +kernel
theorem dX11_share_4 : decode cX11_share 4 = .ok (.getfield 11, 3) := by decide +kernel
theorem dX11_share_7 : decode cX11_share 7 = .ok (.bipush 42, 2) := by decide +kernel
theorem dX11_share_9 : decode cX11_share 9 = .ok (.iaload, 1) := by decide +kernel
theorem dX11_share_10 : decode cX11_share 10 = .ok (.i2l, 1) := by decide +kernel
theorem dX11_share_11 : decode cX11_share 11 = .ok (.invokestatic 85, 3) := by decide +kernel
theorem dX11_share_14 : decode cX11_share 14 = .ok (.ifCond .eq 20, 3) := by decide +kernel
theorem dX11_share_17 : decode cX11_share 17 = .ok (.aload_n 0, 1) := by decide +kernel
theorem dX11_share_18 : decode cX11_share 18 = .ok (.getfield 20, 3) := by decide +kernel
theorem dX11_share_21 : decode cX11_share 21 = .ok (.iconst 0, 1) := by decide +kernel
theorem dX11_share_22 : decode cX11_share 22 = .ok (.aaload, 1) := by decide +kernel
theorem dX11_share_23 : decode cX11_share 23 = .ok (.aload_n 0, 1) := by decide +kernel
theorem dX11_share_24 : decode cX11_share 24 = .ok (.invokevirtual 81, 3) := by decide +kernel
theorem dX11_share_27 : decode cX11_share 27 = .ok (.iload_n 1, 1) := by decide +kernel
theorem dX11_share_28 : decode cX11_share 28 = .ok (.invokestatic 174, 3) := by decide +kernel
theorem dX11_share_31 : decode cX11_share 31 = .ok (.goto 5, 3) := by decide +kernel
theorem dX11_share_34 : decode cX11_share 34 = .ok (.bipush (-2), 2) := by decide +kernel
theorem dX11_share_36 : decode cX11_share 36 = .ok (.ireturn, 1) := by decide +kernel
theorem dX11_meets_0 : decode cX11_meets 0 = .ok (.aload_n 0, 1) := by decide +kernel
theorem dX11_meets_1 : decode cX11_meets 1 = .ok (.iload_n 1, 1) := by decide +kernel
theorem dX11_meets_2 : decode cX11_meets 2 = .ok (.invokevirtual 125, 3) := by decide +kernel
theorem dX11_meets_5 : decode cX11_meets 5 = .ok (.ifCond .ne 5, 3) := by decide +kernel
theorem dX11_meets_8 : decode cX11_meets 8 = .ok (.iconst (-1), 1) := by decide +kernel
theorem dX11_meets_9 : decode cX11_meets 9 = .ok (.ireturn, 1) := by decide +kernel
theorem dX11_meets_10 : decode cX11_meets 10 = .ok (.iload_n 2, 1) := by decide +kernel
theorem dX11_meets_11 : decode cX11_meets 11 = .ok (.i2l, 1) := by decide +kernel
theorem dX11_meets_12 : decode cX11_meets 12 = .ok (.lconst 0, 1) := by decide +kernel
theorem dX11_meets_13 : decode cX11_meets 13 = .ok (.ldc2_w 91, 3) := by decide +kernel
theorem dX11_meets_16 : decode cX11_meets 16 = .ok (.invokestatic 85, 3) := by decide +kernel
theorem dX11_meets_19 : decode cX11_meets 19 = .ok (.ifCond .ne 6, 3) := by decide +kernel
theorem dX11_meets_22 : decode cX11_meets 22 = .ok (.bipush (-2), 2) := by decide +kernel
theorem dX11_meets_24 : decode cX11_meets 24 = .ok (.ireturn, 1) := by decide +kernel
theorem dX11_meets_25 : decode cX11_meets 25 = .ok (.iconst 0, 1) := by decide +kernel
theorem dX11_meets_26 : decode cX11_meets 26 = .ok (.istore_n 3, 1) := by decide +kernel
theorem dX11_meets_27 : decode cX11_meets 27 = .ok (.iconst 0, 1) := by decide +kernel
theorem dX11_meets_28 : decode cX11_meets 28 = .ok (.istore 4, 2) := by decide +kernel
theorem dX11_meets_30 : decode cX11_meets 30 = .ok (.iload 4, 2) := by decide +kernel
theorem dX11_meets_32 : decode cX11_meets 32 = .ok (.sipush 256, 3) := by decide +kernel
theorem dX11_meets_35 : decode cX11_meets 35 = .ok (.if_icmp .ge 40, 3) := by decide +kernel
theorem dX11_meets_38 : decode cX11_meets 38 = .ok (.iload_n 3, 1) := by decide +kernel
theorem dX11_meets_39 : decode cX11_meets 39 = .ok (.aload_n 0, 1) := by decide +kernel
theorem dX11_meets_40 : decode cX11_meets 40 = .ok (.getfield 20, 3) := by decide +kernel
theorem dX11_meets_43 : decode cX11_meets 43 = .ok (.iconst 0, 1) := by decide +kernel
theorem dX11_meets_44 : decode cX11_meets 44 = .ok (.aaload, 1) := by decide +kernel
theorem dX11_meets_45 : decode cX11_meets 45 = .ok (.iload 4, 2) := by decide +kernel
theorem dX11_meets_47 : decode cX11_meets 47 = .ok (.baload, 1) := by decide +kernel
theorem dX11_meets_48 : decode cX11_meets 48 = .ok (.ifCond .eq 18, 3) := by decide +kernel
theorem dX11_meets_51 : decode cX11_meets 51 = .ok (.iload 4, 2) := by decide +kernel
theorem dX11_meets_53 : decode cX11_meets 53 = .ok (.iload_n 1, 1) := by decide +kernel
theorem dX11_meets_54 : decode cX11_meets 54 = .ok (.iand, 1) := by decide +kernel
theorem dX11_meets_55 : decode cX11_meets 55 = .ok (.invokestatic 128, 3) := by decide +kernel
theorem dX11_meets_58 : decode cX11_meets 58 = .ok (.iload_n 2, 1) := by decide +kernel
theorem dX11_meets_59 : decode cX11_meets 59 = .ok (.if_icmp .ne 7, 3) := by decide +kernel
theorem dX11_meets_62 : decode cX11_meets 62 = .ok (.iconst 1, 1) := by decide +kernel
theorem dX11_meets_63 : decode cX11_meets 63 = .ok (.goto 4, 3) := by decide +kernel
theorem dX11_meets_66 : decode cX11_meets 66 = .ok (.iconst 0, 1) := by decide +kernel
theorem dX11_meets_67 : decode cX11_meets 67 = .ok (.iadd, 1) := by decide +kernel
theorem dX11_meets_68 : decode cX11_meets 68 = .ok (.istore_n 3, 1) := by decide +kernel
theorem dX11_meets_69 : decode cX11_meets 69 = .ok (.iinc 4 1, 3) := by decide +kernel
theorem dX11_meets_72 : decode cX11_meets 72 = .ok (.goto (-42), 3) := by decide +kernel
theorem dX11_meets_75 : decode cX11_meets 75 = .ok (.iload_n 3, 1) := by decide +kernel
theorem dX11_meets_76 : decode cX11_meets 76 = .ok (.ireturn, 1) := by decide +kernel
theorem dX11_turned_0 : decode cX11_turned 0 = .ok (.aload_n 0, 1) := by decide +kernel
theorem dX11_turned_1 : decode cX11_turned 1 = .ok (.getfield 11, 3) := by decide +kernel
theorem dX11_turned_4 : decode cX11_turned 4 = .ok (.bipush 42, 2) := by decide +kernel
theorem dX11_turned_6 : decode cX11_turned 6 = .ok (.iaload, 1) := by decide +kernel
theorem dX11_turned_7 : decode cX11_turned 7 = .ok (.aload_n 0, 1) := by decide +kernel
theorem dX11_turned_8 : decode cX11_turned 8 = .ok (.getfield 11, 3) := by decide +kernel
theorem dX11_turned_11 : decode cX11_turned 11 = .ok (.iconst 0, 1) := by decide +kernel
theorem dX11_turned_12 : decode cX11_turned 12 = .ok (.iaload, 1) := by decide +kernel
theorem dX11_turned_13 : decode cX11_turned 13 = .ok (.if_icmp .ne 6, 3) := by decide +kernel
theorem dX11_turned_16 : decode cX11_turned 16 = .ok (.bipush (-3), 2) := by decide +kernel
theorem dX11_turned_18 : decode cX11_turned 18 = .ok (.ireturn, 1) := by decide +kernel
theorem dX11_turned_19 : decode cX11_turned 19 = .ok (.iconst 0, 1) := by decide +kernel
theorem dX11_turned_20 : decode cX11_turned 20 = .ok (.istore_n 1, 1) := by decide +kernel
theorem dX11_turned_21 : decode cX11_turned 21 = .ok (.iload_n 1, 1) := by decide +kernel
theorem dX11_turned_22 : decode cX11_turned 22 = .ok (.sipush 256, 3) := by decide +kernel
theorem dX11_turned_25 : decode cX11_turned 25 = .ok (.if_icmp .ge 23, 3) := by decide +kernel
theorem dX11_turned_28 : decode cX11_turned 28 = .ok (.aload_n 0, 1) := by decide +kernel
theorem dX11_turned_29 : decode cX11_turned 29 = .ok (.getfield 49, 3) := by decide +kernel
theorem dX11_turned_32 : decode cX11_turned 32 = .ok (.iload_n 1, 1) := by decide +kernel
theorem dX11_turned_33 : decode cX11_turned 33 = .ok (.aload_n 0, 1) := by decide +kernel
theorem dX11_turned_34 : decode cX11_turned 34 = .ok (.getfield 20, 3) := by decide +kernel
theorem dX11_turned_37 : decode cX11_turned 37 = .ok (.iconst 0, 1) := by decide +kernel
theorem dX11_turned_38 : decode cX11_turned 38 = .ok (.aaload, 1) := by decide +kernel
theorem dX11_turned_39 : decode cX11_turned 39 = .ok (.iload_n 1, 1) := by decide +kernel
theorem dX11_turned_40 : decode cX11_turned 40 = .ok (.baload, 1) := by decide +kernel
theorem dX11_turned_41 : decode cX11_turned 41 = .ok (.bastore, 1) := by decide +kernel
theorem dX11_turned_42 : decode cX11_turned 42 = .ok (.iinc 1 1, 3) := by decide +kernel
theorem dX11_turned_45 : decode cX11_turned 45 = .ok (.goto (-24), 3) := by decide +kernel
theorem dX11_turned_48 : decode cX11_turned 48 = .ok (.iconst 0, 1) := by decide +kernel
theorem dX11_turned_49 : decode cX11_turned 49 = .ok (.istore_n 1, 1) := by decide +kernel
theorem dX11_turned_50 : decode cX11_turned 50 = .ok (.iload_n 1, 1) := by decide +kernel
theorem dX11_turned_51 : decode cX11_turned 51 = .ok (.sipush 256, 3) := by decide +kernel
theorem dX11_turned_54 : decode cX11_turned 54 = .ok (.if_icmp .ge 46, 3) := by decide +kernel
theorem dX11_turned_57 : decode cX11_turned 57 = .ok (.aload_n 0, 1) := by decide +kernel
theorem dX11_turned_58 : decode cX11_turned 58 = .ok (.getfield 20, 3) := by decide +kernel
theorem dX11_turned_61 : decode cX11_turned 61 = .ok (.iconst 0, 1) := by decide +kernel
theorem dX11_turned_62 : decode cX11_turned 62 = .ok (.aaload, 1) := by decide +kernel
theorem dX11_turned_63 : decode cX11_turned 63 = .ok (.iload_n 1, 1) := by decide +kernel
theorem dX11_turned_64 : decode cX11_turned 64 = .ok (.iload_n 1, 1) := by decide +kernel
theorem dX11_turned_65 : decode cX11_turned 65 = .ok (.aload_n 0, 1) := by decide +kernel
theorem dX11_turned_66 : decode cX11_turned 66 = .ok (.invokevirtual 81, 3) := by decide +kernel
theorem dX11_turned_69 : decode cX11_turned 69 = .ok (.if_icmp .gt 23, 3) := by decide +kernel
theorem dX11_turned_72 : decode cX11_turned 72 = .ok (.aload_n 0, 1) := by decide +kernel
theorem dX11_turned_73 : decode cX11_turned 73 = .ok (.getfield 49, 3) := by decide +kernel
theorem dX11_turned_76 : decode cX11_turned 76 = .ok (.aload_n 0, 1) := by decide +kernel
theorem dX11_turned_77 : decode cX11_turned 77 = .ok (.invokevirtual 81, 3) := by decide +kernel
theorem dX11_turned_80 : decode cX11_turned 80 = .ok (.iload_n 1, 1) := by decide +kernel
theorem dX11_turned_81 : decode cX11_turned 81 = .ok (.iconst (-1), 1) := by decide +kernel
theorem dX11_turned_82 : decode cX11_turned 82 = .ok (.ixor, 1) := by decide +kernel
theorem dX11_turned_83 : decode cX11_turned 83 = .ok (.iand, 1) := by decide +kernel
theorem dX11_turned_84 : decode cX11_turned 84 = .ok (.baload, 1) := by decide +kernel
theorem dX11_turned_85 : decode cX11_turned 85 = .ok (.ifCond .eq 7, 3) := by decide +kernel
theorem dX11_turned_88 : decode cX11_turned 88 = .ok (.iconst 1, 1) := by decide +kernel
theorem dX11_turned_89 : decode cX11_turned 89 = .ok (.goto 4, 3) := by decide +kernel
theorem dX11_turned_92 : decode cX11_turned 92 = .ok (.iconst 0, 1) := by decide +kernel
theorem dX11_turned_93 : decode cX11_turned 93 = .ok (.bastore, 1) := by decide +kernel
theorem dX11_turned_94 : decode cX11_turned 94 = .ok (.iinc 1 1, 3) := by decide +kernel
theorem dX11_turned_97 : decode cX11_turned 97 = .ok (.goto (-47), 3) := by decide +kernel
theorem dX11_turned_100 : decode cX11_turned 100 = .ok (.aload_n 0, 1) := by decide +kernel
theorem dX11_turned_101 : decode cX11_turned 101 = .ok (.getfield 11, 3) := by decide +kernel
theorem dX11_turned_104 : decode cX11_turned 104 = .ok (.bipush 42, 2) := by decide +kernel
theorem dX11_turned_106 : decode cX11_turned 106 = .ok (.aload_n 0, 1) := by decide +kernel
theorem dX11_turned_107 : decode cX11_turned 107 = .ok (.getfield 11, 3) := by decide +kernel
theorem dX11_turned_110 : decode cX11_turned 110 = .ok (.iconst 0, 1) := by decide +kernel
theorem dX11_turned_111 : decode cX11_turned 111 = .ok (.iaload, 1) := by decide +kernel
theorem dX11_turned_112 : decode cX11_turned 112 = .ok (.aload_n 0, 1) := by decide +kernel
theorem dX11_turned_113 : decode cX11_turned 113 = .ok (.getfield 11, 3) := by decide +kernel
theorem dX11_turned_116 : decode cX11_turned 116 = .ok (.bipush 42, 2) := by decide +kernel
theorem dX11_turned_118 : decode cX11_turned 118 = .ok (.iaload, 1) := by decide +kernel
theorem dX11_turned_119 : decode cX11_turned 119 = .ok (.isub, 1) := by decide +kernel
theorem dX11_turned_120 : decode cX11_turned 120 = .ok (.iastore, 1) := by decide +kernel
theorem dX11_turned_121 : decode cX11_turned 121 = .ok (.aload_n 0, 1) := by decide +kernel
theorem dX11_turned_122 : decode cX11_turned 122 = .ok (.getfield 20, 3) := by decide +kernel
theorem dX11_turned_125 : decode cX11_turned 125 = .ok (.iconst 0, 1) := by decide +kernel
theorem dX11_turned_126 : decode cX11_turned 126 = .ok (.aaload, 1) := by decide +kernel
theorem dX11_turned_127 : decode cX11_turned 127 = .ok (.invokestatic 170, 3) := by decide +kernel
theorem dX11_turned_130 : decode cX11_turned 130 = .ok (.ireturn, 1) := by decide +kernel
theorem dX11_parted_0 : decode cX11_parted 0 = .ok (.aload_n 0, 1) := by decide +kernel
theorem dX11_parted_1 : decode cX11_parted 1 = .ok (.iload_n 1, 1) := by decide +kernel
theorem dX11_parted_2 : decode cX11_parted 2 = .ok (.invokevirtual 105, 3) := by decide +kernel
theorem dX11_parted_5 : decode cX11_parted 5 = .ok (.ifCond .eq 15, 3) := by decide +kernel
theorem dX11_parted_8 : decode cX11_parted 8 = .ok (.iload_n 2, 1) := by decide +kernel
theorem dX11_parted_9 : decode cX11_parted 9 = .ok (.i2l, 1) := by decide +kernel
theorem dX11_parted_10 : decode cX11_parted 10 = .ok (.lconst 0, 1) := by decide +kernel
theorem dX11_parted_11 : decode cX11_parted 11 = .ok (.ldc2_w 141, 3) := by decide +kernel
theorem dX11_parted_14 : decode cX11_parted 14 = .ok (.invokestatic 85, 3) := by decide +kernel
theorem dX11_parted_17 : decode cX11_parted 17 = .ok (.ifCond .ne 5, 3) := by decide +kernel
theorem dX11_parted_20 : decode cX11_parted 20 = .ok (.iconst (-1), 1) := by decide +kernel
theorem dX11_parted_21 : decode cX11_parted 21 = .ok (.ireturn, 1) := by decide +kernel
theorem dX11_parted_22 : decode cX11_parted 22 = .ok (.iconst 0, 1) := by decide +kernel
theorem dX11_parted_23 : decode cX11_parted 23 = .ok (.istore_n 3, 1) := by decide +kernel
theorem dX11_parted_24 : decode cX11_parted 24 = .ok (.iload_n 3, 1) := by decide +kernel
theorem dX11_parted_25 : decode cX11_parted 25 = .ok (.sipush 256, 3) := by decide +kernel
theorem dX11_parted_28 : decode cX11_parted 28 = .ok (.if_icmp .ge 75, 3) := by decide +kernel
theorem dX11_parted_31 : decode cX11_parted 31 = .ok (.iload_n 3, 1) := by decide +kernel
theorem dX11_parted_32 : decode cX11_parted 32 = .ok (.iload_n 1, 1) := by decide +kernel
theorem dX11_parted_33 : decode cX11_parted 33 = .ok (.ishr, 1) := by decide +kernel
theorem dX11_parted_34 : decode cX11_parted 34 = .ok (.iconst 1, 1) := by decide +kernel
theorem dX11_parted_35 : decode cX11_parted 35 = .ok (.iand, 1) := by decide +kernel
theorem dX11_parted_36 : decode cX11_parted 36 = .ok (.iconst 1, 1) := by decide +kernel
theorem dX11_parted_37 : decode cX11_parted 37 = .ok (.if_icmp .ne 7, 3) := by decide +kernel
theorem dX11_parted_40 : decode cX11_parted 40 = .ok (.iconst 1, 1) := by decide +kernel
theorem dX11_parted_41 : decode cX11_parted 41 = .ok (.goto 4, 3) := by decide +kernel
theorem dX11_parted_44 : decode cX11_parted 44 = .ok (.iconst 0, 1) := by decide +kernel
theorem dX11_parted_45 : decode cX11_parted 45 = .ok (.istore 4, 2) := by decide +kernel
theorem dX11_parted_47 : decode cX11_parted 47 = .ok (.aload_n 0, 1) := by decide +kernel
theorem dX11_parted_48 : decode cX11_parted 48 = .ok (.getfield 49, 3) := by decide +kernel
theorem dX11_parted_51 : decode cX11_parted 51 = .ok (.iload_n 3, 1) := by decide +kernel
theorem dX11_parted_52 : decode cX11_parted 52 = .ok (.iload 4, 2) := by decide +kernel
theorem dX11_parted_54 : decode cX11_parted 54 = .ok (.ifCond .ne 41, 3) := by decide +kernel
theorem dX11_parted_57 : decode cX11_parted 57 = .ok (.iload_n 2, 1) := by decide +kernel
theorem dX11_parted_58 : decode cX11_parted 58 = .ok (.iconst 2, 1) := by decide +kernel
theorem dX11_parted_59 : decode cX11_parted 59 = .ok (.if_icmp .ge 21, 3) := by decide +kernel
theorem dX11_parted_62 : decode cX11_parted 62 = .ok (.aload_n 0, 1) := by decide +kernel
theorem dX11_parted_63 : decode cX11_parted 63 = .ok (.getfield 20, 3) := by decide +kernel
theorem dX11_parted_66 : decode cX11_parted 66 = .ok (.iconst 0, 1) := by decide +kernel
theorem dX11_parted_67 : decode cX11_parted 67 = .ok (.aaload, 1) := by decide +kernel
theorem dX11_parted_68 : decode cX11_parted 68 = .ok (.iload_n 3, 1) := by decide +kernel
theorem dX11_parted_69 : decode cX11_parted 69 = .ok (.iconst 1, 1) := by decide +kernel
theorem dX11_parted_70 : decode cX11_parted 70 = .ok (.iload_n 1, 1) := by decide +kernel
theorem dX11_parted_71 : decode cX11_parted 71 = .ok (.ishl, 1) := by decide +kernel
theorem dX11_parted_72 : decode cX11_parted 72 = .ok (.ior, 1) := by decide +kernel
theorem dX11_parted_73 : decode cX11_parted 73 = .ok (.baload, 1) := by decide +kernel
theorem dX11_parted_74 : decode cX11_parted 74 = .ok (.ifCond .eq 21, 3) := by decide +kernel
theorem dX11_parted_77 : decode cX11_parted 77 = .ok (.goto 14, 3) := by decide +kernel
theorem dX11_parted_80 : decode cX11_parted 80 = .ok (.aload_n 0, 1) := by decide +kernel
theorem dX11_parted_81 : decode cX11_parted 81 = .ok (.getfield 20, 3) := by decide +kernel
theorem dX11_parted_84 : decode cX11_parted 84 = .ok (.iconst 0, 1) := by decide +kernel
theorem dX11_parted_85 : decode cX11_parted 85 = .ok (.aaload, 1) := by decide +kernel
theorem dX11_parted_86 : decode cX11_parted 86 = .ok (.iload_n 3, 1) := by decide +kernel
theorem dX11_parted_87 : decode cX11_parted 87 = .ok (.baload, 1) := by decide +kernel
theorem dX11_parted_88 : decode cX11_parted 88 = .ok (.ifCond .eq 7, 3) := by decide +kernel
theorem dX11_parted_91 : decode cX11_parted 91 = .ok (.iconst 1, 1) := by decide +kernel
theorem dX11_parted_92 : decode cX11_parted 92 = .ok (.goto 4, 3) := by decide +kernel
theorem dX11_parted_95 : decode cX11_parted 95 = .ok (.iconst 0, 1) := by decide +kernel
theorem dX11_parted_96 : decode cX11_parted 96 = .ok (.bastore, 1) := by decide +kernel
theorem dX11_parted_97 : decode cX11_parted 97 = .ok (.iinc 3 1, 3) := by decide +kernel
theorem dX11_parted_100 : decode cX11_parted 100 = .ok (.goto (-76), 3) := by decide +kernel
theorem dX11_parted_103 : decode cX11_parted 103 = .ok (.aload_n 0, 1) := by decide +kernel
theorem dX11_parted_104 : decode cX11_parted 104 = .ok (.getfield 49, 3) := by decide +kernel
theorem dX11_parted_107 : decode cX11_parted 107 = .ok (.invokestatic 170, 3) := by decide +kernel
theorem dX11_parted_110 : decode cX11_parted 110 = .ok (.istore_n 3, 1) := by decide +kernel
theorem dX11_parted_111 : decode cX11_parted 111 = .ok (.iload_n 2, 1) := by decide +kernel
theorem dX11_parted_112 : decode cX11_parted 112 = .ok (.ifCond .ne 5, 3) := by decide +kernel
theorem dX11_parted_115 : decode cX11_parted 115 = .ok (.iload_n 3, 1) := by decide +kernel
theorem dX11_parted_116 : decode cX11_parted 116 = .ok (.ireturn, 1) := by decide +kernel
theorem dX11_parted_117 : decode cX11_parted 117 = .ok (.iload_n 3, 1) := by decide +kernel
theorem dX11_parted_118 : decode cX11_parted 118 = .ok (.ifCond .eq 24, 3) := by decide +kernel
theorem dX11_parted_121 : decode cX11_parted 121 = .ok (.iload_n 2, 1) := by decide +kernel
theorem dX11_parted_122 : decode cX11_parted 122 = .ok (.iconst 2, 1) := by decide +kernel
theorem dX11_parted_123 : decode cX11_parted 123 = .ok (.if_icmp .ne 22, 3) := by decide +kernel
theorem dX11_parted_126 : decode cX11_parted 126 = .ok (.aload_n 0, 1) := by decide +kernel
theorem dX11_parted_127 : decode cX11_parted 127 = .ok (.getfield 11, 3) := by decide +kernel
theorem dX11_parted_130 : decode cX11_parted 130 = .ok (.bipush 42, 2) := by decide +kernel
theorem dX11_parted_132 : decode cX11_parted 132 = .ok (.iaload, 1) := by decide +kernel
theorem dX11_parted_133 : decode cX11_parted 133 = .ok (.aload_n 0, 1) := by decide +kernel
theorem dX11_parted_134 : decode cX11_parted 134 = .ok (.getfield 11, 3) := by decide +kernel
theorem dX11_parted_137 : decode cX11_parted 137 = .ok (.iconst 0, 1) := by decide +kernel
theorem dX11_parted_138 : decode cX11_parted 138 = .ok (.iaload, 1) := by decide +kernel
theorem dX11_parted_139 : decode cX11_parted 139 = .ok (.if_icmp .ne 6, 3) := by decide +kernel
theorem dX11_parted_142 : decode cX11_parted 142 = .ok (.bipush (-5), 2) := by decide +kernel
theorem dX11_parted_144 : decode cX11_parted 144 = .ok (.ireturn, 1) := by decide +kernel
theorem dX11_parted_145 : decode cX11_parted 145 = .ok (.aload_n 0, 1) := by decide +kernel
theorem dX11_parted_146 : decode cX11_parted 146 = .ok (.getfield 49, 3) := by decide +kernel
theorem dX11_parted_149 : decode cX11_parted 149 = .ok (.aload_n 0, 1) := by decide +kernel
theorem dX11_parted_150 : decode cX11_parted 150 = .ok (.invokevirtual 81, 3) := by decide +kernel
theorem dX11_parted_153 : decode cX11_parted 153 = .ok (.iconst 1, 1) := by decide +kernel
theorem dX11_parted_154 : decode cX11_parted 154 = .ok (.iload_n 1, 1) := by decide +kernel
theorem dX11_parted_155 : decode cX11_parted 155 = .ok (.ishl, 1) := by decide +kernel
theorem dX11_parted_156 : decode cX11_parted 156 = .ok (.iconst (-1), 1) := by decide +kernel
theorem dX11_parted_157 : decode cX11_parted 157 = .ok (.ixor, 1) := by decide +kernel
theorem dX11_parted_158 : decode cX11_parted 158 = .ok (.iand, 1) := by decide +kernel
theorem dX11_parted_159 : decode cX11_parted 159 = .ok (.iload_n 2, 1) := by decide +kernel
theorem dX11_parted_160 : decode cX11_parted 160 = .ok (.iconst 1, 1) := by decide +kernel
theorem dX11_parted_161 : decode cX11_parted 161 = .ok (.if_icmp .ne 15, 3) := by decide +kernel
theorem dX11_parted_164 : decode cX11_parted 164 = .ok (.aload_n 0, 1) := by decide +kernel
theorem dX11_parted_165 : decode cX11_parted 165 = .ok (.getfield 11, 3) := by decide +kernel
theorem dX11_parted_168 : decode cX11_parted 168 = .ok (.bipush 42, 2) := by decide +kernel
theorem dX11_parted_170 : decode cX11_parted 170 = .ok (.iaload, 1) := by decide +kernel
theorem dX11_parted_171 : decode cX11_parted 171 = .ok (.iconst 1, 1) := by decide +kernel
theorem dX11_parted_172 : decode cX11_parted 172 = .ok (.isub, 1) := by decide +kernel
theorem dX11_parted_173 : decode cX11_parted 173 = .ok (.goto 10, 3) := by decide +kernel
theorem dX11_parted_176 : decode cX11_parted 176 = .ok (.aload_n 0, 1) := by decide +kernel
theorem dX11_parted_177 : decode cX11_parted 177 = .ok (.getfield 11, 3) := by decide +kernel
theorem dX11_parted_180 : decode cX11_parted 180 = .ok (.bipush 42, 2) := by decide +kernel
theorem dX11_parted_182 : decode cX11_parted 182 = .ok (.iaload, 1) := by decide +kernel
theorem dX11_parted_183 : decode cX11_parted 183 = .ok (.invokestatic 178, 3) := by decide +kernel
theorem dX11_parted_186 : decode cX11_parted 186 = .ok (.ireturn, 1) := by decide +kernel
theorem dX11_keep_0 : decode cX11_keep 0 = .ok (.aload_n 0, 1) := by decide +kernel
theorem dX11_keep_1 : decode cX11_keep 1 = .ok (.getfield 11, 3) := by decide +kernel
theorem dX11_keep_4 : decode cX11_keep 4 = .ok (.bipush 43, 2) := by decide +kernel
theorem dX11_keep_6 : decode cX11_keep 6 = .ok (.iaload, 1) := by decide +kernel
theorem dX11_keep_7 : decode cX11_keep 7 = .ok (.iconst 4, 1) := by decide +kernel
theorem dX11_keep_8 : decode cX11_keep 8 = .ok (.if_icmp .ne 6, 3) := by decide +kernel
theorem dX11_keep_11 : decode cX11_keep 11 = .ok (.bipush (-4), 2) := by decide +kernel
theorem dX11_keep_13 : decode cX11_keep 13 = .ok (.ireturn, 1) := by decide +kernel
theorem dX11_keep_14 : decode cX11_keep 14 = .ok (.aload_n 0, 1) := by decide +kernel
theorem dX11_keep_15 : decode cX11_keep 15 = .ok (.getfield 11, 3) := by decide +kernel
theorem dX11_keep_18 : decode cX11_keep 18 = .ok (.bipush 43, 2) := by decide +kernel
theorem dX11_keep_20 : decode cX11_keep 20 = .ok (.iaload, 1) := by decide +kernel
theorem dX11_keep_21 : decode cX11_keep 21 = .ok (.istore_n 1, 1) := by decide +kernel
theorem dX11_keep_22 : decode cX11_keep 22 = .ok (.aload_n 0, 1) := by decide +kernel
theorem dX11_keep_23 : decode cX11_keep 23 = .ok (.getfield 11, 3) := by decide +kernel
theorem dX11_keep_26 : decode cX11_keep 26 = .ok (.bipush 44, 2) := by decide +kernel
theorem dX11_keep_28 : decode cX11_keep 28 = .ok (.iload_n 1, 1) := by decide +kernel
theorem dX11_keep_29 : decode cX11_keep 29 = .ok (.iadd, 1) := by decide +kernel
theorem dX11_keep_30 : decode cX11_keep 30 = .ok (.aload_n 0, 1) := by decide +kernel
theorem dX11_keep_31 : decode cX11_keep 31 = .ok (.getfield 11, 3) := by decide +kernel
theorem dX11_keep_34 : decode cX11_keep 34 = .ok (.bipush 42, 2) := by decide +kernel
theorem dX11_keep_36 : decode cX11_keep 36 = .ok (.iaload, 1) := by decide +kernel
theorem dX11_keep_37 : decode cX11_keep 37 = .ok (.iastore, 1) := by decide +kernel
theorem dX11_keep_38 : decode cX11_keep 38 = .ok (.iconst 0, 1) := by decide +kernel
theorem dX11_keep_39 : decode cX11_keep 39 = .ok (.istore_n 2, 1) := by decide +kernel
theorem dX11_keep_40 : decode cX11_keep 40 = .ok (.iload_n 2, 1) := by decide +kernel
theorem dX11_keep_41 : decode cX11_keep 41 = .ok (.sipush 256, 3) := by decide +kernel
theorem dX11_keep_44 : decode cX11_keep 44 = .ok (.if_icmp .ge 27, 3) := by decide +kernel
theorem dX11_keep_47 : decode cX11_keep 47 = .ok (.aload_n 0, 1) := by decide +kernel
theorem dX11_keep_48 : decode cX11_keep 48 = .ok (.getfield 20, 3) := by decide +kernel
theorem dX11_keep_51 : decode cX11_keep 51 = .ok (.iconst 1, 1) := by decide +kernel
theorem dX11_keep_52 : decode cX11_keep 52 = .ok (.iload_n 1, 1) := by decide +kernel
theorem dX11_keep_53 : decode cX11_keep 53 = .ok (.iadd, 1) := by decide +kernel
theorem dX11_keep_54 : decode cX11_keep 54 = .ok (.aaload, 1) := by decide +kernel
theorem dX11_keep_55 : decode cX11_keep 55 = .ok (.iload_n 2, 1) := by decide +kernel
theorem dX11_keep_56 : decode cX11_keep 56 = .ok (.aload_n 0, 1) := by decide +kernel
theorem dX11_keep_57 : decode cX11_keep 57 = .ok (.getfield 20, 3) := by decide +kernel
theorem dX11_keep_60 : decode cX11_keep 60 = .ok (.iconst 0, 1) := by decide +kernel
theorem dX11_keep_61 : decode cX11_keep 61 = .ok (.aaload, 1) := by decide +kernel
theorem dX11_keep_62 : decode cX11_keep 62 = .ok (.iload_n 2, 1) := by decide +kernel
theorem dX11_keep_63 : decode cX11_keep 63 = .ok (.baload, 1) := by decide +kernel
theorem dX11_keep_64 : decode cX11_keep 64 = .ok (.bastore, 1) := by decide +kernel
theorem dX11_keep_65 : decode cX11_keep 65 = .ok (.iinc 2 1, 3) := by decide +kernel
theorem dX11_keep_68 : decode cX11_keep 68 = .ok (.goto (-28), 3) := by decide +kernel
theorem dX11_keep_71 : decode cX11_keep 71 = .ok (.aload_n 0, 1) := by decide +kernel
theorem dX11_keep_72 : decode cX11_keep 72 = .ok (.getfield 11, 3) := by decide +kernel
theorem dX11_keep_75 : decode cX11_keep 75 = .ok (.bipush 43, 2) := by decide +kernel
theorem dX11_keep_77 : decode cX11_keep 77 = .ok (.dup2, 1) := by decide +kernel
theorem dX11_keep_78 : decode cX11_keep 78 = .ok (.iaload, 1) := by decide +kernel
theorem dX11_keep_79 : decode cX11_keep 79 = .ok (.iconst 1, 1) := by decide +kernel
theorem dX11_keep_80 : decode cX11_keep 80 = .ok (.iadd, 1) := by decide +kernel
theorem dX11_keep_81 : decode cX11_keep 81 = .ok (.iastore, 1) := by decide +kernel
theorem dX11_keep_82 : decode cX11_keep 82 = .ok (.iload_n 1, 1) := by decide +kernel
theorem dX11_keep_83 : decode cX11_keep 83 = .ok (.ireturn, 1) := by decide +kernel
theorem dX11_isDesign_0 : decode cX11_isDesign 0 = .ok (.iload_n 1, 1) := by decide +kernel
theorem dX11_isDesign_1 : decode cX11_isDesign 1 = .ok (.i2l, 1) := by decide +kernel
theorem dX11_isDesign_2 : decode cX11_isDesign 2 = .ok (.lconst 0, 1) := by decide +kernel
theorem dX11_isDesign_3 : decode cX11_isDesign 3 = .ok (.aload_n 0, 1) := by decide +kernel
theorem dX11_isDesign_4 : decode cX11_isDesign 4 = .ok (.getfield 11, 3) := by decide +kernel
theorem dX11_isDesign_7 : decode cX11_isDesign 7 = .ok (.bipush 43, 2) := by decide +kernel
theorem dX11_isDesign_9 : decode cX11_isDesign 9 = .ok (.iaload, 1) := by decide +kernel
theorem dX11_isDesign_10 : decode cX11_isDesign 10 = .ok (.iconst 1, 1) := by decide +kernel
theorem dX11_isDesign_11 : decode cX11_isDesign 11 = .ok (.isub, 1) := by decide +kernel
theorem dX11_isDesign_12 : decode cX11_isDesign 12 = .ok (.i2l, 1) := by decide +kernel
theorem dX11_isDesign_13 : decode cX11_isDesign 13 = .ok (.invokestatic 85, 3) := by decide +kernel
theorem dX11_isDesign_16 : decode cX11_isDesign 16 = .ok (.ireturn, 1) := by decide +kernel
theorem dX11_design_0 : decode cX11_design 0 = .ok (.aload_n 0, 1) := by decide +kernel
theorem dX11_design_1 : decode cX11_design 1 = .ok (.iload_n 1, 1) := by decide +kernel
theorem dX11_design_2 : decode cX11_design 2 = .ok (.invokevirtual 181, 3) := by decide +kernel
theorem dX11_design_5 : decode cX11_design 5 = .ok (.ifCond .eq 13, 3) := by decide +kernel
theorem dX11_design_8 : decode cX11_design 8 = .ok (.iload_n 2, 1) := by decide +kernel
theorem dX11_design_9 : decode cX11_design 9 = .ok (.i2l, 1) := by decide +kernel
theorem dX11_design_10 : decode cX11_design 10 = .ok (.lconst 0, 1) := by decide +kernel
theorem dX11_design_11 : decode cX11_design 11 = .ok (.lconst 1, 1) := by decide +kernel
theorem dX11_design_12 : decode cX11_design 12 = .ok (.invokestatic 85, 3) := by decide +kernel
theorem dX11_design_15 : decode cX11_design 15 = .ok (.ifCond .ne 5, 3) := by decide +kernel
theorem dX11_design_18 : decode cX11_design 18 = .ok (.iconst (-1), 1) := by decide +kernel
theorem dX11_design_19 : decode cX11_design 19 = .ok (.ireturn, 1) := by decide +kernel
theorem dX11_design_20 : decode cX11_design 20 = .ok (.iload_n 2, 1) := by decide +kernel
theorem dX11_design_21 : decode cX11_design 21 = .ok (.ifCond .ne 15, 3) := by decide +kernel
theorem dX11_design_24 : decode cX11_design 24 = .ok (.aload_n 0, 1) := by decide +kernel
theorem dX11_design_25 : decode cX11_design 25 = .ok (.getfield 11, 3) := by decide +kernel
theorem dX11_design_28 : decode cX11_design 28 = .ok (.bipush 44, 2) := by decide +kernel
theorem dX11_design_30 : decode cX11_design 30 = .ok (.iload_n 1, 1) := by decide +kernel
theorem dX11_design_31 : decode cX11_design 31 = .ok (.iadd, 1) := by decide +kernel
theorem dX11_design_32 : decode cX11_design 32 = .ok (.iaload, 1) := by decide +kernel
theorem dX11_design_33 : decode cX11_design 33 = .ok (.goto 14, 3) := by decide +kernel
theorem dX11_design_36 : decode cX11_design 36 = .ok (.aload_n 0, 1) := by decide +kernel
theorem dX11_design_37 : decode cX11_design 37 = .ok (.getfield 20, 3) := by decide +kernel
theorem dX11_design_40 : decode cX11_design 40 = .ok (.iconst 1, 1) := by decide +kernel
theorem dX11_design_41 : decode cX11_design 41 = .ok (.iload_n 1, 1) := by decide +kernel
theorem dX11_design_42 : decode cX11_design 42 = .ok (.iadd, 1) := by decide +kernel
theorem dX11_design_43 : decode cX11_design 43 = .ok (.aaload, 1) := by decide +kernel
theorem dX11_design_44 : decode cX11_design 44 = .ok (.invokestatic 170, 3) := by decide +kernel
theorem dX11_design_47 : decode cX11_design 47 = .ok (.ireturn, 1) := by decide +kernel
theorem dX11_lined_0 : decode cX11_lined 0 = .ok (.iconst 0, 1) := by decide +kernel
theorem dX11_lined_1 : decode cX11_lined 1 = .ok (.istore_n 2, 1) := by decide +kernel
theorem dX11_lined_2 : decode cX11_lined 2 = .ok (.iconst 0, 1) := by decide +kernel
theorem dX11_lined_3 : decode cX11_lined 3 = .ok (.istore_n 3, 1) := by decide +kernel
theorem dX11_lined_4 : decode cX11_lined 4 = .ok (.iload_n 3, 1) := by decide +kernel
theorem dX11_lined_5 : decode cX11_lined 5 = .ok (.aload_n 0, 1) := by decide +kernel
theorem dX11_lined_6 : decode cX11_lined 6 = .ok (.getfield 11, 3) := by decide +kernel
theorem dX11_lined_9 : decode cX11_lined 9 = .ok (.iconst 0, 1) := by decide +kernel
theorem dX11_lined_10 : decode cX11_lined 10 = .ok (.iaload, 1) := by decide +kernel
theorem dX11_lined_11 : decode cX11_lined 11 = .ok (.if_icmp .ge 24, 3) := by decide +kernel
theorem dX11_lined_14 : decode cX11_lined 14 = .ok (.iload_n 2, 1) := by decide +kernel
theorem dX11_lined_15 : decode cX11_lined 15 = .ok (.iload_n 1, 1) := by decide +kernel
theorem dX11_lined_16 : decode cX11_lined 16 = .ok (.iload_n 3, 1) := by decide +kernel
theorem dX11_lined_17 : decode cX11_lined 17 = .ok (.ishr, 1) := by decide +kernel
theorem dX11_lined_18 : decode cX11_lined 18 = .ok (.iconst 1, 1) := by decide +kernel
theorem dX11_lined_19 : decode cX11_lined 19 = .ok (.iand, 1) := by decide +kernel
theorem dX11_lined_20 : decode cX11_lined 20 = .ok (.aload_n 0, 1) := by decide +kernel
theorem dX11_lined_21 : decode cX11_lined 21 = .ok (.getfield 53, 3) := by decide +kernel
theorem dX11_lined_24 : decode cX11_lined 24 = .ok (.iload_n 3, 1) := by decide +kernel
theorem dX11_lined_25 : decode cX11_lined 25 = .ok (.iaload, 1) := by decide +kernel
theorem dX11_lined_26 : decode cX11_lined 26 = .ok (.ishl, 1) := by decide +kernel
theorem dX11_lined_27 : decode cX11_lined 27 = .ok (.ior, 1) := by decide +kernel
theorem dX11_lined_28 : decode cX11_lined 28 = .ok (.istore_n 2, 1) := by decide +kernel
theorem dX11_lined_29 : decode cX11_lined 29 = .ok (.iinc 3 1, 3) := by decide +kernel
theorem dX11_lined_32 : decode cX11_lined 32 = .ok (.goto (-28), 3) := by decide +kernel
theorem dX11_lined_35 : decode cX11_lined 35 = .ok (.iload_n 2, 1) := by decide +kernel
theorem dX11_lined_36 : decode cX11_lined 36 = .ok (.ireturn, 1) := by decide +kernel
theorem dX11_waysFrom_0 : decode cX11_waysFrom 0 = .ok (.iload_n 3, 1) := by decide +kernel
theorem dX11_waysFrom_1 : decode cX11_waysFrom 1 = .ok (.aload_n 0, 1) := by decide +kernel
theorem dX11_waysFrom_2 : decode cX11_waysFrom 2 = .ok (.getfield 11, 3) := by decide +kernel
theorem dX11_waysFrom_5 : decode cX11_waysFrom 5 = .ok (.iconst 0, 1) := by decide +kernel
theorem dX11_waysFrom_6 : decode cX11_waysFrom 6 = .ok (.iaload, 1) := by decide +kernel
theorem dX11_waysFrom_7 : decode cX11_waysFrom 7 = .ok (.if_icmp .ne 43, 3) := by decide +kernel
theorem dX11_waysFrom_10 : decode cX11_waysFrom 10 = .ok (.iconst 0, 1) := by decide +kernel
theorem dX11_waysFrom_11 : decode cX11_waysFrom 11 = .ok (.istore 6, 2) := by decide +kernel
theorem dX11_waysFrom_13 : decode cX11_waysFrom 13 = .ok (.iload 6, 2) := by decide +kernel
theorem dX11_waysFrom_15 : decode cX11_waysFrom 15 = .ok (.aload_n 0, 1) := by decide +kernel
theorem dX11_waysFrom_16 : decode cX11_waysFrom 16 = .ok (.invokevirtual 81, 3) := by decide +kernel
theorem dX11_waysFrom_19 : decode cX11_waysFrom 19 = .ok (.if_icmp .gt 29, 3) := by decide +kernel
theorem dX11_waysFrom_22 : decode cX11_waysFrom 22 = .ok (.aload_n 1, 1) := by decide +kernel
theorem dX11_waysFrom_23 : decode cX11_waysFrom 23 = .ok (.iload 6, 2) := by decide +kernel
theorem dX11_waysFrom_25 : decode cX11_waysFrom 25 = .ok (.baload, 1) := by decide +kernel
theorem dX11_waysFrom_26 : decode cX11_waysFrom 26 = .ok (.ifCond .eq 16, 3) := by decide +kernel
theorem dX11_waysFrom_29 : decode cX11_waysFrom 29 = .ok (.aload_n 2, 1) := by decide +kernel
theorem dX11_waysFrom_30 : decode cX11_waysFrom 30 = .ok (.aload_n 0, 1) := by decide +kernel
theorem dX11_waysFrom_31 : decode cX11_waysFrom 31 = .ok (.iload 6, 2) := by decide +kernel
theorem dX11_waysFrom_33 : decode cX11_waysFrom 33 = .ok (.invokevirtual 184, 3) := by decide +kernel
theorem dX11_waysFrom_36 : decode cX11_waysFrom 36 = .ok (.baload, 1) := by decide +kernel
theorem dX11_waysFrom_37 : decode cX11_waysFrom 37 = .ok (.ifCond .ne 5, 3) := by decide +kernel
theorem dX11_waysFrom_40 : decode cX11_waysFrom 40 = .ok (.iconst 0, 1) := by decide +kernel
theorem dX11_waysFrom_41 : decode cX11_waysFrom 41 = .ok (.ireturn, 1) := by decide +kernel
theorem dX11_waysFrom_42 : decode cX11_waysFrom 42 = .ok (.iinc 6 1, 3) := by decide +kernel
theorem dX11_waysFrom_45 : decode cX11_waysFrom 45 = .ok (.goto (-32), 3) := by decide +kernel
theorem dX11_waysFrom_48 : decode cX11_waysFrom 48 = .ok (.iconst 1, 1) := by decide +kernel
theorem dX11_waysFrom_49 : decode cX11_waysFrom 49 = .ok (.ireturn, 1) := by decide +kernel
theorem dX11_waysFrom_50 : decode cX11_waysFrom 50 = .ok (.iconst 0, 1) := by decide +kernel
theorem dX11_waysFrom_51 : decode cX11_waysFrom 51 = .ok (.istore 6, 2) := by decide +kernel
theorem dX11_waysFrom_53 : decode cX11_waysFrom 53 = .ok (.iconst 0, 1) := by decide +kernel
theorem dX11_waysFrom_54 : decode cX11_waysFrom 54 = .ok (.istore 7, 2) := by decide +kernel
theorem dX11_waysFrom_56 : decode cX11_waysFrom 56 = .ok (.iload 7, 2) := by decide +kernel
theorem dX11_waysFrom_58 : decode cX11_waysFrom 58 = .ok (.aload_n 0, 1) := by decide +kernel
theorem dX11_waysFrom_59 : decode cX11_waysFrom 59 = .ok (.getfield 11, 3) := by decide +kernel
theorem dX11_waysFrom_62 : decode cX11_waysFrom 62 = .ok (.iconst 0, 1) := by decide +kernel
theorem dX11_waysFrom_63 : decode cX11_waysFrom 63 = .ok (.iaload, 1) := by decide +kernel
theorem dX11_waysFrom_64 : decode cX11_waysFrom 64 = .ok (.if_icmp .ge 60, 3) := by decide +kernel
theorem dX11_waysFrom_67 : decode cX11_waysFrom 67 = .ok (.iload 5, 2) := by decide +kernel
theorem dX11_waysFrom_69 : decode cX11_waysFrom 69 = .ok (.ifCond .eq 8, 3) := by decide +kernel
theorem dX11_waysFrom_72 : decode cX11_waysFrom 72 = .ok (.iload 6, 2) := by decide +kernel
theorem dX11_waysFrom_74 : decode cX11_waysFrom 74 = .ok (.ifCond .ne 50, 3) := by decide +kernel
theorem dX11_waysFrom_77 : decode cX11_waysFrom 77 = .ok (.iload 4, 2) := by decide +kernel
theorem dX11_waysFrom_79 : decode cX11_waysFrom 79 = .ok (.iload 7, 2) := by decide +kernel
theorem dX11_waysFrom_81 : decode cX11_waysFrom 81 = .ok (.ishr, 1) := by decide +kernel
theorem dX11_waysFrom_82 : decode cX11_waysFrom 82 = .ok (.iconst 1, 1) := by decide +kernel
theorem dX11_waysFrom_83 : decode cX11_waysFrom 83 = .ok (.iand, 1) := by decide +kernel
theorem dX11_waysFrom_84 : decode cX11_waysFrom 84 = .ok (.ifCond .ne 34, 3) := by decide +kernel
theorem dX11_waysFrom_87 : decode cX11_waysFrom 87 = .ok (.aload_n 0, 1) := by decide +kernel
theorem dX11_waysFrom_88 : decode cX11_waysFrom 88 = .ok (.getfield 53, 3) := by decide +kernel
theorem dX11_waysFrom_91 : decode cX11_waysFrom 91 = .ok (.iload_n 3, 1) := by decide +kernel
theorem dX11_waysFrom_92 : decode cX11_waysFrom 92 = .ok (.iload 7, 2) := by decide +kernel
theorem dX11_waysFrom_94 : decode cX11_waysFrom 94 = .ok (.iastore, 1) := by decide +kernel
theorem dX11_waysFrom_95 : decode cX11_waysFrom 95 = .ok (.iload 6, 2) := by decide +kernel
theorem dX11_waysFrom_97 : decode cX11_waysFrom 97 = .ok (.aload_n 0, 1) := by decide +kernel
theorem dX11_waysFrom_98 : decode cX11_waysFrom 98 = .ok (.aload_n 1, 1) := by decide +kernel
theorem dX11_waysFrom_99 : decode cX11_waysFrom 99 = .ok (.aload_n 2, 1) := by decide +kernel
theorem dX11_waysFrom_100 : decode cX11_waysFrom 100 = .ok (.iload_n 3, 1) := by decide +kernel
theorem dX11_waysFrom_101 : decode cX11_waysFrom 101 = .ok (.iconst 1, 1) := by decide +kernel
theorem dX11_waysFrom_102 : decode cX11_waysFrom 102 = .ok (.iadd, 1) := by decide +kernel
theorem dX11_waysFrom_103 : decode cX11_waysFrom 103 = .ok (.iload 4, 2) := by decide +kernel
theorem dX11_waysFrom_105 : decode cX11_waysFrom 105 = .ok (.iconst 1, 1) := by decide +kernel
theorem dX11_waysFrom_106 : decode cX11_waysFrom 106 = .ok (.iload 7, 2) := by decide +kernel
theorem dX11_waysFrom_108 : decode cX11_waysFrom 108 = .ok (.ishl, 1) := by decide +kernel
theorem dX11_waysFrom_109 : decode cX11_waysFrom 109 = .ok (.ior, 1) := by decide +kernel
theorem dX11_waysFrom_110 : decode cX11_waysFrom 110 = .ok (.iload 5, 2) := by decide +kernel
theorem dX11_waysFrom_112 : decode cX11_waysFrom 112 = .ok (.invokevirtual 187, 3) := by decide +kernel
theorem dX11_waysFrom_115 : decode cX11_waysFrom 115 = .ok (.iadd, 1) := by decide +kernel
theorem dX11_waysFrom_116 : decode cX11_waysFrom 116 = .ok (.istore 6, 2) := by decide +kernel
theorem dX11_waysFrom_118 : decode cX11_waysFrom 118 = .ok (.iinc 7 1, 3) := by decide +kernel
theorem dX11_waysFrom_121 : decode cX11_waysFrom 121 = .ok (.goto (-65), 3) := by decide +kernel
theorem dX11_waysFrom_124 : decode cX11_waysFrom 124 = .ok (.iload 6, 2) := by decide +kernel
theorem dX11_waysFrom_126 : decode cX11_waysFrom 126 = .ok (.ireturn, 1) := by decide +kernel
theorem dX11_areAlike_0 : decode cX11_areAlike 0 = .ok (.aload_n 1, 1) := by decide +kernel
theorem dX11_areAlike_1 : decode cX11_areAlike 1 = .ok (.invokestatic 170, 3) := by decide +kernel
theorem dX11_areAlike_4 : decode cX11_areAlike 4 = .ok (.aload_n 2, 1) := by decide +kernel
theorem dX11_areAlike_5 : decode cX11_areAlike 5 = .ok (.invokestatic 170, 3) := by decide +kernel
theorem dX11_areAlike_8 : decode cX11_areAlike 8 = .ok (.if_icmp .ne 19, 3) := by decide +kernel
theorem dX11_areAlike_11 : decode cX11_areAlike 11 = .ok (.aload_n 0, 1) := by decide +kernel
theorem dX11_areAlike_12 : decode cX11_areAlike 12 = .ok (.aload_n 1, 1) := by decide +kernel
theorem dX11_areAlike_13 : decode cX11_areAlike 13 = .ok (.aload_n 2, 1) := by decide +kernel
theorem dX11_areAlike_14 : decode cX11_areAlike 14 = .ok (.iconst 0, 1) := by decide +kernel
theorem dX11_areAlike_15 : decode cX11_areAlike 15 = .ok (.iconst 0, 1) := by decide +kernel
theorem dX11_areAlike_16 : decode cX11_areAlike 16 = .ok (.iconst 1, 1) := by decide +kernel
theorem dX11_areAlike_17 : decode cX11_areAlike 17 = .ok (.invokevirtual 187, 3) := by decide +kernel
theorem dX11_areAlike_20 : decode cX11_areAlike 20 = .ok (.ifCond .le 7, 3) := by decide +kernel
theorem dX11_areAlike_23 : decode cX11_areAlike 23 = .ok (.iconst 1, 1) := by decide +kernel
theorem dX11_areAlike_24 : decode cX11_areAlike 24 = .ok (.goto 4, 3) := by decide +kernel
theorem dX11_areAlike_27 : decode cX11_areAlike 27 = .ok (.iconst 0, 1) := by decide +kernel
theorem dX11_areAlike_28 : decode cX11_areAlike 28 = .ok (.ireturn, 1) := by decide +kernel
theorem dX11_alike_0 : decode cX11_alike 0 = .ok (.aload_n 0, 1) := by decide +kernel
theorem dX11_alike_1 : decode cX11_alike 1 = .ok (.iload_n 1, 1) := by decide +kernel
theorem dX11_alike_2 : decode cX11_alike 2 = .ok (.invokevirtual 181, 3) := by decide +kernel
theorem dX11_alike_5 : decode cX11_alike 5 = .ok (.ifCond .eq 11, 3) := by decide +kernel
theorem dX11_alike_8 : decode cX11_alike 8 = .ok (.aload_n 0, 1) := by decide +kernel
theorem dX11_alike_9 : decode cX11_alike 9 = .ok (.iload_n 2, 1) := by decide +kernel
theorem dX11_alike_10 : decode cX11_alike 10 = .ok (.invokevirtual 181, 3) := by decide +kernel
theorem dX11_alike_13 : decode cX11_alike 13 = .ok (.ifCond .ne 5, 3) := by decide +kernel
theorem dX11_alike_16 : decode cX11_alike 16 = .ok (.iconst (-1), 1) := by decide +kernel
theorem dX11_alike_17 : decode cX11_alike 17 = .ok (.ireturn, 1) := by decide +kernel
theorem dX11_alike_18 : decode cX11_alike 18 = .ok (.aload_n 0, 1) := by decide +kernel
theorem dX11_alike_19 : decode cX11_alike 19 = .ok (.getfield 11, 3) := by decide +kernel
theorem dX11_alike_22 : decode cX11_alike 22 = .ok (.iconst 0, 1) := by decide +kernel
theorem dX11_alike_23 : decode cX11_alike 23 = .ok (.iaload, 1) := by decide +kernel
theorem dX11_alike_24 : decode cX11_alike 24 = .ok (.bipush 8, 2) := by decide +kernel
theorem dX11_alike_26 : decode cX11_alike 26 = .ok (.if_icmp .ne 6, 3) := by decide +kernel
theorem dX11_alike_29 : decode cX11_alike 29 = .ok (.bipush (-3), 2) := by decide +kernel
theorem dX11_alike_31 : decode cX11_alike 31 = .ok (.ireturn, 1) := by decide +kernel
theorem dX11_alike_32 : decode cX11_alike 32 = .ok (.aload_n 0, 1) := by decide +kernel
theorem dX11_alike_33 : decode cX11_alike 33 = .ok (.aload_n 0, 1) := by decide +kernel
theorem dX11_alike_34 : decode cX11_alike 34 = .ok (.getfield 20, 3) := by decide +kernel
theorem dX11_alike_37 : decode cX11_alike 37 = .ok (.iconst 1, 1) := by decide +kernel
theorem dX11_alike_38 : decode cX11_alike 38 = .ok (.iload_n 1, 1) := by decide +kernel
theorem dX11_alike_39 : decode cX11_alike 39 = .ok (.iadd, 1) := by decide +kernel
theorem dX11_alike_40 : decode cX11_alike 40 = .ok (.aaload, 1) := by decide +kernel
theorem dX11_alike_41 : decode cX11_alike 41 = .ok (.aload_n 0, 1) := by decide +kernel
theorem dX11_alike_42 : decode cX11_alike 42 = .ok (.getfield 20, 3) := by decide +kernel
theorem dX11_alike_45 : decode cX11_alike 45 = .ok (.iconst 1, 1) := by decide +kernel
theorem dX11_alike_46 : decode cX11_alike 46 = .ok (.iload_n 2, 1) := by decide +kernel
theorem dX11_alike_47 : decode cX11_alike 47 = .ok (.iadd, 1) := by decide +kernel
theorem dX11_alike_48 : decode cX11_alike 48 = .ok (.aaload, 1) := by decide +kernel
theorem dX11_alike_49 : decode cX11_alike 49 = .ok (.invokevirtual 191, 3) := by decide +kernel
theorem dX11_alike_52 : decode cX11_alike 52 = .ok (.ifCond .eq 7, 3) := by decide +kernel
theorem dX11_alike_55 : decode cX11_alike 55 = .ok (.iconst 1, 1) := by decide +kernel
theorem dX11_alike_56 : decode cX11_alike 56 = .ok (.goto 4, 3) := by decide +kernel
theorem dX11_alike_59 : decode cX11_alike 59 = .ok (.iconst 0, 1) := by decide +kernel
theorem dX11_alike_60 : decode cX11_alike 60 = .ok (.ireturn, 1) := by decide +kernel
theorem dX11_selves_0 : decode cX11_selves 0 = .ok (.aload_n 0, 1) := by decide +kernel
theorem dX11_selves_1 : decode cX11_selves 1 = .ok (.iload_n 1, 1) := by decide +kernel
theorem dX11_selves_2 : decode cX11_selves 2 = .ok (.invokevirtual 181, 3) := by decide +kernel
theorem dX11_selves_5 : decode cX11_selves 5 = .ok (.ifCond .ne 5, 3) := by decide +kernel
theorem dX11_selves_8 : decode cX11_selves 8 = .ok (.iconst (-1), 1) := by decide +kernel
theorem dX11_selves_9 : decode cX11_selves 9 = .ok (.ireturn, 1) := by decide +kernel
theorem dX11_selves_10 : decode cX11_selves 10 = .ok (.aload_n 0, 1) := by decide +kernel
theorem dX11_selves_11 : decode cX11_selves 11 = .ok (.getfield 11, 3) := by decide +kernel
theorem dX11_selves_14 : decode cX11_selves 14 = .ok (.iconst 0, 1) := by decide +kernel
theorem dX11_selves_15 : decode cX11_selves 15 = .ok (.iaload, 1) := by decide +kernel
theorem dX11_selves_16 : decode cX11_selves 16 = .ok (.bipush 8, 2) := by decide +kernel
theorem dX11_selves_18 : decode cX11_selves 18 = .ok (.if_icmp .ne 6, 3) := by decide +kernel
theorem dX11_selves_21 : decode cX11_selves 21 = .ok (.bipush (-3), 2) := by decide +kernel
theorem dX11_selves_23 : decode cX11_selves 23 = .ok (.ireturn, 1) := by decide +kernel
theorem dX11_selves_24 : decode cX11_selves 24 = .ok (.aload_n 0, 1) := by decide +kernel
theorem dX11_selves_25 : decode cX11_selves 25 = .ok (.aload_n 0, 1) := by decide +kernel
theorem dX11_selves_26 : decode cX11_selves 26 = .ok (.getfield 20, 3) := by decide +kernel
theorem dX11_selves_29 : decode cX11_selves 29 = .ok (.iconst 1, 1) := by decide +kernel
theorem dX11_selves_30 : decode cX11_selves 30 = .ok (.iload_n 1, 1) := by decide +kernel
theorem dX11_selves_31 : decode cX11_selves 31 = .ok (.iadd, 1) := by decide +kernel
theorem dX11_selves_32 : decode cX11_selves 32 = .ok (.aaload, 1) := by decide +kernel
theorem dX11_selves_33 : decode cX11_selves 33 = .ok (.aload_n 0, 1) := by decide +kernel
theorem dX11_selves_34 : decode cX11_selves 34 = .ok (.getfield 20, 3) := by decide +kernel
theorem dX11_selves_37 : decode cX11_selves 37 = .ok (.iconst 1, 1) := by decide +kernel
theorem dX11_selves_38 : decode cX11_selves 38 = .ok (.iload_n 1, 1) := by decide +kernel
theorem dX11_selves_39 : decode cX11_selves 39 = .ok (.iadd, 1) := by decide +kernel
theorem dX11_selves_40 : decode cX11_selves 40 = .ok (.aaload, 1) := by decide +kernel
theorem dX11_selves_41 : decode cX11_selves 41 = .ok (.iconst 0, 1) := by decide +kernel
theorem dX11_selves_42 : decode cX11_selves 42 = .ok (.iconst 0, 1) := by decide +kernel
theorem dX11_selves_43 : decode cX11_selves 43 = .ok (.iconst 0, 1) := by decide +kernel
theorem dX11_selves_44 : decode cX11_selves 44 = .ok (.invokevirtual 187, 3) := by decide +kernel
theorem dX11_selves_47 : decode cX11_selves 47 = .ok (.ireturn, 1) := by decide +kernel
theorem dX11_unlike_0 : decode cX11_unlike 0 = .ok (.aload_n 0, 1) := by decide +kernel
theorem dX11_unlike_1 : decode cX11_unlike 1 = .ok (.iload_n 1, 1) := by decide +kernel
theorem dX11_unlike_2 : decode cX11_unlike 2 = .ok (.iload_n 2, 1) := by decide +kernel
theorem dX11_unlike_3 : decode cX11_unlike 3 = .ok (.invokevirtual 146, 3) := by decide +kernel
theorem dX11_unlike_6 : decode cX11_unlike 6 = .ok (.ifCond .eq 15, 3) := by decide +kernel
theorem dX11_unlike_9 : decode cX11_unlike 9 = .ok (.iload_n 3, 1) := by decide +kernel
theorem dX11_unlike_10 : decode cX11_unlike 10 = .ok (.i2l, 1) := by decide +kernel
theorem dX11_unlike_11 : decode cX11_unlike 11 = .ok (.lconst 1, 1) := by decide +kernel
theorem dX11_unlike_12 : decode cX11_unlike 12 = .ok (.ldc2_w 161, 3) := by decide +kernel
theorem dX11_unlike_15 : decode cX11_unlike 15 = .ok (.invokestatic 85, 3) := by decide +kernel
theorem dX11_unlike_18 : decode cX11_unlike 18 = .ok (.ifCond .ne 6, 3) := by decide +kernel
theorem dX11_unlike_21 : decode cX11_unlike 21 = .ok (.bipush (-2), 2) := by decide +kernel
theorem dX11_unlike_23 : decode cX11_unlike 23 = .ok (.ireturn, 1) := by decide +kernel
theorem dX11_unlike_24 : decode cX11_unlike 24 = .ok (.aload_n 0, 1) := by decide +kernel
theorem dX11_unlike_25 : decode cX11_unlike 25 = .ok (.iload_n 1, 1) := by decide +kernel
theorem dX11_unlike_26 : decode cX11_unlike 26 = .ok (.iload_n 2, 1) := by decide +kernel
theorem dX11_unlike_27 : decode cX11_unlike 27 = .ok (.invokevirtual 150, 3) := by decide +kernel
theorem dX11_unlike_30 : decode cX11_unlike 30 = .ok (.aload_n 0, 1) := by decide +kernel
theorem dX11_unlike_31 : decode cX11_unlike 31 = .ok (.getfield 11, 3) := by decide +kernel
theorem dX11_unlike_34 : decode cX11_unlike 34 = .ok (.iconst 0, 1) := by decide +kernel
theorem dX11_unlike_35 : decode cX11_unlike 35 = .ok (.iaload, 1) := by decide +kernel
theorem dX11_unlike_36 : decode cX11_unlike 36 = .ok (.bipush 6, 2) := by decide +kernel
theorem dX11_unlike_38 : decode cX11_unlike 38 = .ok (.if_icmp .gt 14, 3) := by decide +kernel
theorem dX11_unlike_41 : decode cX11_unlike 41 = .ok (.aload_n 0, 1) := by decide +kernel
theorem dX11_unlike_42 : decode cX11_unlike 42 = .ok (.getfield 35, 3) := by decide +kernel
theorem dX11_unlike_45 : decode cX11_unlike 45 = .ok (.iload_n 2, 1) := by decide +kernel
theorem dX11_unlike_46 : decode cX11_unlike 46 = .ok (.iaload, 1) := by decide +kernel
theorem dX11_unlike_47 : decode cX11_unlike 47 = .ok (.bipush 14, 2) := by decide +kernel
theorem dX11_unlike_49 : decode cX11_unlike 49 = .ok (.if_icmp .le 6, 3) := by decide +kernel
theorem dX11_unlike_52 : decode cX11_unlike 52 = .ok (.bipush (-3), 2) := by decide +kernel
theorem dX11_unlike_54 : decode cX11_unlike 54 = .ok (.ireturn, 1) := by decide +kernel
theorem dX11_unlike_55 : decode cX11_unlike 55 = .ok (.aload_n 0, 1) := by decide +kernel
theorem dX11_unlike_56 : decode cX11_unlike 56 = .ok (.iload_n 1, 1) := by decide +kernel
theorem dX11_unlike_57 : decode cX11_unlike 57 = .ok (.iload_n 2, 1) := by decide +kernel
theorem dX11_unlike_58 : decode cX11_unlike 58 = .ok (.iload_n 3, 1) := by decide +kernel
theorem dX11_unlike_59 : decode cX11_unlike 59 = .ok (.iconst (-1), 1) := by decide +kernel
theorem dX11_unlike_60 : decode cX11_unlike 60 = .ok (.invokevirtual 163, 3) := by decide +kernel
theorem dX11_unlike_63 : decode cX11_unlike 63 = .ok (.istore 4, 2) := by decide +kernel
theorem dX11_unlike_65 : decode cX11_unlike 65 = .ok (.iload 4, 2) := by decide +kernel
theorem dX11_unlike_67 : decode cX11_unlike 67 = .ok (.bipush 24, 2) := by decide +kernel
theorem dX11_unlike_69 : decode cX11_unlike 69 = .ok (.if_icmp .le 6, 3) := by decide +kernel
theorem dX11_unlike_72 : decode cX11_unlike 72 = .ok (.bipush (-3), 2) := by decide +kernel
theorem dX11_unlike_74 : decode cX11_unlike 74 = .ok (.ireturn, 1) := by decide +kernel
theorem dX11_unlike_75 : decode cX11_unlike 75 = .ok (.iconst 0, 1) := by decide +kernel
theorem dX11_unlike_76 : decode cX11_unlike 76 = .ok (.istore 5, 2) := by decide +kernel
theorem dX11_unlike_78 : decode cX11_unlike 78 = .ok (.iconst 0, 1) := by decide +kernel
theorem dX11_unlike_79 : decode cX11_unlike 79 = .ok (.istore 6, 2) := by decide +kernel
theorem dX11_unlike_81 : decode cX11_unlike 81 = .ok (.iload 6, 2) := by decide +kernel
theorem dX11_unlike_83 : decode cX11_unlike 83 = .ok (.iload 4, 2) := by decide +kernel
theorem dX11_unlike_85 : decode cX11_unlike 85 = .ok (.if_icmp .ge 153, 3) := by decide +kernel
theorem dX11_unlike_88 : decode cX11_unlike 88 = .ok (.aload_n 0, 1) := by decide +kernel
theorem dX11_unlike_89 : decode cX11_unlike 89 = .ok (.iload_n 1, 1) := by decide +kernel
theorem dX11_unlike_90 : decode cX11_unlike 90 = .ok (.iload_n 2, 1) := by decide +kernel
theorem dX11_unlike_91 : decode cX11_unlike 91 = .ok (.iload_n 3, 1) := by decide +kernel
theorem dX11_unlike_92 : decode cX11_unlike 92 = .ok (.iload 6, 2) := by decide +kernel
theorem dX11_unlike_94 : decode cX11_unlike 94 = .ok (.invokevirtual 163, 3) := by decide +kernel
theorem dX11_unlike_97 : decode cX11_unlike 97 = .ok (.istore 7, 2) := by decide +kernel
theorem dX11_unlike_99 : decode cX11_unlike 99 = .ok (.iconst 0, 1) := by decide +kernel
theorem dX11_unlike_100 : decode cX11_unlike 100 = .ok (.istore 8, 2) := by decide +kernel
theorem dX11_unlike_102 : decode cX11_unlike 102 = .ok (.iload 8, 2) := by decide +kernel
theorem dX11_unlike_104 : decode cX11_unlike 104 = .ok (.sipush 256, 3) := by decide +kernel
theorem dX11_unlike_107 : decode cX11_unlike 107 = .ok (.if_icmp .ge 58, 3) := by decide +kernel
theorem dX11_unlike_110 : decode cX11_unlike 110 = .ok (.aload_n 0, 1) := by decide +kernel
theorem dX11_unlike_111 : decode cX11_unlike 111 = .ok (.getfield 56, 3) := by decide +kernel
theorem dX11_unlike_114 : decode cX11_unlike 114 = .ok (.iload 5, 2) := by decide +kernel
theorem dX11_unlike_116 : decode cX11_unlike 116 = .ok (.aaload, 1) := by decide +kernel
theorem dX11_unlike_117 : decode cX11_unlike 117 = .ok (.iload 8, 2) := by decide +kernel
theorem dX11_unlike_119 : decode cX11_unlike 119 = .ok (.iload 8, 2) := by decide +kernel
theorem dX11_unlike_121 : decode cX11_unlike 121 = .ok (.aload_n 0, 1) := by decide +kernel
theorem dX11_unlike_122 : decode cX11_unlike 122 = .ok (.invokevirtual 81, 3) := by decide +kernel
theorem dX11_unlike_125 : decode cX11_unlike 125 = .ok (.if_icmp .gt 32, 3) := by decide +kernel
theorem dX11_unlike_128 : decode cX11_unlike 128 = .ok (.iload 8, 2) := by decide +kernel
theorem dX11_unlike_130 : decode cX11_unlike 130 = .ok (.invokestatic 128, 3) := by decide +kernel
theorem dX11_unlike_133 : decode cX11_unlike 133 = .ok (.iload_n 2, 1) := by decide +kernel
theorem dX11_unlike_134 : decode cX11_unlike 134 = .ok (.if_icmp .ne 23, 3) := by decide +kernel
theorem dX11_unlike_137 : decode cX11_unlike 137 = .ok (.iload 7, 2) := by decide +kernel
theorem dX11_unlike_139 : decode cX11_unlike 139 = .ok (.aload_n 0, 1) := by decide +kernel
theorem dX11_unlike_140 : decode cX11_unlike 140 = .ok (.getfield 32, 3) := by decide +kernel
theorem dX11_unlike_143 : decode cX11_unlike 143 = .ok (.iload 8, 2) := by decide +kernel
theorem dX11_unlike_145 : decode cX11_unlike 145 = .ok (.iaload, 1) := by decide +kernel
theorem dX11_unlike_146 : decode cX11_unlike 146 = .ok (.ishr, 1) := by decide +kernel
theorem dX11_unlike_147 : decode cX11_unlike 147 = .ok (.iconst 1, 1) := by decide +kernel
theorem dX11_unlike_148 : decode cX11_unlike 148 = .ok (.iand, 1) := by decide +kernel
theorem dX11_unlike_149 : decode cX11_unlike 149 = .ok (.iconst 1, 1) := by decide +kernel
theorem dX11_unlike_150 : decode cX11_unlike 150 = .ok (.if_icmp .ne 7, 3) := by decide +kernel
theorem dX11_unlike_153 : decode cX11_unlike 153 = .ok (.iconst 1, 1) := by decide +kernel
theorem dX11_unlike_154 : decode cX11_unlike 154 = .ok (.goto 4, 3) := by decide +kernel
theorem dX11_unlike_157 : decode cX11_unlike 157 = .ok (.iconst 0, 1) := by decide +kernel
theorem dX11_unlike_158 : decode cX11_unlike 158 = .ok (.bastore, 1) := by decide +kernel
theorem dX11_unlike_159 : decode cX11_unlike 159 = .ok (.iinc 8 1, 3) := by decide +kernel
theorem dX11_unlike_162 : decode cX11_unlike 162 = .ok (.goto (-60), 3) := by decide +kernel
theorem dX11_unlike_165 : decode cX11_unlike 165 = .ok (.iconst 1, 1) := by decide +kernel
theorem dX11_unlike_166 : decode cX11_unlike 166 = .ok (.istore 8, 2) := by decide +kernel
theorem dX11_unlike_168 : decode cX11_unlike 168 = .ok (.iconst 0, 1) := by decide +kernel
theorem dX11_unlike_169 : decode cX11_unlike 169 = .ok (.istore 9, 2) := by decide +kernel
theorem dX11_unlike_171 : decode cX11_unlike 171 = .ok (.iload 9, 2) := by decide +kernel
theorem dX11_unlike_173 : decode cX11_unlike 173 = .ok (.iload 5, 2) := by decide +kernel
theorem dX11_unlike_175 : decode cX11_unlike 175 = .ok (.if_icmp .ge 42, 3) := by decide +kernel
theorem dX11_unlike_178 : decode cX11_unlike 178 = .ok (.iload 8, 2) := by decide +kernel
theorem dX11_unlike_180 : decode cX11_unlike 180 = .ok (.ifCond .eq 37, 3) := by decide +kernel
theorem dX11_unlike_183 : decode cX11_unlike 183 = .ok (.aload_n 0, 1) := by decide +kernel
theorem dX11_unlike_184 : decode cX11_unlike 184 = .ok (.aload_n 0, 1) := by decide +kernel
theorem dX11_unlike_185 : decode cX11_unlike 185 = .ok (.getfield 56, 3) := by decide +kernel
theorem dX11_unlike_188 : decode cX11_unlike 188 = .ok (.iload 9, 2) := by decide +kernel
theorem dX11_unlike_190 : decode cX11_unlike 190 = .ok (.aaload, 1) := by decide +kernel
theorem dX11_unlike_191 : decode cX11_unlike 191 = .ok (.aload_n 0, 1) := by decide +kernel
theorem dX11_unlike_192 : decode cX11_unlike 192 = .ok (.getfield 56, 3) := by decide +kernel
theorem dX11_unlike_195 : decode cX11_unlike 195 = .ok (.iload 5, 2) := by decide +kernel
theorem dX11_unlike_197 : decode cX11_unlike 197 = .ok (.aaload, 1) := by decide +kernel
theorem dX11_unlike_198 : decode cX11_unlike 198 = .ok (.invokevirtual 191, 3) := by decide +kernel
theorem dX11_unlike_201 : decode cX11_unlike 201 = .ok (.ifCond .ne 7, 3) := by decide +kernel
theorem dX11_unlike_204 : decode cX11_unlike 204 = .ok (.iconst 1, 1) := by decide +kernel
theorem dX11_unlike_205 : decode cX11_unlike 205 = .ok (.goto 4, 3) := by decide +kernel
theorem dX11_unlike_208 : decode cX11_unlike 208 = .ok (.iconst 0, 1) := by decide +kernel
theorem dX11_unlike_209 : decode cX11_unlike 209 = .ok (.istore 8, 2) := by decide +kernel
theorem dX11_unlike_211 : decode cX11_unlike 211 = .ok (.iinc 9 1, 3) := by decide +kernel
theorem dX11_unlike_214 : decode cX11_unlike 214 = .ok (.goto (-43), 3) := by decide +kernel
theorem dX11_unlike_217 : decode cX11_unlike 217 = .ok (.iload 5, 2) := by decide +kernel
theorem dX11_unlike_219 : decode cX11_unlike 219 = .ok (.iload 8, 2) := by decide +kernel
theorem dX11_unlike_221 : decode cX11_unlike 221 = .ok (.ifCond .eq 7, 3) := by decide +kernel
theorem dX11_unlike_224 : decode cX11_unlike 224 = .ok (.iconst 1, 1) := by decide +kernel
theorem dX11_unlike_225 : decode cX11_unlike 225 = .ok (.goto 4, 3) := by decide +kernel
theorem dX11_unlike_228 : decode cX11_unlike 228 = .ok (.iconst 0, 1) := by decide +kernel
theorem dX11_unlike_229 : decode cX11_unlike 229 = .ok (.iadd, 1) := by decide +kernel
theorem dX11_unlike_230 : decode cX11_unlike 230 = .ok (.istore 5, 2) := by decide +kernel
theorem dX11_unlike_232 : decode cX11_unlike 232 = .ok (.iinc 6 1, 3) := by decide +kernel
theorem dX11_unlike_235 : decode cX11_unlike 235 = .ok (.goto (-154), 3) := by decide +kernel
theorem dX11_unlike_238 : decode cX11_unlike 238 = .ok (.iload 5, 2) := by decide +kernel
theorem dX11_unlike_240 : decode cX11_unlike 240 = .ok (.ireturn, 1) := by decide +kernel
theorem dX11_lots_0 : decode cX11_lots 0 = .ok (.aload_n 0, 1) := by decide +kernel
theorem dX11_lots_1 : decode cX11_lots 1 = .ok (.iload_n 1, 1) := by decide +kernel
theorem dX11_lots_2 : decode cX11_lots 2 = .ok (.invokevirtual 131, 3) := by decide +kernel
theorem dX11_lots_5 : decode cX11_lots 5 = .ok (.ifCond .eq 15, 3) := by decide +kernel
theorem dX11_lots_8 : decode cX11_lots 8 = .ok (.iload_n 2, 1) := by decide +kernel
theorem dX11_lots_9 : decode cX11_lots 9 = .ok (.i2l, 1) := by decide +kernel
theorem dX11_lots_10 : decode cX11_lots 10 = .ok (.lconst 1, 1) := by decide +kernel
theorem dX11_lots_11 : decode cX11_lots 11 = .ok (.ldc2_w 195, 3) := by decide +kernel
theorem dX11_lots_14 : decode cX11_lots 14 = .ok (.invokestatic 85, 3) := by decide +kernel
theorem dX11_lots_17 : decode cX11_lots 17 = .ok (.ifCond .ne 6, 3) := by decide +kernel
theorem dX11_lots_20 : decode cX11_lots 20 = .ok (.bipush (-2), 2) := by decide +kernel
theorem dX11_lots_22 : decode cX11_lots 22 = .ok (.ireturn, 1) := by decide +kernel
theorem dX11_lots_23 : decode cX11_lots 23 = .ok (.iload 4, 2) := by decide +kernel
theorem dX11_lots_25 : decode cX11_lots 25 = .ok (.i2l, 1) := by decide +kernel
theorem dX11_lots_26 : decode cX11_lots 26 = .ok (.lconst 0, 1) := by decide +kernel
theorem dX11_lots_27 : decode cX11_lots 27 = .ok (.lconst 1, 1) := by decide +kernel
theorem dX11_lots_28 : decode cX11_lots 28 = .ok (.invokestatic 85, 3) := by decide +kernel
theorem dX11_lots_31 : decode cX11_lots 31 = .ok (.ifCond .ne 5, 3) := by decide +kernel
theorem dX11_lots_34 : decode cX11_lots 34 = .ok (.iconst (-1), 1) := by decide +kernel
theorem dX11_lots_35 : decode cX11_lots 35 = .ok (.ireturn, 1) := by decide +kernel
theorem dX11_lots_36 : decode cX11_lots 36 = .ok (.aload_n 0, 1) := by decide +kernel
theorem dX11_lots_37 : decode cX11_lots 37 = .ok (.invokevirtual 134, 3) := by decide +kernel
theorem dX11_lots_40 : decode cX11_lots 40 = .ok (.iload_n 3, 1) := by decide +kernel
theorem dX11_lots_41 : decode cX11_lots 41 = .ok (.istore 5, 2) := by decide +kernel
theorem dX11_lots_43 : decode cX11_lots 43 = .ok (.iconst 0, 1) := by decide +kernel
theorem dX11_lots_44 : decode cX11_lots 44 = .ok (.istore 6, 2) := by decide +kernel
theorem dX11_lots_46 : decode cX11_lots 46 = .ok (.iconst 0, 1) := by decide +kernel
theorem dX11_lots_47 : decode cX11_lots 47 = .ok (.istore 7, 2) := by decide +kernel
theorem dX11_lots_49 : decode cX11_lots 49 = .ok (.iconst 0, 1) := by decide +kernel
theorem dX11_lots_50 : decode cX11_lots 50 = .ok (.istore 8, 2) := by decide +kernel
theorem dX11_lots_52 : decode cX11_lots 52 = .ok (.iload 8, 2) := by decide +kernel
theorem dX11_lots_54 : decode cX11_lots 54 = .ok (.iload_n 2, 1) := by decide +kernel
theorem dX11_lots_55 : decode cX11_lots 55 = .ok (.if_icmp .ge 173, 3) := by decide +kernel
theorem dX11_lots_58 : decode cX11_lots 58 = .ok (.iconst 0, 1) := by decide +kernel
theorem dX11_lots_59 : decode cX11_lots 59 = .ok (.istore 9, 2) := by decide +kernel
theorem dX11_lots_61 : decode cX11_lots 61 = .ok (.iload 9, 2) := by decide +kernel
theorem dX11_lots_63 : decode cX11_lots 63 = .ok (.sipush 256, 3) := by decide +kernel
theorem dX11_lots_66 : decode cX11_lots 66 = .ok (.if_icmp .ge 17, 3) := by decide +kernel
theorem dX11_lots_69 : decode cX11_lots 69 = .ok (.aload_n 0, 1) := by decide +kernel
theorem dX11_lots_70 : decode cX11_lots 70 = .ok (.getfield 49, 3) := by decide +kernel
theorem dX11_lots_73 : decode cX11_lots 73 = .ok (.iload 9, 2) := by decide +kernel
theorem dX11_lots_75 : decode cX11_lots 75 = .ok (.iconst 0, 1) := by decide +kernel
theorem dX11_lots_76 : decode cX11_lots 76 = .ok (.bastore, 1) := by decide +kernel
theorem dX11_lots_77 : decode cX11_lots 77 = .ok (.iinc 9 1, 3) := by decide +kernel
theorem dX11_lots_80 : decode cX11_lots 80 = .ok (.goto (-19), 3) := by decide +kernel
theorem dX11_lots_83 : decode cX11_lots 83 = .ok (.iconst 0, 1) := by decide +kernel
theorem dX11_lots_84 : decode cX11_lots 84 = .ok (.istore 9, 2) := by decide +kernel
theorem dX11_lots_86 : decode cX11_lots 86 = .ok (.iload 9, 2) := by decide +kernel
theorem dX11_lots_88 : decode cX11_lots 88 = .ok (.aload_n 0, 1) := by decide +kernel
theorem dX11_lots_89 : decode cX11_lots 89 = .ok (.getfield 35, 3) := by decide +kernel
theorem dX11_lots_92 : decode cX11_lots 92 = .ok (.iload_n 1, 1) := by decide +kernel
theorem dX11_lots_93 : decode cX11_lots 93 = .ok (.iaload, 1) := by decide +kernel
theorem dX11_lots_94 : decode cX11_lots 94 = .ok (.if_icmp .ge 91, 3) := by decide +kernel
theorem dX11_lots_97 : decode cX11_lots 97 = .ok (.iload 5, 2) := by decide +kernel
theorem dX11_lots_99 : decode cX11_lots 99 = .ok (.ldc 197, 2) := by decide +kernel
theorem dX11_lots_101 : decode cX11_lots 101 = .ok (.imul, 1) := by decide +kernel
theorem dX11_lots_102 : decode cX11_lots 102 = .ok (.sipush 12345, 3) := by decide +kernel
theorem dX11_lots_105 : decode cX11_lots 105 = .ok (.iadd, 1) := by decide +kernel
theorem dX11_lots_106 : decode cX11_lots 106 = .ok (.istore 5, 2) := by decide +kernel
theorem dX11_lots_108 : decode cX11_lots 108 = .ok (.iload 5, 2) := by decide +kernel
theorem dX11_lots_110 : decode cX11_lots 110 = .ok (.ldc 198, 2) := by decide +kernel
theorem dX11_lots_112 : decode cX11_lots 112 = .ok (.iand, 1) := by decide +kernel
theorem dX11_lots_113 : decode cX11_lots 113 = .ok (.ldc 199, 2) := by decide +kernel
theorem dX11_lots_115 : decode cX11_lots 115 = .ok (.idiv, 1) := by decide +kernel
theorem dX11_lots_116 : decode cX11_lots 116 = .ok (.iconst 2, 1) := by decide +kernel
theorem dX11_lots_117 : decode cX11_lots 117 = .ok (.irem, 1) := by decide +kernel
theorem dX11_lots_118 : decode cX11_lots 118 = .ok (.iconst 1, 1) := by decide +kernel
theorem dX11_lots_119 : decode cX11_lots 119 = .ok (.if_icmp .ne 7, 3) := by decide +kernel
theorem dX11_lots_122 : decode cX11_lots 122 = .ok (.iconst 1, 1) := by decide +kernel
theorem dX11_lots_123 : decode cX11_lots 123 = .ok (.goto 4, 3) := by decide +kernel
theorem dX11_lots_126 : decode cX11_lots 126 = .ok (.iconst 0, 1) := by decide +kernel
theorem dX11_lots_127 : decode cX11_lots 127 = .ok (.istore 10, 2) := by decide +kernel
theorem dX11_lots_129 : decode cX11_lots 129 = .ok (.iconst 0, 1) := by decide +kernel
theorem dX11_lots_130 : decode cX11_lots 130 = .ok (.istore 11, 2) := by decide +kernel
theorem dX11_lots_132 : decode cX11_lots 132 = .ok (.iload 11, 2) := by decide +kernel
theorem dX11_lots_134 : decode cX11_lots 134 = .ok (.aload_n 0, 1) := by decide +kernel
theorem dX11_lots_135 : decode cX11_lots 135 = .ok (.invokevirtual 81, 3) := by decide +kernel
theorem dX11_lots_138 : decode cX11_lots 138 = .ok (.if_icmp .gt 41, 3) := by decide +kernel
theorem dX11_lots_141 : decode cX11_lots 141 = .ok (.aload_n 0, 1) := by decide +kernel
theorem dX11_lots_142 : decode cX11_lots 142 = .ok (.getfield 49, 3) := by decide +kernel
theorem dX11_lots_145 : decode cX11_lots 145 = .ok (.iload 11, 2) := by decide +kernel
theorem dX11_lots_147 : decode cX11_lots 147 = .ok (.dup2, 1) := by decide +kernel
theorem dX11_lots_148 : decode cX11_lots 148 = .ok (.baload, 1) := by decide +kernel
theorem dX11_lots_149 : decode cX11_lots 149 = .ok (.iload 10, 2) := by decide +kernel
theorem dX11_lots_151 : decode cX11_lots 151 = .ok (.ifCond .eq 19, 3) := by decide +kernel
theorem dX11_lots_154 : decode cX11_lots 154 = .ok (.aload_n 0, 1) := by decide +kernel
theorem dX11_lots_155 : decode cX11_lots 155 = .ok (.iload 11, 2) := by decide +kernel
theorem dX11_lots_157 : decode cX11_lots 157 = .ok (.iload_n 1, 1) := by decide +kernel
theorem dX11_lots_158 : decode cX11_lots 158 = .ok (.iload 9, 2) := by decide +kernel
theorem dX11_lots_160 : decode cX11_lots 160 = .ok (.invokevirtual 137, 3) := by decide +kernel
theorem dX11_lots_163 : decode cX11_lots 163 = .ok (.ifCond .eq 7, 3) := by decide +kernel
theorem dX11_lots_166 : decode cX11_lots 166 = .ok (.iconst 1, 1) := by decide +kernel
theorem dX11_lots_167 : decode cX11_lots 167 = .ok (.goto 4, 3) := by decide +kernel
theorem dX11_lots_170 : decode cX11_lots 170 = .ok (.iconst 0, 1) := by decide +kernel
theorem dX11_lots_171 : decode cX11_lots 171 = .ok (.ior, 1) := by decide +kernel
theorem dX11_lots_172 : decode cX11_lots 172 = .ok (.bastore, 1) := by decide +kernel
theorem dX11_lots_173 : decode cX11_lots 173 = .ok (.iinc 11 1, 3) := by decide +kernel
theorem dX11_lots_176 : decode cX11_lots 176 = .ok (.goto (-44), 3) := by decide +kernel
theorem dX11_lots_179 : decode cX11_lots 179 = .ok (.iinc 9 1, 3) := by decide +kernel
theorem dX11_lots_182 : decode cX11_lots 182 = .ok (.goto (-96), 3) := by decide +kernel
theorem dX11_lots_185 : decode cX11_lots 185 = .ok (.iload 6, 2) := by decide +kernel
theorem dX11_lots_187 : decode cX11_lots 187 = .ok (.aload_n 0, 1) := by decide +kernel
theorem dX11_lots_188 : decode cX11_lots 188 = .ok (.getfield 49, 3) := by decide +kernel
theorem dX11_lots_191 : decode cX11_lots 191 = .ok (.aload_n 0, 1) := by decide +kernel
theorem dX11_lots_192 : decode cX11_lots 192 = .ok (.invokevirtual 81, 3) := by decide +kernel
theorem dX11_lots_195 : decode cX11_lots 195 = .ok (.iconst 1, 1) := by decide +kernel
theorem dX11_lots_196 : decode cX11_lots 196 = .ok (.invokestatic 174, 3) := by decide +kernel
theorem dX11_lots_199 : decode cX11_lots 199 = .ok (.ifCond .lt 7, 3) := by decide +kernel
theorem dX11_lots_202 : decode cX11_lots 202 = .ok (.iconst 1, 1) := by decide +kernel
theorem dX11_lots_203 : decode cX11_lots 203 = .ok (.goto 4, 3) := by decide +kernel
theorem dX11_lots_206 : decode cX11_lots 206 = .ok (.iconst 0, 1) := by decide +kernel
theorem dX11_lots_207 : decode cX11_lots 207 = .ok (.iadd, 1) := by decide +kernel
theorem dX11_lots_208 : decode cX11_lots 208 = .ok (.istore 6, 2) := by decide +kernel
theorem dX11_lots_210 : decode cX11_lots 210 = .ok (.iload 7, 2) := by decide +kernel
theorem dX11_lots_212 : decode cX11_lots 212 = .ok (.aload_n 0, 1) := by decide +kernel
theorem dX11_lots_213 : decode cX11_lots 213 = .ok (.getfield 49, 3) := by decide +kernel
theorem dX11_lots_216 : decode cX11_lots 216 = .ok (.invokestatic 170, 3) := by decide +kernel
theorem dX11_lots_219 : decode cX11_lots 219 = .ok (.iadd, 1) := by decide +kernel
theorem dX11_lots_220 : decode cX11_lots 220 = .ok (.istore 7, 2) := by decide +kernel
theorem dX11_lots_222 : decode cX11_lots 222 = .ok (.iinc 8 1, 3) := by decide +kernel
theorem dX11_lots_225 : decode cX11_lots 225 = .ok (.goto (-173), 3) := by decide +kernel
theorem dX11_lots_228 : decode cX11_lots 228 = .ok (.iload 4, 2) := by decide +kernel
theorem dX11_lots_230 : decode cX11_lots 230 = .ok (.ifCond .ne 8, 3) := by decide +kernel
theorem dX11_lots_233 : decode cX11_lots 233 = .ok (.iload 6, 2) := by decide +kernel
theorem dX11_lots_235 : decode cX11_lots 235 = .ok (.goto 5, 3) := by decide +kernel
theorem dX11_lots_238 : decode cX11_lots 238 = .ok (.iload 7, 2) := by decide +kernel
theorem dX11_lots_240 : decode cX11_lots 240 = .ok (.ireturn, 1) := by decide +kernel
theorem dX11_feed_0 : decode cX11_feed 0 = .ok (.iload_n 1, 1) := by decide +kernel
theorem dX11_feed_1 : decode cX11_feed 1 = .ok (.i2l, 1) := by decide +kernel
theorem dX11_feed_2 : decode cX11_feed 2 = .ok (.lconst 0, 1) := by decide +kernel
theorem dX11_feed_3 : decode cX11_feed 3 = .ok (.ldc2_w 200, 3) := by decide +kernel
theorem dX11_feed_6 : decode cX11_feed 6 = .ok (.invokestatic 85, 3) := by decide +kernel
theorem dX11_feed_9 : decode cX11_feed 9 = .ok (.ifCond .ne 6, 3) := by decide +kernel
theorem dX11_feed_12 : decode cX11_feed 12 = .ok (.bipush (-2), 2) := by decide +kernel
theorem dX11_feed_14 : decode cX11_feed 14 = .ok (.ireturn, 1) := by decide +kernel
theorem dX11_feed_15 : decode cX11_feed 15 = .ok (.aload_n 0, 1) := by decide +kernel
theorem dX11_feed_16 : decode cX11_feed 16 = .ok (.getfield 202, 3) := by decide +kernel
theorem dX11_feed_19 : decode cX11_feed 19 = .ok (.bipush 100, 2) := by decide +kernel
theorem dX11_feed_21 : decode cX11_feed 21 = .ok (.if_icmp .ne 6, 3) := by decide +kernel
theorem dX11_feed_24 : decode cX11_feed 24 = .ok (.bipush (-4), 2) := by decide +kernel
theorem dX11_feed_26 : decode cX11_feed 26 = .ok (.ireturn, 1) := by decide +kernel
theorem dX11_feed_27 : decode cX11_feed 27 = .ok (.aload_n 0, 1) := by decide +kernel
theorem dX11_feed_28 : decode cX11_feed 28 = .ok (.getfield 59, 3) := by decide +kernel
theorem dX11_feed_31 : decode cX11_feed 31 = .ok (.aload_n 0, 1) := by decide +kernel
theorem dX11_feed_32 : decode cX11_feed 32 = .ok (.getfield 202, 3) := by decide +kernel
theorem dX11_feed_35 : decode cX11_feed 35 = .ok (.iload_n 1, 1) := by decide +kernel
theorem dX11_feed_36 : decode cX11_feed 36 = .ok (.iastore, 1) := by decide +kernel
theorem dX11_feed_37 : decode cX11_feed 37 = .ok (.aload_n 0, 1) := by decide +kernel
theorem dX11_feed_38 : decode cX11_feed 38 = .ok (.dup, 1) := by decide +kernel
theorem dX11_feed_39 : decode cX11_feed 39 = .ok (.getfield 202, 3) := by decide +kernel
theorem dX11_feed_42 : decode cX11_feed 42 = .ok (.iconst 1, 1) := by decide +kernel
theorem dX11_feed_43 : decode cX11_feed 43 = .ok (.iadd, 1) := by decide +kernel
theorem dX11_feed_44 : decode cX11_feed 44 = .ok (.putfield 202, 3) := by decide +kernel
theorem dX11_feed_47 : decode cX11_feed 47 = .ok (.aload_n 0, 1) := by decide +kernel
theorem dX11_feed_48 : decode cX11_feed 48 = .ok (.getfield 202, 3) := by decide +kernel
theorem dX11_feed_51 : decode cX11_feed 51 = .ok (.ireturn, 1) := by decide +kernel
theorem dX11_here_0 : decode cX11_here 0 = .ok (.aload_n 0, 1) := by decide +kernel
theorem dX11_here_1 : decode cX11_here 1 = .ok (.getfield 206, 3) := by decide +kernel
theorem dX11_here_4 : decode cX11_here 4 = .ok (.aload_n 0, 1) := by decide +kernel
theorem dX11_here_5 : decode cX11_here 5 = .ok (.getfield 202, 3) := by decide +kernel
theorem dX11_here_8 : decode cX11_here 8 = .ok (.if_icmp .ge 15, 3) := by decide +kernel
theorem dX11_here_11 : decode cX11_here 11 = .ok (.aload_n 0, 1) := by decide +kernel
theorem dX11_here_12 : decode cX11_here 12 = .ok (.getfield 59, 3) := by decide +kernel
theorem dX11_here_15 : decode cX11_here 15 = .ok (.aload_n 0, 1) := by decide +kernel
theorem dX11_here_16 : decode cX11_here 16 = .ok (.getfield 206, 3) := by decide +kernel
theorem dX11_here_19 : decode cX11_here 19 = .ok (.iaload, 1) := by decide +kernel
theorem dX11_here_20 : decode cX11_here 20 = .ok (.goto 4, 3) := by decide +kernel
theorem dX11_here_23 : decode cX11_here 23 = .ok (.iconst (-1), 1) := by decide +kernel
theorem dX11_here_24 : decode cX11_here 24 = .ok (.ireturn, 1) := by decide +kernel
theorem dX11_hasClause_0 : decode cX11_hasClause 0 = .ok (.aload_n 0, 1) := by decide +kernel
theorem dX11_hasClause_1 : decode cX11_hasClause 1 = .ok (.invokevirtual 209, 3) := by decide +kernel
theorem dX11_hasClause_4 : decode cX11_hasClause 4 = .ok (.istore_n 1, 1) := by decide +kernel
theorem dX11_hasClause_5 : decode cX11_hasClause 5 = .ok (.iload_n 1, 1) := by decide +kernel
theorem dX11_hasClause_6 : decode cX11_hasClause 6 = .ok (.bipush 110, 2) := by decide +kernel
theorem dX11_hasClause_8 : decode cX11_hasClause 8 = .ok (.if_icmp .eq 9, 3) := by decide +kernel
theorem dX11_hasClause_11 : decode cX11_hasClause 11 = .ok (.iload_n 1, 1) := by decide +kernel
theorem dX11_hasClause_12 : decode cX11_hasClause 12 = .ok (.bipush 98, 2) := by decide +kernel
theorem dX11_hasClause_14 : decode cX11_hasClause 14 = .ok (.if_icmp .ne 7, 3) := by decide +kernel
theorem dX11_hasClause_17 : decode cX11_hasClause 17 = .ok (.iconst 1, 1) := by decide +kernel
theorem dX11_hasClause_18 : decode cX11_hasClause 18 = .ok (.goto 30, 3) := by decide +kernel
theorem dX11_hasClause_21 : decode cX11_hasClause 21 = .ok (.iload_n 1, 1) := by decide +kernel
theorem dX11_hasClause_22 : decode cX11_hasClause 22 = .ok (.bipush 103, 2) := by decide +kernel
theorem dX11_hasClause_24 : decode cX11_hasClause 24 = .ok (.if_icmp .eq 9, 3) := by decide +kernel
theorem dX11_hasClause_27 : decode cX11_hasClause 27 = .ok (.iload_n 1, 1) := by decide +kernel
theorem dX11_hasClause_28 : decode cX11_hasClause 28 = .ok (.bipush 107, 2) := by decide +kernel
theorem dX11_hasClause_30 : decode cX11_hasClause 30 = .ok (.if_icmp .ne 7, 3) := by decide +kernel
theorem dX11_hasClause_33 : decode cX11_hasClause 33 = .ok (.iconst 2, 1) := by decide +kernel
theorem dX11_hasClause_34 : decode cX11_hasClause 34 = .ok (.goto 14, 3) := by decide +kernel
theorem dX11_hasClause_37 : decode cX11_hasClause 37 = .ok (.iload_n 1, 1) := by decide +kernel
theorem dX11_hasClause_38 : decode cX11_hasClause 38 = .ok (.bipush 104, 2) := by decide +kernel
theorem dX11_hasClause_40 : decode cX11_hasClause 40 = .ok (.if_icmp .ne 7, 3) := by decide +kernel
theorem dX11_hasClause_43 : decode cX11_hasClause 43 = .ok (.iconst 3, 1) := by decide +kernel
theorem dX11_hasClause_44 : decode cX11_hasClause 44 = .ok (.goto 4, 3) := by decide +kernel
theorem dX11_hasClause_47 : decode cX11_hasClause 47 = .ok (.iconst 0, 1) := by decide +kernel
theorem dX11_hasClause_48 : decode cX11_hasClause 48 = .ok (.istore_n 2, 1) := by decide +kernel
theorem dX11_hasClause_49 : decode cX11_hasClause 49 = .ok (.iload_n 1, 1) := by decide +kernel
theorem dX11_hasClause_50 : decode cX11_hasClause 50 = .ok (.bipush 104, 2) := by decide +kernel
theorem dX11_hasClause_52 : decode cX11_hasClause 52 = .ok (.if_icmp .eq 9, 3) := by decide +kernel
theorem dX11_hasClause_55 : decode cX11_hasClause 55 = .ok (.iload_n 1, 1) := by decide +kernel
theorem dX11_hasClause_56 : decode cX11_hasClause 56 = .ok (.bipush 98, 2) := by decide +kernel
theorem dX11_hasClause_58 : decode cX11_hasClause 58 = .ok (.if_icmp .ne 8, 3) := by decide +kernel
theorem dX11_hasClause_61 : decode cX11_hasClause 61 = .ok (.bipush 8, 2) := by decide +kernel
theorem dX11_hasClause_63 : decode cX11_hasClause 63 = .ok (.goto 4, 3) := by decide +kernel
theorem dX11_hasClause_66 : decode cX11_hasClause 66 = .ok (.iload_n 2, 1) := by decide +kernel
theorem dX11_hasClause_67 : decode cX11_hasClause 67 = .ok (.istore_n 3, 1) := by decide +kernel
theorem dX11_hasClause_68 : decode cX11_hasClause 68 = .ok (.iload_n 2, 1) := by decide +kernel
theorem dX11_hasClause_69 : decode cX11_hasClause 69 = .ok (.ifCond .ne 5, 3) := by decide +kernel
theorem dX11_hasClause_72 : decode cX11_hasClause 72 = .ok (.iconst 0, 1) := by decide +kernel
theorem dX11_hasClause_73 : decode cX11_hasClause 73 = .ok (.ireturn, 1) := by decide +kernel
theorem dX11_hasClause_74 : decode cX11_hasClause 74 = .ok (.aload_n 0, 1) := by decide +kernel
theorem dX11_hasClause_75 : decode cX11_hasClause 75 = .ok (.dup, 1) := by decide +kernel
theorem dX11_hasClause_76 : decode cX11_hasClause 76 = .ok (.getfield 206, 3) := by decide +kernel
theorem dX11_hasClause_79 : decode cX11_hasClause 79 = .ok (.iconst 1, 1) := by decide +kernel
theorem dX11_hasClause_80 : decode cX11_hasClause 80 = .ok (.iadd, 1) := by decide +kernel
theorem dX11_hasClause_81 : decode cX11_hasClause 81 = .ok (.putfield 206, 3) := by decide +kernel
theorem dX11_hasClause_84 : decode cX11_hasClause 84 = .ok (.aload_n 0, 1) := by decide +kernel
theorem dX11_hasClause_85 : decode cX11_hasClause 85 = .ok (.iconst 0, 1) := by decide +kernel
theorem dX11_hasClause_86 : decode cX11_hasClause 86 = .ok (.putfield 212, 3) := by decide +kernel
theorem dX11_hasClause_89 : decode cX11_hasClause 89 = .ok (.aload_n 0, 1) := by decide +kernel
theorem dX11_hasClause_90 : decode cX11_hasClause 90 = .ok (.iconst 0, 1) := by decide +kernel
theorem dX11_hasClause_91 : decode cX11_hasClause 91 = .ok (.putfield 215, 3) := by decide +kernel
theorem dX11_hasClause_94 : decode cX11_hasClause 94 = .ok (.aload_n 0, 1) := by decide +kernel
theorem dX11_hasClause_95 : decode cX11_hasClause 95 = .ok (.iconst 0, 1) := by decide +kernel
theorem dX11_hasClause_96 : decode cX11_hasClause 96 = .ok (.putfield 218, 3) := by decide +kernel
theorem dX11_hasClause_99 : decode cX11_hasClause 99 = .ok (.aload_n 0, 1) := by decide +kernel
theorem dX11_hasClause_100 : decode cX11_hasClause 100 = .ok (.getfield 212, 3) := by decide +kernel
theorem dX11_hasClause_103 : decode cX11_hasClause 103 = .ok (.iload_n 3, 1) := by decide +kernel
theorem dX11_hasClause_104 : decode cX11_hasClause 104 = .ok (.if_icmp .ge 80, 3) := by decide +kernel
theorem dX11_hasClause_107 : decode cX11_hasClause 107 = .ok (.aload_n 0, 1) := by decide +kernel
theorem dX11_hasClause_108 : decode cX11_hasClause 108 = .ok (.invokevirtual 209, 3) := by decide +kernel
theorem dX11_hasClause_111 : decode cX11_hasClause 111 = .ok (.i2l, 1) := by decide +kernel
theorem dX11_hasClause_112 : decode cX11_hasClause 112 = .ok (.ldc2_w 221, 3) := by decide +kernel
theorem dX11_hasClause_115 : decode cX11_hasClause 115 = .ok (.ldc2_w 223, 3) := by decide +kernel
theorem dX11_hasClause_118 : decode cX11_hasClause 118 = .ok (.invokestatic 85, 3) := by decide +kernel
theorem dX11_hasClause_121 : decode cX11_hasClause 121 = .ok (.ifCond .eq 63, 3) := by decide +kernel
theorem dX11_hasClause_124 : decode cX11_hasClause 124 = .ok (.aload_n 0, 1) := by decide +kernel
theorem dX11_hasClause_125 : decode cX11_hasClause 125 = .ok (.bipush 10, 2) := by decide +kernel
theorem dX11_hasClause_127 : decode cX11_hasClause 127 = .ok (.aload_n 0, 1) := by decide +kernel
theorem dX11_hasClause_128 : decode cX11_hasClause 128 = .ok (.getfield 215, 3) := by decide +kernel
theorem dX11_hasClause_131 : decode cX11_hasClause 131 = .ok (.imul, 1) := by decide +kernel
theorem dX11_hasClause_132 : decode cX11_hasClause 132 = .ok (.aload_n 0, 1) := by decide +kernel
theorem dX11_hasClause_133 : decode cX11_hasClause 133 = .ok (.invokevirtual 209, 3) := by decide +kernel
theorem dX11_hasClause_136 : decode cX11_hasClause 136 = .ok (.iadd, 1) := by decide +kernel
theorem dX11_hasClause_137 : decode cX11_hasClause 137 = .ok (.bipush 48, 2) := by decide +kernel
theorem dX11_hasClause_139 : decode cX11_hasClause 139 = .ok (.isub, 1) := by decide +kernel
theorem dX11_hasClause_140 : decode cX11_hasClause 140 = .ok (.putfield 215, 3) := by decide +kernel
theorem dX11_hasClause_143 : decode cX11_hasClause 143 = .ok (.aload_n 0, 1) := by decide +kernel
theorem dX11_hasClause_144 : decode cX11_hasClause 144 = .ok (.dup, 1) := by decide +kernel
theorem dX11_hasClause_145 : decode cX11_hasClause 145 = .ok (.getfield 218, 3) := by decide +kernel
theorem dX11_hasClause_148 : decode cX11_hasClause 148 = .ok (.iconst 1, 1) := by decide +kernel
theorem dX11_hasClause_149 : decode cX11_hasClause 149 = .ok (.aload_n 0, 1) := by decide +kernel
theorem dX11_hasClause_150 : decode cX11_hasClause 150 = .ok (.invokevirtual 209, 3) := by decide +kernel
theorem dX11_hasClause_153 : decode cX11_hasClause 153 = .ok (.bipush 48, 2) := by decide +kernel
theorem dX11_hasClause_155 : decode cX11_hasClause 155 = .ok (.isub, 1) := by decide +kernel
theorem dX11_hasClause_156 : decode cX11_hasClause 156 = .ok (.ishl, 1) := by decide +kernel
theorem dX11_hasClause_157 : decode cX11_hasClause 157 = .ok (.ior, 1) := by decide +kernel
theorem dX11_hasClause_158 : decode cX11_hasClause 158 = .ok (.putfield 218, 3) := by decide +kernel
theorem dX11_hasClause_161 : decode cX11_hasClause 161 = .ok (.aload_n 0, 1) := by decide +kernel
theorem dX11_hasClause_162 : decode cX11_hasClause 162 = .ok (.dup, 1) := by decide +kernel
theorem dX11_hasClause_163 : decode cX11_hasClause 163 = .ok (.getfield 212, 3) := by decide +kernel
theorem dX11_hasClause_166 : decode cX11_hasClause 166 = .ok (.iconst 1, 1) := by decide +kernel
theorem dX11_hasClause_167 : decode cX11_hasClause 167 = .ok (.iadd, 1) := by decide +kernel
theorem dX11_hasClause_168 : decode cX11_hasClause 168 = .ok (.putfield 212, 3) := by decide +kernel
theorem dX11_hasClause_171 : decode cX11_hasClause 171 = .ok (.aload_n 0, 1) := by decide +kernel
theorem dX11_hasClause_172 : decode cX11_hasClause 172 = .ok (.dup, 1) := by decide +kernel
theorem dX11_hasClause_173 : decode cX11_hasClause 173 = .ok (.getfield 206, 3) := by decide +kernel
theorem dX11_hasClause_176 : decode cX11_hasClause 176 = .ok (.iconst 1, 1) := by decide +kernel
theorem dX11_hasClause_177 : decode cX11_hasClause 177 = .ok (.iadd, 1) := by decide +kernel
theorem dX11_hasClause_178 : decode cX11_hasClause 178 = .ok (.putfield 206, 3) := by decide +kernel
theorem dX11_hasClause_181 : decode cX11_hasClause 181 = .ok (.goto (-82), 3) := by decide +kernel
theorem dX11_hasClause_184 : decode cX11_hasClause 184 = .ok (.aload_n 0, 1) := by decide +kernel
theorem dX11_hasClause_185 : decode cX11_hasClause 185 = .ok (.getfield 212, 3) := by decide +kernel
theorem dX11_hasClause_188 : decode cX11_hasClause 188 = .ok (.iload_n 2, 1) := by decide +kernel
theorem dX11_hasClause_189 : decode cX11_hasClause 189 = .ok (.if_icmp .lt 7, 3) := by decide +kernel
theorem dX11_hasClause_192 : decode cX11_hasClause 192 = .ok (.iconst 1, 1) := by decide +kernel
theorem dX11_hasClause_193 : decode cX11_hasClause 193 = .ok (.goto 4, 3) := by decide +kernel
theorem dX11_hasClause_196 : decode cX11_hasClause 196 = .ok (.iconst 0, 1) := by decide +kernel
theorem dX11_hasClause_197 : decode cX11_hasClause 197 = .ok (.ireturn, 1) := by decide +kernel
theorem dX11_isDone_0 : decode cX11_isDone 0 = .ok (.iload_n 1, 1) := by decide +kernel
theorem dX11_isDone_1 : decode cX11_isDone 1 = .ok (.tableswitch 137 103 110 #[64, 91, 137, 137, 108, 137, 137, 47], 47) := by decide +kernel
theorem dX11_isDone_48 : decode cX11_isDone 48 = .ok (.aload_n 0, 1) := by decide +kernel
theorem dX11_isDone_49 : decode cX11_isDone 49 = .ok (.aload_n 0, 1) := by decide +kernel
theorem dX11_isDone_50 : decode cX11_isDone 50 = .ok (.getfield 215, 3) := by decide +kernel
theorem dX11_isDone_53 : decode cX11_isDone 53 = .ok (.invokevirtual 225, 3) := by decide +kernel
theorem dX11_isDone_56 : decode cX11_isDone 56 = .ok (.ifCond .le 7, 3) := by decide +kernel
theorem dX11_isDone_59 : decode cX11_isDone 59 = .ok (.iconst 1, 1) := by decide +kernel
theorem dX11_isDone_60 : decode cX11_isDone 60 = .ok (.goto 4, 3) := by decide +kernel
theorem dX11_isDone_63 : decode cX11_isDone 63 = .ok (.iconst 0, 1) := by decide +kernel
theorem dX11_isDone_64 : decode cX11_isDone 64 = .ok (.ireturn, 1) := by decide +kernel
theorem dX11_isDone_65 : decode cX11_isDone 65 = .ok (.aload_n 0, 1) := by decide +kernel
theorem dX11_isDone_66 : decode cX11_isDone 66 = .ok (.aload_n 0, 1) := by decide +kernel
theorem dX11_isDone_67 : decode cX11_isDone 67 = .ok (.getfield 215, 3) := by decide +kernel
theorem dX11_isDone_70 : decode cX11_isDone 70 = .ok (.bipush 10, 2) := by decide +kernel
theorem dX11_isDone_72 : decode cX11_isDone 72 = .ok (.idiv, 1) := by decide +kernel
theorem dX11_isDone_73 : decode cX11_isDone 73 = .ok (.aload_n 0, 1) := by decide +kernel
theorem dX11_isDone_74 : decode cX11_isDone 74 = .ok (.getfield 215, 3) := by decide +kernel
theorem dX11_isDone_77 : decode cX11_isDone 77 = .ok (.bipush 10, 2) := by decide +kernel
theorem dX11_isDone_79 : decode cX11_isDone 79 = .ok (.irem, 1) := by decide +kernel
theorem dX11_isDone_80 : decode cX11_isDone 80 = .ok (.invokevirtual 228, 3) := by decide +kernel
theorem dX11_isDone_83 : decode cX11_isDone 83 = .ok (.ifCond .lt 7, 3) := by decide +kernel
theorem dX11_isDone_86 : decode cX11_isDone 86 = .ok (.iconst 1, 1) := by decide +kernel
theorem dX11_isDone_87 : decode cX11_isDone 87 = .ok (.goto 4, 3) := by decide +kernel
theorem dX11_isDone_90 : decode cX11_isDone 90 = .ok (.iconst 0, 1) := by decide +kernel
theorem dX11_isDone_91 : decode cX11_isDone 91 = .ok (.ireturn, 1) := by decide +kernel
theorem dX11_isDone_92 : decode cX11_isDone 92 = .ok (.aload_n 0, 1) := by decide +kernel
theorem dX11_isDone_93 : decode cX11_isDone 93 = .ok (.aload_n 0, 1) := by decide +kernel
theorem dX11_isDone_94 : decode cX11_isDone 94 = .ok (.getfield 215, 3) := by decide +kernel
theorem dX11_isDone_97 : decode cX11_isDone 97 = .ok (.invokevirtual 231, 3) := by decide +kernel
theorem dX11_isDone_100 : decode cX11_isDone 100 = .ok (.ifCond .lt 7, 3) := by decide +kernel
theorem dX11_isDone_103 : decode cX11_isDone 103 = .ok (.iconst 1, 1) := by decide +kernel
theorem dX11_isDone_104 : decode cX11_isDone 104 = .ok (.goto 4, 3) := by decide +kernel
theorem dX11_isDone_107 : decode cX11_isDone 107 = .ok (.iconst 0, 1) := by decide +kernel
theorem dX11_isDone_108 : decode cX11_isDone 108 = .ok (.ireturn, 1) := by decide +kernel
theorem dX11_isDone_109 : decode cX11_isDone 109 = .ok (.aload_n 0, 1) := by decide +kernel
theorem dX11_isDone_110 : decode cX11_isDone 110 = .ok (.aload_n 0, 1) := by decide +kernel
theorem dX11_isDone_111 : decode cX11_isDone 111 = .ok (.getfield 215, 3) := by decide +kernel
theorem dX11_isDone_114 : decode cX11_isDone 114 = .ok (.bipush 10, 2) := by decide +kernel
theorem dX11_isDone_116 : decode cX11_isDone 116 = .ok (.idiv, 1) := by decide +kernel
theorem dX11_isDone_117 : decode cX11_isDone 117 = .ok (.iconst 1, 1) := by decide +kernel
theorem dX11_isDone_118 : decode cX11_isDone 118 = .ok (.aload_n 0, 1) := by decide +kernel
theorem dX11_isDone_119 : decode cX11_isDone 119 = .ok (.getfield 215, 3) := by decide +kernel
theorem dX11_isDone_122 : decode cX11_isDone 122 = .ok (.bipush 10, 2) := by decide +kernel
theorem dX11_isDone_124 : decode cX11_isDone 124 = .ok (.irem, 1) := by decide +kernel
theorem dX11_isDone_125 : decode cX11_isDone 125 = .ok (.ishl, 1) := by decide +kernel
theorem dX11_isDone_126 : decode cX11_isDone 126 = .ok (.invokevirtual 234, 3) := by decide +kernel
theorem dX11_isDone_129 : decode cX11_isDone 129 = .ok (.ifCond .lt 7, 3) := by decide +kernel
theorem dX11_isDone_132 : decode cX11_isDone 132 = .ok (.iconst 1, 1) := by decide +kernel
theorem dX11_isDone_133 : decode cX11_isDone 133 = .ok (.goto 4, 3) := by decide +kernel
theorem dX11_isDone_136 : decode cX11_isDone 136 = .ok (.iconst 0, 1) := by decide +kernel
theorem dX11_isDone_137 : decode cX11_isDone 137 = .ok (.ireturn, 1) := by decide +kernel
theorem dX11_isDone_138 : decode cX11_isDone 138 = .ok (.aload_n 0, 1) := by decide +kernel
theorem dX11_isDone_139 : decode cX11_isDone 139 = .ok (.aload_n 0, 1) := by decide +kernel
theorem dX11_isDone_140 : decode cX11_isDone 140 = .ok (.getfield 218, 3) := by decide +kernel
theorem dX11_isDone_143 : decode cX11_isDone 143 = .ok (.invokevirtual 237, 3) := by decide +kernel
theorem dX11_isDone_146 : decode cX11_isDone 146 = .ok (.ifCond .lt 7, 3) := by decide +kernel
theorem dX11_isDone_149 : decode cX11_isDone 149 = .ok (.iconst 1, 1) := by decide +kernel
theorem dX11_isDone_150 : decode cX11_isDone 150 = .ok (.goto 4, 3) := by decide +kernel
theorem dX11_isDone_153 : decode cX11_isDone 153 = .ok (.iconst 0, 1) := by decide +kernel
theorem dX11_isDone_154 : decode cX11_isDone 154 = .ok (.ireturn, 1) := by decide +kernel
theorem dX11_read_0 : decode cX11_read 0 = .ok (.aload_n 0, 1) := by decide +kernel
theorem dX11_read_1 : decode cX11_read 1 = .ok (.iconst 0, 1) := by decide +kernel
theorem dX11_read_2 : decode cX11_read 2 = .ok (.putfield 206, 3) := by decide +kernel
theorem dX11_read_5 : decode cX11_read 5 = .ok (.iconst 0, 1) := by decide +kernel
theorem dX11_read_6 : decode cX11_read 6 = .ok (.istore_n 1, 1) := by decide +kernel
theorem dX11_read_7 : decode cX11_read 7 = .ok (.iconst 1, 1) := by decide +kernel
theorem dX11_read_8 : decode cX11_read 8 = .ok (.istore_n 2, 1) := by decide +kernel
theorem dX11_read_9 : decode cX11_read 9 = .ok (.iload_n 2, 1) := by decide +kernel
theorem dX11_read_10 : decode cX11_read 10 = .ok (.ifCond .eq 84, 3) := by decide +kernel
theorem dX11_read_13 : decode cX11_read 13 = .ok (.iload_n 1, 1) := by decide +kernel
theorem dX11_read_14 : decode cX11_read 14 = .ok (.ifCond .eq 14, 3) := by decide +kernel
theorem dX11_read_17 : decode cX11_read 17 = .ok (.aload_n 0, 1) := by decide +kernel
theorem dX11_read_18 : decode cX11_read 18 = .ok (.getfield 206, 3) := by decide +kernel
theorem dX11_read_21 : decode cX11_read 21 = .ok (.aload_n 0, 1) := by decide +kernel
theorem dX11_read_22 : decode cX11_read 22 = .ok (.getfield 202, 3) := by decide +kernel
theorem dX11_read_25 : decode cX11_read 25 = .ok (.if_icmp .ge 69, 3) := by decide +kernel
theorem dX11_read_28 : decode cX11_read 28 = .ok (.iload_n 1, 1) := by decide +kernel
theorem dX11_read_29 : decode cX11_read 29 = .ok (.ifCond .le 42, 3) := by decide +kernel
theorem dX11_read_32 : decode cX11_read 32 = .ok (.iload_n 1, 1) := by decide +kernel
theorem dX11_read_33 : decode cX11_read 33 = .ok (.bipush 12, 2) := by decide +kernel
theorem dX11_read_35 : decode cX11_read 35 = .ok (.if_icmp .ge 16, 3) := by decide +kernel
theorem dX11_read_38 : decode cX11_read 38 = .ok (.aload_n 0, 1) := by decide +kernel
theorem dX11_read_39 : decode cX11_read 39 = .ok (.invokevirtual 209, 3) := by decide +kernel
theorem dX11_read_42 : decode cX11_read 42 = .ok (.bipush 59, 2) := by decide +kernel
theorem dX11_read_44 : decode cX11_read 44 = .ok (.if_icmp .ne 7, 3) := by decide +kernel
theorem dX11_read_47 : decode cX11_read 47 = .ok (.iconst 1, 1) := by decide +kernel
theorem dX11_read_48 : decode cX11_read 48 = .ok (.goto 4, 3) := by decide +kernel
theorem dX11_read_51 : decode cX11_read 51 = .ok (.iconst 0, 1) := by decide +kernel
theorem dX11_read_52 : decode cX11_read 52 = .ok (.istore_n 2, 1) := by decide +kernel
theorem dX11_read_53 : decode cX11_read 53 = .ok (.aload_n 0, 1) := by decide +kernel
theorem dX11_read_54 : decode cX11_read 54 = .ok (.dup, 1) := by decide +kernel
theorem dX11_read_55 : decode cX11_read 55 = .ok (.getfield 206, 3) := by decide +kernel
theorem dX11_read_58 : decode cX11_read 58 = .ok (.iload_n 2, 1) := by decide +kernel
theorem dX11_read_59 : decode cX11_read 59 = .ok (.ifCond .eq 7, 3) := by decide +kernel
theorem dX11_read_62 : decode cX11_read 62 = .ok (.iconst 1, 1) := by decide +kernel
theorem dX11_read_63 : decode cX11_read 63 = .ok (.goto 4, 3) := by decide +kernel
theorem dX11_read_66 : decode cX11_read 66 = .ok (.iconst 0, 1) := by decide +kernel
theorem dX11_read_67 : decode cX11_read 67 = .ok (.iadd, 1) := by decide +kernel
theorem dX11_read_68 : decode cX11_read 68 = .ok (.putfield 206, 3) := by decide +kernel
theorem dX11_read_71 : decode cX11_read 71 = .ok (.iload_n 2, 1) := by decide +kernel
theorem dX11_read_72 : decode cX11_read 72 = .ok (.ifCond .eq 14, 3) := by decide +kernel
theorem dX11_read_75 : decode cX11_read 75 = .ok (.aload_n 0, 1) := by decide +kernel
theorem dX11_read_76 : decode cX11_read 76 = .ok (.invokevirtual 240, 3) := by decide +kernel
theorem dX11_read_79 : decode cX11_read 79 = .ok (.ifCond .eq 7, 3) := by decide +kernel
theorem dX11_read_82 : decode cX11_read 82 = .ok (.iconst 1, 1) := by decide +kernel
theorem dX11_read_83 : decode cX11_read 83 = .ok (.goto 4, 3) := by decide +kernel
theorem dX11_read_86 : decode cX11_read 86 = .ok (.iconst 0, 1) := by decide +kernel
theorem dX11_read_87 : decode cX11_read 87 = .ok (.istore_n 2, 1) := by decide +kernel
theorem dX11_read_88 : decode cX11_read 88 = .ok (.iinc 1 1, 3) := by decide +kernel
theorem dX11_read_91 : decode cX11_read 91 = .ok (.goto (-82), 3) := by decide +kernel
theorem dX11_read_94 : decode cX11_read 94 = .ok (.iload_n 2, 1) := by decide +kernel
theorem dX11_read_95 : decode cX11_read 95 = .ok (.ifCond .ne 16, 3) := by decide +kernel
theorem dX11_read_98 : decode cX11_read 98 = .ok (.aload_n 0, 1) := by decide +kernel
theorem dX11_read_99 : decode cX11_read 99 = .ok (.iconst 0, 1) := by decide +kernel
theorem dX11_read_100 : decode cX11_read 100 = .ok (.putfield 202, 3) := by decide +kernel
theorem dX11_read_103 : decode cX11_read 103 = .ok (.bipush (-10), 2) := by decide +kernel
theorem dX11_read_105 : decode cX11_read 105 = .ok (.aload_n 0, 1) := by decide +kernel
theorem dX11_read_106 : decode cX11_read 106 = .ok (.getfield 206, 3) := by decide +kernel
theorem dX11_read_109 : decode cX11_read 109 = .ok (.isub, 1) := by decide +kernel
theorem dX11_read_110 : decode cX11_read 110 = .ok (.ireturn, 1) := by decide +kernel
theorem dX11_read_111 : decode cX11_read 111 = .ok (.iconst 0, 1) := by decide +kernel
theorem dX11_read_112 : decode cX11_read 112 = .ok (.istore_n 3, 1) := by decide +kernel
theorem dX11_read_113 : decode cX11_read 113 = .ok (.aload_n 0, 1) := by decide +kernel
theorem dX11_read_114 : decode cX11_read 114 = .ok (.iconst 0, 1) := by decide +kernel
theorem dX11_read_115 : decode cX11_read 115 = .ok (.putfield 206, 3) := by decide +kernel
theorem dX11_read_118 : decode cX11_read 118 = .ok (.aload_n 0, 1) := by decide +kernel
theorem dX11_read_119 : decode cX11_read 119 = .ok (.getfield 206, 3) := by decide +kernel
theorem dX11_read_122 : decode cX11_read 122 = .ok (.aload_n 0, 1) := by decide +kernel
theorem dX11_read_123 : decode cX11_read 123 = .ok (.getfield 202, 3) := by decide +kernel
theorem dX11_read_126 : decode cX11_read 126 = .ok (.if_icmp .ge 63, 3) := by decide +kernel
theorem dX11_read_129 : decode cX11_read 129 = .ok (.aload_n 0, 1) := by decide +kernel
theorem dX11_read_130 : decode cX11_read 130 = .ok (.invokevirtual 209, 3) := by decide +kernel
theorem dX11_read_133 : decode cX11_read 133 = .ok (.istore 4, 2) := by decide +kernel
theorem dX11_read_135 : decode cX11_read 135 = .ok (.aload_n 0, 1) := by decide +kernel
theorem dX11_read_136 : decode cX11_read 136 = .ok (.invokevirtual 240, 3) := by decide +kernel
theorem dX11_read_139 : decode cX11_read 139 = .ok (.istore 5, 2) := by decide +kernel
theorem dX11_read_141 : decode cX11_read 141 = .ok (.aload_n 0, 1) := by decide +kernel
theorem dX11_read_142 : decode cX11_read 142 = .ok (.dup, 1) := by decide +kernel
theorem dX11_read_143 : decode cX11_read 143 = .ok (.getfield 206, 3) := by decide +kernel
theorem dX11_read_146 : decode cX11_read 146 = .ok (.aload_n 0, 1) := by decide +kernel
theorem dX11_read_147 : decode cX11_read 147 = .ok (.invokevirtual 209, 3) := by decide +kernel
theorem dX11_read_150 : decode cX11_read 150 = .ok (.bipush 59, 2) := by decide +kernel
theorem dX11_read_152 : decode cX11_read 152 = .ok (.if_icmp .ne 7, 3) := by decide +kernel
theorem dX11_read_155 : decode cX11_read 155 = .ok (.iconst 1, 1) := by decide +kernel
theorem dX11_read_156 : decode cX11_read 156 = .ok (.goto 4, 3) := by decide +kernel
theorem dX11_read_159 : decode cX11_read 159 = .ok (.iconst 0, 1) := by decide +kernel
theorem dX11_read_160 : decode cX11_read 160 = .ok (.iadd, 1) := by decide +kernel
theorem dX11_read_161 : decode cX11_read 161 = .ok (.putfield 206, 3) := by decide +kernel
theorem dX11_read_164 : decode cX11_read 164 = .ok (.iload_n 3, 1) := by decide +kernel
theorem dX11_read_165 : decode cX11_read 165 = .ok (.iload 5, 2) := by decide +kernel
theorem dX11_read_167 : decode cX11_read 167 = .ok (.ifCond .eq 16, 3) := by decide +kernel
theorem dX11_read_170 : decode cX11_read 170 = .ok (.aload_n 0, 1) := by decide +kernel
theorem dX11_read_171 : decode cX11_read 171 = .ok (.iload 4, 2) := by decide +kernel
theorem dX11_read_173 : decode cX11_read 173 = .ok (.invokevirtual 244, 3) := by decide +kernel
theorem dX11_read_176 : decode cX11_read 176 = .ok (.ifCond .eq 7, 3) := by decide +kernel
theorem dX11_read_179 : decode cX11_read 179 = .ok (.iconst 1, 1) := by decide +kernel
theorem dX11_read_180 : decode cX11_read 180 = .ok (.goto 4, 3) := by decide +kernel
theorem dX11_read_183 : decode cX11_read 183 = .ok (.iconst 0, 1) := by decide +kernel
theorem dX11_read_184 : decode cX11_read 184 = .ok (.iadd, 1) := by decide +kernel
theorem dX11_read_185 : decode cX11_read 185 = .ok (.istore_n 3, 1) := by decide +kernel
theorem dX11_read_186 : decode cX11_read 186 = .ok (.goto (-68), 3) := by decide +kernel
theorem dX11_read_189 : decode cX11_read 189 = .ok (.aload_n 0, 1) := by decide +kernel
theorem dX11_read_190 : decode cX11_read 190 = .ok (.iconst 0, 1) := by decide +kernel
theorem dX11_read_191 : decode cX11_read 191 = .ok (.putfield 202, 3) := by decide +kernel
theorem dX11_read_194 : decode cX11_read 194 = .ok (.iload_n 3, 1) := by decide +kernel
theorem dX11_read_195 : decode cX11_read 195 = .ok (.ireturn, 1) := by decide +kernel
theorem dX11_isTape_0 : decode cX11_isTape 0 = .ok (.iload_n 0, 1) := by decide +kernel
theorem dX11_isTape_1 : decode cX11_isTape 1 = .ok (.i2l, 1) := by decide +kernel
theorem dX11_isTape_2 : decode cX11_isTape 2 = .ok (.lconst 0, 1) := by decide +kernel
theorem dX11_isTape_3 : decode cX11_isTape 3 = .ok (.ldc2_w 247, 3) := by decide +kernel
theorem dX11_isTape_6 : decode cX11_isTape 6 = .ok (.invokestatic 85, 3) := by decide +kernel
theorem dX11_isTape_9 : decode cX11_isTape 9 = .ok (.ireturn, 1) := by decide +kernel
theorem dX11_judge_0 : decode cX11_judge 0 = .ok (.iload_n 1, 1) := by decide +kernel
theorem dX11_judge_1 : decode cX11_judge 1 = .ok (.invokestatic 249, 3) := by decide +kernel
theorem dX11_judge_4 : decode cX11_judge 4 = .ok (.ifCond .ne 5, 3) := by decide +kernel
theorem dX11_judge_7 : decode cX11_judge 7 = .ok (.iconst (-1), 1) := by decide +kernel
theorem dX11_judge_8 : decode cX11_judge 8 = .ok (.ireturn, 1) := by decide +kernel
theorem dX11_judge_9 : decode cX11_judge 9 = .ok (.aload_n 0, 1) := by decide +kernel
theorem dX11_judge_10 : decode cX11_judge 10 = .ok (.getfield 62, 3) := by decide +kernel
theorem dX11_judge_13 : decode cX11_judge 13 = .ok (.iload_n 1, 1) := by decide +kernel
theorem dX11_judge_14 : decode cX11_judge 14 = .ok (.iaload, 1) := by decide +kernel
theorem dX11_judge_15 : decode cX11_judge 15 = .ok (.iconst (-1), 1) := by decide +kernel
theorem dX11_judge_16 : decode cX11_judge 16 = .ok (.if_icmp .eq 16, 3) := by decide +kernel
theorem dX11_judge_19 : decode cX11_judge 19 = .ok (.aload_n 0, 1) := by decide +kernel
theorem dX11_judge_20 : decode cX11_judge 20 = .ok (.getfield 62, 3) := by decide +kernel
theorem dX11_judge_23 : decode cX11_judge 23 = .ok (.iload_n 1, 1) := by decide +kernel
theorem dX11_judge_24 : decode cX11_judge 24 = .ok (.iaload, 1) := by decide +kernel
theorem dX11_judge_25 : decode cX11_judge 25 = .ok (.iconst 1, 1) := by decide +kernel
theorem dX11_judge_26 : decode cX11_judge 26 = .ok (.if_icmp .eq 6, 3) := by decide +kernel
theorem dX11_judge_29 : decode cX11_judge 29 = .ok (.bipush (-12), 2) := by decide +kernel
theorem dX11_judge_31 : decode cX11_judge 31 = .ok (.ireturn, 1) := by decide +kernel
theorem dX11_judge_32 : decode cX11_judge 32 = .ok (.iconst 0, 1) := by decide +kernel
theorem dX11_judge_33 : decode cX11_judge 33 = .ok (.istore_n 3, 1) := by decide +kernel
theorem dX11_judge_34 : decode cX11_judge 34 = .ok (.iconst 0, 1) := by decide +kernel
theorem dX11_judge_35 : decode cX11_judge 35 = .ok (.istore 4, 2) := by decide +kernel
theorem dX11_judge_37 : decode cX11_judge 37 = .ok (.iload 4, 2) := by decide +kernel
theorem dX11_judge_39 : decode cX11_judge 39 = .ok (.sipush 256, 3) := by decide +kernel
theorem dX11_judge_42 : decode cX11_judge 42 = .ok (.if_icmp .ge 73, 3) := by decide +kernel
theorem dX11_judge_45 : decode cX11_judge 45 = .ok (.aload_n 0, 1) := by decide +kernel
theorem dX11_judge_46 : decode cX11_judge 46 = .ok (.getfield 20, 3) := by decide +kernel
theorem dX11_judge_49 : decode cX11_judge 49 = .ok (.iconst 0, 1) := by decide +kernel
theorem dX11_judge_50 : decode cX11_judge 50 = .ok (.aaload, 1) := by decide +kernel
theorem dX11_judge_51 : decode cX11_judge 51 = .ok (.iload 4, 2) := by decide +kernel
theorem dX11_judge_53 : decode cX11_judge 53 = .ok (.baload, 1) := by decide +kernel
theorem dX11_judge_54 : decode cX11_judge 54 = .ok (.ifCond .eq 55, 3) := by decide +kernel
theorem dX11_judge_57 : decode cX11_judge 57 = .ok (.iload_n 2, 1) := by decide +kernel
theorem dX11_judge_58 : decode cX11_judge 58 = .ok (.ifCond .lt 24, 3) := by decide +kernel
theorem dX11_judge_61 : decode cX11_judge 61 = .ok (.aload_n 0, 1) := by decide +kernel
theorem dX11_judge_62 : decode cX11_judge 62 = .ok (.getfield 62, 3) := by decide +kernel
theorem dX11_judge_65 : decode cX11_judge 65 = .ok (.iload_n 1, 1) := by decide +kernel
theorem dX11_judge_66 : decode cX11_judge 66 = .ok (.iaload, 1) := by decide +kernel
theorem dX11_judge_67 : decode cX11_judge 67 = .ok (.ifCond .lt 15, 3) := by decide +kernel
theorem dX11_judge_70 : decode cX11_judge 70 = .ok (.iload_n 2, 1) := by decide +kernel
theorem dX11_judge_71 : decode cX11_judge 71 = .ok (.aload_n 0, 1) := by decide +kernel
theorem dX11_judge_72 : decode cX11_judge 72 = .ok (.getfield 65, 3) := by decide +kernel
theorem dX11_judge_75 : decode cX11_judge 75 = .ok (.iload_n 1, 1) := by decide +kernel
theorem dX11_judge_76 : decode cX11_judge 76 = .ok (.iaload, 1) := by decide +kernel
theorem dX11_judge_77 : decode cX11_judge 77 = .ok (.iload_n 3, 1) := by decide +kernel
theorem dX11_judge_78 : decode cX11_judge 78 = .ok (.isub, 1) := by decide +kernel
theorem dX11_judge_79 : decode cX11_judge 79 = .ok (.if_icmp .lt 8, 3) := by decide +kernel
theorem dX11_judge_82 : decode cX11_judge 82 = .ok (.bipush 100, 2) := by decide +kernel
theorem dX11_judge_84 : decode cX11_judge 84 = .ok (.iload_n 3, 1) := by decide +kernel
theorem dX11_judge_85 : decode cX11_judge 85 = .ok (.iadd, 1) := by decide +kernel
theorem dX11_judge_86 : decode cX11_judge 86 = .ok (.ireturn, 1) := by decide +kernel
theorem dX11_judge_87 : decode cX11_judge 87 = .ok (.aload_n 0, 1) := by decide +kernel
theorem dX11_judge_88 : decode cX11_judge 88 = .ok (.getfield 70, 3) := by decide +kernel
theorem dX11_judge_91 : decode cX11_judge 91 = .ok (.iload_n 1, 1) := by decide +kernel
theorem dX11_judge_92 : decode cX11_judge 92 = .ok (.aaload, 1) := by decide +kernel
theorem dX11_judge_93 : decode cX11_judge 93 = .ok (.iload_n 2, 1) := by decide +kernel
theorem dX11_judge_94 : decode cX11_judge 94 = .ok (.iload_n 3, 1) := by decide +kernel
theorem dX11_judge_95 : decode cX11_judge 95 = .ok (.iadd, 1) := by decide +kernel
theorem dX11_judge_96 : decode cX11_judge 96 = .ok (.laload, 1) := by decide +kernel
theorem dX11_judge_97 : decode cX11_judge 97 = .ok (.iload 4, 2) := by decide +kernel
theorem dX11_judge_99 : decode cX11_judge 99 = .ok (.i2l, 1) := by decide +kernel
theorem dX11_judge_100 : decode cX11_judge 100 = .ok (.lcmp, 1) := by decide +kernel
theorem dX11_judge_101 : decode cX11_judge 101 = .ok (.ifCond .eq 5, 3) := by decide +kernel
theorem dX11_judge_104 : decode cX11_judge 104 = .ok (.iload_n 3, 1) := by decide +kernel
theorem dX11_judge_105 : decode cX11_judge 105 = .ok (.ireturn, 1) := by decide +kernel
theorem dX11_judge_106 : decode cX11_judge 106 = .ok (.iinc 3 1, 3) := by decide +kernel
theorem dX11_judge_109 : decode cX11_judge 109 = .ok (.iinc 4 1, 3) := by decide +kernel
theorem dX11_judge_112 : decode cX11_judge 112 = .ok (.goto (-75), 3) := by decide +kernel
theorem dX11_judge_115 : decode cX11_judge 115 = .ok (.bipush (-5), 2) := by decide +kernel
theorem dX11_judge_117 : decode cX11_judge 117 = .ok (.ireturn, 1) := by decide +kernel
theorem dX11_tape_0 : decode cX11_tape 0 = .ok (.iload_n 1, 1) := by decide +kernel
theorem dX11_tape_1 : decode cX11_tape 1 = .ok (.invokestatic 249, 3) := by decide +kernel
theorem dX11_tape_4 : decode cX11_tape 4 = .ok (.ifCond .ne 5, 3) := by decide +kernel
theorem dX11_tape_7 : decode cX11_tape 7 = .ok (.iconst (-1), 1) := by decide +kernel
theorem dX11_tape_8 : decode cX11_tape 8 = .ok (.ireturn, 1) := by decide +kernel
theorem dX11_tape_9 : decode cX11_tape 9 = .ok (.iload_n 2, 1) := by decide +kernel
theorem dX11_tape_10 : decode cX11_tape 10 = .ok (.i2l, 1) := by decide +kernel
theorem dX11_tape_11 : decode cX11_tape 11 = .ok (.ldc2_w 252, 3) := by decide +kernel
theorem dX11_tape_14 : decode cX11_tape 14 = .ok (.ldc2_w 97, 3) := by decide +kernel
theorem dX11_tape_17 : decode cX11_tape 17 = .ok (.invokestatic 85, 3) := by decide +kernel
theorem dX11_tape_20 : decode cX11_tape 20 = .ok (.ifCond .eq 13, 3) := by decide +kernel
theorem dX11_tape_23 : decode cX11_tape 23 = .ok (.iload_n 2, 1) := by decide +kernel
theorem dX11_tape_24 : decode cX11_tape 24 = .ok (.ifCond .lt 12, 3) := by decide +kernel
theorem dX11_tape_27 : decode cX11_tape 27 = .ok (.iload_n 3, 1) := by decide +kernel
theorem dX11_tape_28 : decode cX11_tape 28 = .ok (.bipush 60, 2) := by decide +kernel
theorem dX11_tape_30 : decode cX11_tape 30 = .ok (.if_icmp .le 6, 3) := by decide +kernel
theorem dX11_tape_33 : decode cX11_tape 33 = .ok (.bipush (-2), 2) := by decide +kernel
theorem dX11_tape_35 : decode cX11_tape 35 = .ok (.ireturn, 1) := by decide +kernel
theorem dX11_tape_36 : decode cX11_tape 36 = .ok (.iload_n 2, 1) := by decide +kernel
theorem dX11_tape_37 : decode cX11_tape 37 = .ok (.ifCond .lt 10, 3) := by decide +kernel
theorem dX11_tape_40 : decode cX11_tape 40 = .ok (.iload_n 3, 1) := by decide +kernel
theorem dX11_tape_41 : decode cX11_tape 41 = .ok (.ifCond .ge 6, 3) := by decide +kernel
theorem dX11_tape_44 : decode cX11_tape 44 = .ok (.bipush (-14), 2) := by decide +kernel
theorem dX11_tape_46 : decode cX11_tape 46 = .ok (.ireturn, 1) := by decide +kernel
theorem dX11_tape_47 : decode cX11_tape 47 = .ok (.aload_n 0, 1) := by decide +kernel
theorem dX11_tape_48 : decode cX11_tape 48 = .ok (.getfield 62, 3) := by decide +kernel
theorem dX11_tape_51 : decode cX11_tape 51 = .ok (.iload_n 1, 1) := by decide +kernel
theorem dX11_tape_52 : decode cX11_tape 52 = .ok (.iload_n 2, 1) := by decide +kernel
theorem dX11_tape_53 : decode cX11_tape 53 = .ok (.iastore, 1) := by decide +kernel
theorem dX11_tape_54 : decode cX11_tape 54 = .ok (.aload_n 0, 1) := by decide +kernel
theorem dX11_tape_55 : decode cX11_tape 55 = .ok (.getfield 65, 3) := by decide +kernel
theorem dX11_tape_58 : decode cX11_tape 58 = .ok (.iload_n 1, 1) := by decide +kernel
theorem dX11_tape_59 : decode cX11_tape 59 = .ok (.iload_n 2, 1) := by decide +kernel
theorem dX11_tape_60 : decode cX11_tape 60 = .ok (.ifCond .ge 7, 3) := by decide +kernel
theorem dX11_tape_63 : decode cX11_tape 63 = .ok (.iconst 0, 1) := by decide +kernel
theorem dX11_tape_64 : decode cX11_tape 64 = .ok (.goto 4, 3) := by decide +kernel
theorem dX11_tape_67 : decode cX11_tape 67 = .ok (.iload_n 3, 1) := by decide +kernel
theorem dX11_tape_68 : decode cX11_tape 68 = .ok (.iastore, 1) := by decide +kernel
theorem dX11_tape_69 : decode cX11_tape 69 = .ok (.iconst 0, 1) := by decide +kernel
theorem dX11_tape_70 : decode cX11_tape 70 = .ok (.istore 4, 2) := by decide +kernel
theorem dX11_tape_72 : decode cX11_tape 72 = .ok (.iload 4, 2) := by decide +kernel
theorem dX11_tape_74 : decode cX11_tape 74 = .ok (.bipush 60, 2) := by decide +kernel
theorem dX11_tape_76 : decode cX11_tape 76 = .ok (.if_icmp .ge 19, 3) := by decide +kernel
theorem dX11_tape_79 : decode cX11_tape 79 = .ok (.aload_n 0, 1) := by decide +kernel
theorem dX11_tape_80 : decode cX11_tape 80 = .ok (.getfield 70, 3) := by decide +kernel
theorem dX11_tape_83 : decode cX11_tape 83 = .ok (.iload_n 1, 1) := by decide +kernel
theorem dX11_tape_84 : decode cX11_tape 84 = .ok (.aaload, 1) := by decide +kernel
theorem dX11_tape_85 : decode cX11_tape 85 = .ok (.iload 4, 2) := by decide +kernel
theorem dX11_tape_87 : decode cX11_tape 87 = .ok (.lconst 0, 1) := by decide +kernel
theorem dX11_tape_88 : decode cX11_tape 88 = .ok (.lastore, 1) := by decide +kernel
theorem dX11_tape_89 : decode cX11_tape 89 = .ok (.iinc 4 1, 3) := by decide +kernel
theorem dX11_tape_92 : decode cX11_tape 92 = .ok (.goto (-20), 3) := by decide +kernel
theorem dX11_tape_95 : decode cX11_tape 95 = .ok (.iconst 1, 1) := by decide +kernel
theorem dX11_tape_96 : decode cX11_tape 96 = .ok (.ireturn, 1) := by decide +kernel
theorem dX11_item_0 : decode cX11_item 0 = .ok (.iload_n 1, 1) := by decide +kernel
theorem dX11_item_1 : decode cX11_item 1 = .ok (.invokestatic 249, 3) := by decide +kernel
theorem dX11_item_4 : decode cX11_item 4 = .ok (.ifCond .ne 5, 3) := by decide +kernel
theorem dX11_item_7 : decode cX11_item 7 = .ok (.iconst (-1), 1) := by decide +kernel
theorem dX11_item_8 : decode cX11_item 8 = .ok (.ireturn, 1) := by decide +kernel
theorem dX11_item_9 : decode cX11_item 9 = .ok (.aload_n 0, 1) := by decide +kernel
theorem dX11_item_10 : decode cX11_item 10 = .ok (.getfield 62, 3) := by decide +kernel
theorem dX11_item_13 : decode cX11_item 13 = .ok (.iload_n 1, 1) := by decide +kernel
theorem dX11_item_14 : decode cX11_item 14 = .ok (.iaload, 1) := by decide +kernel
theorem dX11_item_15 : decode cX11_item 15 = .ok (.ifCond .ge 6, 3) := by decide +kernel
theorem dX11_item_18 : decode cX11_item 18 = .ok (.bipush (-11), 2) := by decide +kernel
theorem dX11_item_20 : decode cX11_item 20 = .ok (.ireturn, 1) := by decide +kernel
theorem dX11_item_21 : decode cX11_item 21 = .ok (.iload_n 2, 1) := by decide +kernel
theorem dX11_item_22 : decode cX11_item 22 = .ok (.i2l, 1) := by decide +kernel
theorem dX11_item_23 : decode cX11_item 23 = .ok (.lconst 0, 1) := by decide +kernel
theorem dX11_item_24 : decode cX11_item 24 = .ok (.aload_n 0, 1) := by decide +kernel
theorem dX11_item_25 : decode cX11_item 25 = .ok (.getfield 65, 3) := by decide +kernel
theorem dX11_item_28 : decode cX11_item 28 = .ok (.iload_n 1, 1) := by decide +kernel
theorem dX11_item_29 : decode cX11_item 29 = .ok (.iaload, 1) := by decide +kernel
theorem dX11_item_30 : decode cX11_item 30 = .ok (.iconst 1, 1) := by decide +kernel
theorem dX11_item_31 : decode cX11_item 31 = .ok (.isub, 1) := by decide +kernel
theorem dX11_item_32 : decode cX11_item 32 = .ok (.i2l, 1) := by decide +kernel
theorem dX11_item_33 : decode cX11_item 33 = .ok (.invokestatic 85, 3) := by decide +kernel
theorem dX11_item_36 : decode cX11_item 36 = .ok (.ifCond .ne 6, 3) := by decide +kernel
theorem dX11_item_39 : decode cX11_item 39 = .ok (.bipush (-13), 2) := by decide +kernel
theorem dX11_item_41 : decode cX11_item 41 = .ok (.ireturn, 1) := by decide +kernel
theorem dX11_item_42 : decode cX11_item 42 = .ok (.aload_n 0, 1) := by decide +kernel
theorem dX11_item_43 : decode cX11_item 43 = .ok (.getfield 70, 3) := by decide +kernel
theorem dX11_item_46 : decode cX11_item 46 = .ok (.iload_n 1, 1) := by decide +kernel
theorem dX11_item_47 : decode cX11_item 47 = .ok (.aaload, 1) := by decide +kernel
theorem dX11_item_48 : decode cX11_item 48 = .ok (.iload_n 2, 1) := by decide +kernel
theorem dX11_item_49 : decode cX11_item 49 = .ok (.aload_n 0, 1) := by decide +kernel
theorem dX11_item_50 : decode cX11_item 50 = .ok (.getfield 62, 3) := by decide +kernel
theorem dX11_item_53 : decode cX11_item 53 = .ok (.iload_n 1, 1) := by decide +kernel
theorem dX11_item_54 : decode cX11_item 54 = .ok (.iaload, 1) := by decide +kernel
theorem dX11_item_55 : decode cX11_item 55 = .ok (.ifCond .ne 10, 3) := by decide +kernel
theorem dX11_item_58 : decode cX11_item 58 = .ok (.lload_n 3, 1) := by decide +kernel
theorem dX11_item_59 : decode cX11_item 59 = .ok (.l2i, 1) := by decide +kernel
theorem dX11_item_60 : decode cX11_item 60 = .ok (.i2b, 1) := by decide +kernel
theorem dX11_item_61 : decode cX11_item 61 = .ok (.i2l, 1) := by decide +kernel
theorem dX11_item_62 : decode cX11_item 62 = .ok (.goto 61, 3) := by decide +kernel
theorem dX11_item_65 : decode cX11_item 65 = .ok (.aload_n 0, 1) := by decide +kernel
theorem dX11_item_66 : decode cX11_item 66 = .ok (.getfield 62, 3) := by decide +kernel
theorem dX11_item_69 : decode cX11_item 69 = .ok (.iload_n 1, 1) := by decide +kernel
theorem dX11_item_70 : decode cX11_item 70 = .ok (.iaload, 1) := by decide +kernel
theorem dX11_item_71 : decode cX11_item 71 = .ok (.iconst 1, 1) := by decide +kernel
theorem dX11_item_72 : decode cX11_item 72 = .ok (.if_icmp .ne 10, 3) := by decide +kernel
theorem dX11_item_75 : decode cX11_item 75 = .ok (.lload_n 3, 1) := by decide +kernel
theorem dX11_item_76 : decode cX11_item 76 = .ok (.l2i, 1) := by decide +kernel
theorem dX11_item_77 : decode cX11_item 77 = .ok (.i2s, 1) := by decide +kernel
theorem dX11_item_78 : decode cX11_item 78 = .ok (.i2l, 1) := by decide +kernel
theorem dX11_item_79 : decode cX11_item 79 = .ok (.goto 44, 3) := by decide +kernel
theorem dX11_item_82 : decode cX11_item 82 = .ok (.aload_n 0, 1) := by decide +kernel
theorem dX11_item_83 : decode cX11_item 83 = .ok (.getfield 62, 3) := by decide +kernel
theorem dX11_item_86 : decode cX11_item 86 = .ok (.iload_n 1, 1) := by decide +kernel
theorem dX11_item_87 : decode cX11_item 87 = .ok (.iaload, 1) := by decide +kernel
theorem dX11_item_88 : decode cX11_item 88 = .ok (.iconst 2, 1) := by decide +kernel
theorem dX11_item_89 : decode cX11_item 89 = .ok (.if_icmp .ne 9, 3) := by decide +kernel
theorem dX11_item_92 : decode cX11_item 92 = .ok (.lload_n 3, 1) := by decide +kernel
theorem dX11_item_93 : decode cX11_item 93 = .ok (.l2i, 1) := by decide +kernel
theorem dX11_item_94 : decode cX11_item 94 = .ok (.i2l, 1) := by decide +kernel
theorem dX11_item_95 : decode cX11_item 95 = .ok (.goto 28, 3) := by decide +kernel
theorem dX11_item_98 : decode cX11_item 98 = .ok (.aload_n 0, 1) := by decide +kernel
theorem dX11_item_99 : decode cX11_item 99 = .ok (.getfield 62, 3) := by decide +kernel
theorem dX11_item_102 : decode cX11_item 102 = .ok (.iload_n 1, 1) := by decide +kernel
theorem dX11_item_103 : decode cX11_item 103 = .ok (.iaload, 1) := by decide +kernel
theorem dX11_item_104 : decode cX11_item 104 = .ok (.iconst 3, 1) := by decide +kernel
theorem dX11_item_105 : decode cX11_item 105 = .ok (.if_icmp .ne 7, 3) := by decide +kernel
theorem dX11_item_108 : decode cX11_item 108 = .ok (.lload_n 3, 1) := by decide +kernel
theorem dX11_item_109 : decode cX11_item 109 = .ok (.goto 14, 3) := by decide +kernel
theorem dX11_item_112 : decode cX11_item 112 = .ok (.lload_n 3, 1) := by decide +kernel
theorem dX11_item_113 : decode cX11_item 113 = .ok (.lconst 0, 1) := by decide +kernel
theorem dX11_item_114 : decode cX11_item 114 = .ok (.lcmp, 1) := by decide +kernel
theorem dX11_item_115 : decode cX11_item 115 = .ok (.ifCond .eq 7, 3) := by decide +kernel
theorem dX11_item_118 : decode cX11_item 118 = .ok (.lconst 1, 1) := by decide +kernel
theorem dX11_item_119 : decode cX11_item 119 = .ok (.goto 4, 3) := by decide +kernel
theorem dX11_item_122 : decode cX11_item 122 = .ok (.lconst 0, 1) := by decide +kernel
theorem dX11_item_123 : decode cX11_item 123 = .ok (.lastore, 1) := by decide +kernel
theorem dX11_item_124 : decode cX11_item 124 = .ok (.iconst 1, 1) := by decide +kernel
theorem dX11_item_125 : decode cX11_item 125 = .ok (.ireturn, 1) := by decide +kernel
theorem dX11_peek_0 : decode cX11_peek 0 = .ok (.iload_n 1, 1) := by decide +kernel
theorem dX11_peek_1 : decode cX11_peek 1 = .ok (.invokestatic 249, 3) := by decide +kernel
theorem dX11_peek_4 : decode cX11_peek 4 = .ok (.ifCond .eq 32, 3) := by decide +kernel
theorem dX11_peek_7 : decode cX11_peek 7 = .ok (.iload_n 2, 1) := by decide +kernel
theorem dX11_peek_8 : decode cX11_peek 8 = .ok (.i2l, 1) := by decide +kernel
theorem dX11_peek_9 : decode cX11_peek 9 = .ok (.lconst 0, 1) := by decide +kernel
theorem dX11_peek_10 : decode cX11_peek 10 = .ok (.aload_n 0, 1) := by decide +kernel
theorem dX11_peek_11 : decode cX11_peek 11 = .ok (.getfield 65, 3) := by decide +kernel
theorem dX11_peek_14 : decode cX11_peek 14 = .ok (.iload_n 1, 1) := by decide +kernel
theorem dX11_peek_15 : decode cX11_peek 15 = .ok (.iaload, 1) := by decide +kernel
theorem dX11_peek_16 : decode cX11_peek 16 = .ok (.iconst 1, 1) := by decide +kernel
theorem dX11_peek_17 : decode cX11_peek 17 = .ok (.isub, 1) := by decide +kernel
theorem dX11_peek_18 : decode cX11_peek 18 = .ok (.i2l, 1) := by decide +kernel
theorem dX11_peek_19 : decode cX11_peek 19 = .ok (.invokestatic 85, 3) := by decide +kernel
theorem dX11_peek_22 : decode cX11_peek 22 = .ok (.ifCond .eq 14, 3) := by decide +kernel
theorem dX11_peek_25 : decode cX11_peek 25 = .ok (.aload_n 0, 1) := by decide +kernel
theorem dX11_peek_26 : decode cX11_peek 26 = .ok (.getfield 70, 3) := by decide +kernel
theorem dX11_peek_29 : decode cX11_peek 29 = .ok (.iload_n 1, 1) := by decide +kernel
theorem dX11_peek_30 : decode cX11_peek 30 = .ok (.aaload, 1) := by decide +kernel
theorem dX11_peek_31 : decode cX11_peek 31 = .ok (.iload_n 2, 1) := by decide +kernel
theorem dX11_peek_32 : decode cX11_peek 32 = .ok (.laload, 1) := by decide +kernel
theorem dX11_peek_33 : decode cX11_peek 33 = .ok (.goto 6, 3) := by decide +kernel
theorem dX11_peek_36 : decode cX11_peek 36 = .ok (.ldc2_w 254, 3) := by decide +kernel
theorem dX11_peek_39 : decode cX11_peek 39 = .ok (.lreturn, 1) := by decide +kernel
theorem dX11_shift_0 : decode cX11_shift 0 = .ok (.iload_n 1, 1) := by decide +kernel
theorem dX11_shift_1 : decode cX11_shift 1 = .ok (.invokestatic 249, 3) := by decide +kernel
theorem dX11_shift_4 : decode cX11_shift 4 = .ok (.ifCond .eq 10, 3) := by decide +kernel
theorem dX11_shift_7 : decode cX11_shift 7 = .ok (.iload_n 3, 1) := by decide +kernel
theorem dX11_shift_8 : decode cX11_shift 8 = .ok (.invokestatic 249, 3) := by decide +kernel
theorem dX11_shift_11 : decode cX11_shift 11 = .ok (.ifCond .ne 5, 3) := by decide +kernel
theorem dX11_shift_14 : decode cX11_shift 14 = .ok (.iconst (-1), 1) := by decide +kernel
theorem dX11_shift_15 : decode cX11_shift 15 = .ok (.ireturn, 1) := by decide +kernel
theorem dX11_shift_16 : decode cX11_shift 16 = .ok (.aload_n 0, 1) := by decide +kernel
theorem dX11_shift_17 : decode cX11_shift 17 = .ok (.getfield 62, 3) := by decide +kernel
theorem dX11_shift_20 : decode cX11_shift 20 = .ok (.iload_n 1, 1) := by decide +kernel
theorem dX11_shift_21 : decode cX11_shift 21 = .ok (.iaload, 1) := by decide +kernel
theorem dX11_shift_22 : decode cX11_shift 22 = .ok (.ifCond .lt 12, 3) := by decide +kernel
theorem dX11_shift_25 : decode cX11_shift 25 = .ok (.aload_n 0, 1) := by decide +kernel
theorem dX11_shift_26 : decode cX11_shift 26 = .ok (.getfield 62, 3) := by decide +kernel
theorem dX11_shift_29 : decode cX11_shift 29 = .ok (.iload_n 3, 1) := by decide +kernel
theorem dX11_shift_30 : decode cX11_shift 30 = .ok (.iaload, 1) := by decide +kernel
theorem dX11_shift_31 : decode cX11_shift 31 = .ok (.ifCond .ge 6, 3) := by decide +kernel
theorem dX11_shift_34 : decode cX11_shift 34 = .ok (.bipush (-11), 2) := by decide +kernel
theorem dX11_shift_36 : decode cX11_shift 36 = .ok (.ireturn, 1) := by decide +kernel
theorem dX11_shift_37 : decode cX11_shift 37 = .ok (.aload_n 0, 1) := by decide +kernel
theorem dX11_shift_38 : decode cX11_shift 38 = .ok (.getfield 62, 3) := by decide +kernel
theorem dX11_shift_41 : decode cX11_shift 41 = .ok (.iload_n 1, 1) := by decide +kernel
theorem dX11_shift_42 : decode cX11_shift 42 = .ok (.iaload, 1) := by decide +kernel
theorem dX11_shift_43 : decode cX11_shift 43 = .ok (.aload_n 0, 1) := by decide +kernel
theorem dX11_shift_44 : decode cX11_shift 44 = .ok (.getfield 62, 3) := by decide +kernel
theorem dX11_shift_47 : decode cX11_shift 47 = .ok (.iload_n 3, 1) := by decide +kernel
theorem dX11_shift_48 : decode cX11_shift 48 = .ok (.iaload, 1) := by decide +kernel
theorem dX11_shift_49 : decode cX11_shift 49 = .ok (.if_icmp .eq 6, 3) := by decide +kernel
theorem dX11_shift_52 : decode cX11_shift 52 = .ok (.bipush (-12), 2) := by decide +kernel
theorem dX11_shift_54 : decode cX11_shift 54 = .ok (.ireturn, 1) := by decide +kernel
theorem dX11_shift_55 : decode cX11_shift 55 = .ok (.iload 5, 2) := by decide +kernel
theorem dX11_shift_57 : decode cX11_shift 57 = .ok (.ifCond .lt 39, 3) := by decide +kernel
theorem dX11_shift_60 : decode cX11_shift 60 = .ok (.iload_n 2, 1) := by decide +kernel
theorem dX11_shift_61 : decode cX11_shift 61 = .ok (.ifCond .lt 35, 3) := by decide +kernel
theorem dX11_shift_64 : decode cX11_shift 64 = .ok (.iload 4, 2) := by decide +kernel
theorem dX11_shift_66 : decode cX11_shift 66 = .ok (.ifCond .lt 30, 3) := by decide +kernel
theorem dX11_shift_69 : decode cX11_shift 69 = .ok (.iload 5, 2) := by decide +kernel
theorem dX11_shift_71 : decode cX11_shift 71 = .ok (.aload_n 0, 1) := by decide +kernel
theorem dX11_shift_72 : decode cX11_shift 72 = .ok (.getfield 65, 3) := by decide +kernel
theorem dX11_shift_75 : decode cX11_shift 75 = .ok (.iload_n 1, 1) := by decide +kernel
theorem dX11_shift_76 : decode cX11_shift 76 = .ok (.iaload, 1) := by decide +kernel
theorem dX11_shift_77 : decode cX11_shift 77 = .ok (.iload_n 2, 1) := by decide +kernel
theorem dX11_shift_78 : decode cX11_shift 78 = .ok (.isub, 1) := by decide +kernel
theorem dX11_shift_79 : decode cX11_shift 79 = .ok (.if_icmp .gt 17, 3) := by decide +kernel
theorem dX11_shift_82 : decode cX11_shift 82 = .ok (.iload 5, 2) := by decide +kernel
theorem dX11_shift_84 : decode cX11_shift 84 = .ok (.aload_n 0, 1) := by decide +kernel
theorem dX11_shift_85 : decode cX11_shift 85 = .ok (.getfield 65, 3) := by decide +kernel
theorem dX11_shift_88 : decode cX11_shift 88 = .ok (.iload_n 3, 1) := by decide +kernel
theorem dX11_shift_89 : decode cX11_shift 89 = .ok (.iaload, 1) := by decide +kernel
theorem dX11_shift_90 : decode cX11_shift 90 = .ok (.iload 4, 2) := by decide +kernel
theorem dX11_shift_92 : decode cX11_shift 92 = .ok (.isub, 1) := by decide +kernel
theorem dX11_shift_93 : decode cX11_shift 93 = .ok (.if_icmp .le 6, 3) := by decide +kernel
theorem dX11_shift_96 : decode cX11_shift 96 = .ok (.bipush (-13), 2) := by decide +kernel
theorem dX11_shift_98 : decode cX11_shift 98 = .ok (.ireturn, 1) := by decide +kernel
theorem dX11_shift_99 : decode cX11_shift 99 = .ok (.iconst 0, 1) := by decide +kernel
theorem dX11_shift_100 : decode cX11_shift 100 = .ok (.istore 6, 2) := by decide +kernel
theorem dX11_shift_102 : decode cX11_shift 102 = .ok (.iload 6, 2) := by decide +kernel
theorem dX11_shift_104 : decode cX11_shift 104 = .ok (.iload 5, 2) := by decide +kernel
theorem dX11_shift_106 : decode cX11_shift 106 = .ok (.if_icmp .ge 27, 3) := by decide +kernel
theorem dX11_shift_109 : decode cX11_shift 109 = .ok (.aload_n 0, 1) := by decide +kernel
theorem dX11_shift_110 : decode cX11_shift 110 = .ok (.getfield 73, 3) := by decide +kernel
theorem dX11_shift_113 : decode cX11_shift 113 = .ok (.iload 6, 2) := by decide +kernel
theorem dX11_shift_115 : decode cX11_shift 115 = .ok (.aload_n 0, 1) := by decide +kernel
theorem dX11_shift_116 : decode cX11_shift 116 = .ok (.getfield 70, 3) := by decide +kernel
theorem dX11_shift_119 : decode cX11_shift 119 = .ok (.iload_n 1, 1) := by decide +kernel
theorem dX11_shift_120 : decode cX11_shift 120 = .ok (.aaload, 1) := by decide +kernel
theorem dX11_shift_121 : decode cX11_shift 121 = .ok (.iload_n 2, 1) := by decide +kernel
theorem dX11_shift_122 : decode cX11_shift 122 = .ok (.iload 6, 2) := by decide +kernel
theorem dX11_shift_124 : decode cX11_shift 124 = .ok (.iadd, 1) := by decide +kernel
theorem dX11_shift_125 : decode cX11_shift 125 = .ok (.laload, 1) := by decide +kernel
theorem dX11_shift_126 : decode cX11_shift 126 = .ok (.lastore, 1) := by decide +kernel
theorem dX11_shift_127 : decode cX11_shift 127 = .ok (.iinc 6 1, 3) := by decide +kernel
theorem dX11_shift_130 : decode cX11_shift 130 = .ok (.goto (-28), 3) := by decide +kernel
theorem dX11_shift_133 : decode cX11_shift 133 = .ok (.iconst 0, 1) := by decide +kernel
theorem dX11_shift_134 : decode cX11_shift 134 = .ok (.istore 6, 2) := by decide +kernel
theorem dX11_shift_136 : decode cX11_shift 136 = .ok (.iload 6, 2) := by decide +kernel
theorem dX11_shift_138 : decode cX11_shift 138 = .ok (.iload 5, 2) := by decide +kernel
theorem dX11_shift_140 : decode cX11_shift 140 = .ok (.if_icmp .ge 28, 3) := by decide +kernel
theorem dX11_shift_143 : decode cX11_shift 143 = .ok (.aload_n 0, 1) := by decide +kernel
theorem dX11_shift_144 : decode cX11_shift 144 = .ok (.getfield 70, 3) := by decide +kernel
theorem dX11_shift_147 : decode cX11_shift 147 = .ok (.iload_n 3, 1) := by decide +kernel
theorem dX11_shift_148 : decode cX11_shift 148 = .ok (.aaload, 1) := by decide +kernel
theorem dX11_shift_149 : decode cX11_shift 149 = .ok (.iload 4, 2) := by decide +kernel
theorem dX11_shift_151 : decode cX11_shift 151 = .ok (.iload 6, 2) := by decide +kernel
theorem dX11_shift_153 : decode cX11_shift 153 = .ok (.iadd, 1) := by decide +kernel
theorem dX11_shift_154 : decode cX11_shift 154 = .ok (.aload_n 0, 1) := by decide +kernel
theorem dX11_shift_155 : decode cX11_shift 155 = .ok (.getfield 73, 3) := by decide +kernel
theorem dX11_shift_158 : decode cX11_shift 158 = .ok (.iload 6, 2) := by decide +kernel
theorem dX11_shift_160 : decode cX11_shift 160 = .ok (.laload, 1) := by decide +kernel
theorem dX11_shift_161 : decode cX11_shift 161 = .ok (.lastore, 1) := by decide +kernel
theorem dX11_shift_162 : decode cX11_shift 162 = .ok (.iinc 6 1, 3) := by decide +kernel
theorem dX11_shift_165 : decode cX11_shift 165 = .ok (.goto (-29), 3) := by decide +kernel
theorem dX11_shift_168 : decode cX11_shift 168 = .ok (.iload 5, 2) := by decide +kernel
theorem dX11_shift_170 : decode cX11_shift 170 = .ok (.ireturn, 1) := by decide +kernel
theorem dX11_copies_0 : decode cX11_copies 0 = .ok (.iconst 0, 1) := by decide +kernel
theorem dX11_copies_1 : decode cX11_copies 1 = .ok (.istore 4, 2) := by decide +kernel
theorem dX11_copies_3 : decode cX11_copies 3 = .ok (.iload 4, 2) := by decide +kernel
theorem dX11_copies_5 : decode cX11_copies 5 = .ok (.bipush 48, 2) := by decide +kernel
theorem dX11_copies_7 : decode cX11_copies 7 = .ok (.if_icmp .ge 17, 3) := by decide +kernel
theorem dX11_copies_10 : decode cX11_copies 10 = .ok (.aload_n 1, 1) := by decide +kernel
theorem dX11_copies_11 : decode cX11_copies 11 = .ok (.iload 4, 2) := by decide +kernel
theorem dX11_copies_13 : decode cX11_copies 13 = .ok (.aload_n 0, 1) := by decide +kernel
theorem dX11_copies_14 : decode cX11_copies 14 = .ok (.iload 4, 2) := by decide +kernel
theorem dX11_copies_16 : decode cX11_copies 16 = .ok (.iaload, 1) := by decide +kernel
theorem dX11_copies_17 : decode cX11_copies 17 = .ok (.iastore, 1) := by decide +kernel
theorem dX11_copies_18 : decode cX11_copies 18 = .ok (.iinc 4 1, 3) := by decide +kernel
theorem dX11_copies_21 : decode cX11_copies 21 = .ok (.goto (-18), 3) := by decide +kernel
theorem dX11_copies_24 : decode cX11_copies 24 = .ok (.iconst 0, 1) := by decide +kernel
theorem dX11_copies_25 : decode cX11_copies 25 = .ok (.istore 4, 2) := by decide +kernel
theorem dX11_copies_27 : decode cX11_copies 27 = .ok (.iload 4, 2) := by decide +kernel
theorem dX11_copies_29 : decode cX11_copies 29 = .ok (.iconst 4, 1) := by decide +kernel
theorem dX11_copies_30 : decode cX11_copies 30 = .ok (.if_icmp .gt 40, 3) := by decide +kernel
theorem dX11_copies_33 : decode cX11_copies 33 = .ok (.iconst 0, 1) := by decide +kernel
theorem dX11_copies_34 : decode cX11_copies 34 = .ok (.istore 5, 2) := by decide +kernel
theorem dX11_copies_36 : decode cX11_copies 36 = .ok (.iload 5, 2) := by decide +kernel
theorem dX11_copies_38 : decode cX11_copies 38 = .ok (.sipush 256, 3) := by decide +kernel
theorem dX11_copies_41 : decode cX11_copies 41 = .ok (.if_icmp .ge 23, 3) := by decide +kernel
theorem dX11_copies_44 : decode cX11_copies 44 = .ok (.aload_n 3, 1) := by decide +kernel
theorem dX11_copies_45 : decode cX11_copies 45 = .ok (.iload 4, 2) := by decide +kernel
theorem dX11_copies_47 : decode cX11_copies 47 = .ok (.aaload, 1) := by decide +kernel
theorem dX11_copies_48 : decode cX11_copies 48 = .ok (.iload 5, 2) := by decide +kernel
theorem dX11_copies_50 : decode cX11_copies 50 = .ok (.aload_n 2, 1) := by decide +kernel
theorem dX11_copies_51 : decode cX11_copies 51 = .ok (.iload 4, 2) := by decide +kernel
theorem dX11_copies_53 : decode cX11_copies 53 = .ok (.aaload, 1) := by decide +kernel
theorem dX11_copies_54 : decode cX11_copies 54 = .ok (.iload 5, 2) := by decide +kernel
theorem dX11_copies_56 : decode cX11_copies 56 = .ok (.baload, 1) := by decide +kernel
theorem dX11_copies_57 : decode cX11_copies 57 = .ok (.bastore, 1) := by decide +kernel
theorem dX11_copies_58 : decode cX11_copies 58 = .ok (.iinc 5 1, 3) := by decide +kernel
theorem dX11_copies_61 : decode cX11_copies 61 = .ok (.goto (-25), 3) := by decide +kernel
theorem dX11_copies_64 : decode cX11_copies 64 = .ok (.iinc 4 1, 3) := by decide +kernel
theorem dX11_copies_67 : decode cX11_copies 67 = .ok (.goto (-40), 3) := by decide +kernel
theorem dX11_copies_70 : decode cX11_copies 70 = .ok (.return_, 1) := by decide +kernel
theorem dX11_image_0 : decode cX11_image 0 = .ok (.aload_n 0, 1) := by decide +kernel
theorem dX11_image_1 : decode cX11_image 1 = .ok (.getfield 11, 3) := by decide +kernel
theorem dX11_image_4 : decode cX11_image 4 = .ok (.aload_n 0, 1) := by decide +kernel
theorem dX11_image_5 : decode cX11_image 5 = .ok (.getfield 15, 3) := by decide +kernel
theorem dX11_image_8 : decode cX11_image 8 = .ok (.aload_n 0, 1) := by decide +kernel
theorem dX11_image_9 : decode cX11_image 9 = .ok (.getfield 20, 3) := by decide +kernel
theorem dX11_image_12 : decode cX11_image 12 = .ok (.aload_n 0, 1) := by decide +kernel
theorem dX11_image_13 : decode cX11_image 13 = .ok (.getfield 23, 3) := by decide +kernel
theorem dX11_image_16 : decode cX11_image 16 = .ok (.invokestatic 256, 3) := by decide +kernel
theorem dX11_image_19 : decode cX11_image 19 = .ok (.aload_n 0, 1) := by decide +kernel
theorem dX11_image_20 : decode cX11_image 20 = .ok (.iconst 1, 1) := by decide +kernel
theorem dX11_image_21 : decode cX11_image 21 = .ok (.putfield 260, 3) := by decide +kernel
theorem dX11_image_24 : decode cX11_image 24 = .ok (.aload_n 0, 1) := by decide +kernel
theorem dX11_image_25 : decode cX11_image 25 = .ok (.getfield 20, 3) := by decide +kernel
theorem dX11_image_28 : decode cX11_image 28 = .ok (.iconst 0, 1) := by decide +kernel
theorem dX11_image_29 : decode cX11_image 29 = .ok (.aaload, 1) := by decide +kernel
theorem dX11_image_30 : decode cX11_image 30 = .ok (.invokestatic 170, 3) := by decide +kernel
theorem dX11_image_33 : decode cX11_image 33 = .ok (.ireturn, 1) := by decide +kernel
theorem dX11_undo_0 : decode cX11_undo 0 = .ok (.aload_n 0, 1) := by decide +kernel
theorem dX11_undo_1 : decode cX11_undo 1 = .ok (.getfield 260, 3) := by decide +kernel
theorem dX11_undo_4 : decode cX11_undo 4 = .ok (.ifCond .ne 6, 3) := by decide +kernel
theorem dX11_undo_7 : decode cX11_undo 7 = .ok (.bipush (-3), 2) := by decide +kernel
theorem dX11_undo_9 : decode cX11_undo 9 = .ok (.ireturn, 1) := by decide +kernel
theorem dX11_undo_10 : decode cX11_undo 10 = .ok (.aload_n 0, 1) := by decide +kernel
theorem dX11_undo_11 : decode cX11_undo 11 = .ok (.getfield 15, 3) := by decide +kernel
theorem dX11_undo_14 : decode cX11_undo 14 = .ok (.aload_n 0, 1) := by decide +kernel
theorem dX11_undo_15 : decode cX11_undo 15 = .ok (.getfield 11, 3) := by decide +kernel
theorem dX11_undo_18 : decode cX11_undo 18 = .ok (.aload_n 0, 1) := by decide +kernel
theorem dX11_undo_19 : decode cX11_undo 19 = .ok (.getfield 23, 3) := by decide +kernel
theorem dX11_undo_22 : decode cX11_undo 22 = .ok (.aload_n 0, 1) := by decide +kernel
theorem dX11_undo_23 : decode cX11_undo 23 = .ok (.getfield 20, 3) := by decide +kernel
theorem dX11_undo_26 : decode cX11_undo 26 = .ok (.invokestatic 256, 3) := by decide +kernel
theorem dX11_undo_29 : decode cX11_undo 29 = .ok (.aload_n 0, 1) := by decide +kernel
theorem dX11_undo_30 : decode cX11_undo 30 = .ok (.getfield 20, 3) := by decide +kernel
theorem dX11_undo_33 : decode cX11_undo 33 = .ok (.iconst 0, 1) := by decide +kernel
theorem dX11_undo_34 : decode cX11_undo 34 = .ok (.aaload, 1) := by decide +kernel
theorem dX11_undo_35 : decode cX11_undo 35 = .ok (.invokestatic 170, 3) := by decide +kernel
theorem dX11_undo_38 : decode cX11_undo 38 = .ok (.ireturn, 1) := by decide +kernel
theorem dX11_count_0 : decode cX11_count 0 = .ok (.iload_n 1, 1) := by decide +kernel
theorem dX11_count_1 : decode cX11_count 1 = .ok (.tableswitch 72 0 4 #[35, 42, 49, 59, 67], 35) := by decide +kernel
theorem dX11_count_36 : decode cX11_count 36 = .ok (.aload_n 0, 1) := by decide +kernel
theorem dX11_count_37 : decode cX11_count 37 = .ok (.getfield 11, 3) := by decide +kernel
theorem dX11_count_40 : decode cX11_count 40 = .ok (.iconst 0, 1) := by decide +kernel
theorem dX11_count_41 : decode cX11_count 41 = .ok (.iaload, 1) := by decide +kernel
theorem dX11_count_42 : decode cX11_count 42 = .ok (.ireturn, 1) := by decide +kernel
theorem dX11_count_43 : decode cX11_count 43 = .ok (.aload_n 0, 1) := by decide +kernel
theorem dX11_count_44 : decode cX11_count 44 = .ok (.getfield 11, 3) := by decide +kernel
theorem dX11_count_47 : decode cX11_count 47 = .ok (.iconst 1, 1) := by decide +kernel
theorem dX11_count_48 : decode cX11_count 48 = .ok (.iaload, 1) := by decide +kernel
theorem dX11_count_49 : decode cX11_count 49 = .ok (.ireturn, 1) := by decide +kernel
theorem dX11_count_50 : decode cX11_count 50 = .ok (.aload_n 0, 1) := by decide +kernel
theorem dX11_count_51 : decode cX11_count 51 = .ok (.getfield 20, 3) := by decide +kernel
theorem dX11_count_54 : decode cX11_count 54 = .ok (.iconst 0, 1) := by decide +kernel
theorem dX11_count_55 : decode cX11_count 55 = .ok (.aaload, 1) := by decide +kernel
theorem dX11_count_56 : decode cX11_count 56 = .ok (.invokestatic 170, 3) := by decide +kernel
theorem dX11_count_59 : decode cX11_count 59 = .ok (.ireturn, 1) := by decide +kernel
theorem dX11_count_60 : decode cX11_count 60 = .ok (.aload_n 0, 1) := by decide +kernel
theorem dX11_count_61 : decode cX11_count 61 = .ok (.getfield 11, 3) := by decide +kernel
theorem dX11_count_64 : decode cX11_count 64 = .ok (.bipush 43, 2) := by decide +kernel
theorem dX11_count_66 : decode cX11_count 66 = .ok (.iaload, 1) := by decide +kernel
theorem dX11_count_67 : decode cX11_count 67 = .ok (.ireturn, 1) := by decide +kernel
theorem dX11_count_68 : decode cX11_count 68 = .ok (.aload_n 0, 1) := by decide +kernel
theorem dX11_count_69 : decode cX11_count 69 = .ok (.getfield 202, 3) := by decide +kernel
theorem dX11_count_72 : decode cX11_count 72 = .ok (.ireturn, 1) := by decide +kernel
theorem dX11_count_73 : decode cX11_count 73 = .ok (.bipush (-2), 2) := by decide +kernel
theorem dX11_count_75 : decode cX11_count 75 = .ok (.ireturn, 1) := by decide +kernel
theorem dJ6_bitCount_0f7a4_0 : decode cJ6_bitCount_0f7a4 0 = .ok (.iload_n 0, 1) := by decide +kernel
theorem dJ6_bitCount_0f7a4_1 : decode cJ6_bitCount_0f7a4 1 = .ok (.iload_n 0, 1) := by decide +kernel
theorem dJ6_bitCount_0f7a4_2 : decode cJ6_bitCount_0f7a4 2 = .ok (.iconst 1, 1) := by decide +kernel
theorem dJ6_bitCount_0f7a4_3 : decode cJ6_bitCount_0f7a4 3 = .ok (.iushr, 1) := by decide +kernel
theorem dJ6_bitCount_0f7a4_4 : decode cJ6_bitCount_0f7a4 4 = .ok (.ldc_w 265, 3) := by decide +kernel
theorem dJ6_bitCount_0f7a4_7 : decode cJ6_bitCount_0f7a4 7 = .ok (.iand, 1) := by decide +kernel
theorem dJ6_bitCount_0f7a4_8 : decode cJ6_bitCount_0f7a4 8 = .ok (.isub, 1) := by decide +kernel
theorem dJ6_bitCount_0f7a4_9 : decode cJ6_bitCount_0f7a4 9 = .ok (.istore_n 0, 1) := by decide +kernel
theorem dJ6_bitCount_0f7a4_10 : decode cJ6_bitCount_0f7a4 10 = .ok (.iload_n 0, 1) := by decide +kernel
theorem dJ6_bitCount_0f7a4_11 : decode cJ6_bitCount_0f7a4 11 = .ok (.ldc_w 266, 3) := by decide +kernel
theorem dJ6_bitCount_0f7a4_14 : decode cJ6_bitCount_0f7a4 14 = .ok (.iand, 1) := by decide +kernel
theorem dJ6_bitCount_0f7a4_15 : decode cJ6_bitCount_0f7a4 15 = .ok (.iload_n 0, 1) := by decide +kernel
theorem dJ6_bitCount_0f7a4_16 : decode cJ6_bitCount_0f7a4 16 = .ok (.iconst 2, 1) := by decide +kernel
theorem dJ6_bitCount_0f7a4_17 : decode cJ6_bitCount_0f7a4 17 = .ok (.iushr, 1) := by decide +kernel
theorem dJ6_bitCount_0f7a4_18 : decode cJ6_bitCount_0f7a4 18 = .ok (.ldc_w 266, 3) := by decide +kernel
theorem dJ6_bitCount_0f7a4_21 : decode cJ6_bitCount_0f7a4 21 = .ok (.iand, 1) := by decide +kernel
theorem dJ6_bitCount_0f7a4_22 : decode cJ6_bitCount_0f7a4 22 = .ok (.iadd, 1) := by decide +kernel
theorem dJ6_bitCount_0f7a4_23 : decode cJ6_bitCount_0f7a4 23 = .ok (.istore_n 0, 1) := by decide +kernel
theorem dJ6_bitCount_0f7a4_24 : decode cJ6_bitCount_0f7a4 24 = .ok (.iload_n 0, 1) := by decide +kernel
theorem dJ6_bitCount_0f7a4_25 : decode cJ6_bitCount_0f7a4 25 = .ok (.iload_n 0, 1) := by decide +kernel
theorem dJ6_bitCount_0f7a4_26 : decode cJ6_bitCount_0f7a4 26 = .ok (.iconst 4, 1) := by decide +kernel
theorem dJ6_bitCount_0f7a4_27 : decode cJ6_bitCount_0f7a4 27 = .ok (.iushr, 1) := by decide +kernel
theorem dJ6_bitCount_0f7a4_28 : decode cJ6_bitCount_0f7a4 28 = .ok (.iadd, 1) := by decide +kernel
theorem dJ6_bitCount_0f7a4_29 : decode cJ6_bitCount_0f7a4 29 = .ok (.ldc_w 267, 3) := by decide +kernel
theorem dJ6_bitCount_0f7a4_32 : decode cJ6_bitCount_0f7a4 32 = .ok (.iand, 1) := by decide +kernel
theorem dJ6_bitCount_0f7a4_33 : decode cJ6_bitCount_0f7a4 33 = .ok (.istore_n 0, 1) := by decide +kernel
theorem dJ6_bitCount_0f7a4_34 : decode cJ6_bitCount_0f7a4 34 = .ok (.iload_n 0, 1) := by decide +kernel
theorem dJ6_bitCount_0f7a4_35 : decode cJ6_bitCount_0f7a4 35 = .ok (.iload_n 0, 1) := by decide +kernel
theorem dJ6_bitCount_0f7a4_36 : decode cJ6_bitCount_0f7a4 36 = .ok (.bipush 8, 2) := by decide +kernel
theorem dJ6_bitCount_0f7a4_38 : decode cJ6_bitCount_0f7a4 38 = .ok (.iushr, 1) := by decide +kernel
theorem dJ6_bitCount_0f7a4_39 : decode cJ6_bitCount_0f7a4 39 = .ok (.iadd, 1) := by decide +kernel
theorem dJ6_bitCount_0f7a4_40 : decode cJ6_bitCount_0f7a4 40 = .ok (.istore_n 0, 1) := by decide +kernel
theorem dJ6_bitCount_0f7a4_41 : decode cJ6_bitCount_0f7a4 41 = .ok (.iload_n 0, 1) := by decide +kernel
theorem dJ6_bitCount_0f7a4_42 : decode cJ6_bitCount_0f7a4 42 = .ok (.iload_n 0, 1) := by decide +kernel
theorem dJ6_bitCount_0f7a4_43 : decode cJ6_bitCount_0f7a4 43 = .ok (.bipush 16, 2) := by decide +kernel
theorem dJ6_bitCount_0f7a4_45 : decode cJ6_bitCount_0f7a4 45 = .ok (.iushr, 1) := by decide +kernel
theorem dJ6_bitCount_0f7a4_46 : decode cJ6_bitCount_0f7a4 46 = .ok (.iadd, 1) := by decide +kernel
theorem dJ6_bitCount_0f7a4_47 : decode cJ6_bitCount_0f7a4 47 = .ok (.istore_n 0, 1) := by decide +kernel
theorem dJ6_bitCount_0f7a4_48 : decode cJ6_bitCount_0f7a4 48 = .ok (.iload_n 0, 1) := by decide +kernel
theorem dJ6_bitCount_0f7a4_49 : decode cJ6_bitCount_0f7a4 49 = .ok (.bipush 63, 2) := by decide +kernel
theorem dJ6_bitCount_0f7a4_51 : decode cJ6_bitCount_0f7a4 51 = .ok (.iand, 1) := by decide +kernel
theorem dJ6_bitCount_0f7a4_52 : decode cJ6_bitCount_0f7a4 52 = .ok (.ireturn, 1) := by decide +kernel
theorem dJ9_max_7cf53_0 : decode cJ9_max_7cf53 0 = .ok (.iload_n 0, 1) := by decide +kernel
theorem dJ9_max_7cf53_1 : decode cJ9_max_7cf53 1 = .ok (.iload_n 1, 1) := by decide +kernel
theorem dJ9_max_7cf53_2 : decode cJ9_max_7cf53 2 = .ok (.if_icmp .lt 7, 3) := by decide +kernel
theorem dJ9_max_7cf53_5 : decode cJ9_max_7cf53 5 = .ok (.iload_n 0, 1) := by decide +kernel
theorem dJ9_max_7cf53_6 : decode cJ9_max_7cf53 6 = .ok (.goto 4, 3) := by decide +kernel
theorem dJ9_max_7cf53_9 : decode cJ9_max_7cf53 9 = .ok (.iload_n 1, 1) := by decide +kernel
theorem dJ9_max_7cf53_10 : decode cJ9_max_7cf53 10 = .ok (.ireturn, 1) := by decide +kernel
theorem dJ9_min_7cf53_0 : decode cJ9_min_7cf53 0 = .ok (.iload_n 0, 1) := by decide +kernel
theorem dJ9_min_7cf53_1 : decode cJ9_min_7cf53 1 = .ok (.iload_n 1, 1) := by decide +kernel
theorem dJ9_min_7cf53_2 : decode cJ9_min_7cf53 2 = .ok (.if_icmp .gt 7, 3) := by decide +kernel
theorem dJ9_min_7cf53_5 : decode cJ9_min_7cf53 5 = .ok (.iload_n 0, 1) := by decide +kernel
theorem dJ9_min_7cf53_6 : decode cJ9_min_7cf53 6 = .ok (.goto 4, 3) := by decide +kernel
theorem dJ9_min_7cf53_9 : decode cJ9_min_7cf53 9 = .ok (.iload_n 1, 1) := by decide +kernel
theorem dJ9_min_7cf53_10 : decode cJ9_min_7cf53 10 = .ok (.ireturn, 1) := by decide +kernel
theorem dJ7_fill_d0a16_0 : decode cJ7_fill_d0a16 0 = .ok (.iconst 0, 1) := by decide +kernel
theorem dJ7_fill_d0a16_1 : decode cJ7_fill_d0a16 1 = .ok (.istore_n 3, 1) := by decide +kernel
theorem dJ7_fill_d0a16_2 : decode cJ7_fill_d0a16 2 = .ok (.aload_n 0, 1) := by decide +kernel
theorem dJ7_fill_d0a16_3 : decode cJ7_fill_d0a16 3 = .ok (.arraylength, 1) := by decide +kernel
theorem dJ7_fill_d0a16_4 : decode cJ7_fill_d0a16 4 = .ok (.istore 4, 2) := by decide +kernel
theorem dJ7_fill_d0a16_6 : decode cJ7_fill_d0a16 6 = .ok (.iload_n 3, 1) := by decide +kernel
theorem dJ7_fill_d0a16_7 : decode cJ7_fill_d0a16 7 = .ok (.iload 4, 2) := by decide +kernel
theorem dJ7_fill_d0a16_9 : decode cJ7_fill_d0a16 9 = .ok (.if_icmp .ge 13, 3) := by decide +kernel
theorem dJ7_fill_d0a16_12 : decode cJ7_fill_d0a16 12 = .ok (.aload_n 0, 1) := by decide +kernel
theorem dJ7_fill_d0a16_13 : decode cJ7_fill_d0a16 13 = .ok (.iload_n 3, 1) := by decide +kernel
theorem dJ7_fill_d0a16_14 : decode cJ7_fill_d0a16 14 = .ok (.lload_n 1, 1) := by decide +kernel
theorem dJ7_fill_d0a16_15 : decode cJ7_fill_d0a16 15 = .ok (.lastore, 1) := by decide +kernel
theorem dJ7_fill_d0a16_16 : decode cJ7_fill_d0a16 16 = .ok (.iinc 3 1, 3) := by decide +kernel
theorem dJ7_fill_d0a16_19 : decode cJ7_fill_d0a16 19 = .ok (.goto (-13), 3) := by decide +kernel
theorem dJ7_fill_d0a16_22 : decode cJ7_fill_d0a16 22 = .ok (.return_, 1) := by decide +kernel
theorem dJ7_fill_53178_0 : decode cJ7_fill_53178 0 = .ok (.iconst 0, 1) := by decide +kernel
theorem dJ7_fill_53178_1 : decode cJ7_fill_53178 1 = .ok (.istore_n 2, 1) := by decide +kernel
theorem dJ7_fill_53178_2 : decode cJ7_fill_53178 2 = .ok (.aload_n 0, 1) := by decide +kernel
theorem dJ7_fill_53178_3 : decode cJ7_fill_53178 3 = .ok (.arraylength, 1) := by decide +kernel
theorem dJ7_fill_53178_4 : decode cJ7_fill_53178 4 = .ok (.istore_n 3, 1) := by decide +kernel
theorem dJ7_fill_53178_5 : decode cJ7_fill_53178 5 = .ok (.iload_n 2, 1) := by decide +kernel
theorem dJ7_fill_53178_6 : decode cJ7_fill_53178 6 = .ok (.iload_n 3, 1) := by decide +kernel
theorem dJ7_fill_53178_7 : decode cJ7_fill_53178 7 = .ok (.if_icmp .ge 13, 3) := by decide +kernel
theorem dJ7_fill_53178_10 : decode cJ7_fill_53178 10 = .ok (.aload_n 0, 1) := by decide +kernel
theorem dJ7_fill_53178_11 : decode cJ7_fill_53178 11 = .ok (.iload_n 2, 1) := by decide +kernel
theorem dJ7_fill_53178_12 : decode cJ7_fill_53178 12 = .ok (.iload_n 1, 1) := by decide +kernel
theorem dJ7_fill_53178_13 : decode cJ7_fill_53178 13 = .ok (.iastore, 1) := by decide +kernel
theorem dJ7_fill_53178_14 : decode cJ7_fill_53178 14 = .ok (.iinc 2 1, 3) := by decide +kernel
theorem dJ7_fill_53178_17 : decode cJ7_fill_53178 17 = .ok (.goto (-12), 3) := by decide +kernel
theorem dJ7_fill_53178_20 : decode cJ7_fill_53178 20 = .ok (.return_, 1) := by decide +kernel
end
section
theorem dL_law_0 : decode cL_law 0 = .ok (.new 7, 3) := by decide +kernel
theorem dL_law_3 : decode cL_law 3 = .ok (.dup, 1) := by decide +kernel
theorem dL_law_4 : decode cL_law 4 = .ok (.invokespecial 9, 3) := by decide +kernel
theorem dL_law_7 : decode cL_law 7 = .ok (.astore_n 1, 1) := by decide +kernel
theorem dL_law_8 : decode cL_law 8 = .ok (.new 10, 3) := by decide +kernel
theorem dL_law_11 : decode cL_law 11 = .ok (.dup, 1) := by decide +kernel
theorem dL_law_12 : decode cL_law 12 = .ok (.invokespecial 12, 3) := by decide +kernel
theorem dL_law_15 : decode cL_law 15 = .ok (.astore_n 2, 1) := by decide +kernel
theorem dL_law_16 : decode cL_law 16 = .ok (.iconst 0, 1) := by decide +kernel
theorem dL_law_17 : decode cL_law 17 = .ok (.istore_n 3, 1) := by decide +kernel
theorem dL_law_18 : decode cL_law 18 = .ok (.iload_n 3, 1) := by decide +kernel
theorem dL_law_19 : decode cL_law 19 = .ok (.aload_n 0, 1) := by decide +kernel
theorem dL_law_20 : decode cL_law 20 = .ok (.arraylength, 1) := by decide +kernel
theorem dL_law_21 : decode cL_law 21 = .ok (.bipush 6, 2) := by decide +kernel
theorem dL_law_23 : decode cL_law 23 = .ok (.isub, 1) := by decide +kernel
theorem dL_law_24 : decode cL_law 24 = .ok (.if_icmp .gt 1471, 3) := by decide +kernel
theorem dL_law_27 : decode cL_law 27 = .ok (.aload_n 0, 1) := by decide +kernel
theorem dL_law_28 : decode cL_law 28 = .ok (.iload_n 3, 1) := by decide +kernel
theorem dL_law_29 : decode cL_law 29 = .ok (.iaload, 1) := by decide +kernel
theorem dL_law_30 : decode cL_law 30 = .ok (.bipush 63, 2) := by decide +kernel
theorem dL_law_32 : decode cL_law 32 = .ok (.iand, 1) := by decide +kernel
theorem dL_law_33 : decode cL_law 33 = .ok (.tableswitch 1456 0 39 #[175, 198, 231, 254, 277, 310, 343, 376, 389, 412, 455, 498, 521, 574, 627, 680, 723, 756, 779, 802, 825, 848, 881, 894, 927, 940, 973, 1006, 1029, 1072, 1125, 1148, 1161, 1194, 1207, 1220, 1243, 1286, 1359, 1393], 175) := by decide +kernel
theorem dL_law_208 : decode cL_law 208 = .ok (.aload_n 1, 1) := by decide +kernel
theorem dL_law_209 : decode cL_law 209 = .ok (.aload_n 0, 1) := by decide +kernel
theorem dL_law_210 : decode cL_law 210 = .ok (.iload_n 3, 1) := by decide +kernel
theorem dL_law_211 : decode cL_law 211 = .ok (.iconst 1, 1) := by decide +kernel
theorem dL_law_212 : decode cL_law 212 = .ok (.iadd, 1) := by decide +kernel
theorem dL_law_213 : decode cL_law 213 = .ok (.iaload, 1) := by decide +kernel
theorem dL_law_214 : decode cL_law 214 = .ok (.invokevirtual 13, 3) := by decide +kernel
theorem dL_law_217 : decode cL_law 217 = .ok (.aload_n 2, 1) := by decide +kernel
theorem dL_law_218 : decode cL_law 218 = .ok (.aload_n 0, 1) := by decide +kernel
theorem dL_law_219 : decode cL_law 219 = .ok (.iload_n 3, 1) := by decide +kernel
theorem dL_law_220 : decode cL_law 220 = .ok (.iconst 1, 1) := by decide +kernel
theorem dL_law_221 : decode cL_law 221 = .ok (.iadd, 1) := by decide +kernel
theorem dL_law_222 : decode cL_law 222 = .ok (.iaload, 1) := by decide +kernel
theorem dL_law_223 : decode cL_law 223 = .ok (.invokevirtual 17, 3) := by decide +kernel
theorem dL_law_226 : decode cL_law 226 = .ok (.if_icmp .eq 1263, 3) := by decide +kernel
theorem dL_law_229 : decode cL_law 229 = .ok (.iconst 0, 1) := by decide +kernel
theorem dL_law_230 : decode cL_law 230 = .ok (.ireturn, 1) := by decide +kernel
theorem dL_law_231 : decode cL_law 231 = .ok (.aload_n 1, 1) := by decide +kernel
theorem dL_law_232 : decode cL_law 232 = .ok (.aload_n 0, 1) := by decide +kernel
theorem dL_law_233 : decode cL_law 233 = .ok (.iload_n 3, 1) := by decide +kernel
theorem dL_law_234 : decode cL_law 234 = .ok (.iconst 1, 1) := by decide +kernel
theorem dL_law_235 : decode cL_law 235 = .ok (.iadd, 1) := by decide +kernel
theorem dL_law_236 : decode cL_law 236 = .ok (.iaload, 1) := by decide +kernel
theorem dL_law_237 : decode cL_law 237 = .ok (.aload_n 0, 1) := by decide +kernel
theorem dL_law_238 : decode cL_law 238 = .ok (.iload_n 3, 1) := by decide +kernel
theorem dL_law_239 : decode cL_law 239 = .ok (.iconst 2, 1) := by decide +kernel
theorem dL_law_240 : decode cL_law 240 = .ok (.iadd, 1) := by decide +kernel
theorem dL_law_241 : decode cL_law 241 = .ok (.iaload, 1) := by decide +kernel
theorem dL_law_242 : decode cL_law 242 = .ok (.invokevirtual 18, 3) := by decide +kernel
theorem dL_law_245 : decode cL_law 245 = .ok (.aload_n 2, 1) := by decide +kernel
theorem dL_law_246 : decode cL_law 246 = .ok (.aload_n 0, 1) := by decide +kernel
theorem dL_law_247 : decode cL_law 247 = .ok (.iload_n 3, 1) := by decide +kernel
theorem dL_law_248 : decode cL_law 248 = .ok (.iconst 1, 1) := by decide +kernel
theorem dL_law_249 : decode cL_law 249 = .ok (.iadd, 1) := by decide +kernel
theorem dL_law_250 : decode cL_law 250 = .ok (.iaload, 1) := by decide +kernel
theorem dL_law_251 : decode cL_law 251 = .ok (.aload_n 0, 1) := by decide +kernel
theorem dL_law_252 : decode cL_law 252 = .ok (.iload_n 3, 1) := by decide +kernel
theorem dL_law_253 : decode cL_law 253 = .ok (.iconst 2, 1) := by decide +kernel
theorem dL_law_254 : decode cL_law 254 = .ok (.iadd, 1) := by decide +kernel
theorem dL_law_255 : decode cL_law 255 = .ok (.iaload, 1) := by decide +kernel
theorem dL_law_256 : decode cL_law 256 = .ok (.invokevirtual 22, 3) := by decide +kernel
theorem dL_law_259 : decode cL_law 259 = .ok (.if_icmp .eq 1230, 3) := by decide +kernel
theorem dL_law_262 : decode cL_law 262 = .ok (.iconst 0, 1) := by decide +kernel
theorem dL_law_263 : decode cL_law 263 = .ok (.ireturn, 1) := by decide +kernel
theorem dL_law_264 : decode cL_law 264 = .ok (.aload_n 1, 1) := by decide +kernel
theorem dL_law_265 : decode cL_law 265 = .ok (.aload_n 0, 1) := by decide +kernel
theorem dL_law_266 : decode cL_law 266 = .ok (.iload_n 3, 1) := by decide +kernel
theorem dL_law_267 : decode cL_law 267 = .ok (.iconst 1, 1) := by decide +kernel
theorem dL_law_268 : decode cL_law 268 = .ok (.iadd, 1) := by decide +kernel
theorem dL_law_269 : decode cL_law 269 = .ok (.iaload, 1) := by decide +kernel
theorem dL_law_270 : decode cL_law 270 = .ok (.invokevirtual 23, 3) := by decide +kernel
theorem dL_law_273 : decode cL_law 273 = .ok (.aload_n 2, 1) := by decide +kernel
theorem dL_law_274 : decode cL_law 274 = .ok (.aload_n 0, 1) := by decide +kernel
theorem dL_law_275 : decode cL_law 275 = .ok (.iload_n 3, 1) := by decide +kernel
theorem dL_law_276 : decode cL_law 276 = .ok (.iconst 1, 1) := by decide +kernel
theorem dL_law_277 : decode cL_law 277 = .ok (.iadd, 1) := by decide +kernel
theorem dL_law_278 : decode cL_law 278 = .ok (.iaload, 1) := by decide +kernel
theorem dL_law_279 : decode cL_law 279 = .ok (.invokevirtual 26, 3) := by decide +kernel
theorem dL_law_282 : decode cL_law 282 = .ok (.if_icmp .eq 1207, 3) := by decide +kernel
theorem dL_law_285 : decode cL_law 285 = .ok (.iconst 0, 1) := by decide +kernel
theorem dL_law_286 : decode cL_law 286 = .ok (.ireturn, 1) := by decide +kernel
theorem dL_law_287 : decode cL_law 287 = .ok (.aload_n 1, 1) := by decide +kernel
theorem dL_law_288 : decode cL_law 288 = .ok (.aload_n 0, 1) := by decide +kernel
theorem dL_law_289 : decode cL_law 289 = .ok (.iload_n 3, 1) := by decide +kernel
theorem dL_law_290 : decode cL_law 290 = .ok (.iconst 1, 1) := by decide +kernel
theorem dL_law_291 : decode cL_law 291 = .ok (.iadd, 1) := by decide +kernel
theorem dL_law_292 : decode cL_law 292 = .ok (.iaload, 1) := by decide +kernel
theorem dL_law_293 : decode cL_law 293 = .ok (.invokevirtual 27, 3) := by decide +kernel
theorem dL_law_296 : decode cL_law 296 = .ok (.aload_n 2, 1) := by decide +kernel
theorem dL_law_297 : decode cL_law 297 = .ok (.aload_n 0, 1) := by decide +kernel
theorem dL_law_298 : decode cL_law 298 = .ok (.iload_n 3, 1) := by decide +kernel
theorem dL_law_299 : decode cL_law 299 = .ok (.iconst 1, 1) := by decide +kernel
theorem dL_law_300 : decode cL_law 300 = .ok (.iadd, 1) := by decide +kernel
theorem dL_law_301 : decode cL_law 301 = .ok (.iaload, 1) := by decide +kernel
theorem dL_law_302 : decode cL_law 302 = .ok (.invokevirtual 30, 3) := by decide +kernel
theorem dL_law_305 : decode cL_law 305 = .ok (.if_icmp .eq 1184, 3) := by decide +kernel
theorem dL_law_308 : decode cL_law 308 = .ok (.iconst 0, 1) := by decide +kernel
theorem dL_law_309 : decode cL_law 309 = .ok (.ireturn, 1) := by decide +kernel
theorem dL_law_310 : decode cL_law 310 = .ok (.aload_n 1, 1) := by decide +kernel
theorem dL_law_311 : decode cL_law 311 = .ok (.aload_n 0, 1) := by decide +kernel
theorem dL_law_312 : decode cL_law 312 = .ok (.iload_n 3, 1) := by decide +kernel
theorem dL_law_313 : decode cL_law 313 = .ok (.iconst 1, 1) := by decide +kernel
theorem dL_law_314 : decode cL_law 314 = .ok (.iadd, 1) := by decide +kernel
theorem dL_law_315 : decode cL_law 315 = .ok (.iaload, 1) := by decide +kernel
theorem dL_law_316 : decode cL_law 316 = .ok (.aload_n 0, 1) := by decide +kernel
theorem dL_law_317 : decode cL_law 317 = .ok (.iload_n 3, 1) := by decide +kernel
theorem dL_law_318 : decode cL_law 318 = .ok (.iconst 2, 1) := by decide +kernel
theorem dL_law_319 : decode cL_law 319 = .ok (.iadd, 1) := by decide +kernel
theorem dL_law_320 : decode cL_law 320 = .ok (.iaload, 1) := by decide +kernel
theorem dL_law_321 : decode cL_law 321 = .ok (.invokevirtual 31, 3) := by decide +kernel
theorem dL_law_324 : decode cL_law 324 = .ok (.aload_n 2, 1) := by decide +kernel
theorem dL_law_325 : decode cL_law 325 = .ok (.aload_n 0, 1) := by decide +kernel
theorem dL_law_326 : decode cL_law 326 = .ok (.iload_n 3, 1) := by decide +kernel
theorem dL_law_327 : decode cL_law 327 = .ok (.iconst 1, 1) := by decide +kernel
theorem dL_law_328 : decode cL_law 328 = .ok (.iadd, 1) := by decide +kernel
theorem dL_law_329 : decode cL_law 329 = .ok (.iaload, 1) := by decide +kernel
theorem dL_law_330 : decode cL_law 330 = .ok (.aload_n 0, 1) := by decide +kernel
theorem dL_law_331 : decode cL_law 331 = .ok (.iload_n 3, 1) := by decide +kernel
theorem dL_law_332 : decode cL_law 332 = .ok (.iconst 2, 1) := by decide +kernel
theorem dL_law_333 : decode cL_law 333 = .ok (.iadd, 1) := by decide +kernel
theorem dL_law_334 : decode cL_law 334 = .ok (.iaload, 1) := by decide +kernel
theorem dL_law_335 : decode cL_law 335 = .ok (.invokevirtual 34, 3) := by decide +kernel
theorem dL_law_338 : decode cL_law 338 = .ok (.if_icmp .eq 1151, 3) := by decide +kernel
theorem dL_law_341 : decode cL_law 341 = .ok (.iconst 0, 1) := by decide +kernel
theorem dL_law_342 : decode cL_law 342 = .ok (.ireturn, 1) := by decide +kernel
theorem dL_law_343 : decode cL_law 343 = .ok (.aload_n 1, 1) := by decide +kernel
theorem dL_law_344 : decode cL_law 344 = .ok (.aload_n 0, 1) := by decide +kernel
theorem dL_law_345 : decode cL_law 345 = .ok (.iload_n 3, 1) := by decide +kernel
theorem dL_law_346 : decode cL_law 346 = .ok (.iconst 1, 1) := by decide +kernel
theorem dL_law_347 : decode cL_law 347 = .ok (.iadd, 1) := by decide +kernel
theorem dL_law_348 : decode cL_law 348 = .ok (.iaload, 1) := by decide +kernel
theorem dL_law_349 : decode cL_law 349 = .ok (.aload_n 0, 1) := by decide +kernel
theorem dL_law_350 : decode cL_law 350 = .ok (.iload_n 3, 1) := by decide +kernel
theorem dL_law_351 : decode cL_law 351 = .ok (.iconst 2, 1) := by decide +kernel
theorem dL_law_352 : decode cL_law 352 = .ok (.iadd, 1) := by decide +kernel
theorem dL_law_353 : decode cL_law 353 = .ok (.iaload, 1) := by decide +kernel
theorem dL_law_354 : decode cL_law 354 = .ok (.invokevirtual 35, 3) := by decide +kernel
theorem dL_law_357 : decode cL_law 357 = .ok (.aload_n 2, 1) := by decide +kernel
theorem dL_law_358 : decode cL_law 358 = .ok (.aload_n 0, 1) := by decide +kernel
theorem dL_law_359 : decode cL_law 359 = .ok (.iload_n 3, 1) := by decide +kernel
theorem dL_law_360 : decode cL_law 360 = .ok (.iconst 1, 1) := by decide +kernel
theorem dL_law_361 : decode cL_law 361 = .ok (.iadd, 1) := by decide +kernel
theorem dL_law_362 : decode cL_law 362 = .ok (.iaload, 1) := by decide +kernel
theorem dL_law_363 : decode cL_law 363 = .ok (.aload_n 0, 1) := by decide +kernel
theorem dL_law_364 : decode cL_law 364 = .ok (.iload_n 3, 1) := by decide +kernel
theorem dL_law_365 : decode cL_law 365 = .ok (.iconst 2, 1) := by decide +kernel
theorem dL_law_366 : decode cL_law 366 = .ok (.iadd, 1) := by decide +kernel
theorem dL_law_367 : decode cL_law 367 = .ok (.iaload, 1) := by decide +kernel
theorem dL_law_368 : decode cL_law 368 = .ok (.invokevirtual 38, 3) := by decide +kernel
theorem dL_law_371 : decode cL_law 371 = .ok (.if_icmp .eq 1118, 3) := by decide +kernel
theorem dL_law_374 : decode cL_law 374 = .ok (.iconst 0, 1) := by decide +kernel
theorem dL_law_375 : decode cL_law 375 = .ok (.ireturn, 1) := by decide +kernel
theorem dL_law_376 : decode cL_law 376 = .ok (.aload_n 1, 1) := by decide +kernel
theorem dL_law_377 : decode cL_law 377 = .ok (.aload_n 0, 1) := by decide +kernel
theorem dL_law_378 : decode cL_law 378 = .ok (.iload_n 3, 1) := by decide +kernel
theorem dL_law_379 : decode cL_law 379 = .ok (.iconst 1, 1) := by decide +kernel
theorem dL_law_380 : decode cL_law 380 = .ok (.iadd, 1) := by decide +kernel
theorem dL_law_381 : decode cL_law 381 = .ok (.iaload, 1) := by decide +kernel
theorem dL_law_382 : decode cL_law 382 = .ok (.aload_n 0, 1) := by decide +kernel
theorem dL_law_383 : decode cL_law 383 = .ok (.iload_n 3, 1) := by decide +kernel
theorem dL_law_384 : decode cL_law 384 = .ok (.iconst 2, 1) := by decide +kernel
theorem dL_law_385 : decode cL_law 385 = .ok (.iadd, 1) := by decide +kernel
theorem dL_law_386 : decode cL_law 386 = .ok (.iaload, 1) := by decide +kernel
theorem dL_law_387 : decode cL_law 387 = .ok (.invokevirtual 39, 3) := by decide +kernel
theorem dL_law_390 : decode cL_law 390 = .ok (.aload_n 2, 1) := by decide +kernel
theorem dL_law_391 : decode cL_law 391 = .ok (.aload_n 0, 1) := by decide +kernel
theorem dL_law_392 : decode cL_law 392 = .ok (.iload_n 3, 1) := by decide +kernel
theorem dL_law_393 : decode cL_law 393 = .ok (.iconst 1, 1) := by decide +kernel
theorem dL_law_394 : decode cL_law 394 = .ok (.iadd, 1) := by decide +kernel
theorem dL_law_395 : decode cL_law 395 = .ok (.iaload, 1) := by decide +kernel
theorem dL_law_396 : decode cL_law 396 = .ok (.aload_n 0, 1) := by decide +kernel
theorem dL_law_397 : decode cL_law 397 = .ok (.iload_n 3, 1) := by decide +kernel
theorem dL_law_398 : decode cL_law 398 = .ok (.iconst 2, 1) := by decide +kernel
theorem dL_law_399 : decode cL_law 399 = .ok (.iadd, 1) := by decide +kernel
theorem dL_law_400 : decode cL_law 400 = .ok (.iaload, 1) := by decide +kernel
theorem dL_law_401 : decode cL_law 401 = .ok (.invokevirtual 42, 3) := by decide +kernel
theorem dL_law_404 : decode cL_law 404 = .ok (.if_icmp .eq 1085, 3) := by decide +kernel
theorem dL_law_407 : decode cL_law 407 = .ok (.iconst 0, 1) := by decide +kernel
theorem dL_law_408 : decode cL_law 408 = .ok (.ireturn, 1) := by decide +kernel
theorem dL_law_409 : decode cL_law 409 = .ok (.aload_n 1, 1) := by decide +kernel
theorem dL_law_410 : decode cL_law 410 = .ok (.invokevirtual 43, 3) := by decide +kernel
theorem dL_law_413 : decode cL_law 413 = .ok (.aload_n 2, 1) := by decide +kernel
theorem dL_law_414 : decode cL_law 414 = .ok (.invokevirtual 47, 3) := by decide +kernel
theorem dL_law_417 : decode cL_law 417 = .ok (.if_icmp .eq 1072, 3) := by decide +kernel
theorem dL_law_420 : decode cL_law 420 = .ok (.iconst 0, 1) := by decide +kernel
theorem dL_law_421 : decode cL_law 421 = .ok (.ireturn, 1) := by decide +kernel
theorem dL_law_422 : decode cL_law 422 = .ok (.aload_n 1, 1) := by decide +kernel
theorem dL_law_423 : decode cL_law 423 = .ok (.aload_n 0, 1) := by decide +kernel
theorem dL_law_424 : decode cL_law 424 = .ok (.iload_n 3, 1) := by decide +kernel
theorem dL_law_425 : decode cL_law 425 = .ok (.iconst 1, 1) := by decide +kernel
theorem dL_law_426 : decode cL_law 426 = .ok (.iadd, 1) := by decide +kernel
theorem dL_law_427 : decode cL_law 427 = .ok (.iaload, 1) := by decide +kernel
theorem dL_law_428 : decode cL_law 428 = .ok (.invokevirtual 48, 3) := by decide +kernel
theorem dL_law_431 : decode cL_law 431 = .ok (.aload_n 2, 1) := by decide +kernel
theorem dL_law_432 : decode cL_law 432 = .ok (.aload_n 0, 1) := by decide +kernel
theorem dL_law_433 : decode cL_law 433 = .ok (.iload_n 3, 1) := by decide +kernel
theorem dL_law_434 : decode cL_law 434 = .ok (.iconst 1, 1) := by decide +kernel
theorem dL_law_435 : decode cL_law 435 = .ok (.iadd, 1) := by decide +kernel
theorem dL_law_436 : decode cL_law 436 = .ok (.iaload, 1) := by decide +kernel
theorem dL_law_437 : decode cL_law 437 = .ok (.invokevirtual 51, 3) := by decide +kernel
theorem dL_law_440 : decode cL_law 440 = .ok (.if_icmp .eq 1049, 3) := by decide +kernel
theorem dL_law_443 : decode cL_law 443 = .ok (.iconst 0, 1) := by decide +kernel
theorem dL_law_444 : decode cL_law 444 = .ok (.ireturn, 1) := by decide +kernel
theorem dL_law_445 : decode cL_law 445 = .ok (.aload_n 1, 1) := by decide +kernel
theorem dL_law_446 : decode cL_law 446 = .ok (.aload_n 0, 1) := by decide +kernel
theorem dL_law_447 : decode cL_law 447 = .ok (.iload_n 3, 1) := by decide +kernel
theorem dL_law_448 : decode cL_law 448 = .ok (.iconst 1, 1) := by decide +kernel
theorem dL_law_449 : decode cL_law 449 = .ok (.iadd, 1) := by decide +kernel
theorem dL_law_450 : decode cL_law 450 = .ok (.iaload, 1) := by decide +kernel
theorem dL_law_451 : decode cL_law 451 = .ok (.aload_n 0, 1) := by decide +kernel
theorem dL_law_452 : decode cL_law 452 = .ok (.iload_n 3, 1) := by decide +kernel
theorem dL_law_453 : decode cL_law 453 = .ok (.iconst 2, 1) := by decide +kernel
theorem dL_law_454 : decode cL_law 454 = .ok (.iadd, 1) := by decide +kernel
theorem dL_law_455 : decode cL_law 455 = .ok (.iaload, 1) := by decide +kernel
theorem dL_law_456 : decode cL_law 456 = .ok (.aload_n 0, 1) := by decide +kernel
theorem dL_law_457 : decode cL_law 457 = .ok (.iload_n 3, 1) := by decide +kernel
theorem dL_law_458 : decode cL_law 458 = .ok (.iconst 3, 1) := by decide +kernel
theorem dL_law_459 : decode cL_law 459 = .ok (.iadd, 1) := by decide +kernel
theorem dL_law_460 : decode cL_law 460 = .ok (.iaload, 1) := by decide +kernel
theorem dL_law_461 : decode cL_law 461 = .ok (.invokevirtual 52, 3) := by decide +kernel
theorem dL_law_464 : decode cL_law 464 = .ok (.aload_n 2, 1) := by decide +kernel
theorem dL_law_465 : decode cL_law 465 = .ok (.aload_n 0, 1) := by decide +kernel
theorem dL_law_466 : decode cL_law 466 = .ok (.iload_n 3, 1) := by decide +kernel
theorem dL_law_467 : decode cL_law 467 = .ok (.iconst 1, 1) := by decide +kernel
theorem dL_law_468 : decode cL_law 468 = .ok (.iadd, 1) := by decide +kernel
theorem dL_law_469 : decode cL_law 469 = .ok (.iaload, 1) := by decide +kernel
theorem dL_law_470 : decode cL_law 470 = .ok (.aload_n 0, 1) := by decide +kernel
theorem dL_law_471 : decode cL_law 471 = .ok (.iload_n 3, 1) := by decide +kernel
theorem dL_law_472 : decode cL_law 472 = .ok (.iconst 2, 1) := by decide +kernel
theorem dL_law_473 : decode cL_law 473 = .ok (.iadd, 1) := by decide +kernel
theorem dL_law_474 : decode cL_law 474 = .ok (.iaload, 1) := by decide +kernel
theorem dL_law_475 : decode cL_law 475 = .ok (.aload_n 0, 1) := by decide +kernel
theorem dL_law_476 : decode cL_law 476 = .ok (.iload_n 3, 1) := by decide +kernel
theorem dL_law_477 : decode cL_law 477 = .ok (.iconst 3, 1) := by decide +kernel
theorem dL_law_478 : decode cL_law 478 = .ok (.iadd, 1) := by decide +kernel
theorem dL_law_479 : decode cL_law 479 = .ok (.iaload, 1) := by decide +kernel
theorem dL_law_480 : decode cL_law 480 = .ok (.invokevirtual 56, 3) := by decide +kernel
theorem dL_law_483 : decode cL_law 483 = .ok (.if_icmp .eq 1006, 3) := by decide +kernel
theorem dL_law_486 : decode cL_law 486 = .ok (.iconst 0, 1) := by decide +kernel
theorem dL_law_487 : decode cL_law 487 = .ok (.ireturn, 1) := by decide +kernel
theorem dL_law_488 : decode cL_law 488 = .ok (.aload_n 1, 1) := by decide +kernel
theorem dL_law_489 : decode cL_law 489 = .ok (.aload_n 0, 1) := by decide +kernel
theorem dL_law_490 : decode cL_law 490 = .ok (.iload_n 3, 1) := by decide +kernel
theorem dL_law_491 : decode cL_law 491 = .ok (.iconst 1, 1) := by decide +kernel
theorem dL_law_492 : decode cL_law 492 = .ok (.iadd, 1) := by decide +kernel
theorem dL_law_493 : decode cL_law 493 = .ok (.iaload, 1) := by decide +kernel
theorem dL_law_494 : decode cL_law 494 = .ok (.aload_n 0, 1) := by decide +kernel
theorem dL_law_495 : decode cL_law 495 = .ok (.iload_n 3, 1) := by decide +kernel
theorem dL_law_496 : decode cL_law 496 = .ok (.iconst 2, 1) := by decide +kernel
theorem dL_law_497 : decode cL_law 497 = .ok (.iadd, 1) := by decide +kernel
theorem dL_law_498 : decode cL_law 498 = .ok (.iaload, 1) := by decide +kernel
theorem dL_law_499 : decode cL_law 499 = .ok (.aload_n 0, 1) := by decide +kernel
theorem dL_law_500 : decode cL_law 500 = .ok (.iload_n 3, 1) := by decide +kernel
theorem dL_law_501 : decode cL_law 501 = .ok (.iconst 3, 1) := by decide +kernel
theorem dL_law_502 : decode cL_law 502 = .ok (.iadd, 1) := by decide +kernel
theorem dL_law_503 : decode cL_law 503 = .ok (.iaload, 1) := by decide +kernel
theorem dL_law_504 : decode cL_law 504 = .ok (.invokevirtual 57, 3) := by decide +kernel
theorem dL_law_507 : decode cL_law 507 = .ok (.aload_n 2, 1) := by decide +kernel
theorem dL_law_508 : decode cL_law 508 = .ok (.aload_n 0, 1) := by decide +kernel
theorem dL_law_509 : decode cL_law 509 = .ok (.iload_n 3, 1) := by decide +kernel
theorem dL_law_510 : decode cL_law 510 = .ok (.iconst 1, 1) := by decide +kernel
theorem dL_law_511 : decode cL_law 511 = .ok (.iadd, 1) := by decide +kernel
theorem dL_law_512 : decode cL_law 512 = .ok (.iaload, 1) := by decide +kernel
theorem dL_law_513 : decode cL_law 513 = .ok (.aload_n 0, 1) := by decide +kernel
theorem dL_law_514 : decode cL_law 514 = .ok (.iload_n 3, 1) := by decide +kernel
theorem dL_law_515 : decode cL_law 515 = .ok (.iconst 2, 1) := by decide +kernel
theorem dL_law_516 : decode cL_law 516 = .ok (.iadd, 1) := by decide +kernel
theorem dL_law_517 : decode cL_law 517 = .ok (.iaload, 1) := by decide +kernel
theorem dL_law_518 : decode cL_law 518 = .ok (.aload_n 0, 1) := by decide +kernel
theorem dL_law_519 : decode cL_law 519 = .ok (.iload_n 3, 1) := by decide +kernel
theorem dL_law_520 : decode cL_law 520 = .ok (.iconst 3, 1) := by decide +kernel
theorem dL_law_521 : decode cL_law 521 = .ok (.iadd, 1) := by decide +kernel
theorem dL_law_522 : decode cL_law 522 = .ok (.iaload, 1) := by decide +kernel
theorem dL_law_523 : decode cL_law 523 = .ok (.invokevirtual 60, 3) := by decide +kernel
theorem dL_law_526 : decode cL_law 526 = .ok (.if_icmp .eq 963, 3) := by decide +kernel
theorem dL_law_529 : decode cL_law 529 = .ok (.iconst 0, 1) := by decide +kernel
theorem dL_law_530 : decode cL_law 530 = .ok (.ireturn, 1) := by decide +kernel
theorem dL_law_531 : decode cL_law 531 = .ok (.aload_n 1, 1) := by decide +kernel
theorem dL_law_532 : decode cL_law 532 = .ok (.aload_n 0, 1) := by decide +kernel
theorem dL_law_533 : decode cL_law 533 = .ok (.iload_n 3, 1) := by decide +kernel
theorem dL_law_534 : decode cL_law 534 = .ok (.iconst 1, 1) := by decide +kernel
theorem dL_law_535 : decode cL_law 535 = .ok (.iadd, 1) := by decide +kernel
theorem dL_law_536 : decode cL_law 536 = .ok (.iaload, 1) := by decide +kernel
theorem dL_law_537 : decode cL_law 537 = .ok (.invokevirtual 61, 3) := by decide +kernel
theorem dL_law_540 : decode cL_law 540 = .ok (.aload_n 2, 1) := by decide +kernel
theorem dL_law_541 : decode cL_law 541 = .ok (.aload_n 0, 1) := by decide +kernel
theorem dL_law_542 : decode cL_law 542 = .ok (.iload_n 3, 1) := by decide +kernel
theorem dL_law_543 : decode cL_law 543 = .ok (.iconst 1, 1) := by decide +kernel
theorem dL_law_544 : decode cL_law 544 = .ok (.iadd, 1) := by decide +kernel
theorem dL_law_545 : decode cL_law 545 = .ok (.iaload, 1) := by decide +kernel
theorem dL_law_546 : decode cL_law 546 = .ok (.invokevirtual 64, 3) := by decide +kernel
theorem dL_law_549 : decode cL_law 549 = .ok (.if_icmp .eq 940, 3) := by decide +kernel
theorem dL_law_552 : decode cL_law 552 = .ok (.iconst 0, 1) := by decide +kernel
theorem dL_law_553 : decode cL_law 553 = .ok (.ireturn, 1) := by decide +kernel
theorem dL_law_554 : decode cL_law 554 = .ok (.aload_n 1, 1) := by decide +kernel
theorem dL_law_555 : decode cL_law 555 = .ok (.aload_n 0, 1) := by decide +kernel
theorem dL_law_556 : decode cL_law 556 = .ok (.iload_n 3, 1) := by decide +kernel
theorem dL_law_557 : decode cL_law 557 = .ok (.iconst 1, 1) := by decide +kernel
theorem dL_law_558 : decode cL_law 558 = .ok (.iadd, 1) := by decide +kernel
theorem dL_law_559 : decode cL_law 559 = .ok (.iaload, 1) := by decide +kernel
theorem dL_law_560 : decode cL_law 560 = .ok (.aload_n 0, 1) := by decide +kernel
theorem dL_law_561 : decode cL_law 561 = .ok (.iload_n 3, 1) := by decide +kernel
theorem dL_law_562 : decode cL_law 562 = .ok (.iconst 2, 1) := by decide +kernel
theorem dL_law_563 : decode cL_law 563 = .ok (.iadd, 1) := by decide +kernel
theorem dL_law_564 : decode cL_law 564 = .ok (.iaload, 1) := by decide +kernel
theorem dL_law_565 : decode cL_law 565 = .ok (.aload_n 0, 1) := by decide +kernel
theorem dL_law_566 : decode cL_law 566 = .ok (.iload_n 3, 1) := by decide +kernel
theorem dL_law_567 : decode cL_law 567 = .ok (.iconst 3, 1) := by decide +kernel
theorem dL_law_568 : decode cL_law 568 = .ok (.iadd, 1) := by decide +kernel
theorem dL_law_569 : decode cL_law 569 = .ok (.iaload, 1) := by decide +kernel
theorem dL_law_570 : decode cL_law 570 = .ok (.aload_n 0, 1) := by decide +kernel
theorem dL_law_571 : decode cL_law 571 = .ok (.iload_n 3, 1) := by decide +kernel
theorem dL_law_572 : decode cL_law 572 = .ok (.iconst 4, 1) := by decide +kernel
theorem dL_law_573 : decode cL_law 573 = .ok (.iadd, 1) := by decide +kernel
theorem dL_law_574 : decode cL_law 574 = .ok (.iaload, 1) := by decide +kernel
theorem dL_law_575 : decode cL_law 575 = .ok (.invokevirtual 65, 3) := by decide +kernel
theorem dL_law_578 : decode cL_law 578 = .ok (.aload_n 2, 1) := by decide +kernel
theorem dL_law_579 : decode cL_law 579 = .ok (.aload_n 0, 1) := by decide +kernel
theorem dL_law_580 : decode cL_law 580 = .ok (.iload_n 3, 1) := by decide +kernel
theorem dL_law_581 : decode cL_law 581 = .ok (.iconst 1, 1) := by decide +kernel
theorem dL_law_582 : decode cL_law 582 = .ok (.iadd, 1) := by decide +kernel
theorem dL_law_583 : decode cL_law 583 = .ok (.iaload, 1) := by decide +kernel
theorem dL_law_584 : decode cL_law 584 = .ok (.aload_n 0, 1) := by decide +kernel
theorem dL_law_585 : decode cL_law 585 = .ok (.iload_n 3, 1) := by decide +kernel
theorem dL_law_586 : decode cL_law 586 = .ok (.iconst 2, 1) := by decide +kernel
theorem dL_law_587 : decode cL_law 587 = .ok (.iadd, 1) := by decide +kernel
theorem dL_law_588 : decode cL_law 588 = .ok (.iaload, 1) := by decide +kernel
theorem dL_law_589 : decode cL_law 589 = .ok (.aload_n 0, 1) := by decide +kernel
theorem dL_law_590 : decode cL_law 590 = .ok (.iload_n 3, 1) := by decide +kernel
theorem dL_law_591 : decode cL_law 591 = .ok (.iconst 3, 1) := by decide +kernel
theorem dL_law_592 : decode cL_law 592 = .ok (.iadd, 1) := by decide +kernel
theorem dL_law_593 : decode cL_law 593 = .ok (.iaload, 1) := by decide +kernel
theorem dL_law_594 : decode cL_law 594 = .ok (.aload_n 0, 1) := by decide +kernel
theorem dL_law_595 : decode cL_law 595 = .ok (.iload_n 3, 1) := by decide +kernel
theorem dL_law_596 : decode cL_law 596 = .ok (.iconst 4, 1) := by decide +kernel
theorem dL_law_597 : decode cL_law 597 = .ok (.iadd, 1) := by decide +kernel
theorem dL_law_598 : decode cL_law 598 = .ok (.iaload, 1) := by decide +kernel
theorem dL_law_599 : decode cL_law 599 = .ok (.invokevirtual 69, 3) := by decide +kernel
theorem dL_law_602 : decode cL_law 602 = .ok (.if_icmp .eq 887, 3) := by decide +kernel
theorem dL_law_605 : decode cL_law 605 = .ok (.iconst 0, 1) := by decide +kernel
theorem dL_law_606 : decode cL_law 606 = .ok (.ireturn, 1) := by decide +kernel
theorem dL_law_607 : decode cL_law 607 = .ok (.aload_n 1, 1) := by decide +kernel
theorem dL_law_608 : decode cL_law 608 = .ok (.aload_n 0, 1) := by decide +kernel
theorem dL_law_609 : decode cL_law 609 = .ok (.iload_n 3, 1) := by decide +kernel
theorem dL_law_610 : decode cL_law 610 = .ok (.iconst 1, 1) := by decide +kernel
theorem dL_law_611 : decode cL_law 611 = .ok (.iadd, 1) := by decide +kernel
theorem dL_law_612 : decode cL_law 612 = .ok (.iaload, 1) := by decide +kernel
theorem dL_law_613 : decode cL_law 613 = .ok (.aload_n 0, 1) := by decide +kernel
theorem dL_law_614 : decode cL_law 614 = .ok (.iload_n 3, 1) := by decide +kernel
theorem dL_law_615 : decode cL_law 615 = .ok (.iconst 2, 1) := by decide +kernel
theorem dL_law_616 : decode cL_law 616 = .ok (.iadd, 1) := by decide +kernel
theorem dL_law_617 : decode cL_law 617 = .ok (.iaload, 1) := by decide +kernel
theorem dL_law_618 : decode cL_law 618 = .ok (.aload_n 0, 1) := by decide +kernel
theorem dL_law_619 : decode cL_law 619 = .ok (.iload_n 3, 1) := by decide +kernel
theorem dL_law_620 : decode cL_law 620 = .ok (.iconst 3, 1) := by decide +kernel
theorem dL_law_621 : decode cL_law 621 = .ok (.iadd, 1) := by decide +kernel
theorem dL_law_622 : decode cL_law 622 = .ok (.iaload, 1) := by decide +kernel
theorem dL_law_623 : decode cL_law 623 = .ok (.aload_n 0, 1) := by decide +kernel
theorem dL_law_624 : decode cL_law 624 = .ok (.iload_n 3, 1) := by decide +kernel
theorem dL_law_625 : decode cL_law 625 = .ok (.iconst 4, 1) := by decide +kernel
theorem dL_law_626 : decode cL_law 626 = .ok (.iadd, 1) := by decide +kernel
theorem dL_law_627 : decode cL_law 627 = .ok (.iaload, 1) := by decide +kernel
theorem dL_law_628 : decode cL_law 628 = .ok (.invokevirtual 70, 3) := by decide +kernel
theorem dL_law_631 : decode cL_law 631 = .ok (.aload_n 2, 1) := by decide +kernel
theorem dL_law_632 : decode cL_law 632 = .ok (.aload_n 0, 1) := by decide +kernel
theorem dL_law_633 : decode cL_law 633 = .ok (.iload_n 3, 1) := by decide +kernel
theorem dL_law_634 : decode cL_law 634 = .ok (.iconst 1, 1) := by decide +kernel
theorem dL_law_635 : decode cL_law 635 = .ok (.iadd, 1) := by decide +kernel
theorem dL_law_636 : decode cL_law 636 = .ok (.iaload, 1) := by decide +kernel
theorem dL_law_637 : decode cL_law 637 = .ok (.aload_n 0, 1) := by decide +kernel
theorem dL_law_638 : decode cL_law 638 = .ok (.iload_n 3, 1) := by decide +kernel
theorem dL_law_639 : decode cL_law 639 = .ok (.iconst 2, 1) := by decide +kernel
theorem dL_law_640 : decode cL_law 640 = .ok (.iadd, 1) := by decide +kernel
theorem dL_law_641 : decode cL_law 641 = .ok (.iaload, 1) := by decide +kernel
theorem dL_law_642 : decode cL_law 642 = .ok (.aload_n 0, 1) := by decide +kernel
theorem dL_law_643 : decode cL_law 643 = .ok (.iload_n 3, 1) := by decide +kernel
theorem dL_law_644 : decode cL_law 644 = .ok (.iconst 3, 1) := by decide +kernel
theorem dL_law_645 : decode cL_law 645 = .ok (.iadd, 1) := by decide +kernel
end
section
theorem dL_law_646 : decode cL_law 646 = .ok (.iaload, 1) := by decide +kernel
theorem dL_law_647 : decode cL_law 647 = .ok (.aload_n 0, 1) := by decide +kernel
theorem dL_law_648 : decode cL_law 648 = .ok (.iload_n 3, 1) := by decide +kernel
theorem dL_law_649 : decode cL_law 649 = .ok (.iconst 4, 1) := by decide +kernel
theorem dL_law_650 : decode cL_law 650 = .ok (.iadd, 1) := by decide +kernel
theorem dL_law_651 : decode cL_law 651 = .ok (.iaload, 1) := by decide +kernel
theorem dL_law_652 : decode cL_law 652 = .ok (.invokevirtual 73, 3) := by decide +kernel
theorem dL_law_655 : decode cL_law 655 = .ok (.if_icmp .eq 834, 3) := by decide +kernel
theorem dL_law_658 : decode cL_law 658 = .ok (.iconst 0, 1) := by decide +kernel
theorem dL_law_659 : decode cL_law 659 = .ok (.ireturn, 1) := by decide +kernel
theorem dL_law_660 : decode cL_law 660 = .ok (.aload_n 1, 1) := by decide +kernel
theorem dL_law_661 : decode cL_law 661 = .ok (.aload_n 0, 1) := by decide +kernel
theorem dL_law_662 : decode cL_law 662 = .ok (.iload_n 3, 1) := by decide +kernel
theorem dL_law_663 : decode cL_law 663 = .ok (.iconst 1, 1) := by decide +kernel
theorem dL_law_664 : decode cL_law 664 = .ok (.iadd, 1) := by decide +kernel
theorem dL_law_665 : decode cL_law 665 = .ok (.iaload, 1) := by decide +kernel
theorem dL_law_666 : decode cL_law 666 = .ok (.aload_n 0, 1) := by decide +kernel
theorem dL_law_667 : decode cL_law 667 = .ok (.iload_n 3, 1) := by decide +kernel
theorem dL_law_668 : decode cL_law 668 = .ok (.iconst 2, 1) := by decide +kernel
theorem dL_law_669 : decode cL_law 669 = .ok (.iadd, 1) := by decide +kernel
theorem dL_law_670 : decode cL_law 670 = .ok (.iaload, 1) := by decide +kernel
theorem dL_law_671 : decode cL_law 671 = .ok (.aload_n 0, 1) := by decide +kernel
theorem dL_law_672 : decode cL_law 672 = .ok (.iload_n 3, 1) := by decide +kernel
theorem dL_law_673 : decode cL_law 673 = .ok (.iconst 3, 1) := by decide +kernel
theorem dL_law_674 : decode cL_law 674 = .ok (.iadd, 1) := by decide +kernel
theorem dL_law_675 : decode cL_law 675 = .ok (.iaload, 1) := by decide +kernel
theorem dL_law_676 : decode cL_law 676 = .ok (.aload_n 0, 1) := by decide +kernel
theorem dL_law_677 : decode cL_law 677 = .ok (.iload_n 3, 1) := by decide +kernel
theorem dL_law_678 : decode cL_law 678 = .ok (.iconst 4, 1) := by decide +kernel
theorem dL_law_679 : decode cL_law 679 = .ok (.iadd, 1) := by decide +kernel
theorem dL_law_680 : decode cL_law 680 = .ok (.iaload, 1) := by decide +kernel
theorem dL_law_681 : decode cL_law 681 = .ok (.invokevirtual 74, 3) := by decide +kernel
theorem dL_law_684 : decode cL_law 684 = .ok (.aload_n 2, 1) := by decide +kernel
theorem dL_law_685 : decode cL_law 685 = .ok (.aload_n 0, 1) := by decide +kernel
theorem dL_law_686 : decode cL_law 686 = .ok (.iload_n 3, 1) := by decide +kernel
theorem dL_law_687 : decode cL_law 687 = .ok (.iconst 1, 1) := by decide +kernel
theorem dL_law_688 : decode cL_law 688 = .ok (.iadd, 1) := by decide +kernel
theorem dL_law_689 : decode cL_law 689 = .ok (.iaload, 1) := by decide +kernel
theorem dL_law_690 : decode cL_law 690 = .ok (.aload_n 0, 1) := by decide +kernel
theorem dL_law_691 : decode cL_law 691 = .ok (.iload_n 3, 1) := by decide +kernel
theorem dL_law_692 : decode cL_law 692 = .ok (.iconst 2, 1) := by decide +kernel
theorem dL_law_693 : decode cL_law 693 = .ok (.iadd, 1) := by decide +kernel
theorem dL_law_694 : decode cL_law 694 = .ok (.iaload, 1) := by decide +kernel
theorem dL_law_695 : decode cL_law 695 = .ok (.aload_n 0, 1) := by decide +kernel
theorem dL_law_696 : decode cL_law 696 = .ok (.iload_n 3, 1) := by decide +kernel
theorem dL_law_697 : decode cL_law 697 = .ok (.iconst 3, 1) := by decide +kernel
theorem dL_law_698 : decode cL_law 698 = .ok (.iadd, 1) := by decide +kernel
theorem dL_law_699 : decode cL_law 699 = .ok (.iaload, 1) := by decide +kernel
theorem dL_law_700 : decode cL_law 700 = .ok (.aload_n 0, 1) := by decide +kernel
theorem dL_law_701 : decode cL_law 701 = .ok (.iload_n 3, 1) := by decide +kernel
theorem dL_law_702 : decode cL_law 702 = .ok (.iconst 4, 1) := by decide +kernel
theorem dL_law_703 : decode cL_law 703 = .ok (.iadd, 1) := by decide +kernel
theorem dL_law_704 : decode cL_law 704 = .ok (.iaload, 1) := by decide +kernel
theorem dL_law_705 : decode cL_law 705 = .ok (.invokevirtual 77, 3) := by decide +kernel
theorem dL_law_708 : decode cL_law 708 = .ok (.if_icmp .eq 781, 3) := by decide +kernel
theorem dL_law_711 : decode cL_law 711 = .ok (.iconst 0, 1) := by decide +kernel
theorem dL_law_712 : decode cL_law 712 = .ok (.ireturn, 1) := by decide +kernel
theorem dL_law_713 : decode cL_law 713 = .ok (.aload_n 1, 1) := by decide +kernel
theorem dL_law_714 : decode cL_law 714 = .ok (.aload_n 0, 1) := by decide +kernel
theorem dL_law_715 : decode cL_law 715 = .ok (.iload_n 3, 1) := by decide +kernel
theorem dL_law_716 : decode cL_law 716 = .ok (.iconst 1, 1) := by decide +kernel
theorem dL_law_717 : decode cL_law 717 = .ok (.iadd, 1) := by decide +kernel
theorem dL_law_718 : decode cL_law 718 = .ok (.iaload, 1) := by decide +kernel
theorem dL_law_719 : decode cL_law 719 = .ok (.aload_n 0, 1) := by decide +kernel
theorem dL_law_720 : decode cL_law 720 = .ok (.iload_n 3, 1) := by decide +kernel
theorem dL_law_721 : decode cL_law 721 = .ok (.iconst 2, 1) := by decide +kernel
theorem dL_law_722 : decode cL_law 722 = .ok (.iadd, 1) := by decide +kernel
theorem dL_law_723 : decode cL_law 723 = .ok (.iaload, 1) := by decide +kernel
theorem dL_law_724 : decode cL_law 724 = .ok (.aload_n 0, 1) := by decide +kernel
theorem dL_law_725 : decode cL_law 725 = .ok (.iload_n 3, 1) := by decide +kernel
theorem dL_law_726 : decode cL_law 726 = .ok (.iconst 3, 1) := by decide +kernel
theorem dL_law_727 : decode cL_law 727 = .ok (.iadd, 1) := by decide +kernel
theorem dL_law_728 : decode cL_law 728 = .ok (.iaload, 1) := by decide +kernel
theorem dL_law_729 : decode cL_law 729 = .ok (.invokevirtual 78, 3) := by decide +kernel
theorem dL_law_732 : decode cL_law 732 = .ok (.aload_n 2, 1) := by decide +kernel
theorem dL_law_733 : decode cL_law 733 = .ok (.aload_n 0, 1) := by decide +kernel
theorem dL_law_734 : decode cL_law 734 = .ok (.iload_n 3, 1) := by decide +kernel
theorem dL_law_735 : decode cL_law 735 = .ok (.iconst 1, 1) := by decide +kernel
theorem dL_law_736 : decode cL_law 736 = .ok (.iadd, 1) := by decide +kernel
theorem dL_law_737 : decode cL_law 737 = .ok (.iaload, 1) := by decide +kernel
theorem dL_law_738 : decode cL_law 738 = .ok (.aload_n 0, 1) := by decide +kernel
theorem dL_law_739 : decode cL_law 739 = .ok (.iload_n 3, 1) := by decide +kernel
theorem dL_law_740 : decode cL_law 740 = .ok (.iconst 2, 1) := by decide +kernel
theorem dL_law_741 : decode cL_law 741 = .ok (.iadd, 1) := by decide +kernel
theorem dL_law_742 : decode cL_law 742 = .ok (.iaload, 1) := by decide +kernel
theorem dL_law_743 : decode cL_law 743 = .ok (.aload_n 0, 1) := by decide +kernel
theorem dL_law_744 : decode cL_law 744 = .ok (.iload_n 3, 1) := by decide +kernel
theorem dL_law_745 : decode cL_law 745 = .ok (.iconst 3, 1) := by decide +kernel
theorem dL_law_746 : decode cL_law 746 = .ok (.iadd, 1) := by decide +kernel
theorem dL_law_747 : decode cL_law 747 = .ok (.iaload, 1) := by decide +kernel
theorem dL_law_748 : decode cL_law 748 = .ok (.invokevirtual 81, 3) := by decide +kernel
theorem dL_law_751 : decode cL_law 751 = .ok (.if_icmp .eq 738, 3) := by decide +kernel
theorem dL_law_754 : decode cL_law 754 = .ok (.iconst 0, 1) := by decide +kernel
theorem dL_law_755 : decode cL_law 755 = .ok (.ireturn, 1) := by decide +kernel
theorem dL_law_756 : decode cL_law 756 = .ok (.aload_n 1, 1) := by decide +kernel
theorem dL_law_757 : decode cL_law 757 = .ok (.aload_n 0, 1) := by decide +kernel
theorem dL_law_758 : decode cL_law 758 = .ok (.iload_n 3, 1) := by decide +kernel
theorem dL_law_759 : decode cL_law 759 = .ok (.iconst 1, 1) := by decide +kernel
theorem dL_law_760 : decode cL_law 760 = .ok (.iadd, 1) := by decide +kernel
theorem dL_law_761 : decode cL_law 761 = .ok (.iaload, 1) := by decide +kernel
theorem dL_law_762 : decode cL_law 762 = .ok (.aload_n 0, 1) := by decide +kernel
theorem dL_law_763 : decode cL_law 763 = .ok (.iload_n 3, 1) := by decide +kernel
theorem dL_law_764 : decode cL_law 764 = .ok (.iconst 2, 1) := by decide +kernel
theorem dL_law_765 : decode cL_law 765 = .ok (.iadd, 1) := by decide +kernel
theorem dL_law_766 : decode cL_law 766 = .ok (.iaload, 1) := by decide +kernel
theorem dL_law_767 : decode cL_law 767 = .ok (.invokevirtual 82, 3) := by decide +kernel
theorem dL_law_770 : decode cL_law 770 = .ok (.aload_n 2, 1) := by decide +kernel
theorem dL_law_771 : decode cL_law 771 = .ok (.aload_n 0, 1) := by decide +kernel
theorem dL_law_772 : decode cL_law 772 = .ok (.iload_n 3, 1) := by decide +kernel
theorem dL_law_773 : decode cL_law 773 = .ok (.iconst 1, 1) := by decide +kernel
theorem dL_law_774 : decode cL_law 774 = .ok (.iadd, 1) := by decide +kernel
theorem dL_law_775 : decode cL_law 775 = .ok (.iaload, 1) := by decide +kernel
theorem dL_law_776 : decode cL_law 776 = .ok (.aload_n 0, 1) := by decide +kernel
theorem dL_law_777 : decode cL_law 777 = .ok (.iload_n 3, 1) := by decide +kernel
theorem dL_law_778 : decode cL_law 778 = .ok (.iconst 2, 1) := by decide +kernel
theorem dL_law_779 : decode cL_law 779 = .ok (.iadd, 1) := by decide +kernel
theorem dL_law_780 : decode cL_law 780 = .ok (.iaload, 1) := by decide +kernel
theorem dL_law_781 : decode cL_law 781 = .ok (.invokevirtual 85, 3) := by decide +kernel
theorem dL_law_784 : decode cL_law 784 = .ok (.if_icmp .eq 705, 3) := by decide +kernel
theorem dL_law_787 : decode cL_law 787 = .ok (.iconst 0, 1) := by decide +kernel
theorem dL_law_788 : decode cL_law 788 = .ok (.ireturn, 1) := by decide +kernel
theorem dL_law_789 : decode cL_law 789 = .ok (.aload_n 1, 1) := by decide +kernel
theorem dL_law_790 : decode cL_law 790 = .ok (.aload_n 0, 1) := by decide +kernel
theorem dL_law_791 : decode cL_law 791 = .ok (.iload_n 3, 1) := by decide +kernel
theorem dL_law_792 : decode cL_law 792 = .ok (.iconst 1, 1) := by decide +kernel
theorem dL_law_793 : decode cL_law 793 = .ok (.iadd, 1) := by decide +kernel
theorem dL_law_794 : decode cL_law 794 = .ok (.iaload, 1) := by decide +kernel
theorem dL_law_795 : decode cL_law 795 = .ok (.invokevirtual 86, 3) := by decide +kernel
theorem dL_law_798 : decode cL_law 798 = .ok (.aload_n 2, 1) := by decide +kernel
theorem dL_law_799 : decode cL_law 799 = .ok (.aload_n 0, 1) := by decide +kernel
theorem dL_law_800 : decode cL_law 800 = .ok (.iload_n 3, 1) := by decide +kernel
theorem dL_law_801 : decode cL_law 801 = .ok (.iconst 1, 1) := by decide +kernel
theorem dL_law_802 : decode cL_law 802 = .ok (.iadd, 1) := by decide +kernel
theorem dL_law_803 : decode cL_law 803 = .ok (.iaload, 1) := by decide +kernel
theorem dL_law_804 : decode cL_law 804 = .ok (.invokevirtual 89, 3) := by decide +kernel
theorem dL_law_807 : decode cL_law 807 = .ok (.if_icmp .eq 682, 3) := by decide +kernel
theorem dL_law_810 : decode cL_law 810 = .ok (.iconst 0, 1) := by decide +kernel
theorem dL_law_811 : decode cL_law 811 = .ok (.ireturn, 1) := by decide +kernel
theorem dL_law_812 : decode cL_law 812 = .ok (.aload_n 1, 1) := by decide +kernel
theorem dL_law_813 : decode cL_law 813 = .ok (.aload_n 0, 1) := by decide +kernel
theorem dL_law_814 : decode cL_law 814 = .ok (.iload_n 3, 1) := by decide +kernel
theorem dL_law_815 : decode cL_law 815 = .ok (.iconst 1, 1) := by decide +kernel
theorem dL_law_816 : decode cL_law 816 = .ok (.iadd, 1) := by decide +kernel
theorem dL_law_817 : decode cL_law 817 = .ok (.iaload, 1) := by decide +kernel
theorem dL_law_818 : decode cL_law 818 = .ok (.invokevirtual 90, 3) := by decide +kernel
theorem dL_law_821 : decode cL_law 821 = .ok (.aload_n 2, 1) := by decide +kernel
theorem dL_law_822 : decode cL_law 822 = .ok (.aload_n 0, 1) := by decide +kernel
theorem dL_law_823 : decode cL_law 823 = .ok (.iload_n 3, 1) := by decide +kernel
theorem dL_law_824 : decode cL_law 824 = .ok (.iconst 1, 1) := by decide +kernel
theorem dL_law_825 : decode cL_law 825 = .ok (.iadd, 1) := by decide +kernel
theorem dL_law_826 : decode cL_law 826 = .ok (.iaload, 1) := by decide +kernel
theorem dL_law_827 : decode cL_law 827 = .ok (.invokevirtual 93, 3) := by decide +kernel
theorem dL_law_830 : decode cL_law 830 = .ok (.if_icmp .eq 659, 3) := by decide +kernel
theorem dL_law_833 : decode cL_law 833 = .ok (.iconst 0, 1) := by decide +kernel
theorem dL_law_834 : decode cL_law 834 = .ok (.ireturn, 1) := by decide +kernel
theorem dL_law_835 : decode cL_law 835 = .ok (.aload_n 1, 1) := by decide +kernel
theorem dL_law_836 : decode cL_law 836 = .ok (.aload_n 0, 1) := by decide +kernel
theorem dL_law_837 : decode cL_law 837 = .ok (.iload_n 3, 1) := by decide +kernel
theorem dL_law_838 : decode cL_law 838 = .ok (.iconst 1, 1) := by decide +kernel
theorem dL_law_839 : decode cL_law 839 = .ok (.iadd, 1) := by decide +kernel
theorem dL_law_840 : decode cL_law 840 = .ok (.iaload, 1) := by decide +kernel
theorem dL_law_841 : decode cL_law 841 = .ok (.invokevirtual 94, 3) := by decide +kernel
theorem dL_law_844 : decode cL_law 844 = .ok (.aload_n 2, 1) := by decide +kernel
theorem dL_law_845 : decode cL_law 845 = .ok (.aload_n 0, 1) := by decide +kernel
theorem dL_law_846 : decode cL_law 846 = .ok (.iload_n 3, 1) := by decide +kernel
theorem dL_law_847 : decode cL_law 847 = .ok (.iconst 1, 1) := by decide +kernel
theorem dL_law_848 : decode cL_law 848 = .ok (.iadd, 1) := by decide +kernel
theorem dL_law_849 : decode cL_law 849 = .ok (.iaload, 1) := by decide +kernel
theorem dL_law_850 : decode cL_law 850 = .ok (.invokevirtual 97, 3) := by decide +kernel
theorem dL_law_853 : decode cL_law 853 = .ok (.if_icmp .eq 636, 3) := by decide +kernel
theorem dL_law_856 : decode cL_law 856 = .ok (.iconst 0, 1) := by decide +kernel
theorem dL_law_857 : decode cL_law 857 = .ok (.ireturn, 1) := by decide +kernel
theorem dL_law_858 : decode cL_law 858 = .ok (.aload_n 1, 1) := by decide +kernel
theorem dL_law_859 : decode cL_law 859 = .ok (.aload_n 0, 1) := by decide +kernel
theorem dL_law_860 : decode cL_law 860 = .ok (.iload_n 3, 1) := by decide +kernel
theorem dL_law_861 : decode cL_law 861 = .ok (.iconst 1, 1) := by decide +kernel
theorem dL_law_862 : decode cL_law 862 = .ok (.iadd, 1) := by decide +kernel
theorem dL_law_863 : decode cL_law 863 = .ok (.iaload, 1) := by decide +kernel
theorem dL_law_864 : decode cL_law 864 = .ok (.invokevirtual 98, 3) := by decide +kernel
theorem dL_law_867 : decode cL_law 867 = .ok (.aload_n 2, 1) := by decide +kernel
theorem dL_law_868 : decode cL_law 868 = .ok (.aload_n 0, 1) := by decide +kernel
theorem dL_law_869 : decode cL_law 869 = .ok (.iload_n 3, 1) := by decide +kernel
theorem dL_law_870 : decode cL_law 870 = .ok (.iconst 1, 1) := by decide +kernel
theorem dL_law_871 : decode cL_law 871 = .ok (.iadd, 1) := by decide +kernel
theorem dL_law_872 : decode cL_law 872 = .ok (.iaload, 1) := by decide +kernel
theorem dL_law_873 : decode cL_law 873 = .ok (.invokevirtual 101, 3) := by decide +kernel
theorem dL_law_876 : decode cL_law 876 = .ok (.if_icmp .eq 613, 3) := by decide +kernel
theorem dL_law_879 : decode cL_law 879 = .ok (.iconst 0, 1) := by decide +kernel
theorem dL_law_880 : decode cL_law 880 = .ok (.ireturn, 1) := by decide +kernel
theorem dL_law_881 : decode cL_law 881 = .ok (.aload_n 1, 1) := by decide +kernel
theorem dL_law_882 : decode cL_law 882 = .ok (.aload_n 0, 1) := by decide +kernel
theorem dL_law_883 : decode cL_law 883 = .ok (.iload_n 3, 1) := by decide +kernel
theorem dL_law_884 : decode cL_law 884 = .ok (.iconst 1, 1) := by decide +kernel
theorem dL_law_885 : decode cL_law 885 = .ok (.iadd, 1) := by decide +kernel
theorem dL_law_886 : decode cL_law 886 = .ok (.iaload, 1) := by decide +kernel
theorem dL_law_887 : decode cL_law 887 = .ok (.aload_n 0, 1) := by decide +kernel
theorem dL_law_888 : decode cL_law 888 = .ok (.iload_n 3, 1) := by decide +kernel
theorem dL_law_889 : decode cL_law 889 = .ok (.iconst 2, 1) := by decide +kernel
theorem dL_law_890 : decode cL_law 890 = .ok (.iadd, 1) := by decide +kernel
theorem dL_law_891 : decode cL_law 891 = .ok (.iaload, 1) := by decide +kernel
theorem dL_law_892 : decode cL_law 892 = .ok (.invokevirtual 102, 3) := by decide +kernel
theorem dL_law_895 : decode cL_law 895 = .ok (.aload_n 2, 1) := by decide +kernel
theorem dL_law_896 : decode cL_law 896 = .ok (.aload_n 0, 1) := by decide +kernel
theorem dL_law_897 : decode cL_law 897 = .ok (.iload_n 3, 1) := by decide +kernel
theorem dL_law_898 : decode cL_law 898 = .ok (.iconst 1, 1) := by decide +kernel
theorem dL_law_899 : decode cL_law 899 = .ok (.iadd, 1) := by decide +kernel
theorem dL_law_900 : decode cL_law 900 = .ok (.iaload, 1) := by decide +kernel
theorem dL_law_901 : decode cL_law 901 = .ok (.aload_n 0, 1) := by decide +kernel
theorem dL_law_902 : decode cL_law 902 = .ok (.iload_n 3, 1) := by decide +kernel
theorem dL_law_903 : decode cL_law 903 = .ok (.iconst 2, 1) := by decide +kernel
theorem dL_law_904 : decode cL_law 904 = .ok (.iadd, 1) := by decide +kernel
theorem dL_law_905 : decode cL_law 905 = .ok (.iaload, 1) := by decide +kernel
theorem dL_law_906 : decode cL_law 906 = .ok (.invokevirtual 105, 3) := by decide +kernel
theorem dL_law_909 : decode cL_law 909 = .ok (.if_icmp .eq 580, 3) := by decide +kernel
theorem dL_law_912 : decode cL_law 912 = .ok (.iconst 0, 1) := by decide +kernel
theorem dL_law_913 : decode cL_law 913 = .ok (.ireturn, 1) := by decide +kernel
theorem dL_law_914 : decode cL_law 914 = .ok (.aload_n 1, 1) := by decide +kernel
theorem dL_law_915 : decode cL_law 915 = .ok (.invokevirtual 106, 3) := by decide +kernel
theorem dL_law_918 : decode cL_law 918 = .ok (.aload_n 2, 1) := by decide +kernel
theorem dL_law_919 : decode cL_law 919 = .ok (.invokevirtual 109, 3) := by decide +kernel
theorem dL_law_922 : decode cL_law 922 = .ok (.if_icmp .eq 567, 3) := by decide +kernel
theorem dL_law_925 : decode cL_law 925 = .ok (.iconst 0, 1) := by decide +kernel
theorem dL_law_926 : decode cL_law 926 = .ok (.ireturn, 1) := by decide +kernel
theorem dL_law_927 : decode cL_law 927 = .ok (.aload_n 1, 1) := by decide +kernel
theorem dL_law_928 : decode cL_law 928 = .ok (.aload_n 0, 1) := by decide +kernel
theorem dL_law_929 : decode cL_law 929 = .ok (.iload_n 3, 1) := by decide +kernel
theorem dL_law_930 : decode cL_law 930 = .ok (.iconst 1, 1) := by decide +kernel
theorem dL_law_931 : decode cL_law 931 = .ok (.iadd, 1) := by decide +kernel
theorem dL_law_932 : decode cL_law 932 = .ok (.iaload, 1) := by decide +kernel
theorem dL_law_933 : decode cL_law 933 = .ok (.aload_n 0, 1) := by decide +kernel
theorem dL_law_934 : decode cL_law 934 = .ok (.iload_n 3, 1) := by decide +kernel
theorem dL_law_935 : decode cL_law 935 = .ok (.iconst 2, 1) := by decide +kernel
theorem dL_law_936 : decode cL_law 936 = .ok (.iadd, 1) := by decide +kernel
theorem dL_law_937 : decode cL_law 937 = .ok (.iaload, 1) := by decide +kernel
theorem dL_law_938 : decode cL_law 938 = .ok (.invokevirtual 110, 3) := by decide +kernel
theorem dL_law_941 : decode cL_law 941 = .ok (.aload_n 2, 1) := by decide +kernel
theorem dL_law_942 : decode cL_law 942 = .ok (.aload_n 0, 1) := by decide +kernel
theorem dL_law_943 : decode cL_law 943 = .ok (.iload_n 3, 1) := by decide +kernel
theorem dL_law_944 : decode cL_law 944 = .ok (.iconst 1, 1) := by decide +kernel
theorem dL_law_945 : decode cL_law 945 = .ok (.iadd, 1) := by decide +kernel
theorem dL_law_946 : decode cL_law 946 = .ok (.iaload, 1) := by decide +kernel
theorem dL_law_947 : decode cL_law 947 = .ok (.aload_n 0, 1) := by decide +kernel
theorem dL_law_948 : decode cL_law 948 = .ok (.iload_n 3, 1) := by decide +kernel
theorem dL_law_949 : decode cL_law 949 = .ok (.iconst 2, 1) := by decide +kernel
theorem dL_law_950 : decode cL_law 950 = .ok (.iadd, 1) := by decide +kernel
theorem dL_law_951 : decode cL_law 951 = .ok (.iaload, 1) := by decide +kernel
theorem dL_law_952 : decode cL_law 952 = .ok (.invokevirtual 113, 3) := by decide +kernel
theorem dL_law_955 : decode cL_law 955 = .ok (.if_icmp .eq 534, 3) := by decide +kernel
theorem dL_law_958 : decode cL_law 958 = .ok (.iconst 0, 1) := by decide +kernel
theorem dL_law_959 : decode cL_law 959 = .ok (.ireturn, 1) := by decide +kernel
theorem dL_law_960 : decode cL_law 960 = .ok (.aload_n 1, 1) := by decide +kernel
theorem dL_law_961 : decode cL_law 961 = .ok (.invokevirtual 114, 3) := by decide +kernel
theorem dL_law_964 : decode cL_law 964 = .ok (.aload_n 2, 1) := by decide +kernel
theorem dL_law_965 : decode cL_law 965 = .ok (.invokevirtual 117, 3) := by decide +kernel
theorem dL_law_968 : decode cL_law 968 = .ok (.if_icmp .eq 521, 3) := by decide +kernel
theorem dL_law_971 : decode cL_law 971 = .ok (.iconst 0, 1) := by decide +kernel
theorem dL_law_972 : decode cL_law 972 = .ok (.ireturn, 1) := by decide +kernel
theorem dL_law_973 : decode cL_law 973 = .ok (.aload_n 1, 1) := by decide +kernel
theorem dL_law_974 : decode cL_law 974 = .ok (.aload_n 0, 1) := by decide +kernel
theorem dL_law_975 : decode cL_law 975 = .ok (.iload_n 3, 1) := by decide +kernel
theorem dL_law_976 : decode cL_law 976 = .ok (.iconst 1, 1) := by decide +kernel
theorem dL_law_977 : decode cL_law 977 = .ok (.iadd, 1) := by decide +kernel
theorem dL_law_978 : decode cL_law 978 = .ok (.iaload, 1) := by decide +kernel
theorem dL_law_979 : decode cL_law 979 = .ok (.aload_n 0, 1) := by decide +kernel
theorem dL_law_980 : decode cL_law 980 = .ok (.iload_n 3, 1) := by decide +kernel
theorem dL_law_981 : decode cL_law 981 = .ok (.iconst 2, 1) := by decide +kernel
theorem dL_law_982 : decode cL_law 982 = .ok (.iadd, 1) := by decide +kernel
theorem dL_law_983 : decode cL_law 983 = .ok (.iaload, 1) := by decide +kernel
theorem dL_law_984 : decode cL_law 984 = .ok (.invokevirtual 118, 3) := by decide +kernel
theorem dL_law_987 : decode cL_law 987 = .ok (.aload_n 2, 1) := by decide +kernel
theorem dL_law_988 : decode cL_law 988 = .ok (.aload_n 0, 1) := by decide +kernel
theorem dL_law_989 : decode cL_law 989 = .ok (.iload_n 3, 1) := by decide +kernel
theorem dL_law_990 : decode cL_law 990 = .ok (.iconst 1, 1) := by decide +kernel
theorem dL_law_991 : decode cL_law 991 = .ok (.iadd, 1) := by decide +kernel
theorem dL_law_992 : decode cL_law 992 = .ok (.iaload, 1) := by decide +kernel
theorem dL_law_993 : decode cL_law 993 = .ok (.aload_n 0, 1) := by decide +kernel
theorem dL_law_994 : decode cL_law 994 = .ok (.iload_n 3, 1) := by decide +kernel
theorem dL_law_995 : decode cL_law 995 = .ok (.iconst 2, 1) := by decide +kernel
theorem dL_law_996 : decode cL_law 996 = .ok (.iadd, 1) := by decide +kernel
theorem dL_law_997 : decode cL_law 997 = .ok (.iaload, 1) := by decide +kernel
theorem dL_law_998 : decode cL_law 998 = .ok (.invokevirtual 121, 3) := by decide +kernel
theorem dL_law_1001 : decode cL_law 1001 = .ok (.if_icmp .eq 488, 3) := by decide +kernel
theorem dL_law_1004 : decode cL_law 1004 = .ok (.iconst 0, 1) := by decide +kernel
theorem dL_law_1005 : decode cL_law 1005 = .ok (.ireturn, 1) := by decide +kernel
theorem dL_law_1006 : decode cL_law 1006 = .ok (.aload_n 1, 1) := by decide +kernel
theorem dL_law_1007 : decode cL_law 1007 = .ok (.aload_n 0, 1) := by decide +kernel
theorem dL_law_1008 : decode cL_law 1008 = .ok (.iload_n 3, 1) := by decide +kernel
theorem dL_law_1009 : decode cL_law 1009 = .ok (.iconst 1, 1) := by decide +kernel
theorem dL_law_1010 : decode cL_law 1010 = .ok (.iadd, 1) := by decide +kernel
theorem dL_law_1011 : decode cL_law 1011 = .ok (.iaload, 1) := by decide +kernel
theorem dL_law_1012 : decode cL_law 1012 = .ok (.aload_n 0, 1) := by decide +kernel
theorem dL_law_1013 : decode cL_law 1013 = .ok (.iload_n 3, 1) := by decide +kernel
theorem dL_law_1014 : decode cL_law 1014 = .ok (.iconst 2, 1) := by decide +kernel
theorem dL_law_1015 : decode cL_law 1015 = .ok (.iadd, 1) := by decide +kernel
theorem dL_law_1016 : decode cL_law 1016 = .ok (.iaload, 1) := by decide +kernel
theorem dL_law_1017 : decode cL_law 1017 = .ok (.invokevirtual 122, 3) := by decide +kernel
theorem dL_law_1020 : decode cL_law 1020 = .ok (.aload_n 2, 1) := by decide +kernel
theorem dL_law_1021 : decode cL_law 1021 = .ok (.aload_n 0, 1) := by decide +kernel
theorem dL_law_1022 : decode cL_law 1022 = .ok (.iload_n 3, 1) := by decide +kernel
theorem dL_law_1023 : decode cL_law 1023 = .ok (.iconst 1, 1) := by decide +kernel
theorem dL_law_1024 : decode cL_law 1024 = .ok (.iadd, 1) := by decide +kernel
theorem dL_law_1025 : decode cL_law 1025 = .ok (.iaload, 1) := by decide +kernel
theorem dL_law_1026 : decode cL_law 1026 = .ok (.aload_n 0, 1) := by decide +kernel
theorem dL_law_1027 : decode cL_law 1027 = .ok (.iload_n 3, 1) := by decide +kernel
theorem dL_law_1028 : decode cL_law 1028 = .ok (.iconst 2, 1) := by decide +kernel
theorem dL_law_1029 : decode cL_law 1029 = .ok (.iadd, 1) := by decide +kernel
theorem dL_law_1030 : decode cL_law 1030 = .ok (.iaload, 1) := by decide +kernel
theorem dL_law_1031 : decode cL_law 1031 = .ok (.invokevirtual 125, 3) := by decide +kernel
theorem dL_law_1034 : decode cL_law 1034 = .ok (.if_icmp .eq 455, 3) := by decide +kernel
theorem dL_law_1037 : decode cL_law 1037 = .ok (.iconst 0, 1) := by decide +kernel
theorem dL_law_1038 : decode cL_law 1038 = .ok (.ireturn, 1) := by decide +kernel
theorem dL_law_1039 : decode cL_law 1039 = .ok (.aload_n 1, 1) := by decide +kernel
theorem dL_law_1040 : decode cL_law 1040 = .ok (.aload_n 0, 1) := by decide +kernel
theorem dL_law_1041 : decode cL_law 1041 = .ok (.iload_n 3, 1) := by decide +kernel
theorem dL_law_1042 : decode cL_law 1042 = .ok (.iconst 1, 1) := by decide +kernel
theorem dL_law_1043 : decode cL_law 1043 = .ok (.iadd, 1) := by decide +kernel
theorem dL_law_1044 : decode cL_law 1044 = .ok (.iaload, 1) := by decide +kernel
theorem dL_law_1045 : decode cL_law 1045 = .ok (.invokevirtual 126, 3) := by decide +kernel
theorem dL_law_1048 : decode cL_law 1048 = .ok (.aload_n 2, 1) := by decide +kernel
theorem dL_law_1049 : decode cL_law 1049 = .ok (.aload_n 0, 1) := by decide +kernel
theorem dL_law_1050 : decode cL_law 1050 = .ok (.iload_n 3, 1) := by decide +kernel
theorem dL_law_1051 : decode cL_law 1051 = .ok (.iconst 1, 1) := by decide +kernel
theorem dL_law_1052 : decode cL_law 1052 = .ok (.iadd, 1) := by decide +kernel
theorem dL_law_1053 : decode cL_law 1053 = .ok (.iaload, 1) := by decide +kernel
theorem dL_law_1054 : decode cL_law 1054 = .ok (.invokevirtual 129, 3) := by decide +kernel
theorem dL_law_1057 : decode cL_law 1057 = .ok (.if_icmp .eq 432, 3) := by decide +kernel
theorem dL_law_1060 : decode cL_law 1060 = .ok (.iconst 0, 1) := by decide +kernel
theorem dL_law_1061 : decode cL_law 1061 = .ok (.ireturn, 1) := by decide +kernel
theorem dL_law_1062 : decode cL_law 1062 = .ok (.aload_n 1, 1) := by decide +kernel
theorem dL_law_1063 : decode cL_law 1063 = .ok (.aload_n 0, 1) := by decide +kernel
theorem dL_law_1064 : decode cL_law 1064 = .ok (.iload_n 3, 1) := by decide +kernel
theorem dL_law_1065 : decode cL_law 1065 = .ok (.iconst 1, 1) := by decide +kernel
theorem dL_law_1066 : decode cL_law 1066 = .ok (.iadd, 1) := by decide +kernel
theorem dL_law_1067 : decode cL_law 1067 = .ok (.iaload, 1) := by decide +kernel
theorem dL_law_1068 : decode cL_law 1068 = .ok (.aload_n 0, 1) := by decide +kernel
theorem dL_law_1069 : decode cL_law 1069 = .ok (.iload_n 3, 1) := by decide +kernel
theorem dL_law_1070 : decode cL_law 1070 = .ok (.iconst 2, 1) := by decide +kernel
theorem dL_law_1071 : decode cL_law 1071 = .ok (.iadd, 1) := by decide +kernel
theorem dL_law_1072 : decode cL_law 1072 = .ok (.iaload, 1) := by decide +kernel
theorem dL_law_1073 : decode cL_law 1073 = .ok (.aload_n 0, 1) := by decide +kernel
theorem dL_law_1074 : decode cL_law 1074 = .ok (.iload_n 3, 1) := by decide +kernel
theorem dL_law_1075 : decode cL_law 1075 = .ok (.iconst 3, 1) := by decide +kernel
theorem dL_law_1076 : decode cL_law 1076 = .ok (.iadd, 1) := by decide +kernel
theorem dL_law_1077 : decode cL_law 1077 = .ok (.iaload, 1) := by decide +kernel
theorem dL_law_1078 : decode cL_law 1078 = .ok (.invokevirtual 130, 3) := by decide +kernel
theorem dL_law_1081 : decode cL_law 1081 = .ok (.aload_n 2, 1) := by decide +kernel
theorem dL_law_1082 : decode cL_law 1082 = .ok (.aload_n 0, 1) := by decide +kernel
theorem dL_law_1083 : decode cL_law 1083 = .ok (.iload_n 3, 1) := by decide +kernel
theorem dL_law_1084 : decode cL_law 1084 = .ok (.iconst 1, 1) := by decide +kernel
theorem dL_law_1085 : decode cL_law 1085 = .ok (.iadd, 1) := by decide +kernel
theorem dL_law_1086 : decode cL_law 1086 = .ok (.iaload, 1) := by decide +kernel
theorem dL_law_1087 : decode cL_law 1087 = .ok (.aload_n 0, 1) := by decide +kernel
theorem dL_law_1088 : decode cL_law 1088 = .ok (.iload_n 3, 1) := by decide +kernel
theorem dL_law_1089 : decode cL_law 1089 = .ok (.iconst 2, 1) := by decide +kernel
theorem dL_law_1090 : decode cL_law 1090 = .ok (.iadd, 1) := by decide +kernel
theorem dL_law_1091 : decode cL_law 1091 = .ok (.iaload, 1) := by decide +kernel
theorem dL_law_1092 : decode cL_law 1092 = .ok (.aload_n 0, 1) := by decide +kernel
theorem dL_law_1093 : decode cL_law 1093 = .ok (.iload_n 3, 1) := by decide +kernel
theorem dL_law_1094 : decode cL_law 1094 = .ok (.iconst 3, 1) := by decide +kernel
theorem dL_law_1095 : decode cL_law 1095 = .ok (.iadd, 1) := by decide +kernel
theorem dL_law_1096 : decode cL_law 1096 = .ok (.iaload, 1) := by decide +kernel
theorem dL_law_1097 : decode cL_law 1097 = .ok (.invokevirtual 133, 3) := by decide +kernel
theorem dL_law_1100 : decode cL_law 1100 = .ok (.if_icmp .eq 389, 3) := by decide +kernel
theorem dL_law_1103 : decode cL_law 1103 = .ok (.iconst 0, 1) := by decide +kernel
theorem dL_law_1104 : decode cL_law 1104 = .ok (.ireturn, 1) := by decide +kernel
theorem dL_law_1105 : decode cL_law 1105 = .ok (.aload_n 1, 1) := by decide +kernel
theorem dL_law_1106 : decode cL_law 1106 = .ok (.aload_n 0, 1) := by decide +kernel
theorem dL_law_1107 : decode cL_law 1107 = .ok (.iload_n 3, 1) := by decide +kernel
theorem dL_law_1108 : decode cL_law 1108 = .ok (.iconst 1, 1) := by decide +kernel
theorem dL_law_1109 : decode cL_law 1109 = .ok (.iadd, 1) := by decide +kernel
theorem dL_law_1110 : decode cL_law 1110 = .ok (.iaload, 1) := by decide +kernel
theorem dL_law_1111 : decode cL_law 1111 = .ok (.aload_n 0, 1) := by decide +kernel
theorem dL_law_1112 : decode cL_law 1112 = .ok (.iload_n 3, 1) := by decide +kernel
theorem dL_law_1113 : decode cL_law 1113 = .ok (.iconst 2, 1) := by decide +kernel
theorem dL_law_1114 : decode cL_law 1114 = .ok (.iadd, 1) := by decide +kernel
theorem dL_law_1115 : decode cL_law 1115 = .ok (.iaload, 1) := by decide +kernel
theorem dL_law_1116 : decode cL_law 1116 = .ok (.aload_n 0, 1) := by decide +kernel
theorem dL_law_1117 : decode cL_law 1117 = .ok (.iload_n 3, 1) := by decide +kernel
theorem dL_law_1118 : decode cL_law 1118 = .ok (.iconst 3, 1) := by decide +kernel
theorem dL_law_1119 : decode cL_law 1119 = .ok (.iadd, 1) := by decide +kernel
end
section
theorem dL_law_1120 : decode cL_law 1120 = .ok (.iaload, 1) := by decide +kernel
theorem dL_law_1121 : decode cL_law 1121 = .ok (.aload_n 0, 1) := by decide +kernel
theorem dL_law_1122 : decode cL_law 1122 = .ok (.iload_n 3, 1) := by decide +kernel
theorem dL_law_1123 : decode cL_law 1123 = .ok (.iconst 4, 1) := by decide +kernel
theorem dL_law_1124 : decode cL_law 1124 = .ok (.iadd, 1) := by decide +kernel
theorem dL_law_1125 : decode cL_law 1125 = .ok (.iaload, 1) := by decide +kernel
theorem dL_law_1126 : decode cL_law 1126 = .ok (.invokevirtual 134, 3) := by decide +kernel
theorem dL_law_1129 : decode cL_law 1129 = .ok (.aload_n 2, 1) := by decide +kernel
theorem dL_law_1130 : decode cL_law 1130 = .ok (.aload_n 0, 1) := by decide +kernel
theorem dL_law_1131 : decode cL_law 1131 = .ok (.iload_n 3, 1) := by decide +kernel
theorem dL_law_1132 : decode cL_law 1132 = .ok (.iconst 1, 1) := by decide +kernel
theorem dL_law_1133 : decode cL_law 1133 = .ok (.iadd, 1) := by decide +kernel
theorem dL_law_1134 : decode cL_law 1134 = .ok (.iaload, 1) := by decide +kernel
theorem dL_law_1135 : decode cL_law 1135 = .ok (.aload_n 0, 1) := by decide +kernel
theorem dL_law_1136 : decode cL_law 1136 = .ok (.iload_n 3, 1) := by decide +kernel
theorem dL_law_1137 : decode cL_law 1137 = .ok (.iconst 2, 1) := by decide +kernel
theorem dL_law_1138 : decode cL_law 1138 = .ok (.iadd, 1) := by decide +kernel
theorem dL_law_1139 : decode cL_law 1139 = .ok (.iaload, 1) := by decide +kernel
theorem dL_law_1140 : decode cL_law 1140 = .ok (.aload_n 0, 1) := by decide +kernel
theorem dL_law_1141 : decode cL_law 1141 = .ok (.iload_n 3, 1) := by decide +kernel
theorem dL_law_1142 : decode cL_law 1142 = .ok (.iconst 3, 1) := by decide +kernel
theorem dL_law_1143 : decode cL_law 1143 = .ok (.iadd, 1) := by decide +kernel
theorem dL_law_1144 : decode cL_law 1144 = .ok (.iaload, 1) := by decide +kernel
theorem dL_law_1145 : decode cL_law 1145 = .ok (.aload_n 0, 1) := by decide +kernel
theorem dL_law_1146 : decode cL_law 1146 = .ok (.iload_n 3, 1) := by decide +kernel
theorem dL_law_1147 : decode cL_law 1147 = .ok (.iconst 4, 1) := by decide +kernel
theorem dL_law_1148 : decode cL_law 1148 = .ok (.iadd, 1) := by decide +kernel
theorem dL_law_1149 : decode cL_law 1149 = .ok (.iaload, 1) := by decide +kernel
theorem dL_law_1150 : decode cL_law 1150 = .ok (.invokevirtual 137, 3) := by decide +kernel
theorem dL_law_1153 : decode cL_law 1153 = .ok (.if_icmp .eq 336, 3) := by decide +kernel
theorem dL_law_1156 : decode cL_law 1156 = .ok (.iconst 0, 1) := by decide +kernel
theorem dL_law_1157 : decode cL_law 1157 = .ok (.ireturn, 1) := by decide +kernel
theorem dL_law_1158 : decode cL_law 1158 = .ok (.aload_n 1, 1) := by decide +kernel
theorem dL_law_1159 : decode cL_law 1159 = .ok (.aload_n 0, 1) := by decide +kernel
theorem dL_law_1160 : decode cL_law 1160 = .ok (.iload_n 3, 1) := by decide +kernel
theorem dL_law_1161 : decode cL_law 1161 = .ok (.iconst 1, 1) := by decide +kernel
theorem dL_law_1162 : decode cL_law 1162 = .ok (.iadd, 1) := by decide +kernel
theorem dL_law_1163 : decode cL_law 1163 = .ok (.iaload, 1) := by decide +kernel
theorem dL_law_1164 : decode cL_law 1164 = .ok (.invokevirtual 138, 3) := by decide +kernel
theorem dL_law_1167 : decode cL_law 1167 = .ok (.aload_n 2, 1) := by decide +kernel
theorem dL_law_1168 : decode cL_law 1168 = .ok (.aload_n 0, 1) := by decide +kernel
theorem dL_law_1169 : decode cL_law 1169 = .ok (.iload_n 3, 1) := by decide +kernel
theorem dL_law_1170 : decode cL_law 1170 = .ok (.iconst 1, 1) := by decide +kernel
theorem dL_law_1171 : decode cL_law 1171 = .ok (.iadd, 1) := by decide +kernel
theorem dL_law_1172 : decode cL_law 1172 = .ok (.iaload, 1) := by decide +kernel
theorem dL_law_1173 : decode cL_law 1173 = .ok (.invokevirtual 141, 3) := by decide +kernel
theorem dL_law_1176 : decode cL_law 1176 = .ok (.if_icmp .eq 313, 3) := by decide +kernel
theorem dL_law_1179 : decode cL_law 1179 = .ok (.iconst 0, 1) := by decide +kernel
theorem dL_law_1180 : decode cL_law 1180 = .ok (.ireturn, 1) := by decide +kernel
theorem dL_law_1181 : decode cL_law 1181 = .ok (.aload_n 1, 1) := by decide +kernel
theorem dL_law_1182 : decode cL_law 1182 = .ok (.invokevirtual 142, 3) := by decide +kernel
theorem dL_law_1185 : decode cL_law 1185 = .ok (.aload_n 2, 1) := by decide +kernel
theorem dL_law_1186 : decode cL_law 1186 = .ok (.invokevirtual 145, 3) := by decide +kernel
theorem dL_law_1189 : decode cL_law 1189 = .ok (.if_icmp .eq 300, 3) := by decide +kernel
theorem dL_law_1192 : decode cL_law 1192 = .ok (.iconst 0, 1) := by decide +kernel
theorem dL_law_1193 : decode cL_law 1193 = .ok (.ireturn, 1) := by decide +kernel
theorem dL_law_1194 : decode cL_law 1194 = .ok (.aload_n 1, 1) := by decide +kernel
theorem dL_law_1195 : decode cL_law 1195 = .ok (.aload_n 0, 1) := by decide +kernel
theorem dL_law_1196 : decode cL_law 1196 = .ok (.iload_n 3, 1) := by decide +kernel
theorem dL_law_1197 : decode cL_law 1197 = .ok (.iconst 1, 1) := by decide +kernel
theorem dL_law_1198 : decode cL_law 1198 = .ok (.iadd, 1) := by decide +kernel
theorem dL_law_1199 : decode cL_law 1199 = .ok (.iaload, 1) := by decide +kernel
theorem dL_law_1200 : decode cL_law 1200 = .ok (.aload_n 0, 1) := by decide +kernel
theorem dL_law_1201 : decode cL_law 1201 = .ok (.iload_n 3, 1) := by decide +kernel
theorem dL_law_1202 : decode cL_law 1202 = .ok (.iconst 2, 1) := by decide +kernel
theorem dL_law_1203 : decode cL_law 1203 = .ok (.iadd, 1) := by decide +kernel
theorem dL_law_1204 : decode cL_law 1204 = .ok (.iaload, 1) := by decide +kernel
theorem dL_law_1205 : decode cL_law 1205 = .ok (.invokevirtual 146, 3) := by decide +kernel
theorem dL_law_1208 : decode cL_law 1208 = .ok (.aload_n 2, 1) := by decide +kernel
theorem dL_law_1209 : decode cL_law 1209 = .ok (.aload_n 0, 1) := by decide +kernel
theorem dL_law_1210 : decode cL_law 1210 = .ok (.iload_n 3, 1) := by decide +kernel
theorem dL_law_1211 : decode cL_law 1211 = .ok (.iconst 1, 1) := by decide +kernel
theorem dL_law_1212 : decode cL_law 1212 = .ok (.iadd, 1) := by decide +kernel
theorem dL_law_1213 : decode cL_law 1213 = .ok (.iaload, 1) := by decide +kernel
theorem dL_law_1214 : decode cL_law 1214 = .ok (.aload_n 0, 1) := by decide +kernel
theorem dL_law_1215 : decode cL_law 1215 = .ok (.iload_n 3, 1) := by decide +kernel
theorem dL_law_1216 : decode cL_law 1216 = .ok (.iconst 2, 1) := by decide +kernel
theorem dL_law_1217 : decode cL_law 1217 = .ok (.iadd, 1) := by decide +kernel
theorem dL_law_1218 : decode cL_law 1218 = .ok (.iaload, 1) := by decide +kernel
theorem dL_law_1219 : decode cL_law 1219 = .ok (.invokevirtual 149, 3) := by decide +kernel
theorem dL_law_1222 : decode cL_law 1222 = .ok (.if_icmp .eq 267, 3) := by decide +kernel
theorem dL_law_1225 : decode cL_law 1225 = .ok (.iconst 0, 1) := by decide +kernel
theorem dL_law_1226 : decode cL_law 1226 = .ok (.ireturn, 1) := by decide +kernel
theorem dL_law_1227 : decode cL_law 1227 = .ok (.aload_n 1, 1) := by decide +kernel
theorem dL_law_1228 : decode cL_law 1228 = .ok (.invokevirtual 150, 3) := by decide +kernel
theorem dL_law_1231 : decode cL_law 1231 = .ok (.aload_n 2, 1) := by decide +kernel
theorem dL_law_1232 : decode cL_law 1232 = .ok (.invokevirtual 153, 3) := by decide +kernel
theorem dL_law_1235 : decode cL_law 1235 = .ok (.if_icmp .eq 254, 3) := by decide +kernel
theorem dL_law_1238 : decode cL_law 1238 = .ok (.iconst 0, 1) := by decide +kernel
theorem dL_law_1239 : decode cL_law 1239 = .ok (.ireturn, 1) := by decide +kernel
theorem dL_law_1240 : decode cL_law 1240 = .ok (.aload_n 1, 1) := by decide +kernel
theorem dL_law_1241 : decode cL_law 1241 = .ok (.invokevirtual 154, 3) := by decide +kernel
theorem dL_law_1244 : decode cL_law 1244 = .ok (.aload_n 2, 1) := by decide +kernel
theorem dL_law_1245 : decode cL_law 1245 = .ok (.invokevirtual 157, 3) := by decide +kernel
theorem dL_law_1248 : decode cL_law 1248 = .ok (.if_icmp .eq 241, 3) := by decide +kernel
theorem dL_law_1251 : decode cL_law 1251 = .ok (.iconst 0, 1) := by decide +kernel
theorem dL_law_1252 : decode cL_law 1252 = .ok (.ireturn, 1) := by decide +kernel
theorem dL_law_1253 : decode cL_law 1253 = .ok (.aload_n 1, 1) := by decide +kernel
theorem dL_law_1254 : decode cL_law 1254 = .ok (.aload_n 0, 1) := by decide +kernel
theorem dL_law_1255 : decode cL_law 1255 = .ok (.iload_n 3, 1) := by decide +kernel
theorem dL_law_1256 : decode cL_law 1256 = .ok (.iconst 1, 1) := by decide +kernel
theorem dL_law_1257 : decode cL_law 1257 = .ok (.iadd, 1) := by decide +kernel
theorem dL_law_1258 : decode cL_law 1258 = .ok (.iaload, 1) := by decide +kernel
theorem dL_law_1259 : decode cL_law 1259 = .ok (.invokevirtual 158, 3) := by decide +kernel
theorem dL_law_1262 : decode cL_law 1262 = .ok (.aload_n 2, 1) := by decide +kernel
theorem dL_law_1263 : decode cL_law 1263 = .ok (.aload_n 0, 1) := by decide +kernel
theorem dL_law_1264 : decode cL_law 1264 = .ok (.iload_n 3, 1) := by decide +kernel
theorem dL_law_1265 : decode cL_law 1265 = .ok (.iconst 1, 1) := by decide +kernel
theorem dL_law_1266 : decode cL_law 1266 = .ok (.iadd, 1) := by decide +kernel
theorem dL_law_1267 : decode cL_law 1267 = .ok (.iaload, 1) := by decide +kernel
theorem dL_law_1268 : decode cL_law 1268 = .ok (.invokevirtual 161, 3) := by decide +kernel
theorem dL_law_1271 : decode cL_law 1271 = .ok (.if_icmp .eq 218, 3) := by decide +kernel
theorem dL_law_1274 : decode cL_law 1274 = .ok (.iconst 0, 1) := by decide +kernel
theorem dL_law_1275 : decode cL_law 1275 = .ok (.ireturn, 1) := by decide +kernel
theorem dL_law_1276 : decode cL_law 1276 = .ok (.aload_n 1, 1) := by decide +kernel
theorem dL_law_1277 : decode cL_law 1277 = .ok (.aload_n 0, 1) := by decide +kernel
theorem dL_law_1278 : decode cL_law 1278 = .ok (.iload_n 3, 1) := by decide +kernel
theorem dL_law_1279 : decode cL_law 1279 = .ok (.iconst 1, 1) := by decide +kernel
theorem dL_law_1280 : decode cL_law 1280 = .ok (.iadd, 1) := by decide +kernel
theorem dL_law_1281 : decode cL_law 1281 = .ok (.iaload, 1) := by decide +kernel
theorem dL_law_1282 : decode cL_law 1282 = .ok (.aload_n 0, 1) := by decide +kernel
theorem dL_law_1283 : decode cL_law 1283 = .ok (.iload_n 3, 1) := by decide +kernel
theorem dL_law_1284 : decode cL_law 1284 = .ok (.iconst 2, 1) := by decide +kernel
theorem dL_law_1285 : decode cL_law 1285 = .ok (.iadd, 1) := by decide +kernel
theorem dL_law_1286 : decode cL_law 1286 = .ok (.iaload, 1) := by decide +kernel
theorem dL_law_1287 : decode cL_law 1287 = .ok (.aload_n 0, 1) := by decide +kernel
theorem dL_law_1288 : decode cL_law 1288 = .ok (.iload_n 3, 1) := by decide +kernel
theorem dL_law_1289 : decode cL_law 1289 = .ok (.iconst 3, 1) := by decide +kernel
theorem dL_law_1290 : decode cL_law 1290 = .ok (.iadd, 1) := by decide +kernel
theorem dL_law_1291 : decode cL_law 1291 = .ok (.iaload, 1) := by decide +kernel
theorem dL_law_1292 : decode cL_law 1292 = .ok (.invokevirtual 162, 3) := by decide +kernel
theorem dL_law_1295 : decode cL_law 1295 = .ok (.aload_n 2, 1) := by decide +kernel
theorem dL_law_1296 : decode cL_law 1296 = .ok (.aload_n 0, 1) := by decide +kernel
theorem dL_law_1297 : decode cL_law 1297 = .ok (.iload_n 3, 1) := by decide +kernel
theorem dL_law_1298 : decode cL_law 1298 = .ok (.iconst 1, 1) := by decide +kernel
theorem dL_law_1299 : decode cL_law 1299 = .ok (.iadd, 1) := by decide +kernel
theorem dL_law_1300 : decode cL_law 1300 = .ok (.iaload, 1) := by decide +kernel
theorem dL_law_1301 : decode cL_law 1301 = .ok (.aload_n 0, 1) := by decide +kernel
theorem dL_law_1302 : decode cL_law 1302 = .ok (.iload_n 3, 1) := by decide +kernel
theorem dL_law_1303 : decode cL_law 1303 = .ok (.iconst 2, 1) := by decide +kernel
theorem dL_law_1304 : decode cL_law 1304 = .ok (.iadd, 1) := by decide +kernel
theorem dL_law_1305 : decode cL_law 1305 = .ok (.iaload, 1) := by decide +kernel
theorem dL_law_1306 : decode cL_law 1306 = .ok (.aload_n 0, 1) := by decide +kernel
theorem dL_law_1307 : decode cL_law 1307 = .ok (.iload_n 3, 1) := by decide +kernel
theorem dL_law_1308 : decode cL_law 1308 = .ok (.iconst 3, 1) := by decide +kernel
theorem dL_law_1309 : decode cL_law 1309 = .ok (.iadd, 1) := by decide +kernel
theorem dL_law_1310 : decode cL_law 1310 = .ok (.iaload, 1) := by decide +kernel
theorem dL_law_1311 : decode cL_law 1311 = .ok (.invokevirtual 165, 3) := by decide +kernel
theorem dL_law_1314 : decode cL_law 1314 = .ok (.if_icmp .eq 175, 3) := by decide +kernel
theorem dL_law_1317 : decode cL_law 1317 = .ok (.iconst 0, 1) := by decide +kernel
theorem dL_law_1318 : decode cL_law 1318 = .ok (.ireturn, 1) := by decide +kernel
theorem dL_law_1319 : decode cL_law 1319 = .ok (.aload_n 1, 1) := by decide +kernel
theorem dL_law_1320 : decode cL_law 1320 = .ok (.aload_n 0, 1) := by decide +kernel
theorem dL_law_1321 : decode cL_law 1321 = .ok (.iload_n 3, 1) := by decide +kernel
theorem dL_law_1322 : decode cL_law 1322 = .ok (.iconst 1, 1) := by decide +kernel
theorem dL_law_1323 : decode cL_law 1323 = .ok (.iadd, 1) := by decide +kernel
theorem dL_law_1324 : decode cL_law 1324 = .ok (.iaload, 1) := by decide +kernel
theorem dL_law_1325 : decode cL_law 1325 = .ok (.aload_n 0, 1) := by decide +kernel
theorem dL_law_1326 : decode cL_law 1326 = .ok (.iload_n 3, 1) := by decide +kernel
theorem dL_law_1327 : decode cL_law 1327 = .ok (.iconst 2, 1) := by decide +kernel
theorem dL_law_1328 : decode cL_law 1328 = .ok (.iadd, 1) := by decide +kernel
theorem dL_law_1329 : decode cL_law 1329 = .ok (.iaload, 1) := by decide +kernel
theorem dL_law_1330 : decode cL_law 1330 = .ok (.aload_n 0, 1) := by decide +kernel
theorem dL_law_1331 : decode cL_law 1331 = .ok (.iload_n 3, 1) := by decide +kernel
theorem dL_law_1332 : decode cL_law 1332 = .ok (.iconst 3, 1) := by decide +kernel
theorem dL_law_1333 : decode cL_law 1333 = .ok (.iadd, 1) := by decide +kernel
theorem dL_law_1334 : decode cL_law 1334 = .ok (.iaload, 1) := by decide +kernel
theorem dL_law_1335 : decode cL_law 1335 = .ok (.i2l, 1) := by decide +kernel
theorem dL_law_1336 : decode cL_law 1336 = .ok (.bipush 32, 2) := by decide +kernel
theorem dL_law_1338 : decode cL_law 1338 = .ok (.lshl, 1) := by decide +kernel
theorem dL_law_1339 : decode cL_law 1339 = .ok (.aload_n 0, 1) := by decide +kernel
theorem dL_law_1340 : decode cL_law 1340 = .ok (.iload_n 3, 1) := by decide +kernel
theorem dL_law_1341 : decode cL_law 1341 = .ok (.iconst 4, 1) := by decide +kernel
theorem dL_law_1342 : decode cL_law 1342 = .ok (.iadd, 1) := by decide +kernel
theorem dL_law_1343 : decode cL_law 1343 = .ok (.iaload, 1) := by decide +kernel
theorem dL_law_1344 : decode cL_law 1344 = .ok (.i2l, 1) := by decide +kernel
theorem dL_law_1345 : decode cL_law 1345 = .ok (.ldc2_w 166, 3) := by decide +kernel
theorem dL_law_1348 : decode cL_law 1348 = .ok (.land, 1) := by decide +kernel
theorem dL_law_1349 : decode cL_law 1349 = .ok (.lor, 1) := by decide +kernel
theorem dL_law_1350 : decode cL_law 1350 = .ok (.invokevirtual 168, 3) := by decide +kernel
theorem dL_law_1353 : decode cL_law 1353 = .ok (.aload_n 2, 1) := by decide +kernel
theorem dL_law_1354 : decode cL_law 1354 = .ok (.aload_n 0, 1) := by decide +kernel
theorem dL_law_1355 : decode cL_law 1355 = .ok (.iload_n 3, 1) := by decide +kernel
theorem dL_law_1356 : decode cL_law 1356 = .ok (.iconst 1, 1) := by decide +kernel
theorem dL_law_1357 : decode cL_law 1357 = .ok (.iadd, 1) := by decide +kernel
theorem dL_law_1358 : decode cL_law 1358 = .ok (.iaload, 1) := by decide +kernel
theorem dL_law_1359 : decode cL_law 1359 = .ok (.aload_n 0, 1) := by decide +kernel
theorem dL_law_1360 : decode cL_law 1360 = .ok (.iload_n 3, 1) := by decide +kernel
theorem dL_law_1361 : decode cL_law 1361 = .ok (.iconst 2, 1) := by decide +kernel
theorem dL_law_1362 : decode cL_law 1362 = .ok (.iadd, 1) := by decide +kernel
theorem dL_law_1363 : decode cL_law 1363 = .ok (.iaload, 1) := by decide +kernel
theorem dL_law_1364 : decode cL_law 1364 = .ok (.aload_n 0, 1) := by decide +kernel
theorem dL_law_1365 : decode cL_law 1365 = .ok (.iload_n 3, 1) := by decide +kernel
theorem dL_law_1366 : decode cL_law 1366 = .ok (.iconst 3, 1) := by decide +kernel
theorem dL_law_1367 : decode cL_law 1367 = .ok (.iadd, 1) := by decide +kernel
theorem dL_law_1368 : decode cL_law 1368 = .ok (.iaload, 1) := by decide +kernel
theorem dL_law_1369 : decode cL_law 1369 = .ok (.i2l, 1) := by decide +kernel
theorem dL_law_1370 : decode cL_law 1370 = .ok (.bipush 32, 2) := by decide +kernel
theorem dL_law_1372 : decode cL_law 1372 = .ok (.lshl, 1) := by decide +kernel
theorem dL_law_1373 : decode cL_law 1373 = .ok (.aload_n 0, 1) := by decide +kernel
theorem dL_law_1374 : decode cL_law 1374 = .ok (.iload_n 3, 1) := by decide +kernel
theorem dL_law_1375 : decode cL_law 1375 = .ok (.iconst 4, 1) := by decide +kernel
theorem dL_law_1376 : decode cL_law 1376 = .ok (.iadd, 1) := by decide +kernel
theorem dL_law_1377 : decode cL_law 1377 = .ok (.iaload, 1) := by decide +kernel
theorem dL_law_1378 : decode cL_law 1378 = .ok (.i2l, 1) := by decide +kernel
theorem dL_law_1379 : decode cL_law 1379 = .ok (.ldc2_w 166, 3) := by decide +kernel
theorem dL_law_1382 : decode cL_law 1382 = .ok (.land, 1) := by decide +kernel
theorem dL_law_1383 : decode cL_law 1383 = .ok (.lor, 1) := by decide +kernel
theorem dL_law_1384 : decode cL_law 1384 = .ok (.invokevirtual 172, 3) := by decide +kernel
theorem dL_law_1387 : decode cL_law 1387 = .ok (.if_icmp .eq 102, 3) := by decide +kernel
theorem dL_law_1390 : decode cL_law 1390 = .ok (.iconst 0, 1) := by decide +kernel
theorem dL_law_1391 : decode cL_law 1391 = .ok (.ireturn, 1) := by decide +kernel
theorem dL_law_1392 : decode cL_law 1392 = .ok (.aload_n 1, 1) := by decide +kernel
theorem dL_law_1393 : decode cL_law 1393 = .ok (.aload_n 0, 1) := by decide +kernel
theorem dL_law_1394 : decode cL_law 1394 = .ok (.iload_n 3, 1) := by decide +kernel
theorem dL_law_1395 : decode cL_law 1395 = .ok (.iconst 1, 1) := by decide +kernel
theorem dL_law_1396 : decode cL_law 1396 = .ok (.iadd, 1) := by decide +kernel
theorem dL_law_1397 : decode cL_law 1397 = .ok (.iaload, 1) := by decide +kernel
theorem dL_law_1398 : decode cL_law 1398 = .ok (.aload_n 0, 1) := by decide +kernel
theorem dL_law_1399 : decode cL_law 1399 = .ok (.iload_n 3, 1) := by decide +kernel
theorem dL_law_1400 : decode cL_law 1400 = .ok (.iconst 2, 1) := by decide +kernel
theorem dL_law_1401 : decode cL_law 1401 = .ok (.iadd, 1) := by decide +kernel
theorem dL_law_1402 : decode cL_law 1402 = .ok (.iaload, 1) := by decide +kernel
theorem dL_law_1403 : decode cL_law 1403 = .ok (.invokevirtual 173, 3) := by decide +kernel
theorem dL_law_1406 : decode cL_law 1406 = .ok (.aload_n 2, 1) := by decide +kernel
theorem dL_law_1407 : decode cL_law 1407 = .ok (.aload_n 0, 1) := by decide +kernel
theorem dL_law_1408 : decode cL_law 1408 = .ok (.iload_n 3, 1) := by decide +kernel
theorem dL_law_1409 : decode cL_law 1409 = .ok (.iconst 1, 1) := by decide +kernel
theorem dL_law_1410 : decode cL_law 1410 = .ok (.iadd, 1) := by decide +kernel
theorem dL_law_1411 : decode cL_law 1411 = .ok (.iaload, 1) := by decide +kernel
theorem dL_law_1412 : decode cL_law 1412 = .ok (.aload_n 0, 1) := by decide +kernel
theorem dL_law_1413 : decode cL_law 1413 = .ok (.iload_n 3, 1) := by decide +kernel
theorem dL_law_1414 : decode cL_law 1414 = .ok (.iconst 2, 1) := by decide +kernel
theorem dL_law_1415 : decode cL_law 1415 = .ok (.iadd, 1) := by decide +kernel
theorem dL_law_1416 : decode cL_law 1416 = .ok (.iaload, 1) := by decide +kernel
theorem dL_law_1417 : decode cL_law 1417 = .ok (.invokevirtual 177, 3) := by decide +kernel
theorem dL_law_1420 : decode cL_law 1420 = .ok (.lcmp, 1) := by decide +kernel
theorem dL_law_1421 : decode cL_law 1421 = .ok (.ifCond .eq 68, 3) := by decide +kernel
theorem dL_law_1424 : decode cL_law 1424 = .ok (.iconst 0, 1) := by decide +kernel
theorem dL_law_1425 : decode cL_law 1425 = .ok (.ireturn, 1) := by decide +kernel
theorem dL_law_1426 : decode cL_law 1426 = .ok (.aload_n 1, 1) := by decide +kernel
theorem dL_law_1427 : decode cL_law 1427 = .ok (.aload_n 0, 1) := by decide +kernel
theorem dL_law_1428 : decode cL_law 1428 = .ok (.iload_n 3, 1) := by decide +kernel
theorem dL_law_1429 : decode cL_law 1429 = .ok (.iconst 1, 1) := by decide +kernel
theorem dL_law_1430 : decode cL_law 1430 = .ok (.iadd, 1) := by decide +kernel
theorem dL_law_1431 : decode cL_law 1431 = .ok (.iaload, 1) := by decide +kernel
theorem dL_law_1432 : decode cL_law 1432 = .ok (.aload_n 0, 1) := by decide +kernel
theorem dL_law_1433 : decode cL_law 1433 = .ok (.iload_n 3, 1) := by decide +kernel
theorem dL_law_1434 : decode cL_law 1434 = .ok (.iconst 2, 1) := by decide +kernel
theorem dL_law_1435 : decode cL_law 1435 = .ok (.iadd, 1) := by decide +kernel
theorem dL_law_1436 : decode cL_law 1436 = .ok (.iaload, 1) := by decide +kernel
theorem dL_law_1437 : decode cL_law 1437 = .ok (.aload_n 0, 1) := by decide +kernel
theorem dL_law_1438 : decode cL_law 1438 = .ok (.iload_n 3, 1) := by decide +kernel
theorem dL_law_1439 : decode cL_law 1439 = .ok (.iconst 3, 1) := by decide +kernel
theorem dL_law_1440 : decode cL_law 1440 = .ok (.iadd, 1) := by decide +kernel
theorem dL_law_1441 : decode cL_law 1441 = .ok (.iaload, 1) := by decide +kernel
theorem dL_law_1442 : decode cL_law 1442 = .ok (.aload_n 0, 1) := by decide +kernel
theorem dL_law_1443 : decode cL_law 1443 = .ok (.iload_n 3, 1) := by decide +kernel
theorem dL_law_1444 : decode cL_law 1444 = .ok (.iconst 4, 1) := by decide +kernel
theorem dL_law_1445 : decode cL_law 1445 = .ok (.iadd, 1) := by decide +kernel
theorem dL_law_1446 : decode cL_law 1446 = .ok (.iaload, 1) := by decide +kernel
theorem dL_law_1447 : decode cL_law 1447 = .ok (.aload_n 0, 1) := by decide +kernel
theorem dL_law_1448 : decode cL_law 1448 = .ok (.iload_n 3, 1) := by decide +kernel
theorem dL_law_1449 : decode cL_law 1449 = .ok (.iconst 5, 1) := by decide +kernel
theorem dL_law_1450 : decode cL_law 1450 = .ok (.iadd, 1) := by decide +kernel
theorem dL_law_1451 : decode cL_law 1451 = .ok (.iaload, 1) := by decide +kernel
theorem dL_law_1452 : decode cL_law 1452 = .ok (.invokevirtual 178, 3) := by decide +kernel
theorem dL_law_1455 : decode cL_law 1455 = .ok (.aload_n 2, 1) := by decide +kernel
theorem dL_law_1456 : decode cL_law 1456 = .ok (.aload_n 0, 1) := by decide +kernel
theorem dL_law_1457 : decode cL_law 1457 = .ok (.iload_n 3, 1) := by decide +kernel
theorem dL_law_1458 : decode cL_law 1458 = .ok (.iconst 1, 1) := by decide +kernel
theorem dL_law_1459 : decode cL_law 1459 = .ok (.iadd, 1) := by decide +kernel
theorem dL_law_1460 : decode cL_law 1460 = .ok (.iaload, 1) := by decide +kernel
theorem dL_law_1461 : decode cL_law 1461 = .ok (.aload_n 0, 1) := by decide +kernel
theorem dL_law_1462 : decode cL_law 1462 = .ok (.iload_n 3, 1) := by decide +kernel
theorem dL_law_1463 : decode cL_law 1463 = .ok (.iconst 2, 1) := by decide +kernel
theorem dL_law_1464 : decode cL_law 1464 = .ok (.iadd, 1) := by decide +kernel
theorem dL_law_1465 : decode cL_law 1465 = .ok (.iaload, 1) := by decide +kernel
theorem dL_law_1466 : decode cL_law 1466 = .ok (.aload_n 0, 1) := by decide +kernel
theorem dL_law_1467 : decode cL_law 1467 = .ok (.iload_n 3, 1) := by decide +kernel
theorem dL_law_1468 : decode cL_law 1468 = .ok (.iconst 3, 1) := by decide +kernel
theorem dL_law_1469 : decode cL_law 1469 = .ok (.iadd, 1) := by decide +kernel
theorem dL_law_1470 : decode cL_law 1470 = .ok (.iaload, 1) := by decide +kernel
theorem dL_law_1471 : decode cL_law 1471 = .ok (.aload_n 0, 1) := by decide +kernel
theorem dL_law_1472 : decode cL_law 1472 = .ok (.iload_n 3, 1) := by decide +kernel
theorem dL_law_1473 : decode cL_law 1473 = .ok (.iconst 4, 1) := by decide +kernel
theorem dL_law_1474 : decode cL_law 1474 = .ok (.iadd, 1) := by decide +kernel
theorem dL_law_1475 : decode cL_law 1475 = .ok (.iaload, 1) := by decide +kernel
theorem dL_law_1476 : decode cL_law 1476 = .ok (.aload_n 0, 1) := by decide +kernel
theorem dL_law_1477 : decode cL_law 1477 = .ok (.iload_n 3, 1) := by decide +kernel
theorem dL_law_1478 : decode cL_law 1478 = .ok (.iconst 5, 1) := by decide +kernel
theorem dL_law_1479 : decode cL_law 1479 = .ok (.iadd, 1) := by decide +kernel
theorem dL_law_1480 : decode cL_law 1480 = .ok (.iaload, 1) := by decide +kernel
theorem dL_law_1481 : decode cL_law 1481 = .ok (.invokevirtual 182, 3) := by decide +kernel
theorem dL_law_1484 : decode cL_law 1484 = .ok (.if_icmp .eq 5, 3) := by decide +kernel
theorem dL_law_1487 : decode cL_law 1487 = .ok (.iconst 0, 1) := by decide +kernel
theorem dL_law_1488 : decode cL_law 1488 = .ok (.ireturn, 1) := by decide +kernel
theorem dL_law_1489 : decode cL_law 1489 = .ok (.iinc 3 6, 3) := by decide +kernel
theorem dL_law_1492 : decode cL_law 1492 = .ok (.goto (-1474), 3) := by decide +kernel
theorem dL_law_1495 : decode cL_law 1495 = .ok (.iconst 1, 1) := by decide +kernel
theorem dL_law_1496 : decode cL_law 1496 = .ok (.ireturn, 1) := by decide +kernel
end
section
-- tables of the abstract machine: classes, methods, links; printed by a program of mine out of the Statement's tables
def mm_cns : List String := [RX0, RX1, RX2, RX3, RX4, RX5, RX6, RX7, RX8, RX9, RX10, RX11, RJ6, RJ9, RJ7, RL]
def mm_cn (c : Nat) : String := mm_cns.getD c ""
/-- own class, name, code, locals, answer, parameters, kind (0 of an object, 1 static, 2 constructor, 3 the law) -/
abbrev mm_MT : Type := Nat × MethodName × ByteArray × Nat × Option FieldType × Nat × Nat
def mm_mt_0 : List mm_MT := [(0, yX0_init, cX0_init, 1, none, 0, 2), (0, yX0_becomeEmpty, cX0_becomeEmpty, 3, none, 1, 0), (0, yX0_copyFrom, cX0_copyFrom, 3, none, 1, 0), (0, yX0_becomeChoice, cX0_becomeChoice, 7, none, 3, 0), (0, yX0_becomePart, cX0_becomePart, 6, none, 3, 0), (0, yX0_has, cX0_has, 2, some .boolean, 1, 0), (0, yX0_put, cX0_put, 3, none, 2, 0), (0, yX0_setAt, cX0_setAt, 4, some .int, 1, 0), (0, yX0_union, cX0_union, 3, some .int, 0, 0), (0, yX0_areKeptBy, cX0_areKeptBy, 3, some .boolean, 1, 0), (0, yX0_meeting, cX0_meeting, 5, some .int, 2, 0), (0, yX0_around, cX0_around, 4, some .int, 1, 0), (0, yX0_shareOn, cX0_shareOn, 6, some .int, 2, 0), (0, yX0_strengthOn, cX0_strengthOn, 3, some .int, 1, 0), (0, yX0_turn, cX0_turn, 6, none, 1, 0), (1, yX1_init, cX1_init, 1, none, 0, 2), (1, yX1_load, cX1_load, 5, none, 3, 0), (1, yX1_loadRow, cX1_loadRow, 6, none, 4, 0), (1, yX1_countSet, cX1_countSet, 4, none, 2, 0), (1, yX1_numberAt, cX1_numberAt, 4, some .int, 2, 0), (1, yX1_solve, cX1_solve, 5, none, 2, 0), (1, yX1_searchSolutions, cX1_searchSolutions, 3, none, 2, 0), (1, yX1_change, cX1_change, 6, none, 3, 0), (1, yX1_canSolve, cX1_canSolve, 2, some .boolean, 0, 0), (1, yX1_noteSolution, cX1_noteSolution, 2, none, 1, 0), (1, yX1_earlySolution, cX1_earlySolution, 2, some .int, 1, 0), (1, yX1_findFewest, cX1_findFewest, 1, none, 0, 0), (1, yX1_searchCovers, cX1_searchCovers, 4, none, 3, 0), (1, yX1_covers, cX1_covers, 3, some .boolean, 1, 0), (2, yX2_init, cX2_init, 1, none, 0, 2), (2, yX2_orderOf, cX2_orderOf, 5, some .int, 1, 0), (2, yX2_stillness, cX2_stillness, 2, some .int, 0, 1), (2, yX2_followedBy, cX2_followedBy, 4, some .int, 2, 1), (2, yX2_enter, cX2_enter, 4, none, 1, 0), (2, yX2_append, cX2_append, 3, none, 2, 0), (3, yX3_init, cX3_init, 1, none, 0, 2), (3, yX3_play, cX3_play, 7, none, 5, 0), (3, yX3_drawOrbits, cX3_drawOrbits, 3, none, 1, 0), (3, yX3_drawBelowTwo, cX3_drawBelowTwo, 1, some .int, 0, 0), (3, yX3_countSets, cX3_countSets, 5, none, 2, 0)]
def mm_mt_1 : List mm_MT := [(3, yX3_countSet, cX3_countSet, 3, none, 1, 0), (3, yX3_isEven, cX3_isEven, 3, some .boolean, 1, 0), (4, yX4_init, cX4_init, 1, none, 0, 2), (4, yX4_areAlike, cX4_areAlike, 4, some .boolean, 3, 0), (4, yX4_selvesOf, cX4_selvesOf, 9, some .int, 2, 0), (4, yX4_canPlace, cX4_canPlace, 8, some .boolean, 5, 0), (4, yX4_fits, cX4_fits, 8, some .boolean, 4, 0), (5, yX5_init, cX5_init, 1, none, 0, 2), (5, yX5_find, cX5_find, 4, none, 1, 0), (5, yX5_spread, cX5_spread, 8, none, 3, 0), (5, yX5_enter, cX5_enter, 4, some .int, 3, 0), (5, yX5_amountOf, cX5_amountOf, 2, some .int, 1, 0), (5, yX5_isOrbit, cX5_isOrbit, 3, some .boolean, 2, 0), (5, yX5_numberOf, cX5_numberOf, 2, some .int, 1, 0), (5, yX5_holds, cX5_holds, 4, some .boolean, 3, 0), (5, yX5_setAt, cX5_setAt, 6, some .int, 3, 0), (5, yX5_greatestOf, cX5_greatestOf, 4, some .int, 2, 0), (5, yX5_setsIn, cX5_setsIn, 3, some .int, 2, 0), (5, yX5_setsAround, cX5_setsAround, 6, some .int, 3, 0), (6, yX6_init, cX6_init, 2, none, 0, 2), (6, yX6_restart, cX6_restart, 2, none, 1, 0), (6, yX6_copyFrom, cX6_copyFrom, 5, none, 1, 0), (6, yX6_isPoint, cX6_isPoint, 2, some .boolean, 1, 0), (6, yX6_isSize, cX6_isSize, 2, some .boolean, 1, 0), (6, yX6_isSet, cX6_isSet, 2, some .boolean, 1, 0), (6, yX6_whole, cX6_whole, 1, some .int, 0, 0), (6, yX6_wayAt, cX6_wayAt, 2, some (.object "OrbitDesigns$Way"), 1, 0), (6, yX6_spareWay, cX6_spareWay, 1, some (.object "OrbitDesigns$Way"), 0, 0), (6, yX6_removeWay, cX6_removeWay, 5, none, 1, 0), (6, yX6_designAt, cX6_designAt, 2, some (.object "OrbitDesigns$Blocks"), 1, 0), (6, yX6_spareDesign, cX6_spareDesign, 1, some (.object "OrbitDesigns$Blocks"), 0, 0), (7, yX7_init, cX7_init, 1, none, 0, 2), (7, yX7_become, cX7_become, 3, none, 2, 0), (7, yX7_isPlace, cX7_isPlace, 2, some .boolean, 1, 0), (7, yX7_itemAt, cX7_itemAt, 2, some .long, 1, 0), (7, yX7_put, cX7_put, 4, none, 2, 0), (7, yX7_cut, cX7_cut, 3, some .long, 1, 0), (7, yX7_hasPlaces, cX7_hasPlaces, 3, some .boolean, 2, 0), (7, yX7_copyItems, cX7_copyItems, 5, none, 4, 0), (8, yX8_init, cX8_init, 1, none, 0, 2)]
def mm_mt_2 : List mm_MT := [(8, yX8_append, cX8_append, 2, some .boolean, 1, 0), (8, yX8_signAt, cX8_signAt, 2, some .int, 1, 0), (8, yX8_digitAt, cX8_digitAt, 3, some .int, 1, 0), (8, yX8_digitsFrom, cX8_digitsFrom, 4, some .int, 2, 0), (8, yX8_numberIn, cX8_numberIn, 5, some .int, 2, 0), (8, yX8_fault, cX8_fault, 7, some .int, 0, 0), (8, yX8_leastDigits, cX8_leastDigits, 1, some .int, 1, 1), (8, yX8_mostDigits, cX8_mostDigits, 1, some .int, 1, 1), (9, yX9_init, cX9_init, 1, none, 0, 2), (9, yX9_copyFrom, cX9_copyFrom, 2, none, 1, 0), (9, yX9_becomeKind, cX9_becomeKind, 5, none, 3, 0), (9, yX9_targetByKind, cX9_targetByKind, 3, some .int, 2, 0), (9, yX9_swapped, cX9_swapped, 3, some .int, 3, 1), (9, yX9_becomeByHand, cX9_becomeByHand, 5, none, 2, 0), (9, yX9_pointFor, cX9_pointFor, 2, some .int, 1, 0), (9, yX9_setFor, cX9_setFor, 4, some .int, 1, 0), (9, yX9_period, cX9_period, 2, some .int, 0, 0), (9, yX9_isDoneAfter, cX9_isDoneAfter, 5, some .boolean, 1, 0), (10, yX10_init, cX10_init, 2, none, 0, 2), (10, yX10_points, cX10_points, 3, some .int, 1, 0), (10, yX10_way, cX10_way, 4, some .int, 2, 0), (10, yX10_hand, cX10_hand, 3, some .int, 1, 0), (10, yX10_drop, cX10_drop, 2, some .int, 1, 0), (10, yX10_wayOf, cX10_wayOf, 4, some .int, 2, 0), (10, yX10_takes, cX10_takes, 4, some .int, 2, 0), (10, yX10_moves, cX10_moves, 4, some .int, 2, 0), (10, yX10_order, cX10_order, 1, some .int, 0, 0), (10, yX10_orbits, cX10_orbits, 2, some .int, 1, 0), (10, yX10_orbit, cX10_orbit, 4, some .int, 3, 0), (10, yX10_member, cX10_member, 4, some .int, 3, 0), (10, yX10_orbitOf, cX10_orbitOf, 2, some .int, 1, 0), (10, yX10_table, cX10_table, 5, some .int, 4, 0), (10, yX10_solved, cX10_solved, 5, some .int, 4, 0), (10, yX10_solution, cX10_solution, 5, some .int, 4, 0), (10, yX10_cover, cX10_cover, 4, some .int, 3, 0), (10, yX10_choose, cX10_choose, 3, some .int, 2, 0), (10, yX10_block, cX10_block, 2, some .int, 1, 0), (10, yX10_blockOf, cX10_blockOf, 2, some .int, 1, 0), (10, yX10_blocks, cX10_blocks, 2, some .int, 1, 0), (10, yX10_share, cX10_share, 2, some .int, 1, 0)]
def mm_mt_3 : List mm_MT := [(10, yX10_meets, cX10_meets, 3, some .int, 2, 0), (10, yX10_turned, cX10_turned, 1, some .int, 0, 0), (10, yX10_parted, cX10_parted, 3, some .int, 2, 0), (10, yX10_keep, cX10_keep, 2, some .int, 0, 0), (10, yX10_design, cX10_design, 4, some .int, 2, 0), (10, yX10_alike, cX10_alike, 5, some .int, 2, 0), (10, yX10_selves, cX10_selves, 3, some .int, 1, 0), (10, yX10_unlike, cX10_unlike, 6, some .int, 3, 0), (10, yX10_lots, cX10_lots, 5, some .int, 4, 0), (10, yX10_feed, cX10_feed, 2, some .int, 1, 0), (10, yX10_read, cX10_read, 3, some .int, 0, 0), (10, yX10_judge, cX10_judge, 5, some .int, 2, 0), (10, yX10_image, cX10_image, 1, some .int, 0, 0), (10, yX10_undo, cX10_undo, 1, some .int, 0, 0), (10, yX10_count, cX10_count, 2, some .int, 1, 0), (10, yX10_tape, cX10_tape, 5, some .int, 3, 0), (10, yX10_item, cX10_item, 6, some .int, 3, 0), (10, yX10_peek, cX10_peek, 4, some .long, 2, 0), (10, yX10_shift, cX10_shift, 8, some .int, 5, 0), (10, yX10_areSizes, cX10_areSizes, 3, some .boolean, 2, 0), (10, yX10_isAim, cX10_isAim, 1, some .boolean, 1, 1), (10, yX10_hasBitsFrom, cX10_hasBitsFrom, 2, some .boolean, 2, 1), (10, yX10_haveDivisorInCommon, cX10_haveDivisorInCommon, 3, some .boolean, 2, 1), (10, yX10_isArrangement, cX10_isArrangement, 6, some .boolean, 2, 1), (10, yX10_loadChoices, cX10_loadChoices, 3, some .boolean, 2, 0), (10, yX10_isLikeAnEarlierSolution, cX10_isLikeAnEarlierSolution, 4, some .boolean, 2, 0), (10, yX10_doClauses, cX10_doClauses, 5, some .int, 0, 0), (10, yX10_doClause, cX10_doClause, 4, some .boolean, 2, 0), (10, yX10_doBlockClause, cX10_doBlockClause, 6, some .boolean, 2, 0), (10, yX10_tapeAt, cX10_tapeAt, 2, some (.object "OrbitDesigns$Tape"), 1, 0), (10, yX10_modulo, cX10_modulo, 2, some .int, 2, 1), (11, yX11_init, cX11_init, 1, none, 0, 2), (11, yX11_in, cX11_in, 6, some .boolean, 3, 1), (11, yX11_starts, cX11_starts, 3, none, 1, 0), (11, yX11_size, cX11_size, 3, some .int, 1, 1), (11, yX11_whole, cX11_whole, 1, some .int, 0, 0), (11, yX11_isSet, cX11_isSet, 2, some .boolean, 1, 0), (11, yX11_isPoint, cX11_isPoint, 2, some .boolean, 1, 0), (11, yX11_isWay, cX11_isWay, 2, some .boolean, 1, 0), (11, yX11_points, cX11_points, 3, some .int, 1, 0)]
def mm_mt_4 : List mm_MT := [(11, yX11_common, cX11_common, 2, some .int, 2, 1), (11, yX11_goes, cX11_goes, 7, some .int, 3, 0), (11, yX11_way, cX11_way, 5, some .int, 2, 0), (11, yX11_hand, cX11_hand, 6, some .int, 1, 0), (11, yX11_drop, cX11_drop, 4, some .int, 1, 0), (11, yX11_to, cX11_to, 3, some .int, 2, 0), (11, yX11_moved, cX11_moved, 5, some .int, 2, 0), (11, yX11_timesOf, cX11_timesOf, 6, some .int, 1, 0), (11, yX11_holds, cX11_holds, 3, some .boolean, 1, 0), (11, yX11_wayOf, cX11_wayOf, 3, some .int, 2, 0), (11, yX11_takes, cX11_takes, 3, some .int, 2, 0), (11, yX11_moves, cX11_moves, 3, some .int, 2, 0), (11, yX11_order, cX11_order, 6, some .int, 0, 0), (11, yX11_finds, cX11_finds, 7, none, 0, 0), (11, yX11_isSize, cX11_isSize, 2, some .boolean, 1, 0), (11, yX11_orbits, cX11_orbits, 2, some .int, 1, 0), (11, yX11_isIn, cX11_isIn, 4, some .boolean, 3, 0), (11, yX11_least, cX11_least, 4, some .int, 2, 0), (11, yX11_orbit, cX11_orbit, 7, some .int, 3, 0), (11, yX11_member, cX11_member, 6, some .int, 3, 0), (11, yX11_orbitOf, cX11_orbitOf, 2, some .int, 1, 0), (11, yX11_areSizes, cX11_areSizes, 3, some .boolean, 2, 0), (11, yX11_tables, cX11_tables, 6, none, 2, 0), (11, yX11_table, cX11_table, 5, some .int, 4, 0), (11, yX11_sum, cX11_sum, 6, some .int, 3, 0), (11, yX11_solves, cX11_solves, 6, some .boolean, 4, 0), (11, yX11_nth, cX11_nth, 7, some .int, 4, 0), (11, yX11_solved, cX11_solved, 5, some .int, 4, 0), (11, yX11_solution, cX11_solution, 5, some .int, 4, 0), (11, yX11_covers, cX11_covers, 5, some .boolean, 3, 0), (11, yX11_cover, cX11_cover, 9, some .int, 3, 0), (11, yX11_many, cX11_many, 3, some .int, 1, 1), (11, yX11_choose, cX11_choose, 4, some .int, 2, 0), (11, yX11_block, cX11_block, 2, some .int, 1, 0), (11, yX11_blockOf, cX11_blockOf, 4, some .int, 1, 0), (11, yX11_shareOf, cX11_shareOf, 7, some .int, 3, 1), (11, yX11_strengthOf, cX11_strengthOf, 4, some .int, 3, 1), (11, yX11_blocks, cX11_blocks, 4, some .int, 1, 0), (11, yX11_share, cX11_share, 2, some .int, 1, 0), (11, yX11_meets, cX11_meets, 5, some .int, 2, 0)]
def mm_mt_5 : List mm_MT := [(11, yX11_turned, cX11_turned, 2, some .int, 0, 0), (11, yX11_parted, cX11_parted, 5, some .int, 2, 0), (11, yX11_keep, cX11_keep, 3, some .int, 0, 0), (11, yX11_isDesign, cX11_isDesign, 2, some .boolean, 1, 0), (11, yX11_design, cX11_design, 3, some .int, 2, 0), (11, yX11_lined, cX11_lined, 4, some .int, 1, 0), (11, yX11_waysFrom, cX11_waysFrom, 8, some .int, 5, 0), (11, yX11_areAlike, cX11_areAlike, 3, some .boolean, 2, 0), (11, yX11_alike, cX11_alike, 3, some .int, 2, 0), (11, yX11_selves, cX11_selves, 2, some .int, 1, 0), (11, yX11_unlike, cX11_unlike, 10, some .int, 3, 0), (11, yX11_lots, cX11_lots, 12, some .int, 4, 0), (11, yX11_feed, cX11_feed, 2, some .int, 1, 0), (11, yX11_here, cX11_here, 1, some .int, 0, 0), (11, yX11_hasClause, cX11_hasClause, 4, some .boolean, 0, 0), (11, yX11_isDone, cX11_isDone, 2, some .boolean, 1, 0), (11, yX11_read, cX11_read, 6, some .int, 0, 0), (11, yX11_isTape, cX11_isTape, 1, some .boolean, 1, 1), (11, yX11_judge, cX11_judge, 5, some .int, 2, 0), (11, yX11_tape, cX11_tape, 5, some .int, 3, 0), (11, yX11_item, cX11_item, 5, some .int, 3, 0), (11, yX11_peek, cX11_peek, 3, some .long, 2, 0), (11, yX11_shift, cX11_shift, 7, some .int, 5, 0), (11, yX11_copies, cX11_copies, 6, none, 4, 1), (11, yX11_image, cX11_image, 1, some .int, 0, 0), (11, yX11_undo, cX11_undo, 1, some .int, 0, 0), (11, yX11_count, cX11_count, 2, some .int, 1, 0), (12, yJ6_bitCount_0f7a4, cJ6_bitCount_0f7a4, 1, some .int, 1, 1), (13, yJ9_max_7cf53, cJ9_max_7cf53, 2, some .int, 2, 8), (13, yJ9_min_7cf53, cJ9_min_7cf53, 2, some .int, 2, 8), (14, yJ7_fill_d0a16, cJ7_fill_d0a16, 5, none, 2, 1), (14, yJ7_fill_53178, cJ7_fill_53178, 4, none, 2, 1), (15, yL_law, cL_law, 4, some .boolean, 1, 3)]
def mm_mt : List mm_MT := mm_mt_0 ++ (mm_mt_1 ++ (mm_mt_2 ++ (mm_mt_3 ++ (mm_mt_4 ++ (mm_mt_5)))))
def mm_m (k : Nat) : mm_MT := mm_mt.getD k (99, ⟨"", "", ""⟩, ByteArray.empty, 0, none, 0, 9)
def mm_o (k : Nat) := (mm_m k).1
def mm_y (k : Nat) := (mm_m k).2.1
def mm_b (k : Nat) := (mm_m k).2.2.1
def mm_nL (k : Nat) := (mm_m k).2.2.2.1
def mm_rt (k : Nat) := (mm_m k).2.2.2.2.1
def mm_np (k : Nat) := (mm_m k).2.2.2.2.2.1
def mm_kd (k : Nat) := (mm_m k).2.2.2.2.2.2
theorem mb_0 : mm_b 0 = cX0_init := rfl
theorem mb_1 : mm_b 1 = cX0_becomeEmpty := rfl
theorem mb_2 : mm_b 2 = cX0_copyFrom := rfl
theorem mb_3 : mm_b 3 = cX0_becomeChoice := rfl
theorem mb_4 : mm_b 4 = cX0_becomePart := rfl
theorem mb_5 : mm_b 5 = cX0_has := rfl
theorem mb_6 : mm_b 6 = cX0_put := rfl
theorem mb_7 : mm_b 7 = cX0_setAt := rfl
theorem mb_8 : mm_b 8 = cX0_union := rfl
theorem mb_9 : mm_b 9 = cX0_areKeptBy := rfl
theorem mb_10 : mm_b 10 = cX0_meeting := rfl
theorem mb_11 : mm_b 11 = cX0_around := rfl
theorem mb_12 : mm_b 12 = cX0_shareOn := rfl
theorem mb_13 : mm_b 13 = cX0_strengthOn := rfl
theorem mb_14 : mm_b 14 = cX0_turn := rfl
theorem mb_15 : mm_b 15 = cX1_init := rfl
theorem mb_16 : mm_b 16 = cX1_load := rfl
theorem mb_17 : mm_b 17 = cX1_loadRow := rfl
theorem mb_18 : mm_b 18 = cX1_countSet := rfl
theorem mb_19 : mm_b 19 = cX1_numberAt := rfl
theorem mb_20 : mm_b 20 = cX1_solve := rfl
theorem mb_21 : mm_b 21 = cX1_searchSolutions := rfl
theorem mb_22 : mm_b 22 = cX1_change := rfl
theorem mb_23 : mm_b 23 = cX1_canSolve := rfl
theorem mb_24 : mm_b 24 = cX1_noteSolution := rfl
theorem mb_25 : mm_b 25 = cX1_earlySolution := rfl
theorem mb_26 : mm_b 26 = cX1_findFewest := rfl
theorem mb_27 : mm_b 27 = cX1_searchCovers := rfl
theorem mb_28 : mm_b 28 = cX1_covers := rfl
theorem mb_29 : mm_b 29 = cX2_init := rfl
theorem mb_30 : mm_b 30 = cX2_orderOf := rfl
theorem mb_31 : mm_b 31 = cX2_stillness := rfl
theorem mb_32 : mm_b 32 = cX2_followedBy := rfl
theorem mb_33 : mm_b 33 = cX2_enter := rfl
theorem mb_34 : mm_b 34 = cX2_append := rfl
theorem mb_35 : mm_b 35 = cX3_init := rfl
theorem mb_36 : mm_b 36 = cX3_play := rfl
theorem mb_37 : mm_b 37 = cX3_drawOrbits := rfl
theorem mb_38 : mm_b 38 = cX3_drawBelowTwo := rfl
theorem mb_39 : mm_b 39 = cX3_countSets := rfl
theorem mb_40 : mm_b 40 = cX3_countSet := rfl
theorem mb_41 : mm_b 41 = cX3_isEven := rfl
theorem mb_42 : mm_b 42 = cX4_init := rfl
theorem mb_43 : mm_b 43 = cX4_areAlike := rfl
theorem mb_44 : mm_b 44 = cX4_selvesOf := rfl
theorem mb_45 : mm_b 45 = cX4_canPlace := rfl
theorem mb_46 : mm_b 46 = cX4_fits := rfl
theorem mb_47 : mm_b 47 = cX5_init := rfl
theorem mb_48 : mm_b 48 = cX5_find := rfl
theorem mb_49 : mm_b 49 = cX5_spread := rfl
theorem mb_50 : mm_b 50 = cX5_enter := rfl
theorem mb_51 : mm_b 51 = cX5_amountOf := rfl
theorem mb_52 : mm_b 52 = cX5_isOrbit := rfl
theorem mb_53 : mm_b 53 = cX5_numberOf := rfl
theorem mb_54 : mm_b 54 = cX5_holds := rfl
theorem mb_55 : mm_b 55 = cX5_setAt := rfl
theorem mb_56 : mm_b 56 = cX5_greatestOf := rfl
theorem mb_57 : mm_b 57 = cX5_setsIn := rfl
theorem mb_58 : mm_b 58 = cX5_setsAround := rfl
theorem mb_59 : mm_b 59 = cX6_init := rfl
theorem mb_60 : mm_b 60 = cX6_restart := rfl
theorem mb_61 : mm_b 61 = cX6_copyFrom := rfl
theorem mb_62 : mm_b 62 = cX6_isPoint := rfl
theorem mb_63 : mm_b 63 = cX6_isSize := rfl
theorem mb_64 : mm_b 64 = cX6_isSet := rfl
theorem mb_65 : mm_b 65 = cX6_whole := rfl
theorem mb_66 : mm_b 66 = cX6_wayAt := rfl
theorem mb_67 : mm_b 67 = cX6_spareWay := rfl
theorem mb_68 : mm_b 68 = cX6_removeWay := rfl
theorem mb_69 : mm_b 69 = cX6_designAt := rfl
theorem mb_70 : mm_b 70 = cX6_spareDesign := rfl
theorem mb_71 : mm_b 71 = cX7_init := rfl
theorem mb_72 : mm_b 72 = cX7_become := rfl
theorem mb_73 : mm_b 73 = cX7_isPlace := rfl
theorem mb_74 : mm_b 74 = cX7_itemAt := rfl
theorem mb_75 : mm_b 75 = cX7_put := rfl
theorem mb_76 : mm_b 76 = cX7_cut := rfl
theorem mb_77 : mm_b 77 = cX7_hasPlaces := rfl
theorem mb_78 : mm_b 78 = cX7_copyItems := rfl
theorem mb_79 : mm_b 79 = cX8_init := rfl
theorem mb_80 : mm_b 80 = cX8_append := rfl
theorem mb_81 : mm_b 81 = cX8_signAt := rfl
theorem mb_82 : mm_b 82 = cX8_digitAt := rfl
theorem mb_83 : mm_b 83 = cX8_digitsFrom := rfl
theorem mb_84 : mm_b 84 = cX8_numberIn := rfl
theorem mb_85 : mm_b 85 = cX8_fault := rfl
theorem mb_86 : mm_b 86 = cX8_leastDigits := rfl
theorem mb_87 : mm_b 87 = cX8_mostDigits := rfl
theorem mb_88 : mm_b 88 = cX9_init := rfl
theorem mb_89 : mm_b 89 = cX9_copyFrom := rfl
theorem mb_90 : mm_b 90 = cX9_becomeKind := rfl
theorem mb_91 : mm_b 91 = cX9_targetByKind := rfl
theorem mb_92 : mm_b 92 = cX9_swapped := rfl
theorem mb_93 : mm_b 93 = cX9_becomeByHand := rfl
theorem mb_94 : mm_b 94 = cX9_pointFor := rfl
theorem mb_95 : mm_b 95 = cX9_setFor := rfl
theorem mb_96 : mm_b 96 = cX9_period := rfl
theorem mb_97 : mm_b 97 = cX9_isDoneAfter := rfl
theorem mb_98 : mm_b 98 = cX10_init := rfl
theorem mb_99 : mm_b 99 = cX10_points := rfl
theorem mb_100 : mm_b 100 = cX10_way := rfl
theorem mb_101 : mm_b 101 = cX10_hand := rfl
theorem mb_102 : mm_b 102 = cX10_drop := rfl
theorem mb_103 : mm_b 103 = cX10_wayOf := rfl
theorem mb_104 : mm_b 104 = cX10_takes := rfl
theorem mb_105 : mm_b 105 = cX10_moves := rfl
theorem mb_106 : mm_b 106 = cX10_order := rfl
theorem mb_107 : mm_b 107 = cX10_orbits := rfl
theorem mb_108 : mm_b 108 = cX10_orbit := rfl
theorem mb_109 : mm_b 109 = cX10_member := rfl
theorem mb_110 : mm_b 110 = cX10_orbitOf := rfl
theorem mb_111 : mm_b 111 = cX10_table := rfl
theorem mb_112 : mm_b 112 = cX10_solved := rfl
theorem mb_113 : mm_b 113 = cX10_solution := rfl
theorem mb_114 : mm_b 114 = cX10_cover := rfl
theorem mb_115 : mm_b 115 = cX10_choose := rfl
theorem mb_116 : mm_b 116 = cX10_block := rfl
theorem mb_117 : mm_b 117 = cX10_blockOf := rfl
theorem mb_118 : mm_b 118 = cX10_blocks := rfl
theorem mb_119 : mm_b 119 = cX10_share := rfl
theorem mb_120 : mm_b 120 = cX10_meets := rfl
theorem mb_121 : mm_b 121 = cX10_turned := rfl
theorem mb_122 : mm_b 122 = cX10_parted := rfl
theorem mb_123 : mm_b 123 = cX10_keep := rfl
theorem mb_124 : mm_b 124 = cX10_design := rfl
theorem mb_125 : mm_b 125 = cX10_alike := rfl
theorem mb_126 : mm_b 126 = cX10_selves := rfl
theorem mb_127 : mm_b 127 = cX10_unlike := rfl
theorem mb_128 : mm_b 128 = cX10_lots := rfl
theorem mb_129 : mm_b 129 = cX10_feed := rfl
theorem mb_130 : mm_b 130 = cX10_read := rfl
theorem mb_131 : mm_b 131 = cX10_judge := rfl
theorem mb_132 : mm_b 132 = cX10_image := rfl
theorem mb_133 : mm_b 133 = cX10_undo := rfl
theorem mb_134 : mm_b 134 = cX10_count := rfl
theorem mb_135 : mm_b 135 = cX10_tape := rfl
theorem mb_136 : mm_b 136 = cX10_item := rfl
theorem mb_137 : mm_b 137 = cX10_peek := rfl
theorem mb_138 : mm_b 138 = cX10_shift := rfl
theorem mb_139 : mm_b 139 = cX10_areSizes := rfl
theorem mb_140 : mm_b 140 = cX10_isAim := rfl
theorem mb_141 : mm_b 141 = cX10_hasBitsFrom := rfl
theorem mb_142 : mm_b 142 = cX10_haveDivisorInCommon := rfl
theorem mb_143 : mm_b 143 = cX10_isArrangement := rfl
theorem mb_144 : mm_b 144 = cX10_loadChoices := rfl
theorem mb_145 : mm_b 145 = cX10_isLikeAnEarlierSolution := rfl
theorem mb_146 : mm_b 146 = cX10_doClauses := rfl
theorem mb_147 : mm_b 147 = cX10_doClause := rfl
theorem mb_148 : mm_b 148 = cX10_doBlockClause := rfl
theorem mb_149 : mm_b 149 = cX10_tapeAt := rfl
theorem mb_150 : mm_b 150 = cX10_modulo := rfl
theorem mb_151 : mm_b 151 = cX11_init := rfl
theorem mb_152 : mm_b 152 = cX11_in := rfl
theorem mb_153 : mm_b 153 = cX11_starts := rfl
theorem mb_154 : mm_b 154 = cX11_size := rfl
theorem mb_155 : mm_b 155 = cX11_whole := rfl
theorem mb_156 : mm_b 156 = cX11_isSet := rfl
theorem mb_157 : mm_b 157 = cX11_isPoint := rfl
theorem mb_158 : mm_b 158 = cX11_isWay := rfl
theorem mb_159 : mm_b 159 = cX11_points := rfl
theorem mb_160 : mm_b 160 = cX11_common := rfl
theorem mb_161 : mm_b 161 = cX11_goes := rfl
theorem mb_162 : mm_b 162 = cX11_way := rfl
theorem mb_163 : mm_b 163 = cX11_hand := rfl
theorem mb_164 : mm_b 164 = cX11_drop := rfl
theorem mb_165 : mm_b 165 = cX11_to := rfl
theorem mb_166 : mm_b 166 = cX11_moved := rfl
theorem mb_167 : mm_b 167 = cX11_timesOf := rfl
theorem mb_168 : mm_b 168 = cX11_holds := rfl
theorem mb_169 : mm_b 169 = cX11_wayOf := rfl
theorem mb_170 : mm_b 170 = cX11_takes := rfl
theorem mb_171 : mm_b 171 = cX11_moves := rfl
theorem mb_172 : mm_b 172 = cX11_order := rfl
theorem mb_173 : mm_b 173 = cX11_finds := rfl
theorem mb_174 : mm_b 174 = cX11_isSize := rfl
theorem mb_175 : mm_b 175 = cX11_orbits := rfl
theorem mb_176 : mm_b 176 = cX11_isIn := rfl
theorem mb_177 : mm_b 177 = cX11_least := rfl
theorem mb_178 : mm_b 178 = cX11_orbit := rfl
theorem mb_179 : mm_b 179 = cX11_member := rfl
theorem mb_180 : mm_b 180 = cX11_orbitOf := rfl
theorem mb_181 : mm_b 181 = cX11_areSizes := rfl
theorem mb_182 : mm_b 182 = cX11_tables := rfl
theorem mb_183 : mm_b 183 = cX11_table := rfl
theorem mb_184 : mm_b 184 = cX11_sum := rfl
theorem mb_185 : mm_b 185 = cX11_solves := rfl
theorem mb_186 : mm_b 186 = cX11_nth := rfl
theorem mb_187 : mm_b 187 = cX11_solved := rfl
theorem mb_188 : mm_b 188 = cX11_solution := rfl
theorem mb_189 : mm_b 189 = cX11_covers := rfl
theorem mb_190 : mm_b 190 = cX11_cover := rfl
theorem mb_191 : mm_b 191 = cX11_many := rfl
theorem mb_192 : mm_b 192 = cX11_choose := rfl
theorem mb_193 : mm_b 193 = cX11_block := rfl
theorem mb_194 : mm_b 194 = cX11_blockOf := rfl
theorem mb_195 : mm_b 195 = cX11_shareOf := rfl
theorem mb_196 : mm_b 196 = cX11_strengthOf := rfl
theorem mb_197 : mm_b 197 = cX11_blocks := rfl
theorem mb_198 : mm_b 198 = cX11_share := rfl
theorem mb_199 : mm_b 199 = cX11_meets := rfl
theorem mb_200 : mm_b 200 = cX11_turned := rfl
theorem mb_201 : mm_b 201 = cX11_parted := rfl
theorem mb_202 : mm_b 202 = cX11_keep := rfl
theorem mb_203 : mm_b 203 = cX11_isDesign := rfl
theorem mb_204 : mm_b 204 = cX11_design := rfl
theorem mb_205 : mm_b 205 = cX11_lined := rfl
theorem mb_206 : mm_b 206 = cX11_waysFrom := rfl
theorem mb_207 : mm_b 207 = cX11_areAlike := rfl
theorem mb_208 : mm_b 208 = cX11_alike := rfl
theorem mb_209 : mm_b 209 = cX11_selves := rfl
theorem mb_210 : mm_b 210 = cX11_unlike := rfl
theorem mb_211 : mm_b 211 = cX11_lots := rfl
theorem mb_212 : mm_b 212 = cX11_feed := rfl
theorem mb_213 : mm_b 213 = cX11_here := rfl
theorem mb_214 : mm_b 214 = cX11_hasClause := rfl
theorem mb_215 : mm_b 215 = cX11_isDone := rfl
theorem mb_216 : mm_b 216 = cX11_read := rfl
theorem mb_217 : mm_b 217 = cX11_isTape := rfl
theorem mb_218 : mm_b 218 = cX11_judge := rfl
theorem mb_219 : mm_b 219 = cX11_tape := rfl
theorem mb_220 : mm_b 220 = cX11_item := rfl
theorem mb_221 : mm_b 221 = cX11_peek := rfl
theorem mb_222 : mm_b 222 = cX11_shift := rfl
theorem mb_223 : mm_b 223 = cX11_copies := rfl
theorem mb_224 : mm_b 224 = cX11_image := rfl
theorem mb_225 : mm_b 225 = cX11_undo := rfl
theorem mb_226 : mm_b 226 = cX11_count := rfl
theorem mb_227 : mm_b 227 = cJ6_bitCount_0f7a4 := rfl
theorem mb_228 : mm_b 228 = cJ9_max_7cf53 := rfl
theorem mb_229 : mm_b 229 = cJ9_min_7cf53 := rfl
theorem mb_230 : mm_b 230 = cJ7_fill_d0a16 := rfl
theorem mb_231 : mm_b 231 = cJ7_fill_53178 := rfl
theorem mb_232 : mm_b 232 = cL_law := rfl
abbrev kX0_init : Nat := 0
abbrev kX0_becomeEmpty : Nat := 1
abbrev kX0_copyFrom : Nat := 2
abbrev kX0_becomeChoice : Nat := 3
abbrev kX0_becomePart : Nat := 4
abbrev kX0_has : Nat := 5
abbrev kX0_put : Nat := 6
abbrev kX0_setAt : Nat := 7
abbrev kX0_union : Nat := 8
abbrev kX0_areKeptBy : Nat := 9
abbrev kX0_meeting : Nat := 10
abbrev kX0_around : Nat := 11
abbrev kX0_shareOn : Nat := 12
abbrev kX0_strengthOn : Nat := 13
abbrev kX0_turn : Nat := 14
abbrev kX1_init : Nat := 15
abbrev kX1_load : Nat := 16
abbrev kX1_loadRow : Nat := 17
abbrev kX1_countSet : Nat := 18
abbrev kX1_numberAt : Nat := 19
abbrev kX1_solve : Nat := 20
abbrev kX1_searchSolutions : Nat := 21
abbrev kX1_change : Nat := 22
abbrev kX1_canSolve : Nat := 23
abbrev kX1_noteSolution : Nat := 24
abbrev kX1_earlySolution : Nat := 25
abbrev kX1_findFewest : Nat := 26
abbrev kX1_searchCovers : Nat := 27
abbrev kX1_covers : Nat := 28
abbrev kX2_init : Nat := 29
abbrev kX2_orderOf : Nat := 30
abbrev kX2_stillness : Nat := 31
abbrev kX2_followedBy : Nat := 32
abbrev kX2_enter : Nat := 33
abbrev kX2_append : Nat := 34
abbrev kX3_init : Nat := 35
abbrev kX3_play : Nat := 36
abbrev kX3_drawOrbits : Nat := 37
abbrev kX3_drawBelowTwo : Nat := 38
abbrev kX3_countSets : Nat := 39
abbrev kX3_countSet : Nat := 40
abbrev kX3_isEven : Nat := 41
abbrev kX4_init : Nat := 42
abbrev kX4_areAlike : Nat := 43
abbrev kX4_selvesOf : Nat := 44
abbrev kX4_canPlace : Nat := 45
abbrev kX4_fits : Nat := 46
abbrev kX5_init : Nat := 47
abbrev kX5_find : Nat := 48
abbrev kX5_spread : Nat := 49
abbrev kX5_enter : Nat := 50
abbrev kX5_amountOf : Nat := 51
abbrev kX5_isOrbit : Nat := 52
abbrev kX5_numberOf : Nat := 53
abbrev kX5_holds : Nat := 54
abbrev kX5_setAt : Nat := 55
abbrev kX5_greatestOf : Nat := 56
abbrev kX5_setsIn : Nat := 57
abbrev kX5_setsAround : Nat := 58
abbrev kX6_init : Nat := 59
abbrev kX6_restart : Nat := 60
abbrev kX6_copyFrom : Nat := 61
abbrev kX6_isPoint : Nat := 62
abbrev kX6_isSize : Nat := 63
abbrev kX6_isSet : Nat := 64
abbrev kX6_whole : Nat := 65
abbrev kX6_wayAt : Nat := 66
abbrev kX6_spareWay : Nat := 67
abbrev kX6_removeWay : Nat := 68
abbrev kX6_designAt : Nat := 69
abbrev kX6_spareDesign : Nat := 70
abbrev kX7_init : Nat := 71
abbrev kX7_become : Nat := 72
abbrev kX7_isPlace : Nat := 73
abbrev kX7_itemAt : Nat := 74
abbrev kX7_put : Nat := 75
abbrev kX7_cut : Nat := 76
abbrev kX7_hasPlaces : Nat := 77
abbrev kX7_copyItems : Nat := 78
abbrev kX8_init : Nat := 79
abbrev kX8_append : Nat := 80
abbrev kX8_signAt : Nat := 81
abbrev kX8_digitAt : Nat := 82
abbrev kX8_digitsFrom : Nat := 83
abbrev kX8_numberIn : Nat := 84
abbrev kX8_fault : Nat := 85
abbrev kX8_leastDigits : Nat := 86
abbrev kX8_mostDigits : Nat := 87
abbrev kX9_init : Nat := 88
abbrev kX9_copyFrom : Nat := 89
abbrev kX9_becomeKind : Nat := 90
abbrev kX9_targetByKind : Nat := 91
abbrev kX9_swapped : Nat := 92
abbrev kX9_becomeByHand : Nat := 93
abbrev kX9_pointFor : Nat := 94
abbrev kX9_setFor : Nat := 95
abbrev kX9_period : Nat := 96
abbrev kX9_isDoneAfter : Nat := 97
abbrev kX10_init : Nat := 98
abbrev kX10_points : Nat := 99
abbrev kX10_way : Nat := 100
abbrev kX10_hand : Nat := 101
abbrev kX10_drop : Nat := 102
abbrev kX10_wayOf : Nat := 103
abbrev kX10_takes : Nat := 104
abbrev kX10_moves : Nat := 105
abbrev kX10_order : Nat := 106
abbrev kX10_orbits : Nat := 107
abbrev kX10_orbit : Nat := 108
abbrev kX10_member : Nat := 109
abbrev kX10_orbitOf : Nat := 110
abbrev kX10_table : Nat := 111
abbrev kX10_solved : Nat := 112
abbrev kX10_solution : Nat := 113
abbrev kX10_cover : Nat := 114
abbrev kX10_choose : Nat := 115
abbrev kX10_block : Nat := 116
abbrev kX10_blockOf : Nat := 117
abbrev kX10_blocks : Nat := 118
abbrev kX10_share : Nat := 119
abbrev kX10_meets : Nat := 120
abbrev kX10_turned : Nat := 121
abbrev kX10_parted : Nat := 122
abbrev kX10_keep : Nat := 123
abbrev kX10_design : Nat := 124
abbrev kX10_alike : Nat := 125
abbrev kX10_selves : Nat := 126
abbrev kX10_unlike : Nat := 127
abbrev kX10_lots : Nat := 128
abbrev kX10_feed : Nat := 129
abbrev kX10_read : Nat := 130
abbrev kX10_judge : Nat := 131
abbrev kX10_image : Nat := 132
abbrev kX10_undo : Nat := 133
abbrev kX10_count : Nat := 134
abbrev kX10_tape : Nat := 135
abbrev kX10_item : Nat := 136
abbrev kX10_peek : Nat := 137
abbrev kX10_shift : Nat := 138
abbrev kX10_areSizes : Nat := 139
abbrev kX10_isAim : Nat := 140
abbrev kX10_hasBitsFrom : Nat := 141
abbrev kX10_haveDivisorInCommon : Nat := 142
abbrev kX10_isArrangement : Nat := 143
abbrev kX10_loadChoices : Nat := 144
abbrev kX10_isLikeAnEarlierSolution : Nat := 145
abbrev kX10_doClauses : Nat := 146
abbrev kX10_doClause : Nat := 147
abbrev kX10_doBlockClause : Nat := 148
abbrev kX10_tapeAt : Nat := 149
abbrev kX10_modulo : Nat := 150
abbrev kX11_init : Nat := 151
abbrev kX11_in : Nat := 152
abbrev kX11_starts : Nat := 153
abbrev kX11_size : Nat := 154
abbrev kX11_whole : Nat := 155
abbrev kX11_isSet : Nat := 156
abbrev kX11_isPoint : Nat := 157
abbrev kX11_isWay : Nat := 158
abbrev kX11_points : Nat := 159
abbrev kX11_common : Nat := 160
abbrev kX11_goes : Nat := 161
abbrev kX11_way : Nat := 162
abbrev kX11_hand : Nat := 163
abbrev kX11_drop : Nat := 164
abbrev kX11_to : Nat := 165
abbrev kX11_moved : Nat := 166
abbrev kX11_timesOf : Nat := 167
abbrev kX11_holds : Nat := 168
abbrev kX11_wayOf : Nat := 169
abbrev kX11_takes : Nat := 170
abbrev kX11_moves : Nat := 171
abbrev kX11_order : Nat := 172
abbrev kX11_finds : Nat := 173
abbrev kX11_isSize : Nat := 174
abbrev kX11_orbits : Nat := 175
abbrev kX11_isIn : Nat := 176
abbrev kX11_least : Nat := 177
abbrev kX11_orbit : Nat := 178
abbrev kX11_member : Nat := 179
abbrev kX11_orbitOf : Nat := 180
abbrev kX11_areSizes : Nat := 181
abbrev kX11_tables : Nat := 182
abbrev kX11_table : Nat := 183
abbrev kX11_sum : Nat := 184
abbrev kX11_solves : Nat := 185
abbrev kX11_nth : Nat := 186
abbrev kX11_solved : Nat := 187
abbrev kX11_solution : Nat := 188
abbrev kX11_covers : Nat := 189
abbrev kX11_cover : Nat := 190
abbrev kX11_many : Nat := 191
abbrev kX11_choose : Nat := 192
abbrev kX11_block : Nat := 193
abbrev kX11_blockOf : Nat := 194
abbrev kX11_shareOf : Nat := 195
abbrev kX11_strengthOf : Nat := 196
abbrev kX11_blocks : Nat := 197
abbrev kX11_share : Nat := 198
abbrev kX11_meets : Nat := 199
abbrev kX11_turned : Nat := 200
abbrev kX11_parted : Nat := 201
abbrev kX11_keep : Nat := 202
abbrev kX11_isDesign : Nat := 203
abbrev kX11_design : Nat := 204
abbrev kX11_lined : Nat := 205
abbrev kX11_waysFrom : Nat := 206
abbrev kX11_areAlike : Nat := 207
abbrev kX11_alike : Nat := 208
abbrev kX11_selves : Nat := 209
abbrev kX11_unlike : Nat := 210
abbrev kX11_lots : Nat := 211
abbrev kX11_feed : Nat := 212
abbrev kX11_here : Nat := 213
abbrev kX11_hasClause : Nat := 214
abbrev kX11_isDone : Nat := 215
abbrev kX11_read : Nat := 216
abbrev kX11_isTape : Nat := 217
abbrev kX11_judge : Nat := 218
abbrev kX11_tape : Nat := 219
abbrev kX11_item : Nat := 220
abbrev kX11_peek : Nat := 221
abbrev kX11_shift : Nat := 222
abbrev kX11_copies : Nat := 223
abbrev kX11_image : Nat := 224
abbrev kX11_undo : Nat := 225
abbrev kX11_count : Nat := 226
abbrev kJ6_bitCount_0f7a4 : Nat := 227
abbrev kJ9_max_7cf53 : Nat := 228
abbrev kJ9_min_7cf53 : Nat := 229
abbrev kJ7_fill_d0a16 : Nat := 230
abbrev kJ7_fill_53178 : Nat := 231
abbrev kL_law : Nat := 232
/-- of a class's fields: kind (0 int, 1 boolean, 2 reference), final -/
def mm_ft : List (List (Nat × Bool)) := [[(0, false), (0, false), (2, true)], [(2, true), (2, true), (2, true), (2, true), (2, true), (2, true), (0, false), (0, false), (0, false), (0, false), (0, false), (0, false)], [(2, true), (2, true), (0, false)], [(2, true), (2, true), (0, false), (0, false), (0, false)], [(2, true)], [(2, true), (2, true), (2, true)], [(0, false), (0, false), (0, false), (2, true), (2, true), (2, true)], [(0, false), (0, false), (2, true)], [(0, false), (2, true)], [(0, false), (0, false), (2, true)], [(2, true), (2, true), (1, false), (2, true), (2, true), (2, true), (2, true), (2, true), (2, true), (2, true), (2, true), (2, true)], [(2, true), (2, true), (2, true), (2, true), (1, false), (2, true), (2, true), (2, true), (2, true), (2, true), (2, true), (2, true), (2, true), (2, true), (2, true), (2, true), (0, false), (0, false), (0, false), (0, false), (0, false), (2, true), (2, true), (2, true), (2, true)]]
def mm_fk (c k : Nat) : Nat := (((mm_ft.getD c []).getD k (9, true))).1
def mm_ff (c k : Nat) : Bool := (((mm_ft.getD c []).getD k (9, true))).2
def mm_fn (c : Nat) : Nat := (mm_ft.getD c []).length
/-- field links: own class, entry; class, place; the word's place in tables_1 -/
def mm_fl : List (Nat × Nat × Nat × Nat × Nat) := [(0, 9, 0, 0, 37), (0, 15, 0, 1, 39), (0, 18, 0, 2, 41), (1, 9, 1, 0, 168), (1, 15, 1, 1, 169), (1, 18, 1, 2, 170), (1, 21, 1, 3, 171), (1, 24, 1, 4, 172), (1, 27, 1, 5, 173), (1, 42, 1, 6, 174), (1, 46, 1, 7, 175), (1, 78, 1, 8, 176), (1, 81, 1, 9, 177), (1, 84, 1, 11, 181), (1, 106, 1, 10, 179), (2, 9, 2, 0, 152), (2, 15, 2, 1, 153), (2, 24, 2, 2, 154), (2, 36, 6, 1, 74), (3, 9, 3, 0, 224), (3, 15, 3, 1, 225), (3, 19, 3, 2, 226), (3, 23, 3, 3, 227), (3, 26, 3, 4, 229), (4, 9, 4, 0, 214), (5, 9, 5, 0, 136), (5, 15, 5, 1, 137), (5, 18, 5, 2, 138), (5, 47, 6, 1, 75), (6, 9, 6, 0, 71), (6, 15, 6, 1, 73), (6, 18, 6, 2, 77), (6, 24, 6, 3, 79), (6, 30, 6, 4, 81), (6, 35, 6, 5, 82), (7, 9, 7, 0, 117), (7, 15, 7, 1, 119), (7, 18, 7, 2, 121), (8, 9, 8, 0, 102), (8, 15, 8, 1, 104), (9, 9, 9, 2, 61), (9, 15, 9, 0, 57), (9, 19, 9, 1, 59), (10, 12, 10, 0, 244), (10, 18, 10, 1, 245), (10, 21, 10, 2, 246), (10, 28, 10, 3, 247), (10, 34, 10, 4, 248), (10, 42, 10, 5, 249), (10, 49, 10, 6, 250), (10, 56, 10, 7, 251), (10, 63, 10, 8, 252), (10, 70, 10, 9, 253), (10, 77, 10, 10, 254), (10, 81, 10, 11, 255), (10, 84, 6, 0, 72), (10, 106, 6, 1, 76), (10, 123, 9, 0, 58), (10, 126, 9, 1, 60), (10, 129, 6, 3, 80), (10, 200, 1, 9, 178), (10, 203, 1, 11, 182), (10, 209, 1, 10, 180), (10, 219, 0, 1, 40), (10, 227, 0, 0, 38), (10, 269, 6, 2, 78), (10, 291, 3, 3, 228), (10, 294, 3, 4, 230), (10, 300, 8, 0, 103), (10, 313, 7, 0, 118), (10, 316, 7, 1, 120), (11, 11, 11, 0, 919), (11, 15, 11, 1, 920), (11, 20, 11, 2, 921), (11, 23, 11, 3, 922), (11, 26, 11, 5, 924), (11, 29, 11, 6, 925), (11, 32, 11, 7, 926), (11, 35, 11, 8, 927), (11, 38, 11, 9, 928), (11, 43, 11, 10, 929), (11, 46, 11, 11, 930), (11, 49, 11, 12, 931), (11, 53, 11, 13, 932), (11, 56, 11, 14, 933), (11, 59, 11, 15, 934), (11, 62, 11, 21, 940), (11, 65, 11, 22, 941), (11, 70, 11, 23, 942), (11, 73, 11, 24, 943), (11, 202, 11, 16, 935), (11, 206, 11, 17, 936), (11, 212, 11, 18, 937), (11, 215, 11, 19, 938), (11, 218, 11, 20, 939), (11, 260, 11, 4, 923)]
def mm_lf (o i : Nat) : Option (Nat × Nat) := (mm_fl.find? (fun e => e.1 == o && e.2.1 == i)).map (fun e => (e.2.2.1, e.2.2.2.1))
/-- method links: own class, entry; method, kind (0 of an object, 1 static, 2 constructor, 3 static of a nest mate, 4 arraycopy, 5 Object(), 6 max, 7 min); the word's place -/
def mm_mlk : List (Nat × Nat × Nat × Nat × Nat) := [(0, 3, 0, 5, 36), (0, 22, 5, 0, 367), (0, 26, 1, 0, 601), (0, 30, 53, 0, 602), (0, 36, 227, 1, 603), (0, 41, 6, 0, 604), (0, 45, 95, 0, 363), (0, 50, 11, 0, 635), (0, 53, 12, 0, 631), (1, 3, 0, 5, 167), (1, 30, 51, 0, 528), (1, 36, 0, 7, 529), (1, 49, 231, 1, 532), (1, 55, 57, 0, 533), (1, 58, 55, 0, 534), (1, 62, 17, 0, 535), (1, 66, 227, 1, 539), (1, 71, 53, 0, 540), (1, 74, 18, 0, 541), (1, 87, 19, 0, 549), (1, 90, 21, 0, 553), (1, 93, 24, 0, 557), (1, 97, 22, 0, 561), (1, 101, 23, 0, 565), (1, 109, 27, 0, 582), (1, 112, 28, 0, 586), (2, 3, 0, 5, 151), (2, 18, 231, 1, 413), (2, 28, 31, 1, 416), (2, 32, 33, 0, 419), (2, 41, 66, 0, 428), (2, 45, 32, 1, 429), (2, 49, 94, 0, 432), (2, 56, 34, 0, 424), (3, 3, 0, 5, 223), (3, 29, 51, 0, 737), (3, 35, 37, 0, 738), (3, 39, 39, 0, 749), (3, 43, 41, 0, 760), (3, 47, 38, 0, 742), (3, 56, 231, 1, 753), (3, 62, 53, 0, 754), (3, 65, 227, 1, 755), (3, 68, 40, 0, 756), (4, 3, 0, 5, 213), (4, 15, 45, 0, 700), (4, 19, 46, 0, 704), (4, 23, 5, 0, 708), (5, 3, 0, 5, 135), (5, 21, 231, 1, 445), (5, 27, 65, 0, 446), (5, 33, 227, 1, 447), (5, 39, 49, 0, 448), (5, 43, 50, 0, 452), (5, 51, 66, 0, 456), (5, 55, 95, 0, 457), (5, 60, 51, 0, 470), (5, 63, 53, 0, 479), (5, 66, 54, 0, 475), (5, 70, 58, 0, 487), (6, 3, 0, 5, 30), (6, 23, 0, 2, 33), (6, 34, 88, 2, 53), (6, 39, 1, 0, 289), (6, 43, 2, 0, 847), (6, 47, 66, 0, 347), (6, 51, 89, 0, 348), (6, 54, 69, 0, 848), (6, 58, 65, 0, 400), (7, 3, 0, 5, 116), (7, 22, 0, 7, 865), (7, 28, 0, 6, 866), (7, 31, 230, 1, 869), (7, 37, 73, 0, 834), (7, 43, 76, 0, 880), (7, 47, 77, 0, 901), (7, 51, 0, 4, 902), (8, 3, 0, 5, 101), (8, 19, 81, 0, 780), (8, 23, 82, 0, 791), (8, 26, 87, 1, 784), (8, 29, 83, 0, 787), (8, 33, 86, 1, 795), (9, 3, 0, 5, 56), (9, 22, 0, 4, 352), (9, 28, 91, 0, 308), (9, 32, 150, 3, 312), (9, 35, 92, 1, 315), (9, 39, 97, 0, 375), (9, 43, 94, 0, 379), (10, 3, 0, 5, 22), (10, 11, 59, 2, 27), (10, 27, 79, 2, 98), (10, 38, 71, 2, 113), (10, 41, 47, 2, 132), (10, 48, 29, 2, 148), (10, 55, 15, 2, 164), (10, 62, 42, 2, 210), (10, 69, 35, 2, 220), (10, 76, 0, 2, 243), (10, 88, 60, 0, 285), (10, 92, 142, 1, 297), (10, 96, 67, 0, 300), (10, 100, 90, 0, 304), (10, 109, 143, 1, 322), (10, 112, 93, 0, 331), (10, 116, 66, 0, 339), (10, 120, 68, 0, 343), (10, 132, 9, 0, 359), (10, 136, 96, 0, 371), (10, 140, 62, 0, 387), (10, 144, 94, 0, 391), (10, 148, 64, 0, 396), (10, 151, 95, 0, 404), (10, 154, 30, 0, 409), (10, 158, 63, 0, 437), (10, 161, 48, 0, 441), (10, 165, 51, 0, 458), (10, 168, 52, 0, 466), (10, 171, 55, 0, 471), (10, 175, 57, 0, 483), (10, 179, 56, 0, 491), (10, 182, 53, 0, 503), (10, 185, 139, 0, 508), (10, 188, 58, 0, 512), (10, 191, 140, 1, 517), (10, 194, 144, 0, 520), (10, 197, 20, 0, 545), (10, 206, 26, 0, 577), (10, 212, 141, 1, 594), (10, 215, 3, 0, 597), (10, 222, 227, 1, 325), (10, 230, 5, 0, 612), (10, 233, 6, 0, 613), (10, 237, 7, 0, 618), (10, 239, 65, 0, 626), (10, 242, 13, 0, 627), (10, 245, 8, 0, 639), (10, 248, 12, 0, 647), (10, 251, 10, 0, 652), (10, 254, 14, 0, 660), (10, 257, 4, 0, 668), (10, 261, 70, 0, 676), (10, 265, 2, 0, 680), (10, 272, 69, 0, 688), (10, 276, 43, 0, 696), (10, 280, 44, 0, 713), (10, 284, 145, 0, 721), (10, 287, 36, 0, 733), (10, 297, 80, 0, 768), (10, 303, 85, 0, 776), (10, 306, 146, 0, 798), (10, 309, 149, 0, 826), (10, 317, 74, 0, 830), (10, 321, 61, 0, 843), (10, 323, 72, 0, 861), (10, 326, 75, 0, 876), (10, 331, 77, 0, 893), (10, 334, 78, 0, 897), (10, 338, 16, 0, 524), (10, 341, 25, 0, 725), (10, 344, 83, 0, 802), (10, 347, 147, 0, 803), (10, 350, 84, 0, 807), (10, 353, 81, 0, 811), (10, 356, 99, 0, 812), (10, 359, 100, 0, 813), (10, 362, 101, 0, 814), (10, 365, 115, 0, 815), (10, 368, 148, 0, 816), (10, 371, 82, 0, 820), (10, 374, 116, 0, 821), (11, 3, 0, 5, 908), (11, 77, 153, 0, 915), (11, 81, 155, 0, 1041), (11, 85, 152, 1, 1001), (11, 93, 160, 1, 1010), (11, 101, 161, 0, 1013), (11, 105, 157, 0, 1021), (11, 109, 158, 0, 1029), (11, 112, 165, 0, 1049), (11, 115, 166, 0, 1045), (11, 118, 168, 0, 1037), (11, 121, 167, 0, 1053), (11, 125, 156, 0, 1065), (11, 128, 154, 1, 1085), (11, 131, 174, 0, 1077), (11, 134, 173, 0, 1081), (11, 137, 176, 0, 1093), (11, 143, 177, 0, 1097), (11, 146, 181, 0, 1113), (11, 150, 182, 0, 1117), (11, 154, 184, 0, 1134), (11, 157, 185, 0, 1130), (11, 163, 186, 0, 1126), (11, 167, 189, 0, 1146), (11, 170, 191, 1, 1154), (11, 174, 195, 1, 1172), (11, 178, 196, 1, 1169), (11, 181, 203, 0, 1199), (11, 184, 205, 0, 1215), (11, 187, 206, 0, 1211), (11, 191, 207, 0, 1207), (11, 209, 213, 0, 1244), (11, 225, 159, 0, 1258), (11, 228, 162, 0, 1259), (11, 231, 163, 0, 1260), (11, 234, 192, 0, 1261), (11, 237, 193, 0, 1262), (11, 240, 214, 0, 1248), (11, 244, 215, 0, 1254), (11, 249, 217, 1, 1267), (11, 256, 223, 1, 1293), (15, 9, 98, 2, 19), (15, 12, 151, 2, 905), (15, 13, 99, 0, 281), (15, 17, 159, 0, 995), (15, 18, 100, 0, 293), (15, 22, 162, 0, 1004), (15, 23, 101, 0, 318), (15, 26, 163, 0, 1017), (15, 27, 102, 0, 335), (15, 30, 164, 0, 1025), (15, 31, 103, 0, 355), (15, 34, 169, 0, 1033), (15, 35, 104, 0, 383), (15, 38, 170, 0, 1057), (15, 39, 105, 0, 392), (15, 42, 171, 0, 1061), (15, 43, 106, 0, 405), (15, 47, 172, 0, 1069), (15, 48, 107, 0, 433), (15, 51, 175, 0, 1073), (15, 52, 108, 0, 462), (15, 56, 178, 0, 1088), (15, 57, 109, 0, 495), (15, 60, 179, 0, 1101), (15, 61, 110, 0, 499), (15, 64, 180, 0, 1105), (15, 65, 111, 0, 504), (15, 69, 183, 0, 1109), (15, 70, 112, 0, 513), (15, 73, 187, 0, 1121), (15, 74, 113, 0, 569), (15, 77, 188, 0, 1138), (15, 78, 114, 0, 573), (15, 81, 190, 0, 1142), (15, 82, 115, 0, 590), (15, 85, 192, 0, 1150), (15, 86, 116, 0, 608), (15, 89, 193, 0, 1157), (15, 90, 117, 0, 614), (15, 93, 194, 0, 1161), (15, 94, 118, 0, 622), (15, 97, 197, 0, 1165), (15, 98, 119, 0, 643), (15, 101, 198, 0, 1175), (15, 102, 120, 0, 648), (15, 105, 199, 0, 1179), (15, 106, 121, 0, 656), (15, 109, 200, 0, 1183), (15, 110, 122, 0, 664), (15, 113, 201, 0, 1187), (15, 114, 123, 0, 672), (15, 117, 202, 0, 1191), (15, 118, 124, 0, 684), (15, 121, 204, 0, 1195), (15, 122, 125, 0, 692), (15, 125, 208, 0, 1203), (15, 126, 126, 0, 709), (15, 129, 209, 0, 1219), (15, 130, 127, 0, 717), (15, 133, 210, 0, 1223), (15, 134, 128, 0, 729), (15, 137, 211, 0, 1227), (15, 138, 129, 0, 764), (15, 141, 212, 0, 1235), (15, 142, 130, 0, 772), (15, 145, 216, 0, 1240), (15, 146, 131, 0, 822), (15, 149, 218, 0, 1263), (15, 150, 132, 0, 839), (15, 153, 224, 0, 1289), (15, 154, 133, 0, 849), (15, 157, 225, 0, 1296), (15, 158, 134, 0, 853), (15, 161, 226, 0, 1300), (15, 162, 135, 0, 857), (15, 165, 219, 0, 1271), (15, 168, 136, 0, 872), (15, 172, 220, 0, 1276), (15, 173, 137, 0, 884), (15, 177, 221, 0, 1280), (15, 178, 138, 0, 889), (15, 182, 222, 0, 1285)]
def mm_lm (o i : Nat) : Option (Nat × Nat) := (mm_mlk.find? (fun e => e.1 == o && e.2.1 == i)).map (fun e => (e.2.2.1, e.2.2.2.1))
/-- class links: own class, entry; class, or kind of an array of arrays; the word's place -/
def mm_cll : List (Nat × Nat × Nat × Nat) := [(6, 21, 0, 31), (6, 28, 9, 50), (10, 9, 6, 25), (10, 25, 8, 96), (10, 32, 7, 110), (10, 39, 5, 130), (10, 46, 2, 146), (10, 53, 1, 162), (10, 60, 4, 208), (10, 67, 3, 218), (10, 74, 0, 242), (11, 18, 107, 909), (11, 41, 106, 911), (11, 68, 108, 913), (15, 7, 10, 17), (15, 10, 11, 903)]
def mm_lc (o i : Nat) : Option Nat := (mm_cll.find? (fun e => e.1 == o && e.2.1 == i)).map (fun e => e.2.2.1)
def mm_kil : List (Nat × Nat × Int × Nat) := [(1, 105, 2147483647, 581), (2, 55, -1640531535, 423), (3, 51, 1103515245, 746), (3, 54, 2147483647, 747), (3, 55, 65536, 748), (11, 197, 1103515245, 1232), (11, 198, 2147483647, 1233), (11, 199, 65536, 1234), (12, 265, 1431655765, 328), (12, 266, 858993459, 329), (12, 267, 252645135, 330)]
def mm_ki (o i : Nat) : Option Int32 := (mm_kil.find? (fun e => e.1 == o && e.2.1 == i)).map (fun e => Int32.ofInt e.2.2.1)
def mm_kll : List (Nat × Nat × Int × Nat) := [(10, 329, -9223372036854775808, 888), (7, 41, -9223372036854775808, 838), (15, 166, 4294967295, 1304), (11, 89, 3, 999), (11, 91, 8, 1000), (11, 97, 4, 1008), (11, 99, 9, 1009), (11, 141, 2, 1092), (11, 161, 70, 1125), (11, 195, 20, 1231), (11, 200, 127, 1239), (11, 221, 48, 1252), (11, 223, 57, 1253), (11, 247, 5, 1270), (11, 252, -1, 1275), (11, 254, -9223372036854775808, 1284)]
def mm_kl (o i : Nat) : Option Int64 := (mm_kll.find? (fun e => e.1 == o && e.2.1 == i)).map (fun e => Int64.ofInt e.2.2.1)
/-- a method's words in lw_tbl: code; instanceMethod or static; selects (0: none); initialized -/
def mm_mw : List (Nat × Nat × Nat × Nat) := [(95, 94, 0, 63), (352, 350, 351, 63), (743, 741, 742, 63), (660, 658, 659, 63), (731, 729, 730, 63), (430, 428, 429, 63), (667, 665, 666, 63), (681, 679, 680, 63), (702, 700, 701, 63), (422, 420, 421, 63), (715, 713, 714, 63), (698, 697, 18, 63), (694, 692, 693, 63), (690, 688, 689, 63), (723, 721, 722, 63), (226, 225, 0, 69), (587, 585, 586, 69), (598, 597, 9, 69), (604, 603, 10, 69), (612, 611, 11, 69), (608, 606, 607, 69), (616, 615, 12, 69), (624, 623, 14, 69), (628, 627, 15, 69), (620, 619, 13, 69), (788, 786, 787, 69), (640, 638, 639, 69), (645, 644, 16, 69), (649, 648, 17, 69), (210, 209, 0, 68), (472, 470, 471, 68), (478, 477, 0, 68), (491, 490, 0, 68), (482, 481, 2, 68), (487, 486, 3, 68), (282, 281, 0, 71), (796, 794, 795, 71), (801, 800, 22, 71), (805, 804, 23, 71), (812, 811, 24, 71), (819, 818, 25, 71), (823, 822, 26, 71), (272, 271, 0, 70), (759, 757, 758, 70), (776, 774, 775, 70), (763, 762, 19, 70), (767, 766, 20, 70), (194, 193, 0, 67), (504, 502, 503, 67), (511, 510, 4, 67), (515, 514, 5, 67), (521, 519, 520, 67), (529, 527, 528, 67), (542, 540, 541, 67), (538, 537, 6, 67), (534, 532, 533, 67), (554, 552, 553, 67), (546, 544, 545, 67), (550, 548, 549, 67), (89, 88, 0, 62), (348, 346, 347, 62), (906, 904, 905, 62), (450, 448, 449, 62), (500, 498, 499, 62), (459, 457, 458, 62), (463, 461, 462, 62), (402, 400, 401, 62), (363, 361, 362, 62), (406, 404, 405, 62), (751, 749, 750, 62), (739, 737, 738, 62), (175, 174, 0, 66), (924, 922, 923, 66), (897, 896, 31, 66), (893, 891, 892, 66), (939, 937, 938, 66), (943, 942, 32, 66), (956, 954, 955, 66), (960, 958, 959, 66), (160, 159, 0, 65), (831, 829, 830, 65), (843, 841, 842, 65), (854, 852, 853, 65), (850, 848, 849, 65), (870, 868, 869, 65), (839, 837, 838, 65), (857, 856, 0, 65), (846, 845, 0, 65), (115, 114, 0, 64), (411, 409, 410, 64), (367, 365, 366, 64), (371, 370, 0, 64), (377, 376, 0, 64), (394, 392, 393, 64), (442, 440, 441, 64), (426, 424, 425, 64), (434, 432, 433, 64), (438, 437, 1, 64), (81, 80, 0, 61), (344, 342, 343, 61), (356, 354, 355, 61), (381, 379, 380, 61), (398, 396, 397, 61), (418, 416, 417, 61), (446, 444, 445, 61), (455, 453, 454, 61), (468, 466, 467, 61), (496, 494, 495, 61), (525, 523, 524, 61), (558, 556, 557, 61), (562, 560, 561, 61), (567, 565, 566, 61), (576, 574, 575, 61), (632, 630, 631, 61), (636, 634, 635, 61), (653, 651, 652, 61), (671, 669, 670, 61), (677, 675, 676, 61), (685, 683, 684, 61), (706, 704, 705, 61), (711, 709, 710, 61), (719, 717, 718, 61), (727, 725, 726, 61), (735, 733, 734, 61), (747, 745, 746, 61), (755, 753, 754, 61), (772, 770, 771, 61), (780, 778, 779, 61), (792, 790, 791, 61), (827, 825, 826, 61), (835, 833, 834, 61), (885, 883, 884, 61), (902, 900, 901, 61), (912, 910, 911, 61), (916, 914, 915, 61), (920, 918, 919, 61), (935, 933, 934, 61), (947, 945, 946, 61), (952, 950, 951, 61), (571, 570, 7, 61), (579, 578, 0, 61), (656, 655, 0, 61), (359, 358, 0, 61), (384, 383, 0, 61), (583, 582, 8, 61), (784, 783, 21, 61), (861, 860, 27, 61), (866, 865, 28, 61), (879, 878, 29, 61), (889, 888, 30, 61), (374, 373, 0, 61), (967, 966, 0, 72), (1063, 1062, 0, 72), (978, 977, 33, 72), (1147, 1146, 0, 72), (1104, 1103, 38, 72), (1128, 1127, 42, 72), (1084, 1083, 35, 72), (1092, 1091, 36, 72), (1058, 1056, 1057, 72), (1072, 1071, 0, 72), (1076, 1075, 34, 72), (1067, 1065, 1066, 72), (1080, 1078, 1079, 72), (1088, 1086, 1087, 72), (1112, 1111, 40, 72), (1108, 1107, 39, 72), (1116, 1115, 41, 72), (1100, 1099, 37, 72), (1096, 1094, 1095, 72), (1120, 1118, 1119, 72), (1124, 1122, 1123, 72), (1132, 1130, 1131, 72), (1144, 1143, 44, 72), (1140, 1139, 43, 72), (1136, 1134, 1135, 72), (1156, 1155, 45, 72), (1160, 1159, 46, 72), (1151, 1149, 1150, 72), (1164, 1162, 1163, 72), (1168, 1166, 1167, 72), (1176, 1175, 47, 72), (1180, 1179, 48, 72), (1172, 1170, 1171, 72), (1197, 1196, 51, 72), (1193, 1192, 50, 72), (1189, 1188, 49, 72), (1184, 1182, 1183, 72), (1201, 1199, 1200, 72), (1209, 1208, 52, 72), (1205, 1203, 1204, 72), (1216, 1215, 0, 72), (1213, 1211, 1212, 72), (1220, 1218, 1219, 72), (1224, 1222, 1223, 72), (1234, 1233, 0, 72), (1231, 1230, 0, 72), (1228, 1226, 1227, 72), (1238, 1236, 1237, 72), (1242, 1240, 1241, 72), (1246, 1244, 1245, 72), (1250, 1248, 1249, 72), (1254, 1252, 1253, 72), (1262, 1261, 53, 72), (1258, 1256, 1257, 72), (1278, 1277, 56, 72), (1274, 1273, 55, 72), (1270, 1269, 54, 72), (1266, 1264, 1265, 72), (1282, 1280, 1281, 72), (1286, 1284, 1285, 72), (1290, 1288, 1289, 72), (1298, 1296, 1297, 72), (1307, 1306, 57, 72), (1311, 1310, 58, 72), (1317, 1316, 59, 72), (1303, 1301, 1302, 72), (1329, 1328, 0, 72), (1326, 1324, 1325, 72), (1334, 1332, 1333, 72), (1339, 1337, 1338, 72), (1343, 1341, 1342, 72), (1348, 1346, 1347, 72), (1355, 1354, 0, 72), (1352, 1350, 1351, 72), (1359, 1357, 1358, 72), (1363, 1361, 1362, 72), (387, 386, 0, 73), (928, 927, 0, 76), (591, 590, 0, 76), (931, 930, 0, 75), (475, 474, 0, 75), (0, 0, 0, 0)]
/-- classes that are made: class, fields; places of instantiable and initialized -/
def mm_in : List (Nat × Nat × Nat × Nat) := [(0, 3, 92, 63), (1, 12, 223, 69), (2, 3, 207, 68), (3, 5, 279, 71), (4, 1, 269, 70), (5, 3, 191, 67), (6, 6, 86, 62), (7, 3, 172, 66), (8, 2, 157, 65), (9, 3, 112, 64), (10, 12, 78, 61), (11, 25, 964, 72)]
end
section
-- THE ABSTRACT MACHINE: a heap of typed cells by number, one step an instruction
/-- kinds of cells (kind, length): below 100 an object of that class; 100 ints, 101 booleans, 102 longs, 103 Ways, 104 Blocks, 105 Tapes, 106 rows of ints, 107 of booleans, 108 of longs -/
abbrev mm_H : Type := List (Nat × Nat) × (Nat → Nat → Option Nat) × (Nat → Nat → Int32) × (Nat → Nat → Int64)
abbrev mm_L : Type := List (Option Value)
abbrev mm_S : Type := Nat × mm_L × List Value × mm_H
def mm_u2 {α : Type} (f : Nat → Nat → α) (a k : Nat) (v : α) : Nat → Nat → α := fun x j => if x = a ∧ j = k then v else f x j
def mm_row {α : Type} (f : Nat → Nat → α) (a : Nat) (g : Nat → α) : Nat → Nat → α := fun x j => if x = a then g j else f x j
def mm_get : mm_L → Nat → Option Value
  | [], _ => none
  | a :: _, 0 => a
  | _ :: t, n + 1 => mm_get t n
def mm_clr : Option Value → Option Value
  | some (.long _) => none
  | some (.double _) => none
  | a => a
def mm_set : mm_L → Nat → Value → mm_L
  | [], _, _ => []
  | _ :: t, 0, v => some v :: t
  | a :: t, 1, v => mm_clr a :: mm_set t 0 v
  | a :: t, n + 2, v => a :: mm_set t (n + 1) v
/-- a store of one slot, where the row has the place -/
def mm_put (ls : mm_L) (i : Nat) (v : Value) : Option mm_L := if i < ls.length then some (mm_set ls i v) else none
def mm_cat (st : List Value) : Nat := (st.map fun v => v.category).sum
def mm_cmp (c : Jvm.ClassFile.Cond) (x y : Int32) : Bool := match c with
  | .eq => decide (x = y)
  | .ne => decide (x ≠ y)
  | .lt => decide (x < y)
  | .ge => decide (y ≤ x)
  | .gt => decide (y < x)
  | .le => decide (x ≤ y)
def mm_tg (pc : Nat) (off : Int) : Nat := ((pc : Int) + off).toNat
def mm_ok (pc : Nat) (off : Int) : Bool := decide (0 ≤ (pc : Int) + off)
def mm_shl (x y : Int32) : Int32 := x <<< (y &&& 31)
def mm_shr (x y : Int32) : Int32 := x >>> (y &&& 31)
def mm_ushr (x y : Int32) : Int32 := (x.toUInt32 >>> (y.toUInt32 &&& Int32.toUInt32 31)).toInt32
def mm_rem (x y : Int32) : Int32 := x - x / y * y
def mm_lshl (x : Int64) (y : Int32) : Int64 := x <<< (y.toInt64 &&& 63)
/-- constants, locals, the stack -/
def mm_x1 (o : Nat) (i : Instr) (n pc : Nat) (ls : mm_L) (st : List Value) (h : mm_H) : Option mm_S := match i with
  | .iconst v => some (pc + n, ls, .int (Int32.ofInt v) :: st, h)
  | .bipush v => some (pc + n, ls, .int (Int8.ofInt v).toInt32 :: st, h)
  | .sipush v => some (pc + n, ls, .int (Int16.ofInt v).toInt32 :: st, h)
  | .lconst v => some (pc + n, ls, .long (Int64.ofNat (v : Nat)) :: st, h)
  | .aconst_null => some (pc + n, ls, .null :: st, h)
  | .ldc j => match mm_ki o j with
    | some v => some (pc + n, ls, .int v :: st, h)
    | none => none
  | .ldc_w j => match mm_ki o j with
    | some v => some (pc + n, ls, .int v :: st, h)
    | none => none
  | .ldc2_w j => match mm_kl o j with
    | some v => some (pc + n, ls, .long v :: st, h)
    | none => none
  | .iload_n k => match mm_get ls k with
    | some (.int x) => some (pc + n, ls, .int x :: st, h)
    | _ => none
  | .iload k => match mm_get ls k with
    | some (.int x) => some (pc + n, ls, .int x :: st, h)
    | _ => none
  | .lload_n k => match mm_get ls k with
    | some (.long x) => some (pc + n, ls, .long x :: st, h)
    | _ => none
  | .lload k => match mm_get ls k with
    | some (.long x) => some (pc + n, ls, .long x :: st, h)
    | _ => none
  | .aload_n k => match mm_get ls k with
    | some (.ref x) => some (pc + n, ls, .ref x :: st, h)
    | _ => none
  | .aload k => match mm_get ls k with
    | some (.ref x) => some (pc + n, ls, .ref x :: st, h)
    | _ => none
  | .istore_n k => match st with
    | .int x :: r => match mm_put ls k (.int x) with
      | some l => some (pc + n, l, r, h)
      | none => none
    | _ => none
  | .istore k => match st with
    | .int x :: r => match mm_put ls k (.int x) with
      | some l => some (pc + n, l, r, h)
      | none => none
    | _ => none
  | .astore_n k => match st with
    | .ref x :: r => match mm_put ls k (.ref x) with
      | some l => some (pc + n, l, r, h)
      | none => none
    | _ => none
  | .astore k => match st with
    | .ref x :: r => match mm_put ls k (.ref x) with
      | some l => some (pc + n, l, r, h)
      | none => none
    | _ => none
  | .iinc k v => match mm_get ls k with
    | some (.int x) => match mm_put ls k (.int (x + Int32.ofInt v)) with
      | some l => some (pc + n, l, st, h)
      | none => none
    | _ => none
  | .dup => match st with
    | .int x :: r => some (pc + n, ls, .int x :: .int x :: r, h)
    | .ref x :: r => some (pc + n, ls, .ref x :: .ref x :: r, h)
    | _ => none
  | .dup2 => match st with
    | .int x :: .ref y :: r => some (pc + n, ls, .int x :: .ref y :: .int x :: .ref y :: r, h)
    | _ => none
  | .dup_x1 => match st with
    | .int x :: .ref y :: r => some (pc + n, ls, .int x :: .ref y :: .int x :: r, h)
    | _ => none
  | .pop => match st with
    | .int _ :: r => some (pc + n, ls, r, h)
    | _ => none
  | _ => none
/-- arithmetic -/
def mm_x2 (i : Instr) (n pc : Nat) (ls : mm_L) (st : List Value) (h : mm_H) : Option mm_S := match i with
  | .iadd => match st with
    | .int y :: .int x :: r => some (pc + n, ls, .int (x + y) :: r, h)
    | _ => none
  | .isub => match st with
    | .int y :: .int x :: r => some (pc + n, ls, .int (x - y) :: r, h)
    | _ => none
  | .imul => match st with
    | .int y :: .int x :: r => some (pc + n, ls, .int (x * y) :: r, h)
    | _ => none
  | .idiv => match st with
    | .int y :: .int x :: r => if y = 0 then none else some (pc + n, ls, .int (x / y) :: r, h)
    | _ => none
  | .irem => match st with
    | .int y :: .int x :: r => if y = 0 then none else some (pc + n, ls, .int (mm_rem x y) :: r, h)
    | _ => none
  | .iand => match st with
    | .int y :: .int x :: r => some (pc + n, ls, .int (x &&& y) :: r, h)
    | _ => none
  | .ior => match st with
    | .int y :: .int x :: r => some (pc + n, ls, .int (x ||| y) :: r, h)
    | _ => none
  | .ixor => match st with
    | .int y :: .int x :: r => some (pc + n, ls, .int (x ^^^ y) :: r, h)
    | _ => none
  | .ishl => match st with
    | .int y :: .int x :: r => some (pc + n, ls, .int (mm_shl x y) :: r, h)
    | _ => none
  | .ishr => match st with
    | .int y :: .int x :: r => some (pc + n, ls, .int (mm_shr x y) :: r, h)
    | _ => none
  | .iushr => match st with
    | .int y :: .int x :: r => some (pc + n, ls, .int (mm_ushr x y) :: r, h)
    | _ => none
  | .land => match st with
    | .long y :: .long x :: r => some (pc + n, ls, .long (x &&& y) :: r, h)
    | _ => none
  | .lor => match st with
    | .long y :: .long x :: r => some (pc + n, ls, .long (x ||| y) :: r, h)
    | _ => none
  | .lshl => match st with
    | .int y :: .long x :: r => some (pc + n, ls, .long (mm_lshl x y) :: r, h)
    | _ => none
  | .lcmp => match st with
    | .long y :: .long x :: r => some (pc + n, ls, .int (lg_cmp x y) :: r, h)
    | _ => none
  | .i2l => match st with
    | .int x :: r => some (pc + n, ls, .long x.toInt64 :: r, h)
    | _ => none
  | .l2i => match st with
    | .long x :: r => some (pc + n, ls, .int x.toInt32 :: r, h)
    | _ => none
  | .i2b => match st with
    | .int x :: r => some (pc + n, ls, .int x.toInt8.toInt32 :: r, h)
    | _ => none
  | .i2s => match st with
    | .int x :: r => some (pc + n, ls, .int x.toInt16.toInt32 :: r, h)
    | _ => none
  | _ => none
/-- branches -/
def mm_x3 (i : Instr) (n pc : Nat) (ls : mm_L) (st : List Value) (h : mm_H) : Option mm_S := match i with
  | .goto off => if mm_ok pc off then some (mm_tg pc off, ls, st, h) else none
  | .ifCond c off => match st with
    | .int x :: r => if mm_ok pc off then some (if mm_cmp c x 0 then mm_tg pc off else pc + n, ls, r, h) else none
    | _ => none
  | .if_icmp c off => match st with
    | .int y :: .int x :: r => if mm_ok pc off then some (if mm_cmp c x y then mm_tg pc off else pc + n, ls, r, h) else none
    | _ => none
  | .ifnull off => match st with
    | .null :: r => if mm_ok pc off then some (mm_tg pc off, ls, r, h) else none
    | .ref _ :: r => some (pc + n, ls, r, h)
    | _ => none
  | .ifnonnull off => match st with
    | .ref _ :: r => if mm_ok pc off then some (mm_tg pc off, ls, r, h) else none
    | .null :: r => some (pc + n, ls, r, h)
    | _ => none
  | .tableswitch dflt lo hi offs => match st with
    | .int x :: r => if x.toInt < lo ∨ hi < x.toInt then (if mm_ok pc dflt then some (mm_tg pc dflt, ls, r, h) else none) else match offs[(x.toInt - lo).toNat]? with
      | some off => if mm_ok pc off then some (mm_tg pc off, ls, r, h) else none
      | none => none
    | _ => none
  | .lookupswitch dflt ps => match st with
    | .int x :: r => if (ps.toList.zip (ps.toList.drop 1)).all (fun (a, next) => a.1 < next.1) ∧ mm_ok pc (Op.lookupswitch.offset ps.toList dflt x.toInt) then some (mm_tg pc (Op.lookupswitch.offset ps.toList dflt x.toInt), ls, r, h) else none
    | _ => none
  | _ => none
/-- a place of a cell of that kind: its length -/
def mm_in1 (h : mm_H) (a t : Nat) (j : Int32) : Bool := match h.1[a]? with
  | some (t', n) => t' == t && !(decide (j < 0 ∨ n ≤ j.toNatClampNeg))
  | none => false
/-- reads of the heap -/
def mm_x4 (o : Nat) (i : Instr) (n pc : Nat) (ls : mm_L) (st : List Value) (h : mm_H) : Option mm_S := match i with
  | .getfield j => match mm_lf o j, st with
    | some (c, k), .ref a :: r => match h.1[a]? with
      | some (c', _) => if c' = c then (if mm_fk c k = 2 then some (pc + n, ls, va_rf (h.2.1 a k) :: r, h) else if mm_fk c k = 9 then none else some (pc + n, ls, .int (h.2.2.1 a k) :: r, h)) else none
      | none => none
    | _, _ => none
  | .arraylength => match st with
    | .ref a :: r => match h.1[a]? with
      | some (t, m) => if 100 ≤ t ∧ t ≤ 108 then some (pc + n, ls, .int (Int32.ofNat m) :: r, h) else none
      | none => none
    | _ => none
  | .iaload => match st with
    | .int j :: .ref a :: r => if mm_in1 h a 100 j then some (pc + n, ls, .int (h.2.2.1 a j.toNatClampNeg) :: r, h) else none
    | _ => none
  | .baload => match st with
    | .int j :: .ref a :: r => if mm_in1 h a 101 j then some (pc + n, ls, .int (h.2.2.1 a j.toNatClampNeg) :: r, h) else none
    | _ => none
  | .laload => match st with
    | .int j :: .ref a :: r => if mm_in1 h a 102 j then some (pc + n, ls, .long (h.2.2.2 a j.toNatClampNeg) :: r, h) else none
    | _ => none
  | .aaload => match st with
    | .int j :: .ref a :: r => match h.1[a]? with
      | some (t, m) => if 103 ≤ t ∧ t ≤ 108 ∧ ¬ (j < 0 ∨ m ≤ j.toNatClampNeg) then some (pc + n, ls, va_rf (h.2.1 a j.toNatClampNeg) :: r, h) else none
      | none => none
    | _ => none
  | _ => none
/-- writes; k is the method, which may set final fields of its class if it is a constructor -/
def mm_x5 (k : Nat) (i : Instr) (n pc : Nat) (ls : mm_L) (st : List Value) (h : mm_H) : Option mm_S := match i with
  | .putfield j => match mm_lf (mm_o k) j, st with
    | some (c, f), .int x :: .ref a :: r => match h.1[a]? with
      | some (c', _) => if c' = c ∧ (mm_fk c f = 0 ∨ mm_fk c f = 1 ∧ (x = 0 ∨ x = 1)) ∧ mm_ff c f = false then some (pc + n, ls, r, (h.1, h.2.1, mm_u2 h.2.2.1 a f x, h.2.2.2)) else none
      | none => none
    | some (c, f), .ref x :: .ref a :: r => match h.1[a]? with
      | some (c', _) => if c' = c ∧ mm_fk c f = 2 ∧ mm_ff c f = true ∧ mm_o k = c ∧ mm_kd k = 2 then some (pc + n, ls, r, (h.1, mm_u2 h.2.1 a f (some x), h.2.2.1, h.2.2.2)) else none
      | none => none
    | _, _ => none
  | .iastore => match st with
    | .int x :: .int j :: .ref a :: r => if mm_in1 h a 100 j ∧ a ≠ 0 then some (pc + n, ls, r, (h.1, h.2.1, mm_u2 h.2.2.1 a j.toNatClampNeg x, h.2.2.2)) else none
    | _ => none
  | .bastore => match st with
    | .int x :: .int j :: .ref a :: r => if mm_in1 h a 101 j ∧ a ≠ 0 then some (pc + n, ls, r, (h.1, h.2.1, mm_u2 h.2.2.1 a j.toNatClampNeg (vp_nar .boolean x), h.2.2.2)) else none
    | _ => none
  | .lastore => match st with
    | .long x :: .int j :: .ref a :: r => if mm_in1 h a 102 j ∧ a ≠ 0 then some (pc + n, ls, r, (h.1, h.2.1, h.2.2.1, mm_u2 h.2.2.2 a j.toNatClampNeg x)) else none
    | _ => none
  | .aastore => match st with
    | .ref x :: .int j :: .ref a :: r => match h.1[a]?, h.1[x]? with
      | some (t, m), some (c, _) => if (t = 103 ∧ c = 9 ∨ t = 104 ∧ c = 0 ∨ t = 105 ∧ c = 7) ∧ ¬ (j < 0 ∨ m ≤ j.toNatClampNeg) then some (pc + n, ls, r, (h.1, mm_u2 h.2.1 a j.toNatClampNeg (some x), h.2.2.1, h.2.2.2)) else none
      | _, _ => none
    | _ => none
  | _ => none
def mm_at (a : ArrayType) : Nat := match a with
  | .int => 100
  | .boolean => 101
  | .long => 102
  | _ => 99
def mm_oa (c : Nat) : Nat := if c = 9 then 103 else if c = 0 then 104 else if c = 7 then 105 else 99
/-- a new cell, all of it at first nothing -/
def mm_new (h : mm_H) (t m : Nat) : mm_H := (h.1 ++ [(t, m)], mm_row h.2.1 h.1.length (fun _ => none), mm_row h.2.2.1 h.1.length (fun _ => 0), mm_row h.2.2.2 h.1.length (fun _ => 0))
/-- a new row of m rows of q each, of kind t below kind t + 6 -/
def mm_new2 (h : mm_H) (t m q : Nat) : mm_H := ((h.1 ++ [(t, m)]) ++ List.replicate m (t - 6, q), (fun x j => if x = h.1.length then (if j < m then some (h.1.length + 1 + j) else none) else if h.1.length < x then none else h.2.1 x j), (fun x j => if h.1.length ≤ x then 0 else h.2.2.1 x j), (fun x j => if h.1.length ≤ x then 0 else h.2.2.2 x j))
/-- makings -/
def mm_x6 (o : Nat) (i : Instr) (n pc : Nat) (ls : mm_L) (st : List Value) (h : mm_H) : Option mm_S := match i with
  | .new j => match mm_lc o j with
    | some c => if c < 12 then some (pc + n, ls, .ref h.1.length :: st, mm_new h c (mm_fn c)) else none
    | none => none
  | .newarray t => match st with
    | .int x :: r => if ¬ x < 0 ∧ x.toNatClampNeg ≤ 5000 ∧ mm_at t ≠ 99 then some (pc + n, ls, .ref h.1.length :: r, mm_new h (mm_at t) x.toNatClampNeg) else none
    | _ => none
  | .anewarray j => match mm_lc o j, st with
    | some c, .int x :: r => if ¬ x < 0 ∧ x.toNatClampNeg ≤ 5000 ∧ mm_oa c ≠ 99 then some (pc + n, ls, .ref h.1.length :: r, mm_new h (mm_oa c) x.toNatClampNeg) else none
    | _, _ => none
  | .multianewarray j dm => match mm_lc o j, st with
    | some t, .int y :: .int x :: r => if dm = 2 ∧ 106 ≤ t ∧ t ≤ 108 ∧ ¬ x < 0 ∧ ¬ y < 0 ∧ x.toNatClampNeg ≤ 5000 ∧ y.toNatClampNeg ≤ 5000 then some (pc + n, ls, .ref h.1.length :: r, mm_new2 h t x.toNatClampNeg y.toNatClampNeg) else none
    | _, _ => none
  | _ => none
/-- a call's arguments, in order, and what stays -/
def mm_pop (n : Nat) (st : List Value) : Option (List Value × List Value) := if n ≤ st.length then some ((st.take n).reverse, st.drop n) else none
def mm_copy {α : Type} (f g : Nat → α) (sp dp n : Nat) : Nat → α := va_cpy f g sp dp n
/-- System.arraycopy of ints or longs -/
def mm_ac (n pc : Nat) (ls : mm_L) (st : List Value) (h : mm_H) : Option mm_S := match st with
  | .int q :: .int dp :: .ref a :: .int sp :: .ref b :: r => match h.1[b]?, h.1[a]? with
    | some (t0, n0), some (t1, n1) => if (t0 = 100 ∨ t0 = 102) ∧ t1 = t0 ∧ a ≠ 0 ∧ b ≠ 0 ∧ ¬ sp < 0 ∧ ¬ dp < 0 ∧ ¬ q < 0 ∧ sp.toNatClampNeg + q.toNatClampNeg ≤ n0 ∧ dp.toNatClampNeg + q.toNatClampNeg ≤ n1 ∧ mm_cat r ≤ 8 then
        (if t0 = 100 then some (pc + n, ls, r, (h.1, h.2.1, mm_row h.2.2.1 a (va_cpy (h.2.2.1 b) (h.2.2.1 a) sp.toNatClampNeg dp.toNatClampNeg q.toNatClampNeg), h.2.2.2))
         else some (pc + n, ls, r, (h.1, h.2.1, h.2.2.1, mm_row h.2.2.2 a (va_cpy (h.2.2.2 b) (h.2.2.2 a) sp.toNatClampNeg dp.toNatClampNeg q.toNatClampNeg)))) else none
    | _, _ => none
  | _ => none
abbrev mm_C : Type := Nat → List Value → mm_H → Option (Option Value × mm_H)
/-- behind a call of a method of that answer -/
def mm_bk (n pc : Nat) (ls : mm_L) (r : List Value) (x : Option (Option Value × mm_H)) : Option mm_S := match x with
  | some (v, h) => some (pc + n, ls, v.toList ++ r, h)
  | none => none
def mm_kA (h : mm_H) (a : Nat) : Nat := match h.1[a]? with
  | some (c, _) => c
  | none => 99
/-- calls: d the frames that may still come -/
def mm_x7 (d : Nat) (C : mm_C) (o : Nat) (i : Instr) (n pc : Nat) (ls : mm_L) (st : List Value) (h : mm_H) : Option mm_S := match i with
  | .invokevirtual j => match mm_lm o j with
    | some (k, kd) => if kd = 0 ∧ d ≠ 0 then match mm_pop (mm_np k) st with
        | some (as, .ref a :: r) => if mm_kA h a = mm_o k ∧ mm_kA h a < 12 ∧ mm_cat r ≤ 8 then mm_bk n pc ls r (C k (.ref a :: as) h) else none
        | _ => none
      else none
    | none => none
  | .invokestatic j => match mm_lm o j with
    | some (k, kd) => if d ≠ 0 then (if kd = 1 ∨ kd = 3 then match mm_pop (mm_np k) st with
        | some (as, r) => if mm_cat r ≤ 8 then mm_bk n pc ls r (C k as h) else none
        | _ => none
      else if kd = 4 then mm_ac n pc ls st h
      else if kd = 6 then match st with
        | .int y :: .int x :: r => if mm_cat r ≤ 8 then some (pc + n, ls, .int (if x < y then y else x) :: r, h) else none
        | _ => none
      else if kd = 7 then match st with
        | .int y :: .int x :: r => if mm_cat r ≤ 8 then some (pc + n, ls, .int (if y < x then y else x) :: r, h) else none
        | _ => none
      else none) else none
    | none => none
  | .invokespecial j => match mm_lm o j with
    | some (k, kd) => if d ≠ 0 then (if kd = 2 then match mm_pop (mm_np k) st with
        | some (as, .ref a :: r) => if mm_cat r ≤ 8 then mm_bk n pc ls r (C k (.ref a :: as) h) else none
        | _ => none
      else if kd = 5 then match st with
        | .ref _ :: r => if mm_cat r ≤ 8 then some (pc + n, ls, r, h) else none
        | _ => none
      else none) else none
    | none => none
  | _ => none
/-- the length that the rows ask for -/
def mm_ln (i : Instr) (n : Nat) : Bool := match i with
  | .bipush _ | .ldc _ | .iload _ | .lload _ | .aload _ | .istore _ | .astore _ | .newarray _ => n == 2
  | .sipush _ | .ldc_w _ | .ldc2_w _ | .iinc _ _ | .goto _ | .ifCond _ _ | .if_icmp _ _ | .ifnull _ | .ifnonnull _ | .getfield _ | .putfield _ | .new _ | .anewarray _ | .invokevirtual _ | .invokestatic _ | .invokespecial _ => n == 3
  | .multianewarray _ _ => n == 4
  | .tableswitch _ _ _ _ | .lookupswitch _ _ => true
  | _ => n == 1
/-- an answer: of which kind the method is -/
def mm_rt1 (k : Nat) (i : Instr) (st : List Value) : Option (Option Value) := match i with
  | .return_ => match st with
    | [] => if mm_rt k = none then some none else none
    | _ => none
  | .ireturn => match st with
    | [.int x] => if mm_rt k = some .int ∨ mm_rt k = some .boolean ∧ (x = 0 ∨ x = 1) then some (some (.int x)) else none
    | _ => none
  | .lreturn => match st with
    | [.long x] => if mm_rt k = some .long then some (some (.long x)) else none
    | _ => none
  | .areturn => match st with
    | [.ref x] => match mm_rt k with
      | some (.object _) => some (some (.ref x))
      | _ => none
    | [.null] => match mm_rt k with
      | some (.object _) => some (some .null)
      | _ => none
    | _ => none
  | _ => none
def mm_or {α : Type} (a : Option α) (b : Option α) : Option α := match a with
  | some x => some x
  | none => b
/-- one instruction of method k -/
def mm_x (d : Nat) (C : mm_C) (k : Nat) (i : Instr) (n pc : Nat) (ls : mm_L) (st : List Value) (h : mm_H) : Option mm_S :=
  mm_or (mm_x1 (mm_o k) i n pc ls st h) (mm_or (mm_x2 i n pc ls st h) (mm_or (mm_x3 i n pc ls st h) (mm_or (mm_x4 (mm_o k) i n pc ls st h) (mm_or (mm_x5 k i n pc ls st h) (mm_or (mm_x6 (mm_o k) i n pc ls st h) (mm_x7 d C (mm_o k) i n pc ls st h))))))
def mm_sl (M : List (Nat × Nat)) : Nat := (M.map (fun q => q.2)).sum
def mm_run (d : Nat) (C : mm_C) (k : Nat) : Nat → Nat → mm_L → List Value → mm_H → Option (Option Value × mm_H)
  | 0, _, _, _, _ => none
  | f + 1, pc, ls, st, h => match decode (mm_b k) pc with
    | .ok (i, n) => if mm_ln i n then match mm_rt1 k i st with
        | some r => some (r, h)
        | none => match mm_x d C k i n pc ls st h with
          | some (pc', ls', st', h') => if h.1.length ≤ h'.1.length ∧ mm_sl h.1 ≤ mm_sl h'.1 then mm_run d C k f pc' ls' st' h' else none
          | none => none
      else none
    | .error _ => none
def mm_ex : List Value → mm_L
  | [] => []
  | .long x :: t => some (.long x) :: none :: mm_ex t
  | .double x :: t => some (.double x) :: none :: mm_ex t
  | v :: t => some v :: mm_ex t
def mm_pad : Nat → mm_L → mm_L
  | 0, _ => []
  | n + 1, [] => none :: mm_pad n []
  | n + 1, a :: t => a :: mm_pad n t
def mm_call : Nat → Nat → mm_C
  | 0, _, _, _, _ => none
  | d + 1, f, k, as, h => if (mm_ex as).length ≤ mm_nL k ∧ mm_kd k < 3 ∧ k < 232 then mm_run d (mm_call d f) k f 0 (mm_pad (mm_nL k) (mm_ex as)) [] h else none
end
section
-- THE WORDS that every method asks for (those of the tables that stay), and what the tables of 03 say of them
def mm_T : List Jvm.Cond := lw_tbl.filter goodWord
theorem mm_T_of {w : Jvm.Cond} (h : w ∈ lw_tbl) (hg : goodWord w = true) : w ∈ mm_T := List.mem_filter.mpr ⟨h, hg⟩
theorem mm_T_t {w : Jvm.Cond} {i : Nat} (h : tables_1[i]? = some w) (hg : goodWord w = true) : w ∈ mm_T := mm_T_of (List.mem_append_right _ (List.mem_of_getElem? h)) hg
theorem mm_T_l {w : Jvm.Cond} {i : Nat} (h : lw_tbl[i]? = some w) (hg : goodWord w = true) : w ∈ mm_T := mm_T_of (List.mem_of_getElem? h) hg
theorem mm_T_good : GoodIn mm_T mm_T := fun w h => ⟨h, good_of_word (List.mem_filter.mp h).2⟩
def mm_ck (w : Jvm.Cond) (i : Nat) : Bool := decide (tables_1[i]? = some w) && goodWord w
theorem mm_ck_in {w : Jvm.Cond} {i : Nat} (h : mm_ck w i = true) : w ∈ mm_T := by
  simp only [mm_ck, Bool.and_eq_true, decide_eq_true_eq] at h
  exact mm_T_t h.1 h.2
/-- a class' names, fields, number of them -/
def mm_c (c : Nat) : vw_C := vwCl.getD c ("", fun _ => ("", "", "", false), 0)
theorem mm_c_at {c : Nat} (h : c < 12) : vwCl[c]? = some (mm_c c) := by
  have e : c < vwCl.length := h
  unfold mm_c
  rw [List.getD_eq_getElem?_getD, List.getElem?_eq_getElem e]
  rfl
theorem mm_c_all : (List.range 12).all (fun c => decide ((mm_c c).1 = mm_cn c) && decide ((mm_c c).2.2 = mm_fn c) && (u_ws (mm_c c).1 (mm_c c).2.1 (mm_c c).2.2).all (fun w => decide (w ∈ lw_tbl) && goodWord w)) = true := by decide +kernel
theorem mm_c_ok {c : Nat} (h : c < 12) : (mm_c c).1 = mm_cn c ∧ (mm_c c).2.2 = mm_fn c ∧ ∀ w ∈ u_ws (mm_c c).1 (mm_c c).2.1 (mm_c c).2.2, w ∈ mm_T := by
  have h1 := List.all_eq_true.mp mm_c_all c (List.mem_range.mpr h)
  simp only [Bool.and_eq_true, decide_eq_true_eq, List.all_eq_true] at h1
  exact ⟨h1.1.1, h1.1.2, fun w hw => mm_T_of (h1.2 w hw).1 (h1.2 w hw).2⟩
/-- a field's type -/
def mm_ty (c k : Nat) : FieldType := (parseFieldDescriptor ((mm_c c).2.1 k).2.2.1).getD .int
theorem mm_ty_all : (List.range 12).all (fun c => (List.range (mm_fn c)).all (fun k => decide (parseFieldDescriptor ((mm_c c).2.1 k).2.2.1 = some (mm_ty c k)) && decide (((mm_c c).2.1 k).1 = mm_cn c) && decide (((mm_c c).2.1 k).2.2.2 = mm_ff c k) && decide (if mm_fk c k = 2 then (defaultValue (mm_ty c k) = .null ∧ (mm_ty c k).isReference = true) else if mm_fk c k = 1 then mm_ty c k = .boolean else mm_fk c k = 0 ∧ mm_ty c k = .int) && (List.range (mm_fn c)).all (fun j => decide (k = j ∨ ((mm_c c).2.1 k).2.1 ≠ ((mm_c c).2.1 j).2.1)))) = true := by decide +kernel
theorem mm_ty_ok {c k : Nat} (h : c < 12) (hk : k < mm_fn c) : parseFieldDescriptor ((mm_c c).2.1 k).2.2.1 = some (mm_ty c k) ∧ ((mm_c c).2.1 k).1 = mm_cn c ∧ ((mm_c c).2.1 k).2.2.2 = mm_ff c k ∧ (if mm_fk c k = 2 then (defaultValue (mm_ty c k) = .null ∧ (mm_ty c k).isReference = true) else if mm_fk c k = 1 then mm_ty c k = .boolean else mm_fk c k = 0 ∧ mm_ty c k = .int) := by
  have h1 := List.all_eq_true.mp (List.all_eq_true.mp mm_ty_all c (List.mem_range.mpr h)) k (List.mem_range.mpr hk)
  simp only [Bool.and_eq_true, decide_eq_true_eq] at h1
  exact ⟨h1.1.1.1.1, h1.1.1.1.2, h1.1.1.2, h1.1.2⟩
theorem mm_nm_ok {c : Nat} (h : c < 12) : ∀ a, a < mm_fn c → ∀ b, b < mm_fn c → a ≠ b → ((mm_c c).2.1 a).2.1 ≠ ((mm_c c).2.1 b).2.1 := by
  intro a ha b hb hne
  have h1 := List.all_eq_true.mp (List.all_eq_true.mp mm_ty_all c (List.mem_range.mpr h)) a (List.mem_range.mpr ha)
  simp only [Bool.and_eq_true, decide_eq_true_eq] at h1
  have h2 := List.all_eq_true.mp h1.2 b (List.mem_range.mpr hb)
  simp only [decide_eq_true_eq] at h2
  exact h2.resolve_left hne
theorem mm_fl_all : mm_fl.all (fun e => decide (e.1 < 12) && decide (e.2.2.1 < 12) && decide (e.2.2.2.1 < mm_fn e.2.2.1) && mm_ck (.fieldLink (mm_cn e.1) e.2.1 (mm_cn e.2.2.1) ((mm_c e.2.2.1).2.1 e.2.2.2.1).2.1 ((mm_c e.2.2.1).2.1 e.2.2.2.1).2.2.1) e.2.2.2.2) = true := by decide +kernel
theorem mm_lf_ok {o i c k : Nat} (h : mm_lf o i = some (c, k)) : c < 12 ∧ k < mm_fn c ∧ Cond.fieldLink (mm_cn o) i (mm_cn c) ((mm_c c).2.1 k).2.1 ((mm_c c).2.1 k).2.2.1 ∈ mm_T := by
  unfold mm_lf at h
  cases hf : mm_fl.find? (fun e => e.1 == o && e.2.1 == i) with
  | none => rw [hf] at h; cases h
  | some e =>
    rw [hf] at h
    obtain ⟨e1, e2, e3, e4, e5⟩ := e
    have hm := List.mem_of_find?_eq_some hf
    have hp := List.find?_some hf
    simp only [Bool.and_eq_true, beq_iff_eq] at hp
    obtain ⟨rfl, rfl⟩ := hp
    cases h
    have h1 := List.all_eq_true.mp mm_fl_all _ hm
    simp only [Bool.and_eq_true, decide_eq_true_eq] at h1
    exact ⟨h1.1.1.2, h1.1.2, mm_ck_in h1.2⟩
theorem mm_kil_all : mm_kil.all (fun e => mm_ck (.constant (mm_cn e.1) e.2.1 (Int32.ofInt e.2.2.1)) e.2.2.2) = true := by decide +kernel
theorem mm_kll_all : mm_kll.all (fun e => mm_ck (.constantLong (mm_cn e.1) e.2.1 (Int64.ofInt e.2.2.1)) e.2.2.2) = true := by decide +kernel
theorem mm_ki_ok {o i : Nat} {v : Int32} (h : mm_ki o i = some v) : Cond.constant (mm_cn o) i v ∈ mm_T := by
  unfold mm_ki at h
  cases hf : mm_kil.find? (fun e => e.1 == o && e.2.1 == i) with
  | none => rw [hf] at h; cases h
  | some e =>
    rw [hf] at h
    obtain ⟨e1, e2, e3, e4⟩ := e
    have hm := List.mem_of_find?_eq_some hf
    have hp := List.find?_some hf
    simp only [Bool.and_eq_true, beq_iff_eq] at hp
    obtain ⟨rfl, rfl⟩ := hp
    cases h
    exact mm_ck_in (List.all_eq_true.mp mm_kil_all _ hm)
theorem mm_kl_ok {o i : Nat} {v : Int64} (h : mm_kl o i = some v) : Cond.constantLong (mm_cn o) i v ∈ mm_T := by
  unfold mm_kl at h
  cases hf : mm_kll.find? (fun e => e.1 == o && e.2.1 == i) with
  | none => rw [hf] at h; cases h
  | some e =>
    rw [hf] at h
    obtain ⟨e1, e2, e3, e4⟩ := e
    have hm := List.mem_of_find?_eq_some hf
    have hp := List.find?_some hf
    simp only [Bool.and_eq_true, beq_iff_eq] at hp
    obtain ⟨rfl, rfl⟩ := hp
    cases h
    exact mm_ck_in (List.all_eq_true.mp mm_kll_all _ hm)
def mm_aty (t : Nat) : FieldType := match t with
  | 100 => .int
  | 101 => .boolean
  | 102 => .long
  | 103 => .object RX9
  | 104 => .object RX0
  | 105 => .object RX7
  | 106 => .array .int
  | 107 => .array .boolean
  | _ => .array .long
theorem mm_cll_all : mm_cll.all (fun e => if e.2.2.1 < 12 then mm_ck (.classLink (mm_cn e.1) e.2.1 (mm_cn e.2.2.1)) e.2.2.2 else decide (106 ≤ e.2.2.1 ∧ e.2.2.1 ≤ 108) && mm_ck (.classLink (mm_cn e.1) e.2.1 ("[" ++ (mm_aty e.2.2.1).toString)) e.2.2.2) = true := by decide +kernel
theorem mm_lc_ok {o i c : Nat} (h : mm_lc o i = some c) : (c < 12 ∧ Cond.classLink (mm_cn o) i (mm_cn c) ∈ mm_T) ∨ (106 ≤ c ∧ c ≤ 108 ∧ Cond.classLink (mm_cn o) i ("[" ++ (mm_aty c).toString) ∈ mm_T) := by
  unfold mm_lc at h
  cases hf : mm_cll.find? (fun e => e.1 == o && e.2.1 == i) with
  | none => rw [hf] at h; cases h
  | some e =>
    rw [hf] at h
    obtain ⟨e1, e2, e3, e4⟩ := e
    have hm := List.mem_of_find?_eq_some hf
    have hp := List.find?_some hf
    simp only [Bool.and_eq_true, beq_iff_eq] at hp
    obtain ⟨rfl, rfl⟩ := hp
    cases h
    have h1 := List.all_eq_true.mp mm_cll_all _ hm
    dsimp only at h1 ⊢
    by_cases hc : e3 < 12
    · rw [if_pos hc] at h1
      exact Or.inl ⟨hc, mm_ck_in h1⟩
    · rw [if_neg hc] at h1
      simp only [Bool.and_eq_true, decide_eq_true_eq] at h1
      exact Or.inr ⟨h1.1.1, h1.1.2, mm_ck_in h1.2⟩
def mm_cl2 (w : Jvm.Cond) (i : Nat) : Bool := decide (lw_tbl[i]? = some w) && goodWord w
theorem mm_cl2_in {w : Jvm.Cond} {i : Nat} (h : mm_cl2 w i = true) : w ∈ mm_T := by
  simp only [mm_cl2, Bool.and_eq_true, decide_eq_true_eq] at h
  exact mm_T_l h.1 h.2
theorem mm_in_all : mm_in.all (fun e => decide (e.2.1 = mm_fn e.1) && mm_cl2 (.instantiable (mm_cn e.1) e.2.1) e.2.2.1 && mm_cl2 (.initialized (mm_cn e.1)) e.2.2.2) = true ∧ mm_in.map (fun e => e.1) = List.range 12 := by decide +kernel
theorem mm_in_ok {c : Nat} (h : c < 12) : Cond.instantiable (mm_cn c) (mm_fn c) ∈ mm_T ∧ Cond.initialized (mm_cn c) ∈ mm_T := by
  have hm : c ∈ mm_in.map (fun e => e.1) := by rw [mm_in_all.2]; exact List.mem_range.mpr h
  obtain ⟨e, he, rfl⟩ := List.mem_map.mp hm
  have h1 := List.all_eq_true.mp mm_in_all.1 _ he
  simp only [Bool.and_eq_true, decide_eq_true_eq] at h1
  obtain ⟨⟨h2, h3⟩, h4⟩ := h1
  rw [h2] at h3
  exact ⟨mm_cl2_in h3, mm_cl2_in h4⟩
end
section
-- methods and their links: the words of each
set_option maxRecDepth 100000 in
theorem mm_code_all : (List.range 232).map (fun k => some (Cond.code (mm_y k) (mm_b k) (mm_nL k) (mm_rt k))) = (mm_mw.take 232).map (fun e => lw_tbl[e.1]?) := by rfl
theorem mm_code_in {k : Nat} (h : k < 232) : Cond.code (mm_y k) (mm_b k) (mm_nL k) (mm_rt k) ∈ mm_T := by
  have h1 : some (Cond.code (mm_y k) (mm_b k) (mm_nL k) (mm_rt k)) ∈ (List.range 232).map (fun k => some (Cond.code (mm_y k) (mm_b k) (mm_nL k) (mm_rt k))) := List.mem_map.mpr ⟨k, List.mem_range.mpr h, rfl⟩
  rw [mm_code_all] at h1
  obtain ⟨e, -, he⟩ := List.mem_map.mp h1
  exact mm_T_l he rfl
def mm_mwk (k : Nat) : Nat × Nat × Nat × Nat := mm_mw.getD k (0, 0, 0, 0)
def mm_mck (k : Nat) : Bool :=
  decide (mm_kd k = 8) || ((if mm_kd k = 0 then mm_cl2 (.instanceMethod (mm_y k)) (mm_mwk k).2.1 && mm_cl2 (.selects (mm_cn (mm_o k)) (mm_y k) (mm_y k)) (mm_mwk k).2.2.1
   else if mm_kd k = 1 then mm_cl2 (.static (mm_y k)) (mm_mwk k).2.1
   else decide (mm_kd k = 2) && mm_cl2 (.instanceMethod (mm_y k)) (mm_mwk k).2.1 && decide ((mm_y k).name = "<init>") && decide (mm_rt k = none))
  && mm_cl2 (.initialized (mm_cn (mm_o k))) (mm_mwk k).2.2.2 && decide ((mm_y k).cls = mm_cn (mm_o k)) && decide ((mm_y k).cls ≠ "java/lang/invoke/MethodHandle" ∧ (mm_y k).cls ≠ "java/lang/invoke/VarHandle" ∧ (parseMethodDescriptor (mm_y k).desc).map (fun d => d.parameters.length) = some (mm_np k)) && plainName (mm_y k).cls && decide (mm_nL k ≤ 20))
set_option maxRecDepth 100000 in
theorem mm_mck_all : (List.range 232).all mm_mck = true := by decide +kernel
theorem mm_mck_ok {k : Nat} (h : k < 232) (h8 : mm_kd k < 3) : (mm_kd k = 0 → Cond.instanceMethod (mm_y k) ∈ mm_T ∧ Cond.selects (mm_cn (mm_o k)) (mm_y k) (mm_y k) ∈ mm_T) ∧ (mm_kd k = 1 → Cond.static (mm_y k) ∈ mm_T) ∧ (mm_kd k = 2 → Cond.instanceMethod (mm_y k) ∈ mm_T ∧ (mm_y k).name = "<init>" ∧ mm_rt k = none) ∧ Cond.initialized (mm_cn (mm_o k)) ∈ mm_T ∧ (mm_y k).cls = mm_cn (mm_o k) ∧ ((mm_y k).cls ≠ "java/lang/invoke/MethodHandle" ∧ (mm_y k).cls ≠ "java/lang/invoke/VarHandle" ∧ (parseMethodDescriptor (mm_y k).desc).map (fun d => d.parameters.length) = some (mm_np k)) ∧ plainName (mm_y k).cls = true ∧ mm_nL k ≤ 20 := by
  have h1 := List.all_eq_true.mp mm_mck_all k (List.mem_range.mpr h)
  unfold mm_mck at h1
  simp only [Bool.or_eq_true, Bool.and_eq_true, decide_eq_true_eq] at h1
  have h1 := h1.resolve_left (by omega)
  obtain ⟨⟨⟨⟨⟨h2, h3⟩, h4⟩, h5⟩, h6⟩, h7⟩ := h1
  refine ⟨fun e => ?_, fun e => ?_, fun e => ?_, mm_cl2_in h3, h4, h5, h6, h7⟩
  · rw [if_pos e] at h2
    simp only [Bool.and_eq_true] at h2
    exact ⟨mm_cl2_in h2.1, mm_cl2_in h2.2⟩
  · rw [if_neg (by omega), if_pos e] at h2
    exact mm_cl2_in h2
  · rw [if_neg (by omega), if_neg (by omega)] at h2
    simp only [Bool.and_eq_true, decide_eq_true_eq] at h2
    exact ⟨mm_cl2_in h2.1.1.2, h2.1.2, h2.2⟩
def mm_lck (e : Nat × Nat × Nat × Nat × Nat) : Bool := match e with
  | (o, i, k, 0, p) => decide (k < 232 ∧ mm_kd k = 0) && mm_ck (.methodLink (mm_cn o) i (mm_y k)) p
  | (o, i, k, 1, p) => decide (k < 232 ∧ mm_kd k = 1) && mm_ck (.methodLink (mm_cn o) i (mm_y k)) p
  | (o, i, k, 2, p) => decide (k < 232 ∧ mm_kd k = 2) && mm_ck (.methodLink (mm_cn o) i (mm_y k)) p
  | (o, i, k, 3, _) => decide (k = 150 ∧ mm_kd k = 1 ∧ o = 9 ∧ i = 32)
  | (o, i, _, 4, p) => mm_ck (.methodLink (mm_cn o) i arraycopyName) p
  | (o, i, _, 5, p) => mm_ck (.methodLink (mm_cn o) i objectInit) p
  | (o, i, _, 6, p) => mm_ck (.methodLink (mm_cn o) i Lib.Math.max.name) p
  | (o, i, _, 7, p) => mm_ck (.methodLink (mm_cn o) i Lib.Math.min.name) p
  | _ => false
theorem mm_mlk_all : mm_mlk.all mm_lck = true := by decide +kernel
theorem mm_lm_ok {o i k kd : Nat} (h : mm_lm o i = some (k, kd)) : ∃ p, mm_lck (o, i, k, kd, p) = true := by
  unfold mm_lm at h
  cases hf : mm_mlk.find? (fun e => e.1 == o && e.2.1 == i) with
  | none => rw [hf] at h; cases h
  | some e =>
    rw [hf] at h
    obtain ⟨e1, e2, e3, e4, e5⟩ := e
    have hm := List.mem_of_find?_eq_some hf
    have hp := List.find?_some hf
    simp only [Bool.and_eq_true, beq_iff_eq] at hp
    obtain ⟨rfl, rfl⟩ := hp
    cases h
    exact ⟨e5, List.all_eq_true.mp mm_mlk_all _ hm⟩
theorem mm_lm_0 {o i k : Nat} (h : mm_lm o i = some (k, 0)) : k < 232 ∧ mm_kd k = 0 ∧ Cond.methodLink (mm_cn o) i (mm_y k) ∈ mm_T := by
  obtain ⟨p, hp⟩ := mm_lm_ok h
  simp only [mm_lck, Bool.and_eq_true, decide_eq_true_eq] at hp
  exact ⟨hp.1.1, hp.1.2, mm_ck_in hp.2⟩
theorem mm_lm_1 {o i k : Nat} (h : mm_lm o i = some (k, 1)) : k < 232 ∧ mm_kd k = 1 ∧ Cond.methodLink (mm_cn o) i (mm_y k) ∈ mm_T := by
  obtain ⟨p, hp⟩ := mm_lm_ok h
  simp only [mm_lck, Bool.and_eq_true, decide_eq_true_eq] at hp
  exact ⟨hp.1.1, hp.1.2, mm_ck_in hp.2⟩
theorem mm_lm_2 {o i k : Nat} (h : mm_lm o i = some (k, 2)) : k < 232 ∧ mm_kd k = 2 ∧ Cond.methodLink (mm_cn o) i (mm_y k) ∈ mm_T := by
  obtain ⟨p, hp⟩ := mm_lm_ok h
  simp only [mm_lck, Bool.and_eq_true, decide_eq_true_eq] at hp
  exact ⟨hp.1.1, hp.1.2, mm_ck_in hp.2⟩
theorem mm_lm_3 {o i k : Nat} (h : mm_lm o i = some (k, 3)) : k = 150 ∧ mm_kd k = 1 ∧ o = 9 ∧ i = 32 := by
  obtain ⟨p, hp⟩ := mm_lm_ok h
  simpa only [mm_lck, decide_eq_true_eq] using hp
theorem mm_lm_4 {o i k : Nat} (h : mm_lm o i = some (k, 4)) : Cond.methodLink (mm_cn o) i arraycopyName ∈ mm_T := by
  obtain ⟨p, hp⟩ := mm_lm_ok h
  exact mm_ck_in hp
theorem mm_lm_5 {o i k : Nat} (h : mm_lm o i = some (k, 5)) : Cond.methodLink (mm_cn o) i objectInit ∈ mm_T := by
  obtain ⟨p, hp⟩ := mm_lm_ok h
  exact mm_ck_in hp
theorem mm_lm_6 {o i k : Nat} (h : mm_lm o i = some (k, 6)) : Cond.methodLink (mm_cn o) i Lib.Math.max.name ∈ mm_T := by
  obtain ⟨p, hp⟩ := mm_lm_ok h
  exact mm_ck_in hp
theorem mm_lm_7 {o i k : Nat} (h : mm_lm o i = some (k, 7)) : Cond.methodLink (mm_cn o) i Lib.Math.min.name ∈ mm_T := by
  obtain ⟨p, hp⟩ := mm_lm_ok h
  exact mm_ck_in hp
theorem mm_math_w : Cond.static Lib.Math.max.name ∈ mm_T ∧ Cond.static Lib.Math.min.name ∈ mm_T ∧ Cond.initialized "java/lang/Math" ∈ mm_T := ⟨mm_T_t (i := 867) (by decide +kernel) (by decide +kernel), mm_T_t (i := 530) (by decide +kernel) (by decide +kernel), mm_T_t (i := 16) (by decide +kernel) (by decide +kernel)⟩
set_option maxRecDepth 100000 in
theorem mm_max_code : Cond.code Lib.Math.max.name Lib.Math.max.code 2 (some .int) ∈ mm_T := mm_T_t (i := 868) rfl (by decide +kernel)
set_option maxRecDepth 100000 in
theorem mm_min_code : Cond.code Lib.Math.min.name Lib.Math.min.code 2 (some .int) ∈ mm_T := mm_T_t (i := 531) rfl (by decide +kernel)
theorem mm_copy_w : Cond.native arraycopyName ∈ mm_T ∧ Cond.static arraycopyName ∈ mm_T ∧ Cond.initialized "java/lang/System" ∈ mm_T := ⟨mm_T_t (i := 354) (by decide +kernel) (by decide +kernel), mm_T_t (i := 353) (by decide +kernel) (by decide +kernel), mm_T_t (i := 14) (by decide +kernel) (by decide +kernel)⟩
theorem mm_obj_w : Cond.instanceMethod objectInit ∈ mm_T := mm_T_t (i := 23) (by decide +kernel) (by decide +kernel)
set_option maxRecDepth 100000 in
theorem mm_obj_code : Cond.code objectInit ⟨#[0xb1]⟩ 1 none ∈ mm_T := mm_T_t (i := 24) rfl (by decide +kernel)
theorem mm_arr_w : Cond.arrayClass .int ∈ mm_T ∧ Cond.arrayClass .boolean ∈ mm_T ∧ Cond.arrayClass .long ∈ mm_T := ⟨mm_T_t (i := 69) (by decide +kernel) (by decide +kernel), mm_T_t (i := 49) (by decide +kernel) (by decide +kernel), mm_T_t (i := 129) (by decide +kernel) (by decide +kernel)⟩
theorem mm_ao_w : Cond.arrayOver (.object RX9) ∈ lw_tbl ∧ Cond.arrayOver (.object RX0) ∈ lw_tbl ∧ Cond.arrayOver (.object RX7) ∈ lw_tbl ∧ Cond.arrayOver (.array .boolean) ∈ lw_tbl ∧ Cond.arrayOver (.array .int) ∈ lw_tbl ∧ Cond.arrayOver (.array .long) ∈ lw_tbl := ⟨List.mem_append_right _ (List.mem_of_getElem? (i := 51) (by decide +kernel)), List.mem_append_right _ (List.mem_of_getElem? (i := 70) (by decide +kernel)), List.mem_append_right _ (List.mem_of_getElem? (i := 111) (by decide +kernel)), List.mem_append_right _ (List.mem_of_getElem? (i := 910) (by decide +kernel)), List.mem_append_right _ (List.mem_of_getElem? (i := 912) (by decide +kernel)), List.mem_append_right _ (List.mem_of_getElem? (i := 914) (by decide +kernel))⟩
theorem mm_nest_w : Cond.methodLinkNest RX9 32 (mm_y 150) "OrbitDesigns" ∈ lw_tbl := List.mem_append_right _ (List.mem_of_getElem? (i := 312) (by decide +kernel))
end
section
-- THE RELATION between the abstract heap and the machine's
def mm_ad (b z : Nat) : Nat → Nat
  | 0 => b
  | i + 1 => z + i
def mm_v (b z : Nat) : Value → Value
  | .ref i => .ref (mm_ad b z i)
  | v => v
theorem mm_v_cat (b z : Nat) (v : Value) : (mm_v b z v).category = v.category := by cases v <;> rfl
theorem mm_v_cats (b z : Nat) (st : List Value) : ((st.map (mm_v b z)).map fun v => v.category).sum = mm_cat st := by
  unfold mm_cat
  rw [List.map_map]
  congr 1
  exact List.map_congr_left fun v _ => mm_v_cat b z v
theorem mm_v_rf (b z : Nat) (r : Option Nat) : mm_v b z (va_rf r) = va_rf (r.map (mm_ad b z)) := by cases r <;> rfl
/-- what a cell holds, in the kit's words -/
def mm_fv (b z : Nat) (h : mm_H) (i c k : Nat) : Value := if mm_fk c k = 2 then va_rf ((h.2.1 i k).map (mm_ad b z)) else .int (h.2.2.1 i k)
def mm_en (b z : Nat) (h : mm_H) (cA : Nat → ClassId) (i : Nat) (q : Nat × Nat) : va_E :=
  if q.1 < 100 then .inr (q.1, (List.range (mm_fn q.1)).map (fun k => mm_fv b z h i q.1 k))
  else if q.1 ≤ 101 then .inl (cA i, q.2, .inl (h.2.2.1 i))
  else if q.1 = 102 then .inl (cA i, q.2, .inr (.inl (h.2.2.2 i)))
  else .inl (cA i, q.2, .inr (.inr (.inr (.inr (fun j => (h.2.1 i j).map (mm_ad b z))))))
def mm_tag (q : Nat × Nat) : Prop := (q.1 < 12 ∧ q.2 = mm_fn q.1) ∨ (100 ≤ q.1 ∧ q.1 ≤ 108)
def mm_R1 (D : va_G) (b z : Nat) (h : mm_H) (H : Heap) (U : State) (cA : Nat → ClassId) : Prop :=
  b < z ∧ H.size + 1 = z + h.1.length ∧ (∃ n, h.1[0]? = some (100, n) ∧ va_X b n (h.2.2.1 0) U H) ∧
  ∀ i q, h.1[i + 1]? = some q → mm_tag q ∧ va_at D vwCl (z + i, mm_en b z h cA (i + 1) q) H ∧ (100 ≤ q.1 → ArrOfT U (cA (i + 1)) (mm_aty q.1) ∧ va_RA U (cA (i + 1)) (mm_aty q.1))
def mm_R (D : va_G) (b z : Nat) (h : mm_H) (H : Heap) (U : State) : Prop := ∃ cA, mm_R1 D b z h H U cA
/-- what stays: the classes, the words that aren't the tables' -/
def mm_AO (U : State) : Prop := va_AO RX9 U ∧ va_AO RX0 U ∧ va_AO RX7 U ∧ (∀ t, (t = .int ∨ t = .boolean ∨ t = .long) → (Cond.arrayOver (.array t)).before #[] U = true)
def mm_F (D : va_G) (U : State) : Prop := va_K D vwCl [] U ∧ mm_AO U ∧ va_Nw (.methodLinkNest RX9 32 (mm_y 150) "OrbitDesigns") U
theorem mm_aoA_moved {t : FieldType} {u U : State} (hvm : u.vm.Alike U.vm) (h : (Cond.arrayOver (.array t)).before #[] u = true) : (Cond.arrayOver (.array t)).before #[] U = true := by
  obtain ⟨comp, c, k, h1, h2, h3, h4, h5⟩ := arrayOverA_spec h
  obtain ⟨k', hk', he⟩ := hvm.2.2 _ _ h3
  have e1 := va_idx_bare U.vm comp
  have e2 := va_idx_bare u.vm comp
  have hb : u.vm.bare = U.vm.bare := by first | exact hvm.bare_eq | exact hvm.bare_eq.symm
  rw [hb] at e2
  have hi : (U.vm.classes.findIdx? fun (x : Class) => match x.kind with | .array component _ => component == comp | _ => false) = some c := e1.symm.trans (e2.trans h2)
  have hkind : k'.kind = .array comp (.array t) := by rw [he]; exact h4
  have f1 : U.vm.findClass (FieldType.array t).toString = some comp := by rw [hvm.findClass]; exact h1
  have f2 : U.vm.findClass ("[" ++ (FieldType.array t).toString) = some c := by rw [hvm.findClass]; exact h5
  unfold Cond.before Cond.holds
  simp only [Cond.value]
  rw [f1, Option.bind_some]
  refine (congrArg (fun o : Option Nat => (o.bind (fun c => (U.vm.classes[c]?).map fun (k : Class) => match k.kind with | .array _ ty => decide (ty = FieldType.array t) && decide (U.vm.findClass ("[" ++ (FieldType.array t).toString) = some c) | _ => false) == some true)) hi).trans ?_
  simp [hk', hkind, f2]
theorem mm_F.moved {D : va_G} {s U : State} (hW : s.WarmedH U.vm) (h : mm_F D s) : mm_F D U := by
  obtain ⟨h1, ⟨a1, a2, a3, a4⟩, h3⟩ := h
  have hvm := hW.alike
  exact ⟨va_K.moved hvm h1, ⟨a1.moved hvm, a2.moved hvm, a3.moved hvm, fun t ht => mm_aoA_moved hvm (a4 t ht)⟩, va_Nw.warmM hW h3⟩
theorem mm_F.same {D : va_G} {s U : State} (hvm : s.vm = U.vm) (h : mm_F D s) : mm_F D U := by
  obtain ⟨h1, ⟨a1, a2, a3, a4⟩, h3⟩ := h
  have e : s.vm.Alike U.vm := by rw [hvm]; exact Vm.Alike.refl _
  exact ⟨va_K.moved e h1, ⟨a1.moved e, a2.moved e, a3.moved e, fun t ht => mm_aoA_moved e (a4 t ht)⟩, va_Nw.same rfl hvm h3⟩
theorem mm_R.moved {D : va_G} {b z : Nat} {h : mm_H} {H : Heap} {s U : State} (hvm : s.vm.Alike U.vm) (hR : mm_R D b z h H s) : mm_R D b z h H U := by
  obtain ⟨cA, h1, h2, ⟨n, h3, h4⟩, h5⟩ := hR
  exact ⟨cA, h1, h2, ⟨n, h3, h4.moved hvm⟩, fun i q hq => ⟨(h5 i q hq).1, (h5 i q hq).2.1, fun e => ⟨arrOfT_moved hvm ((h5 i q hq).2.2 e).1, ((h5 i q hq).2.2 e).2.moved hvm⟩⟩⟩
/-- locals -/
def mm_al (b z : Nat) : Nat → mm_L → List (Nat × Value)
  | _, [] => []
  | i, none :: t => mm_al b z (i + 1) t
  | i, some v :: t => (i, mm_v b z v) :: mm_al b z (i + 1) t
def mm_LR (b z n : Nat) (l : mm_L) (ls : Array Slot) : Prop := l.length = n ∧ lv_has ls n (mm_al b z 0 l)
theorem mm_al_ge (b z : Nat) : ∀ (l : mm_L) (i : Nat), ∀ q ∈ mm_al b z i l, i ≤ q.1
  | [], _, q, h => by cases h
  | none :: t, i, q, h => by
    have := mm_al_ge b z t (i + 1) q h
    omega
  | some v :: t, i, q, h => by
    rcases List.mem_cons.mp h with rfl | h
    · exact Nat.le_refl _
    · have := mm_al_ge b z t (i + 1) q h
      omega
theorem mm_al_get (b z : Nat) : ∀ (l : mm_L) (i k : Nat) (v : Value), mm_get l k = some v → (i + k, mm_v b z v) ∈ mm_al b z i l
  | [], _, _, _, h => by cases h
  | a :: t, i, 0, v, h => by
    have e : a = some v := h
    subst e
    exact List.mem_cons_self
  | none :: t, i, k + 1, v, h => by
    have := mm_al_get b z t (i + 1) k v h
    rw [Nat.add_right_comm] at this
    exact this
  | some w :: t, i, k + 1, v, h => by
    have := mm_al_get b z t (i + 1) k v h
    rw [Nat.add_right_comm] at this
    exact List.mem_cons_of_mem _ this
theorem mm_LR.get {b z n : Nat} {l : mm_L} {ls : Array Slot} (h : mm_LR b z n l ls) {k : Nat} {v : Value} (hk : mm_get l k = some v) : ls[k]? = some (.val (mm_v b z v)) := by
  have := h.2.2.2 _ (mm_al_get b z l 0 k v hk)
  rwa [Nat.zero_add] at this
theorem mm_set_len : ∀ (l : mm_L) (k : Nat) (v : Value), (mm_set l k v).length = l.length
  | [], _, _ => rfl
  | _ :: _, 0, _ => rfl
  | a :: t, 1, v => by show (mm_set t 0 v).length + 1 = _; rw [mm_set_len t 0 v]; rfl
  | a :: t, n + 2, v => by show (mm_set t (n + 1) v).length + 1 = _; rw [mm_set_len t (n + 1) v]; rfl
theorem mm_clr_some {a : Option Value} {w : Value} (h : mm_clr a = some w) : a = some w ∧ w.category = 1 := by
  cases a with
  | none => cases h
  | some x => cases x <;> first | (cases h; done) | (cases h; exact ⟨rfl, rfl⟩)
theorem mm_al_set (b z : Nat) (v : Value) : ∀ (l : mm_L) (k i : Nat), ∀ q ∈ mm_al b z i (mm_set l k v), q ∈ ((i + k, mm_v b z v) :: (mm_al b z i l).filter (fun q => !(q.1 == i + k) && !(q.1 + 1 == i + k && q.2.category == 2)))
  | [], _, _, q, h => by cases h
  | a :: t, 0, i, q, h => by
    rcases List.mem_cons.mp (show q ∈ (i, mm_v b z v) :: mm_al b z (i + 1) t from h) with h3 | h3
    · exact List.mem_cons.mpr (Or.inl h3)
    · refine List.mem_cons_of_mem _ (List.mem_filter.mpr ⟨?_, ?_⟩)
      · cases a with
        | none => exact h3
        | some w => exact List.mem_cons_of_mem _ h3
      · have := mm_al_ge b z t (i + 1) q h3
        simp
        omega
  | a :: t, 1, i, q, h => by
    have h : q ∈ mm_al b z i (mm_clr a :: mm_set t 0 v) := h
    have go : q ∈ mm_al b z (i + 1) (mm_set t 0 v) → q ∈ ((i + 1, mm_v b z v) :: (mm_al b z i (a :: t)).filter (fun q => !(q.1 == i + 1) && !(q.1 + 1 == i + 1 && q.2.category == 2))) := by
      intro h
      have h2 := mm_al_set b z v t 0 (i + 1) q h
      rcases List.mem_cons.mp h2 with h2 | h2
      · exact List.mem_cons.mpr (Or.inl h2)
      · obtain ⟨g1, g2⟩ := List.mem_filter.mp h2
        refine List.mem_cons_of_mem _ (List.mem_filter.mpr ⟨?_, g2⟩)
        cases a with
        | none => exact g1
        | some w => exact List.mem_cons_of_mem _ g1
    cases hc : mm_clr a with
    | none =>
      rw [hc] at h
      exact go h
    | some w =>
      rw [hc] at h
      obtain ⟨ea, hcat⟩ := mm_clr_some hc
      rcases List.mem_cons.mp (show q ∈ (i, mm_v b z w) :: mm_al b z (i + 1) (mm_set t 0 v) from h) with h3 | h3
      · refine List.mem_cons_of_mem _ (List.mem_filter.mpr ⟨?_, ?_⟩)
        · rw [h3, ea]; exact List.mem_cons_self
        · rw [h3]
          simp [mm_v_cat, hcat]
      · exact go h3
  | a :: t, k + 2, i, q, h => by
    have h : q ∈ mm_al b z i (a :: mm_set t (k + 1) v) := h
    have go : q ∈ mm_al b z (i + 1) (mm_set t (k + 1) v) → q ∈ ((i + (k + 2), mm_v b z v) :: (mm_al b z i (a :: t)).filter (fun q => !(q.1 == i + (k + 2)) && !(q.1 + 1 == i + (k + 2) && q.2.category == 2))) := by
      intro h
      have h2 := mm_al_set b z v t (k + 1) (i + 1) q h
      have e : i + 1 + (k + 1) = i + (k + 2) := by omega
      rw [e] at h2
      rcases List.mem_cons.mp h2 with h2 | h2
      · exact List.mem_cons.mpr (Or.inl h2)
      · obtain ⟨g1, g2⟩ := List.mem_filter.mp h2
        refine List.mem_cons_of_mem _ (List.mem_filter.mpr ⟨?_, g2⟩)
        cases a with
        | none => exact g1
        | some w => exact List.mem_cons_of_mem _ g1
    cases a with
    | none => exact go h
    | some w =>
      rcases List.mem_cons.mp (show q ∈ (i, mm_v b z w) :: mm_al b z (i + 1) (mm_set t (k + 1) v) from h) with h | h
      · refine List.mem_cons_of_mem _ (List.mem_filter.mpr ⟨?_, ?_⟩)
        · rw [h]; exact List.mem_cons_self
        · rw [h]
          simp
          try omega
      · exact go h
theorem mm_LR.put {b z n k : Nat} {l l' : mm_L} {ls' : Array Slot} {v : Value} (hl : l.length = n) (hp : mm_put l k v = some l')
    (h : lv_has ls' n ((k, mm_v b z v) :: (mm_al b z 0 l).filter (fun q => !(q.1 == k) && !(q.1 + 1 == k && q.2.category == 2)))) : mm_LR b z n l' ls' := by
  unfold mm_put at hp
  split at hp
  · cases hp
    refine ⟨(mm_set_len l k v).trans hl, h.1, h.2.1, fun q hq => ?_⟩
    have := mm_al_set b z v l k 0 q hq
    rw [Nat.zero_add] at this
    exact h.2.2 q this
  · cases hp
theorem mm_put_lt {l l' : mm_L} {k : Nat} {v : Value} (hp : mm_put l k v = some l') : k < l.length := by
  unfold mm_put at hp
  split at hp
  · assumption
  · cases hp
theorem mm_ex_len (b z : Nat) : ∀ (as : List Value), (mm_ex as).length = (lg_sl (as.map (mm_v b z))).length
  | [] => rfl
  | a :: t => by
    have ih := mm_ex_len b z t
    cases a <;> simp_all [mm_ex, lg_sl, mm_v, Value.category]
theorem mm_al_ex (b z : Nat) : ∀ (as : List Value) (i n : Nat), ∀ q ∈ mm_al b z i (mm_pad n (mm_ex as)), q ∈ lv_args i (as.map (mm_v b z))
  | as, i, 0, q, h => by cases as <;> cases h
  | [], i, n + 1, q, h => by
    have h : q ∈ mm_al b z (i + 1) (mm_pad n (mm_ex [])) := h
    have := mm_al_ex b z [] (i + 1) n q h
    cases this
  | a :: t, i, n + 1, q, h => by
    by_cases hc : a.category = 2
    · have e : mm_ex (a :: t) = some a :: none :: mm_ex t := by cases a <;> first | rfl | (simp [Value.category] at hc)
      rw [e] at h
      rw [List.map_cons, lv_args, mm_v_cat, if_pos hc]
      rcases List.mem_cons.mp (show q ∈ (i, mm_v b z a) :: mm_al b z (i + 1) (mm_pad n (none :: mm_ex t)) from h) with h | h
      · exact List.mem_cons.mpr (Or.inl h)
      · refine List.mem_cons_of_mem _ ?_
        cases n with
        | zero => cases h
        | succ n => exact mm_al_ex b z t (i + 2) n q h
    · have e : mm_ex (a :: t) = some a :: mm_ex t := by cases a <;> first | rfl | (simp [Value.category] at hc)
      rw [e] at h
      rw [List.map_cons, lv_args, mm_v_cat, if_neg hc]
      rcases List.mem_cons.mp (show q ∈ (i, mm_v b z a) :: mm_al b z (i + 1) (mm_pad n (mm_ex t)) from h) with h | h
      · exact List.mem_cons.mpr (Or.inl h)
      · exact List.mem_cons_of_mem _ (mm_al_ex b z t (i + 1) n q h)
theorem mm_pad_len : ∀ (n : Nat) (l : mm_L), (mm_pad n l).length = n
  | 0, _ => rfl
  | n + 1, [] => by show (mm_pad n []).length + 1 = _; rw [mm_pad_len n []]
  | n + 1, a :: t => by show (mm_pad n t).length + 1 = _; rw [mm_pad_len n t]
theorem mm_LR_entry (b z n : Nat) (as : List Value) (h : (mm_ex as).length ≤ n) : mm_LR b z n (mm_pad n (mm_ex as)) ((lg_sl (as.map (mm_v b z)) ++ List.replicate (n - (lg_sl (as.map (mm_v b z))).length) Slot.unset).toArray) := by
  rw [mm_ex_len b z] at h
  have hl := lv_entry (as.map (mm_v b z)) (n := n) h
  exact ⟨mm_pad_len n _, hl.1, hl.2.1, fun q hq => hl.2.2 q (mm_al_ex b z as 0 n q hq)⟩
end
section
-- SIMULATION, instructions that don't touch the heap
def mm_W (p : Program) (l : Launch) (e : Env) (R : Room) (s : State) (m : MethodId) (args : Array Value) (below : List Frame) (meth : Method) (c : Code) (Q : State → Prop) (D : va_G) (b z k N0 S0 : Nat) (pc : Nat) (la : mm_L) (st : List Value) (h : mm_H) : Prop :=
  ∀ (H : Heap) (locs : List Loc) (ls : Array Slot), mm_R D b z h H s → mm_LR b z (mm_nL k) la ls → va_S (fun q => z ≤ q) s.heap H locs → W p l e R s m args below meth c H locs (h.1.length - N0) (mm_sl h.1 - S0) Q (F0 m pc ls (st.map (mm_v b z)))
def mm_Cx (p : Program) (s : State) (m : MethodId) (args : Array Value) (meth : Method) (c : Code) (k : Nat) : Prop :=
  p.tables.exec = Jvm.exec ∧ c.code = mm_b k ∧ c.maxLocals = mm_nL k ∧ s.vm.findClass (mm_cn (mm_o k)) = some m.cls ∧ (∀ w ∈ mm_T, w.before args s = true) ∧ (mm_kd k = 2 → meth.name = "<init>")
theorem mm_tg_ok {pc : Nat} {off : Int} (h : mm_ok pc off = true) : (pc : Int) + off = (mm_tg pc off : Int) := by
  have h1 : 0 ≤ (pc : Int) + off := of_decide_eq_true h
  exact (Int.toNat_of_nonneg h1).symm
section MS1
variable {p : Program} {l : Launch} {e : Env} {R : Room} {s : State} {m : MethodId} {args : Array Value} {below : List Frame} {meth : Method} {c : Code} {Q : State → Prop} {D : va_G} {b z k N0 S0 : Nat} {i : Instr} {n pc pc' : Nat} {la la' : mm_L} {st st' : List Value} {h h' : mm_H}
set_option maxHeartbeats 4000000 in
theorem mm_s1 (X : mm_Cx p s m args meth c k) (hd : decode (mm_b k) pc = .ok (i, n)) (hn : mm_ln i n = true) (hx : mm_x1 (mm_o k) i n pc la st h = some (pc', la', st', h')) (kk : mm_W p l e R s m args below meth c Q D b z k N0 S0 pc' la' st' h') : mm_W p l e R s m args below meth c Q D b z k N0 S0 pc la st h := by
  obtain ⟨hexec, hb, hml, hown, hts, -⟩ := X
  cases i with
  | iconst v =>
    have hn : n = 1 := by simpa [mm_ln] using hn
    subst hn
    cases hx
    intro H locs ls hR hL hS
    exact lv_iconst hexec hb hd rfl (kk H locs ls hR hL hS)
  | bipush v =>
    have hn : n = 2 := by simpa [mm_ln] using hn
    subst hn
    cases hx
    intro H locs ls hR hL hS
    exact lv_bipush hexec hb hd rfl (kk H locs ls hR hL hS)
  | sipush v =>
    have hn : n = 3 := by simpa [mm_ln] using hn
    subst hn
    cases hx
    intro H locs ls hR hL hS
    exact lv_sipush hexec hb hd rfl (kk H locs ls hR hL hS)
  | lconst v =>
    have hn : n = 1 := by simpa [mm_ln] using hn
    subst hn
    cases hx
    intro H locs ls hR hL hS
    exact lv_lconst hexec hb hd rfl (kk H locs ls hR hL hS)
  | aconst_null =>
    have hn : n = 1 := by simpa [mm_ln] using hn
    subst hn
    cases hx
    intro H locs ls hR hL hS
    exact lv_null hexec hb hd (kk H locs ls hR hL hS)
  | ldc j =>
    have hn : n = 2 := by simpa [mm_ln] using hn
    subst hn
    simp only [mm_x1] at hx
    split at hx
    · next v hv =>
      cases hx
      intro H locs ls hR hL hS
      exact lv_ldc hexec hb hown (hts _ (mm_ki_ok hv)) hd (kk H locs ls hR hL hS)
    · cases hx
  | ldc_w j =>
    have hn : n = 3 := by simpa [mm_ln] using hn
    subst hn
    simp only [mm_x1] at hx
    split at hx
    · next v hv =>
      cases hx
      intro H locs ls hR hL hS
      exact lv_ldcw hexec hb hown (hts _ (mm_ki_ok hv)) hd (kk H locs ls hR hL hS)
    · cases hx
  | ldc2_w j =>
    have hn : n = 3 := by simpa [mm_ln] using hn
    subst hn
    simp only [mm_x1] at hx
    split at hx
    · next v hv =>
      cases hx
      intro H locs ls hR hL hS
      exact lv_ldc2 hexec hb hown (hts _ (mm_kl_ok hv)) hd (kk H locs ls hR hL hS)
    · cases hx
  | iload_n v =>
    have hn : n = 1 := by simpa [mm_ln] using hn
    subst hn
    simp only [mm_x1] at hx
    split at hx
    · next x hg =>
      cases hx
      intro H locs ls hR hL hS
      exact lv_iload_n hexec hb hd rfl (hL.get hg) (kk H locs ls hR hL hS)
    · cases hx
  | iload v =>
    have hn : n = 2 := by simpa [mm_ln] using hn
    subst hn
    simp only [mm_x1] at hx
    split at hx
    · next x hg =>
      cases hx
      intro H locs ls hR hL hS
      exact lv_iload hexec hb hd (hL.get hg) (kk H locs ls hR hL hS)
    · cases hx
  | lload_n v =>
    have hn : n = 1 := by simpa [mm_ln] using hn
    subst hn
    simp only [mm_x1] at hx
    split at hx
    · next x hg =>
      cases hx
      intro H locs ls hR hL hS
      exact lv_lload_n hexec hb hd rfl (hL.get hg) (kk H locs ls hR hL hS)
    · cases hx
  | lload v =>
    have hn : n = 2 := by simpa [mm_ln] using hn
    subst hn
    simp only [mm_x1] at hx
    split at hx
    · next x hg =>
      cases hx
      intro H locs ls hR hL hS
      exact lv_lload hexec hb hd (hL.get hg) (kk H locs ls hR hL hS)
    · cases hx
  | aload_n v =>
    have hn : n = 1 := by simpa [mm_ln] using hn
    subst hn
    simp only [mm_x1] at hx
    split at hx
    · next x hg =>
      cases hx
      intro H locs ls hR hL hS
      exact lv_aload_n hexec hb hd rfl (hL.get hg) (kk H locs ls hR hL hS)
    · cases hx
  | aload v =>
    have hn : n = 2 := by simpa [mm_ln] using hn
    subst hn
    simp only [mm_x1] at hx
    split at hx
    · next x hg =>
      cases hx
      intro H locs ls hR hL hS
      exact lv_aload hexec hb hd (hL.get hg) (kk H locs ls hR hL hS)
    · cases hx
  | istore_n v =>
    have hn : n = 1 := by simpa [mm_ln] using hn
    subst hn
    simp only [mm_x1] at hx
    split at hx
    · next x r =>
      split at hx
      · next l9 hp =>
        cases hx
        intro H locs ls hR hL hS
        exact lv_istore_n hexec hb hd rfl hL.2 (by rw [← hL.1]; exact mm_put_lt hp) rfl (fun ls2 h2 => kk H locs ls2 hR (mm_LR.put hL.1 hp h2) hS)
      · cases hx
    · cases hx
  | istore v =>
    have hn : n = 2 := by simpa [mm_ln] using hn
    subst hn
    simp only [mm_x1] at hx
    split at hx
    · next x r =>
      split at hx
      · next l9 hp =>
        cases hx
        intro H locs ls hR hL hS
        exact lv_istore hexec hb hd hL.2 (by rw [← hL.1]; exact mm_put_lt hp) rfl (fun ls2 h2 => kk H locs ls2 hR (mm_LR.put hL.1 hp h2) hS)
      · cases hx
    · cases hx
  | astore_n v =>
    have hn : n = 1 := by simpa [mm_ln] using hn
    subst hn
    simp only [mm_x1] at hx
    split at hx
    · next x r =>
      split at hx
      · next l9 hp =>
        cases hx
        intro H locs ls hR hL hS
        exact lv_astore_n hexec hb hd rfl hL.2 (by rw [← hL.1]; exact mm_put_lt hp) rfl (fun ls2 h2 => kk H locs ls2 hR (mm_LR.put hL.1 hp h2) hS)
      · cases hx
    · cases hx
  | astore v =>
    have hn : n = 2 := by simpa [mm_ln] using hn
    subst hn
    simp only [mm_x1] at hx
    split at hx
    · next x r =>
      split at hx
      · next l9 hp =>
        cases hx
        intro H locs ls hR hL hS
        exact lv_astore hexec hb hd hL.2 (by rw [← hL.1]; exact mm_put_lt hp) rfl (fun ls2 h2 => kk H locs ls2 hR (mm_LR.put hL.1 hp h2) hS)
      · cases hx
    · cases hx
  | iinc j v =>
    have hn : n = 3 := by simpa [mm_ln] using hn
    subst hn
    simp only [mm_x1] at hx
    split at hx
    · next x hg =>
      split at hx
      · next l9 hp =>
        cases hx
        intro H locs ls hR hL hS
        have hm := mm_al_get b z la 0 j _ hg
        rw [Nat.zero_add] at hm
        obtain ⟨k0, hk0⟩ := List.getElem?_of_mem hm
        exact lv_iinc hexec hb hd hL.2 hk0 rfl (by rw [← hL.1]; exact mm_put_lt hp) rfl (fun ls2 h2 => kk H locs ls2 hR (mm_LR.put hL.1 hp h2) hS)
      · cases hx
    · cases hx
  | dup =>
    have hn : n = 1 := by simpa [mm_ln] using hn
    subst hn
    simp only [mm_x1] at hx
    split at hx
    · cases hx
      intro H locs ls hR hL hS
      exact lv_dup hexec hb hd rfl (kk H locs ls hR hL hS)
    · cases hx
      intro H locs ls hR hL hS
      exact lv_dup hexec hb hd rfl (kk H locs ls hR hL hS)
    · cases hx
  | dup2 =>
    have hn : n = 1 := by simpa [mm_ln] using hn
    subst hn
    simp only [mm_x1] at hx
    split at hx
    · cases hx
      intro H locs ls hR hL hS
      exact lv_dup2_11 hexec hb hd rfl rfl (kk H locs ls hR hL hS)
    · cases hx
  | dup_x1 =>
    have hn : n = 1 := by simpa [mm_ln] using hn
    subst hn
    simp only [mm_x1] at hx
    split at hx
    · cases hx
      intro H locs ls hR hL hS
      exact lv_dup_x1 hexec hb hd rfl rfl (kk H locs ls hR hL hS)
    · cases hx
  | pop =>
    have hn : n = 1 := by simpa [mm_ln] using hn
    subst hn
    simp only [mm_x1] at hx
    split at hx
    · cases hx
      intro H locs ls hR hL hS
      exact lv_pop hexec hb hd rfl (kk H locs ls hR hL hS)
    · cases hx
  | _ => exact absurd hx (by simp [mm_x1])
set_option maxHeartbeats 4000000 in
theorem mm_s2 (X : mm_Cx p s m args meth c k) (hd : decode (mm_b k) pc = .ok (i, n)) (hn : mm_ln i n = true) (hx : mm_x2 i n pc la st h = some (pc', la', st', h')) (kk : mm_W p l e R s m args below meth c Q D b z k N0 S0 pc' la' st' h') : mm_W p l e R s m args below meth c Q D b z k N0 S0 pc la st h := by
  obtain ⟨hexec, hb, hml, hown, hts, -⟩ := X
  cases i with
  | iadd =>
    have hn : n = 1 := by simpa [mm_ln] using hn
    subst hn
    simp only [mm_x2] at hx
    split at hx
    · cases hx
      intro H locs ls hR hL hS
      exact lv_iadd hexec hb hd (kk H locs ls hR hL hS)
    · cases hx
  | isub =>
    have hn : n = 1 := by simpa [mm_ln] using hn
    subst hn
    simp only [mm_x2] at hx
    split at hx
    · cases hx
      intro H locs ls hR hL hS
      exact lv_isub hexec hb hd (kk H locs ls hR hL hS)
    · cases hx
  | imul =>
    have hn : n = 1 := by simpa [mm_ln] using hn
    subst hn
    simp only [mm_x2] at hx
    split at hx
    · cases hx
      intro H locs ls hR hL hS
      exact lv_imul hexec hb hd (kk H locs ls hR hL hS)
    · cases hx
  | iand =>
    have hn : n = 1 := by simpa [mm_ln] using hn
    subst hn
    simp only [mm_x2] at hx
    split at hx
    · cases hx
      intro H locs ls hR hL hS
      exact lv_iand hexec hb hd (kk H locs ls hR hL hS)
    · cases hx
  | ior =>
    have hn : n = 1 := by simpa [mm_ln] using hn
    subst hn
    simp only [mm_x2] at hx
    split at hx
    · cases hx
      intro H locs ls hR hL hS
      exact lv_ior hexec hb hd (kk H locs ls hR hL hS)
    · cases hx
  | ixor =>
    have hn : n = 1 := by simpa [mm_ln] using hn
    subst hn
    simp only [mm_x2] at hx
    split at hx
    · cases hx
      intro H locs ls hR hL hS
      exact lv_ixor hexec hb hd (kk H locs ls hR hL hS)
    · cases hx
  | ishl =>
    have hn : n = 1 := by simpa [mm_ln] using hn
    subst hn
    simp only [mm_x2] at hx
    split at hx
    · cases hx
      intro H locs ls hR hL hS
      exact lv_ishl hexec hb hd (kk H locs ls hR hL hS)
    · cases hx
  | ishr =>
    have hn : n = 1 := by simpa [mm_ln] using hn
    subst hn
    simp only [mm_x2] at hx
    split at hx
    · cases hx
      intro H locs ls hR hL hS
      exact lv_ishr hexec hb hd (kk H locs ls hR hL hS)
    · cases hx
  | land =>
    have hn : n = 1 := by simpa [mm_ln] using hn
    subst hn
    simp only [mm_x2] at hx
    split at hx
    · cases hx
      intro H locs ls hR hL hS
      exact lv_land hexec hb hd (kk H locs ls hR hL hS)
    · cases hx
  | lor =>
    have hn : n = 1 := by simpa [mm_ln] using hn
    subst hn
    simp only [mm_x2] at hx
    split at hx
    · cases hx
      intro H locs ls hR hL hS
      exact lv_lor hexec hb hd (kk H locs ls hR hL hS)
    · cases hx
  | iushr =>
    have hn : n = 1 := by simpa [mm_ln] using hn
    subst hn
    simp only [mm_x2] at hx
    split at hx
    · cases hx
      intro H locs ls hR hL hS
      exact lv_iushr hexec hb hd rfl (kk H locs ls hR hL hS)
    · cases hx
  | lshl =>
    have hn : n = 1 := by simpa [mm_ln] using hn
    subst hn
    simp only [mm_x2] at hx
    split at hx
    · cases hx
      intro H locs ls hR hL hS
      exact lv_lshl hexec hb hd rfl (kk H locs ls hR hL hS)
    · cases hx
  | i2l =>
    have hn : n = 1 := by simpa [mm_ln] using hn
    subst hn
    simp only [mm_x2] at hx
    split at hx
    · cases hx
      intro H locs ls hR hL hS
      exact lv_i2l hexec hb hd rfl (kk H locs ls hR hL hS)
    · cases hx
  | l2i =>
    have hn : n = 1 := by simpa [mm_ln] using hn
    subst hn
    simp only [mm_x2] at hx
    split at hx
    · cases hx
      intro H locs ls hR hL hS
      exact lv_l2i hexec hb hd rfl (kk H locs ls hR hL hS)
    · cases hx
  | i2b =>
    have hn : n = 1 := by simpa [mm_ln] using hn
    subst hn
    simp only [mm_x2] at hx
    split at hx
    · cases hx
      intro H locs ls hR hL hS
      exact lv_i2b hexec hb hd rfl (kk H locs ls hR hL hS)
    · cases hx
  | i2s =>
    have hn : n = 1 := by simpa [mm_ln] using hn
    subst hn
    simp only [mm_x2] at hx
    split at hx
    · cases hx
      intro H locs ls hR hL hS
      exact lv_i2s hexec hb hd rfl (kk H locs ls hR hL hS)
    · cases hx
  | lcmp =>
    have hn : n = 1 := by simpa [mm_ln] using hn
    subst hn
    simp only [mm_x2] at hx
    split at hx
    · cases hx
      intro H locs ls hR hL hS
      exact W.lcmp hexec hb hd (kk H locs ls hR hL hS)
    · cases hx
  | idiv =>
    have hn : n = 1 := by simpa [mm_ln] using hn
    subst hn
    simp only [mm_x2] at hx
    split at hx
    · split at hx
      · cases hx
      · next hne =>
        cases hx
        intro H locs ls hR hL hS
        exact lv_idiv hexec hb hd hne (kk H locs ls hR hL hS)
    · cases hx
  | irem =>
    have hn : n = 1 := by simpa [mm_ln] using hn
    subst hn
    simp only [mm_x2] at hx
    split at hx
    · split at hx
      · cases hx
      · next hne =>
        cases hx
        intro H locs ls hR hL hS
        exact lv_irem hexec hb hd hne (kk H locs ls hR hL hS)
    · cases hx
  | _ => exact absurd hx (by simp [mm_x2])
set_option maxHeartbeats 4000000 in
theorem mm_s3 (X : mm_Cx p s m args meth c k) (hd : decode (mm_b k) pc = .ok (i, n)) (hn : mm_ln i n = true) (hx : mm_x3 i n pc la st h = some (pc', la', st', h')) (kk : mm_W p l e R s m args below meth c Q D b z k N0 S0 pc' la' st' h') : mm_W p l e R s m args below meth c Q D b z k N0 S0 pc la st h := by
  obtain ⟨hexec, hb, hml, hown, hts, -⟩ := X
  cases i with
  | goto off =>
    have hn : n = 3 := by simpa [mm_ln] using hn
    subst hn
    simp only [mm_x3] at hx
    split at hx
    · next ho =>
      cases hx
      intro H locs ls hR hL hS
      exact lv_goto hexec hb hd (mm_tg_ok ho) (kk H locs ls hR hL hS)
    · cases hx
  | ifCond cn off =>
    have hn : n = 3 := by simpa [mm_ln] using hn
    subst hn
    simp only [mm_x3] at hx
    split at hx
    · split at hx
      · next ho =>
        cases hx
        intro H locs ls hR hL hS
        have k1 := kk H locs ls hR hL hS
        cases cn
        · exact lv_if_eq hexec hb hd (mm_tg_ok ho) (fun q => by rw [if_pos (by simpa [mm_cmp] using q)] at k1; exact k1) (fun q => by rw [if_neg (by simpa [mm_cmp] using q)] at k1; exact k1)
        · exact lv_if_ne hexec hb hd (mm_tg_ok ho) (fun q => by rw [if_pos (by simpa [mm_cmp] using q)] at k1; exact k1) (fun q => by rw [if_neg (by simpa [mm_cmp] using q)] at k1; exact k1)
        · exact lv_if_lt hexec hb hd (mm_tg_ok ho) (fun q => by rw [if_pos (by simpa [mm_cmp] using q)] at k1; exact k1) (fun q => by rw [if_neg (by simpa [mm_cmp] using q)] at k1; exact k1)
        · exact lv_if_ge hexec hb hd (mm_tg_ok ho) (fun q => by rw [if_pos (by simpa [mm_cmp] using q)] at k1; exact k1) (fun q => by rw [if_neg (by simpa [mm_cmp] using q)] at k1; exact k1)
        · exact lv_if_gt hexec hb hd (mm_tg_ok ho) (fun q => by rw [if_pos (by simpa [mm_cmp] using q)] at k1; exact k1) (fun q => by rw [if_neg (by simpa [mm_cmp] using q)] at k1; exact k1)
        · exact lv_if_le hexec hb hd (mm_tg_ok ho) (fun q => by rw [if_pos (by simpa [mm_cmp] using q)] at k1; exact k1) (fun q => by rw [if_neg (by simpa [mm_cmp] using q)] at k1; exact k1)
      · cases hx
    · cases hx
  | if_icmp cn off =>
    have hn : n = 3 := by simpa [mm_ln] using hn
    subst hn
    simp only [mm_x3] at hx
    split at hx
    · split at hx
      · next ho =>
        cases hx
        intro H locs ls hR hL hS
        have k1 := kk H locs ls hR hL hS
        cases cn
        · exact lv_icmp_eq hexec hb hd (mm_tg_ok ho) (fun q => by rw [if_pos (by simpa [mm_cmp] using q)] at k1; exact k1) (fun q => by rw [if_neg (by simpa [mm_cmp] using q)] at k1; exact k1)
        · exact lv_icmp_ne hexec hb hd (mm_tg_ok ho) (fun q => by rw [if_pos (by simpa [mm_cmp] using q)] at k1; exact k1) (fun q => by rw [if_neg (by simpa [mm_cmp] using q)] at k1; exact k1)
        · exact lv_icmp_lt hexec hb hd (mm_tg_ok ho) (fun q => by rw [if_pos (by simpa [mm_cmp] using q)] at k1; exact k1) (fun q => by rw [if_neg (by simpa [mm_cmp] using q)] at k1; exact k1)
        · exact lv_icmp_ge hexec hb hd (mm_tg_ok ho) (fun q => by rw [if_pos (by simpa [mm_cmp] using q)] at k1; exact k1) (fun q => by rw [if_neg (by simpa [mm_cmp] using q)] at k1; exact k1)
        · exact lv_icmp_gt hexec hb hd (mm_tg_ok ho) (fun q => by rw [if_pos (by simpa [mm_cmp] using q)] at k1; exact k1) (fun q => by rw [if_neg (by simpa [mm_cmp] using q)] at k1; exact k1)
        · exact lv_icmp_le hexec hb hd (mm_tg_ok ho) (fun q => by rw [if_pos (by simpa [mm_cmp] using q)] at k1; exact k1) (fun q => by rw [if_neg (by simpa [mm_cmp] using q)] at k1; exact k1)
      · cases hx
    · cases hx
  | ifnull off =>
    have hn : n = 3 := by simpa [mm_ln] using hn
    subst hn
    simp only [mm_x3] at hx
    split at hx
    · split at hx
      · next ho =>
        cases hx
        intro H locs ls hR hL hS
        exact lv_ifnullN hexec hb hd (mm_tg_ok ho) (kk H locs ls hR hL hS)
      · cases hx
    · cases hx
      intro H locs ls hR hL hS
      exact lv_ifnull hexec hb hd (kk H locs ls hR hL hS)
    · cases hx
  | ifnonnull off =>
    have hn : n = 3 := by simpa [mm_ln] using hn
    subst hn
    simp only [mm_x3] at hx
    split at hx
    · split at hx
      · next ho =>
        cases hx
        intro H locs ls hR hL hS
        exact lv_ifnonnull hexec hb hd (mm_tg_ok ho) (kk H locs ls hR hL hS)
      · cases hx
    · cases hx
      intro H locs ls hR hL hS
      exact lv_ifnonnullN hexec hb hd (kk H locs ls hR hL hS)
    · cases hx
  | tableswitch dflt lo hi offs =>
    simp only [mm_x3] at hx
    split at hx
    · split at hx
      · next hc =>
        split at hx
        · next ho =>
          cases hx
          intro H locs ls hR hL hS
          exact lv_tableOut hexec hb hd hc (mm_tg_ok ho) (kk H locs ls hR hL hS)
        · cases hx
      · next hc =>
        split at hx
        · next off hof =>
          split at hx
          · next ho =>
            cases hx
            intro H locs ls hR hL hS
            exact lv_tableIn hexec hb hd (fun q => hc (Or.inl q)) (fun q => hc (Or.inr q)) hof (mm_tg_ok ho) (kk H locs ls hR hL hS)
          · cases hx
        · cases hx
    · cases hx
  | lookupswitch dflt ps =>
    simp only [mm_x3] at hx
    split at hx
    · split at hx
      · next hc =>
        cases hx
        intro H locs ls hR hL hS
        exact lv_lookup hexec hb hd hc.1 rfl (mm_tg_ok hc.2) (kk H locs ls hR hL hS)
      · cases hx
    · cases hx
  | _ => exact absurd hx (by simp [mm_x3])
end MS1
end
section
-- SIMULATION, reads of the heap
theorem mm_one {D : va_G} {cl : List vw_C} {q : Nat × va_E} {H : Heap} (h : va_at D cl q H) : va_P D cl [q] H := fun k q' hk => by
  cases k with
  | zero => cases hk; exact h
  | succ k => simp at hk
theorem mm_Kone {D : va_G} {s : State} {cA : ClassId} {ty : FieldType} (hK : va_K D vwCl [] s) (h : ArrOfT s cA ty ∧ va_RA s cA ty) : va_K D vwCl [(cA, ty)] s := ⟨hK.1, fun k q hk => by
  cases k with
  | zero => cases hk; exact h
  | succ k => simp at hk⟩
theorem mm_en_obj {b z : Nat} {h : mm_H} {cA : Nat → ClassId} {i c n : Nat} (hc : c < 12) : mm_en b z h cA i (c, n) = .inr (c, (List.range (mm_fn c)).map (fun k => mm_fv b z h i c k)) := by
  unfold mm_en
  rw [if_pos (show c < 100 by omega)]
theorem mm_en_i {b z : Nat} {h : mm_H} {cA : Nat → ClassId} {i t n : Nat} (h1 : 100 ≤ t) (h2 : t ≤ 101) : mm_en b z h cA i (t, n) = .inl (cA i, n, .inl (h.2.2.1 i)) := by
  unfold mm_en
  rw [if_neg (show ¬ t < 100 by omega), if_pos (show t ≤ 101 from h2)]
theorem mm_en_l {b z : Nat} {h : mm_H} {cA : Nat → ClassId} {i n : Nat} : mm_en b z h cA i (102, n) = .inl (cA i, n, .inr (.inl (h.2.2.2 i))) := by
  unfold mm_en
  rw [if_neg (show ¬ (102 : Nat) < 100 by decide), if_neg (show ¬ (102 : Nat) ≤ 101 by decide), if_pos rfl]
theorem mm_en_q {b z : Nat} {h : mm_H} {cA : Nat → ClassId} {i t n : Nat} (h1 : 103 ≤ t) : mm_en b z h cA i (t, n) = .inl (cA i, n, .inr (.inr (.inr (.inr (fun j => (h.2.1 i j).map (mm_ad b z)))))) := by
  unfold mm_en
  rw [if_neg (show ¬ t < 100 by omega), if_neg (show ¬ t ≤ 101 by omega), if_neg (show ¬ t = 102 by omega)]
theorem mm_en_arr {b z : Nat} {h : mm_H} {cA : Nat → ClassId} {i t n : Nat} (h1 : 100 ≤ t) : ∃ x : vp_A, mm_en b z h cA i (t, n) = .inl (cA i, x) ∧ x.1 = n := by
  by_cases h2 : t ≤ 101
  · exact ⟨_, mm_en_i h1 h2, rfl⟩
  · by_cases h3 : t = 102
    · subst h3
      exact ⟨_, mm_en_l, rfl⟩
    · exact ⟨_, mm_en_q (by omega), rfl⟩
theorem mm_in1_ok {h : mm_H} {a t : Nat} {j : Int32} (hx : mm_in1 h a t j = true) : ∃ n, h.1[a]? = some (t, n) ∧ vp_in j n := by
  unfold mm_in1 at hx
  split at hx
  · next t' n hM =>
    simp only [Bool.and_eq_true, beq_iff_eq, Bool.not_eq_true', decide_eq_false_iff_not] at hx
    obtain ⟨rfl, h2⟩ := hx
    exact ⟨n, hM, h2⟩
  · cases hx
theorem mm_aty_ref {t : Nat} (h1 : 103 ≤ t) (h2 : t ≤ 108) : (mm_aty t).isReference = true := by
  have : t = 103 ∨ t = 104 ∨ t = 105 ∨ t = 106 ∨ t = 107 ∨ t = 108 := by omega
  rcases this with rfl | rfl | rfl | rfl | rfl | rfl <;> rfl
theorem mm_va_X_lt {b n : Nat} {xs : Nat → Int32} {s : State} {H : Heap} (h : va_X b n xs s H) : b < H.size := by
  obtain ⟨scr, h1, -⟩ := h
  exact (Array.getElem?_eq_some_iff.mp h1).1
section MS2
variable {p : Program} {l : Launch} {e : Env} {R : Room} {s : State} {m : MethodId} {args : Array Value} {below : List Frame} {meth : Method} {c : Code} {Q : State → Prop} {D : va_G} {b z k N0 S0 : Nat} {i : Instr} {n pc pc' : Nat} {la la' : mm_L} {st st' : List Value} {h h' : mm_H}
set_option maxHeartbeats 4000000 in
theorem mm_s4 (X : mm_Cx p s m args meth c k) (hF : mm_F D s) (hd : decode (mm_b k) pc = .ok (i, n)) (hn : mm_ln i n = true) (hx : mm_x4 (mm_o k) i n pc la st h = some (pc', la', st', h')) (kk : mm_W p l e R s m args below meth c Q D b z k N0 S0 pc' la' st' h') : mm_W p l e R s m args below meth c Q D b z k N0 S0 pc la st h := by
  obtain ⟨hexec, hb, hml, hown, hts, -⟩ := X
  cases i with
  | getfield j =>
    have hn : n = 3 := by simpa [mm_ln] using hn
    subst hn
    simp only [mm_x4] at hx
    split at hx
    · next c0 k0 a r hlf =>
      split at hx
      · next c1 n1 hM =>
        split at hx
        · next hc =>
          subst hc
          obtain ⟨h12, hk, hw⟩ := mm_lf_ok hlf
          obtain ⟨c1n, c2n, cin⟩ := mm_c_ok h12
          intro H locs ls hR hL hS
          obtain ⟨cA, h1, h2, ⟨nn, h3, h4⟩, h5⟩ := id hR
          cases a with
          | zero => rw [h3] at hM; cases hM; omega
          | succ a =>
            obtain ⟨-, g2, -⟩ := h5 a _ hM
            rw [mm_en_obj h12] at g2
            have go : ∀ v, mm_fv b z h (a + 1) c1 k0 = mm_v b z v → some (pc + 3, la, v :: r, h) = some (pc', la', st', h') → W p l e R s m args below meth c H locs (h.1.length - N0) (mm_sl h.1 - S0) Q (F0 m pc ls ((Value.ref (a + 1) :: r).map (mm_v b z))) := by
              intro v hv hx
              cases hx
              refine va_get (own := mm_cn (mm_o k)) (ref := mm_cn c1) (C := (mm_c c1).1) (T := (mm_c c1).2.1) (N := (mm_c c1).2.2) (Ts := mm_T) hexec hb hts cin hown hF.1 (mm_one g2) 0 rfl (mm_c_at h12) k0 (by rw [c2n]; exact hk) (hts _ hw) (fun x hx => by rw [← (mm_ty_ok h12 hk).2.1]; exact hx) (v := mm_v b z v) ?_ hd (kk H locs ls hR hL hS)
              rw [List.getElem?_map, List.getElem?_range hk]
              exact congrArg some hv
            split at hx
            · next h2k => exact go _ (by unfold mm_fv; rw [if_pos h2k, mm_v_rf]) hx
            · next h2k =>
              split at hx
              · cases hx
              · exact go _ (by unfold mm_fv; rw [if_neg h2k]; rfl) hx
        · cases hx
      · cases hx
    · cases hx
  | arraylength =>
    have hn : n = 1 := by simpa [mm_ln] using hn
    subst hn
    simp only [mm_x4] at hx
    split at hx
    · next a r =>
      split at hx
      · next t n1 hM =>
        split at hx
        · next ht =>
          cases hx
          intro H locs ls hR hL hS
          obtain ⟨cA, h1, h2, ⟨nn, h3, h4⟩, h5⟩ := id hR
          cases a with
          | zero =>
            rw [h3] at hM
            cases hM
            exact va_slen (A := fun q => z ≤ q) hexec hb h4 (mm_va_X_lt h4) (by show ¬ z ≤ b; omega) ⟨Nat.le_refl _, fun _ _ _ => rfl, hS.2.2⟩ hd (kk H locs ls hR hL hS)
          | succ a =>
            obtain ⟨-, g2, g3⟩ := h5 a _ hM
            obtain ⟨x, hx1, hx2⟩ := mm_en_arr (b := b) (z := z) (h := h) (cA := cA) (i := a + 1) (n := n1) ht.1
            rw [hx1] at g2
            exact va_alen hexec hb (mm_Kone hF.1 (g3 ht.1)) (mm_one g2) 0 0 rfl rfl (by rw [hx2]) hd (kk H locs ls hR hL hS)
        · cases hx
      · cases hx
    · cases hx
  | iaload =>
    have hn : n = 1 := by simpa [mm_ln] using hn
    subst hn
    simp only [mm_x4] at hx
    split at hx
    · next j a r =>
      split at hx
      · next hin0 =>
        obtain ⟨n1, hM, hin⟩ := mm_in1_ok hin0
        cases hx
        intro H locs ls hR hL hS
        obtain ⟨cA, h1, h2, ⟨nn, h3, h4⟩, h5⟩ := id hR
        cases a with
        | zero =>
          rw [h3] at hM
          cases hM
          exact va_sld (A := fun q => z ≤ q) hexec hb h4 (mm_va_X_lt h4) (by show ¬ z ≤ b; omega) ⟨Nat.le_refl _, fun _ _ _ => rfl, hS.2.2⟩ hin hd (kk H locs ls hR hL hS)
        | succ a =>
          obtain ⟨-, g2, g3⟩ := h5 a _ hM
          rw [mm_en_i (by decide) (by decide)] at g2
          exact va_iald hexec hb (mm_Kone hF.1 (g3 (Nat.le_of_ble_eq_true rfl))) (mm_one g2) 0 0 rfl rfl hin hd (kk H locs ls hR hL hS)
      · cases hx
    · cases hx
  | baload =>
    have hn : n = 1 := by simpa [mm_ln] using hn
    subst hn
    simp only [mm_x4] at hx
    split at hx
    · next j a r =>
      split at hx
      · next hin0 =>
        obtain ⟨n1, hM, hin⟩ := mm_in1_ok hin0
        cases hx
        intro H locs ls hR hL hS
        obtain ⟨cA, h1, h2, ⟨nn, h3, h4⟩, h5⟩ := id hR
        cases a with
        | zero => rw [h3] at hM; cases hM
        | succ a =>
          obtain ⟨-, g2, g3⟩ := h5 a _ hM
          rw [mm_en_i (by decide) (by decide)] at g2
          exact va_zald hexec hb (mm_Kone hF.1 (g3 (Nat.le_of_ble_eq_true rfl))) (mm_one g2) 0 0 rfl rfl hin hd (kk H locs ls hR hL hS)
      · cases hx
    · cases hx
  | laload =>
    have hn : n = 1 := by simpa [mm_ln] using hn
    subst hn
    simp only [mm_x4] at hx
    split at hx
    · next j a r =>
      split at hx
      · next hin0 =>
        obtain ⟨n1, hM, hin⟩ := mm_in1_ok hin0
        cases hx
        intro H locs ls hR hL hS
        obtain ⟨cA, h1, h2, ⟨nn, h3, h4⟩, h5⟩ := id hR
        cases a with
        | zero => rw [h3] at hM; cases hM
        | succ a =>
          obtain ⟨-, g2, g3⟩ := h5 a _ hM
          rw [mm_en_l] at g2
          exact va_lald hexec hb (mm_Kone hF.1 (g3 (Nat.le_of_ble_eq_true rfl))) (mm_one g2) 0 0 rfl rfl hin hd (kk H locs ls hR hL hS)
      · cases hx
    · cases hx
  | aaload =>
    have hn : n = 1 := by simpa [mm_ln] using hn
    subst hn
    simp only [mm_x4] at hx
    split at hx
    · next j a r =>
      split at hx
      · next t n1 hM =>
        split at hx
        · next ht =>
          obtain ⟨ht1, ht2, hin⟩ := ht
          cases hx
          intro H locs ls hR hL hS
          obtain ⟨cA, h1, h2, ⟨nn, h3, h4⟩, h5⟩ := id hR
          cases a with
          | zero => rw [h3] at hM; cases hM; omega
          | succ a =>
            obtain ⟨-, g2, g3⟩ := h5 a _ hM
            rw [mm_en_q ht1] at g2
            have hlt : j.toNatClampNeg < n1 := Nat.not_le.mp fun q => hin (Or.inr q)
            have k1 := kk H locs ls hR hL hS
            rw [List.map_cons, mm_v_rf] at k1
            exact W.aald (v := va_rf ((h.2.1 (a + 1) j.toNatClampNeg).map (mm_ad b z))) (ty := mm_aty t) hexec hb g2 ((g3 (show 100 ≤ t by omega)).1 n1 (fun j => va_rf ((h.2.1 (a + 1) j).map (mm_ad b z)))) (mm_aty_ref ht1 ht2) (fun q => by cases q) (by show ¬ (j < 0 ∨ (arrV _ _ _).slots.size ≤ _); rw [arrV_size]; exact hin) (by show (arrV _ _ _).slots[_]? = _; rw [arrV_read _ _ hlt]) rfl rfl hd k1
        · cases hx
      · cases hx
    · cases hx
  | _ => exact absurd hx (by simp [mm_x4])
end MS2
end
section
-- SIMULATION, writes of the heap
def mm_same (h h' : mm_H) (i : Nat) : Prop := h'.1 = h.1 ∧ ∀ x, x ≠ i → h'.2.1 x = h.2.1 x ∧ h'.2.2.1 x = h.2.2.1 x ∧ h'.2.2.2 x = h.2.2.2 x
theorem mm_en_same {b z : Nat} {h h' : mm_H} {cA : Nat → ClassId} {x : Nat} {q : Nat × Nat} (h1 : h'.2.1 x = h.2.1 x ∧ h'.2.2.1 x = h.2.2.1 x ∧ h'.2.2.2 x = h.2.2.2 x) : mm_en b z h' cA x q = mm_en b z h cA x q := by
  obtain ⟨e1, e2, e3⟩ := h1
  unfold mm_en mm_fv
  rw [e1, e2, e3]
theorem mm_R1.wr {D : va_G} {b z a : Nat} {h h' : mm_H} {H H' : Heap} {s : State} {cA : Nat → ClassId} (hR : mm_R1 D b z h H s cA) (hs : mm_same h h' (a + 1)) (hz : H'.size = H.size) (ho : ∀ q : Nat, q ≠ z + a → H'[q]? = H[q]?) (hn : ∀ q, h.1[a + 1]? = some q → va_at D vwCl (z + a, mm_en b z h' cA (a + 1) q) H') : mm_R1 D b z h' H' s cA := by
  obtain ⟨h1, h2, ⟨n, h3, h4⟩, h5⟩ := hR
  obtain ⟨s1, s2⟩ := hs
  refine ⟨h1, by rw [hz, s1]; exact h2, ⟨n, by rw [s1]; exact h3, ?_⟩, fun i q hq => ?_⟩
  · rw [(s2 0 (by omega)).2.1]
    exact h4.kept (ho b (by omega))
  · rw [s1] at hq
    obtain ⟨g1, g2, g3⟩ := h5 i q hq
    refine ⟨g1, ?_, g3⟩
    by_cases hi : i = a
    · subst hi
      exact hn q hq
    · rw [mm_en_same (s2 (i + 1) (by omega))]
      exact g2.kept (ho (z + i) (by show z + i ≠ z + a; omega))
theorem mm_vpV {c j : Nat} {g : Nat → Value} (hj : j < mm_fn c) : vp_V ((List.range (mm_fn c)).map g) j = g j := by
  unfold vp_V
  rw [List.getD_eq_getElem?_getD, List.getElem?_map, List.getElem?_range hj]
  rfl
theorem mm_u2_row {α : Type} (f : Nat → Nat → α) (a k : Nat) (v : α) {x : Nat} (h : x ≠ a) : mm_u2 f a k v x = f x := by
  funext j
  simp [mm_u2, h]
theorem mm_u2_at {α : Type} (f : Nat → Nat → α) (a k : Nat) (v : α) (j : Nat) : mm_u2 f a k v a j = if j = k then v else f a j := by
  simp [mm_u2]
theorem mm_row_ne {α : Type} (f : Nat → Nat → α) (a : Nat) (g : Nat → α) {x : Nat} (h : x ≠ a) : mm_row f a g x = f x := by
  funext j
  simp [mm_row, h]
theorem mm_row_at {α : Type} (f : Nat → Nat → α) (a : Nat) (g : Nat → α) : mm_row f a g a = g := by
  funext j
  simp [mm_row]
section MS3
variable {p : Program} {l : Launch} {e : Env} {R : Room} {s : State} {m : MethodId} {args : Array Value} {below : List Frame} {meth : Method} {c : Code} {Q : State → Prop} {D : va_G} {b z k N0 S0 : Nat} {i : Instr} {n pc pc' : Nat} {la la' : mm_L} {st st' : List Value} {h h' : mm_H}
set_option maxHeartbeats 4000000 in
/-- a field is set -/
theorem mm_putf (X : mm_Cx p s m args meth c k) (hF : mm_F D s) {j c1 f a n1 : Nat} {r : List Value} {v : Value} (hd : decode (mm_b k) pc = .ok (.putfield j, 3)) (hlf : mm_lf (mm_o k) j = some (c1, f)) (hM : h.1[a]? = some (c1, n1)) (hs : mm_same h h' a) (hv : mm_fv b z h' a c1 f = mm_v b z v) (ho : ∀ x, x ≠ f → mm_fv b z h' a c1 x = mm_fv b z h a c1 x) (hna : narrow (mm_ty c1 f) (mm_v b z v) = mm_v b z v) (hfi : fits (mm_ty c1 f) (mm_v b z v) = true) (hfin : mm_ff c1 f = false ∨ mm_ff c1 f = true ∧ mm_o k = c1 ∧ mm_kd k = 2)
    (kk : mm_W p l e R s m args below meth c Q D b z k N0 S0 (pc + 3) la r h') : mm_W p l e R s m args below meth c Q D b z k N0 S0 pc la (v :: .ref a :: r) h := by
  obtain ⟨hexec, hb, hml, hown, hts, hinit⟩ := X
  obtain ⟨h12, hk, hw⟩ := mm_lf_ok hlf
  obtain ⟨c1n, c2n, cin⟩ := mm_c_ok h12
  obtain ⟨ty1, ty2, ty3, -⟩ := mm_ty_ok h12 hk
  intro H locs ls hR hL hS
  obtain ⟨cA, hR1⟩ := id hR
  obtain ⟨h1, h2, ⟨nn, h3, h4⟩, h5⟩ := id hR1
  cases a with
  | zero => rw [h3] at hM; cases hM; omega
  | succ a =>
    obtain ⟨-, g2, -⟩ := h5 a _ hM
    rw [mm_en_obj h12] at g2
    obtain ⟨r0, hr0, cell, q1, q2, q3, q4⟩ := g2
    have hr : r0 = mm_c c1 := Option.some.inj (hr0.symm.trans (mm_c_at h12))
    subst hr
    obtain ⟨hSl, hfc, kC, hkC, hkind⟩ := hF.1.1 c1 _ (mm_c_at h12)
    have hkN : f < (mm_c c1).2.2 := by rw [c2n]; exact hk
    obtain ⟨cf, kf, fi, fd, hi, hsl⟩ := hSl f hkN
    have hap := va_apart (own := mm_cn c1) (C := (mm_c c1).1) (T := (mm_c c1).2.1) (N := (mm_c c1).2.2) (ci := c1) (Ts := mm_T) hts cin (mm_ty c1) (fun k hk => (mm_ty_ok h12 (by rw [← c2n]; exact hk)).1) (by rw [c2n]; exact mm_nm_ok h12) hF.1 (mm_c_at h12)
    have hst := (u_facts hfc hkC (u_lays hts cin hkN) hi).1
    have hi2 : s.fieldFound? (mm_cn c1) ((mm_c c1).2.1 f).2.1 ((mm_c c1).2.1 f).2.2.1 = some (cf, kf, fi, fd) := by rw [← ty2]; exact hi
    have hlay := hts _ (cin _ (u_in_lay hkN))
    have fin : ∀ (H' : Heap), H'[z + a]? = some (cell.setSlot fd.slot (mm_v b z v)) → H'.size = H.size → (∀ q : Nat, q ≠ z + a → H'[q]? = H[q]?) → W p l e R s m args below meth c H' (locs ++ [⟨z + a, fd.slot⟩]) (h.1.length - N0) (mm_sl h.1 - S0) Q (F0 m (pc + 3) ls (r.map (mm_v b z))) := by
      intro H' e1 e2 e3
      rw [hsl] at e1
      have hR' : mm_R1 D b z h' H' s cA := hR1.wr hs e2 e3 (fun q hq => by
        have hq2 : q = (c1, n1) := Option.some.inj (hq.symm.trans hM)
        subst hq2
        rw [mm_en_obj h12]
        refine ⟨_, mm_c_at h12, t_OB.to (V := updV (vp_V ((List.range (mm_fn c1)).map (fun k => mm_fv b z h (a + 1) c1 k))) f (mm_v b z v)) ⟨_, e1, q2, q3, t_set q4 hap hkN (mm_v b z v)⟩ (fun j hj => ?_)⟩
        have hj : j < mm_fn c1 := by rw [← c2n]; exact hj
        rw [mm_vpV hj]
        unfold updV
        by_cases hjf : j = f
        · rw [if_pos hjf, hjf]
          exact hv.symm
        · rw [if_neg hjf, mm_vpV hj, ho j hjf])
      have k1 := kk H' (locs ++ [⟨z + a, fd.slot⟩]) ls ⟨cA, hR'⟩ hL (hS.put e2 e3 (Nat.le_add_right z a))
      rw [hs.1] at k1
      exact k1
    have hlt : fd.slot < cell.slots.size := by rw [hsl]; exact k2_hasslot (q4 f hkN)
    rcases hfin with hf | ⟨hf, hok, hkd⟩
    · unfold u_lay at hlay
      rw [if_neg (by rw [ty3, hf]; decide)] at hlay
      have h6 := u_store hfc hkC hkind hlay hi ty1 hna hfi
      exact W.putK hexec hb (f := fd) ⟨hown, hts _ hw, ⟨_, _, _, hi2⟩, hst⟩ (by rw [q2]; exact h6) q1 q3 hlt rfl rfl hd fin
    · unfold u_lay at hlay
      rw [if_pos (by rw [ty3]; exact hf)] at hlay
      have hcf : m.cls = cf := by
        obtain ⟨_, _, c', _, _, _, -, -, hf', -, -, -, hown2, -⟩ := Cond.laysFinal_spec hlay
        have e1 : c' = cf := by have := hi.symm.trans hf'; simp at this; exact this.1.symm
        rw [ty2, ← hok] at hown2
        rw [← e1]
        exact Option.some.inj (hown.symm.trans hown2)
      have h6 := u_fits hfc hkC hkind (Or.inr hlay) hi ty1 hna hfi
      exact W.putFinK hexec hb hown (hts _ hw) hi2 hst hcf (hinit hkd) (by rw [q2]; exact h6) q1 q3 hlt rfl rfl hd fin
set_option maxHeartbeats 4000000 in
theorem mm_s5 (X : mm_Cx p s m args meth c k) (hF : mm_F D s) (hd : decode (mm_b k) pc = .ok (i, n)) (hn : mm_ln i n = true) (hx : mm_x5 k i n pc la st h = some (pc', la', st', h')) (kk : mm_W p l e R s m args below meth c Q D b z k N0 S0 pc' la' st' h') : mm_W p l e R s m args below meth c Q D b z k N0 S0 pc la st h := by
  have X0 := X
  obtain ⟨hexec, hb, hml, hown, hts, hinit⟩ := X
  cases i with
  | putfield j =>
    have hn : n = 3 := by simpa [mm_ln] using hn
    subst hn
    simp only [mm_x5] at hx
    split at hx
    · next c1 f x a r hlf =>
      split at hx
      · next c2 n1 hM =>
        split at hx
        · next hc =>
          obtain ⟨rfl, hk2, hf⟩ := hc
          cases hx
          obtain ⟨h12, hk, hw⟩ := mm_lf_ok hlf
          obtain ⟨-, -, -, ty4⟩ := mm_ty_ok h12 hk
          have hne : ¬ mm_fk c2 f = 2 := by omega
          refine mm_putf X0 hF (h' := (h.1, h.2.1, mm_u2 h.2.2.1 a f x, h.2.2.2)) (v := .int x) hd hlf hM ⟨rfl, fun y hy => ⟨rfl, mm_u2_row _ _ _ _ hy, rfl⟩⟩ ?_ ?_ ?_ ?_ (Or.inl hf) kk
          · unfold mm_fv
            rw [if_neg hne]
            show Value.int (mm_u2 h.2.2.1 a f x a f) = _
            rw [mm_u2_at, if_pos rfl]
            rfl
          · intro y hy
            unfold mm_fv
            show (if mm_fk c2 y = 2 then _ else Value.int (mm_u2 h.2.2.1 a f x a y)) = _
            rw [mm_u2_at, if_neg hy]
          · rw [if_neg hne] at ty4
            rcases hk2 with hk2 | ⟨hk2, hx01⟩
            · rw [if_neg (by omega)] at ty4
              rw [ty4.2]
              rfl
            · rw [if_pos hk2] at ty4
              rw [ty4]
              rcases hx01 with rfl | rfl <;> rfl
          · rw [if_neg hne] at ty4
            rcases hk2 with hk2 | ⟨hk2, hx01⟩
            · rw [if_neg (by omega)] at ty4
              rw [ty4.2]
              rfl
            · rw [if_pos hk2] at ty4
              rw [ty4]
              rcases hx01 with rfl | rfl <;> rfl
        · cases hx
      · cases hx
    · next c1 f x a r hlf =>
      split at hx
      · next c2 n1 hM =>
        split at hx
        · next hc =>
          obtain ⟨rfl, hk2, hf, hok, hkd⟩ := hc
          cases hx
          obtain ⟨h12, hk, hw⟩ := mm_lf_ok hlf
          obtain ⟨-, -, -, ty4⟩ := mm_ty_ok h12 hk
          rw [if_pos hk2] at ty4
          refine mm_putf X0 hF (h' := (h.1, mm_u2 h.2.1 a f (some x), h.2.2.1, h.2.2.2)) (v := .ref x) hd hlf hM ⟨rfl, fun y hy => ⟨mm_u2_row _ _ _ _ hy, rfl, rfl⟩⟩ ?_ ?_ ?_ ?_ (Or.inr ⟨hf, hok, hkd⟩) kk
          · unfold mm_fv
            rw [if_pos hk2]
            show va_rf ((mm_u2 h.2.1 a f (some x) a f).map (mm_ad b z)) = _
            rw [mm_u2_at, if_pos rfl]
            rfl
          · intro y hy
            unfold mm_fv
            show (if mm_fk c2 y = 2 then va_rf ((mm_u2 h.2.1 a f (some x) a y).map (mm_ad b z)) else _) = _
            rw [mm_u2_at, if_neg hy]
          · have := ty4.2
            cases hty : mm_ty c2 f <;> first | rfl | (rw [hty] at this; cases this)
          · have := ty4.2
            cases hty : mm_ty c2 f <;> first | rfl | (rw [hty] at this; cases this)
        · cases hx
      · cases hx
    · cases hx
  | iastore =>
    have hn : n = 1 := by simpa [mm_ln] using hn
    subst hn
    simp only [mm_x5] at hx
    split at hx
    · next x j a r =>
      split at hx
      · next hc =>
        obtain ⟨n1, hM, hin⟩ := mm_in1_ok hc.1
        have ha := hc.2
        cases hx
        intro H locs ls hR hL hS
        obtain ⟨cA, hR1⟩ := id hR
        obtain ⟨h1, h2, ⟨nn, h3, h4⟩, h5⟩ := id hR1
        cases a with
        | zero => exact absurd rfl ha
        | succ a =>
          obtain ⟨-, g2, g3⟩ := h5 a _ hM
          rw [mm_en_i (by decide) (by decide)] at g2
          refine W.iast hexec hb g2 ((g3 (Nat.le_of_ble_eq_true rfl)).1 n1 (fun j => .int (h.2.2.1 (a + 1) j))) (fun q => by cases q) (by show ¬ (j < 0 ∨ (arrV _ _ _).slots.size ≤ _); rw [arrV_size]; exact hin) rfl rfl hd fun H' e1 e2 e3 => ?_
          refine kk H' _ ls ⟨cA, hR1.wr ⟨rfl, fun y hy => ⟨rfl, mm_u2_row _ _ _ _ hy, rfl⟩⟩ e2 e3 (fun q hq => ?_)⟩ hL (hS.put e2 e3 (Nat.le_add_right z a))
          have hq2 := Option.some.inj (hq.symm.trans hM)
          subst hq2
          rw [mm_en_i (by decide) (by decide)]
          show H'[z + a]? = some (vp_cell _ _)
          rw [e1, vp_cell_i, vp_cell_i, arrV_store]
          congr 2
          funext q
          by_cases hq : q = j.toNatClampNeg
          · subst hq; simp [updV, mm_u2]
          · simp [updV, mm_u2, hq]
      · cases hx
    · cases hx
  | bastore =>
    have hn : n = 1 := by simpa [mm_ln] using hn
    subst hn
    simp only [mm_x5] at hx
    split at hx
    · next x j a r =>
      split at hx
      · next hc =>
        obtain ⟨n1, hM, hin⟩ := mm_in1_ok hc.1
        have ha := hc.2
        cases hx
        intro H locs ls hR hL hS
        obtain ⟨cA, hR1⟩ := id hR
        obtain ⟨h1, h2, ⟨nn, h3, h4⟩, h5⟩ := id hR1
        cases a with
        | zero => exact absurd rfl ha
        | succ a =>
          obtain ⟨-, g2, g3⟩ := h5 a _ hM
          rw [mm_en_i (by decide) (by decide)] at g2
          refine W.zast hexec hb g2 ((g3 (Nat.le_of_ble_eq_true rfl)).1 n1 (fun j => .int (h.2.2.1 (a + 1) j))) (fun q => by cases q) (by show ¬ (j < 0 ∨ (arrV _ _ _).slots.size ≤ _); rw [arrV_size]; exact hin) rfl rfl hd fun H' e1 e2 e3 => ?_
          refine kk H' _ ls ⟨cA, hR1.wr ⟨rfl, fun y hy => ⟨rfl, mm_u2_row _ _ _ _ hy, rfl⟩⟩ e2 e3 (fun q hq => ?_)⟩ hL (hS.put e2 e3 (Nat.le_add_right z a))
          have hq2 := Option.some.inj (hq.symm.trans hM)
          subst hq2
          rw [mm_en_i (by decide) (by decide)]
          show H'[z + a]? = some (vp_cell _ _)
          rw [e1, vp_cell_i, vp_cell_i, arrV_store]
          congr 2
          funext q
          by_cases hq : q = j.toNatClampNeg
          · subst hq
            simp [updV, mm_u2, vp_nar]
            try rfl
          · simp [updV, mm_u2, hq]
      · cases hx
    · cases hx
  | lastore =>
    have hn : n = 1 := by simpa [mm_ln] using hn
    subst hn
    simp only [mm_x5] at hx
    split at hx
    · next x j a r =>
      split at hx
      · next hc =>
        obtain ⟨n1, hM, hin⟩ := mm_in1_ok hc.1
        have ha := hc.2
        cases hx
        intro H locs ls hR hL hS
        obtain ⟨cA, hR1⟩ := id hR
        obtain ⟨h1, h2, ⟨nn, h3, h4⟩, h5⟩ := id hR1
        cases a with
        | zero => exact absurd rfl ha
        | succ a =>
          obtain ⟨-, g2, g3⟩ := h5 a _ hM
          rw [mm_en_l] at g2
          refine W.last hexec hb g2 ((g3 (Nat.le_of_ble_eq_true rfl)).1 n1 (fun j => .long (h.2.2.2 (a + 1) j))) (fun q => by cases q) (by show ¬ (j < 0 ∨ (arrV _ _ _).slots.size ≤ _); rw [arrV_size]; exact hin) rfl rfl hd fun H' e1 e2 e3 => ?_
          refine kk H' _ ls ⟨cA, hR1.wr ⟨rfl, fun y hy => ⟨rfl, rfl, mm_u2_row _ _ _ _ hy⟩⟩ e2 e3 (fun q hq => ?_)⟩ hL (hS.put e2 e3 (Nat.le_add_right z a))
          have hq2 := Option.some.inj (hq.symm.trans hM)
          subst hq2
          rw [mm_en_l]
          show H'[z + a]? = some (vp_cell _ _)
          rw [e1, vp_cell_l, vp_cell_l, arrV_store]
          congr 2
          funext q
          by_cases hq : q = j.toNatClampNeg
          · subst hq; simp [updV, mm_u2]
          · simp [updV, mm_u2, hq]
      · cases hx
    · cases hx
  | aastore =>
    have hn : n = 1 := by simpa [mm_ln] using hn
    subst hn
    simp only [mm_x5] at hx
    split at hx
    · next x j a r =>
      split at hx
      · next t n1 c1 n2 hM hM2 =>
        split at hx
        · next hc =>
          obtain ⟨ht, hin⟩ := hc
          cases hx
          intro H locs ls hR hL hS
          obtain ⟨cA, hR1⟩ := id hR
          obtain ⟨h1, h2, ⟨nn, h3, h4⟩, h5⟩ := id hR1
          cases a with
          | zero => rw [h3] at hM; cases hM; omega
          | succ a =>
            cases x with
            | zero => rw [h3] at hM2; cases hM2; omega
            | succ x =>
              obtain ⟨-, g2, g3⟩ := h5 a _ hM
              obtain ⟨-, w2, -⟩ := h5 x _ hM2
              have ht3 : 103 ≤ t := by omega
              have h12 : c1 < 12 := by omega
              rw [mm_en_q ht3] at g2
              rw [mm_en_obj h12] at w2
              obtain ⟨r0, hr0, cellV, v1, v2, v3, -⟩ := w2
              have hcls := (hF.1.1 c1 _ hr0).2
              have hra : ∃ (kA : Class) (comp : ClassId), s.vm.classes[cA (a + 1)]? = some kA ∧ kA.kind = .array comp (mm_aty t) ∧ s.vm.findClass r0.1 = some comp := by
                have hr : r0 = mm_c c1 := Option.some.inj (hr0.symm.trans (mm_c_at h12))
                subst hr
                have g4 := (g3 (show 100 ≤ t by omega)).2
                rcases ht with ⟨rfl, rfl⟩ | ⟨rfl, rfl⟩ | ⟨rfl, rfl⟩ <;> (obtain ⟨kA, comp, k1, k2, k3, -⟩ := g4; exact ⟨kA, comp, k1, k2, k3⟩)
              obtain ⟨kA, comp, k1, k2, k3⟩ := hra
              have hcomp : comp = D.1 c1 := Option.some.inj (k3.symm.trans hcls.1)
              subst hcomp
              obtain ⟨kC, hkC, -⟩ := hcls.2
              have hlt : j.toNatClampNeg < n1 := Nat.not_le.mp fun q => hin (Or.inr q)
              have h0 : ¬ j < 0 := fun q => hin (Or.inl q)
              refine W.aast hexec hb g2 (fun q h => by cases h) (fun h => by cases h) k1 k2 (mm_aty_ref ht3 (by omega)) hkC ⟨h0, by show _ < (arrV _ _ _).slots.size; rw [arrV_size]; exact hlt⟩ v1 (fun q h => by rw [v3] at h; cases h) (by rw [v2]; exact hkC) (by rw [v2]; exact va_assign hcls) rfl rfl hd fun H' e1 e2 e3 => ?_
              refine kk H' _ ls ⟨cA, hR1.wr ⟨rfl, fun y hy => ⟨mm_u2_row _ _ _ _ hy, rfl, rfl⟩⟩ e2 e3 (fun q hq => ?_)⟩ hL (hS.put e2 e3 (Nat.le_add_right z a))
              have hq2 := Option.some.inj (hq.symm.trans hM)
              subst hq2
              rw [mm_en_q ht3]
              show H'[z + a]? = some (vp_cell _ _)
              rw [e1, vp_cell_q, vp_cell_q, arrV_store]
              congr 2
              funext q
              by_cases hq : q = j.toNatClampNeg
              · subst hq; simp [updV, mm_u2, va_rf, mm_ad]
              · simp [updV, mm_u2, hq]
        · cases hx
      · cases hx
    · cases hx
  | _ => exact absurd hx (by simp [mm_x5])
end MS3
end
