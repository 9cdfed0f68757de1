-- begun from the task's own starting texts (SKELETON part A; NAMES), cut to what is used
-- ===== PART A: goes FIRST, ahead of the names: the tables' words, and 'selects' of the private methods out of them =====
/-- a private method of a class that the tables say can be made, by its rows of tables_1 -/
def lw_okq (q : MethodName × Nat) : Prop := (q.1.cls ≠ "java/lang/invoke/MethodHandle" ∧ q.1.cls ≠ "java/lang/invoke/VarHandle") ∧ Cond.instantiable q.1.cls q.2 ∈ tables_1 ∧ Cond.privateMethod q.1 ∈ tables_1 ∧ Cond.instanceMethod q.1 ∈ tables_1
theorem lw_p0 : lw_okq (⟨"OrbitDesigns$Way", "targetByKind", "(II)I"⟩, 3) := ⟨⟨by decide +kernel, by decide +kernel⟩, List.mem_of_getElem? (i := 52) (by decide +kernel), List.mem_of_getElem? (i := 309) (by decide +kernel), List.mem_of_getElem? (i := 310) (by decide +kernel)⟩
theorem lw_p1 : lw_okq (⟨"OrbitDesigns$Way", "isDoneAfter", "(I)Z"⟩, 3) := ⟨⟨by decide +kernel, by decide +kernel⟩, List.mem_of_getElem? (i := 52) (by decide +kernel), List.mem_of_getElem? (i := 376) (by decide +kernel), List.mem_of_getElem? (i := 377) (by decide +kernel)⟩
theorem lw_p2 : lw_okq (⟨"OrbitDesigns$Group", "enter", "(I)V"⟩, 3) := ⟨⟨by decide +kernel, by decide +kernel⟩, List.mem_of_getElem? (i := 147) (by decide +kernel), List.mem_of_getElem? (i := 420) (by decide +kernel), List.mem_of_getElem? (i := 421) (by decide +kernel)⟩
theorem lw_p3 : lw_okq (⟨"OrbitDesigns$Group", "append", "(II)V"⟩, 3) := ⟨⟨by decide +kernel, by decide +kernel⟩, List.mem_of_getElem? (i := 147) (by decide +kernel), List.mem_of_getElem? (i := 425) (by decide +kernel), List.mem_of_getElem? (i := 426) (by decide +kernel)⟩
theorem lw_p4 : lw_okq (⟨"OrbitDesigns$Orbits", "spread", "(LOrbitDesigns$Setup;II)V"⟩, 3) := ⟨⟨by decide +kernel, by decide +kernel⟩, List.mem_of_getElem? (i := 131) (by decide +kernel), List.mem_of_getElem? (i := 449) (by decide +kernel), List.mem_of_getElem? (i := 450) (by decide +kernel)⟩
theorem lw_p5 : lw_okq (⟨"OrbitDesigns$Orbits", "enter", "(III)I"⟩, 3) := ⟨⟨by decide +kernel, by decide +kernel⟩, List.mem_of_getElem? (i := 131) (by decide +kernel), List.mem_of_getElem? (i := 453) (by decide +kernel), List.mem_of_getElem? (i := 454) (by decide +kernel)⟩
theorem lw_p6 : lw_okq (⟨"OrbitDesigns$Orbits", "holds", "(III)Z"⟩, 3) := ⟨⟨by decide +kernel, by decide +kernel⟩, List.mem_of_getElem? (i := 131) (by decide +kernel), List.mem_of_getElem? (i := 476) (by decide +kernel), List.mem_of_getElem? (i := 477) (by decide +kernel)⟩
theorem lw_p7 : lw_okq (⟨"OrbitDesigns", "areSizes", "(II)Z"⟩, 12) := ⟨⟨by decide +kernel, by decide +kernel⟩, List.mem_of_getElem? (i := 18) (by decide +kernel), List.mem_of_getElem? (i := 509) (by decide +kernel), List.mem_of_getElem? (i := 510) (by decide +kernel)⟩
theorem lw_p8 : lw_okq (⟨"OrbitDesigns", "loadChoices", "(II)Z"⟩, 12) := ⟨⟨by decide +kernel, by decide +kernel⟩, List.mem_of_getElem? (i := 18) (by decide +kernel), List.mem_of_getElem? (i := 521) (by decide +kernel), List.mem_of_getElem? (i := 522) (by decide +kernel)⟩
theorem lw_p9 : lw_okq (⟨"OrbitDesigns$Choices", "loadRow", "(LOrbitDesigns$Orbits;III)V"⟩, 12) := ⟨⟨by decide +kernel, by decide +kernel⟩, List.mem_of_getElem? (i := 163) (by decide +kernel), List.mem_of_getElem? (i := 536) (by decide +kernel), List.mem_of_getElem? (i := 537) (by decide +kernel)⟩
theorem lw_p10 : lw_okq (⟨"OrbitDesigns$Choices", "countSet", "(II)V"⟩, 12) := ⟨⟨by decide +kernel, by decide +kernel⟩, List.mem_of_getElem? (i := 163) (by decide +kernel), List.mem_of_getElem? (i := 542) (by decide +kernel), List.mem_of_getElem? (i := 543) (by decide +kernel)⟩
theorem lw_p11 : lw_okq (⟨"OrbitDesigns$Choices", "numberAt", "(II)I"⟩, 12) := ⟨⟨by decide +kernel, by decide +kernel⟩, List.mem_of_getElem? (i := 163) (by decide +kernel), List.mem_of_getElem? (i := 550) (by decide +kernel), List.mem_of_getElem? (i := 551) (by decide +kernel)⟩
theorem lw_p12 : lw_okq (⟨"OrbitDesigns$Choices", "searchSolutions", "(II)V"⟩, 12) := ⟨⟨by decide +kernel, by decide +kernel⟩, List.mem_of_getElem? (i := 163) (by decide +kernel), List.mem_of_getElem? (i := 554) (by decide +kernel), List.mem_of_getElem? (i := 555) (by decide +kernel)⟩
theorem lw_p13 : lw_okq (⟨"OrbitDesigns$Choices", "noteSolution", "(I)V"⟩, 12) := ⟨⟨by decide +kernel, by decide +kernel⟩, List.mem_of_getElem? (i := 163) (by decide +kernel), List.mem_of_getElem? (i := 558) (by decide +kernel), List.mem_of_getElem? (i := 559) (by decide +kernel)⟩
theorem lw_p14 : lw_okq (⟨"OrbitDesigns$Choices", "change", "(III)V"⟩, 12) := ⟨⟨by decide +kernel, by decide +kernel⟩, List.mem_of_getElem? (i := 163) (by decide +kernel), List.mem_of_getElem? (i := 562) (by decide +kernel), List.mem_of_getElem? (i := 563) (by decide +kernel)⟩
theorem lw_p15 : lw_okq (⟨"OrbitDesigns$Choices", "canSolve", "()Z"⟩, 12) := ⟨⟨by decide +kernel, by decide +kernel⟩, List.mem_of_getElem? (i := 163) (by decide +kernel), List.mem_of_getElem? (i := 566) (by decide +kernel), List.mem_of_getElem? (i := 567) (by decide +kernel)⟩
def lw_privs_1 : List (MethodName × Nat) := [(⟨"OrbitDesigns$Way", "targetByKind", "(II)I"⟩, 3), (⟨"OrbitDesigns$Way", "isDoneAfter", "(I)Z"⟩, 3), (⟨"OrbitDesigns$Group", "enter", "(I)V"⟩, 3), (⟨"OrbitDesigns$Group", "append", "(II)V"⟩, 3), (⟨"OrbitDesigns$Orbits", "spread", "(LOrbitDesigns$Setup;II)V"⟩, 3), (⟨"OrbitDesigns$Orbits", "enter", "(III)I"⟩, 3), (⟨"OrbitDesigns$Orbits", "holds", "(III)Z"⟩, 3), (⟨"OrbitDesigns", "areSizes", "(II)Z"⟩, 12), (⟨"OrbitDesigns", "loadChoices", "(II)Z"⟩, 12), (⟨"OrbitDesigns$Choices", "loadRow", "(LOrbitDesigns$Orbits;III)V"⟩, 12), (⟨"OrbitDesigns$Choices", "countSet", "(II)V"⟩, 12), (⟨"OrbitDesigns$Choices", "numberAt", "(II)I"⟩, 12), (⟨"OrbitDesigns$Choices", "searchSolutions", "(II)V"⟩, 12), (⟨"OrbitDesigns$Choices", "noteSolution", "(I)V"⟩, 12), (⟨"OrbitDesigns$Choices", "change", "(III)V"⟩, 12), (⟨"OrbitDesigns$Choices", "canSolve", "()Z"⟩, 12)]
theorem lw_r1 : ∀ q ∈ lw_privs_1, lw_okq q := List.forall_mem_cons.mpr ⟨lw_p0, List.forall_mem_cons.mpr ⟨lw_p1, List.forall_mem_cons.mpr ⟨lw_p2, List.forall_mem_cons.mpr ⟨lw_p3, List.forall_mem_cons.mpr ⟨lw_p4, List.forall_mem_cons.mpr ⟨lw_p5, List.forall_mem_cons.mpr ⟨lw_p6, List.forall_mem_cons.mpr ⟨lw_p7, List.forall_mem_cons.mpr ⟨lw_p8, List.forall_mem_cons.mpr ⟨lw_p9, List.forall_mem_cons.mpr ⟨lw_p10, List.forall_mem_cons.mpr ⟨lw_p11, List.forall_mem_cons.mpr ⟨lw_p12, List.forall_mem_cons.mpr ⟨lw_p13, List.forall_mem_cons.mpr ⟨lw_p14, List.forall_mem_cons.mpr ⟨lw_p15, fun _ h => absurd h List.not_mem_nil⟩⟩⟩⟩⟩⟩⟩⟩⟩⟩⟩⟩⟩⟩⟩⟩
theorem lw_p16 : lw_okq (⟨"OrbitDesigns$Choices", "searchCovers", "(III)V"⟩, 12) := ⟨⟨by decide +kernel, by decide +kernel⟩, List.mem_of_getElem? (i := 163) (by decide +kernel), List.mem_of_getElem? (i := 583) (by decide +kernel), List.mem_of_getElem? (i := 584) (by decide +kernel)⟩
theorem lw_p17 : lw_okq (⟨"OrbitDesigns$Choices", "covers", "(I)Z"⟩, 12) := ⟨⟨by decide +kernel, by decide +kernel⟩, List.mem_of_getElem? (i := 163) (by decide +kernel), List.mem_of_getElem? (i := 587) (by decide +kernel), List.mem_of_getElem? (i := 588) (by decide +kernel)⟩
theorem lw_p18 : lw_okq (⟨"OrbitDesigns$Blocks", "around", "(I)I"⟩, 3) := ⟨⟨by decide +kernel, by decide +kernel⟩, List.mem_of_getElem? (i := 32) (by decide +kernel), List.mem_of_getElem? (i := 636) (by decide +kernel), List.mem_of_getElem? (i := 637) (by decide +kernel)⟩
theorem lw_p19 : lw_okq (⟨"OrbitDesigns$Matcher", "canPlace", "(LOrbitDesigns$Blocks;LOrbitDesigns$Blocks;III)Z"⟩, 1) := ⟨⟨by decide +kernel, by decide +kernel⟩, List.mem_of_getElem? (i := 209) (by decide +kernel), List.mem_of_getElem? (i := 701) (by decide +kernel), List.mem_of_getElem? (i := 702) (by decide +kernel)⟩
theorem lw_p20 : lw_okq (⟨"OrbitDesigns$Matcher", "fits", "(LOrbitDesigns$Blocks;LOrbitDesigns$Blocks;II)Z"⟩, 1) := ⟨⟨by decide +kernel, by decide +kernel⟩, List.mem_of_getElem? (i := 209) (by decide +kernel), List.mem_of_getElem? (i := 705) (by decide +kernel), List.mem_of_getElem? (i := 706) (by decide +kernel)⟩
theorem lw_p21 : lw_okq (⟨"OrbitDesigns", "isLikeAnEarlierSolution", "(II)Z"⟩, 12) := ⟨⟨by decide +kernel, by decide +kernel⟩, List.mem_of_getElem? (i := 18) (by decide +kernel), List.mem_of_getElem? (i := 722) (by decide +kernel), List.mem_of_getElem? (i := 723) (by decide +kernel)⟩
theorem lw_p22 : lw_okq (⟨"OrbitDesigns$Lottery", "drawOrbits", "(I)V"⟩, 5) := ⟨⟨by decide +kernel, by decide +kernel⟩, List.mem_of_getElem? (i := 219) (by decide +kernel), List.mem_of_getElem? (i := 739) (by decide +kernel), List.mem_of_getElem? (i := 740) (by decide +kernel)⟩
theorem lw_p23 : lw_okq (⟨"OrbitDesigns$Lottery", "drawBelowTwo", "()I"⟩, 5) := ⟨⟨by decide +kernel, by decide +kernel⟩, List.mem_of_getElem? (i := 219) (by decide +kernel), List.mem_of_getElem? (i := 743) (by decide +kernel), List.mem_of_getElem? (i := 744) (by decide +kernel)⟩
theorem lw_p24 : lw_okq (⟨"OrbitDesigns$Lottery", "countSets", "(LOrbitDesigns$Orbits;I)V"⟩, 5) := ⟨⟨by decide +kernel, by decide +kernel⟩, List.mem_of_getElem? (i := 219) (by decide +kernel), List.mem_of_getElem? (i := 750) (by decide +kernel), List.mem_of_getElem? (i := 751) (by decide +kernel)⟩
theorem lw_p25 : lw_okq (⟨"OrbitDesigns$Lottery", "countSet", "(I)V"⟩, 5) := ⟨⟨by decide +kernel, by decide +kernel⟩, List.mem_of_getElem? (i := 219) (by decide +kernel), List.mem_of_getElem? (i := 757) (by decide +kernel), List.mem_of_getElem? (i := 758) (by decide +kernel)⟩
theorem lw_p26 : lw_okq (⟨"OrbitDesigns$Lottery", "isEven", "(I)Z"⟩, 5) := ⟨⟨by decide +kernel, by decide +kernel⟩, List.mem_of_getElem? (i := 219) (by decide +kernel), List.mem_of_getElem? (i := 761) (by decide +kernel), List.mem_of_getElem? (i := 762) (by decide +kernel)⟩
theorem lw_p27 : lw_okq (⟨"OrbitDesigns", "doClauses", "()I"⟩, 12) := ⟨⟨by decide +kernel, by decide +kernel⟩, List.mem_of_getElem? (i := 18) (by decide +kernel), List.mem_of_getElem? (i := 799) (by decide +kernel), List.mem_of_getElem? (i := 800) (by decide +kernel)⟩
theorem lw_p28 : lw_okq (⟨"OrbitDesigns", "doClause", "(II)Z"⟩, 12) := ⟨⟨by decide +kernel, by decide +kernel⟩, List.mem_of_getElem? (i := 18) (by decide +kernel), List.mem_of_getElem? (i := 804) (by decide +kernel), List.mem_of_getElem? (i := 805) (by decide +kernel)⟩
theorem lw_p29 : lw_okq (⟨"OrbitDesigns", "doBlockClause", "(II)Z"⟩, 12) := ⟨⟨by decide +kernel, by decide +kernel⟩, List.mem_of_getElem? (i := 18) (by decide +kernel), List.mem_of_getElem? (i := 817) (by decide +kernel), List.mem_of_getElem? (i := 818) (by decide +kernel)⟩
theorem lw_p30 : lw_okq (⟨"OrbitDesigns", "tapeAt", "(I)LOrbitDesigns$Tape;"⟩, 12) := ⟨⟨by decide +kernel, by decide +kernel⟩, List.mem_of_getElem? (i := 18) (by decide +kernel), List.mem_of_getElem? (i := 827) (by decide +kernel), List.mem_of_getElem? (i := 828) (by decide +kernel)⟩
theorem lw_p31 : lw_okq (⟨"OrbitDesigns$Tape", "isPlace", "(I)Z"⟩, 3) := ⟨⟨by decide +kernel, by decide +kernel⟩, List.mem_of_getElem? (i := 112) (by decide +kernel), List.mem_of_getElem? (i := 835) (by decide +kernel), List.mem_of_getElem? (i := 836) (by decide +kernel)⟩
def lw_privs_2 : List (MethodName × Nat) := [(⟨"OrbitDesigns$Choices", "searchCovers", "(III)V"⟩, 12), (⟨"OrbitDesigns$Choices", "covers", "(I)Z"⟩, 12), (⟨"OrbitDesigns$Blocks", "around", "(I)I"⟩, 3), (⟨"OrbitDesigns$Matcher", "canPlace", "(LOrbitDesigns$Blocks;LOrbitDesigns$Blocks;III)Z"⟩, 1), (⟨"OrbitDesigns$Matcher", "fits", "(LOrbitDesigns$Blocks;LOrbitDesigns$Blocks;II)Z"⟩, 1), (⟨"OrbitDesigns", "isLikeAnEarlierSolution", "(II)Z"⟩, 12), (⟨"OrbitDesigns$Lottery", "drawOrbits", "(I)V"⟩, 5), (⟨"OrbitDesigns$Lottery", "drawBelowTwo", "()I"⟩, 5), (⟨"OrbitDesigns$Lottery", "countSets", "(LOrbitDesigns$Orbits;I)V"⟩, 5), (⟨"OrbitDesigns$Lottery", "countSet", "(I)V"⟩, 5), (⟨"OrbitDesigns$Lottery", "isEven", "(I)Z"⟩, 5), (⟨"OrbitDesigns", "doClauses", "()I"⟩, 12), (⟨"OrbitDesigns", "doClause", "(II)Z"⟩, 12), (⟨"OrbitDesigns", "doBlockClause", "(II)Z"⟩, 12), (⟨"OrbitDesigns", "tapeAt", "(I)LOrbitDesigns$Tape;"⟩, 12), (⟨"OrbitDesigns$Tape", "isPlace", "(I)Z"⟩, 3)]
theorem lw_r2 : ∀ q ∈ lw_privs_2, lw_okq q := List.forall_mem_cons.mpr ⟨lw_p16, List.forall_mem_cons.mpr ⟨lw_p17, List.forall_mem_cons.mpr ⟨lw_p18, List.forall_mem_cons.mpr ⟨lw_p19, List.forall_mem_cons.mpr ⟨lw_p20, List.forall_mem_cons.mpr ⟨lw_p21, List.forall_mem_cons.mpr ⟨lw_p22, List.forall_mem_cons.mpr ⟨lw_p23, List.forall_mem_cons.mpr ⟨lw_p24, List.forall_mem_cons.mpr ⟨lw_p25, List.forall_mem_cons.mpr ⟨lw_p26, List.forall_mem_cons.mpr ⟨lw_p27, List.forall_mem_cons.mpr ⟨lw_p28, List.forall_mem_cons.mpr ⟨lw_p29, List.forall_mem_cons.mpr ⟨lw_p30, List.forall_mem_cons.mpr ⟨lw_p31, fun _ h => absurd h List.not_mem_nil⟩⟩⟩⟩⟩⟩⟩⟩⟩⟩⟩⟩⟩⟩⟩⟩
theorem lw_p32 : lw_okq (⟨"OrbitDesigns$Tape", "cut", "(J)J"⟩, 3) := ⟨⟨by decide +kernel, by decide +kernel⟩, List.mem_of_getElem? (i := 112) (by decide +kernel), List.mem_of_getElem? (i := 881) (by decide +kernel), List.mem_of_getElem? (i := 882) (by decide +kernel)⟩
theorem lw_p33 : lw_okq (⟨"OrbitDesignsModel", "starts", "(I)V"⟩, 25) := ⟨⟨by decide +kernel, by decide +kernel⟩, List.mem_of_getElem? (i := 904) (by decide +kernel), List.mem_of_getElem? (i := 916) (by decide +kernel), List.mem_of_getElem? (i := 917) (by decide +kernel)⟩
theorem lw_p34 : lw_okq (⟨"OrbitDesignsModel", "goes", "(III)I"⟩, 25) := ⟨⟨by decide +kernel, by decide +kernel⟩, List.mem_of_getElem? (i := 904) (by decide +kernel), List.mem_of_getElem? (i := 1014) (by decide +kernel), List.mem_of_getElem? (i := 1015) (by decide +kernel)⟩
theorem lw_p35 : lw_okq (⟨"OrbitDesignsModel", "isPoint", "(I)Z"⟩, 25) := ⟨⟨by decide +kernel, by decide +kernel⟩, List.mem_of_getElem? (i := 904) (by decide +kernel), List.mem_of_getElem? (i := 1022) (by decide +kernel), List.mem_of_getElem? (i := 1023) (by decide +kernel)⟩
theorem lw_p36 : lw_okq (⟨"OrbitDesignsModel", "isWay", "(I)Z"⟩, 25) := ⟨⟨by decide +kernel, by decide +kernel⟩, List.mem_of_getElem? (i := 904) (by decide +kernel), List.mem_of_getElem? (i := 1030) (by decide +kernel), List.mem_of_getElem? (i := 1031) (by decide +kernel)⟩
theorem lw_p37 : lw_okq (⟨"OrbitDesignsModel", "holds", "(I)Z"⟩, 25) := ⟨⟨by decide +kernel, by decide +kernel⟩, List.mem_of_getElem? (i := 904) (by decide +kernel), List.mem_of_getElem? (i := 1038) (by decide +kernel), List.mem_of_getElem? (i := 1039) (by decide +kernel)⟩
theorem lw_p38 : lw_okq (⟨"OrbitDesignsModel", "whole", "()I"⟩, 25) := ⟨⟨by decide +kernel, by decide +kernel⟩, List.mem_of_getElem? (i := 904) (by decide +kernel), List.mem_of_getElem? (i := 1042) (by decide +kernel), List.mem_of_getElem? (i := 1043) (by decide +kernel)⟩
theorem lw_p39 : lw_okq (⟨"OrbitDesignsModel", "moved", "(II)I"⟩, 25) := ⟨⟨by decide +kernel, by decide +kernel⟩, List.mem_of_getElem? (i := 904) (by decide +kernel), List.mem_of_getElem? (i := 1046) (by decide +kernel), List.mem_of_getElem? (i := 1047) (by decide +kernel)⟩
theorem lw_p40 : lw_okq (⟨"OrbitDesignsModel", "to", "(II)I"⟩, 25) := ⟨⟨by decide +kernel, by decide +kernel⟩, List.mem_of_getElem? (i := 904) (by decide +kernel), List.mem_of_getElem? (i := 1050) (by decide +kernel), List.mem_of_getElem? (i := 1051) (by decide +kernel)⟩
theorem lw_p41 : lw_okq (⟨"OrbitDesignsModel", "timesOf", "(I)I"⟩, 25) := ⟨⟨by decide +kernel, by decide +kernel⟩, List.mem_of_getElem? (i := 904) (by decide +kernel), List.mem_of_getElem? (i := 1054) (by decide +kernel), List.mem_of_getElem? (i := 1055) (by decide +kernel)⟩
theorem lw_p42 : lw_okq (⟨"OrbitDesignsModel", "isSet", "(I)Z"⟩, 25) := ⟨⟨by decide +kernel, by decide +kernel⟩, List.mem_of_getElem? (i := 904) (by decide +kernel), List.mem_of_getElem? (i := 1066) (by decide +kernel), List.mem_of_getElem? (i := 1067) (by decide +kernel)⟩
theorem lw_p43 : lw_okq (⟨"OrbitDesignsModel", "isSize", "(I)Z"⟩, 25) := ⟨⟨by decide +kernel, by decide +kernel⟩, List.mem_of_getElem? (i := 904) (by decide +kernel), List.mem_of_getElem? (i := 1078) (by decide +kernel), List.mem_of_getElem? (i := 1079) (by decide +kernel)⟩
theorem lw_p44 : lw_okq (⟨"OrbitDesignsModel", "finds", "()V"⟩, 25) := ⟨⟨by decide +kernel, by decide +kernel⟩, List.mem_of_getElem? (i := 904) (by decide +kernel), List.mem_of_getElem? (i := 1082) (by decide +kernel), List.mem_of_getElem? (i := 1083) (by decide +kernel)⟩
theorem lw_p45 : lw_okq (⟨"OrbitDesignsModel", "isIn", "(III)Z"⟩, 25) := ⟨⟨by decide +kernel, by decide +kernel⟩, List.mem_of_getElem? (i := 904) (by decide +kernel), List.mem_of_getElem? (i := 1094) (by decide +kernel), List.mem_of_getElem? (i := 1095) (by decide +kernel)⟩
theorem lw_p46 : lw_okq (⟨"OrbitDesignsModel", "least", "(II)I"⟩, 25) := ⟨⟨by decide +kernel, by decide +kernel⟩, List.mem_of_getElem? (i := 904) (by decide +kernel), List.mem_of_getElem? (i := 1098) (by decide +kernel), List.mem_of_getElem? (i := 1099) (by decide +kernel)⟩
theorem lw_p47 : lw_okq (⟨"OrbitDesignsModel", "areSizes", "(II)Z"⟩, 25) := ⟨⟨by decide +kernel, by decide +kernel⟩, List.mem_of_getElem? (i := 904) (by decide +kernel), List.mem_of_getElem? (i := 1114) (by decide +kernel), List.mem_of_getElem? (i := 1115) (by decide +kernel)⟩
def lw_privs_3 : List (MethodName × Nat) := [(⟨"OrbitDesigns$Tape", "cut", "(J)J"⟩, 3), (⟨"OrbitDesignsModel", "starts", "(I)V"⟩, 25), (⟨"OrbitDesignsModel", "goes", "(III)I"⟩, 25), (⟨"OrbitDesignsModel", "isPoint", "(I)Z"⟩, 25), (⟨"OrbitDesignsModel", "isWay", "(I)Z"⟩, 25), (⟨"OrbitDesignsModel", "holds", "(I)Z"⟩, 25), (⟨"OrbitDesignsModel", "whole", "()I"⟩, 25), (⟨"OrbitDesignsModel", "moved", "(II)I"⟩, 25), (⟨"OrbitDesignsModel", "to", "(II)I"⟩, 25), (⟨"OrbitDesignsModel", "timesOf", "(I)I"⟩, 25), (⟨"OrbitDesignsModel", "isSet", "(I)Z"⟩, 25), (⟨"OrbitDesignsModel", "isSize", "(I)Z"⟩, 25), (⟨"OrbitDesignsModel", "finds", "()V"⟩, 25), (⟨"OrbitDesignsModel", "isIn", "(III)Z"⟩, 25), (⟨"OrbitDesignsModel", "least", "(II)I"⟩, 25), (⟨"OrbitDesignsModel", "areSizes", "(II)Z"⟩, 25)]
theorem lw_r3 : ∀ q ∈ lw_privs_3, lw_okq q := List.forall_mem_cons.mpr ⟨lw_p32, List.forall_mem_cons.mpr ⟨lw_p33, List.forall_mem_cons.mpr ⟨lw_p34, List.forall_mem_cons.mpr ⟨lw_p35, List.forall_mem_cons.mpr ⟨lw_p36, List.forall_mem_cons.mpr ⟨lw_p37, List.forall_mem_cons.mpr ⟨lw_p38, List.forall_mem_cons.mpr ⟨lw_p39, List.forall_mem_cons.mpr ⟨lw_p40, List.forall_mem_cons.mpr ⟨lw_p41, List.forall_mem_cons.mpr ⟨lw_p42, List.forall_mem_cons.mpr ⟨lw_p43, List.forall_mem_cons.mpr ⟨lw_p44, List.forall_mem_cons.mpr ⟨lw_p45, List.forall_mem_cons.mpr ⟨lw_p46, List.forall_mem_cons.mpr ⟨lw_p47, fun _ h => absurd h List.not_mem_nil⟩⟩⟩⟩⟩⟩⟩⟩⟩⟩⟩⟩⟩⟩⟩⟩
theorem lw_p48 : lw_okq (⟨"OrbitDesignsModel", "tables", "(II)V"⟩, 25) := ⟨⟨by decide +kernel, by decide +kernel⟩, List.mem_of_getElem? (i := 904) (by decide +kernel), List.mem_of_getElem? (i := 1118) (by decide +kernel), List.mem_of_getElem? (i := 1119) (by decide +kernel)⟩
theorem lw_p49 : lw_okq (⟨"OrbitDesignsModel", "nth", "(IIII)I"⟩, 25) := ⟨⟨by decide +kernel, by decide +kernel⟩, List.mem_of_getElem? (i := 904) (by decide +kernel), List.mem_of_getElem? (i := 1127) (by decide +kernel), List.mem_of_getElem? (i := 1128) (by decide +kernel)⟩
theorem lw_p50 : lw_okq (⟨"OrbitDesignsModel", "solves", "(IIII)Z"⟩, 25) := ⟨⟨by decide +kernel, by decide +kernel⟩, List.mem_of_getElem? (i := 904) (by decide +kernel), List.mem_of_getElem? (i := 1131) (by decide +kernel), List.mem_of_getElem? (i := 1132) (by decide +kernel)⟩
theorem lw_p51 : lw_okq (⟨"OrbitDesignsModel", "sum", "(III)I"⟩, 25) := ⟨⟨by decide +kernel, by decide +kernel⟩, List.mem_of_getElem? (i := 904) (by decide +kernel), List.mem_of_getElem? (i := 1135) (by decide +kernel), List.mem_of_getElem? (i := 1136) (by decide +kernel)⟩
theorem lw_p52 : lw_okq (⟨"OrbitDesignsModel", "covers", "(III)Z"⟩, 25) := ⟨⟨by decide +kernel, by decide +kernel⟩, List.mem_of_getElem? (i := 904) (by decide +kernel), List.mem_of_getElem? (i := 1147) (by decide +kernel), List.mem_of_getElem? (i := 1148) (by decide +kernel)⟩
theorem lw_p53 : lw_okq (⟨"OrbitDesignsModel", "isDesign", "(I)Z"⟩, 25) := ⟨⟨by decide +kernel, by decide +kernel⟩, List.mem_of_getElem? (i := 904) (by decide +kernel), List.mem_of_getElem? (i := 1200) (by decide +kernel), List.mem_of_getElem? (i := 1201) (by decide +kernel)⟩
theorem lw_p54 : lw_okq (⟨"OrbitDesignsModel", "areAlike", "([Z[Z)Z"⟩, 25) := ⟨⟨by decide +kernel, by decide +kernel⟩, List.mem_of_getElem? (i := 904) (by decide +kernel), List.mem_of_getElem? (i := 1208) (by decide +kernel), List.mem_of_getElem? (i := 1209) (by decide +kernel)⟩
theorem lw_p55 : lw_okq (⟨"OrbitDesignsModel", "waysFrom", "([Z[ZIIZ)I"⟩, 25) := ⟨⟨by decide +kernel, by decide +kernel⟩, List.mem_of_getElem? (i := 904) (by decide +kernel), List.mem_of_getElem? (i := 1212) (by decide +kernel), List.mem_of_getElem? (i := 1213) (by decide +kernel)⟩
theorem lw_p56 : lw_okq (⟨"OrbitDesignsModel", "lined", "(I)I"⟩, 25) := ⟨⟨by decide +kernel, by decide +kernel⟩, List.mem_of_getElem? (i := 904) (by decide +kernel), List.mem_of_getElem? (i := 1216) (by decide +kernel), List.mem_of_getElem? (i := 1217) (by decide +kernel)⟩
theorem lw_p57 : lw_okq (⟨"OrbitDesignsModel", "here", "()I"⟩, 25) := ⟨⟨by decide +kernel, by decide +kernel⟩, List.mem_of_getElem? (i := 904) (by decide +kernel), List.mem_of_getElem? (i := 1245) (by decide +kernel), List.mem_of_getElem? (i := 1246) (by decide +kernel)⟩
theorem lw_p58 : lw_okq (⟨"OrbitDesignsModel", "hasClause", "()Z"⟩, 25) := ⟨⟨by decide +kernel, by decide +kernel⟩, List.mem_of_getElem? (i := 904) (by decide +kernel), List.mem_of_getElem? (i := 1249) (by decide +kernel), List.mem_of_getElem? (i := 1250) (by decide +kernel)⟩
theorem lw_p59 : lw_okq (⟨"OrbitDesignsModel", "isDone", "(I)Z"⟩, 25) := ⟨⟨by decide +kernel, by decide +kernel⟩, List.mem_of_getElem? (i := 904) (by decide +kernel), List.mem_of_getElem? (i := 1255) (by decide +kernel), List.mem_of_getElem? (i := 1256) (by decide +kernel)⟩
def lw_privs_4 : List (MethodName × Nat) := [(⟨"OrbitDesignsModel", "tables", "(II)V"⟩, 25), (⟨"OrbitDesignsModel", "nth", "(IIII)I"⟩, 25), (⟨"OrbitDesignsModel", "solves", "(IIII)Z"⟩, 25), (⟨"OrbitDesignsModel", "sum", "(III)I"⟩, 25), (⟨"OrbitDesignsModel", "covers", "(III)Z"⟩, 25), (⟨"OrbitDesignsModel", "isDesign", "(I)Z"⟩, 25), (⟨"OrbitDesignsModel", "areAlike", "([Z[Z)Z"⟩, 25), (⟨"OrbitDesignsModel", "waysFrom", "([Z[ZIIZ)I"⟩, 25), (⟨"OrbitDesignsModel", "lined", "(I)I"⟩, 25), (⟨"OrbitDesignsModel", "here", "()I"⟩, 25), (⟨"OrbitDesignsModel", "hasClause", "()Z"⟩, 25), (⟨"OrbitDesignsModel", "isDone", "(I)Z"⟩, 25)]
theorem lw_r4 : ∀ q ∈ lw_privs_4, lw_okq q := List.forall_mem_cons.mpr ⟨lw_p48, List.forall_mem_cons.mpr ⟨lw_p49, List.forall_mem_cons.mpr ⟨lw_p50, List.forall_mem_cons.mpr ⟨lw_p51, List.forall_mem_cons.mpr ⟨lw_p52, List.forall_mem_cons.mpr ⟨lw_p53, List.forall_mem_cons.mpr ⟨lw_p54, List.forall_mem_cons.mpr ⟨lw_p55, List.forall_mem_cons.mpr ⟨lw_p56, List.forall_mem_cons.mpr ⟨lw_p57, List.forall_mem_cons.mpr ⟨lw_p58, List.forall_mem_cons.mpr ⟨lw_p59, fun _ h => absurd h List.not_mem_nil⟩⟩⟩⟩⟩⟩⟩⟩⟩⟩⟩⟩
def lw_privs : List (MethodName × Nat) := lw_privs_1 ++ (lw_privs_2 ++ (lw_privs_3 ++ (lw_privs_4)))
def lw_tbl : List Cond := k2_sels lw_privs ++ tables_1
theorem lw_privs_ok : ∀ q ∈ lw_privs, lw_okq q := by
  show ∀ q ∈ lw_privs_1 ++ (lw_privs_2 ++ (lw_privs_3 ++ (lw_privs_4))), lw_okq q
  exact List.forall_mem_append.mpr ⟨lw_r1, List.forall_mem_append.mpr ⟨lw_r2, List.forall_mem_append.mpr ⟨lw_r3, lw_r4⟩⟩⟩
-- names
def RX0 : String := "OrbitDesigns$Blocks"
def TX0 : u_T := fun k => match k with
  | 0 => ("OrbitDesigns$Blocks", "size", "I", false)
  | 1 => ("OrbitDesigns$Blocks", "amount", "I", false)
  | _ => ("OrbitDesigns$Blocks", "isBlock", "[Z", true)
def tyX0 : Nat → FieldType := fun k => match k with
  | 0 => .int
  | 1 => .int
  | _ => .array .boolean
abbrev wsX00 : List Cond := u_ws RX0 TX0 3
theorem nmX0 : ∀ a, a < 3 → ∀ b, b < 3 → a ≠ b → (TX0 a).2.1 ≠ (TX0 b).2.1 := by decide +kernel
theorem tyX0_ok : ∀ k, k < 3 → parseFieldDescriptor (TX0 k).2.2.1 = some (tyX0 k) := by decide +kernel
abbrev cX0_init : ByteArray := prog_2_method_1_code
def yX0_init : MethodName := ⟨RX0, "<init>", "()V"⟩
abbrev cX0_becomeEmpty : ByteArray := prog_2_method_2_code
def yX0_becomeEmpty : MethodName := ⟨RX0, "becomeEmpty", "(I)V"⟩
abbrev cX0_copyFrom : ByteArray := prog_2_method_3_code
def yX0_copyFrom : MethodName := ⟨RX0, "copyFrom", "(LOrbitDesigns$Blocks;)V"⟩
abbrev cX0_becomeChoice : ByteArray := prog_2_method_4_code
def yX0_becomeChoice : MethodName := ⟨RX0, "becomeChoice", "(LOrbitDesigns$Orbits;II)V"⟩
abbrev cX0_becomePart : ByteArray := prog_2_method_5_code
def yX0_becomePart : MethodName := ⟨RX0, "becomePart", "(LOrbitDesigns$Blocks;IZ)V"⟩
abbrev cX0_has : ByteArray := prog_2_method_6_code
def yX0_has : MethodName := ⟨RX0, "has", "(I)Z"⟩
abbrev cX0_put : ByteArray := prog_2_method_7_code
def yX0_put : MethodName := ⟨RX0, "put", "(IZ)V"⟩
abbrev cX0_setAt : ByteArray := prog_2_method_8_code
def yX0_setAt : MethodName := ⟨RX0, "setAt", "(I)I"⟩
abbrev cX0_union : ByteArray := prog_2_method_9_code
def yX0_union : MethodName := ⟨RX0, "union", "()I"⟩
abbrev cX0_areKeptBy : ByteArray := prog_2_method_10_code
def yX0_areKeptBy : MethodName := ⟨RX0, "areKeptBy", "(LOrbitDesigns$Way;)Z"⟩
abbrev cX0_meeting : ByteArray := prog_2_method_11_code
def yX0_meeting : MethodName := ⟨RX0, "meeting", "(II)I"⟩
abbrev cX0_around : ByteArray := prog_2_method_12_code
def yX0_around : MethodName := ⟨RX0, "around", "(I)I"⟩
abbrev cX0_shareOn : ByteArray := prog_2_method_13_code
def yX0_shareOn : MethodName := ⟨RX0, "shareOn", "(II)I"⟩
abbrev cX0_strengthOn : ByteArray := prog_2_method_14_code
def yX0_strengthOn : MethodName := ⟨RX0, "strengthOn", "(I)I"⟩
abbrev cX0_turn : ByteArray := prog_2_method_15_code
def yX0_turn : MethodName := ⟨RX0, "turn", "(I)V"⟩
def RX1 : String := "OrbitDesigns$Choices"
def TX1 : u_T := fun k => match k with
  | 0 => ("OrbitDesigns$Choices", "numbers", "[I", true)
  | 1 => ("OrbitDesigns$Choices", "coverers", "[I", true)
  | 2 => ("OrbitDesigns$Choices", "need", "[I", true)
  | 3 => ("OrbitDesigns$Choices", "free", "[I", true)
  | 4 => ("OrbitDesigns$Choices", "sets", "[I", true)
  | 5 => ("OrbitDesigns$Choices", "early", "[I", true)
  | 6 => ("OrbitDesigns$Choices", "rows", "I", false)
  | 7 => ("OrbitDesigns$Choices", "columns", "I", false)
  | 8 => ("OrbitDesigns$Choices", "wanted", "I", false)
  | 9 => ("OrbitDesigns$Choices", "solutions", "I", false)
  | 10 => ("OrbitDesigns$Choices", "fewest", "I", false)
  | _ => ("OrbitDesigns$Choices", "answer", "I", false)
def tyX1 : Nat → FieldType := fun k => match k with
  | 0 => .array .int
  | 1 => .array .int
  | 2 => .array .int
  | 3 => .array .int
  | 4 => .array .int
  | 5 => .array .int
  | 6 => .int
  | 7 => .int
  | 8 => .int
  | 9 => .int
  | 10 => .int
  | _ => .int
abbrev wsX10 : List Cond := u_ws RX1 TX1 12
theorem nmX1 : ∀ a, a < 12 → ∀ b, b < 12 → a ≠ b → (TX1 a).2.1 ≠ (TX1 b).2.1 := by decide +kernel
theorem tyX1_ok : ∀ k, k < 12 → parseFieldDescriptor (TX1 k).2.2.1 = some (tyX1 k) := by decide +kernel
abbrev cX1_init : ByteArray := prog_3_method_1_code
def yX1_init : MethodName := ⟨RX1, "<init>", "()V"⟩
abbrev cX1_load : ByteArray := prog_3_method_2_code
def yX1_load : MethodName := ⟨RX1, "load", "(LOrbitDesigns$Orbits;II)V"⟩
abbrev cX1_loadRow : ByteArray := prog_3_method_3_code
def yX1_loadRow : MethodName := ⟨RX1, "loadRow", "(LOrbitDesigns$Orbits;III)V"⟩
abbrev cX1_countSet : ByteArray := prog_3_method_4_code
def yX1_countSet : MethodName := ⟨RX1, "countSet", "(II)V"⟩
abbrev cX1_numberAt : ByteArray := prog_3_method_5_code
def yX1_numberAt : MethodName := ⟨RX1, "numberAt", "(II)I"⟩
abbrev cX1_solve : ByteArray := prog_3_method_6_code
def yX1_solve : MethodName := ⟨RX1, "solve", "(II)V"⟩
abbrev cX1_searchSolutions : ByteArray := prog_3_method_7_code
def yX1_searchSolutions : MethodName := ⟨RX1, "searchSolutions", "(II)V"⟩
abbrev cX1_change : ByteArray := prog_3_method_8_code
def yX1_change : MethodName := ⟨RX1, "change", "(III)V"⟩
abbrev cX1_canSolve : ByteArray := prog_3_method_9_code
def yX1_canSolve : MethodName := ⟨RX1, "canSolve", "()Z"⟩
abbrev cX1_noteSolution : ByteArray := prog_3_method_10_code
def yX1_noteSolution : MethodName := ⟨RX1, "noteSolution", "(I)V"⟩
abbrev cX1_earlySolution : ByteArray := prog_3_method_11_code
def yX1_earlySolution : MethodName := ⟨RX1, "earlySolution", "(I)I"⟩
abbrev cX1_findFewest : ByteArray := prog_3_method_12_code
def yX1_findFewest : MethodName := ⟨RX1, "findFewest", "()V"⟩
abbrev cX1_searchCovers : ByteArray := prog_3_method_13_code
def yX1_searchCovers : MethodName := ⟨RX1, "searchCovers", "(III)V"⟩
abbrev cX1_covers : ByteArray := prog_3_method_14_code
def yX1_covers : MethodName := ⟨RX1, "covers", "(I)Z"⟩
def RX2 : String := "OrbitDesigns$Group"
def TX2 : u_T := fun k => match k with
  | 0 => ("OrbitDesigns$Group", "elements", "[I", true)
  | 1 => ("OrbitDesigns$Group", "slots", "[I", true)
  | _ => ("OrbitDesigns$Group", "filled", "I", false)
def tyX2 : Nat → FieldType := fun k => match k with
  | 0 => .array .int
  | 1 => .array .int
  | _ => .int
abbrev wsX20 : List Cond := u_ws RX2 TX2 3
theorem nmX2 : ∀ a, a < 3 → ∀ b, b < 3 → a ≠ b → (TX2 a).2.1 ≠ (TX2 b).2.1 := by decide +kernel
theorem tyX2_ok : ∀ k, k < 3 → parseFieldDescriptor (TX2 k).2.2.1 = some (tyX2 k) := by decide +kernel
abbrev cX2_init : ByteArray := prog_4_method_1_code
def yX2_init : MethodName := ⟨RX2, "<init>", "()V"⟩
abbrev cX2_orderOf : ByteArray := prog_4_method_2_code
def yX2_orderOf : MethodName := ⟨RX2, "orderOf", "(LOrbitDesigns$Setup;)I"⟩
abbrev cX2_stillness : ByteArray := prog_4_method_3_code
def yX2_stillness : MethodName := ⟨RX2, "stillness", "()I"⟩
abbrev cX2_followedBy : ByteArray := prog_4_method_4_code
def yX2_followedBy : MethodName := ⟨RX2, "followedBy", "(ILOrbitDesigns$Way;)I"⟩
abbrev cX2_enter : ByteArray := prog_4_method_5_code
def yX2_enter : MethodName := ⟨RX2, "enter", "(I)V"⟩
abbrev cX2_append : ByteArray := prog_4_method_6_code
def yX2_append : MethodName := ⟨RX2, "append", "(II)V"⟩
def RX3 : String := "OrbitDesigns$Lottery"
def TX3 : u_T := fun k => match k with
  | 0 => ("OrbitDesigns$Lottery", "chosen", "[Z", true)
  | 1 => ("OrbitDesigns$Lottery", "setsWith", "[I", true)
  | 2 => ("OrbitDesigns$Lottery", "seed", "I", false)
  | 3 => ("OrbitDesigns$Lottery", "evenOnes", "I", false)
  | _ => ("OrbitDesigns$Lottery", "setsTogether", "I", false)
def tyX3 : Nat → FieldType := fun k => match k with
  | 0 => .array .boolean
  | 1 => .array .int
  | 2 => .int
  | 3 => .int
  | _ => .int
abbrev wsX30 : List Cond := u_ws RX3 TX3 5
theorem nmX3 : ∀ a, a < 5 → ∀ b, b < 5 → a ≠ b → (TX3 a).2.1 ≠ (TX3 b).2.1 := by decide +kernel
theorem tyX3_ok : ∀ k, k < 5 → parseFieldDescriptor (TX3 k).2.2.1 = some (tyX3 k) := by decide +kernel
abbrev cX3_init : ByteArray := prog_5_method_1_code
def yX3_init : MethodName := ⟨RX3, "<init>", "()V"⟩
abbrev cX3_play : ByteArray := prog_5_method_2_code
def yX3_play : MethodName := ⟨RX3, "play", "(LOrbitDesigns$Orbits;IIII)V"⟩
abbrev cX3_drawOrbits : ByteArray := prog_5_method_3_code
def yX3_drawOrbits : MethodName := ⟨RX3, "drawOrbits", "(I)V"⟩
abbrev cX3_drawBelowTwo : ByteArray := prog_5_method_4_code
def yX3_drawBelowTwo : MethodName := ⟨RX3, "drawBelowTwo", "()I"⟩
abbrev cX3_countSets : ByteArray := prog_5_method_5_code
def yX3_countSets : MethodName := ⟨RX3, "countSets", "(LOrbitDesigns$Orbits;I)V"⟩
abbrev cX3_countSet : ByteArray := prog_5_method_6_code
def yX3_countSet : MethodName := ⟨RX3, "countSet", "(I)V"⟩
abbrev cX3_isEven : ByteArray := prog_5_method_7_code
def yX3_isEven : MethodName := ⟨RX3, "isEven", "(I)Z"⟩
def RX4 : String := "OrbitDesigns$Matcher"
def TX4 : u_T := fun k => match k with
  | _ => ("OrbitDesigns$Matcher", "placed", "[I", true)
def tyX4 : Nat → FieldType := fun k => match k with
  | _ => .array .int
abbrev wsX40 : List Cond := u_ws RX4 TX4 1
theorem nmX4 : ∀ a, a < 1 → ∀ b, b < 1 → a ≠ b → (TX4 a).2.1 ≠ (TX4 b).2.1 := by decide +kernel
theorem tyX4_ok : ∀ k, k < 1 → parseFieldDescriptor (TX4 k).2.2.1 = some (tyX4 k) := by decide +kernel
abbrev cX4_init : ByteArray := prog_6_method_1_code
def yX4_init : MethodName := ⟨RX4, "<init>", "()V"⟩
abbrev cX4_areAlike : ByteArray := prog_6_method_2_code
def yX4_areAlike : MethodName := ⟨RX4, "areAlike", "(LOrbitDesigns$Blocks;LOrbitDesigns$Blocks;I)Z"⟩
abbrev cX4_selvesOf : ByteArray := prog_6_method_3_code
def yX4_selvesOf : MethodName := ⟨RX4, "selvesOf", "(LOrbitDesigns$Blocks;I)I"⟩
abbrev cX4_canPlace : ByteArray := prog_6_method_4_code
def yX4_canPlace : MethodName := ⟨RX4, "canPlace", "(LOrbitDesigns$Blocks;LOrbitDesigns$Blocks;III)Z"⟩
abbrev cX4_fits : ByteArray := prog_6_method_5_code
def yX4_fits : MethodName := ⟨RX4, "fits", "(LOrbitDesigns$Blocks;LOrbitDesigns$Blocks;II)Z"⟩
def RX5 : String := "OrbitDesigns$Orbits"
def TX5 : u_T := fun k => match k with
  | 0 => ("OrbitDesigns$Orbits", "number", "[I", true)
  | 1 => ("OrbitDesigns$Orbits", "amount", "[I", true)
  | _ => ("OrbitDesigns$Orbits", "queue", "[I", true)
def tyX5 : Nat → FieldType := fun k => match k with
  | 0 => .array .int
  | 1 => .array .int
  | _ => .array .int
abbrev wsX50 : List Cond := u_ws RX5 TX5 3
theorem nmX5 : ∀ a, a < 3 → ∀ b, b < 3 → a ≠ b → (TX5 a).2.1 ≠ (TX5 b).2.1 := by decide +kernel
theorem tyX5_ok : ∀ k, k < 3 → parseFieldDescriptor (TX5 k).2.2.1 = some (tyX5 k) := by decide +kernel
abbrev cX5_init : ByteArray := prog_7_method_1_code
def yX5_init : MethodName := ⟨RX5, "<init>", "()V"⟩
abbrev cX5_find : ByteArray := prog_7_method_2_code
def yX5_find : MethodName := ⟨RX5, "find", "(LOrbitDesigns$Setup;)V"⟩
abbrev cX5_spread : ByteArray := prog_7_method_3_code
def yX5_spread : MethodName := ⟨RX5, "spread", "(LOrbitDesigns$Setup;II)V"⟩
abbrev cX5_enter : ByteArray := prog_7_method_4_code
def yX5_enter : MethodName := ⟨RX5, "enter", "(III)I"⟩
abbrev cX5_amountOf : ByteArray := prog_7_method_5_code
def yX5_amountOf : MethodName := ⟨RX5, "amountOf", "(I)I"⟩
abbrev cX5_isOrbit : ByteArray := prog_7_method_6_code
def yX5_isOrbit : MethodName := ⟨RX5, "isOrbit", "(II)Z"⟩
abbrev cX5_numberOf : ByteArray := prog_7_method_7_code
def yX5_numberOf : MethodName := ⟨RX5, "numberOf", "(I)I"⟩
abbrev cX5_holds : ByteArray := prog_7_method_8_code
def yX5_holds : MethodName := ⟨RX5, "holds", "(III)Z"⟩
abbrev cX5_setAt : ByteArray := prog_7_method_9_code
def yX5_setAt : MethodName := ⟨RX5, "setAt", "(III)I"⟩
abbrev cX5_greatestOf : ByteArray := prog_7_method_10_code
def yX5_greatestOf : MethodName := ⟨RX5, "greatestOf", "(II)I"⟩
abbrev cX5_setsIn : ByteArray := prog_7_method_11_code
def yX5_setsIn : MethodName := ⟨RX5, "setsIn", "(II)I"⟩
abbrev cX5_setsAround : ByteArray := prog_7_method_12_code
def yX5_setsAround : MethodName := ⟨RX5, "setsAround", "(III)I"⟩
def RX6 : String := "OrbitDesigns$Setup"
def TX6 : u_T := fun k => match k with
  | 0 => ("OrbitDesigns$Setup", "n", "I", false)
  | 1 => ("OrbitDesigns$Setup", "wayCount", "I", false)
  | 2 => ("OrbitDesigns$Setup", "designCount", "I", false)
  | 3 => ("OrbitDesigns$Setup", "blocks", "LOrbitDesigns$Blocks;", true)
  | 4 => ("OrbitDesigns$Setup", "ways", "[LOrbitDesigns$Way;", true)
  | _ => ("OrbitDesigns$Setup", "designs", "[LOrbitDesigns$Blocks;", true)
def tyX6 : Nat → FieldType := fun k => match k with
  | 0 => .int
  | 1 => .int
  | 2 => .int
  | 3 => .object "OrbitDesigns$Blocks"
  | 4 => .array (.object "OrbitDesigns$Way")
  | _ => .array (.object "OrbitDesigns$Blocks")
abbrev wsX60 : List Cond := u_ws RX6 TX6 6
theorem nmX6 : ∀ a, a < 6 → ∀ b, b < 6 → a ≠ b → (TX6 a).2.1 ≠ (TX6 b).2.1 := by decide +kernel
theorem tyX6_ok : ∀ k, k < 6 → parseFieldDescriptor (TX6 k).2.2.1 = some (tyX6 k) := by decide +kernel
abbrev cX6_init : ByteArray := prog_8_method_1_code
def yX6_init : MethodName := ⟨RX6, "<init>", "()V"⟩
abbrev cX6_restart : ByteArray := prog_8_method_2_code
def yX6_restart : MethodName := ⟨RX6, "restart", "(I)V"⟩
abbrev cX6_copyFrom : ByteArray := prog_8_method_3_code
def yX6_copyFrom : MethodName := ⟨RX6, "copyFrom", "(LOrbitDesigns$Setup;)V"⟩
abbrev cX6_isPoint : ByteArray := prog_8_method_4_code
def yX6_isPoint : MethodName := ⟨RX6, "isPoint", "(I)Z"⟩
abbrev cX6_isSize : ByteArray := prog_8_method_5_code
def yX6_isSize : MethodName := ⟨RX6, "isSize", "(I)Z"⟩
abbrev cX6_isSet : ByteArray := prog_8_method_6_code
def yX6_isSet : MethodName := ⟨RX6, "isSet", "(I)Z"⟩
abbrev cX6_whole : ByteArray := prog_8_method_7_code
def yX6_whole : MethodName := ⟨RX6, "whole", "()I"⟩
abbrev cX6_wayAt : ByteArray := prog_8_method_8_code
def yX6_wayAt : MethodName := ⟨RX6, "wayAt", "(I)LOrbitDesigns$Way;"⟩
abbrev cX6_spareWay : ByteArray := prog_8_method_9_code
def yX6_spareWay : MethodName := ⟨RX6, "spareWay", "()LOrbitDesigns$Way;"⟩
abbrev cX6_removeWay : ByteArray := prog_8_method_10_code
def yX6_removeWay : MethodName := ⟨RX6, "removeWay", "(I)V"⟩
abbrev cX6_designAt : ByteArray := prog_8_method_11_code
def yX6_designAt : MethodName := ⟨RX6, "designAt", "(I)LOrbitDesigns$Blocks;"⟩
abbrev cX6_spareDesign : ByteArray := prog_8_method_12_code
def yX6_spareDesign : MethodName := ⟨RX6, "spareDesign", "()LOrbitDesigns$Blocks;"⟩
def RX7 : String := "OrbitDesigns$Tape"
def TX7 : u_T := fun k => match k with
  | 0 => ("OrbitDesigns$Tape", "sort", "I", false)
  | 1 => ("OrbitDesigns$Tape", "length", "I", false)
  | _ => ("OrbitDesigns$Tape", "items", "[J", true)
def tyX7 : Nat → FieldType := fun k => match k with
  | 0 => .int
  | 1 => .int
  | _ => .array .long
abbrev wsX70 : List Cond := u_ws RX7 TX7 3
theorem nmX7 : ∀ a, a < 3 → ∀ b, b < 3 → a ≠ b → (TX7 a).2.1 ≠ (TX7 b).2.1 := by decide +kernel
theorem tyX7_ok : ∀ k, k < 3 → parseFieldDescriptor (TX7 k).2.2.1 = some (tyX7 k) := by decide +kernel
abbrev cX7_init : ByteArray := prog_9_method_1_code
def yX7_init : MethodName := ⟨RX7, "<init>", "()V"⟩
abbrev cX7_become : ByteArray := prog_9_method_2_code
def yX7_become : MethodName := ⟨RX7, "become", "(II)V"⟩
abbrev cX7_isPlace : ByteArray := prog_9_method_3_code
def yX7_isPlace : MethodName := ⟨RX7, "isPlace", "(I)Z"⟩
abbrev cX7_itemAt : ByteArray := prog_9_method_4_code
def yX7_itemAt : MethodName := ⟨RX7, "itemAt", "(I)J"⟩
abbrev cX7_put : ByteArray := prog_9_method_5_code
def yX7_put : MethodName := ⟨RX7, "put", "(IJ)V"⟩
abbrev cX7_cut : ByteArray := prog_9_method_6_code
def yX7_cut : MethodName := ⟨RX7, "cut", "(J)J"⟩
abbrev cX7_hasPlaces : ByteArray := prog_9_method_7_code
def yX7_hasPlaces : MethodName := ⟨RX7, "hasPlaces", "(II)Z"⟩
abbrev cX7_copyItems : ByteArray := prog_9_method_8_code
def yX7_copyItems : MethodName := ⟨RX7, "copyItems", "(ILOrbitDesigns$Tape;II)V"⟩
def RX8 : String := "OrbitDesigns$Text"
def TX8 : u_T := fun k => match k with
  | 0 => ("OrbitDesigns$Text", "length", "I", false)
  | _ => ("OrbitDesigns$Text", "signs", "[I", true)
def tyX8 : Nat → FieldType := fun k => match k with
  | 0 => .int
  | _ => .array .int
abbrev wsX80 : List Cond := u_ws RX8 TX8 2
theorem nmX8 : ∀ a, a < 2 → ∀ b, b < 2 → a ≠ b → (TX8 a).2.1 ≠ (TX8 b).2.1 := by decide +kernel
theorem tyX8_ok : ∀ k, k < 2 → parseFieldDescriptor (TX8 k).2.2.1 = some (tyX8 k) := by decide +kernel
abbrev cX8_init : ByteArray := prog_10_method_1_code
def yX8_init : MethodName := ⟨RX8, "<init>", "()V"⟩
abbrev cX8_append : ByteArray := prog_10_method_2_code
def yX8_append : MethodName := ⟨RX8, "append", "(I)Z"⟩
abbrev cX8_signAt : ByteArray := prog_10_method_3_code
def yX8_signAt : MethodName := ⟨RX8, "signAt", "(I)I"⟩
abbrev cX8_digitAt : ByteArray := prog_10_method_4_code
def yX8_digitAt : MethodName := ⟨RX8, "digitAt", "(I)I"⟩
abbrev cX8_digitsFrom : ByteArray := prog_10_method_5_code
def yX8_digitsFrom : MethodName := ⟨RX8, "digitsFrom", "(II)I"⟩
abbrev cX8_numberIn : ByteArray := prog_10_method_6_code
def yX8_numberIn : MethodName := ⟨RX8, "numberIn", "(II)I"⟩
abbrev cX8_fault : ByteArray := prog_10_method_7_code
def yX8_fault : MethodName := ⟨RX8, "fault", "()I"⟩
abbrev cX8_leastDigits : ByteArray := prog_10_method_8_code
def yX8_leastDigits : MethodName := ⟨RX8, "leastDigits", "(I)I"⟩
abbrev cX8_mostDigits : ByteArray := prog_10_method_9_code
def yX8_mostDigits : MethodName := ⟨RX8, "mostDigits", "(I)I"⟩
def RX9 : String := "OrbitDesigns$Way"
def TX9 : u_T := fun k => match k with
  | 0 => ("OrbitDesigns$Way", "kind", "I", false)
  | 1 => ("OrbitDesigns$Way", "figure", "I", false)
  | _ => ("OrbitDesigns$Way", "target", "[I", true)
def tyX9 : Nat → FieldType := fun k => match k with
  | 0 => .int
  | 1 => .int
  | _ => .array .int
abbrev wsX90 : List Cond := u_ws RX9 TX9 3
theorem nmX9 : ∀ a, a < 3 → ∀ b, b < 3 → a ≠ b → (TX9 a).2.1 ≠ (TX9 b).2.1 := by decide +kernel
theorem tyX9_ok : ∀ k, k < 3 → parseFieldDescriptor (TX9 k).2.2.1 = some (tyX9 k) := by decide +kernel
abbrev cX9_init : ByteArray := prog_11_method_1_code
def yX9_init : MethodName := ⟨RX9, "<init>", "()V"⟩
abbrev cX9_copyFrom : ByteArray := prog_11_method_2_code
def yX9_copyFrom : MethodName := ⟨RX9, "copyFrom", "(LOrbitDesigns$Way;)V"⟩
abbrev cX9_becomeKind : ByteArray := prog_11_method_3_code
def yX9_becomeKind : MethodName := ⟨RX9, "becomeKind", "(III)V"⟩
abbrev cX9_targetByKind : ByteArray := prog_11_method_4_code
def yX9_targetByKind : MethodName := ⟨RX9, "targetByKind", "(II)I"⟩
abbrev cX9_swapped : ByteArray := prog_11_method_5_code
def yX9_swapped : MethodName := ⟨RX9, "swapped", "(III)I"⟩
abbrev cX9_becomeByHand : ByteArray := prog_11_method_6_code
def yX9_becomeByHand : MethodName := ⟨RX9, "becomeByHand", "(II)V"⟩
abbrev cX9_pointFor : ByteArray := prog_11_method_7_code
def yX9_pointFor : MethodName := ⟨RX9, "pointFor", "(I)I"⟩
abbrev cX9_setFor : ByteArray := prog_11_method_8_code
def yX9_setFor : MethodName := ⟨RX9, "setFor", "(I)I"⟩
abbrev cX9_period : ByteArray := prog_11_method_9_code
def yX9_period : MethodName := ⟨RX9, "period", "()I"⟩
abbrev cX9_isDoneAfter : ByteArray := prog_11_method_10_code
def yX9_isDoneAfter : MethodName := ⟨RX9, "isDoneAfter", "(I)Z"⟩
def RX10 : String := "OrbitDesigns"
def TX10 : u_T := fun k => match k with
  | 0 => ("OrbitDesigns", "now", "LOrbitDesigns$Setup;", true)
  | 1 => ("OrbitDesigns", "picture", "LOrbitDesigns$Setup;", true)
  | 2 => ("OrbitDesigns", "pictured", "Z", false)
  | 3 => ("OrbitDesigns", "text", "LOrbitDesigns$Text;", true)
  | 4 => ("OrbitDesigns", "tapeRow", "[LOrbitDesigns$Tape;", true)
  | 5 => ("OrbitDesigns", "found", "LOrbitDesigns$Orbits;", true)
  | 6 => ("OrbitDesigns", "group", "LOrbitDesigns$Group;", true)
  | 7 => ("OrbitDesigns", "choices", "LOrbitDesigns$Choices;", true)
  | 8 => ("OrbitDesigns", "matcher", "LOrbitDesigns$Matcher;", true)
  | 9 => ("OrbitDesigns", "lottery", "LOrbitDesigns$Lottery;", true)
  | 10 => ("OrbitDesigns", "oneScratch", "LOrbitDesigns$Blocks;", true)
  | _ => ("OrbitDesigns", "otherScratch", "LOrbitDesigns$Blocks;", true)
def tyX10 : Nat → FieldType := fun k => match k with
  | 0 => .object "OrbitDesigns$Setup"
  | 1 => .object "OrbitDesigns$Setup"
  | 2 => .boolean
  | 3 => .object "OrbitDesigns$Text"
  | 4 => .array (.object "OrbitDesigns$Tape")
  | 5 => .object "OrbitDesigns$Orbits"
  | 6 => .object "OrbitDesigns$Group"
  | 7 => .object "OrbitDesigns$Choices"
  | 8 => .object "OrbitDesigns$Matcher"
  | 9 => .object "OrbitDesigns$Lottery"
  | 10 => .object "OrbitDesigns$Blocks"
  | _ => .object "OrbitDesigns$Blocks"
abbrev wsX100 : List Cond := u_ws RX10 TX10 12
theorem nmX10 : ∀ a, a < 12 → ∀ b, b < 12 → a ≠ b → (TX10 a).2.1 ≠ (TX10 b).2.1 := by decide +kernel
theorem tyX10_ok : ∀ k, k < 12 → parseFieldDescriptor (TX10 k).2.2.1 = some (tyX10 k) := by decide +kernel
abbrev cX10_init : ByteArray := prog_1_method_1_code
def yX10_init : MethodName := ⟨RX10, "<init>", "()V"⟩
abbrev cX10_points : ByteArray := prog_1_method_2_code
def yX10_points : MethodName := ⟨RX10, "points", "(I)I"⟩
abbrev cX10_way : ByteArray := prog_1_method_3_code
def yX10_way : MethodName := ⟨RX10, "way", "(II)I"⟩
abbrev cX10_hand : ByteArray := prog_1_method_4_code
def yX10_hand : MethodName := ⟨RX10, "hand", "(I)I"⟩
abbrev cX10_drop : ByteArray := prog_1_method_5_code
def yX10_drop : MethodName := ⟨RX10, "drop", "(I)I"⟩
abbrev cX10_wayOf : ByteArray := prog_1_method_6_code
def yX10_wayOf : MethodName := ⟨RX10, "wayOf", "(II)I"⟩
abbrev cX10_takes : ByteArray := prog_1_method_7_code
def yX10_takes : MethodName := ⟨RX10, "takes", "(II)I"⟩
abbrev cX10_moves : ByteArray := prog_1_method_8_code
def yX10_moves : MethodName := ⟨RX10, "moves", "(II)I"⟩
abbrev cX10_order : ByteArray := prog_1_method_9_code
def yX10_order : MethodName := ⟨RX10, "order", "()I"⟩
abbrev cX10_orbits : ByteArray := prog_1_method_10_code
def yX10_orbits : MethodName := ⟨RX10, "orbits", "(I)I"⟩
abbrev cX10_orbit : ByteArray := prog_1_method_11_code
def yX10_orbit : MethodName := ⟨RX10, "orbit", "(III)I"⟩
abbrev cX10_member : ByteArray := prog_1_method_12_code
def yX10_member : MethodName := ⟨RX10, "member", "(III)I"⟩
abbrev cX10_orbitOf : ByteArray := prog_1_method_13_code
def yX10_orbitOf : MethodName := ⟨RX10, "orbitOf", "(I)I"⟩
abbrev cX10_table : ByteArray := prog_1_method_14_code
def yX10_table : MethodName := ⟨RX10, "table", "(IIII)I"⟩
abbrev cX10_solved : ByteArray := prog_1_method_15_code
def yX10_solved : MethodName := ⟨RX10, "solved", "(IIII)I"⟩
abbrev cX10_solution : ByteArray := prog_1_method_16_code
def yX10_solution : MethodName := ⟨RX10, "solution", "(IIII)I"⟩
abbrev cX10_cover : ByteArray := prog_1_method_17_code
def yX10_cover : MethodName := ⟨RX10, "cover", "(III)I"⟩
abbrev cX10_choose : ByteArray := prog_1_method_18_code
def yX10_choose : MethodName := ⟨RX10, "choose", "(II)I"⟩
abbrev cX10_block : ByteArray := prog_1_method_19_code
def yX10_block : MethodName := ⟨RX10, "block", "(I)I"⟩
abbrev cX10_blockOf : ByteArray := prog_1_method_20_code
def yX10_blockOf : MethodName := ⟨RX10, "blockOf", "(I)I"⟩
abbrev cX10_blocks : ByteArray := prog_1_method_21_code
def yX10_blocks : MethodName := ⟨RX10, "blocks", "(I)I"⟩
abbrev cX10_share : ByteArray := prog_1_method_22_code
def yX10_share : MethodName := ⟨RX10, "share", "(I)I"⟩
abbrev cX10_meets : ByteArray := prog_1_method_23_code
def yX10_meets : MethodName := ⟨RX10, "meets", "(II)I"⟩
abbrev cX10_turned : ByteArray := prog_1_method_24_code
def yX10_turned : MethodName := ⟨RX10, "turned", "()I"⟩
abbrev cX10_parted : ByteArray := prog_1_method_25_code
def yX10_parted : MethodName := ⟨RX10, "parted", "(II)I"⟩
abbrev cX10_keep : ByteArray := prog_1_method_26_code
def yX10_keep : MethodName := ⟨RX10, "keep", "()I"⟩
abbrev cX10_design : ByteArray := prog_1_method_27_code
def yX10_design : MethodName := ⟨RX10, "design", "(II)I"⟩
abbrev cX10_alike : ByteArray := prog_1_method_28_code
def yX10_alike : MethodName := ⟨RX10, "alike", "(II)I"⟩
abbrev cX10_selves : ByteArray := prog_1_method_29_code
def yX10_selves : MethodName := ⟨RX10, "selves", "(I)I"⟩
abbrev cX10_unlike : ByteArray := prog_1_method_30_code
def yX10_unlike : MethodName := ⟨RX10, "unlike", "(III)I"⟩
abbrev cX10_lots : ByteArray := prog_1_method_31_code
def yX10_lots : MethodName := ⟨RX10, "lots", "(IIII)I"⟩
abbrev cX10_feed : ByteArray := prog_1_method_32_code
def yX10_feed : MethodName := ⟨RX10, "feed", "(I)I"⟩
abbrev cX10_read : ByteArray := prog_1_method_33_code
def yX10_read : MethodName := ⟨RX10, "read", "()I"⟩
abbrev cX10_judge : ByteArray := prog_1_method_34_code
def yX10_judge : MethodName := ⟨RX10, "judge", "(II)I"⟩
abbrev cX10_image : ByteArray := prog_1_method_35_code
def yX10_image : MethodName := ⟨RX10, "image", "()I"⟩
abbrev cX10_undo : ByteArray := prog_1_method_36_code
def yX10_undo : MethodName := ⟨RX10, "undo", "()I"⟩
abbrev cX10_count : ByteArray := prog_1_method_37_code
def yX10_count : MethodName := ⟨RX10, "count", "(I)I"⟩
abbrev cX10_tape : ByteArray := prog_1_method_38_code
def yX10_tape : MethodName := ⟨RX10, "tape", "(III)I"⟩
abbrev cX10_item : ByteArray := prog_1_method_39_code
def yX10_item : MethodName := ⟨RX10, "item", "(IIJ)I"⟩
abbrev cX10_peek : ByteArray := prog_1_method_40_code
def yX10_peek : MethodName := ⟨RX10, "peek", "(II)J"⟩
abbrev cX10_shift : ByteArray := prog_1_method_41_code
def yX10_shift : MethodName := ⟨RX10, "shift", "(IIIII)I"⟩
abbrev cX10_areSizes : ByteArray := prog_1_method_42_code
def yX10_areSizes : MethodName := ⟨RX10, "areSizes", "(II)Z"⟩
abbrev cX10_isAim : ByteArray := prog_1_method_43_code
def yX10_isAim : MethodName := ⟨RX10, "isAim", "(I)Z"⟩
abbrev cX10_hasBitsFrom : ByteArray := prog_1_method_44_code
def yX10_hasBitsFrom : MethodName := ⟨RX10, "hasBitsFrom", "(II)Z"⟩
abbrev cX10_haveDivisorInCommon : ByteArray := prog_1_method_45_code
def yX10_haveDivisorInCommon : MethodName := ⟨RX10, "haveDivisorInCommon", "(II)Z"⟩
abbrev cX10_isArrangement : ByteArray := prog_1_method_46_code
def yX10_isArrangement : MethodName := ⟨RX10, "isArrangement", "(II)Z"⟩
abbrev cX10_loadChoices : ByteArray := prog_1_method_47_code
def yX10_loadChoices : MethodName := ⟨RX10, "loadChoices", "(II)Z"⟩
abbrev cX10_isLikeAnEarlierSolution : ByteArray := prog_1_method_48_code
def yX10_isLikeAnEarlierSolution : MethodName := ⟨RX10, "isLikeAnEarlierSolution", "(II)Z"⟩
abbrev cX10_doClauses : ByteArray := prog_1_method_49_code
def yX10_doClauses : MethodName := ⟨RX10, "doClauses", "()I"⟩
abbrev cX10_doClause : ByteArray := prog_1_method_50_code
def yX10_doClause : MethodName := ⟨RX10, "doClause", "(II)Z"⟩
abbrev cX10_doBlockClause : ByteArray := prog_1_method_51_code
def yX10_doBlockClause : MethodName := ⟨RX10, "doBlockClause", "(II)Z"⟩
abbrev cX10_tapeAt : ByteArray := prog_1_method_52_code
def yX10_tapeAt : MethodName := ⟨RX10, "tapeAt", "(I)LOrbitDesigns$Tape;"⟩
abbrev cX10_modulo : ByteArray := prog_1_method_53_code
def yX10_modulo : MethodName := ⟨RX10, "modulo", "(II)I"⟩
def RX11 : String := "OrbitDesignsModel"
def TX11 : u_T := fun k => match k with
  | 0 => ("OrbitDesignsModel", "g", "[I", true)
  | 1 => ("OrbitDesignsModel", "image", "[I", true)
  | 2 => ("OrbitDesignsModel", "is", "[[Z", true)
  | 3 => ("OrbitDesignsModel", "was", "[[Z", true)
  | 4 => ("OrbitDesignsModel", "hasImage", "Z", false)
  | 5 => ("OrbitDesignsModel", "told", "[I", true)
  | 6 => ("OrbitDesignsModel", "group", "[I", true)
  | 7 => ("OrbitDesignsModel", "number", "[I", true)
  | 8 => ("OrbitDesignsModel", "orbits", "[I", true)
  | 9 => ("OrbitDesignsModel", "waiting", "[I", true)
  | 10 => ("OrbitDesignsModel", "meet", "[[I", true)
  | 11 => ("OrbitDesignsModel", "sizes", "[I", true)
  | 12 => ("OrbitDesignsModel", "some", "[Z", true)
  | 13 => ("OrbitDesignsModel", "line", "[I", true)
  | 14 => ("OrbitDesignsModel", "solutions", "[[Z", true)
  | 15 => ("OrbitDesignsModel", "text", "[I", true)
  | 16 => ("OrbitDesignsModel", "signs", "I", false)
  | 17 => ("OrbitDesignsModel", "at", "I", false)
  | 18 => ("OrbitDesignsModel", "digits", "I", false)
  | 19 => ("OrbitDesignsModel", "value", "I", false)
  | 20 => ("OrbitDesignsModel", "told8", "I", false)
  | 21 => ("OrbitDesignsModel", "sorts", "[I", true)
  | 22 => ("OrbitDesignsModel", "lengths", "[I", true)
  | 23 => ("OrbitDesignsModel", "items", "[[J", true)
  | _ => ("OrbitDesignsModel", "between", "[J", true)
def tyX11 : Nat → FieldType := fun k => match k with
  | 0 => .array .int
  | 1 => .array .int
  | 2 => .array (.array .boolean)
  | 3 => .array (.array .boolean)
  | 4 => .boolean
  | 5 => .array .int
  | 6 => .array .int
  | 7 => .array .int
  | 8 => .array .int
  | 9 => .array .int
  | 10 => .array (.array .int)
  | 11 => .array .int
  | 12 => .array .boolean
  | 13 => .array .int
  | 14 => .array (.array .boolean)
  | 15 => .array .int
  | 16 => .int
  | 17 => .int
  | 18 => .int
  | 19 => .int
  | 20 => .int
  | 21 => .array .int
  | 22 => .array .int
  | 23 => .array (.array .long)
  | _ => .array .long
abbrev wsX110 : List Cond := u_ws RX11 TX11 25
theorem nmX11 : ∀ a, a < 25 → ∀ b, b < 25 → a ≠ b → (TX11 a).2.1 ≠ (TX11 b).2.1 := by decide +kernel
theorem tyX11_ok : ∀ k, k < 25 → parseFieldDescriptor (TX11 k).2.2.1 = some (tyX11 k) := by decide +kernel
abbrev cX11_init : ByteArray := prog_13_method_1_code
def yX11_init : MethodName := ⟨RX11, "<init>", "()V"⟩
abbrev cX11_in : ByteArray := prog_13_method_2_code
def yX11_in : MethodName := ⟨RX11, "in", "(JJJ)Z"⟩
abbrev cX11_starts : ByteArray := prog_13_method_3_code
def yX11_starts : MethodName := ⟨RX11, "starts", "(I)V"⟩
abbrev cX11_size : ByteArray := prog_13_method_4_code
def yX11_size : MethodName := ⟨RX11, "size", "(I)I"⟩
abbrev cX11_whole : ByteArray := prog_13_method_5_code
def yX11_whole : MethodName := ⟨RX11, "whole", "()I"⟩
abbrev cX11_isSet : ByteArray := prog_13_method_6_code
def yX11_isSet : MethodName := ⟨RX11, "isSet", "(I)Z"⟩
abbrev cX11_isPoint : ByteArray := prog_13_method_7_code
def yX11_isPoint : MethodName := ⟨RX11, "isPoint", "(I)Z"⟩
abbrev cX11_isWay : ByteArray := prog_13_method_8_code
def yX11_isWay : MethodName := ⟨RX11, "isWay", "(I)Z"⟩
abbrev cX11_points : ByteArray := prog_13_method_9_code
def yX11_points : MethodName := ⟨RX11, "points", "(I)I"⟩
abbrev cX11_common : ByteArray := prog_13_method_10_code
def yX11_common : MethodName := ⟨RX11, "common", "(II)I"⟩
abbrev cX11_goes : ByteArray := prog_13_method_11_code
def yX11_goes : MethodName := ⟨RX11, "goes", "(III)I"⟩
abbrev cX11_way : ByteArray := prog_13_method_12_code
def yX11_way : MethodName := ⟨RX11, "way", "(II)I"⟩
abbrev cX11_hand : ByteArray := prog_13_method_13_code
def yX11_hand : MethodName := ⟨RX11, "hand", "(I)I"⟩
abbrev cX11_drop : ByteArray := prog_13_method_14_code
def yX11_drop : MethodName := ⟨RX11, "drop", "(I)I"⟩
abbrev cX11_to : ByteArray := prog_13_method_15_code
def yX11_to : MethodName := ⟨RX11, "to", "(II)I"⟩
abbrev cX11_moved : ByteArray := prog_13_method_16_code
def yX11_moved : MethodName := ⟨RX11, "moved", "(II)I"⟩
abbrev cX11_timesOf : ByteArray := prog_13_method_17_code
def yX11_timesOf : MethodName := ⟨RX11, "timesOf", "(I)I"⟩
abbrev cX11_holds : ByteArray := prog_13_method_18_code
def yX11_holds : MethodName := ⟨RX11, "holds", "(I)Z"⟩
abbrev cX11_wayOf : ByteArray := prog_13_method_19_code
def yX11_wayOf : MethodName := ⟨RX11, "wayOf", "(II)I"⟩
abbrev cX11_takes : ByteArray := prog_13_method_20_code
def yX11_takes : MethodName := ⟨RX11, "takes", "(II)I"⟩
abbrev cX11_moves : ByteArray := prog_13_method_21_code
def yX11_moves : MethodName := ⟨RX11, "moves", "(II)I"⟩
abbrev cX11_order : ByteArray := prog_13_method_22_code
def yX11_order : MethodName := ⟨RX11, "order", "()I"⟩
abbrev cX11_finds : ByteArray := prog_13_method_23_code
def yX11_finds : MethodName := ⟨RX11, "finds", "()V"⟩
abbrev cX11_isSize : ByteArray := prog_13_method_24_code
def yX11_isSize : MethodName := ⟨RX11, "isSize", "(I)Z"⟩
abbrev cX11_orbits : ByteArray := prog_13_method_25_code
def yX11_orbits : MethodName := ⟨RX11, "orbits", "(I)I"⟩
abbrev cX11_isIn : ByteArray := prog_13_method_26_code
def yX11_isIn : MethodName := ⟨RX11, "isIn", "(III)Z"⟩
abbrev cX11_least : ByteArray := prog_13_method_27_code
def yX11_least : MethodName := ⟨RX11, "least", "(II)I"⟩
abbrev cX11_orbit : ByteArray := prog_13_method_28_code
def yX11_orbit : MethodName := ⟨RX11, "orbit", "(III)I"⟩
abbrev cX11_member : ByteArray := prog_13_method_29_code
def yX11_member : MethodName := ⟨RX11, "member", "(III)I"⟩
abbrev cX11_orbitOf : ByteArray := prog_13_method_30_code
def yX11_orbitOf : MethodName := ⟨RX11, "orbitOf", "(I)I"⟩
abbrev cX11_areSizes : ByteArray := prog_13_method_31_code
def yX11_areSizes : MethodName := ⟨RX11, "areSizes", "(II)Z"⟩
abbrev cX11_tables : ByteArray := prog_13_method_32_code
def yX11_tables : MethodName := ⟨RX11, "tables", "(II)V"⟩
abbrev cX11_table : ByteArray := prog_13_method_33_code
def yX11_table : MethodName := ⟨RX11, "table", "(IIII)I"⟩
abbrev cX11_sum : ByteArray := prog_13_method_34_code
def yX11_sum : MethodName := ⟨RX11, "sum", "(III)I"⟩
abbrev cX11_solves : ByteArray := prog_13_method_35_code
def yX11_solves : MethodName := ⟨RX11, "solves", "(IIII)Z"⟩
abbrev cX11_nth : ByteArray := prog_13_method_36_code
def yX11_nth : MethodName := ⟨RX11, "nth", "(IIII)I"⟩
abbrev cX11_solved : ByteArray := prog_13_method_37_code
def yX11_solved : MethodName := ⟨RX11, "solved", "(IIII)I"⟩
abbrev cX11_solution : ByteArray := prog_13_method_38_code
def yX11_solution : MethodName := ⟨RX11, "solution", "(IIII)I"⟩
abbrev cX11_covers : ByteArray := prog_13_method_39_code
def yX11_covers : MethodName := ⟨RX11, "covers", "(III)Z"⟩
abbrev cX11_cover : ByteArray := prog_13_method_40_code
def yX11_cover : MethodName := ⟨RX11, "cover", "(III)I"⟩
abbrev cX11_many : ByteArray := prog_13_method_41_code
def yX11_many : MethodName := ⟨RX11, "many", "([Z)I"⟩
abbrev cX11_choose : ByteArray := prog_13_method_42_code
def yX11_choose : MethodName := ⟨RX11, "choose", "(II)I"⟩
abbrev cX11_block : ByteArray := prog_13_method_43_code
def yX11_block : MethodName := ⟨RX11, "block", "(I)I"⟩
abbrev cX11_blockOf : ByteArray := prog_13_method_44_code
def yX11_blockOf : MethodName := ⟨RX11, "blockOf", "(I)I"⟩
abbrev cX11_shareOf : ByteArray := prog_13_method_45_code
def yX11_shareOf : MethodName := ⟨RX11, "shareOf", "([ZII)I"⟩
abbrev cX11_strengthOf : ByteArray := prog_13_method_46_code
def yX11_strengthOf : MethodName := ⟨RX11, "strengthOf", "([ZII)I"⟩
abbrev cX11_blocks : ByteArray := prog_13_method_47_code
def yX11_blocks : MethodName := ⟨RX11, "blocks", "(I)I"⟩
abbrev cX11_share : ByteArray := prog_13_method_48_code
def yX11_share : MethodName := ⟨RX11, "share", "(I)I"⟩
abbrev cX11_meets : ByteArray := prog_13_method_49_code
def yX11_meets : MethodName := ⟨RX11, "meets", "(II)I"⟩
abbrev cX11_turned : ByteArray := prog_13_method_50_code
def yX11_turned : MethodName := ⟨RX11, "turned", "()I"⟩
abbrev cX11_parted : ByteArray := prog_13_method_51_code
def yX11_parted : MethodName := ⟨RX11, "parted", "(II)I"⟩
abbrev cX11_keep : ByteArray := prog_13_method_52_code
def yX11_keep : MethodName := ⟨RX11, "keep", "()I"⟩
abbrev cX11_isDesign : ByteArray := prog_13_method_53_code
def yX11_isDesign : MethodName := ⟨RX11, "isDesign", "(I)Z"⟩
abbrev cX11_design : ByteArray := prog_13_method_54_code
def yX11_design : MethodName := ⟨RX11, "design", "(II)I"⟩
abbrev cX11_lined : ByteArray := prog_13_method_55_code
def yX11_lined : MethodName := ⟨RX11, "lined", "(I)I"⟩
abbrev cX11_waysFrom : ByteArray := prog_13_method_56_code
def yX11_waysFrom : MethodName := ⟨RX11, "waysFrom", "([Z[ZIIZ)I"⟩
abbrev cX11_areAlike : ByteArray := prog_13_method_57_code
def yX11_areAlike : MethodName := ⟨RX11, "areAlike", "([Z[Z)Z"⟩
abbrev cX11_alike : ByteArray := prog_13_method_58_code
def yX11_alike : MethodName := ⟨RX11, "alike", "(II)I"⟩
abbrev cX11_selves : ByteArray := prog_13_method_59_code
def yX11_selves : MethodName := ⟨RX11, "selves", "(I)I"⟩
abbrev cX11_unlike : ByteArray := prog_13_method_60_code
def yX11_unlike : MethodName := ⟨RX11, "unlike", "(III)I"⟩
abbrev cX11_lots : ByteArray := prog_13_method_61_code
def yX11_lots : MethodName := ⟨RX11, "lots", "(IIII)I"⟩
abbrev cX11_feed : ByteArray := prog_13_method_62_code
def yX11_feed : MethodName := ⟨RX11, "feed", "(I)I"⟩
abbrev cX11_here : ByteArray := prog_13_method_63_code
def yX11_here : MethodName := ⟨RX11, "here", "()I"⟩
abbrev cX11_hasClause : ByteArray := prog_13_method_64_code
def yX11_hasClause : MethodName := ⟨RX11, "hasClause", "()Z"⟩
abbrev cX11_isDone : ByteArray := prog_13_method_65_code
def yX11_isDone : MethodName := ⟨RX11, "isDone", "(I)Z"⟩
abbrev cX11_read : ByteArray := prog_13_method_66_code
def yX11_read : MethodName := ⟨RX11, "read", "()I"⟩
abbrev cX11_isTape : ByteArray := prog_13_method_67_code
def yX11_isTape : MethodName := ⟨RX11, "isTape", "(I)Z"⟩
abbrev cX11_judge : ByteArray := prog_13_method_68_code
def yX11_judge : MethodName := ⟨RX11, "judge", "(II)I"⟩
abbrev cX11_tape : ByteArray := prog_13_method_69_code
def yX11_tape : MethodName := ⟨RX11, "tape", "(III)I"⟩
abbrev cX11_item : ByteArray := prog_13_method_70_code
def yX11_item : MethodName := ⟨RX11, "item", "(IIJ)I"⟩
abbrev cX11_peek : ByteArray := prog_13_method_71_code
def yX11_peek : MethodName := ⟨RX11, "peek", "(II)J"⟩
abbrev cX11_shift : ByteArray := prog_13_method_72_code
def yX11_shift : MethodName := ⟨RX11, "shift", "(IIIII)I"⟩
abbrev cX11_copies : ByteArray := prog_13_method_73_code
def yX11_copies : MethodName := ⟨RX11, "copies", "([I[I[[Z[[Z)V"⟩
abbrev cX11_image : ByteArray := prog_13_method_74_code
def yX11_image : MethodName := ⟨RX11, "image", "()I"⟩
abbrev cX11_undo : ByteArray := prog_13_method_75_code
def yX11_undo : MethodName := ⟨RX11, "undo", "()I"⟩
abbrev cX11_count : ByteArray := prog_13_method_76_code
def yX11_count : MethodName := ⟨RX11, "count", "(I)I"⟩
def RJ6 : String := "java/lang/Integer"
abbrev cJ6_bitCount_0f7a4 : ByteArray := prog_14_method_49_code
def yJ6_bitCount_0f7a4 : MethodName := ⟨RJ6, "bitCount", "(I)I"⟩
def RJ9 : String := "java/lang/Math"
abbrev cJ9_max_7cf53 : ByteArray := prog_15_method_65_code
def yJ9_max_7cf53 : MethodName := ⟨RJ9, "max", "(II)I"⟩
abbrev cJ9_min_7cf53 : ByteArray := prog_15_method_69_code
def yJ9_min_7cf53 : MethodName := ⟨RJ9, "min", "(II)I"⟩
def RJ10 : String := "java/lang/System"
def RJ7 : String := "java/util/Arrays"
abbrev cJ7_fill_d0a16 : ByteArray := prog_17_method_101_code
def yJ7_fill_d0a16 : MethodName := ⟨RJ7, "fill", "([JJ)V"⟩
abbrev cJ7_fill_53178 : ByteArray := prog_17_method_103_code
def yJ7_fill_53178 : MethodName := ⟨RJ7, "fill", "([II)V"⟩
def RL : String := "OrbitDesignsLaw"
abbrev cL_law : ByteArray := code
def yL_law : MethodName := ⟨RL, "law", "([I)Z"⟩
abbrev vwCl : List vw_C := [(RX0, TX0, 3), (RX1, TX1, 12), (RX2, TX2, 3), (RX3, TX3, 5), (RX4, TX4, 1), (RX5, TX5, 3), (RX6, TX6, 6), (RX7, TX7, 3), (RX8, TX8, 2), (RX9, TX9, 3), (RX10, TX10, 12), (RX11, TX11, 25)]
